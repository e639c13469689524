theorem w_0 : (Jvm.Cond.initialized "PenStrikeLaw") ∈ lw_all := in_all (List.mem_of_getElem? (i := 53) (by decide +kernel)) rfl
theorem w_1 : (Jvm.Cond.initialized "PenStrike") ∈ lw_all := in_all (List.mem_of_getElem? (i := 54) (by decide +kernel)) rfl
theorem w_2 : (Jvm.Cond.initialized "PenStrike$Plotter") ∈ lw_all := in_all (List.mem_of_getElem? (i := 55) (by decide +kernel)) rfl
theorem w_3 : (Jvm.Cond.initialized "PenStrike$Pens") ∈ lw_all := in_all (List.mem_of_getElem? (i := 56) (by decide +kernel)) rfl
theorem w_4 : (Jvm.Cond.initialized "PenStrike$Lines") ∈ lw_all := in_all (List.mem_of_getElem? (i := 57) (by decide +kernel)) rfl
theorem w_5 : (Jvm.Cond.initialized "PenStrike$History") ∈ lw_all := in_all (List.mem_of_getElem? (i := 58) (by decide +kernel)) rfl
theorem w_6 : (Jvm.Cond.initialized "PenStrike$Orders") ∈ lw_all := in_all (List.mem_of_getElem? (i := 59) (by decide +kernel)) rfl
theorem w_7 : (Jvm.Cond.initialized "PenStrike$FairPlan") ∈ lw_all := in_all (List.mem_of_getElem? (i := 60) (by decide +kernel)) rfl
theorem w_8 : (Jvm.Cond.initialized "PenStrike$Route") ∈ lw_all := in_all (List.mem_of_getElem? (i := 61) (by decide +kernel)) rfl
theorem w_9 : (Jvm.Cond.initialized "PenStrikeModel") ∈ lw_all := in_all (List.mem_of_getElem? (i := 62) (by decide +kernel)) rfl
theorem w_10 : (Jvm.Cond.initialized "java/lang/Math") ∈ lw_all := in_all (List.mem_of_getElem? (i := 63) (by decide +kernel)) rfl
theorem w_11 : (Jvm.Cond.initialized "java/lang/System") ∈ lw_all := in_all (List.mem_of_getElem? (i := 64) (by decide +kernel)) rfl
theorem w_12 : (Jvm.Cond.initialized "java/lang/Float") ∈ lw_all := in_all (List.mem_of_getElem? (i := 65) (by decide +kernel)) rfl
theorem w_13 : (Jvm.Cond.classLink "PenStrikeLaw" (7 : Nat) "PenStrike") ∈ lw_all := in_all (List.mem_of_getElem? (i := 66) (by decide +kernel)) rfl
theorem w_14 : (Jvm.Cond.instantiable "PenStrike" (6 : Nat)) ∈ lw_all := in_all (List.mem_of_getElem? (i := 67) (by decide +kernel)) rfl
theorem w_15 : (Jvm.Cond.methodLink "PenStrikeLaw" (9 : Nat) yX7_init) ∈ lw_all := in_all (List.mem_of_getElem? (i := 68) (by decide +kernel)) rfl
theorem w_16 : (Jvm.Cond.instanceMethod yX7_init) ∈ lw_all := in_all (List.mem_of_getElem? (i := 69) (by decide +kernel)) rfl
theorem w_17 : (Jvm.Cond.code yX7_init prog_1_method_1_code (1 : Nat) (Option.none : Option Jvm.ClassFile.FieldType)) ∈ lw_all := in_all (List.mem_of_getElem? (i := 70) (by decide +kernel)) rfl
theorem w_18 : (Jvm.Cond.methodLink "PenStrike" (1 : Nat) ⟨"java/lang/Object", "<init>", "()V"⟩) ∈ lw_all := in_all (List.mem_of_getElem? (i := 71) (by decide +kernel)) rfl
theorem w_19 : (Jvm.Cond.instanceMethod ⟨"java/lang/Object", "<init>", "()V"⟩) ∈ lw_all := in_all (List.mem_of_getElem? (i := 72) (by decide +kernel)) rfl
theorem w_20 : (Jvm.Cond.code ⟨"java/lang/Object", "<init>", "()V"⟩ object_method_1_code (1 : Nat) (Option.none : Option Jvm.ClassFile.FieldType)) ∈ lw_all := in_all (List.mem_of_getElem? (i := 73) (by decide +kernel)) rfl
theorem w_21 : (Jvm.Cond.classLink "PenStrike" (7 : Nat) "PenStrike$Plotter") ∈ lw_all := in_all (List.mem_of_getElem? (i := 74) (by decide +kernel)) rfl
theorem w_22 : (Jvm.Cond.instantiable "PenStrike$Plotter" (9 : Nat)) ∈ lw_all := in_all (List.mem_of_getElem? (i := 75) (by decide +kernel)) rfl
theorem w_23 : (Jvm.Cond.methodLinkNest "PenStrike" (9 : Nat) yX5_init "PenStrike") ∈ nwl := in_nwl (List.mem_of_getElem? (i := 76) (by decide +kernel)) rfl
theorem w_24 : (Jvm.Cond.instanceMethod yX5_init) ∈ lw_all := in_all (List.mem_of_getElem? (i := 77) (by decide +kernel)) rfl
theorem w_25 : (Jvm.Cond.code yX5_init prog_7_method_1_code (1 : Nat) (Option.none : Option Jvm.ClassFile.FieldType)) ∈ lw_all := in_all (List.mem_of_getElem? (i := 78) (by decide +kernel)) rfl
theorem w_26 : (Jvm.Cond.methodLink "PenStrike$Plotter" (3 : Nat) ⟨"java/lang/Object", "<init>", "()V"⟩) ∈ lw_all := in_all (List.mem_of_getElem? (i := 79) (by decide +kernel)) rfl
theorem w_27 : (Jvm.Cond.fieldLinkNest "PenStrike$Plotter" (9 : Nat) "PenStrike" "FIRST_VALUES" "[I" "PenStrike") ∈ nwl := in_nwl (List.mem_of_getElem? (i := 80) (by decide +kernel)) rfl
theorem w_29 : (Jvm.Cond.methodLink "PenStrike$Plotter" (13 : Nat) ⟨"[I", "clone", "()Ljava/lang/Object;"⟩) ∈ lw_all := in_all (List.mem_of_getElem? (i := 82) (by decide +kernel)) rfl
theorem w_30 : (Jvm.Cond.sameMethod "[I" "java/lang/Object" "clone" "()Ljava/lang/Object;") ∈ lw_all := in_all (List.mem_of_getElem? (i := 83) (by decide +kernel)) rfl
theorem w_31 : (Jvm.Cond.native ⟨"java/lang/Object", "clone", "()Ljava/lang/Object;"⟩) ∈ lw_all := in_all (List.mem_of_getElem? (i := 84) (by decide +kernel)) rfl
theorem w_32 : (Jvm.Cond.instanceMethod ⟨"java/lang/Object", "clone", "()Ljava/lang/Object;"⟩) ∈ lw_all := in_all (List.mem_of_getElem? (i := 85) (by decide +kernel)) rfl
theorem w_33 : (Jvm.Cond.selects "[I" ⟨"[I", "clone", "()Ljava/lang/Object;"⟩ ⟨"java/lang/Object", "clone", "()Ljava/lang/Object;"⟩) ∈ lw_all := in_all (List.mem_of_getElem? (i := 86) (by decide +kernel)) rfl
theorem w_34 : (Jvm.Cond.castable "[I" "java/lang/Cloneable") ∈ nwl := in_nwl (List.mem_of_getElem? (i := 87) (by decide +kernel)) rfl
theorem w_35 : (Jvm.Cond.classLink "PenStrike$Plotter" (14 : Nat) "[I") ∈ lw_all := in_all (List.mem_of_getElem? (i := 88) (by decide +kernel)) rfl
theorem w_36 : (Jvm.Cond.classLink "PenStrike$Plotter" (23 : Nat) "PenStrike$Pens") ∈ lw_all := in_all (List.mem_of_getElem? (i := 89) (by decide +kernel)) rfl
theorem w_37 : (Jvm.Cond.instantiable "PenStrike$Pens" (8 : Nat)) ∈ lw_all := in_all (List.mem_of_getElem? (i := 90) (by decide +kernel)) rfl
theorem w_38 : (Jvm.Cond.methodLinkNest "PenStrike$Plotter" (25 : Nat) yX4_init "PenStrike") ∈ nwl := in_nwl (List.mem_of_getElem? (i := 91) (by decide +kernel)) rfl
theorem w_39 : (Jvm.Cond.instanceMethod yX4_init) ∈ lw_all := in_all (List.mem_of_getElem? (i := 92) (by decide +kernel)) rfl
theorem w_40 : (Jvm.Cond.code yX4_init prog_6_method_1_code (1 : Nat) (Option.none : Option Jvm.ClassFile.FieldType)) ∈ lw_all := in_all (List.mem_of_getElem? (i := 93) (by decide +kernel)) rfl
theorem w_41 : (Jvm.Cond.methodLink "PenStrike$Pens" (3 : Nat) ⟨"java/lang/Object", "<init>", "()V"⟩) ∈ lw_all := in_all (List.mem_of_getElem? (i := 94) (by decide +kernel)) rfl
theorem w_42 : (Jvm.Cond.fieldLink "PenStrike$Pens" (9 : Nat) "PenStrike$Pens" "many" "I") ∈ lw_all := in_all (List.mem_of_getElem? (i := 95) (by decide +kernel)) rfl
theorem w_43 : (Jvm.Cond.fieldLink "PenStrike" (81 : Nat) "PenStrike$Pens" "many" "I") ∈ lw_all := in_all (List.mem_of_getElem? (i := 96) (by decide +kernel)) rfl
theorem w_44 : (Jvm.Cond.fieldLink "PenStrike$FairPlan" (48 : Nat) "PenStrike$Pens" "many" "I") ∈ lw_all := in_all (List.mem_of_getElem? (i := 97) (by decide +kernel)) rfl
theorem w_45 : (Jvm.Cond.fieldLink "PenStrike$Pens" (15 : Nat) "PenStrike$Pens" "kind" "[I") ∈ lw_all := in_all (List.mem_of_getElem? (i := 98) (by decide +kernel)) rfl
theorem w_46 : (Jvm.Cond.fieldLink "PenStrike" (122 : Nat) "PenStrike$Pens" "kind" "[I") ∈ lw_all := in_all (List.mem_of_getElem? (i := 99) (by decide +kernel)) rfl
theorem w_47 : (Jvm.Cond.fieldLink "PenStrike$Plotter" (109 : Nat) "PenStrike$Pens" "kind" "[I") ∈ lw_all := in_all (List.mem_of_getElem? (i := 100) (by decide +kernel)) rfl
theorem w_48 : (Jvm.Cond.fieldLink "PenStrike$Pens" (19 : Nat) "PenStrike$Pens" "capacity" "[I") ∈ lw_all := in_all (List.mem_of_getElem? (i := 101) (by decide +kernel)) rfl
theorem w_49 : (Jvm.Cond.fieldLink "PenStrike" (116 : Nat) "PenStrike$Pens" "capacity" "[I") ∈ lw_all := in_all (List.mem_of_getElem? (i := 102) (by decide +kernel)) rfl
theorem w_50 : (Jvm.Cond.fieldLink "PenStrike$Plotter" (103 : Nat) "PenStrike$Pens" "capacity" "[I") ∈ lw_all := in_all (List.mem_of_getElem? (i := 103) (by decide +kernel)) rfl
theorem w_51 : (Jvm.Cond.fieldLink "PenStrike$Pens" (22 : Nat) "PenStrike$Pens" "place" "[I") ∈ lw_all := in_all (List.mem_of_getElem? (i := 104) (by decide +kernel)) rfl
theorem w_52 : (Jvm.Cond.fieldLink "PenStrike" (131 : Nat) "PenStrike$Pens" "place" "[I") ∈ lw_all := in_all (List.mem_of_getElem? (i := 105) (by decide +kernel)) rfl
theorem w_53 : (Jvm.Cond.fieldLink "PenStrike$Pens" (25 : Nat) "PenStrike$Pens" "ink" "[I") ∈ lw_all := in_all (List.mem_of_getElem? (i := 106) (by decide +kernel)) rfl
theorem w_54 : (Jvm.Cond.fieldLink "PenStrike" (119 : Nat) "PenStrike$Pens" "ink" "[I") ∈ lw_all := in_all (List.mem_of_getElem? (i := 107) (by decide +kernel)) rfl
theorem w_55 : (Jvm.Cond.fieldLink "PenStrike$Plotter" (138 : Nat) "PenStrike$Pens" "ink" "[I") ∈ lw_all := in_all (List.mem_of_getElem? (i := 108) (by decide +kernel)) rfl
theorem w_56 : (Jvm.Cond.fieldLink "PenStrike$Pens" (28 : Nat) "PenStrike$Pens" "drawn" "[I") ∈ lw_all := in_all (List.mem_of_getElem? (i := 109) (by decide +kernel)) rfl
theorem w_57 : (Jvm.Cond.fieldLink "PenStrike$FairPlan" (18 : Nat) "PenStrike$Pens" "drawn" "[I") ∈ lw_all := in_all (List.mem_of_getElem? (i := 110) (by decide +kernel)) rfl
theorem w_58 : (Jvm.Cond.fieldLink "PenStrike$Plotter" (71 : Nat) "PenStrike$Pens" "drawn" "[I") ∈ lw_all := in_all (List.mem_of_getElem? (i := 111) (by decide +kernel)) rfl
theorem w_59 : (Jvm.Cond.fieldLink "PenStrike" (125 : Nat) "PenStrike$Pens" "drawn" "[I") ∈ lw_all := in_all (List.mem_of_getElem? (i := 112) (by decide +kernel)) rfl
theorem w_60 : (Jvm.Cond.fieldLink "PenStrike$Pens" (31 : Nat) "PenStrike$Pens" "idle" "[I") ∈ lw_all := in_all (List.mem_of_getElem? (i := 113) (by decide +kernel)) rfl
theorem w_61 : (Jvm.Cond.fieldLink "PenStrike$Plotter" (78 : Nat) "PenStrike$Pens" "idle" "[I") ∈ lw_all := in_all (List.mem_of_getElem? (i := 114) (by decide +kernel)) rfl
theorem w_62 : (Jvm.Cond.fieldLink "PenStrike" (128 : Nat) "PenStrike$Pens" "idle" "[I") ∈ lw_all := in_all (List.mem_of_getElem? (i := 115) (by decide +kernel)) rfl
theorem w_63 : (Jvm.Cond.fieldLink "PenStrike$Pens" (34 : Nat) "PenStrike$Pens" "away" "[I") ∈ lw_all := in_all (List.mem_of_getElem? (i := 116) (by decide +kernel)) rfl
theorem w_64 : (Jvm.Cond.fieldLink "PenStrike" (106 : Nat) "PenStrike$Pens" "away" "[I") ∈ lw_all := in_all (List.mem_of_getElem? (i := 117) (by decide +kernel)) rfl
theorem w_82 : (Jvm.Cond.arrayClass Jvm.ClassFile.FieldType.int) ∈ lw_all := in_all (List.mem_of_getElem? (i := 135) (by decide +kernel)) rfl
theorem w_83 : (Jvm.Cond.classLink "PenStrike$Plotter" (30 : Nat) "PenStrike$Lines") ∈ lw_all := in_all (List.mem_of_getElem? (i := 136) (by decide +kernel)) rfl
theorem w_84 : (Jvm.Cond.instantiable "PenStrike$Lines" (11 : Nat)) ∈ lw_all := in_all (List.mem_of_getElem? (i := 137) (by decide +kernel)) rfl
theorem w_85 : (Jvm.Cond.methodLinkNest "PenStrike$Plotter" (32 : Nat) yX2_init "PenStrike") ∈ nwl := in_nwl (List.mem_of_getElem? (i := 138) (by decide +kernel)) rfl
theorem w_86 : (Jvm.Cond.instanceMethod yX2_init) ∈ lw_all := in_all (List.mem_of_getElem? (i := 139) (by decide +kernel)) rfl
theorem w_87 : (Jvm.Cond.code yX2_init prog_4_method_1_code (1 : Nat) (Option.none : Option Jvm.ClassFile.FieldType)) ∈ lw_all := in_all (List.mem_of_getElem? (i := 140) (by decide +kernel)) rfl
theorem w_88 : (Jvm.Cond.methodLink "PenStrike$Lines" (3 : Nat) ⟨"java/lang/Object", "<init>", "()V"⟩) ∈ lw_all := in_all (List.mem_of_getElem? (i := 141) (by decide +kernel)) rfl
theorem w_89 : (Jvm.Cond.fieldLink "PenStrike$Lines" (9 : Nat) "PenStrike$Lines" "many" "I") ∈ lw_all := in_all (List.mem_of_getElem? (i := 142) (by decide +kernel)) rfl
theorem w_90 : (Jvm.Cond.fieldLink "PenStrike$FairPlan" (27 : Nat) "PenStrike$Lines" "many" "I") ∈ lw_all := in_all (List.mem_of_getElem? (i := 143) (by decide +kernel)) rfl
theorem w_91 : (Jvm.Cond.fieldLink "PenStrike$Route" (43 : Nat) "PenStrike$Lines" "many" "I") ∈ lw_all := in_all (List.mem_of_getElem? (i := 144) (by decide +kernel)) rfl
theorem w_92 : (Jvm.Cond.fieldLink "PenStrike" (97 : Nat) "PenStrike$Lines" "many" "I") ∈ lw_all := in_all (List.mem_of_getElem? (i := 145) (by decide +kernel)) rfl
theorem w_93 : (Jvm.Cond.fieldLink "PenStrike$Plotter" (87 : Nat) "PenStrike$Lines" "many" "I") ∈ lw_all := in_all (List.mem_of_getElem? (i := 146) (by decide +kernel)) rfl
theorem w_94 : (Jvm.Cond.fieldLink "PenStrike$Lines" (15 : Nat) "PenStrike$Lines" "x" "[I") ∈ lw_all := in_all (List.mem_of_getElem? (i := 147) (by decide +kernel)) rfl
theorem w_95 : (Jvm.Cond.fieldLink "PenStrike" (153 : Nat) "PenStrike$Lines" "x" "[I") ∈ lw_all := in_all (List.mem_of_getElem? (i := 148) (by decide +kernel)) rfl
theorem w_96 : (Jvm.Cond.fieldLink "PenStrike$Lines" (19 : Nat) "PenStrike$Lines" "y" "[I") ∈ lw_all := in_all (List.mem_of_getElem? (i := 149) (by decide +kernel)) rfl
theorem w_97 : (Jvm.Cond.fieldLink "PenStrike" (156 : Nat) "PenStrike$Lines" "y" "[I") ∈ lw_all := in_all (List.mem_of_getElem? (i := 150) (by decide +kernel)) rfl
theorem w_98 : (Jvm.Cond.fieldLink "PenStrike$Lines" (22 : Nat) "PenStrike$Lines" "x2" "[I") ∈ lw_all := in_all (List.mem_of_getElem? (i := 151) (by decide +kernel)) rfl
theorem w_99 : (Jvm.Cond.fieldLink "PenStrike" (159 : Nat) "PenStrike$Lines" "x2" "[I") ∈ lw_all := in_all (List.mem_of_getElem? (i := 152) (by decide +kernel)) rfl
theorem w_100 : (Jvm.Cond.fieldLink "PenStrike$Lines" (25 : Nat) "PenStrike$Lines" "y2" "[I") ∈ lw_all := in_all (List.mem_of_getElem? (i := 153) (by decide +kernel)) rfl
theorem w_101 : (Jvm.Cond.fieldLink "PenStrike" (162 : Nat) "PenStrike$Lines" "y2" "[I") ∈ lw_all := in_all (List.mem_of_getElem? (i := 154) (by decide +kernel)) rfl
theorem w_102 : (Jvm.Cond.fieldLink "PenStrike$Lines" (28 : Nat) "PenStrike$Lines" "length" "[I") ∈ lw_all := in_all (List.mem_of_getElem? (i := 155) (by decide +kernel)) rfl
theorem w_103 : (Jvm.Cond.fieldLink "PenStrike$FairPlan" (41 : Nat) "PenStrike$Lines" "length" "[I") ∈ lw_all := in_all (List.mem_of_getElem? (i := 156) (by decide +kernel)) rfl
theorem w_104 : (Jvm.Cond.fieldLink "PenStrike$Route" (82 : Nat) "PenStrike$Lines" "length" "[I") ∈ lw_all := in_all (List.mem_of_getElem? (i := 157) (by decide +kernel)) rfl
theorem w_105 : (Jvm.Cond.fieldLink "PenStrike$Plotter" (112 : Nat) "PenStrike$Lines" "length" "[I") ∈ lw_all := in_all (List.mem_of_getElem? (i := 158) (by decide +kernel)) rfl
theorem w_106 : (Jvm.Cond.fieldLink "PenStrike" (165 : Nat) "PenStrike$Lines" "length" "[I") ∈ lw_all := in_all (List.mem_of_getElem? (i := 159) (by decide +kernel)) rfl
theorem w_107 : (Jvm.Cond.fieldLink "PenStrike$Lines" (31 : Nat) "PenStrike$Lines" "touchingSet" "[I") ∈ lw_all := in_all (List.mem_of_getElem? (i := 160) (by decide +kernel)) rfl
theorem w_108 : (Jvm.Cond.fieldLink "PenStrike" (242 : Nat) "PenStrike$Lines" "touchingSet" "[I") ∈ lw_all := in_all (List.mem_of_getElem? (i := 161) (by decide +kernel)) rfl
theorem w_109 : (Jvm.Cond.fieldLink "PenStrike$Lines" (34 : Nat) "PenStrike$Lines" "drawnBy" "[I") ∈ lw_all := in_all (List.mem_of_getElem? (i := 162) (by decide +kernel)) rfl
theorem w_110 : (Jvm.Cond.fieldLink "PenStrike$Plotter" (97 : Nat) "PenStrike$Lines" "drawnBy" "[I") ∈ lw_all := in_all (List.mem_of_getElem? (i := 163) (by decide +kernel)) rfl
theorem w_111 : (Jvm.Cond.fieldLink "PenStrike" (168 : Nat) "PenStrike$Lines" "drawnBy" "[I") ∈ lw_all := in_all (List.mem_of_getElem? (i := 164) (by decide +kernel)) rfl
theorem w_112 : (Jvm.Cond.fieldLink "PenStrike$Lines" (37 : Nat) "PenStrike$Lines" "doneAt" "[I") ∈ lw_all := in_all (List.mem_of_getElem? (i := 165) (by decide +kernel)) rfl
theorem w_113 : (Jvm.Cond.fieldLink "PenStrike" (171 : Nat) "PenStrike$Lines" "doneAt" "[I") ∈ lw_all := in_all (List.mem_of_getElem? (i := 166) (by decide +kernel)) rfl
theorem w_114 : (Jvm.Cond.fieldLink "PenStrike$Plotter" (151 : Nat) "PenStrike$Lines" "doneAt" "[I") ∈ lw_all := in_all (List.mem_of_getElem? (i := 167) (by decide +kernel)) rfl
theorem w_115 : (Jvm.Cond.fieldLink "PenStrike$Lines" (40 : Nat) "PenStrike$Lines" "dryAt" "[I") ∈ lw_all := in_all (List.mem_of_getElem? (i := 168) (by decide +kernel)) rfl
theorem w_116 : (Jvm.Cond.fieldLink "PenStrike$Plotter" (84 : Nat) "PenStrike$Lines" "dryAt" "[I") ∈ lw_all := in_all (List.mem_of_getElem? (i := 169) (by decide +kernel)) rfl
theorem w_117 : (Jvm.Cond.fieldLink "PenStrike$Lines" (43 : Nat) "PenStrike$Lines" "inkAtBegin" "[I") ∈ lw_all := in_all (List.mem_of_getElem? (i := 170) (by decide +kernel)) rfl
theorem w_118 : (Jvm.Cond.fieldLink "PenStrike$Plotter" (106 : Nat) "PenStrike$Lines" "inkAtBegin" "[I") ∈ lw_all := in_all (List.mem_of_getElem? (i := 171) (by decide +kernel)) rfl
theorem w_142 : (Jvm.Cond.fieldLink "PenStrike$Plotter" (18 : Nat) "PenStrike$Plotter" "settings" "[I") ∈ lw_all := in_all (List.mem_of_getElem? (i := 195) (by decide +kernel)) rfl
theorem w_143 : (Jvm.Cond.fieldLink "PenStrike" (63 : Nat) "PenStrike$Plotter" "settings" "[I") ∈ lw_all := in_all (List.mem_of_getElem? (i := 196) (by decide +kernel)) rfl
theorem w_144 : (Jvm.Cond.fieldLink "PenStrike$Plotter" (26 : Nat) "PenStrike$Plotter" "pens" "LPenStrike$Pens;") ∈ lw_all := in_all (List.mem_of_getElem? (i := 197) (by decide +kernel)) rfl
theorem w_145 : (Jvm.Cond.fieldLink "PenStrike" (70 : Nat) "PenStrike$Plotter" "pens" "LPenStrike$Pens;") ∈ lw_all := in_all (List.mem_of_getElem? (i := 198) (by decide +kernel)) rfl
theorem w_146 : (Jvm.Cond.fieldLink "PenStrike$Orders" (72 : Nat) "PenStrike$Plotter" "pens" "LPenStrike$Pens;") ∈ lw_all := in_all (List.mem_of_getElem? (i := 199) (by decide +kernel)) rfl
theorem w_147 : (Jvm.Cond.fieldLink "PenStrike$Plotter" (33 : Nat) "PenStrike$Plotter" "lines" "LPenStrike$Lines;") ∈ lw_all := in_all (List.mem_of_getElem? (i := 200) (by decide +kernel)) rfl
theorem w_148 : (Jvm.Cond.fieldLink "PenStrike$Route" (39 : Nat) "PenStrike$Plotter" "lines" "LPenStrike$Lines;") ∈ lw_all := in_all (List.mem_of_getElem? (i := 201) (by decide +kernel)) rfl
theorem w_149 : (Jvm.Cond.fieldLink "PenStrike" (93 : Nat) "PenStrike$Plotter" "lines" "LPenStrike$Lines;") ∈ lw_all := in_all (List.mem_of_getElem? (i := 202) (by decide +kernel)) rfl
theorem w_150 : (Jvm.Cond.fieldLink "PenStrike$Orders" (89 : Nat) "PenStrike$Plotter" "lines" "LPenStrike$Lines;") ∈ lw_all := in_all (List.mem_of_getElem? (i := 203) (by decide +kernel)) rfl
theorem w_151 : (Jvm.Cond.fieldLink "PenStrike$Plotter" (37 : Nat) "PenStrike$Plotter" "time" "I") ∈ lw_all := in_all (List.mem_of_getElem? (i := 204) (by decide +kernel)) rfl
theorem w_152 : (Jvm.Cond.fieldLink "PenStrike" (201 : Nat) "PenStrike$Plotter" "time" "I") ∈ lw_all := in_all (List.mem_of_getElem? (i := 205) (by decide +kernel)) rfl
theorem w_153 : (Jvm.Cond.fieldLink "PenStrike$Plotter" (41 : Nat) "PenStrike$Plotter" "hand" "I") ∈ lw_all := in_all (List.mem_of_getElem? (i := 206) (by decide +kernel)) rfl
theorem w_154 : (Jvm.Cond.fieldLink "PenStrike$Route" (59 : Nat) "PenStrike$Plotter" "hand" "I") ∈ lw_all := in_all (List.mem_of_getElem? (i := 207) (by decide +kernel)) rfl
theorem w_155 : (Jvm.Cond.fieldLink "PenStrike" (109 : Nat) "PenStrike$Plotter" "hand" "I") ∈ lw_all := in_all (List.mem_of_getElem? (i := 208) (by decide +kernel)) rfl
theorem w_156 : (Jvm.Cond.fieldLink "PenStrike$Plotter" (44 : Nat) "PenStrike$Plotter" "x" "I") ∈ lw_all := in_all (List.mem_of_getElem? (i := 209) (by decide +kernel)) rfl
theorem w_157 : (Jvm.Cond.fieldLink "PenStrike$Route" (35 : Nat) "PenStrike$Plotter" "x" "I") ∈ lw_all := in_all (List.mem_of_getElem? (i := 210) (by decide +kernel)) rfl
theorem w_158 : (Jvm.Cond.fieldLink "PenStrike" (280 : Nat) "PenStrike$Plotter" "x" "I") ∈ lw_all := in_all (List.mem_of_getElem? (i := 211) (by decide +kernel)) rfl
theorem w_159 : (Jvm.Cond.fieldLink "PenStrike$Plotter" (47 : Nat) "PenStrike$Plotter" "y" "I") ∈ lw_all := in_all (List.mem_of_getElem? (i := 212) (by decide +kernel)) rfl
theorem w_160 : (Jvm.Cond.fieldLink "PenStrike$Route" (38 : Nat) "PenStrike$Plotter" "y" "I") ∈ lw_all := in_all (List.mem_of_getElem? (i := 213) (by decide +kernel)) rfl
theorem w_161 : (Jvm.Cond.fieldLink "PenStrike" (282 : Nat) "PenStrike$Plotter" "y" "I") ∈ lw_all := in_all (List.mem_of_getElem? (i := 214) (by decide +kernel)) rfl
theorem w_162 : (Jvm.Cond.fieldLink "PenStrike$Plotter" (50 : Nat) "PenStrike$Plotter" "swaps" "I") ∈ lw_all := in_all (List.mem_of_getElem? (i := 215) (by decide +kernel)) rfl
theorem w_163 : (Jvm.Cond.fieldLink "PenStrike" (287 : Nat) "PenStrike$Plotter" "swaps" "I") ∈ lw_all := in_all (List.mem_of_getElem? (i := 216) (by decide +kernel)) rfl
theorem w_164 : (Jvm.Cond.fieldLink "PenStrike$Plotter" (53 : Nat) "PenStrike$Plotter" "travelled" "I") ∈ lw_all := in_all (List.mem_of_getElem? (i := 217) (by decide +kernel)) rfl
theorem w_165 : (Jvm.Cond.fieldLink "PenStrike" (290 : Nat) "PenStrike$Plotter" "travelled" "I") ∈ lw_all := in_all (List.mem_of_getElem? (i := 218) (by decide +kernel)) rfl
theorem w_185 : (Jvm.Cond.classLink "PenStrike" (19 : Nat) "PenStrike$History") ∈ lw_all := in_all (List.mem_of_getElem? (i := 238) (by decide +kernel)) rfl
theorem w_186 : (Jvm.Cond.instantiable "PenStrike$History" (3 : Nat)) ∈ lw_all := in_all (List.mem_of_getElem? (i := 239) (by decide +kernel)) rfl
theorem w_187 : (Jvm.Cond.methodLinkNest "PenStrike" (21 : Nat) yX1_init "PenStrike") ∈ nwl := in_nwl (List.mem_of_getElem? (i := 240) (by decide +kernel)) rfl
theorem w_188 : (Jvm.Cond.instanceMethod yX1_init) ∈ lw_all := in_all (List.mem_of_getElem? (i := 241) (by decide +kernel)) rfl
theorem w_189 : (Jvm.Cond.code yX1_init prog_3_method_1_code (1 : Nat) (Option.none : Option Jvm.ClassFile.FieldType)) ∈ lw_all := in_all (List.mem_of_getElem? (i := 242) (by decide +kernel)) rfl
theorem w_190 : (Jvm.Cond.methodLink "PenStrike$History" (3 : Nat) ⟨"java/lang/Object", "<init>", "()V"⟩) ∈ lw_all := in_all (List.mem_of_getElem? (i := 243) (by decide +kernel)) rfl
theorem w_191 : (Jvm.Cond.classLink "PenStrike$History" (9 : Nat) "PenStrike$Plotter") ∈ lw_all := in_all (List.mem_of_getElem? (i := 244) (by decide +kernel)) rfl
theorem w_192 : (Jvm.Cond.arrayOver (Jvm.ClassFile.FieldType.object "PenStrike$Plotter")) ∈ nwl := in_nwl (List.mem_of_getElem? (i := 245) (by decide +kernel)) rfl
theorem w_193 : (Jvm.Cond.fieldLink "PenStrike$History" (11 : Nat) "PenStrike$History" "states" "[LPenStrike$Plotter;") ∈ lw_all := in_all (List.mem_of_getElem? (i := 246) (by decide +kernel)) rfl
theorem w_194 : (Jvm.Cond.fieldLink "PenStrike$History" (17 : Nat) "PenStrike$History" "next" "I") ∈ lw_all := in_all (List.mem_of_getElem? (i := 247) (by decide +kernel)) rfl
theorem w_195 : (Jvm.Cond.fieldLink "PenStrike$History" (21 : Nat) "PenStrike$History" "many" "I") ∈ lw_all := in_all (List.mem_of_getElem? (i := 248) (by decide +kernel)) rfl
theorem w_196 : (Jvm.Cond.fieldLink "PenStrike" (293 : Nat) "PenStrike$History" "many" "I") ∈ lw_all := in_all (List.mem_of_getElem? (i := 249) (by decide +kernel)) rfl
theorem w_204 : (Jvm.Cond.classLink "PenStrike" (26 : Nat) "PenStrike$Orders") ∈ lw_all := in_all (List.mem_of_getElem? (i := 257) (by decide +kernel)) rfl
theorem w_205 : (Jvm.Cond.instantiable "PenStrike$Orders" (5 : Nat)) ∈ lw_all := in_all (List.mem_of_getElem? (i := 258) (by decide +kernel)) rfl
theorem w_206 : (Jvm.Cond.methodLinkNest "PenStrike" (28 : Nat) yX3_init "PenStrike") ∈ nwl := in_nwl (List.mem_of_getElem? (i := 259) (by decide +kernel)) rfl
theorem w_207 : (Jvm.Cond.instanceMethod yX3_init) ∈ lw_all := in_all (List.mem_of_getElem? (i := 260) (by decide +kernel)) rfl
theorem w_208 : (Jvm.Cond.code yX3_init prog_5_method_1_code (1 : Nat) (Option.none : Option Jvm.ClassFile.FieldType)) ∈ lw_all := in_all (List.mem_of_getElem? (i := 261) (by decide +kernel)) rfl
theorem w_209 : (Jvm.Cond.methodLink "PenStrike$Orders" (3 : Nat) ⟨"java/lang/Object", "<init>", "()V"⟩) ∈ lw_all := in_all (List.mem_of_getElem? (i := 262) (by decide +kernel)) rfl
theorem w_210 : (Jvm.Cond.constant "PenStrike$Orders" (25 : Nat) (-1000004 : Int32)) ∈ lw_all := in_all (List.mem_of_getElem? (i := 263) (by decide +kernel)) rfl
theorem w_211 : (Jvm.Cond.fieldLink "PenStrike$Orders" (9 : Nat) "PenStrike$Orders" "length" "I") ∈ lw_all := in_all (List.mem_of_getElem? (i := 264) (by decide +kernel)) rfl
theorem w_212 : (Jvm.Cond.fieldLink "PenStrike" (294 : Nat) "PenStrike$Orders" "length" "I") ∈ lw_all := in_all (List.mem_of_getElem? (i := 265) (by decide +kernel)) rfl
theorem w_213 : (Jvm.Cond.fieldLink "PenStrike$Orders" (15 : Nat) "PenStrike$Orders" "signs" "[I") ∈ lw_all := in_all (List.mem_of_getElem? (i := 266) (by decide +kernel)) rfl
theorem w_214 : (Jvm.Cond.fieldLink "PenStrike$Orders" (19 : Nat) "PenStrike$Orders" "position" "I") ∈ lw_all := in_all (List.mem_of_getElem? (i := 267) (by decide +kernel)) rfl
theorem w_215 : (Jvm.Cond.fieldLink "PenStrike" (312 : Nat) "PenStrike$Orders" "position" "I") ∈ lw_all := in_all (List.mem_of_getElem? (i := 268) (by decide +kernel)) rfl
theorem w_216 : (Jvm.Cond.fieldLink "PenStrike$Orders" (22 : Nat) "PenStrike$Orders" "reason" "I") ∈ lw_all := in_all (List.mem_of_getElem? (i := 269) (by decide +kernel)) rfl
theorem w_217 : (Jvm.Cond.fieldLink "PenStrike" (309 : Nat) "PenStrike$Orders" "reason" "I") ∈ lw_all := in_all (List.mem_of_getElem? (i := 270) (by decide +kernel)) rfl
theorem w_218 : (Jvm.Cond.fieldLink "PenStrike$Orders" (26 : Nat) "PenStrike$Orders" "cause" "I") ∈ lw_all := in_all (List.mem_of_getElem? (i := 271) (by decide +kernel)) rfl
theorem w_219 : (Jvm.Cond.fieldLink "PenStrike" (315 : Nat) "PenStrike$Orders" "cause" "I") ∈ lw_all := in_all (List.mem_of_getElem? (i := 272) (by decide +kernel)) rfl
theorem w_231 : (Jvm.Cond.classLink "PenStrike" (33 : Nat) "PenStrike$FairPlan") ∈ lw_all := in_all (List.mem_of_getElem? (i := 284) (by decide +kernel)) rfl
theorem w_232 : (Jvm.Cond.instantiable "PenStrike$FairPlan" (2 : Nat)) ∈ lw_all := in_all (List.mem_of_getElem? (i := 285) (by decide +kernel)) rfl
theorem w_233 : (Jvm.Cond.methodLinkNest "PenStrike" (35 : Nat) yX0_init "PenStrike") ∈ nwl := in_nwl (List.mem_of_getElem? (i := 286) (by decide +kernel)) rfl
theorem w_234 : (Jvm.Cond.instanceMethod yX0_init) ∈ lw_all := in_all (List.mem_of_getElem? (i := 287) (by decide +kernel)) rfl
theorem w_235 : (Jvm.Cond.code yX0_init prog_2_method_1_code (1 : Nat) (Option.none : Option Jvm.ClassFile.FieldType)) ∈ lw_all := in_all (List.mem_of_getElem? (i := 288) (by decide +kernel)) rfl
theorem w_236 : (Jvm.Cond.methodLink "PenStrike$FairPlan" (3 : Nat) ⟨"java/lang/Object", "<init>", "()V"⟩) ∈ lw_all := in_all (List.mem_of_getElem? (i := 289) (by decide +kernel)) rfl
theorem w_237 : (Jvm.Cond.fieldLink "PenStrike$FairPlan" (9 : Nat) "PenStrike$FairPlan" "penFor" "[I") ∈ lw_all := in_all (List.mem_of_getElem? (i := 290) (by decide +kernel)) rfl
theorem w_238 : (Jvm.Cond.fieldLink "PenStrike$Route" (54 : Nat) "PenStrike$FairPlan" "penFor" "[I") ∈ lw_all := in_all (List.mem_of_getElem? (i := 291) (by decide +kernel)) rfl
theorem w_239 : (Jvm.Cond.fieldLink "PenStrike" (255 : Nat) "PenStrike$FairPlan" "penFor" "[I") ∈ lw_all := in_all (List.mem_of_getElem? (i := 292) (by decide +kernel)) rfl
theorem w_240 : (Jvm.Cond.fieldLink "PenStrike$FairPlan" (15 : Nat) "PenStrike$FairPlan" "load" "[I") ∈ lw_all := in_all (List.mem_of_getElem? (i := 293) (by decide +kernel)) rfl
theorem w_241 : (Jvm.Cond.fieldLink "PenStrike" (258 : Nat) "PenStrike$FairPlan" "load" "[I") ∈ lw_all := in_all (List.mem_of_getElem? (i := 294) (by decide +kernel)) rfl
theorem w_247 : (Jvm.Cond.classLink "PenStrike" (40 : Nat) "PenStrike$Route") ∈ lw_all := in_all (List.mem_of_getElem? (i := 300) (by decide +kernel)) rfl
theorem w_248 : (Jvm.Cond.instantiable "PenStrike$Route" (7 : Nat)) ∈ lw_all := in_all (List.mem_of_getElem? (i := 301) (by decide +kernel)) rfl
theorem w_249 : (Jvm.Cond.methodLinkNest "PenStrike" (42 : Nat) yX6_init "PenStrike") ∈ nwl := in_nwl (List.mem_of_getElem? (i := 302) (by decide +kernel)) rfl
theorem w_250 : (Jvm.Cond.instanceMethod yX6_init) ∈ lw_all := in_all (List.mem_of_getElem? (i := 303) (by decide +kernel)) rfl
theorem w_251 : (Jvm.Cond.code yX6_init prog_8_method_1_code (1 : Nat) (Option.none : Option Jvm.ClassFile.FieldType)) ∈ lw_all := in_all (List.mem_of_getElem? (i := 304) (by decide +kernel)) rfl
theorem w_252 : (Jvm.Cond.methodLink "PenStrike$Route" (3 : Nat) ⟨"java/lang/Object", "<init>", "()V"⟩) ∈ lw_all := in_all (List.mem_of_getElem? (i := 305) (by decide +kernel)) rfl
theorem w_253 : (Jvm.Cond.fieldLink "PenStrike$Route" (9 : Nat) "PenStrike$Route" "many" "I") ∈ lw_all := in_all (List.mem_of_getElem? (i := 306) (by decide +kernel)) rfl
theorem w_254 : (Jvm.Cond.fieldLink "PenStrike" (264 : Nat) "PenStrike$Route" "many" "I") ∈ lw_all := in_all (List.mem_of_getElem? (i := 307) (by decide +kernel)) rfl
theorem w_255 : (Jvm.Cond.fieldLink "PenStrike$Route" (15 : Nat) "PenStrike$Route" "line" "[I") ∈ lw_all := in_all (List.mem_of_getElem? (i := 308) (by decide +kernel)) rfl
theorem w_256 : (Jvm.Cond.fieldLink "PenStrike" (265 : Nat) "PenStrike$Route" "line" "[I") ∈ lw_all := in_all (List.mem_of_getElem? (i := 309) (by decide +kernel)) rfl
theorem w_257 : (Jvm.Cond.fieldLink "PenStrike$Route" (19 : Nat) "PenStrike$Route" "way" "[I") ∈ lw_all := in_all (List.mem_of_getElem? (i := 310) (by decide +kernel)) rfl
theorem w_258 : (Jvm.Cond.fieldLink "PenStrike" (268 : Nat) "PenStrike$Route" "way" "[I") ∈ lw_all := in_all (List.mem_of_getElem? (i := 311) (by decide +kernel)) rfl
theorem w_259 : (Jvm.Cond.fieldLink "PenStrike$Route" (22 : Nat) "PenStrike$Route" "ticks" "[I") ∈ lw_all := in_all (List.mem_of_getElem? (i := 312) (by decide +kernel)) rfl
theorem w_260 : (Jvm.Cond.fieldLink "PenStrike" (271 : Nat) "PenStrike$Route" "ticks" "[I") ∈ lw_all := in_all (List.mem_of_getElem? (i := 313) (by decide +kernel)) rfl
theorem w_261 : (Jvm.Cond.fieldLink "PenStrike$Route" (25 : Nat) "PenStrike$Route" "isOnIt" "[Z") ∈ lw_all := in_all (List.mem_of_getElem? (i := 314) (by decide +kernel)) rfl
theorem w_262 : (Jvm.Cond.fieldLink "PenStrike$Route" (29 : Nat) "PenStrike$Route" "x" "I") ∈ lw_all := in_all (List.mem_of_getElem? (i := 315) (by decide +kernel)) rfl
theorem w_263 : (Jvm.Cond.fieldLink "PenStrike$Route" (32 : Nat) "PenStrike$Route" "y" "I") ∈ lw_all := in_all (List.mem_of_getElem? (i := 316) (by decide +kernel)) rfl
theorem w_279 : (Jvm.Cond.arrayClass Jvm.ClassFile.FieldType.boolean) ∈ lw_all := in_all (List.mem_of_getElem? (i := 332) (by decide +kernel)) rfl
theorem w_280 : (Jvm.Cond.fieldLink "PenStrike" (10 : Nat) "PenStrike" "now" "LPenStrike$Plotter;") ∈ lw_all := in_all (List.mem_of_getElem? (i := 333) (by decide +kernel)) rfl
theorem w_281 : (Jvm.Cond.fieldLink "PenStrike" (16 : Nat) "PenStrike" "trial" "LPenStrike$Plotter;") ∈ lw_all := in_all (List.mem_of_getElem? (i := 334) (by decide +kernel)) rfl
theorem w_282 : (Jvm.Cond.fieldLink "PenStrike" (22 : Nat) "PenStrike" "history" "LPenStrike$History;") ∈ lw_all := in_all (List.mem_of_getElem? (i := 335) (by decide +kernel)) rfl
theorem w_283 : (Jvm.Cond.fieldLink "PenStrike" (29 : Nat) "PenStrike" "orders" "LPenStrike$Orders;") ∈ lw_all := in_all (List.mem_of_getElem? (i := 336) (by decide +kernel)) rfl
theorem w_284 : (Jvm.Cond.fieldLink "PenStrike" (36 : Nat) "PenStrike" "plan" "LPenStrike$FairPlan;") ∈ lw_all := in_all (List.mem_of_getElem? (i := 337) (by decide +kernel)) rfl
theorem w_285 : (Jvm.Cond.fieldLink "PenStrike" (43 : Nat) "PenStrike" "route" "LPenStrike$Route;") ∈ lw_all := in_all (List.mem_of_getElem? (i := 338) (by decide +kernel)) rfl
theorem w_299 : (Jvm.Cond.methodLink "PenStrikeLaw" (13 : Nat) yX7_set) ∈ lw_all := in_all (List.mem_of_getElem? (i := 352) (by decide +kernel)) rfl
theorem w_300 : (Jvm.Cond.instanceMethod yX7_set) ∈ lw_all := in_all (List.mem_of_getElem? (i := 353) (by decide +kernel)) rfl
theorem w_301 : (Jvm.Cond.selects "PenStrike" yX7_set yX7_set) ∈ lw_all := in_all (List.mem_of_getElem? (i := 354) (by decide +kernel)) rfl
theorem w_302 : (Jvm.Cond.code yX7_set prog_1_method_2_code (4 : Nat) (Option.some Jvm.ClassFile.FieldType.int)) ∈ lw_all := in_all (List.mem_of_getElem? (i := 355) (by decide +kernel)) rfl
theorem w_303 : (Jvm.Cond.methodLink "PenStrike" (47 : Nat) yX7_isIn) ∈ lw_all := in_all (List.mem_of_getElem? (i := 356) (by decide +kernel)) rfl
theorem w_304 : (Jvm.Cond.static yX7_isIn) ∈ lw_all := in_all (List.mem_of_getElem? (i := 357) (by decide +kernel)) rfl
theorem w_305 : (Jvm.Cond.code yX7_isIn prog_1_method_34_code (3 : Nat) (Option.some Jvm.ClassFile.FieldType.boolean)) ∈ lw_all := in_all (List.mem_of_getElem? (i := 358) (by decide +kernel)) rfl
theorem w_306 : (Jvm.Cond.fieldLink "PenStrike" (51 : Nat) "PenStrike" "LEAST_VALUES" "[I") ∈ lw_all := in_all (List.mem_of_getElem? (i := 359) (by decide +kernel)) rfl
theorem w_308 : (Jvm.Cond.fieldLink "PenStrike" (55 : Nat) "PenStrike" "GREATEST_VALUES" "[I") ∈ lw_all := in_all (List.mem_of_getElem? (i := 361) (by decide +kernel)) rfl
theorem w_310 : (Jvm.Cond.constant "PenStrike" (58 : Nat) (-1000001 : Int32)) ∈ lw_all := in_all (List.mem_of_getElem? (i := 363) (by decide +kernel)) rfl
theorem w_311 : (Jvm.Cond.methodLink "PenStrike" (59 : Nat) yX1_record) ∈ lw_all := in_all (List.mem_of_getElem? (i := 364) (by decide +kernel)) rfl
theorem w_312 : (Jvm.Cond.instanceMethod yX1_record) ∈ lw_all := in_all (List.mem_of_getElem? (i := 365) (by decide +kernel)) rfl
theorem w_313 : (Jvm.Cond.selects "PenStrike$History" yX1_record yX1_record) ∈ lw_all := in_all (List.mem_of_getElem? (i := 366) (by decide +kernel)) rfl
theorem w_314 : (Jvm.Cond.code yX1_record prog_3_method_2_code (3 : Nat) (Option.none : Option Jvm.ClassFile.FieldType)) ∈ lw_all := in_all (List.mem_of_getElem? (i := 367) (by decide +kernel)) rfl
theorem w_315 : (Jvm.Cond.methodLinkNest "PenStrike$History" (24 : Nat) yX5_init "PenStrike") ∈ nwl := in_nwl (List.mem_of_getElem? (i := 368) (by decide +kernel)) rfl
theorem w_316 : (Jvm.Cond.methodLink "PenStrike$History" (25 : Nat) yX5_copyFrom) ∈ lw_all := in_all (List.mem_of_getElem? (i := 369) (by decide +kernel)) rfl
theorem w_317 : (Jvm.Cond.instanceMethod yX5_copyFrom) ∈ lw_all := in_all (List.mem_of_getElem? (i := 370) (by decide +kernel)) rfl
theorem w_318 : (Jvm.Cond.selects "PenStrike$Plotter" yX5_copyFrom yX5_copyFrom) ∈ lw_all := in_all (List.mem_of_getElem? (i := 371) (by decide +kernel)) rfl
theorem w_319 : (Jvm.Cond.code yX5_copyFrom prog_7_method_2_code (2 : Nat) (Option.none : Option Jvm.ClassFile.FieldType)) ∈ lw_all := in_all (List.mem_of_getElem? (i := 372) (by decide +kernel)) rfl
theorem w_320 : (Jvm.Cond.methodLinkNest "PenStrike$Plotter" (56 : Nat) yX7_copy "PenStrike") ∈ nwl := in_nwl (List.mem_of_getElem? (i := 373) (by decide +kernel)) rfl
theorem w_321 : (Jvm.Cond.static yX7_copy) ∈ lw_all := in_all (List.mem_of_getElem? (i := 374) (by decide +kernel)) rfl
theorem w_322 : (Jvm.Cond.code yX7_copy prog_1_method_39_code (2 : Nat) (Option.none : Option Jvm.ClassFile.FieldType)) ∈ lw_all := in_all (List.mem_of_getElem? (i := 375) (by decide +kernel)) rfl
theorem w_323 : (Jvm.Cond.methodLink "PenStrike" (321 : Nat) yJ9_min_7cf53) ∈ lw_all := in_all (List.mem_of_getElem? (i := 376) (by decide +kernel)) rfl
theorem w_324 : (Jvm.Cond.static yJ9_min_7cf53) ∈ lw_all := in_all (List.mem_of_getElem? (i := 377) (by decide +kernel)) rfl
theorem w_325 : (Jvm.Cond.code yJ9_min_7cf53 prog_13_method_69_code (2 : Nat) (Option.some Jvm.ClassFile.FieldType.int)) ∈ lw_all := in_all (List.mem_of_getElem? (i := 378) (by decide +kernel)) rfl
theorem w_326 : (Jvm.Cond.methodLink "PenStrike" (324 : Nat) ⟨RJ10, "arraycopy", "(Ljava/lang/Object;ILjava/lang/Object;II)V"⟩) ∈ lw_all := in_all (List.mem_of_getElem? (i := 379) (by decide +kernel)) rfl
theorem w_327 : (Jvm.Cond.static ⟨RJ10, "arraycopy", "(Ljava/lang/Object;ILjava/lang/Object;II)V"⟩) ∈ lw_all := in_all (List.mem_of_getElem? (i := 380) (by decide +kernel)) rfl
theorem w_328 : (Jvm.Cond.native ⟨RJ10, "arraycopy", "(Ljava/lang/Object;ILjava/lang/Object;II)V"⟩) ∈ lw_all := in_all (List.mem_of_getElem? (i := 381) (by decide +kernel)) rfl
theorem w_329 : (Jvm.Cond.methodLink "PenStrike$Plotter" (60 : Nat) yX4_copyFrom) ∈ lw_all := in_all (List.mem_of_getElem? (i := 382) (by decide +kernel)) rfl
theorem w_330 : (Jvm.Cond.instanceMethod yX4_copyFrom) ∈ lw_all := in_all (List.mem_of_getElem? (i := 383) (by decide +kernel)) rfl
theorem w_331 : (Jvm.Cond.selects "PenStrike$Pens" yX4_copyFrom yX4_copyFrom) ∈ lw_all := in_all (List.mem_of_getElem? (i := 384) (by decide +kernel)) rfl
theorem w_332 : (Jvm.Cond.code yX4_copyFrom prog_6_method_2_code (2 : Nat) (Option.none : Option Jvm.ClassFile.FieldType)) ∈ lw_all := in_all (List.mem_of_getElem? (i := 385) (by decide +kernel)) rfl
theorem w_333 : (Jvm.Cond.methodLinkNest "PenStrike$Pens" (37 : Nat) yX7_copy "PenStrike") ∈ nwl := in_nwl (List.mem_of_getElem? (i := 386) (by decide +kernel)) rfl
theorem w_334 : (Jvm.Cond.methodLink "PenStrike$Plotter" (64 : Nat) yX2_copyFrom) ∈ lw_all := in_all (List.mem_of_getElem? (i := 387) (by decide +kernel)) rfl
theorem w_335 : (Jvm.Cond.instanceMethod yX2_copyFrom) ∈ lw_all := in_all (List.mem_of_getElem? (i := 388) (by decide +kernel)) rfl
theorem w_336 : (Jvm.Cond.selects "PenStrike$Lines" yX2_copyFrom yX2_copyFrom) ∈ lw_all := in_all (List.mem_of_getElem? (i := 389) (by decide +kernel)) rfl
theorem w_337 : (Jvm.Cond.code yX2_copyFrom prog_4_method_2_code (2 : Nat) (Option.none : Option Jvm.ClassFile.FieldType)) ∈ lw_all := in_all (List.mem_of_getElem? (i := 390) (by decide +kernel)) rfl
theorem w_338 : (Jvm.Cond.methodLinkNest "PenStrike$Lines" (46 : Nat) yX7_copy "PenStrike") ∈ nwl := in_nwl (List.mem_of_getElem? (i := 391) (by decide +kernel)) rfl
theorem w_339 : (Jvm.Cond.methodLink "PenStrike$History" (29 : Nat) yJ9_min_7cf53) ∈ lw_all := in_all (List.mem_of_getElem? (i := 392) (by decide +kernel)) rfl
theorem w_340 : (Jvm.Cond.methodLink "PenStrikeLaw" (18 : Nat) yX7_pen) ∈ lw_all := in_all (List.mem_of_getElem? (i := 393) (by decide +kernel)) rfl
theorem w_341 : (Jvm.Cond.instanceMethod yX7_pen) ∈ lw_all := in_all (List.mem_of_getElem? (i := 394) (by decide +kernel)) rfl
theorem w_342 : (Jvm.Cond.selects "PenStrike" yX7_pen yX7_pen) ∈ lw_all := in_all (List.mem_of_getElem? (i := 395) (by decide +kernel)) rfl
theorem w_343 : (Jvm.Cond.code yX7_pen prog_1_method_3_code (6 : Nat) (Option.some Jvm.ClassFile.FieldType.int)) ∈ lw_all := in_all (List.mem_of_getElem? (i := 396) (by decide +kernel)) rfl
theorem w_344 : (Jvm.Cond.methodLink "PenStrike" (66 : Nat) yX7_holderTakes) ∈ lw_all := in_all (List.mem_of_getElem? (i := 397) (by decide +kernel)) rfl
theorem w_345 : (Jvm.Cond.static yX7_holderTakes) ∈ lw_all := in_all (List.mem_of_getElem? (i := 398) (by decide +kernel)) rfl
theorem w_346 : (Jvm.Cond.code yX7_holderTakes prog_1_method_37_code (2 : Nat) (Option.some Jvm.ClassFile.FieldType.boolean)) ∈ lw_all := in_all (List.mem_of_getElem? (i := 399) (by decide +kernel)) rfl
theorem w_347 : (Jvm.Cond.methodLink "PenStrike" (74 : Nat) yX4_isPlaceOfAny) ∈ lw_all := in_all (List.mem_of_getElem? (i := 400) (by decide +kernel)) rfl
theorem w_348 : (Jvm.Cond.instanceMethod yX4_isPlaceOfAny) ∈ lw_all := in_all (List.mem_of_getElem? (i := 401) (by decide +kernel)) rfl
theorem w_349 : (Jvm.Cond.selects "PenStrike$Pens" yX4_isPlaceOfAny yX4_isPlaceOfAny) ∈ lw_all := in_all (List.mem_of_getElem? (i := 402) (by decide +kernel)) rfl
theorem w_350 : (Jvm.Cond.code yX4_isPlaceOfAny prog_6_method_5_code (3 : Nat) (Option.some Jvm.ClassFile.FieldType.boolean)) ∈ lw_all := in_all (List.mem_of_getElem? (i := 403) (by decide +kernel)) rfl
theorem w_351 : (Jvm.Cond.constant "PenStrike" (80 : Nat) (-1000002 : Int32)) ∈ lw_all := in_all (List.mem_of_getElem? (i := 404) (by decide +kernel)) rfl
theorem w_352 : (Jvm.Cond.constant "PenStrike" (85 : Nat) (-1000003 : Int32)) ∈ lw_all := in_all (List.mem_of_getElem? (i := 405) (by decide +kernel)) rfl
theorem w_353 : (Jvm.Cond.methodLink "PenStrike" (86 : Nat) yX4_add) ∈ lw_all := in_all (List.mem_of_getElem? (i := 406) (by decide +kernel)) rfl
theorem w_354 : (Jvm.Cond.instanceMethod yX4_add) ∈ lw_all := in_all (List.mem_of_getElem? (i := 407) (by decide +kernel)) rfl
theorem w_355 : (Jvm.Cond.selects "PenStrike$Pens" yX4_add yX4_add) ∈ lw_all := in_all (List.mem_of_getElem? (i := 408) (by decide +kernel)) rfl
theorem w_356 : (Jvm.Cond.code yX4_add prog_6_method_6_code (5 : Nat) (Option.some Jvm.ClassFile.FieldType.int)) ∈ lw_all := in_all (List.mem_of_getElem? (i := 409) (by decide +kernel)) rfl
theorem w_357 : (Jvm.Cond.methodLink "PenStrikeLaw" (23 : Nat) yX7_line) ∈ lw_all := in_all (List.mem_of_getElem? (i := 410) (by decide +kernel)) rfl
theorem w_358 : (Jvm.Cond.instanceMethod yX7_line) ∈ lw_all := in_all (List.mem_of_getElem? (i := 411) (by decide +kernel)) rfl
theorem w_359 : (Jvm.Cond.selects "PenStrike" yX7_line yX7_line) ∈ lw_all := in_all (List.mem_of_getElem? (i := 412) (by decide +kernel)) rfl
theorem w_360 : (Jvm.Cond.code yX7_line prog_1_method_4_code (5 : Nat) (Option.some Jvm.ClassFile.FieldType.int)) ∈ lw_all := in_all (List.mem_of_getElem? (i := 413) (by decide +kernel)) rfl
theorem w_361 : (Jvm.Cond.methodLink "PenStrike" (90 : Nat) yX7_isPoint) ∈ lw_all := in_all (List.mem_of_getElem? (i := 414) (by decide +kernel)) rfl
theorem w_362 : (Jvm.Cond.static yX7_isPoint) ∈ lw_all := in_all (List.mem_of_getElem? (i := 415) (by decide +kernel)) rfl
theorem w_363 : (Jvm.Cond.code yX7_isPoint prog_1_method_35_code (2 : Nat) (Option.some Jvm.ClassFile.FieldType.boolean)) ∈ lw_all := in_all (List.mem_of_getElem? (i := 416) (by decide +kernel)) rfl
theorem w_364 : (Jvm.Cond.methodLink "PenStrike" (100 : Nat) yX2_add) ∈ lw_all := in_all (List.mem_of_getElem? (i := 417) (by decide +kernel)) rfl
theorem w_365 : (Jvm.Cond.instanceMethod yX2_add) ∈ lw_all := in_all (List.mem_of_getElem? (i := 418) (by decide +kernel)) rfl
theorem w_366 : (Jvm.Cond.selects "PenStrike$Lines" yX2_add yX2_add) ∈ lw_all := in_all (List.mem_of_getElem? (i := 419) (by decide +kernel)) rfl
theorem w_367 : (Jvm.Cond.code yX2_add prog_4_method_5_code (6 : Nat) (Option.some Jvm.ClassFile.FieldType.int)) ∈ lw_all := in_all (List.mem_of_getElem? (i := 420) (by decide +kernel)) rfl
theorem w_368 : (Jvm.Cond.methodLinkNest "PenStrike$Lines" (54 : Nat) yX7_distance "PenStrike") ∈ nwl := in_nwl (List.mem_of_getElem? (i := 421) (by decide +kernel)) rfl
theorem w_369 : (Jvm.Cond.static yX7_distance) ∈ lw_all := in_all (List.mem_of_getElem? (i := 422) (by decide +kernel)) rfl
theorem w_370 : (Jvm.Cond.code yX7_distance prog_1_method_38_code (4 : Nat) (Option.some Jvm.ClassFile.FieldType.int)) ∈ lw_all := in_all (List.mem_of_getElem? (i := 423) (by decide +kernel)) rfl
theorem w_371 : (Jvm.Cond.methodLink "PenStrike" (318 : Nat) yJ9_abs_0f7a4) ∈ lw_all := in_all (List.mem_of_getElem? (i := 424) (by decide +kernel)) rfl
theorem w_372 : (Jvm.Cond.static yJ9_abs_0f7a4) ∈ lw_all := in_all (List.mem_of_getElem? (i := 425) (by decide +kernel)) rfl
theorem w_373 : (Jvm.Cond.code yJ9_abs_0f7a4 prog_13_method_59_code (1 : Nat) (Option.some Jvm.ClassFile.FieldType.int)) ∈ lw_all := in_all (List.mem_of_getElem? (i := 426) (by decide +kernel)) rfl
theorem w_374 : (Jvm.Cond.methodLink "PenStrike" (224 : Nat) yJ9_max_7cf53) ∈ lw_all := in_all (List.mem_of_getElem? (i := 427) (by decide +kernel)) rfl
theorem w_375 : (Jvm.Cond.static yJ9_max_7cf53) ∈ lw_all := in_all (List.mem_of_getElem? (i := 428) (by decide +kernel)) rfl
theorem w_376 : (Jvm.Cond.code yJ9_max_7cf53 prog_13_method_65_code (2 : Nat) (Option.some Jvm.ClassFile.FieldType.int)) ∈ lw_all := in_all (List.mem_of_getElem? (i := 429) (by decide +kernel)) rfl
theorem w_377 : (Jvm.Cond.methodLink "PenStrike$Lines" (58 : Nat) yX2_noteTouching) ∈ lw_all := in_all (List.mem_of_getElem? (i := 430) (by decide +kernel)) rfl
theorem w_379 : (Jvm.Cond.instanceMethod yX2_noteTouching) ∈ lw_all := in_all (List.mem_of_getElem? (i := 432) (by decide +kernel)) rfl
theorem w_380 : (Jvm.Cond.code yX2_noteTouching prog_4_method_6_code (3 : Nat) (Option.none : Option Jvm.ClassFile.FieldType)) ∈ lw_all := in_all (List.mem_of_getElem? (i := 433) (by decide +kernel)) rfl
theorem w_381 : (Jvm.Cond.methodLink "PenStrike$Lines" (62 : Nat) yX2_meet) ∈ lw_all := in_all (List.mem_of_getElem? (i := 434) (by decide +kernel)) rfl
theorem w_383 : (Jvm.Cond.instanceMethod yX2_meet) ∈ lw_all := in_all (List.mem_of_getElem? (i := 436) (by decide +kernel)) rfl
theorem w_384 : (Jvm.Cond.code yX2_meet prog_4_method_13_code (3 : Nat) (Option.some Jvm.ClassFile.FieldType.boolean)) ∈ lw_all := in_all (List.mem_of_getElem? (i := 437) (by decide +kernel)) rfl
theorem w_385 : (Jvm.Cond.methodLink "PenStrike$Lines" (74 : Nat) yX2_spansMeet) ∈ lw_all := in_all (List.mem_of_getElem? (i := 438) (by decide +kernel)) rfl
theorem w_386 : (Jvm.Cond.static yX2_spansMeet) ∈ lw_all := in_all (List.mem_of_getElem? (i := 439) (by decide +kernel)) rfl
theorem w_387 : (Jvm.Cond.code yX2_spansMeet prog_4_method_14_code (4 : Nat) (Option.some Jvm.ClassFile.FieldType.boolean)) ∈ lw_all := in_all (List.mem_of_getElem? (i := 440) (by decide +kernel)) rfl
theorem w_388 : (Jvm.Cond.methodLink "PenStrike$Lines" (81 : Nat) yJ9_min_7cf53) ∈ lw_all := in_all (List.mem_of_getElem? (i := 441) (by decide +kernel)) rfl
theorem w_389 : (Jvm.Cond.methodLink "PenStrike$Lines" (87 : Nat) yJ9_max_7cf53) ∈ lw_all := in_all (List.mem_of_getElem? (i := 442) (by decide +kernel)) rfl
theorem w_390 : (Jvm.Cond.methodLink "PenStrike$Lines" (78 : Nat) yX2_reachesAcross) ∈ lw_all := in_all (List.mem_of_getElem? (i := 443) (by decide +kernel)) rfl
theorem w_392 : (Jvm.Cond.instanceMethod yX2_reachesAcross) ∈ lw_all := in_all (List.mem_of_getElem? (i := 445) (by decide +kernel)) rfl
theorem w_393 : (Jvm.Cond.code yX2_reachesAcross prog_4_method_15_code (7 : Nat) (Option.some Jvm.ClassFile.FieldType.boolean)) ∈ lw_all := in_all (List.mem_of_getElem? (i := 446) (by decide +kernel)) rfl
theorem w_394 : (Jvm.Cond.methodLink "PenStrikeLaw" (27 : Nat) yX7_leave) ∈ lw_all := in_all (List.mem_of_getElem? (i := 447) (by decide +kernel)) rfl
theorem w_395 : (Jvm.Cond.instanceMethod yX7_leave) ∈ lw_all := in_all (List.mem_of_getElem? (i := 448) (by decide +kernel)) rfl
theorem w_396 : (Jvm.Cond.selects "PenStrike" yX7_leave yX7_leave) ∈ lw_all := in_all (List.mem_of_getElem? (i := 449) (by decide +kernel)) rfl
theorem w_397 : (Jvm.Cond.code yX7_leave prog_1_method_5_code (3 : Nat) (Option.some Jvm.ClassFile.FieldType.int)) ∈ lw_all := in_all (List.mem_of_getElem? (i := 450) (by decide +kernel)) rfl
theorem w_398 : (Jvm.Cond.methodLink "PenStrike" (103 : Nat) yX4_has) ∈ lw_all := in_all (List.mem_of_getElem? (i := 451) (by decide +kernel)) rfl
theorem w_399 : (Jvm.Cond.instanceMethod yX4_has) ∈ lw_all := in_all (List.mem_of_getElem? (i := 452) (by decide +kernel)) rfl
theorem w_400 : (Jvm.Cond.selects "PenStrike$Pens" yX4_has yX4_has) ∈ lw_all := in_all (List.mem_of_getElem? (i := 453) (by decide +kernel)) rfl
theorem w_401 : (Jvm.Cond.code yX4_has prog_6_method_3_code (2 : Nat) (Option.some Jvm.ClassFile.FieldType.boolean)) ∈ lw_all := in_all (List.mem_of_getElem? (i := 454) (by decide +kernel)) rfl
theorem w_402 : (Jvm.Cond.methodLinkNest "PenStrike$Pens" (41 : Nat) yX7_isIn "PenStrike") ∈ nwl := in_nwl (List.mem_of_getElem? (i := 455) (by decide +kernel)) rfl
theorem w_403 : (Jvm.Cond.methodLink "PenStrike" (112 : Nat) yX4_howManyPresent) ∈ lw_all := in_all (List.mem_of_getElem? (i := 456) (by decide +kernel)) rfl
theorem w_404 : (Jvm.Cond.instanceMethod yX4_howManyPresent) ∈ lw_all := in_all (List.mem_of_getElem? (i := 457) (by decide +kernel)) rfl
theorem w_405 : (Jvm.Cond.selects "PenStrike$Pens" yX4_howManyPresent yX4_howManyPresent) ∈ lw_all := in_all (List.mem_of_getElem? (i := 458) (by decide +kernel)) rfl
theorem w_406 : (Jvm.Cond.code yX4_howManyPresent prog_6_method_7_code (3 : Nat) (Option.some Jvm.ClassFile.FieldType.int)) ∈ lw_all := in_all (List.mem_of_getElem? (i := 459) (by decide +kernel)) rfl
theorem w_407 : (Jvm.Cond.methodLink "PenStrikeLaw" (31 : Nat) yX7_refill) ∈ lw_all := in_all (List.mem_of_getElem? (i := 460) (by decide +kernel)) rfl
theorem w_408 : (Jvm.Cond.instanceMethod yX7_refill) ∈ lw_all := in_all (List.mem_of_getElem? (i := 461) (by decide +kernel)) rfl
theorem w_409 : (Jvm.Cond.selects "PenStrike" yX7_refill yX7_refill) ∈ lw_all := in_all (List.mem_of_getElem? (i := 462) (by decide +kernel)) rfl
theorem w_410 : (Jvm.Cond.code yX7_refill prog_1_method_6_code (3 : Nat) (Option.some Jvm.ClassFile.FieldType.int)) ∈ lw_all := in_all (List.mem_of_getElem? (i := 463) (by decide +kernel)) rfl
theorem w_411 : (Jvm.Cond.methodLink "PenStrikeLaw" (36 : Nat) yX7_penOf) ∈ lw_all := in_all (List.mem_of_getElem? (i := 464) (by decide +kernel)) rfl
theorem w_412 : (Jvm.Cond.instanceMethod yX7_penOf) ∈ lw_all := in_all (List.mem_of_getElem? (i := 465) (by decide +kernel)) rfl
theorem w_413 : (Jvm.Cond.selects "PenStrike" yX7_penOf yX7_penOf) ∈ lw_all := in_all (List.mem_of_getElem? (i := 466) (by decide +kernel)) rfl
theorem w_414 : (Jvm.Cond.code yX7_penOf prog_1_method_7_code (3 : Nat) (Option.some Jvm.ClassFile.FieldType.int)) ∈ lw_all := in_all (List.mem_of_getElem? (i := 467) (by decide +kernel)) rfl
theorem w_415 : (Jvm.Cond.methodLink "PenStrike" (134 : Nat) yX7_asBit) ∈ lw_all := in_all (List.mem_of_getElem? (i := 468) (by decide +kernel)) rfl
theorem w_416 : (Jvm.Cond.static yX7_asBit) ∈ lw_all := in_all (List.mem_of_getElem? (i := 469) (by decide +kernel)) rfl
theorem w_417 : (Jvm.Cond.code yX7_asBit prog_1_method_36_code (1 : Nat) (Option.some Jvm.ClassFile.FieldType.int)) ∈ lw_all := in_all (List.mem_of_getElem? (i := 470) (by decide +kernel)) rfl
theorem w_418 : (Jvm.Cond.methodLink "PenStrike" (138 : Nat) yX5_isStriking) ∈ lw_all := in_all (List.mem_of_getElem? (i := 471) (by decide +kernel)) rfl
theorem w_419 : (Jvm.Cond.instanceMethod yX5_isStriking) ∈ lw_all := in_all (List.mem_of_getElem? (i := 472) (by decide +kernel)) rfl
theorem w_420 : (Jvm.Cond.selects "PenStrike$Plotter" yX5_isStriking yX5_isStriking) ∈ lw_all := in_all (List.mem_of_getElem? (i := 473) (by decide +kernel)) rfl
theorem w_421 : (Jvm.Cond.code yX5_isStriking prog_7_method_3_code (2 : Nat) (Option.some Jvm.ClassFile.FieldType.boolean)) ∈ lw_all := in_all (List.mem_of_getElem? (i := 474) (by decide +kernel)) rfl
theorem w_422 : (Jvm.Cond.methodLink "PenStrike$Plotter" (67 : Nat) yX4_isAway) ∈ lw_all := in_all (List.mem_of_getElem? (i := 475) (by decide +kernel)) rfl
theorem w_423 : (Jvm.Cond.instanceMethod yX4_isAway) ∈ lw_all := in_all (List.mem_of_getElem? (i := 476) (by decide +kernel)) rfl
theorem w_424 : (Jvm.Cond.selects "PenStrike$Pens" yX4_isAway yX4_isAway) ∈ lw_all := in_all (List.mem_of_getElem? (i := 477) (by decide +kernel)) rfl
theorem w_425 : (Jvm.Cond.code yX4_isAway prog_6_method_4_code (2 : Nat) (Option.some Jvm.ClassFile.FieldType.boolean)) ∈ lw_all := in_all (List.mem_of_getElem? (i := 478) (by decide +kernel)) rfl
theorem w_426 : (Jvm.Cond.methodLink "PenStrike$Plotter" (74 : Nat) yX4_leastDrawnBut) ∈ lw_all := in_all (List.mem_of_getElem? (i := 479) (by decide +kernel)) rfl
theorem w_427 : (Jvm.Cond.instanceMethod yX4_leastDrawnBut) ∈ lw_all := in_all (List.mem_of_getElem? (i := 480) (by decide +kernel)) rfl
theorem w_428 : (Jvm.Cond.selects "PenStrike$Pens" yX4_leastDrawnBut yX4_leastDrawnBut) ∈ lw_all := in_all (List.mem_of_getElem? (i := 481) (by decide +kernel)) rfl
theorem w_429 : (Jvm.Cond.code yX4_leastDrawnBut prog_6_method_8_code (4 : Nat) (Option.some Jvm.ClassFile.FieldType.int)) ∈ lw_all := in_all (List.mem_of_getElem? (i := 482) (by decide +kernel)) rfl
theorem w_430 : (Jvm.Cond.methodLink "PenStrike$Pens" (45 : Nat) yX4_isAway) ∈ lw_all := in_all (List.mem_of_getElem? (i := 483) (by decide +kernel)) rfl
theorem w_431 : (Jvm.Cond.methodLink "PenStrike" (141 : Nat) yX5_isClogged) ∈ lw_all := in_all (List.mem_of_getElem? (i := 484) (by decide +kernel)) rfl
theorem w_432 : (Jvm.Cond.instanceMethod yX5_isClogged) ∈ lw_all := in_all (List.mem_of_getElem? (i := 485) (by decide +kernel)) rfl
theorem w_433 : (Jvm.Cond.selects "PenStrike$Plotter" yX5_isClogged yX5_isClogged) ∈ lw_all := in_all (List.mem_of_getElem? (i := 486) (by decide +kernel)) rfl
theorem w_434 : (Jvm.Cond.code yX5_isClogged prog_7_method_4_code (2 : Nat) (Option.some Jvm.ClassFile.FieldType.boolean)) ∈ lw_all := in_all (List.mem_of_getElem? (i := 487) (by decide +kernel)) rfl
theorem w_435 : (Jvm.Cond.methodLink "PenStrike" (144 : Nat) yX2_howManyDrawnBy) ∈ lw_all := in_all (List.mem_of_getElem? (i := 488) (by decide +kernel)) rfl
theorem w_436 : (Jvm.Cond.instanceMethod yX2_howManyDrawnBy) ∈ lw_all := in_all (List.mem_of_getElem? (i := 489) (by decide +kernel)) rfl
theorem w_437 : (Jvm.Cond.selects "PenStrike$Lines" yX2_howManyDrawnBy yX2_howManyDrawnBy) ∈ lw_all := in_all (List.mem_of_getElem? (i := 490) (by decide +kernel)) rfl
theorem w_438 : (Jvm.Cond.code yX2_howManyDrawnBy prog_4_method_12_code (4 : Nat) (Option.some Jvm.ClassFile.FieldType.int)) ∈ lw_all := in_all (List.mem_of_getElem? (i := 491) (by decide +kernel)) rfl
theorem w_439 : (Jvm.Cond.methodLinkNest "PenStrike$Lines" (70 : Nat) yX7_asBit "PenStrike") ∈ nwl := in_nwl (List.mem_of_getElem? (i := 492) (by decide +kernel)) rfl
theorem w_440 : (Jvm.Cond.methodLink "PenStrikeLaw" (40 : Nat) yX7_lineOf) ∈ lw_all := in_all (List.mem_of_getElem? (i := 493) (by decide +kernel)) rfl
theorem w_441 : (Jvm.Cond.instanceMethod yX7_lineOf) ∈ lw_all := in_all (List.mem_of_getElem? (i := 494) (by decide +kernel)) rfl
theorem w_442 : (Jvm.Cond.selects "PenStrike" yX7_lineOf yX7_lineOf) ∈ lw_all := in_all (List.mem_of_getElem? (i := 495) (by decide +kernel)) rfl
theorem w_443 : (Jvm.Cond.code yX7_lineOf prog_1_method_8_code (4 : Nat) (Option.some Jvm.ClassFile.FieldType.int)) ∈ lw_all := in_all (List.mem_of_getElem? (i := 496) (by decide +kernel)) rfl
theorem w_444 : (Jvm.Cond.methodLink "PenStrike" (148 : Nat) yX2_has) ∈ lw_all := in_all (List.mem_of_getElem? (i := 497) (by decide +kernel)) rfl
theorem w_445 : (Jvm.Cond.instanceMethod yX2_has) ∈ lw_all := in_all (List.mem_of_getElem? (i := 498) (by decide +kernel)) rfl
theorem w_446 : (Jvm.Cond.selects "PenStrike$Lines" yX2_has yX2_has) ∈ lw_all := in_all (List.mem_of_getElem? (i := 499) (by decide +kernel)) rfl
theorem w_447 : (Jvm.Cond.code yX2_has prog_4_method_3_code (2 : Nat) (Option.some Jvm.ClassFile.FieldType.boolean)) ∈ lw_all := in_all (List.mem_of_getElem? (i := 500) (by decide +kernel)) rfl
theorem w_448 : (Jvm.Cond.methodLinkNest "PenStrike$Lines" (50 : Nat) yX7_isIn "PenStrike") ∈ nwl := in_nwl (List.mem_of_getElem? (i := 501) (by decide +kernel)) rfl
theorem w_449 : (Jvm.Cond.methodLink "PenStrike" (149 : Nat) yX2_isDrawn) ∈ lw_all := in_all (List.mem_of_getElem? (i := 502) (by decide +kernel)) rfl
theorem w_450 : (Jvm.Cond.instanceMethod yX2_isDrawn) ∈ lw_all := in_all (List.mem_of_getElem? (i := 503) (by decide +kernel)) rfl
theorem w_451 : (Jvm.Cond.selects "PenStrike$Lines" yX2_isDrawn yX2_isDrawn) ∈ lw_all := in_all (List.mem_of_getElem? (i := 504) (by decide +kernel)) rfl
theorem w_452 : (Jvm.Cond.code yX2_isDrawn prog_4_method_4_code (2 : Nat) (Option.some Jvm.ClassFile.FieldType.boolean)) ∈ lw_all := in_all (List.mem_of_getElem? (i := 505) (by decide +kernel)) rfl
theorem w_453 : (Jvm.Cond.constant "PenStrike" (152 : Nat) (-1000004 : Int32)) ∈ lw_all := in_all (List.mem_of_getElem? (i := 506) (by decide +kernel)) rfl
theorem w_454 : (Jvm.Cond.methodLink "PenStrike" (174 : Nat) yX5_isWet) ∈ lw_all := in_all (List.mem_of_getElem? (i := 507) (by decide +kernel)) rfl
theorem w_455 : (Jvm.Cond.instanceMethod yX5_isWet) ∈ lw_all := in_all (List.mem_of_getElem? (i := 508) (by decide +kernel)) rfl
theorem w_456 : (Jvm.Cond.selects "PenStrike$Plotter" yX5_isWet yX5_isWet) ∈ lw_all := in_all (List.mem_of_getElem? (i := 509) (by decide +kernel)) rfl
theorem w_457 : (Jvm.Cond.code yX5_isWet prog_7_method_5_code (2 : Nat) (Option.some Jvm.ClassFile.FieldType.boolean)) ∈ lw_all := in_all (List.mem_of_getElem? (i := 510) (by decide +kernel)) rfl
theorem w_458 : (Jvm.Cond.methodLink "PenStrike$Plotter" (81 : Nat) yX2_isDrawn) ∈ lw_all := in_all (List.mem_of_getElem? (i := 511) (by decide +kernel)) rfl
theorem w_459 : (Jvm.Cond.methodLink "PenStrike" (177 : Nat) yX5_shadeOf) ∈ lw_all := in_all (List.mem_of_getElem? (i := 512) (by decide +kernel)) rfl
theorem w_460 : (Jvm.Cond.instanceMethod yX5_shadeOf) ∈ lw_all := in_all (List.mem_of_getElem? (i := 513) (by decide +kernel)) rfl
theorem w_461 : (Jvm.Cond.selects "PenStrike$Plotter" yX5_shadeOf yX5_shadeOf) ∈ lw_all := in_all (List.mem_of_getElem? (i := 514) (by decide +kernel)) rfl
theorem w_462 : (Jvm.Cond.code yX5_shadeOf prog_7_method_7_code (4 : Nat) (Option.some Jvm.ClassFile.FieldType.float)) ∈ lw_all := in_all (List.mem_of_getElem? (i := 515) (by decide +kernel)) rfl
theorem w_463 : (Jvm.Cond.methodLink "PenStrike$Plotter" (100 : Nat) yX4_has) ∈ lw_all := in_all (List.mem_of_getElem? (i := 516) (by decide +kernel)) rfl
theorem w_464 : (Jvm.Cond.methodLink "PenStrike" (181 : Nat) yX7_bitsOf) ∈ lw_all := in_all (List.mem_of_getElem? (i := 517) (by decide +kernel)) rfl
theorem w_465 : (Jvm.Cond.static yX7_bitsOf) ∈ lw_all := in_all (List.mem_of_getElem? (i := 518) (by decide +kernel)) rfl
theorem w_466 : (Jvm.Cond.code yX7_bitsOf prog_1_method_40_code (4 : Nat) (Option.some Jvm.ClassFile.FieldType.int)) ∈ lw_all := in_all (List.mem_of_getElem? (i := 519) (by decide +kernel)) rfl
theorem w_467 : (Jvm.Cond.constantFloat "PenStrike" (330 : Nat) (1258291200 : UInt32)) ∈ lw_all := in_all (List.mem_of_getElem? (i := 520) (by decide +kernel)) rfl
theorem w_468 : (Jvm.Cond.methodLink "PenStrikeLaw" (44 : Nat) yX7_take) ∈ lw_all := in_all (List.mem_of_getElem? (i := 521) (by decide +kernel)) rfl
theorem w_469 : (Jvm.Cond.instanceMethod yX7_take) ∈ lw_all := in_all (List.mem_of_getElem? (i := 522) (by decide +kernel)) rfl
theorem w_470 : (Jvm.Cond.selects "PenStrike" yX7_take yX7_take) ∈ lw_all := in_all (List.mem_of_getElem? (i := 523) (by decide +kernel)) rfl
theorem w_471 : (Jvm.Cond.code yX7_take prog_1_method_9_code (3 : Nat) (Option.some Jvm.ClassFile.FieldType.int)) ∈ lw_all := in_all (List.mem_of_getElem? (i := 524) (by decide +kernel)) rfl
theorem w_472 : (Jvm.Cond.methodLink "PenStrike" (185 : Nat) yX5_errorOfTaking) ∈ lw_all := in_all (List.mem_of_getElem? (i := 525) (by decide +kernel)) rfl
theorem w_473 : (Jvm.Cond.instanceMethod yX5_errorOfTaking) ∈ lw_all := in_all (List.mem_of_getElem? (i := 526) (by decide +kernel)) rfl
theorem w_474 : (Jvm.Cond.selects "PenStrike$Plotter" yX5_errorOfTaking yX5_errorOfTaking) ∈ lw_all := in_all (List.mem_of_getElem? (i := 527) (by decide +kernel)) rfl
theorem w_475 : (Jvm.Cond.code yX5_errorOfTaking prog_7_method_15_code (2 : Nat) (Option.some Jvm.ClassFile.FieldType.int)) ∈ lw_all := in_all (List.mem_of_getElem? (i := 528) (by decide +kernel)) rfl
theorem w_476 : (Jvm.Cond.constant "PenStrike$Plotter" (155 : Nat) (-1000002 : Int32)) ∈ lw_all := in_all (List.mem_of_getElem? (i := 529) (by decide +kernel)) rfl
theorem w_477 : (Jvm.Cond.methodLink "PenStrike$Plotter" (156 : Nat) yX5_errorOfPassing) ∈ lw_all := in_all (List.mem_of_getElem? (i := 530) (by decide +kernel)) rfl
theorem w_479 : (Jvm.Cond.instanceMethod yX5_errorOfPassing) ∈ lw_all := in_all (List.mem_of_getElem? (i := 532) (by decide +kernel)) rfl
theorem w_480 : (Jvm.Cond.code yX5_errorOfPassing prog_7_method_14_code (2 : Nat) (Option.some Jvm.ClassFile.FieldType.int)) ∈ lw_all := in_all (List.mem_of_getElem? (i := 533) (by decide +kernel)) rfl
theorem w_481 : (Jvm.Cond.constant "PenStrike$Plotter" (150 : Nat) (100000 : Int32)) ∈ lw_all := in_all (List.mem_of_getElem? (i := 534) (by decide +kernel)) rfl
theorem w_482 : (Jvm.Cond.constant "PenStrike$Plotter" (154 : Nat) (-1000003 : Int32)) ∈ lw_all := in_all (List.mem_of_getElem? (i := 535) (by decide +kernel)) rfl
theorem w_483 : (Jvm.Cond.methodLink "PenStrike" (188 : Nat) yX5_swapTo) ∈ lw_all := in_all (List.mem_of_getElem? (i := 536) (by decide +kernel)) rfl
theorem w_484 : (Jvm.Cond.instanceMethod yX5_swapTo) ∈ lw_all := in_all (List.mem_of_getElem? (i := 537) (by decide +kernel)) rfl
theorem w_485 : (Jvm.Cond.selects "PenStrike$Plotter" yX5_swapTo yX5_swapTo) ∈ lw_all := in_all (List.mem_of_getElem? (i := 538) (by decide +kernel)) rfl
theorem w_486 : (Jvm.Cond.code yX5_swapTo prog_7_method_19_code (3 : Nat) (Option.some Jvm.ClassFile.FieldType.int)) ∈ lw_all := in_all (List.mem_of_getElem? (i := 539) (by decide +kernel)) rfl
theorem w_487 : (Jvm.Cond.methodLink "PenStrike$Plotter" (164 : Nat) yX5_passIdly) ∈ lw_all := in_all (List.mem_of_getElem? (i := 540) (by decide +kernel)) rfl
theorem w_488 : (Jvm.Cond.instanceMethod yX5_passIdly) ∈ lw_all := in_all (List.mem_of_getElem? (i := 541) (by decide +kernel)) rfl
theorem w_489 : (Jvm.Cond.selects "PenStrike$Plotter" yX5_passIdly yX5_passIdly) ∈ lw_all := in_all (List.mem_of_getElem? (i := 542) (by decide +kernel)) rfl
theorem w_490 : (Jvm.Cond.code yX5_passIdly prog_7_method_13_code (2 : Nat) (Option.none : Option Jvm.ClassFile.FieldType)) ∈ lw_all := in_all (List.mem_of_getElem? (i := 543) (by decide +kernel)) rfl
theorem w_491 : (Jvm.Cond.methodLink "PenStrikeLaw" (48 : Nat) yX7_home) ∈ lw_all := in_all (List.mem_of_getElem? (i := 544) (by decide +kernel)) rfl
theorem w_492 : (Jvm.Cond.instanceMethod yX7_home) ∈ lw_all := in_all (List.mem_of_getElem? (i := 545) (by decide +kernel)) rfl
theorem w_493 : (Jvm.Cond.selects "PenStrike" yX7_home yX7_home) ∈ lw_all := in_all (List.mem_of_getElem? (i := 546) (by decide +kernel)) rfl
theorem w_494 : (Jvm.Cond.code yX7_home prog_1_method_10_code (2 : Nat) (Option.some Jvm.ClassFile.FieldType.int)) ∈ lw_all := in_all (List.mem_of_getElem? (i := 547) (by decide +kernel)) rfl
theorem w_495 : (Jvm.Cond.methodLink "PenStrike" (191 : Nat) yX5_errorOfGoingHome) ∈ lw_all := in_all (List.mem_of_getElem? (i := 548) (by decide +kernel)) rfl
theorem w_496 : (Jvm.Cond.instanceMethod yX5_errorOfGoingHome) ∈ lw_all := in_all (List.mem_of_getElem? (i := 549) (by decide +kernel)) rfl
theorem w_497 : (Jvm.Cond.selects "PenStrike$Plotter" yX5_errorOfGoingHome yX5_errorOfGoingHome) ∈ lw_all := in_all (List.mem_of_getElem? (i := 550) (by decide +kernel)) rfl
theorem w_498 : (Jvm.Cond.code yX5_errorOfGoingHome prog_7_method_16_code (1 : Nat) (Option.some Jvm.ClassFile.FieldType.int)) ∈ lw_all := in_all (List.mem_of_getElem? (i := 551) (by decide +kernel)) rfl
theorem w_499 : (Jvm.Cond.methodLink "PenStrikeLaw" (53 : Nat) yX7_draw) ∈ lw_all := in_all (List.mem_of_getElem? (i := 552) (by decide +kernel)) rfl
theorem w_500 : (Jvm.Cond.instanceMethod yX7_draw) ∈ lw_all := in_all (List.mem_of_getElem? (i := 553) (by decide +kernel)) rfl
theorem w_501 : (Jvm.Cond.selects "PenStrike" yX7_draw yX7_draw) ∈ lw_all := in_all (List.mem_of_getElem? (i := 554) (by decide +kernel)) rfl
theorem w_502 : (Jvm.Cond.code yX7_draw prog_1_method_11_code (3 : Nat) (Option.some Jvm.ClassFile.FieldType.int)) ∈ lw_all := in_all (List.mem_of_getElem? (i := 555) (by decide +kernel)) rfl
theorem w_503 : (Jvm.Cond.methodLink "PenStrike" (194 : Nat) yX5_reasonAgainst) ∈ lw_all := in_all (List.mem_of_getElem? (i := 556) (by decide +kernel)) rfl
theorem w_504 : (Jvm.Cond.instanceMethod yX5_reasonAgainst) ∈ lw_all := in_all (List.mem_of_getElem? (i := 557) (by decide +kernel)) rfl
theorem w_505 : (Jvm.Cond.selects "PenStrike$Plotter" yX5_reasonAgainst yX5_reasonAgainst) ∈ lw_all := in_all (List.mem_of_getElem? (i := 558) (by decide +kernel)) rfl
theorem w_506 : (Jvm.Cond.code yX5_reasonAgainst prog_7_method_11_code (5 : Nat) (Option.some Jvm.ClassFile.FieldType.int)) ∈ lw_all := in_all (List.mem_of_getElem? (i := 559) (by decide +kernel)) rfl
theorem w_507 : (Jvm.Cond.methodLink "PenStrike$Plotter" (135 : Nat) yX5_isStriking) ∈ lw_all := in_all (List.mem_of_getElem? (i := 560) (by decide +kernel)) rfl
theorem w_508 : (Jvm.Cond.methodLink "PenStrike$Plotter" (141 : Nat) yX5_inkFor) ∈ lw_all := in_all (List.mem_of_getElem? (i := 561) (by decide +kernel)) rfl
theorem w_509 : (Jvm.Cond.instanceMethod yX5_inkFor) ∈ lw_all := in_all (List.mem_of_getElem? (i := 562) (by decide +kernel)) rfl
theorem w_510 : (Jvm.Cond.selects "PenStrike$Plotter" yX5_inkFor yX5_inkFor) ∈ lw_all := in_all (List.mem_of_getElem? (i := 563) (by decide +kernel)) rfl
theorem w_511 : (Jvm.Cond.code yX5_inkFor prog_7_method_8_code (3 : Nat) (Option.some Jvm.ClassFile.FieldType.int)) ∈ lw_all := in_all (List.mem_of_getElem? (i := 564) (by decide +kernel)) rfl
theorem w_512 : (Jvm.Cond.methodLink "PenStrike$Plotter" (144 : Nat) yX5_travelTo) ∈ lw_all := in_all (List.mem_of_getElem? (i := 565) (by decide +kernel)) rfl
theorem w_513 : (Jvm.Cond.instanceMethod yX5_travelTo) ∈ lw_all := in_all (List.mem_of_getElem? (i := 566) (by decide +kernel)) rfl
theorem w_514 : (Jvm.Cond.selects "PenStrike$Plotter" yX5_travelTo yX5_travelTo) ∈ lw_all := in_all (List.mem_of_getElem? (i := 567) (by decide +kernel)) rfl
theorem w_515 : (Jvm.Cond.code yX5_travelTo prog_7_method_9_code (3 : Nat) (Option.some Jvm.ClassFile.FieldType.int)) ∈ lw_all := in_all (List.mem_of_getElem? (i := 568) (by decide +kernel)) rfl
theorem w_516 : (Jvm.Cond.methodLink "PenStrike$Plotter" (115 : Nat) yX2_beginX) ∈ lw_all := in_all (List.mem_of_getElem? (i := 569) (by decide +kernel)) rfl
theorem w_517 : (Jvm.Cond.instanceMethod yX2_beginX) ∈ lw_all := in_all (List.mem_of_getElem? (i := 570) (by decide +kernel)) rfl
theorem w_518 : (Jvm.Cond.selects "PenStrike$Lines" yX2_beginX yX2_beginX) ∈ lw_all := in_all (List.mem_of_getElem? (i := 571) (by decide +kernel)) rfl
theorem w_519 : (Jvm.Cond.code yX2_beginX prog_4_method_8_code (3 : Nat) (Option.some Jvm.ClassFile.FieldType.int)) ∈ lw_all := in_all (List.mem_of_getElem? (i := 572) (by decide +kernel)) rfl
theorem w_520 : (Jvm.Cond.methodLink "PenStrike$Plotter" (119 : Nat) yX2_beginY) ∈ lw_all := in_all (List.mem_of_getElem? (i := 573) (by decide +kernel)) rfl
theorem w_521 : (Jvm.Cond.instanceMethod yX2_beginY) ∈ lw_all := in_all (List.mem_of_getElem? (i := 574) (by decide +kernel)) rfl
theorem w_522 : (Jvm.Cond.selects "PenStrike$Lines" yX2_beginY yX2_beginY) ∈ lw_all := in_all (List.mem_of_getElem? (i := 575) (by decide +kernel)) rfl
theorem w_523 : (Jvm.Cond.code yX2_beginY prog_4_method_9_code (3 : Nat) (Option.some Jvm.ClassFile.FieldType.int)) ∈ lw_all := in_all (List.mem_of_getElem? (i := 576) (by decide +kernel)) rfl
theorem w_524 : (Jvm.Cond.methodLinkNest "PenStrike$Plotter" (122 : Nat) yX7_distance "PenStrike") ∈ nwl := in_nwl (List.mem_of_getElem? (i := 577) (by decide +kernel)) rfl
theorem w_525 : (Jvm.Cond.methodLink "PenStrike$Plotter" (147 : Nat) yX5_dryTimeFor) ∈ lw_all := in_all (List.mem_of_getElem? (i := 578) (by decide +kernel)) rfl
theorem w_526 : (Jvm.Cond.instanceMethod yX5_dryTimeFor) ∈ lw_all := in_all (List.mem_of_getElem? (i := 579) (by decide +kernel)) rfl
theorem w_527 : (Jvm.Cond.selects "PenStrike$Plotter" yX5_dryTimeFor yX5_dryTimeFor) ∈ lw_all := in_all (List.mem_of_getElem? (i := 580) (by decide +kernel)) rfl
theorem w_528 : (Jvm.Cond.code yX5_dryTimeFor prog_7_method_10_code (4 : Nat) (Option.some Jvm.ClassFile.FieldType.int)) ∈ lw_all := in_all (List.mem_of_getElem? (i := 581) (by decide +kernel)) rfl
theorem w_529 : (Jvm.Cond.methodLink "PenStrike$Plotter" (126 : Nat) yX2_isTouching) ∈ lw_all := in_all (List.mem_of_getElem? (i := 582) (by decide +kernel)) rfl
theorem w_530 : (Jvm.Cond.instanceMethod yX2_isTouching) ∈ lw_all := in_all (List.mem_of_getElem? (i := 583) (by decide +kernel)) rfl
theorem w_531 : (Jvm.Cond.selects "PenStrike$Lines" yX2_isTouching yX2_isTouching) ∈ lw_all := in_all (List.mem_of_getElem? (i := 584) (by decide +kernel)) rfl
theorem w_532 : (Jvm.Cond.code yX2_isTouching prog_4_method_7_code (3 : Nat) (Option.some Jvm.ClassFile.FieldType.boolean)) ∈ lw_all := in_all (List.mem_of_getElem? (i := 585) (by decide +kernel)) rfl
theorem w_533 : (Jvm.Cond.methodLink "PenStrike$Plotter" (130 : Nat) yJ9_max_7cf53) ∈ lw_all := in_all (List.mem_of_getElem? (i := 586) (by decide +kernel)) rfl
theorem w_534 : (Jvm.Cond.methodLink "PenStrike" (197 : Nat) yX5_drawByHand) ∈ lw_all := in_all (List.mem_of_getElem? (i := 587) (by decide +kernel)) rfl
theorem w_535 : (Jvm.Cond.instanceMethod yX5_drawByHand) ∈ lw_all := in_all (List.mem_of_getElem? (i := 588) (by decide +kernel)) rfl
theorem w_536 : (Jvm.Cond.selects "PenStrike$Plotter" yX5_drawByHand yX5_drawByHand) ∈ lw_all := in_all (List.mem_of_getElem? (i := 589) (by decide +kernel)) rfl
theorem w_537 : (Jvm.Cond.code yX5_drawByHand prog_7_method_12_code (5 : Nat) (Option.none : Option Jvm.ClassFile.FieldType)) ∈ lw_all := in_all (List.mem_of_getElem? (i := 590) (by decide +kernel)) rfl
theorem w_538 : (Jvm.Cond.methodLink "PenStrikeLaw" (57 : Nat) yX7_erase) ∈ lw_all := in_all (List.mem_of_getElem? (i := 591) (by decide +kernel)) rfl
theorem w_539 : (Jvm.Cond.instanceMethod yX7_erase) ∈ lw_all := in_all (List.mem_of_getElem? (i := 592) (by decide +kernel)) rfl
theorem w_540 : (Jvm.Cond.selects "PenStrike" yX7_erase yX7_erase) ∈ lw_all := in_all (List.mem_of_getElem? (i := 593) (by decide +kernel)) rfl
theorem w_541 : (Jvm.Cond.code yX7_erase prog_1_method_12_code (3 : Nat) (Option.some Jvm.ClassFile.FieldType.int)) ∈ lw_all := in_all (List.mem_of_getElem? (i := 594) (by decide +kernel)) rfl
theorem w_542 : (Jvm.Cond.methodLink "PenStrikeLaw" (61 : Nat) yX7_waits) ∈ lw_all := in_all (List.mem_of_getElem? (i := 595) (by decide +kernel)) rfl
theorem w_543 : (Jvm.Cond.instanceMethod yX7_waits) ∈ lw_all := in_all (List.mem_of_getElem? (i := 596) (by decide +kernel)) rfl
theorem w_544 : (Jvm.Cond.selects "PenStrike" yX7_waits yX7_waits) ∈ lw_all := in_all (List.mem_of_getElem? (i := 597) (by decide +kernel)) rfl
theorem w_545 : (Jvm.Cond.code yX7_waits prog_1_method_13_code (3 : Nat) (Option.some Jvm.ClassFile.FieldType.int)) ∈ lw_all := in_all (List.mem_of_getElem? (i := 598) (by decide +kernel)) rfl
theorem w_546 : (Jvm.Cond.methodLink "PenStrike" (204 : Nat) yX5_errorOfWaiting) ∈ lw_all := in_all (List.mem_of_getElem? (i := 599) (by decide +kernel)) rfl
theorem w_547 : (Jvm.Cond.instanceMethod yX5_errorOfWaiting) ∈ lw_all := in_all (List.mem_of_getElem? (i := 600) (by decide +kernel)) rfl
theorem w_548 : (Jvm.Cond.selects "PenStrike$Plotter" yX5_errorOfWaiting yX5_errorOfWaiting) ∈ lw_all := in_all (List.mem_of_getElem? (i := 601) (by decide +kernel)) rfl
theorem w_549 : (Jvm.Cond.code yX5_errorOfWaiting prog_7_method_17_code (2 : Nat) (Option.some Jvm.ClassFile.FieldType.int)) ∈ lw_all := in_all (List.mem_of_getElem? (i := 602) (by decide +kernel)) rfl
theorem w_550 : (Jvm.Cond.methodLinkNest "PenStrike$Plotter" (159 : Nat) yX7_isIn "PenStrike") ∈ nwl := in_nwl (List.mem_of_getElem? (i := 603) (by decide +kernel)) rfl
theorem w_551 : (Jvm.Cond.constant "PenStrike$Plotter" (163 : Nat) (-1000001 : Int32)) ∈ lw_all := in_all (List.mem_of_getElem? (i := 604) (by decide +kernel)) rfl
theorem w_552 : (Jvm.Cond.methodLink "PenStrike" (207 : Nat) yX5_passIdly) ∈ lw_all := in_all (List.mem_of_getElem? (i := 605) (by decide +kernel)) rfl
theorem w_553 : (Jvm.Cond.methodLink "PenStrikeLaw" (65 : Nat) yX7_clean) ∈ lw_all := in_all (List.mem_of_getElem? (i := 606) (by decide +kernel)) rfl
theorem w_554 : (Jvm.Cond.instanceMethod yX7_clean) ∈ lw_all := in_all (List.mem_of_getElem? (i := 607) (by decide +kernel)) rfl
theorem w_555 : (Jvm.Cond.selects "PenStrike" yX7_clean yX7_clean) ∈ lw_all := in_all (List.mem_of_getElem? (i := 608) (by decide +kernel)) rfl
theorem w_556 : (Jvm.Cond.code yX7_clean prog_1_method_14_code (2 : Nat) (Option.some Jvm.ClassFile.FieldType.int)) ∈ lw_all := in_all (List.mem_of_getElem? (i := 609) (by decide +kernel)) rfl
theorem w_557 : (Jvm.Cond.methodLink "PenStrike" (211 : Nat) yX5_errorOfCleaning) ∈ lw_all := in_all (List.mem_of_getElem? (i := 610) (by decide +kernel)) rfl
theorem w_558 : (Jvm.Cond.instanceMethod yX5_errorOfCleaning) ∈ lw_all := in_all (List.mem_of_getElem? (i := 611) (by decide +kernel)) rfl
theorem w_559 : (Jvm.Cond.selects "PenStrike$Plotter" yX5_errorOfCleaning yX5_errorOfCleaning) ∈ lw_all := in_all (List.mem_of_getElem? (i := 612) (by decide +kernel)) rfl
theorem w_560 : (Jvm.Cond.code yX5_errorOfCleaning prog_7_method_18_code (1 : Nat) (Option.some Jvm.ClassFile.FieldType.int)) ∈ lw_all := in_all (List.mem_of_getElem? (i := 613) (by decide +kernel)) rfl
theorem w_561 : (Jvm.Cond.methodLink "PenStrike" (214 : Nat) yX5_cleanHand) ∈ lw_all := in_all (List.mem_of_getElem? (i := 614) (by decide +kernel)) rfl
theorem w_562 : (Jvm.Cond.instanceMethod yX5_cleanHand) ∈ lw_all := in_all (List.mem_of_getElem? (i := 615) (by decide +kernel)) rfl
theorem w_563 : (Jvm.Cond.selects "PenStrike$Plotter" yX5_cleanHand yX5_cleanHand) ∈ lw_all := in_all (List.mem_of_getElem? (i := 616) (by decide +kernel)) rfl
theorem w_564 : (Jvm.Cond.code yX5_cleanHand prog_7_method_20_code (2 : Nat) (Option.some Jvm.ClassFile.FieldType.int)) ∈ lw_all := in_all (List.mem_of_getElem? (i := 617) (by decide +kernel)) rfl
theorem w_565 : (Jvm.Cond.methodLink "PenStrikeLaw" (69 : Nat) yX7_whyNot) ∈ lw_all := in_all (List.mem_of_getElem? (i := 618) (by decide +kernel)) rfl
theorem w_566 : (Jvm.Cond.instanceMethod yX7_whyNot) ∈ lw_all := in_all (List.mem_of_getElem? (i := 619) (by decide +kernel)) rfl
theorem w_567 : (Jvm.Cond.selects "PenStrike" yX7_whyNot yX7_whyNot) ∈ lw_all := in_all (List.mem_of_getElem? (i := 620) (by decide +kernel)) rfl
theorem w_568 : (Jvm.Cond.code yX7_whyNot prog_1_method_15_code (3 : Nat) (Option.some Jvm.ClassFile.FieldType.int)) ∈ lw_all := in_all (List.mem_of_getElem? (i := 621) (by decide +kernel)) rfl
theorem w_569 : (Jvm.Cond.methodLink "PenStrikeLaw" (73 : Nat) yX7_waitFor) ∈ lw_all := in_all (List.mem_of_getElem? (i := 622) (by decide +kernel)) rfl
theorem w_570 : (Jvm.Cond.instanceMethod yX7_waitFor) ∈ lw_all := in_all (List.mem_of_getElem? (i := 623) (by decide +kernel)) rfl
theorem w_571 : (Jvm.Cond.selects "PenStrike" yX7_waitFor yX7_waitFor) ∈ lw_all := in_all (List.mem_of_getElem? (i := 624) (by decide +kernel)) rfl
theorem w_572 : (Jvm.Cond.code yX7_waitFor prog_1_method_16_code (5 : Nat) (Option.some Jvm.ClassFile.FieldType.int)) ∈ lw_all := in_all (List.mem_of_getElem? (i := 625) (by decide +kernel)) rfl
theorem w_573 : (Jvm.Cond.methodLink "PenStrike" (217 : Nat) yX5_travelTo) ∈ lw_all := in_all (List.mem_of_getElem? (i := 626) (by decide +kernel)) rfl
theorem w_574 : (Jvm.Cond.methodLink "PenStrike" (221 : Nat) yX5_dryTimeFor) ∈ lw_all := in_all (List.mem_of_getElem? (i := 627) (by decide +kernel)) rfl
theorem w_575 : (Jvm.Cond.methodLink "PenStrikeLaw" (77 : Nat) yX7_strikers) ∈ lw_all := in_all (List.mem_of_getElem? (i := 628) (by decide +kernel)) rfl
theorem w_576 : (Jvm.Cond.instanceMethod yX7_strikers) ∈ lw_all := in_all (List.mem_of_getElem? (i := 629) (by decide +kernel)) rfl
theorem w_577 : (Jvm.Cond.selects "PenStrike" yX7_strikers yX7_strikers) ∈ lw_all := in_all (List.mem_of_getElem? (i := 630) (by decide +kernel)) rfl
theorem w_578 : (Jvm.Cond.code yX7_strikers prog_1_method_17_code (3 : Nat) (Option.some Jvm.ClassFile.FieldType.int)) ∈ lw_all := in_all (List.mem_of_getElem? (i := 631) (by decide +kernel)) rfl
theorem w_579 : (Jvm.Cond.methodLink "PenStrikeLaw" (81 : Nat) yX7_room) ∈ lw_all := in_all (List.mem_of_getElem? (i := 632) (by decide +kernel)) rfl
theorem w_580 : (Jvm.Cond.instanceMethod yX7_room) ∈ lw_all := in_all (List.mem_of_getElem? (i := 633) (by decide +kernel)) rfl
theorem w_581 : (Jvm.Cond.selects "PenStrike" yX7_room yX7_room) ∈ lw_all := in_all (List.mem_of_getElem? (i := 634) (by decide +kernel)) rfl
theorem w_582 : (Jvm.Cond.code yX7_room prog_1_method_18_code (3 : Nat) (Option.some Jvm.ClassFile.FieldType.int)) ∈ lw_all := in_all (List.mem_of_getElem? (i := 635) (by decide +kernel)) rfl
theorem w_583 : (Jvm.Cond.methodLink "PenStrike" (229 : Nat) yX4_isAway) ∈ lw_all := in_all (List.mem_of_getElem? (i := 636) (by decide +kernel)) rfl
theorem w_584 : (Jvm.Cond.methodLink "PenStrike" (232 : Nat) yX4_leastDrawnBut) ∈ lw_all := in_all (List.mem_of_getElem? (i := 637) (by decide +kernel)) rfl
theorem w_585 : (Jvm.Cond.methodLink "PenStrikeLaw" (85 : Nat) yX7_spread) ∈ lw_all := in_all (List.mem_of_getElem? (i := 638) (by decide +kernel)) rfl
theorem w_586 : (Jvm.Cond.instanceMethod yX7_spread) ∈ lw_all := in_all (List.mem_of_getElem? (i := 639) (by decide +kernel)) rfl
theorem w_587 : (Jvm.Cond.selects "PenStrike" yX7_spread yX7_spread) ∈ lw_all := in_all (List.mem_of_getElem? (i := 640) (by decide +kernel)) rfl
theorem w_588 : (Jvm.Cond.code yX7_spread prog_1_method_19_code (1 : Nat) (Option.some Jvm.ClassFile.FieldType.int)) ∈ lw_all := in_all (List.mem_of_getElem? (i := 641) (by decide +kernel)) rfl
theorem w_589 : (Jvm.Cond.methodLink "PenStrike" (235 : Nat) yX4_spreadOf) ∈ lw_all := in_all (List.mem_of_getElem? (i := 642) (by decide +kernel)) rfl
theorem w_590 : (Jvm.Cond.instanceMethod yX4_spreadOf) ∈ lw_all := in_all (List.mem_of_getElem? (i := 643) (by decide +kernel)) rfl
theorem w_591 : (Jvm.Cond.selects "PenStrike$Pens" yX4_spreadOf yX4_spreadOf) ∈ lw_all := in_all (List.mem_of_getElem? (i := 644) (by decide +kernel)) rfl
theorem w_592 : (Jvm.Cond.code yX4_spreadOf prog_6_method_9_code (5 : Nat) (Option.some Jvm.ClassFile.FieldType.int)) ∈ lw_all := in_all (List.mem_of_getElem? (i := 645) (by decide +kernel)) rfl
theorem w_593 : (Jvm.Cond.methodLink "PenStrike$Pens" (49 : Nat) yJ9_min_7cf53) ∈ lw_all := in_all (List.mem_of_getElem? (i := 646) (by decide +kernel)) rfl
theorem w_594 : (Jvm.Cond.methodLink "PenStrike$Pens" (55 : Nat) yJ9_max_7cf53) ∈ lw_all := in_all (List.mem_of_getElem? (i := 647) (by decide +kernel)) rfl
theorem w_595 : (Jvm.Cond.constant "PenStrike$Pens" (58 : Nat) (-1000004 : Int32)) ∈ lw_all := in_all (List.mem_of_getElem? (i := 648) (by decide +kernel)) rfl
theorem w_596 : (Jvm.Cond.methodLink "PenStrikeLaw" (89 : Nat) yX7_touch) ∈ lw_all := in_all (List.mem_of_getElem? (i := 649) (by decide +kernel)) rfl
theorem w_597 : (Jvm.Cond.instanceMethod yX7_touch) ∈ lw_all := in_all (List.mem_of_getElem? (i := 650) (by decide +kernel)) rfl
theorem w_598 : (Jvm.Cond.selects "PenStrike" yX7_touch yX7_touch) ∈ lw_all := in_all (List.mem_of_getElem? (i := 651) (by decide +kernel)) rfl
theorem w_599 : (Jvm.Cond.code yX7_touch prog_1_method_20_code (3 : Nat) (Option.some Jvm.ClassFile.FieldType.int)) ∈ lw_all := in_all (List.mem_of_getElem? (i := 652) (by decide +kernel)) rfl
theorem w_600 : (Jvm.Cond.methodLink "PenStrike" (239 : Nat) yX2_isTouching) ∈ lw_all := in_all (List.mem_of_getElem? (i := 653) (by decide +kernel)) rfl
theorem w_601 : (Jvm.Cond.methodLink "PenStrikeLaw" (93 : Nat) yX7_touching) ∈ lw_all := in_all (List.mem_of_getElem? (i := 654) (by decide +kernel)) rfl
theorem w_602 : (Jvm.Cond.instanceMethod yX7_touching) ∈ lw_all := in_all (List.mem_of_getElem? (i := 655) (by decide +kernel)) rfl
theorem w_603 : (Jvm.Cond.selects "PenStrike" yX7_touching yX7_touching) ∈ lw_all := in_all (List.mem_of_getElem? (i := 656) (by decide +kernel)) rfl
theorem w_604 : (Jvm.Cond.code yX7_touching prog_1_method_21_code (2 : Nat) (Option.some Jvm.ClassFile.FieldType.int)) ∈ lw_all := in_all (List.mem_of_getElem? (i := 657) (by decide +kernel)) rfl
theorem w_605 : (Jvm.Cond.methodLink "PenStrikeLaw" (97 : Nat) yX7_seams) ∈ lw_all := in_all (List.mem_of_getElem? (i := 658) (by decide +kernel)) rfl
theorem w_606 : (Jvm.Cond.instanceMethod yX7_seams) ∈ lw_all := in_all (List.mem_of_getElem? (i := 659) (by decide +kernel)) rfl
theorem w_607 : (Jvm.Cond.selects "PenStrike" yX7_seams yX7_seams) ∈ lw_all := in_all (List.mem_of_getElem? (i := 660) (by decide +kernel)) rfl
theorem w_608 : (Jvm.Cond.code yX7_seams prog_1_method_22_code (3 : Nat) (Option.some Jvm.ClassFile.FieldType.int)) ∈ lw_all := in_all (List.mem_of_getElem? (i := 661) (by decide +kernel)) rfl
theorem w_609 : (Jvm.Cond.methodLink "PenStrike" (245 : Nat) yX2_seamsFirstMetAt) ∈ lw_all := in_all (List.mem_of_getElem? (i := 662) (by decide +kernel)) rfl
theorem w_610 : (Jvm.Cond.instanceMethod yX2_seamsFirstMetAt) ∈ lw_all := in_all (List.mem_of_getElem? (i := 663) (by decide +kernel)) rfl
theorem w_611 : (Jvm.Cond.selects "PenStrike$Lines" yX2_seamsFirstMetAt yX2_seamsFirstMetAt) ∈ lw_all := in_all (List.mem_of_getElem? (i := 664) (by decide +kernel)) rfl
theorem w_612 : (Jvm.Cond.code yX2_seamsFirstMetAt prog_4_method_20_code (2 : Nat) (Option.some Jvm.ClassFile.FieldType.int)) ∈ lw_all := in_all (List.mem_of_getElem? (i := 665) (by decide +kernel)) rfl
theorem w_613 : (Jvm.Cond.methodLink "PenStrike$Lines" (93 : Nat) yX2_firstDrawnWithEnd) ∈ lw_all := in_all (List.mem_of_getElem? (i := 666) (by decide +kernel)) rfl
theorem w_615 : (Jvm.Cond.instanceMethod yX2_firstDrawnWithEnd) ∈ lw_all := in_all (List.mem_of_getElem? (i := 668) (by decide +kernel)) rfl
theorem w_616 : (Jvm.Cond.code yX2_firstDrawnWithEnd prog_4_method_17_code (4 : Nat) (Option.some Jvm.ClassFile.FieldType.int)) ∈ lw_all := in_all (List.mem_of_getElem? (i := 669) (by decide +kernel)) rfl
theorem w_617 : (Jvm.Cond.methodLink "PenStrike$Lines" (90 : Nat) yX2_isDrawnWithEnd) ∈ lw_all := in_all (List.mem_of_getElem? (i := 670) (by decide +kernel)) rfl
theorem w_619 : (Jvm.Cond.instanceMethod yX2_isDrawnWithEnd) ∈ lw_all := in_all (List.mem_of_getElem? (i := 672) (by decide +kernel)) rfl
theorem w_620 : (Jvm.Cond.code yX2_isDrawnWithEnd prog_4_method_16_code (4 : Nat) (Option.some Jvm.ClassFile.FieldType.boolean)) ∈ lw_all := in_all (List.mem_of_getElem? (i := 673) (by decide +kernel)) rfl
theorem w_621 : (Jvm.Cond.methodLink "PenStrike$Lines" (66 : Nat) yX2_isDrawn) ∈ lw_all := in_all (List.mem_of_getElem? (i := 674) (by decide +kernel)) rfl
theorem w_622 : (Jvm.Cond.methodLink "PenStrike$Lines" (99 : Nat) yX2_isSeam) ∈ lw_all := in_all (List.mem_of_getElem? (i := 675) (by decide +kernel)) rfl
theorem w_624 : (Jvm.Cond.instanceMethod yX2_isSeam) ∈ lw_all := in_all (List.mem_of_getElem? (i := 677) (by decide +kernel)) rfl
theorem w_625 : (Jvm.Cond.code yX2_isSeam prog_4_method_19_code (4 : Nat) (Option.some Jvm.ClassFile.FieldType.boolean)) ∈ lw_all := in_all (List.mem_of_getElem? (i := 678) (by decide +kernel)) rfl
theorem w_626 : (Jvm.Cond.methodLink "PenStrike$Lines" (96 : Nat) yX2_endsThereByAnother) ∈ lw_all := in_all (List.mem_of_getElem? (i := 679) (by decide +kernel)) rfl
theorem w_628 : (Jvm.Cond.instanceMethod yX2_endsThereByAnother) ∈ lw_all := in_all (List.mem_of_getElem? (i := 681) (by decide +kernel)) rfl
theorem w_629 : (Jvm.Cond.code yX2_endsThereByAnother prog_4_method_18_code (5 : Nat) (Option.some Jvm.ClassFile.FieldType.boolean)) ∈ lw_all := in_all (List.mem_of_getElem? (i := 682) (by decide +kernel)) rfl
theorem w_630 : (Jvm.Cond.methodLink "PenStrikeLaw" (101 : Nat) yX7_seamsBy) ∈ lw_all := in_all (List.mem_of_getElem? (i := 683) (by decide +kernel)) rfl
theorem w_631 : (Jvm.Cond.instanceMethod yX7_seamsBy) ∈ lw_all := in_all (List.mem_of_getElem? (i := 684) (by decide +kernel)) rfl
theorem w_632 : (Jvm.Cond.selects "PenStrike" yX7_seamsBy yX7_seamsBy) ∈ lw_all := in_all (List.mem_of_getElem? (i := 685) (by decide +kernel)) rfl
theorem w_633 : (Jvm.Cond.code yX7_seamsBy prog_1_method_23_code (3 : Nat) (Option.some Jvm.ClassFile.FieldType.int)) ∈ lw_all := in_all (List.mem_of_getElem? (i := 686) (by decide +kernel)) rfl
theorem w_634 : (Jvm.Cond.methodLink "PenStrike" (248 : Nat) yX2_wouldBecomeSeam) ∈ lw_all := in_all (List.mem_of_getElem? (i := 687) (by decide +kernel)) rfl
theorem w_635 : (Jvm.Cond.instanceMethod yX2_wouldBecomeSeam) ∈ lw_all := in_all (List.mem_of_getElem? (i := 688) (by decide +kernel)) rfl
theorem w_636 : (Jvm.Cond.selects "PenStrike$Lines" yX2_wouldBecomeSeam yX2_wouldBecomeSeam) ∈ lw_all := in_all (List.mem_of_getElem? (i := 689) (by decide +kernel)) rfl
theorem w_637 : (Jvm.Cond.code yX2_wouldBecomeSeam prog_4_method_21_code (4 : Nat) (Option.some Jvm.ClassFile.FieldType.boolean)) ∈ lw_all := in_all (List.mem_of_getElem? (i := 690) (by decide +kernel)) rfl
theorem w_638 : (Jvm.Cond.methodLink "PenStrikeLaw" (105 : Nat) yX7_meanShade) ∈ lw_all := in_all (List.mem_of_getElem? (i := 691) (by decide +kernel)) rfl
theorem w_639 : (Jvm.Cond.instanceMethod yX7_meanShade) ∈ lw_all := in_all (List.mem_of_getElem? (i := 692) (by decide +kernel)) rfl
theorem w_640 : (Jvm.Cond.selects "PenStrike" yX7_meanShade yX7_meanShade) ∈ lw_all := in_all (List.mem_of_getElem? (i := 693) (by decide +kernel)) rfl
theorem w_641 : (Jvm.Cond.code yX7_meanShade prog_1_method_24_code (5 : Nat) (Option.some Jvm.ClassFile.FieldType.int)) ∈ lw_all := in_all (List.mem_of_getElem? (i := 694) (by decide +kernel)) rfl
theorem w_642 : (Jvm.Cond.methodLink "PenStrikeLaw" (109 : Nat) yX7_fair) ∈ lw_all := in_all (List.mem_of_getElem? (i := 695) (by decide +kernel)) rfl
theorem w_643 : (Jvm.Cond.instanceMethod yX7_fair) ∈ lw_all := in_all (List.mem_of_getElem? (i := 696) (by decide +kernel)) rfl
theorem w_644 : (Jvm.Cond.selects "PenStrike" yX7_fair yX7_fair) ∈ lw_all := in_all (List.mem_of_getElem? (i := 697) (by decide +kernel)) rfl
theorem w_645 : (Jvm.Cond.code yX7_fair prog_1_method_25_code (3 : Nat) (Option.some Jvm.ClassFile.FieldType.int)) ∈ lw_all := in_all (List.mem_of_getElem? (i := 698) (by decide +kernel)) rfl
theorem w_646 : (Jvm.Cond.methodLink "PenStrike" (251 : Nat) yX0_make) ∈ lw_all := in_all (List.mem_of_getElem? (i := 699) (by decide +kernel)) rfl
theorem w_647 : (Jvm.Cond.instanceMethod yX0_make) ∈ lw_all := in_all (List.mem_of_getElem? (i := 700) (by decide +kernel)) rfl
theorem w_648 : (Jvm.Cond.selects "PenStrike$FairPlan" yX0_make yX0_make) ∈ lw_all := in_all (List.mem_of_getElem? (i := 701) (by decide +kernel)) rfl
theorem w_649 : (Jvm.Cond.code yX0_make prog_2_method_2_code (6 : Nat) (Option.none : Option Jvm.ClassFile.FieldType)) ∈ lw_all := in_all (List.mem_of_getElem? (i := 702) (by decide +kernel)) rfl
theorem w_650 : (Jvm.Cond.methodLinkNest "PenStrike$FairPlan" (23 : Nat) yX7_copy "PenStrike") ∈ nwl := in_nwl (List.mem_of_getElem? (i := 703) (by decide +kernel)) rfl
theorem w_651 : (Jvm.Cond.methodLink "PenStrike$FairPlan" (33 : Nat) yX0_longestLeft) ∈ lw_all := in_all (List.mem_of_getElem? (i := 704) (by decide +kernel)) rfl
theorem w_653 : (Jvm.Cond.instanceMethod yX0_longestLeft) ∈ lw_all := in_all (List.mem_of_getElem? (i := 706) (by decide +kernel)) rfl
theorem w_654 : (Jvm.Cond.code yX0_longestLeft prog_2_method_3_code (5 : Nat) (Option.some Jvm.ClassFile.FieldType.int)) ∈ lw_all := in_all (List.mem_of_getElem? (i := 707) (by decide +kernel)) rfl
theorem w_655 : (Jvm.Cond.methodLink "PenStrike$FairPlan" (44 : Nat) yX2_isDrawn) ∈ lw_all := in_all (List.mem_of_getElem? (i := 708) (by decide +kernel)) rfl
theorem w_656 : (Jvm.Cond.methodLink "PenStrike$FairPlan" (37 : Nat) yX0_leastLoaded) ∈ lw_all := in_all (List.mem_of_getElem? (i := 709) (by decide +kernel)) rfl
theorem w_658 : (Jvm.Cond.instanceMethod yX0_leastLoaded) ∈ lw_all := in_all (List.mem_of_getElem? (i := 711) (by decide +kernel)) rfl
theorem w_659 : (Jvm.Cond.code yX0_leastLoaded prog_2_method_4_code (4 : Nat) (Option.some Jvm.ClassFile.FieldType.int)) ∈ lw_all := in_all (List.mem_of_getElem? (i := 712) (by decide +kernel)) rfl
theorem w_660 : (Jvm.Cond.methodLink "PenStrike$FairPlan" (49 : Nat) yX4_isAway) ∈ lw_all := in_all (List.mem_of_getElem? (i := 713) (by decide +kernel)) rfl
theorem w_661 : (Jvm.Cond.methodLink "PenStrikeLaw" (113 : Nat) yX7_fairSpread) ∈ lw_all := in_all (List.mem_of_getElem? (i := 714) (by decide +kernel)) rfl
theorem w_662 : (Jvm.Cond.instanceMethod yX7_fairSpread) ∈ lw_all := in_all (List.mem_of_getElem? (i := 715) (by decide +kernel)) rfl
theorem w_663 : (Jvm.Cond.selects "PenStrike" yX7_fairSpread yX7_fairSpread) ∈ lw_all := in_all (List.mem_of_getElem? (i := 716) (by decide +kernel)) rfl
theorem w_664 : (Jvm.Cond.code yX7_fairSpread prog_1_method_26_code (1 : Nat) (Option.some Jvm.ClassFile.FieldType.int)) ∈ lw_all := in_all (List.mem_of_getElem? (i := 717) (by decide +kernel)) rfl
theorem w_665 : (Jvm.Cond.methodLink "PenStrikeLaw" (117 : Nat) yX7_tour) ∈ lw_all := in_all (List.mem_of_getElem? (i := 718) (by decide +kernel)) rfl
theorem w_666 : (Jvm.Cond.instanceMethod yX7_tour) ∈ lw_all := in_all (List.mem_of_getElem? (i := 719) (by decide +kernel)) rfl
theorem w_667 : (Jvm.Cond.selects "PenStrike" yX7_tour yX7_tour) ∈ lw_all := in_all (List.mem_of_getElem? (i := 720) (by decide +kernel)) rfl
theorem w_668 : (Jvm.Cond.code yX7_tour prog_1_method_27_code (3 : Nat) (Option.some Jvm.ClassFile.FieldType.int)) ∈ lw_all := in_all (List.mem_of_getElem? (i := 721) (by decide +kernel)) rfl
theorem w_669 : (Jvm.Cond.methodLink "PenStrike" (261 : Nat) yX6_make) ∈ lw_all := in_all (List.mem_of_getElem? (i := 722) (by decide +kernel)) rfl
theorem w_670 : (Jvm.Cond.instanceMethod yX6_make) ∈ lw_all := in_all (List.mem_of_getElem? (i := 723) (by decide +kernel)) rfl
theorem w_671 : (Jvm.Cond.selects "PenStrike$Route" yX6_make yX6_make) ∈ lw_all := in_all (List.mem_of_getElem? (i := 724) (by decide +kernel)) rfl
theorem w_672 : (Jvm.Cond.code yX6_make prog_8_method_2_code (6 : Nat) (Option.none : Option Jvm.ClassFile.FieldType)) ∈ lw_all := in_all (List.mem_of_getElem? (i := 725) (by decide +kernel)) rfl
theorem w_673 : (Jvm.Cond.methodLink "PenStrike$Route" (46 : Nat) yX6_nearestLeft) ∈ lw_all := in_all (List.mem_of_getElem? (i := 726) (by decide +kernel)) rfl
theorem w_675 : (Jvm.Cond.instanceMethod yX6_nearestLeft) ∈ lw_all := in_all (List.mem_of_getElem? (i := 728) (by decide +kernel)) rfl
theorem w_676 : (Jvm.Cond.code yX6_nearestLeft prog_8_method_3_code (7 : Nat) (Option.some Jvm.ClassFile.FieldType.int)) ∈ lw_all := in_all (List.mem_of_getElem? (i := 729) (by decide +kernel)) rfl
theorem w_677 : (Jvm.Cond.methodLink "PenStrike$Route" (62 : Nat) yX6_travelTo) ∈ lw_all := in_all (List.mem_of_getElem? (i := 730) (by decide +kernel)) rfl
theorem w_679 : (Jvm.Cond.instanceMethod yX6_travelTo) ∈ lw_all := in_all (List.mem_of_getElem? (i := 732) (by decide +kernel)) rfl
theorem w_680 : (Jvm.Cond.code yX6_travelTo prog_8_method_4_code (4 : Nat) (Option.some Jvm.ClassFile.FieldType.int)) ∈ lw_all := in_all (List.mem_of_getElem? (i := 733) (by decide +kernel)) rfl
theorem w_681 : (Jvm.Cond.methodLink "PenStrike$Route" (72 : Nat) yX2_beginX) ∈ lw_all := in_all (List.mem_of_getElem? (i := 734) (by decide +kernel)) rfl
theorem w_682 : (Jvm.Cond.methodLink "PenStrike$Route" (75 : Nat) yX2_beginY) ∈ lw_all := in_all (List.mem_of_getElem? (i := 735) (by decide +kernel)) rfl
theorem w_683 : (Jvm.Cond.methodLinkNest "PenStrike$Route" (78 : Nat) yX7_distance "PenStrike") ∈ nwl := in_nwl (List.mem_of_getElem? (i := 736) (by decide +kernel)) rfl
theorem w_684 : (Jvm.Cond.methodLink "PenStrike$Route" (66 : Nat) yJ9_min_7cf53) ∈ lw_all := in_all (List.mem_of_getElem? (i := 737) (by decide +kernel)) rfl
theorem w_685 : (Jvm.Cond.methodLink "PenStrike$Route" (50 : Nat) yX6_goAlong) ∈ lw_all := in_all (List.mem_of_getElem? (i := 738) (by decide +kernel)) rfl
theorem w_687 : (Jvm.Cond.instanceMethod yX6_goAlong) ∈ lw_all := in_all (List.mem_of_getElem? (i := 740) (by decide +kernel)) rfl
theorem w_688 : (Jvm.Cond.code yX6_goAlong prog_8_method_5_code (5 : Nat) (Option.some Jvm.ClassFile.FieldType.int)) ∈ lw_all := in_all (List.mem_of_getElem? (i := 741) (by decide +kernel)) rfl
theorem w_689 : (Jvm.Cond.methodLink "PenStrikeLaw" (121 : Nat) yX7_count) ∈ lw_all := in_all (List.mem_of_getElem? (i := 742) (by decide +kernel)) rfl
theorem w_690 : (Jvm.Cond.instanceMethod yX7_count) ∈ lw_all := in_all (List.mem_of_getElem? (i := 743) (by decide +kernel)) rfl
theorem w_691 : (Jvm.Cond.selects "PenStrike" yX7_count yX7_count) ∈ lw_all := in_all (List.mem_of_getElem? (i := 744) (by decide +kernel)) rfl
theorem w_692 : (Jvm.Cond.code yX7_count prog_1_method_28_code (2 : Nat) (Option.some Jvm.ClassFile.FieldType.int)) ∈ lw_all := in_all (List.mem_of_getElem? (i := 745) (by decide +kernel)) rfl
theorem w_693 : (Jvm.Cond.methodLink "PenStrike" (274 : Nat) yX2_howManyDrawn) ∈ lw_all := in_all (List.mem_of_getElem? (i := 746) (by decide +kernel)) rfl
theorem w_694 : (Jvm.Cond.instanceMethod yX2_howManyDrawn) ∈ lw_all := in_all (List.mem_of_getElem? (i := 747) (by decide +kernel)) rfl
theorem w_695 : (Jvm.Cond.selects "PenStrike$Lines" yX2_howManyDrawn yX2_howManyDrawn) ∈ lw_all := in_all (List.mem_of_getElem? (i := 748) (by decide +kernel)) rfl
theorem w_696 : (Jvm.Cond.code yX2_howManyDrawn prog_4_method_11_code (3 : Nat) (Option.some Jvm.ClassFile.FieldType.int)) ∈ lw_all := in_all (List.mem_of_getElem? (i := 749) (by decide +kernel)) rfl
theorem w_697 : (Jvm.Cond.methodLink "PenStrike" (277 : Nat) yX5_howManyWet) ∈ lw_all := in_all (List.mem_of_getElem? (i := 750) (by decide +kernel)) rfl
theorem w_698 : (Jvm.Cond.instanceMethod yX5_howManyWet) ∈ lw_all := in_all (List.mem_of_getElem? (i := 751) (by decide +kernel)) rfl
theorem w_699 : (Jvm.Cond.selects "PenStrike$Plotter" yX5_howManyWet yX5_howManyWet) ∈ lw_all := in_all (List.mem_of_getElem? (i := 752) (by decide +kernel)) rfl
theorem w_700 : (Jvm.Cond.code yX5_howManyWet prog_7_method_6_code (3 : Nat) (Option.some Jvm.ClassFile.FieldType.int)) ∈ lw_all := in_all (List.mem_of_getElem? (i := 753) (by decide +kernel)) rfl
theorem w_701 : (Jvm.Cond.methodLink "PenStrike$Plotter" (90 : Nat) yX5_isWet) ∈ lw_all := in_all (List.mem_of_getElem? (i := 754) (by decide +kernel)) rfl
theorem w_702 : (Jvm.Cond.methodLinkNest "PenStrike$Plotter" (93 : Nat) yX7_asBit "PenStrike") ∈ nwl := in_nwl (List.mem_of_getElem? (i := 755) (by decide +kernel)) rfl
theorem w_703 : (Jvm.Cond.methodLink "PenStrike" (284 : Nat) yX2_lengthNotDrawn) ∈ lw_all := in_all (List.mem_of_getElem? (i := 756) (by decide +kernel)) rfl
theorem w_704 : (Jvm.Cond.instanceMethod yX2_lengthNotDrawn) ∈ lw_all := in_all (List.mem_of_getElem? (i := 757) (by decide +kernel)) rfl
theorem w_705 : (Jvm.Cond.selects "PenStrike$Lines" yX2_lengthNotDrawn yX2_lengthNotDrawn) ∈ lw_all := in_all (List.mem_of_getElem? (i := 758) (by decide +kernel)) rfl
theorem w_706 : (Jvm.Cond.code yX2_lengthNotDrawn prog_4_method_10_code (3 : Nat) (Option.some Jvm.ClassFile.FieldType.int)) ∈ lw_all := in_all (List.mem_of_getElem? (i := 759) (by decide +kernel)) rfl
theorem w_707 : (Jvm.Cond.methodLink "PenStrikeLaw" (125 : Nat) yX7_undo) ∈ lw_all := in_all (List.mem_of_getElem? (i := 760) (by decide +kernel)) rfl
theorem w_708 : (Jvm.Cond.instanceMethod yX7_undo) ∈ lw_all := in_all (List.mem_of_getElem? (i := 761) (by decide +kernel)) rfl
theorem w_709 : (Jvm.Cond.selects "PenStrike" yX7_undo yX7_undo) ∈ lw_all := in_all (List.mem_of_getElem? (i := 762) (by decide +kernel)) rfl
theorem w_710 : (Jvm.Cond.code yX7_undo prog_1_method_29_code (1 : Nat) (Option.some Jvm.ClassFile.FieldType.int)) ∈ lw_all := in_all (List.mem_of_getElem? (i := 763) (by decide +kernel)) rfl
theorem w_711 : (Jvm.Cond.methodLink "PenStrike" (296 : Nat) yX1_restoreTo) ∈ lw_all := in_all (List.mem_of_getElem? (i := 764) (by decide +kernel)) rfl
theorem w_712 : (Jvm.Cond.instanceMethod yX1_restoreTo) ∈ lw_all := in_all (List.mem_of_getElem? (i := 765) (by decide +kernel)) rfl
theorem w_713 : (Jvm.Cond.selects "PenStrike$History" yX1_restoreTo yX1_restoreTo) ∈ lw_all := in_all (List.mem_of_getElem? (i := 766) (by decide +kernel)) rfl
theorem w_714 : (Jvm.Cond.code yX1_restoreTo prog_3_method_3_code (4 : Nat) (Option.none : Option Jvm.ClassFile.FieldType)) ∈ lw_all := in_all (List.mem_of_getElem? (i := 767) (by decide +kernel)) rfl
theorem w_715 : (Jvm.Cond.methodLink "PenStrikeLaw" (129 : Nat) yX7_type) ∈ lw_all := in_all (List.mem_of_getElem? (i := 768) (by decide +kernel)) rfl
theorem w_716 : (Jvm.Cond.instanceMethod yX7_type) ∈ lw_all := in_all (List.mem_of_getElem? (i := 769) (by decide +kernel)) rfl
theorem w_717 : (Jvm.Cond.selects "PenStrike" yX7_type yX7_type) ∈ lw_all := in_all (List.mem_of_getElem? (i := 770) (by decide +kernel)) rfl
theorem w_718 : (Jvm.Cond.code yX7_type prog_1_method_30_code (2 : Nat) (Option.some Jvm.ClassFile.FieldType.int)) ∈ lw_all := in_all (List.mem_of_getElem? (i := 771) (by decide +kernel)) rfl
theorem w_719 : (Jvm.Cond.methodLink "PenStrike" (299 : Nat) yX3_append) ∈ lw_all := in_all (List.mem_of_getElem? (i := 772) (by decide +kernel)) rfl
theorem w_720 : (Jvm.Cond.instanceMethod yX3_append) ∈ lw_all := in_all (List.mem_of_getElem? (i := 773) (by decide +kernel)) rfl
theorem w_721 : (Jvm.Cond.selects "PenStrike$Orders" yX3_append yX3_append) ∈ lw_all := in_all (List.mem_of_getElem? (i := 774) (by decide +kernel)) rfl
theorem w_722 : (Jvm.Cond.code yX3_append prog_5_method_2_code (2 : Nat) (Option.none : Option Jvm.ClassFile.FieldType)) ∈ lw_all := in_all (List.mem_of_getElem? (i := 775) (by decide +kernel)) rfl
theorem w_723 : (Jvm.Cond.methodLink "PenStrikeLaw" (133 : Nat) yX7_clearText) ∈ lw_all := in_all (List.mem_of_getElem? (i := 776) (by decide +kernel)) rfl
theorem w_724 : (Jvm.Cond.instanceMethod yX7_clearText) ∈ lw_all := in_all (List.mem_of_getElem? (i := 777) (by decide +kernel)) rfl
theorem w_725 : (Jvm.Cond.selects "PenStrike" yX7_clearText yX7_clearText) ∈ lw_all := in_all (List.mem_of_getElem? (i := 778) (by decide +kernel)) rfl
theorem w_726 : (Jvm.Cond.code yX7_clearText prog_1_method_31_code (2 : Nat) (Option.some Jvm.ClassFile.FieldType.int)) ∈ lw_all := in_all (List.mem_of_getElem? (i := 779) (by decide +kernel)) rfl
theorem w_727 : (Jvm.Cond.methodLink "PenStrikeLaw" (137 : Nat) yX7_fault) ∈ lw_all := in_all (List.mem_of_getElem? (i := 780) (by decide +kernel)) rfl
theorem w_728 : (Jvm.Cond.instanceMethod yX7_fault) ∈ lw_all := in_all (List.mem_of_getElem? (i := 781) (by decide +kernel)) rfl
theorem w_729 : (Jvm.Cond.selects "PenStrike" yX7_fault yX7_fault) ∈ lw_all := in_all (List.mem_of_getElem? (i := 782) (by decide +kernel)) rfl
theorem w_730 : (Jvm.Cond.code yX7_fault prog_1_method_32_code (2 : Nat) (Option.some Jvm.ClassFile.FieldType.int)) ∈ lw_all := in_all (List.mem_of_getElem? (i := 783) (by decide +kernel)) rfl
theorem w_731 : (Jvm.Cond.methodLink "PenStrike" (302 : Nat) yX5_copyFrom) ∈ lw_all := in_all (List.mem_of_getElem? (i := 784) (by decide +kernel)) rfl
theorem w_732 : (Jvm.Cond.methodLink "PenStrike" (305 : Nat) yX3_doOn) ∈ lw_all := in_all (List.mem_of_getElem? (i := 785) (by decide +kernel)) rfl
theorem w_733 : (Jvm.Cond.instanceMethod yX3_doOn) ∈ lw_all := in_all (List.mem_of_getElem? (i := 786) (by decide +kernel)) rfl
theorem w_734 : (Jvm.Cond.selects "PenStrike$Orders" yX3_doOn yX3_doOn) ∈ lw_all := in_all (List.mem_of_getElem? (i := 787) (by decide +kernel)) rfl
theorem w_735 : (Jvm.Cond.code yX3_doOn prog_5_method_3_code (4 : Nat) (Option.some Jvm.ClassFile.FieldType.int)) ∈ lw_all := in_all (List.mem_of_getElem? (i := 788) (by decide +kernel)) rfl
theorem w_736 : (Jvm.Cond.methodLink "PenStrike$Orders" (29 : Nat) yX3_fittingSigns) ∈ lw_all := in_all (List.mem_of_getElem? (i := 789) (by decide +kernel)) rfl
theorem w_738 : (Jvm.Cond.instanceMethod yX3_fittingSigns) ∈ lw_all := in_all (List.mem_of_getElem? (i := 791) (by decide +kernel)) rfl
theorem w_739 : (Jvm.Cond.code yX3_fittingSigns prog_5_method_5_code (3 : Nat) (Option.some Jvm.ClassFile.FieldType.int)) ∈ lw_all := in_all (List.mem_of_getElem? (i := 792) (by decide +kernel)) rfl
theorem w_740 : (Jvm.Cond.methodLink "PenStrike$Orders" (45 : Nat) yX3_isWithNumber) ∈ lw_all := in_all (List.mem_of_getElem? (i := 793) (by decide +kernel)) rfl
theorem w_741 : (Jvm.Cond.static yX3_isWithNumber) ∈ lw_all := in_all (List.mem_of_getElem? (i := 794) (by decide +kernel)) rfl
theorem w_742 : (Jvm.Cond.code yX3_isWithNumber prog_5_method_4_code (1 : Nat) (Option.some Jvm.ClassFile.FieldType.boolean)) ∈ lw_all := in_all (List.mem_of_getElem? (i := 795) (by decide +kernel)) rfl
theorem w_743 : (Jvm.Cond.methodLink "PenStrike$Orders" (48 : Nat) yX3_isDigitAt) ∈ lw_all := in_all (List.mem_of_getElem? (i := 796) (by decide +kernel)) rfl
theorem w_745 : (Jvm.Cond.instanceMethod yX3_isDigitAt) ∈ lw_all := in_all (List.mem_of_getElem? (i := 798) (by decide +kernel)) rfl
theorem w_746 : (Jvm.Cond.code yX3_isDigitAt prog_5_method_6_code (2 : Nat) (Option.some Jvm.ClassFile.FieldType.boolean)) ∈ lw_all := in_all (List.mem_of_getElem? (i := 799) (by decide +kernel)) rfl
theorem w_747 : (Jvm.Cond.methodLinkNest "PenStrike$Orders" (51 : Nat) yX7_isIn "PenStrike") ∈ nwl := in_nwl (List.mem_of_getElem? (i := 800) (by decide +kernel)) rfl
theorem w_748 : (Jvm.Cond.methodLink "PenStrike$Orders" (33 : Nat) yX3_isClosedBehind) ∈ lw_all := in_all (List.mem_of_getElem? (i := 801) (by decide +kernel)) rfl
theorem w_750 : (Jvm.Cond.instanceMethod yX3_isClosedBehind) ∈ lw_all := in_all (List.mem_of_getElem? (i := 803) (by decide +kernel)) rfl
theorem w_751 : (Jvm.Cond.code yX3_isClosedBehind prog_5_method_7_code (4 : Nat) (Option.some Jvm.ClassFile.FieldType.boolean)) ∈ lw_all := in_all (List.mem_of_getElem? (i := 804) (by decide +kernel)) rfl
theorem w_752 : (Jvm.Cond.methodLink "PenStrike$Orders" (37 : Nat) yX3_numberOf) ∈ lw_all := in_all (List.mem_of_getElem? (i := 805) (by decide +kernel)) rfl
theorem w_754 : (Jvm.Cond.instanceMethod yX3_numberOf) ∈ lw_all := in_all (List.mem_of_getElem? (i := 807) (by decide +kernel)) rfl
theorem w_755 : (Jvm.Cond.code yX3_numberOf prog_5_method_8_code (4 : Nat) (Option.some Jvm.ClassFile.FieldType.int)) ∈ lw_all := in_all (List.mem_of_getElem? (i := 808) (by decide +kernel)) rfl
theorem w_756 : (Jvm.Cond.methodLink "PenStrike$Orders" (41 : Nat) yX3_reasonOfDoing) ∈ lw_all := in_all (List.mem_of_getElem? (i := 809) (by decide +kernel)) rfl
theorem w_758 : (Jvm.Cond.instanceMethod yX3_reasonOfDoing) ∈ lw_all := in_all (List.mem_of_getElem? (i := 811) (by decide +kernel)) rfl
theorem w_759 : (Jvm.Cond.code yX3_reasonOfDoing prog_5_method_9_code (4 : Nat) (Option.some Jvm.ClassFile.FieldType.int)) ∈ lw_all := in_all (List.mem_of_getElem? (i := 812) (by decide +kernel)) rfl
theorem w_760 : (Jvm.Cond.methodLink "PenStrike$Orders" (55 : Nat) yX3_takeIn) ∈ lw_all := in_all (List.mem_of_getElem? (i := 813) (by decide +kernel)) rfl
theorem w_761 : (Jvm.Cond.static yX3_takeIn) ∈ lw_all := in_all (List.mem_of_getElem? (i := 814) (by decide +kernel)) rfl
theorem w_762 : (Jvm.Cond.code yX3_takeIn prog_5_method_10_code (2 : Nat) (Option.some Jvm.ClassFile.FieldType.int)) ∈ lw_all := in_all (List.mem_of_getElem? (i := 815) (by decide +kernel)) rfl
theorem w_763 : (Jvm.Cond.methodLink "PenStrike$Orders" (78 : Nat) yX4_has) ∈ lw_all := in_all (List.mem_of_getElem? (i := 816) (by decide +kernel)) rfl
theorem w_764 : (Jvm.Cond.methodLink "PenStrike$Orders" (83 : Nat) yX5_errorOfTaking) ∈ lw_all := in_all (List.mem_of_getElem? (i := 817) (by decide +kernel)) rfl
theorem w_765 : (Jvm.Cond.methodLink "PenStrike$Orders" (86 : Nat) yX5_swapTo) ∈ lw_all := in_all (List.mem_of_getElem? (i := 818) (by decide +kernel)) rfl
theorem w_766 : (Jvm.Cond.methodLink "PenStrike$Orders" (59 : Nat) yX3_drawIn) ∈ lw_all := in_all (List.mem_of_getElem? (i := 819) (by decide +kernel)) rfl
theorem w_768 : (Jvm.Cond.instanceMethod yX3_drawIn) ∈ lw_all := in_all (List.mem_of_getElem? (i := 821) (by decide +kernel)) rfl
theorem w_769 : (Jvm.Cond.code yX3_drawIn prog_5_method_11_code (5 : Nat) (Option.some Jvm.ClassFile.FieldType.int)) ∈ lw_all := in_all (List.mem_of_getElem? (i := 822) (by decide +kernel)) rfl
theorem w_770 : (Jvm.Cond.methodLink "PenStrike$Orders" (93 : Nat) yX2_has) ∈ lw_all := in_all (List.mem_of_getElem? (i := 823) (by decide +kernel)) rfl
theorem w_771 : (Jvm.Cond.methodLink "PenStrike$Orders" (96 : Nat) yX5_reasonAgainst) ∈ lw_all := in_all (List.mem_of_getElem? (i := 824) (by decide +kernel)) rfl
theorem w_772 : (Jvm.Cond.methodLink "PenStrike$Orders" (100 : Nat) yX5_drawByHand) ∈ lw_all := in_all (List.mem_of_getElem? (i := 825) (by decide +kernel)) rfl
theorem w_773 : (Jvm.Cond.methodLink "PenStrike$Orders" (62 : Nat) yX3_goHomeIn) ∈ lw_all := in_all (List.mem_of_getElem? (i := 826) (by decide +kernel)) rfl
theorem w_774 : (Jvm.Cond.static yX3_goHomeIn) ∈ lw_all := in_all (List.mem_of_getElem? (i := 827) (by decide +kernel)) rfl
theorem w_775 : (Jvm.Cond.code yX3_goHomeIn prog_5_method_12_code (1 : Nat) (Option.some Jvm.ClassFile.FieldType.int)) ∈ lw_all := in_all (List.mem_of_getElem? (i := 828) (by decide +kernel)) rfl
theorem w_776 : (Jvm.Cond.methodLink "PenStrike$Orders" (104 : Nat) yX5_errorOfGoingHome) ∈ lw_all := in_all (List.mem_of_getElem? (i := 829) (by decide +kernel)) rfl
theorem w_777 : (Jvm.Cond.methodLink "PenStrike$Orders" (66 : Nat) yX3_waitIn) ∈ lw_all := in_all (List.mem_of_getElem? (i := 830) (by decide +kernel)) rfl
theorem w_778 : (Jvm.Cond.static yX3_waitIn) ∈ lw_all := in_all (List.mem_of_getElem? (i := 831) (by decide +kernel)) rfl
theorem w_779 : (Jvm.Cond.code yX3_waitIn prog_5_method_13_code (2 : Nat) (Option.some Jvm.ClassFile.FieldType.int)) ∈ lw_all := in_all (List.mem_of_getElem? (i := 832) (by decide +kernel)) rfl
theorem w_780 : (Jvm.Cond.methodLink "PenStrike$Orders" (107 : Nat) yX5_errorOfWaiting) ∈ lw_all := in_all (List.mem_of_getElem? (i := 833) (by decide +kernel)) rfl
theorem w_781 : (Jvm.Cond.methodLink "PenStrike$Orders" (110 : Nat) yX5_passIdly) ∈ lw_all := in_all (List.mem_of_getElem? (i := 834) (by decide +kernel)) rfl
theorem w_782 : (Jvm.Cond.methodLink "PenStrike$Orders" (69 : Nat) yX3_cleanIn) ∈ lw_all := in_all (List.mem_of_getElem? (i := 835) (by decide +kernel)) rfl
theorem w_783 : (Jvm.Cond.static yX3_cleanIn) ∈ lw_all := in_all (List.mem_of_getElem? (i := 836) (by decide +kernel)) rfl
theorem w_784 : (Jvm.Cond.code yX3_cleanIn prog_5_method_14_code (1 : Nat) (Option.some Jvm.ClassFile.FieldType.int)) ∈ lw_all := in_all (List.mem_of_getElem? (i := 837) (by decide +kernel)) rfl
theorem w_785 : (Jvm.Cond.methodLink "PenStrike$Orders" (114 : Nat) yX5_errorOfCleaning) ∈ lw_all := in_all (List.mem_of_getElem? (i := 838) (by decide +kernel)) rfl
theorem w_786 : (Jvm.Cond.methodLink "PenStrike$Orders" (117 : Nat) yX5_cleanHand) ∈ lw_all := in_all (List.mem_of_getElem? (i := 839) (by decide +kernel)) rfl
theorem w_787 : (Jvm.Cond.methodLink "PenStrikeLaw" (141 : Nat) yX7_play) ∈ lw_all := in_all (List.mem_of_getElem? (i := 840) (by decide +kernel)) rfl
theorem w_788 : (Jvm.Cond.instanceMethod yX7_play) ∈ lw_all := in_all (List.mem_of_getElem? (i := 841) (by decide +kernel)) rfl
theorem w_789 : (Jvm.Cond.selects "PenStrike" yX7_play yX7_play) ∈ lw_all := in_all (List.mem_of_getElem? (i := 842) (by decide +kernel)) rfl
theorem w_790 : (Jvm.Cond.code yX7_play prog_1_method_33_code (2 : Nat) (Option.some Jvm.ClassFile.FieldType.int)) ∈ lw_all := in_all (List.mem_of_getElem? (i := 843) (by decide +kernel)) rfl
theorem w_791 : (Jvm.Cond.classLink "PenStrikeLaw" (10 : Nat) "PenStrikeModel") ∈ lw_all := in_all (List.mem_of_getElem? (i := 844) (by decide +kernel)) rfl
theorem w_792 : (Jvm.Cond.instantiable "PenStrikeModel" (16 : Nat)) ∈ lw_all := in_all (List.mem_of_getElem? (i := 845) (by decide +kernel)) rfl
theorem w_793 : (Jvm.Cond.methodLink "PenStrikeLaw" (12 : Nat) yX8_init) ∈ lw_all := in_all (List.mem_of_getElem? (i := 846) (by decide +kernel)) rfl
theorem w_794 : (Jvm.Cond.instanceMethod yX8_init) ∈ lw_all := in_all (List.mem_of_getElem? (i := 847) (by decide +kernel)) rfl
theorem w_795 : (Jvm.Cond.code yX8_init prog_10_method_1_code (1 : Nat) (Option.none : Option Jvm.ClassFile.FieldType)) ∈ lw_all := in_all (List.mem_of_getElem? (i := 848) (by decide +kernel)) rfl
theorem w_796 : (Jvm.Cond.methodLink "PenStrikeModel" (1 : Nat) ⟨"java/lang/Object", "<init>", "()V"⟩) ∈ lw_all := in_all (List.mem_of_getElem? (i := 849) (by decide +kernel)) rfl
theorem w_797 : (Jvm.Cond.fieldLink "PenStrikeModel" (7 : Nat) "PenStrikeModel" "s" "[I") ∈ lw_all := in_all (List.mem_of_getElem? (i := 850) (by decide +kernel)) rfl
theorem w_798 : (Jvm.Cond.fieldLink "PenStrikeModel" (13 : Nat) "PenStrikeModel" "was" "[I") ∈ lw_all := in_all (List.mem_of_getElem? (i := 851) (by decide +kernel)) rfl
theorem w_799 : (Jvm.Cond.fieldLink "PenStrikeModel" (16 : Nat) "PenStrikeModel" "begun" "[I") ∈ lw_all := in_all (List.mem_of_getElem? (i := 852) (by decide +kernel)) rfl
theorem w_800 : (Jvm.Cond.fieldLink "PenStrikeModel" (19 : Nat) "PenStrikeModel" "aside" "[I") ∈ lw_all := in_all (List.mem_of_getElem? (i := 853) (by decide +kernel)) rfl
theorem w_801 : (Jvm.Cond.fieldLink "PenStrikeModel" (50 : Nat) "PenStrikeModel" "states" "I") ∈ lw_all := in_all (List.mem_of_getElem? (i := 854) (by decide +kernel)) rfl
theorem w_802 : (Jvm.Cond.fieldLink "PenStrikeModel" (22 : Nat) "PenStrikeModel" "text" "[C") ∈ lw_all := in_all (List.mem_of_getElem? (i := 855) (by decide +kernel)) rfl
theorem w_803 : (Jvm.Cond.fieldLink "PenStrikeModel" (174 : Nat) "PenStrikeModel" "typed" "I") ∈ lw_all := in_all (List.mem_of_getElem? (i := 856) (by decide +kernel)) rfl
theorem w_804 : (Jvm.Cond.fieldLink "PenStrikeModel" (177 : Nat) "PenStrikeModel" "at" "I") ∈ lw_all := in_all (List.mem_of_getElem? (i := 857) (by decide +kernel)) rfl
theorem w_805 : (Jvm.Cond.fieldLink "PenStrikeModel" (183 : Nat) "PenStrikeModel" "got" "I") ∈ lw_all := in_all (List.mem_of_getElem? (i := 858) (by decide +kernel)) rfl
theorem w_806 : (Jvm.Cond.fieldLink "PenStrikeModel" (198 : Nat) "PenStrikeModel" "reason" "I") ∈ lw_all := in_all (List.mem_of_getElem? (i := 859) (by decide +kernel)) rfl
theorem w_807 : (Jvm.Cond.fieldLink "PenStrikeModel" (186 : Nat) "PenStrikeModel" "cause" "I") ∈ lw_all := in_all (List.mem_of_getElem? (i := 860) (by decide +kernel)) rfl
theorem w_808 : (Jvm.Cond.fieldLink "PenStrikeModel" (26 : Nat) "PenStrikeModel" "fair" "[I") ∈ lw_all := in_all (List.mem_of_getElem? (i := 861) (by decide +kernel)) rfl
theorem w_809 : (Jvm.Cond.fieldLink "PenStrikeModel" (29 : Nat) "PenStrikeModel" "sums" "[I") ∈ lw_all := in_all (List.mem_of_getElem? (i := 862) (by decide +kernel)) rfl
theorem w_810 : (Jvm.Cond.fieldLink "PenStrikeModel" (32 : Nat) "PenStrikeModel" "row" "[I") ∈ lw_all := in_all (List.mem_of_getElem? (i := 863) (by decide +kernel)) rfl
theorem w_811 : (Jvm.Cond.fieldLink "PenStrikeModel" (35 : Nat) "PenStrikeModel" "way" "[I") ∈ lw_all := in_all (List.mem_of_getElem? (i := 864) (by decide +kernel)) rfl
theorem w_812 : (Jvm.Cond.fieldLink "PenStrikeModel" (38 : Nat) "PenStrikeModel" "ticks" "[I") ∈ lw_all := in_all (List.mem_of_getElem? (i := 865) (by decide +kernel)) rfl
theorem w_846 : (Jvm.Cond.arrayClass Jvm.ClassFile.FieldType.char) ∈ lw_all := in_all (List.mem_of_getElem? (i := 899) (by decide +kernel)) rfl
theorem w_847 : (Jvm.Cond.methodLink "PenStrikeLaw" (17 : Nat) yX8_set) ∈ lw_all := in_all (List.mem_of_getElem? (i := 900) (by decide +kernel)) rfl
theorem w_848 : (Jvm.Cond.instanceMethod yX8_set) ∈ lw_all := in_all (List.mem_of_getElem? (i := 901) (by decide +kernel)) rfl
theorem w_849 : (Jvm.Cond.selects "PenStrikeModel" yX8_set yX8_set) ∈ lw_all := in_all (List.mem_of_getElem? (i := 902) (by decide +kernel)) rfl
theorem w_850 : (Jvm.Cond.code yX8_set prog_10_method_12_code (5 : Nat) (Option.some Jvm.ClassFile.FieldType.int)) ∈ lw_all := in_all (List.mem_of_getElem? (i := 903) (by decide +kernel)) rfl
theorem w_851 : (Jvm.Cond.methodLink "PenStrikeModel" (41 : Nat) yX8_in) ∈ lw_all := in_all (List.mem_of_getElem? (i := 904) (by decide +kernel)) rfl
theorem w_852 : (Jvm.Cond.static yX8_in) ∈ lw_all := in_all (List.mem_of_getElem? (i := 905) (by decide +kernel)) rfl
theorem w_853 : (Jvm.Cond.code yX8_in prog_10_method_2_code (3 : Nat) (Option.some Jvm.ClassFile.FieldType.boolean)) ∈ lw_all := in_all (List.mem_of_getElem? (i := 906) (by decide +kernel)) rfl
theorem w_854 : (Jvm.Cond.constant "PenStrikeModel" (49 : Nat) (-1000001 : Int32)) ∈ lw_all := in_all (List.mem_of_getElem? (i := 907) (by decide +kernel)) rfl
theorem w_855 : (Jvm.Cond.methodLink "PenStrikeModel" (54 : Nat) yX8_keeps) ∈ lw_all := in_all (List.mem_of_getElem? (i := 908) (by decide +kernel)) rfl
theorem w_857 : (Jvm.Cond.instanceMethod yX8_keeps) ∈ lw_all := in_all (List.mem_of_getElem? (i := 910) (by decide +kernel)) rfl
theorem w_858 : (Jvm.Cond.code yX8_keeps prog_10_method_10_code (2 : Nat) (Option.none : Option Jvm.ClassFile.FieldType)) ∈ lw_all := in_all (List.mem_of_getElem? (i := 911) (by decide +kernel)) rfl
theorem w_859 : (Jvm.Cond.methodLink "PenStrikeModel" (57 : Nat) yX8_acted) ∈ lw_all := in_all (List.mem_of_getElem? (i := 912) (by decide +kernel)) rfl
theorem w_861 : (Jvm.Cond.instanceMethod yX8_acted) ∈ lw_all := in_all (List.mem_of_getElem? (i := 914) (by decide +kernel)) rfl
theorem w_862 : (Jvm.Cond.code yX8_acted prog_10_method_11_code (3 : Nat) (Option.some Jvm.ClassFile.FieldType.int)) ∈ lw_all := in_all (List.mem_of_getElem? (i := 915) (by decide +kernel)) rfl
theorem w_863 : (Jvm.Cond.methodLink "PenStrikeLaw" (22 : Nat) yX8_pen) ∈ lw_all := in_all (List.mem_of_getElem? (i := 916) (by decide +kernel)) rfl
theorem w_864 : (Jvm.Cond.instanceMethod yX8_pen) ∈ lw_all := in_all (List.mem_of_getElem? (i := 917) (by decide +kernel)) rfl
theorem w_865 : (Jvm.Cond.selects "PenStrikeModel" yX8_pen yX8_pen) ∈ lw_all := in_all (List.mem_of_getElem? (i := 918) (by decide +kernel)) rfl
theorem w_866 : (Jvm.Cond.code yX8_pen prog_10_method_13_code (8 : Nat) (Option.some Jvm.ClassFile.FieldType.int)) ∈ lw_all := in_all (List.mem_of_getElem? (i := 919) (by decide +kernel)) rfl
theorem w_867 : (Jvm.Cond.methodLink "PenStrikeModel" (61 : Nat) yX8_pn) ∈ lw_all := in_all (List.mem_of_getElem? (i := 920) (by decide +kernel)) rfl
theorem w_869 : (Jvm.Cond.instanceMethod yX8_pn) ∈ lw_all := in_all (List.mem_of_getElem? (i := 922) (by decide +kernel)) rfl
theorem w_870 : (Jvm.Cond.code yX8_pn prog_10_method_4_code (3 : Nat) (Option.some Jvm.ClassFile.FieldType.int)) ∈ lw_all := in_all (List.mem_of_getElem? (i := 923) (by decide +kernel)) rfl
theorem w_871 : (Jvm.Cond.constant "PenStrikeModel" (64 : Nat) (-1000002 : Int32)) ∈ lw_all := in_all (List.mem_of_getElem? (i := 924) (by decide +kernel)) rfl
theorem w_872 : (Jvm.Cond.constant "PenStrikeModel" (65 : Nat) (-1000003 : Int32)) ∈ lw_all := in_all (List.mem_of_getElem? (i := 925) (by decide +kernel)) rfl
theorem w_873 : (Jvm.Cond.methodLink "PenStrikeModel" (66 : Nat) yX8_lays) ∈ lw_all := in_all (List.mem_of_getElem? (i := 926) (by decide +kernel)) rfl
theorem w_875 : (Jvm.Cond.instanceMethod yX8_lays) ∈ lw_all := in_all (List.mem_of_getElem? (i := 928) (by decide +kernel)) rfl
theorem w_876 : (Jvm.Cond.code yX8_lays prog_10_method_5_code (4 : Nat) (Option.none : Option Jvm.ClassFile.FieldType)) ∈ lw_all := in_all (List.mem_of_getElem? (i := 929) (by decide +kernel)) rfl
theorem w_877 : (Jvm.Cond.methodLink "PenStrikeLaw" (26 : Nat) yX8_line) ∈ lw_all := in_all (List.mem_of_getElem? (i := 930) (by decide +kernel)) rfl
theorem w_878 : (Jvm.Cond.instanceMethod yX8_line) ∈ lw_all := in_all (List.mem_of_getElem? (i := 931) (by decide +kernel)) rfl
theorem w_879 : (Jvm.Cond.selects "PenStrikeModel" yX8_line yX8_line) ∈ lw_all := in_all (List.mem_of_getElem? (i := 932) (by decide +kernel)) rfl
theorem w_880 : (Jvm.Cond.code yX8_line prog_10_method_15_code (6 : Nat) (Option.some Jvm.ClassFile.FieldType.int)) ∈ lw_all := in_all (List.mem_of_getElem? (i := 933) (by decide +kernel)) rfl
theorem w_881 : (Jvm.Cond.methodLink "PenStrikeModel" (70 : Nat) yX8_isCoordinate) ∈ lw_all := in_all (List.mem_of_getElem? (i := 934) (by decide +kernel)) rfl
theorem w_882 : (Jvm.Cond.static yX8_isCoordinate) ∈ lw_all := in_all (List.mem_of_getElem? (i := 935) (by decide +kernel)) rfl
theorem w_883 : (Jvm.Cond.code yX8_isCoordinate prog_10_method_14_code (1 : Nat) (Option.some Jvm.ClassFile.FieldType.boolean)) ∈ lw_all := in_all (List.mem_of_getElem? (i := 936) (by decide +kernel)) rfl
theorem w_884 : (Jvm.Cond.methodLink "PenStrikeLaw" (30 : Nat) yX8_leave) ∈ lw_all := in_all (List.mem_of_getElem? (i := 937) (by decide +kernel)) rfl
theorem w_885 : (Jvm.Cond.instanceMethod yX8_leave) ∈ lw_all := in_all (List.mem_of_getElem? (i := 938) (by decide +kernel)) rfl
theorem w_886 : (Jvm.Cond.selects "PenStrikeModel" yX8_leave yX8_leave) ∈ lw_all := in_all (List.mem_of_getElem? (i := 939) (by decide +kernel)) rfl
theorem w_887 : (Jvm.Cond.code yX8_leave prog_10_method_17_code (3 : Nat) (Option.some Jvm.ClassFile.FieldType.int)) ∈ lw_all := in_all (List.mem_of_getElem? (i := 940) (by decide +kernel)) rfl
theorem w_888 : (Jvm.Cond.methodLink "PenStrikeModel" (74 : Nat) yX8_isPen) ∈ lw_all := in_all (List.mem_of_getElem? (i := 941) (by decide +kernel)) rfl
theorem w_890 : (Jvm.Cond.instanceMethod yX8_isPen) ∈ lw_all := in_all (List.mem_of_getElem? (i := 943) (by decide +kernel)) rfl
theorem w_891 : (Jvm.Cond.code yX8_isPen prog_10_method_7_code (2 : Nat) (Option.some Jvm.ClassFile.FieldType.boolean)) ∈ lw_all := in_all (List.mem_of_getElem? (i := 944) (by decide +kernel)) rfl
theorem w_892 : (Jvm.Cond.methodLink "PenStrikeModel" (77 : Nat) yX8_present) ∈ lw_all := in_all (List.mem_of_getElem? (i := 945) (by decide +kernel)) rfl
theorem w_894 : (Jvm.Cond.instanceMethod yX8_present) ∈ lw_all := in_all (List.mem_of_getElem? (i := 947) (by decide +kernel)) rfl
theorem w_895 : (Jvm.Cond.code yX8_present prog_10_method_16_code (3 : Nat) (Option.some Jvm.ClassFile.FieldType.int)) ∈ lw_all := in_all (List.mem_of_getElem? (i := 948) (by decide +kernel)) rfl
theorem w_896 : (Jvm.Cond.methodLink "PenStrikeLaw" (35 : Nat) yX8_refill) ∈ lw_all := in_all (List.mem_of_getElem? (i := 949) (by decide +kernel)) rfl
theorem w_897 : (Jvm.Cond.instanceMethod yX8_refill) ∈ lw_all := in_all (List.mem_of_getElem? (i := 950) (by decide +kernel)) rfl
theorem w_898 : (Jvm.Cond.selects "PenStrikeModel" yX8_refill yX8_refill) ∈ lw_all := in_all (List.mem_of_getElem? (i := 951) (by decide +kernel)) rfl
theorem w_899 : (Jvm.Cond.code yX8_refill prog_10_method_18_code (3 : Nat) (Option.some Jvm.ClassFile.FieldType.int)) ∈ lw_all := in_all (List.mem_of_getElem? (i := 952) (by decide +kernel)) rfl
theorem w_900 : (Jvm.Cond.methodLink "PenStrikeLaw" (39 : Nat) yX8_penOf) ∈ lw_all := in_all (List.mem_of_getElem? (i := 953) (by decide +kernel)) rfl
theorem w_901 : (Jvm.Cond.instanceMethod yX8_penOf) ∈ lw_all := in_all (List.mem_of_getElem? (i := 954) (by decide +kernel)) rfl
theorem w_902 : (Jvm.Cond.selects "PenStrikeModel" yX8_penOf yX8_penOf) ∈ lw_all := in_all (List.mem_of_getElem? (i := 955) (by decide +kernel)) rfl
theorem w_903 : (Jvm.Cond.code yX8_penOf prog_10_method_22_code (3 : Nat) (Option.some Jvm.ClassFile.FieldType.int)) ∈ lw_all := in_all (List.mem_of_getElem? (i := 956) (by decide +kernel)) rfl
theorem w_904 : (Jvm.Cond.methodLink "PenStrikeModel" (84 : Nat) yX8_strikes) ∈ lw_all := in_all (List.mem_of_getElem? (i := 957) (by decide +kernel)) rfl
theorem w_906 : (Jvm.Cond.instanceMethod yX8_strikes) ∈ lw_all := in_all (List.mem_of_getElem? (i := 959) (by decide +kernel)) rfl
theorem w_907 : (Jvm.Cond.code yX8_strikes prog_10_method_20_code (2 : Nat) (Option.some Jvm.ClassFile.FieldType.boolean)) ∈ lw_all := in_all (List.mem_of_getElem? (i := 960) (by decide +kernel)) rfl
theorem w_908 : (Jvm.Cond.methodLink "PenStrikeModel" (81 : Nat) yX8_least) ∈ lw_all := in_all (List.mem_of_getElem? (i := 961) (by decide +kernel)) rfl
theorem w_910 : (Jvm.Cond.instanceMethod yX8_least) ∈ lw_all := in_all (List.mem_of_getElem? (i := 963) (by decide +kernel)) rfl
theorem w_911 : (Jvm.Cond.code yX8_least prog_10_method_19_code (5 : Nat) (Option.some Jvm.ClassFile.FieldType.int)) ∈ lw_all := in_all (List.mem_of_getElem? (i := 964) (by decide +kernel)) rfl
theorem w_912 : (Jvm.Cond.methodLink "PenStrikeModel" (87 : Nat) yX8_linesBy) ∈ lw_all := in_all (List.mem_of_getElem? (i := 965) (by decide +kernel)) rfl
theorem w_914 : (Jvm.Cond.instanceMethod yX8_linesBy) ∈ lw_all := in_all (List.mem_of_getElem? (i := 967) (by decide +kernel)) rfl
theorem w_915 : (Jvm.Cond.code yX8_linesBy prog_10_method_21_code (4 : Nat) (Option.some Jvm.ClassFile.FieldType.int)) ∈ lw_all := in_all (List.mem_of_getElem? (i := 968) (by decide +kernel)) rfl
theorem w_916 : (Jvm.Cond.methodLink "PenStrikeModel" (45 : Nat) yX8_ln) ∈ lw_all := in_all (List.mem_of_getElem? (i := 969) (by decide +kernel)) rfl
theorem w_918 : (Jvm.Cond.instanceMethod yX8_ln) ∈ lw_all := in_all (List.mem_of_getElem? (i := 971) (by decide +kernel)) rfl
theorem w_919 : (Jvm.Cond.code yX8_ln prog_10_method_6_code (3 : Nat) (Option.some Jvm.ClassFile.FieldType.int)) ∈ lw_all := in_all (List.mem_of_getElem? (i := 972) (by decide +kernel)) rfl
theorem w_920 : (Jvm.Cond.methodLink "PenStrikeLaw" (43 : Nat) yX8_lineOf) ∈ lw_all := in_all (List.mem_of_getElem? (i := 973) (by decide +kernel)) rfl
theorem w_921 : (Jvm.Cond.instanceMethod yX8_lineOf) ∈ lw_all := in_all (List.mem_of_getElem? (i := 974) (by decide +kernel)) rfl
theorem w_922 : (Jvm.Cond.selects "PenStrikeModel" yX8_lineOf yX8_lineOf) ∈ lw_all := in_all (List.mem_of_getElem? (i := 975) (by decide +kernel)) rfl
theorem w_923 : (Jvm.Cond.code yX8_lineOf prog_10_method_25_code (3 : Nat) (Option.some Jvm.ClassFile.FieldType.int)) ∈ lw_all := in_all (List.mem_of_getElem? (i := 976) (by decide +kernel)) rfl
theorem w_924 : (Jvm.Cond.methodLink "PenStrikeModel" (96 : Nat) yX8_isLine) ∈ lw_all := in_all (List.mem_of_getElem? (i := 977) (by decide +kernel)) rfl
theorem w_926 : (Jvm.Cond.instanceMethod yX8_isLine) ∈ lw_all := in_all (List.mem_of_getElem? (i := 979) (by decide +kernel)) rfl
theorem w_927 : (Jvm.Cond.code yX8_isLine prog_10_method_8_code (2 : Nat) (Option.some Jvm.ClassFile.FieldType.boolean)) ∈ lw_all := in_all (List.mem_of_getElem? (i := 980) (by decide +kernel)) rfl
theorem w_928 : (Jvm.Cond.methodLink "PenStrikeModel" (99 : Nat) yX8_length) ∈ lw_all := in_all (List.mem_of_getElem? (i := 981) (by decide +kernel)) rfl
theorem w_930 : (Jvm.Cond.instanceMethod yX8_length) ∈ lw_all := in_all (List.mem_of_getElem? (i := 983) (by decide +kernel)) rfl
theorem w_931 : (Jvm.Cond.code yX8_length prog_10_method_23_code (4 : Nat) (Option.some Jvm.ClassFile.FieldType.int)) ∈ lw_all := in_all (List.mem_of_getElem? (i := 984) (by decide +kernel)) rfl
theorem w_932 : (Jvm.Cond.methodLink "PenStrikeModel" (90 : Nat) yX8_apart) ∈ lw_all := in_all (List.mem_of_getElem? (i := 985) (by decide +kernel)) rfl
theorem w_933 : (Jvm.Cond.static yX8_apart) ∈ lw_all := in_all (List.mem_of_getElem? (i := 986) (by decide +kernel)) rfl
theorem w_934 : (Jvm.Cond.code yX8_apart prog_10_method_3_code (2 : Nat) (Option.some Jvm.ClassFile.FieldType.int)) ∈ lw_all := in_all (List.mem_of_getElem? (i := 987) (by decide +kernel)) rfl
theorem w_935 : (Jvm.Cond.methodLink "PenStrikeModel" (93 : Nat) yX8_isDrawn) ∈ lw_all := in_all (List.mem_of_getElem? (i := 988) (by decide +kernel)) rfl
theorem w_937 : (Jvm.Cond.instanceMethod yX8_isDrawn) ∈ lw_all := in_all (List.mem_of_getElem? (i := 990) (by decide +kernel)) rfl
theorem w_938 : (Jvm.Cond.code yX8_isDrawn prog_10_method_9_code (2 : Nat) (Option.some Jvm.ClassFile.FieldType.boolean)) ∈ lw_all := in_all (List.mem_of_getElem? (i := 991) (by decide +kernel)) rfl
theorem w_939 : (Jvm.Cond.constant "PenStrikeModel" (102 : Nat) (-1000004 : Int32)) ∈ lw_all := in_all (List.mem_of_getElem? (i := 992) (by decide +kernel)) rfl
theorem w_940 : (Jvm.Cond.methodLink "PenStrikeModel" (103 : Nat) yX8_isWet) ∈ lw_all := in_all (List.mem_of_getElem? (i := 993) (by decide +kernel)) rfl
theorem w_942 : (Jvm.Cond.instanceMethod yX8_isWet) ∈ lw_all := in_all (List.mem_of_getElem? (i := 995) (by decide +kernel)) rfl
theorem w_943 : (Jvm.Cond.code yX8_isWet prog_10_method_24_code (3 : Nat) (Option.some Jvm.ClassFile.FieldType.boolean)) ∈ lw_all := in_all (List.mem_of_getElem? (i := 996) (by decide +kernel)) rfl
theorem w_944 : (Jvm.Cond.methodLink "PenStrikeLaw" (47 : Nat) yX8_take) ∈ lw_all := in_all (List.mem_of_getElem? (i := 997) (by decide +kernel)) rfl
theorem w_945 : (Jvm.Cond.instanceMethod yX8_take) ∈ lw_all := in_all (List.mem_of_getElem? (i := 998) (by decide +kernel)) rfl
theorem w_946 : (Jvm.Cond.selects "PenStrikeModel" yX8_take yX8_take) ∈ lw_all := in_all (List.mem_of_getElem? (i := 999) (by decide +kernel)) rfl
theorem w_947 : (Jvm.Cond.code yX8_take prog_10_method_28_code (2 : Nat) (Option.some Jvm.ClassFile.FieldType.int)) ∈ lw_all := in_all (List.mem_of_getElem? (i := 1000) (by decide +kernel)) rfl
theorem w_948 : (Jvm.Cond.methodLink "PenStrikeModel" (112 : Nat) yX8_takes) ∈ lw_all := in_all (List.mem_of_getElem? (i := 1001) (by decide +kernel)) rfl
theorem w_950 : (Jvm.Cond.instanceMethod yX8_takes) ∈ lw_all := in_all (List.mem_of_getElem? (i := 1003) (by decide +kernel)) rfl
theorem w_951 : (Jvm.Cond.code yX8_takes prog_10_method_27_code (3 : Nat) (Option.some Jvm.ClassFile.FieldType.int)) ∈ lw_all := in_all (List.mem_of_getElem? (i := 1004) (by decide +kernel)) rfl
theorem w_952 : (Jvm.Cond.constant "PenStrikeModel" (107 : Nat) (100000 : Int32)) ∈ lw_all := in_all (List.mem_of_getElem? (i := 1005) (by decide +kernel)) rfl
theorem w_953 : (Jvm.Cond.methodLink "PenStrikeModel" (108 : Nat) yX8_passes) ∈ lw_all := in_all (List.mem_of_getElem? (i := 1006) (by decide +kernel)) rfl
theorem w_955 : (Jvm.Cond.instanceMethod yX8_passes) ∈ lw_all := in_all (List.mem_of_getElem? (i := 1008) (by decide +kernel)) rfl
theorem w_956 : (Jvm.Cond.code yX8_passes prog_10_method_26_code (2 : Nat) (Option.none : Option Jvm.ClassFile.FieldType)) ∈ lw_all := in_all (List.mem_of_getElem? (i := 1009) (by decide +kernel)) rfl
theorem w_957 : (Jvm.Cond.methodLink "PenStrikeLaw" (52 : Nat) yX8_home) ∈ lw_all := in_all (List.mem_of_getElem? (i := 1010) (by decide +kernel)) rfl
theorem w_958 : (Jvm.Cond.instanceMethod yX8_home) ∈ lw_all := in_all (List.mem_of_getElem? (i := 1011) (by decide +kernel)) rfl
theorem w_959 : (Jvm.Cond.selects "PenStrikeModel" yX8_home yX8_home) ∈ lw_all := in_all (List.mem_of_getElem? (i := 1012) (by decide +kernel)) rfl
theorem w_960 : (Jvm.Cond.code yX8_home prog_10_method_30_code (1 : Nat) (Option.some Jvm.ClassFile.FieldType.int)) ∈ lw_all := in_all (List.mem_of_getElem? (i := 1013) (by decide +kernel)) rfl
theorem w_961 : (Jvm.Cond.methodLink "PenStrikeModel" (115 : Nat) yX8_goesHome) ∈ lw_all := in_all (List.mem_of_getElem? (i := 1014) (by decide +kernel)) rfl
theorem w_963 : (Jvm.Cond.instanceMethod yX8_goesHome) ∈ lw_all := in_all (List.mem_of_getElem? (i := 1016) (by decide +kernel)) rfl
theorem w_964 : (Jvm.Cond.code yX8_goesHome prog_10_method_29_code (2 : Nat) (Option.some Jvm.ClassFile.FieldType.int)) ∈ lw_all := in_all (List.mem_of_getElem? (i := 1017) (by decide +kernel)) rfl
theorem w_965 : (Jvm.Cond.methodLink "PenStrikeLaw" (56 : Nat) yX8_draw) ∈ lw_all := in_all (List.mem_of_getElem? (i := 1018) (by decide +kernel)) rfl
theorem w_966 : (Jvm.Cond.instanceMethod yX8_draw) ∈ lw_all := in_all (List.mem_of_getElem? (i := 1019) (by decide +kernel)) rfl
theorem w_967 : (Jvm.Cond.selects "PenStrikeModel" yX8_draw yX8_draw) ∈ lw_all := in_all (List.mem_of_getElem? (i := 1020) (by decide +kernel)) rfl
theorem w_968 : (Jvm.Cond.code yX8_draw prog_10_method_39_code (3 : Nat) (Option.some Jvm.ClassFile.FieldType.int)) ∈ lw_all := in_all (List.mem_of_getElem? (i := 1021) (by decide +kernel)) rfl
theorem w_969 : (Jvm.Cond.methodLink "PenStrikeModel" (148 : Nat) yX8_draws) ∈ lw_all := in_all (List.mem_of_getElem? (i := 1022) (by decide +kernel)) rfl
theorem w_971 : (Jvm.Cond.instanceMethod yX8_draws) ∈ lw_all := in_all (List.mem_of_getElem? (i := 1024) (by decide +kernel)) rfl
theorem w_972 : (Jvm.Cond.code yX8_draws prog_10_method_38_code (6 : Nat) (Option.some Jvm.ClassFile.FieldType.int)) ∈ lw_all := in_all (List.mem_of_getElem? (i := 1025) (by decide +kernel)) rfl
theorem w_973 : (Jvm.Cond.methodLink "PenStrikeModel" (138 : Nat) yX8_why) ∈ lw_all := in_all (List.mem_of_getElem? (i := 1026) (by decide +kernel)) rfl
theorem w_975 : (Jvm.Cond.instanceMethod yX8_why) ∈ lw_all := in_all (List.mem_of_getElem? (i := 1028) (by decide +kernel)) rfl
theorem w_976 : (Jvm.Cond.code yX8_why prog_10_method_37_code (7 : Nat) (Option.some Jvm.ClassFile.FieldType.int)) ∈ lw_all := in_all (List.mem_of_getElem? (i := 1029) (by decide +kernel)) rfl
theorem w_977 : (Jvm.Cond.methodLink "PenStrikeModel" (128 : Nat) yX8_far) ∈ lw_all := in_all (List.mem_of_getElem? (i := 1030) (by decide +kernel)) rfl
theorem w_979 : (Jvm.Cond.instanceMethod yX8_far) ∈ lw_all := in_all (List.mem_of_getElem? (i := 1032) (by decide +kernel)) rfl
theorem w_980 : (Jvm.Cond.code yX8_far prog_10_method_31_code (7 : Nat) (Option.some Jvm.ClassFile.FieldType.int)) ∈ lw_all := in_all (List.mem_of_getElem? (i := 1033) (by decide +kernel)) rfl
theorem w_981 : (Jvm.Cond.methodLink "PenStrikeModel" (132 : Nat) yX8_uses) ∈ lw_all := in_all (List.mem_of_getElem? (i := 1034) (by decide +kernel)) rfl
theorem w_983 : (Jvm.Cond.instanceMethod yX8_uses) ∈ lw_all := in_all (List.mem_of_getElem? (i := 1036) (by decide +kernel)) rfl
theorem w_984 : (Jvm.Cond.code yX8_uses prog_10_method_36_code (2 : Nat) (Option.some Jvm.ClassFile.FieldType.int)) ∈ lw_all := in_all (List.mem_of_getElem? (i := 1037) (by decide +kernel)) rfl
theorem w_985 : (Jvm.Cond.methodLink "PenStrikeModel" (135 : Nat) yX8_isWetBeside) ∈ lw_all := in_all (List.mem_of_getElem? (i := 1038) (by decide +kernel)) rfl
theorem w_987 : (Jvm.Cond.instanceMethod yX8_isWetBeside) ∈ lw_all := in_all (List.mem_of_getElem? (i := 1040) (by decide +kernel)) rfl
theorem w_988 : (Jvm.Cond.code yX8_isWetBeside prog_10_method_35_code (5 : Nat) (Option.some Jvm.ClassFile.FieldType.boolean)) ∈ lw_all := in_all (List.mem_of_getElem? (i := 1041) (by decide +kernel)) rfl
theorem w_989 : (Jvm.Cond.methodLink "PenStrikeModel" (125 : Nat) yX8_touches) ∈ lw_all := in_all (List.mem_of_getElem? (i := 1042) (by decide +kernel)) rfl
theorem w_991 : (Jvm.Cond.instanceMethod yX8_touches) ∈ lw_all := in_all (List.mem_of_getElem? (i := 1044) (by decide +kernel)) rfl
theorem w_992 : (Jvm.Cond.code yX8_touches prog_10_method_34_code (6 : Nat) (Option.some Jvm.ClassFile.FieldType.boolean)) ∈ lw_all := in_all (List.mem_of_getElem? (i := 1045) (by decide +kernel)) rfl
theorem w_993 : (Jvm.Cond.methodLink "PenStrikeModel" (118 : Nat) yX8_side) ∈ lw_all := in_all (List.mem_of_getElem? (i := 1046) (by decide +kernel)) rfl
theorem w_994 : (Jvm.Cond.static yX8_side) ∈ lw_all := in_all (List.mem_of_getElem? (i := 1047) (by decide +kernel)) rfl
theorem w_995 : (Jvm.Cond.code yX8_side prog_10_method_32_code (7 : Nat) (Option.some Jvm.ClassFile.FieldType.int)) ∈ lw_all := in_all (List.mem_of_getElem? (i := 1048) (by decide +kernel)) rfl
theorem w_996 : (Jvm.Cond.methodLink "PenStrikeModel" (122 : Nat) yX8_isOn) ∈ lw_all := in_all (List.mem_of_getElem? (i := 1049) (by decide +kernel)) rfl
theorem w_998 : (Jvm.Cond.instanceMethod yX8_isOn) ∈ lw_all := in_all (List.mem_of_getElem? (i := 1051) (by decide +kernel)) rfl
theorem w_999 : (Jvm.Cond.code yX8_isOn prog_10_method_33_code (5 : Nat) (Option.some Jvm.ClassFile.FieldType.boolean)) ∈ lw_all := in_all (List.mem_of_getElem? (i := 1052) (by decide +kernel)) rfl
theorem w_1000 : (Jvm.Cond.methodLink "PenStrikeModel" (142 : Nat) yJxf58ca_floatToIntBits_5c35a) ∈ lw_all := in_all (List.mem_of_getElem? (i := 1053) (by decide +kernel)) rfl
theorem w_1001 : (Jvm.Cond.static yJxf58ca_floatToIntBits_5c35a) ∈ lw_all := in_all (List.mem_of_getElem? (i := 1054) (by decide +kernel)) rfl
theorem w_1002 : (Jvm.Cond.code yJxf58ca_floatToIntBits_5c35a prog_12_method_24_code (1 : Nat) (Option.some Jvm.ClassFile.FieldType.int)) ∈ lw_all := in_all (List.mem_of_getElem? (i := 1055) (by decide +kernel)) rfl
theorem w_1003 : (Jvm.Cond.methodLink "java/lang/Float" (59 : Nat) yJxf58ca_isNaN_12338) ∈ lw_all := in_all (List.mem_of_getElem? (i := 1056) (by decide +kernel)) rfl
theorem w_1004 : (Jvm.Cond.static yJxf58ca_isNaN_12338) ∈ lw_all := in_all (List.mem_of_getElem? (i := 1057) (by decide +kernel)) rfl
theorem w_1005 : (Jvm.Cond.code yJxf58ca_isNaN_12338 prog_12_method_6_code (1 : Nat) (Option.some Jvm.ClassFile.FieldType.boolean)) ∈ lw_all := in_all (List.mem_of_getElem? (i := 1058) (by decide +kernel)) rfl
theorem w_1006 : (Jvm.Cond.methodLink "java/lang/Float" (74 : Nat) ⟨RJxf58ca, "floatToRawIntBits", "(F)I"⟩) ∈ lw_all := in_all (List.mem_of_getElem? (i := 1059) (by decide +kernel)) rfl
theorem w_1007 : (Jvm.Cond.static ⟨RJxf58ca, "floatToRawIntBits", "(F)I"⟩) ∈ lw_all := in_all (List.mem_of_getElem? (i := 1060) (by decide +kernel)) rfl
theorem w_1008 : (Jvm.Cond.native ⟨RJxf58ca, "floatToRawIntBits", "(F)I"⟩) ∈ lw_all := in_all (List.mem_of_getElem? (i := 1061) (by decide +kernel)) rfl
theorem w_1009 : (Jvm.Cond.constant "java/lang/Float" (77 : Nat) (2143289344 : Int32)) ∈ lw_all := in_all (List.mem_of_getElem? (i := 1062) (by decide +kernel)) rfl
theorem w_1010 : (Jvm.Cond.methodLink "PenStrikeLaw" (60 : Nat) yX8_erase) ∈ lw_all := in_all (List.mem_of_getElem? (i := 1063) (by decide +kernel)) rfl
theorem w_1011 : (Jvm.Cond.instanceMethod yX8_erase) ∈ lw_all := in_all (List.mem_of_getElem? (i := 1064) (by decide +kernel)) rfl
theorem w_1012 : (Jvm.Cond.selects "PenStrikeModel" yX8_erase yX8_erase) ∈ lw_all := in_all (List.mem_of_getElem? (i := 1065) (by decide +kernel)) rfl
theorem w_1013 : (Jvm.Cond.code yX8_erase prog_10_method_40_code (3 : Nat) (Option.some Jvm.ClassFile.FieldType.int)) ∈ lw_all := in_all (List.mem_of_getElem? (i := 1066) (by decide +kernel)) rfl
theorem w_1014 : (Jvm.Cond.methodLink "PenStrikeLaw" (64 : Nat) yX8_waits) ∈ lw_all := in_all (List.mem_of_getElem? (i := 1067) (by decide +kernel)) rfl
theorem w_1015 : (Jvm.Cond.instanceMethod yX8_waits) ∈ lw_all := in_all (List.mem_of_getElem? (i := 1068) (by decide +kernel)) rfl
theorem w_1016 : (Jvm.Cond.selects "PenStrikeModel" yX8_waits yX8_waits) ∈ lw_all := in_all (List.mem_of_getElem? (i := 1069) (by decide +kernel)) rfl
theorem w_1017 : (Jvm.Cond.code yX8_waits prog_10_method_42_code (2 : Nat) (Option.some Jvm.ClassFile.FieldType.int)) ∈ lw_all := in_all (List.mem_of_getElem? (i := 1070) (by decide +kernel)) rfl
theorem w_1018 : (Jvm.Cond.methodLink "PenStrikeModel" (151 : Nat) yX8_waited) ∈ lw_all := in_all (List.mem_of_getElem? (i := 1071) (by decide +kernel)) rfl
theorem w_1020 : (Jvm.Cond.instanceMethod yX8_waited) ∈ lw_all := in_all (List.mem_of_getElem? (i := 1073) (by decide +kernel)) rfl
theorem w_1021 : (Jvm.Cond.code yX8_waited prog_10_method_41_code (2 : Nat) (Option.some Jvm.ClassFile.FieldType.int)) ∈ lw_all := in_all (List.mem_of_getElem? (i := 1074) (by decide +kernel)) rfl
theorem w_1022 : (Jvm.Cond.methodLink "PenStrikeLaw" (68 : Nat) yX8_clean) ∈ lw_all := in_all (List.mem_of_getElem? (i := 1075) (by decide +kernel)) rfl
theorem w_1023 : (Jvm.Cond.instanceMethod yX8_clean) ∈ lw_all := in_all (List.mem_of_getElem? (i := 1076) (by decide +kernel)) rfl
theorem w_1024 : (Jvm.Cond.selects "PenStrikeModel" yX8_clean yX8_clean) ∈ lw_all := in_all (List.mem_of_getElem? (i := 1077) (by decide +kernel)) rfl
theorem w_1025 : (Jvm.Cond.code yX8_clean prog_10_method_44_code (1 : Nat) (Option.some Jvm.ClassFile.FieldType.int)) ∈ lw_all := in_all (List.mem_of_getElem? (i := 1078) (by decide +kernel)) rfl
theorem w_1026 : (Jvm.Cond.methodLink "PenStrikeModel" (154 : Nat) yX8_cleans) ∈ lw_all := in_all (List.mem_of_getElem? (i := 1079) (by decide +kernel)) rfl
theorem w_1028 : (Jvm.Cond.instanceMethod yX8_cleans) ∈ lw_all := in_all (List.mem_of_getElem? (i := 1081) (by decide +kernel)) rfl
theorem w_1029 : (Jvm.Cond.code yX8_cleans prog_10_method_43_code (2 : Nat) (Option.some Jvm.ClassFile.FieldType.int)) ∈ lw_all := in_all (List.mem_of_getElem? (i := 1082) (by decide +kernel)) rfl
theorem w_1030 : (Jvm.Cond.methodLink "PenStrikeLaw" (72 : Nat) yX8_whyNot) ∈ lw_all := in_all (List.mem_of_getElem? (i := 1083) (by decide +kernel)) rfl
theorem w_1031 : (Jvm.Cond.instanceMethod yX8_whyNot) ∈ lw_all := in_all (List.mem_of_getElem? (i := 1084) (by decide +kernel)) rfl
theorem w_1032 : (Jvm.Cond.selects "PenStrikeModel" yX8_whyNot yX8_whyNot) ∈ lw_all := in_all (List.mem_of_getElem? (i := 1085) (by decide +kernel)) rfl
theorem w_1033 : (Jvm.Cond.code yX8_whyNot prog_10_method_45_code (3 : Nat) (Option.some Jvm.ClassFile.FieldType.int)) ∈ lw_all := in_all (List.mem_of_getElem? (i := 1086) (by decide +kernel)) rfl
theorem w_1034 : (Jvm.Cond.methodLink "PenStrikeLaw" (76 : Nat) yX8_waitFor) ∈ lw_all := in_all (List.mem_of_getElem? (i := 1087) (by decide +kernel)) rfl
theorem w_1035 : (Jvm.Cond.instanceMethod yX8_waitFor) ∈ lw_all := in_all (List.mem_of_getElem? (i := 1088) (by decide +kernel)) rfl
theorem w_1036 : (Jvm.Cond.selects "PenStrikeModel" yX8_waitFor yX8_waitFor) ∈ lw_all := in_all (List.mem_of_getElem? (i := 1089) (by decide +kernel)) rfl
theorem w_1037 : (Jvm.Cond.code yX8_waitFor prog_10_method_46_code (4 : Nat) (Option.some Jvm.ClassFile.FieldType.int)) ∈ lw_all := in_all (List.mem_of_getElem? (i := 1090) (by decide +kernel)) rfl
theorem w_1038 : (Jvm.Cond.methodLink "PenStrikeLaw" (80 : Nat) yX8_strikers) ∈ lw_all := in_all (List.mem_of_getElem? (i := 1091) (by decide +kernel)) rfl
theorem w_1039 : (Jvm.Cond.instanceMethod yX8_strikers) ∈ lw_all := in_all (List.mem_of_getElem? (i := 1092) (by decide +kernel)) rfl
theorem w_1040 : (Jvm.Cond.selects "PenStrikeModel" yX8_strikers yX8_strikers) ∈ lw_all := in_all (List.mem_of_getElem? (i := 1093) (by decide +kernel)) rfl
theorem w_1041 : (Jvm.Cond.code yX8_strikers prog_10_method_47_code (3 : Nat) (Option.some Jvm.ClassFile.FieldType.int)) ∈ lw_all := in_all (List.mem_of_getElem? (i := 1094) (by decide +kernel)) rfl
theorem w_1042 : (Jvm.Cond.methodLink "PenStrikeLaw" (84 : Nat) yX8_room) ∈ lw_all := in_all (List.mem_of_getElem? (i := 1095) (by decide +kernel)) rfl
theorem w_1043 : (Jvm.Cond.instanceMethod yX8_room) ∈ lw_all := in_all (List.mem_of_getElem? (i := 1096) (by decide +kernel)) rfl
theorem w_1044 : (Jvm.Cond.selects "PenStrikeModel" yX8_room yX8_room) ∈ lw_all := in_all (List.mem_of_getElem? (i := 1097) (by decide +kernel)) rfl
theorem w_1045 : (Jvm.Cond.code yX8_room prog_10_method_48_code (3 : Nat) (Option.some Jvm.ClassFile.FieldType.int)) ∈ lw_all := in_all (List.mem_of_getElem? (i := 1098) (by decide +kernel)) rfl
theorem w_1046 : (Jvm.Cond.methodLink "PenStrikeLaw" (88 : Nat) yX8_spread) ∈ lw_all := in_all (List.mem_of_getElem? (i := 1099) (by decide +kernel)) rfl
theorem w_1047 : (Jvm.Cond.instanceMethod yX8_spread) ∈ lw_all := in_all (List.mem_of_getElem? (i := 1100) (by decide +kernel)) rfl
theorem w_1048 : (Jvm.Cond.selects "PenStrikeModel" yX8_spread yX8_spread) ∈ lw_all := in_all (List.mem_of_getElem? (i := 1101) (by decide +kernel)) rfl
theorem w_1049 : (Jvm.Cond.code yX8_spread prog_10_method_49_code (3 : Nat) (Option.some Jvm.ClassFile.FieldType.int)) ∈ lw_all := in_all (List.mem_of_getElem? (i := 1102) (by decide +kernel)) rfl
theorem w_1050 : (Jvm.Cond.methodLink "PenStrikeLaw" (92 : Nat) yX8_touch) ∈ lw_all := in_all (List.mem_of_getElem? (i := 1103) (by decide +kernel)) rfl
theorem w_1051 : (Jvm.Cond.instanceMethod yX8_touch) ∈ lw_all := in_all (List.mem_of_getElem? (i := 1104) (by decide +kernel)) rfl
theorem w_1052 : (Jvm.Cond.selects "PenStrikeModel" yX8_touch yX8_touch) ∈ lw_all := in_all (List.mem_of_getElem? (i := 1105) (by decide +kernel)) rfl
theorem w_1053 : (Jvm.Cond.code yX8_touch prog_10_method_50_code (3 : Nat) (Option.some Jvm.ClassFile.FieldType.int)) ∈ lw_all := in_all (List.mem_of_getElem? (i := 1106) (by decide +kernel)) rfl
theorem w_1054 : (Jvm.Cond.methodLink "PenStrikeLaw" (96 : Nat) yX8_touching) ∈ lw_all := in_all (List.mem_of_getElem? (i := 1107) (by decide +kernel)) rfl
theorem w_1055 : (Jvm.Cond.instanceMethod yX8_touching) ∈ lw_all := in_all (List.mem_of_getElem? (i := 1108) (by decide +kernel)) rfl
theorem w_1056 : (Jvm.Cond.selects "PenStrikeModel" yX8_touching yX8_touching) ∈ lw_all := in_all (List.mem_of_getElem? (i := 1109) (by decide +kernel)) rfl
theorem w_1057 : (Jvm.Cond.code yX8_touching prog_10_method_51_code (4 : Nat) (Option.some Jvm.ClassFile.FieldType.int)) ∈ lw_all := in_all (List.mem_of_getElem? (i := 1110) (by decide +kernel)) rfl
theorem w_1058 : (Jvm.Cond.methodLink "PenStrikeLaw" (100 : Nat) yX8_seams) ∈ lw_all := in_all (List.mem_of_getElem? (i := 1111) (by decide +kernel)) rfl
theorem w_1059 : (Jvm.Cond.instanceMethod yX8_seams) ∈ lw_all := in_all (List.mem_of_getElem? (i := 1112) (by decide +kernel)) rfl
theorem w_1060 : (Jvm.Cond.selects "PenStrikeModel" yX8_seams yX8_seams) ∈ lw_all := in_all (List.mem_of_getElem? (i := 1113) (by decide +kernel)) rfl
theorem w_1061 : (Jvm.Cond.code yX8_seams prog_10_method_54_code (7 : Nat) (Option.some Jvm.ClassFile.FieldType.int)) ∈ lw_all := in_all (List.mem_of_getElem? (i := 1114) (by decide +kernel)) rfl
theorem w_1062 : (Jvm.Cond.methodLink "PenStrikeModel" (157 : Nat) yX8_pensAt) ∈ lw_all := in_all (List.mem_of_getElem? (i := 1115) (by decide +kernel)) rfl
theorem w_1064 : (Jvm.Cond.instanceMethod yX8_pensAt) ∈ lw_all := in_all (List.mem_of_getElem? (i := 1117) (by decide +kernel)) rfl
theorem w_1065 : (Jvm.Cond.code yX8_pensAt prog_10_method_52_code (6 : Nat) (Option.some Jvm.ClassFile.FieldType.int)) ∈ lw_all := in_all (List.mem_of_getElem? (i := 1118) (by decide +kernel)) rfl
theorem w_1066 : (Jvm.Cond.methodLink "PenStrikeModel" (160 : Nat) yX8_isSome) ∈ lw_all := in_all (List.mem_of_getElem? (i := 1119) (by decide +kernel)) rfl
theorem w_1067 : (Jvm.Cond.static yX8_isSome) ∈ lw_all := in_all (List.mem_of_getElem? (i := 1120) (by decide +kernel)) rfl
theorem w_1068 : (Jvm.Cond.code yX8_isSome prog_10_method_53_code (1 : Nat) (Option.some Jvm.ClassFile.FieldType.boolean)) ∈ lw_all := in_all (List.mem_of_getElem? (i := 1121) (by decide +kernel)) rfl
theorem w_1069 : (Jvm.Cond.methodLink "PenStrikeLaw" (104 : Nat) yX8_seamsBy) ∈ lw_all := in_all (List.mem_of_getElem? (i := 1122) (by decide +kernel)) rfl
theorem w_1070 : (Jvm.Cond.instanceMethod yX8_seamsBy) ∈ lw_all := in_all (List.mem_of_getElem? (i := 1123) (by decide +kernel)) rfl
theorem w_1071 : (Jvm.Cond.selects "PenStrikeModel" yX8_seamsBy yX8_seamsBy) ∈ lw_all := in_all (List.mem_of_getElem? (i := 1124) (by decide +kernel)) rfl
theorem w_1072 : (Jvm.Cond.code yX8_seamsBy prog_10_method_55_code (6 : Nat) (Option.some Jvm.ClassFile.FieldType.int)) ∈ lw_all := in_all (List.mem_of_getElem? (i := 1125) (by decide +kernel)) rfl
theorem w_1073 : (Jvm.Cond.methodLink "PenStrikeLaw" (108 : Nat) yX8_meanShade) ∈ lw_all := in_all (List.mem_of_getElem? (i := 1126) (by decide +kernel)) rfl
theorem w_1074 : (Jvm.Cond.instanceMethod yX8_meanShade) ∈ lw_all := in_all (List.mem_of_getElem? (i := 1127) (by decide +kernel)) rfl
theorem w_1075 : (Jvm.Cond.selects "PenStrikeModel" yX8_meanShade yX8_meanShade) ∈ lw_all := in_all (List.mem_of_getElem? (i := 1128) (by decide +kernel)) rfl
theorem w_1076 : (Jvm.Cond.code yX8_meanShade prog_10_method_56_code (5 : Nat) (Option.some Jvm.ClassFile.FieldType.int)) ∈ lw_all := in_all (List.mem_of_getElem? (i := 1129) (by decide +kernel)) rfl
theorem w_1077 : (Jvm.Cond.methodLink "PenStrikeModel" (163 : Nat) ⟨RJxf58ca, "intBitsToFloat", "(I)F"⟩) ∈ lw_all := in_all (List.mem_of_getElem? (i := 1130) (by decide +kernel)) rfl
theorem w_1078 : (Jvm.Cond.static ⟨RJxf58ca, "intBitsToFloat", "(I)F"⟩) ∈ lw_all := in_all (List.mem_of_getElem? (i := 1131) (by decide +kernel)) rfl
theorem w_1079 : (Jvm.Cond.native ⟨RJxf58ca, "intBitsToFloat", "(I)F"⟩) ∈ lw_all := in_all (List.mem_of_getElem? (i := 1132) (by decide +kernel)) rfl
theorem w_1080 : (Jvm.Cond.methodLink "PenStrikeLaw" (112 : Nat) yX8_fair) ∈ lw_all := in_all (List.mem_of_getElem? (i := 1133) (by decide +kernel)) rfl
theorem w_1081 : (Jvm.Cond.instanceMethod yX8_fair) ∈ lw_all := in_all (List.mem_of_getElem? (i := 1134) (by decide +kernel)) rfl
theorem w_1082 : (Jvm.Cond.selects "PenStrikeModel" yX8_fair yX8_fair) ∈ lw_all := in_all (List.mem_of_getElem? (i := 1135) (by decide +kernel)) rfl
theorem w_1083 : (Jvm.Cond.code yX8_fair prog_10_method_58_code (2 : Nat) (Option.some Jvm.ClassFile.FieldType.int)) ∈ lw_all := in_all (List.mem_of_getElem? (i := 1136) (by decide +kernel)) rfl
theorem w_1084 : (Jvm.Cond.methodLink "PenStrikeModel" (167 : Nat) yX8_plans) ∈ lw_all := in_all (List.mem_of_getElem? (i := 1137) (by decide +kernel)) rfl
theorem w_1086 : (Jvm.Cond.instanceMethod yX8_plans) ∈ lw_all := in_all (List.mem_of_getElem? (i := 1139) (by decide +kernel)) rfl
theorem w_1087 : (Jvm.Cond.code yX8_plans prog_10_method_57_code (5 : Nat) (Option.some Jvm.ClassFile.FieldType.boolean)) ∈ lw_all := in_all (List.mem_of_getElem? (i := 1140) (by decide +kernel)) rfl
theorem w_1088 : (Jvm.Cond.methodLink "PenStrikeLaw" (116 : Nat) yX8_fairSpread) ∈ lw_all := in_all (List.mem_of_getElem? (i := 1141) (by decide +kernel)) rfl
theorem w_1089 : (Jvm.Cond.instanceMethod yX8_fairSpread) ∈ lw_all := in_all (List.mem_of_getElem? (i := 1142) (by decide +kernel)) rfl
theorem w_1090 : (Jvm.Cond.selects "PenStrikeModel" yX8_fairSpread yX8_fairSpread) ∈ lw_all := in_all (List.mem_of_getElem? (i := 1143) (by decide +kernel)) rfl
theorem w_1091 : (Jvm.Cond.code yX8_fairSpread prog_10_method_59_code (4 : Nat) (Option.some Jvm.ClassFile.FieldType.int)) ∈ lw_all := in_all (List.mem_of_getElem? (i := 1144) (by decide +kernel)) rfl
theorem w_1092 : (Jvm.Cond.methodLink "PenStrikeLaw" (120 : Nat) yX8_tour) ∈ lw_all := in_all (List.mem_of_getElem? (i := 1145) (by decide +kernel)) rfl
theorem w_1093 : (Jvm.Cond.instanceMethod yX8_tour) ∈ lw_all := in_all (List.mem_of_getElem? (i := 1146) (by decide +kernel)) rfl
theorem w_1094 : (Jvm.Cond.selects "PenStrikeModel" yX8_tour yX8_tour) ∈ lw_all := in_all (List.mem_of_getElem? (i := 1147) (by decide +kernel)) rfl
theorem w_1095 : (Jvm.Cond.code yX8_tour prog_10_method_61_code (3 : Nat) (Option.some Jvm.ClassFile.FieldType.int)) ∈ lw_all := in_all (List.mem_of_getElem? (i := 1148) (by decide +kernel)) rfl
theorem w_1096 : (Jvm.Cond.methodLink "PenStrikeModel" (171 : Nat) yX8_tours) ∈ lw_all := in_all (List.mem_of_getElem? (i := 1149) (by decide +kernel)) rfl
theorem w_1098 : (Jvm.Cond.instanceMethod yX8_tours) ∈ lw_all := in_all (List.mem_of_getElem? (i := 1151) (by decide +kernel)) rfl
theorem w_1099 : (Jvm.Cond.code yX8_tours prog_10_method_60_code (13 : Nat) (Option.some Jvm.ClassFile.FieldType.int)) ∈ lw_all := in_all (List.mem_of_getElem? (i := 1152) (by decide +kernel)) rfl
theorem w_1100 : (Jvm.Cond.methodLink "PenStrikeLaw" (124 : Nat) yX8_count) ∈ lw_all := in_all (List.mem_of_getElem? (i := 1153) (by decide +kernel)) rfl
theorem w_1101 : (Jvm.Cond.instanceMethod yX8_count) ∈ lw_all := in_all (List.mem_of_getElem? (i := 1154) (by decide +kernel)) rfl
theorem w_1102 : (Jvm.Cond.selects "PenStrikeModel" yX8_count yX8_count) ∈ lw_all := in_all (List.mem_of_getElem? (i := 1155) (by decide +kernel)) rfl
theorem w_1103 : (Jvm.Cond.code yX8_count prog_10_method_62_code (6 : Nat) (Option.some Jvm.ClassFile.FieldType.int)) ∈ lw_all := in_all (List.mem_of_getElem? (i := 1156) (by decide +kernel)) rfl
theorem w_1104 : (Jvm.Cond.methodLink "PenStrikeLaw" (128 : Nat) yX8_undo) ∈ lw_all := in_all (List.mem_of_getElem? (i := 1157) (by decide +kernel)) rfl
theorem w_1105 : (Jvm.Cond.instanceMethod yX8_undo) ∈ lw_all := in_all (List.mem_of_getElem? (i := 1158) (by decide +kernel)) rfl
theorem w_1106 : (Jvm.Cond.selects "PenStrikeModel" yX8_undo yX8_undo) ∈ lw_all := in_all (List.mem_of_getElem? (i := 1159) (by decide +kernel)) rfl
theorem w_1107 : (Jvm.Cond.code yX8_undo prog_10_method_63_code (2 : Nat) (Option.some Jvm.ClassFile.FieldType.int)) ∈ lw_all := in_all (List.mem_of_getElem? (i := 1160) (by decide +kernel)) rfl
theorem w_1108 : (Jvm.Cond.methodLink "PenStrikeLaw" (132 : Nat) yX8_type) ∈ lw_all := in_all (List.mem_of_getElem? (i := 1161) (by decide +kernel)) rfl
theorem w_1109 : (Jvm.Cond.instanceMethod yX8_type) ∈ lw_all := in_all (List.mem_of_getElem? (i := 1162) (by decide +kernel)) rfl
theorem w_1110 : (Jvm.Cond.selects "PenStrikeModel" yX8_type yX8_type) ∈ lw_all := in_all (List.mem_of_getElem? (i := 1163) (by decide +kernel)) rfl
theorem w_1111 : (Jvm.Cond.code yX8_type prog_10_method_64_code (2 : Nat) (Option.some Jvm.ClassFile.FieldType.int)) ∈ lw_all := in_all (List.mem_of_getElem? (i := 1164) (by decide +kernel)) rfl
theorem w_1112 : (Jvm.Cond.methodLink "PenStrikeLaw" (136 : Nat) yX8_clearText) ∈ lw_all := in_all (List.mem_of_getElem? (i := 1165) (by decide +kernel)) rfl
theorem w_1113 : (Jvm.Cond.instanceMethod yX8_clearText) ∈ lw_all := in_all (List.mem_of_getElem? (i := 1166) (by decide +kernel)) rfl
theorem w_1114 : (Jvm.Cond.selects "PenStrikeModel" yX8_clearText yX8_clearText) ∈ lw_all := in_all (List.mem_of_getElem? (i := 1167) (by decide +kernel)) rfl
theorem w_1115 : (Jvm.Cond.code yX8_clearText prog_10_method_65_code (2 : Nat) (Option.some Jvm.ClassFile.FieldType.int)) ∈ lw_all := in_all (List.mem_of_getElem? (i := 1168) (by decide +kernel)) rfl
theorem w_1116 : (Jvm.Cond.methodLink "PenStrikeLaw" (140 : Nat) yX8_fault) ∈ lw_all := in_all (List.mem_of_getElem? (i := 1169) (by decide +kernel)) rfl
theorem w_1117 : (Jvm.Cond.instanceMethod yX8_fault) ∈ lw_all := in_all (List.mem_of_getElem? (i := 1170) (by decide +kernel)) rfl
theorem w_1118 : (Jvm.Cond.selects "PenStrikeModel" yX8_fault yX8_fault) ∈ lw_all := in_all (List.mem_of_getElem? (i := 1171) (by decide +kernel)) rfl
theorem w_1119 : (Jvm.Cond.code yX8_fault prog_10_method_71_code (3 : Nat) (Option.some Jvm.ClassFile.FieldType.int)) ∈ lw_all := in_all (List.mem_of_getElem? (i := 1172) (by decide +kernel)) rfl
theorem w_1120 : (Jvm.Cond.methodLink "PenStrikeModel" (201 : Nat) yX8_faulty) ∈ lw_all := in_all (List.mem_of_getElem? (i := 1173) (by decide +kernel)) rfl
theorem w_1122 : (Jvm.Cond.instanceMethod yX8_faulty) ∈ lw_all := in_all (List.mem_of_getElem? (i := 1175) (by decide +kernel)) rfl
theorem w_1123 : (Jvm.Cond.code yX8_faulty prog_10_method_70_code (3 : Nat) (Option.some Jvm.ClassFile.FieldType.int)) ∈ lw_all := in_all (List.mem_of_getElem? (i := 1176) (by decide +kernel)) rfl
theorem w_1124 : (Jvm.Cond.methodLink "PenStrikeModel" (195 : Nat) yX8_doesNext) ∈ lw_all := in_all (List.mem_of_getElem? (i := 1177) (by decide +kernel)) rfl
theorem w_1126 : (Jvm.Cond.instanceMethod yX8_doesNext) ∈ lw_all := in_all (List.mem_of_getElem? (i := 1179) (by decide +kernel)) rfl
theorem w_1127 : (Jvm.Cond.code yX8_doesNext prog_10_method_69_code (5 : Nat) (Option.some Jvm.ClassFile.FieldType.int)) ∈ lw_all := in_all (List.mem_of_getElem? (i := 1180) (by decide +kernel)) rfl
theorem w_1128 : (Jvm.Cond.methodLink "PenStrikeModel" (180 : Nat) yX8_sign) ∈ lw_all := in_all (List.mem_of_getElem? (i := 1181) (by decide +kernel)) rfl
theorem w_1130 : (Jvm.Cond.instanceMethod yX8_sign) ∈ lw_all := in_all (List.mem_of_getElem? (i := 1183) (by decide +kernel)) rfl
theorem w_1131 : (Jvm.Cond.code yX8_sign prog_10_method_66_code (1 : Nat) (Option.some Jvm.ClassFile.FieldType.int)) ∈ lw_all := in_all (List.mem_of_getElem? (i := 1184) (by decide +kernel)) rfl
theorem w_1132 : (Jvm.Cond.methodLink "PenStrikeModel" (189 : Nat) yX8_readsForm) ∈ lw_all := in_all (List.mem_of_getElem? (i := 1185) (by decide +kernel)) rfl
theorem w_1134 : (Jvm.Cond.instanceMethod yX8_readsForm) ∈ lw_all := in_all (List.mem_of_getElem? (i := 1187) (by decide +kernel)) rfl
theorem w_1135 : (Jvm.Cond.code yX8_readsForm prog_10_method_67_code (4 : Nat) (Option.some Jvm.ClassFile.FieldType.boolean)) ∈ lw_all := in_all (List.mem_of_getElem? (i := 1188) (by decide +kernel)) rfl
theorem w_1136 : (Jvm.Cond.methodLink "PenStrikeModel" (192 : Nat) yX8_does) ∈ lw_all := in_all (List.mem_of_getElem? (i := 1189) (by decide +kernel)) rfl
theorem w_1138 : (Jvm.Cond.instanceMethod yX8_does) ∈ lw_all := in_all (List.mem_of_getElem? (i := 1191) (by decide +kernel)) rfl
theorem w_1139 : (Jvm.Cond.code yX8_does prog_10_method_68_code (2 : Nat) (Option.some Jvm.ClassFile.FieldType.int)) ∈ lw_all := in_all (List.mem_of_getElem? (i := 1192) (by decide +kernel)) rfl
theorem w_1140 : (Jvm.Cond.methodLink "PenStrikeLaw" (144 : Nat) yX8_play) ∈ lw_all := in_all (List.mem_of_getElem? (i := 1193) (by decide +kernel)) rfl
theorem w_1141 : (Jvm.Cond.instanceMethod yX8_play) ∈ lw_all := in_all (List.mem_of_getElem? (i := 1194) (by decide +kernel)) rfl
theorem w_1142 : (Jvm.Cond.selects "PenStrikeModel" yX8_play yX8_play) ∈ lw_all := in_all (List.mem_of_getElem? (i := 1195) (by decide +kernel)) rfl
theorem w_1143 : (Jvm.Cond.code yX8_play prog_10_method_72_code (2 : Nat) (Option.some Jvm.ClassFile.FieldType.int)) ∈ lw_all := in_all (List.mem_of_getElem? (i := 1196) (by decide +kernel)) rfl
theorem ws_0 : Cond.selects RX2 yX2_noteTouching yX2_noteTouching ∈ lw_all := in_all (List.mem_of_getElem? (i := 0) (by decide +kernel)) rfl
theorem ws_1 : Cond.selects RX2 yX2_meet yX2_meet ∈ lw_all := in_all (List.mem_of_getElem? (i := 1) (by decide +kernel)) rfl
theorem ws_2 : Cond.selects RX2 yX2_reachesAcross yX2_reachesAcross ∈ lw_all := in_all (List.mem_of_getElem? (i := 2) (by decide +kernel)) rfl
theorem ws_3 : Cond.selects RX5 yX5_errorOfPassing yX5_errorOfPassing ∈ lw_all := in_all (List.mem_of_getElem? (i := 3) (by decide +kernel)) rfl
theorem ws_4 : Cond.selects RX2 yX2_firstDrawnWithEnd yX2_firstDrawnWithEnd ∈ lw_all := in_all (List.mem_of_getElem? (i := 4) (by decide +kernel)) rfl
theorem ws_5 : Cond.selects RX2 yX2_isDrawnWithEnd yX2_isDrawnWithEnd ∈ lw_all := in_all (List.mem_of_getElem? (i := 5) (by decide +kernel)) rfl
theorem ws_6 : Cond.selects RX2 yX2_isSeam yX2_isSeam ∈ lw_all := in_all (List.mem_of_getElem? (i := 6) (by decide +kernel)) rfl
theorem ws_7 : Cond.selects RX2 yX2_endsThereByAnother yX2_endsThereByAnother ∈ lw_all := in_all (List.mem_of_getElem? (i := 7) (by decide +kernel)) rfl
theorem ws_8 : Cond.selects RX0 yX0_longestLeft yX0_longestLeft ∈ lw_all := in_all (List.mem_of_getElem? (i := 8) (by decide +kernel)) rfl
theorem ws_9 : Cond.selects RX0 yX0_leastLoaded yX0_leastLoaded ∈ lw_all := in_all (List.mem_of_getElem? (i := 9) (by decide +kernel)) rfl
theorem ws_10 : Cond.selects RX6 yX6_nearestLeft yX6_nearestLeft ∈ lw_all := in_all (List.mem_of_getElem? (i := 10) (by decide +kernel)) rfl
theorem ws_11 : Cond.selects RX6 yX6_travelTo yX6_travelTo ∈ lw_all := in_all (List.mem_of_getElem? (i := 11) (by decide +kernel)) rfl
theorem ws_12 : Cond.selects RX6 yX6_goAlong yX6_goAlong ∈ lw_all := in_all (List.mem_of_getElem? (i := 12) (by decide +kernel)) rfl
theorem ws_13 : Cond.selects RX3 yX3_fittingSigns yX3_fittingSigns ∈ lw_all := in_all (List.mem_of_getElem? (i := 13) (by decide +kernel)) rfl
theorem ws_14 : Cond.selects RX3 yX3_isDigitAt yX3_isDigitAt ∈ lw_all := in_all (List.mem_of_getElem? (i := 14) (by decide +kernel)) rfl
theorem ws_15 : Cond.selects RX3 yX3_isClosedBehind yX3_isClosedBehind ∈ lw_all := in_all (List.mem_of_getElem? (i := 15) (by decide +kernel)) rfl
theorem ws_16 : Cond.selects RX3 yX3_numberOf yX3_numberOf ∈ lw_all := in_all (List.mem_of_getElem? (i := 16) (by decide +kernel)) rfl
theorem ws_17 : Cond.selects RX3 yX3_reasonOfDoing yX3_reasonOfDoing ∈ lw_all := in_all (List.mem_of_getElem? (i := 17) (by decide +kernel)) rfl
theorem ws_18 : Cond.selects RX3 yX3_drawIn yX3_drawIn ∈ lw_all := in_all (List.mem_of_getElem? (i := 18) (by decide +kernel)) rfl
theorem ws_19 : Cond.selects RX8 yX8_keeps yX8_keeps ∈ lw_all := in_all (List.mem_of_getElem? (i := 19) (by decide +kernel)) rfl
theorem ws_20 : Cond.selects RX8 yX8_acted yX8_acted ∈ lw_all := in_all (List.mem_of_getElem? (i := 20) (by decide +kernel)) rfl
theorem ws_21 : Cond.selects RX8 yX8_pn yX8_pn ∈ lw_all := in_all (List.mem_of_getElem? (i := 21) (by decide +kernel)) rfl
theorem ws_22 : Cond.selects RX8 yX8_lays yX8_lays ∈ lw_all := in_all (List.mem_of_getElem? (i := 22) (by decide +kernel)) rfl
theorem ws_23 : Cond.selects RX8 yX8_isPen yX8_isPen ∈ lw_all := in_all (List.mem_of_getElem? (i := 23) (by decide +kernel)) rfl
theorem ws_24 : Cond.selects RX8 yX8_present yX8_present ∈ lw_all := in_all (List.mem_of_getElem? (i := 24) (by decide +kernel)) rfl
theorem ws_25 : Cond.selects RX8 yX8_strikes yX8_strikes ∈ lw_all := in_all (List.mem_of_getElem? (i := 25) (by decide +kernel)) rfl
theorem ws_26 : Cond.selects RX8 yX8_least yX8_least ∈ lw_all := in_all (List.mem_of_getElem? (i := 26) (by decide +kernel)) rfl
theorem ws_27 : Cond.selects RX8 yX8_linesBy yX8_linesBy ∈ lw_all := in_all (List.mem_of_getElem? (i := 27) (by decide +kernel)) rfl
theorem ws_28 : Cond.selects RX8 yX8_ln yX8_ln ∈ lw_all := in_all (List.mem_of_getElem? (i := 28) (by decide +kernel)) rfl
theorem ws_29 : Cond.selects RX8 yX8_isLine yX8_isLine ∈ lw_all := in_all (List.mem_of_getElem? (i := 29) (by decide +kernel)) rfl
theorem ws_30 : Cond.selects RX8 yX8_length yX8_length ∈ lw_all := in_all (List.mem_of_getElem? (i := 30) (by decide +kernel)) rfl
theorem ws_31 : Cond.selects RX8 yX8_isDrawn yX8_isDrawn ∈ lw_all := in_all (List.mem_of_getElem? (i := 31) (by decide +kernel)) rfl
theorem ws_32 : Cond.selects RX8 yX8_isWet yX8_isWet ∈ lw_all := in_all (List.mem_of_getElem? (i := 32) (by decide +kernel)) rfl
theorem ws_33 : Cond.selects RX8 yX8_takes yX8_takes ∈ lw_all := in_all (List.mem_of_getElem? (i := 33) (by decide +kernel)) rfl
theorem ws_34 : Cond.selects RX8 yX8_passes yX8_passes ∈ lw_all := in_all (List.mem_of_getElem? (i := 34) (by decide +kernel)) rfl
theorem ws_35 : Cond.selects RX8 yX8_goesHome yX8_goesHome ∈ lw_all := in_all (List.mem_of_getElem? (i := 35) (by decide +kernel)) rfl
theorem ws_36 : Cond.selects RX8 yX8_draws yX8_draws ∈ lw_all := in_all (List.mem_of_getElem? (i := 36) (by decide +kernel)) rfl
theorem ws_37 : Cond.selects RX8 yX8_why yX8_why ∈ lw_all := in_all (List.mem_of_getElem? (i := 37) (by decide +kernel)) rfl
theorem ws_38 : Cond.selects RX8 yX8_far yX8_far ∈ lw_all := in_all (List.mem_of_getElem? (i := 38) (by decide +kernel)) rfl
theorem ws_39 : Cond.selects RX8 yX8_uses yX8_uses ∈ lw_all := in_all (List.mem_of_getElem? (i := 39) (by decide +kernel)) rfl
theorem ws_40 : Cond.selects RX8 yX8_isWetBeside yX8_isWetBeside ∈ lw_all := in_all (List.mem_of_getElem? (i := 40) (by decide +kernel)) rfl
theorem ws_41 : Cond.selects RX8 yX8_touches yX8_touches ∈ lw_all := in_all (List.mem_of_getElem? (i := 41) (by decide +kernel)) rfl
theorem ws_42 : Cond.selects RX8 yX8_isOn yX8_isOn ∈ lw_all := in_all (List.mem_of_getElem? (i := 42) (by decide +kernel)) rfl
theorem ws_43 : Cond.selects RX8 yX8_waited yX8_waited ∈ lw_all := in_all (List.mem_of_getElem? (i := 43) (by decide +kernel)) rfl
theorem ws_44 : Cond.selects RX8 yX8_cleans yX8_cleans ∈ lw_all := in_all (List.mem_of_getElem? (i := 44) (by decide +kernel)) rfl
theorem ws_45 : Cond.selects RX8 yX8_pensAt yX8_pensAt ∈ lw_all := in_all (List.mem_of_getElem? (i := 45) (by decide +kernel)) rfl
theorem ws_46 : Cond.selects RX8 yX8_plans yX8_plans ∈ lw_all := in_all (List.mem_of_getElem? (i := 46) (by decide +kernel)) rfl
theorem ws_47 : Cond.selects RX8 yX8_tours yX8_tours ∈ lw_all := in_all (List.mem_of_getElem? (i := 47) (by decide +kernel)) rfl
theorem ws_48 : Cond.selects RX8 yX8_faulty yX8_faulty ∈ lw_all := in_all (List.mem_of_getElem? (i := 48) (by decide +kernel)) rfl
theorem ws_49 : Cond.selects RX8 yX8_doesNext yX8_doesNext ∈ lw_all := in_all (List.mem_of_getElem? (i := 49) (by decide +kernel)) rfl
theorem ws_50 : Cond.selects RX8 yX8_sign yX8_sign ∈ lw_all := in_all (List.mem_of_getElem? (i := 50) (by decide +kernel)) rfl
theorem ws_51 : Cond.selects RX8 yX8_readsForm yX8_readsForm ∈ lw_all := in_all (List.mem_of_getElem? (i := 51) (by decide +kernel)) rfl
theorem ws_52 : Cond.selects RX8 yX8_does yX8_does ∈ lw_all := in_all (List.mem_of_getElem? (i := 52) (by decide +kernel)) rfl
theorem inX0 : ∀ w ∈ wsX00, w ∈ lw_all := by decide +kernel
theorem inX1 : ∀ w ∈ wsX10, w ∈ lw_all := by decide +kernel
theorem inX2 : ∀ w ∈ wsX20, w ∈ lw_all := by decide +kernel
theorem inX3 : ∀ w ∈ wsX30, w ∈ lw_all := by decide +kernel
theorem inX4 : ∀ w ∈ wsX40, w ∈ lw_all := by decide +kernel
theorem inX5 : ∀ w ∈ wsX50, w ∈ lw_all := by decide +kernel
theorem inX6 : ∀ w ∈ wsX60, w ∈ lw_all := by decide +kernel
theorem inX7 : ∀ w ∈ wsX70, w ∈ lw_all := by decide +kernel
theorem inX8 : ∀ w ∈ wsX80, w ∈ lw_all := by decide +kernel
