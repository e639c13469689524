-- ===== PART A: goes FIRST, ahead of the names: the tables' words, and 'selects' of the private methods out of them =====
/-- a private method of a class that the tables say can be made, by its rows of tables_1 -/
def lw_okq (q : MethodName × Nat) : Prop := (q.1.cls ≠ "java/lang/invoke/MethodHandle" ∧ q.1.cls ≠ "java/lang/invoke/VarHandle") ∧ Cond.instantiable q.1.cls q.2 ∈ tables_1 ∧ Cond.privateMethod q.1 ∈ tables_1 ∧ Cond.instanceMethod q.1 ∈ tables_1
theorem lw_p0 : lw_okq (⟨"PenStrike$Lines", "noteTouching", "(I)V"⟩, 11) := ⟨⟨by decide +kernel, by decide +kernel⟩, List.mem_of_getElem? (i := 84) (by decide +kernel), List.mem_of_getElem? (i := 378) (by decide +kernel), List.mem_of_getElem? (i := 379) (by decide +kernel)⟩
theorem lw_p1 : lw_okq (⟨"PenStrike$Lines", "meet", "(II)Z"⟩, 11) := ⟨⟨by decide +kernel, by decide +kernel⟩, List.mem_of_getElem? (i := 84) (by decide +kernel), List.mem_of_getElem? (i := 382) (by decide +kernel), List.mem_of_getElem? (i := 383) (by decide +kernel)⟩
theorem lw_p2 : lw_okq (⟨"PenStrike$Lines", "reachesAcross", "(II)Z"⟩, 11) := ⟨⟨by decide +kernel, by decide +kernel⟩, List.mem_of_getElem? (i := 84) (by decide +kernel), List.mem_of_getElem? (i := 391) (by decide +kernel), List.mem_of_getElem? (i := 392) (by decide +kernel)⟩
theorem lw_p3 : lw_okq (⟨"PenStrike$Plotter", "errorOfPassing", "(I)I"⟩, 9) := ⟨⟨by decide +kernel, by decide +kernel⟩, List.mem_of_getElem? (i := 22) (by decide +kernel), List.mem_of_getElem? (i := 478) (by decide +kernel), List.mem_of_getElem? (i := 479) (by decide +kernel)⟩
theorem lw_p4 : lw_okq (⟨"PenStrike$Lines", "firstDrawnWithEnd", "(II)I"⟩, 11) := ⟨⟨by decide +kernel, by decide +kernel⟩, List.mem_of_getElem? (i := 84) (by decide +kernel), List.mem_of_getElem? (i := 614) (by decide +kernel), List.mem_of_getElem? (i := 615) (by decide +kernel)⟩
theorem lw_p5 : lw_okq (⟨"PenStrike$Lines", "isDrawnWithEnd", "(III)Z"⟩, 11) := ⟨⟨by decide +kernel, by decide +kernel⟩, List.mem_of_getElem? (i := 84) (by decide +kernel), List.mem_of_getElem? (i := 618) (by decide +kernel), List.mem_of_getElem? (i := 619) (by decide +kernel)⟩
theorem lw_p6 : lw_okq (⟨"PenStrike$Lines", "isSeam", "(II)Z"⟩, 11) := ⟨⟨by decide +kernel, by decide +kernel⟩, List.mem_of_getElem? (i := 84) (by decide +kernel), List.mem_of_getElem? (i := 623) (by decide +kernel), List.mem_of_getElem? (i := 624) (by decide +kernel)⟩
theorem lw_p7 : lw_okq (⟨"PenStrike$Lines", "endsThereByAnother", "(III)Z"⟩, 11) := ⟨⟨by decide +kernel, by decide +kernel⟩, List.mem_of_getElem? (i := 84) (by decide +kernel), List.mem_of_getElem? (i := 627) (by decide +kernel), List.mem_of_getElem? (i := 628) (by decide +kernel)⟩
theorem lw_p8 : lw_okq (⟨"PenStrike$FairPlan", "longestLeft", "(LPenStrike$Lines;)I"⟩, 2) := ⟨⟨by decide +kernel, by decide +kernel⟩, List.mem_of_getElem? (i := 232) (by decide +kernel), List.mem_of_getElem? (i := 652) (by decide +kernel), List.mem_of_getElem? (i := 653) (by decide +kernel)⟩
theorem lw_p9 : lw_okq (⟨"PenStrike$FairPlan", "leastLoaded", "(LPenStrike$Pens;)I"⟩, 2) := ⟨⟨by decide +kernel, by decide +kernel⟩, List.mem_of_getElem? (i := 232) (by decide +kernel), List.mem_of_getElem? (i := 657) (by decide +kernel), List.mem_of_getElem? (i := 658) (by decide +kernel)⟩
theorem lw_p10 : lw_okq (⟨"PenStrike$Route", "nearestLeft", "(LPenStrike$Plotter;LPenStrike$FairPlan;)I"⟩, 7) := ⟨⟨by decide +kernel, by decide +kernel⟩, List.mem_of_getElem? (i := 248) (by decide +kernel), List.mem_of_getElem? (i := 674) (by decide +kernel), List.mem_of_getElem? (i := 675) (by decide +kernel)⟩
theorem lw_p11 : lw_okq (⟨"PenStrike$Route", "travelTo", "(LPenStrike$Lines;II)I"⟩, 7) := ⟨⟨by decide +kernel, by decide +kernel⟩, List.mem_of_getElem? (i := 248) (by decide +kernel), List.mem_of_getElem? (i := 678) (by decide +kernel), List.mem_of_getElem? (i := 679) (by decide +kernel)⟩
theorem lw_p12 : lw_okq (⟨"PenStrike$Route", "goAlong", "(LPenStrike$Lines;I)I"⟩, 7) := ⟨⟨by decide +kernel, by decide +kernel⟩, List.mem_of_getElem? (i := 248) (by decide +kernel), List.mem_of_getElem? (i := 686) (by decide +kernel), List.mem_of_getElem? (i := 687) (by decide +kernel)⟩
theorem lw_p13 : lw_okq (⟨"PenStrike$Orders", "fittingSigns", "()I"⟩, 5) := ⟨⟨by decide +kernel, by decide +kernel⟩, List.mem_of_getElem? (i := 205) (by decide +kernel), List.mem_of_getElem? (i := 737) (by decide +kernel), List.mem_of_getElem? (i := 738) (by decide +kernel)⟩
theorem lw_p14 : lw_okq (⟨"PenStrike$Orders", "isDigitAt", "(I)Z"⟩, 5) := ⟨⟨by decide +kernel, by decide +kernel⟩, List.mem_of_getElem? (i := 205) (by decide +kernel), List.mem_of_getElem? (i := 744) (by decide +kernel), List.mem_of_getElem? (i := 745) (by decide +kernel)⟩
theorem lw_p15 : lw_okq (⟨"PenStrike$Orders", "isClosedBehind", "(I)Z"⟩, 5) := ⟨⟨by decide +kernel, by decide +kernel⟩, List.mem_of_getElem? (i := 205) (by decide +kernel), List.mem_of_getElem? (i := 749) (by decide +kernel), List.mem_of_getElem? (i := 750) (by decide +kernel)⟩
def lw_privs_1 : List (MethodName × Nat) := [(⟨"PenStrike$Lines", "noteTouching", "(I)V"⟩, 11), (⟨"PenStrike$Lines", "meet", "(II)Z"⟩, 11), (⟨"PenStrike$Lines", "reachesAcross", "(II)Z"⟩, 11), (⟨"PenStrike$Plotter", "errorOfPassing", "(I)I"⟩, 9), (⟨"PenStrike$Lines", "firstDrawnWithEnd", "(II)I"⟩, 11), (⟨"PenStrike$Lines", "isDrawnWithEnd", "(III)Z"⟩, 11), (⟨"PenStrike$Lines", "isSeam", "(II)Z"⟩, 11), (⟨"PenStrike$Lines", "endsThereByAnother", "(III)Z"⟩, 11), (⟨"PenStrike$FairPlan", "longestLeft", "(LPenStrike$Lines;)I"⟩, 2), (⟨"PenStrike$FairPlan", "leastLoaded", "(LPenStrike$Pens;)I"⟩, 2), (⟨"PenStrike$Route", "nearestLeft", "(LPenStrike$Plotter;LPenStrike$FairPlan;)I"⟩, 7), (⟨"PenStrike$Route", "travelTo", "(LPenStrike$Lines;II)I"⟩, 7), (⟨"PenStrike$Route", "goAlong", "(LPenStrike$Lines;I)I"⟩, 7), (⟨"PenStrike$Orders", "fittingSigns", "()I"⟩, 5), (⟨"PenStrike$Orders", "isDigitAt", "(I)Z"⟩, 5), (⟨"PenStrike$Orders", "isClosedBehind", "(I)Z"⟩, 5)]
theorem lw_r1 : ∀ q ∈ lw_privs_1, lw_okq q := List.forall_mem_cons.mpr ⟨lw_p0, List.forall_mem_cons.mpr ⟨lw_p1, List.forall_mem_cons.mpr ⟨lw_p2, List.forall_mem_cons.mpr ⟨lw_p3, List.forall_mem_cons.mpr ⟨lw_p4, List.forall_mem_cons.mpr ⟨lw_p5, List.forall_mem_cons.mpr ⟨lw_p6, List.forall_mem_cons.mpr ⟨lw_p7, List.forall_mem_cons.mpr ⟨lw_p8, List.forall_mem_cons.mpr ⟨lw_p9, List.forall_mem_cons.mpr ⟨lw_p10, List.forall_mem_cons.mpr ⟨lw_p11, List.forall_mem_cons.mpr ⟨lw_p12, List.forall_mem_cons.mpr ⟨lw_p13, List.forall_mem_cons.mpr ⟨lw_p14, List.forall_mem_cons.mpr ⟨lw_p15, fun _ h => absurd h List.not_mem_nil⟩⟩⟩⟩⟩⟩⟩⟩⟩⟩⟩⟩⟩⟩⟩⟩
theorem lw_p16 : lw_okq (⟨"PenStrike$Orders", "numberOf", "(I)I"⟩, 5) := ⟨⟨by decide +kernel, by decide +kernel⟩, List.mem_of_getElem? (i := 205) (by decide +kernel), List.mem_of_getElem? (i := 753) (by decide +kernel), List.mem_of_getElem? (i := 754) (by decide +kernel)⟩
theorem lw_p17 : lw_okq (⟨"PenStrike$Orders", "reasonOfDoing", "(LPenStrike$Plotter;II)I"⟩, 5) := ⟨⟨by decide +kernel, by decide +kernel⟩, List.mem_of_getElem? (i := 205) (by decide +kernel), List.mem_of_getElem? (i := 757) (by decide +kernel), List.mem_of_getElem? (i := 758) (by decide +kernel)⟩
theorem lw_p18 : lw_okq (⟨"PenStrike$Orders", "drawIn", "(LPenStrike$Plotter;II)I"⟩, 5) := ⟨⟨by decide +kernel, by decide +kernel⟩, List.mem_of_getElem? (i := 205) (by decide +kernel), List.mem_of_getElem? (i := 767) (by decide +kernel), List.mem_of_getElem? (i := 768) (by decide +kernel)⟩
theorem lw_p19 : lw_okq (⟨"PenStrikeModel", "keeps", "()V"⟩, 16) := ⟨⟨by decide +kernel, by decide +kernel⟩, List.mem_of_getElem? (i := 792) (by decide +kernel), List.mem_of_getElem? (i := 856) (by decide +kernel), List.mem_of_getElem? (i := 857) (by decide +kernel)⟩
theorem lw_p20 : lw_okq (⟨"PenStrikeModel", "acted", "(I)I"⟩, 16) := ⟨⟨by decide +kernel, by decide +kernel⟩, List.mem_of_getElem? (i := 792) (by decide +kernel), List.mem_of_getElem? (i := 860) (by decide +kernel), List.mem_of_getElem? (i := 861) (by decide +kernel)⟩
theorem lw_p21 : lw_okq (⟨"PenStrikeModel", "pn", "(II)I"⟩, 16) := ⟨⟨by decide +kernel, by decide +kernel⟩, List.mem_of_getElem? (i := 792) (by decide +kernel), List.mem_of_getElem? (i := 868) (by decide +kernel), List.mem_of_getElem? (i := 869) (by decide +kernel)⟩
theorem lw_p22 : lw_okq (⟨"PenStrikeModel", "lays", "(III)V"⟩, 16) := ⟨⟨by decide +kernel, by decide +kernel⟩, List.mem_of_getElem? (i := 792) (by decide +kernel), List.mem_of_getElem? (i := 874) (by decide +kernel), List.mem_of_getElem? (i := 875) (by decide +kernel)⟩
theorem lw_p23 : lw_okq (⟨"PenStrikeModel", "isPen", "(I)Z"⟩, 16) := ⟨⟨by decide +kernel, by decide +kernel⟩, List.mem_of_getElem? (i := 792) (by decide +kernel), List.mem_of_getElem? (i := 889) (by decide +kernel), List.mem_of_getElem? (i := 890) (by decide +kernel)⟩
theorem lw_p24 : lw_okq (⟨"PenStrikeModel", "present", "()I"⟩, 16) := ⟨⟨by decide +kernel, by decide +kernel⟩, List.mem_of_getElem? (i := 792) (by decide +kernel), List.mem_of_getElem? (i := 893) (by decide +kernel), List.mem_of_getElem? (i := 894) (by decide +kernel)⟩
theorem lw_p25 : lw_okq (⟨"PenStrikeModel", "strikes", "(I)Z"⟩, 16) := ⟨⟨by decide +kernel, by decide +kernel⟩, List.mem_of_getElem? (i := 792) (by decide +kernel), List.mem_of_getElem? (i := 905) (by decide +kernel), List.mem_of_getElem? (i := 906) (by decide +kernel)⟩
theorem lw_p26 : lw_okq (⟨"PenStrikeModel", "least", "(I)I"⟩, 16) := ⟨⟨by decide +kernel, by decide +kernel⟩, List.mem_of_getElem? (i := 792) (by decide +kernel), List.mem_of_getElem? (i := 909) (by decide +kernel), List.mem_of_getElem? (i := 910) (by decide +kernel)⟩
theorem lw_p27 : lw_okq (⟨"PenStrikeModel", "linesBy", "(I)I"⟩, 16) := ⟨⟨by decide +kernel, by decide +kernel⟩, List.mem_of_getElem? (i := 792) (by decide +kernel), List.mem_of_getElem? (i := 913) (by decide +kernel), List.mem_of_getElem? (i := 914) (by decide +kernel)⟩
theorem lw_p28 : lw_okq (⟨"PenStrikeModel", "ln", "(II)I"⟩, 16) := ⟨⟨by decide +kernel, by decide +kernel⟩, List.mem_of_getElem? (i := 792) (by decide +kernel), List.mem_of_getElem? (i := 917) (by decide +kernel), List.mem_of_getElem? (i := 918) (by decide +kernel)⟩
theorem lw_p29 : lw_okq (⟨"PenStrikeModel", "isLine", "(I)Z"⟩, 16) := ⟨⟨by decide +kernel, by decide +kernel⟩, List.mem_of_getElem? (i := 792) (by decide +kernel), List.mem_of_getElem? (i := 925) (by decide +kernel), List.mem_of_getElem? (i := 926) (by decide +kernel)⟩
theorem lw_p30 : lw_okq (⟨"PenStrikeModel", "length", "(I)I"⟩, 16) := ⟨⟨by decide +kernel, by decide +kernel⟩, List.mem_of_getElem? (i := 792) (by decide +kernel), List.mem_of_getElem? (i := 929) (by decide +kernel), List.mem_of_getElem? (i := 930) (by decide +kernel)⟩
theorem lw_p31 : lw_okq (⟨"PenStrikeModel", "isDrawn", "(I)Z"⟩, 16) := ⟨⟨by decide +kernel, by decide +kernel⟩, List.mem_of_getElem? (i := 792) (by decide +kernel), List.mem_of_getElem? (i := 936) (by decide +kernel), List.mem_of_getElem? (i := 937) (by decide +kernel)⟩
def lw_privs_2 : List (MethodName × Nat) := [(⟨"PenStrike$Orders", "numberOf", "(I)I"⟩, 5), (⟨"PenStrike$Orders", "reasonOfDoing", "(LPenStrike$Plotter;II)I"⟩, 5), (⟨"PenStrike$Orders", "drawIn", "(LPenStrike$Plotter;II)I"⟩, 5), (⟨"PenStrikeModel", "keeps", "()V"⟩, 16), (⟨"PenStrikeModel", "acted", "(I)I"⟩, 16), (⟨"PenStrikeModel", "pn", "(II)I"⟩, 16), (⟨"PenStrikeModel", "lays", "(III)V"⟩, 16), (⟨"PenStrikeModel", "isPen", "(I)Z"⟩, 16), (⟨"PenStrikeModel", "present", "()I"⟩, 16), (⟨"PenStrikeModel", "strikes", "(I)Z"⟩, 16), (⟨"PenStrikeModel", "least", "(I)I"⟩, 16), (⟨"PenStrikeModel", "linesBy", "(I)I"⟩, 16), (⟨"PenStrikeModel", "ln", "(II)I"⟩, 16), (⟨"PenStrikeModel", "isLine", "(I)Z"⟩, 16), (⟨"PenStrikeModel", "length", "(I)I"⟩, 16), (⟨"PenStrikeModel", "isDrawn", "(I)Z"⟩, 16)]
theorem lw_r2 : ∀ q ∈ lw_privs_2, lw_okq q := List.forall_mem_cons.mpr ⟨lw_p16, List.forall_mem_cons.mpr ⟨lw_p17, List.forall_mem_cons.mpr ⟨lw_p18, List.forall_mem_cons.mpr ⟨lw_p19, List.forall_mem_cons.mpr ⟨lw_p20, List.forall_mem_cons.mpr ⟨lw_p21, List.forall_mem_cons.mpr ⟨lw_p22, List.forall_mem_cons.mpr ⟨lw_p23, List.forall_mem_cons.mpr ⟨lw_p24, List.forall_mem_cons.mpr ⟨lw_p25, List.forall_mem_cons.mpr ⟨lw_p26, List.forall_mem_cons.mpr ⟨lw_p27, List.forall_mem_cons.mpr ⟨lw_p28, List.forall_mem_cons.mpr ⟨lw_p29, List.forall_mem_cons.mpr ⟨lw_p30, List.forall_mem_cons.mpr ⟨lw_p31, fun _ h => absurd h List.not_mem_nil⟩⟩⟩⟩⟩⟩⟩⟩⟩⟩⟩⟩⟩⟩⟩⟩
theorem lw_p32 : lw_okq (⟨"PenStrikeModel", "isWet", "(II)Z"⟩, 16) := ⟨⟨by decide +kernel, by decide +kernel⟩, List.mem_of_getElem? (i := 792) (by decide +kernel), List.mem_of_getElem? (i := 941) (by decide +kernel), List.mem_of_getElem? (i := 942) (by decide +kernel)⟩
theorem lw_p33 : lw_okq (⟨"PenStrikeModel", "takes", "(I)I"⟩, 16) := ⟨⟨by decide +kernel, by decide +kernel⟩, List.mem_of_getElem? (i := 792) (by decide +kernel), List.mem_of_getElem? (i := 949) (by decide +kernel), List.mem_of_getElem? (i := 950) (by decide +kernel)⟩
theorem lw_p34 : lw_okq (⟨"PenStrikeModel", "passes", "(I)V"⟩, 16) := ⟨⟨by decide +kernel, by decide +kernel⟩, List.mem_of_getElem? (i := 792) (by decide +kernel), List.mem_of_getElem? (i := 954) (by decide +kernel), List.mem_of_getElem? (i := 955) (by decide +kernel)⟩
theorem lw_p35 : lw_okq (⟨"PenStrikeModel", "goesHome", "()I"⟩, 16) := ⟨⟨by decide +kernel, by decide +kernel⟩, List.mem_of_getElem? (i := 792) (by decide +kernel), List.mem_of_getElem? (i := 962) (by decide +kernel), List.mem_of_getElem? (i := 963) (by decide +kernel)⟩
theorem lw_p36 : lw_okq (⟨"PenStrikeModel", "draws", "(II)I"⟩, 16) := ⟨⟨by decide +kernel, by decide +kernel⟩, List.mem_of_getElem? (i := 792) (by decide +kernel), List.mem_of_getElem? (i := 970) (by decide +kernel), List.mem_of_getElem? (i := 971) (by decide +kernel)⟩
theorem lw_p37 : lw_okq (⟨"PenStrikeModel", "why", "(III)I"⟩, 16) := ⟨⟨by decide +kernel, by decide +kernel⟩, List.mem_of_getElem? (i := 792) (by decide +kernel), List.mem_of_getElem? (i := 974) (by decide +kernel), List.mem_of_getElem? (i := 975) (by decide +kernel)⟩
theorem lw_p38 : lw_okq (⟨"PenStrikeModel", "far", "(IIII)I"⟩, 16) := ⟨⟨by decide +kernel, by decide +kernel⟩, List.mem_of_getElem? (i := 792) (by decide +kernel), List.mem_of_getElem? (i := 978) (by decide +kernel), List.mem_of_getElem? (i := 979) (by decide +kernel)⟩
theorem lw_p39 : lw_okq (⟨"PenStrikeModel", "uses", "(I)I"⟩, 16) := ⟨⟨by decide +kernel, by decide +kernel⟩, List.mem_of_getElem? (i := 792) (by decide +kernel), List.mem_of_getElem? (i := 982) (by decide +kernel), List.mem_of_getElem? (i := 983) (by decide +kernel)⟩
theorem lw_p40 : lw_okq (⟨"PenStrikeModel", "isWetBeside", "(II)Z"⟩, 16) := ⟨⟨by decide +kernel, by decide +kernel⟩, List.mem_of_getElem? (i := 792) (by decide +kernel), List.mem_of_getElem? (i := 986) (by decide +kernel), List.mem_of_getElem? (i := 987) (by decide +kernel)⟩
theorem lw_p41 : lw_okq (⟨"PenStrikeModel", "touches", "(II)Z"⟩, 16) := ⟨⟨by decide +kernel, by decide +kernel⟩, List.mem_of_getElem? (i := 792) (by decide +kernel), List.mem_of_getElem? (i := 990) (by decide +kernel), List.mem_of_getElem? (i := 991) (by decide +kernel)⟩
theorem lw_p42 : lw_okq (⟨"PenStrikeModel", "isOn", "(III)Z"⟩, 16) := ⟨⟨by decide +kernel, by decide +kernel⟩, List.mem_of_getElem? (i := 792) (by decide +kernel), List.mem_of_getElem? (i := 997) (by decide +kernel), List.mem_of_getElem? (i := 998) (by decide +kernel)⟩
theorem lw_p43 : lw_okq (⟨"PenStrikeModel", "waited", "(I)I"⟩, 16) := ⟨⟨by decide +kernel, by decide +kernel⟩, List.mem_of_getElem? (i := 792) (by decide +kernel), List.mem_of_getElem? (i := 1019) (by decide +kernel), List.mem_of_getElem? (i := 1020) (by decide +kernel)⟩
theorem lw_p44 : lw_okq (⟨"PenStrikeModel", "cleans", "()I"⟩, 16) := ⟨⟨by decide +kernel, by decide +kernel⟩, List.mem_of_getElem? (i := 792) (by decide +kernel), List.mem_of_getElem? (i := 1027) (by decide +kernel), List.mem_of_getElem? (i := 1028) (by decide +kernel)⟩
theorem lw_p45 : lw_okq (⟨"PenStrikeModel", "pensAt", "(II)I"⟩, 16) := ⟨⟨by decide +kernel, by decide +kernel⟩, List.mem_of_getElem? (i := 792) (by decide +kernel), List.mem_of_getElem? (i := 1063) (by decide +kernel), List.mem_of_getElem? (i := 1064) (by decide +kernel)⟩
theorem lw_p46 : lw_okq (⟨"PenStrikeModel", "plans", "()Z"⟩, 16) := ⟨⟨by decide +kernel, by decide +kernel⟩, List.mem_of_getElem? (i := 792) (by decide +kernel), List.mem_of_getElem? (i := 1085) (by decide +kernel), List.mem_of_getElem? (i := 1086) (by decide +kernel)⟩
theorem lw_p47 : lw_okq (⟨"PenStrikeModel", "tours", "()I"⟩, 16) := ⟨⟨by decide +kernel, by decide +kernel⟩, List.mem_of_getElem? (i := 792) (by decide +kernel), List.mem_of_getElem? (i := 1097) (by decide +kernel), List.mem_of_getElem? (i := 1098) (by decide +kernel)⟩
def lw_privs_3 : List (MethodName × Nat) := [(⟨"PenStrikeModel", "isWet", "(II)Z"⟩, 16), (⟨"PenStrikeModel", "takes", "(I)I"⟩, 16), (⟨"PenStrikeModel", "passes", "(I)V"⟩, 16), (⟨"PenStrikeModel", "goesHome", "()I"⟩, 16), (⟨"PenStrikeModel", "draws", "(II)I"⟩, 16), (⟨"PenStrikeModel", "why", "(III)I"⟩, 16), (⟨"PenStrikeModel", "far", "(IIII)I"⟩, 16), (⟨"PenStrikeModel", "uses", "(I)I"⟩, 16), (⟨"PenStrikeModel", "isWetBeside", "(II)Z"⟩, 16), (⟨"PenStrikeModel", "touches", "(II)Z"⟩, 16), (⟨"PenStrikeModel", "isOn", "(III)Z"⟩, 16), (⟨"PenStrikeModel", "waited", "(I)I"⟩, 16), (⟨"PenStrikeModel", "cleans", "()I"⟩, 16), (⟨"PenStrikeModel", "pensAt", "(II)I"⟩, 16), (⟨"PenStrikeModel", "plans", "()Z"⟩, 16), (⟨"PenStrikeModel", "tours", "()I"⟩, 16)]
theorem lw_r3 : ∀ q ∈ lw_privs_3, lw_okq q := List.forall_mem_cons.mpr ⟨lw_p32, List.forall_mem_cons.mpr ⟨lw_p33, List.forall_mem_cons.mpr ⟨lw_p34, List.forall_mem_cons.mpr ⟨lw_p35, List.forall_mem_cons.mpr ⟨lw_p36, List.forall_mem_cons.mpr ⟨lw_p37, List.forall_mem_cons.mpr ⟨lw_p38, List.forall_mem_cons.mpr ⟨lw_p39, List.forall_mem_cons.mpr ⟨lw_p40, List.forall_mem_cons.mpr ⟨lw_p41, List.forall_mem_cons.mpr ⟨lw_p42, List.forall_mem_cons.mpr ⟨lw_p43, List.forall_mem_cons.mpr ⟨lw_p44, List.forall_mem_cons.mpr ⟨lw_p45, List.forall_mem_cons.mpr ⟨lw_p46, List.forall_mem_cons.mpr ⟨lw_p47, fun _ h => absurd h List.not_mem_nil⟩⟩⟩⟩⟩⟩⟩⟩⟩⟩⟩⟩⟩⟩⟩⟩
theorem lw_p48 : lw_okq (⟨"PenStrikeModel", "faulty", "()I"⟩, 16) := ⟨⟨by decide +kernel, by decide +kernel⟩, List.mem_of_getElem? (i := 792) (by decide +kernel), List.mem_of_getElem? (i := 1121) (by decide +kernel), List.mem_of_getElem? (i := 1122) (by decide +kernel)⟩
theorem lw_p49 : lw_okq (⟨"PenStrikeModel", "doesNext", "()I"⟩, 16) := ⟨⟨by decide +kernel, by decide +kernel⟩, List.mem_of_getElem? (i := 792) (by decide +kernel), List.mem_of_getElem? (i := 1125) (by decide +kernel), List.mem_of_getElem? (i := 1126) (by decide +kernel)⟩
theorem lw_p50 : lw_okq (⟨"PenStrikeModel", "sign", "()I"⟩, 16) := ⟨⟨by decide +kernel, by decide +kernel⟩, List.mem_of_getElem? (i := 792) (by decide +kernel), List.mem_of_getElem? (i := 1129) (by decide +kernel), List.mem_of_getElem? (i := 1130) (by decide +kernel)⟩
theorem lw_p51 : lw_okq (⟨"PenStrikeModel", "readsForm", "()Z"⟩, 16) := ⟨⟨by decide +kernel, by decide +kernel⟩, List.mem_of_getElem? (i := 792) (by decide +kernel), List.mem_of_getElem? (i := 1133) (by decide +kernel), List.mem_of_getElem? (i := 1134) (by decide +kernel)⟩
theorem lw_p52 : lw_okq (⟨"PenStrikeModel", "does", "(I)I"⟩, 16) := ⟨⟨by decide +kernel, by decide +kernel⟩, List.mem_of_getElem? (i := 792) (by decide +kernel), List.mem_of_getElem? (i := 1137) (by decide +kernel), List.mem_of_getElem? (i := 1138) (by decide +kernel)⟩
def lw_privs_4 : List (MethodName × Nat) := [(⟨"PenStrikeModel", "faulty", "()I"⟩, 16), (⟨"PenStrikeModel", "doesNext", "()I"⟩, 16), (⟨"PenStrikeModel", "sign", "()I"⟩, 16), (⟨"PenStrikeModel", "readsForm", "()Z"⟩, 16), (⟨"PenStrikeModel", "does", "(I)I"⟩, 16)]
theorem lw_r4 : ∀ q ∈ lw_privs_4, lw_okq q := List.forall_mem_cons.mpr ⟨lw_p48, List.forall_mem_cons.mpr ⟨lw_p49, List.forall_mem_cons.mpr ⟨lw_p50, List.forall_mem_cons.mpr ⟨lw_p51, List.forall_mem_cons.mpr ⟨lw_p52, fun _ h => absurd h List.not_mem_nil⟩⟩⟩⟩⟩
def lw_privs : List (MethodName × Nat) := lw_privs_1 ++ (lw_privs_2 ++ (lw_privs_3 ++ (lw_privs_4)))
def lw_tbl : List Cond := k2_sels lw_privs ++ tables_1
theorem lw_privs_ok : ∀ q ∈ lw_privs, lw_okq q := by
  show ∀ q ∈ lw_privs_1 ++ (lw_privs_2 ++ (lw_privs_3 ++ (lw_privs_4))), lw_okq q
  exact List.forall_mem_append.mpr ⟨lw_r1, List.forall_mem_append.mpr ⟨lw_r2, List.forall_mem_append.mpr ⟨lw_r3, lw_r4⟩⟩⟩
/-- the streams that the claim lets the run draw from -/
abbrev lw_cs : List Choice := [Jvm.Choice.named "NaN.bits", Jvm.Choice.named "NaN.copy"]
theorem lw_bits : nanBits ∈ lw_cs := by first | decide | exact List.mem_cons_self | simp [lw_cs, nanBits]
def RX0 : String := "PenStrike$FairPlan"
def TX0 : u_T := fun k => match k with
  | 0 => ("PenStrike$FairPlan", "penFor", "[I", true)
  | _ => ("PenStrike$FairPlan", "load", "[I", true)
def tyX0 : Nat → FieldType := fun k => match k with
  | 0 => .array .int
  | _ => .array .int
abbrev wsX00 : List Cond := u_ws RX0 TX0 2
theorem nmX0 : ∀ a, a < 2 → ∀ b, b < 2 → a ≠ b → (TX0 a).2.1 ≠ (TX0 b).2.1 := by decide +kernel
theorem tyX0_ok : ∀ k, k < 2 → parseFieldDescriptor (TX0 k).2.2.1 = some (tyX0 k) := by decide +kernel
abbrev cX0_init : ByteArray := prog_2_method_1_code
def yX0_init : MethodName := ⟨RX0, "<init>", "()V"⟩
abbrev cX0_make : ByteArray := prog_2_method_2_code
def yX0_make : MethodName := ⟨RX0, "make", "(LPenStrike$Pens;LPenStrike$Lines;)V"⟩
abbrev cX0_longestLeft : ByteArray := prog_2_method_3_code
def yX0_longestLeft : MethodName := ⟨RX0, "longestLeft", "(LPenStrike$Lines;)I"⟩
abbrev cX0_leastLoaded : ByteArray := prog_2_method_4_code
def yX0_leastLoaded : MethodName := ⟨RX0, "leastLoaded", "(LPenStrike$Pens;)I"⟩
def RX1 : String := "PenStrike$History"
def TX1 : u_T := fun k => match k with
  | 0 => ("PenStrike$History", "states", "[LPenStrike$Plotter;", true)
  | 1 => ("PenStrike$History", "next", "I", false)
  | _ => ("PenStrike$History", "many", "I", false)
def tyX1 : Nat → FieldType := fun k => match k with
  | 0 => .array (.object "PenStrike$Plotter")
  | 1 => .int
  | _ => .int
abbrev wsX10 : List Cond := u_ws RX1 TX1 3
theorem nmX1 : ∀ a, a < 3 → ∀ b, b < 3 → a ≠ b → (TX1 a).2.1 ≠ (TX1 b).2.1 := by decide +kernel
theorem tyX1_ok : ∀ k, k < 3 → parseFieldDescriptor (TX1 k).2.2.1 = some (tyX1 k) := by decide +kernel
abbrev cX1_init : ByteArray := prog_3_method_1_code
def yX1_init : MethodName := ⟨RX1, "<init>", "()V"⟩
abbrev cX1_record : ByteArray := prog_3_method_2_code
def yX1_record : MethodName := ⟨RX1, "record", "(LPenStrike$Plotter;)V"⟩
abbrev cX1_restoreTo : ByteArray := prog_3_method_3_code
def yX1_restoreTo : MethodName := ⟨RX1, "restoreTo", "(LPenStrike$Plotter;)V"⟩
def RX2 : String := "PenStrike$Lines"
def TX2 : u_T := fun k => match k with
  | 0 => ("PenStrike$Lines", "many", "I", false)
  | 1 => ("PenStrike$Lines", "x", "[I", true)
  | 2 => ("PenStrike$Lines", "y", "[I", true)
  | 3 => ("PenStrike$Lines", "x2", "[I", true)
  | 4 => ("PenStrike$Lines", "y2", "[I", true)
  | 5 => ("PenStrike$Lines", "length", "[I", true)
  | 6 => ("PenStrike$Lines", "touchingSet", "[I", true)
  | 7 => ("PenStrike$Lines", "drawnBy", "[I", true)
  | 8 => ("PenStrike$Lines", "doneAt", "[I", true)
  | 9 => ("PenStrike$Lines", "dryAt", "[I", true)
  | _ => ("PenStrike$Lines", "inkAtBegin", "[I", true)
def tyX2 : Nat → FieldType := fun k => match k with
  | 0 => .int
  | 1 => .array .int
  | 2 => .array .int
  | 3 => .array .int
  | 4 => .array .int
  | 5 => .array .int
  | 6 => .array .int
  | 7 => .array .int
  | 8 => .array .int
  | 9 => .array .int
  | _ => .array .int
abbrev wsX20 : List Cond := u_ws RX2 TX2 11
theorem nmX2 : ∀ a, a < 11 → ∀ b, b < 11 → a ≠ b → (TX2 a).2.1 ≠ (TX2 b).2.1 := by decide +kernel
theorem tyX2_ok : ∀ k, k < 11 → parseFieldDescriptor (TX2 k).2.2.1 = some (tyX2 k) := by decide +kernel
abbrev cX2_init : ByteArray := prog_4_method_1_code
def yX2_init : MethodName := ⟨RX2, "<init>", "()V"⟩
abbrev cX2_copyFrom : ByteArray := prog_4_method_2_code
def yX2_copyFrom : MethodName := ⟨RX2, "copyFrom", "(LPenStrike$Lines;)V"⟩
abbrev cX2_has : ByteArray := prog_4_method_3_code
def yX2_has : MethodName := ⟨RX2, "has", "(I)Z"⟩
abbrev cX2_isDrawn : ByteArray := prog_4_method_4_code
def yX2_isDrawn : MethodName := ⟨RX2, "isDrawn", "(I)Z"⟩
abbrev cX2_add : ByteArray := prog_4_method_5_code
def yX2_add : MethodName := ⟨RX2, "add", "(IIII)I"⟩
abbrev cX2_noteTouching : ByteArray := prog_4_method_6_code
def yX2_noteTouching : MethodName := ⟨RX2, "noteTouching", "(I)V"⟩
abbrev cX2_isTouching : ByteArray := prog_4_method_7_code
def yX2_isTouching : MethodName := ⟨RX2, "isTouching", "(II)Z"⟩
abbrev cX2_beginX : ByteArray := prog_4_method_8_code
def yX2_beginX : MethodName := ⟨RX2, "beginX", "(II)I"⟩
abbrev cX2_beginY : ByteArray := prog_4_method_9_code
def yX2_beginY : MethodName := ⟨RX2, "beginY", "(II)I"⟩
abbrev cX2_lengthNotDrawn : ByteArray := prog_4_method_10_code
def yX2_lengthNotDrawn : MethodName := ⟨RX2, "lengthNotDrawn", "()I"⟩
abbrev cX2_howManyDrawn : ByteArray := prog_4_method_11_code
def yX2_howManyDrawn : MethodName := ⟨RX2, "howManyDrawn", "()I"⟩
abbrev cX2_howManyDrawnBy : ByteArray := prog_4_method_12_code
def yX2_howManyDrawnBy : MethodName := ⟨RX2, "howManyDrawnBy", "(I)I"⟩
abbrev cX2_meet : ByteArray := prog_4_method_13_code
def yX2_meet : MethodName := ⟨RX2, "meet", "(II)Z"⟩
abbrev cX2_spansMeet : ByteArray := prog_4_method_14_code
def yX2_spansMeet : MethodName := ⟨RX2, "spansMeet", "(IIII)Z"⟩
abbrev cX2_reachesAcross : ByteArray := prog_4_method_15_code
def yX2_reachesAcross : MethodName := ⟨RX2, "reachesAcross", "(II)Z"⟩
abbrev cX2_isDrawnWithEnd : ByteArray := prog_4_method_16_code
def yX2_isDrawnWithEnd : MethodName := ⟨RX2, "isDrawnWithEnd", "(III)Z"⟩
abbrev cX2_firstDrawnWithEnd : ByteArray := prog_4_method_17_code
def yX2_firstDrawnWithEnd : MethodName := ⟨RX2, "firstDrawnWithEnd", "(II)I"⟩
abbrev cX2_endsThereByAnother : ByteArray := prog_4_method_18_code
def yX2_endsThereByAnother : MethodName := ⟨RX2, "endsThereByAnother", "(III)Z"⟩
abbrev cX2_isSeam : ByteArray := prog_4_method_19_code
def yX2_isSeam : MethodName := ⟨RX2, "isSeam", "(II)Z"⟩
abbrev cX2_seamsFirstMetAt : ByteArray := prog_4_method_20_code
def yX2_seamsFirstMetAt : MethodName := ⟨RX2, "seamsFirstMetAt", "(I)I"⟩
abbrev cX2_wouldBecomeSeam : ByteArray := prog_4_method_21_code
def yX2_wouldBecomeSeam : MethodName := ⟨RX2, "wouldBecomeSeam", "(III)Z"⟩
def RX3 : String := "PenStrike$Orders"
def TX3 : u_T := fun k => match k with
  | 0 => ("PenStrike$Orders", "length", "I", false)
  | 1 => ("PenStrike$Orders", "signs", "[I", true)
  | 2 => ("PenStrike$Orders", "position", "I", false)
  | 3 => ("PenStrike$Orders", "reason", "I", false)
  | _ => ("PenStrike$Orders", "cause", "I", false)
def tyX3 : Nat → FieldType := fun k => match k with
  | 0 => .int
  | 1 => .array .int
  | 2 => .int
  | 3 => .int
  | _ => .int
abbrev wsX30 : List Cond := u_ws RX3 TX3 5
theorem nmX3 : ∀ a, a < 5 → ∀ b, b < 5 → a ≠ b → (TX3 a).2.1 ≠ (TX3 b).2.1 := by decide +kernel
theorem tyX3_ok : ∀ k, k < 5 → parseFieldDescriptor (TX3 k).2.2.1 = some (tyX3 k) := by decide +kernel
abbrev cX3_init : ByteArray := prog_5_method_1_code
def yX3_init : MethodName := ⟨RX3, "<init>", "()V"⟩
abbrev cX3_append : ByteArray := prog_5_method_2_code
def yX3_append : MethodName := ⟨RX3, "append", "(I)V"⟩
abbrev cX3_doOn : ByteArray := prog_5_method_3_code
def yX3_doOn : MethodName := ⟨RX3, "doOn", "(LPenStrike$Plotter;)I"⟩
abbrev cX3_isWithNumber : ByteArray := prog_5_method_4_code
def yX3_isWithNumber : MethodName := ⟨RX3, "isWithNumber", "(I)Z"⟩
abbrev cX3_fittingSigns : ByteArray := prog_5_method_5_code
def yX3_fittingSigns : MethodName := ⟨RX3, "fittingSigns", "()I"⟩
abbrev cX3_isDigitAt : ByteArray := prog_5_method_6_code
def yX3_isDigitAt : MethodName := ⟨RX3, "isDigitAt", "(I)Z"⟩
abbrev cX3_isClosedBehind : ByteArray := prog_5_method_7_code
def yX3_isClosedBehind : MethodName := ⟨RX3, "isClosedBehind", "(I)Z"⟩
abbrev cX3_numberOf : ByteArray := prog_5_method_8_code
def yX3_numberOf : MethodName := ⟨RX3, "numberOf", "(I)I"⟩
abbrev cX3_reasonOfDoing : ByteArray := prog_5_method_9_code
def yX3_reasonOfDoing : MethodName := ⟨RX3, "reasonOfDoing", "(LPenStrike$Plotter;II)I"⟩
abbrev cX3_takeIn : ByteArray := prog_5_method_10_code
def yX3_takeIn : MethodName := ⟨RX3, "takeIn", "(LPenStrike$Plotter;I)I"⟩
abbrev cX3_drawIn : ByteArray := prog_5_method_11_code
def yX3_drawIn : MethodName := ⟨RX3, "drawIn", "(LPenStrike$Plotter;II)I"⟩
abbrev cX3_goHomeIn : ByteArray := prog_5_method_12_code
def yX3_goHomeIn : MethodName := ⟨RX3, "goHomeIn", "(LPenStrike$Plotter;)I"⟩
abbrev cX3_waitIn : ByteArray := prog_5_method_13_code
def yX3_waitIn : MethodName := ⟨RX3, "waitIn", "(LPenStrike$Plotter;I)I"⟩
abbrev cX3_cleanIn : ByteArray := prog_5_method_14_code
def yX3_cleanIn : MethodName := ⟨RX3, "cleanIn", "(LPenStrike$Plotter;)I"⟩
def RX4 : String := "PenStrike$Pens"
def TX4 : u_T := fun k => match k with
  | 0 => ("PenStrike$Pens", "many", "I", false)
  | 1 => ("PenStrike$Pens", "kind", "[I", true)
  | 2 => ("PenStrike$Pens", "capacity", "[I", true)
  | 3 => ("PenStrike$Pens", "place", "[I", true)
  | 4 => ("PenStrike$Pens", "ink", "[I", true)
  | 5 => ("PenStrike$Pens", "drawn", "[I", true)
  | 6 => ("PenStrike$Pens", "idle", "[I", true)
  | _ => ("PenStrike$Pens", "away", "[I", true)
def tyX4 : Nat → FieldType := fun k => match k with
  | 0 => .int
  | 1 => .array .int
  | 2 => .array .int
  | 3 => .array .int
  | 4 => .array .int
  | 5 => .array .int
  | 6 => .array .int
  | _ => .array .int
abbrev wsX40 : List Cond := u_ws RX4 TX4 8
theorem nmX4 : ∀ a, a < 8 → ∀ b, b < 8 → a ≠ b → (TX4 a).2.1 ≠ (TX4 b).2.1 := by decide +kernel
theorem tyX4_ok : ∀ k, k < 8 → parseFieldDescriptor (TX4 k).2.2.1 = some (tyX4 k) := by decide +kernel
abbrev cX4_init : ByteArray := prog_6_method_1_code
def yX4_init : MethodName := ⟨RX4, "<init>", "()V"⟩
abbrev cX4_copyFrom : ByteArray := prog_6_method_2_code
def yX4_copyFrom : MethodName := ⟨RX4, "copyFrom", "(LPenStrike$Pens;)V"⟩
abbrev cX4_has : ByteArray := prog_6_method_3_code
def yX4_has : MethodName := ⟨RX4, "has", "(I)Z"⟩
abbrev cX4_isAway : ByteArray := prog_6_method_4_code
def yX4_isAway : MethodName := ⟨RX4, "isAway", "(I)Z"⟩
abbrev cX4_isPlaceOfAny : ByteArray := prog_6_method_5_code
def yX4_isPlaceOfAny : MethodName := ⟨RX4, "isPlaceOfAny", "(I)Z"⟩
abbrev cX4_add : ByteArray := prog_6_method_6_code
def yX4_add : MethodName := ⟨RX4, "add", "(III)I"⟩
abbrev cX4_howManyPresent : ByteArray := prog_6_method_7_code
def yX4_howManyPresent : MethodName := ⟨RX4, "howManyPresent", "()I"⟩
abbrev cX4_leastDrawnBut : ByteArray := prog_6_method_8_code
def yX4_leastDrawnBut : MethodName := ⟨RX4, "leastDrawnBut", "(I)I"⟩
abbrev cX4_spreadOf : ByteArray := prog_6_method_9_code
def yX4_spreadOf : MethodName := ⟨RX4, "spreadOf", "([I)I"⟩
def RX5 : String := "PenStrike$Plotter"
def TX5 : u_T := fun k => match k with
  | 0 => ("PenStrike$Plotter", "settings", "[I", true)
  | 1 => ("PenStrike$Plotter", "pens", "LPenStrike$Pens;", true)
  | 2 => ("PenStrike$Plotter", "lines", "LPenStrike$Lines;", true)
  | 3 => ("PenStrike$Plotter", "time", "I", false)
  | 4 => ("PenStrike$Plotter", "hand", "I", false)
  | 5 => ("PenStrike$Plotter", "x", "I", false)
  | 6 => ("PenStrike$Plotter", "y", "I", false)
  | 7 => ("PenStrike$Plotter", "swaps", "I", false)
  | _ => ("PenStrike$Plotter", "travelled", "I", false)
def tyX5 : Nat → FieldType := fun k => match k with
  | 0 => .array .int
  | 1 => .object "PenStrike$Pens"
  | 2 => .object "PenStrike$Lines"
  | 3 => .int
  | 4 => .int
  | 5 => .int
  | 6 => .int
  | 7 => .int
  | _ => .int
abbrev wsX50 : List Cond := u_ws RX5 TX5 9
theorem nmX5 : ∀ a, a < 9 → ∀ b, b < 9 → a ≠ b → (TX5 a).2.1 ≠ (TX5 b).2.1 := by decide +kernel
theorem tyX5_ok : ∀ k, k < 9 → parseFieldDescriptor (TX5 k).2.2.1 = some (tyX5 k) := by decide +kernel
abbrev cX5_init : ByteArray := prog_7_method_1_code
def yX5_init : MethodName := ⟨RX5, "<init>", "()V"⟩
abbrev cX5_copyFrom : ByteArray := prog_7_method_2_code
def yX5_copyFrom : MethodName := ⟨RX5, "copyFrom", "(LPenStrike$Plotter;)V"⟩
abbrev cX5_isStriking : ByteArray := prog_7_method_3_code
def yX5_isStriking : MethodName := ⟨RX5, "isStriking", "(I)Z"⟩
abbrev cX5_isClogged : ByteArray := prog_7_method_4_code
def yX5_isClogged : MethodName := ⟨RX5, "isClogged", "(I)Z"⟩
abbrev cX5_isWet : ByteArray := prog_7_method_5_code
def yX5_isWet : MethodName := ⟨RX5, "isWet", "(I)Z"⟩
abbrev cX5_howManyWet : ByteArray := prog_7_method_6_code
def yX5_howManyWet : MethodName := ⟨RX5, "howManyWet", "()I"⟩
abbrev cX5_shadeOf : ByteArray := prog_7_method_7_code
def yX5_shadeOf : MethodName := ⟨RX5, "shadeOf", "(I)F"⟩
abbrev cX5_inkFor : ByteArray := prog_7_method_8_code
def yX5_inkFor : MethodName := ⟨RX5, "inkFor", "(II)I"⟩
abbrev cX5_travelTo : ByteArray := prog_7_method_9_code
def yX5_travelTo : MethodName := ⟨RX5, "travelTo", "(II)I"⟩
abbrev cX5_dryTimeFor : ByteArray := prog_7_method_10_code
def yX5_dryTimeFor : MethodName := ⟨RX5, "dryTimeFor", "(I)I"⟩
abbrev cX5_reasonAgainst : ByteArray := prog_7_method_11_code
def yX5_reasonAgainst : MethodName := ⟨RX5, "reasonAgainst", "(III)I"⟩
abbrev cX5_drawByHand : ByteArray := prog_7_method_12_code
def yX5_drawByHand : MethodName := ⟨RX5, "drawByHand", "(II)V"⟩
abbrev cX5_passIdly : ByteArray := prog_7_method_13_code
def yX5_passIdly : MethodName := ⟨RX5, "passIdly", "(I)V"⟩
abbrev cX5_errorOfPassing : ByteArray := prog_7_method_14_code
def yX5_errorOfPassing : MethodName := ⟨RX5, "errorOfPassing", "(I)I"⟩
abbrev cX5_errorOfTaking : ByteArray := prog_7_method_15_code
def yX5_errorOfTaking : MethodName := ⟨RX5, "errorOfTaking", "(I)I"⟩
abbrev cX5_errorOfGoingHome : ByteArray := prog_7_method_16_code
def yX5_errorOfGoingHome : MethodName := ⟨RX5, "errorOfGoingHome", "()I"⟩
abbrev cX5_errorOfWaiting : ByteArray := prog_7_method_17_code
def yX5_errorOfWaiting : MethodName := ⟨RX5, "errorOfWaiting", "(I)I"⟩
abbrev cX5_errorOfCleaning : ByteArray := prog_7_method_18_code
def yX5_errorOfCleaning : MethodName := ⟨RX5, "errorOfCleaning", "()I"⟩
abbrev cX5_swapTo : ByteArray := prog_7_method_19_code
def yX5_swapTo : MethodName := ⟨RX5, "swapTo", "(I)I"⟩
abbrev cX5_cleanHand : ByteArray := prog_7_method_20_code
def yX5_cleanHand : MethodName := ⟨RX5, "cleanHand", "()I"⟩
def RX6 : String := "PenStrike$Route"
def TX6 : u_T := fun k => match k with
  | 0 => ("PenStrike$Route", "many", "I", false)
  | 1 => ("PenStrike$Route", "line", "[I", true)
  | 2 => ("PenStrike$Route", "way", "[I", true)
  | 3 => ("PenStrike$Route", "ticks", "[I", true)
  | 4 => ("PenStrike$Route", "isOnIt", "[Z", true)
  | 5 => ("PenStrike$Route", "x", "I", false)
  | _ => ("PenStrike$Route", "y", "I", false)
def tyX6 : Nat → FieldType := fun k => match k with
  | 0 => .int
  | 1 => .array .int
  | 2 => .array .int
  | 3 => .array .int
  | 4 => .array .boolean
  | 5 => .int
  | _ => .int
abbrev wsX60 : List Cond := u_ws RX6 TX6 7
theorem nmX6 : ∀ a, a < 7 → ∀ b, b < 7 → a ≠ b → (TX6 a).2.1 ≠ (TX6 b).2.1 := by decide +kernel
theorem tyX6_ok : ∀ k, k < 7 → parseFieldDescriptor (TX6 k).2.2.1 = some (tyX6 k) := by decide +kernel
abbrev cX6_init : ByteArray := prog_8_method_1_code
def yX6_init : MethodName := ⟨RX6, "<init>", "()V"⟩
abbrev cX6_make : ByteArray := prog_8_method_2_code
def yX6_make : MethodName := ⟨RX6, "make", "(LPenStrike$Plotter;LPenStrike$FairPlan;)V"⟩
abbrev cX6_nearestLeft : ByteArray := prog_8_method_3_code
def yX6_nearestLeft : MethodName := ⟨RX6, "nearestLeft", "(LPenStrike$Plotter;LPenStrike$FairPlan;)I"⟩
abbrev cX6_travelTo : ByteArray := prog_8_method_4_code
def yX6_travelTo : MethodName := ⟨RX6, "travelTo", "(LPenStrike$Lines;II)I"⟩
abbrev cX6_goAlong : ByteArray := prog_8_method_5_code
def yX6_goAlong : MethodName := ⟨RX6, "goAlong", "(LPenStrike$Lines;I)I"⟩
def RX7 : String := "PenStrike"
def TX7 : u_T := fun k => match k with
  | 0 => ("PenStrike", "now", "LPenStrike$Plotter;", true)
  | 1 => ("PenStrike", "trial", "LPenStrike$Plotter;", true)
  | 2 => ("PenStrike", "history", "LPenStrike$History;", true)
  | 3 => ("PenStrike", "orders", "LPenStrike$Orders;", true)
  | 4 => ("PenStrike", "plan", "LPenStrike$FairPlan;", true)
  | _ => ("PenStrike", "route", "LPenStrike$Route;", true)
def tyX7 : Nat → FieldType := fun k => match k with
  | 0 => .object "PenStrike$Plotter"
  | 1 => .object "PenStrike$Plotter"
  | 2 => .object "PenStrike$History"
  | 3 => .object "PenStrike$Orders"
  | 4 => .object "PenStrike$FairPlan"
  | _ => .object "PenStrike$Route"
abbrev wsX70 : List Cond := u_ws RX7 TX7 6
theorem nmX7 : ∀ a, a < 6 → ∀ b, b < 6 → a ≠ b → (TX7 a).2.1 ≠ (TX7 b).2.1 := by decide +kernel
theorem tyX7_ok : ∀ k, k < 6 → parseFieldDescriptor (TX7 k).2.2.1 = some (tyX7 k) := by decide +kernel
abbrev cX7_init : ByteArray := prog_1_method_1_code
def yX7_init : MethodName := ⟨RX7, "<init>", "()V"⟩
abbrev cX7_set : ByteArray := prog_1_method_2_code
def yX7_set : MethodName := ⟨RX7, "set", "(II)I"⟩
abbrev cX7_pen : ByteArray := prog_1_method_3_code
def yX7_pen : MethodName := ⟨RX7, "pen", "(IIII)I"⟩
abbrev cX7_line : ByteArray := prog_1_method_4_code
def yX7_line : MethodName := ⟨RX7, "line", "(IIII)I"⟩
abbrev cX7_leave : ByteArray := prog_1_method_5_code
def yX7_leave : MethodName := ⟨RX7, "leave", "(II)I"⟩
abbrev cX7_refill : ByteArray := prog_1_method_6_code
def yX7_refill : MethodName := ⟨RX7, "refill", "(I)I"⟩
abbrev cX7_penOf : ByteArray := prog_1_method_7_code
def yX7_penOf : MethodName := ⟨RX7, "penOf", "(II)I"⟩
abbrev cX7_lineOf : ByteArray := prog_1_method_8_code
def yX7_lineOf : MethodName := ⟨RX7, "lineOf", "(II)I"⟩
abbrev cX7_take : ByteArray := prog_1_method_9_code
def yX7_take : MethodName := ⟨RX7, "take", "(I)I"⟩
abbrev cX7_home : ByteArray := prog_1_method_10_code
def yX7_home : MethodName := ⟨RX7, "home", "()I"⟩
abbrev cX7_draw : ByteArray := prog_1_method_11_code
def yX7_draw : MethodName := ⟨RX7, "draw", "(II)I"⟩
abbrev cX7_erase : ByteArray := prog_1_method_12_code
def yX7_erase : MethodName := ⟨RX7, "erase", "(I)I"⟩
abbrev cX7_waits : ByteArray := prog_1_method_13_code
def yX7_waits : MethodName := ⟨RX7, "waits", "(I)I"⟩
abbrev cX7_clean : ByteArray := prog_1_method_14_code
def yX7_clean : MethodName := ⟨RX7, "clean", "()I"⟩
abbrev cX7_whyNot : ByteArray := prog_1_method_15_code
def yX7_whyNot : MethodName := ⟨RX7, "whyNot", "(II)I"⟩
abbrev cX7_waitFor : ByteArray := prog_1_method_16_code
def yX7_waitFor : MethodName := ⟨RX7, "waitFor", "(II)I"⟩
abbrev cX7_strikers : ByteArray := prog_1_method_17_code
def yX7_strikers : MethodName := ⟨RX7, "strikers", "()I"⟩
abbrev cX7_room : ByteArray := prog_1_method_18_code
def yX7_room : MethodName := ⟨RX7, "room", "(I)I"⟩
abbrev cX7_spread : ByteArray := prog_1_method_19_code
def yX7_spread : MethodName := ⟨RX7, "spread", "()I"⟩
abbrev cX7_touch : ByteArray := prog_1_method_20_code
def yX7_touch : MethodName := ⟨RX7, "touch", "(II)I"⟩
abbrev cX7_touching : ByteArray := prog_1_method_21_code
def yX7_touching : MethodName := ⟨RX7, "touching", "(I)I"⟩
abbrev cX7_seams : ByteArray := prog_1_method_22_code
def yX7_seams : MethodName := ⟨RX7, "seams", "()I"⟩
abbrev cX7_seamsBy : ByteArray := prog_1_method_23_code
def yX7_seamsBy : MethodName := ⟨RX7, "seamsBy", "(II)I"⟩
abbrev cX7_meanShade : ByteArray := prog_1_method_24_code
def yX7_meanShade : MethodName := ⟨RX7, "meanShade", "()I"⟩
abbrev cX7_fair : ByteArray := prog_1_method_25_code
def yX7_fair : MethodName := ⟨RX7, "fair", "(I)I"⟩
abbrev cX7_fairSpread : ByteArray := prog_1_method_26_code
def yX7_fairSpread : MethodName := ⟨RX7, "fairSpread", "()I"⟩
abbrev cX7_tour : ByteArray := prog_1_method_27_code
def yX7_tour : MethodName := ⟨RX7, "tour", "(II)I"⟩
abbrev cX7_count : ByteArray := prog_1_method_28_code
def yX7_count : MethodName := ⟨RX7, "count", "(I)I"⟩
abbrev cX7_undo : ByteArray := prog_1_method_29_code
def yX7_undo : MethodName := ⟨RX7, "undo", "()I"⟩
abbrev cX7_type : ByteArray := prog_1_method_30_code
def yX7_type : MethodName := ⟨RX7, "type", "(I)I"⟩
abbrev cX7_clearText : ByteArray := prog_1_method_31_code
def yX7_clearText : MethodName := ⟨RX7, "clearText", "()I"⟩
abbrev cX7_fault : ByteArray := prog_1_method_32_code
def yX7_fault : MethodName := ⟨RX7, "fault", "(I)I"⟩
abbrev cX7_play : ByteArray := prog_1_method_33_code
def yX7_play : MethodName := ⟨RX7, "play", "()I"⟩
abbrev cX7_isIn : ByteArray := prog_1_method_34_code
def yX7_isIn : MethodName := ⟨RX7, "isIn", "(III)Z"⟩
abbrev cX7_isPoint : ByteArray := prog_1_method_35_code
def yX7_isPoint : MethodName := ⟨RX7, "isPoint", "(II)Z"⟩
abbrev cX7_asBit : ByteArray := prog_1_method_36_code
def yX7_asBit : MethodName := ⟨RX7, "asBit", "(Z)I"⟩
abbrev cX7_holderTakes : ByteArray := prog_1_method_37_code
def yX7_holderTakes : MethodName := ⟨RX7, "holderTakes", "(II)Z"⟩
abbrev cX7_distance : ByteArray := prog_1_method_38_code
def yX7_distance : MethodName := ⟨RX7, "distance", "(IIII)I"⟩
abbrev cX7_copy : ByteArray := prog_1_method_39_code
def yX7_copy : MethodName := ⟨RX7, "copy", "([I[I)V"⟩
abbrev cX7_bitsOf : ByteArray := prog_1_method_40_code
def yX7_bitsOf : MethodName := ⟨RX7, "bitsOf", "(F)I"⟩
def RX8 : String := "PenStrikeModel"
def TX8 : u_T := fun k => match k with
  | 0 => ("PenStrikeModel", "s", "[I", true)
  | 1 => ("PenStrikeModel", "was", "[I", true)
  | 2 => ("PenStrikeModel", "begun", "[I", true)
  | 3 => ("PenStrikeModel", "aside", "[I", true)
  | 4 => ("PenStrikeModel", "states", "I", false)
  | 5 => ("PenStrikeModel", "text", "[C", true)
  | 6 => ("PenStrikeModel", "typed", "I", false)
  | 7 => ("PenStrikeModel", "at", "I", false)
  | 8 => ("PenStrikeModel", "got", "I", false)
  | 9 => ("PenStrikeModel", "reason", "I", false)
  | 10 => ("PenStrikeModel", "cause", "I", false)
  | 11 => ("PenStrikeModel", "fair", "[I", true)
  | 12 => ("PenStrikeModel", "sums", "[I", true)
  | 13 => ("PenStrikeModel", "row", "[I", true)
  | 14 => ("PenStrikeModel", "way", "[I", true)
  | _ => ("PenStrikeModel", "ticks", "[I", true)
def tyX8 : Nat → FieldType := fun k => match k with
  | 0 => .array .int
  | 1 => .array .int
  | 2 => .array .int
  | 3 => .array .int
  | 4 => .int
  | 5 => .array .char
  | 6 => .int
  | 7 => .int
  | 8 => .int
  | 9 => .int
  | 10 => .int
  | 11 => .array .int
  | 12 => .array .int
  | 13 => .array .int
  | 14 => .array .int
  | _ => .array .int
abbrev wsX80 : List Cond := u_ws RX8 TX8 16
theorem nmX8 : ∀ a, a < 16 → ∀ b, b < 16 → a ≠ b → (TX8 a).2.1 ≠ (TX8 b).2.1 := by decide +kernel
theorem tyX8_ok : ∀ k, k < 16 → parseFieldDescriptor (TX8 k).2.2.1 = some (tyX8 k) := by decide +kernel
abbrev cX8_init : ByteArray := prog_10_method_1_code
def yX8_init : MethodName := ⟨RX8, "<init>", "()V"⟩
abbrev cX8_in : ByteArray := prog_10_method_2_code
def yX8_in : MethodName := ⟨RX8, "in", "(III)Z"⟩
abbrev cX8_apart : ByteArray := prog_10_method_3_code
def yX8_apart : MethodName := ⟨RX8, "apart", "(II)I"⟩
abbrev cX8_pn : ByteArray := prog_10_method_4_code
def yX8_pn : MethodName := ⟨RX8, "pn", "(II)I"⟩
abbrev cX8_lays : ByteArray := prog_10_method_5_code
def yX8_lays : MethodName := ⟨RX8, "lays", "(III)V"⟩
abbrev cX8_ln : ByteArray := prog_10_method_6_code
def yX8_ln : MethodName := ⟨RX8, "ln", "(II)I"⟩
abbrev cX8_isPen : ByteArray := prog_10_method_7_code
def yX8_isPen : MethodName := ⟨RX8, "isPen", "(I)Z"⟩
abbrev cX8_isLine : ByteArray := prog_10_method_8_code
def yX8_isLine : MethodName := ⟨RX8, "isLine", "(I)Z"⟩
abbrev cX8_isDrawn : ByteArray := prog_10_method_9_code
def yX8_isDrawn : MethodName := ⟨RX8, "isDrawn", "(I)Z"⟩
abbrev cX8_keeps : ByteArray := prog_10_method_10_code
def yX8_keeps : MethodName := ⟨RX8, "keeps", "()V"⟩
abbrev cX8_acted : ByteArray := prog_10_method_11_code
def yX8_acted : MethodName := ⟨RX8, "acted", "(I)I"⟩
abbrev cX8_set : ByteArray := prog_10_method_12_code
def yX8_set : MethodName := ⟨RX8, "set", "(II)I"⟩
abbrev cX8_pen : ByteArray := prog_10_method_13_code
def yX8_pen : MethodName := ⟨RX8, "pen", "(IIII)I"⟩
abbrev cX8_isCoordinate : ByteArray := prog_10_method_14_code
def yX8_isCoordinate : MethodName := ⟨RX8, "isCoordinate", "(I)Z"⟩
abbrev cX8_line : ByteArray := prog_10_method_15_code
def yX8_line : MethodName := ⟨RX8, "line", "(IIII)I"⟩
abbrev cX8_present : ByteArray := prog_10_method_16_code
def yX8_present : MethodName := ⟨RX8, "present", "()I"⟩
abbrev cX8_leave : ByteArray := prog_10_method_17_code
def yX8_leave : MethodName := ⟨RX8, "leave", "(II)I"⟩
abbrev cX8_refill : ByteArray := prog_10_method_18_code
def yX8_refill : MethodName := ⟨RX8, "refill", "(I)I"⟩
abbrev cX8_least : ByteArray := prog_10_method_19_code
def yX8_least : MethodName := ⟨RX8, "least", "(I)I"⟩
abbrev cX8_strikes : ByteArray := prog_10_method_20_code
def yX8_strikes : MethodName := ⟨RX8, "strikes", "(I)Z"⟩
abbrev cX8_linesBy : ByteArray := prog_10_method_21_code
def yX8_linesBy : MethodName := ⟨RX8, "linesBy", "(I)I"⟩
abbrev cX8_penOf : ByteArray := prog_10_method_22_code
def yX8_penOf : MethodName := ⟨RX8, "penOf", "(II)I"⟩
abbrev cX8_length : ByteArray := prog_10_method_23_code
def yX8_length : MethodName := ⟨RX8, "length", "(I)I"⟩
abbrev cX8_isWet : ByteArray := prog_10_method_24_code
def yX8_isWet : MethodName := ⟨RX8, "isWet", "(II)Z"⟩
abbrev cX8_lineOf : ByteArray := prog_10_method_25_code
def yX8_lineOf : MethodName := ⟨RX8, "lineOf", "(II)I"⟩
abbrev cX8_passes : ByteArray := prog_10_method_26_code
def yX8_passes : MethodName := ⟨RX8, "passes", "(I)V"⟩
abbrev cX8_takes : ByteArray := prog_10_method_27_code
def yX8_takes : MethodName := ⟨RX8, "takes", "(I)I"⟩
abbrev cX8_take : ByteArray := prog_10_method_28_code
def yX8_take : MethodName := ⟨RX8, "take", "(I)I"⟩
abbrev cX8_goesHome : ByteArray := prog_10_method_29_code
def yX8_goesHome : MethodName := ⟨RX8, "goesHome", "()I"⟩
abbrev cX8_home : ByteArray := prog_10_method_30_code
def yX8_home : MethodName := ⟨RX8, "home", "()I"⟩
abbrev cX8_far : ByteArray := prog_10_method_31_code
def yX8_far : MethodName := ⟨RX8, "far", "(IIII)I"⟩
abbrev cX8_side : ByteArray := prog_10_method_32_code
def yX8_side : MethodName := ⟨RX8, "side", "(IIIIII)I"⟩
abbrev cX8_isOn : ByteArray := prog_10_method_33_code
def yX8_isOn : MethodName := ⟨RX8, "isOn", "(III)Z"⟩
abbrev cX8_touches : ByteArray := prog_10_method_34_code
def yX8_touches : MethodName := ⟨RX8, "touches", "(II)Z"⟩
abbrev cX8_isWetBeside : ByteArray := prog_10_method_35_code
def yX8_isWetBeside : MethodName := ⟨RX8, "isWetBeside", "(II)Z"⟩
abbrev cX8_uses : ByteArray := prog_10_method_36_code
def yX8_uses : MethodName := ⟨RX8, "uses", "(I)I"⟩
abbrev cX8_why : ByteArray := prog_10_method_37_code
def yX8_why : MethodName := ⟨RX8, "why", "(III)I"⟩
abbrev cX8_draws : ByteArray := prog_10_method_38_code
def yX8_draws : MethodName := ⟨RX8, "draws", "(II)I"⟩
abbrev cX8_draw : ByteArray := prog_10_method_39_code
def yX8_draw : MethodName := ⟨RX8, "draw", "(II)I"⟩
abbrev cX8_erase : ByteArray := prog_10_method_40_code
def yX8_erase : MethodName := ⟨RX8, "erase", "(I)I"⟩
abbrev cX8_waited : ByteArray := prog_10_method_41_code
def yX8_waited : MethodName := ⟨RX8, "waited", "(I)I"⟩
abbrev cX8_waits : ByteArray := prog_10_method_42_code
def yX8_waits : MethodName := ⟨RX8, "waits", "(I)I"⟩
abbrev cX8_cleans : ByteArray := prog_10_method_43_code
def yX8_cleans : MethodName := ⟨RX8, "cleans", "()I"⟩
abbrev cX8_clean : ByteArray := prog_10_method_44_code
def yX8_clean : MethodName := ⟨RX8, "clean", "()I"⟩
abbrev cX8_whyNot : ByteArray := prog_10_method_45_code
def yX8_whyNot : MethodName := ⟨RX8, "whyNot", "(II)I"⟩
abbrev cX8_waitFor : ByteArray := prog_10_method_46_code
def yX8_waitFor : MethodName := ⟨RX8, "waitFor", "(II)I"⟩
abbrev cX8_strikers : ByteArray := prog_10_method_47_code
def yX8_strikers : MethodName := ⟨RX8, "strikers", "()I"⟩
abbrev cX8_room : ByteArray := prog_10_method_48_code
def yX8_room : MethodName := ⟨RX8, "room", "(I)I"⟩
abbrev cX8_spread : ByteArray := prog_10_method_49_code
def yX8_spread : MethodName := ⟨RX8, "spread", "()I"⟩
abbrev cX8_touch : ByteArray := prog_10_method_50_code
def yX8_touch : MethodName := ⟨RX8, "touch", "(II)I"⟩
abbrev cX8_touching : ByteArray := prog_10_method_51_code
def yX8_touching : MethodName := ⟨RX8, "touching", "(I)I"⟩
abbrev cX8_pensAt : ByteArray := prog_10_method_52_code
def yX8_pensAt : MethodName := ⟨RX8, "pensAt", "(II)I"⟩
abbrev cX8_isSome : ByteArray := prog_10_method_53_code
def yX8_isSome : MethodName := ⟨RX8, "isSome", "(I)Z"⟩
abbrev cX8_seams : ByteArray := prog_10_method_54_code
def yX8_seams : MethodName := ⟨RX8, "seams", "()I"⟩
abbrev cX8_seamsBy : ByteArray := prog_10_method_55_code
def yX8_seamsBy : MethodName := ⟨RX8, "seamsBy", "(II)I"⟩
abbrev cX8_meanShade : ByteArray := prog_10_method_56_code
def yX8_meanShade : MethodName := ⟨RX8, "meanShade", "()I"⟩
abbrev cX8_plans : ByteArray := prog_10_method_57_code
def yX8_plans : MethodName := ⟨RX8, "plans", "()Z"⟩
abbrev cX8_fair : ByteArray := prog_10_method_58_code
def yX8_fair : MethodName := ⟨RX8, "fair", "(I)I"⟩
abbrev cX8_fairSpread : ByteArray := prog_10_method_59_code
def yX8_fairSpread : MethodName := ⟨RX8, "fairSpread", "()I"⟩
abbrev cX8_tours : ByteArray := prog_10_method_60_code
def yX8_tours : MethodName := ⟨RX8, "tours", "()I"⟩
abbrev cX8_tour : ByteArray := prog_10_method_61_code
def yX8_tour : MethodName := ⟨RX8, "tour", "(II)I"⟩
abbrev cX8_count : ByteArray := prog_10_method_62_code
def yX8_count : MethodName := ⟨RX8, "count", "(I)I"⟩
abbrev cX8_undo : ByteArray := prog_10_method_63_code
def yX8_undo : MethodName := ⟨RX8, "undo", "()I"⟩
abbrev cX8_type : ByteArray := prog_10_method_64_code
def yX8_type : MethodName := ⟨RX8, "type", "(I)I"⟩
abbrev cX8_clearText : ByteArray := prog_10_method_65_code
def yX8_clearText : MethodName := ⟨RX8, "clearText", "()I"⟩
abbrev cX8_sign : ByteArray := prog_10_method_66_code
def yX8_sign : MethodName := ⟨RX8, "sign", "()I"⟩
abbrev cX8_readsForm : ByteArray := prog_10_method_67_code
def yX8_readsForm : MethodName := ⟨RX8, "readsForm", "()Z"⟩
abbrev cX8_does : ByteArray := prog_10_method_68_code
def yX8_does : MethodName := ⟨RX8, "does", "(I)I"⟩
abbrev cX8_doesNext : ByteArray := prog_10_method_69_code
def yX8_doesNext : MethodName := ⟨RX8, "doesNext", "()I"⟩
abbrev cX8_faulty : ByteArray := prog_10_method_70_code
def yX8_faulty : MethodName := ⟨RX8, "faulty", "()I"⟩
abbrev cX8_fault : ByteArray := prog_10_method_71_code
def yX8_fault : MethodName := ⟨RX8, "fault", "(I)I"⟩
abbrev cX8_play : ByteArray := prog_10_method_72_code
def yX8_play : MethodName := ⟨RX8, "play", "()I"⟩
def RJx8e188 : String := "java/lang/Cloneable"
def TJx8e188 : u_T := fun k => match k with
  | _ => ("", "", "", false)
def tyJx8e188 : Nat → FieldType := fun k => match k with
  | _ => .int
def RJxf58ca : String := "java/lang/Float"
def TJxf58ca : u_T := fun k => match k with
  | _ => ("", "", "", false)
def tyJxf58ca : Nat → FieldType := fun k => match k with
  | _ => .int
abbrev cJxf58ca_isNaN_12338 : ByteArray := prog_12_method_6_code
def yJxf58ca_isNaN_12338 : MethodName := ⟨RJxf58ca, "isNaN", "(F)Z"⟩
abbrev cJxf58ca_floatToIntBits_5c35a : ByteArray := prog_12_method_24_code
def yJxf58ca_floatToIntBits_5c35a : MethodName := ⟨RJxf58ca, "floatToIntBits", "(F)I"⟩
def RJ9 : String := "java/lang/Math"
def TJ9 : u_T := fun k => match k with
  | _ => ("", "", "", false)
def tyJ9 : Nat → FieldType := fun k => match k with
  | _ => .int
abbrev cJ9_abs_0f7a4 : ByteArray := prog_13_method_59_code
def yJ9_abs_0f7a4 : MethodName := ⟨RJ9, "abs", "(I)I"⟩
abbrev cJ9_max_7cf53 : ByteArray := prog_13_method_65_code
def yJ9_max_7cf53 : MethodName := ⟨RJ9, "max", "(II)I"⟩
abbrev cJ9_min_7cf53 : ByteArray := prog_13_method_69_code
def yJ9_min_7cf53 : MethodName := ⟨RJ9, "min", "(II)I"⟩
def RJ10 : String := "java/lang/System"
def TJ10 : u_T := fun k => match k with
  | _ => ("", "", "", false)
def tyJ10 : Nat → FieldType := fun k => match k with
  | _ => .int
def RL : String := "PenStrikeLaw"
abbrev cL_law : ByteArray := code
def yL_law : MethodName := ⟨RL, "law", "([I)Z"⟩
abbrev vwCl : List vw_C := [(RX0, TX0, 2), (RX1, TX1, 3), (RX2, TX2, 11), (RX3, TX3, 5), (RX4, TX4, 8), (RX5, TX5, 9), (RX6, TX6, 7), (RX7, TX7, 6), (RX8, TX8, 16)]
