-- ===== PART A: goes FIRST, ahead of the names: the tables' words, and 'selects' of the private methods out of them =====
/-- a private method of a class that the tables say can be made, by its rows of tables_1 -/
def lw_okq (q : MethodName × Nat) : Prop := (q.1.cls ≠ "java/lang/invoke/MethodHandle" ∧ q.1.cls ≠ "java/lang/invoke/VarHandle") ∧ Cond.instantiable q.1.cls q.2 ∈ tables_1 ∧ Cond.privateMethod q.1 ∈ tables_1 ∧ Cond.instanceMethod q.1 ∈ tables_1
theorem lw_p0 : lw_okq (⟨"PenStrike$Lines", "noteTouching", "(I)V"⟩, 11) := ⟨⟨by decide +kernel, by decide +kernel⟩, List.mem_of_getElem? (i := 80) (by decide +kernel), List.mem_of_getElem? (i := 354) (by decide +kernel), List.mem_of_getElem? (i := 355) (by decide +kernel)⟩
theorem lw_p1 : lw_okq (⟨"PenStrike$Lines", "meet", "(II)Z"⟩, 11) := ⟨⟨by decide +kernel, by decide +kernel⟩, List.mem_of_getElem? (i := 80) (by decide +kernel), List.mem_of_getElem? (i := 358) (by decide +kernel), List.mem_of_getElem? (i := 359) (by decide +kernel)⟩
theorem lw_p2 : lw_okq (⟨"PenStrike$Lines", "reachesAcross", "(II)Z"⟩, 11) := ⟨⟨by decide +kernel, by decide +kernel⟩, List.mem_of_getElem? (i := 80) (by decide +kernel), List.mem_of_getElem? (i := 367) (by decide +kernel), List.mem_of_getElem? (i := 368) (by decide +kernel)⟩
theorem lw_p3 : lw_okq (⟨"PenStrike$Plotter", "errorOfPassing", "(I)I"⟩, 9) := ⟨⟨by decide +kernel, by decide +kernel⟩, List.mem_of_getElem? (i := 20) (by decide +kernel), List.mem_of_getElem? (i := 389) (by decide +kernel), List.mem_of_getElem? (i := 390) (by decide +kernel)⟩
theorem lw_p4 : lw_okq (⟨"PenStrike$Lines", "firstDrawnWithEnd", "(II)I"⟩, 11) := ⟨⟨by decide +kernel, by decide +kernel⟩, List.mem_of_getElem? (i := 80) (by decide +kernel), List.mem_of_getElem? (i := 550) (by decide +kernel), List.mem_of_getElem? (i := 551) (by decide +kernel)⟩
theorem lw_p5 : lw_okq (⟨"PenStrike$Lines", "isDrawnWithEnd", "(III)Z"⟩, 11) := ⟨⟨by decide +kernel, by decide +kernel⟩, List.mem_of_getElem? (i := 80) (by decide +kernel), List.mem_of_getElem? (i := 554) (by decide +kernel), List.mem_of_getElem? (i := 555) (by decide +kernel)⟩
theorem lw_p6 : lw_okq (⟨"PenStrike$Lines", "isSeam", "(II)Z"⟩, 11) := ⟨⟨by decide +kernel, by decide +kernel⟩, List.mem_of_getElem? (i := 80) (by decide +kernel), List.mem_of_getElem? (i := 558) (by decide +kernel), List.mem_of_getElem? (i := 559) (by decide +kernel)⟩
theorem lw_p7 : lw_okq (⟨"PenStrike$Lines", "endsThereByAnother", "(III)Z"⟩, 11) := ⟨⟨by decide +kernel, by decide +kernel⟩, List.mem_of_getElem? (i := 80) (by decide +kernel), List.mem_of_getElem? (i := 562) (by decide +kernel), List.mem_of_getElem? (i := 563) (by decide +kernel)⟩
def lw_privs_1 : List (MethodName × Nat) := [(⟨"PenStrike$Lines", "noteTouching", "(I)V"⟩, 11), (⟨"PenStrike$Lines", "meet", "(II)Z"⟩, 11), (⟨"PenStrike$Lines", "reachesAcross", "(II)Z"⟩, 11), (⟨"PenStrike$Plotter", "errorOfPassing", "(I)I"⟩, 9), (⟨"PenStrike$Lines", "firstDrawnWithEnd", "(II)I"⟩, 11), (⟨"PenStrike$Lines", "isDrawnWithEnd", "(III)Z"⟩, 11), (⟨"PenStrike$Lines", "isSeam", "(II)Z"⟩, 11), (⟨"PenStrike$Lines", "endsThereByAnother", "(III)Z"⟩, 11)]
theorem lw_r1 : ∀ q ∈ lw_privs_1, lw_okq q := List.forall_mem_cons.mpr ⟨lw_p0, List.forall_mem_cons.mpr ⟨lw_p1, List.forall_mem_cons.mpr ⟨lw_p2, List.forall_mem_cons.mpr ⟨lw_p3, List.forall_mem_cons.mpr ⟨lw_p4, List.forall_mem_cons.mpr ⟨lw_p5, List.forall_mem_cons.mpr ⟨lw_p6, List.forall_mem_cons.mpr ⟨lw_p7, fun _ h => absurd h List.not_mem_nil⟩⟩⟩⟩⟩⟩⟩⟩
def lw_privs : List (MethodName × Nat) := lw_privs_1
def lw_tbl : List Cond := k2_sels lw_privs ++ tables_1
theorem lw_privs_ok : ∀ q ∈ lw_privs, lw_okq q := lw_r1
/-- the streams that the claim lets the run draw from -/
abbrev lw_cs : List Choice := [Jvm.Choice.named "NaN.bits"]
theorem lw_bits : nanBits ∈ lw_cs := by first | decide | exact List.mem_cons_self | simp [lw_cs, nanBits]
def RX0 : String := "PenStrike$FairPlan"
def TX0 : u_T := fun k => match k with
  | 0 => ("PenStrike$FairPlan", "penFor", "[I", true)
  | _ => ("PenStrike$FairPlan", "load", "[I", true)
def tyX0 : Nat → FieldType := fun k => match k with
  | 0 => .array .int
  | _ => .array .int
abbrev wsX00 : List Cond := u_ws RX0 TX0 2
theorem nmX0 : ∀ a, a < 2 → ∀ b, b < 2 → a ≠ b → (TX0 a).2.1 ≠ (TX0 b).2.1 := by decide +kernel
theorem tyX0_ok : ∀ k, k < 2 → parseFieldDescriptor (TX0 k).2.2.1 = some (tyX0 k) := by decide +kernel
abbrev cX0_init : ByteArray := prog_2_method_1_code
def yX0_init : MethodName := ⟨RX0, "<init>", "()V"⟩
def RX1 : String := "PenStrike$History"
def TX1 : u_T := fun k => match k with
  | 0 => ("PenStrike$History", "states", "[LPenStrike$Plotter;", true)
  | 1 => ("PenStrike$History", "next", "I", false)
  | _ => ("PenStrike$History", "many", "I", false)
def tyX1 : Nat → FieldType := fun k => match k with
  | 0 => .array (.object "PenStrike$Plotter")
  | 1 => .int
  | _ => .int
abbrev wsX10 : List Cond := u_ws RX1 TX1 3
theorem nmX1 : ∀ a, a < 3 → ∀ b, b < 3 → a ≠ b → (TX1 a).2.1 ≠ (TX1 b).2.1 := by decide +kernel
theorem tyX1_ok : ∀ k, k < 3 → parseFieldDescriptor (TX1 k).2.2.1 = some (tyX1 k) := by decide +kernel
abbrev cX1_init : ByteArray := prog_3_method_1_code
def yX1_init : MethodName := ⟨RX1, "<init>", "()V"⟩
abbrev cX1_record : ByteArray := prog_3_method_2_code
def yX1_record : MethodName := ⟨RX1, "record", "(LPenStrike$Plotter;)V"⟩
abbrev cX1_restoreTo : ByteArray := prog_3_method_3_code
def yX1_restoreTo : MethodName := ⟨RX1, "restoreTo", "(LPenStrike$Plotter;)V"⟩
def RX2 : String := "PenStrike$Lines"
def TX2 : u_T := fun k => match k with
  | 0 => ("PenStrike$Lines", "many", "I", false)
  | 1 => ("PenStrike$Lines", "x", "[I", true)
  | 2 => ("PenStrike$Lines", "y", "[I", true)
  | 3 => ("PenStrike$Lines", "x2", "[I", true)
  | 4 => ("PenStrike$Lines", "y2", "[I", true)
  | 5 => ("PenStrike$Lines", "length", "[I", true)
  | 6 => ("PenStrike$Lines", "touchingSet", "[I", true)
  | 7 => ("PenStrike$Lines", "drawnBy", "[I", true)
  | 8 => ("PenStrike$Lines", "doneAt", "[I", true)
  | 9 => ("PenStrike$Lines", "dryAt", "[I", true)
  | _ => ("PenStrike$Lines", "inkAtBegin", "[I", true)
def tyX2 : Nat → FieldType := fun k => match k with
  | 0 => .int
  | 1 => .array .int
  | 2 => .array .int
  | 3 => .array .int
  | 4 => .array .int
  | 5 => .array .int
  | 6 => .array .int
  | 7 => .array .int
  | 8 => .array .int
  | 9 => .array .int
  | _ => .array .int
abbrev wsX20 : List Cond := u_ws RX2 TX2 11
theorem nmX2 : ∀ a, a < 11 → ∀ b, b < 11 → a ≠ b → (TX2 a).2.1 ≠ (TX2 b).2.1 := by decide +kernel
theorem tyX2_ok : ∀ k, k < 11 → parseFieldDescriptor (TX2 k).2.2.1 = some (tyX2 k) := by decide +kernel
abbrev cX2_init : ByteArray := prog_4_method_1_code
def yX2_init : MethodName := ⟨RX2, "<init>", "()V"⟩
abbrev cX2_copyFrom : ByteArray := prog_4_method_2_code
def yX2_copyFrom : MethodName := ⟨RX2, "copyFrom", "(LPenStrike$Lines;)V"⟩
abbrev cX2_has : ByteArray := prog_4_method_3_code
def yX2_has : MethodName := ⟨RX2, "has", "(I)Z"⟩
abbrev cX2_isDrawn : ByteArray := prog_4_method_4_code
def yX2_isDrawn : MethodName := ⟨RX2, "isDrawn", "(I)Z"⟩
abbrev cX2_add : ByteArray := prog_4_method_5_code
def yX2_add : MethodName := ⟨RX2, "add", "(IIII)I"⟩
abbrev cX2_noteTouching : ByteArray := prog_4_method_6_code
def yX2_noteTouching : MethodName := ⟨RX2, "noteTouching", "(I)V"⟩
abbrev cX2_isTouching : ByteArray := prog_4_method_7_code
def yX2_isTouching : MethodName := ⟨RX2, "isTouching", "(II)Z"⟩
abbrev cX2_beginX : ByteArray := prog_4_method_8_code
def yX2_beginX : MethodName := ⟨RX2, "beginX", "(II)I"⟩
abbrev cX2_beginY : ByteArray := prog_4_method_9_code
def yX2_beginY : MethodName := ⟨RX2, "beginY", "(II)I"⟩
abbrev cX2_lengthNotDrawn : ByteArray := prog_4_method_10_code
def yX2_lengthNotDrawn : MethodName := ⟨RX2, "lengthNotDrawn", "()I"⟩
abbrev cX2_howManyDrawn : ByteArray := prog_4_method_11_code
def yX2_howManyDrawn : MethodName := ⟨RX2, "howManyDrawn", "()I"⟩
abbrev cX2_howManyDrawnBy : ByteArray := prog_4_method_12_code
def yX2_howManyDrawnBy : MethodName := ⟨RX2, "howManyDrawnBy", "(I)I"⟩
abbrev cX2_meet : ByteArray := prog_4_method_13_code
def yX2_meet : MethodName := ⟨RX2, "meet", "(II)Z"⟩
abbrev cX2_spansMeet : ByteArray := prog_4_method_14_code
def yX2_spansMeet : MethodName := ⟨RX2, "spansMeet", "(IIII)Z"⟩
abbrev cX2_reachesAcross : ByteArray := prog_4_method_15_code
def yX2_reachesAcross : MethodName := ⟨RX2, "reachesAcross", "(II)Z"⟩
abbrev cX2_isDrawnWithEnd : ByteArray := prog_4_method_16_code
def yX2_isDrawnWithEnd : MethodName := ⟨RX2, "isDrawnWithEnd", "(III)Z"⟩
abbrev cX2_firstDrawnWithEnd : ByteArray := prog_4_method_17_code
def yX2_firstDrawnWithEnd : MethodName := ⟨RX2, "firstDrawnWithEnd", "(II)I"⟩
abbrev cX2_endsThereByAnother : ByteArray := prog_4_method_18_code
def yX2_endsThereByAnother : MethodName := ⟨RX2, "endsThereByAnother", "(III)Z"⟩
abbrev cX2_isSeam : ByteArray := prog_4_method_19_code
def yX2_isSeam : MethodName := ⟨RX2, "isSeam", "(II)Z"⟩
abbrev cX2_seamsFirstMetAt : ByteArray := prog_4_method_20_code
def yX2_seamsFirstMetAt : MethodName := ⟨RX2, "seamsFirstMetAt", "(I)I"⟩
def RX3 : String := "PenStrike$Orders"
def TX3 : u_T := fun k => match k with
  | 0 => ("PenStrike$Orders", "length", "I", false)
  | 1 => ("PenStrike$Orders", "signs", "[I", true)
  | 2 => ("PenStrike$Orders", "position", "I", false)
  | 3 => ("PenStrike$Orders", "reason", "I", false)
  | _ => ("PenStrike$Orders", "cause", "I", false)
def tyX3 : Nat → FieldType := fun k => match k with
  | 0 => .int
  | 1 => .array .int
  | 2 => .int
  | 3 => .int
  | _ => .int
abbrev wsX30 : List Cond := u_ws RX3 TX3 5
theorem nmX3 : ∀ a, a < 5 → ∀ b, b < 5 → a ≠ b → (TX3 a).2.1 ≠ (TX3 b).2.1 := by decide +kernel
theorem tyX3_ok : ∀ k, k < 5 → parseFieldDescriptor (TX3 k).2.2.1 = some (tyX3 k) := by decide +kernel
abbrev cX3_init : ByteArray := prog_5_method_1_code
def yX3_init : MethodName := ⟨RX3, "<init>", "()V"⟩
def RX4 : String := "PenStrike$Pens"
def TX4 : u_T := fun k => match k with
  | 0 => ("PenStrike$Pens", "many", "I", false)
  | 1 => ("PenStrike$Pens", "kind", "[I", true)
  | 2 => ("PenStrike$Pens", "capacity", "[I", true)
  | 3 => ("PenStrike$Pens", "place", "[I", true)
  | 4 => ("PenStrike$Pens", "ink", "[I", true)
  | 5 => ("PenStrike$Pens", "drawn", "[I", true)
  | 6 => ("PenStrike$Pens", "idle", "[I", true)
  | _ => ("PenStrike$Pens", "away", "[I", true)
def tyX4 : Nat → FieldType := fun k => match k with
  | 0 => .int
  | 1 => .array .int
  | 2 => .array .int
  | 3 => .array .int
  | 4 => .array .int
  | 5 => .array .int
  | 6 => .array .int
  | _ => .array .int
abbrev wsX40 : List Cond := u_ws RX4 TX4 8
theorem nmX4 : ∀ a, a < 8 → ∀ b, b < 8 → a ≠ b → (TX4 a).2.1 ≠ (TX4 b).2.1 := by decide +kernel
theorem tyX4_ok : ∀ k, k < 8 → parseFieldDescriptor (TX4 k).2.2.1 = some (tyX4 k) := by decide +kernel
abbrev cX4_init : ByteArray := prog_6_method_1_code
def yX4_init : MethodName := ⟨RX4, "<init>", "()V"⟩
abbrev cX4_copyFrom : ByteArray := prog_6_method_2_code
def yX4_copyFrom : MethodName := ⟨RX4, "copyFrom", "(LPenStrike$Pens;)V"⟩
abbrev cX4_has : ByteArray := prog_6_method_3_code
def yX4_has : MethodName := ⟨RX4, "has", "(I)Z"⟩
abbrev cX4_isAway : ByteArray := prog_6_method_4_code
def yX4_isAway : MethodName := ⟨RX4, "isAway", "(I)Z"⟩
abbrev cX4_isPlaceOfAny : ByteArray := prog_6_method_5_code
def yX4_isPlaceOfAny : MethodName := ⟨RX4, "isPlaceOfAny", "(I)Z"⟩
abbrev cX4_add : ByteArray := prog_6_method_6_code
def yX4_add : MethodName := ⟨RX4, "add", "(III)I"⟩
abbrev cX4_howManyPresent : ByteArray := prog_6_method_7_code
def yX4_howManyPresent : MethodName := ⟨RX4, "howManyPresent", "()I"⟩
abbrev cX4_leastDrawnBut : ByteArray := prog_6_method_8_code
def yX4_leastDrawnBut : MethodName := ⟨RX4, "leastDrawnBut", "(I)I"⟩
abbrev cX4_spreadOf : ByteArray := prog_6_method_9_code
def yX4_spreadOf : MethodName := ⟨RX4, "spreadOf", "([I)I"⟩
def RX5 : String := "PenStrike$Plotter"
def TX5 : u_T := fun k => match k with
  | 0 => ("PenStrike$Plotter", "settings", "[I", true)
  | 1 => ("PenStrike$Plotter", "pens", "LPenStrike$Pens;", true)
  | 2 => ("PenStrike$Plotter", "lines", "LPenStrike$Lines;", true)
  | 3 => ("PenStrike$Plotter", "time", "I", false)
  | 4 => ("PenStrike$Plotter", "hand", "I", false)
  | 5 => ("PenStrike$Plotter", "x", "I", false)
  | 6 => ("PenStrike$Plotter", "y", "I", false)
  | 7 => ("PenStrike$Plotter", "swaps", "I", false)
  | _ => ("PenStrike$Plotter", "travelled", "I", false)
def tyX5 : Nat → FieldType := fun k => match k with
  | 0 => .array .int
  | 1 => .object "PenStrike$Pens"
  | 2 => .object "PenStrike$Lines"
  | 3 => .int
  | 4 => .int
  | 5 => .int
  | 6 => .int
  | 7 => .int
  | _ => .int
abbrev wsX50 : List Cond := u_ws RX5 TX5 9
theorem nmX5 : ∀ a, a < 9 → ∀ b, b < 9 → a ≠ b → (TX5 a).2.1 ≠ (TX5 b).2.1 := by decide +kernel
theorem tyX5_ok : ∀ k, k < 9 → parseFieldDescriptor (TX5 k).2.2.1 = some (tyX5 k) := by decide +kernel
abbrev cX5_init : ByteArray := prog_7_method_1_code
def yX5_init : MethodName := ⟨RX5, "<init>", "()V"⟩
abbrev cX5_copyFrom : ByteArray := prog_7_method_2_code
def yX5_copyFrom : MethodName := ⟨RX5, "copyFrom", "(LPenStrike$Plotter;)V"⟩
abbrev cX5_isStriking : ByteArray := prog_7_method_3_code
def yX5_isStriking : MethodName := ⟨RX5, "isStriking", "(I)Z"⟩
abbrev cX5_isClogged : ByteArray := prog_7_method_4_code
def yX5_isClogged : MethodName := ⟨RX5, "isClogged", "(I)Z"⟩
abbrev cX5_isWet : ByteArray := prog_7_method_5_code
def yX5_isWet : MethodName := ⟨RX5, "isWet", "(I)Z"⟩
abbrev cX5_howManyWet : ByteArray := prog_7_method_6_code
def yX5_howManyWet : MethodName := ⟨RX5, "howManyWet", "()I"⟩
abbrev cX5_shadeOf : ByteArray := prog_7_method_7_code
def yX5_shadeOf : MethodName := ⟨RX5, "shadeOf", "(I)F"⟩
abbrev cX5_inkFor : ByteArray := prog_7_method_8_code
def yX5_inkFor : MethodName := ⟨RX5, "inkFor", "(II)I"⟩
abbrev cX5_travelTo : ByteArray := prog_7_method_9_code
def yX5_travelTo : MethodName := ⟨RX5, "travelTo", "(II)I"⟩
abbrev cX5_dryTimeFor : ByteArray := prog_7_method_10_code
def yX5_dryTimeFor : MethodName := ⟨RX5, "dryTimeFor", "(I)I"⟩
abbrev cX5_reasonAgainst : ByteArray := prog_7_method_11_code
def yX5_reasonAgainst : MethodName := ⟨RX5, "reasonAgainst", "(III)I"⟩
abbrev cX5_drawByHand : ByteArray := prog_7_method_12_code
def yX5_drawByHand : MethodName := ⟨RX5, "drawByHand", "(II)V"⟩
abbrev cX5_passIdly : ByteArray := prog_7_method_13_code
def yX5_passIdly : MethodName := ⟨RX5, "passIdly", "(I)V"⟩
abbrev cX5_errorOfPassing : ByteArray := prog_7_method_14_code
def yX5_errorOfPassing : MethodName := ⟨RX5, "errorOfPassing", "(I)I"⟩
abbrev cX5_errorOfTaking : ByteArray := prog_7_method_15_code
def yX5_errorOfTaking : MethodName := ⟨RX5, "errorOfTaking", "(I)I"⟩
abbrev cX5_errorOfWaiting : ByteArray := prog_7_method_17_code
def yX5_errorOfWaiting : MethodName := ⟨RX5, "errorOfWaiting", "(I)I"⟩
abbrev cX5_errorOfCleaning : ByteArray := prog_7_method_18_code
def yX5_errorOfCleaning : MethodName := ⟨RX5, "errorOfCleaning", "()I"⟩
abbrev cX5_swapTo : ByteArray := prog_7_method_19_code
def yX5_swapTo : MethodName := ⟨RX5, "swapTo", "(I)I"⟩
abbrev cX5_cleanHand : ByteArray := prog_7_method_20_code
def yX5_cleanHand : MethodName := ⟨RX5, "cleanHand", "()I"⟩
def RX6 : String := "PenStrike$Route"
def TX6 : u_T := fun k => match k with
  | 0 => ("PenStrike$Route", "many", "I", false)
  | 1 => ("PenStrike$Route", "line", "[I", true)
  | 2 => ("PenStrike$Route", "way", "[I", true)
  | 3 => ("PenStrike$Route", "ticks", "[I", true)
  | 4 => ("PenStrike$Route", "isOnIt", "[Z", true)
  | 5 => ("PenStrike$Route", "x", "I", false)
  | _ => ("PenStrike$Route", "y", "I", false)
def tyX6 : Nat → FieldType := fun k => match k with
  | 0 => .int
  | 1 => .array .int
  | 2 => .array .int
  | 3 => .array .int
  | 4 => .array .boolean
  | 5 => .int
  | _ => .int
abbrev wsX60 : List Cond := u_ws RX6 TX6 7
theorem nmX6 : ∀ a, a < 7 → ∀ b, b < 7 → a ≠ b → (TX6 a).2.1 ≠ (TX6 b).2.1 := by decide +kernel
theorem tyX6_ok : ∀ k, k < 7 → parseFieldDescriptor (TX6 k).2.2.1 = some (tyX6 k) := by decide +kernel
abbrev cX6_init : ByteArray := prog_8_method_1_code
def yX6_init : MethodName := ⟨RX6, "<init>", "()V"⟩
def RX7 : String := "PenStrike"
def TX7 : u_T := fun k => match k with
  | 0 => ("PenStrike", "now", "LPenStrike$Plotter;", true)
  | 1 => ("PenStrike", "trial", "LPenStrike$Plotter;", true)
  | 2 => ("PenStrike", "history", "LPenStrike$History;", true)
  | 3 => ("PenStrike", "orders", "LPenStrike$Orders;", true)
  | 4 => ("PenStrike", "plan", "LPenStrike$FairPlan;", true)
  | _ => ("PenStrike", "route", "LPenStrike$Route;", true)
def tyX7 : Nat → FieldType := fun k => match k with
  | 0 => .object "PenStrike$Plotter"
  | 1 => .object "PenStrike$Plotter"
  | 2 => .object "PenStrike$History"
  | 3 => .object "PenStrike$Orders"
  | 4 => .object "PenStrike$FairPlan"
  | _ => .object "PenStrike$Route"
abbrev wsX70 : List Cond := u_ws RX7 TX7 6
theorem nmX7 : ∀ a, a < 6 → ∀ b, b < 6 → a ≠ b → (TX7 a).2.1 ≠ (TX7 b).2.1 := by decide +kernel
theorem tyX7_ok : ∀ k, k < 6 → parseFieldDescriptor (TX7 k).2.2.1 = some (tyX7 k) := by decide +kernel
abbrev cX7_init : ByteArray := prog_1_method_1_code
def yX7_init : MethodName := ⟨RX7, "<init>", "()V"⟩
abbrev cX7_set : ByteArray := prog_1_method_2_code
def yX7_set : MethodName := ⟨RX7, "set", "(II)I"⟩
abbrev cX7_pen : ByteArray := prog_1_method_3_code
def yX7_pen : MethodName := ⟨RX7, "pen", "(IIII)I"⟩
abbrev cX7_line : ByteArray := prog_1_method_4_code
def yX7_line : MethodName := ⟨RX7, "line", "(IIII)I"⟩
abbrev cX7_leave : ByteArray := prog_1_method_5_code
def yX7_leave : MethodName := ⟨RX7, "leave", "(II)I"⟩
abbrev cX7_refill : ByteArray := prog_1_method_6_code
def yX7_refill : MethodName := ⟨RX7, "refill", "(I)I"⟩
abbrev cX7_penOf : ByteArray := prog_1_method_7_code
def yX7_penOf : MethodName := ⟨RX7, "penOf", "(II)I"⟩
abbrev cX7_lineOf : ByteArray := prog_1_method_8_code
def yX7_lineOf : MethodName := ⟨RX7, "lineOf", "(II)I"⟩
abbrev cX7_take : ByteArray := prog_1_method_9_code
def yX7_take : MethodName := ⟨RX7, "take", "(I)I"⟩
abbrev cX7_draw : ByteArray := prog_1_method_11_code
def yX7_draw : MethodName := ⟨RX7, "draw", "(II)I"⟩
abbrev cX7_erase : ByteArray := prog_1_method_12_code
def yX7_erase : MethodName := ⟨RX7, "erase", "(I)I"⟩
abbrev cX7_waits : ByteArray := prog_1_method_13_code
def yX7_waits : MethodName := ⟨RX7, "waits", "(I)I"⟩
abbrev cX7_clean : ByteArray := prog_1_method_14_code
def yX7_clean : MethodName := ⟨RX7, "clean", "()I"⟩
abbrev cX7_whyNot : ByteArray := prog_1_method_15_code
def yX7_whyNot : MethodName := ⟨RX7, "whyNot", "(II)I"⟩
abbrev cX7_strikers : ByteArray := prog_1_method_17_code
def yX7_strikers : MethodName := ⟨RX7, "strikers", "()I"⟩
abbrev cX7_room : ByteArray := prog_1_method_18_code
def yX7_room : MethodName := ⟨RX7, "room", "(I)I"⟩
abbrev cX7_spread : ByteArray := prog_1_method_19_code
def yX7_spread : MethodName := ⟨RX7, "spread", "()I"⟩
abbrev cX7_touch : ByteArray := prog_1_method_20_code
def yX7_touch : MethodName := ⟨RX7, "touch", "(II)I"⟩
abbrev cX7_touching : ByteArray := prog_1_method_21_code
def yX7_touching : MethodName := ⟨RX7, "touching", "(I)I"⟩
abbrev cX7_seams : ByteArray := prog_1_method_22_code
def yX7_seams : MethodName := ⟨RX7, "seams", "()I"⟩
abbrev cX7_meanShade : ByteArray := prog_1_method_24_code
def yX7_meanShade : MethodName := ⟨RX7, "meanShade", "()I"⟩
abbrev cX7_count : ByteArray := prog_1_method_28_code
def yX7_count : MethodName := ⟨RX7, "count", "(I)I"⟩
abbrev cX7_undo : ByteArray := prog_1_method_29_code
def yX7_undo : MethodName := ⟨RX7, "undo", "()I"⟩
abbrev cX7_isIn : ByteArray := prog_1_method_34_code
def yX7_isIn : MethodName := ⟨RX7, "isIn", "(III)Z"⟩
abbrev cX7_isPoint : ByteArray := prog_1_method_35_code
def yX7_isPoint : MethodName := ⟨RX7, "isPoint", "(II)Z"⟩
abbrev cX7_asBit : ByteArray := prog_1_method_36_code
def yX7_asBit : MethodName := ⟨RX7, "asBit", "(Z)I"⟩
abbrev cX7_holderTakes : ByteArray := prog_1_method_37_code
def yX7_holderTakes : MethodName := ⟨RX7, "holderTakes", "(II)Z"⟩
abbrev cX7_distance : ByteArray := prog_1_method_38_code
def yX7_distance : MethodName := ⟨RX7, "distance", "(IIII)I"⟩
abbrev cX7_copy : ByteArray := prog_1_method_39_code
def yX7_copy : MethodName := ⟨RX7, "copy", "([I[I)V"⟩
abbrev cX7_bitsOf : ByteArray := prog_1_method_40_code
def yX7_bitsOf : MethodName := ⟨RX7, "bitsOf", "(F)I"⟩
def RX8 : String := "PenStrikeModel"
def TX8 : u_T := fun k => match k with
  | _ => ("", "", "", false)
def tyX8 : Nat → FieldType := fun k => match k with
  | _ => .int
abbrev wsX80 : List Cond := u_ws RX8 TX8 0
theorem nmX8 : ∀ a, a < 0 → ∀ b, b < 0 → a ≠ b → (TX8 a).2.1 ≠ (TX8 b).2.1 := by decide +kernel
theorem tyX8_ok : ∀ k, k < 0 → parseFieldDescriptor (TX8 k).2.2.1 = some (tyX8 k) := by decide +kernel
def RJx8e188 : String := "java/lang/Cloneable"
def TJx8e188 : u_T := fun k => match k with
  | _ => ("", "", "", false)
def tyJx8e188 : Nat → FieldType := fun k => match k with
  | _ => .int
def RJ9 : String := "java/lang/Math"
def TJ9 : u_T := fun k => match k with
  | _ => ("", "", "", false)
def tyJ9 : Nat → FieldType := fun k => match k with
  | _ => .int
abbrev cJ9_abs_0f7a4 : ByteArray := prog_12_method_59_code
def yJ9_abs_0f7a4 : MethodName := ⟨RJ9, "abs", "(I)I"⟩
abbrev cJ9_max_7cf53 : ByteArray := prog_12_method_65_code
def yJ9_max_7cf53 : MethodName := ⟨RJ9, "max", "(II)I"⟩
abbrev cJ9_min_7cf53 : ByteArray := prog_12_method_69_code
def yJ9_min_7cf53 : MethodName := ⟨RJ9, "min", "(II)I"⟩
def RJ10 : String := "java/lang/System"
def TJ10 : u_T := fun k => match k with
  | _ => ("", "", "", false)
def tyJ10 : Nat → FieldType := fun k => match k with
  | _ => .int
def RL : String := "PenStrikeLaw"
abbrev cL_cell : ByteArray := method_2_code
def yL_cell : MethodName := ⟨RL, "cell", "([II)I"⟩
abbrev cL_pens : ByteArray := method_3_code
def yL_pens : MethodName := ⟨RL, "pens", "(LPenStrike;)Z"⟩
abbrev cL_lines : ByteArray := method_4_code
def yL_lines : MethodName := ⟨RL, "lines", "(LPenStrike;)Z"⟩
abbrev cL_draws : ByteArray := method_5_code
def yL_draws : MethodName := ⟨RL, "draws", "(LPenStrike;II)Z"⟩
abbrev cL_acts : ByteArray := method_6_code
def yL_acts : MethodName := ⟨RL, "acts", "(LPenStrike;I)Z"⟩
abbrev cL_law : ByteArray := code
def yL_law : MethodName := ⟨RL, "law", "([I)Z"⟩
abbrev vwCl : List vw_C := [(RX0, TX0, 2), (RX1, TX1, 3), (RX2, TX2, 11), (RX3, TX3, 5), (RX4, TX4, 8), (RX5, TX5, 9), (RX6, TX6, 7), (RX7, TX7, 6)]
