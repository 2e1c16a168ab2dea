def RX0 : String := "GravesExchanged$Bridge"
def TX0 : u_T := fun k => match k with
  | 0 => ("GravesExchanged$Bridge", "goers", "I", false)
  | 1 => ("GravesExchanged$Bridge", "visitors", "I", false)
  | 2 => ("GravesExchanged$Bridge", "village", "[I", true)
  | 3 => ("GravesExchanged$Bridge", "stay", "[I", true)
  | 4 => ("GravesExchanged$Bridge", "minutes", "[I", true)
  | 5 => ("GravesExchanged$Bridge", "soonest", "[I", true)
  | 6 => ("GravesExchanged$Bridge", "order", "[I", true)
  | 7 => ("GravesExchanged$Bridge", "bestOrder", "[I", true)
  | 8 => ("GravesExchanged$Bridge", "free", "I", false)
  | 9 => ("GravesExchanged$Bridge", "yonder", "I", false)
  | _ => ("GravesExchanged$Bridge", "ready", "I", false)
def tyX0 : Nat → FieldType := fun k => match k with
  | 0 => .int
  | 1 => .int
  | 2 => .array .int
  | 3 => .array .int
  | 4 => .array .int
  | 5 => .array .int
  | 6 => .array .int
  | 7 => .array .int
  | 8 => .int
  | 9 => .int
  | _ => .int
abbrev wsX00 : List Cond := u_ws RX0 TX0 11
theorem nmX0 : ∀ a, a < 11 → ∀ b, b < 11 → a ≠ b → (TX0 a).2.1 ≠ (TX0 b).2.1 := by decide +kernel
theorem tyX0_ok : ∀ k, k < 11 → parseFieldDescriptor (TX0 k).2.2.1 = some (tyX0 k) := by decide +kernel
abbrev cX0_init : ByteArray := prog_2_method_1_code
def yX0_init : MethodName := ⟨RX0, "<init>", "()V"⟩
abbrev cX0_gather : ByteArray := prog_2_method_2_code
def yX0_gather : MethodName := ⟨RX0, "gather", "(LGravesExchanged$Yards;)V"⟩
abbrev cX0_minutesByNumber : ByteArray := prog_2_method_3_code
def yX0_minutesByNumber : MethodName := ⟨RX0, "minutesByNumber", "(Z)I"⟩
abbrev cX0_tryAllOrders : ByteArray := prog_2_method_4_code
def yX0_tryAllOrders : MethodName := ⟨RX0, "tryAllOrders", "()V"⟩
abbrev cX0_soonestOf : ByteArray := prog_2_method_5_code
def yX0_soonestOf : MethodName := ⟨RX0, "soonestOf", "(I)I"⟩
abbrev cX0_inBestOrder : ByteArray := prog_2_method_6_code
def yX0_inBestOrder : MethodName := ⟨RX0, "inBestOrder", "(I)I"⟩
abbrev cX0_fewestToStay : ByteArray := prog_2_method_7_code
def yX0_fewestToStay : MethodName := ⟨RX0, "fewestToStay", "(I)I"⟩
abbrev cX0_tryBehind : ByteArray := prog_2_method_8_code
def yX0_tryBehind : MethodName := ⟨RX0, "tryBehind", "(II)V"⟩
abbrev cX0_note : ByteArray := prog_2_method_9_code
def yX0_note : MethodName := ⟨RX0, "note", "(II)V"⟩
abbrev cX0_isGoer : ByteArray := prog_2_method_10_code
def yX0_isGoer : MethodName := ⟨RX0, "isGoer", "(I)Z"⟩
abbrev cX0_isSomebodyYonder : ByteArray := prog_2_method_11_code
def yX0_isSomebodyYonder : MethodName := ⟨RX0, "isSomebodyYonder", "()Z"⟩
abbrev cX0_begin : ByteArray := prog_2_method_12_code
def yX0_begin : MethodName := ⟨RX0, "begin", "()V"⟩
abbrev cX0_sendOver : ByteArray := prog_2_method_13_code
def yX0_sendOver : MethodName := ⟨RX0, "sendOver", "(I)V"⟩
abbrev cX0_bringBack : ByteArray := prog_2_method_14_code
def yX0_bringBack : MethodName := ⟨RX0, "bringBack", "()V"⟩
abbrev cX0_whenAllAreBack : ByteArray := prog_2_method_15_code
def yX0_whenAllAreBack : MethodName := ⟨RX0, "whenAllAreBack", "()I"⟩
def RX1 : String := "GravesExchanged$Shelf"
def TX1 : u_T := fun k => match k with
  | 0 => ("GravesExchanged$Shelf", "size", "I", false)
  | _ => ("GravesExchanged$Shelf", "rows", "[LGravesExchanged$Yards;", true)
def tyX1 : Nat → FieldType := fun k => match k with
  | 0 => .int
  | _ => .array (.object "GravesExchanged$Yards")
abbrev wsX10 : List Cond := u_ws RX1 TX1 2
theorem nmX1 : ∀ a, a < 2 → ∀ b, b < 2 → a ≠ b → (TX1 a).2.1 ≠ (TX1 b).2.1 := by decide +kernel
theorem tyX1_ok : ∀ k, k < 2 → parseFieldDescriptor (TX1 k).2.2.1 = some (tyX1 k) := by decide +kernel
abbrev cX1_init : ByteArray := prog_3_method_1_code
def yX1_init : MethodName := ⟨RX1, "<init>", "(I)V"⟩
abbrev cX1_clear : ByteArray := prog_3_method_2_code
def yX1_clear : MethodName := ⟨RX1, "clear", "()V"⟩
abbrev cX1_put : ByteArray := prog_3_method_3_code
def yX1_put : MethodName := ⟨RX1, "put", "(LGravesExchanged$Yards;)V"⟩
abbrev cX1_take : ByteArray := prog_3_method_4_code
def yX1_take : MethodName := ⟨RX1, "take", "(LGravesExchanged$Yards;)V"⟩
abbrev cX1_dropOldest : ByteArray := prog_3_method_5_code
def yX1_dropOldest : MethodName := ⟨RX1, "dropOldest", "()V"⟩
def RX2 : String := "GravesExchanged$Text"
def TX2 : u_T := fun k => match k with
  | 0 => ("GravesExchanged$Text", "length", "I", false)
  | 1 => ("GravesExchanged$Text", "place", "I", false)
  | 2 => ("GravesExchanged$Text", "onlyYardsTold", "Z", false)
  | 3 => ("GravesExchanged$Text", "letters", "[C", true)
  | _ => ("GravesExchanged$Text", "numbers", "[I", true)
def tyX2 : Nat → FieldType := fun k => match k with
  | 0 => .int
  | 1 => .int
  | 2 => .boolean
  | 3 => .array .char
  | _ => .array .int
abbrev wsX20 : List Cond := u_ws RX2 TX2 5
theorem nmX2 : ∀ a, a < 5 → ∀ b, b < 5 → a ≠ b → (TX2 a).2.1 ≠ (TX2 b).2.1 := by decide +kernel
theorem tyX2_ok : ∀ k, k < 5 → parseFieldDescriptor (TX2 k).2.2.1 = some (tyX2 k) := by decide +kernel
abbrev cX2_init : ByteArray := prog_4_method_1_code
def yX2_init : MethodName := ⟨RX2, "<init>", "()V"⟩
abbrev cX2_append : ByteArray := prog_4_method_2_code
def yX2_append : MethodName := ⟨RX2, "append", "(C)V"⟩
abbrev cX2_tellAll : ByteArray := prog_4_method_3_code
def yX2_tellAll : MethodName := ⟨RX2, "tellAll", "(LGravesExchanged$Yards;)I"⟩
abbrev cX2_tellItem : ByteArray := prog_4_method_4_code
def yX2_tellItem : MethodName := ⟨RX2, "tellItem", "(CLGravesExchanged$Yards;)Z"⟩
abbrev cX2_numbersBehind : ByteArray := prog_4_method_5_code
def yX2_numbersBehind : MethodName := ⟨RX2, "numbersBehind", "(C)I"⟩
abbrev cX2_readNumbers : ByteArray := prog_4_method_6_code
def yX2_readNumbers : MethodName := ⟨RX2, "readNumbers", "(I)Z"⟩
abbrev cX2_readFigures : ByteArray := prog_4_method_7_code
def yX2_readFigures : MethodName := ⟨RX2, "readFigures", "()I"⟩
abbrev cX2_isFigure : ByteArray := prog_4_method_8_code
def yX2_isFigure : MethodName := ⟨RX2, "isFigure", "(C)Z"⟩
abbrev cX2_letterAt : ByteArray := prog_4_method_9_code
def yX2_letterAt : MethodName := ⟨RX2, "letterAt", "(I)C"⟩
def RX3 : String := "GravesExchanged$Yards"
def TX3 : u_T := fun k => match k with
  | 0 => ("GravesExchanged$Yards", "plots", "I", false)
  | 1 => ("GravesExchanged$Yards", "truce", "I", false)
  | 2 => ("GravesExchanged$Yards", "deadCount", "I", false)
  | 3 => ("GravesExchanged$Yards", "visitorCount", "I", false)
  | 4 => ("GravesExchanged$Yards", "village", "[I", true)
  | 5 => ("GravesExchanged$Yards", "kind", "[I", true)
  | 6 => ("GravesExchanged$Yards", "forgiven", "[I", true)
  | 7 => ("GravesExchanged$Yards", "lying", "[I", true)
  | 8 => ("GravesExchanged$Yards", "visited", "[I", true)
  | _ => ("GravesExchanged$Yards", "minutes", "[I", true)
def tyX3 : Nat → FieldType := fun k => match k with
  | 0 => .int
  | 1 => .int
  | 2 => .int
  | 3 => .int
  | 4 => .array .int
  | 5 => .array .int
  | 6 => .array .int
  | 7 => .array .int
  | 8 => .array .int
  | _ => .array .int
abbrev wsX30 : List Cond := u_ws RX3 TX3 10
theorem nmX3 : ∀ a, a < 10 → ∀ b, b < 10 → a ≠ b → (TX3 a).2.1 ≠ (TX3 b).2.1 := by decide +kernel
theorem tyX3_ok : ∀ k, k < 10 → parseFieldDescriptor (TX3 k).2.2.1 = some (tyX3 k) := by decide +kernel
abbrev cX3_init : ByteArray := prog_5_method_1_code
def yX3_init : MethodName := ⟨RX3, "<init>", "()V"⟩
abbrev cX3_empty : ByteArray := prog_5_method_2_code
def yX3_empty : MethodName := ⟨RX3, "empty", "()V"⟩
abbrev cX3_copyFrom : ByteArray := prog_5_method_3_code
def yX3_copyFrom : MethodName := ⟨RX3, "copyFrom", "(LGravesExchanged$Yards;)V"⟩
abbrev cX3_hasDead : ByteArray := prog_5_method_4_code
def yX3_hasDead : MethodName := ⟨RX3, "hasDead", "(I)Z"⟩
abbrev cX3_hasPlot : ByteArray := prog_5_method_5_code
def yX3_hasPlot : MethodName := ⟨RX3, "hasPlot", "(I)Z"⟩
abbrev cX3_hasVisitor : ByteArray := prog_5_method_6_code
def yX3_hasVisitor : MethodName := ⟨RX3, "hasVisitor", "(I)Z"⟩
abbrev cX3_villageOf : ByteArray := prog_5_method_7_code
def yX3_villageOf : MethodName := ⟨RX3, "villageOf", "(I)I"⟩
abbrev cX3_kindOf : ByteArray := prog_5_method_8_code
def yX3_kindOf : MethodName := ⟨RX3, "kindOf", "(I)I"⟩
abbrev cX3_forgivenOf : ByteArray := prog_5_method_9_code
def yX3_forgivenOf : MethodName := ⟨RX3, "forgivenOf", "(I)I"⟩
abbrev cX3_visitedBy : ByteArray := prog_5_method_10_code
def yX3_visitedBy : MethodName := ⟨RX3, "visitedBy", "(I)I"⟩
abbrev cX3_minutesOf : ByteArray := prog_5_method_11_code
def yX3_minutesOf : MethodName := ⟨RX3, "minutesOf", "(I)I"⟩
abbrev cX3_whoLies : ByteArray := prog_5_method_12_code
def yX3_whoLies : MethodName := ⟨RX3, "whoLies", "(II)I"⟩
abbrev cX3_plotOf : ByteArray := prog_5_method_13_code
def yX3_plotOf : MethodName := ⟨RX3, "plotOf", "(I)I"⟩
abbrev cX3_plotOfDouble : ByteArray := prog_5_method_14_code
def yX3_plotOfDouble : MethodName := ⟨RX3, "plotOfDouble", "(I)I"⟩
abbrev cX3_placeIn : ByteArray := prog_5_method_15_code
def yX3_placeIn : MethodName := ⟨RX3, "placeIn", "(II)I"⟩
abbrev cX3_setForgiven : ByteArray := prog_5_method_16_code
def yX3_setForgiven : MethodName := ⟨RX3, "setForgiven", "(II)V"⟩
abbrev cX3_addVisitor : ByteArray := prog_5_method_17_code
def yX3_addVisitor : MethodName := ⟨RX3, "addVisitor", "(II)V"⟩
abbrev cX3_addDead : ByteArray := prog_5_method_18_code
def yX3_addDead : MethodName := ⟨RX3, "addDead", "(III)I"⟩
abbrev cX3_digAllAnew : ByteArray := prog_5_method_19_code
def yX3_digAllAnew : MethodName := ⟨RX3, "digAllAnew", "()V"⟩
abbrev cX3_swap : ByteArray := prog_5_method_20_code
def yX3_swap : MethodName := ⟨RX3, "swap", "(III)V"⟩
abbrev cX3_freePlot : ByteArray := prog_5_method_21_code
def yX3_freePlot : MethodName := ⟨RX3, "freePlot", "(III)I"⟩
abbrev cX3_owedOf : ByteArray := prog_5_method_22_code
def yX3_owedOf : MethodName := ⟨RX3, "owedOf", "(I)I"⟩
abbrev cX3_forgivenOfAllWhoLie : ByteArray := prog_5_method_23_code
def yX3_forgivenOfAllWhoLie : MethodName := ⟨RX3, "forgivenOfAllWhoLie", "(I)I"⟩
abbrev cX3_allWhoLie : ByteArray := prog_5_method_24_code
def yX3_allWhoLie : MethodName := ⟨RX3, "allWhoLie", "()I"⟩
abbrev cX3_allOfVillage : ByteArray := prog_5_method_25_code
def yX3_allOfVillage : MethodName := ⟨RX3, "allOfVillage", "(I)I"⟩
abbrev cX3_doubles : ByteArray := prog_5_method_26_code
def yX3_doubles : MethodName := ⟨RX3, "doubles", "()I"⟩
abbrev cX3_fewestChanges : ByteArray := prog_5_method_27_code
def yX3_fewestChanges : MethodName := ⟨RX3, "fewestChanges", "(ILGravesExchanged$Yards;)I"⟩
abbrev cX3_sameLie : ByteArray := prog_5_method_28_code
def yX3_sameLie : MethodName := ⟨RX3, "sameLie", "(ILGravesExchanged$Yards;)Z"⟩
abbrev cX3_goalOf : ByteArray := prog_5_method_29_code
def yX3_goalOf : MethodName := ⟨RX3, "goalOf", "(IILGravesExchanged$Yards;)I"⟩
abbrev cX3_isLowestOfRing : ByteArray := prog_5_method_30_code
def yX3_isLowestOfRing : MethodName := ⟨RX3, "isLowestOfRing", "(IILGravesExchanged$Yards;)Z"⟩
abbrev cX3_dig : ByteArray := prog_5_method_31_code
def yX3_dig : MethodName := ⟨RX3, "dig", "(I)I"⟩
abbrev cX3_put : ByteArray := prog_5_method_32_code
def yX3_put : MethodName := ⟨RX3, "put", "(III)V"⟩
abbrev cX3_freeAll : ByteArray := prog_5_method_33_code
def yX3_freeAll : MethodName := ⟨RX3, "freeAll", "()V"⟩
def RX4 : String := "GravesExchanged"
def TX4 : u_T := fun k => match k with
  | 0 => ("GravesExchanged", "text", "LGravesExchanged$Text;", true)
  | 1 => ("GravesExchanged", "now", "LGravesExchanged$Yards;", true)
  | 2 => ("GravesExchanged", "anew", "LGravesExchanged$Yards;", true)
  | 3 => ("GravesExchanged", "trial", "LGravesExchanged$Yards;", true)
  | 4 => ("GravesExchanged", "bridge", "LGravesExchanged$Bridge;", true)
  | 5 => ("GravesExchanged", "past", "LGravesExchanged$Shelf;", true)
  | 6 => ("GravesExchanged", "kept", "LGravesExchanged$Shelf;", true)
  | 7 => ("GravesExchanged", "seenDead", "[I", true)
  | 8 => ("GravesExchanged", "seenPlot", "[I", true)
  | _ => ("GravesExchanged", "seenCount", "I", false)
def tyX4 : Nat → FieldType := fun k => match k with
  | 0 => .object "GravesExchanged$Text"
  | 1 => .object "GravesExchanged$Yards"
  | 2 => .object "GravesExchanged$Yards"
  | 3 => .object "GravesExchanged$Yards"
  | 4 => .object "GravesExchanged$Bridge"
  | 5 => .object "GravesExchanged$Shelf"
  | 6 => .object "GravesExchanged$Shelf"
  | 7 => .array .int
  | 8 => .array .int
  | _ => .int
abbrev wsX40 : List Cond := u_ws RX4 TX4 10
theorem nmX4 : ∀ a, a < 10 → ∀ b, b < 10 → a ≠ b → (TX4 a).2.1 ≠ (TX4 b).2.1 := by decide +kernel
theorem tyX4_ok : ∀ k, k < 10 → parseFieldDescriptor (TX4 k).2.2.1 = some (tyX4 k) := by decide +kernel
abbrev cX4_init : ByteArray := prog_1_method_1_code
def yX4_init : MethodName := ⟨RX4, "<init>", "()V"⟩
abbrev cX4_write : ByteArray := prog_1_method_2_code
def yX4_write : MethodName := ⟨RX4, "write", "(I)I"⟩
abbrev cX4_wipe : ByteArray := prog_1_method_3_code
def yX4_wipe : MethodName := ⟨RX4, "wipe", "()I"⟩
abbrev cX4_fault : ByteArray := prog_1_method_4_code
def yX4_fault : MethodName := ⟨RX4, "fault", "()I"⟩
abbrev cX4_lay : ByteArray := prog_1_method_5_code
def yX4_lay : MethodName := ⟨RX4, "lay", "()I"⟩
abbrev cX4_dead : ByteArray := prog_1_method_6_code
def yX4_dead : MethodName := ⟨RX4, "dead", "(II)I"⟩
abbrev cX4_plot : ByteArray := prog_1_method_7_code
def yX4_plot : MethodName := ⟨RX4, "plot", "(II)I"⟩
abbrev cX4_visitor : ByteArray := prog_1_method_8_code
def yX4_visitor : MethodName := ⟨RX4, "visitor", "(II)I"⟩
abbrev cX4_bury : ByteArray := prog_1_method_9_code
def yX4_bury : MethodName := ⟨RX4, "bury", "(III)I"⟩
abbrev cX4_change : ByteArray := prog_1_method_10_code
def yX4_change : MethodName := ⟨RX4, "change", "(III)I"⟩
abbrev cX4_forgive : ByteArray := prog_1_method_11_code
def yX4_forgive : MethodName := ⟨RX4, "forgive", "(II)I"⟩
abbrev cX4_visit : ByteArray := prog_1_method_12_code
def yX4_visit : MethodName := ⟨RX4, "visit", "(II)I"⟩
abbrev cX4_undo : ByteArray := prog_1_method_13_code
def yX4_undo : MethodName := ⟨RX4, "undo", "()I"⟩
abbrev cX4_right : ByteArray := prog_1_method_14_code
def yX4_right : MethodName := ⟨RX4, "right", "(I)I"⟩
abbrev cX4_moved : ByteArray := prog_1_method_15_code
def yX4_moved : MethodName := ⟨RX4, "moved", "()I"⟩
abbrev cX4_mend : ByteArray := prog_1_method_16_code
def yX4_mend : MethodName := ⟨RX4, "mend", "(I)I"⟩
abbrev cX4_grudge : ByteArray := prog_1_method_17_code
def yX4_grudge : MethodName := ⟨RX4, "grudge", "()I"⟩
abbrev cX4_takes : ByteArray := prog_1_method_18_code
def yX4_takes : MethodName := ⟨RX4, "takes", "(I)I"⟩
abbrev cX4_tour : ByteArray := prog_1_method_19_code
def yX4_tour : MethodName := ⟨RX4, "tour", "(I)I"⟩
abbrev cX4_enough : ByteArray := prog_1_method_20_code
def yX4_enough : MethodName := ⟨RX4, "enough", "()I"⟩
abbrev cX4_leave : ByteArray := prog_1_method_21_code
def yX4_leave : MethodName := ⟨RX4, "leave", "()I"⟩
abbrev cX4_seen : ByteArray := prog_1_method_22_code
def yX4_seen : MethodName := ⟨RX4, "seen", "(II)I"⟩
abbrev cX4_forget : ByteArray := prog_1_method_23_code
def yX4_forget : MethodName := ⟨RX4, "forget", "()I"⟩
abbrev cX4_was : ByteArray := prog_1_method_24_code
def yX4_was : MethodName := ⟨RX4, "was", "(I)I"⟩
abbrev cX4_owed : ByteArray := prog_1_method_25_code
def yX4_owed : MethodName := ⟨RX4, "owed", "(I)I"⟩
abbrev cX4_balance : ByteArray := prog_1_method_26_code
def yX4_balance : MethodName := ⟨RX4, "balance", "()I"⟩
abbrev cX4_names : ByteArray := prog_1_method_27_code
def yX4_names : MethodName := ⟨RX4, "names", "(I)I"⟩
abbrev cX4_next : ByteArray := prog_1_method_28_code
def yX4_next : MethodName := ⟨RX4, "next", "(III)I"⟩
abbrev cX4_year : ByteArray := prog_1_method_29_code
def yX4_year : MethodName := ⟨RX4, "year", "(III)I"⟩
abbrev cX4_keep : ByteArray := prog_1_method_30_code
def yX4_keep : MethodName := ⟨RX4, "keep", "()I"⟩
abbrev cX4_back : ByteArray := prog_1_method_31_code
def yX4_back : MethodName := ⟨RX4, "back", "()I"⟩
abbrev cX4_count : ByteArray := prog_1_method_32_code
def yX4_count : MethodName := ⟨RX4, "count", "(I)I"⟩
abbrev cX4_isSide : ByteArray := prog_1_method_33_code
def yX4_isSide : MethodName := ⟨RX4, "isSide", "(I)Z"⟩
abbrev cX4_isForgiven : ByteArray := prog_1_method_34_code
def yX4_isForgiven : MethodName := ⟨RX4, "isForgiven", "(I)Z"⟩
abbrev cX4_isMinutes : ByteArray := prog_1_method_35_code
def yX4_isMinutes : MethodName := ⟨RX4, "isMinutes", "(I)Z"⟩
abbrev cX4_isOneOfTheDead : ByteArray := prog_1_method_36_code
def yX4_isOneOfTheDead : MethodName := ⟨RX4, "isOneOfTheDead", "(III)Z"⟩
abbrev cX4_layByRight : ByteArray := prog_1_method_37_code
def yX4_layByRight : MethodName := ⟨RX4, "layByRight", "(LGravesExchanged$Yards;)V"⟩
abbrev cX4_movedIn : ByteArray := prog_1_method_38_code
def yX4_movedIn : MethodName := ⟨RX4, "movedIn", "(LGravesExchanged$Yards;)I"⟩
abbrev cX4_isAllSeenSo : ByteArray := prog_1_method_39_code
def yX4_isAllSeenSo : MethodName := ⟨RX4, "isAllSeenSo", "()Z"⟩
abbrev cX4_nextWornOff : ByteArray := prog_1_method_40_code
def yX4_nextWornOff : MethodName := ⟨RX4, "nextWornOff", "(II)I"⟩
abbrev cX4_draw : ByteArray := prog_1_method_41_code
def yX4_draw : MethodName := ⟨RX4, "draw", "(II)I"⟩
abbrev cX4_passWinter : ByteArray := prog_1_method_42_code
def yX4_passWinter : MethodName := ⟨RX4, "passWinter", "(LGravesExchanged$Yards;I)V"⟩
def RX5 : String := "GravesExchangedModel"
def TX5 : u_T := fun k => match k with
  | 0 => ("GravesExchangedModel", "plots", "I", false)
  | 1 => ("GravesExchangedModel", "truce", "I", false)
  | 2 => ("GravesExchangedModel", "st", "[I", true)
  | 3 => ("GravesExchangedModel", "acts", "I", false)
  | 4 => ("GravesExchangedModel", "was", "[I", true)
  | 5 => ("GravesExchangedModel", "keeps", "I", false)
  | 6 => ("GravesExchangedModel", "kept", "[I", true)
  | 7 => ("GravesExchangedModel", "seens", "I", false)
  | 8 => ("GravesExchangedModel", "seen", "[I", true)
  | 9 => ("GravesExchangedModel", "text", "[I", true)
  | 10 => ("GravesExchangedModel", "texted", "I", false)
  | 11 => ("GravesExchangedModel", "at", "I", false)
  | 12 => ("GravesExchangedModel", "told", "[I", true)
  | 13 => ("GravesExchangedModel", "readPlots", "I", false)
  | 14 => ("GravesExchangedModel", "readTruce", "I", false)
  | 15 => ("GravesExchangedModel", "isBegun", "Z", false)
  | 16 => ("GravesExchangedModel", "read", "[I", true)
  | 17 => ("GravesExchangedModel", "now", "[I", true)
  | 18 => ("GravesExchangedModel", "asIs", "[I", true)
  | 19 => ("GravesExchangedModel", "guests", "[I", true)
  | 20 => ("GravesExchangedModel", "going", "I", false)
  | 21 => ("GravesExchangedModel", "free", "I", false)
  | 22 => ("GravesExchangedModel", "over", "I", false)
  | 23 => ("GravesExchangedModel", "cameOver", "I", false)
  | 24 => ("GravesExchangedModel", "order", "[I", true)
  | _ => ("GravesExchangedModel", "best", "[I", true)
def tyX5 : Nat → FieldType := fun k => match k with
  | 0 => .int
  | 1 => .int
  | 2 => .array .int
  | 3 => .int
  | 4 => .array .int
  | 5 => .int
  | 6 => .array .int
  | 7 => .int
  | 8 => .array .int
  | 9 => .array .int
  | 10 => .int
  | 11 => .int
  | 12 => .array .int
  | 13 => .int
  | 14 => .int
  | 15 => .boolean
  | 16 => .array .int
  | 17 => .array .int
  | 18 => .array .int
  | 19 => .array .int
  | 20 => .int
  | 21 => .int
  | 22 => .int
  | 23 => .int
  | 24 => .array .int
  | _ => .array .int
abbrev wsX50 : List Cond := u_ws RX5 TX5 26
theorem nmX5 : ∀ a, a < 26 → ∀ b, b < 26 → a ≠ b → (TX5 a).2.1 ≠ (TX5 b).2.1 := by decide +kernel
theorem tyX5_ok : ∀ k, k < 26 → parseFieldDescriptor (TX5 k).2.2.1 = some (tyX5 k) := by decide +kernel
abbrev cX5_init : ByteArray := prog_7_method_1_code
def yX5_init : MethodName := ⟨RX5, "<init>", "()V"⟩
abbrev cX5_tellsDead : ByteArray := prog_7_method_3_code
def yX5_tellsDead : MethodName := ⟨RX5, "tellsDead", "(III)V"⟩
abbrev cX5_tellsGuest : ByteArray := prog_7_method_4_code
def yX5_tellsGuest : MethodName := ⟨RX5, "tellsGuest", "(II)V"⟩
abbrev cX5_in : ByteArray := prog_7_method_5_code
def yX5_in : MethodName := ⟨RX5, "in", "(III)Z"⟩
abbrev cX5_has : ByteArray := prog_7_method_6_code
def yX5_has : MethodName := ⟨RX5, "has", "(II)Z"⟩
abbrev cX5_bits : ByteArray := prog_7_method_7_code
def yX5_bits : MethodName := ⟨RX5, "bits", "(I)I"⟩
abbrev cX5_isDead : ByteArray := prog_7_method_8_code
def yX5_isDead : MethodName := ⟨RX5, "isDead", "(I)Z"⟩
abbrev cX5_isPlot : ByteArray := prog_7_method_9_code
def yX5_isPlot : MethodName := ⟨RX5, "isPlot", "(I)Z"⟩
abbrev cX5_write : ByteArray := prog_7_method_10_code
def yX5_write : MethodName := ⟨RX5, "write", "(I)I"⟩
abbrev cX5_wipe : ByteArray := prog_7_method_11_code
def yX5_wipe : MethodName := ⟨RX5, "wipe", "()I"⟩
abbrev cX5_letterAt : ByteArray := prog_7_method_12_code
def yX5_letterAt : MethodName := ⟨RX5, "letterAt", "(I)I"⟩
abbrev cX5_isFigure : ByteArray := prog_7_method_13_code
def yX5_isFigure : MethodName := ⟨RX5, "isFigure", "(I)Z"⟩
abbrev cX5_readNumbers : ByteArray := prog_7_method_14_code
def yX5_readNumbers : MethodName := ⟨RX5, "readNumbers", "(I)Z"⟩
abbrev cX5_isTold : ByteArray := prog_7_method_15_code
def yX5_isTold : MethodName := ⟨RX5, "isTold", "(III)Z"⟩
abbrev cX5_put : ByteArray := prog_7_method_16_code
def yX5_put : MethodName := ⟨RX5, "put", "([II[II)V"⟩
abbrev cX5_clearTold : ByteArray := prog_7_method_17_code
def yX5_clearTold : MethodName := ⟨RX5, "clearTold", "()V"⟩
abbrev cX5_readPlotsOf : ByteArray := prog_7_method_18_code
def yX5_readPlotsOf : MethodName := ⟨RX5, "readPlotsOf", "()Z"⟩
abbrev cX5_readDeadOf : ByteArray := prog_7_method_19_code
def yX5_readDeadOf : MethodName := ⟨RX5, "readDeadOf", "()Z"⟩
abbrev cX5_readGuestOf : ByteArray := prog_7_method_20_code
def yX5_readGuestOf : MethodName := ⟨RX5, "readGuestOf", "()Z"⟩
abbrev cX5_readTruceOf : ByteArray := prog_7_method_21_code
def yX5_readTruceOf : MethodName := ⟨RX5, "readTruceOf", "()Z"⟩
abbrev cX5_readItem : ByteArray := prog_7_method_22_code
def yX5_readItem : MethodName := ⟨RX5, "readItem", "()Z"⟩
abbrev cX5_fault : ByteArray := prog_7_method_23_code
def yX5_fault : MethodName := ⟨RX5, "fault", "()I"⟩
abbrev cX5_lay : ByteArray := prog_7_method_24_code
def yX5_lay : MethodName := ⟨RX5, "lay", "()I"⟩
abbrev cX5_settles : ByteArray := prog_7_method_25_code
def yX5_settles : MethodName := ⟨RX5, "settles", "()V"⟩
abbrev cX5_from : ByteArray := prog_7_method_26_code
def yX5_from : MethodName := ⟨RX5, "from", "([I)V"⟩
abbrev cX5_freeFrom : ByteArray := prog_7_method_27_code
def yX5_freeFrom : MethodName := ⟨RX5, "freeFrom", "(III)I"⟩
abbrev cX5_placeFor : ByteArray := prog_7_method_28_code
def yX5_placeFor : MethodName := ⟨RX5, "placeFor", "(III)I"⟩
abbrev cX5_buries : ByteArray := prog_7_method_29_code
def yX5_buries : MethodName := ⟨RX5, "buries", "(I)I"⟩
abbrev cX5_anew : ByteArray := prog_7_method_30_code
def yX5_anew : MethodName := ⟨RX5, "anew", "()V"⟩
abbrev cX5_plotIn : ByteArray := prog_7_method_31_code
def yX5_plotIn : MethodName := ⟨RX5, "plotIn", "([III)I"⟩
abbrev cX5_plotOf : ByteArray := prog_7_method_32_code
def yX5_plotOf : MethodName := ⟨RX5, "plotOf", "([II)I"⟩
abbrev cX5_dead : ByteArray := prog_7_method_33_code
def yX5_dead : MethodName := ⟨RX5, "dead", "(II)I"⟩
abbrev cX5_whoIs : ByteArray := prog_7_method_34_code
def yX5_whoIs : MethodName := ⟨RX5, "whoIs", "(I)I"⟩
abbrev cX5_plot : ByteArray := prog_7_method_35_code
def yX5_plot : MethodName := ⟨RX5, "plot", "(II)I"⟩
abbrev cX5_visitor : ByteArray := prog_7_method_36_code
def yX5_visitor : MethodName := ⟨RX5, "visitor", "(II)I"⟩
abbrev cX5_remembers : ByteArray := prog_7_method_37_code
def yX5_remembers : MethodName := ⟨RX5, "remembers", "()V"⟩
abbrev cX5_addsDead : ByteArray := prog_7_method_38_code
def yX5_addsDead : MethodName := ⟨RX5, "addsDead", "(III)V"⟩
abbrev cX5_isOne : ByteArray := prog_7_method_39_code
def yX5_isOne : MethodName := ⟨RX5, "isOne", "(III)Z"⟩
abbrev cX5_bury : ByteArray := prog_7_method_40_code
def yX5_bury : MethodName := ⟨RX5, "bury", "(III)I"⟩
abbrev cX5_changes : ByteArray := prog_7_method_41_code
def yX5_changes : MethodName := ⟨RX5, "changes", "([IIII)V"⟩
abbrev cX5_change : ByteArray := prog_7_method_42_code
def yX5_change : MethodName := ⟨RX5, "change", "(III)I"⟩
abbrev cX5_forgive : ByteArray := prog_7_method_43_code
def yX5_forgive : MethodName := ⟨RX5, "forgive", "(II)I"⟩
abbrev cX5_visit : ByteArray := prog_7_method_44_code
def yX5_visit : MethodName := ⟨RX5, "visit", "(II)I"⟩
abbrev cX5_undo : ByteArray := prog_7_method_45_code
def yX5_undo : MethodName := ⟨RX5, "undo", "()I"⟩
abbrev cX5_byRight : ByteArray := prog_7_method_46_code
def yX5_byRight : MethodName := ⟨RX5, "byRight", "([I)V"⟩
abbrev cX5_right : ByteArray := prog_7_method_47_code
def yX5_right : MethodName := ⟨RX5, "right", "(I)I"⟩
abbrev cX5_movedBits : ByteArray := prog_7_method_48_code
def yX5_movedBits : MethodName := ⟨RX5, "movedBits", "()I"⟩
abbrev cX5_moved : ByteArray := prog_7_method_49_code
def yX5_moved : MethodName := ⟨RX5, "moved", "()I"⟩
abbrev cX5_mend : ByteArray := prog_7_method_50_code
def yX5_mend : MethodName := ⟨RX5, "mend", "(I)I"⟩
abbrev cX5_grudge : ByteArray := prog_7_method_51_code
def yX5_grudge : MethodName := ⟨RX5, "grudge", "()I"⟩
abbrev cX5_findGuests : ByteArray := prog_7_method_52_code
def yX5_findGuests : MethodName := ⟨RX5, "findGuests", "(I)V"⟩
abbrev cX5_comesBack : ByteArray := prog_7_method_53_code
def yX5_comesBack : MethodName := ⟨RX5, "comesBack", "()V"⟩
abbrev cX5_villageOf : ByteArray := prog_7_method_54_code
def yX5_villageOf : MethodName := ⟨RX5, "villageOf", "(I)I"⟩
abbrev cX5_takesSo : ByteArray := prog_7_method_55_code
def yX5_takesSo : MethodName := ⟨RX5, "takesSo", "()I"⟩
abbrev cX5_takes : ByteArray := prog_7_method_56_code
def yX5_takes : MethodName := ⟨RX5, "takes", "(I)I"⟩
abbrev cX5_isOrder : ByteArray := prog_7_method_57_code
def yX5_isOrder : MethodName := ⟨RX5, "isOrder", "(I)Z"⟩
abbrev cX5_soonest : ByteArray := prog_7_method_58_code
def yX5_soonest : MethodName := ⟨RX5, "soonest", "(I)I"⟩
abbrev cX5_tour : ByteArray := prog_7_method_59_code
def yX5_tour : MethodName := ⟨RX5, "tour", "(I)I"⟩
abbrev cX5_enough : ByteArray := prog_7_method_60_code
def yX5_enough : MethodName := ⟨RX5, "enough", "()I"⟩
abbrev cX5_leave : ByteArray := prog_7_method_61_code
def yX5_leave : MethodName := ⟨RX5, "leave", "()I"⟩
abbrev cX5_seen : ByteArray := prog_7_method_62_code
def yX5_seen : MethodName := ⟨RX5, "seen", "(II)I"⟩
abbrev cX5_forget : ByteArray := prog_7_method_63_code
def yX5_forget : MethodName := ⟨RX5, "forget", "()I"⟩
abbrev cX5_was : ByteArray := prog_7_method_64_code
def yX5_was : MethodName := ⟨RX5, "was", "(I)I"⟩
abbrev cX5_owedOn : ByteArray := prog_7_method_65_code
def yX5_owedOn : MethodName := ⟨RX5, "owedOn", "([II)I"⟩
abbrev cX5_owed : ByteArray := prog_7_method_66_code
def yX5_owed : MethodName := ⟨RX5, "owed", "(I)I"⟩
abbrev cX5_balance : ByteArray := prog_7_method_67_code
def yX5_balance : MethodName := ⟨RX5, "balance", "()I"⟩
abbrev cX5_firstIn : ByteArray := prog_7_method_68_code
def yX5_firstIn : MethodName := ⟨RX5, "firstIn", "(II)I"⟩
abbrev cX5_names : ByteArray := prog_7_method_69_code
def yX5_names : MethodName := ⟨RX5, "names", "(I)I"⟩
abbrev cX5_next : ByteArray := prog_7_method_70_code
def yX5_next : MethodName := ⟨RX5, "next", "(III)I"⟩
abbrev cX5_year : ByteArray := prog_7_method_71_code
def yX5_year : MethodName := ⟨RX5, "year", "(III)I"⟩
abbrev cX5_keep : ByteArray := prog_7_method_72_code
def yX5_keep : MethodName := ⟨RX5, "keep", "()I"⟩
abbrev cX5_back : ByteArray := prog_7_method_73_code
def yX5_back : MethodName := ⟨RX5, "back", "()I"⟩
abbrev cX5_doubles : ByteArray := prog_7_method_74_code
def yX5_doubles : MethodName := ⟨RX5, "doubles", "()I"⟩
abbrev cX5_count : ByteArray := prog_7_method_75_code
def yX5_count : MethodName := ⟨RX5, "count", "(I)I"⟩
def RJ6 : String := "java/lang/Integer"
abbrev cJ6_bitCount_0f7a4 : ByteArray := prog_8_method_49_code
def yJ6_bitCount_0f7a4 : MethodName := ⟨RJ6, "bitCount", "(I)I"⟩
def RJ9 : String := "java/lang/Math"
abbrev cJ9_max_7cf53 : ByteArray := prog_9_method_65_code
def yJ9_max_7cf53 : MethodName := ⟨RJ9, "max", "(II)I"⟩
abbrev cJ9_min_7cf53 : ByteArray := prog_9_method_69_code
def yJ9_min_7cf53 : MethodName := ⟨RJ9, "min", "(II)I"⟩
def RJ0 : String := "java/lang/String"
abbrev cJ0_length_8abf5 : ByteArray := prog_10_method_54_code
def yJ0_length_8abf5 : MethodName := ⟨RJ0, "length", "()I"⟩
abbrev cJ0_charAt_5068e : ByteArray := prog_10_method_56_code
def yJ0_charAt_5068e : MethodName := ⟨RJ0, "charAt", "(I)C"⟩
abbrev cJ0_coder_7d493 : ByteArray := prog_10_method_152_code
def yJ0_coder_7d493 : MethodName := ⟨RJ0, "coder", "()B"⟩
abbrev cJ0_isLatin1_aae02 : ByteArray := prog_10_method_154_code
def yJ0_isLatin1_aae02 : MethodName := ⟨RJ0, "isLatin1", "()Z"⟩
abbrev cJ0_checkIndex_df160 : ByteArray := prog_10_method_155_code
def yJ0_checkIndex_df160 : MethodName := ⟨RJ0, "checkIndex", "(II)V"⟩
def RJ1 : String := "java/lang/StringLatin1"
abbrev cJ1_charAt_3b067 : ByteArray := prog_11_method_2_code
def yJ1_charAt_3b067 : MethodName := ⟨RJ1, "charAt", "([BI)C"⟩
def RJ2 : String := "java/lang/StringUTF16"
abbrev cJ2_getChar_3b067 : ByteArray := prog_12_method_5_code
def yJ2_getChar_3b067 : MethodName := ⟨RJ2, "getChar", "([BI)C"⟩
abbrev cJ2_length_9d52b : ByteArray := prog_12_method_6_code
def yJ2_length_9d52b : MethodName := ⟨RJ2, "length", "([B)I"⟩
abbrev cJ2_charAt_3b067 : ByteArray := prog_12_method_83_code
def yJ2_charAt_3b067 : MethodName := ⟨RJ2, "charAt", "([BI)C"⟩
abbrev cJ2_checkIndex_2214a : ByteArray := prog_12_method_91_code
def yJ2_checkIndex_2214a : MethodName := ⟨RJ2, "checkIndex", "(I[B)V"⟩
def RJ3 : String := "jdk/internal/util/Preconditions"
abbrev cJ3_checkIndex_8e157 : ByteArray := prog_13_method_11_code
def yJ3_checkIndex_8e157 : MethodName := ⟨RJ3, "checkIndex", "(IILjava/util/function/BiFunction;)I"⟩
def RL : String := "GravesExchangedLaw"
theorem dX0_init_0 : decode cX0_init 0 = .ok (.aload_n 0, 1) := by decide +kernel
theorem dX0_init_1 : decode cX0_init 1 = .ok (.invokespecial 3, 3) := by decide +kernel
theorem dX0_init_4 : decode cX0_init 4 = .ok (.aload_n 0, 1) := by decide +kernel
theorem dX0_init_5 : decode cX0_init 5 = .ok (.bipush 6, 2) := by decide +kernel
theorem dX0_init_7 : decode cX0_init 7 = .ok (.newarray .int, 2) := by decide +kernel
theorem dX0_init_9 : decode cX0_init 9 = .ok (.putfield 9, 3) := by decide +kernel
theorem dX0_init_12 : decode cX0_init 12 = .ok (.aload_n 0, 1) := by decide +kernel
theorem dX0_init_13 : decode cX0_init 13 = .ok (.bipush 6, 2) := by decide +kernel
theorem dX0_init_15 : decode cX0_init 15 = .ok (.newarray .int, 2) := by decide +kernel
theorem dX0_init_17 : decode cX0_init 17 = .ok (.putfield 15, 3) := by decide +kernel
theorem dX0_init_20 : decode cX0_init 20 = .ok (.aload_n 0, 1) := by decide +kernel
theorem dX0_init_21 : decode cX0_init 21 = .ok (.bipush 6, 2) := by decide +kernel
theorem dX0_init_23 : decode cX0_init 23 = .ok (.newarray .int, 2) := by decide +kernel
theorem dX0_init_25 : decode cX0_init 25 = .ok (.putfield 18, 3) := by decide +kernel
theorem dX0_init_28 : decode cX0_init 28 = .ok (.aload_n 0, 1) := by decide +kernel
theorem dX0_init_29 : decode cX0_init 29 = .ok (.bipush 64, 2) := by decide +kernel
theorem dX0_init_31 : decode cX0_init 31 = .ok (.newarray .int, 2) := by decide +kernel
theorem dX0_init_33 : decode cX0_init 33 = .ok (.putfield 21, 3) := by decide +kernel
theorem dX0_init_36 : decode cX0_init 36 = .ok (.aload_n 0, 1) := by decide +kernel
theorem dX0_init_37 : decode cX0_init 37 = .ok (.bipush 6, 2) := by decide +kernel
theorem dX0_init_39 : decode cX0_init 39 = .ok (.newarray .int, 2) := by decide +kernel
theorem dX0_init_41 : decode cX0_init 41 = .ok (.putfield 24, 3) := by decide +kernel
theorem dX0_init_44 : decode cX0_init 44 = .ok (.aload_n 0, 1) := by decide +kernel
theorem dX0_init_45 : decode cX0_init 45 = .ok (.bipush 6, 2) := by decide +kernel
theorem dX0_init_47 : decode cX0_init 47 = .ok (.newarray .int, 2) := by decide +kernel
theorem dX0_init_49 : decode cX0_init 49 = .ok (.putfield 27, 3) := by decide +kernel
theorem dX0_init_52 : decode cX0_init 52 = .ok (.return_, 1) := by decide +kernel
theorem dX0_gather_0 : decode cX0_gather 0 = .ok (.aload_n 0, 1) := by decide +kernel
theorem dX0_gather_1 : decode cX0_gather 1 = .ok (.iconst 0, 1) := by decide +kernel
theorem dX0_gather_2 : decode cX0_gather 2 = .ok (.putfield 30, 3) := by decide +kernel
theorem dX0_gather_5 : decode cX0_gather 5 = .ok (.aload_n 0, 1) := by decide +kernel
theorem dX0_gather_6 : decode cX0_gather 6 = .ok (.aload_n 1, 1) := by decide +kernel
theorem dX0_gather_7 : decode cX0_gather 7 = .ok (.getfield 34, 3) := by decide +kernel
theorem dX0_gather_10 : decode cX0_gather 10 = .ok (.bipush 6, 2) := by decide +kernel
theorem dX0_gather_12 : decode cX0_gather 12 = .ok (.invokestatic 39, 3) := by decide +kernel
theorem dX0_gather_15 : decode cX0_gather 15 = .ok (.putfield 45, 3) := by decide +kernel
theorem dX0_gather_18 : decode cX0_gather 18 = .ok (.iconst 0, 1) := by decide +kernel
theorem dX0_gather_19 : decode cX0_gather 19 = .ok (.istore_n 2, 1) := by decide +kernel
theorem dX0_gather_20 : decode cX0_gather 20 = .ok (.iload_n 2, 1) := by decide +kernel
theorem dX0_gather_21 : decode cX0_gather 21 = .ok (.aload_n 0, 1) := by decide +kernel
theorem dX0_gather_22 : decode cX0_gather 22 = .ok (.getfield 45, 3) := by decide +kernel
theorem dX0_gather_25 : decode cX0_gather 25 = .ok (.if_icmp .ge 73, 3) := by decide +kernel
theorem dX0_gather_28 : decode cX0_gather 28 = .ok (.aload_n 1, 1) := by decide +kernel
theorem dX0_gather_29 : decode cX0_gather 29 = .ok (.iload_n 2, 1) := by decide +kernel
theorem dX0_gather_30 : decode cX0_gather 30 = .ok (.invokevirtual 48, 3) := by decide +kernel
theorem dX0_gather_33 : decode cX0_gather 33 = .ok (.istore_n 3, 1) := by decide +kernel
theorem dX0_gather_34 : decode cX0_gather 34 = .ok (.aload_n 1, 1) := by decide +kernel
theorem dX0_gather_35 : decode cX0_gather 35 = .ok (.iload_n 3, 1) := by decide +kernel
theorem dX0_gather_36 : decode cX0_gather 36 = .ok (.invokevirtual 52, 3) := by decide +kernel
theorem dX0_gather_39 : decode cX0_gather 39 = .ok (.istore 4, 2) := by decide +kernel
theorem dX0_gather_41 : decode cX0_gather 41 = .ok (.aload_n 0, 1) := by decide +kernel
theorem dX0_gather_42 : decode cX0_gather 42 = .ok (.getfield 9, 3) := by decide +kernel
theorem dX0_gather_45 : decode cX0_gather 45 = .ok (.iload_n 2, 1) := by decide +kernel
theorem dX0_gather_46 : decode cX0_gather 46 = .ok (.aload_n 1, 1) := by decide +kernel
theorem dX0_gather_47 : decode cX0_gather 47 = .ok (.iload_n 3, 1) := by decide +kernel
theorem dX0_gather_48 : decode cX0_gather 48 = .ok (.invokevirtual 55, 3) := by decide +kernel
theorem dX0_gather_51 : decode cX0_gather 51 = .ok (.iastore, 1) := by decide +kernel
theorem dX0_gather_52 : decode cX0_gather 52 = .ok (.aload_n 0, 1) := by decide +kernel
theorem dX0_gather_53 : decode cX0_gather 53 = .ok (.getfield 15, 3) := by decide +kernel
theorem dX0_gather_56 : decode cX0_gather 56 = .ok (.iload_n 2, 1) := by decide +kernel
theorem dX0_gather_57 : decode cX0_gather 57 = .ok (.iload 4, 2) := by decide +kernel
theorem dX0_gather_59 : decode cX0_gather 59 = .ok (.iconst 1, 1) := by decide +kernel
theorem dX0_gather_60 : decode cX0_gather 60 = .ok (.iadd, 1) := by decide +kernel
theorem dX0_gather_61 : decode cX0_gather 61 = .ok (.iastore, 1) := by decide +kernel
theorem dX0_gather_62 : decode cX0_gather 62 = .ok (.aload_n 0, 1) := by decide +kernel
theorem dX0_gather_63 : decode cX0_gather 63 = .ok (.getfield 18, 3) := by decide +kernel
theorem dX0_gather_66 : decode cX0_gather 66 = .ok (.iload_n 2, 1) := by decide +kernel
theorem dX0_gather_67 : decode cX0_gather 67 = .ok (.aload_n 1, 1) := by decide +kernel
theorem dX0_gather_68 : decode cX0_gather 68 = .ok (.iload_n 2, 1) := by decide +kernel
theorem dX0_gather_69 : decode cX0_gather 69 = .ok (.invokevirtual 58, 3) := by decide +kernel
theorem dX0_gather_72 : decode cX0_gather 72 = .ok (.iastore, 1) := by decide +kernel
theorem dX0_gather_73 : decode cX0_gather 73 = .ok (.iload 4, 2) := by decide +kernel
theorem dX0_gather_75 : decode cX0_gather 75 = .ok (.bipush (-4), 2) := by decide +kernel
theorem dX0_gather_77 : decode cX0_gather 77 = .ok (.if_icmp .eq 15, 3) := by decide +kernel
theorem dX0_gather_80 : decode cX0_gather 80 = .ok (.aload_n 0, 1) := by decide +kernel
theorem dX0_gather_81 : decode cX0_gather 81 = .ok (.dup, 1) := by decide +kernel
theorem dX0_gather_82 : decode cX0_gather 82 = .ok (.getfield 30, 3) := by decide +kernel
theorem dX0_gather_85 : decode cX0_gather 85 = .ok (.iconst 1, 1) := by decide +kernel
theorem dX0_gather_86 : decode cX0_gather 86 = .ok (.iload_n 2, 1) := by decide +kernel
theorem dX0_gather_87 : decode cX0_gather 87 = .ok (.ishl, 1) := by decide +kernel
theorem dX0_gather_88 : decode cX0_gather 88 = .ok (.ior, 1) := by decide +kernel
theorem dX0_gather_89 : decode cX0_gather 89 = .ok (.putfield 30, 3) := by decide +kernel
theorem dX0_gather_92 : decode cX0_gather 92 = .ok (.iinc 2 1, 3) := by decide +kernel
theorem dX0_gather_95 : decode cX0_gather 95 = .ok (.goto (-75), 3) := by decide +kernel
theorem dX0_gather_98 : decode cX0_gather 98 = .ok (.return_, 1) := by decide +kernel
theorem dX0_minutesByNumber_0 : decode cX0_minutesByNumber 0 = .ok (.aload_n 0, 1) := by decide +kernel
theorem dX0_minutesByNumber_1 : decode cX0_minutesByNumber 1 = .ok (.invokevirtual 61, 3) := by decide +kernel
theorem dX0_minutesByNumber_4 : decode cX0_minutesByNumber 4 = .ok (.iconst 0, 1) := by decide +kernel
theorem dX0_minutesByNumber_5 : decode cX0_minutesByNumber 5 = .ok (.istore_n 2, 1) := by decide +kernel
theorem dX0_minutesByNumber_6 : decode cX0_minutesByNumber 6 = .ok (.iload_n 2, 1) := by decide +kernel
theorem dX0_minutesByNumber_7 : decode cX0_minutesByNumber 7 = .ok (.aload_n 0, 1) := by decide +kernel
theorem dX0_minutesByNumber_8 : decode cX0_minutesByNumber 8 = .ok (.getfield 45, 3) := by decide +kernel
theorem dX0_minutesByNumber_11 : decode cX0_minutesByNumber 11 = .ok (.if_icmp .ge 39, 3) := by decide +kernel
theorem dX0_minutesByNumber_14 : decode cX0_minutesByNumber 14 = .ok (.iload_n 1, 1) := by decide +kernel
theorem dX0_minutesByNumber_15 : decode cX0_minutesByNumber 15 = .ok (.ifCond .eq 14, 3) := by decide +kernel
theorem dX0_minutesByNumber_18 : decode cX0_minutesByNumber 18 = .ok (.aload_n 0, 1) := by decide +kernel
theorem dX0_minutesByNumber_19 : decode cX0_minutesByNumber 19 = .ok (.getfield 45, 3) := by decide +kernel
theorem dX0_minutesByNumber_22 : decode cX0_minutesByNumber 22 = .ok (.iconst 1, 1) := by decide +kernel
theorem dX0_minutesByNumber_23 : decode cX0_minutesByNumber 23 = .ok (.isub, 1) := by decide +kernel
theorem dX0_minutesByNumber_24 : decode cX0_minutesByNumber 24 = .ok (.iload_n 2, 1) := by decide +kernel
theorem dX0_minutesByNumber_25 : decode cX0_minutesByNumber 25 = .ok (.isub, 1) := by decide +kernel
theorem dX0_minutesByNumber_26 : decode cX0_minutesByNumber 26 = .ok (.goto 4, 3) := by decide +kernel
theorem dX0_minutesByNumber_29 : decode cX0_minutesByNumber 29 = .ok (.iload_n 2, 1) := by decide +kernel
theorem dX0_minutesByNumber_30 : decode cX0_minutesByNumber 30 = .ok (.istore_n 3, 1) := by decide +kernel
theorem dX0_minutesByNumber_31 : decode cX0_minutesByNumber 31 = .ok (.aload_n 0, 1) := by decide +kernel
theorem dX0_minutesByNumber_32 : decode cX0_minutesByNumber 32 = .ok (.iload_n 3, 1) := by decide +kernel
theorem dX0_minutesByNumber_33 : decode cX0_minutesByNumber 33 = .ok (.invokevirtual 64, 3) := by decide +kernel
theorem dX0_minutesByNumber_36 : decode cX0_minutesByNumber 36 = .ok (.ifCond .eq 8, 3) := by decide +kernel
theorem dX0_minutesByNumber_39 : decode cX0_minutesByNumber 39 = .ok (.aload_n 0, 1) := by decide +kernel
theorem dX0_minutesByNumber_40 : decode cX0_minutesByNumber 40 = .ok (.iload_n 3, 1) := by decide +kernel
theorem dX0_minutesByNumber_41 : decode cX0_minutesByNumber 41 = .ok (.invokevirtual 68, 3) := by decide +kernel
theorem dX0_minutesByNumber_44 : decode cX0_minutesByNumber 44 = .ok (.iinc 2 1, 3) := by decide +kernel
theorem dX0_minutesByNumber_47 : decode cX0_minutesByNumber 47 = .ok (.goto (-41), 3) := by decide +kernel
theorem dX0_minutesByNumber_50 : decode cX0_minutesByNumber 50 = .ok (.aload_n 0, 1) := by decide +kernel
theorem dX0_minutesByNumber_51 : decode cX0_minutesByNumber 51 = .ok (.invokevirtual 72, 3) := by decide +kernel
theorem dX0_minutesByNumber_54 : decode cX0_minutesByNumber 54 = .ok (.ireturn, 1) := by decide +kernel
theorem dX0_tryAllOrders_0 : decode cX0_tryAllOrders 0 = .ok (.iconst 0, 1) := by decide +kernel
theorem dX0_tryAllOrders_1 : decode cX0_tryAllOrders 1 = .ok (.istore_n 1, 1) := by decide +kernel
theorem dX0_tryAllOrders_2 : decode cX0_tryAllOrders 2 = .ok (.iload_n 1, 1) := by decide +kernel
theorem dX0_tryAllOrders_3 : decode cX0_tryAllOrders 3 = .ok (.bipush 64, 2) := by decide +kernel
theorem dX0_tryAllOrders_5 : decode cX0_tryAllOrders 5 = .ok (.if_icmp .ge 17, 3) := by decide +kernel
theorem dX0_tryAllOrders_8 : decode cX0_tryAllOrders 8 = .ok (.aload_n 0, 1) := by decide +kernel
theorem dX0_tryAllOrders_9 : decode cX0_tryAllOrders 9 = .ok (.getfield 21, 3) := by decide +kernel
theorem dX0_tryAllOrders_12 : decode cX0_tryAllOrders 12 = .ok (.iload_n 1, 1) := by decide +kernel
theorem dX0_tryAllOrders_13 : decode cX0_tryAllOrders 13 = .ok (.ldc 76, 2) := by decide +kernel
theorem dX0_tryAllOrders_15 : decode cX0_tryAllOrders 15 = .ok (.iastore, 1) := by decide +kernel
theorem dX0_tryAllOrders_16 : decode cX0_tryAllOrders 16 = .ok (.iinc 1 1, 3) := by decide +kernel
theorem dX0_tryAllOrders_19 : decode cX0_tryAllOrders 19 = .ok (.goto (-17), 3) := by decide +kernel
theorem dX0_tryAllOrders_22 : decode cX0_tryAllOrders 22 = .ok (.aload_n 0, 1) := by decide +kernel
theorem dX0_tryAllOrders_23 : decode cX0_tryAllOrders 23 = .ok (.invokevirtual 61, 3) := by decide +kernel
theorem dX0_tryAllOrders_26 : decode cX0_tryAllOrders 26 = .ok (.aload_n 0, 1) := by decide +kernel
theorem dX0_tryAllOrders_27 : decode cX0_tryAllOrders 27 = .ok (.iconst 0, 1) := by decide +kernel
theorem dX0_tryAllOrders_28 : decode cX0_tryAllOrders 28 = .ok (.iconst 0, 1) := by decide +kernel
theorem dX0_tryAllOrders_29 : decode cX0_tryAllOrders 29 = .ok (.invokevirtual 77, 3) := by decide +kernel
theorem dX0_tryAllOrders_32 : decode cX0_tryAllOrders 32 = .ok (.return_, 1) := by decide +kernel
theorem dX0_soonestOf_0 : decode cX0_soonestOf 0 = .ok (.iload_n 1, 1) := by decide +kernel
theorem dX0_soonestOf_1 : decode cX0_soonestOf 1 = .ok (.ifCond .lt 18, 3) := by decide +kernel
theorem dX0_soonestOf_4 : decode cX0_soonestOf 4 = .ok (.iload_n 1, 1) := by decide +kernel
theorem dX0_soonestOf_5 : decode cX0_soonestOf 5 = .ok (.bipush 64, 2) := by decide +kernel
theorem dX0_soonestOf_7 : decode cX0_soonestOf 7 = .ok (.if_icmp .ge 12, 3) := by decide +kernel
theorem dX0_soonestOf_10 : decode cX0_soonestOf 10 = .ok (.aload_n 0, 1) := by decide +kernel
theorem dX0_soonestOf_11 : decode cX0_soonestOf 11 = .ok (.getfield 21, 3) := by decide +kernel
theorem dX0_soonestOf_14 : decode cX0_soonestOf 14 = .ok (.iload_n 1, 1) := by decide +kernel
theorem dX0_soonestOf_15 : decode cX0_soonestOf 15 = .ok (.iaload, 1) := by decide +kernel
theorem dX0_soonestOf_16 : decode cX0_soonestOf 16 = .ok (.goto 5, 3) := by decide +kernel
theorem dX0_soonestOf_19 : decode cX0_soonestOf 19 = .ok (.ldc 76, 2) := by decide +kernel
theorem dX0_soonestOf_21 : decode cX0_soonestOf 21 = .ok (.ireturn, 1) := by decide +kernel
theorem dX0_inBestOrder_0 : decode cX0_inBestOrder 0 = .ok (.iload_n 1, 1) := by decide +kernel
theorem dX0_inBestOrder_1 : decode cX0_inBestOrder 1 = .ok (.ifCond .lt 29, 3) := by decide +kernel
theorem dX0_inBestOrder_4 : decode cX0_inBestOrder 4 = .ok (.iload_n 1, 1) := by decide +kernel
theorem dX0_inBestOrder_5 : decode cX0_inBestOrder 5 = .ok (.aload_n 0, 1) := by decide +kernel
theorem dX0_inBestOrder_6 : decode cX0_inBestOrder 6 = .ok (.getfield 30, 3) := by decide +kernel
theorem dX0_inBestOrder_9 : decode cX0_inBestOrder 9 = .ok (.invokestatic 81, 3) := by decide +kernel
theorem dX0_inBestOrder_12 : decode cX0_inBestOrder 12 = .ok (.if_icmp .ge 18, 3) := by decide +kernel
theorem dX0_inBestOrder_15 : decode cX0_inBestOrder 15 = .ok (.iload_n 1, 1) := by decide +kernel
theorem dX0_inBestOrder_16 : decode cX0_inBestOrder 16 = .ok (.bipush 6, 2) := by decide +kernel
theorem dX0_inBestOrder_18 : decode cX0_inBestOrder 18 = .ok (.if_icmp .ge 12, 3) := by decide +kernel
theorem dX0_inBestOrder_21 : decode cX0_inBestOrder 21 = .ok (.aload_n 0, 1) := by decide +kernel
theorem dX0_inBestOrder_22 : decode cX0_inBestOrder 22 = .ok (.getfield 27, 3) := by decide +kernel
theorem dX0_inBestOrder_25 : decode cX0_inBestOrder 25 = .ok (.iload_n 1, 1) := by decide +kernel
theorem dX0_inBestOrder_26 : decode cX0_inBestOrder 26 = .ok (.iaload, 1) := by decide +kernel
theorem dX0_inBestOrder_27 : decode cX0_inBestOrder 27 = .ok (.goto 5, 3) := by decide +kernel
theorem dX0_inBestOrder_30 : decode cX0_inBestOrder 30 = .ok (.bipush (-4), 2) := by decide +kernel
theorem dX0_inBestOrder_32 : decode cX0_inBestOrder 32 = .ok (.ireturn, 1) := by decide +kernel
theorem dX0_fewestToStay_0 : decode cX0_fewestToStay 0 = .ok (.aload_n 0, 1) := by decide +kernel
theorem dX0_fewestToStay_1 : decode cX0_fewestToStay 1 = .ok (.getfield 30, 3) := by decide +kernel
theorem dX0_fewestToStay_4 : decode cX0_fewestToStay 4 = .ok (.istore_n 2, 1) := by decide +kernel
theorem dX0_fewestToStay_5 : decode cX0_fewestToStay 5 = .ok (.iconst 0, 1) := by decide +kernel
theorem dX0_fewestToStay_6 : decode cX0_fewestToStay 6 = .ok (.istore_n 3, 1) := by decide +kernel
theorem dX0_fewestToStay_7 : decode cX0_fewestToStay 7 = .ok (.iload_n 3, 1) := by decide +kernel
theorem dX0_fewestToStay_8 : decode cX0_fewestToStay 8 = .ok (.bipush 64, 2) := by decide +kernel
theorem dX0_fewestToStay_10 : decode cX0_fewestToStay 10 = .ok (.if_icmp .ge 73, 3) := by decide +kernel
theorem dX0_fewestToStay_13 : decode cX0_fewestToStay 13 = .ok (.iload_n 3, 1) := by decide +kernel
theorem dX0_fewestToStay_14 : decode cX0_fewestToStay 14 = .ok (.aload_n 0, 1) := by decide +kernel
theorem dX0_fewestToStay_15 : decode cX0_fewestToStay 15 = .ok (.getfield 30, 3) := by decide +kernel
theorem dX0_fewestToStay_18 : decode cX0_fewestToStay 18 = .ok (.iconst (-1), 1) := by decide +kernel
theorem dX0_fewestToStay_19 : decode cX0_fewestToStay 19 = .ok (.ixor, 1) := by decide +kernel
theorem dX0_fewestToStay_20 : decode cX0_fewestToStay 20 = .ok (.iand, 1) := by decide +kernel
theorem dX0_fewestToStay_21 : decode cX0_fewestToStay 21 = .ok (.ifCond .ne 7, 3) := by decide +kernel
theorem dX0_fewestToStay_24 : decode cX0_fewestToStay 24 = .ok (.iconst 1, 1) := by decide +kernel
theorem dX0_fewestToStay_25 : decode cX0_fewestToStay 25 = .ok (.goto 4, 3) := by decide +kernel
theorem dX0_fewestToStay_28 : decode cX0_fewestToStay 28 = .ok (.iconst 0, 1) := by decide +kernel
theorem dX0_fewestToStay_29 : decode cX0_fewestToStay 29 = .ok (.istore 4, 2) := by decide +kernel
theorem dX0_fewestToStay_31 : decode cX0_fewestToStay 31 = .ok (.iload_n 3, 1) := by decide +kernel
theorem dX0_fewestToStay_32 : decode cX0_fewestToStay 32 = .ok (.invokestatic 81, 3) := by decide +kernel
theorem dX0_fewestToStay_35 : decode cX0_fewestToStay 35 = .ok (.iload_n 2, 1) := by decide +kernel
theorem dX0_fewestToStay_36 : decode cX0_fewestToStay 36 = .ok (.invokestatic 81, 3) := by decide +kernel
theorem dX0_fewestToStay_39 : decode cX0_fewestToStay 39 = .ok (.if_icmp .ge 7, 3) := by decide +kernel
theorem dX0_fewestToStay_42 : decode cX0_fewestToStay 42 = .ok (.iconst 1, 1) := by decide +kernel
theorem dX0_fewestToStay_43 : decode cX0_fewestToStay 43 = .ok (.goto 4, 3) := by decide +kernel
theorem dX0_fewestToStay_46 : decode cX0_fewestToStay 46 = .ok (.iconst 0, 1) := by decide +kernel
theorem dX0_fewestToStay_47 : decode cX0_fewestToStay 47 = .ok (.istore 5, 2) := by decide +kernel
theorem dX0_fewestToStay_49 : decode cX0_fewestToStay 49 = .ok (.iload 4, 2) := by decide +kernel
theorem dX0_fewestToStay_51 : decode cX0_fewestToStay 51 = .ok (.ifCond .eq 26, 3) := by decide +kernel
theorem dX0_fewestToStay_54 : decode cX0_fewestToStay 54 = .ok (.iload 5, 2) := by decide +kernel
theorem dX0_fewestToStay_56 : decode cX0_fewestToStay 56 = .ok (.ifCond .eq 21, 3) := by decide +kernel
theorem dX0_fewestToStay_59 : decode cX0_fewestToStay 59 = .ok (.aload_n 0, 1) := by decide +kernel
theorem dX0_fewestToStay_60 : decode cX0_fewestToStay 60 = .ok (.aload_n 0, 1) := by decide +kernel
theorem dX0_fewestToStay_61 : decode cX0_fewestToStay 61 = .ok (.getfield 30, 3) := by decide +kernel
theorem dX0_fewestToStay_64 : decode cX0_fewestToStay 64 = .ok (.iload_n 3, 1) := by decide +kernel
theorem dX0_fewestToStay_65 : decode cX0_fewestToStay 65 = .ok (.iconst (-1), 1) := by decide +kernel
theorem dX0_fewestToStay_66 : decode cX0_fewestToStay 66 = .ok (.ixor, 1) := by decide +kernel
theorem dX0_fewestToStay_67 : decode cX0_fewestToStay 67 = .ok (.iand, 1) := by decide +kernel
theorem dX0_fewestToStay_68 : decode cX0_fewestToStay 68 = .ok (.invokevirtual 86, 3) := by decide +kernel
theorem dX0_fewestToStay_71 : decode cX0_fewestToStay 71 = .ok (.iload_n 1, 1) := by decide +kernel
theorem dX0_fewestToStay_72 : decode cX0_fewestToStay 72 = .ok (.if_icmp .gt 5, 3) := by decide +kernel
theorem dX0_fewestToStay_75 : decode cX0_fewestToStay 75 = .ok (.iload_n 3, 1) := by decide +kernel
theorem dX0_fewestToStay_76 : decode cX0_fewestToStay 76 = .ok (.istore_n 2, 1) := by decide +kernel
theorem dX0_fewestToStay_77 : decode cX0_fewestToStay 77 = .ok (.iinc 3 1, 3) := by decide +kernel
theorem dX0_fewestToStay_80 : decode cX0_fewestToStay 80 = .ok (.goto (-73), 3) := by decide +kernel
theorem dX0_fewestToStay_83 : decode cX0_fewestToStay 83 = .ok (.iload_n 2, 1) := by decide +kernel
theorem dX0_fewestToStay_84 : decode cX0_fewestToStay 84 = .ok (.ireturn, 1) := by decide +kernel
theorem dX0_tryBehind_0 : decode cX0_tryBehind 0 = .ok (.aload_n 0, 1) := by decide +kernel
theorem dX0_tryBehind_1 : decode cX0_tryBehind 1 = .ok (.iload_n 1, 1) := by decide +kernel
theorem dX0_tryBehind_2 : decode cX0_tryBehind 2 = .ok (.iload_n 2, 1) := by decide +kernel
theorem dX0_tryBehind_3 : decode cX0_tryBehind 3 = .ok (.invokevirtual 89, 3) := by decide +kernel
theorem dX0_tryBehind_6 : decode cX0_tryBehind 6 = .ok (.iload_n 1, 1) := by decide +kernel
theorem dX0_tryBehind_7 : decode cX0_tryBehind 7 = .ok (.ifCond .lt 9, 3) := by decide +kernel
theorem dX0_tryBehind_10 : decode cX0_tryBehind 10 = .ok (.iload_n 1, 1) := by decide +kernel
theorem dX0_tryBehind_11 : decode cX0_tryBehind 11 = .ok (.bipush 6, 2) := by decide +kernel
theorem dX0_tryBehind_13 : decode cX0_tryBehind 13 = .ok (.if_icmp .lt 4, 3) := by decide +kernel
theorem dX0_tryBehind_16 : decode cX0_tryBehind 16 = .ok (.return_, 1) := by decide +kernel
theorem dX0_tryBehind_17 : decode cX0_tryBehind 17 = .ok (.aload_n 0, 1) := by decide +kernel
theorem dX0_tryBehind_18 : decode cX0_tryBehind 18 = .ok (.getfield 92, 3) := by decide +kernel
theorem dX0_tryBehind_21 : decode cX0_tryBehind 21 = .ok (.istore_n 3, 1) := by decide +kernel
theorem dX0_tryBehind_22 : decode cX0_tryBehind 22 = .ok (.aload_n 0, 1) := by decide +kernel
theorem dX0_tryBehind_23 : decode cX0_tryBehind 23 = .ok (.getfield 95, 3) := by decide +kernel
theorem dX0_tryBehind_26 : decode cX0_tryBehind 26 = .ok (.istore 4, 2) := by decide +kernel
theorem dX0_tryBehind_28 : decode cX0_tryBehind 28 = .ok (.aload_n 0, 1) := by decide +kernel
theorem dX0_tryBehind_29 : decode cX0_tryBehind 29 = .ok (.getfield 98, 3) := by decide +kernel
theorem dX0_tryBehind_32 : decode cX0_tryBehind 32 = .ok (.istore 5, 2) := by decide +kernel
theorem dX0_tryBehind_34 : decode cX0_tryBehind 34 = .ok (.iconst 0, 1) := by decide +kernel
theorem dX0_tryBehind_35 : decode cX0_tryBehind 35 = .ok (.istore 6, 2) := by decide +kernel
theorem dX0_tryBehind_37 : decode cX0_tryBehind 37 = .ok (.iload 6, 2) := by decide +kernel
theorem dX0_tryBehind_39 : decode cX0_tryBehind 39 = .ok (.aload_n 0, 1) := by decide +kernel
theorem dX0_tryBehind_40 : decode cX0_tryBehind 40 = .ok (.getfield 45, 3) := by decide +kernel
theorem dX0_tryBehind_43 : decode cX0_tryBehind 43 = .ok (.if_icmp .ge 71, 3) := by decide +kernel
theorem dX0_tryBehind_46 : decode cX0_tryBehind 46 = .ok (.aload_n 0, 1) := by decide +kernel
theorem dX0_tryBehind_47 : decode cX0_tryBehind 47 = .ok (.iload 6, 2) := by decide +kernel
theorem dX0_tryBehind_49 : decode cX0_tryBehind 49 = .ok (.invokevirtual 64, 3) := by decide +kernel
theorem dX0_tryBehind_52 : decode cX0_tryBehind 52 = .ok (.ifCond .eq 56, 3) := by decide +kernel
theorem dX0_tryBehind_55 : decode cX0_tryBehind 55 = .ok (.iload_n 2, 1) := by decide +kernel
theorem dX0_tryBehind_56 : decode cX0_tryBehind 56 = .ok (.iload 6, 2) := by decide +kernel
theorem dX0_tryBehind_58 : decode cX0_tryBehind 58 = .ok (.ishr, 1) := by decide +kernel
theorem dX0_tryBehind_59 : decode cX0_tryBehind 59 = .ok (.iconst 1, 1) := by decide +kernel
theorem dX0_tryBehind_60 : decode cX0_tryBehind 60 = .ok (.iand, 1) := by decide +kernel
theorem dX0_tryBehind_61 : decode cX0_tryBehind 61 = .ok (.ifCond .ne 47, 3) := by decide +kernel
theorem dX0_tryBehind_64 : decode cX0_tryBehind 64 = .ok (.aload_n 0, 1) := by decide +kernel
theorem dX0_tryBehind_65 : decode cX0_tryBehind 65 = .ok (.getfield 24, 3) := by decide +kernel
theorem dX0_tryBehind_68 : decode cX0_tryBehind 68 = .ok (.iload_n 1, 1) := by decide +kernel
theorem dX0_tryBehind_69 : decode cX0_tryBehind 69 = .ok (.iload 6, 2) := by decide +kernel
theorem dX0_tryBehind_71 : decode cX0_tryBehind 71 = .ok (.iastore, 1) := by decide +kernel
theorem dX0_tryBehind_72 : decode cX0_tryBehind 72 = .ok (.aload_n 0, 1) := by decide +kernel
theorem dX0_tryBehind_73 : decode cX0_tryBehind 73 = .ok (.iload 6, 2) := by decide +kernel
theorem dX0_tryBehind_75 : decode cX0_tryBehind 75 = .ok (.invokevirtual 68, 3) := by decide +kernel
theorem dX0_tryBehind_78 : decode cX0_tryBehind 78 = .ok (.aload_n 0, 1) := by decide +kernel
theorem dX0_tryBehind_79 : decode cX0_tryBehind 79 = .ok (.iload_n 1, 1) := by decide +kernel
theorem dX0_tryBehind_80 : decode cX0_tryBehind 80 = .ok (.iconst 1, 1) := by decide +kernel
theorem dX0_tryBehind_81 : decode cX0_tryBehind 81 = .ok (.iadd, 1) := by decide +kernel
theorem dX0_tryBehind_82 : decode cX0_tryBehind 82 = .ok (.iload_n 2, 1) := by decide +kernel
theorem dX0_tryBehind_83 : decode cX0_tryBehind 83 = .ok (.iconst 1, 1) := by decide +kernel
theorem dX0_tryBehind_84 : decode cX0_tryBehind 84 = .ok (.iload 6, 2) := by decide +kernel
theorem dX0_tryBehind_86 : decode cX0_tryBehind 86 = .ok (.ishl, 1) := by decide +kernel
theorem dX0_tryBehind_87 : decode cX0_tryBehind 87 = .ok (.ior, 1) := by decide +kernel
theorem dX0_tryBehind_88 : decode cX0_tryBehind 88 = .ok (.invokevirtual 77, 3) := by decide +kernel
theorem dX0_tryBehind_91 : decode cX0_tryBehind 91 = .ok (.aload_n 0, 1) := by decide +kernel
theorem dX0_tryBehind_92 : decode cX0_tryBehind 92 = .ok (.iload_n 3, 1) := by decide +kernel
theorem dX0_tryBehind_93 : decode cX0_tryBehind 93 = .ok (.putfield 92, 3) := by decide +kernel
theorem dX0_tryBehind_96 : decode cX0_tryBehind 96 = .ok (.aload_n 0, 1) := by decide +kernel
theorem dX0_tryBehind_97 : decode cX0_tryBehind 97 = .ok (.iload 4, 2) := by decide +kernel
theorem dX0_tryBehind_99 : decode cX0_tryBehind 99 = .ok (.putfield 95, 3) := by decide +kernel
theorem dX0_tryBehind_102 : decode cX0_tryBehind 102 = .ok (.aload_n 0, 1) := by decide +kernel
theorem dX0_tryBehind_103 : decode cX0_tryBehind 103 = .ok (.iload 5, 2) := by decide +kernel
theorem dX0_tryBehind_105 : decode cX0_tryBehind 105 = .ok (.putfield 98, 3) := by decide +kernel
theorem dX0_tryBehind_108 : decode cX0_tryBehind 108 = .ok (.iinc 6 1, 3) := by decide +kernel
theorem dX0_tryBehind_111 : decode cX0_tryBehind 111 = .ok (.goto (-74), 3) := by decide +kernel
theorem dX0_tryBehind_114 : decode cX0_tryBehind 114 = .ok (.return_, 1) := by decide +kernel
theorem dX0_note_0 : decode cX0_note 0 = .ok (.aload_n 0, 1) := by decide +kernel
theorem dX0_note_1 : decode cX0_note 1 = .ok (.invokevirtual 72, 3) := by decide +kernel
theorem dX0_note_4 : decode cX0_note 4 = .ok (.istore_n 3, 1) := by decide +kernel
theorem dX0_note_5 : decode cX0_note 5 = .ok (.iload_n 2, 1) := by decide +kernel
theorem dX0_note_6 : decode cX0_note 6 = .ok (.ifCond .lt 19, 3) := by decide +kernel
theorem dX0_note_9 : decode cX0_note 9 = .ok (.iload_n 2, 1) := by decide +kernel
theorem dX0_note_10 : decode cX0_note 10 = .ok (.bipush 64, 2) := by decide +kernel
theorem dX0_note_12 : decode cX0_note 12 = .ok (.if_icmp .ge 13, 3) := by decide +kernel
theorem dX0_note_15 : decode cX0_note 15 = .ok (.iload_n 3, 1) := by decide +kernel
theorem dX0_note_16 : decode cX0_note 16 = .ok (.aload_n 0, 1) := by decide +kernel
theorem dX0_note_17 : decode cX0_note 17 = .ok (.getfield 21, 3) := by decide +kernel
theorem dX0_note_20 : decode cX0_note 20 = .ok (.iload_n 2, 1) := by decide +kernel
theorem dX0_note_21 : decode cX0_note 21 = .ok (.iaload, 1) := by decide +kernel
theorem dX0_note_22 : decode cX0_note 22 = .ok (.if_icmp .lt 4, 3) := by decide +kernel
theorem dX0_note_25 : decode cX0_note 25 = .ok (.return_, 1) := by decide +kernel
theorem dX0_note_26 : decode cX0_note 26 = .ok (.aload_n 0, 1) := by decide +kernel
theorem dX0_note_27 : decode cX0_note 27 = .ok (.getfield 21, 3) := by decide +kernel
theorem dX0_note_30 : decode cX0_note 30 = .ok (.iload_n 2, 1) := by decide +kernel
theorem dX0_note_31 : decode cX0_note 31 = .ok (.iload_n 3, 1) := by decide +kernel
theorem dX0_note_32 : decode cX0_note 32 = .ok (.iastore, 1) := by decide +kernel
theorem dX0_note_33 : decode cX0_note 33 = .ok (.iconst 0, 1) := by decide +kernel
theorem dX0_note_34 : decode cX0_note 34 = .ok (.istore 4, 2) := by decide +kernel
theorem dX0_note_36 : decode cX0_note 36 = .ok (.iload_n 2, 1) := by decide +kernel
theorem dX0_note_37 : decode cX0_note 37 = .ok (.aload_n 0, 1) := by decide +kernel
theorem dX0_note_38 : decode cX0_note 38 = .ok (.getfield 30, 3) := by decide +kernel
theorem dX0_note_41 : decode cX0_note 41 = .ok (.if_icmp .ne 36, 3) := by decide +kernel
theorem dX0_note_44 : decode cX0_note 44 = .ok (.iload 4, 2) := by decide +kernel
theorem dX0_note_46 : decode cX0_note 46 = .ok (.iload_n 1, 1) := by decide +kernel
theorem dX0_note_47 : decode cX0_note 47 = .ok (.if_icmp .ge 30, 3) := by decide +kernel
theorem dX0_note_50 : decode cX0_note 50 = .ok (.iload 4, 2) := by decide +kernel
theorem dX0_note_52 : decode cX0_note 52 = .ok (.bipush 6, 2) := by decide +kernel
theorem dX0_note_54 : decode cX0_note 54 = .ok (.if_icmp .ge 23, 3) := by decide +kernel
theorem dX0_note_57 : decode cX0_note 57 = .ok (.aload_n 0, 1) := by decide +kernel
theorem dX0_note_58 : decode cX0_note 58 = .ok (.getfield 27, 3) := by decide +kernel
theorem dX0_note_61 : decode cX0_note 61 = .ok (.iload 4, 2) := by decide +kernel
theorem dX0_note_63 : decode cX0_note 63 = .ok (.aload_n 0, 1) := by decide +kernel
theorem dX0_note_64 : decode cX0_note 64 = .ok (.getfield 24, 3) := by decide +kernel
theorem dX0_note_67 : decode cX0_note 67 = .ok (.iload 4, 2) := by decide +kernel
theorem dX0_note_69 : decode cX0_note 69 = .ok (.iaload, 1) := by decide +kernel
theorem dX0_note_70 : decode cX0_note 70 = .ok (.iastore, 1) := by decide +kernel
theorem dX0_note_71 : decode cX0_note 71 = .ok (.iinc 4 1, 3) := by decide +kernel
theorem dX0_note_74 : decode cX0_note 74 = .ok (.goto (-38), 3) := by decide +kernel
theorem dX0_note_77 : decode cX0_note 77 = .ok (.return_, 1) := by decide +kernel
theorem dX0_isGoer_0 : decode cX0_isGoer 0 = .ok (.iload_n 1, 1) := by decide +kernel
theorem dX0_isGoer_1 : decode cX0_isGoer 1 = .ok (.ifCond .lt 25, 3) := by decide +kernel
theorem dX0_isGoer_4 : decode cX0_isGoer 4 = .ok (.iload_n 1, 1) := by decide +kernel
theorem dX0_isGoer_5 : decode cX0_isGoer 5 = .ok (.bipush 6, 2) := by decide +kernel
theorem dX0_isGoer_7 : decode cX0_isGoer 7 = .ok (.if_icmp .ge 19, 3) := by decide +kernel
theorem dX0_isGoer_10 : decode cX0_isGoer 10 = .ok (.aload_n 0, 1) := by decide +kernel
theorem dX0_isGoer_11 : decode cX0_isGoer 11 = .ok (.getfield 30, 3) := by decide +kernel
theorem dX0_isGoer_14 : decode cX0_isGoer 14 = .ok (.iload_n 1, 1) := by decide +kernel
theorem dX0_isGoer_15 : decode cX0_isGoer 15 = .ok (.ishr, 1) := by decide +kernel
theorem dX0_isGoer_16 : decode cX0_isGoer 16 = .ok (.iconst 1, 1) := by decide +kernel
theorem dX0_isGoer_17 : decode cX0_isGoer 17 = .ok (.iand, 1) := by decide +kernel
theorem dX0_isGoer_18 : decode cX0_isGoer 18 = .ok (.iconst 1, 1) := by decide +kernel
theorem dX0_isGoer_19 : decode cX0_isGoer 19 = .ok (.if_icmp .ne 7, 3) := by decide +kernel
theorem dX0_isGoer_22 : decode cX0_isGoer 22 = .ok (.iconst 1, 1) := by decide +kernel
theorem dX0_isGoer_23 : decode cX0_isGoer 23 = .ok (.goto 4, 3) := by decide +kernel
theorem dX0_isGoer_26 : decode cX0_isGoer 26 = .ok (.iconst 0, 1) := by decide +kernel
theorem dX0_isGoer_27 : decode cX0_isGoer 27 = .ok (.ireturn, 1) := by decide +kernel
theorem dX0_isSomebodyYonder_0 : decode cX0_isSomebodyYonder 0 = .ok (.aload_n 0, 1) := by decide +kernel
theorem dX0_isSomebodyYonder_1 : decode cX0_isSomebodyYonder 1 = .ok (.getfield 95, 3) := by decide +kernel
theorem dX0_isSomebodyYonder_4 : decode cX0_isSomebodyYonder 4 = .ok (.ifCond .lt 16, 3) := by decide +kernel
theorem dX0_isSomebodyYonder_7 : decode cX0_isSomebodyYonder 7 = .ok (.aload_n 0, 1) := by decide +kernel
theorem dX0_isSomebodyYonder_8 : decode cX0_isSomebodyYonder 8 = .ok (.getfield 95, 3) := by decide +kernel
theorem dX0_isSomebodyYonder_11 : decode cX0_isSomebodyYonder 11 = .ok (.bipush 6, 2) := by decide +kernel
theorem dX0_isSomebodyYonder_13 : decode cX0_isSomebodyYonder 13 = .ok (.if_icmp .ge 7, 3) := by decide +kernel
theorem dX0_isSomebodyYonder_16 : decode cX0_isSomebodyYonder 16 = .ok (.iconst 1, 1) := by decide +kernel
theorem dX0_isSomebodyYonder_17 : decode cX0_isSomebodyYonder 17 = .ok (.goto 4, 3) := by decide +kernel
theorem dX0_isSomebodyYonder_20 : decode cX0_isSomebodyYonder 20 = .ok (.iconst 0, 1) := by decide +kernel
theorem dX0_isSomebodyYonder_21 : decode cX0_isSomebodyYonder 21 = .ok (.ireturn, 1) := by decide +kernel
theorem dX0_begin_0 : decode cX0_begin 0 = .ok (.aload_n 0, 1) := by decide +kernel
theorem dX0_begin_1 : decode cX0_begin 1 = .ok (.iconst 0, 1) := by decide +kernel
theorem dX0_begin_2 : decode cX0_begin 2 = .ok (.putfield 92, 3) := by decide +kernel
theorem dX0_begin_5 : decode cX0_begin 5 = .ok (.aload_n 0, 1) := by decide +kernel
theorem dX0_begin_6 : decode cX0_begin 6 = .ok (.bipush (-4), 2) := by decide +kernel
theorem dX0_begin_8 : decode cX0_begin 8 = .ok (.putfield 95, 3) := by decide +kernel
theorem dX0_begin_11 : decode cX0_begin 11 = .ok (.aload_n 0, 1) := by decide +kernel
theorem dX0_begin_12 : decode cX0_begin 12 = .ok (.iconst 0, 1) := by decide +kernel
theorem dX0_begin_13 : decode cX0_begin 13 = .ok (.putfield 98, 3) := by decide +kernel
theorem dX0_begin_16 : decode cX0_begin 16 = .ok (.return_, 1) := by decide +kernel
theorem dX0_sendOver_0 : decode cX0_sendOver 0 = .ok (.aload_n 0, 1) := by decide +kernel
theorem dX0_sendOver_1 : decode cX0_sendOver 1 = .ok (.iload_n 1, 1) := by decide +kernel
theorem dX0_sendOver_2 : decode cX0_sendOver 2 = .ok (.invokevirtual 64, 3) := by decide +kernel
theorem dX0_sendOver_5 : decode cX0_sendOver 5 = .ok (.ifCond .ne 4, 3) := by decide +kernel
theorem dX0_sendOver_8 : decode cX0_sendOver 8 = .ok (.return_, 1) := by decide +kernel
theorem dX0_sendOver_9 : decode cX0_sendOver 9 = .ok (.aload_n 0, 1) := by decide +kernel
theorem dX0_sendOver_10 : decode cX0_sendOver 10 = .ok (.invokevirtual 101, 3) := by decide +kernel
theorem dX0_sendOver_13 : decode cX0_sendOver 13 = .ok (.ifCond .eq 25, 3) := by decide +kernel
theorem dX0_sendOver_16 : decode cX0_sendOver 16 = .ok (.aload_n 0, 1) := by decide +kernel
theorem dX0_sendOver_17 : decode cX0_sendOver 17 = .ok (.getfield 9, 3) := by decide +kernel
theorem dX0_sendOver_20 : decode cX0_sendOver 20 = .ok (.aload_n 0, 1) := by decide +kernel
theorem dX0_sendOver_21 : decode cX0_sendOver 21 = .ok (.getfield 95, 3) := by decide +kernel
theorem dX0_sendOver_24 : decode cX0_sendOver 24 = .ok (.iaload, 1) := by decide +kernel
theorem dX0_sendOver_25 : decode cX0_sendOver 25 = .ok (.aload_n 0, 1) := by decide +kernel
theorem dX0_sendOver_26 : decode cX0_sendOver 26 = .ok (.getfield 9, 3) := by decide +kernel
theorem dX0_sendOver_29 : decode cX0_sendOver 29 = .ok (.iload_n 1, 1) := by decide +kernel
theorem dX0_sendOver_30 : decode cX0_sendOver 30 = .ok (.iaload, 1) := by decide +kernel
theorem dX0_sendOver_31 : decode cX0_sendOver 31 = .ok (.if_icmp .ne 7, 3) := by decide +kernel
theorem dX0_sendOver_34 : decode cX0_sendOver 34 = .ok (.aload_n 0, 1) := by decide +kernel
theorem dX0_sendOver_35 : decode cX0_sendOver 35 = .ok (.invokevirtual 105, 3) := by decide +kernel
theorem dX0_sendOver_38 : decode cX0_sendOver 38 = .ok (.aload_n 0, 1) := by decide +kernel
theorem dX0_sendOver_39 : decode cX0_sendOver 39 = .ok (.dup, 1) := by decide +kernel
theorem dX0_sendOver_40 : decode cX0_sendOver 40 = .ok (.getfield 92, 3) := by decide +kernel
theorem dX0_sendOver_43 : decode cX0_sendOver 43 = .ok (.aload_n 0, 1) := by decide +kernel
theorem dX0_sendOver_44 : decode cX0_sendOver 44 = .ok (.getfield 18, 3) := by decide +kernel
theorem dX0_sendOver_47 : decode cX0_sendOver 47 = .ok (.iload_n 1, 1) := by decide +kernel
theorem dX0_sendOver_48 : decode cX0_sendOver 48 = .ok (.iaload, 1) := by decide +kernel
theorem dX0_sendOver_49 : decode cX0_sendOver 49 = .ok (.iadd, 1) := by decide +kernel
theorem dX0_sendOver_50 : decode cX0_sendOver 50 = .ok (.putfield 92, 3) := by decide +kernel
theorem dX0_sendOver_53 : decode cX0_sendOver 53 = .ok (.aload_n 0, 1) := by decide +kernel
theorem dX0_sendOver_54 : decode cX0_sendOver 54 = .ok (.getfield 92, 3) := by decide +kernel
theorem dX0_sendOver_57 : decode cX0_sendOver 57 = .ok (.istore_n 2, 1) := by decide +kernel
theorem dX0_sendOver_58 : decode cX0_sendOver 58 = .ok (.aload_n 0, 1) := by decide +kernel
theorem dX0_sendOver_59 : decode cX0_sendOver 59 = .ok (.invokevirtual 105, 3) := by decide +kernel
theorem dX0_sendOver_62 : decode cX0_sendOver 62 = .ok (.aload_n 0, 1) := by decide +kernel
theorem dX0_sendOver_63 : decode cX0_sendOver 63 = .ok (.iload_n 1, 1) := by decide +kernel
theorem dX0_sendOver_64 : decode cX0_sendOver 64 = .ok (.putfield 95, 3) := by decide +kernel
theorem dX0_sendOver_67 : decode cX0_sendOver 67 = .ok (.aload_n 0, 1) := by decide +kernel
theorem dX0_sendOver_68 : decode cX0_sendOver 68 = .ok (.iload_n 2, 1) := by decide +kernel
theorem dX0_sendOver_69 : decode cX0_sendOver 69 = .ok (.aload_n 0, 1) := by decide +kernel
theorem dX0_sendOver_70 : decode cX0_sendOver 70 = .ok (.getfield 15, 3) := by decide +kernel
theorem dX0_sendOver_73 : decode cX0_sendOver 73 = .ok (.iload_n 1, 1) := by decide +kernel
theorem dX0_sendOver_74 : decode cX0_sendOver 74 = .ok (.iaload, 1) := by decide +kernel
theorem dX0_sendOver_75 : decode cX0_sendOver 75 = .ok (.iadd, 1) := by decide +kernel
theorem dX0_sendOver_76 : decode cX0_sendOver 76 = .ok (.putfield 98, 3) := by decide +kernel
theorem dX0_sendOver_79 : decode cX0_sendOver 79 = .ok (.return_, 1) := by decide +kernel
theorem dX0_bringBack_0 : decode cX0_bringBack 0 = .ok (.aload_n 0, 1) := by decide +kernel
theorem dX0_bringBack_1 : decode cX0_bringBack 1 = .ok (.aload_n 0, 1) := by decide +kernel
theorem dX0_bringBack_2 : decode cX0_bringBack 2 = .ok (.invokevirtual 72, 3) := by decide +kernel
theorem dX0_bringBack_5 : decode cX0_bringBack 5 = .ok (.putfield 92, 3) := by decide +kernel
theorem dX0_bringBack_8 : decode cX0_bringBack 8 = .ok (.aload_n 0, 1) := by decide +kernel
theorem dX0_bringBack_9 : decode cX0_bringBack 9 = .ok (.bipush (-4), 2) := by decide +kernel
theorem dX0_bringBack_11 : decode cX0_bringBack 11 = .ok (.putfield 95, 3) := by decide +kernel
theorem dX0_bringBack_14 : decode cX0_bringBack 14 = .ok (.return_, 1) := by decide +kernel
theorem dX0_whenAllAreBack_0 : decode cX0_whenAllAreBack 0 = .ok (.aload_n 0, 1) := by decide +kernel
theorem dX0_whenAllAreBack_1 : decode cX0_whenAllAreBack 1 = .ok (.invokevirtual 101, 3) := by decide +kernel
theorem dX0_whenAllAreBack_4 : decode cX0_whenAllAreBack 4 = .ok (.ifCond .eq 27, 3) := by decide +kernel
theorem dX0_whenAllAreBack_7 : decode cX0_whenAllAreBack 7 = .ok (.aload_n 0, 1) := by decide +kernel
theorem dX0_whenAllAreBack_8 : decode cX0_whenAllAreBack 8 = .ok (.getfield 92, 3) := by decide +kernel
theorem dX0_whenAllAreBack_11 : decode cX0_whenAllAreBack 11 = .ok (.aload_n 0, 1) := by decide +kernel
theorem dX0_whenAllAreBack_12 : decode cX0_whenAllAreBack 12 = .ok (.getfield 98, 3) := by decide +kernel
theorem dX0_whenAllAreBack_15 : decode cX0_whenAllAreBack 15 = .ok (.invokestatic 108, 3) := by decide +kernel
theorem dX0_whenAllAreBack_18 : decode cX0_whenAllAreBack 18 = .ok (.aload_n 0, 1) := by decide +kernel
theorem dX0_whenAllAreBack_19 : decode cX0_whenAllAreBack 19 = .ok (.getfield 18, 3) := by decide +kernel
theorem dX0_whenAllAreBack_22 : decode cX0_whenAllAreBack 22 = .ok (.aload_n 0, 1) := by decide +kernel
theorem dX0_whenAllAreBack_23 : decode cX0_whenAllAreBack 23 = .ok (.getfield 95, 3) := by decide +kernel
theorem dX0_whenAllAreBack_26 : decode cX0_whenAllAreBack 26 = .ok (.iaload, 1) := by decide +kernel
theorem dX0_whenAllAreBack_27 : decode cX0_whenAllAreBack 27 = .ok (.iadd, 1) := by decide +kernel
theorem dX0_whenAllAreBack_28 : decode cX0_whenAllAreBack 28 = .ok (.goto 7, 3) := by decide +kernel
theorem dX0_whenAllAreBack_31 : decode cX0_whenAllAreBack 31 = .ok (.aload_n 0, 1) := by decide +kernel
theorem dX0_whenAllAreBack_32 : decode cX0_whenAllAreBack 32 = .ok (.getfield 92, 3) := by decide +kernel
theorem dX0_whenAllAreBack_35 : decode cX0_whenAllAreBack 35 = .ok (.ireturn, 1) := by decide +kernel
theorem dX1_init_0 : decode cX1_init 0 = .ok (.aload_n 0, 1) := by decide +kernel
theorem dX1_init_1 : decode cX1_init 1 = .ok (.invokespecial 1, 3) := by decide +kernel
theorem dX1_init_4 : decode cX1_init 4 = .ok (.aload_n 0, 1) := by decide +kernel
theorem dX1_init_5 : decode cX1_init 5 = .ok (.iload_n 1, 1) := by decide +kernel
theorem dX1_init_6 : decode cX1_init 6 = .ok (.iconst 1, 1) := by decide +kernel
theorem dX1_init_7 : decode cX1_init 7 = .ok (.invokestatic 7, 3) := by decide +kernel
theorem dX1_init_10 : decode cX1_init 10 = .ok (.anewarray 13, 3) := by decide +kernel
theorem dX1_init_13 : decode cX1_init 13 = .ok (.putfield 15, 3) := by decide +kernel
theorem dX1_init_16 : decode cX1_init 16 = .ok (.iconst 0, 1) := by decide +kernel
theorem dX1_init_17 : decode cX1_init 17 = .ok (.istore_n 2, 1) := by decide +kernel
theorem dX1_init_18 : decode cX1_init 18 = .ok (.iload_n 2, 1) := by decide +kernel
theorem dX1_init_19 : decode cX1_init 19 = .ok (.aload_n 0, 1) := by decide +kernel
theorem dX1_init_20 : decode cX1_init 20 = .ok (.getfield 15, 3) := by decide +kernel
theorem dX1_init_23 : decode cX1_init 23 = .ok (.arraylength, 1) := by decide +kernel
theorem dX1_init_24 : decode cX1_init 24 = .ok (.if_icmp .ge 22, 3) := by decide +kernel
theorem dX1_init_27 : decode cX1_init 27 = .ok (.aload_n 0, 1) := by decide +kernel
theorem dX1_init_28 : decode cX1_init 28 = .ok (.getfield 15, 3) := by decide +kernel
theorem dX1_init_31 : decode cX1_init 31 = .ok (.iload_n 2, 1) := by decide +kernel
theorem dX1_init_32 : decode cX1_init 32 = .ok (.new 13, 3) := by decide +kernel
theorem dX1_init_35 : decode cX1_init 35 = .ok (.dup, 1) := by decide +kernel
theorem dX1_init_36 : decode cX1_init 36 = .ok (.invokespecial 21, 3) := by decide +kernel
theorem dX1_init_39 : decode cX1_init 39 = .ok (.aastore, 1) := by decide +kernel
theorem dX1_init_40 : decode cX1_init 40 = .ok (.iinc 2 1, 3) := by decide +kernel
theorem dX1_init_43 : decode cX1_init 43 = .ok (.goto (-25), 3) := by decide +kernel
theorem dX1_init_46 : decode cX1_init 46 = .ok (.return_, 1) := by decide +kernel
theorem dX1_clear_0 : decode cX1_clear 0 = .ok (.aload_n 0, 1) := by decide +kernel
theorem dX1_clear_1 : decode cX1_clear 1 = .ok (.iconst 0, 1) := by decide +kernel
theorem dX1_clear_2 : decode cX1_clear 2 = .ok (.putfield 22, 3) := by decide +kernel
theorem dX1_clear_5 : decode cX1_clear 5 = .ok (.return_, 1) := by decide +kernel
theorem dX1_put_0 : decode cX1_put 0 = .ok (.aload_n 0, 1) := by decide +kernel
theorem dX1_put_1 : decode cX1_put 1 = .ok (.getfield 22, 3) := by decide +kernel
theorem dX1_put_4 : decode cX1_put 4 = .ok (.aload_n 0, 1) := by decide +kernel
theorem dX1_put_5 : decode cX1_put 5 = .ok (.getfield 15, 3) := by decide +kernel
theorem dX1_put_8 : decode cX1_put 8 = .ok (.arraylength, 1) := by decide +kernel
theorem dX1_put_9 : decode cX1_put 9 = .ok (.if_icmp .lt 7, 3) := by decide +kernel
theorem dX1_put_12 : decode cX1_put 12 = .ok (.aload_n 0, 1) := by decide +kernel
theorem dX1_put_13 : decode cX1_put 13 = .ok (.invokevirtual 26, 3) := by decide +kernel
theorem dX1_put_16 : decode cX1_put 16 = .ok (.aload_n 0, 1) := by decide +kernel
theorem dX1_put_17 : decode cX1_put 17 = .ok (.getfield 22, 3) := by decide +kernel
theorem dX1_put_20 : decode cX1_put 20 = .ok (.ifCond .lt 50, 3) := by decide +kernel
theorem dX1_put_23 : decode cX1_put 23 = .ok (.aload_n 0, 1) := by decide +kernel
theorem dX1_put_24 : decode cX1_put 24 = .ok (.getfield 22, 3) := by decide +kernel
theorem dX1_put_27 : decode cX1_put 27 = .ok (.aload_n 0, 1) := by decide +kernel
theorem dX1_put_28 : decode cX1_put 28 = .ok (.getfield 15, 3) := by decide +kernel
theorem dX1_put_31 : decode cX1_put 31 = .ok (.arraylength, 1) := by decide +kernel
theorem dX1_put_32 : decode cX1_put 32 = .ok (.if_icmp .ge 38, 3) := by decide +kernel
theorem dX1_put_35 : decode cX1_put 35 = .ok (.aload_n 0, 1) := by decide +kernel
theorem dX1_put_36 : decode cX1_put 36 = .ok (.getfield 15, 3) := by decide +kernel
theorem dX1_put_39 : decode cX1_put 39 = .ok (.aload_n 0, 1) := by decide +kernel
theorem dX1_put_40 : decode cX1_put 40 = .ok (.getfield 22, 3) := by decide +kernel
theorem dX1_put_43 : decode cX1_put 43 = .ok (.aaload, 1) := by decide +kernel
theorem dX1_put_44 : decode cX1_put 44 = .ok (.ifnull 26, 3) := by decide +kernel
theorem dX1_put_47 : decode cX1_put 47 = .ok (.aload_n 0, 1) := by decide +kernel
theorem dX1_put_48 : decode cX1_put 48 = .ok (.getfield 15, 3) := by decide +kernel
theorem dX1_put_51 : decode cX1_put 51 = .ok (.aload_n 0, 1) := by decide +kernel
theorem dX1_put_52 : decode cX1_put 52 = .ok (.getfield 22, 3) := by decide +kernel
theorem dX1_put_55 : decode cX1_put 55 = .ok (.aaload, 1) := by decide +kernel
theorem dX1_put_56 : decode cX1_put 56 = .ok (.aload_n 1, 1) := by decide +kernel
theorem dX1_put_57 : decode cX1_put 57 = .ok (.invokevirtual 29, 3) := by decide +kernel
theorem dX1_put_60 : decode cX1_put 60 = .ok (.aload_n 0, 1) := by decide +kernel
theorem dX1_put_61 : decode cX1_put 61 = .ok (.dup, 1) := by decide +kernel
theorem dX1_put_62 : decode cX1_put 62 = .ok (.getfield 22, 3) := by decide +kernel
theorem dX1_put_65 : decode cX1_put 65 = .ok (.iconst 1, 1) := by decide +kernel
theorem dX1_put_66 : decode cX1_put 66 = .ok (.iadd, 1) := by decide +kernel
theorem dX1_put_67 : decode cX1_put 67 = .ok (.putfield 22, 3) := by decide +kernel
theorem dX1_put_70 : decode cX1_put 70 = .ok (.return_, 1) := by decide +kernel
theorem dX1_take_0 : decode cX1_take 0 = .ok (.aload_n 0, 1) := by decide +kernel
theorem dX1_take_1 : decode cX1_take 1 = .ok (.getfield 22, 3) := by decide +kernel
theorem dX1_take_4 : decode cX1_take 4 = .ok (.ifCond .le 52, 3) := by decide +kernel
theorem dX1_take_7 : decode cX1_take 7 = .ok (.aload_n 0, 1) := by decide +kernel
theorem dX1_take_8 : decode cX1_take 8 = .ok (.getfield 22, 3) := by decide +kernel
theorem dX1_take_11 : decode cX1_take 11 = .ok (.aload_n 0, 1) := by decide +kernel
theorem dX1_take_12 : decode cX1_take 12 = .ok (.getfield 15, 3) := by decide +kernel
theorem dX1_take_15 : decode cX1_take 15 = .ok (.arraylength, 1) := by decide +kernel
theorem dX1_take_16 : decode cX1_take 16 = .ok (.if_icmp .gt 40, 3) := by decide +kernel
theorem dX1_take_19 : decode cX1_take 19 = .ok (.aload_n 0, 1) := by decide +kernel
theorem dX1_take_20 : decode cX1_take 20 = .ok (.getfield 15, 3) := by decide +kernel
theorem dX1_take_23 : decode cX1_take 23 = .ok (.aload_n 0, 1) := by decide +kernel
theorem dX1_take_24 : decode cX1_take 24 = .ok (.getfield 22, 3) := by decide +kernel
theorem dX1_take_27 : decode cX1_take 27 = .ok (.iconst 1, 1) := by decide +kernel
theorem dX1_take_28 : decode cX1_take 28 = .ok (.isub, 1) := by decide +kernel
theorem dX1_take_29 : decode cX1_take 29 = .ok (.aaload, 1) := by decide +kernel
theorem dX1_take_30 : decode cX1_take 30 = .ok (.ifnull 26, 3) := by decide +kernel
theorem dX1_take_33 : decode cX1_take 33 = .ok (.aload_n 0, 1) := by decide +kernel
theorem dX1_take_34 : decode cX1_take 34 = .ok (.dup, 1) := by decide +kernel
theorem dX1_take_35 : decode cX1_take 35 = .ok (.getfield 22, 3) := by decide +kernel
theorem dX1_take_38 : decode cX1_take 38 = .ok (.iconst 1, 1) := by decide +kernel
theorem dX1_take_39 : decode cX1_take 39 = .ok (.isub, 1) := by decide +kernel
theorem dX1_take_40 : decode cX1_take 40 = .ok (.putfield 22, 3) := by decide +kernel
theorem dX1_take_43 : decode cX1_take 43 = .ok (.aload_n 1, 1) := by decide +kernel
theorem dX1_take_44 : decode cX1_take 44 = .ok (.aload_n 0, 1) := by decide +kernel
theorem dX1_take_45 : decode cX1_take 45 = .ok (.getfield 15, 3) := by decide +kernel
theorem dX1_take_48 : decode cX1_take 48 = .ok (.aload_n 0, 1) := by decide +kernel
theorem dX1_take_49 : decode cX1_take 49 = .ok (.getfield 22, 3) := by decide +kernel
theorem dX1_take_52 : decode cX1_take 52 = .ok (.aaload, 1) := by decide +kernel
theorem dX1_take_53 : decode cX1_take 53 = .ok (.invokevirtual 29, 3) := by decide +kernel
theorem dX1_take_56 : decode cX1_take 56 = .ok (.return_, 1) := by decide +kernel
theorem dX1_dropOldest_0 : decode cX1_dropOldest 0 = .ok (.aload_n 0, 1) := by decide +kernel
theorem dX1_dropOldest_1 : decode cX1_dropOldest 1 = .ok (.getfield 15, 3) := by decide +kernel
theorem dX1_dropOldest_4 : decode cX1_dropOldest 4 = .ok (.iconst 0, 1) := by decide +kernel
theorem dX1_dropOldest_5 : decode cX1_dropOldest 5 = .ok (.aaload, 1) := by decide +kernel
theorem dX1_dropOldest_6 : decode cX1_dropOldest 6 = .ok (.astore_n 1, 1) := by decide +kernel
theorem dX1_dropOldest_7 : decode cX1_dropOldest 7 = .ok (.iconst 1, 1) := by decide +kernel
theorem dX1_dropOldest_8 : decode cX1_dropOldest 8 = .ok (.istore_n 2, 1) := by decide +kernel
theorem dX1_dropOldest_9 : decode cX1_dropOldest 9 = .ok (.iload_n 2, 1) := by decide +kernel
theorem dX1_dropOldest_10 : decode cX1_dropOldest 10 = .ok (.aload_n 0, 1) := by decide +kernel
theorem dX1_dropOldest_11 : decode cX1_dropOldest 11 = .ok (.getfield 15, 3) := by decide +kernel
theorem dX1_dropOldest_14 : decode cX1_dropOldest 14 = .ok (.arraylength, 1) := by decide +kernel
theorem dX1_dropOldest_15 : decode cX1_dropOldest 15 = .ok (.if_icmp .ge 23, 3) := by decide +kernel
theorem dX1_dropOldest_18 : decode cX1_dropOldest 18 = .ok (.aload_n 0, 1) := by decide +kernel
theorem dX1_dropOldest_19 : decode cX1_dropOldest 19 = .ok (.getfield 15, 3) := by decide +kernel
theorem dX1_dropOldest_22 : decode cX1_dropOldest 22 = .ok (.iload_n 2, 1) := by decide +kernel
theorem dX1_dropOldest_23 : decode cX1_dropOldest 23 = .ok (.iconst 1, 1) := by decide +kernel
theorem dX1_dropOldest_24 : decode cX1_dropOldest 24 = .ok (.isub, 1) := by decide +kernel
theorem dX1_dropOldest_25 : decode cX1_dropOldest 25 = .ok (.aload_n 0, 1) := by decide +kernel
theorem dX1_dropOldest_26 : decode cX1_dropOldest 26 = .ok (.getfield 15, 3) := by decide +kernel
theorem dX1_dropOldest_29 : decode cX1_dropOldest 29 = .ok (.iload_n 2, 1) := by decide +kernel
theorem dX1_dropOldest_30 : decode cX1_dropOldest 30 = .ok (.aaload, 1) := by decide +kernel
theorem dX1_dropOldest_31 : decode cX1_dropOldest 31 = .ok (.aastore, 1) := by decide +kernel
theorem dX1_dropOldest_32 : decode cX1_dropOldest 32 = .ok (.iinc 2 1, 3) := by decide +kernel
theorem dX1_dropOldest_35 : decode cX1_dropOldest 35 = .ok (.goto (-26), 3) := by decide +kernel
theorem dX1_dropOldest_38 : decode cX1_dropOldest 38 = .ok (.aload_n 0, 1) := by decide +kernel
theorem dX1_dropOldest_39 : decode cX1_dropOldest 39 = .ok (.getfield 15, 3) := by decide +kernel
theorem dX1_dropOldest_42 : decode cX1_dropOldest 42 = .ok (.aload_n 0, 1) := by decide +kernel
theorem dX1_dropOldest_43 : decode cX1_dropOldest 43 = .ok (.getfield 15, 3) := by decide +kernel
theorem dX1_dropOldest_46 : decode cX1_dropOldest 46 = .ok (.arraylength, 1) := by decide +kernel
theorem dX1_dropOldest_47 : decode cX1_dropOldest 47 = .ok (.iconst 1, 1) := by decide +kernel
theorem dX1_dropOldest_48 : decode cX1_dropOldest 48 = .ok (.isub, 1) := by decide +kernel
theorem dX1_dropOldest_49 : decode cX1_dropOldest 49 = .ok (.aload_n 1, 1) := by decide +kernel
theorem dX1_dropOldest_50 : decode cX1_dropOldest 50 = .ok (.aastore, 1) := by decide +kernel
theorem dX1_dropOldest_51 : decode cX1_dropOldest 51 = .ok (.aload_n 0, 1) := by decide +kernel
theorem dX1_dropOldest_52 : decode cX1_dropOldest 52 = .ok (.aload_n 0, 1) := by decide +kernel
theorem dX1_dropOldest_53 : decode cX1_dropOldest 53 = .ok (.getfield 15, 3) := by decide +kernel
theorem dX1_dropOldest_56 : decode cX1_dropOldest 56 = .ok (.arraylength, 1) := by decide +kernel
theorem dX1_dropOldest_57 : decode cX1_dropOldest 57 = .ok (.iconst 1, 1) := by decide +kernel
theorem dX1_dropOldest_58 : decode cX1_dropOldest 58 = .ok (.isub, 1) := by decide +kernel
theorem dX1_dropOldest_59 : decode cX1_dropOldest 59 = .ok (.putfield 22, 3) := by decide +kernel
theorem dX1_dropOldest_62 : decode cX1_dropOldest 62 = .ok (.return_, 1) := by decide +kernel
theorem dX2_init_0 : decode cX2_init 0 = .ok (.aload_n 0, 1) := by decide +kernel
theorem dX2_init_1 : decode cX2_init 1 = .ok (.invokespecial 3, 3) := by decide +kernel
theorem dX2_init_4 : decode cX2_init 4 = .ok (.aload_n 0, 1) := by decide +kernel
theorem dX2_init_5 : decode cX2_init 5 = .ok (.sipush 200, 3) := by decide +kernel
theorem dX2_init_8 : decode cX2_init 8 = .ok (.newarray .char, 2) := by decide +kernel
theorem dX2_init_10 : decode cX2_init 10 = .ok (.putfield 9, 3) := by decide +kernel
theorem dX2_init_13 : decode cX2_init 13 = .ok (.aload_n 0, 1) := by decide +kernel
theorem dX2_init_14 : decode cX2_init 14 = .ok (.iconst 3, 1) := by decide +kernel
theorem dX2_init_15 : decode cX2_init 15 = .ok (.newarray .int, 2) := by decide +kernel
theorem dX2_init_17 : decode cX2_init 17 = .ok (.putfield 15, 3) := by decide +kernel
theorem dX2_init_20 : decode cX2_init 20 = .ok (.return_, 1) := by decide +kernel
theorem dX2_append_0 : decode cX2_append 0 = .ok (.aload_n 0, 1) := by decide +kernel
theorem dX2_append_1 : decode cX2_append 1 = .ok (.getfield 19, 3) := by decide +kernel
theorem dX2_append_4 : decode cX2_append 4 = .ok (.ifCond .lt 33, 3) := by decide +kernel
theorem dX2_append_7 : decode cX2_append 7 = .ok (.aload_n 0, 1) := by decide +kernel
theorem dX2_append_8 : decode cX2_append 8 = .ok (.getfield 19, 3) := by decide +kernel
theorem dX2_append_11 : decode cX2_append 11 = .ok (.sipush 200, 3) := by decide +kernel
theorem dX2_append_14 : decode cX2_append 14 = .ok (.if_icmp .ge 23, 3) := by decide +kernel
theorem dX2_append_17 : decode cX2_append 17 = .ok (.aload_n 0, 1) := by decide +kernel
theorem dX2_append_18 : decode cX2_append 18 = .ok (.getfield 9, 3) := by decide +kernel
theorem dX2_append_21 : decode cX2_append 21 = .ok (.aload_n 0, 1) := by decide +kernel
theorem dX2_append_22 : decode cX2_append 22 = .ok (.getfield 19, 3) := by decide +kernel
theorem dX2_append_25 : decode cX2_append 25 = .ok (.iload_n 1, 1) := by decide +kernel
theorem dX2_append_26 : decode cX2_append 26 = .ok (.castore, 1) := by decide +kernel
theorem dX2_append_27 : decode cX2_append 27 = .ok (.aload_n 0, 1) := by decide +kernel
theorem dX2_append_28 : decode cX2_append 28 = .ok (.dup, 1) := by decide +kernel
theorem dX2_append_29 : decode cX2_append 29 = .ok (.getfield 19, 3) := by decide +kernel
theorem dX2_append_32 : decode cX2_append 32 = .ok (.iconst 1, 1) := by decide +kernel
theorem dX2_append_33 : decode cX2_append 33 = .ok (.iadd, 1) := by decide +kernel
theorem dX2_append_34 : decode cX2_append 34 = .ok (.putfield 19, 3) := by decide +kernel
theorem dX2_append_37 : decode cX2_append 37 = .ok (.return_, 1) := by decide +kernel
theorem dX2_tellAll_0 : decode cX2_tellAll 0 = .ok (.aload_n 1, 1) := by decide +kernel
theorem dX2_tellAll_1 : decode cX2_tellAll 1 = .ok (.invokevirtual 23, 3) := by decide +kernel
theorem dX2_tellAll_4 : decode cX2_tellAll 4 = .ok (.aload_n 0, 1) := by decide +kernel
theorem dX2_tellAll_5 : decode cX2_tellAll 5 = .ok (.iconst 0, 1) := by decide +kernel
theorem dX2_tellAll_6 : decode cX2_tellAll 6 = .ok (.putfield 28, 3) := by decide +kernel
theorem dX2_tellAll_9 : decode cX2_tellAll 9 = .ok (.aload_n 0, 1) := by decide +kernel
theorem dX2_tellAll_10 : decode cX2_tellAll 10 = .ok (.iconst 1, 1) := by decide +kernel
theorem dX2_tellAll_11 : decode cX2_tellAll 11 = .ok (.putfield 31, 3) := by decide +kernel
theorem dX2_tellAll_14 : decode cX2_tellAll 14 = .ok (.iconst 0, 1) := by decide +kernel
theorem dX2_tellAll_15 : decode cX2_tellAll 15 = .ok (.istore_n 2, 1) := by decide +kernel
theorem dX2_tellAll_16 : decode cX2_tellAll 16 = .ok (.iload_n 2, 1) := by decide +kernel
theorem dX2_tellAll_17 : decode cX2_tellAll 17 = .ok (.sipush 200, 3) := by decide +kernel
theorem dX2_tellAll_20 : decode cX2_tellAll 20 = .ok (.if_icmp .ge 66, 3) := by decide +kernel
theorem dX2_tellAll_23 : decode cX2_tellAll 23 = .ok (.aload_n 0, 1) := by decide +kernel
theorem dX2_tellAll_24 : decode cX2_tellAll 24 = .ok (.getfield 28, 3) := by decide +kernel
theorem dX2_tellAll_27 : decode cX2_tellAll 27 = .ok (.aload_n 0, 1) := by decide +kernel
theorem dX2_tellAll_28 : decode cX2_tellAll 28 = .ok (.getfield 19, 3) := by decide +kernel
theorem dX2_tellAll_31 : decode cX2_tellAll 31 = .ok (.if_icmp .ge 55, 3) := by decide +kernel
theorem dX2_tellAll_34 : decode cX2_tellAll 34 = .ok (.aload_n 0, 1) := by decide +kernel
theorem dX2_tellAll_35 : decode cX2_tellAll 35 = .ok (.getfield 28, 3) := by decide +kernel
theorem dX2_tellAll_38 : decode cX2_tellAll 38 = .ok (.istore_n 3, 1) := by decide +kernel
theorem dX2_tellAll_39 : decode cX2_tellAll 39 = .ok (.aload_n 0, 1) := by decide +kernel
theorem dX2_tellAll_40 : decode cX2_tellAll 40 = .ok (.iload_n 3, 1) := by decide +kernel
theorem dX2_tellAll_41 : decode cX2_tellAll 41 = .ok (.invokevirtual 35, 3) := by decide +kernel
theorem dX2_tellAll_44 : decode cX2_tellAll 44 = .ok (.istore 4, 2) := by decide +kernel
theorem dX2_tellAll_46 : decode cX2_tellAll 46 = .ok (.aload_n 0, 1) := by decide +kernel
theorem dX2_tellAll_47 : decode cX2_tellAll 47 = .ok (.dup, 1) := by decide +kernel
theorem dX2_tellAll_48 : decode cX2_tellAll 48 = .ok (.getfield 28, 3) := by decide +kernel
theorem dX2_tellAll_51 : decode cX2_tellAll 51 = .ok (.iconst 1, 1) := by decide +kernel
theorem dX2_tellAll_52 : decode cX2_tellAll 52 = .ok (.iadd, 1) := by decide +kernel
theorem dX2_tellAll_53 : decode cX2_tellAll 53 = .ok (.putfield 28, 3) := by decide +kernel
theorem dX2_tellAll_56 : decode cX2_tellAll 56 = .ok (.aload_n 0, 1) := by decide +kernel
theorem dX2_tellAll_57 : decode cX2_tellAll 57 = .ok (.iload 4, 2) := by decide +kernel
theorem dX2_tellAll_59 : decode cX2_tellAll 59 = .ok (.invokestatic 39, 3) := by decide +kernel
theorem dX2_tellAll_62 : decode cX2_tellAll 62 = .ok (.invokevirtual 43, 3) := by decide +kernel
theorem dX2_tellAll_65 : decode cX2_tellAll 65 = .ok (.ifCond .eq 13, 3) := by decide +kernel
theorem dX2_tellAll_68 : decode cX2_tellAll 68 = .ok (.aload_n 0, 1) := by decide +kernel
theorem dX2_tellAll_69 : decode cX2_tellAll 69 = .ok (.iload 4, 2) := by decide +kernel
theorem dX2_tellAll_71 : decode cX2_tellAll 71 = .ok (.aload_n 1, 1) := by decide +kernel
theorem dX2_tellAll_72 : decode cX2_tellAll 72 = .ok (.invokevirtual 47, 3) := by decide +kernel
theorem dX2_tellAll_75 : decode cX2_tellAll 75 = .ok (.ifCond .ne 5, 3) := by decide +kernel
theorem dX2_tellAll_78 : decode cX2_tellAll 78 = .ok (.iload_n 3, 1) := by decide +kernel
theorem dX2_tellAll_79 : decode cX2_tellAll 79 = .ok (.ireturn, 1) := by decide +kernel
theorem dX2_tellAll_80 : decode cX2_tellAll 80 = .ok (.iinc 2 1, 3) := by decide +kernel
theorem dX2_tellAll_83 : decode cX2_tellAll 83 = .ok (.goto (-67), 3) := by decide +kernel
theorem dX2_tellAll_86 : decode cX2_tellAll 86 = .ok (.bipush (-4), 2) := by decide +kernel
theorem dX2_tellAll_88 : decode cX2_tellAll 88 = .ok (.ireturn, 1) := by decide +kernel
theorem dX2_tellItem_0 : decode cX2_tellItem 0 = .ok (.aload_n 0, 1) := by decide +kernel
theorem dX2_tellItem_1 : decode cX2_tellItem 1 = .ok (.getfield 15, 3) := by decide +kernel
theorem dX2_tellItem_4 : decode cX2_tellItem 4 = .ok (.iconst 0, 1) := by decide +kernel
theorem dX2_tellItem_5 : decode cX2_tellItem 5 = .ok (.iaload, 1) := by decide +kernel
theorem dX2_tellItem_6 : decode cX2_tellItem 6 = .ok (.istore_n 3, 1) := by decide +kernel
theorem dX2_tellItem_7 : decode cX2_tellItem 7 = .ok (.iload_n 1, 1) := by decide +kernel
theorem dX2_tellItem_8 : decode cX2_tellItem 8 = .ok (.bipush 121, 2) := by decide +kernel
theorem dX2_tellItem_10 : decode cX2_tellItem 10 = .ok (.if_icmp .ne 30, 3) := by decide +kernel
theorem dX2_tellItem_13 : decode cX2_tellItem 13 = .ok (.aload_n 0, 1) := by decide +kernel
theorem dX2_tellItem_14 : decode cX2_tellItem 14 = .ok (.getfield 31, 3) := by decide +kernel
theorem dX2_tellItem_17 : decode cX2_tellItem 17 = .ok (.ifCond .eq 14, 3) := by decide +kernel
theorem dX2_tellItem_20 : decode cX2_tellItem 20 = .ok (.iload_n 3, 1) := by decide +kernel
theorem dX2_tellItem_21 : decode cX2_tellItem 21 = .ok (.iconst 2, 1) := by decide +kernel
theorem dX2_tellItem_22 : decode cX2_tellItem 22 = .ok (.if_icmp .lt 9, 3) := by decide +kernel
theorem dX2_tellItem_25 : decode cX2_tellItem 25 = .ok (.iload_n 3, 1) := by decide +kernel
theorem dX2_tellItem_26 : decode cX2_tellItem 26 = .ok (.bipush 8, 2) := by decide +kernel
theorem dX2_tellItem_28 : decode cX2_tellItem 28 = .ok (.if_icmp .le 5, 3) := by decide +kernel
theorem dX2_tellItem_31 : decode cX2_tellItem 31 = .ok (.iconst 0, 1) := by decide +kernel
theorem dX2_tellItem_32 : decode cX2_tellItem 32 = .ok (.ireturn, 1) := by decide +kernel
theorem dX2_tellItem_33 : decode cX2_tellItem 33 = .ok (.aload_n 2, 1) := by decide +kernel
theorem dX2_tellItem_34 : decode cX2_tellItem 34 = .ok (.iload_n 3, 1) := by decide +kernel
theorem dX2_tellItem_35 : decode cX2_tellItem 35 = .ok (.putfield 51, 3) := by decide +kernel
theorem dX2_tellItem_38 : decode cX2_tellItem 38 = .ok (.iconst 1, 1) := by decide +kernel
theorem dX2_tellItem_39 : decode cX2_tellItem 39 = .ok (.ireturn, 1) := by decide +kernel
theorem dX2_tellItem_40 : decode cX2_tellItem 40 = .ok (.aload_n 0, 1) := by decide +kernel
theorem dX2_tellItem_41 : decode cX2_tellItem 41 = .ok (.iconst 0, 1) := by decide +kernel
theorem dX2_tellItem_42 : decode cX2_tellItem 42 = .ok (.putfield 31, 3) := by decide +kernel
theorem dX2_tellItem_45 : decode cX2_tellItem 45 = .ok (.iload_n 1, 1) := by decide +kernel
theorem dX2_tellItem_46 : decode cX2_tellItem 46 = .ok (.bipush 100, 2) := by decide +kernel
theorem dX2_tellItem_48 : decode cX2_tellItem 48 = .ok (.if_icmp .ne 53, 3) := by decide +kernel
theorem dX2_tellItem_51 : decode cX2_tellItem 51 = .ok (.iload_n 3, 1) := by decide +kernel
theorem dX2_tellItem_52 : decode cX2_tellItem 52 = .ok (.aload_n 0, 1) := by decide +kernel
theorem dX2_tellItem_53 : decode cX2_tellItem 53 = .ok (.getfield 15, 3) := by decide +kernel
theorem dX2_tellItem_56 : decode cX2_tellItem 56 = .ok (.iconst 1, 1) := by decide +kernel
theorem dX2_tellItem_57 : decode cX2_tellItem 57 = .ok (.iaload, 1) := by decide +kernel
theorem dX2_tellItem_58 : decode cX2_tellItem 58 = .ok (.aload_n 0, 1) := by decide +kernel
theorem dX2_tellItem_59 : decode cX2_tellItem 59 = .ok (.getfield 15, 3) := by decide +kernel
theorem dX2_tellItem_62 : decode cX2_tellItem 62 = .ok (.iconst 2, 1) := by decide +kernel
theorem dX2_tellItem_63 : decode cX2_tellItem 63 = .ok (.iaload, 1) := by decide +kernel
theorem dX2_tellItem_64 : decode cX2_tellItem 64 = .ok (.invokestatic 54, 3) := by decide +kernel
theorem dX2_tellItem_67 : decode cX2_tellItem 67 = .ok (.ifCond .eq 12, 3) := by decide +kernel
theorem dX2_tellItem_70 : decode cX2_tellItem 70 = .ok (.aload_n 2, 1) := by decide +kernel
theorem dX2_tellItem_71 : decode cX2_tellItem 71 = .ok (.getfield 58, 3) := by decide +kernel
theorem dX2_tellItem_74 : decode cX2_tellItem 74 = .ok (.bipush 12, 2) := by decide +kernel
theorem dX2_tellItem_76 : decode cX2_tellItem 76 = .ok (.if_icmp .lt 5, 3) := by decide +kernel
theorem dX2_tellItem_79 : decode cX2_tellItem 79 = .ok (.iconst 0, 1) := by decide +kernel
theorem dX2_tellItem_80 : decode cX2_tellItem 80 = .ok (.ireturn, 1) := by decide +kernel
theorem dX2_tellItem_81 : decode cX2_tellItem 81 = .ok (.aload_n 2, 1) := by decide +kernel
theorem dX2_tellItem_82 : decode cX2_tellItem 82 = .ok (.iload_n 3, 1) := by decide +kernel
theorem dX2_tellItem_83 : decode cX2_tellItem 83 = .ok (.aload_n 0, 1) := by decide +kernel
theorem dX2_tellItem_84 : decode cX2_tellItem 84 = .ok (.getfield 15, 3) := by decide +kernel
theorem dX2_tellItem_87 : decode cX2_tellItem 87 = .ok (.iconst 1, 1) := by decide +kernel
theorem dX2_tellItem_88 : decode cX2_tellItem 88 = .ok (.iaload, 1) := by decide +kernel
theorem dX2_tellItem_89 : decode cX2_tellItem 89 = .ok (.aload_n 0, 1) := by decide +kernel
theorem dX2_tellItem_90 : decode cX2_tellItem 90 = .ok (.getfield 15, 3) := by decide +kernel
theorem dX2_tellItem_93 : decode cX2_tellItem 93 = .ok (.iconst 2, 1) := by decide +kernel
theorem dX2_tellItem_94 : decode cX2_tellItem 94 = .ok (.iaload, 1) := by decide +kernel
theorem dX2_tellItem_95 : decode cX2_tellItem 95 = .ok (.invokevirtual 61, 3) := by decide +kernel
theorem dX2_tellItem_98 : decode cX2_tellItem 98 = .ok (.pop, 1) := by decide +kernel
theorem dX2_tellItem_99 : decode cX2_tellItem 99 = .ok (.iconst 1, 1) := by decide +kernel
theorem dX2_tellItem_100 : decode cX2_tellItem 100 = .ok (.ireturn, 1) := by decide +kernel
theorem dX2_tellItem_101 : decode cX2_tellItem 101 = .ok (.iload_n 1, 1) := by decide +kernel
theorem dX2_tellItem_102 : decode cX2_tellItem 102 = .ok (.bipush 118, 2) := by decide +kernel
theorem dX2_tellItem_104 : decode cX2_tellItem 104 = .ok (.if_icmp .ne 47, 3) := by decide +kernel
theorem dX2_tellItem_107 : decode cX2_tellItem 107 = .ok (.aload_n 2, 1) := by decide +kernel
theorem dX2_tellItem_108 : decode cX2_tellItem 108 = .ok (.iload_n 3, 1) := by decide +kernel
theorem dX2_tellItem_109 : decode cX2_tellItem 109 = .ok (.invokevirtual 65, 3) := by decide +kernel
theorem dX2_tellItem_112 : decode cX2_tellItem 112 = .ok (.ifCond .eq 24, 3) := by decide +kernel
theorem dX2_tellItem_115 : decode cX2_tellItem 115 = .ok (.aload_n 0, 1) := by decide +kernel
theorem dX2_tellItem_116 : decode cX2_tellItem 116 = .ok (.getfield 15, 3) := by decide +kernel
theorem dX2_tellItem_119 : decode cX2_tellItem 119 = .ok (.iconst 1, 1) := by decide +kernel
theorem dX2_tellItem_120 : decode cX2_tellItem 120 = .ok (.iaload, 1) := by decide +kernel
theorem dX2_tellItem_121 : decode cX2_tellItem 121 = .ok (.invokestatic 68, 3) := by decide +kernel
theorem dX2_tellItem_124 : decode cX2_tellItem 124 = .ok (.ifCond .eq 12, 3) := by decide +kernel
theorem dX2_tellItem_127 : decode cX2_tellItem 127 = .ok (.aload_n 2, 1) := by decide +kernel
theorem dX2_tellItem_128 : decode cX2_tellItem 128 = .ok (.getfield 71, 3) := by decide +kernel
theorem dX2_tellItem_131 : decode cX2_tellItem 131 = .ok (.bipush 6, 2) := by decide +kernel
theorem dX2_tellItem_133 : decode cX2_tellItem 133 = .ok (.if_icmp .lt 5, 3) := by decide +kernel
theorem dX2_tellItem_136 : decode cX2_tellItem 136 = .ok (.iconst 0, 1) := by decide +kernel
theorem dX2_tellItem_137 : decode cX2_tellItem 137 = .ok (.ireturn, 1) := by decide +kernel
theorem dX2_tellItem_138 : decode cX2_tellItem 138 = .ok (.aload_n 2, 1) := by decide +kernel
theorem dX2_tellItem_139 : decode cX2_tellItem 139 = .ok (.iload_n 3, 1) := by decide +kernel
theorem dX2_tellItem_140 : decode cX2_tellItem 140 = .ok (.aload_n 0, 1) := by decide +kernel
theorem dX2_tellItem_141 : decode cX2_tellItem 141 = .ok (.getfield 15, 3) := by decide +kernel
theorem dX2_tellItem_144 : decode cX2_tellItem 144 = .ok (.iconst 1, 1) := by decide +kernel
theorem dX2_tellItem_145 : decode cX2_tellItem 145 = .ok (.iaload, 1) := by decide +kernel
theorem dX2_tellItem_146 : decode cX2_tellItem 146 = .ok (.invokevirtual 74, 3) := by decide +kernel
theorem dX2_tellItem_149 : decode cX2_tellItem 149 = .ok (.iconst 1, 1) := by decide +kernel
theorem dX2_tellItem_150 : decode cX2_tellItem 150 = .ok (.ireturn, 1) := by decide +kernel
theorem dX2_tellItem_151 : decode cX2_tellItem 151 = .ok (.aload_n 2, 1) := by decide +kernel
theorem dX2_tellItem_152 : decode cX2_tellItem 152 = .ok (.iload_n 3, 1) := by decide +kernel
theorem dX2_tellItem_153 : decode cX2_tellItem 153 = .ok (.putfield 78, 3) := by decide +kernel
theorem dX2_tellItem_156 : decode cX2_tellItem 156 = .ok (.iload_n 3, 1) := by decide +kernel
theorem dX2_tellItem_157 : decode cX2_tellItem 157 = .ok (.iconst 1, 1) := by decide +kernel
theorem dX2_tellItem_158 : decode cX2_tellItem 158 = .ok (.if_icmp .lt 7, 3) := by decide +kernel
theorem dX2_tellItem_161 : decode cX2_tellItem 161 = .ok (.iconst 1, 1) := by decide +kernel
theorem dX2_tellItem_162 : decode cX2_tellItem 162 = .ok (.goto 4, 3) := by decide +kernel
theorem dX2_tellItem_165 : decode cX2_tellItem 165 = .ok (.iconst 0, 1) := by decide +kernel
theorem dX2_tellItem_166 : decode cX2_tellItem 166 = .ok (.ireturn, 1) := by decide +kernel
theorem dX2_numbersBehind_0 : decode cX2_numbersBehind 0 = .ok (.iload_n 0, 1) := by decide +kernel
theorem dX2_numbersBehind_1 : decode cX2_numbersBehind 1 = .ok (.lookupswitch 51 #[(100, 45), (116, 49), (118, 47), (121, 43)], 43) := by decide +kernel
theorem dX2_numbersBehind_44 : decode cX2_numbersBehind 44 = .ok (.iconst 1, 1) := by decide +kernel
theorem dX2_numbersBehind_45 : decode cX2_numbersBehind 45 = .ok (.ireturn, 1) := by decide +kernel
theorem dX2_numbersBehind_46 : decode cX2_numbersBehind 46 = .ok (.iconst 3, 1) := by decide +kernel
theorem dX2_numbersBehind_47 : decode cX2_numbersBehind 47 = .ok (.ireturn, 1) := by decide +kernel
theorem dX2_numbersBehind_48 : decode cX2_numbersBehind 48 = .ok (.iconst 2, 1) := by decide +kernel
theorem dX2_numbersBehind_49 : decode cX2_numbersBehind 49 = .ok (.ireturn, 1) := by decide +kernel
theorem dX2_numbersBehind_50 : decode cX2_numbersBehind 50 = .ok (.iconst 1, 1) := by decide +kernel
theorem dX2_numbersBehind_51 : decode cX2_numbersBehind 51 = .ok (.ireturn, 1) := by decide +kernel
theorem dX2_numbersBehind_52 : decode cX2_numbersBehind 52 = .ok (.iconst 0, 1) := by decide +kernel
theorem dX2_numbersBehind_53 : decode cX2_numbersBehind 53 = .ok (.ireturn, 1) := by decide +kernel
theorem dX2_readNumbers_0 : decode cX2_readNumbers 0 = .ok (.iconst 0, 1) := by decide +kernel
theorem dX2_readNumbers_1 : decode cX2_readNumbers 1 = .ok (.istore_n 2, 1) := by decide +kernel
theorem dX2_readNumbers_2 : decode cX2_readNumbers 2 = .ok (.iload_n 2, 1) := by decide +kernel
theorem dX2_readNumbers_3 : decode cX2_readNumbers 3 = .ok (.iload_n 1, 1) := by decide +kernel
theorem dX2_readNumbers_4 : decode cX2_readNumbers 4 = .ok (.if_icmp .ge 77, 3) := by decide +kernel
theorem dX2_readNumbers_7 : decode cX2_readNumbers 7 = .ok (.iload_n 2, 1) := by decide +kernel
theorem dX2_readNumbers_8 : decode cX2_readNumbers 8 = .ok (.iconst 3, 1) := by decide +kernel
theorem dX2_readNumbers_9 : decode cX2_readNumbers 9 = .ok (.if_icmp .ge 72, 3) := by decide +kernel
theorem dX2_readNumbers_12 : decode cX2_readNumbers 12 = .ok (.aload_n 0, 1) := by decide +kernel
theorem dX2_readNumbers_13 : decode cX2_readNumbers 13 = .ok (.aload_n 0, 1) := by decide +kernel
theorem dX2_readNumbers_14 : decode cX2_readNumbers 14 = .ok (.getfield 28, 3) := by decide +kernel
theorem dX2_readNumbers_17 : decode cX2_readNumbers 17 = .ok (.invokevirtual 35, 3) := by decide +kernel
theorem dX2_readNumbers_20 : decode cX2_readNumbers 20 = .ok (.invokestatic 81, 3) := by decide +kernel
theorem dX2_readNumbers_23 : decode cX2_readNumbers 23 = .ok (.ifCond .ne 5, 3) := by decide +kernel
theorem dX2_readNumbers_26 : decode cX2_readNumbers 26 = .ok (.iconst 0, 1) := by decide +kernel
theorem dX2_readNumbers_27 : decode cX2_readNumbers 27 = .ok (.ireturn, 1) := by decide +kernel
theorem dX2_readNumbers_28 : decode cX2_readNumbers 28 = .ok (.aload_n 0, 1) := by decide +kernel
theorem dX2_readNumbers_29 : decode cX2_readNumbers 29 = .ok (.getfield 15, 3) := by decide +kernel
theorem dX2_readNumbers_32 : decode cX2_readNumbers 32 = .ok (.iload_n 2, 1) := by decide +kernel
theorem dX2_readNumbers_33 : decode cX2_readNumbers 33 = .ok (.aload_n 0, 1) := by decide +kernel
theorem dX2_readNumbers_34 : decode cX2_readNumbers 34 = .ok (.invokevirtual 85, 3) := by decide +kernel
theorem dX2_readNumbers_37 : decode cX2_readNumbers 37 = .ok (.iastore, 1) := by decide +kernel
theorem dX2_readNumbers_38 : decode cX2_readNumbers 38 = .ok (.aload_n 0, 1) := by decide +kernel
theorem dX2_readNumbers_39 : decode cX2_readNumbers 39 = .ok (.aload_n 0, 1) := by decide +kernel
theorem dX2_readNumbers_40 : decode cX2_readNumbers 40 = .ok (.getfield 28, 3) := by decide +kernel
theorem dX2_readNumbers_43 : decode cX2_readNumbers 43 = .ok (.invokevirtual 35, 3) := by decide +kernel
theorem dX2_readNumbers_46 : decode cX2_readNumbers 46 = .ok (.iload_n 2, 1) := by decide +kernel
theorem dX2_readNumbers_47 : decode cX2_readNumbers 47 = .ok (.iload_n 1, 1) := by decide +kernel
theorem dX2_readNumbers_48 : decode cX2_readNumbers 48 = .ok (.iconst 1, 1) := by decide +kernel
theorem dX2_readNumbers_49 : decode cX2_readNumbers 49 = .ok (.isub, 1) := by decide +kernel
theorem dX2_readNumbers_50 : decode cX2_readNumbers 50 = .ok (.if_icmp .ne 8, 3) := by decide +kernel
theorem dX2_readNumbers_53 : decode cX2_readNumbers 53 = .ok (.bipush 59, 2) := by decide +kernel
theorem dX2_readNumbers_55 : decode cX2_readNumbers 55 = .ok (.goto 5, 3) := by decide +kernel
theorem dX2_readNumbers_58 : decode cX2_readNumbers 58 = .ok (.bipush 44, 2) := by decide +kernel
theorem dX2_readNumbers_60 : decode cX2_readNumbers 60 = .ok (.if_icmp .eq 5, 3) := by decide +kernel
theorem dX2_readNumbers_63 : decode cX2_readNumbers 63 = .ok (.iconst 0, 1) := by decide +kernel
theorem dX2_readNumbers_64 : decode cX2_readNumbers 64 = .ok (.ireturn, 1) := by decide +kernel
theorem dX2_readNumbers_65 : decode cX2_readNumbers 65 = .ok (.aload_n 0, 1) := by decide +kernel
theorem dX2_readNumbers_66 : decode cX2_readNumbers 66 = .ok (.dup, 1) := by decide +kernel
theorem dX2_readNumbers_67 : decode cX2_readNumbers 67 = .ok (.getfield 28, 3) := by decide +kernel
theorem dX2_readNumbers_70 : decode cX2_readNumbers 70 = .ok (.iconst 1, 1) := by decide +kernel
theorem dX2_readNumbers_71 : decode cX2_readNumbers 71 = .ok (.iadd, 1) := by decide +kernel
theorem dX2_readNumbers_72 : decode cX2_readNumbers 72 = .ok (.putfield 28, 3) := by decide +kernel
theorem dX2_readNumbers_75 : decode cX2_readNumbers 75 = .ok (.iinc 2 1, 3) := by decide +kernel
theorem dX2_readNumbers_78 : decode cX2_readNumbers 78 = .ok (.goto (-76), 3) := by decide +kernel
theorem dX2_readNumbers_81 : decode cX2_readNumbers 81 = .ok (.iload_n 1, 1) := by decide +kernel
theorem dX2_readNumbers_82 : decode cX2_readNumbers 82 = .ok (.ifCond .le 7, 3) := by decide +kernel
theorem dX2_readNumbers_85 : decode cX2_readNumbers 85 = .ok (.iconst 1, 1) := by decide +kernel
theorem dX2_readNumbers_86 : decode cX2_readNumbers 86 = .ok (.goto 4, 3) := by decide +kernel
theorem dX2_readNumbers_89 : decode cX2_readNumbers 89 = .ok (.iconst 0, 1) := by decide +kernel
theorem dX2_readNumbers_90 : decode cX2_readNumbers 90 = .ok (.ireturn, 1) := by decide +kernel
theorem dX2_readFigures_0 : decode cX2_readFigures 0 = .ok (.aload_n 0, 1) := by decide +kernel
theorem dX2_readFigures_1 : decode cX2_readFigures 1 = .ok (.aload_n 0, 1) := by decide +kernel
theorem dX2_readFigures_2 : decode cX2_readFigures 2 = .ok (.getfield 28, 3) := by decide +kernel
theorem dX2_readFigures_5 : decode cX2_readFigures 5 = .ok (.invokevirtual 35, 3) := by decide +kernel
theorem dX2_readFigures_8 : decode cX2_readFigures 8 = .ok (.bipush 48, 2) := by decide +kernel
theorem dX2_readFigures_10 : decode cX2_readFigures 10 = .ok (.isub, 1) := by decide +kernel
theorem dX2_readFigures_11 : decode cX2_readFigures 11 = .ok (.istore_n 1, 1) := by decide +kernel
theorem dX2_readFigures_12 : decode cX2_readFigures 12 = .ok (.aload_n 0, 1) := by decide +kernel
theorem dX2_readFigures_13 : decode cX2_readFigures 13 = .ok (.dup, 1) := by decide +kernel
theorem dX2_readFigures_14 : decode cX2_readFigures 14 = .ok (.getfield 28, 3) := by decide +kernel
theorem dX2_readFigures_17 : decode cX2_readFigures 17 = .ok (.iconst 1, 1) := by decide +kernel
theorem dX2_readFigures_18 : decode cX2_readFigures 18 = .ok (.iadd, 1) := by decide +kernel
theorem dX2_readFigures_19 : decode cX2_readFigures 19 = .ok (.putfield 28, 3) := by decide +kernel
theorem dX2_readFigures_22 : decode cX2_readFigures 22 = .ok (.aload_n 0, 1) := by decide +kernel
theorem dX2_readFigures_23 : decode cX2_readFigures 23 = .ok (.aload_n 0, 1) := by decide +kernel
theorem dX2_readFigures_24 : decode cX2_readFigures 24 = .ok (.getfield 28, 3) := by decide +kernel
theorem dX2_readFigures_27 : decode cX2_readFigures 27 = .ok (.invokevirtual 35, 3) := by decide +kernel
theorem dX2_readFigures_30 : decode cX2_readFigures 30 = .ok (.invokestatic 81, 3) := by decide +kernel
theorem dX2_readFigures_33 : decode cX2_readFigures 33 = .ok (.ifCond .eq 30, 3) := by decide +kernel
theorem dX2_readFigures_36 : decode cX2_readFigures 36 = .ok (.bipush 10, 2) := by decide +kernel
theorem dX2_readFigures_38 : decode cX2_readFigures 38 = .ok (.iload_n 1, 1) := by decide +kernel
theorem dX2_readFigures_39 : decode cX2_readFigures 39 = .ok (.imul, 1) := by decide +kernel
theorem dX2_readFigures_40 : decode cX2_readFigures 40 = .ok (.aload_n 0, 1) := by decide +kernel
theorem dX2_readFigures_41 : decode cX2_readFigures 41 = .ok (.aload_n 0, 1) := by decide +kernel
theorem dX2_readFigures_42 : decode cX2_readFigures 42 = .ok (.getfield 28, 3) := by decide +kernel
theorem dX2_readFigures_45 : decode cX2_readFigures 45 = .ok (.invokevirtual 35, 3) := by decide +kernel
theorem dX2_readFigures_48 : decode cX2_readFigures 48 = .ok (.iadd, 1) := by decide +kernel
theorem dX2_readFigures_49 : decode cX2_readFigures 49 = .ok (.bipush 48, 2) := by decide +kernel
theorem dX2_readFigures_51 : decode cX2_readFigures 51 = .ok (.isub, 1) := by decide +kernel
theorem dX2_readFigures_52 : decode cX2_readFigures 52 = .ok (.istore_n 1, 1) := by decide +kernel
theorem dX2_readFigures_53 : decode cX2_readFigures 53 = .ok (.aload_n 0, 1) := by decide +kernel
theorem dX2_readFigures_54 : decode cX2_readFigures 54 = .ok (.dup, 1) := by decide +kernel
theorem dX2_readFigures_55 : decode cX2_readFigures 55 = .ok (.getfield 28, 3) := by decide +kernel
theorem dX2_readFigures_58 : decode cX2_readFigures 58 = .ok (.iconst 1, 1) := by decide +kernel
theorem dX2_readFigures_59 : decode cX2_readFigures 59 = .ok (.iadd, 1) := by decide +kernel
theorem dX2_readFigures_60 : decode cX2_readFigures 60 = .ok (.putfield 28, 3) := by decide +kernel
theorem dX2_readFigures_63 : decode cX2_readFigures 63 = .ok (.iload_n 1, 1) := by decide +kernel
theorem dX2_readFigures_64 : decode cX2_readFigures 64 = .ok (.ireturn, 1) := by decide +kernel
theorem dX2_isFigure_0 : decode cX2_isFigure 0 = .ok (.iload_n 0, 1) := by decide +kernel
theorem dX2_isFigure_1 : decode cX2_isFigure 1 = .ok (.bipush 48, 2) := by decide +kernel
theorem dX2_isFigure_3 : decode cX2_isFigure 3 = .ok (.if_icmp .lt 13, 3) := by decide +kernel
theorem dX2_isFigure_6 : decode cX2_isFigure 6 = .ok (.iload_n 0, 1) := by decide +kernel
theorem dX2_isFigure_7 : decode cX2_isFigure 7 = .ok (.bipush 57, 2) := by decide +kernel
theorem dX2_isFigure_9 : decode cX2_isFigure 9 = .ok (.if_icmp .gt 7, 3) := by decide +kernel
theorem dX2_isFigure_12 : decode cX2_isFigure 12 = .ok (.iconst 1, 1) := by decide +kernel
theorem dX2_isFigure_13 : decode cX2_isFigure 13 = .ok (.goto 4, 3) := by decide +kernel
theorem dX2_isFigure_16 : decode cX2_isFigure 16 = .ok (.iconst 0, 1) := by decide +kernel
theorem dX2_isFigure_17 : decode cX2_isFigure 17 = .ok (.ireturn, 1) := by decide +kernel
theorem dX2_letterAt_0 : decode cX2_letterAt 0 = .ok (.iload_n 1, 1) := by decide +kernel
theorem dX2_letterAt_1 : decode cX2_letterAt 1 = .ok (.ifCond .lt 27, 3) := by decide +kernel
theorem dX2_letterAt_4 : decode cX2_letterAt 4 = .ok (.iload_n 1, 1) := by decide +kernel
theorem dX2_letterAt_5 : decode cX2_letterAt 5 = .ok (.aload_n 0, 1) := by decide +kernel
theorem dX2_letterAt_6 : decode cX2_letterAt 6 = .ok (.getfield 19, 3) := by decide +kernel
theorem dX2_letterAt_9 : decode cX2_letterAt 9 = .ok (.if_icmp .ge 19, 3) := by decide +kernel
theorem dX2_letterAt_12 : decode cX2_letterAt 12 = .ok (.iload_n 1, 1) := by decide +kernel
theorem dX2_letterAt_13 : decode cX2_letterAt 13 = .ok (.sipush 200, 3) := by decide +kernel
theorem dX2_letterAt_16 : decode cX2_letterAt 16 = .ok (.if_icmp .ge 12, 3) := by decide +kernel
theorem dX2_letterAt_19 : decode cX2_letterAt 19 = .ok (.aload_n 0, 1) := by decide +kernel
theorem dX2_letterAt_20 : decode cX2_letterAt 20 = .ok (.getfield 9, 3) := by decide +kernel
theorem dX2_letterAt_23 : decode cX2_letterAt 23 = .ok (.iload_n 1, 1) := by decide +kernel
theorem dX2_letterAt_24 : decode cX2_letterAt 24 = .ok (.caload, 1) := by decide +kernel
theorem dX2_letterAt_25 : decode cX2_letterAt 25 = .ok (.goto 5, 3) := by decide +kernel
theorem dX2_letterAt_28 : decode cX2_letterAt 28 = .ok (.bipush 32, 2) := by decide +kernel
theorem dX2_letterAt_30 : decode cX2_letterAt 30 = .ok (.ireturn, 1) := by decide +kernel
theorem dX3_init_0 : decode cX3_init 0 = .ok (.aload_n 0, 1) := by decide +kernel
theorem dX3_init_1 : decode cX3_init 1 = .ok (.invokespecial 3, 3) := by decide +kernel
theorem dX3_init_4 : decode cX3_init 4 = .ok (.aload_n 0, 1) := by decide +kernel
theorem dX3_init_5 : decode cX3_init 5 = .ok (.bipush 12, 2) := by decide +kernel
theorem dX3_init_7 : decode cX3_init 7 = .ok (.newarray .int, 2) := by decide +kernel
theorem dX3_init_9 : decode cX3_init 9 = .ok (.putfield 9, 3) := by decide +kernel
theorem dX3_init_12 : decode cX3_init 12 = .ok (.aload_n 0, 1) := by decide +kernel
theorem dX3_init_13 : decode cX3_init 13 = .ok (.bipush 12, 2) := by decide +kernel
theorem dX3_init_15 : decode cX3_init 15 = .ok (.newarray .int, 2) := by decide +kernel
theorem dX3_init_17 : decode cX3_init 17 = .ok (.putfield 15, 3) := by decide +kernel
theorem dX3_init_20 : decode cX3_init 20 = .ok (.aload_n 0, 1) := by decide +kernel
theorem dX3_init_21 : decode cX3_init 21 = .ok (.bipush 12, 2) := by decide +kernel
theorem dX3_init_23 : decode cX3_init 23 = .ok (.newarray .int, 2) := by decide +kernel
theorem dX3_init_25 : decode cX3_init 25 = .ok (.putfield 18, 3) := by decide +kernel
theorem dX3_init_28 : decode cX3_init 28 = .ok (.aload_n 0, 1) := by decide +kernel
theorem dX3_init_29 : decode cX3_init 29 = .ok (.bipush 16, 2) := by decide +kernel
theorem dX3_init_31 : decode cX3_init 31 = .ok (.newarray .int, 2) := by decide +kernel
theorem dX3_init_33 : decode cX3_init 33 = .ok (.putfield 21, 3) := by decide +kernel
theorem dX3_init_36 : decode cX3_init 36 = .ok (.aload_n 0, 1) := by decide +kernel
theorem dX3_init_37 : decode cX3_init 37 = .ok (.bipush 6, 2) := by decide +kernel
theorem dX3_init_39 : decode cX3_init 39 = .ok (.newarray .int, 2) := by decide +kernel
theorem dX3_init_41 : decode cX3_init 41 = .ok (.putfield 24, 3) := by decide +kernel
theorem dX3_init_44 : decode cX3_init 44 = .ok (.aload_n 0, 1) := by decide +kernel
theorem dX3_init_45 : decode cX3_init 45 = .ok (.bipush 6, 2) := by decide +kernel
theorem dX3_init_47 : decode cX3_init 47 = .ok (.newarray .int, 2) := by decide +kernel
theorem dX3_init_49 : decode cX3_init 49 = .ok (.putfield 27, 3) := by decide +kernel
theorem dX3_init_52 : decode cX3_init 52 = .ok (.aload_n 0, 1) := by decide +kernel
theorem dX3_init_53 : decode cX3_init 53 = .ok (.invokevirtual 30, 3) := by decide +kernel
theorem dX3_init_56 : decode cX3_init 56 = .ok (.return_, 1) := by decide +kernel
theorem dX3_empty_0 : decode cX3_empty 0 = .ok (.aload_n 0, 1) := by decide +kernel
theorem dX3_empty_1 : decode cX3_empty 1 = .ok (.bipush 6, 2) := by decide +kernel
theorem dX3_empty_3 : decode cX3_empty 3 = .ok (.putfield 33, 3) := by decide +kernel
theorem dX3_empty_6 : decode cX3_empty 6 = .ok (.aload_n 0, 1) := by decide +kernel
theorem dX3_empty_7 : decode cX3_empty 7 = .ok (.bipush 60, 2) := by decide +kernel
theorem dX3_empty_9 : decode cX3_empty 9 = .ok (.putfield 37, 3) := by decide +kernel
theorem dX3_empty_12 : decode cX3_empty 12 = .ok (.aload_n 0, 1) := by decide +kernel
theorem dX3_empty_13 : decode cX3_empty 13 = .ok (.iconst 0, 1) := by decide +kernel
theorem dX3_empty_14 : decode cX3_empty 14 = .ok (.putfield 40, 3) := by decide +kernel
theorem dX3_empty_17 : decode cX3_empty 17 = .ok (.aload_n 0, 1) := by decide +kernel
theorem dX3_empty_18 : decode cX3_empty 18 = .ok (.iconst 0, 1) := by decide +kernel
theorem dX3_empty_19 : decode cX3_empty 19 = .ok (.putfield 43, 3) := by decide +kernel
theorem dX3_empty_22 : decode cX3_empty 22 = .ok (.aload_n 0, 1) := by decide +kernel
theorem dX3_empty_23 : decode cX3_empty 23 = .ok (.invokevirtual 46, 3) := by decide +kernel
theorem dX3_empty_26 : decode cX3_empty 26 = .ok (.return_, 1) := by decide +kernel
theorem dX3_copyFrom_0 : decode cX3_copyFrom 0 = .ok (.aload_n 0, 1) := by decide +kernel
theorem dX3_copyFrom_1 : decode cX3_copyFrom 1 = .ok (.aload_n 1, 1) := by decide +kernel
theorem dX3_copyFrom_2 : decode cX3_copyFrom 2 = .ok (.getfield 33, 3) := by decide +kernel
theorem dX3_copyFrom_5 : decode cX3_copyFrom 5 = .ok (.putfield 33, 3) := by decide +kernel
theorem dX3_copyFrom_8 : decode cX3_copyFrom 8 = .ok (.aload_n 0, 1) := by decide +kernel
theorem dX3_copyFrom_9 : decode cX3_copyFrom 9 = .ok (.aload_n 1, 1) := by decide +kernel
theorem dX3_copyFrom_10 : decode cX3_copyFrom 10 = .ok (.getfield 37, 3) := by decide +kernel
theorem dX3_copyFrom_13 : decode cX3_copyFrom 13 = .ok (.putfield 37, 3) := by decide +kernel
theorem dX3_copyFrom_16 : decode cX3_copyFrom 16 = .ok (.aload_n 0, 1) := by decide +kernel
theorem dX3_copyFrom_17 : decode cX3_copyFrom 17 = .ok (.aload_n 1, 1) := by decide +kernel
theorem dX3_copyFrom_18 : decode cX3_copyFrom 18 = .ok (.getfield 40, 3) := by decide +kernel
theorem dX3_copyFrom_21 : decode cX3_copyFrom 21 = .ok (.putfield 40, 3) := by decide +kernel
theorem dX3_copyFrom_24 : decode cX3_copyFrom 24 = .ok (.aload_n 0, 1) := by decide +kernel
theorem dX3_copyFrom_25 : decode cX3_copyFrom 25 = .ok (.aload_n 1, 1) := by decide +kernel
theorem dX3_copyFrom_26 : decode cX3_copyFrom 26 = .ok (.getfield 43, 3) := by decide +kernel
theorem dX3_copyFrom_29 : decode cX3_copyFrom 29 = .ok (.putfield 43, 3) := by decide +kernel
theorem dX3_copyFrom_32 : decode cX3_copyFrom 32 = .ok (.iconst 0, 1) := by decide +kernel
theorem dX3_copyFrom_33 : decode cX3_copyFrom 33 = .ok (.istore_n 2, 1) := by decide +kernel
theorem dX3_copyFrom_34 : decode cX3_copyFrom 34 = .ok (.iload_n 2, 1) := by decide +kernel
theorem dX3_copyFrom_35 : decode cX3_copyFrom 35 = .ok (.bipush 12, 2) := by decide +kernel
theorem dX3_copyFrom_37 : decode cX3_copyFrom 37 = .ok (.if_icmp .ge 45, 3) := by decide +kernel
theorem dX3_copyFrom_40 : decode cX3_copyFrom 40 = .ok (.aload_n 0, 1) := by decide +kernel
theorem dX3_copyFrom_41 : decode cX3_copyFrom 41 = .ok (.getfield 9, 3) := by decide +kernel
theorem dX3_copyFrom_44 : decode cX3_copyFrom 44 = .ok (.iload_n 2, 1) := by decide +kernel
theorem dX3_copyFrom_45 : decode cX3_copyFrom 45 = .ok (.aload_n 1, 1) := by decide +kernel
theorem dX3_copyFrom_46 : decode cX3_copyFrom 46 = .ok (.getfield 9, 3) := by decide +kernel
theorem dX3_copyFrom_49 : decode cX3_copyFrom 49 = .ok (.iload_n 2, 1) := by decide +kernel
theorem dX3_copyFrom_50 : decode cX3_copyFrom 50 = .ok (.iaload, 1) := by decide +kernel
theorem dX3_copyFrom_51 : decode cX3_copyFrom 51 = .ok (.iastore, 1) := by decide +kernel
theorem dX3_copyFrom_52 : decode cX3_copyFrom 52 = .ok (.aload_n 0, 1) := by decide +kernel
theorem dX3_copyFrom_53 : decode cX3_copyFrom 53 = .ok (.getfield 15, 3) := by decide +kernel
theorem dX3_copyFrom_56 : decode cX3_copyFrom 56 = .ok (.iload_n 2, 1) := by decide +kernel
theorem dX3_copyFrom_57 : decode cX3_copyFrom 57 = .ok (.aload_n 1, 1) := by decide +kernel
theorem dX3_copyFrom_58 : decode cX3_copyFrom 58 = .ok (.getfield 15, 3) := by decide +kernel
theorem dX3_copyFrom_61 : decode cX3_copyFrom 61 = .ok (.iload_n 2, 1) := by decide +kernel
theorem dX3_copyFrom_62 : decode cX3_copyFrom 62 = .ok (.iaload, 1) := by decide +kernel
theorem dX3_copyFrom_63 : decode cX3_copyFrom 63 = .ok (.iastore, 1) := by decide +kernel
theorem dX3_copyFrom_64 : decode cX3_copyFrom 64 = .ok (.aload_n 0, 1) := by decide +kernel
theorem dX3_copyFrom_65 : decode cX3_copyFrom 65 = .ok (.getfield 18, 3) := by decide +kernel
theorem dX3_copyFrom_68 : decode cX3_copyFrom 68 = .ok (.iload_n 2, 1) := by decide +kernel
theorem dX3_copyFrom_69 : decode cX3_copyFrom 69 = .ok (.aload_n 1, 1) := by decide +kernel
theorem dX3_copyFrom_70 : decode cX3_copyFrom 70 = .ok (.getfield 18, 3) := by decide +kernel
theorem dX3_copyFrom_73 : decode cX3_copyFrom 73 = .ok (.iload_n 2, 1) := by decide +kernel
theorem dX3_copyFrom_74 : decode cX3_copyFrom 74 = .ok (.iaload, 1) := by decide +kernel
theorem dX3_copyFrom_75 : decode cX3_copyFrom 75 = .ok (.iastore, 1) := by decide +kernel
theorem dX3_copyFrom_76 : decode cX3_copyFrom 76 = .ok (.iinc 2 1, 3) := by decide +kernel
theorem dX3_copyFrom_79 : decode cX3_copyFrom 79 = .ok (.goto (-45), 3) := by decide +kernel
theorem dX3_copyFrom_82 : decode cX3_copyFrom 82 = .ok (.iconst 0, 1) := by decide +kernel
theorem dX3_copyFrom_83 : decode cX3_copyFrom 83 = .ok (.istore_n 2, 1) := by decide +kernel
theorem dX3_copyFrom_84 : decode cX3_copyFrom 84 = .ok (.iload_n 2, 1) := by decide +kernel
theorem dX3_copyFrom_85 : decode cX3_copyFrom 85 = .ok (.bipush 16, 2) := by decide +kernel
theorem dX3_copyFrom_87 : decode cX3_copyFrom 87 = .ok (.if_icmp .ge 21, 3) := by decide +kernel
theorem dX3_copyFrom_90 : decode cX3_copyFrom 90 = .ok (.aload_n 0, 1) := by decide +kernel
theorem dX3_copyFrom_91 : decode cX3_copyFrom 91 = .ok (.getfield 21, 3) := by decide +kernel
theorem dX3_copyFrom_94 : decode cX3_copyFrom 94 = .ok (.iload_n 2, 1) := by decide +kernel
theorem dX3_copyFrom_95 : decode cX3_copyFrom 95 = .ok (.aload_n 1, 1) := by decide +kernel
theorem dX3_copyFrom_96 : decode cX3_copyFrom 96 = .ok (.getfield 21, 3) := by decide +kernel
theorem dX3_copyFrom_99 : decode cX3_copyFrom 99 = .ok (.iload_n 2, 1) := by decide +kernel
theorem dX3_copyFrom_100 : decode cX3_copyFrom 100 = .ok (.iaload, 1) := by decide +kernel
theorem dX3_copyFrom_101 : decode cX3_copyFrom 101 = .ok (.iastore, 1) := by decide +kernel
theorem dX3_copyFrom_102 : decode cX3_copyFrom 102 = .ok (.iinc 2 1, 3) := by decide +kernel
theorem dX3_copyFrom_105 : decode cX3_copyFrom 105 = .ok (.goto (-21), 3) := by decide +kernel
theorem dX3_copyFrom_108 : decode cX3_copyFrom 108 = .ok (.iconst 0, 1) := by decide +kernel
theorem dX3_copyFrom_109 : decode cX3_copyFrom 109 = .ok (.istore_n 2, 1) := by decide +kernel
theorem dX3_copyFrom_110 : decode cX3_copyFrom 110 = .ok (.iload_n 2, 1) := by decide +kernel
theorem dX3_copyFrom_111 : decode cX3_copyFrom 111 = .ok (.bipush 6, 2) := by decide +kernel
theorem dX3_copyFrom_113 : decode cX3_copyFrom 113 = .ok (.if_icmp .ge 33, 3) := by decide +kernel
theorem dX3_copyFrom_116 : decode cX3_copyFrom 116 = .ok (.aload_n 0, 1) := by decide +kernel
theorem dX3_copyFrom_117 : decode cX3_copyFrom 117 = .ok (.getfield 24, 3) := by decide +kernel
theorem dX3_copyFrom_120 : decode cX3_copyFrom 120 = .ok (.iload_n 2, 1) := by decide +kernel
theorem dX3_copyFrom_121 : decode cX3_copyFrom 121 = .ok (.aload_n 1, 1) := by decide +kernel
theorem dX3_copyFrom_122 : decode cX3_copyFrom 122 = .ok (.getfield 24, 3) := by decide +kernel
theorem dX3_copyFrom_125 : decode cX3_copyFrom 125 = .ok (.iload_n 2, 1) := by decide +kernel
theorem dX3_copyFrom_126 : decode cX3_copyFrom 126 = .ok (.iaload, 1) := by decide +kernel
theorem dX3_copyFrom_127 : decode cX3_copyFrom 127 = .ok (.iastore, 1) := by decide +kernel
theorem dX3_copyFrom_128 : decode cX3_copyFrom 128 = .ok (.aload_n 0, 1) := by decide +kernel
theorem dX3_copyFrom_129 : decode cX3_copyFrom 129 = .ok (.getfield 27, 3) := by decide +kernel
theorem dX3_copyFrom_132 : decode cX3_copyFrom 132 = .ok (.iload_n 2, 1) := by decide +kernel
theorem dX3_copyFrom_133 : decode cX3_copyFrom 133 = .ok (.aload_n 1, 1) := by decide +kernel
theorem dX3_copyFrom_134 : decode cX3_copyFrom 134 = .ok (.getfield 27, 3) := by decide +kernel
theorem dX3_copyFrom_137 : decode cX3_copyFrom 137 = .ok (.iload_n 2, 1) := by decide +kernel
theorem dX3_copyFrom_138 : decode cX3_copyFrom 138 = .ok (.iaload, 1) := by decide +kernel
theorem dX3_copyFrom_139 : decode cX3_copyFrom 139 = .ok (.iastore, 1) := by decide +kernel
theorem dX3_copyFrom_140 : decode cX3_copyFrom 140 = .ok (.iinc 2 1, 3) := by decide +kernel
theorem dX3_copyFrom_143 : decode cX3_copyFrom 143 = .ok (.goto (-33), 3) := by decide +kernel
theorem dX3_copyFrom_146 : decode cX3_copyFrom 146 = .ok (.return_, 1) := by decide +kernel
theorem dX3_hasDead_0 : decode cX3_hasDead 0 = .ok (.iload_n 1, 1) := by decide +kernel
theorem dX3_hasDead_1 : decode cX3_hasDead 1 = .ok (.ifCond .lt 21, 3) := by decide +kernel
theorem dX3_hasDead_4 : decode cX3_hasDead 4 = .ok (.iload_n 1, 1) := by decide +kernel
theorem dX3_hasDead_5 : decode cX3_hasDead 5 = .ok (.aload_n 0, 1) := by decide +kernel
theorem dX3_hasDead_6 : decode cX3_hasDead 6 = .ok (.getfield 40, 3) := by decide +kernel
theorem dX3_hasDead_9 : decode cX3_hasDead 9 = .ok (.if_icmp .ge 13, 3) := by decide +kernel
theorem dX3_hasDead_12 : decode cX3_hasDead 12 = .ok (.iload_n 1, 1) := by decide +kernel
theorem dX3_hasDead_13 : decode cX3_hasDead 13 = .ok (.bipush 12, 2) := by decide +kernel
theorem dX3_hasDead_15 : decode cX3_hasDead 15 = .ok (.if_icmp .ge 7, 3) := by decide +kernel
theorem dX3_hasDead_18 : decode cX3_hasDead 18 = .ok (.iconst 1, 1) := by decide +kernel
theorem dX3_hasDead_19 : decode cX3_hasDead 19 = .ok (.goto 4, 3) := by decide +kernel
theorem dX3_hasDead_22 : decode cX3_hasDead 22 = .ok (.iconst 0, 1) := by decide +kernel
theorem dX3_hasDead_23 : decode cX3_hasDead 23 = .ok (.ireturn, 1) := by decide +kernel
theorem dX3_hasPlot_0 : decode cX3_hasPlot 0 = .ok (.iload_n 1, 1) := by decide +kernel
theorem dX3_hasPlot_1 : decode cX3_hasPlot 1 = .ok (.ifCond .lt 21, 3) := by decide +kernel
theorem dX3_hasPlot_4 : decode cX3_hasPlot 4 = .ok (.iload_n 1, 1) := by decide +kernel
theorem dX3_hasPlot_5 : decode cX3_hasPlot 5 = .ok (.aload_n 0, 1) := by decide +kernel
theorem dX3_hasPlot_6 : decode cX3_hasPlot 6 = .ok (.getfield 33, 3) := by decide +kernel
theorem dX3_hasPlot_9 : decode cX3_hasPlot 9 = .ok (.if_icmp .ge 13, 3) := by decide +kernel
theorem dX3_hasPlot_12 : decode cX3_hasPlot 12 = .ok (.iload_n 1, 1) := by decide +kernel
theorem dX3_hasPlot_13 : decode cX3_hasPlot 13 = .ok (.bipush 8, 2) := by decide +kernel
theorem dX3_hasPlot_15 : decode cX3_hasPlot 15 = .ok (.if_icmp .ge 7, 3) := by decide +kernel
theorem dX3_hasPlot_18 : decode cX3_hasPlot 18 = .ok (.iconst 1, 1) := by decide +kernel
theorem dX3_hasPlot_19 : decode cX3_hasPlot 19 = .ok (.goto 4, 3) := by decide +kernel
theorem dX3_hasPlot_22 : decode cX3_hasPlot 22 = .ok (.iconst 0, 1) := by decide +kernel
theorem dX3_hasPlot_23 : decode cX3_hasPlot 23 = .ok (.ireturn, 1) := by decide +kernel
theorem dX3_hasVisitor_0 : decode cX3_hasVisitor 0 = .ok (.iload_n 1, 1) := by decide +kernel
theorem dX3_hasVisitor_1 : decode cX3_hasVisitor 1 = .ok (.ifCond .lt 21, 3) := by decide +kernel
theorem dX3_hasVisitor_4 : decode cX3_hasVisitor 4 = .ok (.iload_n 1, 1) := by decide +kernel
theorem dX3_hasVisitor_5 : decode cX3_hasVisitor 5 = .ok (.aload_n 0, 1) := by decide +kernel
theorem dX3_hasVisitor_6 : decode cX3_hasVisitor 6 = .ok (.getfield 43, 3) := by decide +kernel
theorem dX3_hasVisitor_9 : decode cX3_hasVisitor 9 = .ok (.if_icmp .ge 13, 3) := by decide +kernel
theorem dX3_hasVisitor_12 : decode cX3_hasVisitor 12 = .ok (.iload_n 1, 1) := by decide +kernel
theorem dX3_hasVisitor_13 : decode cX3_hasVisitor 13 = .ok (.bipush 6, 2) := by decide +kernel
theorem dX3_hasVisitor_15 : decode cX3_hasVisitor 15 = .ok (.if_icmp .ge 7, 3) := by decide +kernel
theorem dX3_hasVisitor_18 : decode cX3_hasVisitor 18 = .ok (.iconst 1, 1) := by decide +kernel
theorem dX3_hasVisitor_19 : decode cX3_hasVisitor 19 = .ok (.goto 4, 3) := by decide +kernel
theorem dX3_hasVisitor_22 : decode cX3_hasVisitor 22 = .ok (.iconst 0, 1) := by decide +kernel
theorem dX3_hasVisitor_23 : decode cX3_hasVisitor 23 = .ok (.ireturn, 1) := by decide +kernel
theorem dX3_villageOf_0 : decode cX3_villageOf 0 = .ok (.aload_n 0, 1) := by decide +kernel
theorem dX3_villageOf_1 : decode cX3_villageOf 1 = .ok (.iload_n 1, 1) := by decide +kernel
theorem dX3_villageOf_2 : decode cX3_villageOf 2 = .ok (.invokevirtual 49, 3) := by decide +kernel
theorem dX3_villageOf_5 : decode cX3_villageOf 5 = .ok (.ifCond .eq 12, 3) := by decide +kernel
theorem dX3_villageOf_8 : decode cX3_villageOf 8 = .ok (.aload_n 0, 1) := by decide +kernel
theorem dX3_villageOf_9 : decode cX3_villageOf 9 = .ok (.getfield 9, 3) := by decide +kernel
theorem dX3_villageOf_12 : decode cX3_villageOf 12 = .ok (.iload_n 1, 1) := by decide +kernel
theorem dX3_villageOf_13 : decode cX3_villageOf 13 = .ok (.iaload, 1) := by decide +kernel
theorem dX3_villageOf_14 : decode cX3_villageOf 14 = .ok (.goto 5, 3) := by decide +kernel
theorem dX3_villageOf_17 : decode cX3_villageOf 17 = .ok (.bipush (-4), 2) := by decide +kernel
theorem dX3_villageOf_19 : decode cX3_villageOf 19 = .ok (.ireturn, 1) := by decide +kernel
theorem dX3_kindOf_0 : decode cX3_kindOf 0 = .ok (.aload_n 0, 1) := by decide +kernel
theorem dX3_kindOf_1 : decode cX3_kindOf 1 = .ok (.iload_n 1, 1) := by decide +kernel
theorem dX3_kindOf_2 : decode cX3_kindOf 2 = .ok (.invokevirtual 49, 3) := by decide +kernel
theorem dX3_kindOf_5 : decode cX3_kindOf 5 = .ok (.ifCond .eq 12, 3) := by decide +kernel
theorem dX3_kindOf_8 : decode cX3_kindOf 8 = .ok (.aload_n 0, 1) := by decide +kernel
theorem dX3_kindOf_9 : decode cX3_kindOf 9 = .ok (.getfield 15, 3) := by decide +kernel
theorem dX3_kindOf_12 : decode cX3_kindOf 12 = .ok (.iload_n 1, 1) := by decide +kernel
theorem dX3_kindOf_13 : decode cX3_kindOf 13 = .ok (.iaload, 1) := by decide +kernel
theorem dX3_kindOf_14 : decode cX3_kindOf 14 = .ok (.goto 5, 3) := by decide +kernel
theorem dX3_kindOf_17 : decode cX3_kindOf 17 = .ok (.bipush (-4), 2) := by decide +kernel
theorem dX3_kindOf_19 : decode cX3_kindOf 19 = .ok (.ireturn, 1) := by decide +kernel
theorem dX3_forgivenOf_0 : decode cX3_forgivenOf 0 = .ok (.aload_n 0, 1) := by decide +kernel
theorem dX3_forgivenOf_1 : decode cX3_forgivenOf 1 = .ok (.iload_n 1, 1) := by decide +kernel
theorem dX3_forgivenOf_2 : decode cX3_forgivenOf 2 = .ok (.invokevirtual 49, 3) := by decide +kernel
theorem dX3_forgivenOf_5 : decode cX3_forgivenOf 5 = .ok (.ifCond .eq 12, 3) := by decide +kernel
theorem dX3_forgivenOf_8 : decode cX3_forgivenOf 8 = .ok (.aload_n 0, 1) := by decide +kernel
theorem dX3_forgivenOf_9 : decode cX3_forgivenOf 9 = .ok (.getfield 18, 3) := by decide +kernel
theorem dX3_forgivenOf_12 : decode cX3_forgivenOf 12 = .ok (.iload_n 1, 1) := by decide +kernel
theorem dX3_forgivenOf_13 : decode cX3_forgivenOf 13 = .ok (.iaload, 1) := by decide +kernel
theorem dX3_forgivenOf_14 : decode cX3_forgivenOf 14 = .ok (.goto 5, 3) := by decide +kernel
theorem dX3_forgivenOf_17 : decode cX3_forgivenOf 17 = .ok (.bipush (-4), 2) := by decide +kernel
theorem dX3_forgivenOf_19 : decode cX3_forgivenOf 19 = .ok (.ireturn, 1) := by decide +kernel
theorem dX3_visitedBy_0 : decode cX3_visitedBy 0 = .ok (.aload_n 0, 1) := by decide +kernel
theorem dX3_visitedBy_1 : decode cX3_visitedBy 1 = .ok (.iload_n 1, 1) := by decide +kernel
theorem dX3_visitedBy_2 : decode cX3_visitedBy 2 = .ok (.invokevirtual 53, 3) := by decide +kernel
theorem dX3_visitedBy_5 : decode cX3_visitedBy 5 = .ok (.ifCond .eq 12, 3) := by decide +kernel
theorem dX3_visitedBy_8 : decode cX3_visitedBy 8 = .ok (.aload_n 0, 1) := by decide +kernel
theorem dX3_visitedBy_9 : decode cX3_visitedBy 9 = .ok (.getfield 24, 3) := by decide +kernel
theorem dX3_visitedBy_12 : decode cX3_visitedBy 12 = .ok (.iload_n 1, 1) := by decide +kernel
theorem dX3_visitedBy_13 : decode cX3_visitedBy 13 = .ok (.iaload, 1) := by decide +kernel
theorem dX3_visitedBy_14 : decode cX3_visitedBy 14 = .ok (.goto 5, 3) := by decide +kernel
theorem dX3_visitedBy_17 : decode cX3_visitedBy 17 = .ok (.bipush (-4), 2) := by decide +kernel
theorem dX3_visitedBy_19 : decode cX3_visitedBy 19 = .ok (.ireturn, 1) := by decide +kernel
theorem dX3_minutesOf_0 : decode cX3_minutesOf 0 = .ok (.aload_n 0, 1) := by decide +kernel
theorem dX3_minutesOf_1 : decode cX3_minutesOf 1 = .ok (.iload_n 1, 1) := by decide +kernel
theorem dX3_minutesOf_2 : decode cX3_minutesOf 2 = .ok (.invokevirtual 53, 3) := by decide +kernel
theorem dX3_minutesOf_5 : decode cX3_minutesOf 5 = .ok (.ifCond .eq 12, 3) := by decide +kernel
theorem dX3_minutesOf_8 : decode cX3_minutesOf 8 = .ok (.aload_n 0, 1) := by decide +kernel
theorem dX3_minutesOf_9 : decode cX3_minutesOf 9 = .ok (.getfield 27, 3) := by decide +kernel
theorem dX3_minutesOf_12 : decode cX3_minutesOf 12 = .ok (.iload_n 1, 1) := by decide +kernel
theorem dX3_minutesOf_13 : decode cX3_minutesOf 13 = .ok (.iaload, 1) := by decide +kernel
theorem dX3_minutesOf_14 : decode cX3_minutesOf 14 = .ok (.goto 5, 3) := by decide +kernel
theorem dX3_minutesOf_17 : decode cX3_minutesOf 17 = .ok (.bipush (-4), 2) := by decide +kernel
theorem dX3_minutesOf_19 : decode cX3_minutesOf 19 = .ok (.ireturn, 1) := by decide +kernel
theorem dX3_whoLies_0 : decode cX3_whoLies 0 = .ok (.iload_n 1, 1) := by decide +kernel
theorem dX3_whoLies_1 : decode cX3_whoLies 1 = .ok (.ifCond .lt 30, 3) := by decide +kernel
theorem dX3_whoLies_4 : decode cX3_whoLies 4 = .ok (.iload_n 1, 1) := by decide +kernel
theorem dX3_whoLies_5 : decode cX3_whoLies 5 = .ok (.iconst 1, 1) := by decide +kernel
theorem dX3_whoLies_6 : decode cX3_whoLies 6 = .ok (.if_icmp .gt 25, 3) := by decide +kernel
theorem dX3_whoLies_9 : decode cX3_whoLies 9 = .ok (.iload_n 2, 1) := by decide +kernel
theorem dX3_whoLies_10 : decode cX3_whoLies 10 = .ok (.ifCond .lt 21, 3) := by decide +kernel
theorem dX3_whoLies_13 : decode cX3_whoLies 13 = .ok (.iload_n 2, 1) := by decide +kernel
theorem dX3_whoLies_14 : decode cX3_whoLies 14 = .ok (.aload_n 0, 1) := by decide +kernel
theorem dX3_whoLies_15 : decode cX3_whoLies 15 = .ok (.getfield 33, 3) := by decide +kernel
theorem dX3_whoLies_18 : decode cX3_whoLies 18 = .ok (.if_icmp .ge 13, 3) := by decide +kernel
theorem dX3_whoLies_21 : decode cX3_whoLies 21 = .ok (.iload_n 2, 1) := by decide +kernel
theorem dX3_whoLies_22 : decode cX3_whoLies 22 = .ok (.bipush 8, 2) := by decide +kernel
theorem dX3_whoLies_24 : decode cX3_whoLies 24 = .ok (.if_icmp .ge 7, 3) := by decide +kernel
theorem dX3_whoLies_27 : decode cX3_whoLies 27 = .ok (.iconst 1, 1) := by decide +kernel
theorem dX3_whoLies_28 : decode cX3_whoLies 28 = .ok (.goto 4, 3) := by decide +kernel
theorem dX3_whoLies_31 : decode cX3_whoLies 31 = .ok (.iconst 0, 1) := by decide +kernel
theorem dX3_whoLies_32 : decode cX3_whoLies 32 = .ok (.istore_n 3, 1) := by decide +kernel
theorem dX3_whoLies_33 : decode cX3_whoLies 33 = .ok (.iload_n 3, 1) := by decide +kernel
theorem dX3_whoLies_34 : decode cX3_whoLies 34 = .ok (.ifCond .eq 17, 3) := by decide +kernel
theorem dX3_whoLies_37 : decode cX3_whoLies 37 = .ok (.aload_n 0, 1) := by decide +kernel
theorem dX3_whoLies_38 : decode cX3_whoLies 38 = .ok (.getfield 21, 3) := by decide +kernel
theorem dX3_whoLies_41 : decode cX3_whoLies 41 = .ok (.iload_n 1, 1) := by decide +kernel
theorem dX3_whoLies_42 : decode cX3_whoLies 42 = .ok (.bipush 8, 2) := by decide +kernel
theorem dX3_whoLies_44 : decode cX3_whoLies 44 = .ok (.imul, 1) := by decide +kernel
theorem dX3_whoLies_45 : decode cX3_whoLies 45 = .ok (.iload_n 2, 1) := by decide +kernel
theorem dX3_whoLies_46 : decode cX3_whoLies 46 = .ok (.iadd, 1) := by decide +kernel
theorem dX3_whoLies_47 : decode cX3_whoLies 47 = .ok (.iaload, 1) := by decide +kernel
theorem dX3_whoLies_48 : decode cX3_whoLies 48 = .ok (.goto 5, 3) := by decide +kernel
theorem dX3_whoLies_51 : decode cX3_whoLies 51 = .ok (.bipush (-4), 2) := by decide +kernel
theorem dX3_whoLies_53 : decode cX3_whoLies 53 = .ok (.ireturn, 1) := by decide +kernel
theorem dX3_plotOf_0 : decode cX3_plotOf 0 = .ok (.aload_n 0, 1) := by decide +kernel
theorem dX3_plotOf_1 : decode cX3_plotOf 1 = .ok (.iload_n 1, 1) := by decide +kernel
theorem dX3_plotOf_2 : decode cX3_plotOf 2 = .ok (.invokevirtual 49, 3) := by decide +kernel
theorem dX3_plotOf_5 : decode cX3_plotOf 5 = .ok (.ifCond .eq 19, 3) := by decide +kernel
theorem dX3_plotOf_8 : decode cX3_plotOf 8 = .ok (.aload_n 0, 1) := by decide +kernel
theorem dX3_plotOf_9 : decode cX3_plotOf 9 = .ok (.iconst 1, 1) := by decide +kernel
theorem dX3_plotOf_10 : decode cX3_plotOf 10 = .ok (.aload_n 0, 1) := by decide +kernel
theorem dX3_plotOf_11 : decode cX3_plotOf 11 = .ok (.getfield 9, 3) := by decide +kernel
theorem dX3_plotOf_14 : decode cX3_plotOf 14 = .ok (.iload_n 1, 1) := by decide +kernel
theorem dX3_plotOf_15 : decode cX3_plotOf 15 = .ok (.iaload, 1) := by decide +kernel
theorem dX3_plotOf_16 : decode cX3_plotOf 16 = .ok (.isub, 1) := by decide +kernel
theorem dX3_plotOf_17 : decode cX3_plotOf 17 = .ok (.iload_n 1, 1) := by decide +kernel
theorem dX3_plotOf_18 : decode cX3_plotOf 18 = .ok (.invokevirtual 56, 3) := by decide +kernel
theorem dX3_plotOf_21 : decode cX3_plotOf 21 = .ok (.goto 5, 3) := by decide +kernel
theorem dX3_plotOf_24 : decode cX3_plotOf 24 = .ok (.bipush (-4), 2) := by decide +kernel
theorem dX3_plotOf_26 : decode cX3_plotOf 26 = .ok (.ireturn, 1) := by decide +kernel
theorem dX3_plotOfDouble_0 : decode cX3_plotOfDouble 0 = .ok (.aload_n 0, 1) := by decide +kernel
theorem dX3_plotOfDouble_1 : decode cX3_plotOfDouble 1 = .ok (.iload_n 1, 1) := by decide +kernel
theorem dX3_plotOfDouble_2 : decode cX3_plotOfDouble 2 = .ok (.invokevirtual 49, 3) := by decide +kernel
theorem dX3_plotOfDouble_5 : decode cX3_plotOfDouble 5 = .ok (.ifCond .eq 20, 3) := by decide +kernel
theorem dX3_plotOfDouble_8 : decode cX3_plotOfDouble 8 = .ok (.aload_n 0, 1) := by decide +kernel
theorem dX3_plotOfDouble_9 : decode cX3_plotOfDouble 9 = .ok (.aload_n 0, 1) := by decide +kernel
theorem dX3_plotOfDouble_10 : decode cX3_plotOfDouble 10 = .ok (.getfield 9, 3) := by decide +kernel
theorem dX3_plotOfDouble_13 : decode cX3_plotOfDouble 13 = .ok (.iload_n 1, 1) := by decide +kernel
theorem dX3_plotOfDouble_14 : decode cX3_plotOfDouble 14 = .ok (.iaload, 1) := by decide +kernel
theorem dX3_plotOfDouble_15 : decode cX3_plotOfDouble 15 = .ok (.iload_n 1, 1) := by decide +kernel
theorem dX3_plotOfDouble_16 : decode cX3_plotOfDouble 16 = .ok (.bipush 20, 2) := by decide +kernel
theorem dX3_plotOfDouble_18 : decode cX3_plotOfDouble 18 = .ok (.iadd, 1) := by decide +kernel
theorem dX3_plotOfDouble_19 : decode cX3_plotOfDouble 19 = .ok (.invokevirtual 56, 3) := by decide +kernel
theorem dX3_plotOfDouble_22 : decode cX3_plotOfDouble 22 = .ok (.goto 5, 3) := by decide +kernel
theorem dX3_plotOfDouble_25 : decode cX3_plotOfDouble 25 = .ok (.bipush (-4), 2) := by decide +kernel
theorem dX3_plotOfDouble_27 : decode cX3_plotOfDouble 27 = .ok (.ireturn, 1) := by decide +kernel
theorem dX3_placeIn_0 : decode cX3_placeIn 0 = .ok (.iconst 0, 1) := by decide +kernel
theorem dX3_placeIn_1 : decode cX3_placeIn 1 = .ok (.istore_n 3, 1) := by decide +kernel
theorem dX3_placeIn_2 : decode cX3_placeIn 2 = .ok (.iload_n 3, 1) := by decide +kernel
theorem dX3_placeIn_3 : decode cX3_placeIn 3 = .ok (.aload_n 0, 1) := by decide +kernel
theorem dX3_placeIn_4 : decode cX3_placeIn 4 = .ok (.getfield 33, 3) := by decide +kernel
theorem dX3_placeIn_7 : decode cX3_placeIn 7 = .ok (.if_icmp .ge 21, 3) := by decide +kernel
theorem dX3_placeIn_10 : decode cX3_placeIn 10 = .ok (.aload_n 0, 1) := by decide +kernel
theorem dX3_placeIn_11 : decode cX3_placeIn 11 = .ok (.iload_n 1, 1) := by decide +kernel
theorem dX3_placeIn_12 : decode cX3_placeIn 12 = .ok (.iload_n 3, 1) := by decide +kernel
theorem dX3_placeIn_13 : decode cX3_placeIn 13 = .ok (.invokevirtual 60, 3) := by decide +kernel
theorem dX3_placeIn_16 : decode cX3_placeIn 16 = .ok (.iload_n 2, 1) := by decide +kernel
theorem dX3_placeIn_17 : decode cX3_placeIn 17 = .ok (.if_icmp .ne 5, 3) := by decide +kernel
theorem dX3_placeIn_20 : decode cX3_placeIn 20 = .ok (.iload_n 3, 1) := by decide +kernel
theorem dX3_placeIn_21 : decode cX3_placeIn 21 = .ok (.ireturn, 1) := by decide +kernel
theorem dX3_placeIn_22 : decode cX3_placeIn 22 = .ok (.iinc 3 1, 3) := by decide +kernel
theorem dX3_placeIn_25 : decode cX3_placeIn 25 = .ok (.goto (-23), 3) := by decide +kernel
theorem dX3_placeIn_28 : decode cX3_placeIn 28 = .ok (.bipush (-4), 2) := by decide +kernel
theorem dX3_placeIn_30 : decode cX3_placeIn 30 = .ok (.ireturn, 1) := by decide +kernel
theorem dX3_setForgiven_0 : decode cX3_setForgiven 0 = .ok (.aload_n 0, 1) := by decide +kernel
theorem dX3_setForgiven_1 : decode cX3_setForgiven 1 = .ok (.iload_n 1, 1) := by decide +kernel
theorem dX3_setForgiven_2 : decode cX3_setForgiven 2 = .ok (.invokevirtual 49, 3) := by decide +kernel
theorem dX3_setForgiven_5 : decode cX3_setForgiven 5 = .ok (.ifCond .eq 10, 3) := by decide +kernel
theorem dX3_setForgiven_8 : decode cX3_setForgiven 8 = .ok (.aload_n 0, 1) := by decide +kernel
theorem dX3_setForgiven_9 : decode cX3_setForgiven 9 = .ok (.getfield 18, 3) := by decide +kernel
theorem dX3_setForgiven_12 : decode cX3_setForgiven 12 = .ok (.iload_n 1, 1) := by decide +kernel
theorem dX3_setForgiven_13 : decode cX3_setForgiven 13 = .ok (.iload_n 2, 1) := by decide +kernel
theorem dX3_setForgiven_14 : decode cX3_setForgiven 14 = .ok (.iastore, 1) := by decide +kernel
theorem dX3_setForgiven_15 : decode cX3_setForgiven 15 = .ok (.return_, 1) := by decide +kernel
theorem dX3_addVisitor_0 : decode cX3_addVisitor 0 = .ok (.aload_n 0, 1) := by decide +kernel
theorem dX3_addVisitor_1 : decode cX3_addVisitor 1 = .ok (.getfield 43, 3) := by decide +kernel
theorem dX3_addVisitor_4 : decode cX3_addVisitor 4 = .ok (.ifCond .lt 42, 3) := by decide +kernel
theorem dX3_addVisitor_7 : decode cX3_addVisitor 7 = .ok (.aload_n 0, 1) := by decide +kernel
theorem dX3_addVisitor_8 : decode cX3_addVisitor 8 = .ok (.getfield 43, 3) := by decide +kernel
theorem dX3_addVisitor_11 : decode cX3_addVisitor 11 = .ok (.bipush 6, 2) := by decide +kernel
theorem dX3_addVisitor_13 : decode cX3_addVisitor 13 = .ok (.if_icmp .ge 33, 3) := by decide +kernel
theorem dX3_addVisitor_16 : decode cX3_addVisitor 16 = .ok (.aload_n 0, 1) := by decide +kernel
theorem dX3_addVisitor_17 : decode cX3_addVisitor 17 = .ok (.getfield 24, 3) := by decide +kernel
theorem dX3_addVisitor_20 : decode cX3_addVisitor 20 = .ok (.aload_n 0, 1) := by decide +kernel
theorem dX3_addVisitor_21 : decode cX3_addVisitor 21 = .ok (.getfield 43, 3) := by decide +kernel
theorem dX3_addVisitor_24 : decode cX3_addVisitor 24 = .ok (.iload_n 1, 1) := by decide +kernel
theorem dX3_addVisitor_25 : decode cX3_addVisitor 25 = .ok (.iastore, 1) := by decide +kernel
theorem dX3_addVisitor_26 : decode cX3_addVisitor 26 = .ok (.aload_n 0, 1) := by decide +kernel
theorem dX3_addVisitor_27 : decode cX3_addVisitor 27 = .ok (.getfield 27, 3) := by decide +kernel
theorem dX3_addVisitor_30 : decode cX3_addVisitor 30 = .ok (.aload_n 0, 1) := by decide +kernel
theorem dX3_addVisitor_31 : decode cX3_addVisitor 31 = .ok (.getfield 43, 3) := by decide +kernel
theorem dX3_addVisitor_34 : decode cX3_addVisitor 34 = .ok (.iload_n 2, 1) := by decide +kernel
theorem dX3_addVisitor_35 : decode cX3_addVisitor 35 = .ok (.iastore, 1) := by decide +kernel
theorem dX3_addVisitor_36 : decode cX3_addVisitor 36 = .ok (.aload_n 0, 1) := by decide +kernel
theorem dX3_addVisitor_37 : decode cX3_addVisitor 37 = .ok (.dup, 1) := by decide +kernel
theorem dX3_addVisitor_38 : decode cX3_addVisitor 38 = .ok (.getfield 43, 3) := by decide +kernel
theorem dX3_addVisitor_41 : decode cX3_addVisitor 41 = .ok (.iconst 1, 1) := by decide +kernel
theorem dX3_addVisitor_42 : decode cX3_addVisitor 42 = .ok (.iadd, 1) := by decide +kernel
theorem dX3_addVisitor_43 : decode cX3_addVisitor 43 = .ok (.putfield 43, 3) := by decide +kernel
theorem dX3_addVisitor_46 : decode cX3_addVisitor 46 = .ok (.return_, 1) := by decide +kernel
theorem dX3_addDead_0 : decode cX3_addDead 0 = .ok (.aload_n 0, 1) := by decide +kernel
theorem dX3_addDead_1 : decode cX3_addDead 1 = .ok (.getfield 40, 3) := by decide +kernel
theorem dX3_addDead_4 : decode cX3_addDead 4 = .ok (.istore 4, 2) := by decide +kernel
theorem dX3_addDead_6 : decode cX3_addDead 6 = .ok (.iload 4, 2) := by decide +kernel
theorem dX3_addDead_8 : decode cX3_addDead 8 = .ok (.ifCond .lt 10, 3) := by decide +kernel
theorem dX3_addDead_11 : decode cX3_addDead 11 = .ok (.iload 4, 2) := by decide +kernel
theorem dX3_addDead_13 : decode cX3_addDead 13 = .ok (.bipush 12, 2) := by decide +kernel
theorem dX3_addDead_15 : decode cX3_addDead 15 = .ok (.if_icmp .lt 6, 3) := by decide +kernel
theorem dX3_addDead_18 : decode cX3_addDead 18 = .ok (.bipush (-4), 2) := by decide +kernel
theorem dX3_addDead_20 : decode cX3_addDead 20 = .ok (.ireturn, 1) := by decide +kernel
theorem dX3_addDead_21 : decode cX3_addDead 21 = .ok (.aload_n 0, 1) := by decide +kernel
theorem dX3_addDead_22 : decode cX3_addDead 22 = .ok (.getfield 9, 3) := by decide +kernel
theorem dX3_addDead_25 : decode cX3_addDead 25 = .ok (.iload 4, 2) := by decide +kernel
theorem dX3_addDead_27 : decode cX3_addDead 27 = .ok (.iload_n 1, 1) := by decide +kernel
theorem dX3_addDead_28 : decode cX3_addDead 28 = .ok (.iastore, 1) := by decide +kernel
theorem dX3_addDead_29 : decode cX3_addDead 29 = .ok (.aload_n 0, 1) := by decide +kernel
theorem dX3_addDead_30 : decode cX3_addDead 30 = .ok (.getfield 15, 3) := by decide +kernel
theorem dX3_addDead_33 : decode cX3_addDead 33 = .ok (.iload 4, 2) := by decide +kernel
theorem dX3_addDead_35 : decode cX3_addDead 35 = .ok (.iload_n 2, 1) := by decide +kernel
theorem dX3_addDead_36 : decode cX3_addDead 36 = .ok (.iastore, 1) := by decide +kernel
theorem dX3_addDead_37 : decode cX3_addDead 37 = .ok (.aload_n 0, 1) := by decide +kernel
theorem dX3_addDead_38 : decode cX3_addDead 38 = .ok (.getfield 18, 3) := by decide +kernel
theorem dX3_addDead_41 : decode cX3_addDead 41 = .ok (.iload 4, 2) := by decide +kernel
theorem dX3_addDead_43 : decode cX3_addDead 43 = .ok (.iload_n 3, 1) := by decide +kernel
theorem dX3_addDead_44 : decode cX3_addDead 44 = .ok (.iastore, 1) := by decide +kernel
theorem dX3_addDead_45 : decode cX3_addDead 45 = .ok (.aload_n 0, 1) := by decide +kernel
theorem dX3_addDead_46 : decode cX3_addDead 46 = .ok (.dup, 1) := by decide +kernel
theorem dX3_addDead_47 : decode cX3_addDead 47 = .ok (.getfield 40, 3) := by decide +kernel
theorem dX3_addDead_50 : decode cX3_addDead 50 = .ok (.iconst 1, 1) := by decide +kernel
theorem dX3_addDead_51 : decode cX3_addDead 51 = .ok (.iadd, 1) := by decide +kernel
theorem dX3_addDead_52 : decode cX3_addDead 52 = .ok (.putfield 40, 3) := by decide +kernel
theorem dX3_addDead_55 : decode cX3_addDead 55 = .ok (.aload_n 0, 1) := by decide +kernel
theorem dX3_addDead_56 : decode cX3_addDead 56 = .ok (.iload 4, 2) := by decide +kernel
theorem dX3_addDead_58 : decode cX3_addDead 58 = .ok (.invokevirtual 63, 3) := by decide +kernel
theorem dX3_addDead_61 : decode cX3_addDead 61 = .ok (.ireturn, 1) := by decide +kernel
theorem dX3_digAllAnew_0 : decode cX3_digAllAnew 0 = .ok (.aload_n 0, 1) := by decide +kernel
theorem dX3_digAllAnew_1 : decode cX3_digAllAnew 1 = .ok (.invokevirtual 46, 3) := by decide +kernel
theorem dX3_digAllAnew_4 : decode cX3_digAllAnew 4 = .ok (.iconst 0, 1) := by decide +kernel
theorem dX3_digAllAnew_5 : decode cX3_digAllAnew 5 = .ok (.istore_n 1, 1) := by decide +kernel
theorem dX3_digAllAnew_6 : decode cX3_digAllAnew 6 = .ok (.iload_n 1, 1) := by decide +kernel
theorem dX3_digAllAnew_7 : decode cX3_digAllAnew 7 = .ok (.aload_n 0, 1) := by decide +kernel
theorem dX3_digAllAnew_8 : decode cX3_digAllAnew 8 = .ok (.getfield 40, 3) := by decide +kernel
theorem dX3_digAllAnew_11 : decode cX3_digAllAnew 11 = .ok (.if_icmp .ge 15, 3) := by decide +kernel
theorem dX3_digAllAnew_14 : decode cX3_digAllAnew 14 = .ok (.aload_n 0, 1) := by decide +kernel
theorem dX3_digAllAnew_15 : decode cX3_digAllAnew 15 = .ok (.iload_n 1, 1) := by decide +kernel
theorem dX3_digAllAnew_16 : decode cX3_digAllAnew 16 = .ok (.invokevirtual 63, 3) := by decide +kernel
theorem dX3_digAllAnew_19 : decode cX3_digAllAnew 19 = .ok (.pop, 1) := by decide +kernel
theorem dX3_digAllAnew_20 : decode cX3_digAllAnew 20 = .ok (.iinc 1 1, 3) := by decide +kernel
theorem dX3_digAllAnew_23 : decode cX3_digAllAnew 23 = .ok (.goto (-17), 3) := by decide +kernel
theorem dX3_digAllAnew_26 : decode cX3_digAllAnew 26 = .ok (.return_, 1) := by decide +kernel
theorem dX3_swap_0 : decode cX3_swap 0 = .ok (.aload_n 0, 1) := by decide +kernel
theorem dX3_swap_1 : decode cX3_swap 1 = .ok (.iload_n 1, 1) := by decide +kernel
theorem dX3_swap_2 : decode cX3_swap 2 = .ok (.iload_n 2, 1) := by decide +kernel
theorem dX3_swap_3 : decode cX3_swap 3 = .ok (.invokevirtual 60, 3) := by decide +kernel
theorem dX3_swap_6 : decode cX3_swap 6 = .ok (.istore 4, 2) := by decide +kernel
theorem dX3_swap_8 : decode cX3_swap 8 = .ok (.aload_n 0, 1) := by decide +kernel
theorem dX3_swap_9 : decode cX3_swap 9 = .ok (.iload_n 1, 1) := by decide +kernel
theorem dX3_swap_10 : decode cX3_swap 10 = .ok (.iload_n 2, 1) := by decide +kernel
theorem dX3_swap_11 : decode cX3_swap 11 = .ok (.aload_n 0, 1) := by decide +kernel
theorem dX3_swap_12 : decode cX3_swap 12 = .ok (.iload_n 1, 1) := by decide +kernel
theorem dX3_swap_13 : decode cX3_swap 13 = .ok (.iload_n 3, 1) := by decide +kernel
theorem dX3_swap_14 : decode cX3_swap 14 = .ok (.invokevirtual 60, 3) := by decide +kernel
theorem dX3_swap_17 : decode cX3_swap 17 = .ok (.invokevirtual 67, 3) := by decide +kernel
theorem dX3_swap_20 : decode cX3_swap 20 = .ok (.aload_n 0, 1) := by decide +kernel
theorem dX3_swap_21 : decode cX3_swap 21 = .ok (.iload_n 1, 1) := by decide +kernel
theorem dX3_swap_22 : decode cX3_swap 22 = .ok (.iload_n 3, 1) := by decide +kernel
theorem dX3_swap_23 : decode cX3_swap 23 = .ok (.iload 4, 2) := by decide +kernel
theorem dX3_swap_25 : decode cX3_swap 25 = .ok (.invokevirtual 67, 3) := by decide +kernel
theorem dX3_swap_28 : decode cX3_swap 28 = .ok (.return_, 1) := by decide +kernel
theorem dX3_freePlot_0 : decode cX3_freePlot 0 = .ok (.iload_n 2, 1) := by decide +kernel
theorem dX3_freePlot_1 : decode cX3_freePlot 1 = .ok (.iconst 2, 1) := by decide +kernel
theorem dX3_freePlot_2 : decode cX3_freePlot 2 = .ok (.if_icmp .ne 7, 3) := by decide +kernel
theorem dX3_freePlot_5 : decode cX3_freePlot 5 = .ok (.iconst 0, 1) := by decide +kernel
theorem dX3_freePlot_6 : decode cX3_freePlot 6 = .ok (.goto 15, 3) := by decide +kernel
theorem dX3_freePlot_9 : decode cX3_freePlot 9 = .ok (.bipush 9, 2) := by decide +kernel
theorem dX3_freePlot_11 : decode cX3_freePlot 11 = .ok (.iload_n 3, 1) := by decide +kernel
theorem dX3_freePlot_12 : decode cX3_freePlot 12 = .ok (.isub, 1) := by decide +kernel
theorem dX3_freePlot_13 : decode cX3_freePlot 13 = .ok (.aload_n 0, 1) := by decide +kernel
theorem dX3_freePlot_14 : decode cX3_freePlot 14 = .ok (.getfield 33, 3) := by decide +kernel
theorem dX3_freePlot_17 : decode cX3_freePlot 17 = .ok (.imul, 1) := by decide +kernel
theorem dX3_freePlot_18 : decode cX3_freePlot 18 = .ok (.bipush 10, 2) := by decide +kernel
theorem dX3_freePlot_20 : decode cX3_freePlot 20 = .ok (.idiv, 1) := by decide +kernel
theorem dX3_freePlot_21 : decode cX3_freePlot 21 = .ok (.istore 4, 2) := by decide +kernel
theorem dX3_freePlot_23 : decode cX3_freePlot 23 = .ok (.iload_n 2, 1) := by decide +kernel
theorem dX3_freePlot_24 : decode cX3_freePlot 24 = .ok (.iconst 1, 1) := by decide +kernel
theorem dX3_freePlot_25 : decode cX3_freePlot 25 = .ok (.if_icmp .ne 7, 3) := by decide +kernel
theorem dX3_freePlot_28 : decode cX3_freePlot 28 = .ok (.iconst (-1), 1) := by decide +kernel
theorem dX3_freePlot_29 : decode cX3_freePlot 29 = .ok (.goto 4, 3) := by decide +kernel
theorem dX3_freePlot_32 : decode cX3_freePlot 32 = .ok (.iconst 1, 1) := by decide +kernel
theorem dX3_freePlot_33 : decode cX3_freePlot 33 = .ok (.istore 5, 2) := by decide +kernel
theorem dX3_freePlot_35 : decode cX3_freePlot 35 = .ok (.iconst 0, 1) := by decide +kernel
theorem dX3_freePlot_36 : decode cX3_freePlot 36 = .ok (.istore 6, 2) := by decide +kernel
theorem dX3_freePlot_38 : decode cX3_freePlot 38 = .ok (.iload 6, 2) := by decide +kernel
theorem dX3_freePlot_40 : decode cX3_freePlot 40 = .ok (.aload_n 0, 1) := by decide +kernel
theorem dX3_freePlot_41 : decode cX3_freePlot 41 = .ok (.getfield 33, 3) := by decide +kernel
theorem dX3_freePlot_44 : decode cX3_freePlot 44 = .ok (.if_icmp .ge 59, 3) := by decide +kernel
theorem dX3_freePlot_47 : decode cX3_freePlot 47 = .ok (.aload_n 0, 1) := by decide +kernel
theorem dX3_freePlot_48 : decode cX3_freePlot 48 = .ok (.iload_n 1, 1) := by decide +kernel
theorem dX3_freePlot_49 : decode cX3_freePlot 49 = .ok (.iload 4, 2) := by decide +kernel
theorem dX3_freePlot_51 : decode cX3_freePlot 51 = .ok (.invokevirtual 60, 3) := by decide +kernel
theorem dX3_freePlot_54 : decode cX3_freePlot 54 = .ok (.bipush (-4), 2) := by decide +kernel
theorem dX3_freePlot_56 : decode cX3_freePlot 56 = .ok (.if_icmp .ne 6, 3) := by decide +kernel
theorem dX3_freePlot_59 : decode cX3_freePlot 59 = .ok (.iload 4, 2) := by decide +kernel
theorem dX3_freePlot_61 : decode cX3_freePlot 61 = .ok (.ireturn, 1) := by decide +kernel
theorem dX3_freePlot_62 : decode cX3_freePlot 62 = .ok (.iload 4, 2) := by decide +kernel
theorem dX3_freePlot_64 : decode cX3_freePlot 64 = .ok (.iload 5, 2) := by decide +kernel
theorem dX3_freePlot_66 : decode cX3_freePlot 66 = .ok (.iadd, 1) := by decide +kernel
theorem dX3_freePlot_67 : decode cX3_freePlot 67 = .ok (.istore 4, 2) := by decide +kernel
theorem dX3_freePlot_69 : decode cX3_freePlot 69 = .ok (.iload 4, 2) := by decide +kernel
theorem dX3_freePlot_71 : decode cX3_freePlot 71 = .ok (.aload_n 0, 1) := by decide +kernel
theorem dX3_freePlot_72 : decode cX3_freePlot 72 = .ok (.getfield 33, 3) := by decide +kernel
theorem dX3_freePlot_75 : decode cX3_freePlot 75 = .ok (.if_icmp .lt 9, 3) := by decide +kernel
theorem dX3_freePlot_78 : decode cX3_freePlot 78 = .ok (.iconst 0, 1) := by decide +kernel
theorem dX3_freePlot_79 : decode cX3_freePlot 79 = .ok (.istore 4, 2) := by decide +kernel
theorem dX3_freePlot_81 : decode cX3_freePlot 81 = .ok (.goto 16, 3) := by decide +kernel
theorem dX3_freePlot_84 : decode cX3_freePlot 84 = .ok (.iload 4, 2) := by decide +kernel
theorem dX3_freePlot_86 : decode cX3_freePlot 86 = .ok (.ifCond .ge 11, 3) := by decide +kernel
theorem dX3_freePlot_89 : decode cX3_freePlot 89 = .ok (.aload_n 0, 1) := by decide +kernel
theorem dX3_freePlot_90 : decode cX3_freePlot 90 = .ok (.getfield 33, 3) := by decide +kernel
theorem dX3_freePlot_93 : decode cX3_freePlot 93 = .ok (.iconst 1, 1) := by decide +kernel
theorem dX3_freePlot_94 : decode cX3_freePlot 94 = .ok (.isub, 1) := by decide +kernel
theorem dX3_freePlot_95 : decode cX3_freePlot 95 = .ok (.istore 4, 2) := by decide +kernel
theorem dX3_freePlot_97 : decode cX3_freePlot 97 = .ok (.iinc 6 1, 3) := by decide +kernel
theorem dX3_freePlot_100 : decode cX3_freePlot 100 = .ok (.goto (-62), 3) := by decide +kernel
theorem dX3_freePlot_103 : decode cX3_freePlot 103 = .ok (.bipush (-4), 2) := by decide +kernel
theorem dX3_freePlot_105 : decode cX3_freePlot 105 = .ok (.ireturn, 1) := by decide +kernel
theorem dX3_owedOf_0 : decode cX3_owedOf 0 = .ok (.aload_n 0, 1) := by decide +kernel
theorem dX3_owedOf_1 : decode cX3_owedOf 1 = .ok (.iload_n 1, 1) := by decide +kernel
theorem dX3_owedOf_2 : decode cX3_owedOf 2 = .ok (.invokevirtual 71, 3) := by decide +kernel
theorem dX3_owedOf_5 : decode cX3_owedOf 5 = .ok (.aload_n 0, 1) := by decide +kernel
theorem dX3_owedOf_6 : decode cX3_owedOf 6 = .ok (.invokevirtual 74, 3) := by decide +kernel
theorem dX3_owedOf_9 : decode cX3_owedOf 9 = .ok (.iconst (-1), 1) := by decide +kernel
theorem dX3_owedOf_10 : decode cX3_owedOf 10 = .ok (.ixor, 1) := by decide +kernel
theorem dX3_owedOf_11 : decode cX3_owedOf 11 = .ok (.iand, 1) := by decide +kernel
theorem dX3_owedOf_12 : decode cX3_owedOf 12 = .ok (.invokestatic 78, 3) := by decide +kernel
theorem dX3_owedOf_15 : decode cX3_owedOf 15 = .ok (.ireturn, 1) := by decide +kernel
theorem dX3_forgivenOfAllWhoLie_0 : decode cX3_forgivenOfAllWhoLie 0 = .ok (.iconst 0, 1) := by decide +kernel
theorem dX3_forgivenOfAllWhoLie_1 : decode cX3_forgivenOfAllWhoLie 1 = .ok (.istore_n 2, 1) := by decide +kernel
theorem dX3_forgivenOfAllWhoLie_2 : decode cX3_forgivenOfAllWhoLie 2 = .ok (.iconst 0, 1) := by decide +kernel
theorem dX3_forgivenOfAllWhoLie_3 : decode cX3_forgivenOfAllWhoLie 3 = .ok (.istore_n 3, 1) := by decide +kernel
theorem dX3_forgivenOfAllWhoLie_4 : decode cX3_forgivenOfAllWhoLie 4 = .ok (.iload_n 3, 1) := by decide +kernel
theorem dX3_forgivenOfAllWhoLie_5 : decode cX3_forgivenOfAllWhoLie 5 = .ok (.aload_n 0, 1) := by decide +kernel
theorem dX3_forgivenOfAllWhoLie_6 : decode cX3_forgivenOfAllWhoLie 6 = .ok (.getfield 40, 3) := by decide +kernel
theorem dX3_forgivenOfAllWhoLie_9 : decode cX3_forgivenOfAllWhoLie 9 = .ok (.if_icmp .ge 36, 3) := by decide +kernel
theorem dX3_forgivenOfAllWhoLie_12 : decode cX3_forgivenOfAllWhoLie 12 = .ok (.aload_n 0, 1) := by decide +kernel
theorem dX3_forgivenOfAllWhoLie_13 : decode cX3_forgivenOfAllWhoLie 13 = .ok (.iload_n 3, 1) := by decide +kernel
theorem dX3_forgivenOfAllWhoLie_14 : decode cX3_forgivenOfAllWhoLie 14 = .ok (.invokevirtual 83, 3) := by decide +kernel
theorem dX3_forgivenOfAllWhoLie_17 : decode cX3_forgivenOfAllWhoLie 17 = .ok (.iload_n 1, 1) := by decide +kernel
theorem dX3_forgivenOfAllWhoLie_18 : decode cX3_forgivenOfAllWhoLie 18 = .ok (.if_icmp .ne 21, 3) := by decide +kernel
theorem dX3_forgivenOfAllWhoLie_21 : decode cX3_forgivenOfAllWhoLie 21 = .ok (.aload_n 0, 1) := by decide +kernel
theorem dX3_forgivenOfAllWhoLie_22 : decode cX3_forgivenOfAllWhoLie 22 = .ok (.iload_n 3, 1) := by decide +kernel
theorem dX3_forgivenOfAllWhoLie_23 : decode cX3_forgivenOfAllWhoLie 23 = .ok (.invokevirtual 86, 3) := by decide +kernel
theorem dX3_forgivenOfAllWhoLie_26 : decode cX3_forgivenOfAllWhoLie 26 = .ok (.bipush (-4), 2) := by decide +kernel
theorem dX3_forgivenOfAllWhoLie_28 : decode cX3_forgivenOfAllWhoLie 28 = .ok (.if_icmp .eq 11, 3) := by decide +kernel
theorem dX3_forgivenOfAllWhoLie_31 : decode cX3_forgivenOfAllWhoLie 31 = .ok (.iload_n 2, 1) := by decide +kernel
theorem dX3_forgivenOfAllWhoLie_32 : decode cX3_forgivenOfAllWhoLie 32 = .ok (.aload_n 0, 1) := by decide +kernel
theorem dX3_forgivenOfAllWhoLie_33 : decode cX3_forgivenOfAllWhoLie 33 = .ok (.iload_n 3, 1) := by decide +kernel
theorem dX3_forgivenOfAllWhoLie_34 : decode cX3_forgivenOfAllWhoLie 34 = .ok (.invokevirtual 89, 3) := by decide +kernel
theorem dX3_forgivenOfAllWhoLie_37 : decode cX3_forgivenOfAllWhoLie 37 = .ok (.iadd, 1) := by decide +kernel
theorem dX3_forgivenOfAllWhoLie_38 : decode cX3_forgivenOfAllWhoLie 38 = .ok (.istore_n 2, 1) := by decide +kernel
theorem dX3_forgivenOfAllWhoLie_39 : decode cX3_forgivenOfAllWhoLie 39 = .ok (.iinc 3 1, 3) := by decide +kernel
theorem dX3_forgivenOfAllWhoLie_42 : decode cX3_forgivenOfAllWhoLie 42 = .ok (.goto (-38), 3) := by decide +kernel
theorem dX3_forgivenOfAllWhoLie_45 : decode cX3_forgivenOfAllWhoLie 45 = .ok (.iload_n 2, 1) := by decide +kernel
theorem dX3_forgivenOfAllWhoLie_46 : decode cX3_forgivenOfAllWhoLie 46 = .ok (.ireturn, 1) := by decide +kernel
theorem dX3_allWhoLie_0 : decode cX3_allWhoLie 0 = .ok (.iconst 0, 1) := by decide +kernel
theorem dX3_allWhoLie_1 : decode cX3_allWhoLie 1 = .ok (.istore_n 1, 1) := by decide +kernel
theorem dX3_allWhoLie_2 : decode cX3_allWhoLie 2 = .ok (.iconst 0, 1) := by decide +kernel
theorem dX3_allWhoLie_3 : decode cX3_allWhoLie 3 = .ok (.istore_n 2, 1) := by decide +kernel
theorem dX3_allWhoLie_4 : decode cX3_allWhoLie 4 = .ok (.iload_n 2, 1) := by decide +kernel
theorem dX3_allWhoLie_5 : decode cX3_allWhoLie 5 = .ok (.aload_n 0, 1) := by decide +kernel
theorem dX3_allWhoLie_6 : decode cX3_allWhoLie 6 = .ok (.getfield 40, 3) := by decide +kernel
theorem dX3_allWhoLie_9 : decode cX3_allWhoLie 9 = .ok (.if_icmp .ge 25, 3) := by decide +kernel
theorem dX3_allWhoLie_12 : decode cX3_allWhoLie 12 = .ok (.aload_n 0, 1) := by decide +kernel
theorem dX3_allWhoLie_13 : decode cX3_allWhoLie 13 = .ok (.iload_n 2, 1) := by decide +kernel
theorem dX3_allWhoLie_14 : decode cX3_allWhoLie 14 = .ok (.invokevirtual 86, 3) := by decide +kernel
theorem dX3_allWhoLie_17 : decode cX3_allWhoLie 17 = .ok (.bipush (-4), 2) := by decide +kernel
theorem dX3_allWhoLie_19 : decode cX3_allWhoLie 19 = .ok (.if_icmp .eq 9, 3) := by decide +kernel
theorem dX3_allWhoLie_22 : decode cX3_allWhoLie 22 = .ok (.iload_n 1, 1) := by decide +kernel
theorem dX3_allWhoLie_23 : decode cX3_allWhoLie 23 = .ok (.iconst 1, 1) := by decide +kernel
theorem dX3_allWhoLie_24 : decode cX3_allWhoLie 24 = .ok (.iload_n 2, 1) := by decide +kernel
theorem dX3_allWhoLie_25 : decode cX3_allWhoLie 25 = .ok (.ishl, 1) := by decide +kernel
theorem dX3_allWhoLie_26 : decode cX3_allWhoLie 26 = .ok (.ior, 1) := by decide +kernel
theorem dX3_allWhoLie_27 : decode cX3_allWhoLie 27 = .ok (.istore_n 1, 1) := by decide +kernel
theorem dX3_allWhoLie_28 : decode cX3_allWhoLie 28 = .ok (.iinc 2 1, 3) := by decide +kernel
theorem dX3_allWhoLie_31 : decode cX3_allWhoLie 31 = .ok (.goto (-27), 3) := by decide +kernel
theorem dX3_allWhoLie_34 : decode cX3_allWhoLie 34 = .ok (.iload_n 1, 1) := by decide +kernel
theorem dX3_allWhoLie_35 : decode cX3_allWhoLie 35 = .ok (.ireturn, 1) := by decide +kernel
theorem dX3_allOfVillage_0 : decode cX3_allOfVillage 0 = .ok (.iconst 0, 1) := by decide +kernel
theorem dX3_allOfVillage_1 : decode cX3_allOfVillage 1 = .ok (.istore_n 2, 1) := by decide +kernel
theorem dX3_allOfVillage_2 : decode cX3_allOfVillage 2 = .ok (.iconst 0, 1) := by decide +kernel
theorem dX3_allOfVillage_3 : decode cX3_allOfVillage 3 = .ok (.istore_n 3, 1) := by decide +kernel
theorem dX3_allOfVillage_4 : decode cX3_allOfVillage 4 = .ok (.iload_n 3, 1) := by decide +kernel
theorem dX3_allOfVillage_5 : decode cX3_allOfVillage 5 = .ok (.aload_n 0, 1) := by decide +kernel
theorem dX3_allOfVillage_6 : decode cX3_allOfVillage 6 = .ok (.getfield 40, 3) := by decide +kernel
theorem dX3_allOfVillage_9 : decode cX3_allOfVillage 9 = .ok (.if_icmp .ge 24, 3) := by decide +kernel
theorem dX3_allOfVillage_12 : decode cX3_allOfVillage 12 = .ok (.aload_n 0, 1) := by decide +kernel
theorem dX3_allOfVillage_13 : decode cX3_allOfVillage 13 = .ok (.iload_n 3, 1) := by decide +kernel
theorem dX3_allOfVillage_14 : decode cX3_allOfVillage 14 = .ok (.invokevirtual 83, 3) := by decide +kernel
theorem dX3_allOfVillage_17 : decode cX3_allOfVillage 17 = .ok (.iload_n 1, 1) := by decide +kernel
theorem dX3_allOfVillage_18 : decode cX3_allOfVillage 18 = .ok (.if_icmp .ne 9, 3) := by decide +kernel
theorem dX3_allOfVillage_21 : decode cX3_allOfVillage 21 = .ok (.iload_n 2, 1) := by decide +kernel
theorem dX3_allOfVillage_22 : decode cX3_allOfVillage 22 = .ok (.iconst 1, 1) := by decide +kernel
theorem dX3_allOfVillage_23 : decode cX3_allOfVillage 23 = .ok (.iload_n 3, 1) := by decide +kernel
theorem dX3_allOfVillage_24 : decode cX3_allOfVillage 24 = .ok (.ishl, 1) := by decide +kernel
theorem dX3_allOfVillage_25 : decode cX3_allOfVillage 25 = .ok (.ior, 1) := by decide +kernel
theorem dX3_allOfVillage_26 : decode cX3_allOfVillage 26 = .ok (.istore_n 2, 1) := by decide +kernel
theorem dX3_allOfVillage_27 : decode cX3_allOfVillage 27 = .ok (.iinc 3 1, 3) := by decide +kernel
theorem dX3_allOfVillage_30 : decode cX3_allOfVillage 30 = .ok (.goto (-26), 3) := by decide +kernel
theorem dX3_allOfVillage_33 : decode cX3_allOfVillage 33 = .ok (.iload_n 2, 1) := by decide +kernel
theorem dX3_allOfVillage_34 : decode cX3_allOfVillage 34 = .ok (.ireturn, 1) := by decide +kernel
theorem dX3_doubles_0 : decode cX3_doubles 0 = .ok (.iconst 0, 1) := by decide +kernel
theorem dX3_doubles_1 : decode cX3_doubles 1 = .ok (.istore_n 1, 1) := by decide +kernel
theorem dX3_doubles_2 : decode cX3_doubles 2 = .ok (.iconst 0, 1) := by decide +kernel
theorem dX3_doubles_3 : decode cX3_doubles 3 = .ok (.istore_n 2, 1) := by decide +kernel
theorem dX3_doubles_4 : decode cX3_doubles 4 = .ok (.iload_n 2, 1) := by decide +kernel
theorem dX3_doubles_5 : decode cX3_doubles 5 = .ok (.aload_n 0, 1) := by decide +kernel
theorem dX3_doubles_6 : decode cX3_doubles 6 = .ok (.getfield 40, 3) := by decide +kernel
theorem dX3_doubles_9 : decode cX3_doubles 9 = .ok (.if_icmp .ge 22, 3) := by decide +kernel
theorem dX3_doubles_12 : decode cX3_doubles 12 = .ok (.aload_n 0, 1) := by decide +kernel
theorem dX3_doubles_13 : decode cX3_doubles 13 = .ok (.iload_n 2, 1) := by decide +kernel
theorem dX3_doubles_14 : decode cX3_doubles 14 = .ok (.invokevirtual 92, 3) := by decide +kernel
theorem dX3_doubles_17 : decode cX3_doubles 17 = .ok (.bipush (-4), 2) := by decide +kernel
theorem dX3_doubles_19 : decode cX3_doubles 19 = .ok (.if_icmp .eq 6, 3) := by decide +kernel
theorem dX3_doubles_22 : decode cX3_doubles 22 = .ok (.iinc 1 1, 3) := by decide +kernel
theorem dX3_doubles_25 : decode cX3_doubles 25 = .ok (.iinc 2 1, 3) := by decide +kernel
theorem dX3_doubles_28 : decode cX3_doubles 28 = .ok (.goto (-24), 3) := by decide +kernel
theorem dX3_doubles_31 : decode cX3_doubles 31 = .ok (.iload_n 1, 1) := by decide +kernel
theorem dX3_doubles_32 : decode cX3_doubles 32 = .ok (.ireturn, 1) := by decide +kernel
theorem dX3_fewestChanges_0 : decode cX3_fewestChanges 0 = .ok (.aload_n 0, 1) := by decide +kernel
theorem dX3_fewestChanges_1 : decode cX3_fewestChanges 1 = .ok (.iload_n 1, 1) := by decide +kernel
theorem dX3_fewestChanges_2 : decode cX3_fewestChanges 2 = .ok (.aload_n 2, 1) := by decide +kernel
theorem dX3_fewestChanges_3 : decode cX3_fewestChanges 3 = .ok (.invokevirtual 95, 3) := by decide +kernel
theorem dX3_fewestChanges_6 : decode cX3_fewestChanges 6 = .ok (.ifCond .ne 6, 3) := by decide +kernel
theorem dX3_fewestChanges_9 : decode cX3_fewestChanges 9 = .ok (.bipush (-4), 2) := by decide +kernel
theorem dX3_fewestChanges_11 : decode cX3_fewestChanges 11 = .ok (.ireturn, 1) := by decide +kernel
theorem dX3_fewestChanges_12 : decode cX3_fewestChanges 12 = .ok (.iconst 0, 1) := by decide +kernel
theorem dX3_fewestChanges_13 : decode cX3_fewestChanges 13 = .ok (.istore_n 3, 1) := by decide +kernel
theorem dX3_fewestChanges_14 : decode cX3_fewestChanges 14 = .ok (.iconst 0, 1) := by decide +kernel
theorem dX3_fewestChanges_15 : decode cX3_fewestChanges 15 = .ok (.istore 4, 2) := by decide +kernel
theorem dX3_fewestChanges_17 : decode cX3_fewestChanges 17 = .ok (.iload 4, 2) := by decide +kernel
theorem dX3_fewestChanges_19 : decode cX3_fewestChanges 19 = .ok (.aload_n 0, 1) := by decide +kernel
theorem dX3_fewestChanges_20 : decode cX3_fewestChanges 20 = .ok (.getfield 33, 3) := by decide +kernel
theorem dX3_fewestChanges_23 : decode cX3_fewestChanges 23 = .ok (.if_icmp .ge 47, 3) := by decide +kernel
theorem dX3_fewestChanges_26 : decode cX3_fewestChanges 26 = .ok (.aload_n 0, 1) := by decide +kernel
theorem dX3_fewestChanges_27 : decode cX3_fewestChanges 27 = .ok (.iload_n 1, 1) := by decide +kernel
theorem dX3_fewestChanges_28 : decode cX3_fewestChanges 28 = .ok (.iload 4, 2) := by decide +kernel
theorem dX3_fewestChanges_30 : decode cX3_fewestChanges 30 = .ok (.aload_n 2, 1) := by decide +kernel
theorem dX3_fewestChanges_31 : decode cX3_fewestChanges 31 = .ok (.invokevirtual 99, 3) := by decide +kernel
theorem dX3_fewestChanges_34 : decode cX3_fewestChanges 34 = .ok (.istore 5, 2) := by decide +kernel
theorem dX3_fewestChanges_36 : decode cX3_fewestChanges 36 = .ok (.iload 5, 2) := by decide +kernel
theorem dX3_fewestChanges_38 : decode cX3_fewestChanges 38 = .ok (.bipush (-4), 2) := by decide +kernel
theorem dX3_fewestChanges_40 : decode cX3_fewestChanges 40 = .ok (.if_icmp .eq 24, 3) := by decide +kernel
theorem dX3_fewestChanges_43 : decode cX3_fewestChanges 43 = .ok (.iload 5, 2) := by decide +kernel
theorem dX3_fewestChanges_45 : decode cX3_fewestChanges 45 = .ok (.iload 4, 2) := by decide +kernel
theorem dX3_fewestChanges_47 : decode cX3_fewestChanges 47 = .ok (.if_icmp .eq 17, 3) := by decide +kernel
theorem dX3_fewestChanges_50 : decode cX3_fewestChanges 50 = .ok (.aload_n 0, 1) := by decide +kernel
theorem dX3_fewestChanges_51 : decode cX3_fewestChanges 51 = .ok (.iload_n 1, 1) := by decide +kernel
theorem dX3_fewestChanges_52 : decode cX3_fewestChanges 52 = .ok (.iload 4, 2) := by decide +kernel
theorem dX3_fewestChanges_54 : decode cX3_fewestChanges 54 = .ok (.aload_n 2, 1) := by decide +kernel
theorem dX3_fewestChanges_55 : decode cX3_fewestChanges 55 = .ok (.invokevirtual 103, 3) := by decide +kernel
theorem dX3_fewestChanges_58 : decode cX3_fewestChanges 58 = .ok (.ifCond .ne 6, 3) := by decide +kernel
theorem dX3_fewestChanges_61 : decode cX3_fewestChanges 61 = .ok (.iinc 3 1, 3) := by decide +kernel
theorem dX3_fewestChanges_64 : decode cX3_fewestChanges 64 = .ok (.iinc 4 1, 3) := by decide +kernel
theorem dX3_fewestChanges_67 : decode cX3_fewestChanges 67 = .ok (.goto (-50), 3) := by decide +kernel
theorem dX3_fewestChanges_70 : decode cX3_fewestChanges 70 = .ok (.iload_n 3, 1) := by decide +kernel
theorem dX3_fewestChanges_71 : decode cX3_fewestChanges 71 = .ok (.ireturn, 1) := by decide +kernel
theorem dX3_sameLie_0 : decode cX3_sameLie 0 = .ok (.iconst 0, 1) := by decide +kernel
theorem dX3_sameLie_1 : decode cX3_sameLie 1 = .ok (.istore_n 3, 1) := by decide +kernel
theorem dX3_sameLie_2 : decode cX3_sameLie 2 = .ok (.iload_n 3, 1) := by decide +kernel
theorem dX3_sameLie_3 : decode cX3_sameLie 3 = .ok (.aload_n 0, 1) := by decide +kernel
theorem dX3_sameLie_4 : decode cX3_sameLie 4 = .ok (.getfield 33, 3) := by decide +kernel
theorem dX3_sameLie_7 : decode cX3_sameLie 7 = .ok (.if_icmp .ge 59, 3) := by decide +kernel
theorem dX3_sameLie_10 : decode cX3_sameLie 10 = .ok (.aload_n 0, 1) := by decide +kernel
theorem dX3_sameLie_11 : decode cX3_sameLie 11 = .ok (.iload_n 1, 1) := by decide +kernel
theorem dX3_sameLie_12 : decode cX3_sameLie 12 = .ok (.iload_n 3, 1) := by decide +kernel
theorem dX3_sameLie_13 : decode cX3_sameLie 13 = .ok (.invokevirtual 60, 3) := by decide +kernel
theorem dX3_sameLie_16 : decode cX3_sameLie 16 = .ok (.bipush (-4), 2) := by decide +kernel
theorem dX3_sameLie_18 : decode cX3_sameLie 18 = .ok (.if_icmp .eq 17, 3) := by decide +kernel
theorem dX3_sameLie_21 : decode cX3_sameLie 21 = .ok (.aload_n 0, 1) := by decide +kernel
theorem dX3_sameLie_22 : decode cX3_sameLie 22 = .ok (.iload_n 1, 1) := by decide +kernel
theorem dX3_sameLie_23 : decode cX3_sameLie 23 = .ok (.iload_n 3, 1) := by decide +kernel
theorem dX3_sameLie_24 : decode cX3_sameLie 24 = .ok (.aload_n 2, 1) := by decide +kernel
theorem dX3_sameLie_25 : decode cX3_sameLie 25 = .ok (.invokevirtual 99, 3) := by decide +kernel
theorem dX3_sameLie_28 : decode cX3_sameLie 28 = .ok (.bipush (-4), 2) := by decide +kernel
theorem dX3_sameLie_30 : decode cX3_sameLie 30 = .ok (.if_icmp .ne 5, 3) := by decide +kernel
theorem dX3_sameLie_33 : decode cX3_sameLie 33 = .ok (.iconst 0, 1) := by decide +kernel
theorem dX3_sameLie_34 : decode cX3_sameLie 34 = .ok (.ireturn, 1) := by decide +kernel
theorem dX3_sameLie_35 : decode cX3_sameLie 35 = .ok (.aload_n 2, 1) := by decide +kernel
theorem dX3_sameLie_36 : decode cX3_sameLie 36 = .ok (.iload_n 1, 1) := by decide +kernel
theorem dX3_sameLie_37 : decode cX3_sameLie 37 = .ok (.iload_n 3, 1) := by decide +kernel
theorem dX3_sameLie_38 : decode cX3_sameLie 38 = .ok (.invokevirtual 60, 3) := by decide +kernel
theorem dX3_sameLie_41 : decode cX3_sameLie 41 = .ok (.bipush (-4), 2) := by decide +kernel
theorem dX3_sameLie_43 : decode cX3_sameLie 43 = .ok (.if_icmp .eq 17, 3) := by decide +kernel
theorem dX3_sameLie_46 : decode cX3_sameLie 46 = .ok (.aload_n 2, 1) := by decide +kernel
theorem dX3_sameLie_47 : decode cX3_sameLie 47 = .ok (.iload_n 1, 1) := by decide +kernel
theorem dX3_sameLie_48 : decode cX3_sameLie 48 = .ok (.iload_n 3, 1) := by decide +kernel
theorem dX3_sameLie_49 : decode cX3_sameLie 49 = .ok (.aload_n 0, 1) := by decide +kernel
theorem dX3_sameLie_50 : decode cX3_sameLie 50 = .ok (.invokevirtual 99, 3) := by decide +kernel
theorem dX3_sameLie_53 : decode cX3_sameLie 53 = .ok (.bipush (-4), 2) := by decide +kernel
theorem dX3_sameLie_55 : decode cX3_sameLie 55 = .ok (.if_icmp .ne 5, 3) := by decide +kernel
theorem dX3_sameLie_58 : decode cX3_sameLie 58 = .ok (.iconst 0, 1) := by decide +kernel
theorem dX3_sameLie_59 : decode cX3_sameLie 59 = .ok (.ireturn, 1) := by decide +kernel
theorem dX3_sameLie_60 : decode cX3_sameLie 60 = .ok (.iinc 3 1, 3) := by decide +kernel
theorem dX3_sameLie_63 : decode cX3_sameLie 63 = .ok (.goto (-61), 3) := by decide +kernel
theorem dX3_sameLie_66 : decode cX3_sameLie 66 = .ok (.iconst 1, 1) := by decide +kernel
theorem dX3_sameLie_67 : decode cX3_sameLie 67 = .ok (.ireturn, 1) := by decide +kernel
theorem dX3_goalOf_0 : decode cX3_goalOf 0 = .ok (.aload_n 0, 1) := by decide +kernel
theorem dX3_goalOf_1 : decode cX3_goalOf 1 = .ok (.iload_n 1, 1) := by decide +kernel
theorem dX3_goalOf_2 : decode cX3_goalOf 2 = .ok (.iload_n 2, 1) := by decide +kernel
theorem dX3_goalOf_3 : decode cX3_goalOf 3 = .ok (.invokevirtual 60, 3) := by decide +kernel
theorem dX3_goalOf_6 : decode cX3_goalOf 6 = .ok (.istore 4, 2) := by decide +kernel
theorem dX3_goalOf_8 : decode cX3_goalOf 8 = .ok (.iload 4, 2) := by decide +kernel
theorem dX3_goalOf_10 : decode cX3_goalOf 10 = .ok (.bipush (-4), 2) := by decide +kernel
theorem dX3_goalOf_12 : decode cX3_goalOf 12 = .ok (.if_icmp .ne 8, 3) := by decide +kernel
theorem dX3_goalOf_15 : decode cX3_goalOf 15 = .ok (.bipush (-4), 2) := by decide +kernel
theorem dX3_goalOf_17 : decode cX3_goalOf 17 = .ok (.goto 10, 3) := by decide +kernel
theorem dX3_goalOf_20 : decode cX3_goalOf 20 = .ok (.aload_n 3, 1) := by decide +kernel
theorem dX3_goalOf_21 : decode cX3_goalOf 21 = .ok (.iload_n 1, 1) := by decide +kernel
theorem dX3_goalOf_22 : decode cX3_goalOf 22 = .ok (.iload 4, 2) := by decide +kernel
theorem dX3_goalOf_24 : decode cX3_goalOf 24 = .ok (.invokevirtual 56, 3) := by decide +kernel
theorem dX3_goalOf_27 : decode cX3_goalOf 27 = .ok (.ireturn, 1) := by decide +kernel
theorem dX3_isLowestOfRing_0 : decode cX3_isLowestOfRing 0 = .ok (.aload_n 0, 1) := by decide +kernel
theorem dX3_isLowestOfRing_1 : decode cX3_isLowestOfRing 1 = .ok (.iload_n 1, 1) := by decide +kernel
theorem dX3_isLowestOfRing_2 : decode cX3_isLowestOfRing 2 = .ok (.iload_n 2, 1) := by decide +kernel
theorem dX3_isLowestOfRing_3 : decode cX3_isLowestOfRing 3 = .ok (.aload_n 3, 1) := by decide +kernel
theorem dX3_isLowestOfRing_4 : decode cX3_isLowestOfRing 4 = .ok (.invokevirtual 99, 3) := by decide +kernel
theorem dX3_isLowestOfRing_7 : decode cX3_isLowestOfRing 7 = .ok (.istore 4, 2) := by decide +kernel
theorem dX3_isLowestOfRing_9 : decode cX3_isLowestOfRing 9 = .ok (.iconst 0, 1) := by decide +kernel
theorem dX3_isLowestOfRing_10 : decode cX3_isLowestOfRing 10 = .ok (.istore 5, 2) := by decide +kernel
theorem dX3_isLowestOfRing_12 : decode cX3_isLowestOfRing 12 = .ok (.iload 5, 2) := by decide +kernel
theorem dX3_isLowestOfRing_14 : decode cX3_isLowestOfRing 14 = .ok (.aload_n 0, 1) := by decide +kernel
theorem dX3_isLowestOfRing_15 : decode cX3_isLowestOfRing 15 = .ok (.getfield 33, 3) := by decide +kernel
theorem dX3_isLowestOfRing_18 : decode cX3_isLowestOfRing 18 = .ok (.if_icmp .ge 25, 3) := by decide +kernel
theorem dX3_isLowestOfRing_21 : decode cX3_isLowestOfRing 21 = .ok (.iload 4, 2) := by decide +kernel
theorem dX3_isLowestOfRing_23 : decode cX3_isLowestOfRing 23 = .ok (.iload_n 2, 1) := by decide +kernel
theorem dX3_isLowestOfRing_24 : decode cX3_isLowestOfRing 24 = .ok (.if_icmp .le 19, 3) := by decide +kernel
theorem dX3_isLowestOfRing_27 : decode cX3_isLowestOfRing 27 = .ok (.aload_n 0, 1) := by decide +kernel
theorem dX3_isLowestOfRing_28 : decode cX3_isLowestOfRing 28 = .ok (.iload_n 1, 1) := by decide +kernel
theorem dX3_isLowestOfRing_29 : decode cX3_isLowestOfRing 29 = .ok (.iload 4, 2) := by decide +kernel
theorem dX3_isLowestOfRing_31 : decode cX3_isLowestOfRing 31 = .ok (.aload_n 3, 1) := by decide +kernel
theorem dX3_isLowestOfRing_32 : decode cX3_isLowestOfRing 32 = .ok (.invokevirtual 99, 3) := by decide +kernel
theorem dX3_isLowestOfRing_35 : decode cX3_isLowestOfRing 35 = .ok (.istore 4, 2) := by decide +kernel
theorem dX3_isLowestOfRing_37 : decode cX3_isLowestOfRing 37 = .ok (.iinc 5 1, 3) := by decide +kernel
theorem dX3_isLowestOfRing_40 : decode cX3_isLowestOfRing 40 = .ok (.goto (-28), 3) := by decide +kernel
theorem dX3_isLowestOfRing_43 : decode cX3_isLowestOfRing 43 = .ok (.iload 4, 2) := by decide +kernel
theorem dX3_isLowestOfRing_45 : decode cX3_isLowestOfRing 45 = .ok (.iload_n 2, 1) := by decide +kernel
theorem dX3_isLowestOfRing_46 : decode cX3_isLowestOfRing 46 = .ok (.if_icmp .ne 7, 3) := by decide +kernel
theorem dX3_isLowestOfRing_49 : decode cX3_isLowestOfRing 49 = .ok (.iconst 1, 1) := by decide +kernel
theorem dX3_isLowestOfRing_50 : decode cX3_isLowestOfRing 50 = .ok (.goto 4, 3) := by decide +kernel
theorem dX3_isLowestOfRing_53 : decode cX3_isLowestOfRing 53 = .ok (.iconst 0, 1) := by decide +kernel
theorem dX3_isLowestOfRing_54 : decode cX3_isLowestOfRing 54 = .ok (.ireturn, 1) := by decide +kernel
theorem dX3_dig_0 : decode cX3_dig 0 = .ok (.aload_n 0, 1) := by decide +kernel
theorem dX3_dig_1 : decode cX3_dig 1 = .ok (.iload_n 1, 1) := by decide +kernel
theorem dX3_dig_2 : decode cX3_dig 2 = .ok (.invokevirtual 83, 3) := by decide +kernel
theorem dX3_dig_5 : decode cX3_dig 5 = .ok (.istore_n 2, 1) := by decide +kernel
theorem dX3_dig_6 : decode cX3_dig 6 = .ok (.aload_n 0, 1) := by decide +kernel
theorem dX3_dig_7 : decode cX3_dig 7 = .ok (.iload_n 1, 1) := by decide +kernel
theorem dX3_dig_8 : decode cX3_dig 8 = .ok (.invokevirtual 107, 3) := by decide +kernel
theorem dX3_dig_11 : decode cX3_dig 11 = .ok (.istore_n 3, 1) := by decide +kernel
theorem dX3_dig_12 : decode cX3_dig 12 = .ok (.aload_n 0, 1) := by decide +kernel
theorem dX3_dig_13 : decode cX3_dig 13 = .ok (.iload_n 1, 1) := by decide +kernel
theorem dX3_dig_14 : decode cX3_dig 14 = .ok (.invokevirtual 89, 3) := by decide +kernel
theorem dX3_dig_17 : decode cX3_dig 17 = .ok (.istore 4, 2) := by decide +kernel
theorem dX3_dig_19 : decode cX3_dig 19 = .ok (.aload_n 0, 1) := by decide +kernel
theorem dX3_dig_20 : decode cX3_dig 20 = .ok (.iconst 1, 1) := by decide +kernel
theorem dX3_dig_21 : decode cX3_dig 21 = .ok (.iload_n 2, 1) := by decide +kernel
theorem dX3_dig_22 : decode cX3_dig 22 = .ok (.isub, 1) := by decide +kernel
theorem dX3_dig_23 : decode cX3_dig 23 = .ok (.iload_n 3, 1) := by decide +kernel
theorem dX3_dig_24 : decode cX3_dig 24 = .ok (.iload 4, 2) := by decide +kernel
theorem dX3_dig_26 : decode cX3_dig 26 = .ok (.invokevirtual 110, 3) := by decide +kernel
theorem dX3_dig_29 : decode cX3_dig 29 = .ok (.istore 5, 2) := by decide +kernel
theorem dX3_dig_31 : decode cX3_dig 31 = .ok (.aload_n 0, 1) := by decide +kernel
theorem dX3_dig_32 : decode cX3_dig 32 = .ok (.iconst 1, 1) := by decide +kernel
theorem dX3_dig_33 : decode cX3_dig 33 = .ok (.iload_n 2, 1) := by decide +kernel
theorem dX3_dig_34 : decode cX3_dig 34 = .ok (.isub, 1) := by decide +kernel
theorem dX3_dig_35 : decode cX3_dig 35 = .ok (.iload 5, 2) := by decide +kernel
theorem dX3_dig_37 : decode cX3_dig 37 = .ok (.iload_n 1, 1) := by decide +kernel
theorem dX3_dig_38 : decode cX3_dig 38 = .ok (.invokevirtual 67, 3) := by decide +kernel
theorem dX3_dig_41 : decode cX3_dig 41 = .ok (.iload 5, 2) := by decide +kernel
theorem dX3_dig_43 : decode cX3_dig 43 = .ok (.bipush (-4), 2) := by decide +kernel
theorem dX3_dig_45 : decode cX3_dig 45 = .ok (.if_icmp .eq 25, 3) := by decide +kernel
theorem dX3_dig_48 : decode cX3_dig 48 = .ok (.iload_n 3, 1) := by decide +kernel
theorem dX3_dig_49 : decode cX3_dig 49 = .ok (.iconst 3, 1) := by decide +kernel
theorem dX3_dig_50 : decode cX3_dig 50 = .ok (.if_icmp .ne 20, 3) := by decide +kernel
theorem dX3_dig_53 : decode cX3_dig 53 = .ok (.aload_n 0, 1) := by decide +kernel
theorem dX3_dig_54 : decode cX3_dig 54 = .ok (.iload_n 2, 1) := by decide +kernel
theorem dX3_dig_55 : decode cX3_dig 55 = .ok (.aload_n 0, 1) := by decide +kernel
theorem dX3_dig_56 : decode cX3_dig 56 = .ok (.iload_n 2, 1) := by decide +kernel
theorem dX3_dig_57 : decode cX3_dig 57 = .ok (.iload_n 3, 1) := by decide +kernel
theorem dX3_dig_58 : decode cX3_dig 58 = .ok (.iload 4, 2) := by decide +kernel
theorem dX3_dig_60 : decode cX3_dig 60 = .ok (.invokevirtual 110, 3) := by decide +kernel
theorem dX3_dig_63 : decode cX3_dig 63 = .ok (.iload_n 1, 1) := by decide +kernel
theorem dX3_dig_64 : decode cX3_dig 64 = .ok (.bipush 20, 2) := by decide +kernel
theorem dX3_dig_66 : decode cX3_dig 66 = .ok (.iadd, 1) := by decide +kernel
theorem dX3_dig_67 : decode cX3_dig 67 = .ok (.invokevirtual 67, 3) := by decide +kernel
theorem dX3_dig_70 : decode cX3_dig 70 = .ok (.iload 5, 2) := by decide +kernel
theorem dX3_dig_72 : decode cX3_dig 72 = .ok (.ireturn, 1) := by decide +kernel
theorem dX3_put_0 : decode cX3_put 0 = .ok (.iload_n 1, 1) := by decide +kernel
theorem dX3_put_1 : decode cX3_put 1 = .ok (.invokestatic 114, 3) := by decide +kernel
theorem dX3_put_4 : decode cX3_put 4 = .ok (.ifCond .eq 23, 3) := by decide +kernel
theorem dX3_put_7 : decode cX3_put 7 = .ok (.aload_n 0, 1) := by decide +kernel
theorem dX3_put_8 : decode cX3_put 8 = .ok (.iload_n 2, 1) := by decide +kernel
theorem dX3_put_9 : decode cX3_put 9 = .ok (.invokevirtual 117, 3) := by decide +kernel
theorem dX3_put_12 : decode cX3_put 12 = .ok (.ifCond .eq 15, 3) := by decide +kernel
theorem dX3_put_15 : decode cX3_put 15 = .ok (.aload_n 0, 1) := by decide +kernel
theorem dX3_put_16 : decode cX3_put 16 = .ok (.getfield 21, 3) := by decide +kernel
theorem dX3_put_19 : decode cX3_put 19 = .ok (.iload_n 1, 1) := by decide +kernel
theorem dX3_put_20 : decode cX3_put 20 = .ok (.bipush 8, 2) := by decide +kernel
theorem dX3_put_22 : decode cX3_put 22 = .ok (.imul, 1) := by decide +kernel
theorem dX3_put_23 : decode cX3_put 23 = .ok (.iload_n 2, 1) := by decide +kernel
theorem dX3_put_24 : decode cX3_put 24 = .ok (.iadd, 1) := by decide +kernel
theorem dX3_put_25 : decode cX3_put 25 = .ok (.iload_n 3, 1) := by decide +kernel
theorem dX3_put_26 : decode cX3_put 26 = .ok (.iastore, 1) := by decide +kernel
theorem dX3_put_27 : decode cX3_put 27 = .ok (.return_, 1) := by decide +kernel
theorem dX3_freeAll_0 : decode cX3_freeAll 0 = .ok (.iconst 0, 1) := by decide +kernel
theorem dX3_freeAll_1 : decode cX3_freeAll 1 = .ok (.istore_n 1, 1) := by decide +kernel
theorem dX3_freeAll_2 : decode cX3_freeAll 2 = .ok (.iload_n 1, 1) := by decide +kernel
theorem dX3_freeAll_3 : decode cX3_freeAll 3 = .ok (.bipush 16, 2) := by decide +kernel
theorem dX3_freeAll_5 : decode cX3_freeAll 5 = .ok (.if_icmp .ge 17, 3) := by decide +kernel
theorem dX3_freeAll_8 : decode cX3_freeAll 8 = .ok (.aload_n 0, 1) := by decide +kernel
theorem dX3_freeAll_9 : decode cX3_freeAll 9 = .ok (.getfield 21, 3) := by decide +kernel
theorem dX3_freeAll_12 : decode cX3_freeAll 12 = .ok (.iload_n 1, 1) := by decide +kernel
theorem dX3_freeAll_13 : decode cX3_freeAll 13 = .ok (.bipush (-4), 2) := by decide +kernel
theorem dX3_freeAll_15 : decode cX3_freeAll 15 = .ok (.iastore, 1) := by decide +kernel
theorem dX3_freeAll_16 : decode cX3_freeAll 16 = .ok (.iinc 1 1, 3) := by decide +kernel
theorem dX3_freeAll_19 : decode cX3_freeAll 19 = .ok (.goto (-17), 3) := by decide +kernel
theorem dX3_freeAll_22 : decode cX3_freeAll 22 = .ok (.return_, 1) := by decide +kernel
theorem dX4_init_0 : decode cX4_init 0 = .ok (.aload_n 0, 1) := by decide +kernel
theorem dX4_init_1 : decode cX4_init 1 = .ok (.invokespecial 1, 3) := by decide +kernel
theorem dX4_init_4 : decode cX4_init 4 = .ok (.aload_n 0, 1) := by decide +kernel
theorem dX4_init_5 : decode cX4_init 5 = .ok (.new 7, 3) := by decide +kernel
theorem dX4_init_8 : decode cX4_init 8 = .ok (.dup, 1) := by decide +kernel
theorem dX4_init_9 : decode cX4_init 9 = .ok (.invokespecial 9, 3) := by decide +kernel
theorem dX4_init_12 : decode cX4_init 12 = .ok (.putfield 10, 3) := by decide +kernel
theorem dX4_init_15 : decode cX4_init 15 = .ok (.aload_n 0, 1) := by decide +kernel
theorem dX4_init_16 : decode cX4_init 16 = .ok (.new 16, 3) := by decide +kernel
theorem dX4_init_19 : decode cX4_init 19 = .ok (.dup, 1) := by decide +kernel
theorem dX4_init_20 : decode cX4_init 20 = .ok (.invokespecial 18, 3) := by decide +kernel
theorem dX4_init_23 : decode cX4_init 23 = .ok (.putfield 19, 3) := by decide +kernel
theorem dX4_init_26 : decode cX4_init 26 = .ok (.aload_n 0, 1) := by decide +kernel
theorem dX4_init_27 : decode cX4_init 27 = .ok (.new 16, 3) := by decide +kernel
theorem dX4_init_30 : decode cX4_init 30 = .ok (.dup, 1) := by decide +kernel
theorem dX4_init_31 : decode cX4_init 31 = .ok (.invokespecial 18, 3) := by decide +kernel
theorem dX4_init_34 : decode cX4_init 34 = .ok (.putfield 23, 3) := by decide +kernel
theorem dX4_init_37 : decode cX4_init 37 = .ok (.aload_n 0, 1) := by decide +kernel
theorem dX4_init_38 : decode cX4_init 38 = .ok (.new 16, 3) := by decide +kernel
theorem dX4_init_41 : decode cX4_init 41 = .ok (.dup, 1) := by decide +kernel
theorem dX4_init_42 : decode cX4_init 42 = .ok (.invokespecial 18, 3) := by decide +kernel
theorem dX4_init_45 : decode cX4_init 45 = .ok (.putfield 26, 3) := by decide +kernel
theorem dX4_init_48 : decode cX4_init 48 = .ok (.aload_n 0, 1) := by decide +kernel
theorem dX4_init_49 : decode cX4_init 49 = .ok (.new 29, 3) := by decide +kernel
theorem dX4_init_52 : decode cX4_init 52 = .ok (.dup, 1) := by decide +kernel
theorem dX4_init_53 : decode cX4_init 53 = .ok (.invokespecial 31, 3) := by decide +kernel
theorem dX4_init_56 : decode cX4_init 56 = .ok (.putfield 32, 3) := by decide +kernel
theorem dX4_init_59 : decode cX4_init 59 = .ok (.aload_n 0, 1) := by decide +kernel
theorem dX4_init_60 : decode cX4_init 60 = .ok (.new 36, 3) := by decide +kernel
theorem dX4_init_63 : decode cX4_init 63 = .ok (.dup, 1) := by decide +kernel
theorem dX4_init_64 : decode cX4_init 64 = .ok (.bipush 8, 2) := by decide +kernel
theorem dX4_init_66 : decode cX4_init 66 = .ok (.invokespecial 38, 3) := by decide +kernel
theorem dX4_init_69 : decode cX4_init 69 = .ok (.putfield 41, 3) := by decide +kernel
theorem dX4_init_72 : decode cX4_init 72 = .ok (.aload_n 0, 1) := by decide +kernel
theorem dX4_init_73 : decode cX4_init 73 = .ok (.new 36, 3) := by decide +kernel
theorem dX4_init_76 : decode cX4_init 76 = .ok (.dup, 1) := by decide +kernel
theorem dX4_init_77 : decode cX4_init 77 = .ok (.iconst 2, 1) := by decide +kernel
theorem dX4_init_78 : decode cX4_init 78 = .ok (.invokespecial 38, 3) := by decide +kernel
theorem dX4_init_81 : decode cX4_init 81 = .ok (.putfield 45, 3) := by decide +kernel
theorem dX4_init_84 : decode cX4_init 84 = .ok (.aload_n 0, 1) := by decide +kernel
theorem dX4_init_85 : decode cX4_init 85 = .ok (.bipush 8, 2) := by decide +kernel
theorem dX4_init_87 : decode cX4_init 87 = .ok (.newarray .int, 2) := by decide +kernel
theorem dX4_init_89 : decode cX4_init 89 = .ok (.putfield 48, 3) := by decide +kernel
theorem dX4_init_92 : decode cX4_init 92 = .ok (.aload_n 0, 1) := by decide +kernel
theorem dX4_init_93 : decode cX4_init 93 = .ok (.bipush 8, 2) := by decide +kernel
theorem dX4_init_95 : decode cX4_init 95 = .ok (.newarray .int, 2) := by decide +kernel
theorem dX4_init_97 : decode cX4_init 97 = .ok (.putfield 52, 3) := by decide +kernel
theorem dX4_init_100 : decode cX4_init 100 = .ok (.iconst 0, 1) := by decide +kernel
theorem dX4_init_101 : decode cX4_init 101 = .ok (.istore_n 1, 1) := by decide +kernel
theorem dX4_init_102 : decode cX4_init 102 = .ok (.iload_n 1, 1) := by decide +kernel
theorem dX4_init_103 : decode cX4_init 103 = .ok (.ldc 55, 2) := by decide +kernel
theorem dX4_init_105 : decode cX4_init 105 = .ok (.invokevirtual 57, 3) := by decide +kernel
theorem dX4_init_108 : decode cX4_init 108 = .ok (.if_icmp .ge 22, 3) := by decide +kernel
theorem dX4_init_111 : decode cX4_init 111 = .ok (.aload_n 0, 1) := by decide +kernel
theorem dX4_init_112 : decode cX4_init 112 = .ok (.getfield 10, 3) := by decide +kernel
theorem dX4_init_115 : decode cX4_init 115 = .ok (.ldc 55, 2) := by decide +kernel
theorem dX4_init_117 : decode cX4_init 117 = .ok (.iload_n 1, 1) := by decide +kernel
theorem dX4_init_118 : decode cX4_init 118 = .ok (.invokevirtual 63, 3) := by decide +kernel
theorem dX4_init_121 : decode cX4_init 121 = .ok (.invokevirtual 67, 3) := by decide +kernel
theorem dX4_init_124 : decode cX4_init 124 = .ok (.iinc 1 1, 3) := by decide +kernel
theorem dX4_init_127 : decode cX4_init 127 = .ok (.goto (-25), 3) := by decide +kernel
theorem dX4_init_130 : decode cX4_init 130 = .ok (.aload_n 0, 1) := by decide +kernel
theorem dX4_init_131 : decode cX4_init 131 = .ok (.getfield 10, 3) := by decide +kernel
theorem dX4_init_134 : decode cX4_init 134 = .ok (.aload_n 0, 1) := by decide +kernel
theorem dX4_init_135 : decode cX4_init 135 = .ok (.getfield 19, 3) := by decide +kernel
theorem dX4_init_138 : decode cX4_init 138 = .ok (.invokevirtual 71, 3) := by decide +kernel
theorem dX4_init_141 : decode cX4_init 141 = .ok (.pop, 1) := by decide +kernel
theorem dX4_init_142 : decode cX4_init 142 = .ok (.aload_n 0, 1) := by decide +kernel
theorem dX4_init_143 : decode cX4_init 143 = .ok (.getfield 10, 3) := by decide +kernel
theorem dX4_init_146 : decode cX4_init 146 = .ok (.iconst 0, 1) := by decide +kernel
theorem dX4_init_147 : decode cX4_init 147 = .ok (.putfield 75, 3) := by decide +kernel
theorem dX4_init_150 : decode cX4_init 150 = .ok (.return_, 1) := by decide +kernel
theorem dX4_write_0 : decode cX4_write 0 = .ok (.iload_n 1, 1) := by decide +kernel
theorem dX4_write_1 : decode cX4_write 1 = .ok (.bipush 32, 2) := by decide +kernel
theorem dX4_write_3 : decode cX4_write 3 = .ok (.if_icmp .lt 9, 3) := by decide +kernel
theorem dX4_write_6 : decode cX4_write 6 = .ok (.iload_n 1, 1) := by decide +kernel
theorem dX4_write_7 : decode cX4_write 7 = .ok (.bipush 126, 2) := by decide +kernel
theorem dX4_write_9 : decode cX4_write 9 = .ok (.if_icmp .le 5, 3) := by decide +kernel
theorem dX4_write_12 : decode cX4_write 12 = .ok (.iconst (-1), 1) := by decide +kernel
theorem dX4_write_13 : decode cX4_write 13 = .ok (.ireturn, 1) := by decide +kernel
theorem dX4_write_14 : decode cX4_write 14 = .ok (.aload_n 0, 1) := by decide +kernel
theorem dX4_write_15 : decode cX4_write 15 = .ok (.getfield 10, 3) := by decide +kernel
theorem dX4_write_18 : decode cX4_write 18 = .ok (.getfield 75, 3) := by decide +kernel
theorem dX4_write_21 : decode cX4_write 21 = .ok (.sipush 200, 3) := by decide +kernel
theorem dX4_write_24 : decode cX4_write 24 = .ok (.if_icmp .lt 6, 3) := by decide +kernel
theorem dX4_write_27 : decode cX4_write 27 = .ok (.bipush (-3), 2) := by decide +kernel
theorem dX4_write_29 : decode cX4_write 29 = .ok (.ireturn, 1) := by decide +kernel
theorem dX4_write_30 : decode cX4_write 30 = .ok (.aload_n 0, 1) := by decide +kernel
theorem dX4_write_31 : decode cX4_write 31 = .ok (.getfield 10, 3) := by decide +kernel
theorem dX4_write_34 : decode cX4_write 34 = .ok (.iload_n 1, 1) := by decide +kernel
theorem dX4_write_35 : decode cX4_write 35 = .ok (.i2c, 1) := by decide +kernel
theorem dX4_write_36 : decode cX4_write 36 = .ok (.invokevirtual 67, 3) := by decide +kernel
theorem dX4_write_39 : decode cX4_write 39 = .ok (.aload_n 0, 1) := by decide +kernel
theorem dX4_write_40 : decode cX4_write 40 = .ok (.getfield 10, 3) := by decide +kernel
theorem dX4_write_43 : decode cX4_write 43 = .ok (.getfield 75, 3) := by decide +kernel
theorem dX4_write_46 : decode cX4_write 46 = .ok (.ireturn, 1) := by decide +kernel
theorem dX4_wipe_0 : decode cX4_wipe 0 = .ok (.aload_n 0, 1) := by decide +kernel
theorem dX4_wipe_1 : decode cX4_wipe 1 = .ok (.getfield 10, 3) := by decide +kernel
theorem dX4_wipe_4 : decode cX4_wipe 4 = .ok (.getfield 75, 3) := by decide +kernel
theorem dX4_wipe_7 : decode cX4_wipe 7 = .ok (.istore_n 1, 1) := by decide +kernel
theorem dX4_wipe_8 : decode cX4_wipe 8 = .ok (.aload_n 0, 1) := by decide +kernel
theorem dX4_wipe_9 : decode cX4_wipe 9 = .ok (.getfield 10, 3) := by decide +kernel
theorem dX4_wipe_12 : decode cX4_wipe 12 = .ok (.iconst 0, 1) := by decide +kernel
theorem dX4_wipe_13 : decode cX4_wipe 13 = .ok (.putfield 75, 3) := by decide +kernel
theorem dX4_wipe_16 : decode cX4_wipe 16 = .ok (.iload_n 1, 1) := by decide +kernel
theorem dX4_wipe_17 : decode cX4_wipe 17 = .ok (.ireturn, 1) := by decide +kernel
theorem dX4_fault_0 : decode cX4_fault 0 = .ok (.aload_n 0, 1) := by decide +kernel
theorem dX4_fault_1 : decode cX4_fault 1 = .ok (.getfield 10, 3) := by decide +kernel
theorem dX4_fault_4 : decode cX4_fault 4 = .ok (.aload_n 0, 1) := by decide +kernel
theorem dX4_fault_5 : decode cX4_fault 5 = .ok (.getfield 26, 3) := by decide +kernel
theorem dX4_fault_8 : decode cX4_fault 8 = .ok (.invokevirtual 71, 3) := by decide +kernel
theorem dX4_fault_11 : decode cX4_fault 11 = .ok (.ireturn, 1) := by decide +kernel
theorem dX4_lay_0 : decode cX4_lay 0 = .ok (.aload_n 0, 1) := by decide +kernel
theorem dX4_lay_1 : decode cX4_lay 1 = .ok (.getfield 10, 3) := by decide +kernel
theorem dX4_lay_4 : decode cX4_lay 4 = .ok (.aload_n 0, 1) := by decide +kernel
theorem dX4_lay_5 : decode cX4_lay 5 = .ok (.getfield 26, 3) := by decide +kernel
theorem dX4_lay_8 : decode cX4_lay 8 = .ok (.invokevirtual 71, 3) := by decide +kernel
theorem dX4_lay_11 : decode cX4_lay 11 = .ok (.bipush (-4), 2) := by decide +kernel
theorem dX4_lay_13 : decode cX4_lay 13 = .ok (.if_icmp .ne 13, 3) := by decide +kernel
theorem dX4_lay_16 : decode cX4_lay 16 = .ok (.aload_n 0, 1) := by decide +kernel
theorem dX4_lay_17 : decode cX4_lay 17 = .ok (.getfield 26, 3) := by decide +kernel
theorem dX4_lay_20 : decode cX4_lay 20 = .ok (.getfield 78, 3) := by decide +kernel
theorem dX4_lay_23 : decode cX4_lay 23 = .ok (.ifCond .ne 6, 3) := by decide +kernel
theorem dX4_lay_26 : decode cX4_lay 26 = .ok (.bipush (-2), 2) := by decide +kernel
theorem dX4_lay_28 : decode cX4_lay 28 = .ok (.ireturn, 1) := by decide +kernel
theorem dX4_lay_29 : decode cX4_lay 29 = .ok (.aload_n 0, 1) := by decide +kernel
theorem dX4_lay_30 : decode cX4_lay 30 = .ok (.getfield 19, 3) := by decide +kernel
theorem dX4_lay_33 : decode cX4_lay 33 = .ok (.aload_n 0, 1) := by decide +kernel
theorem dX4_lay_34 : decode cX4_lay 34 = .ok (.getfield 26, 3) := by decide +kernel
theorem dX4_lay_37 : decode cX4_lay 37 = .ok (.invokevirtual 81, 3) := by decide +kernel
theorem dX4_lay_40 : decode cX4_lay 40 = .ok (.aload_n 0, 1) := by decide +kernel
theorem dX4_lay_41 : decode cX4_lay 41 = .ok (.getfield 41, 3) := by decide +kernel
theorem dX4_lay_44 : decode cX4_lay 44 = .ok (.invokevirtual 85, 3) := by decide +kernel
theorem dX4_lay_47 : decode cX4_lay 47 = .ok (.aload_n 0, 1) := by decide +kernel
theorem dX4_lay_48 : decode cX4_lay 48 = .ok (.getfield 45, 3) := by decide +kernel
theorem dX4_lay_51 : decode cX4_lay 51 = .ok (.invokevirtual 85, 3) := by decide +kernel
theorem dX4_lay_54 : decode cX4_lay 54 = .ok (.aload_n 0, 1) := by decide +kernel
theorem dX4_lay_55 : decode cX4_lay 55 = .ok (.iconst 0, 1) := by decide +kernel
theorem dX4_lay_56 : decode cX4_lay 56 = .ok (.putfield 88, 3) := by decide +kernel
theorem dX4_lay_59 : decode cX4_lay 59 = .ok (.aload_n 0, 1) := by decide +kernel
theorem dX4_lay_60 : decode cX4_lay 60 = .ok (.getfield 19, 3) := by decide +kernel
theorem dX4_lay_63 : decode cX4_lay 63 = .ok (.getfield 78, 3) := by decide +kernel
theorem dX4_lay_66 : decode cX4_lay 66 = .ok (.ireturn, 1) := by decide +kernel
theorem dX4_dead_0 : decode cX4_dead 0 = .ok (.aload_n 0, 1) := by decide +kernel
theorem dX4_dead_1 : decode cX4_dead 1 = .ok (.getfield 19, 3) := by decide +kernel
theorem dX4_dead_4 : decode cX4_dead 4 = .ok (.iload_n 1, 1) := by decide +kernel
theorem dX4_dead_5 : decode cX4_dead 5 = .ok (.invokevirtual 91, 3) := by decide +kernel
theorem dX4_dead_8 : decode cX4_dead 8 = .ok (.ifCond .ne 5, 3) := by decide +kernel
theorem dX4_dead_11 : decode cX4_dead 11 = .ok (.iconst (-1), 1) := by decide +kernel
theorem dX4_dead_12 : decode cX4_dead 12 = .ok (.ireturn, 1) := by decide +kernel
theorem dX4_dead_13 : decode cX4_dead 13 = .ok (.iload_n 2, 1) := by decide +kernel
theorem dX4_dead_14 : decode cX4_dead 14 = .ok (.tableswitch 79 0 4 #[34, 43, 52, 61, 70], 34) := by decide +kernel
theorem dX4_dead_48 : decode cX4_dead 48 = .ok (.aload_n 0, 1) := by decide +kernel
theorem dX4_dead_49 : decode cX4_dead 49 = .ok (.getfield 19, 3) := by decide +kernel
theorem dX4_dead_52 : decode cX4_dead 52 = .ok (.iload_n 1, 1) := by decide +kernel
theorem dX4_dead_53 : decode cX4_dead 53 = .ok (.invokevirtual 95, 3) := by decide +kernel
theorem dX4_dead_56 : decode cX4_dead 56 = .ok (.ireturn, 1) := by decide +kernel
theorem dX4_dead_57 : decode cX4_dead 57 = .ok (.aload_n 0, 1) := by decide +kernel
theorem dX4_dead_58 : decode cX4_dead 58 = .ok (.getfield 19, 3) := by decide +kernel
theorem dX4_dead_61 : decode cX4_dead 61 = .ok (.iload_n 1, 1) := by decide +kernel
theorem dX4_dead_62 : decode cX4_dead 62 = .ok (.invokevirtual 99, 3) := by decide +kernel
theorem dX4_dead_65 : decode cX4_dead 65 = .ok (.ireturn, 1) := by decide +kernel
theorem dX4_dead_66 : decode cX4_dead 66 = .ok (.aload_n 0, 1) := by decide +kernel
theorem dX4_dead_67 : decode cX4_dead 67 = .ok (.getfield 19, 3) := by decide +kernel
theorem dX4_dead_70 : decode cX4_dead 70 = .ok (.iload_n 1, 1) := by decide +kernel
theorem dX4_dead_71 : decode cX4_dead 71 = .ok (.invokevirtual 102, 3) := by decide +kernel
theorem dX4_dead_74 : decode cX4_dead 74 = .ok (.ireturn, 1) := by decide +kernel
theorem dX4_dead_75 : decode cX4_dead 75 = .ok (.aload_n 0, 1) := by decide +kernel
theorem dX4_dead_76 : decode cX4_dead 76 = .ok (.getfield 19, 3) := by decide +kernel
theorem dX4_dead_79 : decode cX4_dead 79 = .ok (.iload_n 1, 1) := by decide +kernel
theorem dX4_dead_80 : decode cX4_dead 80 = .ok (.invokevirtual 105, 3) := by decide +kernel
theorem dX4_dead_83 : decode cX4_dead 83 = .ok (.ireturn, 1) := by decide +kernel
theorem dX4_dead_84 : decode cX4_dead 84 = .ok (.aload_n 0, 1) := by decide +kernel
theorem dX4_dead_85 : decode cX4_dead 85 = .ok (.getfield 19, 3) := by decide +kernel
theorem dX4_dead_88 : decode cX4_dead 88 = .ok (.iload_n 1, 1) := by decide +kernel
theorem dX4_dead_89 : decode cX4_dead 89 = .ok (.invokevirtual 108, 3) := by decide +kernel
theorem dX4_dead_92 : decode cX4_dead 92 = .ok (.ireturn, 1) := by decide +kernel
theorem dX4_dead_93 : decode cX4_dead 93 = .ok (.iconst (-1), 1) := by decide +kernel
theorem dX4_dead_94 : decode cX4_dead 94 = .ok (.ireturn, 1) := by decide +kernel
theorem dX4_plot_0 : decode cX4_plot 0 = .ok (.iload_n 1, 1) := by decide +kernel
theorem dX4_plot_1 : decode cX4_plot 1 = .ok (.invokestatic 111, 3) := by decide +kernel
theorem dX4_plot_4 : decode cX4_plot 4 = .ok (.ifCond .eq 14, 3) := by decide +kernel
theorem dX4_plot_7 : decode cX4_plot 7 = .ok (.aload_n 0, 1) := by decide +kernel
theorem dX4_plot_8 : decode cX4_plot 8 = .ok (.getfield 19, 3) := by decide +kernel
theorem dX4_plot_11 : decode cX4_plot 11 = .ok (.iload_n 2, 1) := by decide +kernel
theorem dX4_plot_12 : decode cX4_plot 12 = .ok (.invokevirtual 114, 3) := by decide +kernel
theorem dX4_plot_15 : decode cX4_plot 15 = .ok (.ifCond .ne 5, 3) := by decide +kernel
theorem dX4_plot_18 : decode cX4_plot 18 = .ok (.iconst (-1), 1) := by decide +kernel
theorem dX4_plot_19 : decode cX4_plot 19 = .ok (.ireturn, 1) := by decide +kernel
theorem dX4_plot_20 : decode cX4_plot 20 = .ok (.aload_n 0, 1) := by decide +kernel
theorem dX4_plot_21 : decode cX4_plot 21 = .ok (.getfield 19, 3) := by decide +kernel
theorem dX4_plot_24 : decode cX4_plot 24 = .ok (.iload_n 1, 1) := by decide +kernel
theorem dX4_plot_25 : decode cX4_plot 25 = .ok (.iload_n 2, 1) := by decide +kernel
theorem dX4_plot_26 : decode cX4_plot 26 = .ok (.invokevirtual 117, 3) := by decide +kernel
theorem dX4_plot_29 : decode cX4_plot 29 = .ok (.ireturn, 1) := by decide +kernel
theorem dX4_visitor_0 : decode cX4_visitor 0 = .ok (.aload_n 0, 1) := by decide +kernel
theorem dX4_visitor_1 : decode cX4_visitor 1 = .ok (.getfield 19, 3) := by decide +kernel
theorem dX4_visitor_4 : decode cX4_visitor 4 = .ok (.iload_n 1, 1) := by decide +kernel
theorem dX4_visitor_5 : decode cX4_visitor 5 = .ok (.invokevirtual 121, 3) := by decide +kernel
theorem dX4_visitor_8 : decode cX4_visitor 8 = .ok (.ifCond .ne 5, 3) := by decide +kernel
theorem dX4_visitor_11 : decode cX4_visitor 11 = .ok (.iconst (-1), 1) := by decide +kernel
theorem dX4_visitor_12 : decode cX4_visitor 12 = .ok (.ireturn, 1) := by decide +kernel
theorem dX4_visitor_13 : decode cX4_visitor 13 = .ok (.iload_n 2, 1) := by decide +kernel
theorem dX4_visitor_14 : decode cX4_visitor 14 = .ok (.lookupswitch 44 #[(0, 26), (1, 35)], 26) := by decide +kernel
theorem dX4_visitor_40 : decode cX4_visitor 40 = .ok (.aload_n 0, 1) := by decide +kernel
theorem dX4_visitor_41 : decode cX4_visitor 41 = .ok (.getfield 19, 3) := by decide +kernel
theorem dX4_visitor_44 : decode cX4_visitor 44 = .ok (.iload_n 1, 1) := by decide +kernel
theorem dX4_visitor_45 : decode cX4_visitor 45 = .ok (.invokevirtual 124, 3) := by decide +kernel
theorem dX4_visitor_48 : decode cX4_visitor 48 = .ok (.ireturn, 1) := by decide +kernel
theorem dX4_visitor_49 : decode cX4_visitor 49 = .ok (.aload_n 0, 1) := by decide +kernel
theorem dX4_visitor_50 : decode cX4_visitor 50 = .ok (.getfield 19, 3) := by decide +kernel
theorem dX4_visitor_53 : decode cX4_visitor 53 = .ok (.iload_n 1, 1) := by decide +kernel
theorem dX4_visitor_54 : decode cX4_visitor 54 = .ok (.invokevirtual 127, 3) := by decide +kernel
theorem dX4_visitor_57 : decode cX4_visitor 57 = .ok (.ireturn, 1) := by decide +kernel
theorem dX4_visitor_58 : decode cX4_visitor 58 = .ok (.iconst (-1), 1) := by decide +kernel
theorem dX4_visitor_59 : decode cX4_visitor 59 = .ok (.ireturn, 1) := by decide +kernel
theorem dX4_bury_0 : decode cX4_bury 0 = .ok (.iload_n 1, 1) := by decide +kernel
theorem dX4_bury_1 : decode cX4_bury 1 = .ok (.iload_n 2, 1) := by decide +kernel
theorem dX4_bury_2 : decode cX4_bury 2 = .ok (.iload_n 3, 1) := by decide +kernel
theorem dX4_bury_3 : decode cX4_bury 3 = .ok (.invokestatic 130, 3) := by decide +kernel
theorem dX4_bury_6 : decode cX4_bury 6 = .ok (.ifCond .ne 5, 3) := by decide +kernel
theorem dX4_bury_9 : decode cX4_bury 9 = .ok (.iconst (-1), 1) := by decide +kernel
theorem dX4_bury_10 : decode cX4_bury 10 = .ok (.ireturn, 1) := by decide +kernel
theorem dX4_bury_11 : decode cX4_bury 11 = .ok (.aload_n 0, 1) := by decide +kernel
theorem dX4_bury_12 : decode cX4_bury 12 = .ok (.getfield 19, 3) := by decide +kernel
theorem dX4_bury_15 : decode cX4_bury 15 = .ok (.getfield 78, 3) := by decide +kernel
theorem dX4_bury_18 : decode cX4_bury 18 = .ok (.bipush 12, 2) := by decide +kernel
theorem dX4_bury_20 : decode cX4_bury 20 = .ok (.if_icmp .lt 6, 3) := by decide +kernel
theorem dX4_bury_23 : decode cX4_bury 23 = .ok (.bipush (-3), 2) := by decide +kernel
theorem dX4_bury_25 : decode cX4_bury 25 = .ok (.ireturn, 1) := by decide +kernel
theorem dX4_bury_26 : decode cX4_bury 26 = .ok (.aload_n 0, 1) := by decide +kernel
theorem dX4_bury_27 : decode cX4_bury 27 = .ok (.getfield 41, 3) := by decide +kernel
theorem dX4_bury_30 : decode cX4_bury 30 = .ok (.aload_n 0, 1) := by decide +kernel
theorem dX4_bury_31 : decode cX4_bury 31 = .ok (.getfield 19, 3) := by decide +kernel
theorem dX4_bury_34 : decode cX4_bury 34 = .ok (.invokevirtual 134, 3) := by decide +kernel
theorem dX4_bury_37 : decode cX4_bury 37 = .ok (.aload_n 0, 1) := by decide +kernel
theorem dX4_bury_38 : decode cX4_bury 38 = .ok (.getfield 19, 3) := by decide +kernel
theorem dX4_bury_41 : decode cX4_bury 41 = .ok (.iload_n 1, 1) := by decide +kernel
theorem dX4_bury_42 : decode cX4_bury 42 = .ok (.iload_n 2, 1) := by decide +kernel
theorem dX4_bury_43 : decode cX4_bury 43 = .ok (.iload_n 3, 1) := by decide +kernel
theorem dX4_bury_44 : decode cX4_bury 44 = .ok (.invokevirtual 137, 3) := by decide +kernel
theorem dX4_bury_47 : decode cX4_bury 47 = .ok (.ireturn, 1) := by decide +kernel
theorem dX4_change_0 : decode cX4_change 0 = .ok (.iload_n 1, 1) := by decide +kernel
theorem dX4_change_1 : decode cX4_change 1 = .ok (.invokestatic 111, 3) := by decide +kernel
theorem dX4_change_4 : decode cX4_change 4 = .ok (.ifCond .eq 30, 3) := by decide +kernel
theorem dX4_change_7 : decode cX4_change 7 = .ok (.aload_n 0, 1) := by decide +kernel
theorem dX4_change_8 : decode cX4_change 8 = .ok (.getfield 19, 3) := by decide +kernel
theorem dX4_change_11 : decode cX4_change 11 = .ok (.iload_n 2, 1) := by decide +kernel
theorem dX4_change_12 : decode cX4_change 12 = .ok (.invokevirtual 114, 3) := by decide +kernel
theorem dX4_change_15 : decode cX4_change 15 = .ok (.ifCond .eq 19, 3) := by decide +kernel
theorem dX4_change_18 : decode cX4_change 18 = .ok (.aload_n 0, 1) := by decide +kernel
theorem dX4_change_19 : decode cX4_change 19 = .ok (.getfield 19, 3) := by decide +kernel
theorem dX4_change_22 : decode cX4_change 22 = .ok (.iload_n 3, 1) := by decide +kernel
theorem dX4_change_23 : decode cX4_change 23 = .ok (.invokevirtual 114, 3) := by decide +kernel
theorem dX4_change_26 : decode cX4_change 26 = .ok (.ifCond .eq 8, 3) := by decide +kernel
theorem dX4_change_29 : decode cX4_change 29 = .ok (.iload_n 2, 1) := by decide +kernel
theorem dX4_change_30 : decode cX4_change 30 = .ok (.iload_n 3, 1) := by decide +kernel
theorem dX4_change_31 : decode cX4_change 31 = .ok (.if_icmp .ne 5, 3) := by decide +kernel
theorem dX4_change_34 : decode cX4_change 34 = .ok (.iconst (-1), 1) := by decide +kernel
theorem dX4_change_35 : decode cX4_change 35 = .ok (.ireturn, 1) := by decide +kernel
theorem dX4_change_36 : decode cX4_change 36 = .ok (.aload_n 0, 1) := by decide +kernel
theorem dX4_change_37 : decode cX4_change 37 = .ok (.getfield 41, 3) := by decide +kernel
theorem dX4_change_40 : decode cX4_change 40 = .ok (.aload_n 0, 1) := by decide +kernel
theorem dX4_change_41 : decode cX4_change 41 = .ok (.getfield 19, 3) := by decide +kernel
theorem dX4_change_44 : decode cX4_change 44 = .ok (.invokevirtual 134, 3) := by decide +kernel
theorem dX4_change_47 : decode cX4_change 47 = .ok (.aload_n 0, 1) := by decide +kernel
theorem dX4_change_48 : decode cX4_change 48 = .ok (.getfield 19, 3) := by decide +kernel
theorem dX4_change_51 : decode cX4_change 51 = .ok (.iload_n 1, 1) := by decide +kernel
theorem dX4_change_52 : decode cX4_change 52 = .ok (.iload_n 2, 1) := by decide +kernel
theorem dX4_change_53 : decode cX4_change 53 = .ok (.iload_n 3, 1) := by decide +kernel
theorem dX4_change_54 : decode cX4_change 54 = .ok (.invokevirtual 141, 3) := by decide +kernel
theorem dX4_change_57 : decode cX4_change 57 = .ok (.aload_n 0, 1) := by decide +kernel
theorem dX4_change_58 : decode cX4_change 58 = .ok (.getfield 19, 3) := by decide +kernel
theorem dX4_change_61 : decode cX4_change 61 = .ok (.iload_n 1, 1) := by decide +kernel
theorem dX4_change_62 : decode cX4_change 62 = .ok (.iload_n 2, 1) := by decide +kernel
theorem dX4_change_63 : decode cX4_change 63 = .ok (.invokevirtual 117, 3) := by decide +kernel
theorem dX4_change_66 : decode cX4_change 66 = .ok (.ireturn, 1) := by decide +kernel
theorem dX4_forgive_0 : decode cX4_forgive 0 = .ok (.aload_n 0, 1) := by decide +kernel
theorem dX4_forgive_1 : decode cX4_forgive 1 = .ok (.getfield 19, 3) := by decide +kernel
theorem dX4_forgive_4 : decode cX4_forgive 4 = .ok (.iload_n 1, 1) := by decide +kernel
theorem dX4_forgive_5 : decode cX4_forgive 5 = .ok (.invokevirtual 91, 3) := by decide +kernel
theorem dX4_forgive_8 : decode cX4_forgive 8 = .ok (.ifCond .eq 10, 3) := by decide +kernel
theorem dX4_forgive_11 : decode cX4_forgive 11 = .ok (.iload_n 2, 1) := by decide +kernel
theorem dX4_forgive_12 : decode cX4_forgive 12 = .ok (.invokestatic 145, 3) := by decide +kernel
theorem dX4_forgive_15 : decode cX4_forgive 15 = .ok (.ifCond .ne 5, 3) := by decide +kernel
theorem dX4_forgive_18 : decode cX4_forgive 18 = .ok (.iconst (-1), 1) := by decide +kernel
theorem dX4_forgive_19 : decode cX4_forgive 19 = .ok (.ireturn, 1) := by decide +kernel
theorem dX4_forgive_20 : decode cX4_forgive 20 = .ok (.aload_n 0, 1) := by decide +kernel
theorem dX4_forgive_21 : decode cX4_forgive 21 = .ok (.getfield 41, 3) := by decide +kernel
theorem dX4_forgive_24 : decode cX4_forgive 24 = .ok (.aload_n 0, 1) := by decide +kernel
theorem dX4_forgive_25 : decode cX4_forgive 25 = .ok (.getfield 19, 3) := by decide +kernel
theorem dX4_forgive_28 : decode cX4_forgive 28 = .ok (.invokevirtual 134, 3) := by decide +kernel
theorem dX4_forgive_31 : decode cX4_forgive 31 = .ok (.aload_n 0, 1) := by decide +kernel
theorem dX4_forgive_32 : decode cX4_forgive 32 = .ok (.getfield 19, 3) := by decide +kernel
theorem dX4_forgive_35 : decode cX4_forgive 35 = .ok (.iload_n 1, 1) := by decide +kernel
theorem dX4_forgive_36 : decode cX4_forgive 36 = .ok (.invokevirtual 102, 3) := by decide +kernel
theorem dX4_forgive_39 : decode cX4_forgive 39 = .ok (.istore_n 3, 1) := by decide +kernel
theorem dX4_forgive_40 : decode cX4_forgive 40 = .ok (.aload_n 0, 1) := by decide +kernel
theorem dX4_forgive_41 : decode cX4_forgive 41 = .ok (.getfield 19, 3) := by decide +kernel
theorem dX4_forgive_44 : decode cX4_forgive 44 = .ok (.iload_n 1, 1) := by decide +kernel
theorem dX4_forgive_45 : decode cX4_forgive 45 = .ok (.iload_n 2, 1) := by decide +kernel
theorem dX4_forgive_46 : decode cX4_forgive 46 = .ok (.invokevirtual 148, 3) := by decide +kernel
theorem dX4_forgive_49 : decode cX4_forgive 49 = .ok (.iload_n 3, 1) := by decide +kernel
theorem dX4_forgive_50 : decode cX4_forgive 50 = .ok (.ireturn, 1) := by decide +kernel
theorem dX4_visit_0 : decode cX4_visit 0 = .ok (.aload_n 0, 1) := by decide +kernel
theorem dX4_visit_1 : decode cX4_visit 1 = .ok (.getfield 19, 3) := by decide +kernel
theorem dX4_visit_4 : decode cX4_visit 4 = .ok (.iload_n 1, 1) := by decide +kernel
theorem dX4_visit_5 : decode cX4_visit 5 = .ok (.invokevirtual 91, 3) := by decide +kernel
theorem dX4_visit_8 : decode cX4_visit 8 = .ok (.ifCond .eq 10, 3) := by decide +kernel
theorem dX4_visit_11 : decode cX4_visit 11 = .ok (.iload_n 2, 1) := by decide +kernel
theorem dX4_visit_12 : decode cX4_visit 12 = .ok (.invokestatic 152, 3) := by decide +kernel
theorem dX4_visit_15 : decode cX4_visit 15 = .ok (.ifCond .ne 5, 3) := by decide +kernel
theorem dX4_visit_18 : decode cX4_visit 18 = .ok (.iconst (-1), 1) := by decide +kernel
theorem dX4_visit_19 : decode cX4_visit 19 = .ok (.ireturn, 1) := by decide +kernel
theorem dX4_visit_20 : decode cX4_visit 20 = .ok (.aload_n 0, 1) := by decide +kernel
theorem dX4_visit_21 : decode cX4_visit 21 = .ok (.getfield 19, 3) := by decide +kernel
theorem dX4_visit_24 : decode cX4_visit 24 = .ok (.getfield 155, 3) := by decide +kernel
theorem dX4_visit_27 : decode cX4_visit 27 = .ok (.bipush 6, 2) := by decide +kernel
theorem dX4_visit_29 : decode cX4_visit 29 = .ok (.if_icmp .lt 6, 3) := by decide +kernel
theorem dX4_visit_32 : decode cX4_visit 32 = .ok (.bipush (-3), 2) := by decide +kernel
theorem dX4_visit_34 : decode cX4_visit 34 = .ok (.ireturn, 1) := by decide +kernel
theorem dX4_visit_35 : decode cX4_visit 35 = .ok (.aload_n 0, 1) := by decide +kernel
theorem dX4_visit_36 : decode cX4_visit 36 = .ok (.getfield 41, 3) := by decide +kernel
theorem dX4_visit_39 : decode cX4_visit 39 = .ok (.aload_n 0, 1) := by decide +kernel
theorem dX4_visit_40 : decode cX4_visit 40 = .ok (.getfield 19, 3) := by decide +kernel
theorem dX4_visit_43 : decode cX4_visit 43 = .ok (.invokevirtual 134, 3) := by decide +kernel
theorem dX4_visit_46 : decode cX4_visit 46 = .ok (.aload_n 0, 1) := by decide +kernel
theorem dX4_visit_47 : decode cX4_visit 47 = .ok (.getfield 19, 3) := by decide +kernel
theorem dX4_visit_50 : decode cX4_visit 50 = .ok (.iload_n 1, 1) := by decide +kernel
theorem dX4_visit_51 : decode cX4_visit 51 = .ok (.iload_n 2, 1) := by decide +kernel
theorem dX4_visit_52 : decode cX4_visit 52 = .ok (.invokevirtual 158, 3) := by decide +kernel
theorem dX4_visit_55 : decode cX4_visit 55 = .ok (.aload_n 0, 1) := by decide +kernel
theorem dX4_visit_56 : decode cX4_visit 56 = .ok (.getfield 19, 3) := by decide +kernel
theorem dX4_visit_59 : decode cX4_visit 59 = .ok (.getfield 155, 3) := by decide +kernel
theorem dX4_visit_62 : decode cX4_visit 62 = .ok (.ireturn, 1) := by decide +kernel
theorem dX4_undo_0 : decode cX4_undo 0 = .ok (.aload_n 0, 1) := by decide +kernel
theorem dX4_undo_1 : decode cX4_undo 1 = .ok (.getfield 41, 3) := by decide +kernel
theorem dX4_undo_4 : decode cX4_undo 4 = .ok (.getfield 161, 3) := by decide +kernel
theorem dX4_undo_7 : decode cX4_undo 7 = .ok (.ifCond .ne 6, 3) := by decide +kernel
theorem dX4_undo_10 : decode cX4_undo 10 = .ok (.bipush (-2), 2) := by decide +kernel
theorem dX4_undo_12 : decode cX4_undo 12 = .ok (.ireturn, 1) := by decide +kernel
theorem dX4_undo_13 : decode cX4_undo 13 = .ok (.aload_n 0, 1) := by decide +kernel
theorem dX4_undo_14 : decode cX4_undo 14 = .ok (.getfield 41, 3) := by decide +kernel
theorem dX4_undo_17 : decode cX4_undo 17 = .ok (.aload_n 0, 1) := by decide +kernel
theorem dX4_undo_18 : decode cX4_undo 18 = .ok (.getfield 19, 3) := by decide +kernel
theorem dX4_undo_21 : decode cX4_undo 21 = .ok (.invokevirtual 164, 3) := by decide +kernel
theorem dX4_undo_24 : decode cX4_undo 24 = .ok (.aload_n 0, 1) := by decide +kernel
theorem dX4_undo_25 : decode cX4_undo 25 = .ok (.getfield 41, 3) := by decide +kernel
theorem dX4_undo_28 : decode cX4_undo 28 = .ok (.getfield 161, 3) := by decide +kernel
theorem dX4_undo_31 : decode cX4_undo 31 = .ok (.ireturn, 1) := by decide +kernel
theorem dX4_right_0 : decode cX4_right 0 = .ok (.aload_n 0, 1) := by decide +kernel
theorem dX4_right_1 : decode cX4_right 1 = .ok (.getfield 19, 3) := by decide +kernel
theorem dX4_right_4 : decode cX4_right 4 = .ok (.iload_n 1, 1) := by decide +kernel
theorem dX4_right_5 : decode cX4_right 5 = .ok (.invokevirtual 91, 3) := by decide +kernel
theorem dX4_right_8 : decode cX4_right 8 = .ok (.ifCond .ne 5, 3) := by decide +kernel
theorem dX4_right_11 : decode cX4_right 11 = .ok (.iconst (-1), 1) := by decide +kernel
theorem dX4_right_12 : decode cX4_right 12 = .ok (.ireturn, 1) := by decide +kernel
theorem dX4_right_13 : decode cX4_right 13 = .ok (.aload_n 0, 1) := by decide +kernel
theorem dX4_right_14 : decode cX4_right 14 = .ok (.aload_n 0, 1) := by decide +kernel
theorem dX4_right_15 : decode cX4_right 15 = .ok (.getfield 19, 3) := by decide +kernel
theorem dX4_right_18 : decode cX4_right 18 = .ok (.invokevirtual 167, 3) := by decide +kernel
theorem dX4_right_21 : decode cX4_right 21 = .ok (.aload_n 0, 1) := by decide +kernel
theorem dX4_right_22 : decode cX4_right 22 = .ok (.getfield 23, 3) := by decide +kernel
theorem dX4_right_25 : decode cX4_right 25 = .ok (.iload_n 1, 1) := by decide +kernel
theorem dX4_right_26 : decode cX4_right 26 = .ok (.invokevirtual 105, 3) := by decide +kernel
theorem dX4_right_29 : decode cX4_right 29 = .ok (.ireturn, 1) := by decide +kernel
theorem dX4_moved_0 : decode cX4_moved 0 = .ok (.aload_n 0, 1) := by decide +kernel
theorem dX4_moved_1 : decode cX4_moved 1 = .ok (.aload_n 0, 1) := by decide +kernel
theorem dX4_moved_2 : decode cX4_moved 2 = .ok (.getfield 19, 3) := by decide +kernel
theorem dX4_moved_5 : decode cX4_moved 5 = .ok (.invokevirtual 170, 3) := by decide +kernel
theorem dX4_moved_8 : decode cX4_moved 8 = .ok (.ireturn, 1) := by decide +kernel
theorem dX4_mend_0 : decode cX4_mend 0 = .ok (.iload_n 1, 1) := by decide +kernel
theorem dX4_mend_1 : decode cX4_mend 1 = .ok (.invokestatic 111, 3) := by decide +kernel
theorem dX4_mend_4 : decode cX4_mend 4 = .ok (.ifCond .ne 5, 3) := by decide +kernel
theorem dX4_mend_7 : decode cX4_mend 7 = .ok (.iconst (-1), 1) := by decide +kernel
theorem dX4_mend_8 : decode cX4_mend 8 = .ok (.ireturn, 1) := by decide +kernel
theorem dX4_mend_9 : decode cX4_mend 9 = .ok (.aload_n 0, 1) := by decide +kernel
theorem dX4_mend_10 : decode cX4_mend 10 = .ok (.aload_n 0, 1) := by decide +kernel
theorem dX4_mend_11 : decode cX4_mend 11 = .ok (.getfield 19, 3) := by decide +kernel
theorem dX4_mend_14 : decode cX4_mend 14 = .ok (.invokevirtual 167, 3) := by decide +kernel
theorem dX4_mend_17 : decode cX4_mend 17 = .ok (.aload_n 0, 1) := by decide +kernel
theorem dX4_mend_18 : decode cX4_mend 18 = .ok (.getfield 19, 3) := by decide +kernel
theorem dX4_mend_21 : decode cX4_mend 21 = .ok (.iload_n 1, 1) := by decide +kernel
theorem dX4_mend_22 : decode cX4_mend 22 = .ok (.aload_n 0, 1) := by decide +kernel
theorem dX4_mend_23 : decode cX4_mend 23 = .ok (.getfield 23, 3) := by decide +kernel
theorem dX4_mend_26 : decode cX4_mend 26 = .ok (.invokevirtual 173, 3) := by decide +kernel
theorem dX4_mend_29 : decode cX4_mend 29 = .ok (.ireturn, 1) := by decide +kernel
theorem dX4_grudge_0 : decode cX4_grudge 0 = .ok (.aload_n 0, 1) := by decide +kernel
theorem dX4_grudge_1 : decode cX4_grudge 1 = .ok (.aload_n 0, 1) := by decide +kernel
theorem dX4_grudge_2 : decode cX4_grudge 2 = .ok (.getfield 19, 3) := by decide +kernel
theorem dX4_grudge_5 : decode cX4_grudge 5 = .ok (.invokevirtual 167, 3) := by decide +kernel
theorem dX4_grudge_8 : decode cX4_grudge 8 = .ok (.iconst 0, 1) := by decide +kernel
theorem dX4_grudge_9 : decode cX4_grudge 9 = .ok (.istore_n 1, 1) := by decide +kernel
theorem dX4_grudge_10 : decode cX4_grudge 10 = .ok (.iconst 0, 1) := by decide +kernel
theorem dX4_grudge_11 : decode cX4_grudge 11 = .ok (.istore_n 2, 1) := by decide +kernel
theorem dX4_grudge_12 : decode cX4_grudge 12 = .ok (.iload_n 2, 1) := by decide +kernel
theorem dX4_grudge_13 : decode cX4_grudge 13 = .ok (.aload_n 0, 1) := by decide +kernel
theorem dX4_grudge_14 : decode cX4_grudge 14 = .ok (.getfield 19, 3) := by decide +kernel
theorem dX4_grudge_17 : decode cX4_grudge 17 = .ok (.getfield 78, 3) := by decide +kernel
theorem dX4_grudge_20 : decode cX4_grudge 20 = .ok (.if_icmp .ge 54, 3) := by decide +kernel
theorem dX4_grudge_23 : decode cX4_grudge 23 = .ok (.aload_n 0, 1) := by decide +kernel
theorem dX4_grudge_24 : decode cX4_grudge 24 = .ok (.getfield 19, 3) := by decide +kernel
theorem dX4_grudge_27 : decode cX4_grudge 27 = .ok (.iload_n 2, 1) := by decide +kernel
theorem dX4_grudge_28 : decode cX4_grudge 28 = .ok (.invokevirtual 105, 3) := by decide +kernel
theorem dX4_grudge_31 : decode cX4_grudge 31 = .ok (.istore_n 3, 1) := by decide +kernel
theorem dX4_grudge_32 : decode cX4_grudge 32 = .ok (.aload_n 0, 1) := by decide +kernel
theorem dX4_grudge_33 : decode cX4_grudge 33 = .ok (.getfield 23, 3) := by decide +kernel
theorem dX4_grudge_36 : decode cX4_grudge 36 = .ok (.iload_n 2, 1) := by decide +kernel
theorem dX4_grudge_37 : decode cX4_grudge 37 = .ok (.invokevirtual 105, 3) := by decide +kernel
theorem dX4_grudge_40 : decode cX4_grudge 40 = .ok (.istore 4, 2) := by decide +kernel
theorem dX4_grudge_42 : decode cX4_grudge 42 = .ok (.iload_n 3, 1) := by decide +kernel
theorem dX4_grudge_43 : decode cX4_grudge 43 = .ok (.bipush (-4), 2) := by decide +kernel
theorem dX4_grudge_45 : decode cX4_grudge 45 = .ok (.if_icmp .eq 23, 3) := by decide +kernel
theorem dX4_grudge_48 : decode cX4_grudge 48 = .ok (.iload 4, 2) := by decide +kernel
theorem dX4_grudge_50 : decode cX4_grudge 50 = .ok (.bipush (-4), 2) := by decide +kernel
theorem dX4_grudge_52 : decode cX4_grudge 52 = .ok (.if_icmp .eq 16, 3) := by decide +kernel
theorem dX4_grudge_55 : decode cX4_grudge 55 = .ok (.iload 4, 2) := by decide +kernel
theorem dX4_grudge_57 : decode cX4_grudge 57 = .ok (.iload_n 3, 1) := by decide +kernel
theorem dX4_grudge_58 : decode cX4_grudge 58 = .ok (.if_icmp .ge 10, 3) := by decide +kernel
theorem dX4_grudge_61 : decode cX4_grudge 61 = .ok (.iload_n 1, 1) := by decide +kernel
theorem dX4_grudge_62 : decode cX4_grudge 62 = .ok (.iload_n 3, 1) := by decide +kernel
theorem dX4_grudge_63 : decode cX4_grudge 63 = .ok (.iload 4, 2) := by decide +kernel
theorem dX4_grudge_65 : decode cX4_grudge 65 = .ok (.isub, 1) := by decide +kernel
theorem dX4_grudge_66 : decode cX4_grudge 66 = .ok (.iadd, 1) := by decide +kernel
theorem dX4_grudge_67 : decode cX4_grudge 67 = .ok (.istore_n 1, 1) := by decide +kernel
theorem dX4_grudge_68 : decode cX4_grudge 68 = .ok (.iinc 2 1, 3) := by decide +kernel
theorem dX4_grudge_71 : decode cX4_grudge 71 = .ok (.goto (-59), 3) := by decide +kernel
theorem dX4_grudge_74 : decode cX4_grudge 74 = .ok (.iload_n 1, 1) := by decide +kernel
theorem dX4_grudge_75 : decode cX4_grudge 75 = .ok (.ireturn, 1) := by decide +kernel
theorem dX4_takes_0 : decode cX4_takes 0 = .ok (.iload_n 1, 1) := by decide +kernel
theorem dX4_takes_1 : decode cX4_takes 1 = .ok (.ifCond .eq 10, 3) := by decide +kernel
theorem dX4_takes_4 : decode cX4_takes 4 = .ok (.iload_n 1, 1) := by decide +kernel
theorem dX4_takes_5 : decode cX4_takes 5 = .ok (.iconst 1, 1) := by decide +kernel
theorem dX4_takes_6 : decode cX4_takes 6 = .ok (.if_icmp .eq 5, 3) := by decide +kernel
theorem dX4_takes_9 : decode cX4_takes 9 = .ok (.iconst (-1), 1) := by decide +kernel
theorem dX4_takes_10 : decode cX4_takes 10 = .ok (.ireturn, 1) := by decide +kernel
theorem dX4_takes_11 : decode cX4_takes 11 = .ok (.aload_n 0, 1) := by decide +kernel
theorem dX4_takes_12 : decode cX4_takes 12 = .ok (.getfield 32, 3) := by decide +kernel
theorem dX4_takes_15 : decode cX4_takes 15 = .ok (.aload_n 0, 1) := by decide +kernel
theorem dX4_takes_16 : decode cX4_takes 16 = .ok (.getfield 19, 3) := by decide +kernel
theorem dX4_takes_19 : decode cX4_takes 19 = .ok (.invokevirtual 177, 3) := by decide +kernel
theorem dX4_takes_22 : decode cX4_takes 22 = .ok (.aload_n 0, 1) := by decide +kernel
theorem dX4_takes_23 : decode cX4_takes 23 = .ok (.getfield 32, 3) := by decide +kernel
theorem dX4_takes_26 : decode cX4_takes 26 = .ok (.iload_n 1, 1) := by decide +kernel
theorem dX4_takes_27 : decode cX4_takes 27 = .ok (.iconst 1, 1) := by decide +kernel
theorem dX4_takes_28 : decode cX4_takes 28 = .ok (.if_icmp .ne 7, 3) := by decide +kernel
theorem dX4_takes_31 : decode cX4_takes 31 = .ok (.iconst 1, 1) := by decide +kernel
theorem dX4_takes_32 : decode cX4_takes 32 = .ok (.goto 4, 3) := by decide +kernel
theorem dX4_takes_35 : decode cX4_takes 35 = .ok (.iconst 0, 1) := by decide +kernel
theorem dX4_takes_36 : decode cX4_takes 36 = .ok (.invokevirtual 180, 3) := by decide +kernel
theorem dX4_takes_39 : decode cX4_takes 39 = .ok (.ireturn, 1) := by decide +kernel
theorem dX4_tour_0 : decode cX4_tour 0 = .ok (.iload_n 1, 1) := by decide +kernel
theorem dX4_tour_1 : decode cX4_tour 1 = .ok (.iconst (-1), 1) := by decide +kernel
theorem dX4_tour_2 : decode cX4_tour 2 = .ok (.if_icmp .ge 5, 3) := by decide +kernel
theorem dX4_tour_5 : decode cX4_tour 5 = .ok (.iconst (-1), 1) := by decide +kernel
theorem dX4_tour_6 : decode cX4_tour 6 = .ok (.ireturn, 1) := by decide +kernel
theorem dX4_tour_7 : decode cX4_tour 7 = .ok (.aload_n 0, 1) := by decide +kernel
theorem dX4_tour_8 : decode cX4_tour 8 = .ok (.getfield 32, 3) := by decide +kernel
theorem dX4_tour_11 : decode cX4_tour 11 = .ok (.aload_n 0, 1) := by decide +kernel
theorem dX4_tour_12 : decode cX4_tour 12 = .ok (.getfield 19, 3) := by decide +kernel
theorem dX4_tour_15 : decode cX4_tour 15 = .ok (.invokevirtual 177, 3) := by decide +kernel
theorem dX4_tour_18 : decode cX4_tour 18 = .ok (.aload_n 0, 1) := by decide +kernel
theorem dX4_tour_19 : decode cX4_tour 19 = .ok (.getfield 32, 3) := by decide +kernel
theorem dX4_tour_22 : decode cX4_tour 22 = .ok (.getfield 184, 3) := by decide +kernel
theorem dX4_tour_25 : decode cX4_tour 25 = .ok (.ifCond .ne 6, 3) := by decide +kernel
theorem dX4_tour_28 : decode cX4_tour 28 = .ok (.bipush (-4), 2) := by decide +kernel
theorem dX4_tour_30 : decode cX4_tour 30 = .ok (.ireturn, 1) := by decide +kernel
theorem dX4_tour_31 : decode cX4_tour 31 = .ok (.aload_n 0, 1) := by decide +kernel
theorem dX4_tour_32 : decode cX4_tour 32 = .ok (.getfield 32, 3) := by decide +kernel
theorem dX4_tour_35 : decode cX4_tour 35 = .ok (.invokevirtual 187, 3) := by decide +kernel
theorem dX4_tour_38 : decode cX4_tour 38 = .ok (.iload_n 1, 1) := by decide +kernel
theorem dX4_tour_39 : decode cX4_tour 39 = .ok (.iconst (-1), 1) := by decide +kernel
theorem dX4_tour_40 : decode cX4_tour 40 = .ok (.if_icmp .ne 20, 3) := by decide +kernel
theorem dX4_tour_43 : decode cX4_tour 43 = .ok (.aload_n 0, 1) := by decide +kernel
theorem dX4_tour_44 : decode cX4_tour 44 = .ok (.getfield 32, 3) := by decide +kernel
theorem dX4_tour_47 : decode cX4_tour 47 = .ok (.aload_n 0, 1) := by decide +kernel
theorem dX4_tour_48 : decode cX4_tour 48 = .ok (.getfield 32, 3) := by decide +kernel
theorem dX4_tour_51 : decode cX4_tour 51 = .ok (.getfield 184, 3) := by decide +kernel
theorem dX4_tour_54 : decode cX4_tour 54 = .ok (.invokevirtual 190, 3) := by decide +kernel
theorem dX4_tour_57 : decode cX4_tour 57 = .ok (.goto 11, 3) := by decide +kernel
theorem dX4_tour_60 : decode cX4_tour 60 = .ok (.aload_n 0, 1) := by decide +kernel
theorem dX4_tour_61 : decode cX4_tour 61 = .ok (.getfield 32, 3) := by decide +kernel
theorem dX4_tour_64 : decode cX4_tour 64 = .ok (.iload_n 1, 1) := by decide +kernel
theorem dX4_tour_65 : decode cX4_tour 65 = .ok (.invokevirtual 193, 3) := by decide +kernel
theorem dX4_tour_68 : decode cX4_tour 68 = .ok (.ireturn, 1) := by decide +kernel
theorem dX4_enough_0 : decode cX4_enough 0 = .ok (.aload_n 0, 1) := by decide +kernel
theorem dX4_enough_1 : decode cX4_enough 1 = .ok (.getfield 32, 3) := by decide +kernel
theorem dX4_enough_4 : decode cX4_enough 4 = .ok (.aload_n 0, 1) := by decide +kernel
theorem dX4_enough_5 : decode cX4_enough 5 = .ok (.getfield 19, 3) := by decide +kernel
theorem dX4_enough_8 : decode cX4_enough 8 = .ok (.invokevirtual 177, 3) := by decide +kernel
theorem dX4_enough_11 : decode cX4_enough 11 = .ok (.aload_n 0, 1) := by decide +kernel
theorem dX4_enough_12 : decode cX4_enough 12 = .ok (.getfield 32, 3) := by decide +kernel
theorem dX4_enough_15 : decode cX4_enough 15 = .ok (.invokevirtual 187, 3) := by decide +kernel
theorem dX4_enough_18 : decode cX4_enough 18 = .ok (.aload_n 0, 1) := by decide +kernel
theorem dX4_enough_19 : decode cX4_enough 19 = .ok (.getfield 32, 3) := by decide +kernel
theorem dX4_enough_22 : decode cX4_enough 22 = .ok (.aload_n 0, 1) := by decide +kernel
theorem dX4_enough_23 : decode cX4_enough 23 = .ok (.getfield 32, 3) := by decide +kernel
theorem dX4_enough_26 : decode cX4_enough 26 = .ok (.getfield 184, 3) := by decide +kernel
theorem dX4_enough_29 : decode cX4_enough 29 = .ok (.invokevirtual 190, 3) := by decide +kernel
theorem dX4_enough_32 : decode cX4_enough 32 = .ok (.aload_n 0, 1) := by decide +kernel
theorem dX4_enough_33 : decode cX4_enough 33 = .ok (.getfield 19, 3) := by decide +kernel
theorem dX4_enough_36 : decode cX4_enough 36 = .ok (.getfield 196, 3) := by decide +kernel
theorem dX4_enough_39 : decode cX4_enough 39 = .ok (.if_icmp .gt 7, 3) := by decide +kernel
theorem dX4_enough_42 : decode cX4_enough 42 = .ok (.iconst 1, 1) := by decide +kernel
theorem dX4_enough_43 : decode cX4_enough 43 = .ok (.goto 4, 3) := by decide +kernel
theorem dX4_enough_46 : decode cX4_enough 46 = .ok (.iconst 0, 1) := by decide +kernel
theorem dX4_enough_47 : decode cX4_enough 47 = .ok (.ireturn, 1) := by decide +kernel
theorem dX4_leave_0 : decode cX4_leave 0 = .ok (.aload_n 0, 1) := by decide +kernel
theorem dX4_leave_1 : decode cX4_leave 1 = .ok (.getfield 32, 3) := by decide +kernel
theorem dX4_leave_4 : decode cX4_leave 4 = .ok (.aload_n 0, 1) := by decide +kernel
theorem dX4_leave_5 : decode cX4_leave 5 = .ok (.getfield 19, 3) := by decide +kernel
theorem dX4_leave_8 : decode cX4_leave 8 = .ok (.invokevirtual 177, 3) := by decide +kernel
theorem dX4_leave_11 : decode cX4_leave 11 = .ok (.aload_n 0, 1) := by decide +kernel
theorem dX4_leave_12 : decode cX4_leave 12 = .ok (.getfield 32, 3) := by decide +kernel
theorem dX4_leave_15 : decode cX4_leave 15 = .ok (.invokevirtual 187, 3) := by decide +kernel
theorem dX4_leave_18 : decode cX4_leave 18 = .ok (.aload_n 0, 1) := by decide +kernel
theorem dX4_leave_19 : decode cX4_leave 19 = .ok (.getfield 32, 3) := by decide +kernel
theorem dX4_leave_22 : decode cX4_leave 22 = .ok (.aload_n 0, 1) := by decide +kernel
theorem dX4_leave_23 : decode cX4_leave 23 = .ok (.getfield 19, 3) := by decide +kernel
theorem dX4_leave_26 : decode cX4_leave 26 = .ok (.getfield 196, 3) := by decide +kernel
theorem dX4_leave_29 : decode cX4_leave 29 = .ok (.invokevirtual 199, 3) := by decide +kernel
theorem dX4_leave_32 : decode cX4_leave 32 = .ok (.ireturn, 1) := by decide +kernel
theorem dX4_seen_0 : decode cX4_seen 0 = .ok (.aload_n 0, 1) := by decide +kernel
theorem dX4_seen_1 : decode cX4_seen 1 = .ok (.getfield 19, 3) := by decide +kernel
theorem dX4_seen_4 : decode cX4_seen 4 = .ok (.iload_n 1, 1) := by decide +kernel
theorem dX4_seen_5 : decode cX4_seen 5 = .ok (.invokevirtual 91, 3) := by decide +kernel
theorem dX4_seen_8 : decode cX4_seen 8 = .ok (.ifCond .eq 14, 3) := by decide +kernel
theorem dX4_seen_11 : decode cX4_seen 11 = .ok (.aload_n 0, 1) := by decide +kernel
theorem dX4_seen_12 : decode cX4_seen 12 = .ok (.getfield 19, 3) := by decide +kernel
theorem dX4_seen_15 : decode cX4_seen 15 = .ok (.iload_n 2, 1) := by decide +kernel
theorem dX4_seen_16 : decode cX4_seen 16 = .ok (.invokevirtual 114, 3) := by decide +kernel
theorem dX4_seen_19 : decode cX4_seen 19 = .ok (.ifCond .ne 5, 3) := by decide +kernel
theorem dX4_seen_22 : decode cX4_seen 22 = .ok (.iconst (-1), 1) := by decide +kernel
theorem dX4_seen_23 : decode cX4_seen 23 = .ok (.ireturn, 1) := by decide +kernel
theorem dX4_seen_24 : decode cX4_seen 24 = .ok (.aload_n 0, 1) := by decide +kernel
theorem dX4_seen_25 : decode cX4_seen 25 = .ok (.getfield 88, 3) := by decide +kernel
theorem dX4_seen_28 : decode cX4_seen 28 = .ok (.ifCond .lt 12, 3) := by decide +kernel
theorem dX4_seen_31 : decode cX4_seen 31 = .ok (.aload_n 0, 1) := by decide +kernel
theorem dX4_seen_32 : decode cX4_seen 32 = .ok (.getfield 88, 3) := by decide +kernel
theorem dX4_seen_35 : decode cX4_seen 35 = .ok (.bipush 8, 2) := by decide +kernel
theorem dX4_seen_37 : decode cX4_seen 37 = .ok (.if_icmp .lt 6, 3) := by decide +kernel
theorem dX4_seen_40 : decode cX4_seen 40 = .ok (.bipush (-3), 2) := by decide +kernel
theorem dX4_seen_42 : decode cX4_seen 42 = .ok (.ireturn, 1) := by decide +kernel
theorem dX4_seen_43 : decode cX4_seen 43 = .ok (.aload_n 0, 1) := by decide +kernel
theorem dX4_seen_44 : decode cX4_seen 44 = .ok (.getfield 48, 3) := by decide +kernel
theorem dX4_seen_47 : decode cX4_seen 47 = .ok (.aload_n 0, 1) := by decide +kernel
theorem dX4_seen_48 : decode cX4_seen 48 = .ok (.getfield 88, 3) := by decide +kernel
theorem dX4_seen_51 : decode cX4_seen 51 = .ok (.iload_n 1, 1) := by decide +kernel
theorem dX4_seen_52 : decode cX4_seen 52 = .ok (.iastore, 1) := by decide +kernel
theorem dX4_seen_53 : decode cX4_seen 53 = .ok (.aload_n 0, 1) := by decide +kernel
theorem dX4_seen_54 : decode cX4_seen 54 = .ok (.getfield 52, 3) := by decide +kernel
theorem dX4_seen_57 : decode cX4_seen 57 = .ok (.aload_n 0, 1) := by decide +kernel
theorem dX4_seen_58 : decode cX4_seen 58 = .ok (.getfield 88, 3) := by decide +kernel
theorem dX4_seen_61 : decode cX4_seen 61 = .ok (.iload_n 2, 1) := by decide +kernel
theorem dX4_seen_62 : decode cX4_seen 62 = .ok (.iastore, 1) := by decide +kernel
theorem dX4_seen_63 : decode cX4_seen 63 = .ok (.aload_n 0, 1) := by decide +kernel
theorem dX4_seen_64 : decode cX4_seen 64 = .ok (.dup, 1) := by decide +kernel
theorem dX4_seen_65 : decode cX4_seen 65 = .ok (.getfield 88, 3) := by decide +kernel
theorem dX4_seen_68 : decode cX4_seen 68 = .ok (.iconst 1, 1) := by decide +kernel
theorem dX4_seen_69 : decode cX4_seen 69 = .ok (.iadd, 1) := by decide +kernel
theorem dX4_seen_70 : decode cX4_seen 70 = .ok (.putfield 88, 3) := by decide +kernel
theorem dX4_seen_73 : decode cX4_seen 73 = .ok (.aload_n 0, 1) := by decide +kernel
theorem dX4_seen_74 : decode cX4_seen 74 = .ok (.getfield 88, 3) := by decide +kernel
theorem dX4_seen_77 : decode cX4_seen 77 = .ok (.ireturn, 1) := by decide +kernel
theorem dX4_forget_0 : decode cX4_forget 0 = .ok (.aload_n 0, 1) := by decide +kernel
theorem dX4_forget_1 : decode cX4_forget 1 = .ok (.getfield 88, 3) := by decide +kernel
theorem dX4_forget_4 : decode cX4_forget 4 = .ok (.istore_n 1, 1) := by decide +kernel
theorem dX4_forget_5 : decode cX4_forget 5 = .ok (.aload_n 0, 1) := by decide +kernel
theorem dX4_forget_6 : decode cX4_forget 6 = .ok (.iconst 0, 1) := by decide +kernel
theorem dX4_forget_7 : decode cX4_forget 7 = .ok (.putfield 88, 3) := by decide +kernel
theorem dX4_forget_10 : decode cX4_forget 10 = .ok (.iload_n 1, 1) := by decide +kernel
theorem dX4_forget_11 : decode cX4_forget 11 = .ok (.ireturn, 1) := by decide +kernel
theorem dX4_was_0 : decode cX4_was 0 = .ok (.aload_n 0, 1) := by decide +kernel
theorem dX4_was_1 : decode cX4_was 1 = .ok (.getfield 19, 3) := by decide +kernel
theorem dX4_was_4 : decode cX4_was 4 = .ok (.iload_n 1, 1) := by decide +kernel
theorem dX4_was_5 : decode cX4_was 5 = .ok (.invokevirtual 91, 3) := by decide +kernel
theorem dX4_was_8 : decode cX4_was 8 = .ok (.ifCond .ne 5, 3) := by decide +kernel
theorem dX4_was_11 : decode cX4_was 11 = .ok (.iconst (-1), 1) := by decide +kernel
theorem dX4_was_12 : decode cX4_was 12 = .ok (.ireturn, 1) := by decide +kernel
theorem dX4_was_13 : decode cX4_was 13 = .ok (.iconst 0, 1) := by decide +kernel
theorem dX4_was_14 : decode cX4_was 14 = .ok (.istore_n 2, 1) := by decide +kernel
theorem dX4_was_15 : decode cX4_was 15 = .ok (.iconst 0, 1) := by decide +kernel
theorem dX4_was_16 : decode cX4_was 16 = .ok (.istore_n 3, 1) := by decide +kernel
theorem dX4_was_17 : decode cX4_was 17 = .ok (.iload_n 3, 1) := by decide +kernel
theorem dX4_was_18 : decode cX4_was 18 = .ok (.bipush 9, 2) := by decide +kernel
theorem dX4_was_20 : decode cX4_was 20 = .ok (.if_icmp .gt 49, 3) := by decide +kernel
theorem dX4_was_23 : decode cX4_was 23 = .ok (.aload_n 0, 1) := by decide +kernel
theorem dX4_was_24 : decode cX4_was 24 = .ok (.getfield 23, 3) := by decide +kernel
theorem dX4_was_27 : decode cX4_was 27 = .ok (.aload_n 0, 1) := by decide +kernel
theorem dX4_was_28 : decode cX4_was 28 = .ok (.getfield 19, 3) := by decide +kernel
theorem dX4_was_31 : decode cX4_was 31 = .ok (.invokevirtual 81, 3) := by decide +kernel
theorem dX4_was_34 : decode cX4_was 34 = .ok (.aload_n 0, 1) := by decide +kernel
theorem dX4_was_35 : decode cX4_was 35 = .ok (.getfield 23, 3) := by decide +kernel
theorem dX4_was_38 : decode cX4_was 38 = .ok (.iload_n 1, 1) := by decide +kernel
theorem dX4_was_39 : decode cX4_was 39 = .ok (.iload_n 3, 1) := by decide +kernel
theorem dX4_was_40 : decode cX4_was 40 = .ok (.invokevirtual 148, 3) := by decide +kernel
theorem dX4_was_43 : decode cX4_was 43 = .ok (.aload_n 0, 1) := by decide +kernel
theorem dX4_was_44 : decode cX4_was 44 = .ok (.getfield 23, 3) := by decide +kernel
theorem dX4_was_47 : decode cX4_was 47 = .ok (.invokevirtual 202, 3) := by decide +kernel
theorem dX4_was_50 : decode cX4_was 50 = .ok (.aload_n 0, 1) := by decide +kernel
theorem dX4_was_51 : decode cX4_was 51 = .ok (.invokevirtual 205, 3) := by decide +kernel
theorem dX4_was_54 : decode cX4_was 54 = .ok (.ifCond .eq 9, 3) := by decide +kernel
theorem dX4_was_57 : decode cX4_was 57 = .ok (.iload_n 2, 1) := by decide +kernel
theorem dX4_was_58 : decode cX4_was 58 = .ok (.iconst 1, 1) := by decide +kernel
theorem dX4_was_59 : decode cX4_was 59 = .ok (.iload_n 3, 1) := by decide +kernel
theorem dX4_was_60 : decode cX4_was 60 = .ok (.ishl, 1) := by decide +kernel
theorem dX4_was_61 : decode cX4_was 61 = .ok (.ior, 1) := by decide +kernel
theorem dX4_was_62 : decode cX4_was 62 = .ok (.istore_n 2, 1) := by decide +kernel
theorem dX4_was_63 : decode cX4_was 63 = .ok (.iinc 3 1, 3) := by decide +kernel
theorem dX4_was_66 : decode cX4_was 66 = .ok (.goto (-49), 3) := by decide +kernel
theorem dX4_was_69 : decode cX4_was 69 = .ok (.iload_n 2, 1) := by decide +kernel
theorem dX4_was_70 : decode cX4_was 70 = .ok (.ireturn, 1) := by decide +kernel
theorem dX4_owed_0 : decode cX4_owed 0 = .ok (.iload_n 1, 1) := by decide +kernel
theorem dX4_owed_1 : decode cX4_owed 1 = .ok (.invokestatic 111, 3) := by decide +kernel
theorem dX4_owed_4 : decode cX4_owed 4 = .ok (.ifCond .eq 14, 3) := by decide +kernel
theorem dX4_owed_7 : decode cX4_owed 7 = .ok (.aload_n 0, 1) := by decide +kernel
theorem dX4_owed_8 : decode cX4_owed 8 = .ok (.getfield 19, 3) := by decide +kernel
theorem dX4_owed_11 : decode cX4_owed 11 = .ok (.iload_n 1, 1) := by decide +kernel
theorem dX4_owed_12 : decode cX4_owed 12 = .ok (.invokevirtual 209, 3) := by decide +kernel
theorem dX4_owed_15 : decode cX4_owed 15 = .ok (.goto 4, 3) := by decide +kernel
theorem dX4_owed_18 : decode cX4_owed 18 = .ok (.iconst (-1), 1) := by decide +kernel
theorem dX4_owed_19 : decode cX4_owed 19 = .ok (.ireturn, 1) := by decide +kernel
theorem dX4_balance_0 : decode cX4_balance 0 = .ok (.sipush 200, 3) := by decide +kernel
theorem dX4_balance_3 : decode cX4_balance 3 = .ok (.aload_n 0, 1) := by decide +kernel
theorem dX4_balance_4 : decode cX4_balance 4 = .ok (.getfield 19, 3) := by decide +kernel
theorem dX4_balance_7 : decode cX4_balance 7 = .ok (.iconst 0, 1) := by decide +kernel
theorem dX4_balance_8 : decode cX4_balance 8 = .ok (.invokevirtual 212, 3) := by decide +kernel
theorem dX4_balance_11 : decode cX4_balance 11 = .ok (.iadd, 1) := by decide +kernel
theorem dX4_balance_12 : decode cX4_balance 12 = .ok (.aload_n 0, 1) := by decide +kernel
theorem dX4_balance_13 : decode cX4_balance 13 = .ok (.getfield 19, 3) := by decide +kernel
theorem dX4_balance_16 : decode cX4_balance 16 = .ok (.iconst 1, 1) := by decide +kernel
theorem dX4_balance_17 : decode cX4_balance 17 = .ok (.invokevirtual 212, 3) := by decide +kernel
theorem dX4_balance_20 : decode cX4_balance 20 = .ok (.isub, 1) := by decide +kernel
theorem dX4_balance_21 : decode cX4_balance 21 = .ok (.ireturn, 1) := by decide +kernel
theorem dX4_names_0 : decode cX4_names 0 = .ok (.iload_n 1, 1) := by decide +kernel
theorem dX4_names_1 : decode cX4_names 1 = .ok (.ifCond .lt 9, 3) := by decide +kernel
theorem dX4_names_4 : decode cX4_names 4 = .ok (.iload_n 1, 1) := by decide +kernel
theorem dX4_names_5 : decode cX4_names 5 = .ok (.bipush 20, 2) := by decide +kernel
theorem dX4_names_7 : decode cX4_names 7 = .ok (.if_icmp .le 5, 3) := by decide +kernel
theorem dX4_names_10 : decode cX4_names 10 = .ok (.iconst (-1), 1) := by decide +kernel
theorem dX4_names_11 : decode cX4_names 11 = .ok (.ireturn, 1) := by decide +kernel
theorem dX4_names_12 : decode cX4_names 12 = .ok (.aload_n 0, 1) := by decide +kernel
theorem dX4_names_13 : decode cX4_names 13 = .ok (.getfield 19, 3) := by decide +kernel
theorem dX4_names_16 : decode cX4_names 16 = .ok (.invokevirtual 215, 3) := by decide +kernel
theorem dX4_names_19 : decode cX4_names 19 = .ok (.istore_n 2, 1) := by decide +kernel
theorem dX4_names_20 : decode cX4_names 20 = .ok (.iconst 0, 1) := by decide +kernel
theorem dX4_names_21 : decode cX4_names 21 = .ok (.istore_n 3, 1) := by decide +kernel
theorem dX4_names_22 : decode cX4_names 22 = .ok (.iload_n 3, 1) := by decide +kernel
theorem dX4_names_23 : decode cX4_names 23 = .ok (.iload_n 1, 1) := by decide +kernel
theorem dX4_names_24 : decode cX4_names 24 = .ok (.if_icmp .ge 22, 3) := by decide +kernel
theorem dX4_names_27 : decode cX4_names 27 = .ok (.iload_n 2, 1) := by decide +kernel
theorem dX4_names_28 : decode cX4_names 28 = .ok (.aload_n 0, 1) := by decide +kernel
theorem dX4_names_29 : decode cX4_names 29 = .ok (.iload_n 2, 1) := by decide +kernel
theorem dX4_names_30 : decode cX4_names 30 = .ok (.iload_n 3, 1) := by decide +kernel
theorem dX4_names_31 : decode cX4_names 31 = .ok (.iconst 1, 1) := by decide +kernel
theorem dX4_names_32 : decode cX4_names 32 = .ok (.iand, 1) := by decide +kernel
theorem dX4_names_33 : decode cX4_names 33 = .ok (.invokevirtual 218, 3) := by decide +kernel
theorem dX4_names_36 : decode cX4_names 36 = .ok (.iconst (-1), 1) := by decide +kernel
theorem dX4_names_37 : decode cX4_names 37 = .ok (.ixor, 1) := by decide +kernel
theorem dX4_names_38 : decode cX4_names 38 = .ok (.iand, 1) := by decide +kernel
theorem dX4_names_39 : decode cX4_names 39 = .ok (.istore_n 2, 1) := by decide +kernel
theorem dX4_names_40 : decode cX4_names 40 = .ok (.iinc 3 1, 3) := by decide +kernel
theorem dX4_names_43 : decode cX4_names 43 = .ok (.goto (-21), 3) := by decide +kernel
theorem dX4_names_46 : decode cX4_names 46 = .ok (.iload_n 2, 1) := by decide +kernel
theorem dX4_names_47 : decode cX4_names 47 = .ok (.ireturn, 1) := by decide +kernel
theorem dX4_next_0 : decode cX4_next 0 = .ok (.iload_n 1, 1) := by decide +kernel
theorem dX4_next_1 : decode cX4_next 1 = .ok (.iload_n 2, 1) := by decide +kernel
theorem dX4_next_2 : decode cX4_next 2 = .ok (.iload_n 3, 1) := by decide +kernel
theorem dX4_next_3 : decode cX4_next 3 = .ok (.invokestatic 130, 3) := by decide +kernel
theorem dX4_next_6 : decode cX4_next 6 = .ok (.ifCond .ne 5, 3) := by decide +kernel
theorem dX4_next_9 : decode cX4_next 9 = .ok (.iconst (-1), 1) := by decide +kernel
theorem dX4_next_10 : decode cX4_next 10 = .ok (.ireturn, 1) := by decide +kernel
theorem dX4_next_11 : decode cX4_next 11 = .ok (.aload_n 0, 1) := by decide +kernel
theorem dX4_next_12 : decode cX4_next 12 = .ok (.getfield 19, 3) := by decide +kernel
theorem dX4_next_15 : decode cX4_next 15 = .ok (.iconst 1, 1) := by decide +kernel
theorem dX4_next_16 : decode cX4_next 16 = .ok (.iload_n 1, 1) := by decide +kernel
theorem dX4_next_17 : decode cX4_next 17 = .ok (.isub, 1) := by decide +kernel
theorem dX4_next_18 : decode cX4_next 18 = .ok (.iload_n 2, 1) := by decide +kernel
theorem dX4_next_19 : decode cX4_next 19 = .ok (.iload_n 3, 1) := by decide +kernel
theorem dX4_next_20 : decode cX4_next 20 = .ok (.invokevirtual 221, 3) := by decide +kernel
theorem dX4_next_23 : decode cX4_next 23 = .ok (.ireturn, 1) := by decide +kernel
theorem dX4_year_0 : decode cX4_year 0 = .ok (.iload_n 1, 1) := by decide +kernel
theorem dX4_year_1 : decode cX4_year 1 = .ok (.ifCond .lt 21, 3) := by decide +kernel
theorem dX4_year_4 : decode cX4_year 4 = .ok (.iload_n 1, 1) := by decide +kernel
theorem dX4_year_5 : decode cX4_year 5 = .ok (.sipush 9999, 3) := by decide +kernel
theorem dX4_year_8 : decode cX4_year 8 = .ok (.if_icmp .gt 14, 3) := by decide +kernel
theorem dX4_year_11 : decode cX4_year 11 = .ok (.iload_n 2, 1) := by decide +kernel
theorem dX4_year_12 : decode cX4_year 12 = .ok (.iconst 1, 1) := by decide +kernel
theorem dX4_year_13 : decode cX4_year 13 = .ok (.if_icmp .lt 9, 3) := by decide +kernel
theorem dX4_year_16 : decode cX4_year 16 = .ok (.iload_n 2, 1) := by decide +kernel
theorem dX4_year_17 : decode cX4_year 17 = .ok (.bipush 30, 2) := by decide +kernel
theorem dX4_year_19 : decode cX4_year 19 = .ok (.if_icmp .le 5, 3) := by decide +kernel
theorem dX4_year_22 : decode cX4_year 22 = .ok (.iconst (-1), 1) := by decide +kernel
theorem dX4_year_23 : decode cX4_year 23 = .ok (.ireturn, 1) := by decide +kernel
theorem dX4_year_24 : decode cX4_year 24 = .ok (.iload_n 3, 1) := by decide +kernel
theorem dX4_year_25 : decode cX4_year 25 = .ok (.ifCond .eq 10, 3) := by decide +kernel
theorem dX4_year_28 : decode cX4_year 28 = .ok (.iload_n 3, 1) := by decide +kernel
theorem dX4_year_29 : decode cX4_year 29 = .ok (.iconst 1, 1) := by decide +kernel
theorem dX4_year_30 : decode cX4_year 30 = .ok (.if_icmp .eq 5, 3) := by decide +kernel
theorem dX4_year_33 : decode cX4_year 33 = .ok (.iconst (-1), 1) := by decide +kernel
theorem dX4_year_34 : decode cX4_year 34 = .ok (.ireturn, 1) := by decide +kernel
theorem dX4_year_35 : decode cX4_year 35 = .ok (.aload_n 0, 1) := by decide +kernel
theorem dX4_year_36 : decode cX4_year 36 = .ok (.getfield 26, 3) := by decide +kernel
theorem dX4_year_39 : decode cX4_year 39 = .ok (.aload_n 0, 1) := by decide +kernel
theorem dX4_year_40 : decode cX4_year 40 = .ok (.getfield 19, 3) := by decide +kernel
theorem dX4_year_43 : decode cX4_year 43 = .ok (.invokevirtual 81, 3) := by decide +kernel
theorem dX4_year_46 : decode cX4_year 46 = .ok (.iconst 0, 1) := by decide +kernel
theorem dX4_year_47 : decode cX4_year 47 = .ok (.istore 4, 2) := by decide +kernel
theorem dX4_year_49 : decode cX4_year 49 = .ok (.iload 4, 2) := by decide +kernel
theorem dX4_year_51 : decode cX4_year 51 = .ok (.iload_n 2, 1) := by decide +kernel
theorem dX4_year_52 : decode cX4_year 52 = .ok (.if_icmp .ge 22, 3) := by decide +kernel
theorem dX4_year_55 : decode cX4_year 55 = .ok (.aload_n 0, 1) := by decide +kernel
theorem dX4_year_56 : decode cX4_year 56 = .ok (.getfield 26, 3) := by decide +kernel
theorem dX4_year_59 : decode cX4_year 59 = .ok (.iload_n 1, 1) := by decide +kernel
theorem dX4_year_60 : decode cX4_year 60 = .ok (.iload 4, 2) := by decide +kernel
theorem dX4_year_62 : decode cX4_year 62 = .ok (.invokestatic 224, 3) := by decide +kernel
theorem dX4_year_65 : decode cX4_year 65 = .ok (.invokestatic 227, 3) := by decide +kernel
theorem dX4_year_68 : decode cX4_year 68 = .ok (.iinc 4 1, 3) := by decide +kernel
theorem dX4_year_71 : decode cX4_year 71 = .ok (.goto (-22), 3) := by decide +kernel
theorem dX4_year_74 : decode cX4_year 74 = .ok (.iload_n 3, 1) := by decide +kernel
theorem dX4_year_75 : decode cX4_year 75 = .ok (.ifCond .ne 23, 3) := by decide +kernel
theorem dX4_year_78 : decode cX4_year 78 = .ok (.aload_n 0, 1) := by decide +kernel
theorem dX4_year_79 : decode cX4_year 79 = .ok (.getfield 26, 3) := by decide +kernel
theorem dX4_year_82 : decode cX4_year 82 = .ok (.iconst 0, 1) := by decide +kernel
theorem dX4_year_83 : decode cX4_year 83 = .ok (.invokevirtual 209, 3) := by decide +kernel
theorem dX4_year_86 : decode cX4_year 86 = .ok (.aload_n 0, 1) := by decide +kernel
theorem dX4_year_87 : decode cX4_year 87 = .ok (.getfield 26, 3) := by decide +kernel
theorem dX4_year_90 : decode cX4_year 90 = .ok (.iconst 1, 1) := by decide +kernel
theorem dX4_year_91 : decode cX4_year 91 = .ok (.invokevirtual 209, 3) := by decide +kernel
theorem dX4_year_94 : decode cX4_year 94 = .ok (.iadd, 1) := by decide +kernel
theorem dX4_year_95 : decode cX4_year 95 = .ok (.goto 14, 3) := by decide +kernel
theorem dX4_year_98 : decode cX4_year 98 = .ok (.aload_n 0, 1) := by decide +kernel
theorem dX4_year_99 : decode cX4_year 99 = .ok (.aload_n 0, 1) := by decide +kernel
theorem dX4_year_100 : decode cX4_year 100 = .ok (.getfield 26, 3) := by decide +kernel
theorem dX4_year_103 : decode cX4_year 103 = .ok (.invokevirtual 170, 3) := by decide +kernel
theorem dX4_year_106 : decode cX4_year 106 = .ok (.invokestatic 231, 3) := by decide +kernel
theorem dX4_year_109 : decode cX4_year 109 = .ok (.ireturn, 1) := by decide +kernel
theorem dX4_keep_0 : decode cX4_keep 0 = .ok (.aload_n 0, 1) := by decide +kernel
theorem dX4_keep_1 : decode cX4_keep 1 = .ok (.getfield 45, 3) := by decide +kernel
theorem dX4_keep_4 : decode cX4_keep 4 = .ok (.getfield 161, 3) := by decide +kernel
theorem dX4_keep_7 : decode cX4_keep 7 = .ok (.iconst 2, 1) := by decide +kernel
theorem dX4_keep_8 : decode cX4_keep 8 = .ok (.if_icmp .lt 6, 3) := by decide +kernel
theorem dX4_keep_11 : decode cX4_keep 11 = .ok (.bipush (-3), 2) := by decide +kernel
theorem dX4_keep_13 : decode cX4_keep 13 = .ok (.ireturn, 1) := by decide +kernel
theorem dX4_keep_14 : decode cX4_keep 14 = .ok (.aload_n 0, 1) := by decide +kernel
theorem dX4_keep_15 : decode cX4_keep 15 = .ok (.getfield 45, 3) := by decide +kernel
theorem dX4_keep_18 : decode cX4_keep 18 = .ok (.aload_n 0, 1) := by decide +kernel
theorem dX4_keep_19 : decode cX4_keep 19 = .ok (.getfield 19, 3) := by decide +kernel
theorem dX4_keep_22 : decode cX4_keep 22 = .ok (.invokevirtual 134, 3) := by decide +kernel
theorem dX4_keep_25 : decode cX4_keep 25 = .ok (.aload_n 0, 1) := by decide +kernel
theorem dX4_keep_26 : decode cX4_keep 26 = .ok (.getfield 45, 3) := by decide +kernel
theorem dX4_keep_29 : decode cX4_keep 29 = .ok (.getfield 161, 3) := by decide +kernel
theorem dX4_keep_32 : decode cX4_keep 32 = .ok (.ireturn, 1) := by decide +kernel
theorem dX4_back_0 : decode cX4_back 0 = .ok (.aload_n 0, 1) := by decide +kernel
theorem dX4_back_1 : decode cX4_back 1 = .ok (.getfield 45, 3) := by decide +kernel
theorem dX4_back_4 : decode cX4_back 4 = .ok (.getfield 161, 3) := by decide +kernel
theorem dX4_back_7 : decode cX4_back 7 = .ok (.ifCond .ne 6, 3) := by decide +kernel
theorem dX4_back_10 : decode cX4_back 10 = .ok (.bipush (-2), 2) := by decide +kernel
theorem dX4_back_12 : decode cX4_back 12 = .ok (.ireturn, 1) := by decide +kernel
theorem dX4_back_13 : decode cX4_back 13 = .ok (.aload_n 0, 1) := by decide +kernel
theorem dX4_back_14 : decode cX4_back 14 = .ok (.getfield 45, 3) := by decide +kernel
theorem dX4_back_17 : decode cX4_back 17 = .ok (.aload_n 0, 1) := by decide +kernel
theorem dX4_back_18 : decode cX4_back 18 = .ok (.getfield 19, 3) := by decide +kernel
theorem dX4_back_21 : decode cX4_back 21 = .ok (.invokevirtual 164, 3) := by decide +kernel
theorem dX4_back_24 : decode cX4_back 24 = .ok (.aload_n 0, 1) := by decide +kernel
theorem dX4_back_25 : decode cX4_back 25 = .ok (.getfield 41, 3) := by decide +kernel
theorem dX4_back_28 : decode cX4_back 28 = .ok (.invokevirtual 85, 3) := by decide +kernel
theorem dX4_back_31 : decode cX4_back 31 = .ok (.aload_n 0, 1) := by decide +kernel
theorem dX4_back_32 : decode cX4_back 32 = .ok (.getfield 45, 3) := by decide +kernel
theorem dX4_back_35 : decode cX4_back 35 = .ok (.getfield 161, 3) := by decide +kernel
theorem dX4_back_38 : decode cX4_back 38 = .ok (.ireturn, 1) := by decide +kernel
theorem dX4_count_0 : decode cX4_count 0 = .ok (.iload_n 1, 1) := by decide +kernel
theorem dX4_count_1 : decode cX4_count 1 = .ok (.tableswitch 120 0 8 #[51, 59, 67, 75, 83, 91, 96, 104, 112], 51) := by decide +kernel
theorem dX4_count_52 : decode cX4_count 52 = .ok (.aload_n 0, 1) := by decide +kernel
theorem dX4_count_53 : decode cX4_count 53 = .ok (.getfield 19, 3) := by decide +kernel
theorem dX4_count_56 : decode cX4_count 56 = .ok (.getfield 78, 3) := by decide +kernel
theorem dX4_count_59 : decode cX4_count 59 = .ok (.ireturn, 1) := by decide +kernel
theorem dX4_count_60 : decode cX4_count 60 = .ok (.aload_n 0, 1) := by decide +kernel
theorem dX4_count_61 : decode cX4_count 61 = .ok (.getfield 19, 3) := by decide +kernel
theorem dX4_count_64 : decode cX4_count 64 = .ok (.getfield 155, 3) := by decide +kernel
theorem dX4_count_67 : decode cX4_count 67 = .ok (.ireturn, 1) := by decide +kernel
theorem dX4_count_68 : decode cX4_count 68 = .ok (.aload_n 0, 1) := by decide +kernel
theorem dX4_count_69 : decode cX4_count 69 = .ok (.getfield 19, 3) := by decide +kernel
theorem dX4_count_72 : decode cX4_count 72 = .ok (.getfield 236, 3) := by decide +kernel
theorem dX4_count_75 : decode cX4_count 75 = .ok (.ireturn, 1) := by decide +kernel
theorem dX4_count_76 : decode cX4_count 76 = .ok (.aload_n 0, 1) := by decide +kernel
theorem dX4_count_77 : decode cX4_count 77 = .ok (.getfield 19, 3) := by decide +kernel
theorem dX4_count_80 : decode cX4_count 80 = .ok (.getfield 196, 3) := by decide +kernel
theorem dX4_count_83 : decode cX4_count 83 = .ok (.ireturn, 1) := by decide +kernel
theorem dX4_count_84 : decode cX4_count 84 = .ok (.aload_n 0, 1) := by decide +kernel
theorem dX4_count_85 : decode cX4_count 85 = .ok (.getfield 19, 3) := by decide +kernel
theorem dX4_count_88 : decode cX4_count 88 = .ok (.invokevirtual 239, 3) := by decide +kernel
theorem dX4_count_91 : decode cX4_count 91 = .ok (.ireturn, 1) := by decide +kernel
theorem dX4_count_92 : decode cX4_count 92 = .ok (.aload_n 0, 1) := by decide +kernel
theorem dX4_count_93 : decode cX4_count 93 = .ok (.getfield 88, 3) := by decide +kernel
theorem dX4_count_96 : decode cX4_count 96 = .ok (.ireturn, 1) := by decide +kernel
theorem dX4_count_97 : decode cX4_count 97 = .ok (.aload_n 0, 1) := by decide +kernel
theorem dX4_count_98 : decode cX4_count 98 = .ok (.getfield 41, 3) := by decide +kernel
theorem dX4_count_101 : decode cX4_count 101 = .ok (.getfield 161, 3) := by decide +kernel
theorem dX4_count_104 : decode cX4_count 104 = .ok (.ireturn, 1) := by decide +kernel
theorem dX4_count_105 : decode cX4_count 105 = .ok (.aload_n 0, 1) := by decide +kernel
theorem dX4_count_106 : decode cX4_count 106 = .ok (.getfield 45, 3) := by decide +kernel
theorem dX4_count_109 : decode cX4_count 109 = .ok (.getfield 161, 3) := by decide +kernel
theorem dX4_count_112 : decode cX4_count 112 = .ok (.ireturn, 1) := by decide +kernel
theorem dX4_count_113 : decode cX4_count 113 = .ok (.aload_n 0, 1) := by decide +kernel
theorem dX4_count_114 : decode cX4_count 114 = .ok (.getfield 10, 3) := by decide +kernel
theorem dX4_count_117 : decode cX4_count 117 = .ok (.getfield 75, 3) := by decide +kernel
theorem dX4_count_120 : decode cX4_count 120 = .ok (.ireturn, 1) := by decide +kernel
theorem dX4_count_121 : decode cX4_count 121 = .ok (.iconst (-1), 1) := by decide +kernel
theorem dX4_count_122 : decode cX4_count 122 = .ok (.ireturn, 1) := by decide +kernel
theorem dX4_isSide_0 : decode cX4_isSide 0 = .ok (.iload_n 0, 1) := by decide +kernel
theorem dX4_isSide_1 : decode cX4_isSide 1 = .ok (.ifCond .eq 8, 3) := by decide +kernel
theorem dX4_isSide_4 : decode cX4_isSide 4 = .ok (.iload_n 0, 1) := by decide +kernel
theorem dX4_isSide_5 : decode cX4_isSide 5 = .ok (.iconst 1, 1) := by decide +kernel
theorem dX4_isSide_6 : decode cX4_isSide 6 = .ok (.if_icmp .ne 7, 3) := by decide +kernel
theorem dX4_isSide_9 : decode cX4_isSide 9 = .ok (.iconst 1, 1) := by decide +kernel
theorem dX4_isSide_10 : decode cX4_isSide 10 = .ok (.goto 4, 3) := by decide +kernel
theorem dX4_isSide_13 : decode cX4_isSide 13 = .ok (.iconst 0, 1) := by decide +kernel
theorem dX4_isSide_14 : decode cX4_isSide 14 = .ok (.ireturn, 1) := by decide +kernel
theorem dX4_isForgiven_0 : decode cX4_isForgiven 0 = .ok (.iload_n 0, 1) := by decide +kernel
theorem dX4_isForgiven_1 : decode cX4_isForgiven 1 = .ok (.ifCond .lt 13, 3) := by decide +kernel
theorem dX4_isForgiven_4 : decode cX4_isForgiven 4 = .ok (.iload_n 0, 1) := by decide +kernel
theorem dX4_isForgiven_5 : decode cX4_isForgiven 5 = .ok (.bipush 9, 2) := by decide +kernel
theorem dX4_isForgiven_7 : decode cX4_isForgiven 7 = .ok (.if_icmp .gt 7, 3) := by decide +kernel
theorem dX4_isForgiven_10 : decode cX4_isForgiven 10 = .ok (.iconst 1, 1) := by decide +kernel
theorem dX4_isForgiven_11 : decode cX4_isForgiven 11 = .ok (.goto 4, 3) := by decide +kernel
theorem dX4_isForgiven_14 : decode cX4_isForgiven 14 = .ok (.iconst 0, 1) := by decide +kernel
theorem dX4_isForgiven_15 : decode cX4_isForgiven 15 = .ok (.ireturn, 1) := by decide +kernel
theorem dX4_isMinutes_0 : decode cX4_isMinutes 0 = .ok (.iload_n 0, 1) := by decide +kernel
theorem dX4_isMinutes_1 : decode cX4_isMinutes 1 = .ok (.iconst 1, 1) := by decide +kernel
theorem dX4_isMinutes_2 : decode cX4_isMinutes 2 = .ok (.if_icmp .lt 13, 3) := by decide +kernel
theorem dX4_isMinutes_5 : decode cX4_isMinutes 5 = .ok (.iload_n 0, 1) := by decide +kernel
theorem dX4_isMinutes_6 : decode cX4_isMinutes 6 = .ok (.bipush 20, 2) := by decide +kernel
theorem dX4_isMinutes_8 : decode cX4_isMinutes 8 = .ok (.if_icmp .gt 7, 3) := by decide +kernel
theorem dX4_isMinutes_11 : decode cX4_isMinutes 11 = .ok (.iconst 1, 1) := by decide +kernel
theorem dX4_isMinutes_12 : decode cX4_isMinutes 12 = .ok (.goto 4, 3) := by decide +kernel
theorem dX4_isMinutes_15 : decode cX4_isMinutes 15 = .ok (.iconst 0, 1) := by decide +kernel
theorem dX4_isMinutes_16 : decode cX4_isMinutes 16 = .ok (.ireturn, 1) := by decide +kernel
theorem dX4_isOneOfTheDead_0 : decode cX4_isOneOfTheDead 0 = .ok (.iload_n 0, 1) := by decide +kernel
theorem dX4_isOneOfTheDead_1 : decode cX4_isOneOfTheDead 1 = .ok (.invokestatic 111, 3) := by decide +kernel
theorem dX4_isOneOfTheDead_4 : decode cX4_isOneOfTheDead 4 = .ok (.ifCond .eq 23, 3) := by decide +kernel
theorem dX4_isOneOfTheDead_7 : decode cX4_isOneOfTheDead 7 = .ok (.iload_n 1, 1) := by decide +kernel
theorem dX4_isOneOfTheDead_8 : decode cX4_isOneOfTheDead 8 = .ok (.ifCond .lt 19, 3) := by decide +kernel
theorem dX4_isOneOfTheDead_11 : decode cX4_isOneOfTheDead 11 = .ok (.iload_n 1, 1) := by decide +kernel
theorem dX4_isOneOfTheDead_12 : decode cX4_isOneOfTheDead 12 = .ok (.iconst 3, 1) := by decide +kernel
theorem dX4_isOneOfTheDead_13 : decode cX4_isOneOfTheDead 13 = .ok (.if_icmp .gt 14, 3) := by decide +kernel
theorem dX4_isOneOfTheDead_16 : decode cX4_isOneOfTheDead 16 = .ok (.iload_n 2, 1) := by decide +kernel
theorem dX4_isOneOfTheDead_17 : decode cX4_isOneOfTheDead 17 = .ok (.invokestatic 145, 3) := by decide +kernel
theorem dX4_isOneOfTheDead_20 : decode cX4_isOneOfTheDead 20 = .ok (.ifCond .eq 7, 3) := by decide +kernel
theorem dX4_isOneOfTheDead_23 : decode cX4_isOneOfTheDead 23 = .ok (.iconst 1, 1) := by decide +kernel
theorem dX4_isOneOfTheDead_24 : decode cX4_isOneOfTheDead 24 = .ok (.goto 4, 3) := by decide +kernel
theorem dX4_isOneOfTheDead_27 : decode cX4_isOneOfTheDead 27 = .ok (.iconst 0, 1) := by decide +kernel
theorem dX4_isOneOfTheDead_28 : decode cX4_isOneOfTheDead 28 = .ok (.ireturn, 1) := by decide +kernel
theorem dX4_layByRight_0 : decode cX4_layByRight 0 = .ok (.aload_n 0, 1) := by decide +kernel
theorem dX4_layByRight_1 : decode cX4_layByRight 1 = .ok (.getfield 23, 3) := by decide +kernel
theorem dX4_layByRight_4 : decode cX4_layByRight 4 = .ok (.aload_n 1, 1) := by decide +kernel
theorem dX4_layByRight_5 : decode cX4_layByRight 5 = .ok (.invokevirtual 81, 3) := by decide +kernel
theorem dX4_layByRight_8 : decode cX4_layByRight 8 = .ok (.aload_n 0, 1) := by decide +kernel
theorem dX4_layByRight_9 : decode cX4_layByRight 9 = .ok (.getfield 23, 3) := by decide +kernel
theorem dX4_layByRight_12 : decode cX4_layByRight 12 = .ok (.invokevirtual 202, 3) := by decide +kernel
theorem dX4_layByRight_15 : decode cX4_layByRight 15 = .ok (.return_, 1) := by decide +kernel
theorem dX4_movedIn_0 : decode cX4_movedIn 0 = .ok (.aload_n 0, 1) := by decide +kernel
theorem dX4_movedIn_1 : decode cX4_movedIn 1 = .ok (.aload_n 1, 1) := by decide +kernel
theorem dX4_movedIn_2 : decode cX4_movedIn 2 = .ok (.invokevirtual 167, 3) := by decide +kernel
theorem dX4_movedIn_5 : decode cX4_movedIn 5 = .ok (.iconst 0, 1) := by decide +kernel
theorem dX4_movedIn_6 : decode cX4_movedIn 6 = .ok (.istore_n 2, 1) := by decide +kernel
theorem dX4_movedIn_7 : decode cX4_movedIn 7 = .ok (.iconst 0, 1) := by decide +kernel
theorem dX4_movedIn_8 : decode cX4_movedIn 8 = .ok (.istore_n 3, 1) := by decide +kernel
theorem dX4_movedIn_9 : decode cX4_movedIn 9 = .ok (.iload_n 3, 1) := by decide +kernel
theorem dX4_movedIn_10 : decode cX4_movedIn 10 = .ok (.aload_n 1, 1) := by decide +kernel
theorem dX4_movedIn_11 : decode cX4_movedIn 11 = .ok (.getfield 78, 3) := by decide +kernel
theorem dX4_movedIn_14 : decode cX4_movedIn 14 = .ok (.if_icmp .ge 31, 3) := by decide +kernel
theorem dX4_movedIn_17 : decode cX4_movedIn 17 = .ok (.aload_n 1, 1) := by decide +kernel
theorem dX4_movedIn_18 : decode cX4_movedIn 18 = .ok (.iload_n 3, 1) := by decide +kernel
theorem dX4_movedIn_19 : decode cX4_movedIn 19 = .ok (.invokevirtual 105, 3) := by decide +kernel
theorem dX4_movedIn_22 : decode cX4_movedIn 22 = .ok (.aload_n 0, 1) := by decide +kernel
theorem dX4_movedIn_23 : decode cX4_movedIn 23 = .ok (.getfield 23, 3) := by decide +kernel
theorem dX4_movedIn_26 : decode cX4_movedIn 26 = .ok (.iload_n 3, 1) := by decide +kernel
theorem dX4_movedIn_27 : decode cX4_movedIn 27 = .ok (.invokevirtual 105, 3) := by decide +kernel
theorem dX4_movedIn_30 : decode cX4_movedIn 30 = .ok (.if_icmp .eq 9, 3) := by decide +kernel
theorem dX4_movedIn_33 : decode cX4_movedIn 33 = .ok (.iload_n 2, 1) := by decide +kernel
theorem dX4_movedIn_34 : decode cX4_movedIn 34 = .ok (.iconst 1, 1) := by decide +kernel
theorem dX4_movedIn_35 : decode cX4_movedIn 35 = .ok (.iload_n 3, 1) := by decide +kernel
theorem dX4_movedIn_36 : decode cX4_movedIn 36 = .ok (.ishl, 1) := by decide +kernel
theorem dX4_movedIn_37 : decode cX4_movedIn 37 = .ok (.ior, 1) := by decide +kernel
theorem dX4_movedIn_38 : decode cX4_movedIn 38 = .ok (.istore_n 2, 1) := by decide +kernel
theorem dX4_movedIn_39 : decode cX4_movedIn 39 = .ok (.iinc 3 1, 3) := by decide +kernel
theorem dX4_movedIn_42 : decode cX4_movedIn 42 = .ok (.goto (-33), 3) := by decide +kernel
theorem dX4_movedIn_45 : decode cX4_movedIn 45 = .ok (.iload_n 2, 1) := by decide +kernel
theorem dX4_movedIn_46 : decode cX4_movedIn 46 = .ok (.ireturn, 1) := by decide +kernel
theorem dX4_isAllSeenSo_0 : decode cX4_isAllSeenSo 0 = .ok (.iconst 0, 1) := by decide +kernel
theorem dX4_isAllSeenSo_1 : decode cX4_isAllSeenSo 1 = .ok (.istore_n 1, 1) := by decide +kernel
theorem dX4_isAllSeenSo_2 : decode cX4_isAllSeenSo 2 = .ok (.iload_n 1, 1) := by decide +kernel
theorem dX4_isAllSeenSo_3 : decode cX4_isAllSeenSo 3 = .ok (.aload_n 0, 1) := by decide +kernel
theorem dX4_isAllSeenSo_4 : decode cX4_isAllSeenSo 4 = .ok (.getfield 88, 3) := by decide +kernel
theorem dX4_isAllSeenSo_7 : decode cX4_isAllSeenSo 7 = .ok (.if_icmp .ge 39, 3) := by decide +kernel
theorem dX4_isAllSeenSo_10 : decode cX4_isAllSeenSo 10 = .ok (.iload_n 1, 1) := by decide +kernel
theorem dX4_isAllSeenSo_11 : decode cX4_isAllSeenSo 11 = .ok (.bipush 8, 2) := by decide +kernel
theorem dX4_isAllSeenSo_13 : decode cX4_isAllSeenSo 13 = .ok (.if_icmp .ge 33, 3) := by decide +kernel
theorem dX4_isAllSeenSo_16 : decode cX4_isAllSeenSo 16 = .ok (.aload_n 0, 1) := by decide +kernel
theorem dX4_isAllSeenSo_17 : decode cX4_isAllSeenSo 17 = .ok (.getfield 23, 3) := by decide +kernel
theorem dX4_isAllSeenSo_20 : decode cX4_isAllSeenSo 20 = .ok (.aload_n 0, 1) := by decide +kernel
theorem dX4_isAllSeenSo_21 : decode cX4_isAllSeenSo 21 = .ok (.getfield 48, 3) := by decide +kernel
theorem dX4_isAllSeenSo_24 : decode cX4_isAllSeenSo 24 = .ok (.iload_n 1, 1) := by decide +kernel
theorem dX4_isAllSeenSo_25 : decode cX4_isAllSeenSo 25 = .ok (.iaload, 1) := by decide +kernel
theorem dX4_isAllSeenSo_26 : decode cX4_isAllSeenSo 26 = .ok (.invokevirtual 105, 3) := by decide +kernel
theorem dX4_isAllSeenSo_29 : decode cX4_isAllSeenSo 29 = .ok (.aload_n 0, 1) := by decide +kernel
theorem dX4_isAllSeenSo_30 : decode cX4_isAllSeenSo 30 = .ok (.getfield 52, 3) := by decide +kernel
theorem dX4_isAllSeenSo_33 : decode cX4_isAllSeenSo 33 = .ok (.iload_n 1, 1) := by decide +kernel
theorem dX4_isAllSeenSo_34 : decode cX4_isAllSeenSo 34 = .ok (.iaload, 1) := by decide +kernel
theorem dX4_isAllSeenSo_35 : decode cX4_isAllSeenSo 35 = .ok (.if_icmp .eq 5, 3) := by decide +kernel
theorem dX4_isAllSeenSo_38 : decode cX4_isAllSeenSo 38 = .ok (.iconst 0, 1) := by decide +kernel
theorem dX4_isAllSeenSo_39 : decode cX4_isAllSeenSo 39 = .ok (.ireturn, 1) := by decide +kernel
theorem dX4_isAllSeenSo_40 : decode cX4_isAllSeenSo 40 = .ok (.iinc 1 1, 3) := by decide +kernel
theorem dX4_isAllSeenSo_43 : decode cX4_isAllSeenSo 43 = .ok (.goto (-41), 3) := by decide +kernel
theorem dX4_isAllSeenSo_46 : decode cX4_isAllSeenSo 46 = .ok (.iconst 1, 1) := by decide +kernel
theorem dX4_isAllSeenSo_47 : decode cX4_isAllSeenSo 47 = .ok (.ireturn, 1) := by decide +kernel
theorem dX4_nextWornOff_0 : decode cX4_nextWornOff 0 = .ok (.iload_n 1, 1) := by decide +kernel
theorem dX4_nextWornOff_1 : decode cX4_nextWornOff 1 = .ok (.aload_n 0, 1) := by decide +kernel
theorem dX4_nextWornOff_2 : decode cX4_nextWornOff 2 = .ok (.getfield 19, 3) := by decide +kernel
theorem dX4_nextWornOff_5 : decode cX4_nextWornOff 5 = .ok (.iconst 1, 1) := by decide +kernel
theorem dX4_nextWornOff_6 : decode cX4_nextWornOff 6 = .ok (.iload_n 2, 1) := by decide +kernel
theorem dX4_nextWornOff_7 : decode cX4_nextWornOff 7 = .ok (.isub, 1) := by decide +kernel
theorem dX4_nextWornOff_8 : decode cX4_nextWornOff 8 = .ok (.invokevirtual 242, 3) := by decide +kernel
theorem dX4_nextWornOff_11 : decode cX4_nextWornOff 11 = .ok (.iand, 1) := by decide +kernel
theorem dX4_nextWornOff_12 : decode cX4_nextWornOff 12 = .ok (.istore_n 3, 1) := by decide +kernel
theorem dX4_nextWornOff_13 : decode cX4_nextWornOff 13 = .ok (.iload_n 3, 1) := by decide +kernel
theorem dX4_nextWornOff_14 : decode cX4_nextWornOff 14 = .ok (.ifCond .eq 7, 3) := by decide +kernel
theorem dX4_nextWornOff_17 : decode cX4_nextWornOff 17 = .ok (.iload_n 3, 1) := by decide +kernel
theorem dX4_nextWornOff_18 : decode cX4_nextWornOff 18 = .ok (.goto 4, 3) := by decide +kernel
theorem dX4_nextWornOff_21 : decode cX4_nextWornOff 21 = .ok (.iload_n 1, 1) := by decide +kernel
theorem dX4_nextWornOff_22 : decode cX4_nextWornOff 22 = .ok (.istore 4, 2) := by decide +kernel
theorem dX4_nextWornOff_24 : decode cX4_nextWornOff 24 = .ok (.iload 4, 2) := by decide +kernel
theorem dX4_nextWornOff_26 : decode cX4_nextWornOff 26 = .ok (.iload 4, 2) := by decide +kernel
theorem dX4_nextWornOff_28 : decode cX4_nextWornOff 28 = .ok (.ineg, 1) := by decide +kernel
theorem dX4_nextWornOff_29 : decode cX4_nextWornOff 29 = .ok (.iand, 1) := by decide +kernel
theorem dX4_nextWornOff_30 : decode cX4_nextWornOff 30 = .ok (.ireturn, 1) := by decide +kernel
theorem dX4_draw_0 : decode cX4_draw 0 = .ok (.ldc2_w 245, 3) := by decide +kernel
theorem dX4_draw_3 : decode cX4_draw 3 = .ok (.iload_n 0, 1) := by decide +kernel
theorem dX4_draw_4 : decode cX4_draw 4 = .ok (.i2l, 1) := by decide +kernel
theorem dX4_draw_5 : decode cX4_draw 5 = .ok (.lmul, 1) := by decide +kernel
theorem dX4_draw_6 : decode cX4_draw 6 = .ok (.ldc2_w 247, 3) := by decide +kernel
theorem dX4_draw_9 : decode cX4_draw 9 = .ok (.iload_n 1, 1) := by decide +kernel
theorem dX4_draw_10 : decode cX4_draw 10 = .ok (.i2l, 1) := by decide +kernel
theorem dX4_draw_11 : decode cX4_draw 11 = .ok (.lmul, 1) := by decide +kernel
theorem dX4_draw_12 : decode cX4_draw 12 = .ok (.ladd, 1) := by decide +kernel
theorem dX4_draw_13 : decode cX4_draw 13 = .ok (.lconst 1, 1) := by decide +kernel
theorem dX4_draw_14 : decode cX4_draw 14 = .ok (.ladd, 1) := by decide +kernel
theorem dX4_draw_15 : decode cX4_draw 15 = .ok (.lstore_n 2, 1) := by decide +kernel
theorem dX4_draw_16 : decode cX4_draw 16 = .ok (.lload_n 2, 1) := by decide +kernel
theorem dX4_draw_17 : decode cX4_draw 17 = .ok (.lload_n 2, 1) := by decide +kernel
theorem dX4_draw_18 : decode cX4_draw 18 = .ok (.lmul, 1) := by decide +kernel
theorem dX4_draw_19 : decode cX4_draw 19 = .ok (.ldc2_w 249, 3) := by decide +kernel
theorem dX4_draw_22 : decode cX4_draw 22 = .ok (.lrem, 1) := by decide +kernel
theorem dX4_draw_23 : decode cX4_draw 23 = .ok (.ldc2_w 251, 3) := by decide +kernel
theorem dX4_draw_26 : decode cX4_draw 26 = .ok (.ldiv, 1) := by decide +kernel
theorem dX4_draw_27 : decode cX4_draw 27 = .ok (.l2i, 1) := by decide +kernel
theorem dX4_draw_28 : decode cX4_draw 28 = .ok (.ireturn, 1) := by decide +kernel
theorem dX4_passWinter_0 : decode cX4_passWinter 0 = .ok (.aload_n 0, 1) := by decide +kernel
theorem dX4_passWinter_1 : decode cX4_passWinter 1 = .ok (.getfield 78, 3) := by decide +kernel
theorem dX4_passWinter_4 : decode cX4_passWinter 4 = .ok (.bipush 12, 2) := by decide +kernel
theorem dX4_passWinter_6 : decode cX4_passWinter 6 = .ok (.if_icmp .ge 23, 3) := by decide +kernel
theorem dX4_passWinter_9 : decode cX4_passWinter 9 = .ok (.aload_n 0, 1) := by decide +kernel
theorem dX4_passWinter_10 : decode cX4_passWinter 10 = .ok (.iload_n 1, 1) := by decide +kernel
theorem dX4_passWinter_11 : decode cX4_passWinter 11 = .ok (.iconst 2, 1) := by decide +kernel
theorem dX4_passWinter_12 : decode cX4_passWinter 12 = .ok (.irem, 1) := by decide +kernel
theorem dX4_passWinter_13 : decode cX4_passWinter 13 = .ok (.iload_n 1, 1) := by decide +kernel
theorem dX4_passWinter_14 : decode cX4_passWinter 14 = .ok (.iconst 2, 1) := by decide +kernel
theorem dX4_passWinter_15 : decode cX4_passWinter 15 = .ok (.idiv, 1) := by decide +kernel
theorem dX4_passWinter_16 : decode cX4_passWinter 16 = .ok (.iconst 4, 1) := by decide +kernel
theorem dX4_passWinter_17 : decode cX4_passWinter 17 = .ok (.irem, 1) := by decide +kernel
theorem dX4_passWinter_18 : decode cX4_passWinter 18 = .ok (.iload_n 1, 1) := by decide +kernel
theorem dX4_passWinter_19 : decode cX4_passWinter 19 = .ok (.bipush 8, 2) := by decide +kernel
theorem dX4_passWinter_21 : decode cX4_passWinter 21 = .ok (.idiv, 1) := by decide +kernel
theorem dX4_passWinter_22 : decode cX4_passWinter 22 = .ok (.bipush 10, 2) := by decide +kernel
theorem dX4_passWinter_24 : decode cX4_passWinter 24 = .ok (.irem, 1) := by decide +kernel
theorem dX4_passWinter_25 : decode cX4_passWinter 25 = .ok (.invokevirtual 137, 3) := by decide +kernel
theorem dX4_passWinter_28 : decode cX4_passWinter 28 = .ok (.pop, 1) := by decide +kernel
theorem dX4_passWinter_29 : decode cX4_passWinter 29 = .ok (.aload_n 0, 1) := by decide +kernel
theorem dX4_passWinter_30 : decode cX4_passWinter 30 = .ok (.getfield 236, 3) := by decide +kernel
theorem dX4_passWinter_33 : decode cX4_passWinter 33 = .ok (.istore_n 2, 1) := by decide +kernel
theorem dX4_passWinter_34 : decode cX4_passWinter 34 = .ok (.iload_n 2, 1) := by decide +kernel
theorem dX4_passWinter_35 : decode cX4_passWinter 35 = .ok (.ifCond .le 25, 3) := by decide +kernel
theorem dX4_passWinter_38 : decode cX4_passWinter 38 = .ok (.aload_n 0, 1) := by decide +kernel
theorem dX4_passWinter_39 : decode cX4_passWinter 39 = .ok (.iload_n 1, 1) := by decide +kernel
theorem dX4_passWinter_40 : decode cX4_passWinter 40 = .ok (.bipush 64, 2) := by decide +kernel
theorem dX4_passWinter_42 : decode cX4_passWinter 42 = .ok (.idiv, 1) := by decide +kernel
theorem dX4_passWinter_43 : decode cX4_passWinter 43 = .ok (.iconst 2, 1) := by decide +kernel
theorem dX4_passWinter_44 : decode cX4_passWinter 44 = .ok (.irem, 1) := by decide +kernel
theorem dX4_passWinter_45 : decode cX4_passWinter 45 = .ok (.iload_n 1, 1) := by decide +kernel
theorem dX4_passWinter_46 : decode cX4_passWinter 46 = .ok (.bipush 16, 2) := by decide +kernel
theorem dX4_passWinter_48 : decode cX4_passWinter 48 = .ok (.idiv, 1) := by decide +kernel
theorem dX4_passWinter_49 : decode cX4_passWinter 49 = .ok (.iload_n 2, 1) := by decide +kernel
theorem dX4_passWinter_50 : decode cX4_passWinter 50 = .ok (.irem, 1) := by decide +kernel
theorem dX4_passWinter_51 : decode cX4_passWinter 51 = .ok (.iload_n 1, 1) := by decide +kernel
theorem dX4_passWinter_52 : decode cX4_passWinter 52 = .ok (.bipush 32, 2) := by decide +kernel
theorem dX4_passWinter_54 : decode cX4_passWinter 54 = .ok (.idiv, 1) := by decide +kernel
theorem dX4_passWinter_55 : decode cX4_passWinter 55 = .ok (.iload_n 2, 1) := by decide +kernel
theorem dX4_passWinter_56 : decode cX4_passWinter 56 = .ok (.irem, 1) := by decide +kernel
theorem dX4_passWinter_57 : decode cX4_passWinter 57 = .ok (.invokevirtual 141, 3) := by decide +kernel
theorem dX4_passWinter_60 : decode cX4_passWinter 60 = .ok (.return_, 1) := by decide +kernel
theorem dX5_init_0 : decode cX5_init 0 = .ok (.aload_n 0, 1) := by decide +kernel
theorem dX5_init_1 : decode cX5_init 1 = .ok (.invokespecial 1, 3) := by decide +kernel
theorem dX5_init_4 : decode cX5_init 4 = .ok (.aload_n 0, 1) := by decide +kernel
theorem dX5_init_5 : decode cX5_init 5 = .ok (.bipush 66, 2) := by decide +kernel
theorem dX5_init_7 : decode cX5_init 7 = .ok (.newarray .int, 2) := by decide +kernel
theorem dX5_init_9 : decode cX5_init 9 = .ok (.putfield 7, 3) := by decide +kernel
theorem dX5_init_12 : decode cX5_init 12 = .ok (.aload_n 0, 1) := by decide +kernel
theorem dX5_init_13 : decode cX5_init 13 = .ok (.sipush 528, 3) := by decide +kernel
theorem dX5_init_16 : decode cX5_init 16 = .ok (.newarray .int, 2) := by decide +kernel
theorem dX5_init_18 : decode cX5_init 18 = .ok (.putfield 13, 3) := by decide +kernel
theorem dX5_init_21 : decode cX5_init 21 = .ok (.aload_n 0, 1) := by decide +kernel
theorem dX5_init_22 : decode cX5_init 22 = .ok (.sipush 132, 3) := by decide +kernel
theorem dX5_init_25 : decode cX5_init 25 = .ok (.newarray .int, 2) := by decide +kernel
theorem dX5_init_27 : decode cX5_init 27 = .ok (.putfield 16, 3) := by decide +kernel
theorem dX5_init_30 : decode cX5_init 30 = .ok (.aload_n 0, 1) := by decide +kernel
theorem dX5_init_31 : decode cX5_init 31 = .ok (.bipush 16, 2) := by decide +kernel
theorem dX5_init_33 : decode cX5_init 33 = .ok (.newarray .int, 2) := by decide +kernel
theorem dX5_init_35 : decode cX5_init 35 = .ok (.putfield 19, 3) := by decide +kernel
theorem dX5_init_38 : decode cX5_init 38 = .ok (.aload_n 0, 1) := by decide +kernel
theorem dX5_init_39 : decode cX5_init 39 = .ok (.sipush 200, 3) := by decide +kernel
theorem dX5_init_42 : decode cX5_init 42 = .ok (.newarray .int, 2) := by decide +kernel
theorem dX5_init_44 : decode cX5_init 44 = .ok (.putfield 22, 3) := by decide +kernel
theorem dX5_init_47 : decode cX5_init 47 = .ok (.aload_n 0, 1) := by decide +kernel
theorem dX5_init_48 : decode cX5_init 48 = .ok (.iconst 3, 1) := by decide +kernel
theorem dX5_init_49 : decode cX5_init 49 = .ok (.newarray .int, 2) := by decide +kernel
theorem dX5_init_51 : decode cX5_init 51 = .ok (.putfield 25, 3) := by decide +kernel
theorem dX5_init_54 : decode cX5_init 54 = .ok (.aload_n 0, 1) := by decide +kernel
theorem dX5_init_55 : decode cX5_init 55 = .ok (.bipush 66, 2) := by decide +kernel
theorem dX5_init_57 : decode cX5_init 57 = .ok (.newarray .int, 2) := by decide +kernel
theorem dX5_init_59 : decode cX5_init 59 = .ok (.putfield 28, 3) := by decide +kernel
theorem dX5_init_62 : decode cX5_init 62 = .ok (.aload_n 0, 1) := by decide +kernel
theorem dX5_init_63 : decode cX5_init 63 = .ok (.bipush 66, 2) := by decide +kernel
theorem dX5_init_65 : decode cX5_init 65 = .ok (.newarray .int, 2) := by decide +kernel
theorem dX5_init_67 : decode cX5_init 67 = .ok (.putfield 31, 3) := by decide +kernel
theorem dX5_init_70 : decode cX5_init 70 = .ok (.aload_n 0, 1) := by decide +kernel
theorem dX5_init_71 : decode cX5_init 71 = .ok (.bipush 66, 2) := by decide +kernel
theorem dX5_init_73 : decode cX5_init 73 = .ok (.newarray .int, 2) := by decide +kernel
theorem dX5_init_75 : decode cX5_init 75 = .ok (.putfield 34, 3) := by decide +kernel
theorem dX5_init_78 : decode cX5_init 78 = .ok (.aload_n 0, 1) := by decide +kernel
theorem dX5_init_79 : decode cX5_init 79 = .ok (.bipush 6, 2) := by decide +kernel
theorem dX5_init_81 : decode cX5_init 81 = .ok (.newarray .int, 2) := by decide +kernel
theorem dX5_init_83 : decode cX5_init 83 = .ok (.putfield 37, 3) := by decide +kernel
theorem dX5_init_86 : decode cX5_init 86 = .ok (.aload_n 0, 1) := by decide +kernel
theorem dX5_init_87 : decode cX5_init 87 = .ok (.bipush 6, 2) := by decide +kernel
theorem dX5_init_89 : decode cX5_init 89 = .ok (.newarray .int, 2) := by decide +kernel
theorem dX5_init_91 : decode cX5_init 91 = .ok (.putfield 40, 3) := by decide +kernel
theorem dX5_init_94 : decode cX5_init 94 = .ok (.aload_n 0, 1) := by decide +kernel
theorem dX5_init_95 : decode cX5_init 95 = .ok (.bipush 6, 2) := by decide +kernel
theorem dX5_init_97 : decode cX5_init 97 = .ok (.newarray .int, 2) := by decide +kernel
theorem dX5_init_99 : decode cX5_init 99 = .ok (.putfield 43, 3) := by decide +kernel
theorem dX5_init_102 : decode cX5_init 102 = .ok (.aload_n 0, 1) := by decide +kernel
theorem dX5_init_103 : decode cX5_init 103 = .ok (.invokevirtual 46, 3) := by decide +kernel
theorem dX5_init_106 : decode cX5_init 106 = .ok (.aload_n 0, 1) := by decide +kernel
theorem dX5_init_107 : decode cX5_init 107 = .ok (.iconst 4, 1) := by decide +kernel
theorem dX5_init_108 : decode cX5_init 108 = .ok (.putfield 49, 3) := by decide +kernel
theorem dX5_init_111 : decode cX5_init 111 = .ok (.aload_n 0, 1) := by decide +kernel
theorem dX5_init_112 : decode cX5_init 112 = .ok (.iconst 0, 1) := by decide +kernel
theorem dX5_init_113 : decode cX5_init 113 = .ok (.iconst 0, 1) := by decide +kernel
theorem dX5_init_114 : decode cX5_init 114 = .ok (.bipush 7, 2) := by decide +kernel
theorem dX5_init_116 : decode cX5_init 116 = .ok (.invokevirtual 53, 3) := by decide +kernel
theorem dX5_init_119 : decode cX5_init 119 = .ok (.aload_n 0, 1) := by decide +kernel
theorem dX5_init_120 : decode cX5_init 120 = .ok (.iconst 1, 1) := by decide +kernel
theorem dX5_init_121 : decode cX5_init 121 = .ok (.iconst 0, 1) := by decide +kernel
theorem dX5_init_122 : decode cX5_init 122 = .ok (.iconst 3, 1) := by decide +kernel
theorem dX5_init_123 : decode cX5_init 123 = .ok (.invokevirtual 53, 3) := by decide +kernel
theorem dX5_init_126 : decode cX5_init 126 = .ok (.aload_n 0, 1) := by decide +kernel
theorem dX5_init_127 : decode cX5_init 127 = .ok (.iconst 0, 1) := by decide +kernel
theorem dX5_init_128 : decode cX5_init 128 = .ok (.iconst 1, 1) := by decide +kernel
theorem dX5_init_129 : decode cX5_init 129 = .ok (.iconst 2, 1) := by decide +kernel
theorem dX5_init_130 : decode cX5_init 130 = .ok (.invokevirtual 53, 3) := by decide +kernel
theorem dX5_init_133 : decode cX5_init 133 = .ok (.aload_n 0, 1) := by decide +kernel
theorem dX5_init_134 : decode cX5_init 134 = .ok (.iconst 0, 1) := by decide +kernel
theorem dX5_init_135 : decode cX5_init 135 = .ok (.iconst 0, 1) := by decide +kernel
theorem dX5_init_136 : decode cX5_init 136 = .ok (.bipush 9, 2) := by decide +kernel
theorem dX5_init_138 : decode cX5_init 138 = .ok (.invokevirtual 53, 3) := by decide +kernel
theorem dX5_init_141 : decode cX5_init 141 = .ok (.aload_n 0, 1) := by decide +kernel
theorem dX5_init_142 : decode cX5_init 142 = .ok (.iconst 1, 1) := by decide +kernel
theorem dX5_init_143 : decode cX5_init 143 = .ok (.iconst 3, 1) := by decide +kernel
theorem dX5_init_144 : decode cX5_init 144 = .ok (.iconst 5, 1) := by decide +kernel
theorem dX5_init_145 : decode cX5_init 145 = .ok (.invokevirtual 53, 3) := by decide +kernel
theorem dX5_init_148 : decode cX5_init 148 = .ok (.aload_n 0, 1) := by decide +kernel
theorem dX5_init_149 : decode cX5_init 149 = .ok (.iconst 1, 1) := by decide +kernel
theorem dX5_init_150 : decode cX5_init 150 = .ok (.iconst 2, 1) := by decide +kernel
theorem dX5_init_151 : decode cX5_init 151 = .ok (.iconst 0, 1) := by decide +kernel
theorem dX5_init_152 : decode cX5_init 152 = .ok (.invokevirtual 53, 3) := by decide +kernel
theorem dX5_init_155 : decode cX5_init 155 = .ok (.aload_n 0, 1) := by decide +kernel
theorem dX5_init_156 : decode cX5_init 156 = .ok (.iconst 0, 1) := by decide +kernel
theorem dX5_init_157 : decode cX5_init 157 = .ok (.iconst 0, 1) := by decide +kernel
theorem dX5_init_158 : decode cX5_init 158 = .ok (.bipush 6, 2) := by decide +kernel
theorem dX5_init_160 : decode cX5_init 160 = .ok (.invokevirtual 53, 3) := by decide +kernel
theorem dX5_init_163 : decode cX5_init 163 = .ok (.aload_n 0, 1) := by decide +kernel
theorem dX5_init_164 : decode cX5_init 164 = .ok (.iconst 0, 1) := by decide +kernel
theorem dX5_init_165 : decode cX5_init 165 = .ok (.iconst 4, 1) := by decide +kernel
theorem dX5_init_166 : decode cX5_init 166 = .ok (.invokevirtual 57, 3) := by decide +kernel
theorem dX5_init_169 : decode cX5_init 169 = .ok (.aload_n 0, 1) := by decide +kernel
theorem dX5_init_170 : decode cX5_init 170 = .ok (.iconst 1, 1) := by decide +kernel
theorem dX5_init_171 : decode cX5_init 171 = .ok (.iconst 3, 1) := by decide +kernel
theorem dX5_init_172 : decode cX5_init 172 = .ok (.invokevirtual 57, 3) := by decide +kernel
theorem dX5_init_175 : decode cX5_init 175 = .ok (.aload_n 0, 1) := by decide +kernel
theorem dX5_init_176 : decode cX5_init 176 = .ok (.iconst 3, 1) := by decide +kernel
theorem dX5_init_177 : decode cX5_init 177 = .ok (.bipush 6, 2) := by decide +kernel
theorem dX5_init_179 : decode cX5_init 179 = .ok (.invokevirtual 57, 3) := by decide +kernel
theorem dX5_init_182 : decode cX5_init 182 = .ok (.aload_n 0, 1) := by decide +kernel
theorem dX5_init_183 : decode cX5_init 183 = .ok (.iconst 5, 1) := by decide +kernel
theorem dX5_init_184 : decode cX5_init 184 = .ok (.iconst 2, 1) := by decide +kernel
theorem dX5_init_185 : decode cX5_init 185 = .ok (.invokevirtual 57, 3) := by decide +kernel
theorem dX5_init_188 : decode cX5_init 188 = .ok (.aload_n 0, 1) := by decide +kernel
theorem dX5_init_189 : decode cX5_init 189 = .ok (.bipush 40, 2) := by decide +kernel
theorem dX5_init_191 : decode cX5_init 191 = .ok (.putfield 61, 3) := by decide +kernel
theorem dX5_init_194 : decode cX5_init 194 = .ok (.aload_n 0, 1) := by decide +kernel
theorem dX5_init_195 : decode cX5_init 195 = .ok (.invokevirtual 64, 3) := by decide +kernel
theorem dX5_init_198 : decode cX5_init 198 = .ok (.return_, 1) := by decide +kernel
theorem dX5_tellsDead_0 : decode cX5_tellsDead 0 = .ok (.iconst 1, 1) := by decide +kernel
theorem dX5_tellsDead_1 : decode cX5_tellsDead 1 = .ok (.iconst 3, 1) := by decide +kernel
theorem dX5_tellsDead_2 : decode cX5_tellsDead 2 = .ok (.aload_n 0, 1) := by decide +kernel
theorem dX5_tellsDead_3 : decode cX5_tellsDead 3 = .ok (.getfield 28, 3) := by decide +kernel
theorem dX5_tellsDead_6 : decode cX5_tellsDead 6 = .ok (.iconst 0, 1) := by decide +kernel
theorem dX5_tellsDead_7 : decode cX5_tellsDead 7 = .ok (.iaload, 1) := by decide +kernel
theorem dX5_tellsDead_8 : decode cX5_tellsDead 8 = .ok (.imul, 1) := by decide +kernel
theorem dX5_tellsDead_9 : decode cX5_tellsDead 9 = .ok (.iadd, 1) := by decide +kernel
theorem dX5_tellsDead_10 : decode cX5_tellsDead 10 = .ok (.istore 4, 2) := by decide +kernel
theorem dX5_tellsDead_12 : decode cX5_tellsDead 12 = .ok (.aload_n 0, 1) := by decide +kernel
theorem dX5_tellsDead_13 : decode cX5_tellsDead 13 = .ok (.getfield 28, 3) := by decide +kernel
theorem dX5_tellsDead_16 : decode cX5_tellsDead 16 = .ok (.iload 4, 2) := by decide +kernel
theorem dX5_tellsDead_18 : decode cX5_tellsDead 18 = .ok (.iload_n 1, 1) := by decide +kernel
theorem dX5_tellsDead_19 : decode cX5_tellsDead 19 = .ok (.iastore, 1) := by decide +kernel
theorem dX5_tellsDead_20 : decode cX5_tellsDead 20 = .ok (.aload_n 0, 1) := by decide +kernel
theorem dX5_tellsDead_21 : decode cX5_tellsDead 21 = .ok (.getfield 28, 3) := by decide +kernel
theorem dX5_tellsDead_24 : decode cX5_tellsDead 24 = .ok (.iload 4, 2) := by decide +kernel
theorem dX5_tellsDead_26 : decode cX5_tellsDead 26 = .ok (.iconst 1, 1) := by decide +kernel
theorem dX5_tellsDead_27 : decode cX5_tellsDead 27 = .ok (.iadd, 1) := by decide +kernel
theorem dX5_tellsDead_28 : decode cX5_tellsDead 28 = .ok (.iload_n 2, 1) := by decide +kernel
theorem dX5_tellsDead_29 : decode cX5_tellsDead 29 = .ok (.iastore, 1) := by decide +kernel
theorem dX5_tellsDead_30 : decode cX5_tellsDead 30 = .ok (.aload_n 0, 1) := by decide +kernel
theorem dX5_tellsDead_31 : decode cX5_tellsDead 31 = .ok (.getfield 28, 3) := by decide +kernel
theorem dX5_tellsDead_34 : decode cX5_tellsDead 34 = .ok (.iload 4, 2) := by decide +kernel
theorem dX5_tellsDead_36 : decode cX5_tellsDead 36 = .ok (.iconst 2, 1) := by decide +kernel
theorem dX5_tellsDead_37 : decode cX5_tellsDead 37 = .ok (.iadd, 1) := by decide +kernel
theorem dX5_tellsDead_38 : decode cX5_tellsDead 38 = .ok (.iload_n 3, 1) := by decide +kernel
theorem dX5_tellsDead_39 : decode cX5_tellsDead 39 = .ok (.iastore, 1) := by decide +kernel
theorem dX5_tellsDead_40 : decode cX5_tellsDead 40 = .ok (.aload_n 0, 1) := by decide +kernel
theorem dX5_tellsDead_41 : decode cX5_tellsDead 41 = .ok (.getfield 28, 3) := by decide +kernel
theorem dX5_tellsDead_44 : decode cX5_tellsDead 44 = .ok (.iconst 0, 1) := by decide +kernel
theorem dX5_tellsDead_45 : decode cX5_tellsDead 45 = .ok (.dup2, 1) := by decide +kernel
theorem dX5_tellsDead_46 : decode cX5_tellsDead 46 = .ok (.iaload, 1) := by decide +kernel
theorem dX5_tellsDead_47 : decode cX5_tellsDead 47 = .ok (.iconst 1, 1) := by decide +kernel
theorem dX5_tellsDead_48 : decode cX5_tellsDead 48 = .ok (.iadd, 1) := by decide +kernel
theorem dX5_tellsDead_49 : decode cX5_tellsDead 49 = .ok (.iastore, 1) := by decide +kernel
theorem dX5_tellsDead_50 : decode cX5_tellsDead 50 = .ok (.return_, 1) := by decide +kernel
theorem dX5_tellsGuest_0 : decode cX5_tellsGuest 0 = .ok (.bipush 54, 2) := by decide +kernel
theorem dX5_tellsGuest_2 : decode cX5_tellsGuest 2 = .ok (.iconst 2, 1) := by decide +kernel
theorem dX5_tellsGuest_3 : decode cX5_tellsGuest 3 = .ok (.aload_n 0, 1) := by decide +kernel
theorem dX5_tellsGuest_4 : decode cX5_tellsGuest 4 = .ok (.getfield 28, 3) := by decide +kernel
theorem dX5_tellsGuest_7 : decode cX5_tellsGuest 7 = .ok (.bipush 53, 2) := by decide +kernel
theorem dX5_tellsGuest_9 : decode cX5_tellsGuest 9 = .ok (.iaload, 1) := by decide +kernel
theorem dX5_tellsGuest_10 : decode cX5_tellsGuest 10 = .ok (.imul, 1) := by decide +kernel
theorem dX5_tellsGuest_11 : decode cX5_tellsGuest 11 = .ok (.iadd, 1) := by decide +kernel
theorem dX5_tellsGuest_12 : decode cX5_tellsGuest 12 = .ok (.istore_n 3, 1) := by decide +kernel
theorem dX5_tellsGuest_13 : decode cX5_tellsGuest 13 = .ok (.aload_n 0, 1) := by decide +kernel
theorem dX5_tellsGuest_14 : decode cX5_tellsGuest 14 = .ok (.getfield 28, 3) := by decide +kernel
theorem dX5_tellsGuest_17 : decode cX5_tellsGuest 17 = .ok (.iload_n 3, 1) := by decide +kernel
theorem dX5_tellsGuest_18 : decode cX5_tellsGuest 18 = .ok (.iload_n 1, 1) := by decide +kernel
theorem dX5_tellsGuest_19 : decode cX5_tellsGuest 19 = .ok (.iastore, 1) := by decide +kernel
theorem dX5_tellsGuest_20 : decode cX5_tellsGuest 20 = .ok (.aload_n 0, 1) := by decide +kernel
theorem dX5_tellsGuest_21 : decode cX5_tellsGuest 21 = .ok (.getfield 28, 3) := by decide +kernel
theorem dX5_tellsGuest_24 : decode cX5_tellsGuest 24 = .ok (.iload_n 3, 1) := by decide +kernel
theorem dX5_tellsGuest_25 : decode cX5_tellsGuest 25 = .ok (.iconst 1, 1) := by decide +kernel
theorem dX5_tellsGuest_26 : decode cX5_tellsGuest 26 = .ok (.iadd, 1) := by decide +kernel
theorem dX5_tellsGuest_27 : decode cX5_tellsGuest 27 = .ok (.iload_n 2, 1) := by decide +kernel
theorem dX5_tellsGuest_28 : decode cX5_tellsGuest 28 = .ok (.iastore, 1) := by decide +kernel
theorem dX5_tellsGuest_29 : decode cX5_tellsGuest 29 = .ok (.aload_n 0, 1) := by decide +kernel
theorem dX5_tellsGuest_30 : decode cX5_tellsGuest 30 = .ok (.getfield 28, 3) := by decide +kernel
theorem dX5_tellsGuest_33 : decode cX5_tellsGuest 33 = .ok (.bipush 53, 2) := by decide +kernel
theorem dX5_tellsGuest_35 : decode cX5_tellsGuest 35 = .ok (.dup2, 1) := by decide +kernel
theorem dX5_tellsGuest_36 : decode cX5_tellsGuest 36 = .ok (.iaload, 1) := by decide +kernel
theorem dX5_tellsGuest_37 : decode cX5_tellsGuest 37 = .ok (.iconst 1, 1) := by decide +kernel
theorem dX5_tellsGuest_38 : decode cX5_tellsGuest 38 = .ok (.iadd, 1) := by decide +kernel
theorem dX5_tellsGuest_39 : decode cX5_tellsGuest 39 = .ok (.iastore, 1) := by decide +kernel
theorem dX5_tellsGuest_40 : decode cX5_tellsGuest 40 = .ok (.return_, 1) := by decide +kernel
theorem dX5_in_0 : decode cX5_in 0 = .ok (.iload_n 0, 1) := by decide +kernel
theorem dX5_in_1 : decode cX5_in 1 = .ok (.iload_n 1, 1) := by decide +kernel
theorem dX5_in_2 : decode cX5_in 2 = .ok (.if_icmp .lt 12, 3) := by decide +kernel
theorem dX5_in_5 : decode cX5_in 5 = .ok (.iload_n 0, 1) := by decide +kernel
theorem dX5_in_6 : decode cX5_in 6 = .ok (.iload_n 2, 1) := by decide +kernel
theorem dX5_in_7 : decode cX5_in 7 = .ok (.if_icmp .gt 7, 3) := by decide +kernel
theorem dX5_in_10 : decode cX5_in 10 = .ok (.iconst 1, 1) := by decide +kernel
theorem dX5_in_11 : decode cX5_in 11 = .ok (.goto 4, 3) := by decide +kernel
theorem dX5_in_14 : decode cX5_in 14 = .ok (.iconst 0, 1) := by decide +kernel
theorem dX5_in_15 : decode cX5_in 15 = .ok (.ireturn, 1) := by decide +kernel
theorem dX5_has_0 : decode cX5_has 0 = .ok (.iload_n 0, 1) := by decide +kernel
theorem dX5_has_1 : decode cX5_has 1 = .ok (.iload_n 1, 1) := by decide +kernel
theorem dX5_has_2 : decode cX5_has 2 = .ok (.ishr, 1) := by decide +kernel
theorem dX5_has_3 : decode cX5_has 3 = .ok (.iconst 1, 1) := by decide +kernel
theorem dX5_has_4 : decode cX5_has 4 = .ok (.iand, 1) := by decide +kernel
theorem dX5_has_5 : decode cX5_has 5 = .ok (.iconst 1, 1) := by decide +kernel
theorem dX5_has_6 : decode cX5_has 6 = .ok (.if_icmp .ne 7, 3) := by decide +kernel
theorem dX5_has_9 : decode cX5_has 9 = .ok (.iconst 1, 1) := by decide +kernel
theorem dX5_has_10 : decode cX5_has 10 = .ok (.goto 4, 3) := by decide +kernel
theorem dX5_has_13 : decode cX5_has 13 = .ok (.iconst 0, 1) := by decide +kernel
theorem dX5_has_14 : decode cX5_has 14 = .ok (.ireturn, 1) := by decide +kernel
theorem dX5_bits_0 : decode cX5_bits 0 = .ok (.iconst 0, 1) := by decide +kernel
theorem dX5_bits_1 : decode cX5_bits 1 = .ok (.istore_n 1, 1) := by decide +kernel
theorem dX5_bits_2 : decode cX5_bits 2 = .ok (.iconst 0, 1) := by decide +kernel
theorem dX5_bits_3 : decode cX5_bits 3 = .ok (.istore_n 2, 1) := by decide +kernel
theorem dX5_bits_4 : decode cX5_bits 4 = .ok (.iload_n 2, 1) := by decide +kernel
theorem dX5_bits_5 : decode cX5_bits 5 = .ok (.bipush 12, 2) := by decide +kernel
theorem dX5_bits_7 : decode cX5_bits 7 = .ok (.if_icmp .ge 17, 3) := by decide +kernel
theorem dX5_bits_10 : decode cX5_bits 10 = .ok (.iload_n 1, 1) := by decide +kernel
theorem dX5_bits_11 : decode cX5_bits 11 = .ok (.iload_n 0, 1) := by decide +kernel
theorem dX5_bits_12 : decode cX5_bits 12 = .ok (.iload_n 2, 1) := by decide +kernel
theorem dX5_bits_13 : decode cX5_bits 13 = .ok (.ishr, 1) := by decide +kernel
theorem dX5_bits_14 : decode cX5_bits 14 = .ok (.iconst 1, 1) := by decide +kernel
theorem dX5_bits_15 : decode cX5_bits 15 = .ok (.iand, 1) := by decide +kernel
theorem dX5_bits_16 : decode cX5_bits 16 = .ok (.iadd, 1) := by decide +kernel
theorem dX5_bits_17 : decode cX5_bits 17 = .ok (.istore_n 1, 1) := by decide +kernel
theorem dX5_bits_18 : decode cX5_bits 18 = .ok (.iinc 2 1, 3) := by decide +kernel
theorem dX5_bits_21 : decode cX5_bits 21 = .ok (.goto (-17), 3) := by decide +kernel
theorem dX5_bits_24 : decode cX5_bits 24 = .ok (.iload_n 1, 1) := by decide +kernel
theorem dX5_bits_25 : decode cX5_bits 25 = .ok (.ireturn, 1) := by decide +kernel
theorem dX5_isDead_0 : decode cX5_isDead 0 = .ok (.iload_n 1, 1) := by decide +kernel
theorem dX5_isDead_1 : decode cX5_isDead 1 = .ok (.iconst 0, 1) := by decide +kernel
theorem dX5_isDead_2 : decode cX5_isDead 2 = .ok (.aload_n 0, 1) := by decide +kernel
theorem dX5_isDead_3 : decode cX5_isDead 3 = .ok (.getfield 7, 3) := by decide +kernel
theorem dX5_isDead_6 : decode cX5_isDead 6 = .ok (.iconst 0, 1) := by decide +kernel
theorem dX5_isDead_7 : decode cX5_isDead 7 = .ok (.iaload, 1) := by decide +kernel
theorem dX5_isDead_8 : decode cX5_isDead 8 = .ok (.iconst 1, 1) := by decide +kernel
theorem dX5_isDead_9 : decode cX5_isDead 9 = .ok (.isub, 1) := by decide +kernel
theorem dX5_isDead_10 : decode cX5_isDead 10 = .ok (.invokestatic 67, 3) := by decide +kernel
theorem dX5_isDead_13 : decode cX5_isDead 13 = .ok (.ireturn, 1) := by decide +kernel
theorem dX5_isPlot_0 : decode cX5_isPlot 0 = .ok (.iload_n 1, 1) := by decide +kernel
theorem dX5_isPlot_1 : decode cX5_isPlot 1 = .ok (.iconst 0, 1) := by decide +kernel
theorem dX5_isPlot_2 : decode cX5_isPlot 2 = .ok (.aload_n 0, 1) := by decide +kernel
theorem dX5_isPlot_3 : decode cX5_isPlot 3 = .ok (.getfield 71, 3) := by decide +kernel
theorem dX5_isPlot_6 : decode cX5_isPlot 6 = .ok (.iconst 1, 1) := by decide +kernel
theorem dX5_isPlot_7 : decode cX5_isPlot 7 = .ok (.isub, 1) := by decide +kernel
theorem dX5_isPlot_8 : decode cX5_isPlot 8 = .ok (.invokestatic 67, 3) := by decide +kernel
theorem dX5_isPlot_11 : decode cX5_isPlot 11 = .ok (.ireturn, 1) := by decide +kernel
theorem dX5_write_0 : decode cX5_write 0 = .ok (.iload_n 1, 1) := by decide +kernel
theorem dX5_write_1 : decode cX5_write 1 = .ok (.bipush 32, 2) := by decide +kernel
theorem dX5_write_3 : decode cX5_write 3 = .ok (.bipush 126, 2) := by decide +kernel
theorem dX5_write_5 : decode cX5_write 5 = .ok (.invokestatic 67, 3) := by decide +kernel
theorem dX5_write_8 : decode cX5_write 8 = .ok (.ifCond .ne 5, 3) := by decide +kernel
theorem dX5_write_11 : decode cX5_write 11 = .ok (.iconst (-1), 1) := by decide +kernel
theorem dX5_write_12 : decode cX5_write 12 = .ok (.ireturn, 1) := by decide +kernel
theorem dX5_write_13 : decode cX5_write 13 = .ok (.aload_n 0, 1) := by decide +kernel
theorem dX5_write_14 : decode cX5_write 14 = .ok (.getfield 74, 3) := by decide +kernel
theorem dX5_write_17 : decode cX5_write 17 = .ok (.sipush 200, 3) := by decide +kernel
theorem dX5_write_20 : decode cX5_write 20 = .ok (.if_icmp .ne 6, 3) := by decide +kernel
theorem dX5_write_23 : decode cX5_write 23 = .ok (.bipush (-3), 2) := by decide +kernel
theorem dX5_write_25 : decode cX5_write 25 = .ok (.ireturn, 1) := by decide +kernel
theorem dX5_write_26 : decode cX5_write 26 = .ok (.aload_n 0, 1) := by decide +kernel
theorem dX5_write_27 : decode cX5_write 27 = .ok (.getfield 22, 3) := by decide +kernel
theorem dX5_write_30 : decode cX5_write 30 = .ok (.aload_n 0, 1) := by decide +kernel
theorem dX5_write_31 : decode cX5_write 31 = .ok (.getfield 74, 3) := by decide +kernel
theorem dX5_write_34 : decode cX5_write 34 = .ok (.iload_n 1, 1) := by decide +kernel
theorem dX5_write_35 : decode cX5_write 35 = .ok (.iastore, 1) := by decide +kernel
theorem dX5_write_36 : decode cX5_write 36 = .ok (.aload_n 0, 1) := by decide +kernel
theorem dX5_write_37 : decode cX5_write 37 = .ok (.dup, 1) := by decide +kernel
theorem dX5_write_38 : decode cX5_write 38 = .ok (.getfield 74, 3) := by decide +kernel
theorem dX5_write_41 : decode cX5_write 41 = .ok (.iconst 1, 1) := by decide +kernel
theorem dX5_write_42 : decode cX5_write 42 = .ok (.iadd, 1) := by decide +kernel
theorem dX5_write_43 : decode cX5_write 43 = .ok (.putfield 74, 3) := by decide +kernel
theorem dX5_write_46 : decode cX5_write 46 = .ok (.aload_n 0, 1) := by decide +kernel
theorem dX5_write_47 : decode cX5_write 47 = .ok (.getfield 74, 3) := by decide +kernel
theorem dX5_write_50 : decode cX5_write 50 = .ok (.ireturn, 1) := by decide +kernel
theorem dX5_wipe_0 : decode cX5_wipe 0 = .ok (.aload_n 0, 1) := by decide +kernel
theorem dX5_wipe_1 : decode cX5_wipe 1 = .ok (.getfield 74, 3) := by decide +kernel
theorem dX5_wipe_4 : decode cX5_wipe 4 = .ok (.istore_n 1, 1) := by decide +kernel
theorem dX5_wipe_5 : decode cX5_wipe 5 = .ok (.aload_n 0, 1) := by decide +kernel
theorem dX5_wipe_6 : decode cX5_wipe 6 = .ok (.iconst 0, 1) := by decide +kernel
theorem dX5_wipe_7 : decode cX5_wipe 7 = .ok (.putfield 74, 3) := by decide +kernel
theorem dX5_wipe_10 : decode cX5_wipe 10 = .ok (.iload_n 1, 1) := by decide +kernel
theorem dX5_wipe_11 : decode cX5_wipe 11 = .ok (.ireturn, 1) := by decide +kernel
theorem dX5_letterAt_0 : decode cX5_letterAt 0 = .ok (.iload_n 1, 1) := by decide +kernel
theorem dX5_letterAt_1 : decode cX5_letterAt 1 = .ok (.aload_n 0, 1) := by decide +kernel
theorem dX5_letterAt_2 : decode cX5_letterAt 2 = .ok (.getfield 74, 3) := by decide +kernel
theorem dX5_letterAt_5 : decode cX5_letterAt 5 = .ok (.if_icmp .ge 12, 3) := by decide +kernel
theorem dX5_letterAt_8 : decode cX5_letterAt 8 = .ok (.aload_n 0, 1) := by decide +kernel
theorem dX5_letterAt_9 : decode cX5_letterAt 9 = .ok (.getfield 22, 3) := by decide +kernel
theorem dX5_letterAt_12 : decode cX5_letterAt 12 = .ok (.iload_n 1, 1) := by decide +kernel
theorem dX5_letterAt_13 : decode cX5_letterAt 13 = .ok (.iaload, 1) := by decide +kernel
theorem dX5_letterAt_14 : decode cX5_letterAt 14 = .ok (.goto 4, 3) := by decide +kernel
theorem dX5_letterAt_17 : decode cX5_letterAt 17 = .ok (.iconst (-1), 1) := by decide +kernel
theorem dX5_letterAt_18 : decode cX5_letterAt 18 = .ok (.ireturn, 1) := by decide +kernel
theorem dX5_isFigure_0 : decode cX5_isFigure 0 = .ok (.iload_n 0, 1) := by decide +kernel
theorem dX5_isFigure_1 : decode cX5_isFigure 1 = .ok (.bipush 48, 2) := by decide +kernel
theorem dX5_isFigure_3 : decode cX5_isFigure 3 = .ok (.bipush 57, 2) := by decide +kernel
theorem dX5_isFigure_5 : decode cX5_isFigure 5 = .ok (.invokestatic 67, 3) := by decide +kernel
theorem dX5_isFigure_8 : decode cX5_isFigure 8 = .ok (.ireturn, 1) := by decide +kernel
theorem dX5_readNumbers_0 : decode cX5_readNumbers 0 = .ok (.iconst 0, 1) := by decide +kernel
theorem dX5_readNumbers_1 : decode cX5_readNumbers 1 = .ok (.istore_n 2, 1) := by decide +kernel
theorem dX5_readNumbers_2 : decode cX5_readNumbers 2 = .ok (.iload_n 2, 1) := by decide +kernel
theorem dX5_readNumbers_3 : decode cX5_readNumbers 3 = .ok (.iload_n 1, 1) := by decide +kernel
theorem dX5_readNumbers_4 : decode cX5_readNumbers 4 = .ok (.if_icmp .ge 140, 3) := by decide +kernel
theorem dX5_readNumbers_7 : decode cX5_readNumbers 7 = .ok (.aload_n 0, 1) := by decide +kernel
theorem dX5_readNumbers_8 : decode cX5_readNumbers 8 = .ok (.aload_n 0, 1) := by decide +kernel
theorem dX5_readNumbers_9 : decode cX5_readNumbers 9 = .ok (.getfield 77, 3) := by decide +kernel
theorem dX5_readNumbers_12 : decode cX5_readNumbers 12 = .ok (.invokevirtual 80, 3) := by decide +kernel
theorem dX5_readNumbers_15 : decode cX5_readNumbers 15 = .ok (.invokestatic 84, 3) := by decide +kernel
theorem dX5_readNumbers_18 : decode cX5_readNumbers 18 = .ok (.ifCond .ne 5, 3) := by decide +kernel
theorem dX5_readNumbers_21 : decode cX5_readNumbers 21 = .ok (.iconst 0, 1) := by decide +kernel
theorem dX5_readNumbers_22 : decode cX5_readNumbers 22 = .ok (.ireturn, 1) := by decide +kernel
theorem dX5_readNumbers_23 : decode cX5_readNumbers 23 = .ok (.aload_n 0, 1) := by decide +kernel
theorem dX5_readNumbers_24 : decode cX5_readNumbers 24 = .ok (.getfield 25, 3) := by decide +kernel
theorem dX5_readNumbers_27 : decode cX5_readNumbers 27 = .ok (.iload_n 2, 1) := by decide +kernel
theorem dX5_readNumbers_28 : decode cX5_readNumbers 28 = .ok (.aload_n 0, 1) := by decide +kernel
theorem dX5_readNumbers_29 : decode cX5_readNumbers 29 = .ok (.aload_n 0, 1) := by decide +kernel
theorem dX5_readNumbers_30 : decode cX5_readNumbers 30 = .ok (.getfield 77, 3) := by decide +kernel
theorem dX5_readNumbers_33 : decode cX5_readNumbers 33 = .ok (.invokevirtual 80, 3) := by decide +kernel
theorem dX5_readNumbers_36 : decode cX5_readNumbers 36 = .ok (.bipush 48, 2) := by decide +kernel
theorem dX5_readNumbers_38 : decode cX5_readNumbers 38 = .ok (.isub, 1) := by decide +kernel
theorem dX5_readNumbers_39 : decode cX5_readNumbers 39 = .ok (.iastore, 1) := by decide +kernel
theorem dX5_readNumbers_40 : decode cX5_readNumbers 40 = .ok (.aload_n 0, 1) := by decide +kernel
theorem dX5_readNumbers_41 : decode cX5_readNumbers 41 = .ok (.dup, 1) := by decide +kernel
theorem dX5_readNumbers_42 : decode cX5_readNumbers 42 = .ok (.getfield 77, 3) := by decide +kernel
theorem dX5_readNumbers_45 : decode cX5_readNumbers 45 = .ok (.iconst 1, 1) := by decide +kernel
theorem dX5_readNumbers_46 : decode cX5_readNumbers 46 = .ok (.iadd, 1) := by decide +kernel
theorem dX5_readNumbers_47 : decode cX5_readNumbers 47 = .ok (.putfield 77, 3) := by decide +kernel
theorem dX5_readNumbers_50 : decode cX5_readNumbers 50 = .ok (.aload_n 0, 1) := by decide +kernel
theorem dX5_readNumbers_51 : decode cX5_readNumbers 51 = .ok (.aload_n 0, 1) := by decide +kernel
theorem dX5_readNumbers_52 : decode cX5_readNumbers 52 = .ok (.getfield 77, 3) := by decide +kernel
theorem dX5_readNumbers_55 : decode cX5_readNumbers 55 = .ok (.invokevirtual 80, 3) := by decide +kernel
theorem dX5_readNumbers_58 : decode cX5_readNumbers 58 = .ok (.invokestatic 84, 3) := by decide +kernel
theorem dX5_readNumbers_61 : decode cX5_readNumbers 61 = .ok (.ifCond .eq 40, 3) := by decide +kernel
theorem dX5_readNumbers_64 : decode cX5_readNumbers 64 = .ok (.aload_n 0, 1) := by decide +kernel
theorem dX5_readNumbers_65 : decode cX5_readNumbers 65 = .ok (.getfield 25, 3) := by decide +kernel
theorem dX5_readNumbers_68 : decode cX5_readNumbers 68 = .ok (.iload_n 2, 1) := by decide +kernel
theorem dX5_readNumbers_69 : decode cX5_readNumbers 69 = .ok (.bipush 10, 2) := by decide +kernel
theorem dX5_readNumbers_71 : decode cX5_readNumbers 71 = .ok (.aload_n 0, 1) := by decide +kernel
theorem dX5_readNumbers_72 : decode cX5_readNumbers 72 = .ok (.getfield 25, 3) := by decide +kernel
theorem dX5_readNumbers_75 : decode cX5_readNumbers 75 = .ok (.iload_n 2, 1) := by decide +kernel
theorem dX5_readNumbers_76 : decode cX5_readNumbers 76 = .ok (.iaload, 1) := by decide +kernel
theorem dX5_readNumbers_77 : decode cX5_readNumbers 77 = .ok (.imul, 1) := by decide +kernel
theorem dX5_readNumbers_78 : decode cX5_readNumbers 78 = .ok (.aload_n 0, 1) := by decide +kernel
theorem dX5_readNumbers_79 : decode cX5_readNumbers 79 = .ok (.aload_n 0, 1) := by decide +kernel
theorem dX5_readNumbers_80 : decode cX5_readNumbers 80 = .ok (.getfield 77, 3) := by decide +kernel
theorem dX5_readNumbers_83 : decode cX5_readNumbers 83 = .ok (.invokevirtual 80, 3) := by decide +kernel
theorem dX5_readNumbers_86 : decode cX5_readNumbers 86 = .ok (.iadd, 1) := by decide +kernel
theorem dX5_readNumbers_87 : decode cX5_readNumbers 87 = .ok (.bipush 48, 2) := by decide +kernel
theorem dX5_readNumbers_89 : decode cX5_readNumbers 89 = .ok (.isub, 1) := by decide +kernel
theorem dX5_readNumbers_90 : decode cX5_readNumbers 90 = .ok (.iastore, 1) := by decide +kernel
theorem dX5_readNumbers_91 : decode cX5_readNumbers 91 = .ok (.aload_n 0, 1) := by decide +kernel
theorem dX5_readNumbers_92 : decode cX5_readNumbers 92 = .ok (.dup, 1) := by decide +kernel
theorem dX5_readNumbers_93 : decode cX5_readNumbers 93 = .ok (.getfield 77, 3) := by decide +kernel
theorem dX5_readNumbers_96 : decode cX5_readNumbers 96 = .ok (.iconst 1, 1) := by decide +kernel
theorem dX5_readNumbers_97 : decode cX5_readNumbers 97 = .ok (.iadd, 1) := by decide +kernel
theorem dX5_readNumbers_98 : decode cX5_readNumbers 98 = .ok (.putfield 77, 3) := by decide +kernel
theorem dX5_readNumbers_101 : decode cX5_readNumbers 101 = .ok (.aload_n 0, 1) := by decide +kernel
theorem dX5_readNumbers_102 : decode cX5_readNumbers 102 = .ok (.aload_n 0, 1) := by decide +kernel
theorem dX5_readNumbers_103 : decode cX5_readNumbers 103 = .ok (.getfield 77, 3) := by decide +kernel
theorem dX5_readNumbers_106 : decode cX5_readNumbers 106 = .ok (.invokevirtual 80, 3) := by decide +kernel
theorem dX5_readNumbers_109 : decode cX5_readNumbers 109 = .ok (.iload_n 2, 1) := by decide +kernel
theorem dX5_readNumbers_110 : decode cX5_readNumbers 110 = .ok (.iload_n 1, 1) := by decide +kernel
theorem dX5_readNumbers_111 : decode cX5_readNumbers 111 = .ok (.iconst 1, 1) := by decide +kernel
theorem dX5_readNumbers_112 : decode cX5_readNumbers 112 = .ok (.isub, 1) := by decide +kernel
theorem dX5_readNumbers_113 : decode cX5_readNumbers 113 = .ok (.if_icmp .ge 8, 3) := by decide +kernel
theorem dX5_readNumbers_116 : decode cX5_readNumbers 116 = .ok (.bipush 44, 2) := by decide +kernel
theorem dX5_readNumbers_118 : decode cX5_readNumbers 118 = .ok (.goto 5, 3) := by decide +kernel
theorem dX5_readNumbers_121 : decode cX5_readNumbers 121 = .ok (.bipush 59, 2) := by decide +kernel
theorem dX5_readNumbers_123 : decode cX5_readNumbers 123 = .ok (.if_icmp .eq 5, 3) := by decide +kernel
theorem dX5_readNumbers_126 : decode cX5_readNumbers 126 = .ok (.iconst 0, 1) := by decide +kernel
theorem dX5_readNumbers_127 : decode cX5_readNumbers 127 = .ok (.ireturn, 1) := by decide +kernel
theorem dX5_readNumbers_128 : decode cX5_readNumbers 128 = .ok (.aload_n 0, 1) := by decide +kernel
theorem dX5_readNumbers_129 : decode cX5_readNumbers 129 = .ok (.dup, 1) := by decide +kernel
theorem dX5_readNumbers_130 : decode cX5_readNumbers 130 = .ok (.getfield 77, 3) := by decide +kernel
theorem dX5_readNumbers_133 : decode cX5_readNumbers 133 = .ok (.iconst 1, 1) := by decide +kernel
theorem dX5_readNumbers_134 : decode cX5_readNumbers 134 = .ok (.iadd, 1) := by decide +kernel
theorem dX5_readNumbers_135 : decode cX5_readNumbers 135 = .ok (.putfield 77, 3) := by decide +kernel
theorem dX5_readNumbers_138 : decode cX5_readNumbers 138 = .ok (.iinc 2 1, 3) := by decide +kernel
theorem dX5_readNumbers_141 : decode cX5_readNumbers 141 = .ok (.goto (-139), 3) := by decide +kernel
theorem dX5_readNumbers_144 : decode cX5_readNumbers 144 = .ok (.iconst 1, 1) := by decide +kernel
theorem dX5_readNumbers_145 : decode cX5_readNumbers 145 = .ok (.ireturn, 1) := by decide +kernel
theorem dX5_isTold_0 : decode cX5_isTold 0 = .ok (.aload_n 0, 1) := by decide +kernel
theorem dX5_isTold_1 : decode cX5_isTold 1 = .ok (.getfield 25, 3) := by decide +kernel
theorem dX5_isTold_4 : decode cX5_isTold 4 = .ok (.iload_n 1, 1) := by decide +kernel
theorem dX5_isTold_5 : decode cX5_isTold 5 = .ok (.iaload, 1) := by decide +kernel
theorem dX5_isTold_6 : decode cX5_isTold 6 = .ok (.iload_n 2, 1) := by decide +kernel
theorem dX5_isTold_7 : decode cX5_isTold 7 = .ok (.iload_n 3, 1) := by decide +kernel
theorem dX5_isTold_8 : decode cX5_isTold 8 = .ok (.invokestatic 67, 3) := by decide +kernel
theorem dX5_isTold_11 : decode cX5_isTold 11 = .ok (.ireturn, 1) := by decide +kernel
theorem dX5_put_0 : decode cX5_put 0 = .ok (.iconst 0, 1) := by decide +kernel
theorem dX5_put_1 : decode cX5_put 1 = .ok (.istore 4, 2) := by decide +kernel
theorem dX5_put_3 : decode cX5_put 3 = .ok (.iload 4, 2) := by decide +kernel
theorem dX5_put_5 : decode cX5_put 5 = .ok (.iload_n 3, 1) := by decide +kernel
theorem dX5_put_6 : decode cX5_put 6 = .ok (.if_icmp .ge 19, 3) := by decide +kernel
theorem dX5_put_9 : decode cX5_put 9 = .ok (.aload_n 0, 1) := by decide +kernel
theorem dX5_put_10 : decode cX5_put 10 = .ok (.iload_n 1, 1) := by decide +kernel
theorem dX5_put_11 : decode cX5_put 11 = .ok (.iload 4, 2) := by decide +kernel
theorem dX5_put_13 : decode cX5_put 13 = .ok (.iadd, 1) := by decide +kernel
theorem dX5_put_14 : decode cX5_put 14 = .ok (.aload_n 2, 1) := by decide +kernel
theorem dX5_put_15 : decode cX5_put 15 = .ok (.iload 4, 2) := by decide +kernel
theorem dX5_put_17 : decode cX5_put 17 = .ok (.iaload, 1) := by decide +kernel
theorem dX5_put_18 : decode cX5_put 18 = .ok (.iastore, 1) := by decide +kernel
theorem dX5_put_19 : decode cX5_put 19 = .ok (.iinc 4 1, 3) := by decide +kernel
theorem dX5_put_22 : decode cX5_put 22 = .ok (.goto (-19), 3) := by decide +kernel
theorem dX5_put_25 : decode cX5_put 25 = .ok (.return_, 1) := by decide +kernel
theorem dX5_clearTold_0 : decode cX5_clearTold 0 = .ok (.aload_n 0, 1) := by decide +kernel
theorem dX5_clearTold_1 : decode cX5_clearTold 1 = .ok (.bipush 6, 2) := by decide +kernel
theorem dX5_clearTold_3 : decode cX5_clearTold 3 = .ok (.putfield 49, 3) := by decide +kernel
theorem dX5_clearTold_6 : decode cX5_clearTold 6 = .ok (.aload_n 0, 1) := by decide +kernel
theorem dX5_clearTold_7 : decode cX5_clearTold 7 = .ok (.bipush 60, 2) := by decide +kernel
theorem dX5_clearTold_9 : decode cX5_clearTold 9 = .ok (.putfield 61, 3) := by decide +kernel
theorem dX5_clearTold_12 : decode cX5_clearTold 12 = .ok (.aload_n 0, 1) := by decide +kernel
theorem dX5_clearTold_13 : decode cX5_clearTold 13 = .ok (.iconst 0, 1) := by decide +kernel
theorem dX5_clearTold_14 : decode cX5_clearTold 14 = .ok (.putfield 88, 3) := by decide +kernel
theorem dX5_clearTold_17 : decode cX5_clearTold 17 = .ok (.iconst 0, 1) := by decide +kernel
theorem dX5_clearTold_18 : decode cX5_clearTold 18 = .ok (.istore_n 1, 1) := by decide +kernel
theorem dX5_clearTold_19 : decode cX5_clearTold 19 = .ok (.iload_n 1, 1) := by decide +kernel
theorem dX5_clearTold_20 : decode cX5_clearTold 20 = .ok (.bipush 66, 2) := by decide +kernel
theorem dX5_clearTold_22 : decode cX5_clearTold 22 = .ok (.if_icmp .ge 16, 3) := by decide +kernel
theorem dX5_clearTold_25 : decode cX5_clearTold 25 = .ok (.aload_n 0, 1) := by decide +kernel
theorem dX5_clearTold_26 : decode cX5_clearTold 26 = .ok (.getfield 28, 3) := by decide +kernel
theorem dX5_clearTold_29 : decode cX5_clearTold 29 = .ok (.iload_n 1, 1) := by decide +kernel
theorem dX5_clearTold_30 : decode cX5_clearTold 30 = .ok (.iconst 0, 1) := by decide +kernel
theorem dX5_clearTold_31 : decode cX5_clearTold 31 = .ok (.iastore, 1) := by decide +kernel
theorem dX5_clearTold_32 : decode cX5_clearTold 32 = .ok (.iinc 1 1, 3) := by decide +kernel
theorem dX5_clearTold_35 : decode cX5_clearTold 35 = .ok (.goto (-16), 3) := by decide +kernel
theorem dX5_clearTold_38 : decode cX5_clearTold 38 = .ok (.return_, 1) := by decide +kernel
theorem dX5_readPlotsOf_0 : decode cX5_readPlotsOf 0 = .ok (.aload_n 0, 1) := by decide +kernel
theorem dX5_readPlotsOf_1 : decode cX5_readPlotsOf 1 = .ok (.getfield 88, 3) := by decide +kernel
theorem dX5_readPlotsOf_4 : decode cX5_readPlotsOf 4 = .ok (.ifCond .ne 26, 3) := by decide +kernel
theorem dX5_readPlotsOf_7 : decode cX5_readPlotsOf 7 = .ok (.aload_n 0, 1) := by decide +kernel
theorem dX5_readPlotsOf_8 : decode cX5_readPlotsOf 8 = .ok (.iconst 1, 1) := by decide +kernel
theorem dX5_readPlotsOf_9 : decode cX5_readPlotsOf 9 = .ok (.invokevirtual 92, 3) := by decide +kernel
theorem dX5_readPlotsOf_12 : decode cX5_readPlotsOf 12 = .ok (.ifCond .eq 18, 3) := by decide +kernel
theorem dX5_readPlotsOf_15 : decode cX5_readPlotsOf 15 = .ok (.aload_n 0, 1) := by decide +kernel
theorem dX5_readPlotsOf_16 : decode cX5_readPlotsOf 16 = .ok (.iconst 0, 1) := by decide +kernel
theorem dX5_readPlotsOf_17 : decode cX5_readPlotsOf 17 = .ok (.iconst 2, 1) := by decide +kernel
theorem dX5_readPlotsOf_18 : decode cX5_readPlotsOf 18 = .ok (.bipush 8, 2) := by decide +kernel
theorem dX5_readPlotsOf_20 : decode cX5_readPlotsOf 20 = .ok (.invokevirtual 95, 3) := by decide +kernel
theorem dX5_readPlotsOf_23 : decode cX5_readPlotsOf 23 = .ok (.ifCond .eq 7, 3) := by decide +kernel
theorem dX5_readPlotsOf_26 : decode cX5_readPlotsOf 26 = .ok (.iconst 1, 1) := by decide +kernel
theorem dX5_readPlotsOf_27 : decode cX5_readPlotsOf 27 = .ok (.goto 4, 3) := by decide +kernel
theorem dX5_readPlotsOf_30 : decode cX5_readPlotsOf 30 = .ok (.iconst 0, 1) := by decide +kernel
theorem dX5_readPlotsOf_31 : decode cX5_readPlotsOf 31 = .ok (.istore_n 1, 1) := by decide +kernel
theorem dX5_readPlotsOf_32 : decode cX5_readPlotsOf 32 = .ok (.aload_n 0, 1) := by decide +kernel
theorem dX5_readPlotsOf_33 : decode cX5_readPlotsOf 33 = .ok (.iload_n 1, 1) := by decide +kernel
theorem dX5_readPlotsOf_34 : decode cX5_readPlotsOf 34 = .ok (.ifCond .eq 12, 3) := by decide +kernel
theorem dX5_readPlotsOf_37 : decode cX5_readPlotsOf 37 = .ok (.aload_n 0, 1) := by decide +kernel
theorem dX5_readPlotsOf_38 : decode cX5_readPlotsOf 38 = .ok (.getfield 25, 3) := by decide +kernel
theorem dX5_readPlotsOf_41 : decode cX5_readPlotsOf 41 = .ok (.iconst 0, 1) := by decide +kernel
theorem dX5_readPlotsOf_42 : decode cX5_readPlotsOf 42 = .ok (.iaload, 1) := by decide +kernel
theorem dX5_readPlotsOf_43 : decode cX5_readPlotsOf 43 = .ok (.goto 7, 3) := by decide +kernel
theorem dX5_readPlotsOf_46 : decode cX5_readPlotsOf 46 = .ok (.aload_n 0, 1) := by decide +kernel
theorem dX5_readPlotsOf_47 : decode cX5_readPlotsOf 47 = .ok (.getfield 49, 3) := by decide +kernel
theorem dX5_readPlotsOf_50 : decode cX5_readPlotsOf 50 = .ok (.putfield 49, 3) := by decide +kernel
theorem dX5_readPlotsOf_53 : decode cX5_readPlotsOf 53 = .ok (.iload_n 1, 1) := by decide +kernel
theorem dX5_readPlotsOf_54 : decode cX5_readPlotsOf 54 = .ok (.ireturn, 1) := by decide +kernel
theorem dX5_readDeadOf_0 : decode cX5_readDeadOf 0 = .ok (.aload_n 0, 1) := by decide +kernel
theorem dX5_readDeadOf_1 : decode cX5_readDeadOf 1 = .ok (.getfield 28, 3) := by decide +kernel
theorem dX5_readDeadOf_4 : decode cX5_readDeadOf 4 = .ok (.iconst 0, 1) := by decide +kernel
theorem dX5_readDeadOf_5 : decode cX5_readDeadOf 5 = .ok (.iaload, 1) := by decide +kernel
theorem dX5_readDeadOf_6 : decode cX5_readDeadOf 6 = .ok (.bipush 12, 2) := by decide +kernel
theorem dX5_readDeadOf_8 : decode cX5_readDeadOf 8 = .ok (.if_icmp .eq 42, 3) := by decide +kernel
theorem dX5_readDeadOf_11 : decode cX5_readDeadOf 11 = .ok (.aload_n 0, 1) := by decide +kernel
theorem dX5_readDeadOf_12 : decode cX5_readDeadOf 12 = .ok (.iconst 3, 1) := by decide +kernel
theorem dX5_readDeadOf_13 : decode cX5_readDeadOf 13 = .ok (.invokevirtual 92, 3) := by decide +kernel
theorem dX5_readDeadOf_16 : decode cX5_readDeadOf 16 = .ok (.ifCond .eq 34, 3) := by decide +kernel
theorem dX5_readDeadOf_19 : decode cX5_readDeadOf 19 = .ok (.aload_n 0, 1) := by decide +kernel
theorem dX5_readDeadOf_20 : decode cX5_readDeadOf 20 = .ok (.iconst 0, 1) := by decide +kernel
theorem dX5_readDeadOf_21 : decode cX5_readDeadOf 21 = .ok (.iconst 0, 1) := by decide +kernel
theorem dX5_readDeadOf_22 : decode cX5_readDeadOf 22 = .ok (.iconst 1, 1) := by decide +kernel
theorem dX5_readDeadOf_23 : decode cX5_readDeadOf 23 = .ok (.invokevirtual 95, 3) := by decide +kernel
theorem dX5_readDeadOf_26 : decode cX5_readDeadOf 26 = .ok (.ifCond .eq 24, 3) := by decide +kernel
theorem dX5_readDeadOf_29 : decode cX5_readDeadOf 29 = .ok (.aload_n 0, 1) := by decide +kernel
theorem dX5_readDeadOf_30 : decode cX5_readDeadOf 30 = .ok (.iconst 1, 1) := by decide +kernel
theorem dX5_readDeadOf_31 : decode cX5_readDeadOf 31 = .ok (.iconst 0, 1) := by decide +kernel
theorem dX5_readDeadOf_32 : decode cX5_readDeadOf 32 = .ok (.iconst 3, 1) := by decide +kernel
theorem dX5_readDeadOf_33 : decode cX5_readDeadOf 33 = .ok (.invokevirtual 95, 3) := by decide +kernel
theorem dX5_readDeadOf_36 : decode cX5_readDeadOf 36 = .ok (.ifCond .eq 14, 3) := by decide +kernel
theorem dX5_readDeadOf_39 : decode cX5_readDeadOf 39 = .ok (.aload_n 0, 1) := by decide +kernel
theorem dX5_readDeadOf_40 : decode cX5_readDeadOf 40 = .ok (.iconst 2, 1) := by decide +kernel
theorem dX5_readDeadOf_41 : decode cX5_readDeadOf 41 = .ok (.iconst 0, 1) := by decide +kernel
theorem dX5_readDeadOf_42 : decode cX5_readDeadOf 42 = .ok (.bipush 9, 2) := by decide +kernel
theorem dX5_readDeadOf_44 : decode cX5_readDeadOf 44 = .ok (.invokevirtual 95, 3) := by decide +kernel
theorem dX5_readDeadOf_47 : decode cX5_readDeadOf 47 = .ok (.ifCond .ne 5, 3) := by decide +kernel
theorem dX5_readDeadOf_50 : decode cX5_readDeadOf 50 = .ok (.iconst 0, 1) := by decide +kernel
theorem dX5_readDeadOf_51 : decode cX5_readDeadOf 51 = .ok (.ireturn, 1) := by decide +kernel
theorem dX5_readDeadOf_52 : decode cX5_readDeadOf 52 = .ok (.aload_n 0, 1) := by decide +kernel
theorem dX5_readDeadOf_53 : decode cX5_readDeadOf 53 = .ok (.aload_n 0, 1) := by decide +kernel
theorem dX5_readDeadOf_54 : decode cX5_readDeadOf 54 = .ok (.getfield 25, 3) := by decide +kernel
theorem dX5_readDeadOf_57 : decode cX5_readDeadOf 57 = .ok (.iconst 0, 1) := by decide +kernel
theorem dX5_readDeadOf_58 : decode cX5_readDeadOf 58 = .ok (.iaload, 1) := by decide +kernel
theorem dX5_readDeadOf_59 : decode cX5_readDeadOf 59 = .ok (.aload_n 0, 1) := by decide +kernel
theorem dX5_readDeadOf_60 : decode cX5_readDeadOf 60 = .ok (.getfield 25, 3) := by decide +kernel
theorem dX5_readDeadOf_63 : decode cX5_readDeadOf 63 = .ok (.iconst 1, 1) := by decide +kernel
theorem dX5_readDeadOf_64 : decode cX5_readDeadOf 64 = .ok (.iaload, 1) := by decide +kernel
theorem dX5_readDeadOf_65 : decode cX5_readDeadOf 65 = .ok (.aload_n 0, 1) := by decide +kernel
theorem dX5_readDeadOf_66 : decode cX5_readDeadOf 66 = .ok (.getfield 25, 3) := by decide +kernel
theorem dX5_readDeadOf_69 : decode cX5_readDeadOf 69 = .ok (.iconst 2, 1) := by decide +kernel
theorem dX5_readDeadOf_70 : decode cX5_readDeadOf 70 = .ok (.iaload, 1) := by decide +kernel
theorem dX5_readDeadOf_71 : decode cX5_readDeadOf 71 = .ok (.invokevirtual 53, 3) := by decide +kernel
theorem dX5_readDeadOf_74 : decode cX5_readDeadOf 74 = .ok (.iconst 1, 1) := by decide +kernel
theorem dX5_readDeadOf_75 : decode cX5_readDeadOf 75 = .ok (.ireturn, 1) := by decide +kernel
theorem dX5_readGuestOf_0 : decode cX5_readGuestOf 0 = .ok (.aload_n 0, 1) := by decide +kernel
theorem dX5_readGuestOf_1 : decode cX5_readGuestOf 1 = .ok (.getfield 28, 3) := by decide +kernel
theorem dX5_readGuestOf_4 : decode cX5_readGuestOf 4 = .ok (.bipush 53, 2) := by decide +kernel
theorem dX5_readGuestOf_6 : decode cX5_readGuestOf 6 = .ok (.iaload, 1) := by decide +kernel
theorem dX5_readGuestOf_7 : decode cX5_readGuestOf 7 = .ok (.bipush 6, 2) := by decide +kernel
theorem dX5_readGuestOf_9 : decode cX5_readGuestOf 9 = .ok (.if_icmp .eq 39, 3) := by decide +kernel
theorem dX5_readGuestOf_12 : decode cX5_readGuestOf 12 = .ok (.aload_n 0, 1) := by decide +kernel
theorem dX5_readGuestOf_13 : decode cX5_readGuestOf 13 = .ok (.iconst 2, 1) := by decide +kernel
theorem dX5_readGuestOf_14 : decode cX5_readGuestOf 14 = .ok (.invokevirtual 92, 3) := by decide +kernel
theorem dX5_readGuestOf_17 : decode cX5_readGuestOf 17 = .ok (.ifCond .eq 31, 3) := by decide +kernel
theorem dX5_readGuestOf_20 : decode cX5_readGuestOf 20 = .ok (.aload_n 0, 1) := by decide +kernel
theorem dX5_readGuestOf_21 : decode cX5_readGuestOf 21 = .ok (.iconst 0, 1) := by decide +kernel
theorem dX5_readGuestOf_22 : decode cX5_readGuestOf 22 = .ok (.iconst 0, 1) := by decide +kernel
theorem dX5_readGuestOf_23 : decode cX5_readGuestOf 23 = .ok (.aload_n 0, 1) := by decide +kernel
theorem dX5_readGuestOf_24 : decode cX5_readGuestOf 24 = .ok (.getfield 28, 3) := by decide +kernel
theorem dX5_readGuestOf_27 : decode cX5_readGuestOf 27 = .ok (.iconst 0, 1) := by decide +kernel
theorem dX5_readGuestOf_28 : decode cX5_readGuestOf 28 = .ok (.iaload, 1) := by decide +kernel
theorem dX5_readGuestOf_29 : decode cX5_readGuestOf 29 = .ok (.iconst 1, 1) := by decide +kernel
theorem dX5_readGuestOf_30 : decode cX5_readGuestOf 30 = .ok (.isub, 1) := by decide +kernel
theorem dX5_readGuestOf_31 : decode cX5_readGuestOf 31 = .ok (.invokevirtual 95, 3) := by decide +kernel
theorem dX5_readGuestOf_34 : decode cX5_readGuestOf 34 = .ok (.ifCond .eq 14, 3) := by decide +kernel
theorem dX5_readGuestOf_37 : decode cX5_readGuestOf 37 = .ok (.aload_n 0, 1) := by decide +kernel
theorem dX5_readGuestOf_38 : decode cX5_readGuestOf 38 = .ok (.iconst 1, 1) := by decide +kernel
theorem dX5_readGuestOf_39 : decode cX5_readGuestOf 39 = .ok (.iconst 1, 1) := by decide +kernel
theorem dX5_readGuestOf_40 : decode cX5_readGuestOf 40 = .ok (.bipush 20, 2) := by decide +kernel
theorem dX5_readGuestOf_42 : decode cX5_readGuestOf 42 = .ok (.invokevirtual 95, 3) := by decide +kernel
theorem dX5_readGuestOf_45 : decode cX5_readGuestOf 45 = .ok (.ifCond .ne 5, 3) := by decide +kernel
theorem dX5_readGuestOf_48 : decode cX5_readGuestOf 48 = .ok (.iconst 0, 1) := by decide +kernel
theorem dX5_readGuestOf_49 : decode cX5_readGuestOf 49 = .ok (.ireturn, 1) := by decide +kernel
theorem dX5_readGuestOf_50 : decode cX5_readGuestOf 50 = .ok (.aload_n 0, 1) := by decide +kernel
theorem dX5_readGuestOf_51 : decode cX5_readGuestOf 51 = .ok (.aload_n 0, 1) := by decide +kernel
theorem dX5_readGuestOf_52 : decode cX5_readGuestOf 52 = .ok (.getfield 25, 3) := by decide +kernel
theorem dX5_readGuestOf_55 : decode cX5_readGuestOf 55 = .ok (.iconst 0, 1) := by decide +kernel
theorem dX5_readGuestOf_56 : decode cX5_readGuestOf 56 = .ok (.iaload, 1) := by decide +kernel
theorem dX5_readGuestOf_57 : decode cX5_readGuestOf 57 = .ok (.aload_n 0, 1) := by decide +kernel
theorem dX5_readGuestOf_58 : decode cX5_readGuestOf 58 = .ok (.getfield 25, 3) := by decide +kernel
theorem dX5_readGuestOf_61 : decode cX5_readGuestOf 61 = .ok (.iconst 1, 1) := by decide +kernel
theorem dX5_readGuestOf_62 : decode cX5_readGuestOf 62 = .ok (.iaload, 1) := by decide +kernel
theorem dX5_readGuestOf_63 : decode cX5_readGuestOf 63 = .ok (.invokevirtual 57, 3) := by decide +kernel
theorem dX5_readGuestOf_66 : decode cX5_readGuestOf 66 = .ok (.iconst 1, 1) := by decide +kernel
theorem dX5_readGuestOf_67 : decode cX5_readGuestOf 67 = .ok (.ireturn, 1) := by decide +kernel
theorem dX5_readTruceOf_0 : decode cX5_readTruceOf 0 = .ok (.aload_n 0, 1) := by decide +kernel
theorem dX5_readTruceOf_1 : decode cX5_readTruceOf 1 = .ok (.iconst 1, 1) := by decide +kernel
theorem dX5_readTruceOf_2 : decode cX5_readTruceOf 2 = .ok (.invokevirtual 92, 3) := by decide +kernel
theorem dX5_readTruceOf_5 : decode cX5_readTruceOf 5 = .ok (.ifCond .eq 18, 3) := by decide +kernel
theorem dX5_readTruceOf_8 : decode cX5_readTruceOf 8 = .ok (.aload_n 0, 1) := by decide +kernel
theorem dX5_readTruceOf_9 : decode cX5_readTruceOf 9 = .ok (.iconst 0, 1) := by decide +kernel
theorem dX5_readTruceOf_10 : decode cX5_readTruceOf 10 = .ok (.iconst 1, 1) := by decide +kernel
theorem dX5_readTruceOf_11 : decode cX5_readTruceOf 11 = .ok (.bipush 99, 2) := by decide +kernel
theorem dX5_readTruceOf_13 : decode cX5_readTruceOf 13 = .ok (.invokevirtual 95, 3) := by decide +kernel
theorem dX5_readTruceOf_16 : decode cX5_readTruceOf 16 = .ok (.ifCond .eq 7, 3) := by decide +kernel
theorem dX5_readTruceOf_19 : decode cX5_readTruceOf 19 = .ok (.iconst 1, 1) := by decide +kernel
theorem dX5_readTruceOf_20 : decode cX5_readTruceOf 20 = .ok (.goto 4, 3) := by decide +kernel
theorem dX5_readTruceOf_23 : decode cX5_readTruceOf 23 = .ok (.iconst 0, 1) := by decide +kernel
theorem dX5_readTruceOf_24 : decode cX5_readTruceOf 24 = .ok (.istore_n 1, 1) := by decide +kernel
theorem dX5_readTruceOf_25 : decode cX5_readTruceOf 25 = .ok (.aload_n 0, 1) := by decide +kernel
theorem dX5_readTruceOf_26 : decode cX5_readTruceOf 26 = .ok (.iload_n 1, 1) := by decide +kernel
theorem dX5_readTruceOf_27 : decode cX5_readTruceOf 27 = .ok (.ifCond .eq 12, 3) := by decide +kernel
theorem dX5_readTruceOf_30 : decode cX5_readTruceOf 30 = .ok (.aload_n 0, 1) := by decide +kernel
theorem dX5_readTruceOf_31 : decode cX5_readTruceOf 31 = .ok (.getfield 25, 3) := by decide +kernel
theorem dX5_readTruceOf_34 : decode cX5_readTruceOf 34 = .ok (.iconst 0, 1) := by decide +kernel
theorem dX5_readTruceOf_35 : decode cX5_readTruceOf 35 = .ok (.iaload, 1) := by decide +kernel
theorem dX5_readTruceOf_36 : decode cX5_readTruceOf 36 = .ok (.goto 7, 3) := by decide +kernel
theorem dX5_readTruceOf_39 : decode cX5_readTruceOf 39 = .ok (.aload_n 0, 1) := by decide +kernel
theorem dX5_readTruceOf_40 : decode cX5_readTruceOf 40 = .ok (.getfield 61, 3) := by decide +kernel
theorem dX5_readTruceOf_43 : decode cX5_readTruceOf 43 = .ok (.putfield 61, 3) := by decide +kernel
theorem dX5_readTruceOf_46 : decode cX5_readTruceOf 46 = .ok (.iload_n 1, 1) := by decide +kernel
theorem dX5_readTruceOf_47 : decode cX5_readTruceOf 47 = .ok (.ireturn, 1) := by decide +kernel
theorem dX5_readItem_0 : decode cX5_readItem 0 = .ok (.aload_n 0, 1) := by decide +kernel
theorem dX5_readItem_1 : decode cX5_readItem 1 = .ok (.aload_n 0, 1) := by decide +kernel
theorem dX5_readItem_2 : decode cX5_readItem 2 = .ok (.getfield 77, 3) := by decide +kernel
theorem dX5_readItem_5 : decode cX5_readItem 5 = .ok (.invokevirtual 80, 3) := by decide +kernel
theorem dX5_readItem_8 : decode cX5_readItem 8 = .ok (.istore_n 1, 1) := by decide +kernel
theorem dX5_readItem_9 : decode cX5_readItem 9 = .ok (.aload_n 0, 1) := by decide +kernel
theorem dX5_readItem_10 : decode cX5_readItem 10 = .ok (.dup, 1) := by decide +kernel
theorem dX5_readItem_11 : decode cX5_readItem 11 = .ok (.getfield 77, 3) := by decide +kernel
theorem dX5_readItem_14 : decode cX5_readItem 14 = .ok (.iconst 1, 1) := by decide +kernel
theorem dX5_readItem_15 : decode cX5_readItem 15 = .ok (.iadd, 1) := by decide +kernel
theorem dX5_readItem_16 : decode cX5_readItem 16 = .ok (.putfield 77, 3) := by decide +kernel
theorem dX5_readItem_19 : decode cX5_readItem 19 = .ok (.iload_n 1, 1) := by decide +kernel
theorem dX5_readItem_20 : decode cX5_readItem 20 = .ok (.bipush 121, 2) := by decide +kernel
theorem dX5_readItem_22 : decode cX5_readItem 22 = .ok (.if_icmp .ne 8, 3) := by decide +kernel
theorem dX5_readItem_25 : decode cX5_readItem 25 = .ok (.aload_n 0, 1) := by decide +kernel
theorem dX5_readItem_26 : decode cX5_readItem 26 = .ok (.invokevirtual 98, 3) := by decide +kernel
theorem dX5_readItem_29 : decode cX5_readItem 29 = .ok (.ireturn, 1) := by decide +kernel
theorem dX5_readItem_30 : decode cX5_readItem 30 = .ok (.aload_n 0, 1) := by decide +kernel
theorem dX5_readItem_31 : decode cX5_readItem 31 = .ok (.iconst 1, 1) := by decide +kernel
theorem dX5_readItem_32 : decode cX5_readItem 32 = .ok (.putfield 88, 3) := by decide +kernel
theorem dX5_readItem_35 : decode cX5_readItem 35 = .ok (.iload_n 1, 1) := by decide +kernel
theorem dX5_readItem_36 : decode cX5_readItem 36 = .ok (.lookupswitch 51 #[(100, 36), (116, 46), (118, 41)], 36) := by decide +kernel
theorem dX5_readItem_72 : decode cX5_readItem 72 = .ok (.aload_n 0, 1) := by decide +kernel
theorem dX5_readItem_73 : decode cX5_readItem 73 = .ok (.invokevirtual 102, 3) := by decide +kernel
theorem dX5_readItem_76 : decode cX5_readItem 76 = .ok (.ireturn, 1) := by decide +kernel
theorem dX5_readItem_77 : decode cX5_readItem 77 = .ok (.aload_n 0, 1) := by decide +kernel
theorem dX5_readItem_78 : decode cX5_readItem 78 = .ok (.invokevirtual 105, 3) := by decide +kernel
theorem dX5_readItem_81 : decode cX5_readItem 81 = .ok (.ireturn, 1) := by decide +kernel
theorem dX5_readItem_82 : decode cX5_readItem 82 = .ok (.aload_n 0, 1) := by decide +kernel
theorem dX5_readItem_83 : decode cX5_readItem 83 = .ok (.invokevirtual 108, 3) := by decide +kernel
theorem dX5_readItem_86 : decode cX5_readItem 86 = .ok (.ireturn, 1) := by decide +kernel
theorem dX5_readItem_87 : decode cX5_readItem 87 = .ok (.iconst 0, 1) := by decide +kernel
theorem dX5_readItem_88 : decode cX5_readItem 88 = .ok (.ireturn, 1) := by decide +kernel
theorem dX5_fault_0 : decode cX5_fault 0 = .ok (.aload_n 0, 1) := by decide +kernel
theorem dX5_fault_1 : decode cX5_fault 1 = .ok (.iconst 0, 1) := by decide +kernel
theorem dX5_fault_2 : decode cX5_fault 2 = .ok (.putfield 77, 3) := by decide +kernel
theorem dX5_fault_5 : decode cX5_fault 5 = .ok (.aload_n 0, 1) := by decide +kernel
theorem dX5_fault_6 : decode cX5_fault 6 = .ok (.invokevirtual 46, 3) := by decide +kernel
theorem dX5_fault_9 : decode cX5_fault 9 = .ok (.aload_n 0, 1) := by decide +kernel
theorem dX5_fault_10 : decode cX5_fault 10 = .ok (.getfield 77, 3) := by decide +kernel
theorem dX5_fault_13 : decode cX5_fault 13 = .ok (.aload_n 0, 1) := by decide +kernel
theorem dX5_fault_14 : decode cX5_fault 14 = .ok (.getfield 74, 3) := by decide +kernel
theorem dX5_fault_17 : decode cX5_fault 17 = .ok (.if_icmp .ge 20, 3) := by decide +kernel
theorem dX5_fault_20 : decode cX5_fault 20 = .ok (.aload_n 0, 1) := by decide +kernel
theorem dX5_fault_21 : decode cX5_fault 21 = .ok (.getfield 77, 3) := by decide +kernel
theorem dX5_fault_24 : decode cX5_fault 24 = .ok (.istore_n 1, 1) := by decide +kernel
theorem dX5_fault_25 : decode cX5_fault 25 = .ok (.aload_n 0, 1) := by decide +kernel
theorem dX5_fault_26 : decode cX5_fault 26 = .ok (.invokevirtual 111, 3) := by decide +kernel
theorem dX5_fault_29 : decode cX5_fault 29 = .ok (.ifCond .ne 5, 3) := by decide +kernel
theorem dX5_fault_32 : decode cX5_fault 32 = .ok (.iload_n 1, 1) := by decide +kernel
theorem dX5_fault_33 : decode cX5_fault 33 = .ok (.ireturn, 1) := by decide +kernel
theorem dX5_fault_34 : decode cX5_fault 34 = .ok (.goto (-25), 3) := by decide +kernel
theorem dX5_fault_37 : decode cX5_fault 37 = .ok (.bipush (-4), 2) := by decide +kernel
theorem dX5_fault_39 : decode cX5_fault 39 = .ok (.ireturn, 1) := by decide +kernel
theorem dX5_lay_0 : decode cX5_lay 0 = .ok (.aload_n 0, 1) := by decide +kernel
theorem dX5_lay_1 : decode cX5_lay 1 = .ok (.invokevirtual 114, 3) := by decide +kernel
theorem dX5_lay_4 : decode cX5_lay 4 = .ok (.bipush (-4), 2) := by decide +kernel
theorem dX5_lay_6 : decode cX5_lay 6 = .ok (.if_icmp .ne 12, 3) := by decide +kernel
theorem dX5_lay_9 : decode cX5_lay 9 = .ok (.aload_n 0, 1) := by decide +kernel
theorem dX5_lay_10 : decode cX5_lay 10 = .ok (.getfield 28, 3) := by decide +kernel
theorem dX5_lay_13 : decode cX5_lay 13 = .ok (.iconst 0, 1) := by decide +kernel
theorem dX5_lay_14 : decode cX5_lay 14 = .ok (.iaload, 1) := by decide +kernel
theorem dX5_lay_15 : decode cX5_lay 15 = .ok (.ifCond .ne 6, 3) := by decide +kernel
theorem dX5_lay_18 : decode cX5_lay 18 = .ok (.bipush (-2), 2) := by decide +kernel
theorem dX5_lay_20 : decode cX5_lay 20 = .ok (.ireturn, 1) := by decide +kernel
theorem dX5_lay_21 : decode cX5_lay 21 = .ok (.aload_n 0, 1) := by decide +kernel
theorem dX5_lay_22 : decode cX5_lay 22 = .ok (.invokevirtual 64, 3) := by decide +kernel
theorem dX5_lay_25 : decode cX5_lay 25 = .ok (.aload_n 0, 1) := by decide +kernel
theorem dX5_lay_26 : decode cX5_lay 26 = .ok (.getfield 7, 3) := by decide +kernel
theorem dX5_lay_29 : decode cX5_lay 29 = .ok (.iconst 0, 1) := by decide +kernel
theorem dX5_lay_30 : decode cX5_lay 30 = .ok (.iaload, 1) := by decide +kernel
theorem dX5_lay_31 : decode cX5_lay 31 = .ok (.ireturn, 1) := by decide +kernel
theorem dX5_settles_0 : decode cX5_settles 0 = .ok (.aload_n 0, 1) := by decide +kernel
theorem dX5_settles_1 : decode cX5_settles 1 = .ok (.aload_n 0, 1) := by decide +kernel
theorem dX5_settles_2 : decode cX5_settles 2 = .ok (.getfield 49, 3) := by decide +kernel
theorem dX5_settles_5 : decode cX5_settles 5 = .ok (.putfield 71, 3) := by decide +kernel
theorem dX5_settles_8 : decode cX5_settles 8 = .ok (.aload_n 0, 1) := by decide +kernel
theorem dX5_settles_9 : decode cX5_settles 9 = .ok (.aload_n 0, 1) := by decide +kernel
theorem dX5_settles_10 : decode cX5_settles 10 = .ok (.getfield 61, 3) := by decide +kernel
theorem dX5_settles_13 : decode cX5_settles 13 = .ok (.putfield 118, 3) := by decide +kernel
theorem dX5_settles_16 : decode cX5_settles 16 = .ok (.aload_n 0, 1) := by decide +kernel
theorem dX5_settles_17 : decode cX5_settles 17 = .ok (.getfield 31, 3) := by decide +kernel
theorem dX5_settles_20 : decode cX5_settles 20 = .ok (.iconst 0, 1) := by decide +kernel
theorem dX5_settles_21 : decode cX5_settles 21 = .ok (.aload_n 0, 1) := by decide +kernel
theorem dX5_settles_22 : decode cX5_settles 22 = .ok (.getfield 28, 3) := by decide +kernel
theorem dX5_settles_25 : decode cX5_settles 25 = .ok (.bipush 66, 2) := by decide +kernel
theorem dX5_settles_27 : decode cX5_settles 27 = .ok (.invokestatic 121, 3) := by decide +kernel
theorem dX5_settles_30 : decode cX5_settles 30 = .ok (.aload_n 0, 1) := by decide +kernel
theorem dX5_settles_31 : decode cX5_settles 31 = .ok (.invokevirtual 125, 3) := by decide +kernel
theorem dX5_settles_34 : decode cX5_settles 34 = .ok (.aload_n 0, 1) := by decide +kernel
theorem dX5_settles_35 : decode cX5_settles 35 = .ok (.getfield 7, 3) := by decide +kernel
theorem dX5_settles_38 : decode cX5_settles 38 = .ok (.iconst 0, 1) := by decide +kernel
theorem dX5_settles_39 : decode cX5_settles 39 = .ok (.aload_n 0, 1) := by decide +kernel
theorem dX5_settles_40 : decode cX5_settles 40 = .ok (.getfield 31, 3) := by decide +kernel
theorem dX5_settles_43 : decode cX5_settles 43 = .ok (.bipush 66, 2) := by decide +kernel
theorem dX5_settles_45 : decode cX5_settles 45 = .ok (.invokestatic 121, 3) := by decide +kernel
theorem dX5_settles_48 : decode cX5_settles 48 = .ok (.aload_n 0, 1) := by decide +kernel
theorem dX5_settles_49 : decode cX5_settles 49 = .ok (.iconst 0, 1) := by decide +kernel
theorem dX5_settles_50 : decode cX5_settles 50 = .ok (.putfield 128, 3) := by decide +kernel
theorem dX5_settles_53 : decode cX5_settles 53 = .ok (.aload_n 0, 1) := by decide +kernel
theorem dX5_settles_54 : decode cX5_settles 54 = .ok (.iconst 0, 1) := by decide +kernel
theorem dX5_settles_55 : decode cX5_settles 55 = .ok (.putfield 131, 3) := by decide +kernel
theorem dX5_settles_58 : decode cX5_settles 58 = .ok (.aload_n 0, 1) := by decide +kernel
theorem dX5_settles_59 : decode cX5_settles 59 = .ok (.iconst 0, 1) := by decide +kernel
theorem dX5_settles_60 : decode cX5_settles 60 = .ok (.putfield 134, 3) := by decide +kernel
theorem dX5_settles_63 : decode cX5_settles 63 = .ok (.return_, 1) := by decide +kernel
theorem dX5_from_0 : decode cX5_from 0 = .ok (.aload_n 0, 1) := by decide +kernel
theorem dX5_from_1 : decode cX5_from 1 = .ok (.getfield 31, 3) := by decide +kernel
theorem dX5_from_4 : decode cX5_from 4 = .ok (.iconst 0, 1) := by decide +kernel
theorem dX5_from_5 : decode cX5_from 5 = .ok (.aload_n 1, 1) := by decide +kernel
theorem dX5_from_6 : decode cX5_from 6 = .ok (.bipush 66, 2) := by decide +kernel
theorem dX5_from_8 : decode cX5_from 8 = .ok (.invokestatic 121, 3) := by decide +kernel
theorem dX5_from_11 : decode cX5_from 11 = .ok (.return_, 1) := by decide +kernel
theorem dX5_freeFrom_0 : decode cX5_freeFrom 0 = .ok (.iload_n 2, 1) := by decide +kernel
theorem dX5_freeFrom_1 : decode cX5_freeFrom 1 = .ok (.istore 4, 2) := by decide +kernel
theorem dX5_freeFrom_3 : decode cX5_freeFrom 3 = .ok (.iconst 0, 1) := by decide +kernel
theorem dX5_freeFrom_4 : decode cX5_freeFrom 4 = .ok (.istore 5, 2) := by decide +kernel
theorem dX5_freeFrom_6 : decode cX5_freeFrom 6 = .ok (.iload 5, 2) := by decide +kernel
theorem dX5_freeFrom_8 : decode cX5_freeFrom 8 = .ok (.aload_n 0, 1) := by decide +kernel
theorem dX5_freeFrom_9 : decode cX5_freeFrom 9 = .ok (.getfield 71, 3) := by decide +kernel
theorem dX5_freeFrom_12 : decode cX5_freeFrom 12 = .ok (.if_icmp .ge 46, 3) := by decide +kernel
theorem dX5_freeFrom_15 : decode cX5_freeFrom 15 = .ok (.aload_n 0, 1) := by decide +kernel
theorem dX5_freeFrom_16 : decode cX5_freeFrom 16 = .ok (.getfield 31, 3) := by decide +kernel
theorem dX5_freeFrom_19 : decode cX5_freeFrom 19 = .ok (.bipush 37, 2) := by decide +kernel
theorem dX5_freeFrom_21 : decode cX5_freeFrom 21 = .ok (.bipush 8, 2) := by decide +kernel
theorem dX5_freeFrom_23 : decode cX5_freeFrom 23 = .ok (.iload_n 1, 1) := by decide +kernel
theorem dX5_freeFrom_24 : decode cX5_freeFrom 24 = .ok (.imul, 1) := by decide +kernel
theorem dX5_freeFrom_25 : decode cX5_freeFrom 25 = .ok (.iadd, 1) := by decide +kernel
theorem dX5_freeFrom_26 : decode cX5_freeFrom 26 = .ok (.iload 4, 2) := by decide +kernel
theorem dX5_freeFrom_28 : decode cX5_freeFrom 28 = .ok (.iadd, 1) := by decide +kernel
theorem dX5_freeFrom_29 : decode cX5_freeFrom 29 = .ok (.iaload, 1) := by decide +kernel
theorem dX5_freeFrom_30 : decode cX5_freeFrom 30 = .ok (.ifCond .ne 6, 3) := by decide +kernel
theorem dX5_freeFrom_33 : decode cX5_freeFrom 33 = .ok (.iload 4, 2) := by decide +kernel
theorem dX5_freeFrom_35 : decode cX5_freeFrom 35 = .ok (.ireturn, 1) := by decide +kernel
theorem dX5_freeFrom_36 : decode cX5_freeFrom 36 = .ok (.iload 4, 2) := by decide +kernel
theorem dX5_freeFrom_38 : decode cX5_freeFrom 38 = .ok (.iload_n 3, 1) := by decide +kernel
theorem dX5_freeFrom_39 : decode cX5_freeFrom 39 = .ok (.iadd, 1) := by decide +kernel
theorem dX5_freeFrom_40 : decode cX5_freeFrom 40 = .ok (.aload_n 0, 1) := by decide +kernel
theorem dX5_freeFrom_41 : decode cX5_freeFrom 41 = .ok (.getfield 71, 3) := by decide +kernel
theorem dX5_freeFrom_44 : decode cX5_freeFrom 44 = .ok (.iadd, 1) := by decide +kernel
theorem dX5_freeFrom_45 : decode cX5_freeFrom 45 = .ok (.aload_n 0, 1) := by decide +kernel
theorem dX5_freeFrom_46 : decode cX5_freeFrom 46 = .ok (.getfield 71, 3) := by decide +kernel
theorem dX5_freeFrom_49 : decode cX5_freeFrom 49 = .ok (.irem, 1) := by decide +kernel
theorem dX5_freeFrom_50 : decode cX5_freeFrom 50 = .ok (.istore 4, 2) := by decide +kernel
theorem dX5_freeFrom_52 : decode cX5_freeFrom 52 = .ok (.iinc 5 1, 3) := by decide +kernel
theorem dX5_freeFrom_55 : decode cX5_freeFrom 55 = .ok (.goto (-49), 3) := by decide +kernel
theorem dX5_freeFrom_58 : decode cX5_freeFrom 58 = .ok (.bipush (-4), 2) := by decide +kernel
theorem dX5_freeFrom_60 : decode cX5_freeFrom 60 = .ok (.ireturn, 1) := by decide +kernel
theorem dX5_placeFor_0 : decode cX5_placeFor 0 = .ok (.bipush 9, 2) := by decide +kernel
theorem dX5_placeFor_2 : decode cX5_placeFor 2 = .ok (.iload_n 3, 1) := by decide +kernel
theorem dX5_placeFor_3 : decode cX5_placeFor 3 = .ok (.isub, 1) := by decide +kernel
theorem dX5_placeFor_4 : decode cX5_placeFor 4 = .ok (.aload_n 0, 1) := by decide +kernel
theorem dX5_placeFor_5 : decode cX5_placeFor 5 = .ok (.getfield 71, 3) := by decide +kernel
theorem dX5_placeFor_8 : decode cX5_placeFor 8 = .ok (.imul, 1) := by decide +kernel
theorem dX5_placeFor_9 : decode cX5_placeFor 9 = .ok (.bipush 10, 2) := by decide +kernel
theorem dX5_placeFor_11 : decode cX5_placeFor 11 = .ok (.idiv, 1) := by decide +kernel
theorem dX5_placeFor_12 : decode cX5_placeFor 12 = .ok (.istore 4, 2) := by decide +kernel
theorem dX5_placeFor_14 : decode cX5_placeFor 14 = .ok (.iload_n 2, 1) := by decide +kernel
theorem dX5_placeFor_15 : decode cX5_placeFor 15 = .ok (.iconst 2, 1) := by decide +kernel
theorem dX5_placeFor_16 : decode cX5_placeFor 16 = .ok (.if_icmp .ne 13, 3) := by decide +kernel
theorem dX5_placeFor_19 : decode cX5_placeFor 19 = .ok (.aload_n 0, 1) := by decide +kernel
theorem dX5_placeFor_20 : decode cX5_placeFor 20 = .ok (.iload_n 1, 1) := by decide +kernel
theorem dX5_placeFor_21 : decode cX5_placeFor 21 = .ok (.iconst 0, 1) := by decide +kernel
theorem dX5_placeFor_22 : decode cX5_placeFor 22 = .ok (.iconst 1, 1) := by decide +kernel
theorem dX5_placeFor_23 : decode cX5_placeFor 23 = .ok (.invokevirtual 137, 3) := by decide +kernel
theorem dX5_placeFor_26 : decode cX5_placeFor 26 = .ok (.goto 20, 3) := by decide +kernel
theorem dX5_placeFor_29 : decode cX5_placeFor 29 = .ok (.aload_n 0, 1) := by decide +kernel
theorem dX5_placeFor_30 : decode cX5_placeFor 30 = .ok (.iload_n 1, 1) := by decide +kernel
theorem dX5_placeFor_31 : decode cX5_placeFor 31 = .ok (.iload 4, 2) := by decide +kernel
theorem dX5_placeFor_33 : decode cX5_placeFor 33 = .ok (.iload_n 2, 1) := by decide +kernel
theorem dX5_placeFor_34 : decode cX5_placeFor 34 = .ok (.iconst 1, 1) := by decide +kernel
theorem dX5_placeFor_35 : decode cX5_placeFor 35 = .ok (.if_icmp .ne 7, 3) := by decide +kernel
theorem dX5_placeFor_38 : decode cX5_placeFor 38 = .ok (.iconst (-1), 1) := by decide +kernel
theorem dX5_placeFor_39 : decode cX5_placeFor 39 = .ok (.goto 4, 3) := by decide +kernel
theorem dX5_placeFor_42 : decode cX5_placeFor 42 = .ok (.iconst 1, 1) := by decide +kernel
theorem dX5_placeFor_43 : decode cX5_placeFor 43 = .ok (.invokevirtual 137, 3) := by decide +kernel
theorem dX5_placeFor_46 : decode cX5_placeFor 46 = .ok (.ireturn, 1) := by decide +kernel
theorem dX5_buries_0 : decode cX5_buries 0 = .ok (.aload_n 0, 1) := by decide +kernel
theorem dX5_buries_1 : decode cX5_buries 1 = .ok (.getfield 31, 3) := by decide +kernel
theorem dX5_buries_4 : decode cX5_buries 4 = .ok (.iconst 1, 1) := by decide +kernel
theorem dX5_buries_5 : decode cX5_buries 5 = .ok (.iconst 3, 1) := by decide +kernel
theorem dX5_buries_6 : decode cX5_buries 6 = .ok (.iload_n 1, 1) := by decide +kernel
theorem dX5_buries_7 : decode cX5_buries 7 = .ok (.imul, 1) := by decide +kernel
theorem dX5_buries_8 : decode cX5_buries 8 = .ok (.iadd, 1) := by decide +kernel
theorem dX5_buries_9 : decode cX5_buries 9 = .ok (.iaload, 1) := by decide +kernel
theorem dX5_buries_10 : decode cX5_buries 10 = .ok (.istore_n 2, 1) := by decide +kernel
theorem dX5_buries_11 : decode cX5_buries 11 = .ok (.aload_n 0, 1) := by decide +kernel
theorem dX5_buries_12 : decode cX5_buries 12 = .ok (.getfield 31, 3) := by decide +kernel
theorem dX5_buries_15 : decode cX5_buries 15 = .ok (.iconst 1, 1) := by decide +kernel
theorem dX5_buries_16 : decode cX5_buries 16 = .ok (.iconst 3, 1) := by decide +kernel
theorem dX5_buries_17 : decode cX5_buries 17 = .ok (.iload_n 1, 1) := by decide +kernel
theorem dX5_buries_18 : decode cX5_buries 18 = .ok (.imul, 1) := by decide +kernel
theorem dX5_buries_19 : decode cX5_buries 19 = .ok (.iadd, 1) := by decide +kernel
theorem dX5_buries_20 : decode cX5_buries 20 = .ok (.iconst 1, 1) := by decide +kernel
theorem dX5_buries_21 : decode cX5_buries 21 = .ok (.iadd, 1) := by decide +kernel
theorem dX5_buries_22 : decode cX5_buries 22 = .ok (.iaload, 1) := by decide +kernel
theorem dX5_buries_23 : decode cX5_buries 23 = .ok (.istore_n 3, 1) := by decide +kernel
theorem dX5_buries_24 : decode cX5_buries 24 = .ok (.aload_n 0, 1) := by decide +kernel
theorem dX5_buries_25 : decode cX5_buries 25 = .ok (.getfield 31, 3) := by decide +kernel
theorem dX5_buries_28 : decode cX5_buries 28 = .ok (.iconst 1, 1) := by decide +kernel
theorem dX5_buries_29 : decode cX5_buries 29 = .ok (.iconst 3, 1) := by decide +kernel
theorem dX5_buries_30 : decode cX5_buries 30 = .ok (.iload_n 1, 1) := by decide +kernel
theorem dX5_buries_31 : decode cX5_buries 31 = .ok (.imul, 1) := by decide +kernel
theorem dX5_buries_32 : decode cX5_buries 32 = .ok (.iadd, 1) := by decide +kernel
theorem dX5_buries_33 : decode cX5_buries 33 = .ok (.iconst 2, 1) := by decide +kernel
theorem dX5_buries_34 : decode cX5_buries 34 = .ok (.iadd, 1) := by decide +kernel
theorem dX5_buries_35 : decode cX5_buries 35 = .ok (.iaload, 1) := by decide +kernel
theorem dX5_buries_36 : decode cX5_buries 36 = .ok (.istore 4, 2) := by decide +kernel
theorem dX5_buries_38 : decode cX5_buries 38 = .ok (.aload_n 0, 1) := by decide +kernel
theorem dX5_buries_39 : decode cX5_buries 39 = .ok (.iconst 1, 1) := by decide +kernel
theorem dX5_buries_40 : decode cX5_buries 40 = .ok (.iload_n 2, 1) := by decide +kernel
theorem dX5_buries_41 : decode cX5_buries 41 = .ok (.isub, 1) := by decide +kernel
theorem dX5_buries_42 : decode cX5_buries 42 = .ok (.iload_n 3, 1) := by decide +kernel
theorem dX5_buries_43 : decode cX5_buries 43 = .ok (.iload 4, 2) := by decide +kernel
theorem dX5_buries_45 : decode cX5_buries 45 = .ok (.invokevirtual 141, 3) := by decide +kernel
theorem dX5_buries_48 : decode cX5_buries 48 = .ok (.istore 5, 2) := by decide +kernel
theorem dX5_buries_50 : decode cX5_buries 50 = .ok (.iload 5, 2) := by decide +kernel
theorem dX5_buries_52 : decode cX5_buries 52 = .ok (.ifCond .ge 6, 3) := by decide +kernel
theorem dX5_buries_55 : decode cX5_buries 55 = .ok (.bipush (-4), 2) := by decide +kernel
theorem dX5_buries_57 : decode cX5_buries 57 = .ok (.ireturn, 1) := by decide +kernel
theorem dX5_buries_58 : decode cX5_buries 58 = .ok (.aload_n 0, 1) := by decide +kernel
theorem dX5_buries_59 : decode cX5_buries 59 = .ok (.getfield 31, 3) := by decide +kernel
theorem dX5_buries_62 : decode cX5_buries 62 = .ok (.bipush 37, 2) := by decide +kernel
theorem dX5_buries_64 : decode cX5_buries 64 = .ok (.bipush 8, 2) := by decide +kernel
theorem dX5_buries_66 : decode cX5_buries 66 = .ok (.iconst 1, 1) := by decide +kernel
theorem dX5_buries_67 : decode cX5_buries 67 = .ok (.iload_n 2, 1) := by decide +kernel
theorem dX5_buries_68 : decode cX5_buries 68 = .ok (.isub, 1) := by decide +kernel
theorem dX5_buries_69 : decode cX5_buries 69 = .ok (.imul, 1) := by decide +kernel
theorem dX5_buries_70 : decode cX5_buries 70 = .ok (.iadd, 1) := by decide +kernel
theorem dX5_buries_71 : decode cX5_buries 71 = .ok (.iload 5, 2) := by decide +kernel
theorem dX5_buries_73 : decode cX5_buries 73 = .ok (.iadd, 1) := by decide +kernel
theorem dX5_buries_74 : decode cX5_buries 74 = .ok (.iload_n 1, 1) := by decide +kernel
theorem dX5_buries_75 : decode cX5_buries 75 = .ok (.iconst 1, 1) := by decide +kernel
theorem dX5_buries_76 : decode cX5_buries 76 = .ok (.iadd, 1) := by decide +kernel
theorem dX5_buries_77 : decode cX5_buries 77 = .ok (.iastore, 1) := by decide +kernel
theorem dX5_buries_78 : decode cX5_buries 78 = .ok (.iload_n 3, 1) := by decide +kernel
theorem dX5_buries_79 : decode cX5_buries 79 = .ok (.iconst 3, 1) := by decide +kernel
theorem dX5_buries_80 : decode cX5_buries 80 = .ok (.if_icmp .ne 14, 3) := by decide +kernel
theorem dX5_buries_83 : decode cX5_buries 83 = .ok (.aload_n 0, 1) := by decide +kernel
theorem dX5_buries_84 : decode cX5_buries 84 = .ok (.iload_n 2, 1) := by decide +kernel
theorem dX5_buries_85 : decode cX5_buries 85 = .ok (.iconst 0, 1) := by decide +kernel
theorem dX5_buries_86 : decode cX5_buries 86 = .ok (.iload 4, 2) := by decide +kernel
theorem dX5_buries_88 : decode cX5_buries 88 = .ok (.invokevirtual 141, 3) := by decide +kernel
theorem dX5_buries_91 : decode cX5_buries 91 = .ok (.goto 5, 3) := by decide +kernel
theorem dX5_buries_94 : decode cX5_buries 94 = .ok (.bipush (-4), 2) := by decide +kernel
theorem dX5_buries_96 : decode cX5_buries 96 = .ok (.istore 6, 2) := by decide +kernel
theorem dX5_buries_98 : decode cX5_buries 98 = .ok (.iload 6, 2) := by decide +kernel
theorem dX5_buries_100 : decode cX5_buries 100 = .ok (.ifCond .lt 22, 3) := by decide +kernel
theorem dX5_buries_103 : decode cX5_buries 103 = .ok (.aload_n 0, 1) := by decide +kernel
theorem dX5_buries_104 : decode cX5_buries 104 = .ok (.getfield 31, 3) := by decide +kernel
theorem dX5_buries_107 : decode cX5_buries 107 = .ok (.bipush 37, 2) := by decide +kernel
theorem dX5_buries_109 : decode cX5_buries 109 = .ok (.bipush 8, 2) := by decide +kernel
theorem dX5_buries_111 : decode cX5_buries 111 = .ok (.iload_n 2, 1) := by decide +kernel
theorem dX5_buries_112 : decode cX5_buries 112 = .ok (.imul, 1) := by decide +kernel
theorem dX5_buries_113 : decode cX5_buries 113 = .ok (.iadd, 1) := by decide +kernel
theorem dX5_buries_114 : decode cX5_buries 114 = .ok (.iload 6, 2) := by decide +kernel
theorem dX5_buries_116 : decode cX5_buries 116 = .ok (.iadd, 1) := by decide +kernel
theorem dX5_buries_117 : decode cX5_buries 117 = .ok (.iload_n 1, 1) := by decide +kernel
theorem dX5_buries_118 : decode cX5_buries 118 = .ok (.bipush 21, 2) := by decide +kernel
theorem dX5_buries_120 : decode cX5_buries 120 = .ok (.iadd, 1) := by decide +kernel
theorem dX5_buries_121 : decode cX5_buries 121 = .ok (.iastore, 1) := by decide +kernel
theorem dX5_buries_122 : decode cX5_buries 122 = .ok (.iload 5, 2) := by decide +kernel
theorem dX5_buries_124 : decode cX5_buries 124 = .ok (.ireturn, 1) := by decide +kernel
theorem dX5_anew_0 : decode cX5_anew 0 = .ok (.bipush 37, 2) := by decide +kernel
theorem dX5_anew_2 : decode cX5_anew 2 = .ok (.istore_n 1, 1) := by decide +kernel
theorem dX5_anew_3 : decode cX5_anew 3 = .ok (.iload_n 1, 1) := by decide +kernel
theorem dX5_anew_4 : decode cX5_anew 4 = .ok (.bipush 53, 2) := by decide +kernel
theorem dX5_anew_6 : decode cX5_anew 6 = .ok (.if_icmp .ge 16, 3) := by decide +kernel
theorem dX5_anew_9 : decode cX5_anew 9 = .ok (.aload_n 0, 1) := by decide +kernel
theorem dX5_anew_10 : decode cX5_anew 10 = .ok (.getfield 31, 3) := by decide +kernel
theorem dX5_anew_13 : decode cX5_anew 13 = .ok (.iload_n 1, 1) := by decide +kernel
theorem dX5_anew_14 : decode cX5_anew 14 = .ok (.iconst 0, 1) := by decide +kernel
theorem dX5_anew_15 : decode cX5_anew 15 = .ok (.iastore, 1) := by decide +kernel
theorem dX5_anew_16 : decode cX5_anew 16 = .ok (.iinc 1 1, 3) := by decide +kernel
theorem dX5_anew_19 : decode cX5_anew 19 = .ok (.goto (-16), 3) := by decide +kernel
theorem dX5_anew_22 : decode cX5_anew 22 = .ok (.iconst 0, 1) := by decide +kernel
theorem dX5_anew_23 : decode cX5_anew 23 = .ok (.istore_n 1, 1) := by decide +kernel
theorem dX5_anew_24 : decode cX5_anew 24 = .ok (.iload_n 1, 1) := by decide +kernel
theorem dX5_anew_25 : decode cX5_anew 25 = .ok (.aload_n 0, 1) := by decide +kernel
theorem dX5_anew_26 : decode cX5_anew 26 = .ok (.getfield 31, 3) := by decide +kernel
theorem dX5_anew_29 : decode cX5_anew 29 = .ok (.iconst 0, 1) := by decide +kernel
theorem dX5_anew_30 : decode cX5_anew 30 = .ok (.iaload, 1) := by decide +kernel
theorem dX5_anew_31 : decode cX5_anew 31 = .ok (.if_icmp .ge 15, 3) := by decide +kernel
theorem dX5_anew_34 : decode cX5_anew 34 = .ok (.aload_n 0, 1) := by decide +kernel
theorem dX5_anew_35 : decode cX5_anew 35 = .ok (.iload_n 1, 1) := by decide +kernel
theorem dX5_anew_36 : decode cX5_anew 36 = .ok (.invokevirtual 144, 3) := by decide +kernel
theorem dX5_anew_39 : decode cX5_anew 39 = .ok (.pop, 1) := by decide +kernel
theorem dX5_anew_40 : decode cX5_anew 40 = .ok (.iinc 1 1, 3) := by decide +kernel
theorem dX5_anew_43 : decode cX5_anew 43 = .ok (.goto (-19), 3) := by decide +kernel
theorem dX5_anew_46 : decode cX5_anew 46 = .ok (.return_, 1) := by decide +kernel
theorem dX5_plotIn_0 : decode cX5_plotIn 0 = .ok (.iconst 0, 1) := by decide +kernel
theorem dX5_plotIn_1 : decode cX5_plotIn 1 = .ok (.istore_n 3, 1) := by decide +kernel
theorem dX5_plotIn_2 : decode cX5_plotIn 2 = .ok (.iload_n 3, 1) := by decide +kernel
theorem dX5_plotIn_3 : decode cX5_plotIn 3 = .ok (.bipush 8, 2) := by decide +kernel
theorem dX5_plotIn_5 : decode cX5_plotIn 5 = .ok (.if_icmp .ge 28, 3) := by decide +kernel
theorem dX5_plotIn_8 : decode cX5_plotIn 8 = .ok (.aload_n 0, 1) := by decide +kernel
theorem dX5_plotIn_9 : decode cX5_plotIn 9 = .ok (.bipush 37, 2) := by decide +kernel
theorem dX5_plotIn_11 : decode cX5_plotIn 11 = .ok (.bipush 8, 2) := by decide +kernel
theorem dX5_plotIn_13 : decode cX5_plotIn 13 = .ok (.iload_n 1, 1) := by decide +kernel
theorem dX5_plotIn_14 : decode cX5_plotIn 14 = .ok (.imul, 1) := by decide +kernel
theorem dX5_plotIn_15 : decode cX5_plotIn 15 = .ok (.iadd, 1) := by decide +kernel
theorem dX5_plotIn_16 : decode cX5_plotIn 16 = .ok (.iload_n 3, 1) := by decide +kernel
theorem dX5_plotIn_17 : decode cX5_plotIn 17 = .ok (.iadd, 1) := by decide +kernel
theorem dX5_plotIn_18 : decode cX5_plotIn 18 = .ok (.iaload, 1) := by decide +kernel
theorem dX5_plotIn_19 : decode cX5_plotIn 19 = .ok (.iload_n 2, 1) := by decide +kernel
theorem dX5_plotIn_20 : decode cX5_plotIn 20 = .ok (.iconst 1, 1) := by decide +kernel
theorem dX5_plotIn_21 : decode cX5_plotIn 21 = .ok (.iadd, 1) := by decide +kernel
theorem dX5_plotIn_22 : decode cX5_plotIn 22 = .ok (.if_icmp .ne 5, 3) := by decide +kernel
theorem dX5_plotIn_25 : decode cX5_plotIn 25 = .ok (.iload_n 3, 1) := by decide +kernel
theorem dX5_plotIn_26 : decode cX5_plotIn 26 = .ok (.ireturn, 1) := by decide +kernel
theorem dX5_plotIn_27 : decode cX5_plotIn 27 = .ok (.iinc 3 1, 3) := by decide +kernel
theorem dX5_plotIn_30 : decode cX5_plotIn 30 = .ok (.goto (-28), 3) := by decide +kernel
theorem dX5_plotIn_33 : decode cX5_plotIn 33 = .ok (.bipush (-4), 2) := by decide +kernel
theorem dX5_plotIn_35 : decode cX5_plotIn 35 = .ok (.ireturn, 1) := by decide +kernel
theorem dX5_plotOf_0 : decode cX5_plotOf 0 = .ok (.aload_n 0, 1) := by decide +kernel
theorem dX5_plotOf_1 : decode cX5_plotOf 1 = .ok (.iconst 1, 1) := by decide +kernel
theorem dX5_plotOf_2 : decode cX5_plotOf 2 = .ok (.aload_n 0, 1) := by decide +kernel
theorem dX5_plotOf_3 : decode cX5_plotOf 3 = .ok (.iconst 1, 1) := by decide +kernel
theorem dX5_plotOf_4 : decode cX5_plotOf 4 = .ok (.iconst 3, 1) := by decide +kernel
theorem dX5_plotOf_5 : decode cX5_plotOf 5 = .ok (.iload_n 1, 1) := by decide +kernel
theorem dX5_plotOf_6 : decode cX5_plotOf 6 = .ok (.imul, 1) := by decide +kernel
theorem dX5_plotOf_7 : decode cX5_plotOf 7 = .ok (.iadd, 1) := by decide +kernel
theorem dX5_plotOf_8 : decode cX5_plotOf 8 = .ok (.iaload, 1) := by decide +kernel
theorem dX5_plotOf_9 : decode cX5_plotOf 9 = .ok (.isub, 1) := by decide +kernel
theorem dX5_plotOf_10 : decode cX5_plotOf 10 = .ok (.iload_n 1, 1) := by decide +kernel
theorem dX5_plotOf_11 : decode cX5_plotOf 11 = .ok (.invokestatic 147, 3) := by decide +kernel
theorem dX5_plotOf_14 : decode cX5_plotOf 14 = .ok (.ireturn, 1) := by decide +kernel
theorem dX5_dead_0 : decode cX5_dead 0 = .ok (.aload_n 0, 1) := by decide +kernel
theorem dX5_dead_1 : decode cX5_dead 1 = .ok (.iload_n 1, 1) := by decide +kernel
theorem dX5_dead_2 : decode cX5_dead 2 = .ok (.invokevirtual 151, 3) := by decide +kernel
theorem dX5_dead_5 : decode cX5_dead 5 = .ok (.ifCond .eq 12, 3) := by decide +kernel
theorem dX5_dead_8 : decode cX5_dead 8 = .ok (.iload_n 2, 1) := by decide +kernel
theorem dX5_dead_9 : decode cX5_dead 9 = .ok (.iconst 0, 1) := by decide +kernel
theorem dX5_dead_10 : decode cX5_dead 10 = .ok (.iconst 4, 1) := by decide +kernel
theorem dX5_dead_11 : decode cX5_dead 11 = .ok (.invokestatic 67, 3) := by decide +kernel
theorem dX5_dead_14 : decode cX5_dead 14 = .ok (.ifCond .ne 5, 3) := by decide +kernel
theorem dX5_dead_17 : decode cX5_dead 17 = .ok (.iconst (-1), 1) := by decide +kernel
theorem dX5_dead_18 : decode cX5_dead 18 = .ok (.ireturn, 1) := by decide +kernel
theorem dX5_dead_19 : decode cX5_dead 19 = .ok (.iload_n 2, 1) := by decide +kernel
theorem dX5_dead_20 : decode cX5_dead 20 = .ok (.iconst 3, 1) := by decide +kernel
theorem dX5_dead_21 : decode cX5_dead 21 = .ok (.if_icmp .ge 18, 3) := by decide +kernel
theorem dX5_dead_24 : decode cX5_dead 24 = .ok (.aload_n 0, 1) := by decide +kernel
theorem dX5_dead_25 : decode cX5_dead 25 = .ok (.getfield 7, 3) := by decide +kernel
theorem dX5_dead_28 : decode cX5_dead 28 = .ok (.iconst 1, 1) := by decide +kernel
theorem dX5_dead_29 : decode cX5_dead 29 = .ok (.iconst 3, 1) := by decide +kernel
theorem dX5_dead_30 : decode cX5_dead 30 = .ok (.iload_n 1, 1) := by decide +kernel
theorem dX5_dead_31 : decode cX5_dead 31 = .ok (.imul, 1) := by decide +kernel
theorem dX5_dead_32 : decode cX5_dead 32 = .ok (.iadd, 1) := by decide +kernel
theorem dX5_dead_33 : decode cX5_dead 33 = .ok (.iload_n 2, 1) := by decide +kernel
theorem dX5_dead_34 : decode cX5_dead 34 = .ok (.iadd, 1) := by decide +kernel
theorem dX5_dead_35 : decode cX5_dead 35 = .ok (.iaload, 1) := by decide +kernel
theorem dX5_dead_36 : decode cX5_dead 36 = .ok (.goto 40, 3) := by decide +kernel
theorem dX5_dead_39 : decode cX5_dead 39 = .ok (.iload_n 2, 1) := by decide +kernel
theorem dX5_dead_40 : decode cX5_dead 40 = .ok (.iconst 3, 1) := by decide +kernel
theorem dX5_dead_41 : decode cX5_dead 41 = .ok (.if_icmp .ne 14, 3) := by decide +kernel
theorem dX5_dead_44 : decode cX5_dead 44 = .ok (.aload_n 0, 1) := by decide +kernel
theorem dX5_dead_45 : decode cX5_dead 45 = .ok (.getfield 7, 3) := by decide +kernel
theorem dX5_dead_48 : decode cX5_dead 48 = .ok (.iload_n 1, 1) := by decide +kernel
theorem dX5_dead_49 : decode cX5_dead 49 = .ok (.invokestatic 154, 3) := by decide +kernel
theorem dX5_dead_52 : decode cX5_dead 52 = .ok (.goto 24, 3) := by decide +kernel
theorem dX5_dead_55 : decode cX5_dead 55 = .ok (.aload_n 0, 1) := by decide +kernel
theorem dX5_dead_56 : decode cX5_dead 56 = .ok (.getfield 7, 3) := by decide +kernel
theorem dX5_dead_59 : decode cX5_dead 59 = .ok (.aload_n 0, 1) := by decide +kernel
theorem dX5_dead_60 : decode cX5_dead 60 = .ok (.getfield 7, 3) := by decide +kernel
theorem dX5_dead_63 : decode cX5_dead 63 = .ok (.iconst 1, 1) := by decide +kernel
theorem dX5_dead_64 : decode cX5_dead 64 = .ok (.iconst 3, 1) := by decide +kernel
theorem dX5_dead_65 : decode cX5_dead 65 = .ok (.iload_n 1, 1) := by decide +kernel
theorem dX5_dead_66 : decode cX5_dead 66 = .ok (.imul, 1) := by decide +kernel
theorem dX5_dead_67 : decode cX5_dead 67 = .ok (.iadd, 1) := by decide +kernel
theorem dX5_dead_68 : decode cX5_dead 68 = .ok (.iaload, 1) := by decide +kernel
theorem dX5_dead_69 : decode cX5_dead 69 = .ok (.iload_n 1, 1) := by decide +kernel
theorem dX5_dead_70 : decode cX5_dead 70 = .ok (.bipush 20, 2) := by decide +kernel
theorem dX5_dead_72 : decode cX5_dead 72 = .ok (.iadd, 1) := by decide +kernel
theorem dX5_dead_73 : decode cX5_dead 73 = .ok (.invokestatic 147, 3) := by decide +kernel
theorem dX5_dead_76 : decode cX5_dead 76 = .ok (.ireturn, 1) := by decide +kernel
theorem dX5_whoIs_0 : decode cX5_whoIs 0 = .ok (.iload_n 0, 1) := by decide +kernel
theorem dX5_whoIs_1 : decode cX5_whoIs 1 = .ok (.ifCond .ne 8, 3) := by decide +kernel
theorem dX5_whoIs_4 : decode cX5_whoIs 4 = .ok (.bipush (-4), 2) := by decide +kernel
theorem dX5_whoIs_6 : decode cX5_whoIs 6 = .ok (.goto 6, 3) := by decide +kernel
theorem dX5_whoIs_9 : decode cX5_whoIs 9 = .ok (.iload_n 0, 1) := by decide +kernel
theorem dX5_whoIs_10 : decode cX5_whoIs 10 = .ok (.iconst 1, 1) := by decide +kernel
theorem dX5_whoIs_11 : decode cX5_whoIs 11 = .ok (.isub, 1) := by decide +kernel
theorem dX5_whoIs_12 : decode cX5_whoIs 12 = .ok (.ireturn, 1) := by decide +kernel
theorem dX5_plot_0 : decode cX5_plot 0 = .ok (.iload_n 1, 1) := by decide +kernel
theorem dX5_plot_1 : decode cX5_plot 1 = .ok (.iconst 0, 1) := by decide +kernel
theorem dX5_plot_2 : decode cX5_plot 2 = .ok (.iconst 1, 1) := by decide +kernel
theorem dX5_plot_3 : decode cX5_plot 3 = .ok (.invokestatic 67, 3) := by decide +kernel
theorem dX5_plot_6 : decode cX5_plot 6 = .ok (.ifCond .eq 31, 3) := by decide +kernel
theorem dX5_plot_9 : decode cX5_plot 9 = .ok (.aload_n 0, 1) := by decide +kernel
theorem dX5_plot_10 : decode cX5_plot 10 = .ok (.iload_n 2, 1) := by decide +kernel
theorem dX5_plot_11 : decode cX5_plot 11 = .ok (.invokevirtual 158, 3) := by decide +kernel
theorem dX5_plot_14 : decode cX5_plot 14 = .ok (.ifCond .eq 23, 3) := by decide +kernel
theorem dX5_plot_17 : decode cX5_plot 17 = .ok (.aload_n 0, 1) := by decide +kernel
theorem dX5_plot_18 : decode cX5_plot 18 = .ok (.getfield 7, 3) := by decide +kernel
theorem dX5_plot_21 : decode cX5_plot 21 = .ok (.bipush 37, 2) := by decide +kernel
theorem dX5_plot_23 : decode cX5_plot 23 = .ok (.bipush 8, 2) := by decide +kernel
theorem dX5_plot_25 : decode cX5_plot 25 = .ok (.iload_n 1, 1) := by decide +kernel
theorem dX5_plot_26 : decode cX5_plot 26 = .ok (.imul, 1) := by decide +kernel
theorem dX5_plot_27 : decode cX5_plot 27 = .ok (.iadd, 1) := by decide +kernel
theorem dX5_plot_28 : decode cX5_plot 28 = .ok (.iload_n 2, 1) := by decide +kernel
theorem dX5_plot_29 : decode cX5_plot 29 = .ok (.iadd, 1) := by decide +kernel
theorem dX5_plot_30 : decode cX5_plot 30 = .ok (.iaload, 1) := by decide +kernel
theorem dX5_plot_31 : decode cX5_plot 31 = .ok (.invokestatic 161, 3) := by decide +kernel
theorem dX5_plot_34 : decode cX5_plot 34 = .ok (.goto 4, 3) := by decide +kernel
theorem dX5_plot_37 : decode cX5_plot 37 = .ok (.iconst (-1), 1) := by decide +kernel
theorem dX5_plot_38 : decode cX5_plot 38 = .ok (.ireturn, 1) := by decide +kernel
theorem dX5_visitor_0 : decode cX5_visitor 0 = .ok (.iload_n 1, 1) := by decide +kernel
theorem dX5_visitor_1 : decode cX5_visitor 1 = .ok (.iconst 0, 1) := by decide +kernel
theorem dX5_visitor_2 : decode cX5_visitor 2 = .ok (.aload_n 0, 1) := by decide +kernel
theorem dX5_visitor_3 : decode cX5_visitor 3 = .ok (.getfield 7, 3) := by decide +kernel
theorem dX5_visitor_6 : decode cX5_visitor 6 = .ok (.bipush 53, 2) := by decide +kernel
theorem dX5_visitor_8 : decode cX5_visitor 8 = .ok (.iaload, 1) := by decide +kernel
theorem dX5_visitor_9 : decode cX5_visitor 9 = .ok (.iconst 1, 1) := by decide +kernel
theorem dX5_visitor_10 : decode cX5_visitor 10 = .ok (.isub, 1) := by decide +kernel
theorem dX5_visitor_11 : decode cX5_visitor 11 = .ok (.invokestatic 67, 3) := by decide +kernel
theorem dX5_visitor_14 : decode cX5_visitor 14 = .ok (.ifCond .eq 28, 3) := by decide +kernel
theorem dX5_visitor_17 : decode cX5_visitor 17 = .ok (.iload_n 2, 1) := by decide +kernel
theorem dX5_visitor_18 : decode cX5_visitor 18 = .ok (.iconst 0, 1) := by decide +kernel
theorem dX5_visitor_19 : decode cX5_visitor 19 = .ok (.iconst 1, 1) := by decide +kernel
theorem dX5_visitor_20 : decode cX5_visitor 20 = .ok (.invokestatic 67, 3) := by decide +kernel
theorem dX5_visitor_23 : decode cX5_visitor 23 = .ok (.ifCond .eq 19, 3) := by decide +kernel
theorem dX5_visitor_26 : decode cX5_visitor 26 = .ok (.aload_n 0, 1) := by decide +kernel
theorem dX5_visitor_27 : decode cX5_visitor 27 = .ok (.getfield 7, 3) := by decide +kernel
theorem dX5_visitor_30 : decode cX5_visitor 30 = .ok (.bipush 54, 2) := by decide +kernel
theorem dX5_visitor_32 : decode cX5_visitor 32 = .ok (.iconst 2, 1) := by decide +kernel
theorem dX5_visitor_33 : decode cX5_visitor 33 = .ok (.iload_n 1, 1) := by decide +kernel
theorem dX5_visitor_34 : decode cX5_visitor 34 = .ok (.imul, 1) := by decide +kernel
theorem dX5_visitor_35 : decode cX5_visitor 35 = .ok (.iadd, 1) := by decide +kernel
theorem dX5_visitor_36 : decode cX5_visitor 36 = .ok (.iload_n 2, 1) := by decide +kernel
theorem dX5_visitor_37 : decode cX5_visitor 37 = .ok (.iadd, 1) := by decide +kernel
theorem dX5_visitor_38 : decode cX5_visitor 38 = .ok (.iaload, 1) := by decide +kernel
theorem dX5_visitor_39 : decode cX5_visitor 39 = .ok (.goto 4, 3) := by decide +kernel
theorem dX5_visitor_42 : decode cX5_visitor 42 = .ok (.iconst (-1), 1) := by decide +kernel
theorem dX5_visitor_43 : decode cX5_visitor 43 = .ok (.ireturn, 1) := by decide +kernel
theorem dX5_remembers_0 : decode cX5_remembers 0 = .ok (.aload_n 0, 1) := by decide +kernel
theorem dX5_remembers_1 : decode cX5_remembers 1 = .ok (.getfield 128, 3) := by decide +kernel
theorem dX5_remembers_4 : decode cX5_remembers 4 = .ok (.bipush 8, 2) := by decide +kernel
theorem dX5_remembers_6 : decode cX5_remembers 6 = .ok (.if_icmp .ne 43, 3) := by decide +kernel
theorem dX5_remembers_9 : decode cX5_remembers 9 = .ok (.iconst 0, 1) := by decide +kernel
theorem dX5_remembers_10 : decode cX5_remembers 10 = .ok (.istore_n 1, 1) := by decide +kernel
theorem dX5_remembers_11 : decode cX5_remembers 11 = .ok (.iload_n 1, 1) := by decide +kernel
theorem dX5_remembers_12 : decode cX5_remembers 12 = .ok (.sipush 462, 3) := by decide +kernel
theorem dX5_remembers_15 : decode cX5_remembers 15 = .ok (.if_icmp .ge 24, 3) := by decide +kernel
theorem dX5_remembers_18 : decode cX5_remembers 18 = .ok (.aload_n 0, 1) := by decide +kernel
theorem dX5_remembers_19 : decode cX5_remembers 19 = .ok (.getfield 13, 3) := by decide +kernel
theorem dX5_remembers_22 : decode cX5_remembers 22 = .ok (.iload_n 1, 1) := by decide +kernel
theorem dX5_remembers_23 : decode cX5_remembers 23 = .ok (.aload_n 0, 1) := by decide +kernel
theorem dX5_remembers_24 : decode cX5_remembers 24 = .ok (.getfield 13, 3) := by decide +kernel
theorem dX5_remembers_27 : decode cX5_remembers 27 = .ok (.iload_n 1, 1) := by decide +kernel
theorem dX5_remembers_28 : decode cX5_remembers 28 = .ok (.bipush 66, 2) := by decide +kernel
theorem dX5_remembers_30 : decode cX5_remembers 30 = .ok (.iadd, 1) := by decide +kernel
theorem dX5_remembers_31 : decode cX5_remembers 31 = .ok (.iaload, 1) := by decide +kernel
theorem dX5_remembers_32 : decode cX5_remembers 32 = .ok (.iastore, 1) := by decide +kernel
theorem dX5_remembers_33 : decode cX5_remembers 33 = .ok (.iinc 1 1, 3) := by decide +kernel
theorem dX5_remembers_36 : decode cX5_remembers 36 = .ok (.goto (-25), 3) := by decide +kernel
theorem dX5_remembers_39 : decode cX5_remembers 39 = .ok (.aload_n 0, 1) := by decide +kernel
theorem dX5_remembers_40 : decode cX5_remembers 40 = .ok (.dup, 1) := by decide +kernel
theorem dX5_remembers_41 : decode cX5_remembers 41 = .ok (.getfield 128, 3) := by decide +kernel
theorem dX5_remembers_44 : decode cX5_remembers 44 = .ok (.iconst 1, 1) := by decide +kernel
theorem dX5_remembers_45 : decode cX5_remembers 45 = .ok (.isub, 1) := by decide +kernel
theorem dX5_remembers_46 : decode cX5_remembers 46 = .ok (.putfield 128, 3) := by decide +kernel
theorem dX5_remembers_49 : decode cX5_remembers 49 = .ok (.aload_n 0, 1) := by decide +kernel
theorem dX5_remembers_50 : decode cX5_remembers 50 = .ok (.getfield 13, 3) := by decide +kernel
theorem dX5_remembers_53 : decode cX5_remembers 53 = .ok (.bipush 66, 2) := by decide +kernel
theorem dX5_remembers_55 : decode cX5_remembers 55 = .ok (.aload_n 0, 1) := by decide +kernel
theorem dX5_remembers_56 : decode cX5_remembers 56 = .ok (.getfield 128, 3) := by decide +kernel
theorem dX5_remembers_59 : decode cX5_remembers 59 = .ok (.imul, 1) := by decide +kernel
theorem dX5_remembers_60 : decode cX5_remembers 60 = .ok (.aload_n 0, 1) := by decide +kernel
theorem dX5_remembers_61 : decode cX5_remembers 61 = .ok (.getfield 7, 3) := by decide +kernel
theorem dX5_remembers_64 : decode cX5_remembers 64 = .ok (.bipush 66, 2) := by decide +kernel
theorem dX5_remembers_66 : decode cX5_remembers 66 = .ok (.invokestatic 121, 3) := by decide +kernel
theorem dX5_remembers_69 : decode cX5_remembers 69 = .ok (.aload_n 0, 1) := by decide +kernel
theorem dX5_remembers_70 : decode cX5_remembers 70 = .ok (.dup, 1) := by decide +kernel
theorem dX5_remembers_71 : decode cX5_remembers 71 = .ok (.getfield 128, 3) := by decide +kernel
theorem dX5_remembers_74 : decode cX5_remembers 74 = .ok (.iconst 1, 1) := by decide +kernel
theorem dX5_remembers_75 : decode cX5_remembers 75 = .ok (.iadd, 1) := by decide +kernel
theorem dX5_remembers_76 : decode cX5_remembers 76 = .ok (.putfield 128, 3) := by decide +kernel
theorem dX5_remembers_79 : decode cX5_remembers 79 = .ok (.return_, 1) := by decide +kernel
theorem dX5_addsDead_0 : decode cX5_addsDead 0 = .ok (.iconst 1, 1) := by decide +kernel
theorem dX5_addsDead_1 : decode cX5_addsDead 1 = .ok (.iconst 3, 1) := by decide +kernel
theorem dX5_addsDead_2 : decode cX5_addsDead 2 = .ok (.aload_n 0, 1) := by decide +kernel
theorem dX5_addsDead_3 : decode cX5_addsDead 3 = .ok (.getfield 31, 3) := by decide +kernel
theorem dX5_addsDead_6 : decode cX5_addsDead 6 = .ok (.iconst 0, 1) := by decide +kernel
theorem dX5_addsDead_7 : decode cX5_addsDead 7 = .ok (.iaload, 1) := by decide +kernel
theorem dX5_addsDead_8 : decode cX5_addsDead 8 = .ok (.imul, 1) := by decide +kernel
theorem dX5_addsDead_9 : decode cX5_addsDead 9 = .ok (.iadd, 1) := by decide +kernel
theorem dX5_addsDead_10 : decode cX5_addsDead 10 = .ok (.istore 4, 2) := by decide +kernel
theorem dX5_addsDead_12 : decode cX5_addsDead 12 = .ok (.aload_n 0, 1) := by decide +kernel
theorem dX5_addsDead_13 : decode cX5_addsDead 13 = .ok (.getfield 31, 3) := by decide +kernel
theorem dX5_addsDead_16 : decode cX5_addsDead 16 = .ok (.iload 4, 2) := by decide +kernel
theorem dX5_addsDead_18 : decode cX5_addsDead 18 = .ok (.iload_n 1, 1) := by decide +kernel
theorem dX5_addsDead_19 : decode cX5_addsDead 19 = .ok (.iastore, 1) := by decide +kernel
theorem dX5_addsDead_20 : decode cX5_addsDead 20 = .ok (.aload_n 0, 1) := by decide +kernel
theorem dX5_addsDead_21 : decode cX5_addsDead 21 = .ok (.getfield 31, 3) := by decide +kernel
theorem dX5_addsDead_24 : decode cX5_addsDead 24 = .ok (.iload 4, 2) := by decide +kernel
theorem dX5_addsDead_26 : decode cX5_addsDead 26 = .ok (.iconst 1, 1) := by decide +kernel
theorem dX5_addsDead_27 : decode cX5_addsDead 27 = .ok (.iadd, 1) := by decide +kernel
theorem dX5_addsDead_28 : decode cX5_addsDead 28 = .ok (.iload_n 2, 1) := by decide +kernel
theorem dX5_addsDead_29 : decode cX5_addsDead 29 = .ok (.iastore, 1) := by decide +kernel
theorem dX5_addsDead_30 : decode cX5_addsDead 30 = .ok (.aload_n 0, 1) := by decide +kernel
theorem dX5_addsDead_31 : decode cX5_addsDead 31 = .ok (.getfield 31, 3) := by decide +kernel
theorem dX5_addsDead_34 : decode cX5_addsDead 34 = .ok (.iload 4, 2) := by decide +kernel
theorem dX5_addsDead_36 : decode cX5_addsDead 36 = .ok (.iconst 2, 1) := by decide +kernel
theorem dX5_addsDead_37 : decode cX5_addsDead 37 = .ok (.iadd, 1) := by decide +kernel
theorem dX5_addsDead_38 : decode cX5_addsDead 38 = .ok (.iload_n 3, 1) := by decide +kernel
theorem dX5_addsDead_39 : decode cX5_addsDead 39 = .ok (.iastore, 1) := by decide +kernel
theorem dX5_addsDead_40 : decode cX5_addsDead 40 = .ok (.aload_n 0, 1) := by decide +kernel
theorem dX5_addsDead_41 : decode cX5_addsDead 41 = .ok (.getfield 31, 3) := by decide +kernel
theorem dX5_addsDead_44 : decode cX5_addsDead 44 = .ok (.iconst 0, 1) := by decide +kernel
theorem dX5_addsDead_45 : decode cX5_addsDead 45 = .ok (.dup2, 1) := by decide +kernel
theorem dX5_addsDead_46 : decode cX5_addsDead 46 = .ok (.iaload, 1) := by decide +kernel
theorem dX5_addsDead_47 : decode cX5_addsDead 47 = .ok (.iconst 1, 1) := by decide +kernel
theorem dX5_addsDead_48 : decode cX5_addsDead 48 = .ok (.iadd, 1) := by decide +kernel
theorem dX5_addsDead_49 : decode cX5_addsDead 49 = .ok (.iastore, 1) := by decide +kernel
theorem dX5_addsDead_50 : decode cX5_addsDead 50 = .ok (.return_, 1) := by decide +kernel
theorem dX5_isOne_0 : decode cX5_isOne 0 = .ok (.iload_n 1, 1) := by decide +kernel
theorem dX5_isOne_1 : decode cX5_isOne 1 = .ok (.iconst 0, 1) := by decide +kernel
theorem dX5_isOne_2 : decode cX5_isOne 2 = .ok (.iconst 1, 1) := by decide +kernel
theorem dX5_isOne_3 : decode cX5_isOne 3 = .ok (.invokestatic 67, 3) := by decide +kernel
theorem dX5_isOne_6 : decode cX5_isOne 6 = .ok (.ifCond .eq 26, 3) := by decide +kernel
theorem dX5_isOne_9 : decode cX5_isOne 9 = .ok (.iload_n 2, 1) := by decide +kernel
theorem dX5_isOne_10 : decode cX5_isOne 10 = .ok (.iconst 0, 1) := by decide +kernel
theorem dX5_isOne_11 : decode cX5_isOne 11 = .ok (.iconst 3, 1) := by decide +kernel
theorem dX5_isOne_12 : decode cX5_isOne 12 = .ok (.invokestatic 67, 3) := by decide +kernel
theorem dX5_isOne_15 : decode cX5_isOne 15 = .ok (.ifCond .eq 17, 3) := by decide +kernel
theorem dX5_isOne_18 : decode cX5_isOne 18 = .ok (.iload_n 3, 1) := by decide +kernel
theorem dX5_isOne_19 : decode cX5_isOne 19 = .ok (.iconst 0, 1) := by decide +kernel
theorem dX5_isOne_20 : decode cX5_isOne 20 = .ok (.bipush 9, 2) := by decide +kernel
theorem dX5_isOne_22 : decode cX5_isOne 22 = .ok (.invokestatic 67, 3) := by decide +kernel
theorem dX5_isOne_25 : decode cX5_isOne 25 = .ok (.ifCond .eq 7, 3) := by decide +kernel
theorem dX5_isOne_28 : decode cX5_isOne 28 = .ok (.iconst 1, 1) := by decide +kernel
theorem dX5_isOne_29 : decode cX5_isOne 29 = .ok (.goto 4, 3) := by decide +kernel
theorem dX5_isOne_32 : decode cX5_isOne 32 = .ok (.iconst 0, 1) := by decide +kernel
theorem dX5_isOne_33 : decode cX5_isOne 33 = .ok (.ireturn, 1) := by decide +kernel
theorem dX5_bury_0 : decode cX5_bury 0 = .ok (.aload_n 0, 1) := by decide +kernel
theorem dX5_bury_1 : decode cX5_bury 1 = .ok (.iload_n 1, 1) := by decide +kernel
theorem dX5_bury_2 : decode cX5_bury 2 = .ok (.iload_n 2, 1) := by decide +kernel
theorem dX5_bury_3 : decode cX5_bury 3 = .ok (.iload_n 3, 1) := by decide +kernel
theorem dX5_bury_4 : decode cX5_bury 4 = .ok (.invokevirtual 164, 3) := by decide +kernel
theorem dX5_bury_7 : decode cX5_bury 7 = .ok (.ifCond .ne 5, 3) := by decide +kernel
theorem dX5_bury_10 : decode cX5_bury 10 = .ok (.iconst (-1), 1) := by decide +kernel
theorem dX5_bury_11 : decode cX5_bury 11 = .ok (.ireturn, 1) := by decide +kernel
theorem dX5_bury_12 : decode cX5_bury 12 = .ok (.aload_n 0, 1) := by decide +kernel
theorem dX5_bury_13 : decode cX5_bury 13 = .ok (.getfield 7, 3) := by decide +kernel
theorem dX5_bury_16 : decode cX5_bury 16 = .ok (.iconst 0, 1) := by decide +kernel
theorem dX5_bury_17 : decode cX5_bury 17 = .ok (.iaload, 1) := by decide +kernel
theorem dX5_bury_18 : decode cX5_bury 18 = .ok (.bipush 12, 2) := by decide +kernel
theorem dX5_bury_20 : decode cX5_bury 20 = .ok (.if_icmp .ne 6, 3) := by decide +kernel
theorem dX5_bury_23 : decode cX5_bury 23 = .ok (.bipush (-3), 2) := by decide +kernel
theorem dX5_bury_25 : decode cX5_bury 25 = .ok (.ireturn, 1) := by decide +kernel
theorem dX5_bury_26 : decode cX5_bury 26 = .ok (.aload_n 0, 1) := by decide +kernel
theorem dX5_bury_27 : decode cX5_bury 27 = .ok (.invokevirtual 167, 3) := by decide +kernel
theorem dX5_bury_30 : decode cX5_bury 30 = .ok (.aload_n 0, 1) := by decide +kernel
theorem dX5_bury_31 : decode cX5_bury 31 = .ok (.aload_n 0, 1) := by decide +kernel
theorem dX5_bury_32 : decode cX5_bury 32 = .ok (.getfield 7, 3) := by decide +kernel
theorem dX5_bury_35 : decode cX5_bury 35 = .ok (.invokevirtual 170, 3) := by decide +kernel
theorem dX5_bury_38 : decode cX5_bury 38 = .ok (.aload_n 0, 1) := by decide +kernel
theorem dX5_bury_39 : decode cX5_bury 39 = .ok (.iload_n 1, 1) := by decide +kernel
theorem dX5_bury_40 : decode cX5_bury 40 = .ok (.iload_n 2, 1) := by decide +kernel
theorem dX5_bury_41 : decode cX5_bury 41 = .ok (.iload_n 3, 1) := by decide +kernel
theorem dX5_bury_42 : decode cX5_bury 42 = .ok (.invokevirtual 174, 3) := by decide +kernel
theorem dX5_bury_45 : decode cX5_bury 45 = .ok (.aload_n 0, 1) := by decide +kernel
theorem dX5_bury_46 : decode cX5_bury 46 = .ok (.aload_n 0, 1) := by decide +kernel
theorem dX5_bury_47 : decode cX5_bury 47 = .ok (.getfield 31, 3) := by decide +kernel
theorem dX5_bury_50 : decode cX5_bury 50 = .ok (.iconst 0, 1) := by decide +kernel
theorem dX5_bury_51 : decode cX5_bury 51 = .ok (.iaload, 1) := by decide +kernel
theorem dX5_bury_52 : decode cX5_bury 52 = .ok (.iconst 1, 1) := by decide +kernel
theorem dX5_bury_53 : decode cX5_bury 53 = .ok (.isub, 1) := by decide +kernel
theorem dX5_bury_54 : decode cX5_bury 54 = .ok (.invokevirtual 144, 3) := by decide +kernel
theorem dX5_bury_57 : decode cX5_bury 57 = .ok (.istore 4, 2) := by decide +kernel
theorem dX5_bury_59 : decode cX5_bury 59 = .ok (.aload_n 0, 1) := by decide +kernel
theorem dX5_bury_60 : decode cX5_bury 60 = .ok (.getfield 7, 3) := by decide +kernel
theorem dX5_bury_63 : decode cX5_bury 63 = .ok (.iconst 0, 1) := by decide +kernel
theorem dX5_bury_64 : decode cX5_bury 64 = .ok (.aload_n 0, 1) := by decide +kernel
theorem dX5_bury_65 : decode cX5_bury 65 = .ok (.getfield 31, 3) := by decide +kernel
theorem dX5_bury_68 : decode cX5_bury 68 = .ok (.bipush 66, 2) := by decide +kernel
theorem dX5_bury_70 : decode cX5_bury 70 = .ok (.invokestatic 121, 3) := by decide +kernel
theorem dX5_bury_73 : decode cX5_bury 73 = .ok (.iload 4, 2) := by decide +kernel
theorem dX5_bury_75 : decode cX5_bury 75 = .ok (.ireturn, 1) := by decide +kernel
theorem dX5_changes_0 : decode cX5_changes 0 = .ok (.bipush 37, 2) := by decide +kernel
theorem dX5_changes_2 : decode cX5_changes 2 = .ok (.bipush 8, 2) := by decide +kernel
theorem dX5_changes_4 : decode cX5_changes 4 = .ok (.iload_n 1, 1) := by decide +kernel
theorem dX5_changes_5 : decode cX5_changes 5 = .ok (.imul, 1) := by decide +kernel
theorem dX5_changes_6 : decode cX5_changes 6 = .ok (.iadd, 1) := by decide +kernel
theorem dX5_changes_7 : decode cX5_changes 7 = .ok (.iload_n 2, 1) := by decide +kernel
theorem dX5_changes_8 : decode cX5_changes 8 = .ok (.iadd, 1) := by decide +kernel
theorem dX5_changes_9 : decode cX5_changes 9 = .ok (.istore 4, 2) := by decide +kernel
theorem dX5_changes_11 : decode cX5_changes 11 = .ok (.bipush 37, 2) := by decide +kernel
theorem dX5_changes_13 : decode cX5_changes 13 = .ok (.bipush 8, 2) := by decide +kernel
theorem dX5_changes_15 : decode cX5_changes 15 = .ok (.iload_n 1, 1) := by decide +kernel
theorem dX5_changes_16 : decode cX5_changes 16 = .ok (.imul, 1) := by decide +kernel
theorem dX5_changes_17 : decode cX5_changes 17 = .ok (.iadd, 1) := by decide +kernel
theorem dX5_changes_18 : decode cX5_changes 18 = .ok (.iload_n 3, 1) := by decide +kernel
theorem dX5_changes_19 : decode cX5_changes 19 = .ok (.iadd, 1) := by decide +kernel
theorem dX5_changes_20 : decode cX5_changes 20 = .ok (.istore 5, 2) := by decide +kernel
theorem dX5_changes_22 : decode cX5_changes 22 = .ok (.aload_n 0, 1) := by decide +kernel
theorem dX5_changes_23 : decode cX5_changes 23 = .ok (.iload 4, 2) := by decide +kernel
theorem dX5_changes_25 : decode cX5_changes 25 = .ok (.iaload, 1) := by decide +kernel
theorem dX5_changes_26 : decode cX5_changes 26 = .ok (.istore 6, 2) := by decide +kernel
theorem dX5_changes_28 : decode cX5_changes 28 = .ok (.aload_n 0, 1) := by decide +kernel
theorem dX5_changes_29 : decode cX5_changes 29 = .ok (.iload 4, 2) := by decide +kernel
theorem dX5_changes_31 : decode cX5_changes 31 = .ok (.aload_n 0, 1) := by decide +kernel
theorem dX5_changes_32 : decode cX5_changes 32 = .ok (.iload 5, 2) := by decide +kernel
theorem dX5_changes_34 : decode cX5_changes 34 = .ok (.iaload, 1) := by decide +kernel
theorem dX5_changes_35 : decode cX5_changes 35 = .ok (.iastore, 1) := by decide +kernel
theorem dX5_changes_36 : decode cX5_changes 36 = .ok (.aload_n 0, 1) := by decide +kernel
theorem dX5_changes_37 : decode cX5_changes 37 = .ok (.iload 5, 2) := by decide +kernel
theorem dX5_changes_39 : decode cX5_changes 39 = .ok (.iload 6, 2) := by decide +kernel
theorem dX5_changes_41 : decode cX5_changes 41 = .ok (.iastore, 1) := by decide +kernel
theorem dX5_changes_42 : decode cX5_changes 42 = .ok (.return_, 1) := by decide +kernel
theorem dX5_change_0 : decode cX5_change 0 = .ok (.iload_n 1, 1) := by decide +kernel
theorem dX5_change_1 : decode cX5_change 1 = .ok (.iconst 0, 1) := by decide +kernel
theorem dX5_change_2 : decode cX5_change 2 = .ok (.iconst 1, 1) := by decide +kernel
theorem dX5_change_3 : decode cX5_change 3 = .ok (.invokestatic 67, 3) := by decide +kernel
theorem dX5_change_6 : decode cX5_change 6 = .ok (.ifCond .eq 24, 3) := by decide +kernel
theorem dX5_change_9 : decode cX5_change 9 = .ok (.aload_n 0, 1) := by decide +kernel
theorem dX5_change_10 : decode cX5_change 10 = .ok (.iload_n 2, 1) := by decide +kernel
theorem dX5_change_11 : decode cX5_change 11 = .ok (.invokevirtual 158, 3) := by decide +kernel
theorem dX5_change_14 : decode cX5_change 14 = .ok (.ifCond .eq 16, 3) := by decide +kernel
theorem dX5_change_17 : decode cX5_change 17 = .ok (.aload_n 0, 1) := by decide +kernel
theorem dX5_change_18 : decode cX5_change 18 = .ok (.iload_n 3, 1) := by decide +kernel
theorem dX5_change_19 : decode cX5_change 19 = .ok (.invokevirtual 158, 3) := by decide +kernel
theorem dX5_change_22 : decode cX5_change 22 = .ok (.ifCond .eq 8, 3) := by decide +kernel
theorem dX5_change_25 : decode cX5_change 25 = .ok (.iload_n 2, 1) := by decide +kernel
theorem dX5_change_26 : decode cX5_change 26 = .ok (.iload_n 3, 1) := by decide +kernel
theorem dX5_change_27 : decode cX5_change 27 = .ok (.if_icmp .ne 5, 3) := by decide +kernel
theorem dX5_change_30 : decode cX5_change 30 = .ok (.iconst (-1), 1) := by decide +kernel
theorem dX5_change_31 : decode cX5_change 31 = .ok (.ireturn, 1) := by decide +kernel
theorem dX5_change_32 : decode cX5_change 32 = .ok (.aload_n 0, 1) := by decide +kernel
theorem dX5_change_33 : decode cX5_change 33 = .ok (.invokevirtual 167, 3) := by decide +kernel
theorem dX5_change_36 : decode cX5_change 36 = .ok (.aload_n 0, 1) := by decide +kernel
theorem dX5_change_37 : decode cX5_change 37 = .ok (.getfield 7, 3) := by decide +kernel
theorem dX5_change_40 : decode cX5_change 40 = .ok (.iload_n 1, 1) := by decide +kernel
theorem dX5_change_41 : decode cX5_change 41 = .ok (.iload_n 2, 1) := by decide +kernel
theorem dX5_change_42 : decode cX5_change 42 = .ok (.iload_n 3, 1) := by decide +kernel
theorem dX5_change_43 : decode cX5_change 43 = .ok (.invokestatic 177, 3) := by decide +kernel
theorem dX5_change_46 : decode cX5_change 46 = .ok (.aload_n 0, 1) := by decide +kernel
theorem dX5_change_47 : decode cX5_change 47 = .ok (.iload_n 1, 1) := by decide +kernel
theorem dX5_change_48 : decode cX5_change 48 = .ok (.iload_n 2, 1) := by decide +kernel
theorem dX5_change_49 : decode cX5_change 49 = .ok (.invokevirtual 181, 3) := by decide +kernel
theorem dX5_change_52 : decode cX5_change 52 = .ok (.ireturn, 1) := by decide +kernel
theorem dX5_forgive_0 : decode cX5_forgive 0 = .ok (.aload_n 0, 1) := by decide +kernel
theorem dX5_forgive_1 : decode cX5_forgive 1 = .ok (.iload_n 1, 1) := by decide +kernel
theorem dX5_forgive_2 : decode cX5_forgive 2 = .ok (.invokevirtual 151, 3) := by decide +kernel
theorem dX5_forgive_5 : decode cX5_forgive 5 = .ok (.ifCond .eq 13, 3) := by decide +kernel
theorem dX5_forgive_8 : decode cX5_forgive 8 = .ok (.iload_n 2, 1) := by decide +kernel
theorem dX5_forgive_9 : decode cX5_forgive 9 = .ok (.iconst 0, 1) := by decide +kernel
theorem dX5_forgive_10 : decode cX5_forgive 10 = .ok (.bipush 9, 2) := by decide +kernel
theorem dX5_forgive_12 : decode cX5_forgive 12 = .ok (.invokestatic 67, 3) := by decide +kernel
theorem dX5_forgive_15 : decode cX5_forgive 15 = .ok (.ifCond .ne 5, 3) := by decide +kernel
theorem dX5_forgive_18 : decode cX5_forgive 18 = .ok (.iconst (-1), 1) := by decide +kernel
theorem dX5_forgive_19 : decode cX5_forgive 19 = .ok (.ireturn, 1) := by decide +kernel
theorem dX5_forgive_20 : decode cX5_forgive 20 = .ok (.aload_n 0, 1) := by decide +kernel
theorem dX5_forgive_21 : decode cX5_forgive 21 = .ok (.invokevirtual 167, 3) := by decide +kernel
theorem dX5_forgive_24 : decode cX5_forgive 24 = .ok (.aload_n 0, 1) := by decide +kernel
theorem dX5_forgive_25 : decode cX5_forgive 25 = .ok (.getfield 7, 3) := by decide +kernel
theorem dX5_forgive_28 : decode cX5_forgive 28 = .ok (.iconst 1, 1) := by decide +kernel
theorem dX5_forgive_29 : decode cX5_forgive 29 = .ok (.iconst 3, 1) := by decide +kernel
theorem dX5_forgive_30 : decode cX5_forgive 30 = .ok (.iload_n 1, 1) := by decide +kernel
theorem dX5_forgive_31 : decode cX5_forgive 31 = .ok (.imul, 1) := by decide +kernel
theorem dX5_forgive_32 : decode cX5_forgive 32 = .ok (.iadd, 1) := by decide +kernel
theorem dX5_forgive_33 : decode cX5_forgive 33 = .ok (.iconst 2, 1) := by decide +kernel
theorem dX5_forgive_34 : decode cX5_forgive 34 = .ok (.iadd, 1) := by decide +kernel
theorem dX5_forgive_35 : decode cX5_forgive 35 = .ok (.iaload, 1) := by decide +kernel
theorem dX5_forgive_36 : decode cX5_forgive 36 = .ok (.istore_n 3, 1) := by decide +kernel
theorem dX5_forgive_37 : decode cX5_forgive 37 = .ok (.aload_n 0, 1) := by decide +kernel
theorem dX5_forgive_38 : decode cX5_forgive 38 = .ok (.getfield 7, 3) := by decide +kernel
theorem dX5_forgive_41 : decode cX5_forgive 41 = .ok (.iconst 1, 1) := by decide +kernel
theorem dX5_forgive_42 : decode cX5_forgive 42 = .ok (.iconst 3, 1) := by decide +kernel
theorem dX5_forgive_43 : decode cX5_forgive 43 = .ok (.iload_n 1, 1) := by decide +kernel
theorem dX5_forgive_44 : decode cX5_forgive 44 = .ok (.imul, 1) := by decide +kernel
theorem dX5_forgive_45 : decode cX5_forgive 45 = .ok (.iadd, 1) := by decide +kernel
theorem dX5_forgive_46 : decode cX5_forgive 46 = .ok (.iconst 2, 1) := by decide +kernel
theorem dX5_forgive_47 : decode cX5_forgive 47 = .ok (.iadd, 1) := by decide +kernel
theorem dX5_forgive_48 : decode cX5_forgive 48 = .ok (.iload_n 2, 1) := by decide +kernel
theorem dX5_forgive_49 : decode cX5_forgive 49 = .ok (.iastore, 1) := by decide +kernel
theorem dX5_forgive_50 : decode cX5_forgive 50 = .ok (.iload_n 3, 1) := by decide +kernel
theorem dX5_forgive_51 : decode cX5_forgive 51 = .ok (.ireturn, 1) := by decide +kernel
theorem dX5_visit_0 : decode cX5_visit 0 = .ok (.aload_n 0, 1) := by decide +kernel
theorem dX5_visit_1 : decode cX5_visit 1 = .ok (.iload_n 1, 1) := by decide +kernel
theorem dX5_visit_2 : decode cX5_visit 2 = .ok (.invokevirtual 151, 3) := by decide +kernel
theorem dX5_visit_5 : decode cX5_visit 5 = .ok (.ifCond .eq 13, 3) := by decide +kernel
theorem dX5_visit_8 : decode cX5_visit 8 = .ok (.iload_n 2, 1) := by decide +kernel
theorem dX5_visit_9 : decode cX5_visit 9 = .ok (.iconst 1, 1) := by decide +kernel
theorem dX5_visit_10 : decode cX5_visit 10 = .ok (.bipush 20, 2) := by decide +kernel
theorem dX5_visit_12 : decode cX5_visit 12 = .ok (.invokestatic 67, 3) := by decide +kernel
theorem dX5_visit_15 : decode cX5_visit 15 = .ok (.ifCond .ne 5, 3) := by decide +kernel
theorem dX5_visit_18 : decode cX5_visit 18 = .ok (.iconst (-1), 1) := by decide +kernel
theorem dX5_visit_19 : decode cX5_visit 19 = .ok (.ireturn, 1) := by decide +kernel
theorem dX5_visit_20 : decode cX5_visit 20 = .ok (.aload_n 0, 1) := by decide +kernel
theorem dX5_visit_21 : decode cX5_visit 21 = .ok (.getfield 7, 3) := by decide +kernel
theorem dX5_visit_24 : decode cX5_visit 24 = .ok (.bipush 53, 2) := by decide +kernel
theorem dX5_visit_26 : decode cX5_visit 26 = .ok (.iaload, 1) := by decide +kernel
theorem dX5_visit_27 : decode cX5_visit 27 = .ok (.bipush 6, 2) := by decide +kernel
theorem dX5_visit_29 : decode cX5_visit 29 = .ok (.if_icmp .ne 6, 3) := by decide +kernel
theorem dX5_visit_32 : decode cX5_visit 32 = .ok (.bipush (-3), 2) := by decide +kernel
theorem dX5_visit_34 : decode cX5_visit 34 = .ok (.ireturn, 1) := by decide +kernel
theorem dX5_visit_35 : decode cX5_visit 35 = .ok (.aload_n 0, 1) := by decide +kernel
theorem dX5_visit_36 : decode cX5_visit 36 = .ok (.invokevirtual 167, 3) := by decide +kernel
theorem dX5_visit_39 : decode cX5_visit 39 = .ok (.bipush 54, 2) := by decide +kernel
theorem dX5_visit_41 : decode cX5_visit 41 = .ok (.iconst 2, 1) := by decide +kernel
theorem dX5_visit_42 : decode cX5_visit 42 = .ok (.aload_n 0, 1) := by decide +kernel
theorem dX5_visit_43 : decode cX5_visit 43 = .ok (.getfield 7, 3) := by decide +kernel
theorem dX5_visit_46 : decode cX5_visit 46 = .ok (.bipush 53, 2) := by decide +kernel
theorem dX5_visit_48 : decode cX5_visit 48 = .ok (.iaload, 1) := by decide +kernel
theorem dX5_visit_49 : decode cX5_visit 49 = .ok (.imul, 1) := by decide +kernel
theorem dX5_visit_50 : decode cX5_visit 50 = .ok (.iadd, 1) := by decide +kernel
theorem dX5_visit_51 : decode cX5_visit 51 = .ok (.istore_n 3, 1) := by decide +kernel
theorem dX5_visit_52 : decode cX5_visit 52 = .ok (.aload_n 0, 1) := by decide +kernel
theorem dX5_visit_53 : decode cX5_visit 53 = .ok (.getfield 7, 3) := by decide +kernel
theorem dX5_visit_56 : decode cX5_visit 56 = .ok (.iload_n 3, 1) := by decide +kernel
theorem dX5_visit_57 : decode cX5_visit 57 = .ok (.iload_n 1, 1) := by decide +kernel
theorem dX5_visit_58 : decode cX5_visit 58 = .ok (.iastore, 1) := by decide +kernel
theorem dX5_visit_59 : decode cX5_visit 59 = .ok (.aload_n 0, 1) := by decide +kernel
theorem dX5_visit_60 : decode cX5_visit 60 = .ok (.getfield 7, 3) := by decide +kernel
theorem dX5_visit_63 : decode cX5_visit 63 = .ok (.iload_n 3, 1) := by decide +kernel
theorem dX5_visit_64 : decode cX5_visit 64 = .ok (.iconst 1, 1) := by decide +kernel
theorem dX5_visit_65 : decode cX5_visit 65 = .ok (.iadd, 1) := by decide +kernel
theorem dX5_visit_66 : decode cX5_visit 66 = .ok (.iload_n 2, 1) := by decide +kernel
theorem dX5_visit_67 : decode cX5_visit 67 = .ok (.iastore, 1) := by decide +kernel
theorem dX5_visit_68 : decode cX5_visit 68 = .ok (.aload_n 0, 1) := by decide +kernel
theorem dX5_visit_69 : decode cX5_visit 69 = .ok (.getfield 7, 3) := by decide +kernel
theorem dX5_visit_72 : decode cX5_visit 72 = .ok (.bipush 53, 2) := by decide +kernel
theorem dX5_visit_74 : decode cX5_visit 74 = .ok (.dup2, 1) := by decide +kernel
theorem dX5_visit_75 : decode cX5_visit 75 = .ok (.iaload, 1) := by decide +kernel
theorem dX5_visit_76 : decode cX5_visit 76 = .ok (.iconst 1, 1) := by decide +kernel
theorem dX5_visit_77 : decode cX5_visit 77 = .ok (.iadd, 1) := by decide +kernel
theorem dX5_visit_78 : decode cX5_visit 78 = .ok (.iastore, 1) := by decide +kernel
theorem dX5_visit_79 : decode cX5_visit 79 = .ok (.aload_n 0, 1) := by decide +kernel
theorem dX5_visit_80 : decode cX5_visit 80 = .ok (.getfield 7, 3) := by decide +kernel
theorem dX5_visit_83 : decode cX5_visit 83 = .ok (.bipush 53, 2) := by decide +kernel
theorem dX5_visit_85 : decode cX5_visit 85 = .ok (.iaload, 1) := by decide +kernel
theorem dX5_visit_86 : decode cX5_visit 86 = .ok (.ireturn, 1) := by decide +kernel
theorem dX5_undo_0 : decode cX5_undo 0 = .ok (.aload_n 0, 1) := by decide +kernel
theorem dX5_undo_1 : decode cX5_undo 1 = .ok (.getfield 128, 3) := by decide +kernel
theorem dX5_undo_4 : decode cX5_undo 4 = .ok (.ifCond .ne 6, 3) := by decide +kernel
theorem dX5_undo_7 : decode cX5_undo 7 = .ok (.bipush (-2), 2) := by decide +kernel
theorem dX5_undo_9 : decode cX5_undo 9 = .ok (.ireturn, 1) := by decide +kernel
theorem dX5_undo_10 : decode cX5_undo 10 = .ok (.aload_n 0, 1) := by decide +kernel
theorem dX5_undo_11 : decode cX5_undo 11 = .ok (.dup, 1) := by decide +kernel
theorem dX5_undo_12 : decode cX5_undo 12 = .ok (.getfield 128, 3) := by decide +kernel
theorem dX5_undo_15 : decode cX5_undo 15 = .ok (.iconst 1, 1) := by decide +kernel
theorem dX5_undo_16 : decode cX5_undo 16 = .ok (.isub, 1) := by decide +kernel
theorem dX5_undo_17 : decode cX5_undo 17 = .ok (.putfield 128, 3) := by decide +kernel
theorem dX5_undo_20 : decode cX5_undo 20 = .ok (.iconst 0, 1) := by decide +kernel
theorem dX5_undo_21 : decode cX5_undo 21 = .ok (.istore_n 1, 1) := by decide +kernel
theorem dX5_undo_22 : decode cX5_undo 22 = .ok (.iload_n 1, 1) := by decide +kernel
theorem dX5_undo_23 : decode cX5_undo 23 = .ok (.bipush 66, 2) := by decide +kernel
theorem dX5_undo_25 : decode cX5_undo 25 = .ok (.if_icmp .ge 29, 3) := by decide +kernel
theorem dX5_undo_28 : decode cX5_undo 28 = .ok (.aload_n 0, 1) := by decide +kernel
theorem dX5_undo_29 : decode cX5_undo 29 = .ok (.getfield 7, 3) := by decide +kernel
theorem dX5_undo_32 : decode cX5_undo 32 = .ok (.iload_n 1, 1) := by decide +kernel
theorem dX5_undo_33 : decode cX5_undo 33 = .ok (.aload_n 0, 1) := by decide +kernel
theorem dX5_undo_34 : decode cX5_undo 34 = .ok (.getfield 13, 3) := by decide +kernel
theorem dX5_undo_37 : decode cX5_undo 37 = .ok (.bipush 66, 2) := by decide +kernel
theorem dX5_undo_39 : decode cX5_undo 39 = .ok (.aload_n 0, 1) := by decide +kernel
theorem dX5_undo_40 : decode cX5_undo 40 = .ok (.getfield 128, 3) := by decide +kernel
theorem dX5_undo_43 : decode cX5_undo 43 = .ok (.imul, 1) := by decide +kernel
theorem dX5_undo_44 : decode cX5_undo 44 = .ok (.iload_n 1, 1) := by decide +kernel
theorem dX5_undo_45 : decode cX5_undo 45 = .ok (.iadd, 1) := by decide +kernel
theorem dX5_undo_46 : decode cX5_undo 46 = .ok (.iaload, 1) := by decide +kernel
theorem dX5_undo_47 : decode cX5_undo 47 = .ok (.iastore, 1) := by decide +kernel
theorem dX5_undo_48 : decode cX5_undo 48 = .ok (.iinc 1 1, 3) := by decide +kernel
theorem dX5_undo_51 : decode cX5_undo 51 = .ok (.goto (-29), 3) := by decide +kernel
theorem dX5_undo_54 : decode cX5_undo 54 = .ok (.aload_n 0, 1) := by decide +kernel
theorem dX5_undo_55 : decode cX5_undo 55 = .ok (.getfield 128, 3) := by decide +kernel
theorem dX5_undo_58 : decode cX5_undo 58 = .ok (.ireturn, 1) := by decide +kernel
theorem dX5_byRight_0 : decode cX5_byRight 0 = .ok (.aload_n 0, 1) := by decide +kernel
theorem dX5_byRight_1 : decode cX5_byRight 1 = .ok (.getfield 34, 3) := by decide +kernel
theorem dX5_byRight_4 : decode cX5_byRight 4 = .ok (.iconst 0, 1) := by decide +kernel
theorem dX5_byRight_5 : decode cX5_byRight 5 = .ok (.aload_n 1, 1) := by decide +kernel
theorem dX5_byRight_6 : decode cX5_byRight 6 = .ok (.bipush 66, 2) := by decide +kernel
theorem dX5_byRight_8 : decode cX5_byRight 8 = .ok (.invokestatic 121, 3) := by decide +kernel
theorem dX5_byRight_11 : decode cX5_byRight 11 = .ok (.aload_n 0, 1) := by decide +kernel
theorem dX5_byRight_12 : decode cX5_byRight 12 = .ok (.aload_n 1, 1) := by decide +kernel
theorem dX5_byRight_13 : decode cX5_byRight 13 = .ok (.invokevirtual 170, 3) := by decide +kernel
theorem dX5_byRight_16 : decode cX5_byRight 16 = .ok (.aload_n 0, 1) := by decide +kernel
theorem dX5_byRight_17 : decode cX5_byRight 17 = .ok (.invokevirtual 125, 3) := by decide +kernel
theorem dX5_byRight_20 : decode cX5_byRight 20 = .ok (.return_, 1) := by decide +kernel
theorem dX5_right_0 : decode cX5_right 0 = .ok (.aload_n 0, 1) := by decide +kernel
theorem dX5_right_1 : decode cX5_right 1 = .ok (.iload_n 1, 1) := by decide +kernel
theorem dX5_right_2 : decode cX5_right 2 = .ok (.invokevirtual 151, 3) := by decide +kernel
theorem dX5_right_5 : decode cX5_right 5 = .ok (.ifCond .ne 5, 3) := by decide +kernel
theorem dX5_right_8 : decode cX5_right 8 = .ok (.iconst (-1), 1) := by decide +kernel
theorem dX5_right_9 : decode cX5_right 9 = .ok (.ireturn, 1) := by decide +kernel
theorem dX5_right_10 : decode cX5_right 10 = .ok (.aload_n 0, 1) := by decide +kernel
theorem dX5_right_11 : decode cX5_right 11 = .ok (.aload_n 0, 1) := by decide +kernel
theorem dX5_right_12 : decode cX5_right 12 = .ok (.getfield 7, 3) := by decide +kernel
theorem dX5_right_15 : decode cX5_right 15 = .ok (.invokevirtual 185, 3) := by decide +kernel
theorem dX5_right_18 : decode cX5_right 18 = .ok (.aload_n 0, 1) := by decide +kernel
theorem dX5_right_19 : decode cX5_right 19 = .ok (.getfield 31, 3) := by decide +kernel
theorem dX5_right_22 : decode cX5_right 22 = .ok (.iload_n 1, 1) := by decide +kernel
theorem dX5_right_23 : decode cX5_right 23 = .ok (.invokestatic 154, 3) := by decide +kernel
theorem dX5_right_26 : decode cX5_right 26 = .ok (.ireturn, 1) := by decide +kernel
theorem dX5_movedBits_0 : decode cX5_movedBits 0 = .ok (.iconst 0, 1) := by decide +kernel
theorem dX5_movedBits_1 : decode cX5_movedBits 1 = .ok (.istore_n 1, 1) := by decide +kernel
theorem dX5_movedBits_2 : decode cX5_movedBits 2 = .ok (.iconst 0, 1) := by decide +kernel
theorem dX5_movedBits_3 : decode cX5_movedBits 3 = .ok (.istore_n 2, 1) := by decide +kernel
theorem dX5_movedBits_4 : decode cX5_movedBits 4 = .ok (.iload_n 2, 1) := by decide +kernel
theorem dX5_movedBits_5 : decode cX5_movedBits 5 = .ok (.aload_n 0, 1) := by decide +kernel
theorem dX5_movedBits_6 : decode cX5_movedBits 6 = .ok (.getfield 31, 3) := by decide +kernel
theorem dX5_movedBits_9 : decode cX5_movedBits 9 = .ok (.iconst 0, 1) := by decide +kernel
theorem dX5_movedBits_10 : decode cX5_movedBits 10 = .ok (.iaload, 1) := by decide +kernel
theorem dX5_movedBits_11 : decode cX5_movedBits 11 = .ok (.if_icmp .ge 38, 3) := by decide +kernel
theorem dX5_movedBits_14 : decode cX5_movedBits 14 = .ok (.iload_n 1, 1) := by decide +kernel
theorem dX5_movedBits_15 : decode cX5_movedBits 15 = .ok (.aload_n 0, 1) := by decide +kernel
theorem dX5_movedBits_16 : decode cX5_movedBits 16 = .ok (.getfield 31, 3) := by decide +kernel
theorem dX5_movedBits_19 : decode cX5_movedBits 19 = .ok (.iload_n 2, 1) := by decide +kernel
theorem dX5_movedBits_20 : decode cX5_movedBits 20 = .ok (.invokestatic 154, 3) := by decide +kernel
theorem dX5_movedBits_23 : decode cX5_movedBits 23 = .ok (.aload_n 0, 1) := by decide +kernel
theorem dX5_movedBits_24 : decode cX5_movedBits 24 = .ok (.getfield 34, 3) := by decide +kernel
theorem dX5_movedBits_27 : decode cX5_movedBits 27 = .ok (.iload_n 2, 1) := by decide +kernel
theorem dX5_movedBits_28 : decode cX5_movedBits 28 = .ok (.invokestatic 154, 3) := by decide +kernel
theorem dX5_movedBits_31 : decode cX5_movedBits 31 = .ok (.if_icmp .eq 9, 3) := by decide +kernel
theorem dX5_movedBits_34 : decode cX5_movedBits 34 = .ok (.iconst 1, 1) := by decide +kernel
theorem dX5_movedBits_35 : decode cX5_movedBits 35 = .ok (.iload_n 2, 1) := by decide +kernel
theorem dX5_movedBits_36 : decode cX5_movedBits 36 = .ok (.ishl, 1) := by decide +kernel
theorem dX5_movedBits_37 : decode cX5_movedBits 37 = .ok (.goto 4, 3) := by decide +kernel
theorem dX5_movedBits_40 : decode cX5_movedBits 40 = .ok (.iconst 0, 1) := by decide +kernel
theorem dX5_movedBits_41 : decode cX5_movedBits 41 = .ok (.ior, 1) := by decide +kernel
theorem dX5_movedBits_42 : decode cX5_movedBits 42 = .ok (.istore_n 1, 1) := by decide +kernel
theorem dX5_movedBits_43 : decode cX5_movedBits 43 = .ok (.iinc 2 1, 3) := by decide +kernel
theorem dX5_movedBits_46 : decode cX5_movedBits 46 = .ok (.goto (-42), 3) := by decide +kernel
theorem dX5_movedBits_49 : decode cX5_movedBits 49 = .ok (.iload_n 1, 1) := by decide +kernel
theorem dX5_movedBits_50 : decode cX5_movedBits 50 = .ok (.ireturn, 1) := by decide +kernel
theorem dX5_moved_0 : decode cX5_moved 0 = .ok (.aload_n 0, 1) := by decide +kernel
theorem dX5_moved_1 : decode cX5_moved 1 = .ok (.aload_n 0, 1) := by decide +kernel
theorem dX5_moved_2 : decode cX5_moved 2 = .ok (.getfield 7, 3) := by decide +kernel
theorem dX5_moved_5 : decode cX5_moved 5 = .ok (.invokevirtual 185, 3) := by decide +kernel
theorem dX5_moved_8 : decode cX5_moved 8 = .ok (.aload_n 0, 1) := by decide +kernel
theorem dX5_moved_9 : decode cX5_moved 9 = .ok (.invokevirtual 188, 3) := by decide +kernel
theorem dX5_moved_12 : decode cX5_moved 12 = .ok (.ireturn, 1) := by decide +kernel
theorem dX5_mend_0 : decode cX5_mend 0 = .ok (.iload_n 1, 1) := by decide +kernel
theorem dX5_mend_1 : decode cX5_mend 1 = .ok (.iconst 0, 1) := by decide +kernel
theorem dX5_mend_2 : decode cX5_mend 2 = .ok (.iconst 1, 1) := by decide +kernel
theorem dX5_mend_3 : decode cX5_mend 3 = .ok (.invokestatic 67, 3) := by decide +kernel
theorem dX5_mend_6 : decode cX5_mend 6 = .ok (.ifCond .ne 5, 3) := by decide +kernel
theorem dX5_mend_9 : decode cX5_mend 9 = .ok (.iconst (-1), 1) := by decide +kernel
theorem dX5_mend_10 : decode cX5_mend 10 = .ok (.ireturn, 1) := by decide +kernel
theorem dX5_mend_11 : decode cX5_mend 11 = .ok (.aload_n 0, 1) := by decide +kernel
theorem dX5_mend_12 : decode cX5_mend 12 = .ok (.aload_n 0, 1) := by decide +kernel
theorem dX5_mend_13 : decode cX5_mend 13 = .ok (.getfield 7, 3) := by decide +kernel
theorem dX5_mend_16 : decode cX5_mend 16 = .ok (.invokevirtual 185, 3) := by decide +kernel
theorem dX5_mend_19 : decode cX5_mend 19 = .ok (.iconst 0, 1) := by decide +kernel
theorem dX5_mend_20 : decode cX5_mend 20 = .ok (.istore_n 2, 1) := by decide +kernel
theorem dX5_mend_21 : decode cX5_mend 21 = .ok (.iload_n 2, 1) := by decide +kernel
theorem dX5_mend_22 : decode cX5_mend 22 = .ok (.aload_n 0, 1) := by decide +kernel
theorem dX5_mend_23 : decode cX5_mend 23 = .ok (.getfield 71, 3) := by decide +kernel
theorem dX5_mend_26 : decode cX5_mend 26 = .ok (.if_icmp .ge 81, 3) := by decide +kernel
theorem dX5_mend_29 : decode cX5_mend 29 = .ok (.aload_n 0, 1) := by decide +kernel
theorem dX5_mend_30 : decode cX5_mend 30 = .ok (.getfield 34, 3) := by decide +kernel
theorem dX5_mend_33 : decode cX5_mend 33 = .ok (.bipush 37, 2) := by decide +kernel
theorem dX5_mend_35 : decode cX5_mend 35 = .ok (.bipush 8, 2) := by decide +kernel
theorem dX5_mend_37 : decode cX5_mend 37 = .ok (.iload_n 1, 1) := by decide +kernel
theorem dX5_mend_38 : decode cX5_mend 38 = .ok (.imul, 1) := by decide +kernel
theorem dX5_mend_39 : decode cX5_mend 39 = .ok (.iadd, 1) := by decide +kernel
theorem dX5_mend_40 : decode cX5_mend 40 = .ok (.iload_n 2, 1) := by decide +kernel
theorem dX5_mend_41 : decode cX5_mend 41 = .ok (.iadd, 1) := by decide +kernel
theorem dX5_mend_42 : decode cX5_mend 42 = .ok (.iaload, 1) := by decide +kernel
theorem dX5_mend_43 : decode cX5_mend 43 = .ok (.istore_n 3, 1) := by decide +kernel
theorem dX5_mend_44 : decode cX5_mend 44 = .ok (.aload_n 0, 1) := by decide +kernel
theorem dX5_mend_45 : decode cX5_mend 45 = .ok (.getfield 31, 3) := by decide +kernel
theorem dX5_mend_48 : decode cX5_mend 48 = .ok (.bipush 37, 2) := by decide +kernel
theorem dX5_mend_50 : decode cX5_mend 50 = .ok (.bipush 8, 2) := by decide +kernel
theorem dX5_mend_52 : decode cX5_mend 52 = .ok (.iload_n 1, 1) := by decide +kernel
theorem dX5_mend_53 : decode cX5_mend 53 = .ok (.imul, 1) := by decide +kernel
theorem dX5_mend_54 : decode cX5_mend 54 = .ok (.iadd, 1) := by decide +kernel
theorem dX5_mend_55 : decode cX5_mend 55 = .ok (.iload_n 2, 1) := by decide +kernel
theorem dX5_mend_56 : decode cX5_mend 56 = .ok (.iadd, 1) := by decide +kernel
theorem dX5_mend_57 : decode cX5_mend 57 = .ok (.iaload, 1) := by decide +kernel
theorem dX5_mend_58 : decode cX5_mend 58 = .ok (.istore 4, 2) := by decide +kernel
theorem dX5_mend_60 : decode cX5_mend 60 = .ok (.iload_n 3, 1) := by decide +kernel
theorem dX5_mend_61 : decode cX5_mend 61 = .ok (.ifCond .eq 17, 3) := by decide +kernel
theorem dX5_mend_64 : decode cX5_mend 64 = .ok (.aload_n 0, 1) := by decide +kernel
theorem dX5_mend_65 : decode cX5_mend 65 = .ok (.getfield 31, 3) := by decide +kernel
theorem dX5_mend_68 : decode cX5_mend 68 = .ok (.iload_n 1, 1) := by decide +kernel
theorem dX5_mend_69 : decode cX5_mend 69 = .ok (.iload_n 3, 1) := by decide +kernel
theorem dX5_mend_70 : decode cX5_mend 70 = .ok (.iconst 1, 1) := by decide +kernel
theorem dX5_mend_71 : decode cX5_mend 71 = .ok (.isub, 1) := by decide +kernel
theorem dX5_mend_72 : decode cX5_mend 72 = .ok (.invokestatic 147, 3) := by decide +kernel
theorem dX5_mend_75 : decode cX5_mend 75 = .ok (.ifCond .lt 23, 3) := by decide +kernel
theorem dX5_mend_78 : decode cX5_mend 78 = .ok (.iload 4, 2) := by decide +kernel
theorem dX5_mend_80 : decode cX5_mend 80 = .ok (.ifCond .eq 21, 3) := by decide +kernel
theorem dX5_mend_83 : decode cX5_mend 83 = .ok (.aload_n 0, 1) := by decide +kernel
theorem dX5_mend_84 : decode cX5_mend 84 = .ok (.getfield 34, 3) := by decide +kernel
theorem dX5_mend_87 : decode cX5_mend 87 = .ok (.iload_n 1, 1) := by decide +kernel
theorem dX5_mend_88 : decode cX5_mend 88 = .ok (.iload 4, 2) := by decide +kernel
theorem dX5_mend_90 : decode cX5_mend 90 = .ok (.iconst 1, 1) := by decide +kernel
theorem dX5_mend_91 : decode cX5_mend 91 = .ok (.isub, 1) := by decide +kernel
theorem dX5_mend_92 : decode cX5_mend 92 = .ok (.invokestatic 147, 3) := by decide +kernel
theorem dX5_mend_95 : decode cX5_mend 95 = .ok (.ifCond .ge 6, 3) := by decide +kernel
theorem dX5_mend_98 : decode cX5_mend 98 = .ok (.bipush (-4), 2) := by decide +kernel
theorem dX5_mend_100 : decode cX5_mend 100 = .ok (.ireturn, 1) := by decide +kernel
theorem dX5_mend_101 : decode cX5_mend 101 = .ok (.iinc 2 1, 3) := by decide +kernel
theorem dX5_mend_104 : decode cX5_mend 104 = .ok (.goto (-83), 3) := by decide +kernel
theorem dX5_mend_107 : decode cX5_mend 107 = .ok (.iconst 0, 1) := by decide +kernel
theorem dX5_mend_108 : decode cX5_mend 108 = .ok (.istore_n 2, 1) := by decide +kernel
theorem dX5_mend_109 : decode cX5_mend 109 = .ok (.iconst 0, 1) := by decide +kernel
theorem dX5_mend_110 : decode cX5_mend 110 = .ok (.istore_n 3, 1) := by decide +kernel
theorem dX5_mend_111 : decode cX5_mend 111 = .ok (.iload_n 3, 1) := by decide +kernel
theorem dX5_mend_112 : decode cX5_mend 112 = .ok (.aload_n 0, 1) := by decide +kernel
theorem dX5_mend_113 : decode cX5_mend 113 = .ok (.getfield 71, 3) := by decide +kernel
theorem dX5_mend_116 : decode cX5_mend 116 = .ok (.if_icmp .ge 92, 3) := by decide +kernel
theorem dX5_mend_119 : decode cX5_mend 119 = .ok (.aload_n 0, 1) := by decide +kernel
theorem dX5_mend_120 : decode cX5_mend 120 = .ok (.getfield 34, 3) := by decide +kernel
theorem dX5_mend_123 : decode cX5_mend 123 = .ok (.bipush 37, 2) := by decide +kernel
theorem dX5_mend_125 : decode cX5_mend 125 = .ok (.bipush 8, 2) := by decide +kernel
theorem dX5_mend_127 : decode cX5_mend 127 = .ok (.iload_n 1, 1) := by decide +kernel
theorem dX5_mend_128 : decode cX5_mend 128 = .ok (.imul, 1) := by decide +kernel
theorem dX5_mend_129 : decode cX5_mend 129 = .ok (.iadd, 1) := by decide +kernel
theorem dX5_mend_130 : decode cX5_mend 130 = .ok (.iload_n 3, 1) := by decide +kernel
theorem dX5_mend_131 : decode cX5_mend 131 = .ok (.iadd, 1) := by decide +kernel
theorem dX5_mend_132 : decode cX5_mend 132 = .ok (.iaload, 1) := by decide +kernel
theorem dX5_mend_133 : decode cX5_mend 133 = .ok (.istore 4, 2) := by decide +kernel
theorem dX5_mend_135 : decode cX5_mend 135 = .ok (.iload 4, 2) := by decide +kernel
theorem dX5_mend_137 : decode cX5_mend 137 = .ok (.ifCond .eq 65, 3) := by decide +kernel
theorem dX5_mend_140 : decode cX5_mend 140 = .ok (.iload 4, 2) := by decide +kernel
theorem dX5_mend_142 : decode cX5_mend 142 = .ok (.aload_n 0, 1) := by decide +kernel
theorem dX5_mend_143 : decode cX5_mend 143 = .ok (.getfield 31, 3) := by decide +kernel
theorem dX5_mend_146 : decode cX5_mend 146 = .ok (.bipush 37, 2) := by decide +kernel
theorem dX5_mend_148 : decode cX5_mend 148 = .ok (.bipush 8, 2) := by decide +kernel
theorem dX5_mend_150 : decode cX5_mend 150 = .ok (.iload_n 1, 1) := by decide +kernel
theorem dX5_mend_151 : decode cX5_mend 151 = .ok (.imul, 1) := by decide +kernel
theorem dX5_mend_152 : decode cX5_mend 152 = .ok (.iadd, 1) := by decide +kernel
theorem dX5_mend_153 : decode cX5_mend 153 = .ok (.iload_n 3, 1) := by decide +kernel
theorem dX5_mend_154 : decode cX5_mend 154 = .ok (.iadd, 1) := by decide +kernel
theorem dX5_mend_155 : decode cX5_mend 155 = .ok (.iaload, 1) := by decide +kernel
theorem dX5_mend_156 : decode cX5_mend 156 = .ok (.if_icmp .eq 46, 3) := by decide +kernel
theorem dX5_mend_159 : decode cX5_mend 159 = .ok (.aload_n 0, 1) := by decide +kernel
theorem dX5_mend_160 : decode cX5_mend 160 = .ok (.getfield 34, 3) := by decide +kernel
theorem dX5_mend_163 : decode cX5_mend 163 = .ok (.iload_n 1, 1) := by decide +kernel
theorem dX5_mend_164 : decode cX5_mend 164 = .ok (.iload_n 3, 1) := by decide +kernel
theorem dX5_mend_165 : decode cX5_mend 165 = .ok (.aload_n 0, 1) := by decide +kernel
theorem dX5_mend_166 : decode cX5_mend 166 = .ok (.getfield 31, 3) := by decide +kernel
theorem dX5_mend_169 : decode cX5_mend 169 = .ok (.iload_n 1, 1) := by decide +kernel
theorem dX5_mend_170 : decode cX5_mend 170 = .ok (.iload 4, 2) := by decide +kernel
theorem dX5_mend_172 : decode cX5_mend 172 = .ok (.iconst 1, 1) := by decide +kernel
theorem dX5_mend_173 : decode cX5_mend 173 = .ok (.isub, 1) := by decide +kernel
theorem dX5_mend_174 : decode cX5_mend 174 = .ok (.invokestatic 147, 3) := by decide +kernel
theorem dX5_mend_177 : decode cX5_mend 177 = .ok (.invokestatic 177, 3) := by decide +kernel
theorem dX5_mend_180 : decode cX5_mend 180 = .ok (.aload_n 0, 1) := by decide +kernel
theorem dX5_mend_181 : decode cX5_mend 181 = .ok (.getfield 34, 3) := by decide +kernel
theorem dX5_mend_184 : decode cX5_mend 184 = .ok (.bipush 37, 2) := by decide +kernel
theorem dX5_mend_186 : decode cX5_mend 186 = .ok (.bipush 8, 2) := by decide +kernel
theorem dX5_mend_188 : decode cX5_mend 188 = .ok (.iload_n 1, 1) := by decide +kernel
theorem dX5_mend_189 : decode cX5_mend 189 = .ok (.imul, 1) := by decide +kernel
theorem dX5_mend_190 : decode cX5_mend 190 = .ok (.iadd, 1) := by decide +kernel
theorem dX5_mend_191 : decode cX5_mend 191 = .ok (.iload_n 3, 1) := by decide +kernel
theorem dX5_mend_192 : decode cX5_mend 192 = .ok (.iadd, 1) := by decide +kernel
theorem dX5_mend_193 : decode cX5_mend 193 = .ok (.iaload, 1) := by decide +kernel
theorem dX5_mend_194 : decode cX5_mend 194 = .ok (.istore 4, 2) := by decide +kernel
theorem dX5_mend_196 : decode cX5_mend 196 = .ok (.iinc 2 1, 3) := by decide +kernel
theorem dX5_mend_199 : decode cX5_mend 199 = .ok (.goto (-64), 3) := by decide +kernel
theorem dX5_mend_202 : decode cX5_mend 202 = .ok (.iinc 3 1, 3) := by decide +kernel
theorem dX5_mend_205 : decode cX5_mend 205 = .ok (.goto (-94), 3) := by decide +kernel
theorem dX5_mend_208 : decode cX5_mend 208 = .ok (.iload_n 2, 1) := by decide +kernel
theorem dX5_mend_209 : decode cX5_mend 209 = .ok (.ireturn, 1) := by decide +kernel
theorem dX5_grudge_0 : decode cX5_grudge 0 = .ok (.aload_n 0, 1) := by decide +kernel
theorem dX5_grudge_1 : decode cX5_grudge 1 = .ok (.aload_n 0, 1) := by decide +kernel
theorem dX5_grudge_2 : decode cX5_grudge 2 = .ok (.getfield 7, 3) := by decide +kernel
theorem dX5_grudge_5 : decode cX5_grudge 5 = .ok (.invokevirtual 185, 3) := by decide +kernel
theorem dX5_grudge_8 : decode cX5_grudge 8 = .ok (.iconst 0, 1) := by decide +kernel
theorem dX5_grudge_9 : decode cX5_grudge 9 = .ok (.istore_n 1, 1) := by decide +kernel
theorem dX5_grudge_10 : decode cX5_grudge 10 = .ok (.iconst 0, 1) := by decide +kernel
theorem dX5_grudge_11 : decode cX5_grudge 11 = .ok (.istore_n 2, 1) := by decide +kernel
theorem dX5_grudge_12 : decode cX5_grudge 12 = .ok (.iload_n 2, 1) := by decide +kernel
theorem dX5_grudge_13 : decode cX5_grudge 13 = .ok (.aload_n 0, 1) := by decide +kernel
theorem dX5_grudge_14 : decode cX5_grudge 14 = .ok (.getfield 7, 3) := by decide +kernel
theorem dX5_grudge_17 : decode cX5_grudge 17 = .ok (.iconst 0, 1) := by decide +kernel
theorem dX5_grudge_18 : decode cX5_grudge 18 = .ok (.iaload, 1) := by decide +kernel
theorem dX5_grudge_19 : decode cX5_grudge 19 = .ok (.if_icmp .ge 54, 3) := by decide +kernel
theorem dX5_grudge_22 : decode cX5_grudge 22 = .ok (.aload_n 0, 1) := by decide +kernel
theorem dX5_grudge_23 : decode cX5_grudge 23 = .ok (.getfield 34, 3) := by decide +kernel
theorem dX5_grudge_26 : decode cX5_grudge 26 = .ok (.iload_n 2, 1) := by decide +kernel
theorem dX5_grudge_27 : decode cX5_grudge 27 = .ok (.invokestatic 154, 3) := by decide +kernel
theorem dX5_grudge_30 : decode cX5_grudge 30 = .ok (.istore_n 3, 1) := by decide +kernel
theorem dX5_grudge_31 : decode cX5_grudge 31 = .ok (.aload_n 0, 1) := by decide +kernel
theorem dX5_grudge_32 : decode cX5_grudge 32 = .ok (.getfield 31, 3) := by decide +kernel
theorem dX5_grudge_35 : decode cX5_grudge 35 = .ok (.iload_n 2, 1) := by decide +kernel
theorem dX5_grudge_36 : decode cX5_grudge 36 = .ok (.invokestatic 154, 3) := by decide +kernel
theorem dX5_grudge_39 : decode cX5_grudge 39 = .ok (.istore 4, 2) := by decide +kernel
theorem dX5_grudge_41 : decode cX5_grudge 41 = .ok (.iload_n 1, 1) := by decide +kernel
theorem dX5_grudge_42 : decode cX5_grudge 42 = .ok (.iload_n 3, 1) := by decide +kernel
theorem dX5_grudge_43 : decode cX5_grudge 43 = .ok (.ifCond .lt 21, 3) := by decide +kernel
theorem dX5_grudge_46 : decode cX5_grudge 46 = .ok (.iload 4, 2) := by decide +kernel
theorem dX5_grudge_48 : decode cX5_grudge 48 = .ok (.ifCond .lt 16, 3) := by decide +kernel
theorem dX5_grudge_51 : decode cX5_grudge 51 = .ok (.iload 4, 2) := by decide +kernel
theorem dX5_grudge_53 : decode cX5_grudge 53 = .ok (.iload_n 3, 1) := by decide +kernel
theorem dX5_grudge_54 : decode cX5_grudge 54 = .ok (.if_icmp .ge 10, 3) := by decide +kernel
theorem dX5_grudge_57 : decode cX5_grudge 57 = .ok (.iload_n 3, 1) := by decide +kernel
theorem dX5_grudge_58 : decode cX5_grudge 58 = .ok (.iload 4, 2) := by decide +kernel
theorem dX5_grudge_60 : decode cX5_grudge 60 = .ok (.isub, 1) := by decide +kernel
theorem dX5_grudge_61 : decode cX5_grudge 61 = .ok (.goto 4, 3) := by decide +kernel
theorem dX5_grudge_64 : decode cX5_grudge 64 = .ok (.iconst 0, 1) := by decide +kernel
theorem dX5_grudge_65 : decode cX5_grudge 65 = .ok (.iadd, 1) := by decide +kernel
theorem dX5_grudge_66 : decode cX5_grudge 66 = .ok (.istore_n 1, 1) := by decide +kernel
theorem dX5_grudge_67 : decode cX5_grudge 67 = .ok (.iinc 2 1, 3) := by decide +kernel
theorem dX5_grudge_70 : decode cX5_grudge 70 = .ok (.goto (-58), 3) := by decide +kernel
theorem dX5_grudge_73 : decode cX5_grudge 73 = .ok (.iload_n 1, 1) := by decide +kernel
theorem dX5_grudge_74 : decode cX5_grudge 74 = .ok (.ireturn, 1) := by decide +kernel
theorem dX5_findGuests_0 : decode cX5_findGuests 0 = .ok (.aload_n 0, 1) := by decide +kernel
theorem dX5_findGuests_1 : decode cX5_findGuests 1 = .ok (.iconst 0, 1) := by decide +kernel
theorem dX5_findGuests_2 : decode cX5_findGuests 2 = .ok (.putfield 191, 3) := by decide +kernel
theorem dX5_findGuests_5 : decode cX5_findGuests 5 = .ok (.iconst 0, 1) := by decide +kernel
theorem dX5_findGuests_6 : decode cX5_findGuests 6 = .ok (.istore_n 2, 1) := by decide +kernel
theorem dX5_findGuests_7 : decode cX5_findGuests 7 = .ok (.iload_n 2, 1) := by decide +kernel
theorem dX5_findGuests_8 : decode cX5_findGuests 8 = .ok (.aload_n 0, 1) := by decide +kernel
theorem dX5_findGuests_9 : decode cX5_findGuests 9 = .ok (.getfield 7, 3) := by decide +kernel
theorem dX5_findGuests_12 : decode cX5_findGuests 12 = .ok (.bipush 53, 2) := by decide +kernel
theorem dX5_findGuests_14 : decode cX5_findGuests 14 = .ok (.iaload, 1) := by decide +kernel
theorem dX5_findGuests_15 : decode cX5_findGuests 15 = .ok (.if_icmp .ge 58, 3) := by decide +kernel
theorem dX5_findGuests_18 : decode cX5_findGuests 18 = .ok (.iload_n 1, 1) := by decide +kernel
theorem dX5_findGuests_19 : decode cX5_findGuests 19 = .ok (.iload_n 2, 1) := by decide +kernel
theorem dX5_findGuests_20 : decode cX5_findGuests 20 = .ok (.invokestatic 194, 3) := by decide +kernel
theorem dX5_findGuests_23 : decode cX5_findGuests 23 = .ok (.ifCond .eq 44, 3) := by decide +kernel
theorem dX5_findGuests_26 : decode cX5_findGuests 26 = .ok (.aload_n 0, 1) := by decide +kernel
theorem dX5_findGuests_27 : decode cX5_findGuests 27 = .ok (.getfield 7, 3) := by decide +kernel
theorem dX5_findGuests_30 : decode cX5_findGuests 30 = .ok (.aload_n 0, 1) := by decide +kernel
theorem dX5_findGuests_31 : decode cX5_findGuests 31 = .ok (.getfield 7, 3) := by decide +kernel
theorem dX5_findGuests_34 : decode cX5_findGuests 34 = .ok (.bipush 54, 2) := by decide +kernel
theorem dX5_findGuests_36 : decode cX5_findGuests 36 = .ok (.iconst 2, 1) := by decide +kernel
theorem dX5_findGuests_37 : decode cX5_findGuests 37 = .ok (.iload_n 2, 1) := by decide +kernel
theorem dX5_findGuests_38 : decode cX5_findGuests 38 = .ok (.imul, 1) := by decide +kernel
theorem dX5_findGuests_39 : decode cX5_findGuests 39 = .ok (.iadd, 1) := by decide +kernel
theorem dX5_findGuests_40 : decode cX5_findGuests 40 = .ok (.iaload, 1) := by decide +kernel
theorem dX5_findGuests_41 : decode cX5_findGuests 41 = .ok (.invokestatic 154, 3) := by decide +kernel
theorem dX5_findGuests_44 : decode cX5_findGuests 44 = .ok (.ifCond .lt 23, 3) := by decide +kernel
theorem dX5_findGuests_47 : decode cX5_findGuests 47 = .ok (.aload_n 0, 1) := by decide +kernel
theorem dX5_findGuests_48 : decode cX5_findGuests 48 = .ok (.getfield 37, 3) := by decide +kernel
theorem dX5_findGuests_51 : decode cX5_findGuests 51 = .ok (.aload_n 0, 1) := by decide +kernel
theorem dX5_findGuests_52 : decode cX5_findGuests 52 = .ok (.getfield 191, 3) := by decide +kernel
theorem dX5_findGuests_55 : decode cX5_findGuests 55 = .ok (.iload_n 2, 1) := by decide +kernel
theorem dX5_findGuests_56 : decode cX5_findGuests 56 = .ok (.iastore, 1) := by decide +kernel
theorem dX5_findGuests_57 : decode cX5_findGuests 57 = .ok (.aload_n 0, 1) := by decide +kernel
theorem dX5_findGuests_58 : decode cX5_findGuests 58 = .ok (.dup, 1) := by decide +kernel
theorem dX5_findGuests_59 : decode cX5_findGuests 59 = .ok (.getfield 191, 3) := by decide +kernel
theorem dX5_findGuests_62 : decode cX5_findGuests 62 = .ok (.iconst 1, 1) := by decide +kernel
theorem dX5_findGuests_63 : decode cX5_findGuests 63 = .ok (.iadd, 1) := by decide +kernel
theorem dX5_findGuests_64 : decode cX5_findGuests 64 = .ok (.putfield 191, 3) := by decide +kernel
theorem dX5_findGuests_67 : decode cX5_findGuests 67 = .ok (.iinc 2 1, 3) := by decide +kernel
theorem dX5_findGuests_70 : decode cX5_findGuests 70 = .ok (.goto (-63), 3) := by decide +kernel
theorem dX5_findGuests_73 : decode cX5_findGuests 73 = .ok (.return_, 1) := by decide +kernel
theorem dX5_comesBack_0 : decode cX5_comesBack 0 = .ok (.aload_n 0, 1) := by decide +kernel
theorem dX5_comesBack_1 : decode cX5_comesBack 1 = .ok (.getfield 198, 3) := by decide +kernel
theorem dX5_comesBack_4 : decode cX5_comesBack 4 = .ok (.aload_n 0, 1) := by decide +kernel
theorem dX5_comesBack_5 : decode cX5_comesBack 5 = .ok (.getfield 7, 3) := by decide +kernel
theorem dX5_comesBack_8 : decode cX5_comesBack 8 = .ok (.aload_n 0, 1) := by decide +kernel
theorem dX5_comesBack_9 : decode cX5_comesBack 9 = .ok (.getfield 7, 3) := by decide +kernel
theorem dX5_comesBack_12 : decode cX5_comesBack 12 = .ok (.bipush 54, 2) := by decide +kernel
theorem dX5_comesBack_14 : decode cX5_comesBack 14 = .ok (.iconst 2, 1) := by decide +kernel
theorem dX5_comesBack_15 : decode cX5_comesBack 15 = .ok (.aload_n 0, 1) := by decide +kernel
theorem dX5_comesBack_16 : decode cX5_comesBack 16 = .ok (.getfield 201, 3) := by decide +kernel
theorem dX5_comesBack_19 : decode cX5_comesBack 19 = .ok (.imul, 1) := by decide +kernel
theorem dX5_comesBack_20 : decode cX5_comesBack 20 = .ok (.iadd, 1) := by decide +kernel
theorem dX5_comesBack_21 : decode cX5_comesBack 21 = .ok (.iaload, 1) := by decide +kernel
theorem dX5_comesBack_22 : decode cX5_comesBack 22 = .ok (.invokestatic 154, 3) := by decide +kernel
theorem dX5_comesBack_25 : decode cX5_comesBack 25 = .ok (.iadd, 1) := by decide +kernel
theorem dX5_comesBack_26 : decode cX5_comesBack 26 = .ok (.iconst 1, 1) := by decide +kernel
theorem dX5_comesBack_27 : decode cX5_comesBack 27 = .ok (.iadd, 1) := by decide +kernel
theorem dX5_comesBack_28 : decode cX5_comesBack 28 = .ok (.istore_n 1, 1) := by decide +kernel
theorem dX5_comesBack_29 : decode cX5_comesBack 29 = .ok (.aload_n 0, 1) := by decide +kernel
theorem dX5_comesBack_30 : decode cX5_comesBack 30 = .ok (.iload_n 1, 1) := by decide +kernel
theorem dX5_comesBack_31 : decode cX5_comesBack 31 = .ok (.aload_n 0, 1) := by decide +kernel
theorem dX5_comesBack_32 : decode cX5_comesBack 32 = .ok (.getfield 204, 3) := by decide +kernel
theorem dX5_comesBack_35 : decode cX5_comesBack 35 = .ok (.if_icmp .le 7, 3) := by decide +kernel
theorem dX5_comesBack_38 : decode cX5_comesBack 38 = .ok (.iload_n 1, 1) := by decide +kernel
theorem dX5_comesBack_39 : decode cX5_comesBack 39 = .ok (.goto 7, 3) := by decide +kernel
theorem dX5_comesBack_42 : decode cX5_comesBack 42 = .ok (.aload_n 0, 1) := by decide +kernel
theorem dX5_comesBack_43 : decode cX5_comesBack 43 = .ok (.getfield 204, 3) := by decide +kernel
theorem dX5_comesBack_46 : decode cX5_comesBack 46 = .ok (.aload_n 0, 1) := by decide +kernel
theorem dX5_comesBack_47 : decode cX5_comesBack 47 = .ok (.getfield 7, 3) := by decide +kernel
theorem dX5_comesBack_50 : decode cX5_comesBack 50 = .ok (.bipush 54, 2) := by decide +kernel
theorem dX5_comesBack_52 : decode cX5_comesBack 52 = .ok (.iconst 2, 1) := by decide +kernel
theorem dX5_comesBack_53 : decode cX5_comesBack 53 = .ok (.aload_n 0, 1) := by decide +kernel
theorem dX5_comesBack_54 : decode cX5_comesBack 54 = .ok (.getfield 201, 3) := by decide +kernel
theorem dX5_comesBack_57 : decode cX5_comesBack 57 = .ok (.imul, 1) := by decide +kernel
theorem dX5_comesBack_58 : decode cX5_comesBack 58 = .ok (.iadd, 1) := by decide +kernel
theorem dX5_comesBack_59 : decode cX5_comesBack 59 = .ok (.iconst 1, 1) := by decide +kernel
theorem dX5_comesBack_60 : decode cX5_comesBack 60 = .ok (.iadd, 1) := by decide +kernel
theorem dX5_comesBack_61 : decode cX5_comesBack 61 = .ok (.iaload, 1) := by decide +kernel
theorem dX5_comesBack_62 : decode cX5_comesBack 62 = .ok (.iadd, 1) := by decide +kernel
theorem dX5_comesBack_63 : decode cX5_comesBack 63 = .ok (.putfield 204, 3) := by decide +kernel
theorem dX5_comesBack_66 : decode cX5_comesBack 66 = .ok (.return_, 1) := by decide +kernel
theorem dX5_villageOf_0 : decode cX5_villageOf 0 = .ok (.aload_n 0, 1) := by decide +kernel
theorem dX5_villageOf_1 : decode cX5_villageOf 1 = .ok (.getfield 7, 3) := by decide +kernel
theorem dX5_villageOf_4 : decode cX5_villageOf 4 = .ok (.iconst 1, 1) := by decide +kernel
theorem dX5_villageOf_5 : decode cX5_villageOf 5 = .ok (.iconst 3, 1) := by decide +kernel
theorem dX5_villageOf_6 : decode cX5_villageOf 6 = .ok (.aload_n 0, 1) := by decide +kernel
theorem dX5_villageOf_7 : decode cX5_villageOf 7 = .ok (.getfield 7, 3) := by decide +kernel
theorem dX5_villageOf_10 : decode cX5_villageOf 10 = .ok (.bipush 54, 2) := by decide +kernel
theorem dX5_villageOf_12 : decode cX5_villageOf 12 = .ok (.iconst 2, 1) := by decide +kernel
theorem dX5_villageOf_13 : decode cX5_villageOf 13 = .ok (.iload_n 1, 1) := by decide +kernel
theorem dX5_villageOf_14 : decode cX5_villageOf 14 = .ok (.imul, 1) := by decide +kernel
theorem dX5_villageOf_15 : decode cX5_villageOf 15 = .ok (.iadd, 1) := by decide +kernel
theorem dX5_villageOf_16 : decode cX5_villageOf 16 = .ok (.iaload, 1) := by decide +kernel
theorem dX5_villageOf_17 : decode cX5_villageOf 17 = .ok (.imul, 1) := by decide +kernel
theorem dX5_villageOf_18 : decode cX5_villageOf 18 = .ok (.iadd, 1) := by decide +kernel
theorem dX5_villageOf_19 : decode cX5_villageOf 19 = .ok (.iaload, 1) := by decide +kernel
theorem dX5_villageOf_20 : decode cX5_villageOf 20 = .ok (.ireturn, 1) := by decide +kernel
theorem dX5_takesSo_0 : decode cX5_takesSo 0 = .ok (.aload_n 0, 1) := by decide +kernel
theorem dX5_takesSo_1 : decode cX5_takesSo 1 = .ok (.iconst 0, 1) := by decide +kernel
theorem dX5_takesSo_2 : decode cX5_takesSo 2 = .ok (.putfield 204, 3) := by decide +kernel
theorem dX5_takesSo_5 : decode cX5_takesSo 5 = .ok (.aload_n 0, 1) := by decide +kernel
theorem dX5_takesSo_6 : decode cX5_takesSo 6 = .ok (.bipush (-4), 2) := by decide +kernel
theorem dX5_takesSo_8 : decode cX5_takesSo 8 = .ok (.putfield 201, 3) := by decide +kernel
theorem dX5_takesSo_11 : decode cX5_takesSo 11 = .ok (.iconst 0, 1) := by decide +kernel
theorem dX5_takesSo_12 : decode cX5_takesSo 12 = .ok (.istore_n 1, 1) := by decide +kernel
theorem dX5_takesSo_13 : decode cX5_takesSo 13 = .ok (.iload_n 1, 1) := by decide +kernel
theorem dX5_takesSo_14 : decode cX5_takesSo 14 = .ok (.aload_n 0, 1) := by decide +kernel
theorem dX5_takesSo_15 : decode cX5_takesSo 15 = .ok (.getfield 191, 3) := by decide +kernel
theorem dX5_takesSo_18 : decode cX5_takesSo 18 = .ok (.if_icmp .ge 107, 3) := by decide +kernel
theorem dX5_takesSo_21 : decode cX5_takesSo 21 = .ok (.aload_n 0, 1) := by decide +kernel
theorem dX5_takesSo_22 : decode cX5_takesSo 22 = .ok (.getfield 40, 3) := by decide +kernel
theorem dX5_takesSo_25 : decode cX5_takesSo 25 = .ok (.iload_n 1, 1) := by decide +kernel
theorem dX5_takesSo_26 : decode cX5_takesSo 26 = .ok (.iaload, 1) := by decide +kernel
theorem dX5_takesSo_27 : decode cX5_takesSo 27 = .ok (.istore_n 2, 1) := by decide +kernel
theorem dX5_takesSo_28 : decode cX5_takesSo 28 = .ok (.aload_n 0, 1) := by decide +kernel
theorem dX5_takesSo_29 : decode cX5_takesSo 29 = .ok (.getfield 201, 3) := by decide +kernel
theorem dX5_takesSo_32 : decode cX5_takesSo 32 = .ok (.ifCond .lt 23, 3) := by decide +kernel
theorem dX5_takesSo_35 : decode cX5_takesSo 35 = .ok (.aload_n 0, 1) := by decide +kernel
theorem dX5_takesSo_36 : decode cX5_takesSo 36 = .ok (.aload_n 0, 1) := by decide +kernel
theorem dX5_takesSo_37 : decode cX5_takesSo 37 = .ok (.getfield 201, 3) := by decide +kernel
theorem dX5_takesSo_40 : decode cX5_takesSo 40 = .ok (.invokevirtual 207, 3) := by decide +kernel
theorem dX5_takesSo_43 : decode cX5_takesSo 43 = .ok (.aload_n 0, 1) := by decide +kernel
theorem dX5_takesSo_44 : decode cX5_takesSo 44 = .ok (.iload_n 2, 1) := by decide +kernel
theorem dX5_takesSo_45 : decode cX5_takesSo 45 = .ok (.invokevirtual 207, 3) := by decide +kernel
theorem dX5_takesSo_48 : decode cX5_takesSo 48 = .ok (.if_icmp .eq 7, 3) := by decide +kernel
theorem dX5_takesSo_51 : decode cX5_takesSo 51 = .ok (.iconst 1, 1) := by decide +kernel
theorem dX5_takesSo_52 : decode cX5_takesSo 52 = .ok (.goto 4, 3) := by decide +kernel
theorem dX5_takesSo_55 : decode cX5_takesSo 55 = .ok (.iconst 0, 1) := by decide +kernel
theorem dX5_takesSo_56 : decode cX5_takesSo 56 = .ok (.istore_n 3, 1) := by decide +kernel
theorem dX5_takesSo_57 : decode cX5_takesSo 57 = .ok (.aload_n 0, 1) := by decide +kernel
theorem dX5_takesSo_58 : decode cX5_takesSo 58 = .ok (.getfield 201, 3) := by decide +kernel
theorem dX5_takesSo_61 : decode cX5_takesSo 61 = .ok (.ifCond .lt 11, 3) := by decide +kernel
theorem dX5_takesSo_64 : decode cX5_takesSo 64 = .ok (.iload_n 3, 1) := by decide +kernel
theorem dX5_takesSo_65 : decode cX5_takesSo 65 = .ok (.ifCond .ne 7, 3) := by decide +kernel
theorem dX5_takesSo_68 : decode cX5_takesSo 68 = .ok (.aload_n 0, 1) := by decide +kernel
theorem dX5_takesSo_69 : decode cX5_takesSo 69 = .ok (.invokevirtual 210, 3) := by decide +kernel
theorem dX5_takesSo_72 : decode cX5_takesSo 72 = .ok (.aload_n 0, 1) := by decide +kernel
theorem dX5_takesSo_73 : decode cX5_takesSo 73 = .ok (.dup, 1) := by decide +kernel
theorem dX5_takesSo_74 : decode cX5_takesSo 74 = .ok (.getfield 204, 3) := by decide +kernel
theorem dX5_takesSo_77 : decode cX5_takesSo 77 = .ok (.aload_n 0, 1) := by decide +kernel
theorem dX5_takesSo_78 : decode cX5_takesSo 78 = .ok (.getfield 7, 3) := by decide +kernel
theorem dX5_takesSo_81 : decode cX5_takesSo 81 = .ok (.bipush 54, 2) := by decide +kernel
theorem dX5_takesSo_83 : decode cX5_takesSo 83 = .ok (.iconst 2, 1) := by decide +kernel
theorem dX5_takesSo_84 : decode cX5_takesSo 84 = .ok (.iload_n 2, 1) := by decide +kernel
theorem dX5_takesSo_85 : decode cX5_takesSo 85 = .ok (.imul, 1) := by decide +kernel
theorem dX5_takesSo_86 : decode cX5_takesSo 86 = .ok (.iadd, 1) := by decide +kernel
theorem dX5_takesSo_87 : decode cX5_takesSo 87 = .ok (.iconst 1, 1) := by decide +kernel
theorem dX5_takesSo_88 : decode cX5_takesSo 88 = .ok (.iadd, 1) := by decide +kernel
theorem dX5_takesSo_89 : decode cX5_takesSo 89 = .ok (.iaload, 1) := by decide +kernel
theorem dX5_takesSo_90 : decode cX5_takesSo 90 = .ok (.iadd, 1) := by decide +kernel
theorem dX5_takesSo_91 : decode cX5_takesSo 91 = .ok (.putfield 204, 3) := by decide +kernel
theorem dX5_takesSo_94 : decode cX5_takesSo 94 = .ok (.aload_n 0, 1) := by decide +kernel
theorem dX5_takesSo_95 : decode cX5_takesSo 95 = .ok (.getfield 204, 3) := by decide +kernel
theorem dX5_takesSo_98 : decode cX5_takesSo 98 = .ok (.istore 4, 2) := by decide +kernel
theorem dX5_takesSo_100 : decode cX5_takesSo 100 = .ok (.iload_n 3, 1) := by decide +kernel
theorem dX5_takesSo_101 : decode cX5_takesSo 101 = .ok (.ifCond .eq 7, 3) := by decide +kernel
theorem dX5_takesSo_104 : decode cX5_takesSo 104 = .ok (.aload_n 0, 1) := by decide +kernel
theorem dX5_takesSo_105 : decode cX5_takesSo 105 = .ok (.invokevirtual 210, 3) := by decide +kernel
theorem dX5_takesSo_108 : decode cX5_takesSo 108 = .ok (.aload_n 0, 1) := by decide +kernel
theorem dX5_takesSo_109 : decode cX5_takesSo 109 = .ok (.iload_n 2, 1) := by decide +kernel
theorem dX5_takesSo_110 : decode cX5_takesSo 110 = .ok (.putfield 201, 3) := by decide +kernel
theorem dX5_takesSo_113 : decode cX5_takesSo 113 = .ok (.aload_n 0, 1) := by decide +kernel
theorem dX5_takesSo_114 : decode cX5_takesSo 114 = .ok (.iload 4, 2) := by decide +kernel
theorem dX5_takesSo_116 : decode cX5_takesSo 116 = .ok (.putfield 198, 3) := by decide +kernel
theorem dX5_takesSo_119 : decode cX5_takesSo 119 = .ok (.iinc 1 1, 3) := by decide +kernel
theorem dX5_takesSo_122 : decode cX5_takesSo 122 = .ok (.goto (-109), 3) := by decide +kernel
theorem dX5_takesSo_125 : decode cX5_takesSo 125 = .ok (.aload_n 0, 1) := by decide +kernel
theorem dX5_takesSo_126 : decode cX5_takesSo 126 = .ok (.getfield 201, 3) := by decide +kernel
theorem dX5_takesSo_129 : decode cX5_takesSo 129 = .ok (.ifCond .lt 7, 3) := by decide +kernel
theorem dX5_takesSo_132 : decode cX5_takesSo 132 = .ok (.aload_n 0, 1) := by decide +kernel
theorem dX5_takesSo_133 : decode cX5_takesSo 133 = .ok (.invokevirtual 210, 3) := by decide +kernel
theorem dX5_takesSo_136 : decode cX5_takesSo 136 = .ok (.aload_n 0, 1) := by decide +kernel
theorem dX5_takesSo_137 : decode cX5_takesSo 137 = .ok (.getfield 204, 3) := by decide +kernel
theorem dX5_takesSo_140 : decode cX5_takesSo 140 = .ok (.ireturn, 1) := by decide +kernel
theorem dX5_takes_0 : decode cX5_takes 0 = .ok (.iload_n 1, 1) := by decide +kernel
theorem dX5_takes_1 : decode cX5_takes 1 = .ok (.iconst 0, 1) := by decide +kernel
theorem dX5_takes_2 : decode cX5_takes 2 = .ok (.iconst 1, 1) := by decide +kernel
theorem dX5_takes_3 : decode cX5_takes 3 = .ok (.invokestatic 67, 3) := by decide +kernel
theorem dX5_takes_6 : decode cX5_takes 6 = .ok (.ifCond .ne 5, 3) := by decide +kernel
theorem dX5_takes_9 : decode cX5_takes 9 = .ok (.iconst (-1), 1) := by decide +kernel
theorem dX5_takes_10 : decode cX5_takes 10 = .ok (.ireturn, 1) := by decide +kernel
theorem dX5_takes_11 : decode cX5_takes 11 = .ok (.aload_n 0, 1) := by decide +kernel
theorem dX5_takes_12 : decode cX5_takes 12 = .ok (.bipush 63, 2) := by decide +kernel
theorem dX5_takes_14 : decode cX5_takes 14 = .ok (.invokevirtual 213, 3) := by decide +kernel
theorem dX5_takes_17 : decode cX5_takes 17 = .ok (.iconst 0, 1) := by decide +kernel
theorem dX5_takes_18 : decode cX5_takes 18 = .ok (.istore_n 2, 1) := by decide +kernel
theorem dX5_takes_19 : decode cX5_takes 19 = .ok (.iload_n 2, 1) := by decide +kernel
theorem dX5_takes_20 : decode cX5_takes 20 = .ok (.aload_n 0, 1) := by decide +kernel
theorem dX5_takes_21 : decode cX5_takes 21 = .ok (.getfield 191, 3) := by decide +kernel
theorem dX5_takes_24 : decode cX5_takes 24 = .ok (.if_icmp .ge 36, 3) := by decide +kernel
theorem dX5_takes_27 : decode cX5_takes 27 = .ok (.aload_n 0, 1) := by decide +kernel
theorem dX5_takes_28 : decode cX5_takes 28 = .ok (.getfield 40, 3) := by decide +kernel
theorem dX5_takes_31 : decode cX5_takes 31 = .ok (.iload_n 2, 1) := by decide +kernel
theorem dX5_takes_32 : decode cX5_takes 32 = .ok (.aload_n 0, 1) := by decide +kernel
theorem dX5_takes_33 : decode cX5_takes 33 = .ok (.getfield 37, 3) := by decide +kernel
theorem dX5_takes_36 : decode cX5_takes 36 = .ok (.iload_n 1, 1) := by decide +kernel
theorem dX5_takes_37 : decode cX5_takes 37 = .ok (.ifCond .ne 7, 3) := by decide +kernel
theorem dX5_takes_40 : decode cX5_takes 40 = .ok (.iload_n 2, 1) := by decide +kernel
theorem dX5_takes_41 : decode cX5_takes 41 = .ok (.goto 11, 3) := by decide +kernel
theorem dX5_takes_44 : decode cX5_takes 44 = .ok (.aload_n 0, 1) := by decide +kernel
theorem dX5_takes_45 : decode cX5_takes 45 = .ok (.getfield 191, 3) := by decide +kernel
theorem dX5_takes_48 : decode cX5_takes 48 = .ok (.iconst 1, 1) := by decide +kernel
theorem dX5_takes_49 : decode cX5_takes 49 = .ok (.isub, 1) := by decide +kernel
theorem dX5_takes_50 : decode cX5_takes 50 = .ok (.iload_n 2, 1) := by decide +kernel
theorem dX5_takes_51 : decode cX5_takes 51 = .ok (.isub, 1) := by decide +kernel
theorem dX5_takes_52 : decode cX5_takes 52 = .ok (.iaload, 1) := by decide +kernel
theorem dX5_takes_53 : decode cX5_takes 53 = .ok (.iastore, 1) := by decide +kernel
theorem dX5_takes_54 : decode cX5_takes 54 = .ok (.iinc 2 1, 3) := by decide +kernel
theorem dX5_takes_57 : decode cX5_takes 57 = .ok (.goto (-38), 3) := by decide +kernel
theorem dX5_takes_60 : decode cX5_takes 60 = .ok (.aload_n 0, 1) := by decide +kernel
theorem dX5_takes_61 : decode cX5_takes 61 = .ok (.invokevirtual 217, 3) := by decide +kernel
theorem dX5_takes_64 : decode cX5_takes 64 = .ok (.ireturn, 1) := by decide +kernel
theorem dX5_isOrder_0 : decode cX5_isOrder 0 = .ok (.iload_n 1, 1) := by decide +kernel
theorem dX5_isOrder_1 : decode cX5_isOrder 1 = .ok (.istore_n 2, 1) := by decide +kernel
theorem dX5_isOrder_2 : decode cX5_isOrder 2 = .ok (.iconst 0, 1) := by decide +kernel
theorem dX5_isOrder_3 : decode cX5_isOrder 3 = .ok (.istore_n 3, 1) := by decide +kernel
theorem dX5_isOrder_4 : decode cX5_isOrder 4 = .ok (.aload_n 0, 1) := by decide +kernel
theorem dX5_isOrder_5 : decode cX5_isOrder 5 = .ok (.getfield 191, 3) := by decide +kernel
theorem dX5_isOrder_8 : decode cX5_isOrder 8 = .ok (.iconst 1, 1) := by decide +kernel
theorem dX5_isOrder_9 : decode cX5_isOrder 9 = .ok (.isub, 1) := by decide +kernel
theorem dX5_isOrder_10 : decode cX5_isOrder 10 = .ok (.istore 4, 2) := by decide +kernel
theorem dX5_isOrder_12 : decode cX5_isOrder 12 = .ok (.iload 4, 2) := by decide +kernel
theorem dX5_isOrder_14 : decode cX5_isOrder 14 = .ok (.ifCond .lt 45, 3) := by decide +kernel
theorem dX5_isOrder_17 : decode cX5_isOrder 17 = .ok (.aload_n 0, 1) := by decide +kernel
theorem dX5_isOrder_18 : decode cX5_isOrder 18 = .ok (.getfield 40, 3) := by decide +kernel
theorem dX5_isOrder_21 : decode cX5_isOrder 21 = .ok (.iload 4, 2) := by decide +kernel
theorem dX5_isOrder_23 : decode cX5_isOrder 23 = .ok (.aload_n 0, 1) := by decide +kernel
theorem dX5_isOrder_24 : decode cX5_isOrder 24 = .ok (.getfield 37, 3) := by decide +kernel
theorem dX5_isOrder_27 : decode cX5_isOrder 27 = .ok (.iload_n 2, 1) := by decide +kernel
theorem dX5_isOrder_28 : decode cX5_isOrder 28 = .ok (.aload_n 0, 1) := by decide +kernel
theorem dX5_isOrder_29 : decode cX5_isOrder 29 = .ok (.getfield 191, 3) := by decide +kernel
theorem dX5_isOrder_32 : decode cX5_isOrder 32 = .ok (.irem, 1) := by decide +kernel
theorem dX5_isOrder_33 : decode cX5_isOrder 33 = .ok (.iaload, 1) := by decide +kernel
theorem dX5_isOrder_34 : decode cX5_isOrder 34 = .ok (.iastore, 1) := by decide +kernel
theorem dX5_isOrder_35 : decode cX5_isOrder 35 = .ok (.iload_n 3, 1) := by decide +kernel
theorem dX5_isOrder_36 : decode cX5_isOrder 36 = .ok (.iconst 1, 1) := by decide +kernel
theorem dX5_isOrder_37 : decode cX5_isOrder 37 = .ok (.iload_n 2, 1) := by decide +kernel
theorem dX5_isOrder_38 : decode cX5_isOrder 38 = .ok (.aload_n 0, 1) := by decide +kernel
theorem dX5_isOrder_39 : decode cX5_isOrder 39 = .ok (.getfield 191, 3) := by decide +kernel
theorem dX5_isOrder_42 : decode cX5_isOrder 42 = .ok (.irem, 1) := by decide +kernel
theorem dX5_isOrder_43 : decode cX5_isOrder 43 = .ok (.ishl, 1) := by decide +kernel
theorem dX5_isOrder_44 : decode cX5_isOrder 44 = .ok (.ior, 1) := by decide +kernel
theorem dX5_isOrder_45 : decode cX5_isOrder 45 = .ok (.istore_n 3, 1) := by decide +kernel
theorem dX5_isOrder_46 : decode cX5_isOrder 46 = .ok (.iload_n 2, 1) := by decide +kernel
theorem dX5_isOrder_47 : decode cX5_isOrder 47 = .ok (.aload_n 0, 1) := by decide +kernel
theorem dX5_isOrder_48 : decode cX5_isOrder 48 = .ok (.getfield 191, 3) := by decide +kernel
theorem dX5_isOrder_51 : decode cX5_isOrder 51 = .ok (.idiv, 1) := by decide +kernel
theorem dX5_isOrder_52 : decode cX5_isOrder 52 = .ok (.istore_n 2, 1) := by decide +kernel
theorem dX5_isOrder_53 : decode cX5_isOrder 53 = .ok (.iinc 4 (-1), 3) := by decide +kernel
theorem dX5_isOrder_56 : decode cX5_isOrder 56 = .ok (.goto (-44), 3) := by decide +kernel
theorem dX5_isOrder_59 : decode cX5_isOrder 59 = .ok (.iload_n 3, 1) := by decide +kernel
theorem dX5_isOrder_60 : decode cX5_isOrder 60 = .ok (.iconst 1, 1) := by decide +kernel
theorem dX5_isOrder_61 : decode cX5_isOrder 61 = .ok (.aload_n 0, 1) := by decide +kernel
theorem dX5_isOrder_62 : decode cX5_isOrder 62 = .ok (.getfield 191, 3) := by decide +kernel
theorem dX5_isOrder_65 : decode cX5_isOrder 65 = .ok (.ishl, 1) := by decide +kernel
theorem dX5_isOrder_66 : decode cX5_isOrder 66 = .ok (.iconst 1, 1) := by decide +kernel
theorem dX5_isOrder_67 : decode cX5_isOrder 67 = .ok (.isub, 1) := by decide +kernel
theorem dX5_isOrder_68 : decode cX5_isOrder 68 = .ok (.if_icmp .ne 7, 3) := by decide +kernel
theorem dX5_isOrder_71 : decode cX5_isOrder 71 = .ok (.iconst 1, 1) := by decide +kernel
theorem dX5_isOrder_72 : decode cX5_isOrder 72 = .ok (.goto 4, 3) := by decide +kernel
theorem dX5_isOrder_75 : decode cX5_isOrder 75 = .ok (.iconst 0, 1) := by decide +kernel
theorem dX5_isOrder_76 : decode cX5_isOrder 76 = .ok (.ireturn, 1) := by decide +kernel
theorem dX5_soonest_0 : decode cX5_soonest 0 = .ok (.aload_n 0, 1) := by decide +kernel
theorem dX5_soonest_1 : decode cX5_soonest 1 = .ok (.iload_n 1, 1) := by decide +kernel
theorem dX5_soonest_2 : decode cX5_soonest 2 = .ok (.invokevirtual 213, 3) := by decide +kernel
theorem dX5_soonest_5 : decode cX5_soonest 5 = .ok (.aload_n 0, 1) := by decide +kernel
theorem dX5_soonest_6 : decode cX5_soonest 6 = .ok (.getfield 191, 3) := by decide +kernel
theorem dX5_soonest_9 : decode cX5_soonest 9 = .ok (.ifCond .ne 5, 3) := by decide +kernel
theorem dX5_soonest_12 : decode cX5_soonest 12 = .ok (.iconst 0, 1) := by decide +kernel
theorem dX5_soonest_13 : decode cX5_soonest 13 = .ok (.ireturn, 1) := by decide +kernel
theorem dX5_soonest_14 : decode cX5_soonest 14 = .ok (.iconst 1, 1) := by decide +kernel
theorem dX5_soonest_15 : decode cX5_soonest 15 = .ok (.istore_n 2, 1) := by decide +kernel
theorem dX5_soonest_16 : decode cX5_soonest 16 = .ok (.iconst 0, 1) := by decide +kernel
theorem dX5_soonest_17 : decode cX5_soonest 17 = .ok (.istore_n 3, 1) := by decide +kernel
theorem dX5_soonest_18 : decode cX5_soonest 18 = .ok (.iload_n 3, 1) := by decide +kernel
theorem dX5_soonest_19 : decode cX5_soonest 19 = .ok (.aload_n 0, 1) := by decide +kernel
theorem dX5_soonest_20 : decode cX5_soonest 20 = .ok (.getfield 191, 3) := by decide +kernel
theorem dX5_soonest_23 : decode cX5_soonest 23 = .ok (.if_icmp .ge 16, 3) := by decide +kernel
theorem dX5_soonest_26 : decode cX5_soonest 26 = .ok (.iload_n 2, 1) := by decide +kernel
theorem dX5_soonest_27 : decode cX5_soonest 27 = .ok (.aload_n 0, 1) := by decide +kernel
theorem dX5_soonest_28 : decode cX5_soonest 28 = .ok (.getfield 191, 3) := by decide +kernel
theorem dX5_soonest_31 : decode cX5_soonest 31 = .ok (.imul, 1) := by decide +kernel
theorem dX5_soonest_32 : decode cX5_soonest 32 = .ok (.istore_n 2, 1) := by decide +kernel
theorem dX5_soonest_33 : decode cX5_soonest 33 = .ok (.iinc 3 1, 3) := by decide +kernel
theorem dX5_soonest_36 : decode cX5_soonest 36 = .ok (.goto (-18), 3) := by decide +kernel
theorem dX5_soonest_39 : decode cX5_soonest 39 = .ok (.ldc 220, 2) := by decide +kernel
theorem dX5_soonest_41 : decode cX5_soonest 41 = .ok (.istore_n 3, 1) := by decide +kernel
theorem dX5_soonest_42 : decode cX5_soonest 42 = .ok (.iconst 0, 1) := by decide +kernel
theorem dX5_soonest_43 : decode cX5_soonest 43 = .ok (.istore 4, 2) := by decide +kernel
theorem dX5_soonest_45 : decode cX5_soonest 45 = .ok (.iload 4, 2) := by decide +kernel
theorem dX5_soonest_47 : decode cX5_soonest 47 = .ok (.iload_n 2, 1) := by decide +kernel
theorem dX5_soonest_48 : decode cX5_soonest 48 = .ok (.if_icmp .ge 49, 3) := by decide +kernel
theorem dX5_soonest_51 : decode cX5_soonest 51 = .ok (.aload_n 0, 1) := by decide +kernel
theorem dX5_soonest_52 : decode cX5_soonest 52 = .ok (.iload 4, 2) := by decide +kernel
theorem dX5_soonest_54 : decode cX5_soonest 54 = .ok (.invokevirtual 221, 3) := by decide +kernel
theorem dX5_soonest_57 : decode cX5_soonest 57 = .ok (.ifCond .eq 34, 3) := by decide +kernel
theorem dX5_soonest_60 : decode cX5_soonest 60 = .ok (.aload_n 0, 1) := by decide +kernel
theorem dX5_soonest_61 : decode cX5_soonest 61 = .ok (.invokevirtual 217, 3) := by decide +kernel
theorem dX5_soonest_64 : decode cX5_soonest 64 = .ok (.istore 5, 2) := by decide +kernel
theorem dX5_soonest_66 : decode cX5_soonest 66 = .ok (.iload 5, 2) := by decide +kernel
theorem dX5_soonest_68 : decode cX5_soonest 68 = .ok (.iload_n 3, 1) := by decide +kernel
theorem dX5_soonest_69 : decode cX5_soonest 69 = .ok (.if_icmp .ge 22, 3) := by decide +kernel
theorem dX5_soonest_72 : decode cX5_soonest 72 = .ok (.iload 5, 2) := by decide +kernel
theorem dX5_soonest_74 : decode cX5_soonest 74 = .ok (.istore_n 3, 1) := by decide +kernel
theorem dX5_soonest_75 : decode cX5_soonest 75 = .ok (.aload_n 0, 1) := by decide +kernel
theorem dX5_soonest_76 : decode cX5_soonest 76 = .ok (.getfield 43, 3) := by decide +kernel
theorem dX5_soonest_79 : decode cX5_soonest 79 = .ok (.iconst 0, 1) := by decide +kernel
theorem dX5_soonest_80 : decode cX5_soonest 80 = .ok (.aload_n 0, 1) := by decide +kernel
theorem dX5_soonest_81 : decode cX5_soonest 81 = .ok (.getfield 40, 3) := by decide +kernel
theorem dX5_soonest_84 : decode cX5_soonest 84 = .ok (.aload_n 0, 1) := by decide +kernel
theorem dX5_soonest_85 : decode cX5_soonest 85 = .ok (.getfield 191, 3) := by decide +kernel
theorem dX5_soonest_88 : decode cX5_soonest 88 = .ok (.invokestatic 121, 3) := by decide +kernel
theorem dX5_soonest_91 : decode cX5_soonest 91 = .ok (.iinc 4 1, 3) := by decide +kernel
theorem dX5_soonest_94 : decode cX5_soonest 94 = .ok (.goto (-49), 3) := by decide +kernel
theorem dX5_soonest_97 : decode cX5_soonest 97 = .ok (.iload_n 3, 1) := by decide +kernel
theorem dX5_soonest_98 : decode cX5_soonest 98 = .ok (.ireturn, 1) := by decide +kernel
theorem dX5_tour_0 : decode cX5_tour 0 = .ok (.iload_n 1, 1) := by decide +kernel
theorem dX5_tour_1 : decode cX5_tour 1 = .ok (.iconst (-1), 1) := by decide +kernel
theorem dX5_tour_2 : decode cX5_tour 2 = .ok (.if_icmp .ge 5, 3) := by decide +kernel
theorem dX5_tour_5 : decode cX5_tour 5 = .ok (.iconst (-1), 1) := by decide +kernel
theorem dX5_tour_6 : decode cX5_tour 6 = .ok (.ireturn, 1) := by decide +kernel
theorem dX5_tour_7 : decode cX5_tour 7 = .ok (.aload_n 0, 1) := by decide +kernel
theorem dX5_tour_8 : decode cX5_tour 8 = .ok (.bipush 63, 2) := by decide +kernel
theorem dX5_tour_10 : decode cX5_tour 10 = .ok (.invokevirtual 224, 3) := by decide +kernel
theorem dX5_tour_13 : decode cX5_tour 13 = .ok (.istore_n 2, 1) := by decide +kernel
theorem dX5_tour_14 : decode cX5_tour 14 = .ok (.aload_n 0, 1) := by decide +kernel
theorem dX5_tour_15 : decode cX5_tour 15 = .ok (.getfield 191, 3) := by decide +kernel
theorem dX5_tour_18 : decode cX5_tour 18 = .ok (.ifCond .eq 11, 3) := by decide +kernel
theorem dX5_tour_21 : decode cX5_tour 21 = .ok (.iload_n 1, 1) := by decide +kernel
theorem dX5_tour_22 : decode cX5_tour 22 = .ok (.aload_n 0, 1) := by decide +kernel
theorem dX5_tour_23 : decode cX5_tour 23 = .ok (.getfield 191, 3) := by decide +kernel
theorem dX5_tour_26 : decode cX5_tour 26 = .ok (.if_icmp .lt 8, 3) := by decide +kernel
theorem dX5_tour_29 : decode cX5_tour 29 = .ok (.bipush (-4), 2) := by decide +kernel
theorem dX5_tour_31 : decode cX5_tour 31 = .ok (.goto 17, 3) := by decide +kernel
theorem dX5_tour_34 : decode cX5_tour 34 = .ok (.iload_n 1, 1) := by decide +kernel
theorem dX5_tour_35 : decode cX5_tour 35 = .ok (.ifCond .ge 7, 3) := by decide +kernel
theorem dX5_tour_38 : decode cX5_tour 38 = .ok (.iload_n 2, 1) := by decide +kernel
theorem dX5_tour_39 : decode cX5_tour 39 = .ok (.goto 9, 3) := by decide +kernel
theorem dX5_tour_42 : decode cX5_tour 42 = .ok (.aload_n 0, 1) := by decide +kernel
theorem dX5_tour_43 : decode cX5_tour 43 = .ok (.getfield 43, 3) := by decide +kernel
theorem dX5_tour_46 : decode cX5_tour 46 = .ok (.iload_n 1, 1) := by decide +kernel
theorem dX5_tour_47 : decode cX5_tour 47 = .ok (.iaload, 1) := by decide +kernel
theorem dX5_tour_48 : decode cX5_tour 48 = .ok (.ireturn, 1) := by decide +kernel
theorem dX5_enough_0 : decode cX5_enough 0 = .ok (.aload_n 0, 1) := by decide +kernel
theorem dX5_enough_1 : decode cX5_enough 1 = .ok (.bipush 63, 2) := by decide +kernel
theorem dX5_enough_3 : decode cX5_enough 3 = .ok (.invokevirtual 224, 3) := by decide +kernel
theorem dX5_enough_6 : decode cX5_enough 6 = .ok (.aload_n 0, 1) := by decide +kernel
theorem dX5_enough_7 : decode cX5_enough 7 = .ok (.getfield 118, 3) := by decide +kernel
theorem dX5_enough_10 : decode cX5_enough 10 = .ok (.if_icmp .gt 7, 3) := by decide +kernel
theorem dX5_enough_13 : decode cX5_enough 13 = .ok (.iconst 1, 1) := by decide +kernel
theorem dX5_enough_14 : decode cX5_enough 14 = .ok (.goto 4, 3) := by decide +kernel
theorem dX5_enough_17 : decode cX5_enough 17 = .ok (.iconst 0, 1) := by decide +kernel
theorem dX5_enough_18 : decode cX5_enough 18 = .ok (.ireturn, 1) := by decide +kernel
theorem dX5_leave_0 : decode cX5_leave 0 = .ok (.iconst 0, 1) := by decide +kernel
theorem dX5_leave_1 : decode cX5_leave 1 = .ok (.istore_n 1, 1) := by decide +kernel
theorem dX5_leave_2 : decode cX5_leave 2 = .ok (.aload_n 0, 1) := by decide +kernel
theorem dX5_leave_3 : decode cX5_leave 3 = .ok (.bipush 63, 2) := by decide +kernel
theorem dX5_leave_5 : decode cX5_leave 5 = .ok (.invokevirtual 213, 3) := by decide +kernel
theorem dX5_leave_8 : decode cX5_leave 8 = .ok (.iconst 0, 1) := by decide +kernel
theorem dX5_leave_9 : decode cX5_leave 9 = .ok (.istore_n 2, 1) := by decide +kernel
theorem dX5_leave_10 : decode cX5_leave 10 = .ok (.iload_n 2, 1) := by decide +kernel
theorem dX5_leave_11 : decode cX5_leave 11 = .ok (.aload_n 0, 1) := by decide +kernel
theorem dX5_leave_12 : decode cX5_leave 12 = .ok (.getfield 191, 3) := by decide +kernel
theorem dX5_leave_15 : decode cX5_leave 15 = .ok (.if_icmp .ge 20, 3) := by decide +kernel
theorem dX5_leave_18 : decode cX5_leave 18 = .ok (.iload_n 1, 1) := by decide +kernel
theorem dX5_leave_19 : decode cX5_leave 19 = .ok (.iconst 1, 1) := by decide +kernel
theorem dX5_leave_20 : decode cX5_leave 20 = .ok (.aload_n 0, 1) := by decide +kernel
theorem dX5_leave_21 : decode cX5_leave 21 = .ok (.getfield 37, 3) := by decide +kernel
theorem dX5_leave_24 : decode cX5_leave 24 = .ok (.iload_n 2, 1) := by decide +kernel
theorem dX5_leave_25 : decode cX5_leave 25 = .ok (.iaload, 1) := by decide +kernel
theorem dX5_leave_26 : decode cX5_leave 26 = .ok (.ishl, 1) := by decide +kernel
theorem dX5_leave_27 : decode cX5_leave 27 = .ok (.ior, 1) := by decide +kernel
theorem dX5_leave_28 : decode cX5_leave 28 = .ok (.istore_n 1, 1) := by decide +kernel
theorem dX5_leave_29 : decode cX5_leave 29 = .ok (.iinc 2 1, 3) := by decide +kernel
theorem dX5_leave_32 : decode cX5_leave 32 = .ok (.goto (-22), 3) := by decide +kernel
theorem dX5_leave_35 : decode cX5_leave 35 = .ok (.bipush (-4), 2) := by decide +kernel
theorem dX5_leave_37 : decode cX5_leave 37 = .ok (.istore_n 2, 1) := by decide +kernel
theorem dX5_leave_38 : decode cX5_leave 38 = .ok (.iconst 0, 1) := by decide +kernel
theorem dX5_leave_39 : decode cX5_leave 39 = .ok (.istore_n 3, 1) := by decide +kernel
theorem dX5_leave_40 : decode cX5_leave 40 = .ok (.iload_n 3, 1) := by decide +kernel
theorem dX5_leave_41 : decode cX5_leave 41 = .ok (.bipush 64, 2) := by decide +kernel
theorem dX5_leave_43 : decode cX5_leave 43 = .ok (.if_icmp .ge 66, 3) := by decide +kernel
theorem dX5_leave_46 : decode cX5_leave 46 = .ok (.iload_n 3, 1) := by decide +kernel
theorem dX5_leave_47 : decode cX5_leave 47 = .ok (.iload_n 1, 1) := by decide +kernel
theorem dX5_leave_48 : decode cX5_leave 48 = .ok (.iconst (-1), 1) := by decide +kernel
theorem dX5_leave_49 : decode cX5_leave 49 = .ok (.ixor, 1) := by decide +kernel
theorem dX5_leave_50 : decode cX5_leave 50 = .ok (.iand, 1) := by decide +kernel
theorem dX5_leave_51 : decode cX5_leave 51 = .ok (.ifCond .ne 22, 3) := by decide +kernel
theorem dX5_leave_54 : decode cX5_leave 54 = .ok (.iload_n 2, 1) := by decide +kernel
theorem dX5_leave_55 : decode cX5_leave 55 = .ok (.ifCond .lt 14, 3) := by decide +kernel
theorem dX5_leave_58 : decode cX5_leave 58 = .ok (.iload_n 3, 1) := by decide +kernel
theorem dX5_leave_59 : decode cX5_leave 59 = .ok (.invokestatic 227, 3) := by decide +kernel
theorem dX5_leave_62 : decode cX5_leave 62 = .ok (.iload_n 2, 1) := by decide +kernel
theorem dX5_leave_63 : decode cX5_leave 63 = .ok (.invokestatic 227, 3) := by decide +kernel
theorem dX5_leave_66 : decode cX5_leave 66 = .ok (.if_icmp .ge 7, 3) := by decide +kernel
theorem dX5_leave_69 : decode cX5_leave 69 = .ok (.iconst 1, 1) := by decide +kernel
theorem dX5_leave_70 : decode cX5_leave 70 = .ok (.goto 4, 3) := by decide +kernel
theorem dX5_leave_73 : decode cX5_leave 73 = .ok (.iconst 0, 1) := by decide +kernel
theorem dX5_leave_74 : decode cX5_leave 74 = .ok (.istore 4, 2) := by decide +kernel
theorem dX5_leave_76 : decode cX5_leave 76 = .ok (.iload 4, 2) := by decide +kernel
theorem dX5_leave_78 : decode cX5_leave 78 = .ok (.ifCond .eq 25, 3) := by decide +kernel
theorem dX5_leave_81 : decode cX5_leave 81 = .ok (.aload_n 0, 1) := by decide +kernel
theorem dX5_leave_82 : decode cX5_leave 82 = .ok (.iload_n 1, 1) := by decide +kernel
theorem dX5_leave_83 : decode cX5_leave 83 = .ok (.iload_n 3, 1) := by decide +kernel
theorem dX5_leave_84 : decode cX5_leave 84 = .ok (.iconst (-1), 1) := by decide +kernel
theorem dX5_leave_85 : decode cX5_leave 85 = .ok (.ixor, 1) := by decide +kernel
theorem dX5_leave_86 : decode cX5_leave 86 = .ok (.iand, 1) := by decide +kernel
theorem dX5_leave_87 : decode cX5_leave 87 = .ok (.invokevirtual 224, 3) := by decide +kernel
theorem dX5_leave_90 : decode cX5_leave 90 = .ok (.aload_n 0, 1) := by decide +kernel
theorem dX5_leave_91 : decode cX5_leave 91 = .ok (.getfield 118, 3) := by decide +kernel
theorem dX5_leave_94 : decode cX5_leave 94 = .ok (.if_icmp .gt 7, 3) := by decide +kernel
theorem dX5_leave_97 : decode cX5_leave 97 = .ok (.iload_n 3, 1) := by decide +kernel
theorem dX5_leave_98 : decode cX5_leave 98 = .ok (.goto 4, 3) := by decide +kernel
theorem dX5_leave_101 : decode cX5_leave 101 = .ok (.iload_n 2, 1) := by decide +kernel
theorem dX5_leave_102 : decode cX5_leave 102 = .ok (.istore_n 2, 1) := by decide +kernel
theorem dX5_leave_103 : decode cX5_leave 103 = .ok (.iinc 3 1, 3) := by decide +kernel
theorem dX5_leave_106 : decode cX5_leave 106 = .ok (.goto (-66), 3) := by decide +kernel
theorem dX5_leave_109 : decode cX5_leave 109 = .ok (.iload_n 2, 1) := by decide +kernel
theorem dX5_leave_110 : decode cX5_leave 110 = .ok (.ireturn, 1) := by decide +kernel
theorem dX5_seen_0 : decode cX5_seen 0 = .ok (.aload_n 0, 1) := by decide +kernel
theorem dX5_seen_1 : decode cX5_seen 1 = .ok (.iload_n 1, 1) := by decide +kernel
theorem dX5_seen_2 : decode cX5_seen 2 = .ok (.invokevirtual 151, 3) := by decide +kernel
theorem dX5_seen_5 : decode cX5_seen 5 = .ok (.ifCond .eq 11, 3) := by decide +kernel
theorem dX5_seen_8 : decode cX5_seen 8 = .ok (.aload_n 0, 1) := by decide +kernel
theorem dX5_seen_9 : decode cX5_seen 9 = .ok (.iload_n 2, 1) := by decide +kernel
theorem dX5_seen_10 : decode cX5_seen 10 = .ok (.invokevirtual 158, 3) := by decide +kernel
theorem dX5_seen_13 : decode cX5_seen 13 = .ok (.ifCond .ne 5, 3) := by decide +kernel
theorem dX5_seen_16 : decode cX5_seen 16 = .ok (.iconst (-1), 1) := by decide +kernel
theorem dX5_seen_17 : decode cX5_seen 17 = .ok (.ireturn, 1) := by decide +kernel
theorem dX5_seen_18 : decode cX5_seen 18 = .ok (.aload_n 0, 1) := by decide +kernel
theorem dX5_seen_19 : decode cX5_seen 19 = .ok (.getfield 134, 3) := by decide +kernel
theorem dX5_seen_22 : decode cX5_seen 22 = .ok (.bipush 8, 2) := by decide +kernel
theorem dX5_seen_24 : decode cX5_seen 24 = .ok (.if_icmp .ne 6, 3) := by decide +kernel
theorem dX5_seen_27 : decode cX5_seen 27 = .ok (.bipush (-3), 2) := by decide +kernel
theorem dX5_seen_29 : decode cX5_seen 29 = .ok (.ireturn, 1) := by decide +kernel
theorem dX5_seen_30 : decode cX5_seen 30 = .ok (.aload_n 0, 1) := by decide +kernel
theorem dX5_seen_31 : decode cX5_seen 31 = .ok (.getfield 19, 3) := by decide +kernel
theorem dX5_seen_34 : decode cX5_seen 34 = .ok (.iconst 2, 1) := by decide +kernel
theorem dX5_seen_35 : decode cX5_seen 35 = .ok (.aload_n 0, 1) := by decide +kernel
theorem dX5_seen_36 : decode cX5_seen 36 = .ok (.getfield 134, 3) := by decide +kernel
theorem dX5_seen_39 : decode cX5_seen 39 = .ok (.imul, 1) := by decide +kernel
theorem dX5_seen_40 : decode cX5_seen 40 = .ok (.iload_n 1, 1) := by decide +kernel
theorem dX5_seen_41 : decode cX5_seen 41 = .ok (.iastore, 1) := by decide +kernel
theorem dX5_seen_42 : decode cX5_seen 42 = .ok (.aload_n 0, 1) := by decide +kernel
theorem dX5_seen_43 : decode cX5_seen 43 = .ok (.getfield 19, 3) := by decide +kernel
theorem dX5_seen_46 : decode cX5_seen 46 = .ok (.iconst 2, 1) := by decide +kernel
theorem dX5_seen_47 : decode cX5_seen 47 = .ok (.aload_n 0, 1) := by decide +kernel
theorem dX5_seen_48 : decode cX5_seen 48 = .ok (.getfield 134, 3) := by decide +kernel
theorem dX5_seen_51 : decode cX5_seen 51 = .ok (.imul, 1) := by decide +kernel
theorem dX5_seen_52 : decode cX5_seen 52 = .ok (.iconst 1, 1) := by decide +kernel
theorem dX5_seen_53 : decode cX5_seen 53 = .ok (.iadd, 1) := by decide +kernel
theorem dX5_seen_54 : decode cX5_seen 54 = .ok (.iload_n 2, 1) := by decide +kernel
theorem dX5_seen_55 : decode cX5_seen 55 = .ok (.iastore, 1) := by decide +kernel
theorem dX5_seen_56 : decode cX5_seen 56 = .ok (.aload_n 0, 1) := by decide +kernel
theorem dX5_seen_57 : decode cX5_seen 57 = .ok (.dup, 1) := by decide +kernel
theorem dX5_seen_58 : decode cX5_seen 58 = .ok (.getfield 134, 3) := by decide +kernel
theorem dX5_seen_61 : decode cX5_seen 61 = .ok (.iconst 1, 1) := by decide +kernel
theorem dX5_seen_62 : decode cX5_seen 62 = .ok (.iadd, 1) := by decide +kernel
theorem dX5_seen_63 : decode cX5_seen 63 = .ok (.putfield 134, 3) := by decide +kernel
theorem dX5_seen_66 : decode cX5_seen 66 = .ok (.aload_n 0, 1) := by decide +kernel
theorem dX5_seen_67 : decode cX5_seen 67 = .ok (.getfield 134, 3) := by decide +kernel
theorem dX5_seen_70 : decode cX5_seen 70 = .ok (.ireturn, 1) := by decide +kernel
theorem dX5_forget_0 : decode cX5_forget 0 = .ok (.aload_n 0, 1) := by decide +kernel
theorem dX5_forget_1 : decode cX5_forget 1 = .ok (.getfield 134, 3) := by decide +kernel
theorem dX5_forget_4 : decode cX5_forget 4 = .ok (.istore_n 1, 1) := by decide +kernel
theorem dX5_forget_5 : decode cX5_forget 5 = .ok (.aload_n 0, 1) := by decide +kernel
theorem dX5_forget_6 : decode cX5_forget 6 = .ok (.iconst 0, 1) := by decide +kernel
theorem dX5_forget_7 : decode cX5_forget 7 = .ok (.putfield 134, 3) := by decide +kernel
theorem dX5_forget_10 : decode cX5_forget 10 = .ok (.iload_n 1, 1) := by decide +kernel
theorem dX5_forget_11 : decode cX5_forget 11 = .ok (.ireturn, 1) := by decide +kernel
theorem dX5_was_0 : decode cX5_was 0 = .ok (.aload_n 0, 1) := by decide +kernel
theorem dX5_was_1 : decode cX5_was 1 = .ok (.iload_n 1, 1) := by decide +kernel
theorem dX5_was_2 : decode cX5_was 2 = .ok (.invokevirtual 151, 3) := by decide +kernel
theorem dX5_was_5 : decode cX5_was 5 = .ok (.ifCond .ne 5, 3) := by decide +kernel
theorem dX5_was_8 : decode cX5_was 8 = .ok (.iconst (-1), 1) := by decide +kernel
theorem dX5_was_9 : decode cX5_was 9 = .ok (.ireturn, 1) := by decide +kernel
theorem dX5_was_10 : decode cX5_was 10 = .ok (.iconst 0, 1) := by decide +kernel
theorem dX5_was_11 : decode cX5_was 11 = .ok (.istore_n 2, 1) := by decide +kernel
theorem dX5_was_12 : decode cX5_was 12 = .ok (.iconst 0, 1) := by decide +kernel
theorem dX5_was_13 : decode cX5_was 13 = .ok (.istore_n 3, 1) := by decide +kernel
theorem dX5_was_14 : decode cX5_was 14 = .ok (.iload_n 3, 1) := by decide +kernel
theorem dX5_was_15 : decode cX5_was 15 = .ok (.bipush 10, 2) := by decide +kernel
theorem dX5_was_17 : decode cX5_was 17 = .ok (.if_icmp .ge 130, 3) := by decide +kernel
theorem dX5_was_20 : decode cX5_was 20 = .ok (.aload_n 0, 1) := by decide +kernel
theorem dX5_was_21 : decode cX5_was 21 = .ok (.aload_n 0, 1) := by decide +kernel
theorem dX5_was_22 : decode cX5_was 22 = .ok (.getfield 7, 3) := by decide +kernel
theorem dX5_was_25 : decode cX5_was 25 = .ok (.invokevirtual 170, 3) := by decide +kernel
theorem dX5_was_28 : decode cX5_was 28 = .ok (.aload_n 0, 1) := by decide +kernel
theorem dX5_was_29 : decode cX5_was 29 = .ok (.getfield 31, 3) := by decide +kernel
theorem dX5_was_32 : decode cX5_was 32 = .ok (.iconst 1, 1) := by decide +kernel
theorem dX5_was_33 : decode cX5_was 33 = .ok (.iconst 3, 1) := by decide +kernel
theorem dX5_was_34 : decode cX5_was 34 = .ok (.iload_n 1, 1) := by decide +kernel
theorem dX5_was_35 : decode cX5_was 35 = .ok (.imul, 1) := by decide +kernel
theorem dX5_was_36 : decode cX5_was 36 = .ok (.iadd, 1) := by decide +kernel
theorem dX5_was_37 : decode cX5_was 37 = .ok (.iconst 2, 1) := by decide +kernel
theorem dX5_was_38 : decode cX5_was 38 = .ok (.iadd, 1) := by decide +kernel
theorem dX5_was_39 : decode cX5_was 39 = .ok (.iload_n 3, 1) := by decide +kernel
theorem dX5_was_40 : decode cX5_was 40 = .ok (.iastore, 1) := by decide +kernel
theorem dX5_was_41 : decode cX5_was 41 = .ok (.aload_n 0, 1) := by decide +kernel
theorem dX5_was_42 : decode cX5_was 42 = .ok (.invokevirtual 125, 3) := by decide +kernel
theorem dX5_was_45 : decode cX5_was 45 = .ok (.iconst 1, 1) := by decide +kernel
theorem dX5_was_46 : decode cX5_was 46 = .ok (.istore 4, 2) := by decide +kernel
theorem dX5_was_48 : decode cX5_was 48 = .ok (.iconst 0, 1) := by decide +kernel
theorem dX5_was_49 : decode cX5_was 49 = .ok (.istore 5, 2) := by decide +kernel
theorem dX5_was_51 : decode cX5_was 51 = .ok (.iload 5, 2) := by decide +kernel
theorem dX5_was_53 : decode cX5_was 53 = .ok (.aload_n 0, 1) := by decide +kernel
theorem dX5_was_54 : decode cX5_was 54 = .ok (.getfield 134, 3) := by decide +kernel
theorem dX5_was_57 : decode cX5_was 57 = .ok (.if_icmp .ge 69, 3) := by decide +kernel
theorem dX5_was_60 : decode cX5_was 60 = .ok (.iload 4, 2) := by decide +kernel
theorem dX5_was_62 : decode cX5_was 62 = .ok (.ifCond .eq 55, 3) := by decide +kernel
theorem dX5_was_65 : decode cX5_was 65 = .ok (.aload_n 0, 1) := by decide +kernel
theorem dX5_was_66 : decode cX5_was 66 = .ok (.getfield 19, 3) := by decide +kernel
theorem dX5_was_69 : decode cX5_was 69 = .ok (.iconst 2, 1) := by decide +kernel
theorem dX5_was_70 : decode cX5_was 70 = .ok (.iload 5, 2) := by decide +kernel
theorem dX5_was_72 : decode cX5_was 72 = .ok (.imul, 1) := by decide +kernel
theorem dX5_was_73 : decode cX5_was 73 = .ok (.iaload, 1) := by decide +kernel
theorem dX5_was_74 : decode cX5_was 74 = .ok (.aload_n 0, 1) := by decide +kernel
theorem dX5_was_75 : decode cX5_was 75 = .ok (.getfield 31, 3) := by decide +kernel
theorem dX5_was_78 : decode cX5_was 78 = .ok (.iconst 0, 1) := by decide +kernel
theorem dX5_was_79 : decode cX5_was 79 = .ok (.iaload, 1) := by decide +kernel
theorem dX5_was_80 : decode cX5_was 80 = .ok (.if_icmp .ge 37, 3) := by decide +kernel
theorem dX5_was_83 : decode cX5_was 83 = .ok (.aload_n 0, 1) := by decide +kernel
theorem dX5_was_84 : decode cX5_was 84 = .ok (.getfield 31, 3) := by decide +kernel
theorem dX5_was_87 : decode cX5_was 87 = .ok (.aload_n 0, 1) := by decide +kernel
theorem dX5_was_88 : decode cX5_was 88 = .ok (.getfield 19, 3) := by decide +kernel
theorem dX5_was_91 : decode cX5_was 91 = .ok (.iconst 2, 1) := by decide +kernel
theorem dX5_was_92 : decode cX5_was 92 = .ok (.iload 5, 2) := by decide +kernel
theorem dX5_was_94 : decode cX5_was 94 = .ok (.imul, 1) := by decide +kernel
theorem dX5_was_95 : decode cX5_was 95 = .ok (.iaload, 1) := by decide +kernel
theorem dX5_was_96 : decode cX5_was 96 = .ok (.invokestatic 154, 3) := by decide +kernel
theorem dX5_was_99 : decode cX5_was 99 = .ok (.aload_n 0, 1) := by decide +kernel
theorem dX5_was_100 : decode cX5_was 100 = .ok (.getfield 19, 3) := by decide +kernel
theorem dX5_was_103 : decode cX5_was 103 = .ok (.iconst 2, 1) := by decide +kernel
theorem dX5_was_104 : decode cX5_was 104 = .ok (.iload 5, 2) := by decide +kernel
theorem dX5_was_106 : decode cX5_was 106 = .ok (.imul, 1) := by decide +kernel
theorem dX5_was_107 : decode cX5_was 107 = .ok (.iconst 1, 1) := by decide +kernel
theorem dX5_was_108 : decode cX5_was 108 = .ok (.iadd, 1) := by decide +kernel
theorem dX5_was_109 : decode cX5_was 109 = .ok (.iaload, 1) := by decide +kernel
theorem dX5_was_110 : decode cX5_was 110 = .ok (.if_icmp .ne 7, 3) := by decide +kernel
theorem dX5_was_113 : decode cX5_was 113 = .ok (.iconst 1, 1) := by decide +kernel
theorem dX5_was_114 : decode cX5_was 114 = .ok (.goto 4, 3) := by decide +kernel
theorem dX5_was_117 : decode cX5_was 117 = .ok (.iconst 0, 1) := by decide +kernel
theorem dX5_was_118 : decode cX5_was 118 = .ok (.istore 4, 2) := by decide +kernel
theorem dX5_was_120 : decode cX5_was 120 = .ok (.iinc 5 1, 3) := by decide +kernel
theorem dX5_was_123 : decode cX5_was 123 = .ok (.goto (-72), 3) := by decide +kernel
theorem dX5_was_126 : decode cX5_was 126 = .ok (.iload_n 2, 1) := by decide +kernel
theorem dX5_was_127 : decode cX5_was 127 = .ok (.iload 4, 2) := by decide +kernel
theorem dX5_was_129 : decode cX5_was 129 = .ok (.ifCond .eq 9, 3) := by decide +kernel
theorem dX5_was_132 : decode cX5_was 132 = .ok (.iconst 1, 1) := by decide +kernel
theorem dX5_was_133 : decode cX5_was 133 = .ok (.iload_n 3, 1) := by decide +kernel
theorem dX5_was_134 : decode cX5_was 134 = .ok (.ishl, 1) := by decide +kernel
theorem dX5_was_135 : decode cX5_was 135 = .ok (.goto 4, 3) := by decide +kernel
theorem dX5_was_138 : decode cX5_was 138 = .ok (.iconst 0, 1) := by decide +kernel
theorem dX5_was_139 : decode cX5_was 139 = .ok (.ior, 1) := by decide +kernel
theorem dX5_was_140 : decode cX5_was 140 = .ok (.istore_n 2, 1) := by decide +kernel
theorem dX5_was_141 : decode cX5_was 141 = .ok (.iinc 3 1, 3) := by decide +kernel
theorem dX5_was_144 : decode cX5_was 144 = .ok (.goto (-130), 3) := by decide +kernel
theorem dX5_was_147 : decode cX5_was 147 = .ok (.iload_n 2, 1) := by decide +kernel
theorem dX5_was_148 : decode cX5_was 148 = .ok (.ireturn, 1) := by decide +kernel
theorem dX5_owedOn_0 : decode cX5_owedOn 0 = .ok (.iconst 0, 1) := by decide +kernel
theorem dX5_owedOn_1 : decode cX5_owedOn 1 = .ok (.istore_n 3, 1) := by decide +kernel
theorem dX5_owedOn_2 : decode cX5_owedOn 2 = .ok (.iconst 0, 1) := by decide +kernel
theorem dX5_owedOn_3 : decode cX5_owedOn 3 = .ok (.istore 4, 2) := by decide +kernel
theorem dX5_owedOn_5 : decode cX5_owedOn 5 = .ok (.iload 4, 2) := by decide +kernel
theorem dX5_owedOn_7 : decode cX5_owedOn 7 = .ok (.aload_n 1, 1) := by decide +kernel
theorem dX5_owedOn_8 : decode cX5_owedOn 8 = .ok (.iconst 0, 1) := by decide +kernel
theorem dX5_owedOn_9 : decode cX5_owedOn 9 = .ok (.iaload, 1) := by decide +kernel
theorem dX5_owedOn_10 : decode cX5_owedOn 10 = .ok (.if_icmp .ge 38, 3) := by decide +kernel
theorem dX5_owedOn_13 : decode cX5_owedOn 13 = .ok (.iload_n 3, 1) := by decide +kernel
theorem dX5_owedOn_14 : decode cX5_owedOn 14 = .ok (.aload_n 1, 1) := by decide +kernel
theorem dX5_owedOn_15 : decode cX5_owedOn 15 = .ok (.iconst 1, 1) := by decide +kernel
theorem dX5_owedOn_16 : decode cX5_owedOn 16 = .ok (.iconst 3, 1) := by decide +kernel
theorem dX5_owedOn_17 : decode cX5_owedOn 17 = .ok (.iload 4, 2) := by decide +kernel
theorem dX5_owedOn_19 : decode cX5_owedOn 19 = .ok (.imul, 1) := by decide +kernel
theorem dX5_owedOn_20 : decode cX5_owedOn 20 = .ok (.iadd, 1) := by decide +kernel
theorem dX5_owedOn_21 : decode cX5_owedOn 21 = .ok (.iaload, 1) := by decide +kernel
theorem dX5_owedOn_22 : decode cX5_owedOn 22 = .ok (.iload_n 2, 1) := by decide +kernel
theorem dX5_owedOn_23 : decode cX5_owedOn 23 = .ok (.if_icmp .ne 16, 3) := by decide +kernel
theorem dX5_owedOn_26 : decode cX5_owedOn 26 = .ok (.aload_n 1, 1) := by decide +kernel
theorem dX5_owedOn_27 : decode cX5_owedOn 27 = .ok (.iload 4, 2) := by decide +kernel
theorem dX5_owedOn_29 : decode cX5_owedOn 29 = .ok (.invokestatic 154, 3) := by decide +kernel
theorem dX5_owedOn_32 : decode cX5_owedOn 32 = .ok (.ifCond .ge 7, 3) := by decide +kernel
theorem dX5_owedOn_35 : decode cX5_owedOn 35 = .ok (.iconst 1, 1) := by decide +kernel
theorem dX5_owedOn_36 : decode cX5_owedOn 36 = .ok (.goto 4, 3) := by decide +kernel
theorem dX5_owedOn_39 : decode cX5_owedOn 39 = .ok (.iconst 0, 1) := by decide +kernel
theorem dX5_owedOn_40 : decode cX5_owedOn 40 = .ok (.iadd, 1) := by decide +kernel
theorem dX5_owedOn_41 : decode cX5_owedOn 41 = .ok (.istore_n 3, 1) := by decide +kernel
theorem dX5_owedOn_42 : decode cX5_owedOn 42 = .ok (.iinc 4 1, 3) := by decide +kernel
theorem dX5_owedOn_45 : decode cX5_owedOn 45 = .ok (.goto (-40), 3) := by decide +kernel
theorem dX5_owedOn_48 : decode cX5_owedOn 48 = .ok (.iload_n 3, 1) := by decide +kernel
theorem dX5_owedOn_49 : decode cX5_owedOn 49 = .ok (.ireturn, 1) := by decide +kernel
theorem dX5_owed_0 : decode cX5_owed 0 = .ok (.iload_n 1, 1) := by decide +kernel
theorem dX5_owed_1 : decode cX5_owed 1 = .ok (.iconst 0, 1) := by decide +kernel
theorem dX5_owed_2 : decode cX5_owed 2 = .ok (.iconst 1, 1) := by decide +kernel
theorem dX5_owed_3 : decode cX5_owed 3 = .ok (.invokestatic 67, 3) := by decide +kernel
theorem dX5_owed_6 : decode cX5_owed 6 = .ok (.ifCond .eq 15, 3) := by decide +kernel
theorem dX5_owed_9 : decode cX5_owed 9 = .ok (.aload_n 0, 1) := by decide +kernel
theorem dX5_owed_10 : decode cX5_owed 10 = .ok (.aload_n 0, 1) := by decide +kernel
theorem dX5_owed_11 : decode cX5_owed 11 = .ok (.getfield 7, 3) := by decide +kernel
theorem dX5_owed_14 : decode cX5_owed 14 = .ok (.iload_n 1, 1) := by decide +kernel
theorem dX5_owed_15 : decode cX5_owed 15 = .ok (.invokevirtual 230, 3) := by decide +kernel
theorem dX5_owed_18 : decode cX5_owed 18 = .ok (.goto 4, 3) := by decide +kernel
theorem dX5_owed_21 : decode cX5_owed 21 = .ok (.iconst (-1), 1) := by decide +kernel
theorem dX5_owed_22 : decode cX5_owed 22 = .ok (.ireturn, 1) := by decide +kernel
theorem dX5_balance_0 : decode cX5_balance 0 = .ok (.sipush 200, 3) := by decide +kernel
theorem dX5_balance_3 : decode cX5_balance 3 = .ok (.istore_n 1, 1) := by decide +kernel
theorem dX5_balance_4 : decode cX5_balance 4 = .ok (.iconst 0, 1) := by decide +kernel
theorem dX5_balance_5 : decode cX5_balance 5 = .ok (.istore_n 2, 1) := by decide +kernel
theorem dX5_balance_6 : decode cX5_balance 6 = .ok (.iload_n 2, 1) := by decide +kernel
theorem dX5_balance_7 : decode cX5_balance 7 = .ok (.aload_n 0, 1) := by decide +kernel
theorem dX5_balance_8 : decode cX5_balance 8 = .ok (.getfield 7, 3) := by decide +kernel
theorem dX5_balance_11 : decode cX5_balance 11 = .ok (.iconst 0, 1) := by decide +kernel
theorem dX5_balance_12 : decode cX5_balance 12 = .ok (.iaload, 1) := by decide +kernel
theorem dX5_balance_13 : decode cX5_balance 13 = .ok (.if_icmp .ge 59, 3) := by decide +kernel
theorem dX5_balance_16 : decode cX5_balance 16 = .ok (.aload_n 0, 1) := by decide +kernel
theorem dX5_balance_17 : decode cX5_balance 17 = .ok (.getfield 7, 3) := by decide +kernel
theorem dX5_balance_20 : decode cX5_balance 20 = .ok (.iload_n 2, 1) := by decide +kernel
theorem dX5_balance_21 : decode cX5_balance 21 = .ok (.invokestatic 154, 3) := by decide +kernel
theorem dX5_balance_24 : decode cX5_balance 24 = .ok (.ifCond .ge 7, 3) := by decide +kernel
theorem dX5_balance_27 : decode cX5_balance 27 = .ok (.iconst 0, 1) := by decide +kernel
theorem dX5_balance_28 : decode cX5_balance 28 = .ok (.goto 15, 3) := by decide +kernel
theorem dX5_balance_31 : decode cX5_balance 31 = .ok (.aload_n 0, 1) := by decide +kernel
theorem dX5_balance_32 : decode cX5_balance 32 = .ok (.getfield 7, 3) := by decide +kernel
theorem dX5_balance_35 : decode cX5_balance 35 = .ok (.iconst 1, 1) := by decide +kernel
theorem dX5_balance_36 : decode cX5_balance 36 = .ok (.iconst 3, 1) := by decide +kernel
theorem dX5_balance_37 : decode cX5_balance 37 = .ok (.iload_n 2, 1) := by decide +kernel
theorem dX5_balance_38 : decode cX5_balance 38 = .ok (.imul, 1) := by decide +kernel
theorem dX5_balance_39 : decode cX5_balance 39 = .ok (.iadd, 1) := by decide +kernel
theorem dX5_balance_40 : decode cX5_balance 40 = .ok (.iconst 2, 1) := by decide +kernel
theorem dX5_balance_41 : decode cX5_balance 41 = .ok (.iadd, 1) := by decide +kernel
theorem dX5_balance_42 : decode cX5_balance 42 = .ok (.iaload, 1) := by decide +kernel
theorem dX5_balance_43 : decode cX5_balance 43 = .ok (.istore_n 3, 1) := by decide +kernel
theorem dX5_balance_44 : decode cX5_balance 44 = .ok (.iload_n 1, 1) := by decide +kernel
theorem dX5_balance_45 : decode cX5_balance 45 = .ok (.aload_n 0, 1) := by decide +kernel
theorem dX5_balance_46 : decode cX5_balance 46 = .ok (.getfield 7, 3) := by decide +kernel
theorem dX5_balance_49 : decode cX5_balance 49 = .ok (.iconst 1, 1) := by decide +kernel
theorem dX5_balance_50 : decode cX5_balance 50 = .ok (.iconst 3, 1) := by decide +kernel
theorem dX5_balance_51 : decode cX5_balance 51 = .ok (.iload_n 2, 1) := by decide +kernel
theorem dX5_balance_52 : decode cX5_balance 52 = .ok (.imul, 1) := by decide +kernel
theorem dX5_balance_53 : decode cX5_balance 53 = .ok (.iadd, 1) := by decide +kernel
theorem dX5_balance_54 : decode cX5_balance 54 = .ok (.iaload, 1) := by decide +kernel
theorem dX5_balance_55 : decode cX5_balance 55 = .ok (.ifCond .ne 7, 3) := by decide +kernel
theorem dX5_balance_58 : decode cX5_balance 58 = .ok (.iload_n 3, 1) := by decide +kernel
theorem dX5_balance_59 : decode cX5_balance 59 = .ok (.goto 5, 3) := by decide +kernel
theorem dX5_balance_62 : decode cX5_balance 62 = .ok (.iload_n 3, 1) := by decide +kernel
theorem dX5_balance_63 : decode cX5_balance 63 = .ok (.ineg, 1) := by decide +kernel
theorem dX5_balance_64 : decode cX5_balance 64 = .ok (.iadd, 1) := by decide +kernel
theorem dX5_balance_65 : decode cX5_balance 65 = .ok (.istore_n 1, 1) := by decide +kernel
theorem dX5_balance_66 : decode cX5_balance 66 = .ok (.iinc 2 1, 3) := by decide +kernel
theorem dX5_balance_69 : decode cX5_balance 69 = .ok (.goto (-63), 3) := by decide +kernel
theorem dX5_balance_72 : decode cX5_balance 72 = .ok (.iload_n 1, 1) := by decide +kernel
theorem dX5_balance_73 : decode cX5_balance 73 = .ok (.ireturn, 1) := by decide +kernel
theorem dX5_firstIn_0 : decode cX5_firstIn 0 = .ok (.iconst 0, 1) := by decide +kernel
theorem dX5_firstIn_1 : decode cX5_firstIn 1 = .ok (.istore_n 3, 1) := by decide +kernel
theorem dX5_firstIn_2 : decode cX5_firstIn 2 = .ok (.iload_n 3, 1) := by decide +kernel
theorem dX5_firstIn_3 : decode cX5_firstIn 3 = .ok (.aload_n 0, 1) := by decide +kernel
theorem dX5_firstIn_4 : decode cX5_firstIn 4 = .ok (.getfield 7, 3) := by decide +kernel
theorem dX5_firstIn_7 : decode cX5_firstIn 7 = .ok (.iconst 0, 1) := by decide +kernel
theorem dX5_firstIn_8 : decode cX5_firstIn 8 = .ok (.iaload, 1) := by decide +kernel
theorem dX5_firstIn_9 : decode cX5_firstIn 9 = .ok (.if_icmp .ge 37, 3) := by decide +kernel
theorem dX5_firstIn_12 : decode cX5_firstIn 12 = .ok (.iload_n 2, 1) := by decide +kernel
theorem dX5_firstIn_13 : decode cX5_firstIn 13 = .ok (.iload_n 3, 1) := by decide +kernel
theorem dX5_firstIn_14 : decode cX5_firstIn 14 = .ok (.invokestatic 194, 3) := by decide +kernel
theorem dX5_firstIn_17 : decode cX5_firstIn 17 = .ok (.ifCond .eq 23, 3) := by decide +kernel
theorem dX5_firstIn_20 : decode cX5_firstIn 20 = .ok (.aload_n 0, 1) := by decide +kernel
theorem dX5_firstIn_21 : decode cX5_firstIn 21 = .ok (.getfield 7, 3) := by decide +kernel
theorem dX5_firstIn_24 : decode cX5_firstIn 24 = .ok (.iconst 1, 1) := by decide +kernel
theorem dX5_firstIn_25 : decode cX5_firstIn 25 = .ok (.iconst 3, 1) := by decide +kernel
theorem dX5_firstIn_26 : decode cX5_firstIn 26 = .ok (.iload_n 3, 1) := by decide +kernel
theorem dX5_firstIn_27 : decode cX5_firstIn 27 = .ok (.imul, 1) := by decide +kernel
theorem dX5_firstIn_28 : decode cX5_firstIn 28 = .ok (.iadd, 1) := by decide +kernel
theorem dX5_firstIn_29 : decode cX5_firstIn 29 = .ok (.iaload, 1) := by decide +kernel
theorem dX5_firstIn_30 : decode cX5_firstIn 30 = .ok (.iconst 1, 1) := by decide +kernel
theorem dX5_firstIn_31 : decode cX5_firstIn 31 = .ok (.iload_n 1, 1) := by decide +kernel
theorem dX5_firstIn_32 : decode cX5_firstIn 32 = .ok (.isub, 1) := by decide +kernel
theorem dX5_firstIn_33 : decode cX5_firstIn 33 = .ok (.if_icmp .ne 7, 3) := by decide +kernel
theorem dX5_firstIn_36 : decode cX5_firstIn 36 = .ok (.iconst 1, 1) := by decide +kernel
theorem dX5_firstIn_37 : decode cX5_firstIn 37 = .ok (.iload_n 3, 1) := by decide +kernel
theorem dX5_firstIn_38 : decode cX5_firstIn 38 = .ok (.ishl, 1) := by decide +kernel
theorem dX5_firstIn_39 : decode cX5_firstIn 39 = .ok (.ireturn, 1) := by decide +kernel
theorem dX5_firstIn_40 : decode cX5_firstIn 40 = .ok (.iinc 3 1, 3) := by decide +kernel
theorem dX5_firstIn_43 : decode cX5_firstIn 43 = .ok (.goto (-41), 3) := by decide +kernel
theorem dX5_firstIn_46 : decode cX5_firstIn 46 = .ok (.iconst 0, 1) := by decide +kernel
theorem dX5_firstIn_47 : decode cX5_firstIn 47 = .ok (.ireturn, 1) := by decide +kernel
theorem dX5_names_0 : decode cX5_names 0 = .ok (.iload_n 1, 1) := by decide +kernel
theorem dX5_names_1 : decode cX5_names 1 = .ok (.iconst 0, 1) := by decide +kernel
theorem dX5_names_2 : decode cX5_names 2 = .ok (.bipush 20, 2) := by decide +kernel
theorem dX5_names_4 : decode cX5_names 4 = .ok (.invokestatic 67, 3) := by decide +kernel
theorem dX5_names_7 : decode cX5_names 7 = .ok (.ifCond .ne 5, 3) := by decide +kernel
theorem dX5_names_10 : decode cX5_names 10 = .ok (.iconst (-1), 1) := by decide +kernel
theorem dX5_names_11 : decode cX5_names 11 = .ok (.ireturn, 1) := by decide +kernel
theorem dX5_names_12 : decode cX5_names 12 = .ok (.iconst 0, 1) := by decide +kernel
theorem dX5_names_13 : decode cX5_names 13 = .ok (.istore_n 2, 1) := by decide +kernel
theorem dX5_names_14 : decode cX5_names 14 = .ok (.iconst 0, 1) := by decide +kernel
theorem dX5_names_15 : decode cX5_names 15 = .ok (.istore_n 3, 1) := by decide +kernel
theorem dX5_names_16 : decode cX5_names 16 = .ok (.iload_n 3, 1) := by decide +kernel
theorem dX5_names_17 : decode cX5_names 17 = .ok (.aload_n 0, 1) := by decide +kernel
theorem dX5_names_18 : decode cX5_names 18 = .ok (.getfield 7, 3) := by decide +kernel
theorem dX5_names_21 : decode cX5_names 21 = .ok (.iconst 0, 1) := by decide +kernel
theorem dX5_names_22 : decode cX5_names 22 = .ok (.iaload, 1) := by decide +kernel
theorem dX5_names_23 : decode cX5_names 23 = .ok (.if_icmp .ge 30, 3) := by decide +kernel
theorem dX5_names_26 : decode cX5_names 26 = .ok (.iload_n 2, 1) := by decide +kernel
theorem dX5_names_27 : decode cX5_names 27 = .ok (.aload_n 0, 1) := by decide +kernel
theorem dX5_names_28 : decode cX5_names 28 = .ok (.getfield 7, 3) := by decide +kernel
theorem dX5_names_31 : decode cX5_names 31 = .ok (.iload_n 3, 1) := by decide +kernel
theorem dX5_names_32 : decode cX5_names 32 = .ok (.invokestatic 154, 3) := by decide +kernel
theorem dX5_names_35 : decode cX5_names 35 = .ok (.ifCond .lt 9, 3) := by decide +kernel
theorem dX5_names_38 : decode cX5_names 38 = .ok (.iconst 1, 1) := by decide +kernel
theorem dX5_names_39 : decode cX5_names 39 = .ok (.iload_n 3, 1) := by decide +kernel
theorem dX5_names_40 : decode cX5_names 40 = .ok (.ishl, 1) := by decide +kernel
theorem dX5_names_41 : decode cX5_names 41 = .ok (.goto 4, 3) := by decide +kernel
theorem dX5_names_44 : decode cX5_names 44 = .ok (.iconst 0, 1) := by decide +kernel
theorem dX5_names_45 : decode cX5_names 45 = .ok (.ior, 1) := by decide +kernel
theorem dX5_names_46 : decode cX5_names 46 = .ok (.istore_n 2, 1) := by decide +kernel
theorem dX5_names_47 : decode cX5_names 47 = .ok (.iinc 3 1, 3) := by decide +kernel
theorem dX5_names_50 : decode cX5_names 50 = .ok (.goto (-34), 3) := by decide +kernel
theorem dX5_names_53 : decode cX5_names 53 = .ok (.iconst 0, 1) := by decide +kernel
theorem dX5_names_54 : decode cX5_names 54 = .ok (.istore_n 3, 1) := by decide +kernel
theorem dX5_names_55 : decode cX5_names 55 = .ok (.iload_n 3, 1) := by decide +kernel
theorem dX5_names_56 : decode cX5_names 56 = .ok (.iload_n 1, 1) := by decide +kernel
theorem dX5_names_57 : decode cX5_names 57 = .ok (.if_icmp .ge 48, 3) := by decide +kernel
theorem dX5_names_60 : decode cX5_names 60 = .ok (.aload_n 0, 1) := by decide +kernel
theorem dX5_names_61 : decode cX5_names 61 = .ok (.iload_n 3, 1) := by decide +kernel
theorem dX5_names_62 : decode cX5_names 62 = .ok (.iconst 2, 1) := by decide +kernel
theorem dX5_names_63 : decode cX5_names 63 = .ok (.irem, 1) := by decide +kernel
theorem dX5_names_64 : decode cX5_names 64 = .ok (.iload_n 2, 1) := by decide +kernel
theorem dX5_names_65 : decode cX5_names 65 = .ok (.invokevirtual 233, 3) := by decide +kernel
theorem dX5_names_68 : decode cX5_names 68 = .ok (.istore 4, 2) := by decide +kernel
theorem dX5_names_70 : decode cX5_names 70 = .ok (.iload 4, 2) := by decide +kernel
theorem dX5_names_72 : decode cX5_names 72 = .ok (.ifCond .ne 16, 3) := by decide +kernel
theorem dX5_names_75 : decode cX5_names 75 = .ok (.aload_n 0, 1) := by decide +kernel
theorem dX5_names_76 : decode cX5_names 76 = .ok (.iconst 1, 1) := by decide +kernel
theorem dX5_names_77 : decode cX5_names 77 = .ok (.iload_n 3, 1) := by decide +kernel
theorem dX5_names_78 : decode cX5_names 78 = .ok (.iconst 2, 1) := by decide +kernel
theorem dX5_names_79 : decode cX5_names 79 = .ok (.irem, 1) := by decide +kernel
theorem dX5_names_80 : decode cX5_names 80 = .ok (.isub, 1) := by decide +kernel
theorem dX5_names_81 : decode cX5_names 81 = .ok (.iload_n 2, 1) := by decide +kernel
theorem dX5_names_82 : decode cX5_names 82 = .ok (.invokevirtual 233, 3) := by decide +kernel
theorem dX5_names_85 : decode cX5_names 85 = .ok (.goto 5, 3) := by decide +kernel
theorem dX5_names_88 : decode cX5_names 88 = .ok (.iload 4, 2) := by decide +kernel
theorem dX5_names_90 : decode cX5_names 90 = .ok (.istore 4, 2) := by decide +kernel
theorem dX5_names_92 : decode cX5_names 92 = .ok (.iload_n 2, 1) := by decide +kernel
theorem dX5_names_93 : decode cX5_names 93 = .ok (.iload 4, 2) := by decide +kernel
theorem dX5_names_95 : decode cX5_names 95 = .ok (.iconst (-1), 1) := by decide +kernel
theorem dX5_names_96 : decode cX5_names 96 = .ok (.ixor, 1) := by decide +kernel
theorem dX5_names_97 : decode cX5_names 97 = .ok (.iand, 1) := by decide +kernel
theorem dX5_names_98 : decode cX5_names 98 = .ok (.istore_n 2, 1) := by decide +kernel
theorem dX5_names_99 : decode cX5_names 99 = .ok (.iinc 3 1, 3) := by decide +kernel
theorem dX5_names_102 : decode cX5_names 102 = .ok (.goto (-47), 3) := by decide +kernel
theorem dX5_names_105 : decode cX5_names 105 = .ok (.iload_n 2, 1) := by decide +kernel
theorem dX5_names_106 : decode cX5_names 106 = .ok (.ireturn, 1) := by decide +kernel
theorem dX5_next_0 : decode cX5_next 0 = .ok (.aload_n 0, 1) := by decide +kernel
theorem dX5_next_1 : decode cX5_next 1 = .ok (.iload_n 1, 1) := by decide +kernel
theorem dX5_next_2 : decode cX5_next 2 = .ok (.iload_n 2, 1) := by decide +kernel
theorem dX5_next_3 : decode cX5_next 3 = .ok (.iload_n 3, 1) := by decide +kernel
theorem dX5_next_4 : decode cX5_next 4 = .ok (.invokevirtual 164, 3) := by decide +kernel
theorem dX5_next_7 : decode cX5_next 7 = .ok (.ifCond .ne 5, 3) := by decide +kernel
theorem dX5_next_10 : decode cX5_next 10 = .ok (.iconst (-1), 1) := by decide +kernel
theorem dX5_next_11 : decode cX5_next 11 = .ok (.ireturn, 1) := by decide +kernel
theorem dX5_next_12 : decode cX5_next 12 = .ok (.aload_n 0, 1) := by decide +kernel
theorem dX5_next_13 : decode cX5_next 13 = .ok (.aload_n 0, 1) := by decide +kernel
theorem dX5_next_14 : decode cX5_next 14 = .ok (.getfield 7, 3) := by decide +kernel
theorem dX5_next_17 : decode cX5_next 17 = .ok (.invokevirtual 170, 3) := by decide +kernel
theorem dX5_next_20 : decode cX5_next 20 = .ok (.aload_n 0, 1) := by decide +kernel
theorem dX5_next_21 : decode cX5_next 21 = .ok (.iconst 1, 1) := by decide +kernel
theorem dX5_next_22 : decode cX5_next 22 = .ok (.iload_n 1, 1) := by decide +kernel
theorem dX5_next_23 : decode cX5_next 23 = .ok (.isub, 1) := by decide +kernel
theorem dX5_next_24 : decode cX5_next 24 = .ok (.iload_n 2, 1) := by decide +kernel
theorem dX5_next_25 : decode cX5_next 25 = .ok (.iload_n 3, 1) := by decide +kernel
theorem dX5_next_26 : decode cX5_next 26 = .ok (.invokevirtual 141, 3) := by decide +kernel
theorem dX5_next_29 : decode cX5_next 29 = .ok (.ireturn, 1) := by decide +kernel
theorem dX5_year_0 : decode cX5_year 0 = .ok (.iload_n 1, 1) := by decide +kernel
theorem dX5_year_1 : decode cX5_year 1 = .ok (.iconst 0, 1) := by decide +kernel
theorem dX5_year_2 : decode cX5_year 2 = .ok (.sipush 9999, 3) := by decide +kernel
theorem dX5_year_5 : decode cX5_year 5 = .ok (.invokestatic 67, 3) := by decide +kernel
theorem dX5_year_8 : decode cX5_year 8 = .ok (.ifCond .eq 22, 3) := by decide +kernel
theorem dX5_year_11 : decode cX5_year 11 = .ok (.iload_n 2, 1) := by decide +kernel
theorem dX5_year_12 : decode cX5_year 12 = .ok (.iconst 1, 1) := by decide +kernel
theorem dX5_year_13 : decode cX5_year 13 = .ok (.bipush 30, 2) := by decide +kernel
theorem dX5_year_15 : decode cX5_year 15 = .ok (.invokestatic 67, 3) := by decide +kernel
theorem dX5_year_18 : decode cX5_year 18 = .ok (.ifCond .eq 12, 3) := by decide +kernel
theorem dX5_year_21 : decode cX5_year 21 = .ok (.iload_n 3, 1) := by decide +kernel
theorem dX5_year_22 : decode cX5_year 22 = .ok (.iconst 0, 1) := by decide +kernel
theorem dX5_year_23 : decode cX5_year 23 = .ok (.iconst 1, 1) := by decide +kernel
theorem dX5_year_24 : decode cX5_year 24 = .ok (.invokestatic 67, 3) := by decide +kernel
theorem dX5_year_27 : decode cX5_year 27 = .ok (.ifCond .ne 5, 3) := by decide +kernel
theorem dX5_year_30 : decode cX5_year 30 = .ok (.iconst (-1), 1) := by decide +kernel
theorem dX5_year_31 : decode cX5_year 31 = .ok (.ireturn, 1) := by decide +kernel
theorem dX5_year_32 : decode cX5_year 32 = .ok (.aload_n 0, 1) := by decide +kernel
theorem dX5_year_33 : decode cX5_year 33 = .ok (.aload_n 0, 1) := by decide +kernel
theorem dX5_year_34 : decode cX5_year 34 = .ok (.getfield 7, 3) := by decide +kernel
theorem dX5_year_37 : decode cX5_year 37 = .ok (.invokevirtual 170, 3) := by decide +kernel
theorem dX5_year_40 : decode cX5_year 40 = .ok (.iconst 0, 1) := by decide +kernel
theorem dX5_year_41 : decode cX5_year 41 = .ok (.istore 4, 2) := by decide +kernel
theorem dX5_year_43 : decode cX5_year 43 = .ok (.iload 4, 2) := by decide +kernel
theorem dX5_year_45 : decode cX5_year 45 = .ok (.iload_n 2, 1) := by decide +kernel
theorem dX5_year_46 : decode cX5_year 46 = .ok (.if_icmp .ge 123, 3) := by decide +kernel
theorem dX5_year_49 : decode cX5_year 49 = .ok (.ldc2_w 236, 3) := by decide +kernel
theorem dX5_year_52 : decode cX5_year 52 = .ok (.iload_n 1, 1) := by decide +kernel
theorem dX5_year_53 : decode cX5_year 53 = .ok (.i2l, 1) := by decide +kernel
theorem dX5_year_54 : decode cX5_year 54 = .ok (.lmul, 1) := by decide +kernel
theorem dX5_year_55 : decode cX5_year 55 = .ok (.ldc2_w 238, 3) := by decide +kernel
theorem dX5_year_58 : decode cX5_year 58 = .ok (.iload 4, 2) := by decide +kernel
theorem dX5_year_60 : decode cX5_year 60 = .ok (.i2l, 1) := by decide +kernel
theorem dX5_year_61 : decode cX5_year 61 = .ok (.lmul, 1) := by decide +kernel
theorem dX5_year_62 : decode cX5_year 62 = .ok (.ladd, 1) := by decide +kernel
theorem dX5_year_63 : decode cX5_year 63 = .ok (.lconst 1, 1) := by decide +kernel
theorem dX5_year_64 : decode cX5_year 64 = .ok (.ladd, 1) := by decide +kernel
theorem dX5_year_65 : decode cX5_year 65 = .ok (.lstore 5, 2) := by decide +kernel
theorem dX5_year_67 : decode cX5_year 67 = .ok (.lload 5, 2) := by decide +kernel
theorem dX5_year_69 : decode cX5_year 69 = .ok (.lload 5, 2) := by decide +kernel
theorem dX5_year_71 : decode cX5_year 71 = .ok (.lmul, 1) := by decide +kernel
theorem dX5_year_72 : decode cX5_year 72 = .ok (.ldc2_w 240, 3) := by decide +kernel
theorem dX5_year_75 : decode cX5_year 75 = .ok (.lrem, 1) := by decide +kernel
theorem dX5_year_76 : decode cX5_year 76 = .ok (.ldc2_w 242, 3) := by decide +kernel
theorem dX5_year_79 : decode cX5_year 79 = .ok (.ldiv, 1) := by decide +kernel
theorem dX5_year_80 : decode cX5_year 80 = .ok (.l2i, 1) := by decide +kernel
theorem dX5_year_81 : decode cX5_year 81 = .ok (.istore 7, 2) := by decide +kernel
theorem dX5_year_83 : decode cX5_year 83 = .ok (.aload_n 0, 1) := by decide +kernel
theorem dX5_year_84 : decode cX5_year 84 = .ok (.getfield 31, 3) := by decide +kernel
theorem dX5_year_87 : decode cX5_year 87 = .ok (.iconst 0, 1) := by decide +kernel
theorem dX5_year_88 : decode cX5_year 88 = .ok (.iaload, 1) := by decide +kernel
theorem dX5_year_89 : decode cX5_year 89 = .ok (.bipush 12, 2) := by decide +kernel
theorem dX5_year_91 : decode cX5_year 91 = .ok (.if_icmp .ge 38, 3) := by decide +kernel
theorem dX5_year_94 : decode cX5_year 94 = .ok (.aload_n 0, 1) := by decide +kernel
theorem dX5_year_95 : decode cX5_year 95 = .ok (.iload 7, 2) := by decide +kernel
theorem dX5_year_97 : decode cX5_year 97 = .ok (.iconst 2, 1) := by decide +kernel
theorem dX5_year_98 : decode cX5_year 98 = .ok (.irem, 1) := by decide +kernel
theorem dX5_year_99 : decode cX5_year 99 = .ok (.iload 7, 2) := by decide +kernel
theorem dX5_year_101 : decode cX5_year 101 = .ok (.iconst 2, 1) := by decide +kernel
theorem dX5_year_102 : decode cX5_year 102 = .ok (.idiv, 1) := by decide +kernel
theorem dX5_year_103 : decode cX5_year 103 = .ok (.iconst 4, 1) := by decide +kernel
theorem dX5_year_104 : decode cX5_year 104 = .ok (.irem, 1) := by decide +kernel
theorem dX5_year_105 : decode cX5_year 105 = .ok (.iload 7, 2) := by decide +kernel
theorem dX5_year_107 : decode cX5_year 107 = .ok (.bipush 8, 2) := by decide +kernel
theorem dX5_year_109 : decode cX5_year 109 = .ok (.idiv, 1) := by decide +kernel
theorem dX5_year_110 : decode cX5_year 110 = .ok (.bipush 10, 2) := by decide +kernel
theorem dX5_year_112 : decode cX5_year 112 = .ok (.irem, 1) := by decide +kernel
theorem dX5_year_113 : decode cX5_year 113 = .ok (.invokevirtual 174, 3) := by decide +kernel
theorem dX5_year_116 : decode cX5_year 116 = .ok (.aload_n 0, 1) := by decide +kernel
theorem dX5_year_117 : decode cX5_year 117 = .ok (.aload_n 0, 1) := by decide +kernel
theorem dX5_year_118 : decode cX5_year 118 = .ok (.getfield 31, 3) := by decide +kernel
theorem dX5_year_121 : decode cX5_year 121 = .ok (.iconst 0, 1) := by decide +kernel
theorem dX5_year_122 : decode cX5_year 122 = .ok (.iaload, 1) := by decide +kernel
theorem dX5_year_123 : decode cX5_year 123 = .ok (.iconst 1, 1) := by decide +kernel
theorem dX5_year_124 : decode cX5_year 124 = .ok (.isub, 1) := by decide +kernel
theorem dX5_year_125 : decode cX5_year 125 = .ok (.invokevirtual 144, 3) := by decide +kernel
theorem dX5_year_128 : decode cX5_year 128 = .ok (.pop, 1) := by decide +kernel
theorem dX5_year_129 : decode cX5_year 129 = .ok (.aload_n 0, 1) := by decide +kernel
theorem dX5_year_130 : decode cX5_year 130 = .ok (.getfield 31, 3) := by decide +kernel
theorem dX5_year_133 : decode cX5_year 133 = .ok (.iload 7, 2) := by decide +kernel
theorem dX5_year_135 : decode cX5_year 135 = .ok (.bipush 64, 2) := by decide +kernel
theorem dX5_year_137 : decode cX5_year 137 = .ok (.idiv, 1) := by decide +kernel
theorem dX5_year_138 : decode cX5_year 138 = .ok (.iconst 2, 1) := by decide +kernel
theorem dX5_year_139 : decode cX5_year 139 = .ok (.irem, 1) := by decide +kernel
theorem dX5_year_140 : decode cX5_year 140 = .ok (.iload 7, 2) := by decide +kernel
theorem dX5_year_142 : decode cX5_year 142 = .ok (.bipush 16, 2) := by decide +kernel
theorem dX5_year_144 : decode cX5_year 144 = .ok (.idiv, 1) := by decide +kernel
theorem dX5_year_145 : decode cX5_year 145 = .ok (.aload_n 0, 1) := by decide +kernel
theorem dX5_year_146 : decode cX5_year 146 = .ok (.getfield 71, 3) := by decide +kernel
theorem dX5_year_149 : decode cX5_year 149 = .ok (.irem, 1) := by decide +kernel
theorem dX5_year_150 : decode cX5_year 150 = .ok (.iload 7, 2) := by decide +kernel
theorem dX5_year_152 : decode cX5_year 152 = .ok (.bipush 32, 2) := by decide +kernel
theorem dX5_year_154 : decode cX5_year 154 = .ok (.idiv, 1) := by decide +kernel
theorem dX5_year_155 : decode cX5_year 155 = .ok (.aload_n 0, 1) := by decide +kernel
theorem dX5_year_156 : decode cX5_year 156 = .ok (.getfield 71, 3) := by decide +kernel
theorem dX5_year_159 : decode cX5_year 159 = .ok (.irem, 1) := by decide +kernel
theorem dX5_year_160 : decode cX5_year 160 = .ok (.invokestatic 177, 3) := by decide +kernel
theorem dX5_year_163 : decode cX5_year 163 = .ok (.iinc 4 1, 3) := by decide +kernel
theorem dX5_year_166 : decode cX5_year 166 = .ok (.goto (-123), 3) := by decide +kernel
theorem dX5_year_169 : decode cX5_year 169 = .ok (.iload_n 3, 1) := by decide +kernel
theorem dX5_year_170 : decode cX5_year 170 = .ok (.ifCond .ne 23, 3) := by decide +kernel
theorem dX5_year_173 : decode cX5_year 173 = .ok (.aload_n 0, 1) := by decide +kernel
theorem dX5_year_174 : decode cX5_year 174 = .ok (.aload_n 0, 1) := by decide +kernel
theorem dX5_year_175 : decode cX5_year 175 = .ok (.getfield 31, 3) := by decide +kernel
theorem dX5_year_178 : decode cX5_year 178 = .ok (.iconst 0, 1) := by decide +kernel
theorem dX5_year_179 : decode cX5_year 179 = .ok (.invokevirtual 230, 3) := by decide +kernel
theorem dX5_year_182 : decode cX5_year 182 = .ok (.aload_n 0, 1) := by decide +kernel
theorem dX5_year_183 : decode cX5_year 183 = .ok (.aload_n 0, 1) := by decide +kernel
theorem dX5_year_184 : decode cX5_year 184 = .ok (.getfield 31, 3) := by decide +kernel
theorem dX5_year_187 : decode cX5_year 187 = .ok (.iconst 1, 1) := by decide +kernel
theorem dX5_year_188 : decode cX5_year 188 = .ok (.invokevirtual 230, 3) := by decide +kernel
theorem dX5_year_191 : decode cX5_year 191 = .ok (.iadd, 1) := by decide +kernel
theorem dX5_year_192 : decode cX5_year 192 = .ok (.ireturn, 1) := by decide +kernel
theorem dX5_year_193 : decode cX5_year 193 = .ok (.aload_n 0, 1) := by decide +kernel
theorem dX5_year_194 : decode cX5_year 194 = .ok (.getfield 34, 3) := by decide +kernel
theorem dX5_year_197 : decode cX5_year 197 = .ok (.iconst 0, 1) := by decide +kernel
theorem dX5_year_198 : decode cX5_year 198 = .ok (.aload_n 0, 1) := by decide +kernel
theorem dX5_year_199 : decode cX5_year 199 = .ok (.getfield 31, 3) := by decide +kernel
theorem dX5_year_202 : decode cX5_year 202 = .ok (.bipush 66, 2) := by decide +kernel
theorem dX5_year_204 : decode cX5_year 204 = .ok (.invokestatic 121, 3) := by decide +kernel
theorem dX5_year_207 : decode cX5_year 207 = .ok (.aload_n 0, 1) := by decide +kernel
theorem dX5_year_208 : decode cX5_year 208 = .ok (.invokevirtual 125, 3) := by decide +kernel
theorem dX5_year_211 : decode cX5_year 211 = .ok (.aload_n 0, 1) := by decide +kernel
theorem dX5_year_212 : decode cX5_year 212 = .ok (.invokevirtual 188, 3) := by decide +kernel
theorem dX5_year_215 : decode cX5_year 215 = .ok (.invokestatic 227, 3) := by decide +kernel
theorem dX5_year_218 : decode cX5_year 218 = .ok (.ireturn, 1) := by decide +kernel
theorem dX5_keep_0 : decode cX5_keep 0 = .ok (.aload_n 0, 1) := by decide +kernel
theorem dX5_keep_1 : decode cX5_keep 1 = .ok (.getfield 131, 3) := by decide +kernel
theorem dX5_keep_4 : decode cX5_keep 4 = .ok (.iconst 2, 1) := by decide +kernel
theorem dX5_keep_5 : decode cX5_keep 5 = .ok (.if_icmp .ne 6, 3) := by decide +kernel
theorem dX5_keep_8 : decode cX5_keep 8 = .ok (.bipush (-3), 2) := by decide +kernel
theorem dX5_keep_10 : decode cX5_keep 10 = .ok (.ireturn, 1) := by decide +kernel
theorem dX5_keep_11 : decode cX5_keep 11 = .ok (.aload_n 0, 1) := by decide +kernel
theorem dX5_keep_12 : decode cX5_keep 12 = .ok (.getfield 16, 3) := by decide +kernel
theorem dX5_keep_15 : decode cX5_keep 15 = .ok (.bipush 66, 2) := by decide +kernel
theorem dX5_keep_17 : decode cX5_keep 17 = .ok (.aload_n 0, 1) := by decide +kernel
theorem dX5_keep_18 : decode cX5_keep 18 = .ok (.getfield 131, 3) := by decide +kernel
theorem dX5_keep_21 : decode cX5_keep 21 = .ok (.imul, 1) := by decide +kernel
theorem dX5_keep_22 : decode cX5_keep 22 = .ok (.aload_n 0, 1) := by decide +kernel
theorem dX5_keep_23 : decode cX5_keep 23 = .ok (.getfield 7, 3) := by decide +kernel
theorem dX5_keep_26 : decode cX5_keep 26 = .ok (.bipush 66, 2) := by decide +kernel
theorem dX5_keep_28 : decode cX5_keep 28 = .ok (.invokestatic 121, 3) := by decide +kernel
theorem dX5_keep_31 : decode cX5_keep 31 = .ok (.aload_n 0, 1) := by decide +kernel
theorem dX5_keep_32 : decode cX5_keep 32 = .ok (.dup, 1) := by decide +kernel
theorem dX5_keep_33 : decode cX5_keep 33 = .ok (.getfield 131, 3) := by decide +kernel
theorem dX5_keep_36 : decode cX5_keep 36 = .ok (.iconst 1, 1) := by decide +kernel
theorem dX5_keep_37 : decode cX5_keep 37 = .ok (.iadd, 1) := by decide +kernel
theorem dX5_keep_38 : decode cX5_keep 38 = .ok (.putfield 131, 3) := by decide +kernel
theorem dX5_keep_41 : decode cX5_keep 41 = .ok (.aload_n 0, 1) := by decide +kernel
theorem dX5_keep_42 : decode cX5_keep 42 = .ok (.getfield 131, 3) := by decide +kernel
theorem dX5_keep_45 : decode cX5_keep 45 = .ok (.ireturn, 1) := by decide +kernel
theorem dX5_back_0 : decode cX5_back 0 = .ok (.aload_n 0, 1) := by decide +kernel
theorem dX5_back_1 : decode cX5_back 1 = .ok (.getfield 131, 3) := by decide +kernel
theorem dX5_back_4 : decode cX5_back 4 = .ok (.ifCond .ne 6, 3) := by decide +kernel
theorem dX5_back_7 : decode cX5_back 7 = .ok (.bipush (-2), 2) := by decide +kernel
theorem dX5_back_9 : decode cX5_back 9 = .ok (.ireturn, 1) := by decide +kernel
theorem dX5_back_10 : decode cX5_back 10 = .ok (.aload_n 0, 1) := by decide +kernel
theorem dX5_back_11 : decode cX5_back 11 = .ok (.dup, 1) := by decide +kernel
theorem dX5_back_12 : decode cX5_back 12 = .ok (.getfield 131, 3) := by decide +kernel
theorem dX5_back_15 : decode cX5_back 15 = .ok (.iconst 1, 1) := by decide +kernel
theorem dX5_back_16 : decode cX5_back 16 = .ok (.isub, 1) := by decide +kernel
theorem dX5_back_17 : decode cX5_back 17 = .ok (.putfield 131, 3) := by decide +kernel
theorem dX5_back_20 : decode cX5_back 20 = .ok (.iconst 0, 1) := by decide +kernel
theorem dX5_back_21 : decode cX5_back 21 = .ok (.istore_n 1, 1) := by decide +kernel
theorem dX5_back_22 : decode cX5_back 22 = .ok (.iload_n 1, 1) := by decide +kernel
theorem dX5_back_23 : decode cX5_back 23 = .ok (.bipush 66, 2) := by decide +kernel
theorem dX5_back_25 : decode cX5_back 25 = .ok (.if_icmp .ge 29, 3) := by decide +kernel
theorem dX5_back_28 : decode cX5_back 28 = .ok (.aload_n 0, 1) := by decide +kernel
theorem dX5_back_29 : decode cX5_back 29 = .ok (.getfield 7, 3) := by decide +kernel
theorem dX5_back_32 : decode cX5_back 32 = .ok (.iload_n 1, 1) := by decide +kernel
theorem dX5_back_33 : decode cX5_back 33 = .ok (.aload_n 0, 1) := by decide +kernel
theorem dX5_back_34 : decode cX5_back 34 = .ok (.getfield 16, 3) := by decide +kernel
theorem dX5_back_37 : decode cX5_back 37 = .ok (.bipush 66, 2) := by decide +kernel
theorem dX5_back_39 : decode cX5_back 39 = .ok (.aload_n 0, 1) := by decide +kernel
theorem dX5_back_40 : decode cX5_back 40 = .ok (.getfield 131, 3) := by decide +kernel
theorem dX5_back_43 : decode cX5_back 43 = .ok (.imul, 1) := by decide +kernel
theorem dX5_back_44 : decode cX5_back 44 = .ok (.iload_n 1, 1) := by decide +kernel
theorem dX5_back_45 : decode cX5_back 45 = .ok (.iadd, 1) := by decide +kernel
theorem dX5_back_46 : decode cX5_back 46 = .ok (.iaload, 1) := by decide +kernel
theorem dX5_back_47 : decode cX5_back 47 = .ok (.iastore, 1) := by decide +kernel
theorem dX5_back_48 : decode cX5_back 48 = .ok (.iinc 1 1, 3) := by decide +kernel
theorem dX5_back_51 : decode cX5_back 51 = .ok (.goto (-29), 3) := by decide +kernel
theorem dX5_back_54 : decode cX5_back 54 = .ok (.aload_n 0, 1) := by decide +kernel
theorem dX5_back_55 : decode cX5_back 55 = .ok (.iconst 0, 1) := by decide +kernel
theorem dX5_back_56 : decode cX5_back 56 = .ok (.putfield 128, 3) := by decide +kernel
theorem dX5_back_59 : decode cX5_back 59 = .ok (.aload_n 0, 1) := by decide +kernel
theorem dX5_back_60 : decode cX5_back 60 = .ok (.getfield 131, 3) := by decide +kernel
theorem dX5_back_63 : decode cX5_back 63 = .ok (.ireturn, 1) := by decide +kernel
theorem dX5_doubles_0 : decode cX5_doubles 0 = .ok (.iconst 0, 1) := by decide +kernel
theorem dX5_doubles_1 : decode cX5_doubles 1 = .ok (.istore_n 1, 1) := by decide +kernel
theorem dX5_doubles_2 : decode cX5_doubles 2 = .ok (.bipush 37, 2) := by decide +kernel
theorem dX5_doubles_4 : decode cX5_doubles 4 = .ok (.istore_n 2, 1) := by decide +kernel
theorem dX5_doubles_5 : decode cX5_doubles 5 = .ok (.iload_n 2, 1) := by decide +kernel
theorem dX5_doubles_6 : decode cX5_doubles 6 = .ok (.bipush 53, 2) := by decide +kernel
theorem dX5_doubles_8 : decode cX5_doubles 8 = .ok (.if_icmp .ge 28, 3) := by decide +kernel
theorem dX5_doubles_11 : decode cX5_doubles 11 = .ok (.iload_n 1, 1) := by decide +kernel
theorem dX5_doubles_12 : decode cX5_doubles 12 = .ok (.aload_n 0, 1) := by decide +kernel
theorem dX5_doubles_13 : decode cX5_doubles 13 = .ok (.getfield 7, 3) := by decide +kernel
theorem dX5_doubles_16 : decode cX5_doubles 16 = .ok (.iload_n 2, 1) := by decide +kernel
theorem dX5_doubles_17 : decode cX5_doubles 17 = .ok (.iaload, 1) := by decide +kernel
theorem dX5_doubles_18 : decode cX5_doubles 18 = .ok (.bipush 20, 2) := by decide +kernel
theorem dX5_doubles_20 : decode cX5_doubles 20 = .ok (.if_icmp .le 7, 3) := by decide +kernel
theorem dX5_doubles_23 : decode cX5_doubles 23 = .ok (.iconst 1, 1) := by decide +kernel
theorem dX5_doubles_24 : decode cX5_doubles 24 = .ok (.goto 4, 3) := by decide +kernel
theorem dX5_doubles_27 : decode cX5_doubles 27 = .ok (.iconst 0, 1) := by decide +kernel
theorem dX5_doubles_28 : decode cX5_doubles 28 = .ok (.iadd, 1) := by decide +kernel
theorem dX5_doubles_29 : decode cX5_doubles 29 = .ok (.istore_n 1, 1) := by decide +kernel
theorem dX5_doubles_30 : decode cX5_doubles 30 = .ok (.iinc 2 1, 3) := by decide +kernel
theorem dX5_doubles_33 : decode cX5_doubles 33 = .ok (.goto (-28), 3) := by decide +kernel
theorem dX5_doubles_36 : decode cX5_doubles 36 = .ok (.iload_n 1, 1) := by decide +kernel
theorem dX5_doubles_37 : decode cX5_doubles 37 = .ok (.ireturn, 1) := by decide +kernel
theorem dX5_count_0 : decode cX5_count 0 = .ok (.iload_n 1, 1) := by decide +kernel
theorem dX5_count_1 : decode cX5_count 1 = .ok (.tableswitch 101 0 8 #[51, 58, 66, 71, 76, 81, 86, 91, 96], 51) := by decide +kernel
theorem dX5_count_52 : decode cX5_count 52 = .ok (.aload_n 0, 1) := by decide +kernel
theorem dX5_count_53 : decode cX5_count 53 = .ok (.getfield 7, 3) := by decide +kernel
theorem dX5_count_56 : decode cX5_count 56 = .ok (.iconst 0, 1) := by decide +kernel
theorem dX5_count_57 : decode cX5_count 57 = .ok (.iaload, 1) := by decide +kernel
theorem dX5_count_58 : decode cX5_count 58 = .ok (.ireturn, 1) := by decide +kernel
theorem dX5_count_59 : decode cX5_count 59 = .ok (.aload_n 0, 1) := by decide +kernel
theorem dX5_count_60 : decode cX5_count 60 = .ok (.getfield 7, 3) := by decide +kernel
theorem dX5_count_63 : decode cX5_count 63 = .ok (.bipush 53, 2) := by decide +kernel
theorem dX5_count_65 : decode cX5_count 65 = .ok (.iaload, 1) := by decide +kernel
theorem dX5_count_66 : decode cX5_count 66 = .ok (.ireturn, 1) := by decide +kernel
theorem dX5_count_67 : decode cX5_count 67 = .ok (.aload_n 0, 1) := by decide +kernel
theorem dX5_count_68 : decode cX5_count 68 = .ok (.getfield 71, 3) := by decide +kernel
theorem dX5_count_71 : decode cX5_count 71 = .ok (.ireturn, 1) := by decide +kernel
theorem dX5_count_72 : decode cX5_count 72 = .ok (.aload_n 0, 1) := by decide +kernel
theorem dX5_count_73 : decode cX5_count 73 = .ok (.getfield 118, 3) := by decide +kernel
theorem dX5_count_76 : decode cX5_count 76 = .ok (.ireturn, 1) := by decide +kernel
theorem dX5_count_77 : decode cX5_count 77 = .ok (.aload_n 0, 1) := by decide +kernel
theorem dX5_count_78 : decode cX5_count 78 = .ok (.invokevirtual 244, 3) := by decide +kernel
theorem dX5_count_81 : decode cX5_count 81 = .ok (.ireturn, 1) := by decide +kernel
theorem dX5_count_82 : decode cX5_count 82 = .ok (.aload_n 0, 1) := by decide +kernel
theorem dX5_count_83 : decode cX5_count 83 = .ok (.getfield 134, 3) := by decide +kernel
theorem dX5_count_86 : decode cX5_count 86 = .ok (.ireturn, 1) := by decide +kernel
theorem dX5_count_87 : decode cX5_count 87 = .ok (.aload_n 0, 1) := by decide +kernel
theorem dX5_count_88 : decode cX5_count 88 = .ok (.getfield 128, 3) := by decide +kernel
theorem dX5_count_91 : decode cX5_count 91 = .ok (.ireturn, 1) := by decide +kernel
theorem dX5_count_92 : decode cX5_count 92 = .ok (.aload_n 0, 1) := by decide +kernel
theorem dX5_count_93 : decode cX5_count 93 = .ok (.getfield 131, 3) := by decide +kernel
theorem dX5_count_96 : decode cX5_count 96 = .ok (.ireturn, 1) := by decide +kernel
theorem dX5_count_97 : decode cX5_count 97 = .ok (.aload_n 0, 1) := by decide +kernel
theorem dX5_count_98 : decode cX5_count 98 = .ok (.getfield 74, 3) := by decide +kernel
theorem dX5_count_101 : decode cX5_count 101 = .ok (.ireturn, 1) := by decide +kernel
theorem dX5_count_102 : decode cX5_count 102 = .ok (.iconst (-1), 1) := by decide +kernel
theorem dX5_count_103 : decode cX5_count 103 = .ok (.ireturn, 1) := by decide +kernel
theorem dJ6_bitCount_0f7a4_0 : decode cJ6_bitCount_0f7a4 0 = .ok (.iload_n 0, 1) := by decide +kernel
theorem dJ6_bitCount_0f7a4_1 : decode cJ6_bitCount_0f7a4 1 = .ok (.iload_n 0, 1) := by decide +kernel
theorem dJ6_bitCount_0f7a4_2 : decode cJ6_bitCount_0f7a4 2 = .ok (.iconst 1, 1) := by decide +kernel
theorem dJ6_bitCount_0f7a4_3 : decode cJ6_bitCount_0f7a4 3 = .ok (.iushr, 1) := by decide +kernel
theorem dJ6_bitCount_0f7a4_4 : decode cJ6_bitCount_0f7a4 4 = .ok (.ldc_w 265, 3) := by decide +kernel
theorem dJ6_bitCount_0f7a4_7 : decode cJ6_bitCount_0f7a4 7 = .ok (.iand, 1) := by decide +kernel
theorem dJ6_bitCount_0f7a4_8 : decode cJ6_bitCount_0f7a4 8 = .ok (.isub, 1) := by decide +kernel
theorem dJ6_bitCount_0f7a4_9 : decode cJ6_bitCount_0f7a4 9 = .ok (.istore_n 0, 1) := by decide +kernel
theorem dJ6_bitCount_0f7a4_10 : decode cJ6_bitCount_0f7a4 10 = .ok (.iload_n 0, 1) := by decide +kernel
theorem dJ6_bitCount_0f7a4_11 : decode cJ6_bitCount_0f7a4 11 = .ok (.ldc_w 266, 3) := by decide +kernel
theorem dJ6_bitCount_0f7a4_14 : decode cJ6_bitCount_0f7a4 14 = .ok (.iand, 1) := by decide +kernel
theorem dJ6_bitCount_0f7a4_15 : decode cJ6_bitCount_0f7a4 15 = .ok (.iload_n 0, 1) := by decide +kernel
theorem dJ6_bitCount_0f7a4_16 : decode cJ6_bitCount_0f7a4 16 = .ok (.iconst 2, 1) := by decide +kernel
theorem dJ6_bitCount_0f7a4_17 : decode cJ6_bitCount_0f7a4 17 = .ok (.iushr, 1) := by decide +kernel
theorem dJ6_bitCount_0f7a4_18 : decode cJ6_bitCount_0f7a4 18 = .ok (.ldc_w 266, 3) := by decide +kernel
theorem dJ6_bitCount_0f7a4_21 : decode cJ6_bitCount_0f7a4 21 = .ok (.iand, 1) := by decide +kernel
theorem dJ6_bitCount_0f7a4_22 : decode cJ6_bitCount_0f7a4 22 = .ok (.iadd, 1) := by decide +kernel
theorem dJ6_bitCount_0f7a4_23 : decode cJ6_bitCount_0f7a4 23 = .ok (.istore_n 0, 1) := by decide +kernel
theorem dJ6_bitCount_0f7a4_24 : decode cJ6_bitCount_0f7a4 24 = .ok (.iload_n 0, 1) := by decide +kernel
theorem dJ6_bitCount_0f7a4_25 : decode cJ6_bitCount_0f7a4 25 = .ok (.iload_n 0, 1) := by decide +kernel
theorem dJ6_bitCount_0f7a4_26 : decode cJ6_bitCount_0f7a4 26 = .ok (.iconst 4, 1) := by decide +kernel
theorem dJ6_bitCount_0f7a4_27 : decode cJ6_bitCount_0f7a4 27 = .ok (.iushr, 1) := by decide +kernel
theorem dJ6_bitCount_0f7a4_28 : decode cJ6_bitCount_0f7a4 28 = .ok (.iadd, 1) := by decide +kernel
theorem dJ6_bitCount_0f7a4_29 : decode cJ6_bitCount_0f7a4 29 = .ok (.ldc_w 267, 3) := by decide +kernel
theorem dJ6_bitCount_0f7a4_32 : decode cJ6_bitCount_0f7a4 32 = .ok (.iand, 1) := by decide +kernel
theorem dJ6_bitCount_0f7a4_33 : decode cJ6_bitCount_0f7a4 33 = .ok (.istore_n 0, 1) := by decide +kernel
theorem dJ6_bitCount_0f7a4_34 : decode cJ6_bitCount_0f7a4 34 = .ok (.iload_n 0, 1) := by decide +kernel
theorem dJ6_bitCount_0f7a4_35 : decode cJ6_bitCount_0f7a4 35 = .ok (.iload_n 0, 1) := by decide +kernel
theorem dJ6_bitCount_0f7a4_36 : decode cJ6_bitCount_0f7a4 36 = .ok (.bipush 8, 2) := by decide +kernel
theorem dJ6_bitCount_0f7a4_38 : decode cJ6_bitCount_0f7a4 38 = .ok (.iushr, 1) := by decide +kernel
theorem dJ6_bitCount_0f7a4_39 : decode cJ6_bitCount_0f7a4 39 = .ok (.iadd, 1) := by decide +kernel
theorem dJ6_bitCount_0f7a4_40 : decode cJ6_bitCount_0f7a4 40 = .ok (.istore_n 0, 1) := by decide +kernel
theorem dJ6_bitCount_0f7a4_41 : decode cJ6_bitCount_0f7a4 41 = .ok (.iload_n 0, 1) := by decide +kernel
theorem dJ6_bitCount_0f7a4_42 : decode cJ6_bitCount_0f7a4 42 = .ok (.iload_n 0, 1) := by decide +kernel
theorem dJ6_bitCount_0f7a4_43 : decode cJ6_bitCount_0f7a4 43 = .ok (.bipush 16, 2) := by decide +kernel
theorem dJ6_bitCount_0f7a4_45 : decode cJ6_bitCount_0f7a4 45 = .ok (.iushr, 1) := by decide +kernel
theorem dJ6_bitCount_0f7a4_46 : decode cJ6_bitCount_0f7a4 46 = .ok (.iadd, 1) := by decide +kernel
theorem dJ6_bitCount_0f7a4_47 : decode cJ6_bitCount_0f7a4 47 = .ok (.istore_n 0, 1) := by decide +kernel
theorem dJ6_bitCount_0f7a4_48 : decode cJ6_bitCount_0f7a4 48 = .ok (.iload_n 0, 1) := by decide +kernel
theorem dJ6_bitCount_0f7a4_49 : decode cJ6_bitCount_0f7a4 49 = .ok (.bipush 63, 2) := by decide +kernel
theorem dJ6_bitCount_0f7a4_51 : decode cJ6_bitCount_0f7a4 51 = .ok (.iand, 1) := by decide +kernel
theorem dJ6_bitCount_0f7a4_52 : decode cJ6_bitCount_0f7a4 52 = .ok (.ireturn, 1) := by decide +kernel
abbrev vwCl : List vw_C := [(RX0, TX0, 11), (RX1, TX1, 2), (RX2, TX2, 5), (RX3, TX3, 10), (RX4, TX4, 10), (RX5, TX5, 26)]
