/-! the words of all methods: one list; a method's words are its code and this list -/
def BIG : List Cond := lw_tbl.filter goodWord
theorem bg {w : Cond} (h : w ∈ lw_tbl) (g : goodWord w = true) : w ∈ BIG := List.mem_filter.mpr ⟨h, g⟩
theorem bgG {c : Cond} (hc : c ∈ BIG) : GoodIn BIG (c :: BIG) := fun w h => by
  have hm : w ∈ BIG := by
    rcases List.mem_cons.mp h with e | e
    · rw [e]; exact hc
    · exact e
  exact ⟨hm, good_of_word (List.mem_filter.mp hm).2⟩
theorem bgA {a c : List Cond} (ha : ∀ w ∈ a, w ∈ BIG) (hc : GoodIn BIG c) : GoodIn BIG (a ++ c) := fun w h => by
  rcases List.mem_append.mp h with e | e
  · exact ⟨ha w e, good_of_word (List.mem_filter.mp (ha w e)).2⟩
  · exact hc w e
theorem bgV {own : String} {idx : Nat} {C : String} {y : MethodName} {c : Cond} (h1 : Cond.methodLink own idx y ∈ BIG) (h2 : Cond.instanceMethod y ∈ BIG) (h3 : Cond.selects C y y ∈ BIG) (h4 : Cond.initialized C ∈ BIG) (h5 : c ∈ BIG) : GoodIn BIG (wsV own idx C y (c :: BIG)) :=
  bgA (by
    intro w hw
    simp only [List.mem_cons, List.not_mem_nil, or_false] at hw
    rcases hw with rfl | rfl | rfl | rfl
    · exact h1
    · exact h2
    · exact h3
    · exact h4) (bgG h5)
theorem bgS {own : String} {idx : Nat} {y : MethodName} {c : Cond} (h1 : Cond.methodLink own idx y ∈ BIG) (h2 : Cond.static y ∈ BIG) (h4 : Cond.initialized own ∈ BIG) (h5 : c ∈ BIG) : GoodIn BIG (wsS own idx y (c :: BIG)) :=
  bgA (by
    intro w hw
    simp only [List.mem_cons, List.not_mem_nil, or_false] at hw
    rcases hw with rfl | rfl | rfl
    · exact h1
    · exact h2
    · exact h4) (bgG h5)
theorem inTp {w : Cond} (h : w ∈ k2_sels lw_privs) : w ∈ lw_tbl := List.mem_append_left _ h
theorem inTp1 {w : Cond} (h : w ∈ k2_sels lw_privs_1) : w ∈ lw_tbl := inTp (by unfold k2_sels lw_privs; rw [List.map_append]; exact List.mem_append_left _ h)
theorem inTp2 {w : Cond} (h : w ∈ k2_sels lw_privs_2) : w ∈ lw_tbl := inTp (by unfold k2_sels lw_privs; rw [List.map_append, List.map_append]; exact List.mem_append_right _ (List.mem_append_left _ h))
theorem inTp3 {w : Cond} (h : w ∈ k2_sels lw_privs_3) : w ∈ lw_tbl := inTp (by unfold k2_sels lw_privs; rw [List.map_append, List.map_append, List.map_append]; exact List.mem_append_right _ (List.mem_append_right _ (List.mem_append_left _ h)))
theorem inTp4 {w : Cond} (h : w ∈ k2_sels lw_privs_4) : w ∈ lw_tbl := inTp (by unfold k2_sels lw_privs; rw [List.map_append, List.map_append, List.map_append]; exact List.mem_append_right _ (List.mem_append_right _ (List.mem_append_right _ h)))
theorem inT1 {w : Cond} (h : w ∈ tables_1_1) : w ∈ lw_tbl := List.mem_append_right _ (List.mem_append_left _ h)
theorem inT2 {w : Cond} (h : w ∈ tables_1_2) : w ∈ lw_tbl := List.mem_append_right _ (List.mem_append_right _ (List.mem_append_left _ h))
theorem inT3 {w : Cond} (h : w ∈ tables_1_3) : w ∈ lw_tbl := List.mem_append_right _ (List.mem_append_right _ (List.mem_append_right _ (List.mem_append_left _ h)))
theorem inT4 {w : Cond} (h : w ∈ tables_1_4) : w ∈ lw_tbl := List.mem_append_right _ (List.mem_append_right _ (List.mem_append_right _ (List.mem_append_right _ (List.mem_append_left _ h))))
theorem inT5 {w : Cond} (h : w ∈ tables_1_5) : w ∈ lw_tbl := List.mem_append_right _ (List.mem_append_right _ (List.mem_append_right _ (List.mem_append_right _ (List.mem_append_right _ (h)))))
theorem inX0 : ∀ w ∈ wsX00, w ∈ BIG := fun w h => bg (List.all_eq_true.mp (show wsX00.all (fun w => decide (w ∈ lw_tbl)) = true by decide +kernel) w h |> of_decide_eq_true) (List.all_eq_true.mp (show wsX00.all goodWord = true by decide +kernel) w h)
theorem inX1 : ∀ w ∈ wsX10, w ∈ BIG := fun w h => bg (List.all_eq_true.mp (show wsX10.all (fun w => decide (w ∈ lw_tbl)) = true by decide +kernel) w h |> of_decide_eq_true) (List.all_eq_true.mp (show wsX10.all goodWord = true by decide +kernel) w h)
theorem inX2 : ∀ w ∈ wsX20, w ∈ BIG := fun w h => bg (List.all_eq_true.mp (show wsX20.all (fun w => decide (w ∈ lw_tbl)) = true by decide +kernel) w h |> of_decide_eq_true) (List.all_eq_true.mp (show wsX20.all goodWord = true by decide +kernel) w h)
theorem inX3 : ∀ w ∈ wsX30, w ∈ BIG := fun w h => bg (List.all_eq_true.mp (show wsX30.all (fun w => decide (w ∈ lw_tbl)) = true by decide +kernel) w h |> of_decide_eq_true) (List.all_eq_true.mp (show wsX30.all goodWord = true by decide +kernel) w h)
theorem inX4 : ∀ w ∈ wsX40, w ∈ BIG := fun w h => bg (List.all_eq_true.mp (show wsX40.all (fun w => decide (w ∈ lw_tbl)) = true by decide +kernel) w h |> of_decide_eq_true) (List.all_eq_true.mp (show wsX40.all goodWord = true by decide +kernel) w h)
theorem inX5 : ∀ w ∈ wsX50, w ∈ BIG := fun w h => bg (List.all_eq_true.mp (show wsX50.all (fun w => decide (w ∈ lw_tbl)) = true by decide +kernel) w h |> of_decide_eq_true) (List.all_eq_true.mp (show wsX50.all goodWord = true by decide +kernel) w h)
theorem lkX0_9 : Cond.fieldLink RX0 9 "GravesExchanged$Bridge" "village" "[I" ∈ BIG := bg (inT1 (List.mem_of_getElem? (i := 109) (by decide +kernel))) rfl
theorem lkX0_15 : Cond.fieldLink RX0 15 "GravesExchanged$Bridge" "stay" "[I" ∈ BIG := bg (inT1 (List.mem_of_getElem? (i := 110) (by decide +kernel))) rfl
theorem lkX0_18 : Cond.fieldLink RX0 18 "GravesExchanged$Bridge" "minutes" "[I" ∈ BIG := bg (inT1 (List.mem_of_getElem? (i := 111) (by decide +kernel))) rfl
theorem lkX0_21 : Cond.fieldLink RX0 21 "GravesExchanged$Bridge" "soonest" "[I" ∈ BIG := bg (inT1 (List.mem_of_getElem? (i := 112) (by decide +kernel))) rfl
theorem lkX0_24 : Cond.fieldLink RX0 24 "GravesExchanged$Bridge" "order" "[I" ∈ BIG := bg (inT1 (List.mem_of_getElem? (i := 113) (by decide +kernel))) rfl
theorem lkX0_27 : Cond.fieldLink RX0 27 "GravesExchanged$Bridge" "bestOrder" "[I" ∈ BIG := bg (inT1 (List.mem_of_getElem? (i := 114) (by decide +kernel))) rfl
theorem lkX0_30 : Cond.fieldLink RX0 30 "GravesExchanged$Bridge" "goers" "I" ∈ BIG := bg (inT1 (List.mem_of_getElem? (i := 106) (by decide +kernel))) rfl
theorem lkX0_34 : Cond.fieldLink RX0 34 "GravesExchanged$Yards" "visitorCount" "I" ∈ BIG := bg (inT1 (List.mem_of_getElem? (i := 69) (by decide +kernel))) rfl
theorem lkX0_45 : Cond.fieldLink RX0 45 "GravesExchanged$Bridge" "visitors" "I" ∈ BIG := bg (inT1 (List.mem_of_getElem? (i := 108) (by decide +kernel))) rfl
theorem lkX0_92 : Cond.fieldLink RX0 92 "GravesExchanged$Bridge" "free" "I" ∈ BIG := bg (inT1 (List.mem_of_getElem? (i := 115) (by decide +kernel))) rfl
theorem lkX0_95 : Cond.fieldLink RX0 95 "GravesExchanged$Bridge" "yonder" "I" ∈ BIG := bg (inT1 (List.mem_of_getElem? (i := 116) (by decide +kernel))) rfl
theorem lkX0_98 : Cond.fieldLink RX0 98 "GravesExchanged$Bridge" "ready" "I" ∈ BIG := bg (inT1 (List.mem_of_getElem? (i := 117) (by decide +kernel))) rfl
theorem lkX1_15 : Cond.fieldLink RX1 15 "GravesExchanged$Shelf" "rows" "[LGravesExchanged$Yards;" ∈ BIG := bg (inT1 (List.mem_of_getElem? (i := 155) (by decide +kernel))) rfl
theorem lkX1_22 : Cond.fieldLink RX1 22 "GravesExchanged$Shelf" "size" "I" ∈ BIG := bg (inT1 (List.mem_of_getElem? (i := 153) (by decide +kernel))) rfl
theorem lkX2_9 : Cond.fieldLink RX2 9 "GravesExchanged$Text" "letters" "[C" ∈ BIG := bg (inT1 (List.mem_of_getElem? (i := 31) (by decide +kernel))) rfl
theorem lkX2_15 : Cond.fieldLink RX2 15 "GravesExchanged$Text" "numbers" "[I" ∈ BIG := bg (inT1 (List.mem_of_getElem? (i := 32) (by decide +kernel))) rfl
theorem lkX2_19 : Cond.fieldLink RX2 19 "GravesExchanged$Text" "length" "I" ∈ BIG := bg (inT1 (List.mem_of_getElem? (i := 28) (by decide +kernel))) rfl
theorem lkX2_28 : Cond.fieldLink RX2 28 "GravesExchanged$Text" "place" "I" ∈ BIG := bg (inT1 (List.mem_of_getElem? (i := 29) (by decide +kernel))) rfl
theorem lkX2_31 : Cond.fieldLink RX2 31 "GravesExchanged$Text" "onlyYardsTold" "Z" ∈ BIG := bg (inT1 (List.mem_of_getElem? (i := 30) (by decide +kernel))) rfl
theorem lkX2_51 : Cond.fieldLink RX2 51 "GravesExchanged$Yards" "plots" "I" ∈ BIG := bg (inT1 (List.mem_of_getElem? (i := 61) (by decide +kernel))) rfl
theorem lkX2_58 : Cond.fieldLink RX2 58 "GravesExchanged$Yards" "deadCount" "I" ∈ BIG := bg (inT1 (List.mem_of_getElem? (i := 67) (by decide +kernel))) rfl
theorem lkX2_71 : Cond.fieldLink RX2 71 "GravesExchanged$Yards" "visitorCount" "I" ∈ BIG := bg (inT1 (List.mem_of_getElem? (i := 71) (by decide +kernel))) rfl
theorem lkX2_78 : Cond.fieldLink RX2 78 "GravesExchanged$Yards" "truce" "I" ∈ BIG := bg (inT1 (List.mem_of_getElem? (i := 64) (by decide +kernel))) rfl
theorem lkX3_9 : Cond.fieldLink RX3 9 "GravesExchanged$Yards" "village" "[I" ∈ BIG := bg (inT1 (List.mem_of_getElem? (i := 73) (by decide +kernel))) rfl
theorem lkX3_15 : Cond.fieldLink RX3 15 "GravesExchanged$Yards" "kind" "[I" ∈ BIG := bg (inT1 (List.mem_of_getElem? (i := 74) (by decide +kernel))) rfl
theorem lkX3_18 : Cond.fieldLink RX3 18 "GravesExchanged$Yards" "forgiven" "[I" ∈ BIG := bg (inT1 (List.mem_of_getElem? (i := 75) (by decide +kernel))) rfl
theorem lkX3_21 : Cond.fieldLink RX3 21 "GravesExchanged$Yards" "lying" "[I" ∈ BIG := bg (inT1 (List.mem_of_getElem? (i := 76) (by decide +kernel))) rfl
theorem lkX3_24 : Cond.fieldLink RX3 24 "GravesExchanged$Yards" "visited" "[I" ∈ BIG := bg (inT1 (List.mem_of_getElem? (i := 77) (by decide +kernel))) rfl
theorem lkX3_27 : Cond.fieldLink RX3 27 "GravesExchanged$Yards" "minutes" "[I" ∈ BIG := bg (inT1 (List.mem_of_getElem? (i := 78) (by decide +kernel))) rfl
theorem lkX3_33 : Cond.fieldLink RX3 33 "GravesExchanged$Yards" "plots" "I" ∈ BIG := bg (inT1 (List.mem_of_getElem? (i := 60) (by decide +kernel))) rfl
theorem lkX3_37 : Cond.fieldLink RX3 37 "GravesExchanged$Yards" "truce" "I" ∈ BIG := bg (inT1 (List.mem_of_getElem? (i := 63) (by decide +kernel))) rfl
theorem lkX3_40 : Cond.fieldLink RX3 40 "GravesExchanged$Yards" "deadCount" "I" ∈ BIG := bg (inT1 (List.mem_of_getElem? (i := 66) (by decide +kernel))) rfl
theorem lkX3_43 : Cond.fieldLink RX3 43 "GravesExchanged$Yards" "visitorCount" "I" ∈ BIG := bg (inT1 (List.mem_of_getElem? (i := 70) (by decide +kernel))) rfl
theorem lkX4_10 : Cond.fieldLink RX4 10 "GravesExchanged" "text" "LGravesExchanged$Text;" ∈ BIG := bg (inT2 (List.mem_of_getElem? (i := 59) (by decide +kernel))) rfl
theorem lkX4_19 : Cond.fieldLink RX4 19 "GravesExchanged" "now" "LGravesExchanged$Yards;" ∈ BIG := bg (inT2 (List.mem_of_getElem? (i := 60) (by decide +kernel))) rfl
theorem lkX4_23 : Cond.fieldLink RX4 23 "GravesExchanged" "anew" "LGravesExchanged$Yards;" ∈ BIG := bg (inT2 (List.mem_of_getElem? (i := 61) (by decide +kernel))) rfl
theorem lkX4_26 : Cond.fieldLink RX4 26 "GravesExchanged" "trial" "LGravesExchanged$Yards;" ∈ BIG := bg (inT2 (List.mem_of_getElem? (i := 62) (by decide +kernel))) rfl
theorem lkX4_32 : Cond.fieldLink RX4 32 "GravesExchanged" "bridge" "LGravesExchanged$Bridge;" ∈ BIG := bg (inT2 (List.mem_of_getElem? (i := 63) (by decide +kernel))) rfl
theorem lkX4_41 : Cond.fieldLink RX4 41 "GravesExchanged" "past" "LGravesExchanged$Shelf;" ∈ BIG := bg (inT2 (List.mem_of_getElem? (i := 64) (by decide +kernel))) rfl
theorem lkX4_45 : Cond.fieldLink RX4 45 "GravesExchanged" "kept" "LGravesExchanged$Shelf;" ∈ BIG := bg (inT2 (List.mem_of_getElem? (i := 65) (by decide +kernel))) rfl
theorem lkX4_48 : Cond.fieldLink RX4 48 "GravesExchanged" "seenDead" "[I" ∈ BIG := bg (inT2 (List.mem_of_getElem? (i := 66) (by decide +kernel))) rfl
theorem lkX4_52 : Cond.fieldLink RX4 52 "GravesExchanged" "seenPlot" "[I" ∈ BIG := bg (inT2 (List.mem_of_getElem? (i := 67) (by decide +kernel))) rfl
theorem lkX4_75 : Cond.fieldLink RX4 75 "GravesExchanged$Text" "length" "I" ∈ BIG := bg (inT1 (List.mem_of_getElem? (i := 27) (by decide +kernel))) rfl
theorem lkX4_78 : Cond.fieldLink RX4 78 "GravesExchanged$Yards" "deadCount" "I" ∈ BIG := bg (inT1 (List.mem_of_getElem? (i := 68) (by decide +kernel))) rfl
theorem lkX4_88 : Cond.fieldLink RX4 88 "GravesExchanged" "seenCount" "I" ∈ BIG := bg (inT2 (List.mem_of_getElem? (i := 68) (by decide +kernel))) rfl
theorem lkX4_155 : Cond.fieldLink RX4 155 "GravesExchanged$Yards" "visitorCount" "I" ∈ BIG := bg (inT1 (List.mem_of_getElem? (i := 72) (by decide +kernel))) rfl
theorem lkX4_161 : Cond.fieldLink RX4 161 "GravesExchanged$Shelf" "size" "I" ∈ BIG := bg (inT1 (List.mem_of_getElem? (i := 154) (by decide +kernel))) rfl
theorem lkX4_184 : Cond.fieldLink RX4 184 "GravesExchanged$Bridge" "goers" "I" ∈ BIG := bg (inT1 (List.mem_of_getElem? (i := 107) (by decide +kernel))) rfl
theorem lkX4_196 : Cond.fieldLink RX4 196 "GravesExchanged$Yards" "truce" "I" ∈ BIG := bg (inT1 (List.mem_of_getElem? (i := 65) (by decide +kernel))) rfl
theorem lkX4_236 : Cond.fieldLink RX4 236 "GravesExchanged$Yards" "plots" "I" ∈ BIG := bg (inT1 (List.mem_of_getElem? (i := 62) (by decide +kernel))) rfl
theorem lkX5_7 : Cond.fieldLink RX5 7 "GravesExchangedModel" "st" "[I" ∈ BIG := bg (inT3 (List.mem_of_getElem? (i := 227) (by decide +kernel))) rfl
theorem lkX5_13 : Cond.fieldLink RX5 13 "GravesExchangedModel" "was" "[I" ∈ BIG := bg (inT3 (List.mem_of_getElem? (i := 229) (by decide +kernel))) rfl
theorem lkX5_16 : Cond.fieldLink RX5 16 "GravesExchangedModel" "kept" "[I" ∈ BIG := bg (inT3 (List.mem_of_getElem? (i := 231) (by decide +kernel))) rfl
theorem lkX5_19 : Cond.fieldLink RX5 19 "GravesExchangedModel" "seen" "[I" ∈ BIG := bg (inT3 (List.mem_of_getElem? (i := 233) (by decide +kernel))) rfl
theorem lkX5_22 : Cond.fieldLink RX5 22 "GravesExchangedModel" "text" "[I" ∈ BIG := bg (inT3 (List.mem_of_getElem? (i := 234) (by decide +kernel))) rfl
theorem lkX5_25 : Cond.fieldLink RX5 25 "GravesExchangedModel" "told" "[I" ∈ BIG := bg (inT3 (List.mem_of_getElem? (i := 237) (by decide +kernel))) rfl
theorem lkX5_28 : Cond.fieldLink RX5 28 "GravesExchangedModel" "read" "[I" ∈ BIG := bg (inT4 (List.mem_of_getElem? (i := 1) (by decide +kernel))) rfl
theorem lkX5_31 : Cond.fieldLink RX5 31 "GravesExchangedModel" "now" "[I" ∈ BIG := bg (inT4 (List.mem_of_getElem? (i := 2) (by decide +kernel))) rfl
theorem lkX5_34 : Cond.fieldLink RX5 34 "GravesExchangedModel" "asIs" "[I" ∈ BIG := bg (inT4 (List.mem_of_getElem? (i := 3) (by decide +kernel))) rfl
theorem lkX5_37 : Cond.fieldLink RX5 37 "GravesExchangedModel" "guests" "[I" ∈ BIG := bg (inT4 (List.mem_of_getElem? (i := 4) (by decide +kernel))) rfl
theorem lkX5_40 : Cond.fieldLink RX5 40 "GravesExchangedModel" "order" "[I" ∈ BIG := bg (inT4 (List.mem_of_getElem? (i := 9) (by decide +kernel))) rfl
theorem lkX5_43 : Cond.fieldLink RX5 43 "GravesExchangedModel" "best" "[I" ∈ BIG := bg (inT4 (List.mem_of_getElem? (i := 10) (by decide +kernel))) rfl
theorem lkX5_49 : Cond.fieldLink RX5 49 "GravesExchangedModel" "readPlots" "I" ∈ BIG := bg (inT3 (List.mem_of_getElem? (i := 238) (by decide +kernel))) rfl
theorem lkX5_61 : Cond.fieldLink RX5 61 "GravesExchangedModel" "readTruce" "I" ∈ BIG := bg (inT3 (List.mem_of_getElem? (i := 239) (by decide +kernel))) rfl
theorem lkX5_71 : Cond.fieldLink RX5 71 "GravesExchangedModel" "plots" "I" ∈ BIG := bg (inT3 (List.mem_of_getElem? (i := 225) (by decide +kernel))) rfl
theorem lkX5_74 : Cond.fieldLink RX5 74 "GravesExchangedModel" "texted" "I" ∈ BIG := bg (inT3 (List.mem_of_getElem? (i := 235) (by decide +kernel))) rfl
theorem lkX5_77 : Cond.fieldLink RX5 77 "GravesExchangedModel" "at" "I" ∈ BIG := bg (inT3 (List.mem_of_getElem? (i := 236) (by decide +kernel))) rfl
theorem lkX5_88 : Cond.fieldLink RX5 88 "GravesExchangedModel" "isBegun" "Z" ∈ BIG := bg (inT4 (List.mem_of_getElem? (i := 0) (by decide +kernel))) rfl
theorem lkX5_118 : Cond.fieldLink RX5 118 "GravesExchangedModel" "truce" "I" ∈ BIG := bg (inT3 (List.mem_of_getElem? (i := 226) (by decide +kernel))) rfl
theorem lkX5_128 : Cond.fieldLink RX5 128 "GravesExchangedModel" "acts" "I" ∈ BIG := bg (inT3 (List.mem_of_getElem? (i := 228) (by decide +kernel))) rfl
theorem lkX5_131 : Cond.fieldLink RX5 131 "GravesExchangedModel" "keeps" "I" ∈ BIG := bg (inT3 (List.mem_of_getElem? (i := 230) (by decide +kernel))) rfl
theorem lkX5_134 : Cond.fieldLink RX5 134 "GravesExchangedModel" "seens" "I" ∈ BIG := bg (inT3 (List.mem_of_getElem? (i := 232) (by decide +kernel))) rfl
theorem lkX5_191 : Cond.fieldLink RX5 191 "GravesExchangedModel" "going" "I" ∈ BIG := bg (inT4 (List.mem_of_getElem? (i := 5) (by decide +kernel))) rfl
theorem lkX5_198 : Cond.fieldLink RX5 198 "GravesExchangedModel" "cameOver" "I" ∈ BIG := bg (inT4 (List.mem_of_getElem? (i := 8) (by decide +kernel))) rfl
theorem lkX5_201 : Cond.fieldLink RX5 201 "GravesExchangedModel" "over" "I" ∈ BIG := bg (inT4 (List.mem_of_getElem? (i := 7) (by decide +kernel))) rfl
theorem lkX5_204 : Cond.fieldLink RX5 204 "GravesExchangedModel" "free" "I" ∈ BIG := bg (inT4 (List.mem_of_getElem? (i := 6) (by decide +kernel))) rfl
abbrev kX0_init : Cond := .code yX0_init cX0_init 1 none
theorem mcX0_init : kX0_init ∈ BIG := bg (inT1 (List.mem_of_getElem? (i := 104) (by decide +kernel))) rfl
abbrev kX0_gather : Cond := .code yX0_gather cX0_gather 5 none
theorem mcX0_gather : kX0_gather ∈ BIG := bg (inT3 (List.mem_of_getElem? (i := 14) (by decide +kernel))) rfl
abbrev kX0_minutesByNumber : Cond := .code yX0_minutesByNumber cX0_minutesByNumber 4 (some .int)
theorem mcX0_minutesByNumber : kX0_minutesByNumber ∈ BIG := bg (inT3 (List.mem_of_getElem? (i := 25) (by decide +kernel))) rfl
abbrev kX0_tryAllOrders : Cond := .code yX0_tryAllOrders cX0_tryAllOrders 2 none
theorem mcX0_tryAllOrders : kX0_tryAllOrders ∈ BIG := bg (inT3 (List.mem_of_getElem? (i := 58) (by decide +kernel))) rfl
abbrev kX0_soonestOf : Cond := .code yX0_soonestOf cX0_soonestOf 2 (some .int)
theorem mcX0_soonestOf : kX0_soonestOf ∈ BIG := bg (inT3 (List.mem_of_getElem? (i := 71) (by decide +kernel))) rfl
abbrev kX0_inBestOrder : Cond := .code yX0_inBestOrder cX0_inBestOrder 2 (some .int)
theorem mcX0_inBestOrder : kX0_inBestOrder ∈ BIG := bg (inT3 (List.mem_of_getElem? (i := 75) (by decide +kernel))) rfl
abbrev kX0_fewestToStay : Cond := .code yX0_fewestToStay cX0_fewestToStay 6 (some .int)
theorem mcX0_fewestToStay : kX0_fewestToStay ∈ BIG := bg (inT3 (List.mem_of_getElem? (i := 93) (by decide +kernel))) rfl
abbrev kX0_tryBehind : Cond := .code yX0_tryBehind cX0_tryBehind 7 none
theorem mcX0_tryBehind : kX0_tryBehind ∈ BIG := bg (inT3 (List.mem_of_getElem? (i := 63) (by decide +kernel))) rfl
abbrev kX0_note : Cond := .code yX0_note cX0_note 5 none
theorem mcX0_note : kX0_note ∈ BIG := bg (inT3 (List.mem_of_getElem? (i := 67) (by decide +kernel))) rfl
abbrev kX0_isGoer : Cond := .code yX0_isGoer cX0_isGoer 2 (some .boolean)
theorem mcX0_isGoer : kX0_isGoer ∈ BIG := bg (inT3 (List.mem_of_getElem? (i := 33) (by decide +kernel))) rfl
abbrev kX0_isSomebodyYonder : Cond := .code yX0_isSomebodyYonder cX0_isSomebodyYonder 1 (some .boolean)
theorem mcX0_isSomebodyYonder : kX0_isSomebodyYonder ∈ BIG := bg (inT3 (List.mem_of_getElem? (i := 41) (by decide +kernel))) rfl
abbrev kX0_begin : Cond := .code yX0_begin cX0_begin 1 none
theorem mcX0_begin : kX0_begin ∈ BIG := bg (inT3 (List.mem_of_getElem? (i := 29) (by decide +kernel))) rfl
abbrev kX0_sendOver : Cond := .code yX0_sendOver cX0_sendOver 3 none
theorem mcX0_sendOver : kX0_sendOver ∈ BIG := bg (inT3 (List.mem_of_getElem? (i := 37) (by decide +kernel))) rfl
abbrev kX0_bringBack : Cond := .code yX0_bringBack cX0_bringBack 1 none
theorem mcX0_bringBack : kX0_bringBack ∈ BIG := bg (inT3 (List.mem_of_getElem? (i := 45) (by decide +kernel))) rfl
abbrev kX0_whenAllAreBack : Cond := .code yX0_whenAllAreBack cX0_whenAllAreBack 1 (some .int)
theorem mcX0_whenAllAreBack : kX0_whenAllAreBack ∈ BIG := bg (inT3 (List.mem_of_getElem? (i := 49) (by decide +kernel))) rfl
abbrev kX1_init : Cond := .code yX1_init cX1_init 3 none
theorem mcX1_init : kX1_init ∈ BIG := bg (inT1 (List.mem_of_getElem? (i := 145) (by decide +kernel))) rfl
abbrev kX1_clear : Cond := .code yX1_clear cX1_clear 1 none
theorem mcX1_clear : kX1_clear ∈ BIG := bg (inT2 (List.mem_of_getElem? (i := 114) (by decide +kernel))) rfl
abbrev kX1_put : Cond := .code yX1_put cX1_put 2 none
theorem mcX1_put : kX1_put ∈ BIG := bg (inT2 (List.mem_of_getElem? (i := 166) (by decide +kernel))) rfl
abbrev kX1_take : Cond := .code yX1_take cX1_take 2 none
theorem mcX1_take : kX1_take ∈ BIG := bg (inT2 (List.mem_of_getElem? (i := 202) (by decide +kernel))) rfl
abbrev kX1_dropOldest : Cond := .code yX1_dropOldest cX1_dropOldest 3 none
theorem mcX1_dropOldest : kX1_dropOldest ∈ BIG := bg (inT2 (List.mem_of_getElem? (i := 170) (by decide +kernel))) rfl
abbrev kX2_init : Cond := .code yX2_init cX2_init 1 none
theorem mcX2_init : kX2_init ∈ BIG := bg (inT1 (List.mem_of_getElem? (i := 25) (by decide +kernel))) rfl
abbrev kX2_append : Cond := .code yX2_append cX2_append 2 none
theorem mcX2_append : kX2_append ∈ BIG := bg (inT1 (List.mem_of_getElem? (i := 213) (by decide +kernel))) rfl
abbrev kX2_tellAll : Cond := .code yX2_tellAll cX2_tellAll 5 (some .int)
theorem mcX2_tellAll : kX2_tellAll ∈ BIG := bg (inT1 (List.mem_of_getElem? (i := 217) (by decide +kernel))) rfl
abbrev kX2_tellItem : Cond := .code yX2_tellItem cX2_tellItem 4 (some .boolean)
theorem mcX2_tellItem : kX2_tellItem ∈ BIG := bg (inT2 (List.mem_of_getElem? (i := 0) (by decide +kernel))) rfl
abbrev kX2_numbersBehind : Cond := .code yX2_numbersBehind cX2_numbersBehind 1 (some .int)
theorem mcX2_numbersBehind : kX2_numbersBehind ∈ BIG := bg (inT1 (List.mem_of_getElem? (i := 225) (by decide +kernel))) rfl
abbrev kX2_readNumbers : Cond := .code yX2_readNumbers cX2_readNumbers 3 (some .boolean)
theorem mcX2_readNumbers : kX2_readNumbers ∈ BIG := bg (inT1 (List.mem_of_getElem? (i := 229) (by decide +kernel))) rfl
abbrev kX2_readFigures : Cond := .code yX2_readFigures cX2_readFigures 2 (some .int)
theorem mcX2_readFigures : kX2_readFigures ∈ BIG := bg (inT1 (List.mem_of_getElem? (i := 236) (by decide +kernel))) rfl
abbrev kX2_isFigure : Cond := .code yX2_isFigure cX2_isFigure 1 (some .boolean)
theorem mcX2_isFigure : kX2_isFigure ∈ BIG := bg (inT1 (List.mem_of_getElem? (i := 232) (by decide +kernel))) rfl
abbrev kX2_letterAt : Cond := .code yX2_letterAt cX2_letterAt 2 (some .char)
theorem mcX2_letterAt : kX2_letterAt ∈ BIG := bg (inT1 (List.mem_of_getElem? (i := 222) (by decide +kernel))) rfl
abbrev kX3_init : Cond := .code yX3_init cX3_init 1 none
theorem mcX3_init : kX3_init ∈ BIG := bg (inT1 (List.mem_of_getElem? (i := 50) (by decide +kernel))) rfl
abbrev kX3_empty : Cond := .code yX3_empty cX3_empty 1 none
theorem mcX3_empty : kX3_empty ∈ BIG := bg (inT1 (List.mem_of_getElem? (i := 55) (by decide +kernel))) rfl
abbrev kX3_copyFrom : Cond := .code yX3_copyFrom cX3_copyFrom 3 none
theorem mcX3_copyFrom : kX3_copyFrom ∈ BIG := bg (inT2 (List.mem_of_getElem? (i := 110) (by decide +kernel))) rfl
abbrev kX3_hasDead : Cond := .code yX3_hasDead cX3_hasDead 2 (some .boolean)
theorem mcX3_hasDead : kX3_hasDead ∈ BIG := bg (inT2 (List.mem_of_getElem? (i := 25) (by decide +kernel))) rfl
abbrev kX3_hasPlot : Cond := .code yX3_hasPlot cX3_hasPlot 2 (some .boolean)
theorem mcX3_hasPlot : kX3_hasPlot ∈ BIG := bg (inT2 (List.mem_of_getElem? (i := 50) (by decide +kernel))) rfl
abbrev kX3_hasVisitor : Cond := .code yX3_hasVisitor cX3_hasVisitor 2 (some .boolean)
theorem mcX3_hasVisitor : kX3_hasVisitor ∈ BIG := bg (inT2 (List.mem_of_getElem? (i := 148) (by decide +kernel))) rfl
abbrev kX3_villageOf : Cond := .code yX3_villageOf cX3_villageOf 2 (some .int)
theorem mcX3_villageOf : kX3_villageOf ∈ BIG := bg (inT2 (List.mem_of_getElem? (i := 21) (by decide +kernel))) rfl
abbrev kX3_kindOf : Cond := .code yX3_kindOf cX3_kindOf 2 (some .int)
theorem mcX3_kindOf : kX3_kindOf ∈ BIG := bg (inT2 (List.mem_of_getElem? (i := 29) (by decide +kernel))) rfl
abbrev kX3_forgivenOf : Cond := .code yX3_forgivenOf cX3_forgivenOf 2 (some .int)
theorem mcX3_forgivenOf : kX3_forgivenOf ∈ BIG := bg (inT2 (List.mem_of_getElem? (i := 33) (by decide +kernel))) rfl
abbrev kX3_visitedBy : Cond := .code yX3_visitedBy cX3_visitedBy 2 (some .int)
theorem mcX3_visitedBy : kX3_visitedBy ∈ BIG := bg (inT2 (List.mem_of_getElem? (i := 152) (by decide +kernel))) rfl
abbrev kX3_minutesOf : Cond := .code yX3_minutesOf cX3_minutesOf 2 (some .int)
theorem mcX3_minutesOf : kX3_minutesOf ∈ BIG := bg (inT2 (List.mem_of_getElem? (i := 157) (by decide +kernel))) rfl
abbrev kX3_whoLies : Cond := .code yX3_whoLies cX3_whoLies 4 (some .int)
theorem mcX3_whoLies : kX3_whoLies ∈ BIG := bg (inT2 (List.mem_of_getElem? (i := 41) (by decide +kernel))) rfl
abbrev kX3_plotOf : Cond := .code yX3_plotOf cX3_plotOf 2 (some .int)
theorem mcX3_plotOf : kX3_plotOf ∈ BIG := bg (inT2 (List.mem_of_getElem? (i := 126) (by decide +kernel))) rfl
abbrev kX3_plotOfDouble : Cond := .code yX3_plotOfDouble cX3_plotOfDouble 2 (some .int)
theorem mcX3_plotOfDouble : kX3_plotOfDouble ∈ BIG := bg (inT2 (List.mem_of_getElem? (i := 134) (by decide +kernel))) rfl
abbrev kX3_placeIn : Cond := .code yX3_placeIn cX3_placeIn 4 (some .int)
theorem mcX3_placeIn : kX3_placeIn ∈ BIG := bg (inT2 (List.mem_of_getElem? (i := 130) (by decide +kernel))) rfl
abbrev kX3_setForgiven : Cond := .code yX3_setForgiven cX3_setForgiven 3 none
theorem mcX3_setForgiven : kX3_setForgiven ∈ BIG := bg (inT2 (List.mem_of_getElem? (i := 188) (by decide +kernel))) rfl
abbrev kX3_addVisitor : Cond := .code yX3_addVisitor cX3_addVisitor 3 none
theorem mcX3_addVisitor : kX3_addVisitor ∈ BIG := bg (inT2 (List.mem_of_getElem? (i := 58) (by decide +kernel))) rfl
abbrev kX3_addDead : Cond := .code yX3_addDead cX3_addDead 5 (some .int)
theorem mcX3_addDead : kX3_addDead ∈ BIG := bg (inT2 (List.mem_of_getElem? (i := 13) (by decide +kernel))) rfl
abbrev kX3_digAllAnew : Cond := .code yX3_digAllAnew cX3_digAllAnew 2 none
theorem mcX3_digAllAnew : kX3_digAllAnew ∈ BIG := bg (inT2 (List.mem_of_getElem? (i := 214) (by decide +kernel))) rfl
abbrev kX3_swap : Cond := .code yX3_swap cX3_swap 5 none
theorem mcX3_swap : kX3_swap ∈ BIG := bg (inT2 (List.mem_of_getElem? (i := 180) (by decide +kernel))) rfl
abbrev kX3_freePlot : Cond := .code yX3_freePlot cX3_freePlot 7 (some .int)
theorem mcX3_freePlot : kX3_freePlot ∈ BIG := bg (inT2 (List.mem_of_getElem? (i := 37) (by decide +kernel))) rfl
abbrev kX3_owedOf : Cond := .code yX3_owedOf cX3_owedOf 2 (some .int)
theorem mcX3_owedOf : kX3_owedOf ∈ BIG := bg (inT3 (List.mem_of_getElem? (i := 118) (by decide +kernel))) rfl
abbrev kX3_forgivenOfAllWhoLie : Cond := .code yX3_forgivenOfAllWhoLie cX3_forgivenOfAllWhoLie 4 (some .int)
theorem mcX3_forgivenOfAllWhoLie : kX3_forgivenOfAllWhoLie ∈ BIG := bg (inT3 (List.mem_of_getElem? (i := 136) (by decide +kernel))) rfl
abbrev kX3_allWhoLie : Cond := .code yX3_allWhoLie cX3_allWhoLie 3 (some .int)
theorem mcX3_allWhoLie : kX3_allWhoLie ∈ BIG := bg (inT3 (List.mem_of_getElem? (i := 126) (by decide +kernel))) rfl
abbrev kX3_allOfVillage : Cond := .code yX3_allOfVillage cX3_allOfVillage 4 (some .int)
theorem mcX3_allOfVillage : kX3_allOfVillage ∈ BIG := bg (inT3 (List.mem_of_getElem? (i := 122) (by decide +kernel))) rfl
abbrev kX3_doubles : Cond := .code yX3_doubles cX3_doubles 3 (some .int)
theorem mcX3_doubles : kX3_doubles ∈ BIG := bg (inT3 (List.mem_of_getElem? (i := 182) (by decide +kernel))) rfl
abbrev kX3_fewestChanges : Cond := .code yX3_fewestChanges cX3_fewestChanges 6 (some .int)
theorem mcX3_fewestChanges : kX3_fewestChanges ∈ BIG := bg (inT2 (List.mem_of_getElem? (i := 230) (by decide +kernel))) rfl
abbrev kX3_sameLie : Cond := .code yX3_sameLie cX3_sameLie 4 (some .boolean)
theorem mcX3_sameLie : kX3_sameLie ∈ BIG := bg (inT2 (List.mem_of_getElem? (i := 234) (by decide +kernel))) rfl
abbrev kX3_goalOf : Cond := .code yX3_goalOf cX3_goalOf 5 (some .int)
theorem mcX3_goalOf : kX3_goalOf ∈ BIG := bg (inT2 (List.mem_of_getElem? (i := 238) (by decide +kernel))) rfl
abbrev kX3_isLowestOfRing : Cond := .code yX3_isLowestOfRing cX3_isLowestOfRing 6 (some .boolean)
theorem mcX3_isLowestOfRing : kX3_isLowestOfRing ∈ BIG := bg (inT3 (List.mem_of_getElem? (i := 2) (by decide +kernel))) rfl
abbrev kX3_dig : Cond := .code yX3_dig cX3_dig 6 (some .int)
theorem mcX3_dig : kX3_dig ∈ BIG := bg (inT2 (List.mem_of_getElem? (i := 17) (by decide +kernel))) rfl
abbrev kX3_put : Cond := .code yX3_put cX3_put 4 none
theorem mcX3_put : kX3_put ∈ BIG := bg (inT2 (List.mem_of_getElem? (i := 45) (by decide +kernel))) rfl
abbrev kX3_freeAll : Cond := .code yX3_freeAll cX3_freeAll 2 none
theorem mcX3_freeAll : kX3_freeAll ∈ BIG := bg (inT1 (List.mem_of_getElem? (i := 59) (by decide +kernel))) rfl
abbrev kX4_init : Cond := .code yX4_init cX4_init 2 none
theorem mcX4_init : kX4_init ∈ BIG := bg (inT1 (List.mem_of_getElem? (i := 17) (by decide +kernel))) rfl
abbrev kX4_write : Cond := .code yX4_write cX4_write 2 (some .int)
theorem mcX4_write : kX4_write ∈ BIG := bg (inT2 (List.mem_of_getElem? (i := 94) (by decide +kernel))) rfl
abbrev kX4_wipe : Cond := .code yX4_wipe cX4_wipe 2 (some .int)
theorem mcX4_wipe : kX4_wipe ∈ BIG := bg (inT2 (List.mem_of_getElem? (i := 98) (by decide +kernel))) rfl
abbrev kX4_fault : Cond := .code yX4_fault cX4_fault 1 (some .int)
theorem mcX4_fault : kX4_fault ∈ BIG := bg (inT2 (List.mem_of_getElem? (i := 102) (by decide +kernel))) rfl
abbrev kX4_lay : Cond := .code yX4_lay cX4_lay 1 (some .int)
theorem mcX4_lay : kX4_lay ∈ BIG := bg (inT2 (List.mem_of_getElem? (i := 106) (by decide +kernel))) rfl
abbrev kX4_dead : Cond := .code yX4_dead cX4_dead 3 (some .int)
theorem mcX4_dead : kX4_dead ∈ BIG := bg (inT2 (List.mem_of_getElem? (i := 118) (by decide +kernel))) rfl
abbrev kX4_plot : Cond := .code yX4_plot cX4_plot 3 (some .int)
theorem mcX4_plot : kX4_plot ∈ BIG := bg (inT2 (List.mem_of_getElem? (i := 138) (by decide +kernel))) rfl
abbrev kX4_visitor : Cond := .code yX4_visitor cX4_visitor 3 (some .int)
theorem mcX4_visitor : kX4_visitor ∈ BIG := bg (inT2 (List.mem_of_getElem? (i := 144) (by decide +kernel))) rfl
abbrev kX4_bury : Cond := .code yX4_bury cX4_bury 4 (some .int)
theorem mcX4_bury : kX4_bury ∈ BIG := bg (inT2 (List.mem_of_getElem? (i := 161) (by decide +kernel))) rfl
abbrev kX4_change : Cond := .code yX4_change cX4_change 4 (some .int)
theorem mcX4_change : kX4_change ∈ BIG := bg (inT2 (List.mem_of_getElem? (i := 176) (by decide +kernel))) rfl
abbrev kX4_forgive : Cond := .code yX4_forgive cX4_forgive 4 (some .int)
theorem mcX4_forgive : kX4_forgive ∈ BIG := bg (inT2 (List.mem_of_getElem? (i := 184) (by decide +kernel))) rfl
abbrev kX4_visit : Cond := .code yX4_visit cX4_visit 3 (some .int)
theorem mcX4_visit : kX4_visit ∈ BIG := bg (inT2 (List.mem_of_getElem? (i := 192) (by decide +kernel))) rfl
abbrev kX4_undo : Cond := .code yX4_undo cX4_undo 1 (some .int)
theorem mcX4_undo : kX4_undo ∈ BIG := bg (inT2 (List.mem_of_getElem? (i := 198) (by decide +kernel))) rfl
abbrev kX4_right : Cond := .code yX4_right cX4_right 2 (some .int)
theorem mcX4_right : kX4_right ∈ BIG := bg (inT2 (List.mem_of_getElem? (i := 206) (by decide +kernel))) rfl
abbrev kX4_moved : Cond := .code yX4_moved cX4_moved 1 (some .int)
theorem mcX4_moved : kX4_moved ∈ BIG := bg (inT2 (List.mem_of_getElem? (i := 218) (by decide +kernel))) rfl
abbrev kX4_mend : Cond := .code yX4_mend cX4_mend 2 (some .int)
theorem mcX4_mend : kX4_mend ∈ BIG := bg (inT2 (List.mem_of_getElem? (i := 226) (by decide +kernel))) rfl
abbrev kX4_grudge : Cond := .code yX4_grudge cX4_grudge 5 (some .int)
theorem mcX4_grudge : kX4_grudge ∈ BIG := bg (inT3 (List.mem_of_getElem? (i := 6) (by decide +kernel))) rfl
abbrev kX4_takes : Cond := .code yX4_takes cX4_takes 2 (some .int)
theorem mcX4_takes : kX4_takes ∈ BIG := bg (inT3 (List.mem_of_getElem? (i := 10) (by decide +kernel))) rfl
abbrev kX4_tour : Cond := .code yX4_tour cX4_tour 2 (some .int)
theorem mcX4_tour : kX4_tour ∈ BIG := bg (inT3 (List.mem_of_getElem? (i := 54) (by decide +kernel))) rfl
abbrev kX4_enough : Cond := .code yX4_enough cX4_enough 1 (some .int)
theorem mcX4_enough : kX4_enough ∈ BIG := bg (inT3 (List.mem_of_getElem? (i := 85) (by decide +kernel))) rfl
abbrev kX4_leave : Cond := .code yX4_leave cX4_leave 1 (some .int)
theorem mcX4_leave : kX4_leave ∈ BIG := bg (inT3 (List.mem_of_getElem? (i := 89) (by decide +kernel))) rfl
abbrev kX4_seen : Cond := .code yX4_seen cX4_seen 3 (some .int)
theorem mcX4_seen : kX4_seen ∈ BIG := bg (inT3 (List.mem_of_getElem? (i := 98) (by decide +kernel))) rfl
abbrev kX4_forget : Cond := .code yX4_forget cX4_forget 2 (some .int)
theorem mcX4_forget : kX4_forget ∈ BIG := bg (inT3 (List.mem_of_getElem? (i := 102) (by decide +kernel))) rfl
abbrev kX4_was : Cond := .code yX4_was cX4_was 4 (some .int)
theorem mcX4_was : kX4_was ∈ BIG := bg (inT3 (List.mem_of_getElem? (i := 106) (by decide +kernel))) rfl
abbrev kX4_owed : Cond := .code yX4_owed cX4_owed 2 (some .int)
theorem mcX4_owed : kX4_owed ∈ BIG := bg (inT3 (List.mem_of_getElem? (i := 114) (by decide +kernel))) rfl
abbrev kX4_balance : Cond := .code yX4_balance cX4_balance 1 (some .int)
theorem mcX4_balance : kX4_balance ∈ BIG := bg (inT3 (List.mem_of_getElem? (i := 132) (by decide +kernel))) rfl
abbrev kX4_names : Cond := .code yX4_names cX4_names 4 (some .int)
theorem mcX4_names : kX4_names ∈ BIG := bg (inT3 (List.mem_of_getElem? (i := 140) (by decide +kernel))) rfl
abbrev kX4_next : Cond := .code yX4_next cX4_next 4 (some .int)
theorem mcX4_next : kX4_next ∈ BIG := bg (inT3 (List.mem_of_getElem? (i := 150) (by decide +kernel))) rfl
abbrev kX4_year : Cond := .code yX4_year cX4_year 5 (some .int)
theorem mcX4_year : kX4_year ∈ BIG := bg (inT3 (List.mem_of_getElem? (i := 155) (by decide +kernel))) rfl
abbrev kX4_keep : Cond := .code yX4_keep cX4_keep 1 (some .int)
theorem mcX4_keep : kX4_keep ∈ BIG := bg (inT3 (List.mem_of_getElem? (i := 170) (by decide +kernel))) rfl
abbrev kX4_back : Cond := .code yX4_back cX4_back 1 (some .int)
theorem mcX4_back : kX4_back ∈ BIG := bg (inT3 (List.mem_of_getElem? (i := 174) (by decide +kernel))) rfl
abbrev kX4_count : Cond := .code yX4_count cX4_count 2 (some .int)
theorem mcX4_count : kX4_count ∈ BIG := bg (inT3 (List.mem_of_getElem? (i := 178) (by decide +kernel))) rfl
abbrev kX4_isSide : Cond := .code yX4_isSide cX4_isSide 1 (some .boolean)
theorem mcX4_isSide : kX4_isSide ∈ BIG := bg (inT2 (List.mem_of_getElem? (i := 6) (by decide +kernel))) rfl
abbrev kX4_isForgiven : Cond := .code yX4_isForgiven cX4_isForgiven 1 (some .boolean)
theorem mcX4_isForgiven : kX4_isForgiven ∈ BIG := bg (inT2 (List.mem_of_getElem? (i := 9) (by decide +kernel))) rfl
abbrev kX4_isMinutes : Cond := .code yX4_isMinutes cX4_isMinutes 1 (some .boolean)
theorem mcX4_isMinutes : kX4_isMinutes ∈ BIG := bg (inT2 (List.mem_of_getElem? (i := 54) (by decide +kernel))) rfl
abbrev kX4_isOneOfTheDead : Cond := .code yX4_isOneOfTheDead cX4_isOneOfTheDead 3 (some .boolean)
theorem mcX4_isOneOfTheDead : kX4_isOneOfTheDead ∈ BIG := bg (inT2 (List.mem_of_getElem? (i := 3) (by decide +kernel))) rfl
abbrev kX4_layByRight : Cond := .code yX4_layByRight cX4_layByRight 2 none
theorem mcX4_layByRight : kX4_layByRight ∈ BIG := bg (inT2 (List.mem_of_getElem? (i := 210) (by decide +kernel))) rfl
abbrev kX4_movedIn : Cond := .code yX4_movedIn cX4_movedIn 4 (some .int)
theorem mcX4_movedIn : kX4_movedIn ∈ BIG := bg (inT2 (List.mem_of_getElem? (i := 222) (by decide +kernel))) rfl
abbrev kX4_isAllSeenSo : Cond := .code yX4_isAllSeenSo cX4_isAllSeenSo 2 (some .boolean)
theorem mcX4_isAllSeenSo : kX4_isAllSeenSo ∈ BIG := bg (inT3 (List.mem_of_getElem? (i := 110) (by decide +kernel))) rfl
abbrev kX4_nextWornOff : Cond := .code yX4_nextWornOff cX4_nextWornOff 5 (some .int)
theorem mcX4_nextWornOff : kX4_nextWornOff ∈ BIG := bg (inT3 (List.mem_of_getElem? (i := 145) (by decide +kernel))) rfl
abbrev kX4_draw : Cond := .code yX4_draw cX4_draw 4 (some .int)
theorem mcX4_draw : kX4_draw ∈ BIG := bg (inT3 (List.mem_of_getElem? (i := 158) (by decide +kernel))) rfl
abbrev kX4_passWinter : Cond := .code yX4_passWinter cX4_passWinter 3 none
theorem mcX4_passWinter : kX4_passWinter ∈ BIG := bg (inT3 (List.mem_of_getElem? (i := 165) (by decide +kernel))) rfl
abbrev kX5_init : Cond := .code yX5_init cX5_init 1 none
theorem mcX5_init : kX5_init ∈ BIG := bg (inT3 (List.mem_of_getElem? (i := 188) (by decide +kernel))) rfl
abbrev kX5_tellsDead : Cond := .code yX5_tellsDead cX5_tellsDead 5 none
theorem mcX5_tellsDead : kX5_tellsDead ∈ BIG := bg (inT3 (List.mem_of_getElem? (i := 197) (by decide +kernel))) rfl
abbrev kX5_tellsGuest : Cond := .code yX5_tellsGuest cX5_tellsGuest 4 none
theorem mcX5_tellsGuest : kX5_tellsGuest ∈ BIG := bg (inT3 (List.mem_of_getElem? (i := 201) (by decide +kernel))) rfl
abbrev kX5_in : Cond := .code yX5_in cX5_in 3 (some .boolean)
theorem mcX5_in : kX5_in ∈ BIG := bg (inT4 (List.mem_of_getElem? (i := 70) (by decide +kernel))) rfl
abbrev kX5_has : Cond := .code yX5_has cX5_has 2 (some .boolean)
theorem mcX5_has : kX5_has ∈ BIG := bg (inT4 (List.mem_of_getElem? (i := 222) (by decide +kernel))) rfl
abbrev kX5_bits : Cond := .code yX5_bits cX5_bits 3 (some .int)
theorem mcX5_bits : kX5_bits ∈ BIG := bg (inT5 (List.mem_of_getElem? (i := 18) (by decide +kernel))) rfl
abbrev kX5_isDead : Cond := .code yX5_isDead cX5_isDead 2 (some .boolean)
theorem mcX5_isDead : kX5_isDead ∈ BIG := bg (inT4 (List.mem_of_getElem? (i := 126) (by decide +kernel))) rfl
abbrev kX5_isPlot : Cond := .code yX5_isPlot cX5_isPlot 2 (some .boolean)
theorem mcX5_isPlot : kX5_isPlot ∈ BIG := bg (inT4 (List.mem_of_getElem? (i := 140) (by decide +kernel))) rfl
abbrev kX5_write : Cond := .code yX5_write cX5_write 2 (some .int)
theorem mcX5_write : kX5_write ∈ BIG := bg (inT4 (List.mem_of_getElem? (i := 67) (by decide +kernel))) rfl
abbrev kX5_wipe : Cond := .code yX5_wipe cX5_wipe 2 (some .int)
theorem mcX5_wipe : kX5_wipe ∈ BIG := bg (inT4 (List.mem_of_getElem? (i := 74) (by decide +kernel))) rfl
abbrev kX5_letterAt : Cond := .code yX5_letterAt cX5_letterAt 2 (some .int)
theorem mcX5_letterAt : kX5_letterAt ∈ BIG := bg (inT4 (List.mem_of_getElem? (i := 86) (by decide +kernel))) rfl
abbrev kX5_isFigure : Cond := .code yX5_isFigure cX5_isFigure 1 (some .boolean)
theorem mcX5_isFigure : kX5_isFigure ∈ BIG := bg (inT4 (List.mem_of_getElem? (i := 97) (by decide +kernel))) rfl
abbrev kX5_readNumbers : Cond := .code yX5_readNumbers cX5_readNumbers 3 (some .boolean)
theorem mcX5_readNumbers : kX5_readNumbers ∈ BIG := bg (inT4 (List.mem_of_getElem? (i := 94) (by decide +kernel))) rfl
abbrev kX5_isTold : Cond := .code yX5_isTold cX5_isTold 4 (some .boolean)
theorem mcX5_isTold : kX5_isTold ∈ BIG := bg (inT4 (List.mem_of_getElem? (i := 101) (by decide +kernel))) rfl
abbrev kX5_put : Cond := .code yX5_put cX5_put 5 none
theorem mcX5_put : kX5_put ∈ BIG := bg (inT3 (List.mem_of_getElem? (i := 208) (by decide +kernel))) rfl
abbrev kX5_clearTold : Cond := .code yX5_clearTold cX5_clearTold 2 none
theorem mcX5_clearTold : kX5_clearTold ∈ BIG := bg (inT3 (List.mem_of_getElem? (i := 193) (by decide +kernel))) rfl
abbrev kX5_readPlotsOf : Cond := .code yX5_readPlotsOf cX5_readPlotsOf 2 (some .boolean)
theorem mcX5_readPlotsOf : kX5_readPlotsOf ∈ BIG := bg (inT4 (List.mem_of_getElem? (i := 90) (by decide +kernel))) rfl
abbrev kX5_readDeadOf : Cond := .code yX5_readDeadOf cX5_readDeadOf 1 (some .boolean)
theorem mcX5_readDeadOf : kX5_readDeadOf ∈ BIG := bg (inT4 (List.mem_of_getElem? (i := 105) (by decide +kernel))) rfl
abbrev kX5_readGuestOf : Cond := .code yX5_readGuestOf cX5_readGuestOf 1 (some .boolean)
theorem mcX5_readGuestOf : kX5_readGuestOf ∈ BIG := bg (inT4 (List.mem_of_getElem? (i := 109) (by decide +kernel))) rfl
abbrev kX5_readTruceOf : Cond := .code yX5_readTruceOf cX5_readTruceOf 2 (some .boolean)
theorem mcX5_readTruceOf : kX5_readTruceOf ∈ BIG := bg (inT4 (List.mem_of_getElem? (i := 113) (by decide +kernel))) rfl
abbrev kX5_readItem : Cond := .code yX5_readItem cX5_readItem 2 (some .boolean)
theorem mcX5_readItem : kX5_readItem ∈ BIG := bg (inT4 (List.mem_of_getElem? (i := 82) (by decide +kernel))) rfl
abbrev kX5_fault : Cond := .code yX5_fault cX5_fault 2 (some .int)
theorem mcX5_fault : kX5_fault ∈ BIG := bg (inT4 (List.mem_of_getElem? (i := 78) (by decide +kernel))) rfl
abbrev kX5_lay : Cond := .code yX5_lay cX5_lay 1 (some .int)
theorem mcX5_lay : kX5_lay ∈ BIG := bg (inT4 (List.mem_of_getElem? (i := 117) (by decide +kernel))) rfl
abbrev kX5_settles : Cond := .code yX5_settles cX5_settles 1 none
theorem mcX5_settles : kX5_settles ∈ BIG := bg (inT3 (List.mem_of_getElem? (i := 205) (by decide +kernel))) rfl
abbrev kX5_from : Cond := .code yX5_from cX5_from 2 none
theorem mcX5_from : kX5_from ∈ BIG := bg (inT4 (List.mem_of_getElem? (i := 163) (by decide +kernel))) rfl
abbrev kX5_freeFrom : Cond := .code yX5_freeFrom cX5_freeFrom 6 (some .int)
theorem mcX5_freeFrom : kX5_freeFrom ∈ BIG := bg (inT3 (List.mem_of_getElem? (i := 224) (by decide +kernel))) rfl
abbrev kX5_placeFor : Cond := .code yX5_placeFor cX5_placeFor 5 (some .int)
theorem mcX5_placeFor : kX5_placeFor ∈ BIG := bg (inT3 (List.mem_of_getElem? (i := 220) (by decide +kernel))) rfl
abbrev kX5_buries : Cond := .code yX5_buries cX5_buries 7 (some .int)
theorem mcX5_buries : kX5_buries ∈ BIG := bg (inT3 (List.mem_of_getElem? (i := 216) (by decide +kernel))) rfl
abbrev kX5_anew : Cond := .code yX5_anew cX5_anew 2 none
theorem mcX5_anew : kX5_anew ∈ BIG := bg (inT3 (List.mem_of_getElem? (i := 212) (by decide +kernel))) rfl
abbrev kX5_plotIn : Cond := .code yX5_plotIn cX5_plotIn 4 (some .int)
theorem mcX5_plotIn : kX5_plotIn ∈ BIG := bg (inT4 (List.mem_of_getElem? (i := 132) (by decide +kernel))) rfl
abbrev kX5_plotOf : Cond := .code yX5_plotOf cX5_plotOf 2 (some .int)
theorem mcX5_plotOf : kX5_plotOf ∈ BIG := bg (inT4 (List.mem_of_getElem? (i := 129) (by decide +kernel))) rfl
abbrev kX5_dead : Cond := .code yX5_dead cX5_dead 3 (some .int)
theorem mcX5_dead : kX5_dead ∈ BIG := bg (inT4 (List.mem_of_getElem? (i := 122) (by decide +kernel))) rfl
abbrev kX5_whoIs : Cond := .code yX5_whoIs cX5_whoIs 1 (some .int)
theorem mcX5_whoIs : kX5_whoIs ∈ BIG := bg (inT4 (List.mem_of_getElem? (i := 143) (by decide +kernel))) rfl
abbrev kX5_plot : Cond := .code yX5_plot cX5_plot 3 (some .int)
theorem mcX5_plot : kX5_plot ∈ BIG := bg (inT4 (List.mem_of_getElem? (i := 136) (by decide +kernel))) rfl
abbrev kX5_visitor : Cond := .code yX5_visitor cX5_visitor 3 (some .int)
theorem mcX5_visitor : kX5_visitor ∈ BIG := bg (inT4 (List.mem_of_getElem? (i := 147) (by decide +kernel))) rfl
abbrev kX5_remembers : Cond := .code yX5_remembers cX5_remembers 2 none
theorem mcX5_remembers : kX5_remembers ∈ BIG := bg (inT4 (List.mem_of_getElem? (i := 159) (by decide +kernel))) rfl
abbrev kX5_addsDead : Cond := .code yX5_addsDead cX5_addsDead 5 none
theorem mcX5_addsDead : kX5_addsDead ∈ BIG := bg (inT4 (List.mem_of_getElem? (i := 167) (by decide +kernel))) rfl
abbrev kX5_isOne : Cond := .code yX5_isOne cX5_isOne 4 (some .boolean)
theorem mcX5_isOne : kX5_isOne ∈ BIG := bg (inT4 (List.mem_of_getElem? (i := 155) (by decide +kernel))) rfl
abbrev kX5_bury : Cond := .code yX5_bury cX5_bury 5 (some .int)
theorem mcX5_bury : kX5_bury ∈ BIG := bg (inT4 (List.mem_of_getElem? (i := 151) (by decide +kernel))) rfl
abbrev kX5_changes : Cond := .code yX5_changes cX5_changes 7 none
theorem mcX5_changes : kX5_changes ∈ BIG := bg (inT4 (List.mem_of_getElem? (i := 174) (by decide +kernel))) rfl
abbrev kX5_change : Cond := .code yX5_change cX5_change 4 (some .int)
theorem mcX5_change : kX5_change ∈ BIG := bg (inT4 (List.mem_of_getElem? (i := 171) (by decide +kernel))) rfl
abbrev kX5_forgive : Cond := .code yX5_forgive cX5_forgive 4 (some .int)
theorem mcX5_forgive : kX5_forgive ∈ BIG := bg (inT4 (List.mem_of_getElem? (i := 179) (by decide +kernel))) rfl
abbrev kX5_visit : Cond := .code yX5_visit cX5_visit 4 (some .int)
theorem mcX5_visit : kX5_visit ∈ BIG := bg (inT4 (List.mem_of_getElem? (i := 183) (by decide +kernel))) rfl
abbrev kX5_undo : Cond := .code yX5_undo cX5_undo 2 (some .int)
theorem mcX5_undo : kX5_undo ∈ BIG := bg (inT4 (List.mem_of_getElem? (i := 187) (by decide +kernel))) rfl
abbrev kX5_byRight : Cond := .code yX5_byRight cX5_byRight 2 none
theorem mcX5_byRight : kX5_byRight ∈ BIG := bg (inT4 (List.mem_of_getElem? (i := 195) (by decide +kernel))) rfl
abbrev kX5_right : Cond := .code yX5_right cX5_right 2 (some .int)
theorem mcX5_right : kX5_right ∈ BIG := bg (inT4 (List.mem_of_getElem? (i := 191) (by decide +kernel))) rfl
abbrev kX5_movedBits : Cond := .code yX5_movedBits cX5_movedBits 3 (some .int)
theorem mcX5_movedBits : kX5_movedBits ∈ BIG := bg (inT4 (List.mem_of_getElem? (i := 203) (by decide +kernel))) rfl
abbrev kX5_moved : Cond := .code yX5_moved cX5_moved 1 (some .int)
theorem mcX5_moved : kX5_moved ∈ BIG := bg (inT4 (List.mem_of_getElem? (i := 199) (by decide +kernel))) rfl
abbrev kX5_mend : Cond := .code yX5_mend cX5_mend 5 (some .int)
theorem mcX5_mend : kX5_mend ∈ BIG := bg (inT4 (List.mem_of_getElem? (i := 207) (by decide +kernel))) rfl
abbrev kX5_grudge : Cond := .code yX5_grudge cX5_grudge 5 (some .int)
theorem mcX5_grudge : kX5_grudge ∈ BIG := bg (inT4 (List.mem_of_getElem? (i := 211) (by decide +kernel))) rfl
abbrev kX5_findGuests : Cond := .code yX5_findGuests cX5_findGuests 3 none
theorem mcX5_findGuests : kX5_findGuests ∈ BIG := bg (inT4 (List.mem_of_getElem? (i := 219) (by decide +kernel))) rfl
abbrev kX5_comesBack : Cond := .code yX5_comesBack cX5_comesBack 2 none
theorem mcX5_comesBack : kX5_comesBack ∈ BIG := bg (inT4 (List.mem_of_getElem? (i := 234) (by decide +kernel))) rfl
abbrev kX5_villageOf : Cond := .code yX5_villageOf cX5_villageOf 2 (some .int)
theorem mcX5_villageOf : kX5_villageOf ∈ BIG := bg (inT4 (List.mem_of_getElem? (i := 230) (by decide +kernel))) rfl
abbrev kX5_takesSo : Cond := .code yX5_takesSo cX5_takesSo 5 (some .int)
theorem mcX5_takesSo : kX5_takesSo ∈ BIG := bg (inT4 (List.mem_of_getElem? (i := 226) (by decide +kernel))) rfl
abbrev kX5_takes : Cond := .code yX5_takes cX5_takes 3 (some .int)
theorem mcX5_takes : kX5_takes ∈ BIG := bg (inT4 (List.mem_of_getElem? (i := 215) (by decide +kernel))) rfl
abbrev kX5_isOrder : Cond := .code yX5_isOrder cX5_isOrder 5 (some .boolean)
theorem mcX5_isOrder : kX5_isOrder ∈ BIG := bg (inT5 (List.mem_of_getElem? (i := 7) (by decide +kernel))) rfl
abbrev kX5_soonest : Cond := .code yX5_soonest cX5_soonest 6 (some .int)
theorem mcX5_soonest : kX5_soonest ∈ BIG := bg (inT5 (List.mem_of_getElem? (i := 2) (by decide +kernel))) rfl
abbrev kX5_tour : Cond := .code yX5_tour cX5_tour 3 (some .int)
theorem mcX5_tour : kX5_tour ∈ BIG := bg (inT4 (List.mem_of_getElem? (i := 238) (by decide +kernel))) rfl
abbrev kX5_enough : Cond := .code yX5_enough cX5_enough 1 (some .int)
theorem mcX5_enough : kX5_enough ∈ BIG := bg (inT5 (List.mem_of_getElem? (i := 11) (by decide +kernel))) rfl
abbrev kX5_leave : Cond := .code yX5_leave cX5_leave 5 (some .int)
theorem mcX5_leave : kX5_leave ∈ BIG := bg (inT5 (List.mem_of_getElem? (i := 15) (by decide +kernel))) rfl
abbrev kX5_seen : Cond := .code yX5_seen cX5_seen 3 (some .int)
theorem mcX5_seen : kX5_seen ∈ BIG := bg (inT5 (List.mem_of_getElem? (i := 22) (by decide +kernel))) rfl
abbrev kX5_forget : Cond := .code yX5_forget cX5_forget 2 (some .int)
theorem mcX5_forget : kX5_forget ∈ BIG := bg (inT5 (List.mem_of_getElem? (i := 26) (by decide +kernel))) rfl
abbrev kX5_was : Cond := .code yX5_was cX5_was 6 (some .int)
theorem mcX5_was : kX5_was ∈ BIG := bg (inT5 (List.mem_of_getElem? (i := 30) (by decide +kernel))) rfl
abbrev kX5_owedOn : Cond := .code yX5_owedOn cX5_owedOn 5 (some .int)
theorem mcX5_owedOn : kX5_owedOn ∈ BIG := bg (inT5 (List.mem_of_getElem? (i := 38) (by decide +kernel))) rfl
abbrev kX5_owed : Cond := .code yX5_owed cX5_owed 2 (some .int)
theorem mcX5_owed : kX5_owed ∈ BIG := bg (inT5 (List.mem_of_getElem? (i := 34) (by decide +kernel))) rfl
abbrev kX5_balance : Cond := .code yX5_balance cX5_balance 4 (some .int)
theorem mcX5_balance : kX5_balance ∈ BIG := bg (inT5 (List.mem_of_getElem? (i := 42) (by decide +kernel))) rfl
abbrev kX5_firstIn : Cond := .code yX5_firstIn cX5_firstIn 4 (some .int)
theorem mcX5_firstIn : kX5_firstIn ∈ BIG := bg (inT5 (List.mem_of_getElem? (i := 50) (by decide +kernel))) rfl
abbrev kX5_names : Cond := .code yX5_names cX5_names 5 (some .int)
theorem mcX5_names : kX5_names ∈ BIG := bg (inT5 (List.mem_of_getElem? (i := 46) (by decide +kernel))) rfl
abbrev kX5_next : Cond := .code yX5_next cX5_next 4 (some .int)
theorem mcX5_next : kX5_next ∈ BIG := bg (inT5 (List.mem_of_getElem? (i := 54) (by decide +kernel))) rfl
abbrev kX5_year : Cond := .code yX5_year cX5_year 8 (some .int)
theorem mcX5_year : kX5_year ∈ BIG := bg (inT5 (List.mem_of_getElem? (i := 58) (by decide +kernel))) rfl
abbrev kX5_keep : Cond := .code yX5_keep cX5_keep 1 (some .int)
theorem mcX5_keep : kX5_keep ∈ BIG := bg (inT5 (List.mem_of_getElem? (i := 66) (by decide +kernel))) rfl
abbrev kX5_back : Cond := .code yX5_back cX5_back 2 (some .int)
theorem mcX5_back : kX5_back ∈ BIG := bg (inT5 (List.mem_of_getElem? (i := 70) (by decide +kernel))) rfl
abbrev kX5_doubles : Cond := .code yX5_doubles cX5_doubles 3 (some .int)
theorem mcX5_doubles : kX5_doubles ∈ BIG := bg (inT5 (List.mem_of_getElem? (i := 78) (by decide +kernel))) rfl
abbrev kX5_count : Cond := .code yX5_count cX5_count 2 (some .int)
theorem mcX5_count : kX5_count ∈ BIG := bg (inT5 (List.mem_of_getElem? (i := 74) (by decide +kernel))) rfl
abbrev kJ6_bitCount_0f7a4 : Cond := .code yJ6_bitCount_0f7a4 cJ6_bitCount_0f7a4 1 (some .int)
theorem mcJ6_bitCount_0f7a4 : kJ6_bitCount_0f7a4 ∈ BIG := bg (inT3 (List.mem_of_getElem? (i := 78) (by decide +kernel))) rfl
theorem iniJ6 : Cond.initialized RJ6 ∈ BIG := bg (inT1 (List.mem_of_getElem? (i := 12) (by decide +kernel))) rfl
theorem iniX0 : Cond.initialized RX0 ∈ BIG := bg (inT1 (List.mem_of_getElem? (i := 4) (by decide +kernel))) rfl
theorem iniX1 : Cond.initialized RX1 ∈ BIG := bg (inT1 (List.mem_of_getElem? (i := 5) (by decide +kernel))) rfl
theorem iniX2 : Cond.initialized RX2 ∈ BIG := bg (inT1 (List.mem_of_getElem? (i := 2) (by decide +kernel))) rfl
theorem iniX3 : Cond.initialized RX3 ∈ BIG := bg (inT1 (List.mem_of_getElem? (i := 3) (by decide +kernel))) rfl
theorem iniX4 : Cond.initialized RX4 ∈ BIG := bg (inT1 (List.mem_of_getElem? (i := 1) (by decide +kernel))) rfl
theorem iniX5 : Cond.initialized RX5 ∈ BIG := bg (inT1 (List.mem_of_getElem? (i := 11) (by decide +kernel))) rfl
theorem imX0_init : Cond.instanceMethod yX0_init ∈ BIG := bg (inT1 (List.mem_of_getElem? (i := 103) (by decide +kernel))) rfl
theorem imX0_gather : Cond.instanceMethod yX0_gather ∈ BIG := bg (inT3 (List.mem_of_getElem? (i := 12) (by decide +kernel))) rfl
theorem seX0_gather : Cond.selects RX0 yX0_gather yX0_gather ∈ BIG := bg (inT3 (List.mem_of_getElem? (i := 13) (by decide +kernel))) rfl
theorem imX0_minutesByNumber : Cond.instanceMethod yX0_minutesByNumber ∈ BIG := bg (inT3 (List.mem_of_getElem? (i := 23) (by decide +kernel))) rfl
theorem seX0_minutesByNumber : Cond.selects RX0 yX0_minutesByNumber yX0_minutesByNumber ∈ BIG := bg (inT3 (List.mem_of_getElem? (i := 24) (by decide +kernel))) rfl
theorem imX0_tryAllOrders : Cond.instanceMethod yX0_tryAllOrders ∈ BIG := bg (inT3 (List.mem_of_getElem? (i := 56) (by decide +kernel))) rfl
theorem seX0_tryAllOrders : Cond.selects RX0 yX0_tryAllOrders yX0_tryAllOrders ∈ BIG := bg (inT3 (List.mem_of_getElem? (i := 57) (by decide +kernel))) rfl
theorem imX0_soonestOf : Cond.instanceMethod yX0_soonestOf ∈ BIG := bg (inT3 (List.mem_of_getElem? (i := 69) (by decide +kernel))) rfl
theorem seX0_soonestOf : Cond.selects RX0 yX0_soonestOf yX0_soonestOf ∈ BIG := bg (inT3 (List.mem_of_getElem? (i := 70) (by decide +kernel))) rfl
theorem imX0_inBestOrder : Cond.instanceMethod yX0_inBestOrder ∈ BIG := bg (inT3 (List.mem_of_getElem? (i := 73) (by decide +kernel))) rfl
theorem seX0_inBestOrder : Cond.selects RX0 yX0_inBestOrder yX0_inBestOrder ∈ BIG := bg (inT3 (List.mem_of_getElem? (i := 74) (by decide +kernel))) rfl
theorem imX0_fewestToStay : Cond.instanceMethod yX0_fewestToStay ∈ BIG := bg (inT3 (List.mem_of_getElem? (i := 91) (by decide +kernel))) rfl
theorem seX0_fewestToStay : Cond.selects RX0 yX0_fewestToStay yX0_fewestToStay ∈ BIG := bg (inT3 (List.mem_of_getElem? (i := 92) (by decide +kernel))) rfl
theorem imX0_tryBehind : Cond.instanceMethod yX0_tryBehind ∈ BIG := bg (inT3 (List.mem_of_getElem? (i := 62) (by decide +kernel))) rfl
theorem seX0_tryBehind : Cond.selects RX0 yX0_tryBehind yX0_tryBehind ∈ BIG := bg (inTp2 (List.mem_of_getElem? (i := 3) (by decide +kernel))) rfl
theorem imX0_note : Cond.instanceMethod yX0_note ∈ BIG := bg (inT3 (List.mem_of_getElem? (i := 66) (by decide +kernel))) rfl
theorem seX0_note : Cond.selects RX0 yX0_note yX0_note ∈ BIG := bg (inTp2 (List.mem_of_getElem? (i := 4) (by decide +kernel))) rfl
theorem imX0_isGoer : Cond.instanceMethod yX0_isGoer ∈ BIG := bg (inT3 (List.mem_of_getElem? (i := 32) (by decide +kernel))) rfl
theorem seX0_isGoer : Cond.selects RX0 yX0_isGoer yX0_isGoer ∈ BIG := bg (inTp1 (List.mem_of_getElem? (i := 14) (by decide +kernel))) rfl
theorem imX0_isSomebodyYonder : Cond.instanceMethod yX0_isSomebodyYonder ∈ BIG := bg (inT3 (List.mem_of_getElem? (i := 40) (by decide +kernel))) rfl
theorem seX0_isSomebodyYonder : Cond.selects RX0 yX0_isSomebodyYonder yX0_isSomebodyYonder ∈ BIG := bg (inTp2 (List.mem_of_getElem? (i := 0) (by decide +kernel))) rfl
theorem imX0_begin : Cond.instanceMethod yX0_begin ∈ BIG := bg (inT3 (List.mem_of_getElem? (i := 28) (by decide +kernel))) rfl
theorem seX0_begin : Cond.selects RX0 yX0_begin yX0_begin ∈ BIG := bg (inTp1 (List.mem_of_getElem? (i := 13) (by decide +kernel))) rfl
theorem imX0_sendOver : Cond.instanceMethod yX0_sendOver ∈ BIG := bg (inT3 (List.mem_of_getElem? (i := 36) (by decide +kernel))) rfl
theorem seX0_sendOver : Cond.selects RX0 yX0_sendOver yX0_sendOver ∈ BIG := bg (inTp1 (List.mem_of_getElem? (i := 15) (by decide +kernel))) rfl
theorem imX0_bringBack : Cond.instanceMethod yX0_bringBack ∈ BIG := bg (inT3 (List.mem_of_getElem? (i := 44) (by decide +kernel))) rfl
theorem seX0_bringBack : Cond.selects RX0 yX0_bringBack yX0_bringBack ∈ BIG := bg (inTp2 (List.mem_of_getElem? (i := 1) (by decide +kernel))) rfl
theorem imX0_whenAllAreBack : Cond.instanceMethod yX0_whenAllAreBack ∈ BIG := bg (inT3 (List.mem_of_getElem? (i := 48) (by decide +kernel))) rfl
theorem seX0_whenAllAreBack : Cond.selects RX0 yX0_whenAllAreBack yX0_whenAllAreBack ∈ BIG := bg (inTp2 (List.mem_of_getElem? (i := 2) (by decide +kernel))) rfl
theorem imX1_init : Cond.instanceMethod yX1_init ∈ BIG := bg (inT1 (List.mem_of_getElem? (i := 144) (by decide +kernel))) rfl
theorem imX1_clear : Cond.instanceMethod yX1_clear ∈ BIG := bg (inT2 (List.mem_of_getElem? (i := 112) (by decide +kernel))) rfl
theorem seX1_clear : Cond.selects RX1 yX1_clear yX1_clear ∈ BIG := bg (inT2 (List.mem_of_getElem? (i := 113) (by decide +kernel))) rfl
theorem imX1_put : Cond.instanceMethod yX1_put ∈ BIG := bg (inT2 (List.mem_of_getElem? (i := 164) (by decide +kernel))) rfl
theorem seX1_put : Cond.selects RX1 yX1_put yX1_put ∈ BIG := bg (inT2 (List.mem_of_getElem? (i := 165) (by decide +kernel))) rfl
theorem imX1_take : Cond.instanceMethod yX1_take ∈ BIG := bg (inT2 (List.mem_of_getElem? (i := 200) (by decide +kernel))) rfl
theorem seX1_take : Cond.selects RX1 yX1_take yX1_take ∈ BIG := bg (inT2 (List.mem_of_getElem? (i := 201) (by decide +kernel))) rfl
theorem imX1_dropOldest : Cond.instanceMethod yX1_dropOldest ∈ BIG := bg (inT2 (List.mem_of_getElem? (i := 169) (by decide +kernel))) rfl
theorem seX1_dropOldest : Cond.selects RX1 yX1_dropOldest yX1_dropOldest ∈ BIG := bg (inTp1 (List.mem_of_getElem? (i := 7) (by decide +kernel))) rfl
theorem imX2_init : Cond.instanceMethod yX2_init ∈ BIG := bg (inT1 (List.mem_of_getElem? (i := 24) (by decide +kernel))) rfl
theorem imX2_append : Cond.instanceMethod yX2_append ∈ BIG := bg (inT1 (List.mem_of_getElem? (i := 211) (by decide +kernel))) rfl
theorem seX2_append : Cond.selects RX2 yX2_append yX2_append ∈ BIG := bg (inT1 (List.mem_of_getElem? (i := 212) (by decide +kernel))) rfl
theorem imX2_tellAll : Cond.instanceMethod yX2_tellAll ∈ BIG := bg (inT1 (List.mem_of_getElem? (i := 215) (by decide +kernel))) rfl
theorem seX2_tellAll : Cond.selects RX2 yX2_tellAll yX2_tellAll ∈ BIG := bg (inT1 (List.mem_of_getElem? (i := 216) (by decide +kernel))) rfl
theorem imX2_tellItem : Cond.instanceMethod yX2_tellItem ∈ BIG := bg (inT1 (List.mem_of_getElem? (i := 239) (by decide +kernel))) rfl
theorem seX2_tellItem : Cond.selects RX2 yX2_tellItem yX2_tellItem ∈ BIG := bg (inTp1 (List.mem_of_getElem? (i := 4) (by decide +kernel))) rfl
theorem smX2_numbersBehind : Cond.static yX2_numbersBehind ∈ BIG := bg (inT1 (List.mem_of_getElem? (i := 224) (by decide +kernel))) rfl
theorem imX2_readNumbers : Cond.instanceMethod yX2_readNumbers ∈ BIG := bg (inT1 (List.mem_of_getElem? (i := 228) (by decide +kernel))) rfl
theorem seX2_readNumbers : Cond.selects RX2 yX2_readNumbers yX2_readNumbers ∈ BIG := bg (inTp1 (List.mem_of_getElem? (i := 2) (by decide +kernel))) rfl
theorem imX2_readFigures : Cond.instanceMethod yX2_readFigures ∈ BIG := bg (inT1 (List.mem_of_getElem? (i := 235) (by decide +kernel))) rfl
theorem seX2_readFigures : Cond.selects RX2 yX2_readFigures yX2_readFigures ∈ BIG := bg (inTp1 (List.mem_of_getElem? (i := 3) (by decide +kernel))) rfl
theorem smX2_isFigure : Cond.static yX2_isFigure ∈ BIG := bg (inT1 (List.mem_of_getElem? (i := 231) (by decide +kernel))) rfl
theorem imX2_letterAt : Cond.instanceMethod yX2_letterAt ∈ BIG := bg (inT1 (List.mem_of_getElem? (i := 221) (by decide +kernel))) rfl
theorem seX2_letterAt : Cond.selects RX2 yX2_letterAt yX2_letterAt ∈ BIG := bg (inTp1 (List.mem_of_getElem? (i := 1) (by decide +kernel))) rfl
theorem imX3_init : Cond.instanceMethod yX3_init ∈ BIG := bg (inT1 (List.mem_of_getElem? (i := 49) (by decide +kernel))) rfl
theorem imX3_empty : Cond.instanceMethod yX3_empty ∈ BIG := bg (inT1 (List.mem_of_getElem? (i := 53) (by decide +kernel))) rfl
theorem seX3_empty : Cond.selects RX3 yX3_empty yX3_empty ∈ BIG := bg (inT1 (List.mem_of_getElem? (i := 54) (by decide +kernel))) rfl
theorem imX3_copyFrom : Cond.instanceMethod yX3_copyFrom ∈ BIG := bg (inT2 (List.mem_of_getElem? (i := 108) (by decide +kernel))) rfl
theorem seX3_copyFrom : Cond.selects RX3 yX3_copyFrom yX3_copyFrom ∈ BIG := bg (inT2 (List.mem_of_getElem? (i := 109) (by decide +kernel))) rfl
theorem imX3_hasDead : Cond.instanceMethod yX3_hasDead ∈ BIG := bg (inT2 (List.mem_of_getElem? (i := 23) (by decide +kernel))) rfl
theorem seX3_hasDead : Cond.selects RX3 yX3_hasDead yX3_hasDead ∈ BIG := bg (inT2 (List.mem_of_getElem? (i := 24) (by decide +kernel))) rfl
theorem imX3_hasPlot : Cond.instanceMethod yX3_hasPlot ∈ BIG := bg (inT2 (List.mem_of_getElem? (i := 48) (by decide +kernel))) rfl
theorem seX3_hasPlot : Cond.selects RX3 yX3_hasPlot yX3_hasPlot ∈ BIG := bg (inT2 (List.mem_of_getElem? (i := 49) (by decide +kernel))) rfl
theorem imX3_hasVisitor : Cond.instanceMethod yX3_hasVisitor ∈ BIG := bg (inT2 (List.mem_of_getElem? (i := 146) (by decide +kernel))) rfl
theorem seX3_hasVisitor : Cond.selects RX3 yX3_hasVisitor yX3_hasVisitor ∈ BIG := bg (inT2 (List.mem_of_getElem? (i := 147) (by decide +kernel))) rfl
theorem imX3_villageOf : Cond.instanceMethod yX3_villageOf ∈ BIG := bg (inT2 (List.mem_of_getElem? (i := 19) (by decide +kernel))) rfl
theorem seX3_villageOf : Cond.selects RX3 yX3_villageOf yX3_villageOf ∈ BIG := bg (inT2 (List.mem_of_getElem? (i := 20) (by decide +kernel))) rfl
theorem imX3_kindOf : Cond.instanceMethod yX3_kindOf ∈ BIG := bg (inT2 (List.mem_of_getElem? (i := 27) (by decide +kernel))) rfl
theorem seX3_kindOf : Cond.selects RX3 yX3_kindOf yX3_kindOf ∈ BIG := bg (inT2 (List.mem_of_getElem? (i := 28) (by decide +kernel))) rfl
theorem imX3_forgivenOf : Cond.instanceMethod yX3_forgivenOf ∈ BIG := bg (inT2 (List.mem_of_getElem? (i := 31) (by decide +kernel))) rfl
theorem seX3_forgivenOf : Cond.selects RX3 yX3_forgivenOf yX3_forgivenOf ∈ BIG := bg (inT2 (List.mem_of_getElem? (i := 32) (by decide +kernel))) rfl
theorem imX3_visitedBy : Cond.instanceMethod yX3_visitedBy ∈ BIG := bg (inT2 (List.mem_of_getElem? (i := 150) (by decide +kernel))) rfl
theorem seX3_visitedBy : Cond.selects RX3 yX3_visitedBy yX3_visitedBy ∈ BIG := bg (inT2 (List.mem_of_getElem? (i := 151) (by decide +kernel))) rfl
theorem imX3_minutesOf : Cond.instanceMethod yX3_minutesOf ∈ BIG := bg (inT2 (List.mem_of_getElem? (i := 155) (by decide +kernel))) rfl
theorem seX3_minutesOf : Cond.selects RX3 yX3_minutesOf yX3_minutesOf ∈ BIG := bg (inT2 (List.mem_of_getElem? (i := 156) (by decide +kernel))) rfl
theorem imX3_whoLies : Cond.instanceMethod yX3_whoLies ∈ BIG := bg (inT2 (List.mem_of_getElem? (i := 39) (by decide +kernel))) rfl
theorem seX3_whoLies : Cond.selects RX3 yX3_whoLies yX3_whoLies ∈ BIG := bg (inT2 (List.mem_of_getElem? (i := 40) (by decide +kernel))) rfl
theorem imX3_plotOf : Cond.instanceMethod yX3_plotOf ∈ BIG := bg (inT2 (List.mem_of_getElem? (i := 124) (by decide +kernel))) rfl
theorem seX3_plotOf : Cond.selects RX3 yX3_plotOf yX3_plotOf ∈ BIG := bg (inT2 (List.mem_of_getElem? (i := 125) (by decide +kernel))) rfl
theorem imX3_plotOfDouble : Cond.instanceMethod yX3_plotOfDouble ∈ BIG := bg (inT2 (List.mem_of_getElem? (i := 132) (by decide +kernel))) rfl
theorem seX3_plotOfDouble : Cond.selects RX3 yX3_plotOfDouble yX3_plotOfDouble ∈ BIG := bg (inT2 (List.mem_of_getElem? (i := 133) (by decide +kernel))) rfl
theorem imX3_placeIn : Cond.instanceMethod yX3_placeIn ∈ BIG := bg (inT2 (List.mem_of_getElem? (i := 128) (by decide +kernel))) rfl
theorem seX3_placeIn : Cond.selects RX3 yX3_placeIn yX3_placeIn ∈ BIG := bg (inT2 (List.mem_of_getElem? (i := 129) (by decide +kernel))) rfl
theorem imX3_setForgiven : Cond.instanceMethod yX3_setForgiven ∈ BIG := bg (inT2 (List.mem_of_getElem? (i := 186) (by decide +kernel))) rfl
theorem seX3_setForgiven : Cond.selects RX3 yX3_setForgiven yX3_setForgiven ∈ BIG := bg (inT2 (List.mem_of_getElem? (i := 187) (by decide +kernel))) rfl
theorem imX3_addVisitor : Cond.instanceMethod yX3_addVisitor ∈ BIG := bg (inT2 (List.mem_of_getElem? (i := 56) (by decide +kernel))) rfl
theorem seX3_addVisitor : Cond.selects RX3 yX3_addVisitor yX3_addVisitor ∈ BIG := bg (inT2 (List.mem_of_getElem? (i := 57) (by decide +kernel))) rfl
theorem imX3_addDead : Cond.instanceMethod yX3_addDead ∈ BIG := bg (inT2 (List.mem_of_getElem? (i := 11) (by decide +kernel))) rfl
theorem seX3_addDead : Cond.selects RX3 yX3_addDead yX3_addDead ∈ BIG := bg (inT2 (List.mem_of_getElem? (i := 12) (by decide +kernel))) rfl
theorem imX3_digAllAnew : Cond.instanceMethod yX3_digAllAnew ∈ BIG := bg (inT2 (List.mem_of_getElem? (i := 212) (by decide +kernel))) rfl
theorem seX3_digAllAnew : Cond.selects RX3 yX3_digAllAnew yX3_digAllAnew ∈ BIG := bg (inT2 (List.mem_of_getElem? (i := 213) (by decide +kernel))) rfl
theorem imX3_swap : Cond.instanceMethod yX3_swap ∈ BIG := bg (inT2 (List.mem_of_getElem? (i := 178) (by decide +kernel))) rfl
theorem seX3_swap : Cond.selects RX3 yX3_swap yX3_swap ∈ BIG := bg (inT2 (List.mem_of_getElem? (i := 179) (by decide +kernel))) rfl
theorem imX3_freePlot : Cond.instanceMethod yX3_freePlot ∈ BIG := bg (inT2 (List.mem_of_getElem? (i := 35) (by decide +kernel))) rfl
theorem seX3_freePlot : Cond.selects RX3 yX3_freePlot yX3_freePlot ∈ BIG := bg (inT2 (List.mem_of_getElem? (i := 36) (by decide +kernel))) rfl
theorem imX3_owedOf : Cond.instanceMethod yX3_owedOf ∈ BIG := bg (inT3 (List.mem_of_getElem? (i := 116) (by decide +kernel))) rfl
theorem seX3_owedOf : Cond.selects RX3 yX3_owedOf yX3_owedOf ∈ BIG := bg (inT3 (List.mem_of_getElem? (i := 117) (by decide +kernel))) rfl
theorem imX3_forgivenOfAllWhoLie : Cond.instanceMethod yX3_forgivenOfAllWhoLie ∈ BIG := bg (inT3 (List.mem_of_getElem? (i := 134) (by decide +kernel))) rfl
theorem seX3_forgivenOfAllWhoLie : Cond.selects RX3 yX3_forgivenOfAllWhoLie yX3_forgivenOfAllWhoLie ∈ BIG := bg (inT3 (List.mem_of_getElem? (i := 135) (by decide +kernel))) rfl
theorem imX3_allWhoLie : Cond.instanceMethod yX3_allWhoLie ∈ BIG := bg (inT3 (List.mem_of_getElem? (i := 124) (by decide +kernel))) rfl
theorem seX3_allWhoLie : Cond.selects RX3 yX3_allWhoLie yX3_allWhoLie ∈ BIG := bg (inT3 (List.mem_of_getElem? (i := 125) (by decide +kernel))) rfl
theorem imX3_allOfVillage : Cond.instanceMethod yX3_allOfVillage ∈ BIG := bg (inT3 (List.mem_of_getElem? (i := 120) (by decide +kernel))) rfl
theorem seX3_allOfVillage : Cond.selects RX3 yX3_allOfVillage yX3_allOfVillage ∈ BIG := bg (inT3 (List.mem_of_getElem? (i := 121) (by decide +kernel))) rfl
theorem imX3_doubles : Cond.instanceMethod yX3_doubles ∈ BIG := bg (inT3 (List.mem_of_getElem? (i := 180) (by decide +kernel))) rfl
theorem seX3_doubles : Cond.selects RX3 yX3_doubles yX3_doubles ∈ BIG := bg (inT3 (List.mem_of_getElem? (i := 181) (by decide +kernel))) rfl
theorem imX3_fewestChanges : Cond.instanceMethod yX3_fewestChanges ∈ BIG := bg (inT2 (List.mem_of_getElem? (i := 228) (by decide +kernel))) rfl
theorem seX3_fewestChanges : Cond.selects RX3 yX3_fewestChanges yX3_fewestChanges ∈ BIG := bg (inT2 (List.mem_of_getElem? (i := 229) (by decide +kernel))) rfl
theorem imX3_sameLie : Cond.instanceMethod yX3_sameLie ∈ BIG := bg (inT2 (List.mem_of_getElem? (i := 233) (by decide +kernel))) rfl
theorem seX3_sameLie : Cond.selects RX3 yX3_sameLie yX3_sameLie ∈ BIG := bg (inTp1 (List.mem_of_getElem? (i := 10) (by decide +kernel))) rfl
theorem imX3_goalOf : Cond.instanceMethod yX3_goalOf ∈ BIG := bg (inT2 (List.mem_of_getElem? (i := 237) (by decide +kernel))) rfl
theorem seX3_goalOf : Cond.selects RX3 yX3_goalOf yX3_goalOf ∈ BIG := bg (inTp1 (List.mem_of_getElem? (i := 11) (by decide +kernel))) rfl
theorem imX3_isLowestOfRing : Cond.instanceMethod yX3_isLowestOfRing ∈ BIG := bg (inT3 (List.mem_of_getElem? (i := 1) (by decide +kernel))) rfl
theorem seX3_isLowestOfRing : Cond.selects RX3 yX3_isLowestOfRing yX3_isLowestOfRing ∈ BIG := bg (inTp1 (List.mem_of_getElem? (i := 12) (by decide +kernel))) rfl
theorem imX3_dig : Cond.instanceMethod yX3_dig ∈ BIG := bg (inT2 (List.mem_of_getElem? (i := 16) (by decide +kernel))) rfl
theorem seX3_dig : Cond.selects RX3 yX3_dig yX3_dig ∈ BIG := bg (inTp1 (List.mem_of_getElem? (i := 5) (by decide +kernel))) rfl
theorem imX3_put : Cond.instanceMethod yX3_put ∈ BIG := bg (inT2 (List.mem_of_getElem? (i := 44) (by decide +kernel))) rfl
theorem seX3_put : Cond.selects RX3 yX3_put yX3_put ∈ BIG := bg (inTp1 (List.mem_of_getElem? (i := 6) (by decide +kernel))) rfl
theorem imX3_freeAll : Cond.instanceMethod yX3_freeAll ∈ BIG := bg (inT1 (List.mem_of_getElem? (i := 58) (by decide +kernel))) rfl
theorem seX3_freeAll : Cond.selects RX3 yX3_freeAll yX3_freeAll ∈ BIG := bg (inTp1 (List.mem_of_getElem? (i := 0) (by decide +kernel))) rfl
theorem imX4_init : Cond.instanceMethod yX4_init ∈ BIG := bg (inT1 (List.mem_of_getElem? (i := 16) (by decide +kernel))) rfl
theorem imX4_write : Cond.instanceMethod yX4_write ∈ BIG := bg (inT2 (List.mem_of_getElem? (i := 92) (by decide +kernel))) rfl
theorem seX4_write : Cond.selects RX4 yX4_write yX4_write ∈ BIG := bg (inT2 (List.mem_of_getElem? (i := 93) (by decide +kernel))) rfl
theorem imX4_wipe : Cond.instanceMethod yX4_wipe ∈ BIG := bg (inT2 (List.mem_of_getElem? (i := 96) (by decide +kernel))) rfl
theorem seX4_wipe : Cond.selects RX4 yX4_wipe yX4_wipe ∈ BIG := bg (inT2 (List.mem_of_getElem? (i := 97) (by decide +kernel))) rfl
theorem imX4_fault : Cond.instanceMethod yX4_fault ∈ BIG := bg (inT2 (List.mem_of_getElem? (i := 100) (by decide +kernel))) rfl
theorem seX4_fault : Cond.selects RX4 yX4_fault yX4_fault ∈ BIG := bg (inT2 (List.mem_of_getElem? (i := 101) (by decide +kernel))) rfl
theorem imX4_lay : Cond.instanceMethod yX4_lay ∈ BIG := bg (inT2 (List.mem_of_getElem? (i := 104) (by decide +kernel))) rfl
theorem seX4_lay : Cond.selects RX4 yX4_lay yX4_lay ∈ BIG := bg (inT2 (List.mem_of_getElem? (i := 105) (by decide +kernel))) rfl
theorem imX4_dead : Cond.instanceMethod yX4_dead ∈ BIG := bg (inT2 (List.mem_of_getElem? (i := 116) (by decide +kernel))) rfl
theorem seX4_dead : Cond.selects RX4 yX4_dead yX4_dead ∈ BIG := bg (inT2 (List.mem_of_getElem? (i := 117) (by decide +kernel))) rfl
theorem imX4_plot : Cond.instanceMethod yX4_plot ∈ BIG := bg (inT2 (List.mem_of_getElem? (i := 136) (by decide +kernel))) rfl
theorem seX4_plot : Cond.selects RX4 yX4_plot yX4_plot ∈ BIG := bg (inT2 (List.mem_of_getElem? (i := 137) (by decide +kernel))) rfl
theorem imX4_visitor : Cond.instanceMethod yX4_visitor ∈ BIG := bg (inT2 (List.mem_of_getElem? (i := 142) (by decide +kernel))) rfl
theorem seX4_visitor : Cond.selects RX4 yX4_visitor yX4_visitor ∈ BIG := bg (inT2 (List.mem_of_getElem? (i := 143) (by decide +kernel))) rfl
theorem imX4_bury : Cond.instanceMethod yX4_bury ∈ BIG := bg (inT2 (List.mem_of_getElem? (i := 159) (by decide +kernel))) rfl
theorem seX4_bury : Cond.selects RX4 yX4_bury yX4_bury ∈ BIG := bg (inT2 (List.mem_of_getElem? (i := 160) (by decide +kernel))) rfl
theorem imX4_change : Cond.instanceMethod yX4_change ∈ BIG := bg (inT2 (List.mem_of_getElem? (i := 174) (by decide +kernel))) rfl
theorem seX4_change : Cond.selects RX4 yX4_change yX4_change ∈ BIG := bg (inT2 (List.mem_of_getElem? (i := 175) (by decide +kernel))) rfl
theorem imX4_forgive : Cond.instanceMethod yX4_forgive ∈ BIG := bg (inT2 (List.mem_of_getElem? (i := 182) (by decide +kernel))) rfl
theorem seX4_forgive : Cond.selects RX4 yX4_forgive yX4_forgive ∈ BIG := bg (inT2 (List.mem_of_getElem? (i := 183) (by decide +kernel))) rfl
theorem imX4_visit : Cond.instanceMethod yX4_visit ∈ BIG := bg (inT2 (List.mem_of_getElem? (i := 190) (by decide +kernel))) rfl
theorem seX4_visit : Cond.selects RX4 yX4_visit yX4_visit ∈ BIG := bg (inT2 (List.mem_of_getElem? (i := 191) (by decide +kernel))) rfl
theorem imX4_undo : Cond.instanceMethod yX4_undo ∈ BIG := bg (inT2 (List.mem_of_getElem? (i := 196) (by decide +kernel))) rfl
theorem seX4_undo : Cond.selects RX4 yX4_undo yX4_undo ∈ BIG := bg (inT2 (List.mem_of_getElem? (i := 197) (by decide +kernel))) rfl
theorem imX4_right : Cond.instanceMethod yX4_right ∈ BIG := bg (inT2 (List.mem_of_getElem? (i := 204) (by decide +kernel))) rfl
theorem seX4_right : Cond.selects RX4 yX4_right yX4_right ∈ BIG := bg (inT2 (List.mem_of_getElem? (i := 205) (by decide +kernel))) rfl
theorem imX4_moved : Cond.instanceMethod yX4_moved ∈ BIG := bg (inT2 (List.mem_of_getElem? (i := 216) (by decide +kernel))) rfl
theorem seX4_moved : Cond.selects RX4 yX4_moved yX4_moved ∈ BIG := bg (inT2 (List.mem_of_getElem? (i := 217) (by decide +kernel))) rfl
theorem imX4_mend : Cond.instanceMethod yX4_mend ∈ BIG := bg (inT2 (List.mem_of_getElem? (i := 224) (by decide +kernel))) rfl
theorem seX4_mend : Cond.selects RX4 yX4_mend yX4_mend ∈ BIG := bg (inT2 (List.mem_of_getElem? (i := 225) (by decide +kernel))) rfl
theorem imX4_grudge : Cond.instanceMethod yX4_grudge ∈ BIG := bg (inT3 (List.mem_of_getElem? (i := 4) (by decide +kernel))) rfl
theorem seX4_grudge : Cond.selects RX4 yX4_grudge yX4_grudge ∈ BIG := bg (inT3 (List.mem_of_getElem? (i := 5) (by decide +kernel))) rfl
theorem imX4_takes : Cond.instanceMethod yX4_takes ∈ BIG := bg (inT3 (List.mem_of_getElem? (i := 8) (by decide +kernel))) rfl
theorem seX4_takes : Cond.selects RX4 yX4_takes yX4_takes ∈ BIG := bg (inT3 (List.mem_of_getElem? (i := 9) (by decide +kernel))) rfl
theorem imX4_tour : Cond.instanceMethod yX4_tour ∈ BIG := bg (inT3 (List.mem_of_getElem? (i := 52) (by decide +kernel))) rfl
theorem seX4_tour : Cond.selects RX4 yX4_tour yX4_tour ∈ BIG := bg (inT3 (List.mem_of_getElem? (i := 53) (by decide +kernel))) rfl
theorem imX4_enough : Cond.instanceMethod yX4_enough ∈ BIG := bg (inT3 (List.mem_of_getElem? (i := 83) (by decide +kernel))) rfl
theorem seX4_enough : Cond.selects RX4 yX4_enough yX4_enough ∈ BIG := bg (inT3 (List.mem_of_getElem? (i := 84) (by decide +kernel))) rfl
theorem imX4_leave : Cond.instanceMethod yX4_leave ∈ BIG := bg (inT3 (List.mem_of_getElem? (i := 87) (by decide +kernel))) rfl
theorem seX4_leave : Cond.selects RX4 yX4_leave yX4_leave ∈ BIG := bg (inT3 (List.mem_of_getElem? (i := 88) (by decide +kernel))) rfl
theorem imX4_seen : Cond.instanceMethod yX4_seen ∈ BIG := bg (inT3 (List.mem_of_getElem? (i := 96) (by decide +kernel))) rfl
theorem seX4_seen : Cond.selects RX4 yX4_seen yX4_seen ∈ BIG := bg (inT3 (List.mem_of_getElem? (i := 97) (by decide +kernel))) rfl
theorem imX4_forget : Cond.instanceMethod yX4_forget ∈ BIG := bg (inT3 (List.mem_of_getElem? (i := 100) (by decide +kernel))) rfl
theorem seX4_forget : Cond.selects RX4 yX4_forget yX4_forget ∈ BIG := bg (inT3 (List.mem_of_getElem? (i := 101) (by decide +kernel))) rfl
theorem imX4_was : Cond.instanceMethod yX4_was ∈ BIG := bg (inT3 (List.mem_of_getElem? (i := 104) (by decide +kernel))) rfl
theorem seX4_was : Cond.selects RX4 yX4_was yX4_was ∈ BIG := bg (inT3 (List.mem_of_getElem? (i := 105) (by decide +kernel))) rfl
theorem imX4_owed : Cond.instanceMethod yX4_owed ∈ BIG := bg (inT3 (List.mem_of_getElem? (i := 112) (by decide +kernel))) rfl
theorem seX4_owed : Cond.selects RX4 yX4_owed yX4_owed ∈ BIG := bg (inT3 (List.mem_of_getElem? (i := 113) (by decide +kernel))) rfl
theorem imX4_balance : Cond.instanceMethod yX4_balance ∈ BIG := bg (inT3 (List.mem_of_getElem? (i := 130) (by decide +kernel))) rfl
theorem seX4_balance : Cond.selects RX4 yX4_balance yX4_balance ∈ BIG := bg (inT3 (List.mem_of_getElem? (i := 131) (by decide +kernel))) rfl
theorem imX4_names : Cond.instanceMethod yX4_names ∈ BIG := bg (inT3 (List.mem_of_getElem? (i := 138) (by decide +kernel))) rfl
theorem seX4_names : Cond.selects RX4 yX4_names yX4_names ∈ BIG := bg (inT3 (List.mem_of_getElem? (i := 139) (by decide +kernel))) rfl
theorem imX4_next : Cond.instanceMethod yX4_next ∈ BIG := bg (inT3 (List.mem_of_getElem? (i := 148) (by decide +kernel))) rfl
theorem seX4_next : Cond.selects RX4 yX4_next yX4_next ∈ BIG := bg (inT3 (List.mem_of_getElem? (i := 149) (by decide +kernel))) rfl
theorem imX4_year : Cond.instanceMethod yX4_year ∈ BIG := bg (inT3 (List.mem_of_getElem? (i := 153) (by decide +kernel))) rfl
theorem seX4_year : Cond.selects RX4 yX4_year yX4_year ∈ BIG := bg (inT3 (List.mem_of_getElem? (i := 154) (by decide +kernel))) rfl
theorem imX4_keep : Cond.instanceMethod yX4_keep ∈ BIG := bg (inT3 (List.mem_of_getElem? (i := 168) (by decide +kernel))) rfl
theorem seX4_keep : Cond.selects RX4 yX4_keep yX4_keep ∈ BIG := bg (inT3 (List.mem_of_getElem? (i := 169) (by decide +kernel))) rfl
theorem imX4_back : Cond.instanceMethod yX4_back ∈ BIG := bg (inT3 (List.mem_of_getElem? (i := 172) (by decide +kernel))) rfl
theorem seX4_back : Cond.selects RX4 yX4_back yX4_back ∈ BIG := bg (inT3 (List.mem_of_getElem? (i := 173) (by decide +kernel))) rfl
theorem imX4_count : Cond.instanceMethod yX4_count ∈ BIG := bg (inT3 (List.mem_of_getElem? (i := 176) (by decide +kernel))) rfl
theorem seX4_count : Cond.selects RX4 yX4_count yX4_count ∈ BIG := bg (inT3 (List.mem_of_getElem? (i := 177) (by decide +kernel))) rfl
theorem smX4_isSide : Cond.static yX4_isSide ∈ BIG := bg (inT2 (List.mem_of_getElem? (i := 5) (by decide +kernel))) rfl
theorem smX4_isForgiven : Cond.static yX4_isForgiven ∈ BIG := bg (inT2 (List.mem_of_getElem? (i := 8) (by decide +kernel))) rfl
theorem smX4_isMinutes : Cond.static yX4_isMinutes ∈ BIG := bg (inT2 (List.mem_of_getElem? (i := 53) (by decide +kernel))) rfl
theorem smX4_isOneOfTheDead : Cond.static yX4_isOneOfTheDead ∈ BIG := bg (inT2 (List.mem_of_getElem? (i := 2) (by decide +kernel))) rfl
theorem imX4_layByRight : Cond.instanceMethod yX4_layByRight ∈ BIG := bg (inT2 (List.mem_of_getElem? (i := 209) (by decide +kernel))) rfl
theorem seX4_layByRight : Cond.selects RX4 yX4_layByRight yX4_layByRight ∈ BIG := bg (inTp1 (List.mem_of_getElem? (i := 8) (by decide +kernel))) rfl
theorem imX4_movedIn : Cond.instanceMethod yX4_movedIn ∈ BIG := bg (inT2 (List.mem_of_getElem? (i := 221) (by decide +kernel))) rfl
theorem seX4_movedIn : Cond.selects RX4 yX4_movedIn yX4_movedIn ∈ BIG := bg (inTp1 (List.mem_of_getElem? (i := 9) (by decide +kernel))) rfl
theorem imX4_isAllSeenSo : Cond.instanceMethod yX4_isAllSeenSo ∈ BIG := bg (inT3 (List.mem_of_getElem? (i := 109) (by decide +kernel))) rfl
theorem seX4_isAllSeenSo : Cond.selects RX4 yX4_isAllSeenSo yX4_isAllSeenSo ∈ BIG := bg (inTp2 (List.mem_of_getElem? (i := 5) (by decide +kernel))) rfl
theorem imX4_nextWornOff : Cond.instanceMethod yX4_nextWornOff ∈ BIG := bg (inT3 (List.mem_of_getElem? (i := 144) (by decide +kernel))) rfl
theorem seX4_nextWornOff : Cond.selects RX4 yX4_nextWornOff yX4_nextWornOff ∈ BIG := bg (inTp2 (List.mem_of_getElem? (i := 6) (by decide +kernel))) rfl
theorem smX4_draw : Cond.static yX4_draw ∈ BIG := bg (inT3 (List.mem_of_getElem? (i := 157) (by decide +kernel))) rfl
theorem smX4_passWinter : Cond.static yX4_passWinter ∈ BIG := bg (inT3 (List.mem_of_getElem? (i := 164) (by decide +kernel))) rfl
theorem imX5_init : Cond.instanceMethod yX5_init ∈ BIG := bg (inT3 (List.mem_of_getElem? (i := 187) (by decide +kernel))) rfl
theorem imX5_tellsDead : Cond.instanceMethod yX5_tellsDead ∈ BIG := bg (inT3 (List.mem_of_getElem? (i := 196) (by decide +kernel))) rfl
theorem seX5_tellsDead : Cond.selects RX5 yX5_tellsDead yX5_tellsDead ∈ BIG := bg (inTp2 (List.mem_of_getElem? (i := 8) (by decide +kernel))) rfl
theorem imX5_tellsGuest : Cond.instanceMethod yX5_tellsGuest ∈ BIG := bg (inT3 (List.mem_of_getElem? (i := 200) (by decide +kernel))) rfl
theorem seX5_tellsGuest : Cond.selects RX5 yX5_tellsGuest yX5_tellsGuest ∈ BIG := bg (inTp2 (List.mem_of_getElem? (i := 9) (by decide +kernel))) rfl
theorem smX5_in : Cond.static yX5_in ∈ BIG := bg (inT4 (List.mem_of_getElem? (i := 69) (by decide +kernel))) rfl
theorem smX5_has : Cond.static yX5_has ∈ BIG := bg (inT4 (List.mem_of_getElem? (i := 221) (by decide +kernel))) rfl
theorem smX5_bits : Cond.static yX5_bits ∈ BIG := bg (inT5 (List.mem_of_getElem? (i := 17) (by decide +kernel))) rfl
theorem imX5_isDead : Cond.instanceMethod yX5_isDead ∈ BIG := bg (inT4 (List.mem_of_getElem? (i := 125) (by decide +kernel))) rfl
theorem seX5_isDead : Cond.selects RX5 yX5_isDead yX5_isDead ∈ BIG := bg (inTp3 (List.mem_of_getElem? (i := 7) (by decide +kernel))) rfl
theorem imX5_isPlot : Cond.instanceMethod yX5_isPlot ∈ BIG := bg (inT4 (List.mem_of_getElem? (i := 139) (by decide +kernel))) rfl
theorem seX5_isPlot : Cond.selects RX5 yX5_isPlot yX5_isPlot ∈ BIG := bg (inTp3 (List.mem_of_getElem? (i := 8) (by decide +kernel))) rfl
theorem imX5_write : Cond.instanceMethod yX5_write ∈ BIG := bg (inT4 (List.mem_of_getElem? (i := 65) (by decide +kernel))) rfl
theorem seX5_write : Cond.selects RX5 yX5_write yX5_write ∈ BIG := bg (inT4 (List.mem_of_getElem? (i := 66) (by decide +kernel))) rfl
theorem imX5_wipe : Cond.instanceMethod yX5_wipe ∈ BIG := bg (inT4 (List.mem_of_getElem? (i := 72) (by decide +kernel))) rfl
theorem seX5_wipe : Cond.selects RX5 yX5_wipe yX5_wipe ∈ BIG := bg (inT4 (List.mem_of_getElem? (i := 73) (by decide +kernel))) rfl
theorem imX5_letterAt : Cond.instanceMethod yX5_letterAt ∈ BIG := bg (inT4 (List.mem_of_getElem? (i := 85) (by decide +kernel))) rfl
theorem seX5_letterAt : Cond.selects RX5 yX5_letterAt yX5_letterAt ∈ BIG := bg (inTp3 (List.mem_of_getElem? (i := 0) (by decide +kernel))) rfl
theorem smX5_isFigure : Cond.static yX5_isFigure ∈ BIG := bg (inT4 (List.mem_of_getElem? (i := 96) (by decide +kernel))) rfl
theorem imX5_readNumbers : Cond.instanceMethod yX5_readNumbers ∈ BIG := bg (inT4 (List.mem_of_getElem? (i := 93) (by decide +kernel))) rfl
theorem seX5_readNumbers : Cond.selects RX5 yX5_readNumbers yX5_readNumbers ∈ BIG := bg (inTp3 (List.mem_of_getElem? (i := 2) (by decide +kernel))) rfl
theorem imX5_isTold : Cond.instanceMethod yX5_isTold ∈ BIG := bg (inT4 (List.mem_of_getElem? (i := 100) (by decide +kernel))) rfl
theorem seX5_isTold : Cond.selects RX5 yX5_isTold yX5_isTold ∈ BIG := bg (inTp3 (List.mem_of_getElem? (i := 3) (by decide +kernel))) rfl
theorem smX5_put : Cond.static yX5_put ∈ BIG := bg (inT3 (List.mem_of_getElem? (i := 207) (by decide +kernel))) rfl
theorem imX5_clearTold : Cond.instanceMethod yX5_clearTold ∈ BIG := bg (inT3 (List.mem_of_getElem? (i := 192) (by decide +kernel))) rfl
theorem seX5_clearTold : Cond.selects RX5 yX5_clearTold yX5_clearTold ∈ BIG := bg (inTp2 (List.mem_of_getElem? (i := 7) (by decide +kernel))) rfl
theorem imX5_readPlotsOf : Cond.instanceMethod yX5_readPlotsOf ∈ BIG := bg (inT4 (List.mem_of_getElem? (i := 89) (by decide +kernel))) rfl
theorem seX5_readPlotsOf : Cond.selects RX5 yX5_readPlotsOf yX5_readPlotsOf ∈ BIG := bg (inTp3 (List.mem_of_getElem? (i := 1) (by decide +kernel))) rfl
theorem imX5_readDeadOf : Cond.instanceMethod yX5_readDeadOf ∈ BIG := bg (inT4 (List.mem_of_getElem? (i := 104) (by decide +kernel))) rfl
theorem seX5_readDeadOf : Cond.selects RX5 yX5_readDeadOf yX5_readDeadOf ∈ BIG := bg (inTp3 (List.mem_of_getElem? (i := 4) (by decide +kernel))) rfl
theorem imX5_readGuestOf : Cond.instanceMethod yX5_readGuestOf ∈ BIG := bg (inT4 (List.mem_of_getElem? (i := 108) (by decide +kernel))) rfl
theorem seX5_readGuestOf : Cond.selects RX5 yX5_readGuestOf yX5_readGuestOf ∈ BIG := bg (inTp3 (List.mem_of_getElem? (i := 5) (by decide +kernel))) rfl
theorem imX5_readTruceOf : Cond.instanceMethod yX5_readTruceOf ∈ BIG := bg (inT4 (List.mem_of_getElem? (i := 112) (by decide +kernel))) rfl
theorem seX5_readTruceOf : Cond.selects RX5 yX5_readTruceOf yX5_readTruceOf ∈ BIG := bg (inTp3 (List.mem_of_getElem? (i := 6) (by decide +kernel))) rfl
theorem imX5_readItem : Cond.instanceMethod yX5_readItem ∈ BIG := bg (inT4 (List.mem_of_getElem? (i := 81) (by decide +kernel))) rfl
theorem seX5_readItem : Cond.selects RX5 yX5_readItem yX5_readItem ∈ BIG := bg (inTp2 (List.mem_of_getElem? (i := 15) (by decide +kernel))) rfl
theorem imX5_fault : Cond.instanceMethod yX5_fault ∈ BIG := bg (inT4 (List.mem_of_getElem? (i := 76) (by decide +kernel))) rfl
theorem seX5_fault : Cond.selects RX5 yX5_fault yX5_fault ∈ BIG := bg (inT4 (List.mem_of_getElem? (i := 77) (by decide +kernel))) rfl
theorem imX5_lay : Cond.instanceMethod yX5_lay ∈ BIG := bg (inT4 (List.mem_of_getElem? (i := 115) (by decide +kernel))) rfl
theorem seX5_lay : Cond.selects RX5 yX5_lay yX5_lay ∈ BIG := bg (inT4 (List.mem_of_getElem? (i := 116) (by decide +kernel))) rfl
theorem imX5_settles : Cond.instanceMethod yX5_settles ∈ BIG := bg (inT3 (List.mem_of_getElem? (i := 204) (by decide +kernel))) rfl
theorem seX5_settles : Cond.selects RX5 yX5_settles yX5_settles ∈ BIG := bg (inTp2 (List.mem_of_getElem? (i := 10) (by decide +kernel))) rfl
theorem imX5_from : Cond.instanceMethod yX5_from ∈ BIG := bg (inT4 (List.mem_of_getElem? (i := 162) (by decide +kernel))) rfl
theorem seX5_from : Cond.selects RX5 yX5_from yX5_from ∈ BIG := bg (inTp3 (List.mem_of_getElem? (i := 11) (by decide +kernel))) rfl
theorem imX5_freeFrom : Cond.instanceMethod yX5_freeFrom ∈ BIG := bg (inT3 (List.mem_of_getElem? (i := 223) (by decide +kernel))) rfl
theorem seX5_freeFrom : Cond.selects RX5 yX5_freeFrom yX5_freeFrom ∈ BIG := bg (inTp2 (List.mem_of_getElem? (i := 14) (by decide +kernel))) rfl
theorem imX5_placeFor : Cond.instanceMethod yX5_placeFor ∈ BIG := bg (inT3 (List.mem_of_getElem? (i := 219) (by decide +kernel))) rfl
theorem seX5_placeFor : Cond.selects RX5 yX5_placeFor yX5_placeFor ∈ BIG := bg (inTp2 (List.mem_of_getElem? (i := 13) (by decide +kernel))) rfl
theorem imX5_buries : Cond.instanceMethod yX5_buries ∈ BIG := bg (inT3 (List.mem_of_getElem? (i := 215) (by decide +kernel))) rfl
theorem seX5_buries : Cond.selects RX5 yX5_buries yX5_buries ∈ BIG := bg (inTp2 (List.mem_of_getElem? (i := 12) (by decide +kernel))) rfl
theorem imX5_anew : Cond.instanceMethod yX5_anew ∈ BIG := bg (inT3 (List.mem_of_getElem? (i := 211) (by decide +kernel))) rfl
theorem seX5_anew : Cond.selects RX5 yX5_anew yX5_anew ∈ BIG := bg (inTp2 (List.mem_of_getElem? (i := 11) (by decide +kernel))) rfl
theorem smX5_plotIn : Cond.static yX5_plotIn ∈ BIG := bg (inT4 (List.mem_of_getElem? (i := 131) (by decide +kernel))) rfl
theorem smX5_plotOf : Cond.static yX5_plotOf ∈ BIG := bg (inT4 (List.mem_of_getElem? (i := 128) (by decide +kernel))) rfl
theorem imX5_dead : Cond.instanceMethod yX5_dead ∈ BIG := bg (inT4 (List.mem_of_getElem? (i := 120) (by decide +kernel))) rfl
theorem seX5_dead : Cond.selects RX5 yX5_dead yX5_dead ∈ BIG := bg (inT4 (List.mem_of_getElem? (i := 121) (by decide +kernel))) rfl
theorem smX5_whoIs : Cond.static yX5_whoIs ∈ BIG := bg (inT4 (List.mem_of_getElem? (i := 142) (by decide +kernel))) rfl
theorem imX5_plot : Cond.instanceMethod yX5_plot ∈ BIG := bg (inT4 (List.mem_of_getElem? (i := 134) (by decide +kernel))) rfl
theorem seX5_plot : Cond.selects RX5 yX5_plot yX5_plot ∈ BIG := bg (inT4 (List.mem_of_getElem? (i := 135) (by decide +kernel))) rfl
theorem imX5_visitor : Cond.instanceMethod yX5_visitor ∈ BIG := bg (inT4 (List.mem_of_getElem? (i := 145) (by decide +kernel))) rfl
theorem seX5_visitor : Cond.selects RX5 yX5_visitor yX5_visitor ∈ BIG := bg (inT4 (List.mem_of_getElem? (i := 146) (by decide +kernel))) rfl
theorem imX5_remembers : Cond.instanceMethod yX5_remembers ∈ BIG := bg (inT4 (List.mem_of_getElem? (i := 158) (by decide +kernel))) rfl
theorem seX5_remembers : Cond.selects RX5 yX5_remembers yX5_remembers ∈ BIG := bg (inTp3 (List.mem_of_getElem? (i := 10) (by decide +kernel))) rfl
theorem imX5_addsDead : Cond.instanceMethod yX5_addsDead ∈ BIG := bg (inT4 (List.mem_of_getElem? (i := 166) (by decide +kernel))) rfl
theorem seX5_addsDead : Cond.selects RX5 yX5_addsDead yX5_addsDead ∈ BIG := bg (inTp3 (List.mem_of_getElem? (i := 12) (by decide +kernel))) rfl
theorem imX5_isOne : Cond.instanceMethod yX5_isOne ∈ BIG := bg (inT4 (List.mem_of_getElem? (i := 154) (by decide +kernel))) rfl
theorem seX5_isOne : Cond.selects RX5 yX5_isOne yX5_isOne ∈ BIG := bg (inTp3 (List.mem_of_getElem? (i := 9) (by decide +kernel))) rfl
theorem imX5_bury : Cond.instanceMethod yX5_bury ∈ BIG := bg (inT4 (List.mem_of_getElem? (i := 149) (by decide +kernel))) rfl
theorem seX5_bury : Cond.selects RX5 yX5_bury yX5_bury ∈ BIG := bg (inT4 (List.mem_of_getElem? (i := 150) (by decide +kernel))) rfl
theorem smX5_changes : Cond.static yX5_changes ∈ BIG := bg (inT4 (List.mem_of_getElem? (i := 173) (by decide +kernel))) rfl
theorem imX5_change : Cond.instanceMethod yX5_change ∈ BIG := bg (inT4 (List.mem_of_getElem? (i := 169) (by decide +kernel))) rfl
theorem seX5_change : Cond.selects RX5 yX5_change yX5_change ∈ BIG := bg (inT4 (List.mem_of_getElem? (i := 170) (by decide +kernel))) rfl
theorem imX5_forgive : Cond.instanceMethod yX5_forgive ∈ BIG := bg (inT4 (List.mem_of_getElem? (i := 177) (by decide +kernel))) rfl
theorem seX5_forgive : Cond.selects RX5 yX5_forgive yX5_forgive ∈ BIG := bg (inT4 (List.mem_of_getElem? (i := 178) (by decide +kernel))) rfl
theorem imX5_visit : Cond.instanceMethod yX5_visit ∈ BIG := bg (inT4 (List.mem_of_getElem? (i := 181) (by decide +kernel))) rfl
theorem seX5_visit : Cond.selects RX5 yX5_visit yX5_visit ∈ BIG := bg (inT4 (List.mem_of_getElem? (i := 182) (by decide +kernel))) rfl
theorem imX5_undo : Cond.instanceMethod yX5_undo ∈ BIG := bg (inT4 (List.mem_of_getElem? (i := 185) (by decide +kernel))) rfl
theorem seX5_undo : Cond.selects RX5 yX5_undo yX5_undo ∈ BIG := bg (inT4 (List.mem_of_getElem? (i := 186) (by decide +kernel))) rfl
theorem imX5_byRight : Cond.instanceMethod yX5_byRight ∈ BIG := bg (inT4 (List.mem_of_getElem? (i := 194) (by decide +kernel))) rfl
theorem seX5_byRight : Cond.selects RX5 yX5_byRight yX5_byRight ∈ BIG := bg (inTp3 (List.mem_of_getElem? (i := 13) (by decide +kernel))) rfl
theorem imX5_right : Cond.instanceMethod yX5_right ∈ BIG := bg (inT4 (List.mem_of_getElem? (i := 189) (by decide +kernel))) rfl
theorem seX5_right : Cond.selects RX5 yX5_right yX5_right ∈ BIG := bg (inT4 (List.mem_of_getElem? (i := 190) (by decide +kernel))) rfl
theorem imX5_movedBits : Cond.instanceMethod yX5_movedBits ∈ BIG := bg (inT4 (List.mem_of_getElem? (i := 202) (by decide +kernel))) rfl
theorem seX5_movedBits : Cond.selects RX5 yX5_movedBits yX5_movedBits ∈ BIG := bg (inTp3 (List.mem_of_getElem? (i := 14) (by decide +kernel))) rfl
theorem imX5_moved : Cond.instanceMethod yX5_moved ∈ BIG := bg (inT4 (List.mem_of_getElem? (i := 197) (by decide +kernel))) rfl
theorem seX5_moved : Cond.selects RX5 yX5_moved yX5_moved ∈ BIG := bg (inT4 (List.mem_of_getElem? (i := 198) (by decide +kernel))) rfl
theorem imX5_mend : Cond.instanceMethod yX5_mend ∈ BIG := bg (inT4 (List.mem_of_getElem? (i := 205) (by decide +kernel))) rfl
theorem seX5_mend : Cond.selects RX5 yX5_mend yX5_mend ∈ BIG := bg (inT4 (List.mem_of_getElem? (i := 206) (by decide +kernel))) rfl
theorem imX5_grudge : Cond.instanceMethod yX5_grudge ∈ BIG := bg (inT4 (List.mem_of_getElem? (i := 209) (by decide +kernel))) rfl
theorem seX5_grudge : Cond.selects RX5 yX5_grudge yX5_grudge ∈ BIG := bg (inT4 (List.mem_of_getElem? (i := 210) (by decide +kernel))) rfl
theorem imX5_findGuests : Cond.instanceMethod yX5_findGuests ∈ BIG := bg (inT4 (List.mem_of_getElem? (i := 218) (by decide +kernel))) rfl
theorem seX5_findGuests : Cond.selects RX5 yX5_findGuests yX5_findGuests ∈ BIG := bg (inTp3 (List.mem_of_getElem? (i := 15) (by decide +kernel))) rfl
theorem imX5_comesBack : Cond.instanceMethod yX5_comesBack ∈ BIG := bg (inT4 (List.mem_of_getElem? (i := 233) (by decide +kernel))) rfl
theorem seX5_comesBack : Cond.selects RX5 yX5_comesBack yX5_comesBack ∈ BIG := bg (inTp4 (List.mem_of_getElem? (i := 2) (by decide +kernel))) rfl
theorem imX5_villageOf : Cond.instanceMethod yX5_villageOf ∈ BIG := bg (inT4 (List.mem_of_getElem? (i := 229) (by decide +kernel))) rfl
theorem seX5_villageOf : Cond.selects RX5 yX5_villageOf yX5_villageOf ∈ BIG := bg (inTp4 (List.mem_of_getElem? (i := 1) (by decide +kernel))) rfl
theorem imX5_takesSo : Cond.instanceMethod yX5_takesSo ∈ BIG := bg (inT4 (List.mem_of_getElem? (i := 225) (by decide +kernel))) rfl
theorem seX5_takesSo : Cond.selects RX5 yX5_takesSo yX5_takesSo ∈ BIG := bg (inTp4 (List.mem_of_getElem? (i := 0) (by decide +kernel))) rfl
theorem imX5_takes : Cond.instanceMethod yX5_takes ∈ BIG := bg (inT4 (List.mem_of_getElem? (i := 213) (by decide +kernel))) rfl
theorem seX5_takes : Cond.selects RX5 yX5_takes yX5_takes ∈ BIG := bg (inT4 (List.mem_of_getElem? (i := 214) (by decide +kernel))) rfl
theorem imX5_isOrder : Cond.instanceMethod yX5_isOrder ∈ BIG := bg (inT5 (List.mem_of_getElem? (i := 6) (by decide +kernel))) rfl
theorem seX5_isOrder : Cond.selects RX5 yX5_isOrder yX5_isOrder ∈ BIG := bg (inTp4 (List.mem_of_getElem? (i := 4) (by decide +kernel))) rfl
theorem imX5_soonest : Cond.instanceMethod yX5_soonest ∈ BIG := bg (inT5 (List.mem_of_getElem? (i := 1) (by decide +kernel))) rfl
theorem seX5_soonest : Cond.selects RX5 yX5_soonest yX5_soonest ∈ BIG := bg (inTp4 (List.mem_of_getElem? (i := 3) (by decide +kernel))) rfl
theorem imX5_tour : Cond.instanceMethod yX5_tour ∈ BIG := bg (inT4 (List.mem_of_getElem? (i := 236) (by decide +kernel))) rfl
theorem seX5_tour : Cond.selects RX5 yX5_tour yX5_tour ∈ BIG := bg (inT4 (List.mem_of_getElem? (i := 237) (by decide +kernel))) rfl
theorem imX5_enough : Cond.instanceMethod yX5_enough ∈ BIG := bg (inT5 (List.mem_of_getElem? (i := 9) (by decide +kernel))) rfl
theorem seX5_enough : Cond.selects RX5 yX5_enough yX5_enough ∈ BIG := bg (inT5 (List.mem_of_getElem? (i := 10) (by decide +kernel))) rfl
theorem imX5_leave : Cond.instanceMethod yX5_leave ∈ BIG := bg (inT5 (List.mem_of_getElem? (i := 13) (by decide +kernel))) rfl
theorem seX5_leave : Cond.selects RX5 yX5_leave yX5_leave ∈ BIG := bg (inT5 (List.mem_of_getElem? (i := 14) (by decide +kernel))) rfl
theorem imX5_seen : Cond.instanceMethod yX5_seen ∈ BIG := bg (inT5 (List.mem_of_getElem? (i := 20) (by decide +kernel))) rfl
theorem seX5_seen : Cond.selects RX5 yX5_seen yX5_seen ∈ BIG := bg (inT5 (List.mem_of_getElem? (i := 21) (by decide +kernel))) rfl
theorem imX5_forget : Cond.instanceMethod yX5_forget ∈ BIG := bg (inT5 (List.mem_of_getElem? (i := 24) (by decide +kernel))) rfl
theorem seX5_forget : Cond.selects RX5 yX5_forget yX5_forget ∈ BIG := bg (inT5 (List.mem_of_getElem? (i := 25) (by decide +kernel))) rfl
theorem imX5_was : Cond.instanceMethod yX5_was ∈ BIG := bg (inT5 (List.mem_of_getElem? (i := 28) (by decide +kernel))) rfl
theorem seX5_was : Cond.selects RX5 yX5_was yX5_was ∈ BIG := bg (inT5 (List.mem_of_getElem? (i := 29) (by decide +kernel))) rfl
theorem imX5_owedOn : Cond.instanceMethod yX5_owedOn ∈ BIG := bg (inT5 (List.mem_of_getElem? (i := 37) (by decide +kernel))) rfl
theorem seX5_owedOn : Cond.selects RX5 yX5_owedOn yX5_owedOn ∈ BIG := bg (inTp4 (List.mem_of_getElem? (i := 5) (by decide +kernel))) rfl
theorem imX5_owed : Cond.instanceMethod yX5_owed ∈ BIG := bg (inT5 (List.mem_of_getElem? (i := 32) (by decide +kernel))) rfl
theorem seX5_owed : Cond.selects RX5 yX5_owed yX5_owed ∈ BIG := bg (inT5 (List.mem_of_getElem? (i := 33) (by decide +kernel))) rfl
theorem imX5_balance : Cond.instanceMethod yX5_balance ∈ BIG := bg (inT5 (List.mem_of_getElem? (i := 40) (by decide +kernel))) rfl
theorem seX5_balance : Cond.selects RX5 yX5_balance yX5_balance ∈ BIG := bg (inT5 (List.mem_of_getElem? (i := 41) (by decide +kernel))) rfl
theorem imX5_firstIn : Cond.instanceMethod yX5_firstIn ∈ BIG := bg (inT5 (List.mem_of_getElem? (i := 49) (by decide +kernel))) rfl
theorem seX5_firstIn : Cond.selects RX5 yX5_firstIn yX5_firstIn ∈ BIG := bg (inTp4 (List.mem_of_getElem? (i := 6) (by decide +kernel))) rfl
theorem imX5_names : Cond.instanceMethod yX5_names ∈ BIG := bg (inT5 (List.mem_of_getElem? (i := 44) (by decide +kernel))) rfl
theorem seX5_names : Cond.selects RX5 yX5_names yX5_names ∈ BIG := bg (inT5 (List.mem_of_getElem? (i := 45) (by decide +kernel))) rfl
theorem imX5_next : Cond.instanceMethod yX5_next ∈ BIG := bg (inT5 (List.mem_of_getElem? (i := 52) (by decide +kernel))) rfl
theorem seX5_next : Cond.selects RX5 yX5_next yX5_next ∈ BIG := bg (inT5 (List.mem_of_getElem? (i := 53) (by decide +kernel))) rfl
theorem imX5_year : Cond.instanceMethod yX5_year ∈ BIG := bg (inT5 (List.mem_of_getElem? (i := 56) (by decide +kernel))) rfl
theorem seX5_year : Cond.selects RX5 yX5_year yX5_year ∈ BIG := bg (inT5 (List.mem_of_getElem? (i := 57) (by decide +kernel))) rfl
theorem imX5_keep : Cond.instanceMethod yX5_keep ∈ BIG := bg (inT5 (List.mem_of_getElem? (i := 64) (by decide +kernel))) rfl
theorem seX5_keep : Cond.selects RX5 yX5_keep yX5_keep ∈ BIG := bg (inT5 (List.mem_of_getElem? (i := 65) (by decide +kernel))) rfl
theorem imX5_back : Cond.instanceMethod yX5_back ∈ BIG := bg (inT5 (List.mem_of_getElem? (i := 68) (by decide +kernel))) rfl
theorem seX5_back : Cond.selects RX5 yX5_back yX5_back ∈ BIG := bg (inT5 (List.mem_of_getElem? (i := 69) (by decide +kernel))) rfl
theorem imX5_doubles : Cond.instanceMethod yX5_doubles ∈ BIG := bg (inT5 (List.mem_of_getElem? (i := 77) (by decide +kernel))) rfl
theorem seX5_doubles : Cond.selects RX5 yX5_doubles yX5_doubles ∈ BIG := bg (inTp4 (List.mem_of_getElem? (i := 7) (by decide +kernel))) rfl
theorem imX5_count : Cond.instanceMethod yX5_count ∈ BIG := bg (inT5 (List.mem_of_getElem? (i := 72) (by decide +kernel))) rfl
theorem seX5_count : Cond.selects RX5 yX5_count yX5_count ∈ BIG := bg (inT5 (List.mem_of_getElem? (i := 73) (by decide +kernel))) rfl
theorem smJ6_bitCount_0f7a4 : Cond.static yJ6_bitCount_0f7a4 ∈ BIG := bg (inT3 (List.mem_of_getElem? (i := 77) (by decide +kernel))) rfl
theorem mlX0_48 : Cond.methodLink RX0 48 yX3_visitedBy ∈ BIG := bg (inT3 (List.mem_of_getElem? (i := 18) (by decide +kernel))) rfl
theorem clX0_48 {R : Room} {s : State} {args : Array Value} {rm : Room} (hB : ∀ w ∈ BIG, w.before args s = true) (hrc : rm.cells = 0) (hrs : rm.slots = 0) (hR : rm.frames + 1 ≤ R.frames ∧ 8 + (2 + 11) + rm.locals ≤ R.locals) : CallW R s args RX0 RX3 48 yX3_visitedBy cX3_visitedBy 2 (some .int) (kX3_visitedBy :: BIG) rm 0 0 1 := cwV 1 hB (bgV mlX0_48 imX3_visitedBy seX3_visitedBy iniX3 mcX3_visitedBy) rfl hrc hrs (by decide +kernel) hR
theorem mlX0_52 : Cond.methodLink RX0 52 yX3_plotOf ∈ BIG := bg (inT3 (List.mem_of_getElem? (i := 19) (by decide +kernel))) rfl
theorem clX0_52 {R : Room} {s : State} {args : Array Value} {rm : Room} (hB : ∀ w ∈ BIG, w.before args s = true) (hrc : rm.cells = 0) (hrs : rm.slots = 0) (hR : rm.frames + 1 ≤ R.frames ∧ 8 + (2 + 11) + rm.locals ≤ R.locals) : CallW R s args RX0 RX3 52 yX3_plotOf cX3_plotOf 2 (some .int) (kX3_plotOf :: BIG) rm 0 0 1 := cwV 1 hB (bgV mlX0_52 imX3_plotOf seX3_plotOf iniX3 mcX3_plotOf) rfl hrc hrs (by decide +kernel) hR
theorem mlX0_55 : Cond.methodLink RX0 55 yX3_villageOf ∈ BIG := bg (inT3 (List.mem_of_getElem? (i := 20) (by decide +kernel))) rfl
theorem clX0_55 {R : Room} {s : State} {args : Array Value} {rm : Room} (hB : ∀ w ∈ BIG, w.before args s = true) (hrc : rm.cells = 0) (hrs : rm.slots = 0) (hR : rm.frames + 1 ≤ R.frames ∧ 8 + (2 + 11) + rm.locals ≤ R.locals) : CallW R s args RX0 RX3 55 yX3_villageOf cX3_villageOf 2 (some .int) (kX3_villageOf :: BIG) rm 0 0 1 := cwV 1 hB (bgV mlX0_55 imX3_villageOf seX3_villageOf iniX3 mcX3_villageOf) rfl hrc hrs (by decide +kernel) hR
theorem mlX0_58 : Cond.methodLink RX0 58 yX3_minutesOf ∈ BIG := bg (inT3 (List.mem_of_getElem? (i := 21) (by decide +kernel))) rfl
theorem clX0_58 {R : Room} {s : State} {args : Array Value} {rm : Room} (hB : ∀ w ∈ BIG, w.before args s = true) (hrc : rm.cells = 0) (hrs : rm.slots = 0) (hR : rm.frames + 1 ≤ R.frames ∧ 8 + (2 + 11) + rm.locals ≤ R.locals) : CallW R s args RX0 RX3 58 yX3_minutesOf cX3_minutesOf 2 (some .int) (kX3_minutesOf :: BIG) rm 0 0 1 := cwV 1 hB (bgV mlX0_58 imX3_minutesOf seX3_minutesOf iniX3 mcX3_minutesOf) rfl hrc hrs (by decide +kernel) hR
theorem mlX0_61 : Cond.methodLink RX0 61 yX0_begin ∈ BIG := bg (inT3 (List.mem_of_getElem? (i := 26) (by decide +kernel))) rfl
theorem clX0_61 {R : Room} {s : State} {args : Array Value} {rm : Room} (hB : ∀ w ∈ BIG, w.before args s = true) (hrc : rm.cells = 0) (hrs : rm.slots = 0) (hR : rm.frames + 1 ≤ R.frames ∧ 8 + (1 + 11) + rm.locals ≤ R.locals) : CallW R s args RX0 RX0 61 yX0_begin cX0_begin 1 none (kX0_begin :: BIG) rm 0 0 0 := cwV 0 hB (bgV mlX0_61 imX0_begin seX0_begin iniX0 mcX0_begin) rfl hrc hrs (by decide +kernel) hR
theorem mlX0_64 : Cond.methodLink RX0 64 yX0_isGoer ∈ BIG := bg (inT3 (List.mem_of_getElem? (i := 30) (by decide +kernel))) rfl
theorem clX0_64 {R : Room} {s : State} {args : Array Value} {rm : Room} (hB : ∀ w ∈ BIG, w.before args s = true) (hrc : rm.cells = 0) (hrs : rm.slots = 0) (hR : rm.frames + 1 ≤ R.frames ∧ 8 + (2 + 11) + rm.locals ≤ R.locals) : CallW R s args RX0 RX0 64 yX0_isGoer cX0_isGoer 2 (some .boolean) (kX0_isGoer :: BIG) rm 0 0 1 := cwV 1 hB (bgV mlX0_64 imX0_isGoer seX0_isGoer iniX0 mcX0_isGoer) rfl hrc hrs (by decide +kernel) hR
theorem mlX0_68 : Cond.methodLink RX0 68 yX0_sendOver ∈ BIG := bg (inT3 (List.mem_of_getElem? (i := 34) (by decide +kernel))) rfl
theorem clX0_68 {R : Room} {s : State} {args : Array Value} {rm : Room} (hB : ∀ w ∈ BIG, w.before args s = true) (hrc : rm.cells = 0) (hrs : rm.slots = 0) (hR : rm.frames + 1 ≤ R.frames ∧ 8 + (3 + 11) + rm.locals ≤ R.locals) : CallW R s args RX0 RX0 68 yX0_sendOver cX0_sendOver 3 none (kX0_sendOver :: BIG) rm 0 0 1 := cwV 1 hB (bgV mlX0_68 imX0_sendOver seX0_sendOver iniX0 mcX0_sendOver) rfl hrc hrs (by decide +kernel) hR
theorem mlX0_72 : Cond.methodLink RX0 72 yX0_whenAllAreBack ∈ BIG := bg (inT3 (List.mem_of_getElem? (i := 46) (by decide +kernel))) rfl
theorem clX0_72 {R : Room} {s : State} {args : Array Value} {rm : Room} (hB : ∀ w ∈ BIG, w.before args s = true) (hrc : rm.cells = 0) (hrs : rm.slots = 0) (hR : rm.frames + 1 ≤ R.frames ∧ 8 + (1 + 11) + rm.locals ≤ R.locals) : CallW R s args RX0 RX0 72 yX0_whenAllAreBack cX0_whenAllAreBack 1 (some .int) (kX0_whenAllAreBack :: BIG) rm 0 0 0 := cwV 0 hB (bgV mlX0_72 imX0_whenAllAreBack seX0_whenAllAreBack iniX0 mcX0_whenAllAreBack) rfl hrc hrs (by decide +kernel) hR
theorem mlX0_77 : Cond.methodLink RX0 77 yX0_tryBehind ∈ BIG := bg (inT3 (List.mem_of_getElem? (i := 60) (by decide +kernel))) rfl
theorem clX0_77 {R : Room} {s : State} {args : Array Value} {rm : Room} (hB : ∀ w ∈ BIG, w.before args s = true) (hrc : rm.cells = 0) (hrs : rm.slots = 0) (hR : rm.frames + 1 ≤ R.frames ∧ 8 + (7 + 11) + rm.locals ≤ R.locals) : CallW R s args RX0 RX0 77 yX0_tryBehind cX0_tryBehind 7 none (kX0_tryBehind :: BIG) rm 0 0 2 := cwV 2 hB (bgV mlX0_77 imX0_tryBehind seX0_tryBehind iniX0 mcX0_tryBehind) rfl hrc hrs (by decide +kernel) hR
theorem mlX0_81 : Cond.methodLink RX0 81 yJ6_bitCount_0f7a4 ∈ BIG := bg (inT3 (List.mem_of_getElem? (i := 76) (by decide +kernel))) rfl
theorem clX0_81 {R : Room} {s : State} {args : Array Value} {rm : Room} (hB : ∀ w ∈ BIG, w.before args s = true) (hrc : rm.cells = 0) (hrs : rm.slots = 0) (hR : rm.frames + 1 ≤ R.frames ∧ 8 + (1 + 11) + rm.locals ≤ R.locals) : CallB R s args RX0 81 yJ6_bitCount_0f7a4 cJ6_bitCount_0f7a4 1 (some .int) (kJ6_bitCount_0f7a4 :: BIG) rm 0 0 1 ∧ (Cond.static yJ6_bitCount_0f7a4).before args s = true := ⟨callB_of 1 hB (bgG mcJ6_bitCount_0f7a4) rfl hrc hrs (hB _ iniJ6) (hB _ mlX0_81) (by decide +kernel) hR, hB _ smJ6_bitCount_0f7a4⟩
theorem mlX0_86 : Cond.methodLink RX0 86 yX0_soonestOf ∈ BIG := bg (inT3 (List.mem_of_getElem? (i := 94) (by decide +kernel))) rfl
theorem clX0_86 {R : Room} {s : State} {args : Array Value} {rm : Room} (hB : ∀ w ∈ BIG, w.before args s = true) (hrc : rm.cells = 0) (hrs : rm.slots = 0) (hR : rm.frames + 1 ≤ R.frames ∧ 8 + (2 + 11) + rm.locals ≤ R.locals) : CallW R s args RX0 RX0 86 yX0_soonestOf cX0_soonestOf 2 (some .int) (kX0_soonestOf :: BIG) rm 0 0 1 := cwV 1 hB (bgV mlX0_86 imX0_soonestOf seX0_soonestOf iniX0 mcX0_soonestOf) rfl hrc hrs (by decide +kernel) hR
theorem mlX0_89 : Cond.methodLink RX0 89 yX0_note ∈ BIG := bg (inT3 (List.mem_of_getElem? (i := 64) (by decide +kernel))) rfl
theorem clX0_89 {R : Room} {s : State} {args : Array Value} {rm : Room} (hB : ∀ w ∈ BIG, w.before args s = true) (hrc : rm.cells = 0) (hrs : rm.slots = 0) (hR : rm.frames + 1 ≤ R.frames ∧ 8 + (5 + 11) + rm.locals ≤ R.locals) : CallW R s args RX0 RX0 89 yX0_note cX0_note 5 none (kX0_note :: BIG) rm 0 0 2 := cwV 2 hB (bgV mlX0_89 imX0_note seX0_note iniX0 mcX0_note) rfl hrc hrs (by decide +kernel) hR
theorem mlX0_101 : Cond.methodLink RX0 101 yX0_isSomebodyYonder ∈ BIG := bg (inT3 (List.mem_of_getElem? (i := 38) (by decide +kernel))) rfl
theorem clX0_101 {R : Room} {s : State} {args : Array Value} {rm : Room} (hB : ∀ w ∈ BIG, w.before args s = true) (hrc : rm.cells = 0) (hrs : rm.slots = 0) (hR : rm.frames + 1 ≤ R.frames ∧ 8 + (1 + 11) + rm.locals ≤ R.locals) : CallW R s args RX0 RX0 101 yX0_isSomebodyYonder cX0_isSomebodyYonder 1 (some .boolean) (kX0_isSomebodyYonder :: BIG) rm 0 0 0 := cwV 0 hB (bgV mlX0_101 imX0_isSomebodyYonder seX0_isSomebodyYonder iniX0 mcX0_isSomebodyYonder) rfl hrc hrs (by decide +kernel) hR
theorem mlX0_105 : Cond.methodLink RX0 105 yX0_bringBack ∈ BIG := bg (inT3 (List.mem_of_getElem? (i := 42) (by decide +kernel))) rfl
theorem clX0_105 {R : Room} {s : State} {args : Array Value} {rm : Room} (hB : ∀ w ∈ BIG, w.before args s = true) (hrc : rm.cells = 0) (hrs : rm.slots = 0) (hR : rm.frames + 1 ≤ R.frames ∧ 8 + (1 + 11) + rm.locals ≤ R.locals) : CallW R s args RX0 RX0 105 yX0_bringBack cX0_bringBack 1 none (kX0_bringBack :: BIG) rm 0 0 0 := cwV 0 hB (bgV mlX0_105 imX0_bringBack seX0_bringBack iniX0 mcX0_bringBack) rfl hrc hrs (by decide +kernel) hR
theorem mlX1_26 : Cond.methodLink RX1 26 yX1_dropOldest ∈ BIG := bg (inT2 (List.mem_of_getElem? (i := 167) (by decide +kernel))) rfl
theorem clX1_26 {R : Room} {s : State} {args : Array Value} {rm : Room} (hB : ∀ w ∈ BIG, w.before args s = true) (hrc : rm.cells = 0) (hrs : rm.slots = 0) (hR : rm.frames + 1 ≤ R.frames ∧ 8 + (3 + 11) + rm.locals ≤ R.locals) : CallW R s args RX1 RX1 26 yX1_dropOldest cX1_dropOldest 3 none (kX1_dropOldest :: BIG) rm 0 0 0 := cwV 0 hB (bgV mlX1_26 imX1_dropOldest seX1_dropOldest iniX1 mcX1_dropOldest) rfl hrc hrs (by decide +kernel) hR
theorem mlX1_29 : Cond.methodLink RX1 29 yX3_copyFrom ∈ BIG := bg (inT2 (List.mem_of_getElem? (i := 171) (by decide +kernel))) rfl
theorem clX1_29 {R : Room} {s : State} {args : Array Value} {rm : Room} (hB : ∀ w ∈ BIG, w.before args s = true) (hrc : rm.cells = 0) (hrs : rm.slots = 0) (hR : rm.frames + 1 ≤ R.frames ∧ 8 + (3 + 11) + rm.locals ≤ R.locals) : CallW R s args RX1 RX3 29 yX3_copyFrom cX3_copyFrom 3 none (kX3_copyFrom :: BIG) rm 0 0 1 := cwV 1 hB (bgV mlX1_29 imX3_copyFrom seX3_copyFrom iniX3 mcX3_copyFrom) rfl hrc hrs (by decide +kernel) hR
theorem mlX2_23 : Cond.methodLink RX2 23 yX3_empty ∈ BIG := bg (inT1 (List.mem_of_getElem? (i := 218) (by decide +kernel))) rfl
theorem clX2_23 {R : Room} {s : State} {args : Array Value} {rm : Room} (hB : ∀ w ∈ BIG, w.before args s = true) (hrc : rm.cells = 0) (hrs : rm.slots = 0) (hR : rm.frames + 1 ≤ R.frames ∧ 8 + (1 + 11) + rm.locals ≤ R.locals) : CallW R s args RX2 RX3 23 yX3_empty cX3_empty 1 none (kX3_empty :: BIG) rm 0 0 0 := cwV 0 hB (bgV mlX2_23 imX3_empty seX3_empty iniX3 mcX3_empty) rfl hrc hrs (by decide +kernel) hR
theorem mlX2_35 : Cond.methodLink RX2 35 yX2_letterAt ∈ BIG := bg (inT1 (List.mem_of_getElem? (i := 219) (by decide +kernel))) rfl
theorem clX2_35 {R : Room} {s : State} {args : Array Value} {rm : Room} (hB : ∀ w ∈ BIG, w.before args s = true) (hrc : rm.cells = 0) (hrs : rm.slots = 0) (hR : rm.frames + 1 ≤ R.frames ∧ 8 + (2 + 11) + rm.locals ≤ R.locals) : CallW R s args RX2 RX2 35 yX2_letterAt cX2_letterAt 2 (some .char) (kX2_letterAt :: BIG) rm 0 0 1 := cwV 1 hB (bgV mlX2_35 imX2_letterAt seX2_letterAt iniX2 mcX2_letterAt) rfl hrc hrs (by decide +kernel) hR
theorem mlX2_39 : Cond.methodLink RX2 39 yX2_numbersBehind ∈ BIG := bg (inT1 (List.mem_of_getElem? (i := 223) (by decide +kernel))) rfl
theorem clX2_39 {R : Room} {s : State} {args : Array Value} {rm : Room} (hB : ∀ w ∈ BIG, w.before args s = true) (hrc : rm.cells = 0) (hrs : rm.slots = 0) (hR : rm.frames + 1 ≤ R.frames ∧ 8 + (1 + 11) + rm.locals ≤ R.locals) : CallB R s args RX2 39 yX2_numbersBehind cX2_numbersBehind 1 (some .int) (kX2_numbersBehind :: BIG) rm 0 0 1 ∧ (Cond.static yX2_numbersBehind).before args s = true := cwS 1 hB (bgS mlX2_39 smX2_numbersBehind iniX2 mcX2_numbersBehind) rfl hrc hrs (by decide +kernel) hR
theorem mlX2_43 : Cond.methodLink RX2 43 yX2_readNumbers ∈ BIG := bg (inT1 (List.mem_of_getElem? (i := 226) (by decide +kernel))) rfl
theorem clX2_43 {R : Room} {s : State} {args : Array Value} {rm : Room} (hB : ∀ w ∈ BIG, w.before args s = true) (hrc : rm.cells = 0) (hrs : rm.slots = 0) (hR : rm.frames + 1 ≤ R.frames ∧ 8 + (3 + 11) + rm.locals ≤ R.locals) : CallW R s args RX2 RX2 43 yX2_readNumbers cX2_readNumbers 3 (some .boolean) (kX2_readNumbers :: BIG) rm 0 0 1 := cwV 1 hB (bgV mlX2_43 imX2_readNumbers seX2_readNumbers iniX2 mcX2_readNumbers) rfl hrc hrs (by decide +kernel) hR
theorem mlX2_47 : Cond.methodLink RX2 47 yX2_tellItem ∈ BIG := bg (inT1 (List.mem_of_getElem? (i := 237) (by decide +kernel))) rfl
theorem clX2_47 {R : Room} {s : State} {args : Array Value} {rm : Room} (hB : ∀ w ∈ BIG, w.before args s = true) (hrc : rm.cells = 0) (hrs : rm.slots = 0) (hR : rm.frames + 1 ≤ R.frames ∧ 8 + (4 + 11) + rm.locals ≤ R.locals) : CallW R s args RX2 RX2 47 yX2_tellItem cX2_tellItem 4 (some .boolean) (kX2_tellItem :: BIG) rm 0 0 2 := cwV 2 hB (bgV mlX2_47 imX2_tellItem seX2_tellItem iniX2 mcX2_tellItem) rfl hrc hrs (by decide +kernel) hR
theorem mlX2_61 : Cond.methodLink RX2 61 yX3_addDead ∈ BIG := bg (inT2 (List.mem_of_getElem? (i := 10) (by decide +kernel))) rfl
theorem clX2_61 {R : Room} {s : State} {args : Array Value} {rm : Room} (hB : ∀ w ∈ BIG, w.before args s = true) (hrc : rm.cells = 0) (hrs : rm.slots = 0) (hR : rm.frames + 1 ≤ R.frames ∧ 8 + (5 + 11) + rm.locals ≤ R.locals) : CallW R s args RX2 RX3 61 yX3_addDead cX3_addDead 5 (some .int) (kX3_addDead :: BIG) rm 0 0 3 := cwV 3 hB (bgV mlX2_61 imX3_addDead seX3_addDead iniX3 mcX3_addDead) rfl hrc hrs (by decide +kernel) hR
theorem mlX2_65 : Cond.methodLink RX2 65 yX3_hasDead ∈ BIG := bg (inT2 (List.mem_of_getElem? (i := 51) (by decide +kernel))) rfl
theorem clX2_65 {R : Room} {s : State} {args : Array Value} {rm : Room} (hB : ∀ w ∈ BIG, w.before args s = true) (hrc : rm.cells = 0) (hrs : rm.slots = 0) (hR : rm.frames + 1 ≤ R.frames ∧ 8 + (2 + 11) + rm.locals ≤ R.locals) : CallW R s args RX2 RX3 65 yX3_hasDead cX3_hasDead 2 (some .boolean) (kX3_hasDead :: BIG) rm 0 0 1 := cwV 1 hB (bgV mlX2_65 imX3_hasDead seX3_hasDead iniX3 mcX3_hasDead) rfl hrc hrs (by decide +kernel) hR
theorem mlX2_74 : Cond.methodLink RX2 74 yX3_addVisitor ∈ BIG := bg (inT2 (List.mem_of_getElem? (i := 55) (by decide +kernel))) rfl
theorem clX2_74 {R : Room} {s : State} {args : Array Value} {rm : Room} (hB : ∀ w ∈ BIG, w.before args s = true) (hrc : rm.cells = 0) (hrs : rm.slots = 0) (hR : rm.frames + 1 ≤ R.frames ∧ 8 + (3 + 11) + rm.locals ≤ R.locals) : CallW R s args RX2 RX3 74 yX3_addVisitor cX3_addVisitor 3 none (kX3_addVisitor :: BIG) rm 0 0 2 := cwV 2 hB (bgV mlX2_74 imX3_addVisitor seX3_addVisitor iniX3 mcX3_addVisitor) rfl hrc hrs (by decide +kernel) hR
theorem mlX2_81 : Cond.methodLink RX2 81 yX2_isFigure ∈ BIG := bg (inT1 (List.mem_of_getElem? (i := 230) (by decide +kernel))) rfl
theorem clX2_81 {R : Room} {s : State} {args : Array Value} {rm : Room} (hB : ∀ w ∈ BIG, w.before args s = true) (hrc : rm.cells = 0) (hrs : rm.slots = 0) (hR : rm.frames + 1 ≤ R.frames ∧ 8 + (1 + 11) + rm.locals ≤ R.locals) : CallB R s args RX2 81 yX2_isFigure cX2_isFigure 1 (some .boolean) (kX2_isFigure :: BIG) rm 0 0 1 ∧ (Cond.static yX2_isFigure).before args s = true := cwS 1 hB (bgS mlX2_81 smX2_isFigure iniX2 mcX2_isFigure) rfl hrc hrs (by decide +kernel) hR
theorem mlX2_85 : Cond.methodLink RX2 85 yX2_readFigures ∈ BIG := bg (inT1 (List.mem_of_getElem? (i := 233) (by decide +kernel))) rfl
theorem clX2_85 {R : Room} {s : State} {args : Array Value} {rm : Room} (hB : ∀ w ∈ BIG, w.before args s = true) (hrc : rm.cells = 0) (hrs : rm.slots = 0) (hR : rm.frames + 1 ≤ R.frames ∧ 8 + (2 + 11) + rm.locals ≤ R.locals) : CallW R s args RX2 RX2 85 yX2_readFigures cX2_readFigures 2 (some .int) (kX2_readFigures :: BIG) rm 0 0 0 := cwV 0 hB (bgV mlX2_85 imX2_readFigures seX2_readFigures iniX2 mcX2_readFigures) rfl hrc hrs (by decide +kernel) hR
theorem mlX3_30 : Cond.methodLink RX3 30 yX3_empty ∈ BIG := bg (inT1 (List.mem_of_getElem? (i := 52) (by decide +kernel))) rfl
theorem clX3_30 {R : Room} {s : State} {args : Array Value} {rm : Room} (hB : ∀ w ∈ BIG, w.before args s = true) (hrc : rm.cells = 0) (hrs : rm.slots = 0) (hR : rm.frames + 1 ≤ R.frames ∧ 8 + (1 + 11) + rm.locals ≤ R.locals) : CallW R s args RX3 RX3 30 yX3_empty cX3_empty 1 none (kX3_empty :: BIG) rm 0 0 0 := cwV 0 hB (bgV mlX3_30 imX3_empty seX3_empty iniX3 mcX3_empty) rfl hrc hrs (by decide +kernel) hR
theorem mlX3_46 : Cond.methodLink RX3 46 yX3_freeAll ∈ BIG := bg (inT1 (List.mem_of_getElem? (i := 56) (by decide +kernel))) rfl
theorem clX3_46 {R : Room} {s : State} {args : Array Value} {rm : Room} (hB : ∀ w ∈ BIG, w.before args s = true) (hrc : rm.cells = 0) (hrs : rm.slots = 0) (hR : rm.frames + 1 ≤ R.frames ∧ 8 + (2 + 11) + rm.locals ≤ R.locals) : CallW R s args RX3 RX3 46 yX3_freeAll cX3_freeAll 2 none (kX3_freeAll :: BIG) rm 0 0 0 := cwV 0 hB (bgV mlX3_46 imX3_freeAll seX3_freeAll iniX3 mcX3_freeAll) rfl hrc hrs (by decide +kernel) hR
theorem mlX3_49 : Cond.methodLink RX3 49 yX3_hasDead ∈ BIG := bg (inT2 (List.mem_of_getElem? (i := 22) (by decide +kernel))) rfl
theorem clX3_49 {R : Room} {s : State} {args : Array Value} {rm : Room} (hB : ∀ w ∈ BIG, w.before args s = true) (hrc : rm.cells = 0) (hrs : rm.slots = 0) (hR : rm.frames + 1 ≤ R.frames ∧ 8 + (2 + 11) + rm.locals ≤ R.locals) : CallW R s args RX3 RX3 49 yX3_hasDead cX3_hasDead 2 (some .boolean) (kX3_hasDead :: BIG) rm 0 0 1 := cwV 1 hB (bgV mlX3_49 imX3_hasDead seX3_hasDead iniX3 mcX3_hasDead) rfl hrc hrs (by decide +kernel) hR
theorem mlX3_53 : Cond.methodLink RX3 53 yX3_hasVisitor ∈ BIG := bg (inT2 (List.mem_of_getElem? (i := 153) (by decide +kernel))) rfl
theorem clX3_53 {R : Room} {s : State} {args : Array Value} {rm : Room} (hB : ∀ w ∈ BIG, w.before args s = true) (hrc : rm.cells = 0) (hrs : rm.slots = 0) (hR : rm.frames + 1 ≤ R.frames ∧ 8 + (2 + 11) + rm.locals ≤ R.locals) : CallW R s args RX3 RX3 53 yX3_hasVisitor cX3_hasVisitor 2 (some .boolean) (kX3_hasVisitor :: BIG) rm 0 0 1 := cwV 1 hB (bgV mlX3_53 imX3_hasVisitor seX3_hasVisitor iniX3 mcX3_hasVisitor) rfl hrc hrs (by decide +kernel) hR
theorem mlX3_56 : Cond.methodLink RX3 56 yX3_placeIn ∈ BIG := bg (inT2 (List.mem_of_getElem? (i := 127) (by decide +kernel))) rfl
theorem clX3_56 {R : Room} {s : State} {args : Array Value} {rm : Room} (hB : ∀ w ∈ BIG, w.before args s = true) (hrc : rm.cells = 0) (hrs : rm.slots = 0) (hR : rm.frames + 1 ≤ R.frames ∧ 8 + (4 + 11) + rm.locals ≤ R.locals) : CallW R s args RX3 RX3 56 yX3_placeIn cX3_placeIn 4 (some .int) (kX3_placeIn :: BIG) rm 0 0 2 := cwV 2 hB (bgV mlX3_56 imX3_placeIn seX3_placeIn iniX3 mcX3_placeIn) rfl hrc hrs (by decide +kernel) hR
theorem mlX3_60 : Cond.methodLink RX3 60 yX3_whoLies ∈ BIG := bg (inT2 (List.mem_of_getElem? (i := 38) (by decide +kernel))) rfl
theorem clX3_60 {R : Room} {s : State} {args : Array Value} {rm : Room} (hB : ∀ w ∈ BIG, w.before args s = true) (hrc : rm.cells = 0) (hrs : rm.slots = 0) (hR : rm.frames + 1 ≤ R.frames ∧ 8 + (4 + 11) + rm.locals ≤ R.locals) : CallW R s args RX3 RX3 60 yX3_whoLies cX3_whoLies 4 (some .int) (kX3_whoLies :: BIG) rm 0 0 2 := cwV 2 hB (bgV mlX3_60 imX3_whoLies seX3_whoLies iniX3 mcX3_whoLies) rfl hrc hrs (by decide +kernel) hR
theorem mlX3_63 : Cond.methodLink RX3 63 yX3_dig ∈ BIG := bg (inT2 (List.mem_of_getElem? (i := 14) (by decide +kernel))) rfl
theorem clX3_63 {R : Room} {s : State} {args : Array Value} {rm : Room} (hB : ∀ w ∈ BIG, w.before args s = true) (hrc : rm.cells = 0) (hrs : rm.slots = 0) (hR : rm.frames + 1 ≤ R.frames ∧ 8 + (6 + 11) + rm.locals ≤ R.locals) : CallW R s args RX3 RX3 63 yX3_dig cX3_dig 6 (some .int) (kX3_dig :: BIG) rm 0 0 1 := cwV 1 hB (bgV mlX3_63 imX3_dig seX3_dig iniX3 mcX3_dig) rfl hrc hrs (by decide +kernel) hR
theorem mlX3_67 : Cond.methodLink RX3 67 yX3_put ∈ BIG := bg (inT2 (List.mem_of_getElem? (i := 42) (by decide +kernel))) rfl
theorem clX3_67 {R : Room} {s : State} {args : Array Value} {rm : Room} (hB : ∀ w ∈ BIG, w.before args s = true) (hrc : rm.cells = 0) (hrs : rm.slots = 0) (hR : rm.frames + 1 ≤ R.frames ∧ 8 + (4 + 11) + rm.locals ≤ R.locals) : CallW R s args RX3 RX3 67 yX3_put cX3_put 4 none (kX3_put :: BIG) rm 0 0 3 := cwV 3 hB (bgV mlX3_67 imX3_put seX3_put iniX3 mcX3_put) rfl hrc hrs (by decide +kernel) hR
theorem mlX3_71 : Cond.methodLink RX3 71 yX3_allOfVillage ∈ BIG := bg (inT3 (List.mem_of_getElem? (i := 119) (by decide +kernel))) rfl
theorem clX3_71 {R : Room} {s : State} {args : Array Value} {rm : Room} (hB : ∀ w ∈ BIG, w.before args s = true) (hrc : rm.cells = 0) (hrs : rm.slots = 0) (hR : rm.frames + 1 ≤ R.frames ∧ 8 + (4 + 11) + rm.locals ≤ R.locals) : CallW R s args RX3 RX3 71 yX3_allOfVillage cX3_allOfVillage 4 (some .int) (kX3_allOfVillage :: BIG) rm 0 0 1 := cwV 1 hB (bgV mlX3_71 imX3_allOfVillage seX3_allOfVillage iniX3 mcX3_allOfVillage) rfl hrc hrs (by decide +kernel) hR
theorem mlX3_74 : Cond.methodLink RX3 74 yX3_allWhoLie ∈ BIG := bg (inT3 (List.mem_of_getElem? (i := 123) (by decide +kernel))) rfl
theorem clX3_74 {R : Room} {s : State} {args : Array Value} {rm : Room} (hB : ∀ w ∈ BIG, w.before args s = true) (hrc : rm.cells = 0) (hrs : rm.slots = 0) (hR : rm.frames + 1 ≤ R.frames ∧ 8 + (3 + 11) + rm.locals ≤ R.locals) : CallW R s args RX3 RX3 74 yX3_allWhoLie cX3_allWhoLie 3 (some .int) (kX3_allWhoLie :: BIG) rm 0 0 0 := cwV 0 hB (bgV mlX3_74 imX3_allWhoLie seX3_allWhoLie iniX3 mcX3_allWhoLie) rfl hrc hrs (by decide +kernel) hR
theorem mlX3_78 : Cond.methodLink RX3 78 yJ6_bitCount_0f7a4 ∈ BIG := bg (inT3 (List.mem_of_getElem? (i := 128) (by decide +kernel))) rfl
theorem clX3_78 {R : Room} {s : State} {args : Array Value} {rm : Room} (hB : ∀ w ∈ BIG, w.before args s = true) (hrc : rm.cells = 0) (hrs : rm.slots = 0) (hR : rm.frames + 1 ≤ R.frames ∧ 8 + (1 + 11) + rm.locals ≤ R.locals) : CallB R s args RX3 78 yJ6_bitCount_0f7a4 cJ6_bitCount_0f7a4 1 (some .int) (kJ6_bitCount_0f7a4 :: BIG) rm 0 0 1 ∧ (Cond.static yJ6_bitCount_0f7a4).before args s = true := ⟨callB_of 1 hB (bgG mcJ6_bitCount_0f7a4) rfl hrc hrs (hB _ iniJ6) (hB _ mlX3_78) (by decide +kernel) hR, hB _ smJ6_bitCount_0f7a4⟩
theorem mlX3_83 : Cond.methodLink RX3 83 yX3_villageOf ∈ BIG := bg (inT2 (List.mem_of_getElem? (i := 18) (by decide +kernel))) rfl
theorem clX3_83 {R : Room} {s : State} {args : Array Value} {rm : Room} (hB : ∀ w ∈ BIG, w.before args s = true) (hrc : rm.cells = 0) (hrs : rm.slots = 0) (hR : rm.frames + 1 ≤ R.frames ∧ 8 + (2 + 11) + rm.locals ≤ R.locals) : CallW R s args RX3 RX3 83 yX3_villageOf cX3_villageOf 2 (some .int) (kX3_villageOf :: BIG) rm 0 0 1 := cwV 1 hB (bgV mlX3_83 imX3_villageOf seX3_villageOf iniX3 mcX3_villageOf) rfl hrc hrs (by decide +kernel) hR
theorem mlX3_86 : Cond.methodLink RX3 86 yX3_plotOf ∈ BIG := bg (inT3 (List.mem_of_getElem? (i := 127) (by decide +kernel))) rfl
theorem clX3_86 {R : Room} {s : State} {args : Array Value} {rm : Room} (hB : ∀ w ∈ BIG, w.before args s = true) (hrc : rm.cells = 0) (hrs : rm.slots = 0) (hR : rm.frames + 1 ≤ R.frames ∧ 8 + (2 + 11) + rm.locals ≤ R.locals) : CallW R s args RX3 RX3 86 yX3_plotOf cX3_plotOf 2 (some .int) (kX3_plotOf :: BIG) rm 0 0 1 := cwV 1 hB (bgV mlX3_86 imX3_plotOf seX3_plotOf iniX3 mcX3_plotOf) rfl hrc hrs (by decide +kernel) hR
theorem mlX3_89 : Cond.methodLink RX3 89 yX3_forgivenOf ∈ BIG := bg (inT2 (List.mem_of_getElem? (i := 30) (by decide +kernel))) rfl
theorem clX3_89 {R : Room} {s : State} {args : Array Value} {rm : Room} (hB : ∀ w ∈ BIG, w.before args s = true) (hrc : rm.cells = 0) (hrs : rm.slots = 0) (hR : rm.frames + 1 ≤ R.frames ∧ 8 + (2 + 11) + rm.locals ≤ R.locals) : CallW R s args RX3 RX3 89 yX3_forgivenOf cX3_forgivenOf 2 (some .int) (kX3_forgivenOf :: BIG) rm 0 0 1 := cwV 1 hB (bgV mlX3_89 imX3_forgivenOf seX3_forgivenOf iniX3 mcX3_forgivenOf) rfl hrc hrs (by decide +kernel) hR
theorem mlX3_92 : Cond.methodLink RX3 92 yX3_plotOfDouble ∈ BIG := bg (inT3 (List.mem_of_getElem? (i := 183) (by decide +kernel))) rfl
theorem clX3_92 {R : Room} {s : State} {args : Array Value} {rm : Room} (hB : ∀ w ∈ BIG, w.before args s = true) (hrc : rm.cells = 0) (hrs : rm.slots = 0) (hR : rm.frames + 1 ≤ R.frames ∧ 8 + (2 + 11) + rm.locals ≤ R.locals) : CallW R s args RX3 RX3 92 yX3_plotOfDouble cX3_plotOfDouble 2 (some .int) (kX3_plotOfDouble :: BIG) rm 0 0 1 := cwV 1 hB (bgV mlX3_92 imX3_plotOfDouble seX3_plotOfDouble iniX3 mcX3_plotOfDouble) rfl hrc hrs (by decide +kernel) hR
theorem mlX3_95 : Cond.methodLink RX3 95 yX3_sameLie ∈ BIG := bg (inT2 (List.mem_of_getElem? (i := 231) (by decide +kernel))) rfl
theorem clX3_95 {R : Room} {s : State} {args : Array Value} {rm : Room} (hB : ∀ w ∈ BIG, w.before args s = true) (hrc : rm.cells = 0) (hrs : rm.slots = 0) (hR : rm.frames + 1 ≤ R.frames ∧ 8 + (4 + 11) + rm.locals ≤ R.locals) : CallW R s args RX3 RX3 95 yX3_sameLie cX3_sameLie 4 (some .boolean) (kX3_sameLie :: BIG) rm 0 0 2 := cwV 2 hB (bgV mlX3_95 imX3_sameLie seX3_sameLie iniX3 mcX3_sameLie) rfl hrc hrs (by decide +kernel) hR
theorem mlX3_99 : Cond.methodLink RX3 99 yX3_goalOf ∈ BIG := bg (inT2 (List.mem_of_getElem? (i := 235) (by decide +kernel))) rfl
theorem clX3_99 {R : Room} {s : State} {args : Array Value} {rm : Room} (hB : ∀ w ∈ BIG, w.before args s = true) (hrc : rm.cells = 0) (hrs : rm.slots = 0) (hR : rm.frames + 1 ≤ R.frames ∧ 8 + (5 + 11) + rm.locals ≤ R.locals) : CallW R s args RX3 RX3 99 yX3_goalOf cX3_goalOf 5 (some .int) (kX3_goalOf :: BIG) rm 0 0 3 := cwV 3 hB (bgV mlX3_99 imX3_goalOf seX3_goalOf iniX3 mcX3_goalOf) rfl hrc hrs (by decide +kernel) hR
theorem mlX3_103 : Cond.methodLink RX3 103 yX3_isLowestOfRing ∈ BIG := bg (inT2 (List.mem_of_getElem? (i := 239) (by decide +kernel))) rfl
theorem clX3_103 {R : Room} {s : State} {args : Array Value} {rm : Room} (hB : ∀ w ∈ BIG, w.before args s = true) (hrc : rm.cells = 0) (hrs : rm.slots = 0) (hR : rm.frames + 1 ≤ R.frames ∧ 8 + (6 + 11) + rm.locals ≤ R.locals) : CallW R s args RX3 RX3 103 yX3_isLowestOfRing cX3_isLowestOfRing 6 (some .boolean) (kX3_isLowestOfRing :: BIG) rm 0 0 3 := cwV 3 hB (bgV mlX3_103 imX3_isLowestOfRing seX3_isLowestOfRing iniX3 mcX3_isLowestOfRing) rfl hrc hrs (by decide +kernel) hR
theorem mlX3_107 : Cond.methodLink RX3 107 yX3_kindOf ∈ BIG := bg (inT2 (List.mem_of_getElem? (i := 26) (by decide +kernel))) rfl
theorem clX3_107 {R : Room} {s : State} {args : Array Value} {rm : Room} (hB : ∀ w ∈ BIG, w.before args s = true) (hrc : rm.cells = 0) (hrs : rm.slots = 0) (hR : rm.frames + 1 ≤ R.frames ∧ 8 + (2 + 11) + rm.locals ≤ R.locals) : CallW R s args RX3 RX3 107 yX3_kindOf cX3_kindOf 2 (some .int) (kX3_kindOf :: BIG) rm 0 0 1 := cwV 1 hB (bgV mlX3_107 imX3_kindOf seX3_kindOf iniX3 mcX3_kindOf) rfl hrc hrs (by decide +kernel) hR
theorem mlX3_110 : Cond.methodLink RX3 110 yX3_freePlot ∈ BIG := bg (inT2 (List.mem_of_getElem? (i := 34) (by decide +kernel))) rfl
theorem clX3_110 {R : Room} {s : State} {args : Array Value} {rm : Room} (hB : ∀ w ∈ BIG, w.before args s = true) (hrc : rm.cells = 0) (hrs : rm.slots = 0) (hR : rm.frames + 1 ≤ R.frames ∧ 8 + (7 + 11) + rm.locals ≤ R.locals) : CallW R s args RX3 RX3 110 yX3_freePlot cX3_freePlot 7 (some .int) (kX3_freePlot :: BIG) rm 0 0 3 := cwV 3 hB (bgV mlX3_110 imX3_freePlot seX3_freePlot iniX3 mcX3_freePlot) rfl hrc hrs (by decide +kernel) hR
theorem mlX3_117 : Cond.methodLink RX3 117 yX3_hasPlot ∈ BIG := bg (inT2 (List.mem_of_getElem? (i := 47) (by decide +kernel))) rfl
theorem clX3_117 {R : Room} {s : State} {args : Array Value} {rm : Room} (hB : ∀ w ∈ BIG, w.before args s = true) (hrc : rm.cells = 0) (hrs : rm.slots = 0) (hR : rm.frames + 1 ≤ R.frames ∧ 8 + (2 + 11) + rm.locals ≤ R.locals) : CallW R s args RX3 RX3 117 yX3_hasPlot cX3_hasPlot 2 (some .boolean) (kX3_hasPlot :: BIG) rm 0 0 1 := cwV 1 hB (bgV mlX3_117 imX3_hasPlot seX3_hasPlot iniX3 mcX3_hasPlot) rfl hrc hrs (by decide +kernel) hR
theorem mlX4_67 : Cond.methodLink RX4 67 yX2_append ∈ BIG := bg (inT1 (List.mem_of_getElem? (i := 210) (by decide +kernel))) rfl
theorem clX4_67 {R : Room} {s : State} {args : Array Value} {rm : Room} (hB : ∀ w ∈ BIG, w.before args s = true) (hrc : rm.cells = 0) (hrs : rm.slots = 0) (hR : rm.frames + 1 ≤ R.frames ∧ 8 + (2 + 11) + rm.locals ≤ R.locals) : CallW R s args RX4 RX2 67 yX2_append cX2_append 2 none (kX2_append :: BIG) rm 0 0 1 := cwV 1 hB (bgV mlX4_67 imX2_append seX2_append iniX2 mcX2_append) rfl hrc hrs (by decide +kernel) hR
theorem mlX4_71 : Cond.methodLink RX4 71 yX2_tellAll ∈ BIG := bg (inT1 (List.mem_of_getElem? (i := 214) (by decide +kernel))) rfl
theorem clX4_71 {R : Room} {s : State} {args : Array Value} {rm : Room} (hB : ∀ w ∈ BIG, w.before args s = true) (hrc : rm.cells = 0) (hrs : rm.slots = 0) (hR : rm.frames + 1 ≤ R.frames ∧ 8 + (5 + 11) + rm.locals ≤ R.locals) : CallW R s args RX4 RX2 71 yX2_tellAll cX2_tellAll 5 (some .int) (kX2_tellAll :: BIG) rm 0 0 1 := cwV 1 hB (bgV mlX4_71 imX2_tellAll seX2_tellAll iniX2 mcX2_tellAll) rfl hrc hrs (by decide +kernel) hR
theorem mlX4_81 : Cond.methodLink RX4 81 yX3_copyFrom ∈ BIG := bg (inT2 (List.mem_of_getElem? (i := 107) (by decide +kernel))) rfl
theorem clX4_81 {R : Room} {s : State} {args : Array Value} {rm : Room} (hB : ∀ w ∈ BIG, w.before args s = true) (hrc : rm.cells = 0) (hrs : rm.slots = 0) (hR : rm.frames + 1 ≤ R.frames ∧ 8 + (3 + 11) + rm.locals ≤ R.locals) : CallW R s args RX4 RX3 81 yX3_copyFrom cX3_copyFrom 3 none (kX3_copyFrom :: BIG) rm 0 0 1 := cwV 1 hB (bgV mlX4_81 imX3_copyFrom seX3_copyFrom iniX3 mcX3_copyFrom) rfl hrc hrs (by decide +kernel) hR
theorem mlX4_85 : Cond.methodLink RX4 85 yX1_clear ∈ BIG := bg (inT2 (List.mem_of_getElem? (i := 111) (by decide +kernel))) rfl
theorem clX4_85 {R : Room} {s : State} {args : Array Value} {rm : Room} (hB : ∀ w ∈ BIG, w.before args s = true) (hrc : rm.cells = 0) (hrs : rm.slots = 0) (hR : rm.frames + 1 ≤ R.frames ∧ 8 + (1 + 11) + rm.locals ≤ R.locals) : CallW R s args RX4 RX1 85 yX1_clear cX1_clear 1 none (kX1_clear :: BIG) rm 0 0 0 := cwV 0 hB (bgV mlX4_85 imX1_clear seX1_clear iniX1 mcX1_clear) rfl hrc hrs (by decide +kernel) hR
theorem mlX4_91 : Cond.methodLink RX4 91 yX3_hasDead ∈ BIG := bg (inT2 (List.mem_of_getElem? (i := 119) (by decide +kernel))) rfl
theorem clX4_91 {R : Room} {s : State} {args : Array Value} {rm : Room} (hB : ∀ w ∈ BIG, w.before args s = true) (hrc : rm.cells = 0) (hrs : rm.slots = 0) (hR : rm.frames + 1 ≤ R.frames ∧ 8 + (2 + 11) + rm.locals ≤ R.locals) : CallW R s args RX4 RX3 91 yX3_hasDead cX3_hasDead 2 (some .boolean) (kX3_hasDead :: BIG) rm 0 0 1 := cwV 1 hB (bgV mlX4_91 imX3_hasDead seX3_hasDead iniX3 mcX3_hasDead) rfl hrc hrs (by decide +kernel) hR
theorem mlX4_95 : Cond.methodLink RX4 95 yX3_villageOf ∈ BIG := bg (inT2 (List.mem_of_getElem? (i := 120) (by decide +kernel))) rfl
theorem clX4_95 {R : Room} {s : State} {args : Array Value} {rm : Room} (hB : ∀ w ∈ BIG, w.before args s = true) (hrc : rm.cells = 0) (hrs : rm.slots = 0) (hR : rm.frames + 1 ≤ R.frames ∧ 8 + (2 + 11) + rm.locals ≤ R.locals) : CallW R s args RX4 RX3 95 yX3_villageOf cX3_villageOf 2 (some .int) (kX3_villageOf :: BIG) rm 0 0 1 := cwV 1 hB (bgV mlX4_95 imX3_villageOf seX3_villageOf iniX3 mcX3_villageOf) rfl hrc hrs (by decide +kernel) hR
theorem mlX4_99 : Cond.methodLink RX4 99 yX3_kindOf ∈ BIG := bg (inT2 (List.mem_of_getElem? (i := 121) (by decide +kernel))) rfl
theorem clX4_99 {R : Room} {s : State} {args : Array Value} {rm : Room} (hB : ∀ w ∈ BIG, w.before args s = true) (hrc : rm.cells = 0) (hrs : rm.slots = 0) (hR : rm.frames + 1 ≤ R.frames ∧ 8 + (2 + 11) + rm.locals ≤ R.locals) : CallW R s args RX4 RX3 99 yX3_kindOf cX3_kindOf 2 (some .int) (kX3_kindOf :: BIG) rm 0 0 1 := cwV 1 hB (bgV mlX4_99 imX3_kindOf seX3_kindOf iniX3 mcX3_kindOf) rfl hrc hrs (by decide +kernel) hR
theorem mlX4_102 : Cond.methodLink RX4 102 yX3_forgivenOf ∈ BIG := bg (inT2 (List.mem_of_getElem? (i := 122) (by decide +kernel))) rfl
theorem clX4_102 {R : Room} {s : State} {args : Array Value} {rm : Room} (hB : ∀ w ∈ BIG, w.before args s = true) (hrc : rm.cells = 0) (hrs : rm.slots = 0) (hR : rm.frames + 1 ≤ R.frames ∧ 8 + (2 + 11) + rm.locals ≤ R.locals) : CallW R s args RX4 RX3 102 yX3_forgivenOf cX3_forgivenOf 2 (some .int) (kX3_forgivenOf :: BIG) rm 0 0 1 := cwV 1 hB (bgV mlX4_102 imX3_forgivenOf seX3_forgivenOf iniX3 mcX3_forgivenOf) rfl hrc hrs (by decide +kernel) hR
theorem mlX4_105 : Cond.methodLink RX4 105 yX3_plotOf ∈ BIG := bg (inT2 (List.mem_of_getElem? (i := 123) (by decide +kernel))) rfl
theorem clX4_105 {R : Room} {s : State} {args : Array Value} {rm : Room} (hB : ∀ w ∈ BIG, w.before args s = true) (hrc : rm.cells = 0) (hrs : rm.slots = 0) (hR : rm.frames + 1 ≤ R.frames ∧ 8 + (2 + 11) + rm.locals ≤ R.locals) : CallW R s args RX4 RX3 105 yX3_plotOf cX3_plotOf 2 (some .int) (kX3_plotOf :: BIG) rm 0 0 1 := cwV 1 hB (bgV mlX4_105 imX3_plotOf seX3_plotOf iniX3 mcX3_plotOf) rfl hrc hrs (by decide +kernel) hR
theorem mlX4_108 : Cond.methodLink RX4 108 yX3_plotOfDouble ∈ BIG := bg (inT2 (List.mem_of_getElem? (i := 131) (by decide +kernel))) rfl
theorem clX4_108 {R : Room} {s : State} {args : Array Value} {rm : Room} (hB : ∀ w ∈ BIG, w.before args s = true) (hrc : rm.cells = 0) (hrs : rm.slots = 0) (hR : rm.frames + 1 ≤ R.frames ∧ 8 + (2 + 11) + rm.locals ≤ R.locals) : CallW R s args RX4 RX3 108 yX3_plotOfDouble cX3_plotOfDouble 2 (some .int) (kX3_plotOfDouble :: BIG) rm 0 0 1 := cwV 1 hB (bgV mlX4_108 imX3_plotOfDouble seX3_plotOfDouble iniX3 mcX3_plotOfDouble) rfl hrc hrs (by decide +kernel) hR
theorem mlX4_111 : Cond.methodLink RX4 111 yX4_isSide ∈ BIG := bg (inT2 (List.mem_of_getElem? (i := 4) (by decide +kernel))) rfl
theorem clX4_111 {R : Room} {s : State} {args : Array Value} {rm : Room} (hB : ∀ w ∈ BIG, w.before args s = true) (hrc : rm.cells = 0) (hrs : rm.slots = 0) (hR : rm.frames + 1 ≤ R.frames ∧ 8 + (1 + 11) + rm.locals ≤ R.locals) : CallB R s args RX4 111 yX4_isSide cX4_isSide 1 (some .boolean) (kX4_isSide :: BIG) rm 0 0 1 ∧ (Cond.static yX4_isSide).before args s = true := cwS 1 hB (bgS mlX4_111 smX4_isSide iniX4 mcX4_isSide) rfl hrc hrs (by decide +kernel) hR
theorem mlX4_114 : Cond.methodLink RX4 114 yX3_hasPlot ∈ BIG := bg (inT2 (List.mem_of_getElem? (i := 139) (by decide +kernel))) rfl
theorem clX4_114 {R : Room} {s : State} {args : Array Value} {rm : Room} (hB : ∀ w ∈ BIG, w.before args s = true) (hrc : rm.cells = 0) (hrs : rm.slots = 0) (hR : rm.frames + 1 ≤ R.frames ∧ 8 + (2 + 11) + rm.locals ≤ R.locals) : CallW R s args RX4 RX3 114 yX3_hasPlot cX3_hasPlot 2 (some .boolean) (kX3_hasPlot :: BIG) rm 0 0 1 := cwV 1 hB (bgV mlX4_114 imX3_hasPlot seX3_hasPlot iniX3 mcX3_hasPlot) rfl hrc hrs (by decide +kernel) hR
theorem mlX4_117 : Cond.methodLink RX4 117 yX3_whoLies ∈ BIG := bg (inT2 (List.mem_of_getElem? (i := 140) (by decide +kernel))) rfl
theorem clX4_117 {R : Room} {s : State} {args : Array Value} {rm : Room} (hB : ∀ w ∈ BIG, w.before args s = true) (hrc : rm.cells = 0) (hrs : rm.slots = 0) (hR : rm.frames + 1 ≤ R.frames ∧ 8 + (4 + 11) + rm.locals ≤ R.locals) : CallW R s args RX4 RX3 117 yX3_whoLies cX3_whoLies 4 (some .int) (kX3_whoLies :: BIG) rm 0 0 2 := cwV 2 hB (bgV mlX4_117 imX3_whoLies seX3_whoLies iniX3 mcX3_whoLies) rfl hrc hrs (by decide +kernel) hR
theorem mlX4_121 : Cond.methodLink RX4 121 yX3_hasVisitor ∈ BIG := bg (inT2 (List.mem_of_getElem? (i := 145) (by decide +kernel))) rfl
theorem clX4_121 {R : Room} {s : State} {args : Array Value} {rm : Room} (hB : ∀ w ∈ BIG, w.before args s = true) (hrc : rm.cells = 0) (hrs : rm.slots = 0) (hR : rm.frames + 1 ≤ R.frames ∧ 8 + (2 + 11) + rm.locals ≤ R.locals) : CallW R s args RX4 RX3 121 yX3_hasVisitor cX3_hasVisitor 2 (some .boolean) (kX3_hasVisitor :: BIG) rm 0 0 1 := cwV 1 hB (bgV mlX4_121 imX3_hasVisitor seX3_hasVisitor iniX3 mcX3_hasVisitor) rfl hrc hrs (by decide +kernel) hR
theorem mlX4_124 : Cond.methodLink RX4 124 yX3_visitedBy ∈ BIG := bg (inT2 (List.mem_of_getElem? (i := 149) (by decide +kernel))) rfl
theorem clX4_124 {R : Room} {s : State} {args : Array Value} {rm : Room} (hB : ∀ w ∈ BIG, w.before args s = true) (hrc : rm.cells = 0) (hrs : rm.slots = 0) (hR : rm.frames + 1 ≤ R.frames ∧ 8 + (2 + 11) + rm.locals ≤ R.locals) : CallW R s args RX4 RX3 124 yX3_visitedBy cX3_visitedBy 2 (some .int) (kX3_visitedBy :: BIG) rm 0 0 1 := cwV 1 hB (bgV mlX4_124 imX3_visitedBy seX3_visitedBy iniX3 mcX3_visitedBy) rfl hrc hrs (by decide +kernel) hR
theorem mlX4_127 : Cond.methodLink RX4 127 yX3_minutesOf ∈ BIG := bg (inT2 (List.mem_of_getElem? (i := 154) (by decide +kernel))) rfl
theorem clX4_127 {R : Room} {s : State} {args : Array Value} {rm : Room} (hB : ∀ w ∈ BIG, w.before args s = true) (hrc : rm.cells = 0) (hrs : rm.slots = 0) (hR : rm.frames + 1 ≤ R.frames ∧ 8 + (2 + 11) + rm.locals ≤ R.locals) : CallW R s args RX4 RX3 127 yX3_minutesOf cX3_minutesOf 2 (some .int) (kX3_minutesOf :: BIG) rm 0 0 1 := cwV 1 hB (bgV mlX4_127 imX3_minutesOf seX3_minutesOf iniX3 mcX3_minutesOf) rfl hrc hrs (by decide +kernel) hR
theorem mlX4_130 : Cond.methodLink RX4 130 yX4_isOneOfTheDead ∈ BIG := bg (inT2 (List.mem_of_getElem? (i := 162) (by decide +kernel))) rfl
theorem clX4_130 {R : Room} {s : State} {args : Array Value} {rm : Room} (hB : ∀ w ∈ BIG, w.before args s = true) (hrc : rm.cells = 0) (hrs : rm.slots = 0) (hR : rm.frames + 1 ≤ R.frames ∧ 8 + (3 + 11) + rm.locals ≤ R.locals) : CallB R s args RX4 130 yX4_isOneOfTheDead cX4_isOneOfTheDead 3 (some .boolean) (kX4_isOneOfTheDead :: BIG) rm 0 0 3 ∧ (Cond.static yX4_isOneOfTheDead).before args s = true := cwS 3 hB (bgS mlX4_130 smX4_isOneOfTheDead iniX4 mcX4_isOneOfTheDead) rfl hrc hrs (by decide +kernel) hR
theorem mlX4_134 : Cond.methodLink RX4 134 yX1_put ∈ BIG := bg (inT2 (List.mem_of_getElem? (i := 163) (by decide +kernel))) rfl
theorem clX4_134 {R : Room} {s : State} {args : Array Value} {rm : Room} (hB : ∀ w ∈ BIG, w.before args s = true) (hrc : rm.cells = 0) (hrs : rm.slots = 0) (hR : rm.frames + 1 ≤ R.frames ∧ 8 + (2 + 11) + rm.locals ≤ R.locals) : CallW R s args RX4 RX1 134 yX1_put cX1_put 2 none (kX1_put :: BIG) rm 0 0 1 := cwV 1 hB (bgV mlX4_134 imX1_put seX1_put iniX1 mcX1_put) rfl hrc hrs (by decide +kernel) hR
theorem mlX4_137 : Cond.methodLink RX4 137 yX3_addDead ∈ BIG := bg (inT2 (List.mem_of_getElem? (i := 172) (by decide +kernel))) rfl
theorem clX4_137 {R : Room} {s : State} {args : Array Value} {rm : Room} (hB : ∀ w ∈ BIG, w.before args s = true) (hrc : rm.cells = 0) (hrs : rm.slots = 0) (hR : rm.frames + 1 ≤ R.frames ∧ 8 + (5 + 11) + rm.locals ≤ R.locals) : CallW R s args RX4 RX3 137 yX3_addDead cX3_addDead 5 (some .int) (kX3_addDead :: BIG) rm 0 0 3 := cwV 3 hB (bgV mlX4_137 imX3_addDead seX3_addDead iniX3 mcX3_addDead) rfl hrc hrs (by decide +kernel) hR
theorem mlX4_141 : Cond.methodLink RX4 141 yX3_swap ∈ BIG := bg (inT2 (List.mem_of_getElem? (i := 177) (by decide +kernel))) rfl
theorem clX4_141 {R : Room} {s : State} {args : Array Value} {rm : Room} (hB : ∀ w ∈ BIG, w.before args s = true) (hrc : rm.cells = 0) (hrs : rm.slots = 0) (hR : rm.frames + 1 ≤ R.frames ∧ 8 + (5 + 11) + rm.locals ≤ R.locals) : CallW R s args RX4 RX3 141 yX3_swap cX3_swap 5 none (kX3_swap :: BIG) rm 0 0 3 := cwV 3 hB (bgV mlX4_141 imX3_swap seX3_swap iniX3 mcX3_swap) rfl hrc hrs (by decide +kernel) hR
theorem mlX4_145 : Cond.methodLink RX4 145 yX4_isForgiven ∈ BIG := bg (inT2 (List.mem_of_getElem? (i := 7) (by decide +kernel))) rfl
theorem clX4_145 {R : Room} {s : State} {args : Array Value} {rm : Room} (hB : ∀ w ∈ BIG, w.before args s = true) (hrc : rm.cells = 0) (hrs : rm.slots = 0) (hR : rm.frames + 1 ≤ R.frames ∧ 8 + (1 + 11) + rm.locals ≤ R.locals) : CallB R s args RX4 145 yX4_isForgiven cX4_isForgiven 1 (some .boolean) (kX4_isForgiven :: BIG) rm 0 0 1 ∧ (Cond.static yX4_isForgiven).before args s = true := cwS 1 hB (bgS mlX4_145 smX4_isForgiven iniX4 mcX4_isForgiven) rfl hrc hrs (by decide +kernel) hR
theorem mlX4_148 : Cond.methodLink RX4 148 yX3_setForgiven ∈ BIG := bg (inT2 (List.mem_of_getElem? (i := 185) (by decide +kernel))) rfl
theorem clX4_148 {R : Room} {s : State} {args : Array Value} {rm : Room} (hB : ∀ w ∈ BIG, w.before args s = true) (hrc : rm.cells = 0) (hrs : rm.slots = 0) (hR : rm.frames + 1 ≤ R.frames ∧ 8 + (3 + 11) + rm.locals ≤ R.locals) : CallW R s args RX4 RX3 148 yX3_setForgiven cX3_setForgiven 3 none (kX3_setForgiven :: BIG) rm 0 0 2 := cwV 2 hB (bgV mlX4_148 imX3_setForgiven seX3_setForgiven iniX3 mcX3_setForgiven) rfl hrc hrs (by decide +kernel) hR
theorem mlX4_152 : Cond.methodLink RX4 152 yX4_isMinutes ∈ BIG := bg (inT2 (List.mem_of_getElem? (i := 193) (by decide +kernel))) rfl
theorem clX4_152 {R : Room} {s : State} {args : Array Value} {rm : Room} (hB : ∀ w ∈ BIG, w.before args s = true) (hrc : rm.cells = 0) (hrs : rm.slots = 0) (hR : rm.frames + 1 ≤ R.frames ∧ 8 + (1 + 11) + rm.locals ≤ R.locals) : CallB R s args RX4 152 yX4_isMinutes cX4_isMinutes 1 (some .boolean) (kX4_isMinutes :: BIG) rm 0 0 1 ∧ (Cond.static yX4_isMinutes).before args s = true := cwS 1 hB (bgS mlX4_152 smX4_isMinutes iniX4 mcX4_isMinutes) rfl hrc hrs (by decide +kernel) hR
theorem mlX4_158 : Cond.methodLink RX4 158 yX3_addVisitor ∈ BIG := bg (inT2 (List.mem_of_getElem? (i := 194) (by decide +kernel))) rfl
theorem clX4_158 {R : Room} {s : State} {args : Array Value} {rm : Room} (hB : ∀ w ∈ BIG, w.before args s = true) (hrc : rm.cells = 0) (hrs : rm.slots = 0) (hR : rm.frames + 1 ≤ R.frames ∧ 8 + (3 + 11) + rm.locals ≤ R.locals) : CallW R s args RX4 RX3 158 yX3_addVisitor cX3_addVisitor 3 none (kX3_addVisitor :: BIG) rm 0 0 2 := cwV 2 hB (bgV mlX4_158 imX3_addVisitor seX3_addVisitor iniX3 mcX3_addVisitor) rfl hrc hrs (by decide +kernel) hR
theorem mlX4_164 : Cond.methodLink RX4 164 yX1_take ∈ BIG := bg (inT2 (List.mem_of_getElem? (i := 199) (by decide +kernel))) rfl
theorem clX4_164 {R : Room} {s : State} {args : Array Value} {rm : Room} (hB : ∀ w ∈ BIG, w.before args s = true) (hrc : rm.cells = 0) (hrs : rm.slots = 0) (hR : rm.frames + 1 ≤ R.frames ∧ 8 + (2 + 11) + rm.locals ≤ R.locals) : CallW R s args RX4 RX1 164 yX1_take cX1_take 2 none (kX1_take :: BIG) rm 0 0 1 := cwV 1 hB (bgV mlX4_164 imX1_take seX1_take iniX1 mcX1_take) rfl hrc hrs (by decide +kernel) hR
theorem mlX4_167 : Cond.methodLink RX4 167 yX4_layByRight ∈ BIG := bg (inT2 (List.mem_of_getElem? (i := 207) (by decide +kernel))) rfl
theorem clX4_167 {R : Room} {s : State} {args : Array Value} {rm : Room} (hB : ∀ w ∈ BIG, w.before args s = true) (hrc : rm.cells = 0) (hrs : rm.slots = 0) (hR : rm.frames + 1 ≤ R.frames ∧ 8 + (2 + 11) + rm.locals ≤ R.locals) : CallW R s args RX4 RX4 167 yX4_layByRight cX4_layByRight 2 none (kX4_layByRight :: BIG) rm 0 0 1 := cwV 1 hB (bgV mlX4_167 imX4_layByRight seX4_layByRight iniX4 mcX4_layByRight) rfl hrc hrs (by decide +kernel) hR
theorem mlX4_170 : Cond.methodLink RX4 170 yX4_movedIn ∈ BIG := bg (inT2 (List.mem_of_getElem? (i := 219) (by decide +kernel))) rfl
theorem clX4_170 {R : Room} {s : State} {args : Array Value} {rm : Room} (hB : ∀ w ∈ BIG, w.before args s = true) (hrc : rm.cells = 0) (hrs : rm.slots = 0) (hR : rm.frames + 1 ≤ R.frames ∧ 8 + (4 + 11) + rm.locals ≤ R.locals) : CallW R s args RX4 RX4 170 yX4_movedIn cX4_movedIn 4 (some .int) (kX4_movedIn :: BIG) rm 0 0 1 := cwV 1 hB (bgV mlX4_170 imX4_movedIn seX4_movedIn iniX4 mcX4_movedIn) rfl hrc hrs (by decide +kernel) hR
theorem mlX4_173 : Cond.methodLink RX4 173 yX3_fewestChanges ∈ BIG := bg (inT2 (List.mem_of_getElem? (i := 227) (by decide +kernel))) rfl
theorem clX4_173 {R : Room} {s : State} {args : Array Value} {rm : Room} (hB : ∀ w ∈ BIG, w.before args s = true) (hrc : rm.cells = 0) (hrs : rm.slots = 0) (hR : rm.frames + 1 ≤ R.frames ∧ 8 + (6 + 11) + rm.locals ≤ R.locals) : CallW R s args RX4 RX3 173 yX3_fewestChanges cX3_fewestChanges 6 (some .int) (kX3_fewestChanges :: BIG) rm 0 0 2 := cwV 2 hB (bgV mlX4_173 imX3_fewestChanges seX3_fewestChanges iniX3 mcX3_fewestChanges) rfl hrc hrs (by decide +kernel) hR
theorem mlX4_177 : Cond.methodLink RX4 177 yX0_gather ∈ BIG := bg (inT3 (List.mem_of_getElem? (i := 11) (by decide +kernel))) rfl
theorem clX4_177 {R : Room} {s : State} {args : Array Value} {rm : Room} (hB : ∀ w ∈ BIG, w.before args s = true) (hrc : rm.cells = 0) (hrs : rm.slots = 0) (hR : rm.frames + 1 ≤ R.frames ∧ 8 + (5 + 11) + rm.locals ≤ R.locals) : CallW R s args RX4 RX0 177 yX0_gather cX0_gather 5 none (kX0_gather :: BIG) rm 0 0 1 := cwV 1 hB (bgV mlX4_177 imX0_gather seX0_gather iniX0 mcX0_gather) rfl hrc hrs (by decide +kernel) hR
theorem mlX4_180 : Cond.methodLink RX4 180 yX0_minutesByNumber ∈ BIG := bg (inT3 (List.mem_of_getElem? (i := 22) (by decide +kernel))) rfl
theorem clX4_180 {R : Room} {s : State} {args : Array Value} {rm : Room} (hB : ∀ w ∈ BIG, w.before args s = true) (hrc : rm.cells = 0) (hrs : rm.slots = 0) (hR : rm.frames + 1 ≤ R.frames ∧ 8 + (4 + 11) + rm.locals ≤ R.locals) : CallW R s args RX4 RX0 180 yX0_minutesByNumber cX0_minutesByNumber 4 (some .int) (kX0_minutesByNumber :: BIG) rm 0 0 1 := cwV 1 hB (bgV mlX4_180 imX0_minutesByNumber seX0_minutesByNumber iniX0 mcX0_minutesByNumber) rfl hrc hrs (by decide +kernel) hR
theorem mlX4_187 : Cond.methodLink RX4 187 yX0_tryAllOrders ∈ BIG := bg (inT3 (List.mem_of_getElem? (i := 55) (by decide +kernel))) rfl
theorem clX4_187 {R : Room} {s : State} {args : Array Value} {rm : Room} (hB : ∀ w ∈ BIG, w.before args s = true) (hrc : rm.cells = 0) (hrs : rm.slots = 0) (hR : rm.frames + 1 ≤ R.frames ∧ 8 + (2 + 11) + rm.locals ≤ R.locals) : CallW R s args RX4 RX0 187 yX0_tryAllOrders cX0_tryAllOrders 2 none (kX0_tryAllOrders :: BIG) rm 0 0 0 := cwV 0 hB (bgV mlX4_187 imX0_tryAllOrders seX0_tryAllOrders iniX0 mcX0_tryAllOrders) rfl hrc hrs (by decide +kernel) hR
theorem mlX4_190 : Cond.methodLink RX4 190 yX0_soonestOf ∈ BIG := bg (inT3 (List.mem_of_getElem? (i := 68) (by decide +kernel))) rfl
theorem clX4_190 {R : Room} {s : State} {args : Array Value} {rm : Room} (hB : ∀ w ∈ BIG, w.before args s = true) (hrc : rm.cells = 0) (hrs : rm.slots = 0) (hR : rm.frames + 1 ≤ R.frames ∧ 8 + (2 + 11) + rm.locals ≤ R.locals) : CallW R s args RX4 RX0 190 yX0_soonestOf cX0_soonestOf 2 (some .int) (kX0_soonestOf :: BIG) rm 0 0 1 := cwV 1 hB (bgV mlX4_190 imX0_soonestOf seX0_soonestOf iniX0 mcX0_soonestOf) rfl hrc hrs (by decide +kernel) hR
theorem mlX4_193 : Cond.methodLink RX4 193 yX0_inBestOrder ∈ BIG := bg (inT3 (List.mem_of_getElem? (i := 72) (by decide +kernel))) rfl
theorem clX4_193 {R : Room} {s : State} {args : Array Value} {rm : Room} (hB : ∀ w ∈ BIG, w.before args s = true) (hrc : rm.cells = 0) (hrs : rm.slots = 0) (hR : rm.frames + 1 ≤ R.frames ∧ 8 + (2 + 11) + rm.locals ≤ R.locals) : CallW R s args RX4 RX0 193 yX0_inBestOrder cX0_inBestOrder 2 (some .int) (kX0_inBestOrder :: BIG) rm 0 0 1 := cwV 1 hB (bgV mlX4_193 imX0_inBestOrder seX0_inBestOrder iniX0 mcX0_inBestOrder) rfl hrc hrs (by decide +kernel) hR
theorem mlX4_199 : Cond.methodLink RX4 199 yX0_fewestToStay ∈ BIG := bg (inT3 (List.mem_of_getElem? (i := 90) (by decide +kernel))) rfl
theorem clX4_199 {R : Room} {s : State} {args : Array Value} {rm : Room} (hB : ∀ w ∈ BIG, w.before args s = true) (hrc : rm.cells = 0) (hrs : rm.slots = 0) (hR : rm.frames + 1 ≤ R.frames ∧ 8 + (6 + 11) + rm.locals ≤ R.locals) : CallW R s args RX4 RX0 199 yX0_fewestToStay cX0_fewestToStay 6 (some .int) (kX0_fewestToStay :: BIG) rm 0 0 1 := cwV 1 hB (bgV mlX4_199 imX0_fewestToStay seX0_fewestToStay iniX0 mcX0_fewestToStay) rfl hrc hrs (by decide +kernel) hR
theorem mlX4_202 : Cond.methodLink RX4 202 yX3_digAllAnew ∈ BIG := bg (inT2 (List.mem_of_getElem? (i := 211) (by decide +kernel))) rfl
theorem clX4_202 {R : Room} {s : State} {args : Array Value} {rm : Room} (hB : ∀ w ∈ BIG, w.before args s = true) (hrc : rm.cells = 0) (hrs : rm.slots = 0) (hR : rm.frames + 1 ≤ R.frames ∧ 8 + (2 + 11) + rm.locals ≤ R.locals) : CallW R s args RX4 RX3 202 yX3_digAllAnew cX3_digAllAnew 2 none (kX3_digAllAnew :: BIG) rm 0 0 0 := cwV 0 hB (bgV mlX4_202 imX3_digAllAnew seX3_digAllAnew iniX3 mcX3_digAllAnew) rfl hrc hrs (by decide +kernel) hR
theorem mlX4_205 : Cond.methodLink RX4 205 yX4_isAllSeenSo ∈ BIG := bg (inT3 (List.mem_of_getElem? (i := 107) (by decide +kernel))) rfl
theorem clX4_205 {R : Room} {s : State} {args : Array Value} {rm : Room} (hB : ∀ w ∈ BIG, w.before args s = true) (hrc : rm.cells = 0) (hrs : rm.slots = 0) (hR : rm.frames + 1 ≤ R.frames ∧ 8 + (2 + 11) + rm.locals ≤ R.locals) : CallW R s args RX4 RX4 205 yX4_isAllSeenSo cX4_isAllSeenSo 2 (some .boolean) (kX4_isAllSeenSo :: BIG) rm 0 0 0 := cwV 0 hB (bgV mlX4_205 imX4_isAllSeenSo seX4_isAllSeenSo iniX4 mcX4_isAllSeenSo) rfl hrc hrs (by decide +kernel) hR
theorem mlX4_209 : Cond.methodLink RX4 209 yX3_owedOf ∈ BIG := bg (inT3 (List.mem_of_getElem? (i := 115) (by decide +kernel))) rfl
theorem clX4_209 {R : Room} {s : State} {args : Array Value} {rm : Room} (hB : ∀ w ∈ BIG, w.before args s = true) (hrc : rm.cells = 0) (hrs : rm.slots = 0) (hR : rm.frames + 1 ≤ R.frames ∧ 8 + (2 + 11) + rm.locals ≤ R.locals) : CallW R s args RX4 RX3 209 yX3_owedOf cX3_owedOf 2 (some .int) (kX3_owedOf :: BIG) rm 0 0 1 := cwV 1 hB (bgV mlX4_209 imX3_owedOf seX3_owedOf iniX3 mcX3_owedOf) rfl hrc hrs (by decide +kernel) hR
theorem mlX4_212 : Cond.methodLink RX4 212 yX3_forgivenOfAllWhoLie ∈ BIG := bg (inT3 (List.mem_of_getElem? (i := 133) (by decide +kernel))) rfl
theorem clX4_212 {R : Room} {s : State} {args : Array Value} {rm : Room} (hB : ∀ w ∈ BIG, w.before args s = true) (hrc : rm.cells = 0) (hrs : rm.slots = 0) (hR : rm.frames + 1 ≤ R.frames ∧ 8 + (4 + 11) + rm.locals ≤ R.locals) : CallW R s args RX4 RX3 212 yX3_forgivenOfAllWhoLie cX3_forgivenOfAllWhoLie 4 (some .int) (kX3_forgivenOfAllWhoLie :: BIG) rm 0 0 1 := cwV 1 hB (bgV mlX4_212 imX3_forgivenOfAllWhoLie seX3_forgivenOfAllWhoLie iniX3 mcX3_forgivenOfAllWhoLie) rfl hrc hrs (by decide +kernel) hR
theorem mlX4_215 : Cond.methodLink RX4 215 yX3_allWhoLie ∈ BIG := bg (inT3 (List.mem_of_getElem? (i := 141) (by decide +kernel))) rfl
theorem clX4_215 {R : Room} {s : State} {args : Array Value} {rm : Room} (hB : ∀ w ∈ BIG, w.before args s = true) (hrc : rm.cells = 0) (hrs : rm.slots = 0) (hR : rm.frames + 1 ≤ R.frames ∧ 8 + (3 + 11) + rm.locals ≤ R.locals) : CallW R s args RX4 RX3 215 yX3_allWhoLie cX3_allWhoLie 3 (some .int) (kX3_allWhoLie :: BIG) rm 0 0 0 := cwV 0 hB (bgV mlX4_215 imX3_allWhoLie seX3_allWhoLie iniX3 mcX3_allWhoLie) rfl hrc hrs (by decide +kernel) hR
theorem mlX4_218 : Cond.methodLink RX4 218 yX4_nextWornOff ∈ BIG := bg (inT3 (List.mem_of_getElem? (i := 142) (by decide +kernel))) rfl
theorem clX4_218 {R : Room} {s : State} {args : Array Value} {rm : Room} (hB : ∀ w ∈ BIG, w.before args s = true) (hrc : rm.cells = 0) (hrs : rm.slots = 0) (hR : rm.frames + 1 ≤ R.frames ∧ 8 + (5 + 11) + rm.locals ≤ R.locals) : CallW R s args RX4 RX4 218 yX4_nextWornOff cX4_nextWornOff 5 (some .int) (kX4_nextWornOff :: BIG) rm 0 0 2 := cwV 2 hB (bgV mlX4_218 imX4_nextWornOff seX4_nextWornOff iniX4 mcX4_nextWornOff) rfl hrc hrs (by decide +kernel) hR
theorem mlX4_221 : Cond.methodLink RX4 221 yX3_freePlot ∈ BIG := bg (inT3 (List.mem_of_getElem? (i := 151) (by decide +kernel))) rfl
theorem clX4_221 {R : Room} {s : State} {args : Array Value} {rm : Room} (hB : ∀ w ∈ BIG, w.before args s = true) (hrc : rm.cells = 0) (hrs : rm.slots = 0) (hR : rm.frames + 1 ≤ R.frames ∧ 8 + (7 + 11) + rm.locals ≤ R.locals) : CallW R s args RX4 RX3 221 yX3_freePlot cX3_freePlot 7 (some .int) (kX3_freePlot :: BIG) rm 0 0 3 := cwV 3 hB (bgV mlX4_221 imX3_freePlot seX3_freePlot iniX3 mcX3_freePlot) rfl hrc hrs (by decide +kernel) hR
theorem mlX4_224 : Cond.methodLink RX4 224 yX4_draw ∈ BIG := bg (inT3 (List.mem_of_getElem? (i := 156) (by decide +kernel))) rfl
theorem clX4_224 {R : Room} {s : State} {args : Array Value} {rm : Room} (hB : ∀ w ∈ BIG, w.before args s = true) (hrc : rm.cells = 0) (hrs : rm.slots = 0) (hR : rm.frames + 1 ≤ R.frames ∧ 8 + (4 + 11) + rm.locals ≤ R.locals) : CallB R s args RX4 224 yX4_draw cX4_draw 4 (some .int) (kX4_draw :: BIG) rm 0 0 2 ∧ (Cond.static yX4_draw).before args s = true := cwS 2 hB (bgS mlX4_224 smX4_draw iniX4 mcX4_draw) rfl hrc hrs (by decide +kernel) hR
theorem mlX4_227 : Cond.methodLink RX4 227 yX4_passWinter ∈ BIG := bg (inT3 (List.mem_of_getElem? (i := 163) (by decide +kernel))) rfl
theorem clX4_227 {R : Room} {s : State} {args : Array Value} {rm : Room} (hB : ∀ w ∈ BIG, w.before args s = true) (hrc : rm.cells = 0) (hrs : rm.slots = 0) (hR : rm.frames + 1 ≤ R.frames ∧ 8 + (3 + 11) + rm.locals ≤ R.locals) : CallB R s args RX4 227 yX4_passWinter cX4_passWinter 3 none (kX4_passWinter :: BIG) rm 0 0 2 ∧ (Cond.static yX4_passWinter).before args s = true := cwS 2 hB (bgS mlX4_227 smX4_passWinter iniX4 mcX4_passWinter) rfl hrc hrs (by decide +kernel) hR
theorem mlX4_231 : Cond.methodLink RX4 231 yJ6_bitCount_0f7a4 ∈ BIG := bg (inT3 (List.mem_of_getElem? (i := 166) (by decide +kernel))) rfl
theorem clX4_231 {R : Room} {s : State} {args : Array Value} {rm : Room} (hB : ∀ w ∈ BIG, w.before args s = true) (hrc : rm.cells = 0) (hrs : rm.slots = 0) (hR : rm.frames + 1 ≤ R.frames ∧ 8 + (1 + 11) + rm.locals ≤ R.locals) : CallB R s args RX4 231 yJ6_bitCount_0f7a4 cJ6_bitCount_0f7a4 1 (some .int) (kJ6_bitCount_0f7a4 :: BIG) rm 0 0 1 ∧ (Cond.static yJ6_bitCount_0f7a4).before args s = true := ⟨callB_of 1 hB (bgG mcJ6_bitCount_0f7a4) rfl hrc hrs (hB _ iniJ6) (hB _ mlX4_231) (by decide +kernel) hR, hB _ smJ6_bitCount_0f7a4⟩
theorem mlX4_239 : Cond.methodLink RX4 239 yX3_doubles ∈ BIG := bg (inT3 (List.mem_of_getElem? (i := 179) (by decide +kernel))) rfl
theorem clX4_239 {R : Room} {s : State} {args : Array Value} {rm : Room} (hB : ∀ w ∈ BIG, w.before args s = true) (hrc : rm.cells = 0) (hrs : rm.slots = 0) (hR : rm.frames + 1 ≤ R.frames ∧ 8 + (3 + 11) + rm.locals ≤ R.locals) : CallW R s args RX4 RX3 239 yX3_doubles cX3_doubles 3 (some .int) (kX3_doubles :: BIG) rm 0 0 0 := cwV 0 hB (bgV mlX4_239 imX3_doubles seX3_doubles iniX3 mcX3_doubles) rfl hrc hrs (by decide +kernel) hR
theorem mlX4_242 : Cond.methodLink RX4 242 yX3_allOfVillage ∈ BIG := bg (inT3 (List.mem_of_getElem? (i := 146) (by decide +kernel))) rfl
theorem clX4_242 {R : Room} {s : State} {args : Array Value} {rm : Room} (hB : ∀ w ∈ BIG, w.before args s = true) (hrc : rm.cells = 0) (hrs : rm.slots = 0) (hR : rm.frames + 1 ≤ R.frames ∧ 8 + (4 + 11) + rm.locals ≤ R.locals) : CallW R s args RX4 RX3 242 yX3_allOfVillage cX3_allOfVillage 4 (some .int) (kX3_allOfVillage :: BIG) rm 0 0 1 := cwV 1 hB (bgV mlX4_242 imX3_allOfVillage seX3_allOfVillage iniX3 mcX3_allOfVillage) rfl hrc hrs (by decide +kernel) hR
theorem mlX5_46 : Cond.methodLink RX5 46 yX5_clearTold ∈ BIG := bg (inT3 (List.mem_of_getElem? (i := 190) (by decide +kernel))) rfl
theorem clX5_46 {R : Room} {s : State} {args : Array Value} {rm : Room} (hB : ∀ w ∈ BIG, w.before args s = true) (hrc : rm.cells = 0) (hrs : rm.slots = 0) (hR : rm.frames + 1 ≤ R.frames ∧ 8 + (2 + 11) + rm.locals ≤ R.locals) : CallW R s args RX5 RX5 46 yX5_clearTold cX5_clearTold 2 none (kX5_clearTold :: BIG) rm 0 0 0 := cwV 0 hB (bgV mlX5_46 imX5_clearTold seX5_clearTold iniX5 mcX5_clearTold) rfl hrc hrs (by decide +kernel) hR
theorem mlX5_53 : Cond.methodLink RX5 53 yX5_tellsDead ∈ BIG := bg (inT3 (List.mem_of_getElem? (i := 194) (by decide +kernel))) rfl
theorem clX5_53 {R : Room} {s : State} {args : Array Value} {rm : Room} (hB : ∀ w ∈ BIG, w.before args s = true) (hrc : rm.cells = 0) (hrs : rm.slots = 0) (hR : rm.frames + 1 ≤ R.frames ∧ 8 + (5 + 11) + rm.locals ≤ R.locals) : CallW R s args RX5 RX5 53 yX5_tellsDead cX5_tellsDead 5 none (kX5_tellsDead :: BIG) rm 0 0 3 := cwV 3 hB (bgV mlX5_53 imX5_tellsDead seX5_tellsDead iniX5 mcX5_tellsDead) rfl hrc hrs (by decide +kernel) hR
theorem mlX5_57 : Cond.methodLink RX5 57 yX5_tellsGuest ∈ BIG := bg (inT3 (List.mem_of_getElem? (i := 198) (by decide +kernel))) rfl
theorem clX5_57 {R : Room} {s : State} {args : Array Value} {rm : Room} (hB : ∀ w ∈ BIG, w.before args s = true) (hrc : rm.cells = 0) (hrs : rm.slots = 0) (hR : rm.frames + 1 ≤ R.frames ∧ 8 + (4 + 11) + rm.locals ≤ R.locals) : CallW R s args RX5 RX5 57 yX5_tellsGuest cX5_tellsGuest 4 none (kX5_tellsGuest :: BIG) rm 0 0 2 := cwV 2 hB (bgV mlX5_57 imX5_tellsGuest seX5_tellsGuest iniX5 mcX5_tellsGuest) rfl hrc hrs (by decide +kernel) hR
theorem mlX5_64 : Cond.methodLink RX5 64 yX5_settles ∈ BIG := bg (inT3 (List.mem_of_getElem? (i := 202) (by decide +kernel))) rfl
theorem clX5_64 {R : Room} {s : State} {args : Array Value} {rm : Room} (hB : ∀ w ∈ BIG, w.before args s = true) (hrc : rm.cells = 0) (hrs : rm.slots = 0) (hR : rm.frames + 1 ≤ R.frames ∧ 8 + (1 + 11) + rm.locals ≤ R.locals) : CallW R s args RX5 RX5 64 yX5_settles cX5_settles 1 none (kX5_settles :: BIG) rm 0 0 0 := cwV 0 hB (bgV mlX5_64 imX5_settles seX5_settles iniX5 mcX5_settles) rfl hrc hrs (by decide +kernel) hR
theorem mlX5_67 : Cond.methodLink RX5 67 yX5_in ∈ BIG := bg (inT4 (List.mem_of_getElem? (i := 68) (by decide +kernel))) rfl
theorem clX5_67 {R : Room} {s : State} {args : Array Value} {rm : Room} (hB : ∀ w ∈ BIG, w.before args s = true) (hrc : rm.cells = 0) (hrs : rm.slots = 0) (hR : rm.frames + 1 ≤ R.frames ∧ 8 + (3 + 11) + rm.locals ≤ R.locals) : CallB R s args RX5 67 yX5_in cX5_in 3 (some .boolean) (kX5_in :: BIG) rm 0 0 3 ∧ (Cond.static yX5_in).before args s = true := cwS 3 hB (bgS mlX5_67 smX5_in iniX5 mcX5_in) rfl hrc hrs (by decide +kernel) hR
theorem mlX5_80 : Cond.methodLink RX5 80 yX5_letterAt ∈ BIG := bg (inT4 (List.mem_of_getElem? (i := 83) (by decide +kernel))) rfl
theorem clX5_80 {R : Room} {s : State} {args : Array Value} {rm : Room} (hB : ∀ w ∈ BIG, w.before args s = true) (hrc : rm.cells = 0) (hrs : rm.slots = 0) (hR : rm.frames + 1 ≤ R.frames ∧ 8 + (2 + 11) + rm.locals ≤ R.locals) : CallW R s args RX5 RX5 80 yX5_letterAt cX5_letterAt 2 (some .int) (kX5_letterAt :: BIG) rm 0 0 1 := cwV 1 hB (bgV mlX5_80 imX5_letterAt seX5_letterAt iniX5 mcX5_letterAt) rfl hrc hrs (by decide +kernel) hR
theorem mlX5_84 : Cond.methodLink RX5 84 yX5_isFigure ∈ BIG := bg (inT4 (List.mem_of_getElem? (i := 95) (by decide +kernel))) rfl
theorem clX5_84 {R : Room} {s : State} {args : Array Value} {rm : Room} (hB : ∀ w ∈ BIG, w.before args s = true) (hrc : rm.cells = 0) (hrs : rm.slots = 0) (hR : rm.frames + 1 ≤ R.frames ∧ 8 + (1 + 11) + rm.locals ≤ R.locals) : CallB R s args RX5 84 yX5_isFigure cX5_isFigure 1 (some .boolean) (kX5_isFigure :: BIG) rm 0 0 1 ∧ (Cond.static yX5_isFigure).before args s = true := cwS 1 hB (bgS mlX5_84 smX5_isFigure iniX5 mcX5_isFigure) rfl hrc hrs (by decide +kernel) hR
theorem mlX5_92 : Cond.methodLink RX5 92 yX5_readNumbers ∈ BIG := bg (inT4 (List.mem_of_getElem? (i := 91) (by decide +kernel))) rfl
theorem clX5_92 {R : Room} {s : State} {args : Array Value} {rm : Room} (hB : ∀ w ∈ BIG, w.before args s = true) (hrc : rm.cells = 0) (hrs : rm.slots = 0) (hR : rm.frames + 1 ≤ R.frames ∧ 8 + (3 + 11) + rm.locals ≤ R.locals) : CallW R s args RX5 RX5 92 yX5_readNumbers cX5_readNumbers 3 (some .boolean) (kX5_readNumbers :: BIG) rm 0 0 1 := cwV 1 hB (bgV mlX5_92 imX5_readNumbers seX5_readNumbers iniX5 mcX5_readNumbers) rfl hrc hrs (by decide +kernel) hR
theorem mlX5_95 : Cond.methodLink RX5 95 yX5_isTold ∈ BIG := bg (inT4 (List.mem_of_getElem? (i := 98) (by decide +kernel))) rfl
theorem clX5_95 {R : Room} {s : State} {args : Array Value} {rm : Room} (hB : ∀ w ∈ BIG, w.before args s = true) (hrc : rm.cells = 0) (hrs : rm.slots = 0) (hR : rm.frames + 1 ≤ R.frames ∧ 8 + (4 + 11) + rm.locals ≤ R.locals) : CallW R s args RX5 RX5 95 yX5_isTold cX5_isTold 4 (some .boolean) (kX5_isTold :: BIG) rm 0 0 3 := cwV 3 hB (bgV mlX5_95 imX5_isTold seX5_isTold iniX5 mcX5_isTold) rfl hrc hrs (by decide +kernel) hR
theorem mlX5_98 : Cond.methodLink RX5 98 yX5_readPlotsOf ∈ BIG := bg (inT4 (List.mem_of_getElem? (i := 87) (by decide +kernel))) rfl
theorem clX5_98 {R : Room} {s : State} {args : Array Value} {rm : Room} (hB : ∀ w ∈ BIG, w.before args s = true) (hrc : rm.cells = 0) (hrs : rm.slots = 0) (hR : rm.frames + 1 ≤ R.frames ∧ 8 + (2 + 11) + rm.locals ≤ R.locals) : CallW R s args RX5 RX5 98 yX5_readPlotsOf cX5_readPlotsOf 2 (some .boolean) (kX5_readPlotsOf :: BIG) rm 0 0 0 := cwV 0 hB (bgV mlX5_98 imX5_readPlotsOf seX5_readPlotsOf iniX5 mcX5_readPlotsOf) rfl hrc hrs (by decide +kernel) hR
theorem mlX5_102 : Cond.methodLink RX5 102 yX5_readDeadOf ∈ BIG := bg (inT4 (List.mem_of_getElem? (i := 102) (by decide +kernel))) rfl
theorem clX5_102 {R : Room} {s : State} {args : Array Value} {rm : Room} (hB : ∀ w ∈ BIG, w.before args s = true) (hrc : rm.cells = 0) (hrs : rm.slots = 0) (hR : rm.frames + 1 ≤ R.frames ∧ 8 + (1 + 11) + rm.locals ≤ R.locals) : CallW R s args RX5 RX5 102 yX5_readDeadOf cX5_readDeadOf 1 (some .boolean) (kX5_readDeadOf :: BIG) rm 0 0 0 := cwV 0 hB (bgV mlX5_102 imX5_readDeadOf seX5_readDeadOf iniX5 mcX5_readDeadOf) rfl hrc hrs (by decide +kernel) hR
theorem mlX5_105 : Cond.methodLink RX5 105 yX5_readGuestOf ∈ BIG := bg (inT4 (List.mem_of_getElem? (i := 106) (by decide +kernel))) rfl
theorem clX5_105 {R : Room} {s : State} {args : Array Value} {rm : Room} (hB : ∀ w ∈ BIG, w.before args s = true) (hrc : rm.cells = 0) (hrs : rm.slots = 0) (hR : rm.frames + 1 ≤ R.frames ∧ 8 + (1 + 11) + rm.locals ≤ R.locals) : CallW R s args RX5 RX5 105 yX5_readGuestOf cX5_readGuestOf 1 (some .boolean) (kX5_readGuestOf :: BIG) rm 0 0 0 := cwV 0 hB (bgV mlX5_105 imX5_readGuestOf seX5_readGuestOf iniX5 mcX5_readGuestOf) rfl hrc hrs (by decide +kernel) hR
theorem mlX5_108 : Cond.methodLink RX5 108 yX5_readTruceOf ∈ BIG := bg (inT4 (List.mem_of_getElem? (i := 110) (by decide +kernel))) rfl
theorem clX5_108 {R : Room} {s : State} {args : Array Value} {rm : Room} (hB : ∀ w ∈ BIG, w.before args s = true) (hrc : rm.cells = 0) (hrs : rm.slots = 0) (hR : rm.frames + 1 ≤ R.frames ∧ 8 + (2 + 11) + rm.locals ≤ R.locals) : CallW R s args RX5 RX5 108 yX5_readTruceOf cX5_readTruceOf 2 (some .boolean) (kX5_readTruceOf :: BIG) rm 0 0 0 := cwV 0 hB (bgV mlX5_108 imX5_readTruceOf seX5_readTruceOf iniX5 mcX5_readTruceOf) rfl hrc hrs (by decide +kernel) hR
theorem mlX5_111 : Cond.methodLink RX5 111 yX5_readItem ∈ BIG := bg (inT4 (List.mem_of_getElem? (i := 79) (by decide +kernel))) rfl
theorem clX5_111 {R : Room} {s : State} {args : Array Value} {rm : Room} (hB : ∀ w ∈ BIG, w.before args s = true) (hrc : rm.cells = 0) (hrs : rm.slots = 0) (hR : rm.frames + 1 ≤ R.frames ∧ 8 + (2 + 11) + rm.locals ≤ R.locals) : CallW R s args RX5 RX5 111 yX5_readItem cX5_readItem 2 (some .boolean) (kX5_readItem :: BIG) rm 0 0 0 := cwV 0 hB (bgV mlX5_111 imX5_readItem seX5_readItem iniX5 mcX5_readItem) rfl hrc hrs (by decide +kernel) hR
theorem mlX5_114 : Cond.methodLink RX5 114 yX5_fault ∈ BIG := bg (inT4 (List.mem_of_getElem? (i := 118) (by decide +kernel))) rfl
theorem clX5_114 {R : Room} {s : State} {args : Array Value} {rm : Room} (hB : ∀ w ∈ BIG, w.before args s = true) (hrc : rm.cells = 0) (hrs : rm.slots = 0) (hR : rm.frames + 1 ≤ R.frames ∧ 8 + (2 + 11) + rm.locals ≤ R.locals) : CallW R s args RX5 RX5 114 yX5_fault cX5_fault 2 (some .int) (kX5_fault :: BIG) rm 0 0 0 := cwV 0 hB (bgV mlX5_114 imX5_fault seX5_fault iniX5 mcX5_fault) rfl hrc hrs (by decide +kernel) hR
theorem mlX5_121 : Cond.methodLink RX5 121 yX5_put ∈ BIG := bg (inT3 (List.mem_of_getElem? (i := 206) (by decide +kernel))) rfl
theorem clX5_121 {R : Room} {s : State} {args : Array Value} {rm : Room} (hB : ∀ w ∈ BIG, w.before args s = true) (hrc : rm.cells = 0) (hrs : rm.slots = 0) (hR : rm.frames + 1 ≤ R.frames ∧ 8 + (5 + 11) + rm.locals ≤ R.locals) : CallB R s args RX5 121 yX5_put cX5_put 5 none (kX5_put :: BIG) rm 0 0 4 ∧ (Cond.static yX5_put).before args s = true := cwS 4 hB (bgS mlX5_121 smX5_put iniX5 mcX5_put) rfl hrc hrs (by decide +kernel) hR
theorem mlX5_125 : Cond.methodLink RX5 125 yX5_anew ∈ BIG := bg (inT3 (List.mem_of_getElem? (i := 209) (by decide +kernel))) rfl
theorem clX5_125 {R : Room} {s : State} {args : Array Value} {rm : Room} (hB : ∀ w ∈ BIG, w.before args s = true) (hrc : rm.cells = 0) (hrs : rm.slots = 0) (hR : rm.frames + 1 ≤ R.frames ∧ 8 + (2 + 11) + rm.locals ≤ R.locals) : CallW R s args RX5 RX5 125 yX5_anew cX5_anew 2 none (kX5_anew :: BIG) rm 0 0 0 := cwV 0 hB (bgV mlX5_125 imX5_anew seX5_anew iniX5 mcX5_anew) rfl hrc hrs (by decide +kernel) hR
theorem mlX5_137 : Cond.methodLink RX5 137 yX5_freeFrom ∈ BIG := bg (inT3 (List.mem_of_getElem? (i := 221) (by decide +kernel))) rfl
theorem clX5_137 {R : Room} {s : State} {args : Array Value} {rm : Room} (hB : ∀ w ∈ BIG, w.before args s = true) (hrc : rm.cells = 0) (hrs : rm.slots = 0) (hR : rm.frames + 1 ≤ R.frames ∧ 8 + (6 + 11) + rm.locals ≤ R.locals) : CallW R s args RX5 RX5 137 yX5_freeFrom cX5_freeFrom 6 (some .int) (kX5_freeFrom :: BIG) rm 0 0 3 := cwV 3 hB (bgV mlX5_137 imX5_freeFrom seX5_freeFrom iniX5 mcX5_freeFrom) rfl hrc hrs (by decide +kernel) hR
theorem mlX5_141 : Cond.methodLink RX5 141 yX5_placeFor ∈ BIG := bg (inT3 (List.mem_of_getElem? (i := 217) (by decide +kernel))) rfl
theorem clX5_141 {R : Room} {s : State} {args : Array Value} {rm : Room} (hB : ∀ w ∈ BIG, w.before args s = true) (hrc : rm.cells = 0) (hrs : rm.slots = 0) (hR : rm.frames + 1 ≤ R.frames ∧ 8 + (5 + 11) + rm.locals ≤ R.locals) : CallW R s args RX5 RX5 141 yX5_placeFor cX5_placeFor 5 (some .int) (kX5_placeFor :: BIG) rm 0 0 3 := cwV 3 hB (bgV mlX5_141 imX5_placeFor seX5_placeFor iniX5 mcX5_placeFor) rfl hrc hrs (by decide +kernel) hR
theorem mlX5_144 : Cond.methodLink RX5 144 yX5_buries ∈ BIG := bg (inT3 (List.mem_of_getElem? (i := 213) (by decide +kernel))) rfl
theorem clX5_144 {R : Room} {s : State} {args : Array Value} {rm : Room} (hB : ∀ w ∈ BIG, w.before args s = true) (hrc : rm.cells = 0) (hrs : rm.slots = 0) (hR : rm.frames + 1 ≤ R.frames ∧ 8 + (7 + 11) + rm.locals ≤ R.locals) : CallW R s args RX5 RX5 144 yX5_buries cX5_buries 7 (some .int) (kX5_buries :: BIG) rm 0 0 1 := cwV 1 hB (bgV mlX5_144 imX5_buries seX5_buries iniX5 mcX5_buries) rfl hrc hrs (by decide +kernel) hR
theorem mlX5_147 : Cond.methodLink RX5 147 yX5_plotIn ∈ BIG := bg (inT4 (List.mem_of_getElem? (i := 130) (by decide +kernel))) rfl
theorem clX5_147 {R : Room} {s : State} {args : Array Value} {rm : Room} (hB : ∀ w ∈ BIG, w.before args s = true) (hrc : rm.cells = 0) (hrs : rm.slots = 0) (hR : rm.frames + 1 ≤ R.frames ∧ 8 + (4 + 11) + rm.locals ≤ R.locals) : CallB R s args RX5 147 yX5_plotIn cX5_plotIn 4 (some .int) (kX5_plotIn :: BIG) rm 0 0 3 ∧ (Cond.static yX5_plotIn).before args s = true := cwS 3 hB (bgS mlX5_147 smX5_plotIn iniX5 mcX5_plotIn) rfl hrc hrs (by decide +kernel) hR
theorem mlX5_151 : Cond.methodLink RX5 151 yX5_isDead ∈ BIG := bg (inT4 (List.mem_of_getElem? (i := 123) (by decide +kernel))) rfl
theorem clX5_151 {R : Room} {s : State} {args : Array Value} {rm : Room} (hB : ∀ w ∈ BIG, w.before args s = true) (hrc : rm.cells = 0) (hrs : rm.slots = 0) (hR : rm.frames + 1 ≤ R.frames ∧ 8 + (2 + 11) + rm.locals ≤ R.locals) : CallW R s args RX5 RX5 151 yX5_isDead cX5_isDead 2 (some .boolean) (kX5_isDead :: BIG) rm 0 0 1 := cwV 1 hB (bgV mlX5_151 imX5_isDead seX5_isDead iniX5 mcX5_isDead) rfl hrc hrs (by decide +kernel) hR
theorem mlX5_154 : Cond.methodLink RX5 154 yX5_plotOf ∈ BIG := bg (inT4 (List.mem_of_getElem? (i := 127) (by decide +kernel))) rfl
theorem clX5_154 {R : Room} {s : State} {args : Array Value} {rm : Room} (hB : ∀ w ∈ BIG, w.before args s = true) (hrc : rm.cells = 0) (hrs : rm.slots = 0) (hR : rm.frames + 1 ≤ R.frames ∧ 8 + (2 + 11) + rm.locals ≤ R.locals) : CallB R s args RX5 154 yX5_plotOf cX5_plotOf 2 (some .int) (kX5_plotOf :: BIG) rm 0 0 2 ∧ (Cond.static yX5_plotOf).before args s = true := cwS 2 hB (bgS mlX5_154 smX5_plotOf iniX5 mcX5_plotOf) rfl hrc hrs (by decide +kernel) hR
theorem mlX5_158 : Cond.methodLink RX5 158 yX5_isPlot ∈ BIG := bg (inT4 (List.mem_of_getElem? (i := 137) (by decide +kernel))) rfl
theorem clX5_158 {R : Room} {s : State} {args : Array Value} {rm : Room} (hB : ∀ w ∈ BIG, w.before args s = true) (hrc : rm.cells = 0) (hrs : rm.slots = 0) (hR : rm.frames + 1 ≤ R.frames ∧ 8 + (2 + 11) + rm.locals ≤ R.locals) : CallW R s args RX5 RX5 158 yX5_isPlot cX5_isPlot 2 (some .boolean) (kX5_isPlot :: BIG) rm 0 0 1 := cwV 1 hB (bgV mlX5_158 imX5_isPlot seX5_isPlot iniX5 mcX5_isPlot) rfl hrc hrs (by decide +kernel) hR
theorem mlX5_161 : Cond.methodLink RX5 161 yX5_whoIs ∈ BIG := bg (inT4 (List.mem_of_getElem? (i := 141) (by decide +kernel))) rfl
theorem clX5_161 {R : Room} {s : State} {args : Array Value} {rm : Room} (hB : ∀ w ∈ BIG, w.before args s = true) (hrc : rm.cells = 0) (hrs : rm.slots = 0) (hR : rm.frames + 1 ≤ R.frames ∧ 8 + (1 + 11) + rm.locals ≤ R.locals) : CallB R s args RX5 161 yX5_whoIs cX5_whoIs 1 (some .int) (kX5_whoIs :: BIG) rm 0 0 1 ∧ (Cond.static yX5_whoIs).before args s = true := cwS 1 hB (bgS mlX5_161 smX5_whoIs iniX5 mcX5_whoIs) rfl hrc hrs (by decide +kernel) hR
theorem mlX5_164 : Cond.methodLink RX5 164 yX5_isOne ∈ BIG := bg (inT4 (List.mem_of_getElem? (i := 152) (by decide +kernel))) rfl
theorem clX5_164 {R : Room} {s : State} {args : Array Value} {rm : Room} (hB : ∀ w ∈ BIG, w.before args s = true) (hrc : rm.cells = 0) (hrs : rm.slots = 0) (hR : rm.frames + 1 ≤ R.frames ∧ 8 + (4 + 11) + rm.locals ≤ R.locals) : CallW R s args RX5 RX5 164 yX5_isOne cX5_isOne 4 (some .boolean) (kX5_isOne :: BIG) rm 0 0 3 := cwV 3 hB (bgV mlX5_164 imX5_isOne seX5_isOne iniX5 mcX5_isOne) rfl hrc hrs (by decide +kernel) hR
theorem mlX5_167 : Cond.methodLink RX5 167 yX5_remembers ∈ BIG := bg (inT4 (List.mem_of_getElem? (i := 156) (by decide +kernel))) rfl
theorem clX5_167 {R : Room} {s : State} {args : Array Value} {rm : Room} (hB : ∀ w ∈ BIG, w.before args s = true) (hrc : rm.cells = 0) (hrs : rm.slots = 0) (hR : rm.frames + 1 ≤ R.frames ∧ 8 + (2 + 11) + rm.locals ≤ R.locals) : CallW R s args RX5 RX5 167 yX5_remembers cX5_remembers 2 none (kX5_remembers :: BIG) rm 0 0 0 := cwV 0 hB (bgV mlX5_167 imX5_remembers seX5_remembers iniX5 mcX5_remembers) rfl hrc hrs (by decide +kernel) hR
theorem mlX5_170 : Cond.methodLink RX5 170 yX5_from ∈ BIG := bg (inT4 (List.mem_of_getElem? (i := 160) (by decide +kernel))) rfl
theorem clX5_170 {R : Room} {s : State} {args : Array Value} {rm : Room} (hB : ∀ w ∈ BIG, w.before args s = true) (hrc : rm.cells = 0) (hrs : rm.slots = 0) (hR : rm.frames + 1 ≤ R.frames ∧ 8 + (2 + 11) + rm.locals ≤ R.locals) : CallW R s args RX5 RX5 170 yX5_from cX5_from 2 none (kX5_from :: BIG) rm 0 0 1 := cwV 1 hB (bgV mlX5_170 imX5_from seX5_from iniX5 mcX5_from) rfl hrc hrs (by decide +kernel) hR
theorem mlX5_174 : Cond.methodLink RX5 174 yX5_addsDead ∈ BIG := bg (inT4 (List.mem_of_getElem? (i := 164) (by decide +kernel))) rfl
theorem clX5_174 {R : Room} {s : State} {args : Array Value} {rm : Room} (hB : ∀ w ∈ BIG, w.before args s = true) (hrc : rm.cells = 0) (hrs : rm.slots = 0) (hR : rm.frames + 1 ≤ R.frames ∧ 8 + (5 + 11) + rm.locals ≤ R.locals) : CallW R s args RX5 RX5 174 yX5_addsDead cX5_addsDead 5 none (kX5_addsDead :: BIG) rm 0 0 3 := cwV 3 hB (bgV mlX5_174 imX5_addsDead seX5_addsDead iniX5 mcX5_addsDead) rfl hrc hrs (by decide +kernel) hR
theorem mlX5_177 : Cond.methodLink RX5 177 yX5_changes ∈ BIG := bg (inT4 (List.mem_of_getElem? (i := 172) (by decide +kernel))) rfl
theorem clX5_177 {R : Room} {s : State} {args : Array Value} {rm : Room} (hB : ∀ w ∈ BIG, w.before args s = true) (hrc : rm.cells = 0) (hrs : rm.slots = 0) (hR : rm.frames + 1 ≤ R.frames ∧ 8 + (7 + 11) + rm.locals ≤ R.locals) : CallB R s args RX5 177 yX5_changes cX5_changes 7 none (kX5_changes :: BIG) rm 0 0 4 ∧ (Cond.static yX5_changes).before args s = true := cwS 4 hB (bgS mlX5_177 smX5_changes iniX5 mcX5_changes) rfl hrc hrs (by decide +kernel) hR
theorem mlX5_181 : Cond.methodLink RX5 181 yX5_plot ∈ BIG := bg (inT4 (List.mem_of_getElem? (i := 175) (by decide +kernel))) rfl
theorem clX5_181 {R : Room} {s : State} {args : Array Value} {rm : Room} (hB : ∀ w ∈ BIG, w.before args s = true) (hrc : rm.cells = 0) (hrs : rm.slots = 0) (hR : rm.frames + 1 ≤ R.frames ∧ 8 + (3 + 11) + rm.locals ≤ R.locals) : CallW R s args RX5 RX5 181 yX5_plot cX5_plot 3 (some .int) (kX5_plot :: BIG) rm 0 0 2 := cwV 2 hB (bgV mlX5_181 imX5_plot seX5_plot iniX5 mcX5_plot) rfl hrc hrs (by decide +kernel) hR
theorem mlX5_185 : Cond.methodLink RX5 185 yX5_byRight ∈ BIG := bg (inT4 (List.mem_of_getElem? (i := 192) (by decide +kernel))) rfl
theorem clX5_185 {R : Room} {s : State} {args : Array Value} {rm : Room} (hB : ∀ w ∈ BIG, w.before args s = true) (hrc : rm.cells = 0) (hrs : rm.slots = 0) (hR : rm.frames + 1 ≤ R.frames ∧ 8 + (2 + 11) + rm.locals ≤ R.locals) : CallW R s args RX5 RX5 185 yX5_byRight cX5_byRight 2 none (kX5_byRight :: BIG) rm 0 0 1 := cwV 1 hB (bgV mlX5_185 imX5_byRight seX5_byRight iniX5 mcX5_byRight) rfl hrc hrs (by decide +kernel) hR
theorem mlX5_188 : Cond.methodLink RX5 188 yX5_movedBits ∈ BIG := bg (inT4 (List.mem_of_getElem? (i := 200) (by decide +kernel))) rfl
theorem clX5_188 {R : Room} {s : State} {args : Array Value} {rm : Room} (hB : ∀ w ∈ BIG, w.before args s = true) (hrc : rm.cells = 0) (hrs : rm.slots = 0) (hR : rm.frames + 1 ≤ R.frames ∧ 8 + (3 + 11) + rm.locals ≤ R.locals) : CallW R s args RX5 RX5 188 yX5_movedBits cX5_movedBits 3 (some .int) (kX5_movedBits :: BIG) rm 0 0 0 := cwV 0 hB (bgV mlX5_188 imX5_movedBits seX5_movedBits iniX5 mcX5_movedBits) rfl hrc hrs (by decide +kernel) hR
theorem mlX5_194 : Cond.methodLink RX5 194 yX5_has ∈ BIG := bg (inT4 (List.mem_of_getElem? (i := 220) (by decide +kernel))) rfl
theorem clX5_194 {R : Room} {s : State} {args : Array Value} {rm : Room} (hB : ∀ w ∈ BIG, w.before args s = true) (hrc : rm.cells = 0) (hrs : rm.slots = 0) (hR : rm.frames + 1 ≤ R.frames ∧ 8 + (2 + 11) + rm.locals ≤ R.locals) : CallB R s args RX5 194 yX5_has cX5_has 2 (some .boolean) (kX5_has :: BIG) rm 0 0 2 ∧ (Cond.static yX5_has).before args s = true := cwS 2 hB (bgS mlX5_194 smX5_has iniX5 mcX5_has) rfl hrc hrs (by decide +kernel) hR
theorem mlX5_207 : Cond.methodLink RX5 207 yX5_villageOf ∈ BIG := bg (inT4 (List.mem_of_getElem? (i := 227) (by decide +kernel))) rfl
theorem clX5_207 {R : Room} {s : State} {args : Array Value} {rm : Room} (hB : ∀ w ∈ BIG, w.before args s = true) (hrc : rm.cells = 0) (hrs : rm.slots = 0) (hR : rm.frames + 1 ≤ R.frames ∧ 8 + (2 + 11) + rm.locals ≤ R.locals) : CallW R s args RX5 RX5 207 yX5_villageOf cX5_villageOf 2 (some .int) (kX5_villageOf :: BIG) rm 0 0 1 := cwV 1 hB (bgV mlX5_207 imX5_villageOf seX5_villageOf iniX5 mcX5_villageOf) rfl hrc hrs (by decide +kernel) hR
theorem mlX5_210 : Cond.methodLink RX5 210 yX5_comesBack ∈ BIG := bg (inT4 (List.mem_of_getElem? (i := 231) (by decide +kernel))) rfl
theorem clX5_210 {R : Room} {s : State} {args : Array Value} {rm : Room} (hB : ∀ w ∈ BIG, w.before args s = true) (hrc : rm.cells = 0) (hrs : rm.slots = 0) (hR : rm.frames + 1 ≤ R.frames ∧ 8 + (2 + 11) + rm.locals ≤ R.locals) : CallW R s args RX5 RX5 210 yX5_comesBack cX5_comesBack 2 none (kX5_comesBack :: BIG) rm 0 0 0 := cwV 0 hB (bgV mlX5_210 imX5_comesBack seX5_comesBack iniX5 mcX5_comesBack) rfl hrc hrs (by decide +kernel) hR
theorem mlX5_213 : Cond.methodLink RX5 213 yX5_findGuests ∈ BIG := bg (inT4 (List.mem_of_getElem? (i := 216) (by decide +kernel))) rfl
theorem clX5_213 {R : Room} {s : State} {args : Array Value} {rm : Room} (hB : ∀ w ∈ BIG, w.before args s = true) (hrc : rm.cells = 0) (hrs : rm.slots = 0) (hR : rm.frames + 1 ≤ R.frames ∧ 8 + (3 + 11) + rm.locals ≤ R.locals) : CallW R s args RX5 RX5 213 yX5_findGuests cX5_findGuests 3 none (kX5_findGuests :: BIG) rm 0 0 1 := cwV 1 hB (bgV mlX5_213 imX5_findGuests seX5_findGuests iniX5 mcX5_findGuests) rfl hrc hrs (by decide +kernel) hR
theorem mlX5_217 : Cond.methodLink RX5 217 yX5_takesSo ∈ BIG := bg (inT4 (List.mem_of_getElem? (i := 223) (by decide +kernel))) rfl
theorem clX5_217 {R : Room} {s : State} {args : Array Value} {rm : Room} (hB : ∀ w ∈ BIG, w.before args s = true) (hrc : rm.cells = 0) (hrs : rm.slots = 0) (hR : rm.frames + 1 ≤ R.frames ∧ 8 + (5 + 11) + rm.locals ≤ R.locals) : CallW R s args RX5 RX5 217 yX5_takesSo cX5_takesSo 5 (some .int) (kX5_takesSo :: BIG) rm 0 0 0 := cwV 0 hB (bgV mlX5_217 imX5_takesSo seX5_takesSo iniX5 mcX5_takesSo) rfl hrc hrs (by decide +kernel) hR
theorem mlX5_221 : Cond.methodLink RX5 221 yX5_isOrder ∈ BIG := bg (inT5 (List.mem_of_getElem? (i := 4) (by decide +kernel))) rfl
theorem clX5_221 {R : Room} {s : State} {args : Array Value} {rm : Room} (hB : ∀ w ∈ BIG, w.before args s = true) (hrc : rm.cells = 0) (hrs : rm.slots = 0) (hR : rm.frames + 1 ≤ R.frames ∧ 8 + (5 + 11) + rm.locals ≤ R.locals) : CallW R s args RX5 RX5 221 yX5_isOrder cX5_isOrder 5 (some .boolean) (kX5_isOrder :: BIG) rm 0 0 1 := cwV 1 hB (bgV mlX5_221 imX5_isOrder seX5_isOrder iniX5 mcX5_isOrder) rfl hrc hrs (by decide +kernel) hR
theorem mlX5_224 : Cond.methodLink RX5 224 yX5_soonest ∈ BIG := bg (inT4 (List.mem_of_getElem? (i := 239) (by decide +kernel))) rfl
theorem clX5_224 {R : Room} {s : State} {args : Array Value} {rm : Room} (hB : ∀ w ∈ BIG, w.before args s = true) (hrc : rm.cells = 0) (hrs : rm.slots = 0) (hR : rm.frames + 1 ≤ R.frames ∧ 8 + (6 + 11) + rm.locals ≤ R.locals) : CallW R s args RX5 RX5 224 yX5_soonest cX5_soonest 6 (some .int) (kX5_soonest :: BIG) rm 0 0 1 := cwV 1 hB (bgV mlX5_224 imX5_soonest seX5_soonest iniX5 mcX5_soonest) rfl hrc hrs (by decide +kernel) hR
theorem mlX5_227 : Cond.methodLink RX5 227 yX5_bits ∈ BIG := bg (inT5 (List.mem_of_getElem? (i := 16) (by decide +kernel))) rfl
theorem clX5_227 {R : Room} {s : State} {args : Array Value} {rm : Room} (hB : ∀ w ∈ BIG, w.before args s = true) (hrc : rm.cells = 0) (hrs : rm.slots = 0) (hR : rm.frames + 1 ≤ R.frames ∧ 8 + (3 + 11) + rm.locals ≤ R.locals) : CallB R s args RX5 227 yX5_bits cX5_bits 3 (some .int) (kX5_bits :: BIG) rm 0 0 1 ∧ (Cond.static yX5_bits).before args s = true := cwS 1 hB (bgS mlX5_227 smX5_bits iniX5 mcX5_bits) rfl hrc hrs (by decide +kernel) hR
theorem mlX5_230 : Cond.methodLink RX5 230 yX5_owedOn ∈ BIG := bg (inT5 (List.mem_of_getElem? (i := 35) (by decide +kernel))) rfl
theorem clX5_230 {R : Room} {s : State} {args : Array Value} {rm : Room} (hB : ∀ w ∈ BIG, w.before args s = true) (hrc : rm.cells = 0) (hrs : rm.slots = 0) (hR : rm.frames + 1 ≤ R.frames ∧ 8 + (5 + 11) + rm.locals ≤ R.locals) : CallW R s args RX5 RX5 230 yX5_owedOn cX5_owedOn 5 (some .int) (kX5_owedOn :: BIG) rm 0 0 2 := cwV 2 hB (bgV mlX5_230 imX5_owedOn seX5_owedOn iniX5 mcX5_owedOn) rfl hrc hrs (by decide +kernel) hR
theorem mlX5_233 : Cond.methodLink RX5 233 yX5_firstIn ∈ BIG := bg (inT5 (List.mem_of_getElem? (i := 47) (by decide +kernel))) rfl
theorem clX5_233 {R : Room} {s : State} {args : Array Value} {rm : Room} (hB : ∀ w ∈ BIG, w.before args s = true) (hrc : rm.cells = 0) (hrs : rm.slots = 0) (hR : rm.frames + 1 ≤ R.frames ∧ 8 + (4 + 11) + rm.locals ≤ R.locals) : CallW R s args RX5 RX5 233 yX5_firstIn cX5_firstIn 4 (some .int) (kX5_firstIn :: BIG) rm 0 0 2 := cwV 2 hB (bgV mlX5_233 imX5_firstIn seX5_firstIn iniX5 mcX5_firstIn) rfl hrc hrs (by decide +kernel) hR
theorem mlX5_244 : Cond.methodLink RX5 244 yX5_doubles ∈ BIG := bg (inT5 (List.mem_of_getElem? (i := 75) (by decide +kernel))) rfl
theorem clX5_244 {R : Room} {s : State} {args : Array Value} {rm : Room} (hB : ∀ w ∈ BIG, w.before args s = true) (hrc : rm.cells = 0) (hrs : rm.slots = 0) (hR : rm.frames + 1 ≤ R.frames ∧ 8 + (3 + 11) + rm.locals ≤ R.locals) : CallW R s args RX5 RX5 244 yX5_doubles cX5_doubles 3 (some .int) (kX5_doubles :: BIG) rm 0 0 0 := cwV 0 hB (bgV mlX5_244 imX5_doubles seX5_doubles iniX5 mcX5_doubles) rfl hrc hrs (by decide +kernel) hR
theorem smMath_max : Cond.static Lib.Math.max.name ∈ BIG := bg (inT1 (List.mem_of_getElem? (i := 148) (by decide +kernel))) rfl
theorem mcMath_max : Cond.code Lib.Math.max.name Lib.Math.max.code 2 (some .int) ∈ BIG := bg (inT1 (List.mem_of_getElem? (i := 149) (by decide +kernel))) rfl
theorem mlX0_108 : Cond.methodLink RX0 108 Lib.Math.max.name ∈ BIG := bg (inT3 (List.mem_of_getElem? (i := 50) (by decide +kernel))) rfl
theorem mlX1_7 : Cond.methodLink RX1 7 Lib.Math.max.name ∈ BIG := bg (inT1 (List.mem_of_getElem? (i := 147) (by decide +kernel))) rfl
theorem smMath_min : Cond.static Lib.Math.min.name ∈ BIG := bg (inT3 (List.mem_of_getElem? (i := 16) (by decide +kernel))) rfl
theorem mcMath_min : Cond.code Lib.Math.min.name Lib.Math.min.code 2 (some .int) ∈ BIG := bg (inT3 (List.mem_of_getElem? (i := 17) (by decide +kernel))) rfl
theorem mlX0_39 : Cond.methodLink RX0 39 Lib.Math.min.name ∈ BIG := bg (inT3 (List.mem_of_getElem? (i := 15) (by decide +kernel))) rfl
theorem iniMath : Cond.initialized "java/lang/Math" ∈ BIG := bg (inT1 (List.mem_of_getElem? (i := 6) (by decide +kernel))) rfl
theorem kcJ6_265 : Cond.constant RJ6 265 (1431655765) ∈ BIG := bg (inT3 (List.mem_of_getElem? (i := 79) (by decide +kernel))) rfl
theorem kcJ6_266 : Cond.constant RJ6 266 (858993459) ∈ BIG := bg (inT3 (List.mem_of_getElem? (i := 80) (by decide +kernel))) rfl
theorem kcJ6_267 : Cond.constant RJ6 267 (252645135) ∈ BIG := bg (inT3 (List.mem_of_getElem? (i := 81) (by decide +kernel))) rfl
theorem kcX0_76 : Cond.constant RX0 76 (1000000) ∈ BIG := bg (inT3 (List.mem_of_getElem? (i := 59) (by decide +kernel))) rfl
theorem kcX5_220 : Cond.constant RX5 220 (1000000) ∈ BIG := bg (inT5 (List.mem_of_getElem? (i := 3) (by decide +kernel))) rfl
theorem kcX4_245 : Cond.constantLong RX4 245 (7919) ∈ BIG := bg (inT3 (List.mem_of_getElem? (i := 159) (by decide +kernel))) rfl
theorem kcX4_247 : Cond.constantLong RX4 247 (6151) ∈ BIG := bg (inT3 (List.mem_of_getElem? (i := 160) (by decide +kernel))) rfl
theorem kcX4_249 : Cond.constantLong RX4 249 (65521) ∈ BIG := bg (inT3 (List.mem_of_getElem? (i := 161) (by decide +kernel))) rfl
theorem kcX4_251 : Cond.constantLong RX4 251 (2) ∈ BIG := bg (inT3 (List.mem_of_getElem? (i := 162) (by decide +kernel))) rfl
theorem kcX5_236 : Cond.constantLong RX5 236 (7919) ∈ BIG := bg (inT5 (List.mem_of_getElem? (i := 59) (by decide +kernel))) rfl
theorem kcX5_238 : Cond.constantLong RX5 238 (6151) ∈ BIG := bg (inT5 (List.mem_of_getElem? (i := 60) (by decide +kernel))) rfl
theorem kcX5_240 : Cond.constantLong RX5 240 (65521) ∈ BIG := bg (inT5 (List.mem_of_getElem? (i := 61) (by decide +kernel))) rfl
theorem kcX5_242 : Cond.constantLong RX5 242 (2) ∈ BIG := bg (inT5 (List.mem_of_getElem? (i := 62) (by decide +kernel))) rfl
