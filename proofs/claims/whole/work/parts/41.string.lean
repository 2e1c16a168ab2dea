/-! the first text, a String constant -/
abbrev kJ0_length_8abf5 : Cond := .code yJ0_length_8abf5 cJ0_length_8abf5 1 (some .int)
theorem mcJ0_length_8abf5 : kJ0_length_8abf5 ∈ BIG := bg (inT1 (List.mem_of_getElem? (i := 165) (by decide +kernel))) rfl
theorem imJ0_length_8abf5 : Cond.instanceMethod yJ0_length_8abf5 ∈ BIG := bg (inT1 (List.mem_of_getElem? (i := 163) (by decide +kernel))) rfl
theorem seJ0_length_8abf5 : Cond.selects RJ0 yJ0_length_8abf5 yJ0_length_8abf5 ∈ BIG := bg (inT1 (List.mem_of_getElem? (i := 164) (by decide +kernel))) rfl
abbrev kJ0_coder_7d493 : Cond := .code yJ0_coder_7d493 cJ0_coder_7d493 1 (some .byte)
theorem mcJ0_coder_7d493 : kJ0_coder_7d493 ∈ BIG := bg (inT1 (List.mem_of_getElem? (i := 169) (by decide +kernel))) rfl
theorem imJ0_coder_7d493 : Cond.instanceMethod yJ0_coder_7d493 ∈ BIG := bg (inT1 (List.mem_of_getElem? (i := 167) (by decide +kernel))) rfl
theorem seJ0_coder_7d493 : Cond.selects RJ0 yJ0_coder_7d493 yJ0_coder_7d493 ∈ BIG := bg (inT1 (List.mem_of_getElem? (i := 168) (by decide +kernel))) rfl
abbrev kJ0_isLatin1_aae02 : Cond := .code yJ0_isLatin1_aae02 cJ0_isLatin1_aae02 1 (some .boolean)
theorem mcJ0_isLatin1_aae02 : kJ0_isLatin1_aae02 ∈ BIG := bg (inT1 (List.mem_of_getElem? (i := 179) (by decide +kernel))) rfl
theorem imJ0_isLatin1_aae02 : Cond.instanceMethod yJ0_isLatin1_aae02 ∈ BIG := bg (inT1 (List.mem_of_getElem? (i := 177) (by decide +kernel))) rfl
theorem seJ0_isLatin1_aae02 : Cond.selects RJ0 yJ0_isLatin1_aae02 yJ0_isLatin1_aae02 ∈ BIG := bg (inT1 (List.mem_of_getElem? (i := 178) (by decide +kernel))) rfl
abbrev kJ0_charAt_5068e : Cond := .code yJ0_charAt_5068e cJ0_charAt_5068e 2 (some .char)
theorem mcJ0_charAt_5068e : kJ0_charAt_5068e ∈ BIG := bg (inT1 (List.mem_of_getElem? (i := 175) (by decide +kernel))) rfl
theorem imJ0_charAt_5068e : Cond.instanceMethod yJ0_charAt_5068e ∈ BIG := bg (inT1 (List.mem_of_getElem? (i := 173) (by decide +kernel))) rfl
theorem seJ0_charAt_5068e : Cond.selects RJ0 yJ0_charAt_5068e yJ0_charAt_5068e ∈ BIG := bg (inT1 (List.mem_of_getElem? (i := 174) (by decide +kernel))) rfl
abbrev kJ0_checkIndex_df160 : Cond := .code yJ0_checkIndex_df160 cJ0_checkIndex_df160 2 none
theorem mcJ0_checkIndex_df160 : kJ0_checkIndex_df160 ∈ BIG := bg (inT1 (List.mem_of_getElem? (i := 185) (by decide +kernel))) rfl
theorem smJ0_checkIndex_df160 : Cond.static yJ0_checkIndex_df160 ∈ BIG := bg (inT1 (List.mem_of_getElem? (i := 184) (by decide +kernel))) rfl
abbrev kJ1_charAt_3b067 : Cond := .code yJ1_charAt_3b067 cJ1_charAt_3b067 2 (some .char)
theorem mcJ1_charAt_3b067 : kJ1_charAt_3b067 ∈ BIG := bg (inT1 (List.mem_of_getElem? (i := 182) (by decide +kernel))) rfl
theorem smJ1_charAt_3b067 : Cond.static yJ1_charAt_3b067 ∈ BIG := bg (inT1 (List.mem_of_getElem? (i := 181) (by decide +kernel))) rfl
abbrev kJ3_checkIndex_8e157 : Cond := .code yJ3_checkIndex_8e157 cJ3_checkIndex_8e157 3 (some .int)
theorem mcJ3_checkIndex_8e157 : kJ3_checkIndex_8e157 ∈ BIG := bg (inT1 (List.mem_of_getElem? (i := 190) (by decide +kernel))) rfl
theorem smJ3_checkIndex_8e157 : Cond.static yJ3_checkIndex_8e157 ∈ BIG := bg (inT1 (List.mem_of_getElem? (i := 189) (by decide +kernel))) rfl
theorem iniJ0 : Cond.initialized RJ0 ∈ BIG := bg (inT1 (List.mem_of_getElem? (i := 7) (by decide +kernel))) rfl
theorem iniJ1 : Cond.initialized RJ1 ∈ BIG := bg (inT1 (List.mem_of_getElem? (i := 8) (by decide +kernel))) rfl
theorem iniJ3 : Cond.initialized RJ3 ∈ BIG := bg (inT1 (List.mem_of_getElem? (i := 9) (by decide +kernel))) rfl
theorem mlX4_57 : Cond.methodLink RX4 57 yJ0_length_8abf5 ∈ BIG := bg (inT1 (List.mem_of_getElem? (i := 162) (by decide +kernel))) rfl
theorem clX4_57 {R : Room} {s : State} {args : Array Value} {rm : Room} (hB : ∀ w ∈ BIG, w.before args s = true) (hrc : rm.cells = 0) (hrs : rm.slots = 0) (hR : rm.frames + 1 ≤ R.frames ∧ 8 + (1 + 11) + rm.locals ≤ R.locals) : CallW R s args RX4 RJ0 57 yJ0_length_8abf5 cJ0_length_8abf5 1 (some .int) (kJ0_length_8abf5 :: BIG) rm 0 0 0 := cwV 0 hB (bgV mlX4_57 imJ0_length_8abf5 seJ0_length_8abf5 iniJ0 mcJ0_length_8abf5) rfl hrc hrs (by decide +kernel) hR
theorem mlX4_63 : Cond.methodLink RX4 63 yJ0_charAt_5068e ∈ BIG := bg (inT1 (List.mem_of_getElem? (i := 172) (by decide +kernel))) rfl
theorem clX4_63 {R : Room} {s : State} {args : Array Value} {rm : Room} (hB : ∀ w ∈ BIG, w.before args s = true) (hrc : rm.cells = 0) (hrs : rm.slots = 0) (hR : rm.frames + 1 ≤ R.frames ∧ 8 + (2 + 11) + rm.locals ≤ R.locals) : CallW R s args RX4 RJ0 63 yJ0_charAt_5068e cJ0_charAt_5068e 2 (some .char) (kJ0_charAt_5068e :: BIG) rm 0 0 1 := cwV 1 hB (bgV mlX4_63 imJ0_charAt_5068e seJ0_charAt_5068e iniJ0 mcJ0_charAt_5068e) rfl hrc hrs (by decide +kernel) hR
theorem mlJ0_335 : Cond.methodLink RJ0 335 yJ0_coder_7d493 ∈ BIG := bg (inT1 (List.mem_of_getElem? (i := 166) (by decide +kernel))) rfl
theorem clJ0_335 {R : Room} {s : State} {args : Array Value} {rm : Room} (hB : ∀ w ∈ BIG, w.before args s = true) (hrc : rm.cells = 0) (hrs : rm.slots = 0) (hR : rm.frames + 1 ≤ R.frames ∧ 8 + (1 + 11) + rm.locals ≤ R.locals) : CallW R s args RJ0 RJ0 335 yJ0_coder_7d493 cJ0_coder_7d493 1 (some .byte) (kJ0_coder_7d493 :: BIG) rm 0 0 0 := cwV 0 hB (bgV mlJ0_335 imJ0_coder_7d493 seJ0_coder_7d493 iniJ0 mcJ0_coder_7d493) rfl hrc hrs (by decide +kernel) hR
theorem mlJ0_492 : Cond.methodLink RJ0 492 yJ0_isLatin1_aae02 ∈ BIG := bg (inT1 (List.mem_of_getElem? (i := 176) (by decide +kernel))) rfl
theorem clJ0_492 {R : Room} {s : State} {args : Array Value} {rm : Room} (hB : ∀ w ∈ BIG, w.before args s = true) (hrc : rm.cells = 0) (hrs : rm.slots = 0) (hR : rm.frames + 1 ≤ R.frames ∧ 8 + (1 + 11) + rm.locals ≤ R.locals) : CallW R s args RJ0 RJ0 492 yJ0_isLatin1_aae02 cJ0_isLatin1_aae02 1 (some .boolean) (kJ0_isLatin1_aae02 :: BIG) rm 0 0 0 := cwV 0 hB (bgV mlJ0_492 imJ0_isLatin1_aae02 seJ0_isLatin1_aae02 iniJ0 mcJ0_isLatin1_aae02) rfl hrc hrs (by decide +kernel) hR
theorem mlJ0_495 : Cond.methodLink RJ0 495 yJ1_charAt_3b067 ∈ BIG := bg (inT1 (List.mem_of_getElem? (i := 180) (by decide +kernel))) rfl
theorem clJ0_495 {R : Room} {s : State} {args : Array Value} {rm : Room} (hB : ∀ w ∈ BIG, w.before args s = true) (hrc : rm.cells = 0) (hrs : rm.slots = 0) (hR : rm.frames + 1 ≤ R.frames ∧ 8 + (2 + 11) + rm.locals ≤ R.locals) : CallB R s args RJ0 495 yJ1_charAt_3b067 cJ1_charAt_3b067 2 (some .char) (kJ1_charAt_3b067 :: BIG) rm 0 0 2 ∧ (Cond.static yJ1_charAt_3b067).before args s = true := ⟨callB_of 2 hB (bgG mcJ1_charAt_3b067) rfl hrc hrs (hB _ iniJ1) (hB _ mlJ0_495) (by decide +kernel) hR, hB _ smJ1_charAt_3b067⟩
theorem mlJ1_9 : Cond.methodLink RJ1 9 yJ0_checkIndex_df160 ∈ BIG := bg (inT1 (List.mem_of_getElem? (i := 183) (by decide +kernel))) rfl
theorem clJ1_9 {R : Room} {s : State} {args : Array Value} {rm : Room} (hB : ∀ w ∈ BIG, w.before args s = true) (hrc : rm.cells = 0) (hrs : rm.slots = 0) (hR : rm.frames + 1 ≤ R.frames ∧ 8 + (2 + 11) + rm.locals ≤ R.locals) : CallB R s args RJ1 9 yJ0_checkIndex_df160 cJ0_checkIndex_df160 2 none (kJ0_checkIndex_df160 :: BIG) rm 0 0 2 ∧ (Cond.static yJ0_checkIndex_df160).before args s = true := ⟨callB_of 2 hB (bgG mcJ0_checkIndex_df160) rfl hrc hrs (hB _ iniJ0) (hB _ mlJ1_9) (by decide +kernel) hR, hB _ smJ0_checkIndex_df160⟩
theorem mlJ0_1059 : Cond.methodLink RJ0 1059 yJ3_checkIndex_8e157 ∈ BIG := bg (inT1 (List.mem_of_getElem? (i := 188) (by decide +kernel))) rfl
theorem clJ0_1059 {R : Room} {s : State} {args : Array Value} {rm : Room} (hB : ∀ w ∈ BIG, w.before args s = true) (hrc : rm.cells = 0) (hrs : rm.slots = 0) (hR : rm.frames + 1 ≤ R.frames ∧ 8 + (3 + 11) + rm.locals ≤ R.locals) : CallB R s args RJ0 1059 yJ3_checkIndex_8e157 cJ3_checkIndex_8e157 3 (some .int) (kJ3_checkIndex_8e157 :: BIG) rm 0 0 3 ∧ (Cond.static yJ3_checkIndex_8e157).before args s = true := ⟨callB_of 3 hB (bgG mcJ3_checkIndex_8e157) rfl hrc hrs (hB _ iniJ3) (hB _ mlJ0_1059) (by decide +kernel) hR, hB _ smJ3_checkIndex_8e157⟩
theorem lkJ0_38 : Cond.fieldLink RJ0 38 "java/lang/String" "COMPACT_STRINGS" "Z" ∈ BIG := bg (inT1 (List.mem_of_getElem? (i := 170) (by decide +kernel))) rfl
theorem lkJ0_9 : Cond.fieldLink RJ0 9 "java/lang/String" "value" "[B" ∈ BIG := bg (inT5 (List.mem_of_getElem? (i := 79) (by decide +kernel))) rfl
theorem lkJ0_15 : Cond.fieldLink RJ0 15 "java/lang/String" "coder" "B" ∈ BIG := bg (inT5 (List.mem_of_getElem? (i := 80) (by decide +kernel))) rfl
theorem lkJ0_1053 : Cond.fieldLink RJ0 1053 "jdk/internal/util/Preconditions" "SIOOBE_FORMATTER" "Ljava/util/function/BiFunction;" ∈ BIG := bg (inT1 (List.mem_of_getElem? (i := 186) (by decide +kernel))) rfl
theorem dJ0_length_8abf5_0 : decode cJ0_length_8abf5 0 = .ok (.aload_n 0, 1) := by decide +kernel
theorem dJ0_length_8abf5_1 : decode cJ0_length_8abf5 1 = .ok (.getfield 9, 3) := by decide +kernel
theorem dJ0_length_8abf5_4 : decode cJ0_length_8abf5 4 = .ok (.arraylength, 1) := by decide +kernel
theorem dJ0_length_8abf5_5 : decode cJ0_length_8abf5 5 = .ok (.aload_n 0, 1) := by decide +kernel
theorem dJ0_length_8abf5_6 : decode cJ0_length_8abf5 6 = .ok (.invokevirtual 335, 3) := by decide +kernel
theorem dJ0_length_8abf5_9 : decode cJ0_length_8abf5 9 = .ok (.ishr, 1) := by decide +kernel
theorem dJ0_length_8abf5_10 : decode cJ0_length_8abf5 10 = .ok (.ireturn, 1) := by decide +kernel
theorem dJ0_coder_7d493_0 : decode cJ0_coder_7d493 0 = .ok (.getstatic 38, 3) := by decide +kernel
theorem dJ0_coder_7d493_3 : decode cJ0_coder_7d493 3 = .ok (.ifCond .eq 10, 3) := by decide +kernel
theorem dJ0_coder_7d493_6 : decode cJ0_coder_7d493 6 = .ok (.aload_n 0, 1) := by decide +kernel
theorem dJ0_coder_7d493_7 : decode cJ0_coder_7d493 7 = .ok (.getfield 15, 3) := by decide +kernel
theorem dJ0_coder_7d493_10 : decode cJ0_coder_7d493 10 = .ok (.goto 4, 3) := by decide +kernel
theorem dJ0_coder_7d493_13 : decode cJ0_coder_7d493 13 = .ok (.iconst 1, 1) := by decide +kernel
theorem dJ0_coder_7d493_14 : decode cJ0_coder_7d493 14 = .ok (.ireturn, 1) := by decide +kernel
theorem dJ0_isLatin1_aae02_0 : decode cJ0_isLatin1_aae02 0 = .ok (.getstatic 38, 3) := by decide +kernel
theorem dJ0_isLatin1_aae02_3 : decode cJ0_isLatin1_aae02 3 = .ok (.ifCond .eq 14, 3) := by decide +kernel
theorem dJ0_isLatin1_aae02_6 : decode cJ0_isLatin1_aae02 6 = .ok (.aload_n 0, 1) := by decide +kernel
theorem dJ0_isLatin1_aae02_7 : decode cJ0_isLatin1_aae02 7 = .ok (.getfield 15, 3) := by decide +kernel
theorem dJ0_isLatin1_aae02_10 : decode cJ0_isLatin1_aae02 10 = .ok (.ifCond .ne 7, 3) := by decide +kernel
theorem dJ0_isLatin1_aae02_13 : decode cJ0_isLatin1_aae02 13 = .ok (.iconst 1, 1) := by decide +kernel
theorem dJ0_isLatin1_aae02_14 : decode cJ0_isLatin1_aae02 14 = .ok (.goto 4, 3) := by decide +kernel
theorem dJ0_isLatin1_aae02_17 : decode cJ0_isLatin1_aae02 17 = .ok (.iconst 0, 1) := by decide +kernel
theorem dJ0_isLatin1_aae02_18 : decode cJ0_isLatin1_aae02 18 = .ok (.ireturn, 1) := by decide +kernel
theorem dJ0_charAt_5068e_0 : decode cJ0_charAt_5068e 0 = .ok (.aload_n 0, 1) := by decide +kernel
theorem dJ0_charAt_5068e_1 : decode cJ0_charAt_5068e 1 = .ok (.invokevirtual 492, 3) := by decide +kernel
theorem dJ0_charAt_5068e_4 : decode cJ0_charAt_5068e 4 = .ok (.ifCond .eq 12, 3) := by decide +kernel
theorem dJ0_charAt_5068e_7 : decode cJ0_charAt_5068e 7 = .ok (.aload_n 0, 1) := by decide +kernel
theorem dJ0_charAt_5068e_8 : decode cJ0_charAt_5068e 8 = .ok (.getfield 9, 3) := by decide +kernel
theorem dJ0_charAt_5068e_11 : decode cJ0_charAt_5068e 11 = .ok (.iload_n 1, 1) := by decide +kernel
theorem dJ0_charAt_5068e_12 : decode cJ0_charAt_5068e 12 = .ok (.invokestatic 495, 3) := by decide +kernel
theorem dJ0_charAt_5068e_15 : decode cJ0_charAt_5068e 15 = .ok (.ireturn, 1) := by decide +kernel
theorem dJ0_charAt_5068e_16 : decode cJ0_charAt_5068e 16 = .ok (.aload_n 0, 1) := by decide +kernel
theorem dJ0_charAt_5068e_17 : decode cJ0_charAt_5068e 17 = .ok (.getfield 9, 3) := by decide +kernel
theorem dJ0_charAt_5068e_20 : decode cJ0_charAt_5068e 20 = .ok (.iload_n 1, 1) := by decide +kernel
theorem dJ0_charAt_5068e_21 : decode cJ0_charAt_5068e 21 = .ok (.invokestatic 498, 3) := by decide +kernel
theorem dJ0_charAt_5068e_24 : decode cJ0_charAt_5068e 24 = .ok (.ireturn, 1) := by decide +kernel
theorem dJ0_checkIndex_df160_0 : decode cJ0_checkIndex_df160 0 = .ok (.iload_n 0, 1) := by decide +kernel
theorem dJ0_checkIndex_df160_1 : decode cJ0_checkIndex_df160 1 = .ok (.iload_n 1, 1) := by decide +kernel
theorem dJ0_checkIndex_df160_2 : decode cJ0_checkIndex_df160 2 = .ok (.getstatic 1053, 3) := by decide +kernel
theorem dJ0_checkIndex_df160_5 : decode cJ0_checkIndex_df160 5 = .ok (.invokestatic 1059, 3) := by decide +kernel
theorem dJ0_checkIndex_df160_8 : decode cJ0_checkIndex_df160 8 = .ok (.pop, 1) := by decide +kernel
theorem dJ0_checkIndex_df160_9 : decode cJ0_checkIndex_df160 9 = .ok (.return_, 1) := by decide +kernel
theorem dJ1_charAt_3b067_0 : decode cJ1_charAt_3b067 0 = .ok (.iload_n 1, 1) := by decide +kernel
theorem dJ1_charAt_3b067_1 : decode cJ1_charAt_3b067 1 = .ok (.aload_n 0, 1) := by decide +kernel
theorem dJ1_charAt_3b067_2 : decode cJ1_charAt_3b067 2 = .ok (.arraylength, 1) := by decide +kernel
theorem dJ1_charAt_3b067_3 : decode cJ1_charAt_3b067 3 = .ok (.invokestatic 9, 3) := by decide +kernel
theorem dJ1_charAt_3b067_6 : decode cJ1_charAt_3b067 6 = .ok (.aload_n 0, 1) := by decide +kernel
theorem dJ1_charAt_3b067_7 : decode cJ1_charAt_3b067 7 = .ok (.iload_n 1, 1) := by decide +kernel
theorem dJ1_charAt_3b067_8 : decode cJ1_charAt_3b067 8 = .ok (.baload, 1) := by decide +kernel
theorem dJ1_charAt_3b067_9 : decode cJ1_charAt_3b067 9 = .ok (.sipush 255, 3) := by decide +kernel
theorem dJ1_charAt_3b067_12 : decode cJ1_charAt_3b067 12 = .ok (.iand, 1) := by decide +kernel
theorem dJ1_charAt_3b067_13 : decode cJ1_charAt_3b067 13 = .ok (.i2c, 1) := by decide +kernel
theorem dJ1_charAt_3b067_14 : decode cJ1_charAt_3b067 14 = .ok (.ireturn, 1) := by decide +kernel
theorem dJ3_checkIndex_8e157_0 : decode cJ3_checkIndex_8e157 0 = .ok (.iload_n 0, 1) := by decide +kernel
theorem dJ3_checkIndex_8e157_1 : decode cJ3_checkIndex_8e157 1 = .ok (.ifCond .lt 8, 3) := by decide +kernel
theorem dJ3_checkIndex_8e157_4 : decode cJ3_checkIndex_8e157 4 = .ok (.iload_n 0, 1) := by decide +kernel
theorem dJ3_checkIndex_8e157_5 : decode cJ3_checkIndex_8e157 5 = .ok (.iload_n 1, 1) := by decide +kernel
theorem dJ3_checkIndex_8e157_6 : decode cJ3_checkIndex_8e157 6 = .ok (.if_icmp .lt 10, 3) := by decide +kernel
theorem dJ3_checkIndex_8e157_9 : decode cJ3_checkIndex_8e157 9 = .ok (.aload_n 2, 1) := by decide +kernel
theorem dJ3_checkIndex_8e157_10 : decode cJ3_checkIndex_8e157 10 = .ok (.iload_n 0, 1) := by decide +kernel
theorem dJ3_checkIndex_8e157_11 : decode cJ3_checkIndex_8e157 11 = .ok (.iload_n 1, 1) := by decide +kernel
theorem dJ3_checkIndex_8e157_12 : decode cJ3_checkIndex_8e157 12 = .ok (.invokestatic 95, 3) := by decide +kernel
theorem dJ3_checkIndex_8e157_15 : decode cJ3_checkIndex_8e157 15 = .ok (.athrow, 1) := by decide +kernel
theorem dJ3_checkIndex_8e157_16 : decode cJ3_checkIndex_8e157 16 = .ok (.iload_n 0, 1) := by decide +kernel
theorem dJ3_checkIndex_8e157_17 : decode cJ3_checkIndex_8e157 17 = .ok (.ireturn, 1) := by decide +kernel
def TXT : String := "y4;d0,0,7;d1,0,3;d0,1,2;d0,0,9;d1,3,5;d1,2,0;d0,0,6;v0,4;v1,3;v3,6;v5,2;t40;"
def BYT : List Int32 := [121, 52, 59, 100, 48, 44, 48, 44, 55, 59, 100, 49, 44, 48, 44, 51, 59, 100, 48, 44, 49, 44, 50, 59, 100, 48, 44, 48, 44, 57, 59, 100, 49, 44, 51, 44, 53, 59, 100, 49, 44, 50, 44, 48, 59, 100, 48, 44, 48, 44, 54, 59, 118, 48, 44, 52, 59, 118, 49, 44, 51, 59, 118, 51, 44, 54, 59, 118, 53, 44, 50, 59, 116, 52, 48, 59]
def AN (N0 : Nat) : Nat → Prop := fun a => N0 ≤ a
def SF (N0 q qv : Nat) (U : State) (H : Heap) : Prop := va_AO RX3 U ∧ vk_R RX4 55 TXT q U ∧ va_O "java/lang/String" q (AN N0) U H ∧ va_OF "java/lang/String" "coder" "B" (.int 0) q (AN N0) U H ∧ va_OF "java/lang/String" "value" "[B" (.ref qv) q (AN N0) U H ∧ va_T .byte qv 76 (fun j => .int (BYT.getD j 0)) (AN N0) U H ∧ va_Z "java/lang/String" "COMPACT_STRINGS" "Z" (.int 1) (AN N0) U H ∧ va_Zq "jdk/internal/util/Preconditions" "SIOOBE_FORMATTER" "Ljava/util/function/BiFunction;" (AN N0) U H
theorem SF_st (N0 q qv : Nat) : Stb (SF N0 q qv) :=
  ⟨fun s U H hW h => ⟨va_AO.moved hW.alike h.1, vk_R.warm hW h.2.1, va_O.moved hW.alike h.2.2.1, va_OF.moved hW.alike h.2.2.2.1, va_OF.moved hW.alike h.2.2.2.2.1, va_T.moved hW.alike h.2.2.2.2.2.1, va_Z.moved hW.alike h.2.2.2.2.2.2.1, va_Zq.moved hW.alike h.2.2.2.2.2.2.2⟩,
   fun U H g mk a h => ⟨va_AO.moved (u := U) (U := U.calling g mk a) (Vm.Alike.refl U.vm) h.1, vk_R.same (u := U) (U := U.calling g mk a) rfl h.2.1, va_O.moved (u := U) (U := U.calling g mk a) (Vm.Alike.refl U.vm) h.2.2.1, va_OF.moved (u := U) (U := U.calling g mk a) (Vm.Alike.refl U.vm) h.2.2.2.1, va_OF.moved (u := U) (U := U.calling g mk a) (Vm.Alike.refl U.vm) h.2.2.2.2.1, va_T.moved (u := U) (U := U.calling g mk a) (Vm.Alike.refl U.vm) h.2.2.2.2.2.1, va_Z.moved (u := U) (U := U.calling g mk a) (Vm.Alike.refl U.vm) h.2.2.2.2.2.2.1, va_Zq.moved (u := U) (U := U.calling g mk a) (Vm.Alike.refl U.vm) h.2.2.2.2.2.2.2⟩⟩
theorem SF.kept {N0 q qv : Nat} {U : State} {H H1 : Heap} (h : SF N0 q qv U H) (hq : ∀ a : Nat, a < H.size → ¬ AN N0 a → H1[a]? = H[a]?) : SF N0 q qv U H1 :=
  ⟨h.1, h.2.1, h.2.2.1.kept hq, h.2.2.2.1.kept hq, h.2.2.2.2.1.kept hq, h.2.2.2.2.2.1.kept hq, h.2.2.2.2.2.2.1.kept hq, h.2.2.2.2.2.2.2.kept hq⟩
theorem SF.recv {N0 q qv : Nat} {U : State} {H : Heap} (h : SF N0 q qv U H) : ∃ cell : Cell, H[q]? = some cell ∧ cell.vm.isStatics = false ∧ U.vm.findClass RJ0 = some cell.cls := by
  obtain ⟨cell, h1, h2, h3, -⟩ := h.2.2.1
  exact ⟨cell, h1, h2, h3⟩
section STR
variable {p : Program} {l : Launch} {e : Env} {R : Room} {s : State} {m : MethodId} {args : Array Value} {below : List Frame} {meth : Method} {c : Code} {H : Heap} {locs : List Loc} {cells slots : Nat} {Q : State → Prop}
variable {cc : ByteArray} {pc : Nat} {ls : Array Slot} {rest st0 : List Value} {E : En} {A A0 : Nat → Prop} {H0 : Heap} {K : State → Heap → Prop}
theorem k_VRG {y : MethodName} {bytes : ByteArray} {maxL nL n index : Nat} {ret : Option FieldType} {ws : List Cond} {rm : Room} {X : Heap → Prop} {own C : String} {b : Addr} {As : List Value} {r : Int32} (hstb : Stb K) (S : CallFix p m c cc nL s args BIG own) (hM : Met l y ws rm (PkG E K (.ref b :: As) X) (QcRead r) 0 0 (fun _ => False)) (cw : CallW R s args own C index y bytes maxL ret ws rm 0 0 n) (hK : KK E s) (hK2 : K s H) (hX : X H) (hrc : ∃ cellB : Cell, H[b]? = some cellB ∧ cellB.vm.isStatics = false ∧ s.vm.findClass C = some cellB.cls) (hn : As.length = n) (hsize : ls.size = nL) (hst : st0 = As.reverse ++ .ref b :: rest) (hW : (rest.map fun v => v.category).sum ≤ 8) (hdg : decode cc pc = .ok (.invokevirtual index, 3)) (hf : cells ≤ R.cells ∧ slots ≤ R.slots)
    (kk : W p l e R s m args below meth c H locs cells slots Q (F0 m (pc + 3) ls (.int r :: rest))) : W p l e R s m args below meth c H locs cells slots Q (F0 m pc ls st0) :=
  W.callR (W.runV S hM cw (PkG.V hstb hK hK2 hX hrc) rfl hn hsize hst (lv_room hW) hdg hf) kk
theorem k_SRG {y : MethodName} {bytes : ByteArray} {maxL nL n index : Nat} {ret : Option FieldType} {ws : List Cond} {rm : Room} {X : Heap → Prop} {own : String} {As : List Value} {r : Int32} (hstb : Stb K) (S : CallFix p m c cc nL s args BIG own) (hM : Met l y ws rm (PkG E K As X) (QcRead r) 0 0 (fun _ => False)) (cw : CallB R s args own index y bytes maxL ret ws rm 0 0 n ∧ (Cond.static y).before args s = true) (hK : KK E s) (hK2 : K s H) (hX : X H) (hn : As.length = n) (hsize : ls.size = nL) (hst : st0 = As.reverse ++ rest) (hW : (rest.map fun v => v.category).sum ≤ 8) (hdg : decode cc pc = .ok (.invokestatic index, 3)) (hf : cells ≤ R.cells ∧ slots ≤ R.slots)
    (kk : W p l e R s m args below meth c H locs cells slots Q (F0 m (pc + 3) ls (.int r :: rest))) : W p l e R s m args below meth c H locs cells slots Q (F0 m pc ls st0) :=
  W.callR (W.runS S hM cw (PkG.S hstb hK hK2 hX) rfl hn hsize hst (lv_room hW) hdg hf) kk
theorem k_SWG {y : MethodName} {bytes : ByteArray} {maxL nL n index : Nat} {ret : Option FieldType} {ws : List Cond} {rm : Room} {X X' : Heap → Prop} {own : String} {As : List Value} {v : Option Value} (hstb : Stb K) (S : CallFix p m c cc nL s args BIG own) (hM : Met l y ws rm (PkG E K As X) (QW v A X') 0 0 A) (cw : CallB R s args own index y bytes maxL ret ws rm 0 0 n ∧ (Cond.static y).before args s = true) (hK : KK E s) (hK2 : K s H) (hX : X H) (hn : As.length = n) (hsize : ls.size = nL) (hst : st0 = As.reverse ++ rest) (hW : (rest.map fun v => v.category).sum ≤ 8) (hdg : decode cc pc = .ok (.invokestatic index, 3)) (hf : cells ≤ R.cells ∧ slots ≤ R.slots) (hS : va_S A0 H0 H locs) (hA : ∀ q, A q → A0 q)
    (kk : ∀ (H1 : Heap) (locs1 : List Loc), X' H1 → H.size ≤ H1.size → (∀ q : Nat, q < H.size → ¬ A q → H1[q]? = H[q]?) → va_S A0 H0 H1 locs1 → W p l e R s m args below meth c H1 locs1 cells slots Q (F0 m (pc + 3) ls (v.toList ++ rest))) : W p l e R s m args below meth c H locs cells slots Q (F0 m pc ls st0) :=
  k_W (W.runS S hM cw (PkG.S hstb hK hK2 hX) rfl hn hsize hst (lv_room hW) hdg hf) hS hA kk
end STR
abbrev rmJ (f n : Nat) : Room := { frames := f, cells := 0, slots := 0, locals := n }
set_option maxHeartbeats 4000000 in
set_option maxRecDepth 100000 in
theorem c_coder (l : Launch) (E : En) (N0 q qv : Nat) : Met l yJ0_coder_7d493 (kJ0_coder_7d493 :: BIG) (rmJ 0 0) (PkG E (SF N0 q qv) [.ref q] (fun _ => True)) (QcRead 0) 0 0 (fun _ => False) := by
  refine MbG (by decide) (Nat.le_of_ble_eq_true rfl) ?_
  intro p e s m below meth c ls hx hb hr hlk hB hown hml _ hK hw hK2 hl
  have hS : va_S (AN N0) s.heap s.heap [] := va_S.rf
  have hl : lv_has ls 1 [(0, .ref q)] := hl
  refine va_gets hx hb hK2.2.2.2.2.2.2.1 hS hown (hB _ lkJ0_38) (fun _ h => h) dJ0_coder_7d493_0 ?_
  refine lv_if_eq (tgt := 13) hx hb dJ0_coder_7d493_3 (by decide) (fun g => absurd g (by decide)) (fun g => ?_)
  refine lv_aload_n hx hb dJ0_coder_7d493_6 rfl (lv_at hl 0 rfl) ?_
  refine vk_getf hx hb hK2.2.2.2.1 hS hown (hB _ lkJ0_15) (fun _ h => h) dJ0_coder_7d493_7 ?_
  refine lv_goto (tgt := 14) hx hb dJ0_coder_7d493_10 (by decide) ?_
  exact e_zR hx hb hr hlk (by decide) rfl dJ0_coder_7d493_14
set_option maxHeartbeats 4000000 in
set_option maxRecDepth 100000 in
theorem c_isLatin1 (l : Launch) (E : En) (N0 q qv : Nat) : Met l yJ0_isLatin1_aae02 (kJ0_isLatin1_aae02 :: BIG) (rmJ 0 0) (PkG E (SF N0 q qv) [.ref q] (fun _ => True)) (QcRead 1) 0 0 (fun _ => False) := by
  refine MbG (by decide) (Nat.le_of_ble_eq_true rfl) ?_
  intro p e s m below meth c ls hx hb hr hlk hB hown hml _ hK hw hK2 hl
  have hS : va_S (AN N0) s.heap s.heap [] := va_S.rf
  have hl : lv_has ls 1 [(0, .ref q)] := hl
  refine va_gets hx hb hK2.2.2.2.2.2.2.1 hS hown (hB _ lkJ0_38) (fun _ h => h) dJ0_isLatin1_aae02_0 ?_
  refine lv_if_eq (tgt := 17) hx hb dJ0_isLatin1_aae02_3 (by decide) (fun g => absurd g (by decide)) (fun g => ?_)
  refine lv_aload_n hx hb dJ0_isLatin1_aae02_6 rfl (lv_at hl 0 rfl) ?_
  refine vk_getf hx hb hK2.2.2.2.1 hS hown (hB _ lkJ0_15) (fun _ h => h) dJ0_isLatin1_aae02_7 ?_
  refine lv_if_ne (tgt := 17) hx hb dJ0_isLatin1_aae02_10 (by decide) (fun g => absurd rfl g) (fun g => ?_)
  refine lv_iconst (v := 1) hx hb dJ0_isLatin1_aae02_13 (by decide) ?_
  refine lv_goto (tgt := 18) hx hb dJ0_isLatin1_aae02_14 (by decide) ?_
  exact e_zR hx hb hr hlk (by decide) rfl dJ0_isLatin1_aae02_18
set_option maxHeartbeats 4000000 in
set_option maxRecDepth 100000 in
theorem c_length (l : Launch) (E : En) (N0 q qv : Nat) : Met l yJ0_length_8abf5 (kJ0_length_8abf5 :: BIG) (rmJ 1 20) (PkG E (SF N0 q qv) [.ref q] (fun _ => True)) (QcRead 76) 0 0 (fun _ => False) := by
  refine MbG (by decide) (Nat.le_of_ble_eq_true rfl) ?_
  intro p e s m below meth c ls hx hb hr hlk hB hown hml _ hK hw hK2 hl
  have hS : va_S (AN N0) s.heap s.heap [] := va_S.rf
  have hl : lv_has ls 1 [(0, .ref q)] := hl
  refine lv_aload_n hx hb dJ0_length_8abf5_0 rfl (lv_at hl 0 rfl) ?_
  refine vk_getf hx hb hK2.2.2.2.2.1 hS hown (hB _ lkJ0_9) (fun _ h => h) dJ0_length_8abf5_1 ?_
  refine va_tlen hx hb hK2.2.2.2.2.2.1 hS rfl dJ0_length_8abf5_4 ?_
  refine lv_aload_n hx hb dJ0_length_8abf5_5 rfl (lv_at hl 0 rfl) ?_
  refine k_VRG (SF_st N0 q qv) (As := []) ⟨hx, hb, hml, hown, hB⟩ (c_coder l E N0 q qv) (clJ0_335 hB rfl rfl ⟨Nat.le_of_ble_eq_true rfl, Nat.le_of_ble_eq_true rfl⟩) hK hK2 trivial hK2.recv rfl hl.1 rfl (Nat.le_of_ble_eq_true rfl) dJ0_length_8abf5_6 ⟨Nat.zero_le _, Nat.zero_le _⟩ ?_
  refine lv_ishr hx hb dJ0_length_8abf5_9 ?_
  exact e_zR hx hb hr hlk (by decide) (by decide) dJ0_length_8abf5_10
set_option maxHeartbeats 4000000 in
set_option maxRecDepth 100000 in
theorem c_pCheck (l : Launch) (E : En) (k : Nat) (hk : k < 76) (v : Value) (hv : v = .null ∨ ∃ t, v = .ref t) : Met l yJ3_checkIndex_8e157 (kJ3_checkIndex_8e157 :: BIG) (rmJ 0 0) (Pk E [.int (nI k), .int 76, v] (fun _ => True)) (QcRead (nI k)) 0 0 (fun _ => False) := by
  rcases hv with rfl | ⟨t, rfl⟩
  · refine Mb (by decide) (Nat.le_of_ble_eq_true rfl) ?_
    intro p e s m below meth c ls hx hb hr hlk hB hown hml _ hK hw hl
    have hl : lv_has ls 3 [(0, .int (nI k)), (1, .int 76), (2, .null)] := hl
    refine lv_iload_n hx hb dJ3_checkIndex_8e157_0 rfl (lv_at hl 0 rfl) ?_
    refine lv_if_lt (tgt := 9) hx hb dJ3_checkIndex_8e157_1 (by decide) (fun g => absurd g (nI_pos (by omega))) (fun g => ?_)
    refine lv_iload_n hx hb dJ3_checkIndex_8e157_4 rfl (lv_at hl 0 rfl) ?_
    refine lv_iload_n hx hb dJ3_checkIndex_8e157_5 rfl (lv_at hl 1 rfl) ?_
    refine lv_icmp_lt (tgt := 16) hx hb dJ3_checkIndex_8e157_6 (by decide) (fun g => ?_) (fun g => absurd (show nI k < nI 76 from nI_lt hk (by omega)) g)
    refine lv_iload_n hx hb dJ3_checkIndex_8e157_16 rfl (lv_at hl 0 rfl) ?_
    exact e_zR hx hb hr hlk rfl rfl dJ3_checkIndex_8e157_17
  · refine Mb (by decide) (Nat.le_of_ble_eq_true rfl) ?_
    intro p e s m below meth c ls hx hb hr hlk hB hown hml _ hK hw hl
    have hl : lv_has ls 3 [(0, .int (nI k)), (1, .int 76), (2, .ref t)] := hl
    refine lv_iload_n hx hb dJ3_checkIndex_8e157_0 rfl (lv_at hl 0 rfl) ?_
    refine lv_if_lt (tgt := 9) hx hb dJ3_checkIndex_8e157_1 (by decide) (fun g => absurd g (nI_pos (by omega))) (fun g => ?_)
    refine lv_iload_n hx hb dJ3_checkIndex_8e157_4 rfl (lv_at hl 0 rfl) ?_
    refine lv_iload_n hx hb dJ3_checkIndex_8e157_5 rfl (lv_at hl 1 rfl) ?_
    refine lv_icmp_lt (tgt := 16) hx hb dJ3_checkIndex_8e157_6 (by decide) (fun g => ?_) (fun g => absurd (show nI k < nI 76 from nI_lt hk (by omega)) g)
    refine lv_iload_n hx hb dJ3_checkIndex_8e157_16 rfl (lv_at hl 0 rfl) ?_
    exact e_zR hx hb hr hlk rfl rfl dJ3_checkIndex_8e157_17
set_option maxHeartbeats 4000000 in
set_option maxRecDepth 100000 in
theorem c_sCheck (l : Launch) (E : En) (N0 q qv k : Nat) (hk : k < 76) (H0 : Heap) : Met l yJ0_checkIndex_df160 (kJ0_checkIndex_df160 :: BIG) (rmJ 1 22) (PkG E (SF N0 q qv) [.int (nI k), .int 76] (fun H => H = H0)) (QW none (fun _ => False) (fun H => H = H0)) 0 0 (fun _ => False) := by
  refine MbG (by decide) (Nat.le_of_ble_eq_true rfl) ?_
  intro p e s m below meth c ls hx hb hr hlk hB hown hml _ hK hw hK2 hl
  have hS : va_S (AN N0) s.heap s.heap [] := va_S.rf
  have hl : lv_has ls 2 [(0, .int (nI k)), (1, .int 76)] := hl
  have hS0 : va_S (fun _ => False) s.heap s.heap [] := va_S.rf
  refine lv_iload_n hx hb dJ0_checkIndex_df160_0 rfl (lv_at hl 0 rfl) ?_
  refine lv_iload_n hx hb dJ0_checkIndex_df160_1 rfl (lv_at hl 1 rfl) ?_
  rcases hK2.2.2.2.2.2.2.2 with hz | ⟨t, hz⟩
  · refine va_gets hx hb hz hS hown (hB _ lkJ0_1053) (fun _ h => h) dJ0_checkIndex_df160_2 ?_
    refine k_SR (As := [.int (nI k), .int 76, .null]) ⟨hx, hb, hml, hown, hB⟩ (c_pCheck l E k hk .null (Or.inl rfl)) (clJ0_1059 hB rfl rfl ⟨Nat.le_of_ble_eq_true rfl, Nat.le_of_ble_eq_true rfl⟩) hK trivial rfl hl.1 rfl (Nat.le_of_ble_eq_true rfl) dJ0_checkIndex_df160_5 ⟨Nat.zero_le _, Nat.zero_le _⟩ ?_
    refine lv_pop hx hb dJ0_checkIndex_df160_8 rfl ?_
    exact e_vW hx hb hr hlk hw hS0 dJ0_checkIndex_df160_9
  · refine va_gets hx hb hz hS hown (hB _ lkJ0_1053) (fun _ h => h) dJ0_checkIndex_df160_2 ?_
    refine k_SR (As := [.int (nI k), .int 76, (.ref t)]) ⟨hx, hb, hml, hown, hB⟩ (c_pCheck l E k hk (.ref t) (Or.inr ⟨t, rfl⟩)) (clJ0_1059 hB rfl rfl ⟨Nat.le_of_ble_eq_true rfl, Nat.le_of_ble_eq_true rfl⟩) hK trivial rfl hl.1 rfl (Nat.le_of_ble_eq_true rfl) dJ0_checkIndex_df160_5 ⟨Nat.zero_le _, Nat.zero_le _⟩ ?_
    refine lv_pop hx hb dJ0_checkIndex_df160_8 rfl ?_
    exact e_vW hx hb hr hlk hw hS0 dJ0_checkIndex_df160_9
def chI (k : Nat) : Int32 := ((BYT.getD k 0 &&& 255).toUInt32 % 65536).toInt32
theorem chI_c : ∀ k, k < 76 → narrow .char (.int (chI k)) = .int (chI k) := by decide +kernel
set_option maxHeartbeats 4000000 in
set_option maxRecDepth 100000 in
theorem c_lChar (l : Launch) (E : En) (N0 q qv k : Nat) (hk : k < 76) : Met l yJ1_charAt_3b067 (kJ1_charAt_3b067 :: BIG) (rmJ 2 43) (PkG E (SF N0 q qv) [.ref qv, .int (nI k)] (fun _ => True)) (QcRead (chI k)) 0 0 (fun _ => False) := by
  refine MbG (by decide) (Nat.le_of_ble_eq_true rfl) ?_
  intro p e s m below meth c ls hx hb hr hlk hB hown hml _ hK hw hK2 hl
  have hS : va_S (AN N0) s.heap s.heap [] := va_S.rf
  have hl : lv_has ls 2 [(0, .ref qv), (1, .int (nI k))] := hl
  refine lv_iload_n hx hb dJ1_charAt_3b067_0 rfl (lv_at hl 1 rfl) ?_
  refine lv_aload_n hx hb dJ1_charAt_3b067_1 rfl (lv_at hl 0 rfl) ?_
  refine va_tlen hx hb hK2.2.2.2.2.2.1 hS rfl dJ1_charAt_3b067_2 ?_
  refine k_SWG (SF_st N0 q qv) (As := [.int (nI k), .int 76]) (rest := []) ⟨hx, hb, hml, hown, hB⟩ (c_sCheck l E N0 q qv k hk s.heap) (clJ1_9 hB rfl rfl ⟨Nat.le_of_ble_eq_true rfl, Nat.le_of_ble_eq_true rfl⟩) hK hK2 rfl rfl hl.1 rfl (Nat.le_of_ble_eq_true rfl) dJ1_charAt_3b067_3 ⟨Nat.zero_le _, Nat.zero_le _⟩ va_S.rf (A0 := fun _ => False) (fun _ h => h) (fun H1 L1 e1 _ _ hS1 => ?_)
  subst e1
  refine va_forget (fun z hz => (hS1.2.2 z hz).elim) ?_
  refine lv_aload_n hx hb dJ1_charAt_3b067_6 rfl (lv_at hl 0 rfl) ?_
  refine lv_iload_n hx hb dJ1_charAt_3b067_7 rfl (lv_at hl 1 rfl) ?_
  refine va_tb hx hb hK2.2.2.2.2.2.1 hS (vp_in_nI hk (by omega)) (v := .int (BYT.getD k 0)) (by rw [nI_clamp (by omega)]) dJ1_charAt_3b067_8 ?_
  refine lv_sipush (v := 255) hx hb dJ1_charAt_3b067_9 (by decide) ?_
  refine lv_iand hx hb dJ1_charAt_3b067_12 ?_
  refine lv_i2c (v := chI k) hx hb dJ1_charAt_3b067_13 rfl ?_
  exact e_zR hx hb hr hlk (chI_c k hk) rfl dJ1_charAt_3b067_14
set_option maxHeartbeats 4000000 in
set_option maxRecDepth 100000 in
theorem c_charAt (l : Launch) (E : En) (N0 q qv k : Nat) (hk : k < 76) : Met l yJ0_charAt_5068e (kJ0_charAt_5068e :: BIG) (rmJ 3 64) (PkG E (SF N0 q qv) [.ref q, .int (nI k)] (fun _ => True)) (QcRead (chI k)) 0 0 (fun _ => False) := by
  refine MbG (by decide) (Nat.le_of_ble_eq_true rfl) ?_
  intro p e s m below meth c ls hx hb hr hlk hB hown hml _ hK hw hK2 hl
  have hS : va_S (AN N0) s.heap s.heap [] := va_S.rf
  have hl : lv_has ls 2 [(0, .ref q), (1, .int (nI k))] := hl
  refine lv_aload_n hx hb dJ0_charAt_5068e_0 rfl (lv_at hl 0 rfl) ?_
  refine k_VRG (SF_st N0 q qv) (As := []) ⟨hx, hb, hml, hown, hB⟩ (c_isLatin1 l E N0 q qv) (clJ0_492 hB rfl rfl ⟨Nat.le_of_ble_eq_true rfl, Nat.le_of_ble_eq_true rfl⟩) hK hK2 trivial hK2.recv rfl hl.1 rfl (Nat.le_of_ble_eq_true rfl) dJ0_charAt_5068e_1 ⟨Nat.zero_le _, Nat.zero_le _⟩ ?_
  refine lv_if_eq (tgt := 16) hx hb dJ0_charAt_5068e_4 (by decide) (fun g => absurd g (by decide)) (fun g => ?_)
  refine lv_aload_n hx hb dJ0_charAt_5068e_7 rfl (lv_at hl 0 rfl) ?_
  refine vk_getf hx hb hK2.2.2.2.2.1 hS hown (hB _ lkJ0_9) (fun _ h => h) dJ0_charAt_5068e_8 ?_
  refine lv_iload_n hx hb dJ0_charAt_5068e_11 rfl (lv_at hl 1 rfl) ?_
  refine k_SRG (SF_st N0 q qv) (As := [.ref qv, .int (nI k)]) ⟨hx, hb, hml, hown, hB⟩ (c_lChar l E N0 q qv k hk) (clJ0_495 hB rfl rfl ⟨Nat.le_of_ble_eq_true rfl, Nat.le_of_ble_eq_true rfl⟩) hK hK2 trivial rfl hl.1 rfl (Nat.le_of_ble_eq_true rfl) dJ0_charAt_5068e_12 ⟨Nat.zero_le _, Nat.zero_le _⟩ ?_
  exact e_zR hx hb hr hlk (chI_c k hk) rfl dJ0_charAt_5068e_15
