def AL : List Cond := lw_tbl.filter goodWord
theorem al_in {w : Cond} (h : w ∈ AL) : w ∈ lw_tbl := (List.mem_filter.mp h).1
theorem al_mk {w : Cond} (i : Nat) (h : lw_tbl[i]? = some w) (g : goodWord w = true) : w ∈ AL := List.mem_filter.mpr ⟨List.mem_of_getElem? h, g⟩
abbrev WD (y : MethodName) (cc : ByteArray) (n : Nat) (ret : Option FieldType) : List Cond := Cond.code y cc n ret :: AL
theorem al_gd {y : MethodName} {cc : ByteArray} {n : Nat} {ret : Option FieldType} (q : Cond.code y cc n ret ∈ AL) : GoodIn AL (WD y cc n ret) := fun w hw => by
  have h : w ∈ AL := by
    rcases List.mem_cons.mp hw with h | h
    · rw [h]; exact q
    · exact h
  exact ⟨h, good_of_word (List.mem_filter.mp h).2⟩
theorem al_t1 {w : Cond} (i : Nat) (h : tables_1_1[i]? = some w) (g : goodWord w = true) : w ∈ AL := List.mem_filter.mpr ⟨List.mem_append_right _ (List.mem_append_left _ (List.mem_of_getElem? h)), g⟩
theorem al_t2 {w : Cond} (i : Nat) (h : tables_1_2[i]? = some w) (g : goodWord w = true) : w ∈ AL := List.mem_filter.mpr ⟨List.mem_append_right _ (List.mem_append_right _ (List.mem_append_left _ (List.mem_of_getElem? h))), g⟩
theorem al_t3 {w : Cond} (i : Nat) (h : tables_1_3[i]? = some w) (g : goodWord w = true) : w ∈ AL := List.mem_filter.mpr ⟨List.mem_append_right _ (List.mem_append_right _ (List.mem_append_right _ (List.mem_append_left _ (List.mem_of_getElem? h)))), g⟩
theorem al_t4 {w : Cond} (i : Nat) (h : tables_1_4[i]? = some w) (g : goodWord w = true) : w ∈ AL := List.mem_filter.mpr ⟨List.mem_append_right _ (List.mem_append_right _ (List.mem_append_right _ (List.mem_append_right _ (List.mem_append_left _ (List.mem_of_getElem? h))))), g⟩
theorem al_t5 {w : Cond} (i : Nat) (h : tables_1_5[i]? = some w) (g : goodWord w = true) : w ∈ AL := List.mem_filter.mpr ⟨List.mem_append_right _ (List.mem_append_right _ (List.mem_append_right _ (List.mem_append_right _ (List.mem_append_right _ (List.mem_append_left _ (List.mem_of_getElem? h)))))), g⟩
theorem al_t6 {w : Cond} (i : Nat) (h : tables_1_6[i]? = some w) (g : goodWord w = true) : w ∈ AL := List.mem_filter.mpr ⟨List.mem_append_right _ (List.mem_append_right _ (List.mem_append_right _ (List.mem_append_right _ (List.mem_append_right _ (List.mem_append_right _ (List.mem_of_getElem? h)))))), g⟩
theorem q0 : Cond.selects "DigitBench$Root" (⟨"DigitBench$Root", "fillPowers", "()V"⟩ : MethodName) (⟨"DigitBench$Root", "fillPowers", "()V"⟩ : MethodName) ∈ AL := al_mk 0 (by decide +kernel) (by decide +kernel)
theorem q1 : Cond.selects "DigitBench$Root" (⟨"DigitBench$Root", "fillRowCounts", "()V"⟩ : MethodName) (⟨"DigitBench$Root", "fillRowCounts", "()V"⟩ : MethodName) ∈ AL := al_mk 1 (by decide +kernel) (by decide +kernel)
theorem q2 : Cond.selects "DigitBench$Ring" (⟨"DigitBench$Ring", "become", "(JJJ)V"⟩ : MethodName) (⟨"DigitBench$Ring", "become", "(JJJ)V"⟩ : MethodName) ∈ AL := al_mk 2 (by decide +kernel) (by decide +kernel)
theorem q3 : Cond.selects "DigitBench$Ring" (⟨"DigitBench$Ring", "keyOf", "(JJ)I"⟩ : MethodName) (⟨"DigitBench$Ring", "keyOf", "(JJ)I"⟩ : MethodName) ∈ AL := al_mk 3 (by decide +kernel) (by decide +kernel)
theorem q4 : Cond.selects "DigitBench$Ring" (⟨"DigitBench$Ring", "timesSideY", "(JJ)J"⟩ : MethodName) (⟨"DigitBench$Ring", "timesSideY", "(JJ)J"⟩ : MethodName) ∈ AL := al_mk 4 (by decide +kernel) (by decide +kernel)
theorem q5 : Cond.selects "DigitBench$Ring" (⟨"DigitBench$Ring", "timesSideZ", "(JJ)J"⟩ : MethodName) (⟨"DigitBench$Ring", "timesSideZ", "(JJ)J"⟩ : MethodName) ∈ AL := al_mk 5 (by decide +kernel) (by decide +kernel)
theorem q6 : Cond.selects "DigitBench$Ring" (⟨"DigitBench$Ring", "keepDigits", "()V"⟩ : MethodName) (⟨"DigitBench$Ring", "keepDigits", "()V"⟩ : MethodName) ∈ AL := al_mk 6 (by decide +kernel) (by decide +kernel)
theorem q7 : Cond.selects "DigitBench" (⟨"DigitBench", "hasNumber", "(I)Z"⟩ : MethodName) (⟨"DigitBench", "hasNumber", "(I)Z"⟩ : MethodName) ∈ AL := al_mk 7 (by decide +kernel) (by decide +kernel)
theorem q8 : Cond.selects "DigitBench" (⟨"DigitBench", "hasNumberFromZero", "(I)Z"⟩ : MethodName) (⟨"DigitBench", "hasNumberFromZero", "(I)Z"⟩ : MethodName) ∈ AL := al_mk 8 (by decide +kernel) (by decide +kernel)
theorem q9 : Cond.selects "DigitBench$Rest" (⟨"DigitBench$Rest", "holds", "(LDigitBench$Root;I)Z"⟩ : MethodName) (⟨"DigitBench$Rest", "holds", "(LDigitBench$Root;I)Z"⟩ : MethodName) ∈ AL := al_mk 9 (by decide +kernel) (by decide +kernel)
theorem q10 : Cond.selects "DigitBench$Told" (⟨"DigitBench$Told", "tellBehind", "(LDigitBench$Root;LDigitBench$Rest;LDigitBench$Trail;)V"⟩ : MethodName) (⟨"DigitBench$Told", "tellBehind", "(LDigitBench$Root;LDigitBench$Rest;LDigitBench$Trail;)V"⟩ : MethodName) ∈ AL := al_mk 10 (by decide +kernel) (by decide +kernel)
theorem q11 : Cond.selects "DigitBench$Told" (⟨"DigitBench$Told", "settle", "(III)V"⟩ : MethodName) (⟨"DigitBench$Told", "settle", "(III)V"⟩ : MethodName) ∈ AL := al_mk 11 (by decide +kernel) (by decide +kernel)
theorem q12 : Cond.selects "DigitBench$Trail" (⟨"DigitBench$Trail", "append", "(IJJ)V"⟩ : MethodName) (⟨"DigitBench$Trail", "append", "(IJJ)V"⟩ : MethodName) ∈ AL := al_mk 12 (by decide +kernel) (by decide +kernel)
theorem q13 : Cond.selects "DigitBench$RowValue" (⟨"DigitBench$RowValue", "addUpward", "(LDigitBench$Root;LDigitBench$Tape;II)Z"⟩ : MethodName) (⟨"DigitBench$RowValue", "addUpward", "(LDigitBench$Root;LDigitBench$Tape;II)Z"⟩ : MethodName) ∈ AL := al_mk 13 (by decide +kernel) (by decide +kernel)
theorem q14 : Cond.selects "DigitBench$RowValue" (⟨"DigitBench$RowValue", "addDownward", "(LDigitBench$Root;LDigitBench$Tape;II)Z"⟩ : MethodName) (⟨"DigitBench$RowValue", "addDownward", "(LDigitBench$Root;LDigitBench$Tape;II)Z"⟩ : MethodName) ∈ AL := al_mk 14 (by decide +kernel) (by decide +kernel)
theorem q15 : Cond.selects "DigitBench$RowValue" (⟨"DigitBench$RowValue", "addRound", "(LDigitBench$Root;LDigitBench$Tape;I)Z"⟩ : MethodName) (⟨"DigitBench$RowValue", "addRound", "(LDigitBench$Root;LDigitBench$Tape;I)Z"⟩ : MethodName) ∈ AL := al_mk 15 (by decide +kernel) (by decide +kernel)
theorem q16 : Cond.selects "DigitBench" (⟨"DigitBench", "firstAboveBar", "()I"⟩ : MethodName) (⟨"DigitBench", "firstAboveBar", "()I"⟩ : MethodName) ∈ AL := al_mk 16 (by decide +kernel) (by decide +kernel)
theorem q17 : Cond.selects "DigitBench" (⟨"DigitBench", "isAboveBar", "(I)Z"⟩ : MethodName) (⟨"DigitBench", "isAboveBar", "(I)Z"⟩ : MethodName) ∈ AL := al_mk 17 (by decide +kernel) (by decide +kernel)
theorem q18 : Cond.selects "DigitBench$Ring" (⟨"DigitBench$Ring", "fillKeys", "(LDigitBench$Tape;)Z"⟩ : MethodName) (⟨"DigitBench$Ring", "fillKeys", "(LDigitBench$Tape;)Z"⟩ : MethodName) ∈ AL := al_mk 18 (by decide +kernel) (by decide +kernel)
theorem q19 : Cond.selects "DigitBench$Ring" (⟨"DigitBench$Ring", "zOf", "(LDigitBench$Tape;I)I"⟩ : MethodName) (⟨"DigitBench$Ring", "zOf", "(LDigitBench$Tape;I)I"⟩ : MethodName) ∈ AL := al_mk 19 (by decide +kernel) (by decide +kernel)
theorem q20 : Cond.selects "DigitBench$Walk" (⟨"DigitBench$Walk", "settle", "(III)V"⟩ : MethodName) (⟨"DigitBench$Walk", "settle", "(III)V"⟩ : MethodName) ∈ AL := al_mk 20 (by decide +kernel) (by decide +kernel)
theorem q21 : Cond.selects "DigitBench" (⟨"DigitBench", "surveyAll", "(I)Z"⟩ : MethodName) (⟨"DigitBench", "surveyAll", "(I)Z"⟩ : MethodName) ∈ AL := al_mk 21 (by decide +kernel) (by decide +kernel)
theorem q22 : Cond.selects "DigitBench" (⟨"DigitBench", "noteOutcome", "()V"⟩ : MethodName) (⟨"DigitBench", "noteOutcome", "()V"⟩ : MethodName) ∈ AL := al_mk 22 (by decide +kernel) (by decide +kernel)
theorem q23 : Cond.selects "DigitBench$RoundList" (⟨"DigitBench$RoundList", "isLess", "(III)Z"⟩ : MethodName) (⟨"DigitBench$RoundList", "isLess", "(III)Z"⟩ : MethodName) ∈ AL := al_mk 23 (by decide +kernel) (by decide +kernel)
theorem q24 : Cond.selects "DigitBench" (⟨"DigitBench", "numbersThere", "()I"⟩ : MethodName) (⟨"DigitBench", "numbersThere", "()I"⟩ : MethodName) ∈ AL := al_mk 24 (by decide +kernel) (by decide +kernel)
theorem q25 : Cond.selects "java/lang/Throwable" (⟨"java/lang/Throwable", "fillInStackTrace", "(I)Ljava/lang/Throwable;"⟩ : MethodName) (⟨"java/lang/Throwable", "fillInStackTrace", "(I)Ljava/lang/Throwable;"⟩ : MethodName) ∈ AL := al_mk 25 (by decide +kernel) (by decide +kernel)
theorem q26 : Cond.selects "DigitBenchModel" (⟨"DigitBenchModel", "four", "(I)V"⟩ : MethodName) (⟨"DigitBenchModel", "four", "(I)V"⟩ : MethodName) ∈ AL := al_mk 26 (by decide +kernel) (by decide +kernel)
theorem q27 : Cond.selects "DigitBenchModel" (⟨"DigitBenchModel", "set", "(JJJ)V"⟩ : MethodName) (⟨"DigitBenchModel", "set", "(JJJ)V"⟩ : MethodName) ∈ AL := al_mk 27 (by decide +kernel) (by decide +kernel)
theorem q28 : Cond.selects "DigitBenchModel" (⟨"DigitBenchModel", "put", "(I)Z"⟩ : MethodName) (⟨"DigitBenchModel", "put", "(I)Z"⟩ : MethodName) ∈ AL := al_mk 28 (by decide +kernel) (by decide +kernel)
theorem q29 : Cond.selects "DigitBenchModel" (⟨"DigitBenchModel", "isNumber", "()Z"⟩ : MethodName) (⟨"DigitBenchModel", "isNumber", "()Z"⟩ : MethodName) ∈ AL := al_mk 29 (by decide +kernel) (by decide +kernel)
theorem q30 : Cond.selects "DigitBenchModel" (⟨"DigitBenchModel", "isThere", "(I)Z"⟩ : MethodName) (⟨"DigitBenchModel", "isThere", "(I)Z"⟩ : MethodName) ∈ AL := al_mk 30 (by decide +kernel) (by decide +kernel)
theorem q31 : Cond.selects "DigitBenchModel" (⟨"DigitBenchModel", "plus", "(JJJ)V"⟩ : MethodName) (⟨"DigitBenchModel", "plus", "(JJJ)V"⟩ : MethodName) ∈ AL := al_mk 31 (by decide +kernel) (by decide +kernel)
theorem q32 : Cond.selects "DigitBenchModel" (⟨"DigitBenchModel", "times", "(JJJ)V"⟩ : MethodName) (⟨"DigitBenchModel", "times", "(JJJ)V"⟩ : MethodName) ∈ AL := al_mk 32 (by decide +kernel) (by decide +kernel)
theorem q33 : Cond.selects "DigitBenchModel" (⟨"DigitBenchModel", "by", "(JJJ)V"⟩ : MethodName) (⟨"DigitBenchModel", "by", "(JJJ)V"⟩ : MethodName) ∈ AL := al_mk 33 (by decide +kernel) (by decide +kernel)
theorem q34 : Cond.selects "DigitBenchModel" (⟨"DigitBenchModel", "throwsIf", "(Z)Z"⟩ : MethodName) (⟨"DigitBenchModel", "throwsIf", "(Z)Z"⟩ : MethodName) ∈ AL := al_mk 34 (by decide +kernel) (by decide +kernel)
theorem q35 : Cond.selects "DigitBenchModel" (⟨"DigitBenchModel", "sign", "(JJ)I"⟩ : MethodName) (⟨"DigitBenchModel", "sign", "(JJ)I"⟩ : MethodName) ∈ AL := al_mk 35 (by decide +kernel) (by decide +kernel)
theorem q36 : Cond.selects "DigitBenchModel" (⟨"DigitBenchModel", "floorOf", "(JJJ)J"⟩ : MethodName) (⟨"DigitBenchModel", "floorOf", "(JJJ)J"⟩ : MethodName) ∈ AL := al_mk 36 (by decide +kernel) (by decide +kernel)
theorem q37 : Cond.selects "DigitBenchModel" (⟨"DigitBenchModel", "whole", "(JJJ)V"⟩ : MethodName) (⟨"DigitBenchModel", "whole", "(JJJ)V"⟩ : MethodName) ∈ AL := al_mk 37 (by decide +kernel) (by decide +kernel)
theorem q38 : Cond.selects "DigitBenchModel" (⟨"DigitBenchModel", "taken", "()I"⟩ : MethodName) (⟨"DigitBenchModel", "taken", "()I"⟩ : MethodName) ∈ AL := al_mk 38 (by decide +kernel) (by decide +kernel)
theorem q39 : Cond.selects "DigitBenchModel" (⟨"DigitBenchModel", "summed", "(III)Z"⟩ : MethodName) (⟨"DigitBenchModel", "summed", "(III)Z"⟩ : MethodName) ∈ AL := al_mk 39 (by decide +kernel) (by decide +kernel)
theorem q40 : Cond.selects "DigitBenchModel" (⟨"DigitBenchModel", "power", "(I)Z"⟩ : MethodName) (⟨"DigitBenchModel", "power", "(I)Z"⟩ : MethodName) ∈ AL := al_mk 40 (by decide +kernel) (by decide +kernel)
theorem q41 : Cond.selects "DigitBenchModel" (⟨"DigitBenchModel", "bar", "(I)I"⟩ : MethodName) (⟨"DigitBenchModel", "bar", "(I)I"⟩ : MethodName) ∈ AL := al_mk 41 (by decide +kernel) (by decide +kernel)
theorem q42 : Cond.selects "DigitBenchModel" (⟨"DigitBenchModel", "count0", "(I)V"⟩ : MethodName) (⟨"DigitBenchModel", "count0", "(I)V"⟩ : MethodName) ∈ AL := al_mk 42 (by decide +kernel) (by decide +kernel)
theorem q43 : Cond.selects "DigitBenchModel" (⟨"DigitBenchModel", "divides", "(JJ)Z"⟩ : MethodName) (⟨"DigitBenchModel", "divides", "(JJ)Z"⟩ : MethodName) ∈ AL := al_mk 43 (by decide +kernel) (by decide +kernel)
theorem q44 : Cond.selects "DigitBenchModel" (⟨"DigitBenchModel", "walk", "(II)V"⟩ : MethodName) (⟨"DigitBenchModel", "walk", "(II)V"⟩ : MethodName) ∈ AL := al_mk 44 (by decide +kernel) (by decide +kernel)
theorem q45 : Cond.selects "DigitBenchModel" (⟨"DigitBenchModel", "all", "(I)Z"⟩ : MethodName) (⟨"DigitBenchModel", "all", "(I)Z"⟩ : MethodName) ∈ AL := al_mk 45 (by decide +kernel) (by decide +kernel)
theorem q46 : Cond.selects "DigitBenchModel" (⟨"DigitBenchModel", "keep", "()V"⟩ : MethodName) (⟨"DigitBenchModel", "keep", "()V"⟩ : MethodName) ∈ AL := al_mk 46 (by decide +kernel) (by decide +kernel)
theorem q47 : Cond.initialized "DigitBenchLaw" ∈ AL := al_t1 0 rfl rfl
theorem q48 : Cond.initialized "DigitBench" ∈ AL := al_t1 1 rfl rfl
theorem q49 : Cond.initialized "DigitBench$Tape" ∈ AL := al_t1 2 rfl rfl
theorem q50 : Cond.initialized "DigitBench$Root" ∈ AL := al_t1 3 rfl rfl
theorem q51 : Cond.initialized "DigitBench$Num" ∈ AL := al_t1 4 rfl rfl
theorem q52 : Cond.initialized "DigitBench$Rest" ∈ AL := al_t1 5 rfl rfl
theorem q53 : Cond.initialized "DigitBench$Told" ∈ AL := al_t1 6 rfl rfl
theorem q54 : Cond.initialized "DigitBench$RowValue" ∈ AL := al_t1 7 rfl rfl
theorem q55 : Cond.initialized "DigitBench$Sum" ∈ AL := al_t1 8 rfl rfl
theorem q56 : Cond.initialized "DigitBench$Trail" ∈ AL := al_t1 9 rfl rfl
theorem q57 : Cond.initialized "DigitBench$Ring" ∈ AL := al_t1 10 rfl rfl
theorem q58 : Cond.initialized "java/lang/Math" ∈ AL := al_t1 11 rfl rfl
theorem q59 : Cond.initialized "DigitBench$Walk" ∈ AL := al_t1 12 rfl rfl
theorem q60 : Cond.initialized "DigitBench$RoundList" ∈ AL := al_t1 13 rfl rfl
theorem q61 : Cond.initialized "DigitBenchModel" ∈ AL := al_t1 14 rfl rfl
theorem q62 : Cond.initialized "java/lang/Throwable" ∈ AL := al_t1 15 rfl rfl
theorem q63 : Cond.initialized "java/lang/Exception" ∈ AL := al_t1 16 rfl rfl
theorem q64 : Cond.initialized "java/lang/RuntimeException" ∈ AL := al_t1 17 rfl rfl
theorem q65 : Cond.initialized "java/util/NoSuchElementException" ∈ AL := al_t1 18 rfl rfl
theorem q66 : Cond.classLink "DigitBenchLaw" 8 "DigitBench" ∈ AL := al_t1 19 rfl rfl
theorem q67 : Cond.instantiable "DigitBench" 13 ∈ AL := al_t1 20 rfl rfl
theorem q68 : Cond.methodLink "DigitBenchLaw" 29 (⟨"DigitBench", "<init>", "()V"⟩ : MethodName) ∈ AL := al_t1 21 rfl rfl
theorem q69 : Cond.instanceMethod (⟨"DigitBench", "<init>", "()V"⟩ : MethodName) ∈ AL := al_t1 22 rfl rfl
theorem q70 : Cond.code (⟨"DigitBench", "<init>", "()V"⟩ : MethodName) prog_1_method_1_code 2 (Option.none : Option FieldType) ∈ AL := al_t1 23 rfl rfl
theorem q71 : Cond.methodLink "DigitBench" 1 (⟨"java/lang/Object", "<init>", "()V"⟩ : MethodName) ∈ AL := al_t1 24 rfl rfl
theorem q72 : Cond.instanceMethod (⟨"java/lang/Object", "<init>", "()V"⟩ : MethodName) ∈ AL := al_t1 25 rfl rfl
theorem q73 : Cond.code (⟨"java/lang/Object", "<init>", "()V"⟩ : MethodName) object_method_1_code 1 (Option.none : Option FieldType) ∈ AL := al_t1 26 rfl rfl
theorem q74 : Cond.classLink "DigitBench" 7 "DigitBench$Tape" ∈ AL := al_t1 27 rfl rfl
theorem q75 : Cond.instantiable "DigitBench$Tape" 2 ∈ AL := al_t1 28 rfl rfl
theorem q77 : Cond.instanceMethod (⟨"DigitBench$Tape", "<init>", "()V"⟩ : MethodName) ∈ AL := al_t1 30 rfl rfl
theorem q78 : Cond.code (⟨"DigitBench$Tape", "<init>", "()V"⟩ : MethodName) prog_9_method_1_code 1 (Option.none : Option FieldType) ∈ AL := al_t1 31 rfl rfl
theorem q79 : Cond.methodLink "DigitBench$Tape" 1 (⟨"java/lang/Object", "<init>", "()V"⟩ : MethodName) ∈ AL := al_t1 32 rfl rfl
theorem q80 : Cond.fieldLink "DigitBench$Tape" 9 "DigitBench$Tape" "bytes" "[B" ∈ AL := al_t1 33 rfl rfl
theorem q81 : Cond.fieldLink "DigitBench$Tape" 13 "DigitBench$Tape" "size" "I" ∈ AL := al_t1 34 rfl rfl
theorem q82 : Cond.fieldLink "DigitBench$RowValue" 38 "DigitBench$Tape" "size" "I" ∈ AL := al_t1 35 rfl rfl
theorem q83 : Cond.fieldLink "DigitBench" 93 "DigitBench$Tape" "size" "I" ∈ AL := al_t1 36 rfl rfl
theorem q84 : Cond.fieldLink "DigitBench$Ring" 81 "DigitBench$Tape" "size" "I" ∈ AL := al_t1 37 rfl rfl
theorem q85 : Cond.laysFinal "DigitBench$Tape" "DigitBench$Tape" "bytes" "[B" ∈ AL := al_t1 38 rfl rfl
theorem q87 : Cond.lays "DigitBench$Tape" "DigitBench$Tape" "size" "I" ∈ AL := al_t1 40 rfl rfl
theorem q90 : Cond.arrayClass FieldType.byte ∈ AL := al_t1 43 rfl rfl
theorem q91 : Cond.classLink "DigitBench" 16 "DigitBench$Root" ∈ AL := al_t1 44 rfl rfl
theorem q92 : Cond.instantiable "DigitBench$Root" 8 ∈ AL := al_t1 45 rfl rfl
theorem q93 : Cond.methodLink "DigitBench" 18 (⟨"DigitBench$Root", "<init>", "()V"⟩ : MethodName) ∈ AL := al_t1 46 rfl rfl
theorem q94 : Cond.instanceMethod (⟨"DigitBench$Root", "<init>", "()V"⟩ : MethodName) ∈ AL := al_t1 47 rfl rfl
theorem q95 : Cond.code (⟨"DigitBench$Root", "<init>", "()V"⟩ : MethodName) prog_5_method_1_code 1 (Option.none : Option FieldType) ∈ AL := al_t1 48 rfl rfl
theorem q96 : Cond.methodLink "DigitBench$Root" 3 (⟨"java/lang/Object", "<init>", "()V"⟩ : MethodName) ∈ AL := al_t1 49 rfl rfl
theorem q97 : Cond.methodLink "DigitBench$Root" 21 (⟨"DigitBench$Root", "change", "(II)Z"⟩ : MethodName) ∈ AL := al_t1 50 rfl rfl
theorem q98 : Cond.instanceMethod (⟨"DigitBench$Root", "change", "(II)Z"⟩ : MethodName) ∈ AL := al_t1 51 rfl rfl
theorem q99 : Cond.selects "DigitBench$Root" (⟨"DigitBench$Root", "change", "(II)Z"⟩ : MethodName) (⟨"DigitBench$Root", "change", "(II)Z"⟩ : MethodName) ∈ AL := al_t1 52 rfl rfl
theorem q100 : Cond.code (⟨"DigitBench$Root", "change", "(II)Z"⟩ : MethodName) prog_5_method_2_code 3 (Option.some FieldType.boolean) ∈ AL := al_t1 53 rfl rfl
theorem q101 : Cond.constantLong "DigitBench$Root" 32 (4 : Int64) ∈ AL := al_t1 54 rfl rfl
theorem q102 : Cond.methodLink "DigitBench$Root" 38 (⟨"DigitBench$Root", "fillPowers", "()V"⟩ : MethodName) ∈ AL := al_t1 55 rfl rfl
theorem q104 : Cond.instanceMethod (⟨"DigitBench$Root", "fillPowers", "()V"⟩ : MethodName) ∈ AL := al_t1 57 rfl rfl
theorem q105 : Cond.code (⟨"DigitBench$Root", "fillPowers", "()V"⟩ : MethodName) prog_5_method_3_code 2 (Option.none : Option FieldType) ∈ AL := al_t1 58 rfl rfl
theorem q106 : Cond.constantLong "DigitBench$Root" 47 (1000000 : Int64) ∈ AL := al_t1 59 rfl rfl
theorem q107 : Cond.methodLink "DigitBench$Root" 41 (⟨"DigitBench$Root", "fillRowCounts", "()V"⟩ : MethodName) ∈ AL := al_t1 60 rfl rfl
theorem q109 : Cond.instanceMethod (⟨"DigitBench$Root", "fillRowCounts", "()V"⟩ : MethodName) ∈ AL := al_t1 62 rfl rfl
theorem q110 : Cond.code (⟨"DigitBench$Root", "fillRowCounts", "()V"⟩ : MethodName) prog_5_method_4_code 2 (Option.none : Option FieldType) ∈ AL := al_t1 63 rfl rfl
theorem q111 : Cond.methodLink "DigitBench$Root" 49 (⟨"DigitBench$Root", "top", "()I"⟩ : MethodName) ∈ AL := al_t1 64 rfl rfl
theorem q112 : Cond.instanceMethod (⟨"DigitBench$Root", "top", "()I"⟩ : MethodName) ∈ AL := al_t1 65 rfl rfl
theorem q113 : Cond.selects "DigitBench$Root" (⟨"DigitBench$Root", "top", "()I"⟩ : MethodName) (⟨"DigitBench$Root", "top", "()I"⟩ : MethodName) ∈ AL := al_t1 66 rfl rfl
theorem q114 : Cond.code (⟨"DigitBench$Root", "top", "()I"⟩ : MethodName) prog_5_method_5_code 1 (Option.some FieldType.int) ∈ AL := al_t1 67 rfl rfl
theorem q115 : Cond.fieldLink "DigitBench$Root" 25 "DigitBench$Root" "a" "I" ∈ AL := al_t1 68 rfl rfl
theorem q116 : Cond.fieldLink "DigitBench$Rest" 52 "DigitBench$Root" "a" "I" ∈ AL := al_t1 69 rfl rfl
theorem q117 : Cond.fieldLink "DigitBench" 277 "DigitBench$Root" "a" "I" ∈ AL := al_t1 70 rfl rfl
theorem q118 : Cond.fieldLink "DigitBench$Root" 29 "DigitBench$Root" "b" "I" ∈ AL := al_t1 71 rfl rfl
theorem q119 : Cond.fieldLink "DigitBench$Rest" 49 "DigitBench$Root" "b" "I" ∈ AL := al_t1 72 rfl rfl
theorem q120 : Cond.fieldLink "DigitBench" 280 "DigitBench$Root" "b" "I" ∈ AL := al_t1 73 rfl rfl
theorem q121 : Cond.fieldLink "DigitBench$Root" 34 "DigitBench$Root" "square" "J" ∈ AL := al_t1 74 rfl rfl
theorem q122 : Cond.fieldLink "DigitBench$Root" 11 "DigitBench$Root" "powerU" "[J" ∈ AL := al_t1 75 rfl rfl
theorem q123 : Cond.fieldLink "DigitBench$Rest" 34 "DigitBench$Root" "powerU" "[J" ∈ AL := al_t1 76 rfl rfl
theorem q124 : Cond.fieldLink "DigitBench$Root" 15 "DigitBench$Root" "powerV" "[J" ∈ AL := al_t1 77 rfl rfl
theorem q125 : Cond.fieldLink "DigitBench$Rest" 38 "DigitBench$Root" "powerV" "[J" ∈ AL := al_t1 78 rfl rfl
theorem q126 : Cond.fieldLink "DigitBench$Root" 18 "DigitBench$Root" "rowCounts" "[J" ∈ AL := al_t1 79 rfl rfl
theorem q127 : Cond.fieldLink "DigitBench$Root" 44 "DigitBench$Root" "powers" "I" ∈ AL := al_t1 80 rfl rfl
theorem q128 : Cond.fieldLink "DigitBench$Rest" 24 "DigitBench$Root" "powers" "I" ∈ AL := al_t1 81 rfl rfl
theorem q129 : Cond.fieldLink "DigitBench$Root" 53 "DigitBench$Root" "counted" "I" ∈ AL := al_t1 82 rfl rfl
theorem q130 : Cond.lays "DigitBench$Root" "DigitBench$Root" "a" "I" ∈ AL := al_t1 83 rfl rfl
theorem q132 : Cond.lays "DigitBench$Root" "DigitBench$Root" "b" "I" ∈ AL := al_t1 85 rfl rfl
theorem q134 : Cond.lays "DigitBench$Root" "DigitBench$Root" "square" "J" ∈ AL := al_t1 87 rfl rfl
theorem q136 : Cond.laysFinal "DigitBench$Root" "DigitBench$Root" "powerU" "[J" ∈ AL := al_t1 89 rfl rfl
theorem q138 : Cond.laysFinal "DigitBench$Root" "DigitBench$Root" "powerV" "[J" ∈ AL := al_t1 91 rfl rfl
theorem q140 : Cond.laysFinal "DigitBench$Root" "DigitBench$Root" "rowCounts" "[J" ∈ AL := al_t1 93 rfl rfl
theorem q142 : Cond.lays "DigitBench$Root" "DigitBench$Root" "powers" "I" ∈ AL := al_t1 95 rfl rfl
theorem q144 : Cond.lays "DigitBench$Root" "DigitBench$Root" "counted" "I" ∈ AL := al_t1 97 rfl rfl
theorem q147 : Cond.arrayClass FieldType.long ∈ AL := al_t1 100 rfl rfl
theorem q148 : Cond.classLink "DigitBench" 23 "DigitBench$Num" ∈ AL := al_t1 101 rfl rfl
theorem q150 : Cond.instantiable "DigitBench$Num" 4 ∈ AL := al_t1 103 rfl rfl
theorem q152 : Cond.instanceMethod (⟨"DigitBench$Num", "<init>", "()V"⟩ : MethodName) ∈ AL := al_t1 105 rfl rfl
theorem q153 : Cond.code (⟨"DigitBench$Num", "<init>", "()V"⟩ : MethodName) prog_2_method_1_code 1 (Option.none : Option FieldType) ∈ AL := al_t1 106 rfl rfl
theorem q154 : Cond.methodLink "DigitBench$Num" 1 (⟨"java/lang/Object", "<init>", "()V"⟩ : MethodName) ∈ AL := al_t1 107 rfl rfl
theorem q155 : Cond.fieldLink "DigitBench$Num" 33 "DigitBench$Num" "there" "Z" ∈ AL := al_t1 108 rfl rfl
theorem q156 : Cond.fieldLink "DigitBench" 101 "DigitBench$Num" "there" "Z" ∈ AL := al_t1 109 rfl rfl
theorem q157 : Cond.fieldLink "DigitBench$Rest" 13 "DigitBench$Num" "u" "J" ∈ AL := al_t1 110 rfl rfl
theorem q158 : Cond.fieldLink "DigitBench$Num" 27 "DigitBench$Num" "u" "J" ∈ AL := al_t1 111 rfl rfl
theorem q159 : Cond.fieldLink "DigitBench$Sum" 22 "DigitBench$Num" "u" "J" ∈ AL := al_t1 112 rfl rfl
theorem q160 : Cond.fieldLink "DigitBench$RowValue" 81 "DigitBench$Num" "u" "J" ∈ AL := al_t1 113 rfl rfl
theorem q161 : Cond.fieldLink "DigitBench" 137 "DigitBench$Num" "u" "J" ∈ AL := al_t1 114 rfl rfl
theorem q162 : Cond.fieldLink "DigitBench$Root" 74 "DigitBench$Num" "u" "J" ∈ AL := al_t1 115 rfl rfl
theorem q163 : Cond.fieldLink "DigitBench$Rest" 19 "DigitBench$Num" "v" "J" ∈ AL := al_t1 116 rfl rfl
theorem q164 : Cond.fieldLink "DigitBench$Num" 30 "DigitBench$Num" "v" "J" ∈ AL := al_t1 117 rfl rfl
theorem q165 : Cond.fieldLink "DigitBench$Sum" 23 "DigitBench$Num" "v" "J" ∈ AL := al_t1 118 rfl rfl
theorem q166 : Cond.fieldLink "DigitBench$RowValue" 83 "DigitBench$Num" "v" "J" ∈ AL := al_t1 119 rfl rfl
theorem q167 : Cond.fieldLink "DigitBench" 141 "DigitBench$Num" "v" "J" ∈ AL := al_t1 120 rfl rfl
theorem q168 : Cond.fieldLink "DigitBench$Root" 62 "DigitBench$Num" "v" "J" ∈ AL := al_t1 121 rfl rfl
theorem q169 : Cond.fieldLink "DigitBench$Num" 7 "DigitBench$Num" "d" "J" ∈ AL := al_t1 122 rfl rfl
theorem q170 : Cond.fieldLink "DigitBench$Rest" 23 "DigitBench$Num" "d" "J" ∈ AL := al_t1 123 rfl rfl
theorem q171 : Cond.fieldLink "DigitBench$Sum" 19 "DigitBench$Num" "d" "J" ∈ AL := al_t1 124 rfl rfl
theorem q172 : Cond.fieldLink "DigitBench$RowValue" 82 "DigitBench$Num" "d" "J" ∈ AL := al_t1 125 rfl rfl
theorem q173 : Cond.fieldLink "DigitBench" 144 "DigitBench$Num" "d" "J" ∈ AL := al_t1 126 rfl rfl
theorem q174 : Cond.fieldLink "DigitBench$Root" 71 "DigitBench$Num" "d" "J" ∈ AL := al_t1 127 rfl rfl
theorem q175 : Cond.lays "DigitBench$Num" "DigitBench$Num" "there" "Z" ∈ AL := al_t1 128 rfl rfl
theorem q177 : Cond.lays "DigitBench$Num" "DigitBench$Num" "u" "J" ∈ AL := al_t1 130 rfl rfl
theorem q179 : Cond.lays "DigitBench$Num" "DigitBench$Num" "v" "J" ∈ AL := al_t1 132 rfl rfl
theorem q181 : Cond.lays "DigitBench$Num" "DigitBench$Num" "d" "J" ∈ AL := al_t1 134 rfl rfl
theorem q184 : Cond.classLink "DigitBench" 30 "DigitBench$Rest" ∈ AL := al_t1 137 rfl rfl
theorem q185 : Cond.instantiable "DigitBench$Rest" 3 ∈ AL := al_t1 138 rfl rfl
theorem q187 : Cond.instanceMethod (⟨"DigitBench$Rest", "<init>", "()V"⟩ : MethodName) ∈ AL := al_t1 140 rfl rfl
theorem q188 : Cond.code (⟨"DigitBench$Rest", "<init>", "()V"⟩ : MethodName) prog_3_method_1_code 1 (Option.none : Option FieldType) ∈ AL := al_t1 141 rfl rfl
theorem q189 : Cond.methodLink "DigitBench$Rest" 1 (⟨"java/lang/Object", "<init>", "()V"⟩ : MethodName) ∈ AL := al_t1 142 rfl rfl
theorem q190 : Cond.fieldLink "DigitBench$Rest" 18 "DigitBench$Rest" "u" "J" ∈ AL := al_t1 143 rfl rfl
theorem q191 : Cond.fieldLink "DigitBench$Told" 64 "DigitBench$Rest" "u" "J" ∈ AL := al_t1 144 rfl rfl
theorem q192 : Cond.fieldLink "DigitBench$Rest" 22 "DigitBench$Rest" "v" "J" ∈ AL := al_t1 145 rfl rfl
theorem q193 : Cond.fieldLink "DigitBench$Told" 68 "DigitBench$Rest" "v" "J" ∈ AL := al_t1 146 rfl rfl
theorem q194 : Cond.fieldLink "DigitBench$Rest" 7 "DigitBench$Rest" "d" "J" ∈ AL := al_t1 147 rfl rfl
theorem q195 : Cond.lays "DigitBench$Rest" "DigitBench$Rest" "u" "J" ∈ AL := al_t1 148 rfl rfl
theorem q197 : Cond.lays "DigitBench$Rest" "DigitBench$Rest" "v" "J" ∈ AL := al_t1 150 rfl rfl
theorem q199 : Cond.lays "DigitBench$Rest" "DigitBench$Rest" "d" "J" ∈ AL := al_t1 152 rfl rfl
theorem q202 : Cond.classLink "DigitBench" 37 "DigitBench$Told" ∈ AL := al_t1 155 rfl rfl
theorem q203 : Cond.instantiable "DigitBench$Told" 6 ∈ AL := al_t1 156 rfl rfl
theorem q205 : Cond.instanceMethod (⟨"DigitBench$Told", "<init>", "()V"⟩ : MethodName) ∈ AL := al_t1 158 rfl rfl
theorem q206 : Cond.code (⟨"DigitBench$Told", "<init>", "()V"⟩ : MethodName) prog_10_method_1_code 1 (Option.none : Option FieldType) ∈ AL := al_t1 159 rfl rfl
theorem q207 : Cond.methodLink "DigitBench$Told" 3 (⟨"java/lang/Object", "<init>", "()V"⟩ : MethodName) ∈ AL := al_t1 160 rfl rfl
theorem q208 : Cond.fieldLink "DigitBench$Told" 11 "DigitBench$Told" "front" "[I" ∈ AL := al_t1 161 rfl rfl
theorem q209 : Cond.fieldLink "DigitBench$Told" 17 "DigitBench$Told" "behind" "[I" ∈ AL := al_t1 162 rfl rfl
theorem q210 : Cond.fieldLink "DigitBench$Told" 20 "DigitBench$Told" "kind" "I" ∈ AL := al_t1 163 rfl rfl
theorem q211 : Cond.fieldLink "DigitBench" 105 "DigitBench$Told" "kind" "I" ∈ AL := al_t1 164 rfl rfl
theorem q212 : Cond.fieldLink "DigitBench$Told" 40 "DigitBench$Told" "top" "I" ∈ AL := al_t1 165 rfl rfl
theorem q213 : Cond.fieldLink "DigitBench" 164 "DigitBench$Told" "top" "I" ∈ AL := al_t1 166 rfl rfl
theorem q214 : Cond.fieldLink "DigitBench$Told" 79 "DigitBench$Told" "ahead" "I" ∈ AL := al_t1 167 rfl rfl
theorem q215 : Cond.fieldLink "DigitBench" 167 "DigitBench$Told" "ahead" "I" ∈ AL := al_t1 168 rfl rfl
theorem q216 : Cond.fieldLink "DigitBench$Told" 82 "DigitBench$Told" "length" "I" ∈ AL := al_t1 169 rfl rfl
theorem q217 : Cond.fieldLink "DigitBench" 170 "DigitBench$Told" "length" "I" ∈ AL := al_t1 170 rfl rfl
theorem q218 : Cond.laysFinal "DigitBench$Told" "DigitBench$Told" "front" "[I" ∈ AL := al_t1 171 rfl rfl
theorem q220 : Cond.laysFinal "DigitBench$Told" "DigitBench$Told" "behind" "[I" ∈ AL := al_t1 173 rfl rfl
theorem q222 : Cond.lays "DigitBench$Told" "DigitBench$Told" "kind" "I" ∈ AL := al_t1 175 rfl rfl
theorem q224 : Cond.lays "DigitBench$Told" "DigitBench$Told" "top" "I" ∈ AL := al_t1 177 rfl rfl
theorem q226 : Cond.lays "DigitBench$Told" "DigitBench$Told" "ahead" "I" ∈ AL := al_t1 179 rfl rfl
theorem q228 : Cond.lays "DigitBench$Told" "DigitBench$Told" "length" "I" ∈ AL := al_t1 181 rfl rfl
theorem q231 : Cond.arrayClass FieldType.int ∈ AL := al_t1 184 rfl rfl
theorem q232 : Cond.classLink "DigitBench" 44 "DigitBench$RowValue" ∈ AL := al_t1 185 rfl rfl
theorem q233 : Cond.instantiable "DigitBench$RowValue" 7 ∈ AL := al_t1 186 rfl rfl
theorem q235 : Cond.instanceMethod (⟨"DigitBench$RowValue", "<init>", "()V"⟩ : MethodName) ∈ AL := al_t1 188 rfl rfl
theorem q236 : Cond.code (⟨"DigitBench$RowValue", "<init>", "()V"⟩ : MethodName) prog_7_method_1_code 1 (Option.none : Option FieldType) ∈ AL := al_t1 189 rfl rfl
theorem q237 : Cond.methodLink "DigitBench$RowValue" 1 (⟨"java/lang/Object", "<init>", "()V"⟩ : MethodName) ∈ AL := al_t1 190 rfl rfl
theorem q238 : Cond.classLink "DigitBench$RowValue" 7 "DigitBench$Num" ∈ AL := al_t1 191 rfl rfl
theorem q240 : Cond.classLink "DigitBench$RowValue" 31 "DigitBench$Sum" ∈ AL := al_t1 193 rfl rfl
theorem q241 : Cond.instantiable "DigitBench$Sum" 3 ∈ AL := al_t1 194 rfl rfl
theorem q243 : Cond.instanceMethod (⟨"DigitBench$Sum", "<init>", "()V"⟩ : MethodName) ∈ AL := al_t1 196 rfl rfl
theorem q244 : Cond.code (⟨"DigitBench$Sum", "<init>", "()V"⟩ : MethodName) prog_8_method_1_code 1 (Option.none : Option FieldType) ∈ AL := al_t1 197 rfl rfl
theorem q245 : Cond.methodLink "DigitBench$Sum" 1 (⟨"java/lang/Object", "<init>", "()V"⟩ : MethodName) ∈ AL := al_t1 198 rfl rfl
theorem q246 : Cond.fieldLink "DigitBench$Sum" 13 "DigitBench$Sum" "u" "J" ∈ AL := al_t1 199 rfl rfl
theorem q247 : Cond.fieldLink "DigitBench$RowValue" 54 "DigitBench$Sum" "u" "J" ∈ AL := al_t1 200 rfl rfl
theorem q248 : Cond.fieldLink "DigitBench$Sum" 16 "DigitBench$Sum" "v" "J" ∈ AL := al_t1 201 rfl rfl
theorem q249 : Cond.fieldLink "DigitBench$RowValue" 58 "DigitBench$Sum" "v" "J" ∈ AL := al_t1 202 rfl rfl
theorem q250 : Cond.fieldLink "DigitBench$Sum" 7 "DigitBench$Sum" "d" "J" ∈ AL := al_t1 203 rfl rfl
theorem q251 : Cond.fieldLink "DigitBench$RowValue" 61 "DigitBench$Sum" "d" "J" ∈ AL := al_t1 204 rfl rfl
theorem q252 : Cond.lays "DigitBench$Sum" "DigitBench$Sum" "u" "J" ∈ AL := al_t1 205 rfl rfl
theorem q254 : Cond.lays "DigitBench$Sum" "DigitBench$Sum" "v" "J" ∈ AL := al_t1 207 rfl rfl
theorem q256 : Cond.lays "DigitBench$Sum" "DigitBench$Sum" "d" "J" ∈ AL := al_t1 209 rfl rfl
theorem q259 : Cond.fieldLink "DigitBench$RowValue" 10 "DigitBench$RowValue" "power" "LDigitBench$Num;" ∈ AL := al_t1 212 rfl rfl
theorem q260 : Cond.fieldLink "DigitBench$RowValue" 16 "DigitBench$RowValue" "head" "LDigitBench$Num;" ∈ AL := al_t1 213 rfl rfl
theorem q261 : Cond.fieldLink "DigitBench$RowValue" 19 "DigitBench$RowValue" "shift" "LDigitBench$Num;" ∈ AL := al_t1 214 rfl rfl
theorem q262 : Cond.fieldLink "DigitBench$RowValue" 22 "DigitBench$RowValue" "tail" "LDigitBench$Num;" ∈ AL := al_t1 215 rfl rfl
theorem q263 : Cond.fieldLink "DigitBench$RowValue" 25 "DigitBench$RowValue" "divisor" "LDigitBench$Num;" ∈ AL := al_t1 216 rfl rfl
theorem q264 : Cond.fieldLink "DigitBench$RowValue" 28 "DigitBench$RowValue" "result" "LDigitBench$Num;" ∈ AL := al_t1 217 rfl rfl
theorem q265 : Cond.fieldLink "DigitBench" 181 "DigitBench$RowValue" "result" "LDigitBench$Num;" ∈ AL := al_t1 218 rfl rfl
theorem q266 : Cond.fieldLink "DigitBench$RowValue" 34 "DigitBench$RowValue" "sum" "LDigitBench$Sum;" ∈ AL := al_t1 219 rfl rfl
theorem q267 : Cond.laysFinal "DigitBench$RowValue" "DigitBench$RowValue" "power" "LDigitBench$Num;" ∈ AL := al_t1 220 rfl rfl
theorem q269 : Cond.laysFinal "DigitBench$RowValue" "DigitBench$RowValue" "head" "LDigitBench$Num;" ∈ AL := al_t1 222 rfl rfl
theorem q271 : Cond.laysFinal "DigitBench$RowValue" "DigitBench$RowValue" "shift" "LDigitBench$Num;" ∈ AL := al_t1 224 rfl rfl
theorem q273 : Cond.laysFinal "DigitBench$RowValue" "DigitBench$RowValue" "tail" "LDigitBench$Num;" ∈ AL := al_t1 226 rfl rfl
theorem q275 : Cond.laysFinal "DigitBench$RowValue" "DigitBench$RowValue" "divisor" "LDigitBench$Num;" ∈ AL := al_t1 228 rfl rfl
theorem q277 : Cond.laysFinal "DigitBench$RowValue" "DigitBench$RowValue" "result" "LDigitBench$Num;" ∈ AL := al_t1 230 rfl rfl
theorem q279 : Cond.laysFinal "DigitBench$RowValue" "DigitBench$RowValue" "sum" "LDigitBench$Sum;" ∈ AL := al_t1 232 rfl rfl
theorem q282 : Cond.classLink "DigitBench" 51 "DigitBench$Trail" ∈ AL := al_t1 235 rfl rfl
theorem q283 : Cond.instantiable "DigitBench$Trail" 7 ∈ AL := al_t1 236 rfl rfl
theorem q285 : Cond.instanceMethod (⟨"DigitBench$Trail", "<init>", "()V"⟩ : MethodName) ∈ AL := al_t1 238 rfl rfl
theorem q286 : Cond.code (⟨"DigitBench$Trail", "<init>", "()V"⟩ : MethodName) prog_11_method_1_code 1 (Option.none : Option FieldType) ∈ AL := al_t1 239 rfl rfl
theorem q287 : Cond.methodLink "DigitBench$Trail" 3 (⟨"java/lang/Object", "<init>", "()V"⟩ : MethodName) ∈ AL := al_t2 0 rfl rfl
theorem q288 : Cond.fieldLink "DigitBench$Trail" 11 "DigitBench$Trail" "firsts" "[J" ∈ AL := al_t2 1 rfl rfl
theorem q289 : Cond.fieldLink "DigitBench$Trail" 15 "DigitBench$Trail" "seconds" "[J" ∈ AL := al_t2 2 rfl rfl
theorem q290 : Cond.fieldLink "DigitBench$Trail" 18 "DigitBench$Trail" "links" "[I" ∈ AL := al_t2 3 rfl rfl
theorem q291 : Cond.fieldLink "DigitBench$Trail" 22 "DigitBench$Trail" "heads" "[I" ∈ AL := al_t2 4 rfl rfl
theorem q292 : Cond.fieldLink "DigitBench$Trail" 25 "DigitBench$Trail" "stamps" "[I" ∈ AL := al_t2 5 rfl rfl
theorem q293 : Cond.fieldLink "DigitBench$Trail" 28 "DigitBench$Trail" "stamp" "I" ∈ AL := al_t2 6 rfl rfl
theorem q294 : Cond.fieldLink "DigitBench$Trail" 32 "DigitBench$Trail" "size" "I" ∈ AL := al_t2 7 rfl rfl
theorem q295 : Cond.laysFinal "DigitBench$Trail" "DigitBench$Trail" "firsts" "[J" ∈ AL := al_t2 8 rfl rfl
theorem q297 : Cond.laysFinal "DigitBench$Trail" "DigitBench$Trail" "seconds" "[J" ∈ AL := al_t2 10 rfl rfl
theorem q299 : Cond.laysFinal "DigitBench$Trail" "DigitBench$Trail" "links" "[I" ∈ AL := al_t2 12 rfl rfl
theorem q301 : Cond.laysFinal "DigitBench$Trail" "DigitBench$Trail" "heads" "[I" ∈ AL := al_t2 14 rfl rfl
theorem q303 : Cond.laysFinal "DigitBench$Trail" "DigitBench$Trail" "stamps" "[I" ∈ AL := al_t2 16 rfl rfl
theorem q305 : Cond.lays "DigitBench$Trail" "DigitBench$Trail" "stamp" "I" ∈ AL := al_t2 18 rfl rfl
theorem q307 : Cond.lays "DigitBench$Trail" "DigitBench$Trail" "size" "I" ∈ AL := al_t2 20 rfl rfl
theorem q310 : Cond.classLink "DigitBench" 58 "DigitBench$Ring" ∈ AL := al_t2 23 rfl rfl
theorem q311 : Cond.instantiable "DigitBench$Ring" 14 ∈ AL := al_t2 24 rfl rfl
theorem q312 : Cond.methodLink "DigitBench" 60 (⟨"DigitBench$Ring", "<init>", "()V"⟩ : MethodName) ∈ AL := al_t2 25 rfl rfl
theorem q313 : Cond.instanceMethod (⟨"DigitBench$Ring", "<init>", "()V"⟩ : MethodName) ∈ AL := al_t2 26 rfl rfl
theorem q314 : Cond.code (⟨"DigitBench$Ring", "<init>", "()V"⟩ : MethodName) prog_4_method_1_code 2 (Option.none : Option FieldType) ∈ AL := al_t2 27 rfl rfl
theorem q315 : Cond.methodLink "DigitBench$Ring" 1 (⟨"java/lang/Object", "<init>", "()V"⟩ : MethodName) ∈ AL := al_t2 28 rfl rfl
theorem q316 : Cond.methodLink "DigitBench$Ring" 22 (⟨"DigitBench$Ring", "becomeSingle", "(I)Z"⟩ : MethodName) ∈ AL := al_t2 29 rfl rfl
theorem q317 : Cond.instanceMethod (⟨"DigitBench$Ring", "becomeSingle", "(I)Z"⟩ : MethodName) ∈ AL := al_t2 30 rfl rfl
theorem q318 : Cond.selects "DigitBench$Ring" (⟨"DigitBench$Ring", "becomeSingle", "(I)Z"⟩ : MethodName) (⟨"DigitBench$Ring", "becomeSingle", "(I)Z"⟩ : MethodName) ∈ AL := al_t2 31 rfl rfl
theorem q319 : Cond.code (⟨"DigitBench$Ring", "becomeSingle", "(I)Z"⟩ : MethodName) prog_4_method_2_code 2 (Option.some FieldType.boolean) ∈ AL := al_t2 32 rfl rfl
theorem q320 : Cond.constantLong "DigitBench$Ring" 37 (25 : Int64) ∈ AL := al_t2 33 rfl rfl
theorem q322 : Cond.static (⟨"DigitBench", "isBeyond", "(JJ)Z"⟩ : MethodName) ∈ AL := al_t2 35 rfl rfl
theorem q323 : Cond.code (⟨"DigitBench", "isBeyond", "(JJ)Z"⟩ : MethodName) prog_1_method_32_code 4 (Option.some FieldType.boolean) ∈ AL := al_t2 36 rfl rfl
theorem q324 : Cond.methodLink "DigitBench$Ring" 54 (⟨"DigitBench$Ring", "become", "(JJJ)V"⟩ : MethodName) ∈ AL := al_t2 37 rfl rfl
theorem q326 : Cond.instanceMethod (⟨"DigitBench$Ring", "become", "(JJJ)V"⟩ : MethodName) ∈ AL := al_t2 39 rfl rfl
theorem q327 : Cond.code (⟨"DigitBench$Ring", "become", "(JJJ)V"⟩ : MethodName) prog_4_method_4_code 7 (Option.none : Option FieldType) ∈ AL := al_t2 40 rfl rfl
theorem q328 : Cond.methodLink "DigitBench$Ring" 72 (⟨"java/lang/Math", "abs", "(J)J"⟩ : MethodName) ∈ AL := al_t2 41 rfl rfl
theorem q329 : Cond.static (⟨"java/lang/Math", "abs", "(J)J"⟩ : MethodName) ∈ AL := al_t2 42 rfl rfl
theorem q330 : Cond.code (⟨"java/lang/Math", "abs", "(J)J"⟩ : MethodName) prog_16_method_61_code 2 (Option.some FieldType.long) ∈ AL := al_t2 43 rfl rfl
theorem q331 : Cond.methodLink "DigitBench$Ring" 30 (⟨"DigitBench$Ring", "keyOf", "(JJ)I"⟩ : MethodName) ∈ AL := al_t2 44 rfl rfl
theorem q333 : Cond.instanceMethod (⟨"DigitBench$Ring", "keyOf", "(JJ)I"⟩ : MethodName) ∈ AL := al_t2 46 rfl rfl
theorem q334 : Cond.code (⟨"DigitBench$Ring", "keyOf", "(JJ)I"⟩ : MethodName) prog_4_method_11_code 9 (Option.some FieldType.int) ∈ AL := al_t2 47 rfl rfl
theorem q335 : Cond.methodLink "DigitBench$Ring" 96 (⟨"DigitBench$Ring", "timesSideY", "(JJ)J"⟩ : MethodName) ∈ AL := al_t2 48 rfl rfl
theorem q337 : Cond.instanceMethod (⟨"DigitBench$Ring", "timesSideY", "(JJ)J"⟩ : MethodName) ∈ AL := al_t2 50 rfl rfl
theorem q338 : Cond.code (⟨"DigitBench$Ring", "timesSideY", "(JJ)J"⟩ : MethodName) prog_4_method_9_code 5 (Option.some FieldType.long) ∈ AL := al_t2 51 rfl rfl
theorem q339 : Cond.methodLink "DigitBench$Ring" 100 (⟨"java/lang/Math", "floorMod", "(JJ)J"⟩ : MethodName) ∈ AL := al_t2 52 rfl rfl
theorem q340 : Cond.static (⟨"java/lang/Math", "floorMod", "(JJ)J"⟩ : MethodName) ∈ AL := al_t2 53 rfl rfl
theorem q341 : Cond.code (⟨"java/lang/Math", "floorMod", "(JJ)J"⟩ : MethodName) prog_16_method_52_code 6 (Option.some FieldType.long) ∈ AL := al_t2 54 rfl rfl
theorem q342 : Cond.methodLink "DigitBench$Ring" 103 (⟨"DigitBench$Ring", "timesSideZ", "(JJ)J"⟩ : MethodName) ∈ AL := al_t2 55 rfl rfl
theorem q344 : Cond.instanceMethod (⟨"DigitBench$Ring", "timesSideZ", "(JJ)J"⟩ : MethodName) ∈ AL := al_t2 57 rfl rfl
theorem q345 : Cond.code (⟨"DigitBench$Ring", "timesSideZ", "(JJ)J"⟩ : MethodName) prog_4_method_10_code 5 (Option.some FieldType.long) ∈ AL := al_t2 58 rfl rfl
theorem q346 : Cond.methodLink "DigitBench$Ring" 34 (⟨"DigitBench$Ring", "keepDigits", "()V"⟩ : MethodName) ∈ AL := al_t2 59 rfl rfl
theorem q348 : Cond.instanceMethod (⟨"DigitBench$Ring", "keepDigits", "()V"⟩ : MethodName) ∈ AL := al_t2 61 rfl rfl
theorem q349 : Cond.code (⟨"DigitBench$Ring", "keepDigits", "()V"⟩ : MethodName) prog_4_method_8_code 3 (Option.none : Option FieldType) ∈ AL := al_t2 62 rfl rfl
theorem q350 : Cond.fieldLink "DigitBench$Ring" 45 "DigitBench$Ring" "parts" "I" ∈ AL := al_t2 63 rfl rfl
theorem q351 : Cond.fieldLink "DigitBench" 240 "DigitBench$Ring" "parts" "I" ∈ AL := al_t2 64 rfl rfl
theorem q352 : Cond.fieldLink "DigitBench$Ring" 48 "DigitBench$Ring" "p" "I" ∈ AL := al_t2 65 rfl rfl
theorem q353 : Cond.fieldLink "DigitBench$Ring" 51 "DigitBench$Ring" "q" "I" ∈ AL := al_t2 66 rfl rfl
theorem q354 : Cond.fieldLink "DigitBench$Ring" 26 "DigitBench$Ring" "norm" "I" ∈ AL := al_t2 67 rfl rfl
theorem q355 : Cond.fieldLink "DigitBench" 288 "DigitBench$Ring" "norm" "I" ∈ AL := al_t2 68 rfl rfl
theorem q356 : Cond.fieldLink "DigitBench$Ring" 62 "DigitBench$Ring" "sideY" "J" ∈ AL := al_t2 69 rfl rfl
theorem q357 : Cond.fieldLink "DigitBench$Ring" 66 "DigitBench$Ring" "sideZ" "J" ∈ AL := al_t2 70 rfl rfl
theorem q358 : Cond.fieldLink "DigitBench$Ring" 69 "DigitBench$Ring" "divisor" "J" ∈ AL := al_t2 71 rfl rfl
theorem q359 : Cond.fieldLink "DigitBench$Ring" 78 "DigitBench$Ring" "size" "I" ∈ AL := al_t2 72 rfl rfl
theorem q360 : Cond.fieldLink "DigitBench" 243 "DigitBench$Ring" "size" "I" ∈ AL := al_t2 73 rfl rfl
theorem q361 : Cond.fieldLink "DigitBench$Ring" 9 "DigitBench$Ring" "digitY" "[I" ∈ AL := al_t2 74 rfl rfl
theorem q362 : Cond.fieldLink "DigitBench$Ring" 13 "DigitBench$Ring" "digitZ" "[I" ∈ AL := al_t2 75 rfl rfl
theorem q363 : Cond.fieldLink "DigitBench$Ring" 16 "DigitBench$Ring" "keys" "[I" ∈ AL := al_t2 76 rfl rfl
theorem q364 : Cond.fieldLink "DigitBench$Ring" 19 "DigitBench$Ring" "digitOfKey" "[I" ∈ AL := al_t2 77 rfl rfl
theorem q365 : Cond.fieldLink "DigitBench$Walk" 43 "DigitBench$Ring" "nextY" "J" ∈ AL := al_t2 78 rfl rfl
theorem q366 : Cond.fieldLink "DigitBench$Ring" 106 "DigitBench$Ring" "nextY" "J" ∈ AL := al_t2 79 rfl rfl
theorem q367 : Cond.fieldLink "DigitBench$Walk" 47 "DigitBench$Ring" "nextZ" "J" ∈ AL := al_t2 80 rfl rfl
theorem q368 : Cond.fieldLink "DigitBench$Ring" 109 "DigitBench$Ring" "nextZ" "J" ∈ AL := al_t2 81 rfl rfl
theorem q369 : Cond.lays "DigitBench$Ring" "DigitBench$Ring" "parts" "I" ∈ AL := al_t2 82 rfl rfl
theorem q371 : Cond.lays "DigitBench$Ring" "DigitBench$Ring" "p" "I" ∈ AL := al_t2 84 rfl rfl
theorem q373 : Cond.lays "DigitBench$Ring" "DigitBench$Ring" "q" "I" ∈ AL := al_t2 86 rfl rfl
theorem q375 : Cond.lays "DigitBench$Ring" "DigitBench$Ring" "norm" "I" ∈ AL := al_t2 88 rfl rfl
theorem q377 : Cond.lays "DigitBench$Ring" "DigitBench$Ring" "sideY" "J" ∈ AL := al_t2 90 rfl rfl
theorem q379 : Cond.lays "DigitBench$Ring" "DigitBench$Ring" "sideZ" "J" ∈ AL := al_t2 92 rfl rfl
theorem q381 : Cond.lays "DigitBench$Ring" "DigitBench$Ring" "divisor" "J" ∈ AL := al_t2 94 rfl rfl
theorem q383 : Cond.lays "DigitBench$Ring" "DigitBench$Ring" "size" "I" ∈ AL := al_t2 96 rfl rfl
theorem q385 : Cond.laysFinal "DigitBench$Ring" "DigitBench$Ring" "digitY" "[I" ∈ AL := al_t2 98 rfl rfl
theorem q387 : Cond.laysFinal "DigitBench$Ring" "DigitBench$Ring" "digitZ" "[I" ∈ AL := al_t2 100 rfl rfl
theorem q389 : Cond.laysFinal "DigitBench$Ring" "DigitBench$Ring" "keys" "[I" ∈ AL := al_t2 102 rfl rfl
theorem q391 : Cond.laysFinal "DigitBench$Ring" "DigitBench$Ring" "digitOfKey" "[I" ∈ AL := al_t2 104 rfl rfl
theorem q393 : Cond.lays "DigitBench$Ring" "DigitBench$Ring" "nextY" "J" ∈ AL := al_t2 106 rfl rfl
theorem q395 : Cond.lays "DigitBench$Ring" "DigitBench$Ring" "nextZ" "J" ∈ AL := al_t2 108 rfl rfl
theorem q398 : Cond.classLink "DigitBench" 65 "DigitBench$Walk" ∈ AL := al_t2 111 rfl rfl
theorem q399 : Cond.instantiable "DigitBench$Walk" 4 ∈ AL := al_t2 112 rfl rfl
theorem q401 : Cond.instanceMethod (⟨"DigitBench$Walk", "<init>", "()V"⟩ : MethodName) ∈ AL := al_t2 114 rfl rfl
theorem q402 : Cond.code (⟨"DigitBench$Walk", "<init>", "()V"⟩ : MethodName) prog_12_method_1_code 1 (Option.none : Option FieldType) ∈ AL := al_t2 115 rfl rfl
theorem q403 : Cond.methodLink "DigitBench$Walk" 3 (⟨"java/lang/Object", "<init>", "()V"⟩ : MethodName) ∈ AL := al_t2 116 rfl rfl
theorem q404 : Cond.fieldLink "DigitBench$Walk" 11 "DigitBench$Walk" "places" "[I" ∈ AL := al_t2 117 rfl rfl
theorem q405 : Cond.fieldLink "DigitBench$Walk" 15 "DigitBench$Walk" "kind" "I" ∈ AL := al_t2 118 rfl rfl
theorem q406 : Cond.fieldLink "DigitBench" 254 "DigitBench$Walk" "kind" "I" ∈ AL := al_t2 119 rfl rfl
theorem q407 : Cond.fieldLink "DigitBench$Walk" 50 "DigitBench$Walk" "ahead" "I" ∈ AL := al_t2 120 rfl rfl
theorem q408 : Cond.fieldLink "DigitBench" 255 "DigitBench$Walk" "ahead" "I" ∈ AL := al_t2 121 rfl rfl
theorem q409 : Cond.fieldLink "DigitBench$Walk" 53 "DigitBench$Walk" "length" "I" ∈ AL := al_t2 122 rfl rfl
theorem q410 : Cond.fieldLink "DigitBench" 256 "DigitBench$Walk" "length" "I" ∈ AL := al_t2 123 rfl rfl
theorem q411 : Cond.laysFinal "DigitBench$Walk" "DigitBench$Walk" "places" "[I" ∈ AL := al_t2 124 rfl rfl
theorem q413 : Cond.lays "DigitBench$Walk" "DigitBench$Walk" "kind" "I" ∈ AL := al_t2 126 rfl rfl
theorem q415 : Cond.lays "DigitBench$Walk" "DigitBench$Walk" "ahead" "I" ∈ AL := al_t2 128 rfl rfl
theorem q417 : Cond.lays "DigitBench$Walk" "DigitBench$Walk" "length" "I" ∈ AL := al_t2 130 rfl rfl
theorem q420 : Cond.classLink "DigitBench" 75 "DigitBench$RoundList" ∈ AL := al_t2 133 rfl rfl
theorem q421 : Cond.instantiable "DigitBench$RoundList" 4 ∈ AL := al_t2 134 rfl rfl
theorem q423 : Cond.instanceMethod (⟨"DigitBench$RoundList", "<init>", "()V"⟩ : MethodName) ∈ AL := al_t2 136 rfl rfl
theorem q424 : Cond.code (⟨"DigitBench$RoundList", "<init>", "()V"⟩ : MethodName) prog_6_method_1_code 1 (Option.none : Option FieldType) ∈ AL := al_t2 137 rfl rfl
theorem q425 : Cond.methodLink "DigitBench$RoundList" 1 (⟨"java/lang/Object", "<init>", "()V"⟩ : MethodName) ∈ AL := al_t2 138 rfl rfl
theorem q426 : Cond.fieldLink "DigitBench$RoundList" 9 "DigitBench$RoundList" "lengths" "[I" ∈ AL := al_t2 139 rfl rfl
theorem q427 : Cond.fieldLink "DigitBench" 264 "DigitBench$RoundList" "lengths" "[I" ∈ AL := al_t2 140 rfl rfl
theorem q428 : Cond.fieldLink "DigitBench$RoundList" 13 "DigitBench$RoundList" "ys" "[I" ∈ AL := al_t2 141 rfl rfl
theorem q429 : Cond.fieldLink "DigitBench" 268 "DigitBench$RoundList" "ys" "[I" ∈ AL := al_t2 142 rfl rfl
theorem q430 : Cond.fieldLink "DigitBench$RoundList" 16 "DigitBench$RoundList" "zs" "[I" ∈ AL := al_t2 143 rfl rfl
theorem q431 : Cond.fieldLink "DigitBench" 271 "DigitBench$RoundList" "zs" "[I" ∈ AL := al_t2 144 rfl rfl
theorem q432 : Cond.fieldLink "DigitBench$RoundList" 19 "DigitBench$RoundList" "size" "I" ∈ AL := al_t2 145 rfl rfl
theorem q433 : Cond.fieldLink "DigitBench" 261 "DigitBench$RoundList" "size" "I" ∈ AL := al_t2 146 rfl rfl
theorem q434 : Cond.laysFinal "DigitBench$RoundList" "DigitBench$RoundList" "lengths" "[I" ∈ AL := al_t2 147 rfl rfl
theorem q436 : Cond.laysFinal "DigitBench$RoundList" "DigitBench$RoundList" "ys" "[I" ∈ AL := al_t2 149 rfl rfl
theorem q438 : Cond.laysFinal "DigitBench$RoundList" "DigitBench$RoundList" "zs" "[I" ∈ AL := al_t2 151 rfl rfl
theorem q440 : Cond.lays "DigitBench$RoundList" "DigitBench$RoundList" "size" "I" ∈ AL := al_t2 153 rfl rfl
theorem q443 : Cond.fieldLink "DigitBench" 10 "DigitBench" "tape" "LDigitBench$Tape;" ∈ AL := al_t2 156 rfl rfl
theorem q444 : Cond.fieldLink "DigitBench" 19 "DigitBench" "root" "LDigitBench$Root;" ∈ AL := al_t2 157 rfl rfl
theorem q445 : Cond.fieldLink "DigitBench" 25 "DigitBench" "slots" "[LDigitBench$Num;" ∈ AL := al_t2 158 rfl rfl
theorem q446 : Cond.fieldLink "DigitBench" 33 "DigitBench" "rest" "LDigitBench$Rest;" ∈ AL := al_t2 159 rfl rfl
theorem q447 : Cond.fieldLink "DigitBench" 40 "DigitBench" "toldDigits" "LDigitBench$Told;" ∈ AL := al_t2 160 rfl rfl
theorem q448 : Cond.fieldLink "DigitBench" 47 "DigitBench" "rowValue" "LDigitBench$RowValue;" ∈ AL := al_t2 161 rfl rfl
theorem q449 : Cond.fieldLink "DigitBench" 54 "DigitBench" "trail" "LDigitBench$Trail;" ∈ AL := al_t2 162 rfl rfl
theorem q450 : Cond.fieldLink "DigitBench" 61 "DigitBench" "members" "LDigitBench$Ring;" ∈ AL := al_t2 163 rfl rfl
theorem q451 : Cond.fieldLink "DigitBench" 68 "DigitBench" "latest" "LDigitBench$Walk;" ∈ AL := al_t2 164 rfl rfl
theorem q452 : Cond.fieldLink "DigitBench" 72 "DigitBench" "probe" "LDigitBench$Walk;" ∈ AL := al_t2 165 rfl rfl
theorem q453 : Cond.fieldLink "DigitBench" 78 "DigitBench" "known" "LDigitBench$RoundList;" ∈ AL := al_t2 166 rfl rfl
theorem q454 : Cond.fieldLink "DigitBench" 82 "DigitBench" "spare" "LDigitBench$RoundList;" ∈ AL := al_t2 167 rfl rfl
theorem q455 : Cond.fieldLink "DigitBench" 274 "DigitBench" "ends" "I" ∈ AL := al_t2 168 rfl rfl
theorem q456 : Cond.laysFinal "DigitBench" "DigitBench" "tape" "LDigitBench$Tape;" ∈ AL := al_t2 169 rfl rfl
theorem q458 : Cond.laysFinal "DigitBench" "DigitBench" "root" "LDigitBench$Root;" ∈ AL := al_t2 171 rfl rfl
theorem q460 : Cond.laysFinal "DigitBench" "DigitBench" "slots" "[LDigitBench$Num;" ∈ AL := al_t2 173 rfl rfl
theorem q462 : Cond.laysFinal "DigitBench" "DigitBench" "rest" "LDigitBench$Rest;" ∈ AL := al_t2 175 rfl rfl
theorem q464 : Cond.laysFinal "DigitBench" "DigitBench" "toldDigits" "LDigitBench$Told;" ∈ AL := al_t2 177 rfl rfl
theorem q466 : Cond.laysFinal "DigitBench" "DigitBench" "rowValue" "LDigitBench$RowValue;" ∈ AL := al_t2 179 rfl rfl
theorem q468 : Cond.laysFinal "DigitBench" "DigitBench" "trail" "LDigitBench$Trail;" ∈ AL := al_t2 181 rfl rfl
theorem q470 : Cond.laysFinal "DigitBench" "DigitBench" "members" "LDigitBench$Ring;" ∈ AL := al_t2 183 rfl rfl
theorem q472 : Cond.laysFinal "DigitBench" "DigitBench" "latest" "LDigitBench$Walk;" ∈ AL := al_t2 185 rfl rfl
theorem q474 : Cond.laysFinal "DigitBench" "DigitBench" "probe" "LDigitBench$Walk;" ∈ AL := al_t2 187 rfl rfl
theorem q476 : Cond.lays "DigitBench" "DigitBench" "known" "LDigitBench$RoundList;" ∈ AL := al_t2 189 rfl rfl
theorem q478 : Cond.lays "DigitBench" "DigitBench" "spare" "LDigitBench$RoundList;" ∈ AL := al_t2 191 rfl rfl
theorem q480 : Cond.lays "DigitBench" "DigitBench" "ends" "I" ∈ AL := al_t2 193 rfl rfl
theorem q483 : Cond.methodLink "DigitBenchLaw" 33 (⟨"DigitBench", "feed", "(IIIII)I"⟩ : MethodName) ∈ AL := al_t2 196 rfl rfl
theorem q484 : Cond.instanceMethod (⟨"DigitBench", "feed", "(IIIII)I"⟩ : MethodName) ∈ AL := al_t2 197 rfl rfl
theorem q485 : Cond.selects "DigitBench" (⟨"DigitBench", "feed", "(IIIII)I"⟩ : MethodName) (⟨"DigitBench", "feed", "(IIIII)I"⟩ : MethodName) ∈ AL := al_t2 198 rfl rfl
theorem q486 : Cond.code (⟨"DigitBench", "feed", "(IIIII)I"⟩ : MethodName) prog_1_method_2_code 6 (Option.some FieldType.int) ∈ AL := al_t2 199 rfl rfl
theorem q487 : Cond.methodLink "DigitBench" 85 (⟨"DigitBench$Tape", "hasRoomForFive", "()Z"⟩ : MethodName) ∈ AL := al_t2 200 rfl rfl
theorem q488 : Cond.instanceMethod (⟨"DigitBench$Tape", "hasRoomForFive", "()Z"⟩ : MethodName) ∈ AL := al_t2 201 rfl rfl
theorem q489 : Cond.selects "DigitBench$Tape" (⟨"DigitBench$Tape", "hasRoomForFive", "()Z"⟩ : MethodName) (⟨"DigitBench$Tape", "hasRoomForFive", "()Z"⟩ : MethodName) ∈ AL := al_t2 202 rfl rfl
theorem q490 : Cond.code (⟨"DigitBench$Tape", "hasRoomForFive", "()Z"⟩ : MethodName) prog_9_method_2_code 1 (Option.some FieldType.boolean) ∈ AL := al_t2 203 rfl rfl
theorem q491 : Cond.methodLink "DigitBench" 89 (⟨"DigitBench$Tape", "append", "(I)V"⟩ : MethodName) ∈ AL := al_t2 204 rfl rfl
theorem q492 : Cond.instanceMethod (⟨"DigitBench$Tape", "append", "(I)V"⟩ : MethodName) ∈ AL := al_t2 205 rfl rfl
theorem q493 : Cond.selects "DigitBench$Tape" (⟨"DigitBench$Tape", "append", "(I)V"⟩ : MethodName) (⟨"DigitBench$Tape", "append", "(I)V"⟩ : MethodName) ∈ AL := al_t2 206 rfl rfl
theorem q494 : Cond.code (⟨"DigitBench$Tape", "append", "(I)V"⟩ : MethodName) prog_9_method_3_code 3 (Option.none : Option FieldType) ∈ AL := al_t2 207 rfl rfl
theorem q495 : Cond.methodLink "DigitBenchLaw" 38 (⟨"DigitBench", "end", "(I)Z"⟩ : MethodName) ∈ AL := al_t2 208 rfl rfl
theorem q496 : Cond.instanceMethod (⟨"DigitBench", "end", "(I)Z"⟩ : MethodName) ∈ AL := al_t2 209 rfl rfl
theorem q497 : Cond.selects "DigitBench" (⟨"DigitBench", "end", "(I)Z"⟩ : MethodName) (⟨"DigitBench", "end", "(I)Z"⟩ : MethodName) ∈ AL := al_t2 210 rfl rfl
theorem q498 : Cond.code (⟨"DigitBench", "end", "(I)Z"⟩ : MethodName) prog_1_method_3_code 2 (Option.some FieldType.boolean) ∈ AL := al_t2 211 rfl rfl
theorem q499 : Cond.methodLink "DigitBenchLaw" 43 (⟨"DigitBench", "base", "(II)Z"⟩ : MethodName) ∈ AL := al_t2 212 rfl rfl
theorem q500 : Cond.instanceMethod (⟨"DigitBench", "base", "(II)Z"⟩ : MethodName) ∈ AL := al_t2 213 rfl rfl
theorem q501 : Cond.selects "DigitBench" (⟨"DigitBench", "base", "(II)Z"⟩ : MethodName) (⟨"DigitBench", "base", "(II)Z"⟩ : MethodName) ∈ AL := al_t2 214 rfl rfl
theorem q502 : Cond.code (⟨"DigitBench", "base", "(II)Z"⟩ : MethodName) prog_1_method_4_code 4 (Option.some FieldType.boolean) ∈ AL := al_t2 215 rfl rfl
theorem q503 : Cond.methodLink "DigitBench" 97 (⟨"DigitBench$Root", "change", "(II)Z"⟩ : MethodName) ∈ AL := al_t2 216 rfl rfl
theorem q504 : Cond.methodLink "DigitBenchLaw" 48 (⟨"DigitBench", "number", "(IIII)Z"⟩ : MethodName) ∈ AL := al_t2 217 rfl rfl
theorem q505 : Cond.instanceMethod (⟨"DigitBench", "number", "(IIII)Z"⟩ : MethodName) ∈ AL := al_t2 218 rfl rfl
theorem q506 : Cond.selects "DigitBench" (⟨"DigitBench", "number", "(IIII)Z"⟩ : MethodName) (⟨"DigitBench", "number", "(IIII)Z"⟩ : MethodName) ∈ AL := al_t2 219 rfl rfl
theorem q507 : Cond.code (⟨"DigitBench", "number", "(IIII)Z"⟩ : MethodName) prog_1_method_5_code 5 (Option.some FieldType.boolean) ∈ AL := al_t2 220 rfl rfl
theorem q508 : Cond.methodLink "DigitBench" 108 (⟨"DigitBench", "isSlot", "(I)Z"⟩ : MethodName) ∈ AL := al_t2 221 rfl rfl
theorem q509 : Cond.static (⟨"DigitBench", "isSlot", "(I)Z"⟩ : MethodName) ∈ AL := al_t2 222 rfl rfl
theorem q510 : Cond.code (⟨"DigitBench", "isSlot", "(I)Z"⟩ : MethodName) prog_1_method_28_code 1 (Option.some FieldType.boolean) ∈ AL := al_t2 223 rfl rfl
theorem q511 : Cond.methodLink "DigitBench" 112 (⟨"DigitBench$Num", "take", "(JJJ)Z"⟩ : MethodName) ∈ AL := al_t2 224 rfl rfl
theorem q512 : Cond.instanceMethod (⟨"DigitBench$Num", "take", "(JJJ)Z"⟩ : MethodName) ∈ AL := al_t2 225 rfl rfl
theorem q513 : Cond.selects "DigitBench$Num" (⟨"DigitBench$Num", "take", "(JJJ)Z"⟩ : MethodName) (⟨"DigitBench$Num", "take", "(JJJ)Z"⟩ : MethodName) ∈ AL := al_t2 226 rfl rfl
theorem q514 : Cond.code (⟨"DigitBench$Num", "take", "(JJJ)Z"⟩ : MethodName) prog_2_method_2_code 15 (Option.some FieldType.boolean) ∈ AL := al_t2 227 rfl rfl
theorem q516 : Cond.static (⟨"DigitBench", "common", "(JJ)J"⟩ : MethodName) ∈ AL := al_t2 229 rfl rfl
theorem q517 : Cond.code (⟨"DigitBench", "common", "(JJ)J"⟩ : MethodName) prog_1_method_37_code 11 (Option.some FieldType.long) ∈ AL := al_t2 230 rfl rfl
theorem q518 : Cond.methodLink "DigitBench" 315 (⟨"java/lang/Math", "abs", "(J)J"⟩ : MethodName) ∈ AL := al_t2 231 rfl rfl
theorem q519 : Cond.constantLong "DigitBench$Num" 19 (65536 : Int64) ∈ AL := al_t2 232 rfl rfl
theorem q521 : Cond.constantLong "DigitBench$Num" 25 (1000 : Int64) ∈ AL := al_t2 234 rfl rfl
theorem q522 : Cond.methodLink "DigitBenchLaw" 53 (⟨"DigitBench", "make", "(IIII)Z"⟩ : MethodName) ∈ AL := al_t2 235 rfl rfl
theorem q523 : Cond.instanceMethod (⟨"DigitBench", "make", "(IIII)Z"⟩ : MethodName) ∈ AL := al_t2 236 rfl rfl
theorem q524 : Cond.selects "DigitBench" (⟨"DigitBench", "make", "(IIII)Z"⟩ : MethodName) (⟨"DigitBench", "make", "(IIII)Z"⟩ : MethodName) ∈ AL := al_t2 237 rfl rfl
theorem q525 : Cond.code (⟨"DigitBench", "make", "(IIII)Z"⟩ : MethodName) prog_1_method_6_code 5 (Option.some FieldType.boolean) ∈ AL := al_t2 238 rfl rfl
theorem q526 : Cond.methodLink "DigitBench" 116 (⟨"DigitBench", "hasNumber", "(I)Z"⟩ : MethodName) ∈ AL := al_t2 239 rfl rfl
theorem q528 : Cond.instanceMethod (⟨"DigitBench", "hasNumber", "(I)Z"⟩ : MethodName) ∈ AL := al_t3 1 rfl rfl
theorem q529 : Cond.code (⟨"DigitBench", "hasNumber", "(I)Z"⟩ : MethodName) prog_1_method_29_code 2 (Option.some FieldType.boolean) ∈ AL := al_t3 2 rfl rfl
theorem q530 : Cond.methodLink "DigitBench" 119 (⟨"DigitBench$Root", "join", "(LDigitBench$Num;LDigitBench$Num;LDigitBench$Num;I)Z"⟩ : MethodName) ∈ AL := al_t3 3 rfl rfl
theorem q531 : Cond.instanceMethod (⟨"DigitBench$Root", "join", "(LDigitBench$Num;LDigitBench$Num;LDigitBench$Num;I)Z"⟩ : MethodName) ∈ AL := al_t3 4 rfl rfl
theorem q532 : Cond.selects "DigitBench$Root" (⟨"DigitBench$Root", "join", "(LDigitBench$Num;LDigitBench$Num;LDigitBench$Num;I)Z"⟩ : MethodName) (⟨"DigitBench$Root", "join", "(LDigitBench$Num;LDigitBench$Num;LDigitBench$Num;I)Z"⟩ : MethodName) ∈ AL := al_t3 5 rfl rfl
theorem q533 : Cond.code (⟨"DigitBench$Root", "join", "(LDigitBench$Num;LDigitBench$Num;LDigitBench$Num;I)Z"⟩ : MethodName) prog_5_method_12_code 5 (Option.some FieldType.boolean) ∈ AL := al_t3 6 rfl rfl
theorem q534 : Cond.methodLink "DigitBench$Root" 83 (⟨"DigitBench$Num", "take", "(JJJ)Z"⟩ : MethodName) ∈ AL := al_t3 7 rfl rfl
theorem q535 : Cond.methodLink "DigitBench" 123 (⟨"DigitBench$Root", "multiply", "(LDigitBench$Num;LDigitBench$Num;LDigitBench$Num;)Z"⟩ : MethodName) ∈ AL := al_t3 8 rfl rfl
theorem q536 : Cond.instanceMethod (⟨"DigitBench$Root", "multiply", "(LDigitBench$Num;LDigitBench$Num;LDigitBench$Num;)Z"⟩ : MethodName) ∈ AL := al_t3 9 rfl rfl
theorem q537 : Cond.selects "DigitBench$Root" (⟨"DigitBench$Root", "multiply", "(LDigitBench$Num;LDigitBench$Num;LDigitBench$Num;)Z"⟩ : MethodName) (⟨"DigitBench$Root", "multiply", "(LDigitBench$Num;LDigitBench$Num;LDigitBench$Num;)Z"⟩ : MethodName) ∈ AL := al_t3 10 rfl rfl
theorem q538 : Cond.code (⟨"DigitBench$Root", "multiply", "(LDigitBench$Num;LDigitBench$Num;LDigitBench$Num;)Z"⟩ : MethodName) prog_5_method_13_code 4 (Option.some FieldType.boolean) ∈ AL := al_t3 11 rfl rfl
theorem q539 : Cond.methodLink "DigitBench" 127 (⟨"DigitBench$Root", "divide", "(LDigitBench$Num;LDigitBench$Num;LDigitBench$Num;)Z"⟩ : MethodName) ∈ AL := al_t3 12 rfl rfl
theorem q540 : Cond.instanceMethod (⟨"DigitBench$Root", "divide", "(LDigitBench$Num;LDigitBench$Num;LDigitBench$Num;)Z"⟩ : MethodName) ∈ AL := al_t3 13 rfl rfl
theorem q541 : Cond.selects "DigitBench$Root" (⟨"DigitBench$Root", "divide", "(LDigitBench$Num;LDigitBench$Num;LDigitBench$Num;)Z"⟩ : MethodName) (⟨"DigitBench$Root", "divide", "(LDigitBench$Num;LDigitBench$Num;LDigitBench$Num;)Z"⟩ : MethodName) ∈ AL := al_t3 14 rfl rfl
theorem q542 : Cond.code (⟨"DigitBench$Root", "divide", "(LDigitBench$Num;LDigitBench$Num;LDigitBench$Num;)Z"⟩ : MethodName) prog_5_method_14_code 16 (Option.some FieldType.boolean) ∈ AL := al_t3 15 rfl rfl
theorem q543 : Cond.methodLink "DigitBench$Root" 87 (⟨"java/lang/Math", "abs", "(J)J"⟩ : MethodName) ∈ AL := al_t3 16 rfl rfl
theorem q544 : Cond.methodLink "DigitBenchLaw" 67 (⟨"DigitBench", "compare", "(II)I"⟩ : MethodName) ∈ AL := al_t3 17 rfl rfl
theorem q545 : Cond.instanceMethod (⟨"DigitBench", "compare", "(II)I"⟩ : MethodName) ∈ AL := al_t3 18 rfl rfl
theorem q546 : Cond.selects "DigitBench" (⟨"DigitBench", "compare", "(II)I"⟩ : MethodName) (⟨"DigitBench", "compare", "(II)I"⟩ : MethodName) ∈ AL := al_t3 19 rfl rfl
theorem q547 : Cond.code (⟨"DigitBench", "compare", "(II)I"⟩ : MethodName) prog_1_method_8_code 5 (Option.some FieldType.int) ∈ AL := al_t3 20 rfl rfl
theorem q548 : Cond.methodLink "DigitBench" 147 (⟨"DigitBench$Root", "sign", "(JJ)I"⟩ : MethodName) ∈ AL := al_t3 21 rfl rfl
theorem q549 : Cond.instanceMethod (⟨"DigitBench$Root", "sign", "(JJ)I"⟩ : MethodName) ∈ AL := al_t3 22 rfl rfl
theorem q550 : Cond.selects "DigitBench$Root" (⟨"DigitBench$Root", "sign", "(JJ)I"⟩ : MethodName) (⟨"DigitBench$Root", "sign", "(JJ)I"⟩ : MethodName) ∈ AL := al_t3 23 rfl rfl
theorem q551 : Cond.code (⟨"DigitBench$Root", "sign", "(JJ)I"⟩ : MethodName) prog_5_method_9_code 8 (Option.some FieldType.int) ∈ AL := al_t3 24 rfl rfl
theorem q552 : Cond.constantLong "DigitBench$Root" 60 (2 : Int64) ∈ AL := al_t3 25 rfl rfl
theorem q553 : Cond.methodLink "DigitBenchLaw" 75 (⟨"DigitBench", "digits", "(I)I"⟩ : MethodName) ∈ AL := al_t3 26 rfl rfl
theorem q554 : Cond.instanceMethod (⟨"DigitBench", "digits", "(I)I"⟩ : MethodName) ∈ AL := al_t3 27 rfl rfl
theorem q555 : Cond.selects "DigitBench" (⟨"DigitBench", "digits", "(I)I"⟩ : MethodName) (⟨"DigitBench", "digits", "(I)I"⟩ : MethodName) ∈ AL := al_t3 28 rfl rfl
theorem q556 : Cond.code (⟨"DigitBench", "digits", "(I)I"⟩ : MethodName) prog_1_method_10_code 2 (Option.some FieldType.int) ∈ AL := al_t3 29 rfl rfl
theorem q557 : Cond.methodLink "DigitBench" 157 (⟨"DigitBench", "hasNumberFromZero", "(I)Z"⟩ : MethodName) ∈ AL := al_t3 30 rfl rfl
theorem q559 : Cond.instanceMethod (⟨"DigitBench", "hasNumberFromZero", "(I)Z"⟩ : MethodName) ∈ AL := al_t3 32 rfl rfl
theorem q560 : Cond.code (⟨"DigitBench", "hasNumberFromZero", "(I)Z"⟩ : MethodName) prog_1_method_30_code 2 (Option.some FieldType.boolean) ∈ AL := al_t3 33 rfl rfl
theorem q561 : Cond.methodLink "DigitBench" 160 (⟨"DigitBench$Told", "tell", "(LDigitBench$Root;LDigitBench$Num;LDigitBench$Rest;LDigitBench$Trail;)V"⟩ : MethodName) ∈ AL := al_t3 34 rfl rfl
theorem q562 : Cond.instanceMethod (⟨"DigitBench$Told", "tell", "(LDigitBench$Root;LDigitBench$Num;LDigitBench$Rest;LDigitBench$Trail;)V"⟩ : MethodName) ∈ AL := al_t3 35 rfl rfl
theorem q563 : Cond.selects "DigitBench$Told" (⟨"DigitBench$Told", "tell", "(LDigitBench$Root;LDigitBench$Num;LDigitBench$Rest;LDigitBench$Trail;)V"⟩ : MethodName) (⟨"DigitBench$Told", "tell", "(LDigitBench$Root;LDigitBench$Num;LDigitBench$Rest;LDigitBench$Trail;)V"⟩ : MethodName) ∈ AL := al_t3 36 rfl rfl
theorem q564 : Cond.code (⟨"DigitBench$Told", "tell", "(LDigitBench$Root;LDigitBench$Num;LDigitBench$Rest;LDigitBench$Trail;)V"⟩ : MethodName) prog_10_method_2_code 6 (Option.none : Option FieldType) ∈ AL := al_t3 37 rfl rfl
theorem q565 : Cond.methodLink "DigitBench$Told" 24 (⟨"DigitBench$Rest", "of", "(LDigitBench$Num;)V"⟩ : MethodName) ∈ AL := al_t3 38 rfl rfl
theorem q566 : Cond.instanceMethod (⟨"DigitBench$Rest", "of", "(LDigitBench$Num;)V"⟩ : MethodName) ∈ AL := al_t3 39 rfl rfl
theorem q567 : Cond.selects "DigitBench$Rest" (⟨"DigitBench$Rest", "of", "(LDigitBench$Num;)V"⟩ : MethodName) (⟨"DigitBench$Rest", "of", "(LDigitBench$Num;)V"⟩ : MethodName) ∈ AL := al_t3 40 rfl rfl
theorem q568 : Cond.code (⟨"DigitBench$Rest", "of", "(LDigitBench$Num;)V"⟩ : MethodName) prog_3_method_2_code 2 (Option.none : Option FieldType) ∈ AL := al_t3 41 rfl rfl
theorem q569 : Cond.methodLink "DigitBench$Told" 30 (⟨"DigitBench$Rest", "greatestPower", "(LDigitBench$Root;)I"⟩ : MethodName) ∈ AL := al_t3 42 rfl rfl
theorem q570 : Cond.instanceMethod (⟨"DigitBench$Rest", "greatestPower", "(LDigitBench$Root;)I"⟩ : MethodName) ∈ AL := al_t3 43 rfl rfl
theorem q571 : Cond.selects "DigitBench$Rest" (⟨"DigitBench$Rest", "greatestPower", "(LDigitBench$Root;)I"⟩ : MethodName) (⟨"DigitBench$Rest", "greatestPower", "(LDigitBench$Root;)I"⟩ : MethodName) ∈ AL := al_t3 44 rfl rfl
theorem q572 : Cond.code (⟨"DigitBench$Rest", "greatestPower", "(LDigitBench$Root;)I"⟩ : MethodName) prog_3_method_4_code 4 (Option.some FieldType.int) ∈ AL := al_t3 45 rfl rfl
theorem q573 : Cond.methodLink "DigitBench$Rest" 30 (⟨"DigitBench$Rest", "holds", "(LDigitBench$Root;I)Z"⟩ : MethodName) ∈ AL := al_t3 46 rfl rfl
theorem q575 : Cond.instanceMethod (⟨"DigitBench$Rest", "holds", "(LDigitBench$Root;I)Z"⟩ : MethodName) ∈ AL := al_t3 48 rfl rfl
theorem q576 : Cond.code (⟨"DigitBench$Rest", "holds", "(LDigitBench$Root;I)Z"⟩ : MethodName) prog_3_method_5_code 3 (Option.some FieldType.boolean) ∈ AL := al_t3 49 rfl rfl
theorem q577 : Cond.methodLink "DigitBench$Rest" 41 (⟨"DigitBench$Root", "sign", "(JJ)I"⟩ : MethodName) ∈ AL := al_t3 50 rfl rfl
theorem q578 : Cond.methodLink "DigitBench$Told" 34 (⟨"java/lang/Math", "min", "(II)I"⟩ : MethodName) ∈ AL := al_t3 51 rfl rfl
theorem q579 : Cond.static (⟨"java/lang/Math", "min", "(II)I"⟩ : MethodName) ∈ AL := al_t3 52 rfl rfl
theorem q580 : Cond.code (⟨"java/lang/Math", "min", "(II)I"⟩ : MethodName) prog_16_method_69_code 2 (Option.some FieldType.int) ∈ AL := al_t3 53 rfl rfl
theorem q581 : Cond.methodLink "DigitBench$Told" 43 (⟨"DigitBench$Rest", "peel", "(LDigitBench$Root;I)I"⟩ : MethodName) ∈ AL := al_t3 54 rfl rfl
theorem q582 : Cond.instanceMethod (⟨"DigitBench$Rest", "peel", "(LDigitBench$Root;I)I"⟩ : MethodName) ∈ AL := al_t3 55 rfl rfl
theorem q583 : Cond.selects "DigitBench$Rest" (⟨"DigitBench$Rest", "peel", "(LDigitBench$Root;I)I"⟩ : MethodName) (⟨"DigitBench$Rest", "peel", "(LDigitBench$Root;I)I"⟩ : MethodName) ∈ AL := al_t3 56 rfl rfl
theorem q584 : Cond.code (⟨"DigitBench$Rest", "peel", "(LDigitBench$Root;I)I"⟩ : MethodName) prog_3_method_6_code 5 (Option.some FieldType.int) ∈ AL := al_t3 57 rfl rfl
theorem q585 : Cond.methodLink "DigitBench$Rest" 45 (⟨"DigitBench$Root", "top", "()I"⟩ : MethodName) ∈ AL := al_t3 58 rfl rfl
theorem q586 : Cond.methodLink "DigitBench$Told" 47 (⟨"DigitBench$Told", "tellBehind", "(LDigitBench$Root;LDigitBench$Rest;LDigitBench$Trail;)V"⟩ : MethodName) ∈ AL := al_t3 59 rfl rfl
theorem q588 : Cond.instanceMethod (⟨"DigitBench$Told", "tellBehind", "(LDigitBench$Root;LDigitBench$Rest;LDigitBench$Trail;)V"⟩ : MethodName) ∈ AL := al_t3 61 rfl rfl
theorem q589 : Cond.code (⟨"DigitBench$Told", "tellBehind", "(LDigitBench$Root;LDigitBench$Rest;LDigitBench$Trail;)V"⟩ : MethodName) prog_10_method_3_code 6 (Option.none : Option FieldType) ∈ AL := al_t3 62 rfl rfl
theorem q590 : Cond.methodLink "DigitBench$Told" 51 (⟨"DigitBench$Trail", "clear", "()V"⟩ : MethodName) ∈ AL := al_t3 63 rfl rfl
theorem q591 : Cond.instanceMethod (⟨"DigitBench$Trail", "clear", "()V"⟩ : MethodName) ∈ AL := al_t3 64 rfl rfl
theorem q592 : Cond.selects "DigitBench$Trail" (⟨"DigitBench$Trail", "clear", "()V"⟩ : MethodName) (⟨"DigitBench$Trail", "clear", "()V"⟩ : MethodName) ∈ AL := al_t3 65 rfl rfl
theorem q593 : Cond.code (⟨"DigitBench$Trail", "clear", "()V"⟩ : MethodName) prog_11_method_2_code 1 (Option.none : Option FieldType) ∈ AL := al_t3 66 rfl rfl
theorem q594 : Cond.methodLink "DigitBench$Told" 56 (⟨"DigitBench$Rest", "isNothing", "()Z"⟩ : MethodName) ∈ AL := al_t3 67 rfl rfl
theorem q595 : Cond.instanceMethod (⟨"DigitBench$Rest", "isNothing", "()Z"⟩ : MethodName) ∈ AL := al_t3 68 rfl rfl
theorem q596 : Cond.selects "DigitBench$Rest" (⟨"DigitBench$Rest", "isNothing", "()Z"⟩ : MethodName) (⟨"DigitBench$Rest", "isNothing", "()Z"⟩ : MethodName) ∈ AL := al_t3 69 rfl rfl
theorem q597 : Cond.code (⟨"DigitBench$Rest", "isNothing", "()Z"⟩ : MethodName) prog_3_method_3_code 1 (Option.some FieldType.boolean) ∈ AL := al_t3 70 rfl rfl
theorem q598 : Cond.methodLink "DigitBench$Told" 60 (⟨"DigitBench$Told", "settle", "(III)V"⟩ : MethodName) ∈ AL := al_t3 71 rfl rfl
theorem q600 : Cond.instanceMethod (⟨"DigitBench$Told", "settle", "(III)V"⟩ : MethodName) ∈ AL := al_t3 73 rfl rfl
theorem q601 : Cond.code (⟨"DigitBench$Told", "settle", "(III)V"⟩ : MethodName) prog_10_method_4_code 4 (Option.none : Option FieldType) ∈ AL := al_t3 74 rfl rfl
theorem q602 : Cond.methodLink "DigitBench$Told" 71 (⟨"DigitBench$Trail", "meet", "(JJ)I"⟩ : MethodName) ∈ AL := al_t3 75 rfl rfl
theorem q603 : Cond.instanceMethod (⟨"DigitBench$Trail", "meet", "(JJ)I"⟩ : MethodName) ∈ AL := al_t3 76 rfl rfl
theorem q604 : Cond.selects "DigitBench$Trail" (⟨"DigitBench$Trail", "meet", "(JJ)I"⟩ : MethodName) (⟨"DigitBench$Trail", "meet", "(JJ)I"⟩ : MethodName) ∈ AL := al_t3 77 rfl rfl
theorem q605 : Cond.code (⟨"DigitBench$Trail", "meet", "(JJ)I"⟩ : MethodName) prog_11_method_3_code 10 (Option.some FieldType.int) ∈ AL := al_t3 78 rfl rfl
theorem q606 : Cond.constantLong "DigitBench$Trail" 35 (-7046029254386353131 : Int64) ∈ AL := al_t3 79 rfl rfl
theorem q607 : Cond.constantLong "DigitBench$Trail" 37 (-4417276706812531889 : Int64) ∈ AL := al_t3 80 rfl rfl
theorem q608 : Cond.methodLink "DigitBench$Trail" 39 (⟨"DigitBench$Trail", "append", "(IJJ)V"⟩ : MethodName) ∈ AL := al_t3 81 rfl rfl
theorem q610 : Cond.instanceMethod (⟨"DigitBench$Trail", "append", "(IJJ)V"⟩ : MethodName) ∈ AL := al_t3 83 rfl rfl
theorem q611 : Cond.code (⟨"DigitBench$Trail", "append", "(IJJ)V"⟩ : MethodName) prog_11_method_4_code 6 (Option.none : Option FieldType) ∈ AL := al_t3 84 rfl rfl
theorem q612 : Cond.methodLink "DigitBench$Told" 75 (⟨"DigitBench$Rest", "multiplyByX", "(LDigitBench$Root;)V"⟩ : MethodName) ∈ AL := al_t3 85 rfl rfl
theorem q613 : Cond.instanceMethod (⟨"DigitBench$Rest", "multiplyByX", "(LDigitBench$Root;)V"⟩ : MethodName) ∈ AL := al_t3 86 rfl rfl
theorem q614 : Cond.selects "DigitBench$Rest" (⟨"DigitBench$Rest", "multiplyByX", "(LDigitBench$Root;)V"⟩ : MethodName) (⟨"DigitBench$Rest", "multiplyByX", "(LDigitBench$Root;)V"⟩ : MethodName) ∈ AL := al_t3 87 rfl rfl
theorem q615 : Cond.code (⟨"DigitBench$Rest", "multiplyByX", "(LDigitBench$Root;)V"⟩ : MethodName) prog_3_method_7_code 4 (Option.none : Option FieldType) ∈ AL := al_t3 88 rfl rfl
theorem q616 : Cond.methodLink "DigitBenchLaw" 79 (⟨"DigitBench", "told", "(I)I"⟩ : MethodName) ∈ AL := al_t3 89 rfl rfl
theorem q617 : Cond.instanceMethod (⟨"DigitBench", "told", "(I)I"⟩ : MethodName) ∈ AL := al_t3 90 rfl rfl
theorem q618 : Cond.selects "DigitBench" (⟨"DigitBench", "told", "(I)I"⟩ : MethodName) (⟨"DigitBench", "told", "(I)I"⟩ : MethodName) ∈ AL := al_t3 91 rfl rfl
theorem q619 : Cond.code (⟨"DigitBench", "told", "(I)I"⟩ : MethodName) prog_1_method_11_code 2 (Option.some FieldType.int) ∈ AL := al_t3 92 rfl rfl
theorem q620 : Cond.methodLink "DigitBenchLaw" 83 (⟨"DigitBench", "digit", "(I)I"⟩ : MethodName) ∈ AL := al_t3 93 rfl rfl
theorem q621 : Cond.instanceMethod (⟨"DigitBench", "digit", "(I)I"⟩ : MethodName) ∈ AL := al_t3 94 rfl rfl
theorem q622 : Cond.selects "DigitBench" (⟨"DigitBench", "digit", "(I)I"⟩ : MethodName) (⟨"DigitBench", "digit", "(I)I"⟩ : MethodName) ∈ AL := al_t3 95 rfl rfl
theorem q623 : Cond.code (⟨"DigitBench", "digit", "(I)I"⟩ : MethodName) prog_1_method_12_code 2 (Option.some FieldType.int) ∈ AL := al_t3 96 rfl rfl
theorem q624 : Cond.methodLink "DigitBench" 173 (⟨"DigitBench$Told", "at", "(I)I"⟩ : MethodName) ∈ AL := al_t3 97 rfl rfl
theorem q625 : Cond.instanceMethod (⟨"DigitBench$Told", "at", "(I)I"⟩ : MethodName) ∈ AL := al_t3 98 rfl rfl
theorem q626 : Cond.selects "DigitBench$Told" (⟨"DigitBench$Told", "at", "(I)I"⟩ : MethodName) (⟨"DigitBench$Told", "at", "(I)I"⟩ : MethodName) ∈ AL := al_t3 99 rfl rfl
theorem q627 : Cond.code (⟨"DigitBench$Told", "at", "(I)I"⟩ : MethodName) prog_10_method_5_code 4 (Option.some FieldType.int) ∈ AL := al_t3 100 rfl rfl
theorem q628 : Cond.constantLong "DigitBench$Told" 85 (-1 : Int64) ∈ AL := al_t3 101 rfl rfl
theorem q629 : Cond.constantLong "DigitBench$Told" 87 (400 : Int64) ∈ AL := al_t3 102 rfl rfl
theorem q630 : Cond.methodLink "DigitBenchLaw" 87 (⟨"DigitBench", "value", "(III)Z"⟩ : MethodName) ∈ AL := al_t3 103 rfl rfl
theorem q631 : Cond.instanceMethod (⟨"DigitBench", "value", "(III)Z"⟩ : MethodName) ∈ AL := al_t3 104 rfl rfl
theorem q632 : Cond.selects "DigitBench" (⟨"DigitBench", "value", "(III)Z"⟩ : MethodName) (⟨"DigitBench", "value", "(III)Z"⟩ : MethodName) ∈ AL := al_t3 105 rfl rfl
theorem q633 : Cond.code (⟨"DigitBench", "value", "(III)Z"⟩ : MethodName) prog_1_method_13_code 5 (Option.some FieldType.boolean) ∈ AL := al_t3 106 rfl rfl
theorem q634 : Cond.methodLink "DigitBench" 177 (⟨"DigitBench$RowValue", "reckon", "(LDigitBench$Root;LDigitBench$Tape;II)Z"⟩ : MethodName) ∈ AL := al_t3 107 rfl rfl
theorem q635 : Cond.instanceMethod (⟨"DigitBench$RowValue", "reckon", "(LDigitBench$Root;LDigitBench$Tape;II)Z"⟩ : MethodName) ∈ AL := al_t3 108 rfl rfl
theorem q636 : Cond.selects "DigitBench$RowValue" (⟨"DigitBench$RowValue", "reckon", "(LDigitBench$Root;LDigitBench$Tape;II)Z"⟩ : MethodName) (⟨"DigitBench$RowValue", "reckon", "(LDigitBench$Root;LDigitBench$Tape;II)Z"⟩ : MethodName) ∈ AL := al_t3 109 rfl rfl
theorem q637 : Cond.code (⟨"DigitBench$RowValue", "reckon", "(LDigitBench$Root;LDigitBench$Tape;II)Z"⟩ : MethodName) prog_7_method_2_code 6 (Option.some FieldType.boolean) ∈ AL := al_t3 110 rfl rfl
theorem q638 : Cond.methodLink "DigitBench$RowValue" 44 (⟨"DigitBench$Sum", "clear", "()V"⟩ : MethodName) ∈ AL := al_t3 111 rfl rfl
theorem q639 : Cond.instanceMethod (⟨"DigitBench$Sum", "clear", "()V"⟩ : MethodName) ∈ AL := al_t3 112 rfl rfl
theorem q640 : Cond.selects "DigitBench$Sum" (⟨"DigitBench$Sum", "clear", "()V"⟩ : MethodName) (⟨"DigitBench$Sum", "clear", "()V"⟩ : MethodName) ∈ AL := al_t3 113 rfl rfl
theorem q641 : Cond.code (⟨"DigitBench$Sum", "clear", "()V"⟩ : MethodName) prog_8_method_2_code 1 (Option.none : Option FieldType) ∈ AL := al_t3 114 rfl rfl
theorem q642 : Cond.methodLink "DigitBench$RowValue" 47 (⟨"DigitBench$RowValue", "addUpward", "(LDigitBench$Root;LDigitBench$Tape;II)Z"⟩ : MethodName) ∈ AL := al_t3 115 rfl rfl
theorem q644 : Cond.instanceMethod (⟨"DigitBench$RowValue", "addUpward", "(LDigitBench$Root;LDigitBench$Tape;II)Z"⟩ : MethodName) ∈ AL := al_t3 117 rfl rfl
theorem q645 : Cond.code (⟨"DigitBench$RowValue", "addUpward", "(LDigitBench$Root;LDigitBench$Tape;II)Z"⟩ : MethodName) prog_7_method_4_code 6 (Option.some FieldType.boolean) ∈ AL := al_t3 118 rfl rfl
theorem q646 : Cond.methodLink "DigitBench$RowValue" 64 (⟨"DigitBench$Num", "take", "(JJJ)Z"⟩ : MethodName) ∈ AL := al_t3 119 rfl rfl
theorem q647 : Cond.methodLink "DigitBench$RowValue" 76 (⟨"DigitBench$Root", "multiplyByX", "(LDigitBench$Num;)Z"⟩ : MethodName) ∈ AL := al_t3 120 rfl rfl
theorem q648 : Cond.instanceMethod (⟨"DigitBench$Root", "multiplyByX", "(LDigitBench$Num;)Z"⟩ : MethodName) ∈ AL := al_t3 121 rfl rfl
theorem q649 : Cond.selects "DigitBench$Root" (⟨"DigitBench$Root", "multiplyByX", "(LDigitBench$Num;)Z"⟩ : MethodName) (⟨"DigitBench$Root", "multiplyByX", "(LDigitBench$Num;)Z"⟩ : MethodName) ∈ AL := al_t3 122 rfl rfl
theorem q650 : Cond.code (⟨"DigitBench$Root", "multiplyByX", "(LDigitBench$Num;)Z"⟩ : MethodName) prog_5_method_15_code 2 (Option.some FieldType.boolean) ∈ AL := al_t3 123 rfl rfl
theorem q651 : Cond.methodLink "DigitBench$RowValue" 95 (⟨"DigitBench$Tape", "at", "(I)I"⟩ : MethodName) ∈ AL := al_t3 124 rfl rfl
theorem q652 : Cond.instanceMethod (⟨"DigitBench$Tape", "at", "(I)I"⟩ : MethodName) ∈ AL := al_t3 125 rfl rfl
theorem q653 : Cond.selects "DigitBench$Tape" (⟨"DigitBench$Tape", "at", "(I)I"⟩ : MethodName) (⟨"DigitBench$Tape", "at", "(I)I"⟩ : MethodName) ∈ AL := al_t3 126 rfl rfl
theorem q654 : Cond.code (⟨"DigitBench$Tape", "at", "(I)I"⟩ : MethodName) prog_9_method_4_code 2 (Option.some FieldType.int) ∈ AL := al_t3 127 rfl rfl
theorem q655 : Cond.methodLink "DigitBench$RowValue" 99 (⟨"DigitBench$Sum", "add", "(ILDigitBench$Num;)V"⟩ : MethodName) ∈ AL := al_t3 128 rfl rfl
theorem q656 : Cond.instanceMethod (⟨"DigitBench$Sum", "add", "(ILDigitBench$Num;)V"⟩ : MethodName) ∈ AL := al_t3 129 rfl rfl
theorem q657 : Cond.selects "DigitBench$Sum" (⟨"DigitBench$Sum", "add", "(ILDigitBench$Num;)V"⟩ : MethodName) (⟨"DigitBench$Sum", "add", "(ILDigitBench$Num;)V"⟩ : MethodName) ∈ AL := al_t3 130 rfl rfl
theorem q658 : Cond.code (⟨"DigitBench$Sum", "add", "(ILDigitBench$Num;)V"⟩ : MethodName) prog_8_method_3_code 11 (Option.none : Option FieldType) ∈ AL := al_t3 131 rfl rfl
theorem q660 : Cond.methodLink "DigitBench$RowValue" 51 (⟨"DigitBench$RowValue", "addDownward", "(LDigitBench$Root;LDigitBench$Tape;II)Z"⟩ : MethodName) ∈ AL := al_t3 133 rfl rfl
theorem q662 : Cond.instanceMethod (⟨"DigitBench$RowValue", "addDownward", "(LDigitBench$Root;LDigitBench$Tape;II)Z"⟩ : MethodName) ∈ AL := al_t3 135 rfl rfl
theorem q663 : Cond.code (⟨"DigitBench$RowValue", "addDownward", "(LDigitBench$Root;LDigitBench$Tape;II)Z"⟩ : MethodName) prog_7_method_5_code 6 (Option.some FieldType.boolean) ∈ AL := al_t3 136 rfl rfl
theorem q664 : Cond.methodLink "DigitBench$RowValue" 103 (⟨"DigitBench$Root", "divideByX", "(LDigitBench$Num;)Z"⟩ : MethodName) ∈ AL := al_t3 137 rfl rfl
theorem q665 : Cond.instanceMethod (⟨"DigitBench$Root", "divideByX", "(LDigitBench$Num;)Z"⟩ : MethodName) ∈ AL := al_t3 138 rfl rfl
theorem q666 : Cond.selects "DigitBench$Root" (⟨"DigitBench$Root", "divideByX", "(LDigitBench$Num;)Z"⟩ : MethodName) (⟨"DigitBench$Root", "divideByX", "(LDigitBench$Num;)Z"⟩ : MethodName) ∈ AL := al_t3 139 rfl rfl
theorem q667 : Cond.code (⟨"DigitBench$Root", "divideByX", "(LDigitBench$Num;)Z"⟩ : MethodName) prog_5_method_16_code 3 (Option.some FieldType.boolean) ∈ AL := al_t3 140 rfl rfl
theorem q668 : Cond.methodLink "DigitBench$RowValue" 68 (⟨"DigitBench$Num", "copy", "(LDigitBench$Num;)Z"⟩ : MethodName) ∈ AL := al_t3 141 rfl rfl
theorem q669 : Cond.instanceMethod (⟨"DigitBench$Num", "copy", "(LDigitBench$Num;)Z"⟩ : MethodName) ∈ AL := al_t3 142 rfl rfl
theorem q670 : Cond.selects "DigitBench$Num" (⟨"DigitBench$Num", "copy", "(LDigitBench$Num;)Z"⟩ : MethodName) (⟨"DigitBench$Num", "copy", "(LDigitBench$Num;)Z"⟩ : MethodName) ∈ AL := al_t3 143 rfl rfl
theorem q671 : Cond.code (⟨"DigitBench$Num", "copy", "(LDigitBench$Num;)Z"⟩ : MethodName) prog_2_method_3_code 2 (Option.some FieldType.boolean) ∈ AL := al_t3 144 rfl rfl
theorem q672 : Cond.methodLink "DigitBench$Num" 37 (⟨"DigitBench$Num", "take", "(JJJ)Z"⟩ : MethodName) ∈ AL := al_t3 145 rfl rfl
theorem q673 : Cond.methodLink "DigitBench$RowValue" 72 (⟨"DigitBench$RowValue", "addRound", "(LDigitBench$Root;LDigitBench$Tape;I)Z"⟩ : MethodName) ∈ AL := al_t3 146 rfl rfl
theorem q675 : Cond.instanceMethod (⟨"DigitBench$RowValue", "addRound", "(LDigitBench$Root;LDigitBench$Tape;I)Z"⟩ : MethodName) ∈ AL := al_t3 148 rfl rfl
theorem q676 : Cond.code (⟨"DigitBench$RowValue", "addRound", "(LDigitBench$Root;LDigitBench$Tape;I)Z"⟩ : MethodName) prog_7_method_3_code 4 (Option.some FieldType.boolean) ∈ AL := al_t3 149 rfl rfl
theorem q677 : Cond.methodLink "DigitBench$RowValue" 84 (⟨"DigitBench$Root", "divide", "(LDigitBench$Num;LDigitBench$Num;LDigitBench$Num;)Z"⟩ : MethodName) ∈ AL := al_t3 150 rfl rfl
theorem q678 : Cond.methodLink "DigitBench$RowValue" 88 (⟨"DigitBench$Root", "multiply", "(LDigitBench$Num;LDigitBench$Num;LDigitBench$Num;)Z"⟩ : MethodName) ∈ AL := al_t3 151 rfl rfl
theorem q679 : Cond.methodLink "DigitBench$RowValue" 91 (⟨"DigitBench$Root", "join", "(LDigitBench$Num;LDigitBench$Num;LDigitBench$Num;I)Z"⟩ : MethodName) ∈ AL := al_t3 152 rfl rfl
theorem q680 : Cond.methodLink "DigitBench" 185 (⟨"DigitBench$Num", "copy", "(LDigitBench$Num;)Z"⟩ : MethodName) ∈ AL := al_t3 153 rfl rfl
theorem q681 : Cond.methodLink "DigitBenchLaw" 92 (⟨"DigitBench", "allowed", "()I"⟩ : MethodName) ∈ AL := al_t3 154 rfl rfl
theorem q682 : Cond.instanceMethod (⟨"DigitBench", "allowed", "()I"⟩ : MethodName) ∈ AL := al_t3 155 rfl rfl
theorem q683 : Cond.selects "DigitBench" (⟨"DigitBench", "allowed", "()I"⟩ : MethodName) (⟨"DigitBench", "allowed", "()I"⟩ : MethodName) ∈ AL := al_t3 156 rfl rfl
theorem q684 : Cond.code (⟨"DigitBench", "allowed", "()I"⟩ : MethodName) prog_1_method_14_code 2 (Option.some FieldType.int) ∈ AL := al_t3 157 rfl rfl
theorem q685 : Cond.methodLink "DigitBench" 189 (⟨"DigitBench$Tape", "hasNegative", "()Z"⟩ : MethodName) ∈ AL := al_t3 158 rfl rfl
theorem q686 : Cond.instanceMethod (⟨"DigitBench$Tape", "hasNegative", "()Z"⟩ : MethodName) ∈ AL := al_t3 159 rfl rfl
theorem q687 : Cond.selects "DigitBench$Tape" (⟨"DigitBench$Tape", "hasNegative", "()Z"⟩ : MethodName) (⟨"DigitBench$Tape", "hasNegative", "()Z"⟩ : MethodName) ∈ AL := al_t3 160 rfl rfl
theorem q688 : Cond.code (⟨"DigitBench$Tape", "hasNegative", "()Z"⟩ : MethodName) prog_9_method_5_code 2 (Option.some FieldType.boolean) ∈ AL := al_t3 161 rfl rfl
theorem q689 : Cond.methodLink "DigitBench" 192 (⟨"DigitBench", "firstAboveBar", "()I"⟩ : MethodName) ∈ AL := al_t3 162 rfl rfl
theorem q691 : Cond.instanceMethod (⟨"DigitBench", "firstAboveBar", "()I"⟩ : MethodName) ∈ AL := al_t3 164 rfl rfl
theorem q692 : Cond.code (⟨"DigitBench", "firstAboveBar", "()I"⟩ : MethodName) prog_1_method_33_code 2 (Option.some FieldType.int) ∈ AL := al_t3 165 rfl rfl
theorem q693 : Cond.methodLink "DigitBench" 291 (⟨"DigitBench", "isAboveBar", "(I)Z"⟩ : MethodName) ∈ AL := al_t3 166 rfl rfl
theorem q695 : Cond.instanceMethod (⟨"DigitBench", "isAboveBar", "(I)Z"⟩ : MethodName) ∈ AL := al_t3 168 rfl rfl
theorem q696 : Cond.code (⟨"DigitBench", "isAboveBar", "(I)Z"⟩ : MethodName) prog_1_method_34_code 5 (Option.some FieldType.boolean) ∈ AL := al_t3 169 rfl rfl
theorem q697 : Cond.methodLink "DigitBench" 294 (⟨"DigitBench$Tape", "at", "(I)I"⟩ : MethodName) ∈ AL := al_t3 170 rfl rfl
theorem q698 : Cond.methodLink "DigitBench" 295 (⟨"DigitBench$Root", "digitOfBar", "(I)I"⟩ : MethodName) ∈ AL := al_t3 171 rfl rfl
theorem q699 : Cond.instanceMethod (⟨"DigitBench$Root", "digitOfBar", "(I)I"⟩ : MethodName) ∈ AL := al_t3 172 rfl rfl
theorem q700 : Cond.selects "DigitBench$Root" (⟨"DigitBench$Root", "digitOfBar", "(I)I"⟩ : MethodName) (⟨"DigitBench$Root", "digitOfBar", "(I)I"⟩ : MethodName) ∈ AL := al_t3 173 rfl rfl
theorem q701 : Cond.code (⟨"DigitBench$Root", "digitOfBar", "(I)I"⟩ : MethodName) prog_5_method_7_code 2 (Option.some FieldType.int) ∈ AL := al_t3 174 rfl rfl
theorem q702 : Cond.methodLink "DigitBench$Root" 56 (⟨"DigitBench$Root", "digitOfOne", "(I)I"⟩ : MethodName) ∈ AL := al_t3 175 rfl rfl
theorem q703 : Cond.instanceMethod (⟨"DigitBench$Root", "digitOfOne", "(I)I"⟩ : MethodName) ∈ AL := al_t3 176 rfl rfl
theorem q704 : Cond.selects "DigitBench$Root" (⟨"DigitBench$Root", "digitOfOne", "(I)I"⟩ : MethodName) (⟨"DigitBench$Root", "digitOfOne", "(I)I"⟩ : MethodName) ∈ AL := al_t3 177 rfl rfl
theorem q705 : Cond.code (⟨"DigitBench$Root", "digitOfOne", "(I)I"⟩ : MethodName) prog_5_method_6_code 2 (Option.some FieldType.int) ∈ AL := al_t3 178 rfl rfl
theorem q706 : Cond.methodLink "DigitBenchLaw" 102 (⟨"DigitBench", "whole", "(II)Z"⟩ : MethodName) ∈ AL := al_t3 179 rfl rfl
theorem q707 : Cond.instanceMethod (⟨"DigitBench", "whole", "(II)Z"⟩ : MethodName) ∈ AL := al_t3 180 rfl rfl
theorem q708 : Cond.selects "DigitBench" (⟨"DigitBench", "whole", "(II)Z"⟩ : MethodName) (⟨"DigitBench", "whole", "(II)Z"⟩ : MethodName) ∈ AL := al_t3 181 rfl rfl
theorem q709 : Cond.code (⟨"DigitBench", "whole", "(II)Z"⟩ : MethodName) prog_1_method_17_code 3 (Option.some FieldType.boolean) ∈ AL := al_t3 182 rfl rfl
theorem q710 : Cond.constant "DigitBench" 207 (50000 : Int32) ∈ AL := al_t3 183 rfl rfl
theorem q711 : Cond.methodLink "DigitBench" 208 (⟨"DigitBench$Root", "putWhole", "(LDigitBench$Num;I)Z"⟩ : MethodName) ∈ AL := al_t3 184 rfl rfl
theorem q712 : Cond.instanceMethod (⟨"DigitBench$Root", "putWhole", "(LDigitBench$Num;I)Z"⟩ : MethodName) ∈ AL := al_t3 185 rfl rfl
theorem q713 : Cond.selects "DigitBench$Root" (⟨"DigitBench$Root", "putWhole", "(LDigitBench$Num;I)Z"⟩ : MethodName) (⟨"DigitBench$Root", "putWhole", "(LDigitBench$Num;I)Z"⟩ : MethodName) ∈ AL := al_t3 186 rfl rfl
theorem q714 : Cond.code (⟨"DigitBench$Root", "putWhole", "(LDigitBench$Num;I)Z"⟩ : MethodName) prog_5_method_17_code 12 (Option.some FieldType.boolean) ∈ AL := al_t3 187 rfl rfl
theorem q715 : Cond.methodLink "DigitBench$Root" 90 (⟨"java/lang/Math", "min", "(II)I"⟩ : MethodName) ∈ AL := al_t3 188 rfl rfl
theorem q716 : Cond.methodLink "DigitBenchLaw" 106 (⟨"DigitBench", "rank", "(I)I"⟩ : MethodName) ∈ AL := al_t3 189 rfl rfl
theorem q717 : Cond.instanceMethod (⟨"DigitBench", "rank", "(I)I"⟩ : MethodName) ∈ AL := al_t3 190 rfl rfl
theorem q718 : Cond.selects "DigitBench" (⟨"DigitBench", "rank", "(I)I"⟩ : MethodName) (⟨"DigitBench", "rank", "(I)I"⟩ : MethodName) ∈ AL := al_t3 191 rfl rfl
theorem q719 : Cond.code (⟨"DigitBench", "rank", "(I)I"⟩ : MethodName) prog_1_method_18_code 5 (Option.some FieldType.int) ∈ AL := al_t3 192 rfl rfl
theorem q720 : Cond.methodLink "DigitBench" 212 (⟨"DigitBench$Rest", "of", "(LDigitBench$Num;)V"⟩ : MethodName) ∈ AL := al_t3 193 rfl rfl
theorem q721 : Cond.methodLink "DigitBench" 216 (⟨"DigitBench$Rest", "greatestPower", "(LDigitBench$Root;)I"⟩ : MethodName) ∈ AL := al_t3 194 rfl rfl
theorem q722 : Cond.methodLink "DigitBench" 220 (⟨"DigitBench$Rest", "peel", "(LDigitBench$Root;I)I"⟩ : MethodName) ∈ AL := al_t3 195 rfl rfl
theorem q723 : Cond.methodLink "DigitBench" 203 (⟨"DigitBench$Root", "rowCount", "(I)J"⟩ : MethodName) ∈ AL := al_t3 196 rfl rfl
theorem q724 : Cond.instanceMethod (⟨"DigitBench$Root", "rowCount", "(I)J"⟩ : MethodName) ∈ AL := al_t3 197 rfl rfl
theorem q725 : Cond.selects "DigitBench$Root" (⟨"DigitBench$Root", "rowCount", "(I)J"⟩ : MethodName) (⟨"DigitBench$Root", "rowCount", "(I)J"⟩ : MethodName) ∈ AL := al_t3 198 rfl rfl
theorem q726 : Cond.code (⟨"DigitBench$Root", "rowCount", "(I)J"⟩ : MethodName) prog_5_method_8_code 2 (Option.some FieldType.long) ∈ AL := al_t3 199 rfl rfl
theorem q727 : Cond.methodLink "DigitBench" 224 (⟨"DigitBench$Rest", "isNothing", "()Z"⟩ : MethodName) ∈ AL := al_t3 200 rfl rfl
theorem q728 : Cond.constantLong "DigitBench" 227 (50000 : Int64) ∈ AL := al_t3 201 rfl rfl
theorem q729 : Cond.methodLink "DigitBenchLaw" 110 (⟨"DigitBench", "ring", "(ZIIII)Z"⟩ : MethodName) ∈ AL := al_t3 202 rfl rfl
theorem q730 : Cond.instanceMethod (⟨"DigitBench", "ring", "(ZIIII)Z"⟩ : MethodName) ∈ AL := al_t3 203 rfl rfl
theorem q731 : Cond.selects "DigitBench" (⟨"DigitBench", "ring", "(ZIIII)Z"⟩ : MethodName) (⟨"DigitBench", "ring", "(ZIIII)Z"⟩ : MethodName) ∈ AL := al_t3 204 rfl rfl
theorem q732 : Cond.code (⟨"DigitBench", "ring", "(ZIIII)Z"⟩ : MethodName) prog_1_method_19_code 6 (Option.some FieldType.boolean) ∈ AL := al_t3 205 rfl rfl
theorem q733 : Cond.methodLink "DigitBench" 229 (⟨"DigitBench$Ring", "becomeSingle", "(I)Z"⟩ : MethodName) ∈ AL := al_t3 206 rfl rfl
theorem q734 : Cond.methodLink "DigitBench" 232 (⟨"DigitBench$Ring", "becomeDouble", "(IIII)Z"⟩ : MethodName) ∈ AL := al_t3 207 rfl rfl
theorem q735 : Cond.instanceMethod (⟨"DigitBench$Ring", "becomeDouble", "(IIII)Z"⟩ : MethodName) ∈ AL := al_t3 208 rfl rfl
theorem q736 : Cond.selects "DigitBench$Ring" (⟨"DigitBench$Ring", "becomeDouble", "(IIII)Z"⟩ : MethodName) (⟨"DigitBench$Ring", "becomeDouble", "(IIII)Z"⟩ : MethodName) ∈ AL := al_t3 209 rfl rfl
theorem q737 : Cond.code (⟨"DigitBench$Ring", "becomeDouble", "(IIII)Z"⟩ : MethodName) prog_4_method_3_code 7 (Option.some FieldType.boolean) ∈ AL := al_t3 210 rfl rfl
theorem q738 : Cond.constantLong "DigitBench$Ring" 58 (9 : Int64) ∈ AL := al_t3 211 rfl rfl
theorem q739 : Cond.constantLong "DigitBench$Ring" 60 (100000 : Int64) ∈ AL := al_t3 212 rfl rfl
theorem q740 : Cond.methodLink "DigitBenchLaw" 115 (⟨"DigitBench", "set", "()Z"⟩ : MethodName) ∈ AL := al_t3 213 rfl rfl
theorem q741 : Cond.instanceMethod (⟨"DigitBench", "set", "()Z"⟩ : MethodName) ∈ AL := al_t3 214 rfl rfl
theorem q742 : Cond.selects "DigitBench" (⟨"DigitBench", "set", "()Z"⟩ : MethodName) (⟨"DigitBench", "set", "()Z"⟩ : MethodName) ∈ AL := al_t3 215 rfl rfl
theorem q743 : Cond.code (⟨"DigitBench", "set", "()Z"⟩ : MethodName) prog_1_method_20_code 2 (Option.some FieldType.boolean) ∈ AL := al_t3 216 rfl rfl
theorem q744 : Cond.methodLink "DigitBench" 236 (⟨"DigitBench$Ring", "takeDigits", "(LDigitBench$Tape;)Z"⟩ : MethodName) ∈ AL := al_t3 217 rfl rfl
theorem q745 : Cond.instanceMethod (⟨"DigitBench$Ring", "takeDigits", "(LDigitBench$Tape;)Z"⟩ : MethodName) ∈ AL := al_t3 218 rfl rfl
theorem q746 : Cond.selects "DigitBench$Ring" (⟨"DigitBench$Ring", "takeDigits", "(LDigitBench$Tape;)Z"⟩ : MethodName) (⟨"DigitBench$Ring", "takeDigits", "(LDigitBench$Tape;)Z"⟩ : MethodName) ∈ AL := al_t3 219 rfl rfl
theorem q747 : Cond.code (⟨"DigitBench$Ring", "takeDigits", "(LDigitBench$Tape;)Z"⟩ : MethodName) prog_4_method_5_code 3 (Option.some FieldType.boolean) ∈ AL := al_t3 220 rfl rfl
theorem q748 : Cond.methodLink "DigitBench$Ring" 84 (⟨"DigitBench$Ring", "fillKeys", "(LDigitBench$Tape;)Z"⟩ : MethodName) ∈ AL := al_t3 221 rfl rfl
theorem q750 : Cond.instanceMethod (⟨"DigitBench$Ring", "fillKeys", "(LDigitBench$Tape;)Z"⟩ : MethodName) ∈ AL := al_t3 223 rfl rfl
theorem q751 : Cond.code (⟨"DigitBench$Ring", "fillKeys", "(LDigitBench$Tape;)Z"⟩ : MethodName) prog_4_method_7_code 4 (Option.some FieldType.boolean) ∈ AL := al_t3 224 rfl rfl
theorem q752 : Cond.methodLink "DigitBench$Ring" 88 (⟨"DigitBench$Tape", "at", "(I)I"⟩ : MethodName) ∈ AL := al_t3 225 rfl rfl
theorem q753 : Cond.methodLink "DigitBench$Ring" 92 (⟨"DigitBench$Ring", "zOf", "(LDigitBench$Tape;I)I"⟩ : MethodName) ∈ AL := al_t3 226 rfl rfl
theorem q755 : Cond.instanceMethod (⟨"DigitBench$Ring", "zOf", "(LDigitBench$Tape;I)I"⟩ : MethodName) ∈ AL := al_t3 228 rfl rfl
theorem q756 : Cond.code (⟨"DigitBench$Ring", "zOf", "(LDigitBench$Tape;I)I"⟩ : MethodName) prog_4_method_6_code 3 (Option.some FieldType.int) ∈ AL := al_t3 229 rfl rfl
theorem q757 : Cond.methodLink "DigitBenchLaw" 120 (⟨"DigitBench", "write", "(II)I"⟩ : MethodName) ∈ AL := al_t3 230 rfl rfl
theorem q758 : Cond.instanceMethod (⟨"DigitBench", "write", "(II)I"⟩ : MethodName) ∈ AL := al_t3 231 rfl rfl
theorem q759 : Cond.selects "DigitBench" (⟨"DigitBench", "write", "(II)I"⟩ : MethodName) (⟨"DigitBench", "write", "(II)I"⟩ : MethodName) ∈ AL := al_t3 232 rfl rfl
theorem q760 : Cond.code (⟨"DigitBench", "write", "(II)I"⟩ : MethodName) prog_1_method_21_code 4 (Option.some FieldType.int) ∈ AL := al_t3 233 rfl rfl
theorem q761 : Cond.constantLong "DigitBench" 244 (100000 : Int64) ∈ AL := al_t3 234 rfl rfl
theorem q762 : Cond.methodLink "DigitBench" 246 (⟨"DigitBench", "isBeyond", "(JJ)Z"⟩ : MethodName) ∈ AL := al_t3 235 rfl rfl
theorem q763 : Cond.methodLink "DigitBench" 250 (⟨"DigitBench$Walk", "go", "(LDigitBench$Ring;LDigitBench$Trail;JJ)V"⟩ : MethodName) ∈ AL := al_t3 236 rfl rfl
theorem q764 : Cond.instanceMethod (⟨"DigitBench$Walk", "go", "(LDigitBench$Ring;LDigitBench$Trail;JJ)V"⟩ : MethodName) ∈ AL := al_t3 237 rfl rfl
theorem q765 : Cond.selects "DigitBench$Walk" (⟨"DigitBench$Walk", "go", "(LDigitBench$Ring;LDigitBench$Trail;JJ)V"⟩ : MethodName) (⟨"DigitBench$Walk", "go", "(LDigitBench$Ring;LDigitBench$Trail;JJ)V"⟩ : MethodName) ∈ AL := al_t3 238 rfl rfl
theorem q766 : Cond.code (⟨"DigitBench$Walk", "go", "(LDigitBench$Ring;LDigitBench$Trail;JJ)V"⟩ : MethodName) prog_12_method_2_code 13 (Option.none : Option FieldType) ∈ AL := al_t3 239 rfl rfl
theorem q767 : Cond.methodLink "DigitBench$Walk" 19 (⟨"DigitBench$Trail", "clear", "()V"⟩ : MethodName) ∈ AL := al_t4 0 rfl rfl
theorem q768 : Cond.methodLink "DigitBench$Walk" 24 (⟨"DigitBench$Walk", "settle", "(III)V"⟩ : MethodName) ∈ AL := al_t4 1 rfl rfl
theorem q770 : Cond.instanceMethod (⟨"DigitBench$Walk", "settle", "(III)V"⟩ : MethodName) ∈ AL := al_t4 3 rfl rfl
theorem q771 : Cond.code (⟨"DigitBench$Walk", "settle", "(III)V"⟩ : MethodName) prog_12_method_3_code 4 (Option.none : Option FieldType) ∈ AL := al_t4 4 rfl rfl
theorem q772 : Cond.constantLong "DigitBench$Walk" 28 (1000000 : Int64) ∈ AL := al_t4 5 rfl rfl
theorem q774 : Cond.methodLink "DigitBench$Walk" 34 (⟨"DigitBench$Trail", "meet", "(JJ)I"⟩ : MethodName) ∈ AL := al_t4 7 rfl rfl
theorem q775 : Cond.methodLink "DigitBench$Walk" 38 (⟨"DigitBench$Ring", "step", "(JJ)I"⟩ : MethodName) ∈ AL := al_t4 8 rfl rfl
theorem q776 : Cond.instanceMethod (⟨"DigitBench$Ring", "step", "(JJ)I"⟩ : MethodName) ∈ AL := al_t4 9 rfl rfl
theorem q777 : Cond.selects "DigitBench$Ring" (⟨"DigitBench$Ring", "step", "(JJ)I"⟩ : MethodName) (⟨"DigitBench$Ring", "step", "(JJ)I"⟩ : MethodName) ∈ AL := al_t4 10 rfl rfl
theorem q778 : Cond.code (⟨"DigitBench$Ring", "step", "(JJ)I"⟩ : MethodName) prog_4_method_12_code 11 (Option.some FieldType.int) ∈ AL := al_t4 11 rfl rfl
theorem q779 : Cond.methodLink "DigitBenchLaw" 124 (⟨"DigitBench", "written", "(I)I"⟩ : MethodName) ∈ AL := al_t4 12 rfl rfl
theorem q780 : Cond.instanceMethod (⟨"DigitBench", "written", "(I)I"⟩ : MethodName) ∈ AL := al_t4 13 rfl rfl
theorem q781 : Cond.selects "DigitBench" (⟨"DigitBench", "written", "(I)I"⟩ : MethodName) (⟨"DigitBench", "written", "(I)I"⟩ : MethodName) ∈ AL := al_t4 14 rfl rfl
theorem q782 : Cond.code (⟨"DigitBench", "written", "(I)I"⟩ : MethodName) prog_1_method_22_code 2 (Option.some FieldType.int) ∈ AL := al_t4 15 rfl rfl
theorem q783 : Cond.methodLink "DigitBenchLaw" 128 (⟨"DigitBench", "place", "(I)I"⟩ : MethodName) ∈ AL := al_t4 16 rfl rfl
theorem q784 : Cond.instanceMethod (⟨"DigitBench", "place", "(I)I"⟩ : MethodName) ∈ AL := al_t4 17 rfl rfl
theorem q785 : Cond.selects "DigitBench" (⟨"DigitBench", "place", "(I)I"⟩ : MethodName) (⟨"DigitBench", "place", "(I)I"⟩ : MethodName) ∈ AL := al_t4 18 rfl rfl
theorem q786 : Cond.code (⟨"DigitBench", "place", "(I)I"⟩ : MethodName) prog_1_method_23_code 2 (Option.some FieldType.int) ∈ AL := al_t4 19 rfl rfl
theorem q787 : Cond.methodLink "DigitBench" 257 (⟨"DigitBench$Walk", "at", "(I)I"⟩ : MethodName) ∈ AL := al_t4 20 rfl rfl
theorem q788 : Cond.instanceMethod (⟨"DigitBench$Walk", "at", "(I)I"⟩ : MethodName) ∈ AL := al_t4 21 rfl rfl
theorem q789 : Cond.selects "DigitBench$Walk" (⟨"DigitBench$Walk", "at", "(I)I"⟩ : MethodName) (⟨"DigitBench$Walk", "at", "(I)I"⟩ : MethodName) ∈ AL := al_t4 22 rfl rfl
theorem q790 : Cond.code (⟨"DigitBench$Walk", "at", "(I)I"⟩ : MethodName) prog_12_method_4_code 3 (Option.some FieldType.int) ∈ AL := al_t4 23 rfl rfl
theorem q791 : Cond.methodLink "DigitBenchLaw" 132 (⟨"DigitBench", "rounds", "(I)I"⟩ : MethodName) ∈ AL := al_t4 24 rfl rfl
theorem q792 : Cond.instanceMethod (⟨"DigitBench", "rounds", "(I)I"⟩ : MethodName) ∈ AL := al_t4 25 rfl rfl
theorem q793 : Cond.selects "DigitBench" (⟨"DigitBench", "rounds", "(I)I"⟩ : MethodName) (⟨"DigitBench", "rounds", "(I)I"⟩ : MethodName) ∈ AL := al_t4 26 rfl rfl
theorem q794 : Cond.code (⟨"DigitBench", "rounds", "(I)I"⟩ : MethodName) prog_1_method_24_code 3 (Option.some FieldType.int) ∈ AL := al_t4 27 rfl rfl
theorem q795 : Cond.methodLink "DigitBench" 258 (⟨"DigitBench", "surveyAll", "(I)Z"⟩ : MethodName) ∈ AL := al_t4 28 rfl rfl
theorem q797 : Cond.instanceMethod (⟨"DigitBench", "surveyAll", "(I)Z"⟩ : MethodName) ∈ AL := al_t4 30 rfl rfl
theorem q798 : Cond.code (⟨"DigitBench", "surveyAll", "(I)Z"⟩ : MethodName) prog_1_method_35_code 5 (Option.some FieldType.boolean) ∈ AL := al_t4 31 rfl rfl
theorem q799 : Cond.methodLink "DigitBench" 298 (⟨"DigitBench", "noteOutcome", "()V"⟩ : MethodName) ∈ AL := al_t4 32 rfl rfl
theorem q801 : Cond.instanceMethod (⟨"DigitBench", "noteOutcome", "()V"⟩ : MethodName) ∈ AL := al_t4 34 rfl rfl
theorem q802 : Cond.code (⟨"DigitBench", "noteOutcome", "()V"⟩ : MethodName) prog_1_method_36_code 2 (Option.none : Option FieldType) ∈ AL := al_t4 35 rfl rfl
theorem q803 : Cond.methodLink "DigitBench" 301 (⟨"DigitBench$Trail", "leastOf", "(II)I"⟩ : MethodName) ∈ AL := al_t4 36 rfl rfl
theorem q804 : Cond.instanceMethod (⟨"DigitBench$Trail", "leastOf", "(II)I"⟩ : MethodName) ∈ AL := al_t4 37 rfl rfl
theorem q805 : Cond.selects "DigitBench$Trail" (⟨"DigitBench$Trail", "leastOf", "(II)I"⟩ : MethodName) (⟨"DigitBench$Trail", "leastOf", "(II)I"⟩ : MethodName) ∈ AL := al_t4 38 rfl rfl
theorem q806 : Cond.code (⟨"DigitBench$Trail", "leastOf", "(II)I"⟩ : MethodName) prog_11_method_7_code 7 (Option.some FieldType.int) ∈ AL := al_t4 39 rfl rfl
theorem q807 : Cond.methodLink "DigitBench$Trail" 43 (⟨"DigitBench$Trail", "firstAt", "(I)J"⟩ : MethodName) ∈ AL := al_t4 40 rfl rfl
theorem q808 : Cond.instanceMethod (⟨"DigitBench$Trail", "firstAt", "(I)J"⟩ : MethodName) ∈ AL := al_t4 41 rfl rfl
theorem q809 : Cond.selects "DigitBench$Trail" (⟨"DigitBench$Trail", "firstAt", "(I)J"⟩ : MethodName) (⟨"DigitBench$Trail", "firstAt", "(I)J"⟩ : MethodName) ∈ AL := al_t4 42 rfl rfl
theorem q810 : Cond.code (⟨"DigitBench$Trail", "firstAt", "(I)J"⟩ : MethodName) prog_11_method_5_code 2 (Option.some FieldType.long) ∈ AL := al_t4 43 rfl rfl
theorem q811 : Cond.methodLink "DigitBench$Trail" 47 (⟨"DigitBench$Trail", "secondAt", "(I)J"⟩ : MethodName) ∈ AL := al_t4 44 rfl rfl
theorem q812 : Cond.instanceMethod (⟨"DigitBench$Trail", "secondAt", "(I)J"⟩ : MethodName) ∈ AL := al_t4 45 rfl rfl
theorem q813 : Cond.selects "DigitBench$Trail" (⟨"DigitBench$Trail", "secondAt", "(I)J"⟩ : MethodName) (⟨"DigitBench$Trail", "secondAt", "(I)J"⟩ : MethodName) ∈ AL := al_t4 46 rfl rfl
theorem q814 : Cond.code (⟨"DigitBench$Trail", "secondAt", "(I)J"⟩ : MethodName) prog_11_method_6_code 2 (Option.some FieldType.long) ∈ AL := al_t4 47 rfl rfl
theorem q815 : Cond.methodLink "DigitBench" 305 (⟨"DigitBench$Trail", "firstAt", "(I)J"⟩ : MethodName) ∈ AL := al_t4 48 rfl rfl
theorem q816 : Cond.methodLink "DigitBench" 308 (⟨"DigitBench$Trail", "secondAt", "(I)J"⟩ : MethodName) ∈ AL := al_t4 49 rfl rfl
theorem q817 : Cond.methodLink "DigitBench" 311 (⟨"DigitBench$RoundList", "include", "(III)V"⟩ : MethodName) ∈ AL := al_t4 50 rfl rfl
theorem q818 : Cond.instanceMethod (⟨"DigitBench$RoundList", "include", "(III)V"⟩ : MethodName) ∈ AL := al_t4 51 rfl rfl
theorem q819 : Cond.selects "DigitBench$RoundList" (⟨"DigitBench$RoundList", "include", "(III)V"⟩ : MethodName) (⟨"DigitBench$RoundList", "include", "(III)V"⟩ : MethodName) ∈ AL := al_t4 52 rfl rfl
theorem q820 : Cond.code (⟨"DigitBench$RoundList", "include", "(III)V"⟩ : MethodName) prog_6_method_2_code 7 (Option.none : Option FieldType) ∈ AL := al_t4 53 rfl rfl
theorem q821 : Cond.methodLink "DigitBench$RoundList" 23 (⟨"DigitBench$RoundList", "isLess", "(III)Z"⟩ : MethodName) ∈ AL := al_t4 54 rfl rfl
theorem q823 : Cond.instanceMethod (⟨"DigitBench$RoundList", "isLess", "(III)Z"⟩ : MethodName) ∈ AL := al_t4 56 rfl rfl
theorem q824 : Cond.code (⟨"DigitBench$RoundList", "isLess", "(III)Z"⟩ : MethodName) prog_6_method_3_code 4 (Option.some FieldType.boolean) ∈ AL := al_t4 57 rfl rfl
theorem q825 : Cond.methodLink "DigitBenchLaw" 139 (⟨"DigitBench", "ending", "(I)I"⟩ : MethodName) ∈ AL := al_t4 58 rfl rfl
theorem q826 : Cond.instanceMethod (⟨"DigitBench", "ending", "(I)I"⟩ : MethodName) ∈ AL := al_t4 59 rfl rfl
theorem q827 : Cond.selects "DigitBench" (⟨"DigitBench", "ending", "(I)I"⟩ : MethodName) (⟨"DigitBench", "ending", "(I)I"⟩ : MethodName) ∈ AL := al_t4 60 rfl rfl
theorem q828 : Cond.code (⟨"DigitBench", "ending", "(I)I"⟩ : MethodName) prog_1_method_26_code 2 (Option.some FieldType.int) ∈ AL := al_t4 61 rfl rfl
theorem q829 : Cond.methodLink "DigitBenchLaw" 143 (⟨"DigitBench", "count", "(I)I"⟩ : MethodName) ∈ AL := al_t4 62 rfl rfl
theorem q830 : Cond.instanceMethod (⟨"DigitBench", "count", "(I)I"⟩ : MethodName) ∈ AL := al_t4 63 rfl rfl
theorem q831 : Cond.selects "DigitBench" (⟨"DigitBench", "count", "(I)I"⟩ : MethodName) (⟨"DigitBench", "count", "(I)I"⟩ : MethodName) ∈ AL := al_t4 64 rfl rfl
theorem q832 : Cond.code (⟨"DigitBench", "count", "(I)I"⟩ : MethodName) prog_1_method_27_code 2 (Option.some FieldType.int) ∈ AL := al_t4 65 rfl rfl
theorem q833 : Cond.methodLink "DigitBench" 283 (⟨"DigitBench$Root", "top", "()I"⟩ : MethodName) ∈ AL := al_t4 66 rfl rfl
theorem q834 : Cond.methodLink "DigitBench" 285 (⟨"DigitBench", "numbersThere", "()I"⟩ : MethodName) ∈ AL := al_t4 67 rfl rfl
theorem q836 : Cond.instanceMethod (⟨"DigitBench", "numbersThere", "()I"⟩ : MethodName) ∈ AL := al_t4 69 rfl rfl
theorem q837 : Cond.code (⟨"DigitBench", "numbersThere", "()I"⟩ : MethodName) prog_1_method_31_code 3 (Option.some FieldType.int) ∈ AL := al_t4 70 rfl rfl
theorem q838 : Cond.methodLink "DigitBenchLaw" 57 (⟨"DigitBenchLaw", "part", "(LDigitBench;II[J)I"⟩ : MethodName) ∈ AL := al_t4 71 rfl rfl
theorem q839 : Cond.static (⟨"DigitBenchLaw", "part", "(LDigitBench;II[J)I"⟩ : MethodName) ∈ AL := al_t4 72 rfl rfl
theorem q841 : Cond.classLink "DigitBenchLaw" 13 "java/util/NoSuchElementException" ∈ AL := al_t4 74 rfl rfl
theorem q842 : Cond.methodLink "DigitBenchLaw" 7 (⟨"DigitBench", "part", "(II)I"⟩ : MethodName) ∈ AL := al_t4 75 rfl rfl
theorem q843 : Cond.instanceMethod (⟨"DigitBench", "part", "(II)I"⟩ : MethodName) ∈ AL := al_t4 76 rfl rfl
theorem q844 : Cond.selects "DigitBench" (⟨"DigitBench", "part", "(II)I"⟩ : MethodName) (⟨"DigitBench", "part", "(II)I"⟩ : MethodName) ∈ AL := al_t4 77 rfl rfl
theorem q845 : Cond.code (⟨"DigitBench", "part", "(II)I"⟩ : MethodName) prog_1_method_7_code 4 (Option.some FieldType.int) ∈ AL := al_t4 78 rfl rfl
theorem q846 : Cond.classLink "DigitBench" 130 "java/util/NoSuchElementException" ∈ AL := al_t4 79 rfl rfl
theorem q847 : Cond.instantiable "java/util/NoSuchElementException" 6 ∈ AL := al_t4 80 rfl rfl
theorem q855 : Cond.selects "java/util/NoSuchElementException" (⟨"java/lang/Throwable", "fillInStackTrace", "(I)Ljava/lang/Throwable;"⟩ : MethodName) (⟨"java/lang/Throwable", "fillInStackTrace", "(I)Ljava/lang/Throwable;"⟩ : MethodName) ∈ AL := al_t4 88 rfl rfl
theorem q856 : Cond.selects "java/util/NoSuchElementException" (⟨"java/lang/Throwable", "fillInStackTrace", "()Ljava/lang/Throwable;"⟩ : MethodName) (⟨"java/lang/Throwable", "fillInStackTrace", "()Ljava/lang/Throwable;"⟩ : MethodName) ∈ AL := al_t4 89 rfl rfl
theorem q857 : Cond.lays "java/util/NoSuchElementException" "java/lang/Throwable" "cause" "Ljava/lang/Throwable;" ∈ AL := al_t4 90 rfl rfl
theorem q858 : Cond.lays "java/lang/Throwable" "java/lang/Throwable" "cause" "Ljava/lang/Throwable;" ∈ AL := al_t4 91 rfl rfl
theorem q859 : Cond.lays "java/util/NoSuchElementException" "java/lang/Throwable" "stackTrace" "[Ljava/lang/StackTraceElement;" ∈ AL := al_t4 92 rfl rfl
theorem q860 : Cond.lays "java/lang/Throwable" "java/lang/Throwable" "stackTrace" "[Ljava/lang/StackTraceElement;" ∈ AL := al_t4 93 rfl rfl
theorem q861 : Cond.lays "java/util/NoSuchElementException" "java/lang/Throwable" "suppressedExceptions" "Ljava/util/List;" ∈ AL := al_t4 94 rfl rfl
theorem q862 : Cond.lays "java/lang/Throwable" "java/lang/Throwable" "suppressedExceptions" "Ljava/util/List;" ∈ AL := al_t4 95 rfl rfl
theorem q863 : Cond.lays "java/util/NoSuchElementException" "java/lang/Throwable" "detailMessage" "Ljava/lang/String;" ∈ AL := al_t4 96 rfl rfl
theorem q864 : Cond.lays "java/lang/Throwable" "java/lang/Throwable" "detailMessage" "Ljava/lang/String;" ∈ AL := al_t4 97 rfl rfl
theorem q865 : Cond.lays "java/util/NoSuchElementException" "java/lang/Throwable" "backtrace" "Ljava/lang/Object;" ∈ AL := al_t4 98 rfl rfl
theorem q866 : Cond.lays "java/lang/Throwable" "java/lang/Throwable" "backtrace" "Ljava/lang/Object;" ∈ AL := al_t4 99 rfl rfl
theorem q867 : Cond.fieldLink "java/lang/Throwable" 198 "java/lang/Throwable" "backtrace" "Ljava/lang/Object;" ∈ AL := al_t4 100 rfl rfl
theorem q869 : Cond.instanceMethod (⟨"java/lang/Throwable", "<init>", "()V"⟩ : MethodName) ∈ AL := al_t4 102 rfl rfl
theorem q870 : Cond.code (⟨"java/lang/Throwable", "<init>", "()V"⟩ : MethodName) prog_19_method_1_code 1 (Option.none : Option FieldType) ∈ AL := al_t4 103 rfl rfl
theorem q871 : Cond.methodLink "java/lang/Throwable" 1 (⟨"java/lang/Object", "<init>", "()V"⟩ : MethodName) ∈ AL := al_t4 104 rfl rfl
theorem q872 : Cond.fieldLink "java/lang/Throwable" 13 "java/lang/Throwable" "UNASSIGNED_STACK" "[Ljava/lang/StackTraceElement;" ∈ AL := al_t4 105 rfl rfl
theorem q874 : Cond.fieldLink "java/lang/Throwable" 20 "java/lang/Throwable" "SUPPRESSED_SENTINEL" "Ljava/util/List;" ∈ AL := al_t4 107 rfl rfl
theorem q876 : Cond.methodLink "java/lang/Throwable" 27 (⟨"java/lang/Throwable", "fillInStackTrace", "()Ljava/lang/Throwable;"⟩ : MethodName) ∈ AL := al_t4 109 rfl rfl
theorem q877 : Cond.instanceMethod (⟨"java/lang/Throwable", "fillInStackTrace", "()Ljava/lang/Throwable;"⟩ : MethodName) ∈ AL := al_t4 110 rfl rfl
theorem q880 : Cond.methodLink "java/lang/Throwable" 202 (⟨"java/lang/Throwable", "fillInStackTrace", "(I)Ljava/lang/Throwable;"⟩ : MethodName) ∈ AL := al_t4 113 rfl rfl
theorem q882 : Cond.instanceMethod (⟨"java/lang/Throwable", "fillInStackTrace", "(I)Ljava/lang/Throwable;"⟩ : MethodName) ∈ AL := al_t4 115 rfl rfl
theorem q883 : Cond.instantiable "java/lang/Throwable" 6 ∈ AL := al_t4 116 rfl rfl
theorem q886 : Cond.methodLink "DigitBench" 134 (⟨"java/util/NoSuchElementException", "<init>", "(Ljava/lang/String;)V"⟩ : MethodName) ∈ AL := al_t4 119 rfl rfl
theorem q887 : Cond.instanceMethod (⟨"java/util/NoSuchElementException", "<init>", "(Ljava/lang/String;)V"⟩ : MethodName) ∈ AL := al_t4 120 rfl rfl
theorem q888 : Cond.code (⟨"java/util/NoSuchElementException", "<init>", "(Ljava/lang/String;)V"⟩ : MethodName) prog_20_method_4_code 2 (Option.none : Option FieldType) ∈ AL := al_t4 121 rfl rfl
theorem q889 : Cond.methodLink "java/util/NoSuchElementException" 13 (⟨"java/lang/RuntimeException", "<init>", "(Ljava/lang/String;)V"⟩ : MethodName) ∈ AL := al_t4 122 rfl rfl
theorem q890 : Cond.instanceMethod (⟨"java/lang/RuntimeException", "<init>", "(Ljava/lang/String;)V"⟩ : MethodName) ∈ AL := al_t4 123 rfl rfl
theorem q891 : Cond.code (⟨"java/lang/RuntimeException", "<init>", "(Ljava/lang/String;)V"⟩ : MethodName) prog_17_method_2_code 2 (Option.none : Option FieldType) ∈ AL := al_t4 124 rfl rfl
theorem q892 : Cond.methodLink "java/lang/RuntimeException" 7 (⟨"java/lang/Exception", "<init>", "(Ljava/lang/String;)V"⟩ : MethodName) ∈ AL := al_t4 125 rfl rfl
theorem q893 : Cond.instanceMethod (⟨"java/lang/Exception", "<init>", "(Ljava/lang/String;)V"⟩ : MethodName) ∈ AL := al_t4 126 rfl rfl
theorem q894 : Cond.code (⟨"java/lang/Exception", "<init>", "(Ljava/lang/String;)V"⟩ : MethodName) prog_15_method_2_code 2 (Option.none : Option FieldType) ∈ AL := al_t4 127 rfl rfl
theorem q895 : Cond.methodLink "java/lang/Exception" 7 (⟨"java/lang/Throwable", "<init>", "(Ljava/lang/String;)V"⟩ : MethodName) ∈ AL := al_t4 128 rfl rfl
theorem q896 : Cond.instanceMethod (⟨"java/lang/Throwable", "<init>", "(Ljava/lang/String;)V"⟩ : MethodName) ∈ AL := al_t4 129 rfl rfl
theorem q897 : Cond.code (⟨"java/lang/Throwable", "<init>", "(Ljava/lang/String;)V"⟩ : MethodName) prog_19_method_2_code 2 (Option.none : Option FieldType) ∈ AL := al_t4 130 rfl rfl
theorem q899 : Cond.fieldLink "java/lang/Throwable" 31 "java/lang/Throwable" "detailMessage" "Ljava/lang/String;" ∈ AL := al_t4 132 rfl rfl
theorem q900 : Cond.fieldLink "java/lang/Throwable" 7 "java/lang/Throwable" "cause" "Ljava/lang/Throwable;" ∈ AL := al_t4 133 rfl rfl
theorem q901 : Cond.fieldLink "java/lang/Throwable" 17 "java/lang/Throwable" "stackTrace" "[Ljava/lang/StackTraceElement;" ∈ AL := al_t4 134 rfl rfl
theorem q902 : Cond.fieldLink "java/lang/Throwable" 24 "java/lang/Throwable" "suppressedExceptions" "Ljava/util/List;" ∈ AL := al_t4 135 rfl rfl
theorem q907 : Cond.lays "java/util/NoSuchElementException" "java/lang/Throwable" "depth" "I" ∈ AL := al_t4 140 rfl rfl
theorem q911 : Cond.methodLink "DigitBenchLaw" 71 (⟨"DigitBenchLaw", "floor", "(LDigitBench;I[J)I"⟩ : MethodName) ∈ AL := al_t4 144 rfl rfl
theorem q912 : Cond.static (⟨"DigitBenchLaw", "floor", "(LDigitBench;I[J)I"⟩ : MethodName) ∈ AL := al_t4 145 rfl rfl
theorem q914 : Cond.methodLink "DigitBenchLaw" 15 (⟨"DigitBench", "floor", "(I)J"⟩ : MethodName) ∈ AL := al_t4 147 rfl rfl
theorem q915 : Cond.instanceMethod (⟨"DigitBench", "floor", "(I)J"⟩ : MethodName) ∈ AL := al_t4 148 rfl rfl
theorem q916 : Cond.selects "DigitBench" (⟨"DigitBench", "floor", "(I)J"⟩ : MethodName) (⟨"DigitBench", "floor", "(I)J"⟩ : MethodName) ∈ AL := al_t4 149 rfl rfl
theorem q917 : Cond.code (⟨"DigitBench", "floor", "(I)J"⟩ : MethodName) prog_1_method_9_code 2 (Option.some FieldType.long) ∈ AL := al_t4 150 rfl rfl
theorem q919 : Cond.methodLink "DigitBench" 153 (⟨"DigitBench$Root", "wholeBelow", "(LDigitBench$Num;)J"⟩ : MethodName) ∈ AL := al_t4 152 rfl rfl
theorem q920 : Cond.instanceMethod (⟨"DigitBench$Root", "wholeBelow", "(LDigitBench$Num;)J"⟩ : MethodName) ∈ AL := al_t4 153 rfl rfl
theorem q921 : Cond.selects "DigitBench$Root" (⟨"DigitBench$Root", "wholeBelow", "(LDigitBench$Num;)J"⟩ : MethodName) (⟨"DigitBench$Root", "wholeBelow", "(LDigitBench$Num;)J"⟩ : MethodName) ∈ AL := al_t4 154 rfl rfl
theorem q922 : Cond.code (⟨"DigitBench$Root", "wholeBelow", "(LDigitBench$Num;)J"⟩ : MethodName) prog_5_method_10_code 8 (Option.some FieldType.long) ∈ AL := al_t4 155 rfl rfl
theorem q923 : Cond.methodLink "DigitBench$Root" 67 (⟨"DigitBench$Root", "squareRoot", "(J)J"⟩ : MethodName) ∈ AL := al_t4 156 rfl rfl
theorem q924 : Cond.static (⟨"DigitBench$Root", "squareRoot", "(J)J"⟩ : MethodName) ∈ AL := al_t4 157 rfl rfl
theorem q925 : Cond.code (⟨"DigitBench$Root", "squareRoot", "(J)J"⟩ : MethodName) prog_5_method_11_code 7 (Option.some FieldType.long) ∈ AL := al_t4 158 rfl rfl
theorem q926 : Cond.methodLink "DigitBench$Root" 77 (⟨"java/lang/Math", "floorDiv", "(JJ)J"⟩ : MethodName) ∈ AL := al_t4 159 rfl rfl
theorem q927 : Cond.static (⟨"java/lang/Math", "floorDiv", "(JJ)J"⟩ : MethodName) ∈ AL := al_t4 160 rfl rfl
theorem q928 : Cond.code (⟨"java/lang/Math", "floorDiv", "(JJ)J"⟩ : MethodName) prog_16_method_49_code 6 (Option.some FieldType.long) ∈ AL := al_t4 161 rfl rfl
theorem q929 : Cond.methodLink "DigitBenchLaw" 96 (⟨"DigitBenchLaw", "one", "(LDigitBench;I[J)I"⟩ : MethodName) ∈ AL := al_t4 162 rfl rfl
theorem q930 : Cond.static (⟨"DigitBenchLaw", "one", "(LDigitBench;I[J)I"⟩ : MethodName) ∈ AL := al_t4 163 rfl rfl
theorem q932 : Cond.methodLink "DigitBenchLaw" 19 (⟨"DigitBench", "one", "(I)I"⟩ : MethodName) ∈ AL := al_t4 165 rfl rfl
theorem q933 : Cond.instanceMethod (⟨"DigitBench", "one", "(I)I"⟩ : MethodName) ∈ AL := al_t4 166 rfl rfl
theorem q934 : Cond.selects "DigitBench" (⟨"DigitBench", "one", "(I)I"⟩ : MethodName) (⟨"DigitBench", "one", "(I)I"⟩ : MethodName) ∈ AL := al_t4 167 rfl rfl
theorem q935 : Cond.code (⟨"DigitBench", "one", "(I)I"⟩ : MethodName) prog_1_method_15_code 2 (Option.some FieldType.int) ∈ AL := al_t4 168 rfl rfl
theorem q937 : Cond.methodLink "DigitBench" 198 (⟨"DigitBench$Root", "digitOfOne", "(I)I"⟩ : MethodName) ∈ AL := al_t4 170 rfl rfl
theorem q938 : Cond.methodLink "DigitBenchLaw" 99 (⟨"DigitBenchLaw", "rows", "(LDigitBench;I[J)I"⟩ : MethodName) ∈ AL := al_t4 171 rfl rfl
theorem q939 : Cond.static (⟨"DigitBenchLaw", "rows", "(LDigitBench;I[J)I"⟩ : MethodName) ∈ AL := al_t4 172 rfl rfl
theorem q941 : Cond.methodLink "DigitBenchLaw" 23 (⟨"DigitBench", "rows", "(I)J"⟩ : MethodName) ∈ AL := al_t4 174 rfl rfl
theorem q942 : Cond.instanceMethod (⟨"DigitBench", "rows", "(I)J"⟩ : MethodName) ∈ AL := al_t4 175 rfl rfl
theorem q943 : Cond.selects "DigitBench" (⟨"DigitBench", "rows", "(I)J"⟩ : MethodName) (⟨"DigitBench", "rows", "(I)J"⟩ : MethodName) ∈ AL := al_t4 176 rfl rfl
theorem q944 : Cond.code (⟨"DigitBench", "rows", "(I)J"⟩ : MethodName) prog_1_method_16_code 2 (Option.some FieldType.long) ∈ AL := al_t4 177 rfl rfl
theorem q946 : Cond.methodLink "DigitBenchLaw" 136 (⟨"DigitBenchLaw", "round", "(LDigitBench;II[J)I"⟩ : MethodName) ∈ AL := al_t4 179 rfl rfl
theorem q947 : Cond.static (⟨"DigitBenchLaw", "round", "(LDigitBench;II[J)I"⟩ : MethodName) ∈ AL := al_t4 180 rfl rfl
theorem q949 : Cond.methodLink "DigitBenchLaw" 26 (⟨"DigitBench", "round", "(II)I"⟩ : MethodName) ∈ AL := al_t4 182 rfl rfl
theorem q950 : Cond.instanceMethod (⟨"DigitBench", "round", "(II)I"⟩ : MethodName) ∈ AL := al_t4 183 rfl rfl
theorem q951 : Cond.selects "DigitBench" (⟨"DigitBench", "round", "(II)I"⟩ : MethodName) (⟨"DigitBench", "round", "(II)I"⟩ : MethodName) ∈ AL := al_t4 184 rfl rfl
theorem q952 : Cond.code (⟨"DigitBench", "round", "(II)I"⟩ : MethodName) prog_1_method_25_code 3 (Option.some FieldType.int) ∈ AL := al_t4 185 rfl rfl
theorem q954 : Cond.classLink "DigitBenchLaw" 30 "DigitBenchModel" ∈ AL := al_t4 187 rfl rfl
theorem q955 : Cond.instantiable "DigitBenchModel" 61 ∈ AL := al_t4 188 rfl rfl
theorem q956 : Cond.methodLink "DigitBenchLaw" 32 (⟨"DigitBenchModel", "<init>", "()V"⟩ : MethodName) ∈ AL := al_t4 189 rfl rfl
theorem q957 : Cond.instanceMethod (⟨"DigitBenchModel", "<init>", "()V"⟩ : MethodName) ∈ AL := al_t4 190 rfl rfl
theorem q958 : Cond.code (⟨"DigitBenchModel", "<init>", "()V"⟩ : MethodName) prog_14_method_1_code 1 (Option.none : Option FieldType) ∈ AL := al_t4 191 rfl rfl
theorem q959 : Cond.methodLink "DigitBenchModel" 1 (⟨"java/lang/Object", "<init>", "()V"⟩ : MethodName) ∈ AL := al_t4 192 rfl rfl
theorem q960 : Cond.fieldLink "DigitBenchModel" 107 "DigitBenchModel" "thrown" "I" ∈ AL := al_t4 193 rfl rfl
theorem q961 : Cond.fieldLink "DigitBenchModel" 7 "DigitBenchModel" "tape" "[B" ∈ AL := al_t4 194 rfl rfl
theorem q962 : Cond.fieldLink "DigitBenchModel" 110 "DigitBenchModel" "length" "I" ∈ AL := al_t4 195 rfl rfl
theorem q963 : Cond.fieldLink "DigitBenchModel" 13 "DigitBenchModel" "a" "I" ∈ AL := al_t4 196 rfl rfl
theorem q964 : Cond.fieldLink "DigitBenchModel" 17 "DigitBenchModel" "b" "I" ∈ AL := al_t4 197 rfl rfl
theorem q965 : Cond.fieldLink "DigitBenchModel" 20 "DigitBenchModel" "root" "I" ∈ AL := al_t4 198 rfl rfl
theorem q966 : Cond.fieldLink "DigitBenchModel" 23 "DigitBenchModel" "has" "[Z" ∈ AL := al_t4 199 rfl rfl
theorem q967 : Cond.fieldLink "DigitBenchModel" 27 "DigitBenchModel" "us" "[I" ∈ AL := al_t4 200 rfl rfl
theorem q968 : Cond.fieldLink "DigitBenchModel" 31 "DigitBenchModel" "vs" "[I" ∈ AL := al_t4 201 rfl rfl
theorem q969 : Cond.fieldLink "DigitBenchModel" 34 "DigitBenchModel" "ds" "[I" ∈ AL := al_t4 202 rfl rfl
theorem q970 : Cond.fieldLink "DigitBenchModel" 131 "DigitBenchModel" "u" "J" ∈ AL := al_t4 203 rfl rfl
theorem q971 : Cond.fieldLink "DigitBenchModel" 135 "DigitBenchModel" "v" "J" ∈ AL := al_t4 204 rfl rfl
theorem q972 : Cond.fieldLink "DigitBenchModel" 138 "DigitBenchModel" "d" "J" ∈ AL := al_t4 205 rfl rfl
theorem q973 : Cond.fieldLink "DigitBenchModel" 121 "DigitBenchModel" "isTold" "Z" ∈ AL := al_t4 206 rfl rfl
theorem q974 : Cond.fieldLink "DigitBenchModel" 197 "DigitBenchModel" "result" "I" ∈ AL := al_t4 207 rfl rfl
theorem q975 : Cond.fieldLink "DigitBenchModel" 182 "DigitBenchModel" "top" "I" ∈ AL := al_t4 208 rfl rfl
theorem q976 : Cond.fieldLink "DigitBenchModel" 194 "DigitBenchModel" "ahead" "I" ∈ AL := al_t4 209 rfl rfl
theorem q977 : Cond.fieldLink "DigitBenchModel" 191 "DigitBenchModel" "round" "I" ∈ AL := al_t4 210 rfl rfl
theorem q978 : Cond.fieldLink "DigitBenchModel" 185 "DigitBenchModel" "digitMany" "I" ∈ AL := al_t4 211 rfl rfl
theorem q979 : Cond.fieldLink "DigitBenchModel" 37 "DigitBenchModel" "digit" "[J" ∈ AL := al_t4 212 rfl rfl
theorem q980 : Cond.fieldLink "DigitBenchModel" 41 "DigitBenchModel" "leftU" "[J" ∈ AL := al_t4 213 rfl rfl
theorem q981 : Cond.fieldLink "DigitBenchModel" 44 "DigitBenchModel" "leftV" "[J" ∈ AL := al_t4 214 rfl rfl
theorem q982 : Cond.fieldLink "DigitBenchModel" 200 "DigitBenchModel" "sumU" "J" ∈ AL := al_t4 215 rfl rfl
theorem q983 : Cond.fieldLink "DigitBenchModel" 203 "DigitBenchModel" "sumV" "J" ∈ AL := al_t4 216 rfl rfl
theorem q984 : Cond.fieldLink "DigitBenchModel" 206 "DigitBenchModel" "sumD" "J" ∈ AL := al_t4 217 rfl rfl
theorem q985 : Cond.fieldLink "DigitBenchModel" 47 "DigitBenchModel" "behind" "[J" ∈ AL := al_t4 218 rfl rfl
theorem q986 : Cond.fieldLink "DigitBenchModel" 50 "DigitBenchModel" "hand" "[I" ∈ AL := al_t4 219 rfl rfl
theorem q987 : Cond.fieldLink "DigitBenchModel" 53 "DigitBenchModel" "parts" "I" ∈ AL := al_t4 220 rfl rfl
theorem q988 : Cond.fieldLink "DigitBenchModel" 234 "DigitBenchModel" "ringP" "I" ∈ AL := al_t4 221 rfl rfl
theorem q989 : Cond.fieldLink "DigitBenchModel" 237 "DigitBenchModel" "ringQ" "I" ∈ AL := al_t4 222 rfl rfl
theorem q990 : Cond.fieldLink "DigitBenchModel" 56 "DigitBenchModel" "baseY" "I" ∈ AL := al_t4 223 rfl rfl
theorem q991 : Cond.fieldLink "DigitBenchModel" 240 "DigitBenchModel" "baseZ" "I" ∈ AL := al_t4 224 rfl rfl
theorem q992 : Cond.fieldLink "DigitBenchModel" 59 "DigitBenchModel" "norm" "I" ∈ AL := al_t4 225 rfl rfl
theorem q993 : Cond.fieldLink "DigitBenchModel" 62 "DigitBenchModel" "setMany" "I" ∈ AL := al_t4 226 rfl rfl
theorem q994 : Cond.fieldLink "DigitBenchModel" 65 "DigitBenchModel" "setY" "[I" ∈ AL := al_t4 227 rfl rfl
theorem q995 : Cond.fieldLink "DigitBenchModel" 68 "DigitBenchModel" "setZ" "[I" ∈ AL := al_t4 228 rfl rfl
theorem q996 : Cond.fieldLink "DigitBenchModel" 71 "DigitBenchModel" "freshY" "[I" ∈ AL := al_t4 229 rfl rfl
theorem q997 : Cond.fieldLink "DigitBenchModel" 74 "DigitBenchModel" "freshZ" "[I" ∈ AL := al_t4 230 rfl rfl
theorem q998 : Cond.fieldLink "DigitBenchModel" 243 "DigitBenchModel" "quotientY" "J" ∈ AL := al_t4 231 rfl rfl
theorem q999 : Cond.fieldLink "DigitBenchModel" 246 "DigitBenchModel" "quotientZ" "J" ∈ AL := al_t4 232 rfl rfl
theorem q1000 : Cond.fieldLink "DigitBenchModel" 77 "DigitBenchModel" "wayY" "[I" ∈ AL := al_t4 233 rfl rfl
theorem q1001 : Cond.fieldLink "DigitBenchModel" 80 "DigitBenchModel" "wayZ" "[I" ∈ AL := al_t4 234 rfl rfl
theorem q1002 : Cond.fieldLink "DigitBenchModel" 83 "DigitBenchModel" "places" "[I" ∈ AL := al_t4 235 rfl rfl
theorem q1003 : Cond.fieldLink "DigitBenchModel" 253 "DigitBenchModel" "placeMany" "I" ∈ AL := al_t4 236 rfl rfl
theorem q1004 : Cond.fieldLink "DigitBenchModel" 259 "DigitBenchModel" "met" "I" ∈ AL := al_t4 237 rfl rfl
theorem q1005 : Cond.fieldLink "DigitBenchModel" 256 "DigitBenchModel" "length0" "I" ∈ AL := al_t4 238 rfl rfl
theorem q1006 : Cond.fieldLink "DigitBenchModel" 262 "DigitBenchModel" "how" "I" ∈ AL := al_t4 239 rfl rfl
theorem q1007 : Cond.fieldLink "DigitBenchModel" 277 "DigitBenchModel" "isWritten" "Z" ∈ AL := al_t5 0 rfl rfl
theorem q1008 : Cond.fieldLink "DigitBenchModel" 280 "DigitBenchModel" "lastMet" "I" ∈ AL := al_t5 1 rfl rfl
theorem q1009 : Cond.fieldLink "DigitBenchModel" 283 "DigitBenchModel" "lastRound" "I" ∈ AL := al_t5 2 rfl rfl
theorem q1010 : Cond.fieldLink "DigitBenchModel" 286 "DigitBenchModel" "lastMany" "I" ∈ AL := al_t5 3 rfl rfl
theorem q1011 : Cond.fieldLink "DigitBenchModel" 86 "DigitBenchModel" "lastPlace" "[I" ∈ AL := al_t5 4 rfl rfl
theorem q1012 : Cond.fieldLink "DigitBenchModel" 89 "DigitBenchModel" "roundLong" "[I" ∈ AL := al_t5 5 rfl rfl
theorem q1013 : Cond.fieldLink "DigitBenchModel" 92 "DigitBenchModel" "roundY" "[I" ∈ AL := al_t5 6 rfl rfl
theorem q1014 : Cond.fieldLink "DigitBenchModel" 95 "DigitBenchModel" "roundZ" "[I" ∈ AL := al_t5 7 rfl rfl
theorem q1015 : Cond.fieldLink "DigitBenchModel" 98 "DigitBenchModel" "newLong" "[I" ∈ AL := al_t5 8 rfl rfl
theorem q1016 : Cond.fieldLink "DigitBenchModel" 101 "DigitBenchModel" "newY" "[I" ∈ AL := al_t5 9 rfl rfl
theorem q1017 : Cond.fieldLink "DigitBenchModel" 104 "DigitBenchModel" "newZ" "[I" ∈ AL := al_t5 10 rfl rfl
theorem q1018 : Cond.fieldLink "DigitBenchModel" 301 "DigitBenchModel" "roundMany" "I" ∈ AL := al_t5 11 rfl rfl
theorem q1019 : Cond.fieldLink "DigitBenchModel" 289 "DigitBenchModel" "newMany" "I" ∈ AL := al_t5 12 rfl rfl
theorem q1020 : Cond.fieldLink "DigitBenchModel" 292 "DigitBenchModel" "ends" "I" ∈ AL := al_t5 13 rfl rfl
theorem q1021 : Cond.lays "DigitBenchModel" "DigitBenchModel" "thrown" "I" ∈ AL := al_t5 14 rfl rfl
theorem q1023 : Cond.laysFinal "DigitBenchModel" "DigitBenchModel" "tape" "[B" ∈ AL := al_t5 16 rfl rfl
theorem q1025 : Cond.lays "DigitBenchModel" "DigitBenchModel" "length" "I" ∈ AL := al_t5 18 rfl rfl
theorem q1027 : Cond.lays "DigitBenchModel" "DigitBenchModel" "a" "I" ∈ AL := al_t5 20 rfl rfl
theorem q1029 : Cond.lays "DigitBenchModel" "DigitBenchModel" "b" "I" ∈ AL := al_t5 22 rfl rfl
theorem q1031 : Cond.lays "DigitBenchModel" "DigitBenchModel" "root" "I" ∈ AL := al_t5 24 rfl rfl
theorem q1033 : Cond.laysFinal "DigitBenchModel" "DigitBenchModel" "has" "[Z" ∈ AL := al_t5 26 rfl rfl
theorem q1035 : Cond.laysFinal "DigitBenchModel" "DigitBenchModel" "us" "[I" ∈ AL := al_t5 28 rfl rfl
theorem q1037 : Cond.laysFinal "DigitBenchModel" "DigitBenchModel" "vs" "[I" ∈ AL := al_t5 30 rfl rfl
theorem q1039 : Cond.laysFinal "DigitBenchModel" "DigitBenchModel" "ds" "[I" ∈ AL := al_t5 32 rfl rfl
theorem q1041 : Cond.lays "DigitBenchModel" "DigitBenchModel" "u" "J" ∈ AL := al_t5 34 rfl rfl
theorem q1043 : Cond.lays "DigitBenchModel" "DigitBenchModel" "v" "J" ∈ AL := al_t5 36 rfl rfl
theorem q1045 : Cond.lays "DigitBenchModel" "DigitBenchModel" "d" "J" ∈ AL := al_t5 38 rfl rfl
theorem q1047 : Cond.lays "DigitBenchModel" "DigitBenchModel" "isTold" "Z" ∈ AL := al_t5 40 rfl rfl
theorem q1049 : Cond.lays "DigitBenchModel" "DigitBenchModel" "result" "I" ∈ AL := al_t5 42 rfl rfl
theorem q1051 : Cond.lays "DigitBenchModel" "DigitBenchModel" "top" "I" ∈ AL := al_t5 44 rfl rfl
theorem q1053 : Cond.lays "DigitBenchModel" "DigitBenchModel" "ahead" "I" ∈ AL := al_t5 46 rfl rfl
theorem q1055 : Cond.lays "DigitBenchModel" "DigitBenchModel" "round" "I" ∈ AL := al_t5 48 rfl rfl
theorem q1057 : Cond.lays "DigitBenchModel" "DigitBenchModel" "digitMany" "I" ∈ AL := al_t5 50 rfl rfl
theorem q1059 : Cond.laysFinal "DigitBenchModel" "DigitBenchModel" "digit" "[J" ∈ AL := al_t5 52 rfl rfl
theorem q1061 : Cond.laysFinal "DigitBenchModel" "DigitBenchModel" "leftU" "[J" ∈ AL := al_t5 54 rfl rfl
theorem q1063 : Cond.laysFinal "DigitBenchModel" "DigitBenchModel" "leftV" "[J" ∈ AL := al_t5 56 rfl rfl
theorem q1065 : Cond.lays "DigitBenchModel" "DigitBenchModel" "sumU" "J" ∈ AL := al_t5 58 rfl rfl
theorem q1067 : Cond.lays "DigitBenchModel" "DigitBenchModel" "sumV" "J" ∈ AL := al_t5 60 rfl rfl
theorem q1069 : Cond.lays "DigitBenchModel" "DigitBenchModel" "sumD" "J" ∈ AL := al_t5 62 rfl rfl
theorem q1071 : Cond.laysFinal "DigitBenchModel" "DigitBenchModel" "behind" "[J" ∈ AL := al_t5 64 rfl rfl
theorem q1073 : Cond.laysFinal "DigitBenchModel" "DigitBenchModel" "hand" "[I" ∈ AL := al_t5 66 rfl rfl
theorem q1075 : Cond.lays "DigitBenchModel" "DigitBenchModel" "parts" "I" ∈ AL := al_t5 68 rfl rfl
theorem q1077 : Cond.lays "DigitBenchModel" "DigitBenchModel" "ringP" "I" ∈ AL := al_t5 70 rfl rfl
theorem q1079 : Cond.lays "DigitBenchModel" "DigitBenchModel" "ringQ" "I" ∈ AL := al_t5 72 rfl rfl
theorem q1081 : Cond.lays "DigitBenchModel" "DigitBenchModel" "baseY" "I" ∈ AL := al_t5 74 rfl rfl
theorem q1083 : Cond.lays "DigitBenchModel" "DigitBenchModel" "baseZ" "I" ∈ AL := al_t5 76 rfl rfl
theorem q1085 : Cond.lays "DigitBenchModel" "DigitBenchModel" "norm" "I" ∈ AL := al_t5 78 rfl rfl
theorem q1087 : Cond.lays "DigitBenchModel" "DigitBenchModel" "setMany" "I" ∈ AL := al_t5 80 rfl rfl
theorem q1089 : Cond.laysFinal "DigitBenchModel" "DigitBenchModel" "setY" "[I" ∈ AL := al_t5 82 rfl rfl
theorem q1091 : Cond.laysFinal "DigitBenchModel" "DigitBenchModel" "setZ" "[I" ∈ AL := al_t5 84 rfl rfl
theorem q1093 : Cond.laysFinal "DigitBenchModel" "DigitBenchModel" "freshY" "[I" ∈ AL := al_t5 86 rfl rfl
theorem q1095 : Cond.laysFinal "DigitBenchModel" "DigitBenchModel" "freshZ" "[I" ∈ AL := al_t5 88 rfl rfl
theorem q1097 : Cond.lays "DigitBenchModel" "DigitBenchModel" "quotientY" "J" ∈ AL := al_t5 90 rfl rfl
theorem q1099 : Cond.lays "DigitBenchModel" "DigitBenchModel" "quotientZ" "J" ∈ AL := al_t5 92 rfl rfl
theorem q1101 : Cond.laysFinal "DigitBenchModel" "DigitBenchModel" "wayY" "[I" ∈ AL := al_t5 94 rfl rfl
theorem q1103 : Cond.laysFinal "DigitBenchModel" "DigitBenchModel" "wayZ" "[I" ∈ AL := al_t5 96 rfl rfl
theorem q1105 : Cond.laysFinal "DigitBenchModel" "DigitBenchModel" "places" "[I" ∈ AL := al_t5 98 rfl rfl
theorem q1107 : Cond.lays "DigitBenchModel" "DigitBenchModel" "placeMany" "I" ∈ AL := al_t5 100 rfl rfl
theorem q1109 : Cond.lays "DigitBenchModel" "DigitBenchModel" "met" "I" ∈ AL := al_t5 102 rfl rfl
theorem q1111 : Cond.lays "DigitBenchModel" "DigitBenchModel" "length0" "I" ∈ AL := al_t5 104 rfl rfl
theorem q1113 : Cond.lays "DigitBenchModel" "DigitBenchModel" "how" "I" ∈ AL := al_t5 106 rfl rfl
theorem q1115 : Cond.lays "DigitBenchModel" "DigitBenchModel" "isWritten" "Z" ∈ AL := al_t5 108 rfl rfl
theorem q1117 : Cond.lays "DigitBenchModel" "DigitBenchModel" "lastMet" "I" ∈ AL := al_t5 110 rfl rfl
theorem q1119 : Cond.lays "DigitBenchModel" "DigitBenchModel" "lastRound" "I" ∈ AL := al_t5 112 rfl rfl
theorem q1121 : Cond.lays "DigitBenchModel" "DigitBenchModel" "lastMany" "I" ∈ AL := al_t5 114 rfl rfl
theorem q1123 : Cond.laysFinal "DigitBenchModel" "DigitBenchModel" "lastPlace" "[I" ∈ AL := al_t5 116 rfl rfl
theorem q1125 : Cond.laysFinal "DigitBenchModel" "DigitBenchModel" "roundLong" "[I" ∈ AL := al_t5 118 rfl rfl
theorem q1127 : Cond.laysFinal "DigitBenchModel" "DigitBenchModel" "roundY" "[I" ∈ AL := al_t5 120 rfl rfl
theorem q1129 : Cond.laysFinal "DigitBenchModel" "DigitBenchModel" "roundZ" "[I" ∈ AL := al_t5 122 rfl rfl
theorem q1131 : Cond.laysFinal "DigitBenchModel" "DigitBenchModel" "newLong" "[I" ∈ AL := al_t5 124 rfl rfl
theorem q1133 : Cond.laysFinal "DigitBenchModel" "DigitBenchModel" "newY" "[I" ∈ AL := al_t5 126 rfl rfl
theorem q1135 : Cond.laysFinal "DigitBenchModel" "DigitBenchModel" "newZ" "[I" ∈ AL := al_t5 128 rfl rfl
theorem q1137 : Cond.lays "DigitBenchModel" "DigitBenchModel" "roundMany" "I" ∈ AL := al_t5 130 rfl rfl
theorem q1139 : Cond.lays "DigitBenchModel" "DigitBenchModel" "newMany" "I" ∈ AL := al_t5 132 rfl rfl
theorem q1141 : Cond.lays "DigitBenchModel" "DigitBenchModel" "ends" "I" ∈ AL := al_t5 134 rfl rfl
theorem q1144 : Cond.arrayClass FieldType.boolean ∈ AL := al_t5 137 rfl rfl
theorem q1145 : Cond.methodLink "DigitBenchLaw" 63 (⟨"DigitBenchModel", "thrown", "()I"⟩ : MethodName) ∈ AL := al_t5 138 rfl rfl
theorem q1146 : Cond.instanceMethod (⟨"DigitBenchModel", "thrown", "()I"⟩ : MethodName) ∈ AL := al_t5 139 rfl rfl
theorem q1147 : Cond.selects "DigitBenchModel" (⟨"DigitBenchModel", "thrown", "()I"⟩ : MethodName) (⟨"DigitBenchModel", "thrown", "()I"⟩ : MethodName) ∈ AL := al_t5 140 rfl rfl
theorem q1148 : Cond.code (⟨"DigitBenchModel", "thrown", "()I"⟩ : MethodName) prog_14_method_2_code 1 (Option.some FieldType.int) ∈ AL := al_t5 141 rfl rfl
theorem q1149 : Cond.methodLink "DigitBenchLaw" 37 (⟨"DigitBenchModel", "feed", "(IIIII)I"⟩ : MethodName) ∈ AL := al_t5 142 rfl rfl
theorem q1150 : Cond.instanceMethod (⟨"DigitBenchModel", "feed", "(IIIII)I"⟩ : MethodName) ∈ AL := al_t5 143 rfl rfl
theorem q1151 : Cond.selects "DigitBenchModel" (⟨"DigitBenchModel", "feed", "(IIIII)I"⟩ : MethodName) (⟨"DigitBenchModel", "feed", "(IIIII)I"⟩ : MethodName) ∈ AL := al_t5 144 rfl rfl
theorem q1152 : Cond.code (⟨"DigitBenchModel", "feed", "(IIIII)I"⟩ : MethodName) prog_14_method_4_code 6 (Option.some FieldType.int) ∈ AL := al_t5 145 rfl rfl
theorem q1153 : Cond.methodLink "DigitBenchModel" 113 (⟨"DigitBenchModel", "four", "(I)V"⟩ : MethodName) ∈ AL := al_t5 146 rfl rfl
theorem q1155 : Cond.instanceMethod (⟨"DigitBenchModel", "four", "(I)V"⟩ : MethodName) ∈ AL := al_t5 148 rfl rfl
theorem q1156 : Cond.code (⟨"DigitBenchModel", "four", "(I)V"⟩ : MethodName) prog_14_method_5_code 3 (Option.none : Option FieldType) ∈ AL := al_t5 149 rfl rfl
theorem q1157 : Cond.methodLink "DigitBenchLaw" 42 (⟨"DigitBenchModel", "end", "(I)Z"⟩ : MethodName) ∈ AL := al_t5 150 rfl rfl
theorem q1158 : Cond.instanceMethod (⟨"DigitBenchModel", "end", "(I)Z"⟩ : MethodName) ∈ AL := al_t5 151 rfl rfl
theorem q1159 : Cond.selects "DigitBenchModel" (⟨"DigitBenchModel", "end", "(I)Z"⟩ : MethodName) (⟨"DigitBenchModel", "end", "(I)Z"⟩ : MethodName) ∈ AL := al_t5 152 rfl rfl
theorem q1160 : Cond.code (⟨"DigitBenchModel", "end", "(I)Z"⟩ : MethodName) prog_14_method_6_code 2 (Option.some FieldType.boolean) ∈ AL := al_t5 153 rfl rfl
theorem q1161 : Cond.methodLink "DigitBenchLaw" 47 (⟨"DigitBenchModel", "base", "(II)Z"⟩ : MethodName) ∈ AL := al_t5 154 rfl rfl
theorem q1162 : Cond.instanceMethod (⟨"DigitBenchModel", "base", "(II)Z"⟩ : MethodName) ∈ AL := al_t5 155 rfl rfl
theorem q1163 : Cond.selects "DigitBenchModel" (⟨"DigitBenchModel", "base", "(II)Z"⟩ : MethodName) (⟨"DigitBenchModel", "base", "(II)Z"⟩ : MethodName) ∈ AL := al_t5 156 rfl rfl
theorem q1164 : Cond.code (⟨"DigitBenchModel", "base", "(II)Z"⟩ : MethodName) prog_14_method_9_code 4 (Option.some FieldType.boolean) ∈ AL := al_t5 157 rfl rfl
theorem q1165 : Cond.methodLink "DigitBenchModel" 117 (⟨"DigitBenchModel", "isSquare", "(I)Z"⟩ : MethodName) ∈ AL := al_t5 158 rfl rfl
theorem q1166 : Cond.static (⟨"DigitBenchModel", "isSquare", "(I)Z"⟩ : MethodName) ∈ AL := al_t5 159 rfl rfl
theorem q1167 : Cond.code (⟨"DigitBenchModel", "isSquare", "(I)Z"⟩ : MethodName) prog_14_method_8_code 2 (Option.some FieldType.boolean) ∈ AL := al_t5 160 rfl rfl
theorem q1168 : Cond.methodLink "DigitBenchLaw" 52 (⟨"DigitBenchModel", "number", "(IIII)Z"⟩ : MethodName) ∈ AL := al_t5 161 rfl rfl
theorem q1169 : Cond.instanceMethod (⟨"DigitBenchModel", "number", "(IIII)Z"⟩ : MethodName) ∈ AL := al_t5 162 rfl rfl
theorem q1170 : Cond.selects "DigitBenchModel" (⟨"DigitBenchModel", "number", "(IIII)Z"⟩ : MethodName) (⟨"DigitBenchModel", "number", "(IIII)Z"⟩ : MethodName) ∈ AL := al_t5 163 rfl rfl
theorem q1171 : Cond.code (⟨"DigitBenchModel", "number", "(IIII)Z"⟩ : MethodName) prog_14_method_15_code 5 (Option.some FieldType.boolean) ∈ AL := al_t5 164 rfl rfl
theorem q1172 : Cond.methodLink "DigitBenchModel" 151 (⟨"DigitBenchModel", "set", "(JJJ)V"⟩ : MethodName) ∈ AL := al_t5 165 rfl rfl
theorem q1174 : Cond.instanceMethod (⟨"DigitBenchModel", "set", "(JJJ)V"⟩ : MethodName) ∈ AL := al_t5 167 rfl rfl
theorem q1175 : Cond.code (⟨"DigitBenchModel", "set", "(JJJ)V"⟩ : MethodName) prog_14_method_12_code 9 (Option.none : Option FieldType) ∈ AL := al_t5 168 rfl rfl
theorem q1176 : Cond.methodLink "DigitBenchModel" 127 (⟨"DigitBenchModel", "common", "(JJ)J"⟩ : MethodName) ∈ AL := al_t5 169 rfl rfl
theorem q1177 : Cond.static (⟨"DigitBenchModel", "common", "(JJ)J"⟩ : MethodName) ∈ AL := al_t5 170 rfl rfl
theorem q1178 : Cond.code (⟨"DigitBenchModel", "common", "(JJ)J"⟩ : MethodName) prog_14_method_11_code 10 (Option.some FieldType.long) ∈ AL := al_t5 171 rfl rfl
theorem q1179 : Cond.methodLink "DigitBenchModel" 155 (⟨"DigitBenchModel", "put", "(I)Z"⟩ : MethodName) ∈ AL := al_t5 172 rfl rfl
theorem q1181 : Cond.instanceMethod (⟨"DigitBenchModel", "put", "(I)Z"⟩ : MethodName) ∈ AL := al_t5 174 rfl rfl
theorem q1182 : Cond.code (⟨"DigitBenchModel", "put", "(I)Z"⟩ : MethodName) prog_14_method_14_code 2 (Option.some FieldType.boolean) ∈ AL := al_t5 175 rfl rfl
theorem q1183 : Cond.methodLink "DigitBenchModel" 147 (⟨"DigitBenchModel", "isNumber", "()Z"⟩ : MethodName) ∈ AL := al_t5 176 rfl rfl
theorem q1185 : Cond.instanceMethod (⟨"DigitBenchModel", "isNumber", "()Z"⟩ : MethodName) ∈ AL := al_t5 178 rfl rfl
theorem q1186 : Cond.code (⟨"DigitBenchModel", "isNumber", "()Z"⟩ : MethodName) prog_14_method_13_code 1 (Option.some FieldType.boolean) ∈ AL := al_t5 179 rfl rfl
theorem q1187 : Cond.constantLong "DigitBenchModel" 141 (-65536 : Int64) ∈ AL := al_t5 180 rfl rfl
theorem q1188 : Cond.constantLong "DigitBenchModel" 143 (65536 : Int64) ∈ AL := al_t5 181 rfl rfl
theorem q1189 : Cond.constantLong "DigitBenchModel" 145 (1000 : Int64) ∈ AL := al_t5 182 rfl rfl
theorem q1190 : Cond.methodLink "DigitBenchLaw" 56 (⟨"DigitBenchModel", "make", "(IIII)Z"⟩ : MethodName) ∈ AL := al_t5 183 rfl rfl
theorem q1191 : Cond.instanceMethod (⟨"DigitBenchModel", "make", "(IIII)Z"⟩ : MethodName) ∈ AL := al_t5 184 rfl rfl
theorem q1192 : Cond.selects "DigitBenchModel" (⟨"DigitBenchModel", "make", "(IIII)Z"⟩ : MethodName) (⟨"DigitBenchModel", "make", "(IIII)Z"⟩ : MethodName) ∈ AL := al_t5 185 rfl rfl
theorem q1193 : Cond.code (⟨"DigitBenchModel", "make", "(IIII)Z"⟩ : MethodName) prog_14_method_20_code 5 (Option.some FieldType.boolean) ∈ AL := al_t5 186 rfl rfl
theorem q1194 : Cond.methodLink "DigitBenchModel" 161 (⟨"DigitBenchModel", "isThere", "(I)Z"⟩ : MethodName) ∈ AL := al_t5 187 rfl rfl
theorem q1196 : Cond.instanceMethod (⟨"DigitBenchModel", "isThere", "(I)Z"⟩ : MethodName) ∈ AL := al_t5 189 rfl rfl
theorem q1197 : Cond.code (⟨"DigitBenchModel", "isThere", "(I)Z"⟩ : MethodName) prog_14_method_16_code 2 (Option.some FieldType.boolean) ∈ AL := al_t5 190 rfl rfl
theorem q1198 : Cond.methodLink "DigitBenchModel" 164 (⟨"DigitBenchModel", "plus", "(JJJ)V"⟩ : MethodName) ∈ AL := al_t5 191 rfl rfl
theorem q1200 : Cond.instanceMethod (⟨"DigitBenchModel", "plus", "(JJJ)V"⟩ : MethodName) ∈ AL := al_t5 193 rfl rfl
theorem q1201 : Cond.code (⟨"DigitBenchModel", "plus", "(JJJ)V"⟩ : MethodName) prog_14_method_19_code 7 (Option.none : Option FieldType) ∈ AL := al_t5 194 rfl rfl
theorem q1202 : Cond.methodLink "DigitBenchModel" 158 (⟨"DigitBenchModel", "times", "(JJJ)V"⟩ : MethodName) ∈ AL := al_t5 195 rfl rfl
theorem q1204 : Cond.instanceMethod (⟨"DigitBenchModel", "times", "(JJJ)V"⟩ : MethodName) ∈ AL := al_t5 197 rfl rfl
theorem q1205 : Cond.code (⟨"DigitBenchModel", "times", "(JJJ)V"⟩ : MethodName) prog_14_method_17_code 7 (Option.none : Option FieldType) ∈ AL := al_t5 198 rfl rfl
theorem q1206 : Cond.methodLink "DigitBenchModel" 167 (⟨"DigitBenchModel", "by", "(JJJ)V"⟩ : MethodName) ∈ AL := al_t5 199 rfl rfl
theorem q1208 : Cond.instanceMethod (⟨"DigitBenchModel", "by", "(JJJ)V"⟩ : MethodName) ∈ AL := al_t5 201 rfl rfl
theorem q1209 : Cond.code (⟨"DigitBenchModel", "by", "(JJJ)V"⟩ : MethodName) prog_14_method_18_code 15 (Option.none : Option FieldType) ∈ AL := al_t5 202 rfl rfl
theorem q1210 : Cond.methodLink "DigitBenchLaw" 62 (⟨"DigitBenchModel", "part", "(II)I"⟩ : MethodName) ∈ AL := al_t5 203 rfl rfl
theorem q1211 : Cond.instanceMethod (⟨"DigitBenchModel", "part", "(II)I"⟩ : MethodName) ∈ AL := al_t5 204 rfl rfl
theorem q1212 : Cond.selects "DigitBenchModel" (⟨"DigitBenchModel", "part", "(II)I"⟩ : MethodName) (⟨"DigitBenchModel", "part", "(II)I"⟩ : MethodName) ∈ AL := al_t5 205 rfl rfl
theorem q1213 : Cond.code (⟨"DigitBenchModel", "part", "(II)I"⟩ : MethodName) prog_14_method_21_code 3 (Option.some FieldType.int) ∈ AL := al_t5 206 rfl rfl
theorem q1214 : Cond.methodLink "DigitBenchModel" 170 (⟨"DigitBenchModel", "throwsIf", "(Z)Z"⟩ : MethodName) ∈ AL := al_t5 207 rfl rfl
theorem q1216 : Cond.instanceMethod (⟨"DigitBenchModel", "throwsIf", "(Z)Z"⟩ : MethodName) ∈ AL := al_t5 209 rfl rfl
theorem q1217 : Cond.code (⟨"DigitBenchModel", "throwsIf", "(Z)Z"⟩ : MethodName) prog_14_method_3_code 2 (Option.some FieldType.boolean) ∈ AL := al_t5 210 rfl rfl
theorem q1218 : Cond.methodLink "DigitBenchLaw" 70 (⟨"DigitBenchModel", "compare", "(II)I"⟩ : MethodName) ∈ AL := al_t5 211 rfl rfl
theorem q1219 : Cond.instanceMethod (⟨"DigitBenchModel", "compare", "(II)I"⟩ : MethodName) ∈ AL := al_t5 212 rfl rfl
theorem q1220 : Cond.selects "DigitBenchModel" (⟨"DigitBenchModel", "compare", "(II)I"⟩ : MethodName) (⟨"DigitBenchModel", "compare", "(II)I"⟩ : MethodName) ∈ AL := al_t5 213 rfl rfl
theorem q1221 : Cond.code (⟨"DigitBenchModel", "compare", "(II)I"⟩ : MethodName) prog_14_method_22_code 3 (Option.some FieldType.int) ∈ AL := al_t5 214 rfl rfl
theorem q1222 : Cond.methodLink "DigitBenchModel" 174 (⟨"DigitBenchModel", "sign", "(JJ)I"⟩ : MethodName) ∈ AL := al_t5 215 rfl rfl
theorem q1224 : Cond.instanceMethod (⟨"DigitBenchModel", "sign", "(JJ)I"⟩ : MethodName) ∈ AL := al_t5 217 rfl rfl
theorem q1225 : Cond.code (⟨"DigitBenchModel", "sign", "(JJ)I"⟩ : MethodName) prog_14_method_10_code 9 (Option.some FieldType.int) ∈ AL := al_t5 218 rfl rfl
theorem q1226 : Cond.constantLong "DigitBenchModel" 125 (2 : Int64) ∈ AL := al_t5 219 rfl rfl
theorem q1227 : Cond.methodLink "DigitBenchLaw" 74 (⟨"DigitBenchModel", "floor", "(I)J"⟩ : MethodName) ∈ AL := al_t5 220 rfl rfl
theorem q1228 : Cond.instanceMethod (⟨"DigitBenchModel", "floor", "(I)J"⟩ : MethodName) ∈ AL := al_t5 221 rfl rfl
theorem q1229 : Cond.selects "DigitBenchModel" (⟨"DigitBenchModel", "floor", "(I)J"⟩ : MethodName) (⟨"DigitBenchModel", "floor", "(I)J"⟩ : MethodName) ∈ AL := al_t5 222 rfl rfl
theorem q1230 : Cond.code (⟨"DigitBenchModel", "floor", "(I)J"⟩ : MethodName) prog_14_method_24_code 2 (Option.some FieldType.long) ∈ AL := al_t5 223 rfl rfl
theorem q1231 : Cond.methodLink "DigitBenchModel" 178 (⟨"DigitBenchModel", "floorOf", "(JJJ)J"⟩ : MethodName) ∈ AL := al_t5 224 rfl rfl
theorem q1233 : Cond.instanceMethod (⟨"DigitBenchModel", "floorOf", "(JJJ)J"⟩ : MethodName) ∈ AL := al_t5 226 rfl rfl
theorem q1234 : Cond.code (⟨"DigitBenchModel", "floorOf", "(JJJ)J"⟩ : MethodName) prog_14_method_23_code 11 (Option.some FieldType.long) ∈ AL := al_t5 227 rfl rfl
theorem q1235 : Cond.methodLink "DigitBenchLaw" 78 (⟨"DigitBenchModel", "digits", "(I)I"⟩ : MethodName) ∈ AL := al_t5 228 rfl rfl
theorem q1236 : Cond.instanceMethod (⟨"DigitBenchModel", "digits", "(I)I"⟩ : MethodName) ∈ AL := al_t5 229 rfl rfl
theorem q1237 : Cond.selects "DigitBenchModel" (⟨"DigitBenchModel", "digits", "(I)I"⟩ : MethodName) (⟨"DigitBenchModel", "digits", "(I)I"⟩ : MethodName) ∈ AL := al_t5 230 rfl rfl
theorem q1238 : Cond.code (⟨"DigitBenchModel", "digits", "(I)I"⟩ : MethodName) prog_14_method_26_code 11 (Option.some FieldType.int) ∈ AL := al_t5 231 rfl rfl
theorem q1239 : Cond.methodLink "DigitBenchModel" 188 (⟨"DigitBenchModel", "whole", "(JJJ)V"⟩ : MethodName) ∈ AL := al_t5 232 rfl rfl
theorem q1241 : Cond.instanceMethod (⟨"DigitBenchModel", "whole", "(JJJ)V"⟩ : MethodName) ∈ AL := al_t5 234 rfl rfl
theorem q1242 : Cond.code (⟨"DigitBenchModel", "whole", "(JJJ)V"⟩ : MethodName) prog_14_method_25_code 20 (Option.none : Option FieldType) ∈ AL := al_t5 235 rfl rfl
theorem q1243 : Cond.methodLink "DigitBenchLaw" 82 (⟨"DigitBenchModel", "told", "(I)I"⟩ : MethodName) ∈ AL := al_t5 236 rfl rfl
theorem q1244 : Cond.instanceMethod (⟨"DigitBenchModel", "told", "(I)I"⟩ : MethodName) ∈ AL := al_t5 237 rfl rfl
theorem q1245 : Cond.selects "DigitBenchModel" (⟨"DigitBenchModel", "told", "(I)I"⟩ : MethodName) (⟨"DigitBenchModel", "told", "(I)I"⟩ : MethodName) ∈ AL := al_t5 238 rfl rfl
theorem q1246 : Cond.code (⟨"DigitBenchModel", "told", "(I)I"⟩ : MethodName) prog_14_method_27_code 2 (Option.some FieldType.int) ∈ AL := al_t5 239 rfl rfl
theorem q1247 : Cond.methodLink "DigitBenchLaw" 86 (⟨"DigitBenchModel", "digit", "(I)I"⟩ : MethodName) ∈ AL := al_t6 0 rfl rfl
theorem q1248 : Cond.instanceMethod (⟨"DigitBenchModel", "digit", "(I)I"⟩ : MethodName) ∈ AL := al_t6 1 rfl rfl
theorem q1249 : Cond.selects "DigitBenchModel" (⟨"DigitBenchModel", "digit", "(I)I"⟩ : MethodName) (⟨"DigitBenchModel", "digit", "(I)I"⟩ : MethodName) ∈ AL := al_t6 2 rfl rfl
theorem q1250 : Cond.code (⟨"DigitBenchModel", "digit", "(I)I"⟩ : MethodName) prog_14_method_28_code 4 (Option.some FieldType.int) ∈ AL := al_t6 3 rfl rfl
theorem q1251 : Cond.methodLink "DigitBenchLaw" 91 (⟨"DigitBenchModel", "value", "(III)Z"⟩ : MethodName) ∈ AL := al_t6 4 rfl rfl
theorem q1252 : Cond.instanceMethod (⟨"DigitBenchModel", "value", "(III)Z"⟩ : MethodName) ∈ AL := al_t6 5 rfl rfl
theorem q1253 : Cond.selects "DigitBenchModel" (⟨"DigitBenchModel", "value", "(III)Z"⟩ : MethodName) (⟨"DigitBenchModel", "value", "(III)Z"⟩ : MethodName) ∈ AL := al_t6 6 rfl rfl
theorem q1254 : Cond.code (⟨"DigitBenchModel", "value", "(III)Z"⟩ : MethodName) prog_14_method_31_code 21 (Option.some FieldType.boolean) ∈ AL := al_t6 7 rfl rfl
theorem q1255 : Cond.methodLink "DigitBenchModel" 212 (⟨"DigitBenchModel", "taken", "()I"⟩ : MethodName) ∈ AL := al_t6 8 rfl rfl
theorem q1257 : Cond.instanceMethod (⟨"DigitBenchModel", "taken", "()I"⟩ : MethodName) ∈ AL := al_t6 10 rfl rfl
theorem q1258 : Cond.code (⟨"DigitBenchModel", "taken", "()I"⟩ : MethodName) prog_14_method_7_code 2 (Option.some FieldType.int) ∈ AL := al_t6 11 rfl rfl
theorem q1259 : Cond.methodLink "DigitBenchModel" 216 (⟨"DigitBenchModel", "summed", "(III)Z"⟩ : MethodName) ∈ AL := al_t6 12 rfl rfl
theorem q1261 : Cond.instanceMethod (⟨"DigitBenchModel", "summed", "(III)Z"⟩ : MethodName) ∈ AL := al_t6 14 rfl rfl
theorem q1262 : Cond.code (⟨"DigitBenchModel", "summed", "(III)Z"⟩ : MethodName) prog_14_method_30_code 7 (Option.some FieldType.boolean) ∈ AL := al_t6 15 rfl rfl
theorem q1263 : Cond.methodLink "DigitBenchModel" 209 (⟨"DigitBenchModel", "power", "(I)Z"⟩ : MethodName) ∈ AL := al_t6 16 rfl rfl
theorem q1265 : Cond.instanceMethod (⟨"DigitBenchModel", "power", "(I)Z"⟩ : MethodName) ∈ AL := al_t6 18 rfl rfl
theorem q1266 : Cond.code (⟨"DigitBenchModel", "power", "(I)Z"⟩ : MethodName) prog_14_method_29_code 4 (Option.some FieldType.boolean) ∈ AL := al_t6 19 rfl rfl
theorem q1267 : Cond.methodLink "DigitBenchLaw" 95 (⟨"DigitBenchModel", "allowed", "()I"⟩ : MethodName) ∈ AL := al_t6 20 rfl rfl
theorem q1268 : Cond.instanceMethod (⟨"DigitBenchModel", "allowed", "()I"⟩ : MethodName) ∈ AL := al_t6 21 rfl rfl
theorem q1269 : Cond.selects "DigitBenchModel" (⟨"DigitBenchModel", "allowed", "()I"⟩ : MethodName) (⟨"DigitBenchModel", "allowed", "()I"⟩ : MethodName) ∈ AL := al_t6 22 rfl rfl
theorem q1270 : Cond.code (⟨"DigitBenchModel", "allowed", "()I"⟩ : MethodName) prog_14_method_33_code 4 (Option.some FieldType.int) ∈ AL := al_t6 23 rfl rfl
theorem q1271 : Cond.methodLink "DigitBenchModel" 220 (⟨"DigitBenchModel", "bar", "(I)I"⟩ : MethodName) ∈ AL := al_t6 24 rfl rfl
theorem q1273 : Cond.instanceMethod (⟨"DigitBenchModel", "bar", "(I)I"⟩ : MethodName) ∈ AL := al_t6 26 rfl rfl
theorem q1274 : Cond.code (⟨"DigitBenchModel", "bar", "(I)I"⟩ : MethodName) prog_14_method_32_code 2 (Option.some FieldType.int) ∈ AL := al_t6 27 rfl rfl
theorem q1275 : Cond.methodLink "DigitBenchLaw" 98 (⟨"DigitBenchModel", "one", "(I)I"⟩ : MethodName) ∈ AL := al_t6 28 rfl rfl
theorem q1276 : Cond.instanceMethod (⟨"DigitBenchModel", "one", "(I)I"⟩ : MethodName) ∈ AL := al_t6 29 rfl rfl
theorem q1277 : Cond.selects "DigitBenchModel" (⟨"DigitBenchModel", "one", "(I)I"⟩ : MethodName) (⟨"DigitBenchModel", "one", "(I)I"⟩ : MethodName) ∈ AL := al_t6 30 rfl rfl
theorem q1278 : Cond.code (⟨"DigitBenchModel", "one", "(I)I"⟩ : MethodName) prog_14_method_34_code 2 (Option.some FieldType.int) ∈ AL := al_t6 31 rfl rfl
theorem q1279 : Cond.methodLink "DigitBenchLaw" 101 (⟨"DigitBenchModel", "rows", "(I)J"⟩ : MethodName) ∈ AL := al_t6 32 rfl rfl
theorem q1280 : Cond.instanceMethod (⟨"DigitBenchModel", "rows", "(I)J"⟩ : MethodName) ∈ AL := al_t6 33 rfl rfl
theorem q1281 : Cond.selects "DigitBenchModel" (⟨"DigitBenchModel", "rows", "(I)J"⟩ : MethodName) (⟨"DigitBenchModel", "rows", "(I)J"⟩ : MethodName) ∈ AL := al_t6 34 rfl rfl
theorem q1282 : Cond.code (⟨"DigitBenchModel", "rows", "(I)J"⟩ : MethodName) prog_14_method_36_code 2 (Option.some FieldType.long) ∈ AL := al_t6 35 rfl rfl
theorem q1283 : Cond.methodLink "DigitBenchModel" 224 (⟨"DigitBenchModel", "count0", "(I)V"⟩ : MethodName) ∈ AL := al_t6 36 rfl rfl
theorem q1285 : Cond.instanceMethod (⟨"DigitBenchModel", "count0", "(I)V"⟩ : MethodName) ∈ AL := al_t6 38 rfl rfl
theorem q1286 : Cond.code (⟨"DigitBenchModel", "count0", "(I)V"⟩ : MethodName) prog_14_method_35_code 7 (Option.none : Option FieldType) ∈ AL := al_t6 39 rfl rfl
theorem q1287 : Cond.methodLink "DigitBenchLaw" 105 (⟨"DigitBenchModel", "whole", "(II)Z"⟩ : MethodName) ∈ AL := al_t6 40 rfl rfl
theorem q1288 : Cond.instanceMethod (⟨"DigitBenchModel", "whole", "(II)Z"⟩ : MethodName) ∈ AL := al_t6 41 rfl rfl
theorem q1289 : Cond.selects "DigitBenchModel" (⟨"DigitBenchModel", "whole", "(II)Z"⟩ : MethodName) (⟨"DigitBenchModel", "whole", "(II)Z"⟩ : MethodName) ∈ AL := al_t6 42 rfl rfl
theorem q1290 : Cond.code (⟨"DigitBenchModel", "whole", "(II)Z"⟩ : MethodName) prog_14_method_37_code 15 (Option.some FieldType.boolean) ∈ AL := al_t6 43 rfl rfl
theorem q1291 : Cond.constant "DigitBenchModel" 227 (50000 : Int32) ∈ AL := al_t6 44 rfl rfl
theorem q1292 : Cond.methodLink "DigitBenchLaw" 109 (⟨"DigitBenchModel", "rank", "(I)I"⟩ : MethodName) ∈ AL := al_t6 45 rfl rfl
theorem q1293 : Cond.instanceMethod (⟨"DigitBenchModel", "rank", "(I)I"⟩ : MethodName) ∈ AL := al_t6 46 rfl rfl
theorem q1294 : Cond.selects "DigitBenchModel" (⟨"DigitBenchModel", "rank", "(I)I"⟩ : MethodName) (⟨"DigitBenchModel", "rank", "(I)I"⟩ : MethodName) ∈ AL := al_t6 47 rfl rfl
theorem q1295 : Cond.code (⟨"DigitBenchModel", "rank", "(I)I"⟩ : MethodName) prog_14_method_38_code 19 (Option.some FieldType.int) ∈ AL := al_t6 48 rfl rfl
theorem q1296 : Cond.constantLong "DigitBenchModel" 228 (50000 : Int64) ∈ AL := al_t6 49 rfl rfl
theorem q1297 : Cond.methodLink "DigitBenchLaw" 114 (⟨"DigitBenchModel", "ring", "(ZIIII)Z"⟩ : MethodName) ∈ AL := al_t6 50 rfl rfl
theorem q1298 : Cond.instanceMethod (⟨"DigitBenchModel", "ring", "(ZIIII)Z"⟩ : MethodName) ∈ AL := al_t6 51 rfl rfl
theorem q1299 : Cond.selects "DigitBenchModel" (⟨"DigitBenchModel", "ring", "(ZIIII)Z"⟩ : MethodName) (⟨"DigitBenchModel", "ring", "(ZIIII)Z"⟩ : MethodName) ∈ AL := al_t6 52 rfl rfl
theorem q1300 : Cond.code (⟨"DigitBenchModel", "ring", "(ZIIII)Z"⟩ : MethodName) prog_14_method_39_code 10 (Option.some FieldType.boolean) ∈ AL := al_t6 53 rfl rfl
theorem q1301 : Cond.constant "DigitBenchModel" 230 (-100000 : Int32) ∈ AL := al_t6 54 rfl rfl
theorem q1302 : Cond.constant "DigitBenchModel" 231 (100000 : Int32) ∈ AL := al_t6 55 rfl rfl
theorem q1303 : Cond.constantLong "DigitBenchModel" 232 (25 : Int64) ∈ AL := al_t6 56 rfl rfl
theorem q1304 : Cond.methodLink "DigitBenchLaw" 119 (⟨"DigitBenchModel", "set", "()Z"⟩ : MethodName) ∈ AL := al_t6 57 rfl rfl
theorem q1305 : Cond.instanceMethod (⟨"DigitBenchModel", "set", "()Z"⟩ : MethodName) ∈ AL := al_t6 58 rfl rfl
theorem q1306 : Cond.selects "DigitBenchModel" (⟨"DigitBenchModel", "set", "()Z"⟩ : MethodName) (⟨"DigitBenchModel", "set", "()Z"⟩ : MethodName) ∈ AL := al_t6 59 rfl rfl
theorem q1307 : Cond.code (⟨"DigitBenchModel", "set", "()Z"⟩ : MethodName) prog_14_method_41_code 4 (Option.some FieldType.boolean) ∈ AL := al_t6 60 rfl rfl
theorem q1308 : Cond.methodLink "DigitBenchModel" 249 (⟨"DigitBenchModel", "divides", "(JJ)Z"⟩ : MethodName) ∈ AL := al_t6 61 rfl rfl
theorem q1310 : Cond.instanceMethod (⟨"DigitBenchModel", "divides", "(JJ)Z"⟩ : MethodName) ∈ AL := al_t6 63 rfl rfl
theorem q1311 : Cond.code (⟨"DigitBenchModel", "divides", "(JJ)Z"⟩ : MethodName) prog_14_method_40_code 15 (Option.some FieldType.boolean) ∈ AL := al_t6 64 rfl rfl
theorem q1312 : Cond.methodLink "DigitBenchLaw" 123 (⟨"DigitBenchModel", "write", "(II)I"⟩ : MethodName) ∈ AL := al_t6 65 rfl rfl
theorem q1313 : Cond.instanceMethod (⟨"DigitBenchModel", "write", "(II)I"⟩ : MethodName) ∈ AL := al_t6 66 rfl rfl
theorem q1314 : Cond.selects "DigitBenchModel" (⟨"DigitBenchModel", "write", "(II)I"⟩ : MethodName) (⟨"DigitBenchModel", "write", "(II)I"⟩ : MethodName) ∈ AL := al_t6 67 rfl rfl
theorem q1315 : Cond.code (⟨"DigitBenchModel", "write", "(II)I"⟩ : MethodName) prog_14_method_44_code 5 (Option.some FieldType.int) ∈ AL := al_t6 68 rfl rfl
theorem q1316 : Cond.methodLink "DigitBenchModel" 269 (⟨"DigitBenchModel", "isBeyond", "(II)Z"⟩ : MethodName) ∈ AL := al_t6 69 rfl rfl
theorem q1317 : Cond.static (⟨"DigitBenchModel", "isBeyond", "(II)Z"⟩ : MethodName) ∈ AL := al_t6 70 rfl rfl
theorem q1318 : Cond.code (⟨"DigitBenchModel", "isBeyond", "(II)Z"⟩ : MethodName) prog_14_method_43_code 2 (Option.some FieldType.boolean) ∈ AL := al_t6 71 rfl rfl
theorem q1319 : Cond.methodLink "DigitBenchModel" 273 (⟨"DigitBenchModel", "walk", "(II)V"⟩ : MethodName) ∈ AL := al_t6 72 rfl rfl
theorem q1321 : Cond.instanceMethod (⟨"DigitBenchModel", "walk", "(II)V"⟩ : MethodName) ∈ AL := al_t6 74 rfl rfl
theorem q1322 : Cond.code (⟨"DigitBenchModel", "walk", "(II)V"⟩ : MethodName) prog_14_method_42_code 5 (Option.none : Option FieldType) ∈ AL := al_t6 75 rfl rfl
theorem q1323 : Cond.constantLong "DigitBenchModel" 265 (1000000 : Int64) ∈ AL := al_t6 76 rfl rfl
theorem q1324 : Cond.constantLong "DigitBenchModel" 267 (-1000000 : Int64) ∈ AL := al_t6 77 rfl rfl
theorem q1325 : Cond.methodLink "DigitBenchLaw" 127 (⟨"DigitBenchModel", "written", "(I)I"⟩ : MethodName) ∈ AL := al_t6 78 rfl rfl
theorem q1326 : Cond.instanceMethod (⟨"DigitBenchModel", "written", "(I)I"⟩ : MethodName) ∈ AL := al_t6 79 rfl rfl
theorem q1327 : Cond.selects "DigitBenchModel" (⟨"DigitBenchModel", "written", "(I)I"⟩ : MethodName) (⟨"DigitBenchModel", "written", "(I)I"⟩ : MethodName) ∈ AL := al_t6 80 rfl rfl
theorem q1328 : Cond.code (⟨"DigitBenchModel", "written", "(I)I"⟩ : MethodName) prog_14_method_45_code 2 (Option.some FieldType.int) ∈ AL := al_t6 81 rfl rfl
theorem q1329 : Cond.methodLink "DigitBenchLaw" 131 (⟨"DigitBenchModel", "place", "(I)I"⟩ : MethodName) ∈ AL := al_t6 82 rfl rfl
theorem q1330 : Cond.instanceMethod (⟨"DigitBenchModel", "place", "(I)I"⟩ : MethodName) ∈ AL := al_t6 83 rfl rfl
theorem q1331 : Cond.selects "DigitBenchModel" (⟨"DigitBenchModel", "place", "(I)I"⟩ : MethodName) (⟨"DigitBenchModel", "place", "(I)I"⟩ : MethodName) ∈ AL := al_t6 84 rfl rfl
theorem q1332 : Cond.code (⟨"DigitBenchModel", "place", "(I)I"⟩ : MethodName) prog_14_method_46_code 2 (Option.some FieldType.int) ∈ AL := al_t6 85 rfl rfl
theorem q1333 : Cond.methodLink "DigitBenchLaw" 135 (⟨"DigitBenchModel", "rounds", "(I)I"⟩ : MethodName) ∈ AL := al_t6 86 rfl rfl
theorem q1334 : Cond.instanceMethod (⟨"DigitBenchModel", "rounds", "(I)I"⟩ : MethodName) ∈ AL := al_t6 87 rfl rfl
theorem q1335 : Cond.selects "DigitBenchModel" (⟨"DigitBenchModel", "rounds", "(I)I"⟩ : MethodName) (⟨"DigitBenchModel", "rounds", "(I)I"⟩ : MethodName) ∈ AL := al_t6 88 rfl rfl
theorem q1336 : Cond.code (⟨"DigitBenchModel", "rounds", "(I)I"⟩ : MethodName) prog_14_method_49_code 3 (Option.some FieldType.int) ∈ AL := al_t6 89 rfl rfl
theorem q1337 : Cond.methodLink "DigitBenchModel" 298 (⟨"DigitBenchModel", "all", "(I)Z"⟩ : MethodName) ∈ AL := al_t6 90 rfl rfl
theorem q1339 : Cond.instanceMethod (⟨"DigitBenchModel", "all", "(I)Z"⟩ : MethodName) ∈ AL := al_t6 92 rfl rfl
theorem q1340 : Cond.code (⟨"DigitBenchModel", "all", "(I)Z"⟩ : MethodName) prog_14_method_47_code 4 (Option.some FieldType.boolean) ∈ AL := al_t6 93 rfl rfl
theorem q1341 : Cond.methodLink "DigitBenchModel" 295 (⟨"DigitBenchModel", "keep", "()V"⟩ : MethodName) ∈ AL := al_t6 94 rfl rfl
theorem q1343 : Cond.instanceMethod (⟨"DigitBenchModel", "keep", "()V"⟩ : MethodName) ∈ AL := al_t6 96 rfl rfl
theorem q1344 : Cond.code (⟨"DigitBenchModel", "keep", "()V"⟩ : MethodName) prog_14_method_48_code 4 (Option.none : Option FieldType) ∈ AL := al_t6 97 rfl rfl
theorem q1345 : Cond.methodLink "DigitBenchLaw" 138 (⟨"DigitBenchModel", "round", "(II)I"⟩ : MethodName) ∈ AL := al_t6 98 rfl rfl
theorem q1346 : Cond.instanceMethod (⟨"DigitBenchModel", "round", "(II)I"⟩ : MethodName) ∈ AL := al_t6 99 rfl rfl
theorem q1347 : Cond.selects "DigitBenchModel" (⟨"DigitBenchModel", "round", "(II)I"⟩ : MethodName) (⟨"DigitBenchModel", "round", "(II)I"⟩ : MethodName) ∈ AL := al_t6 100 rfl rfl
theorem q1348 : Cond.code (⟨"DigitBenchModel", "round", "(II)I"⟩ : MethodName) prog_14_method_50_code 3 (Option.some FieldType.int) ∈ AL := al_t6 101 rfl rfl
theorem q1349 : Cond.methodLink "DigitBenchLaw" 142 (⟨"DigitBenchModel", "ending", "(I)I"⟩ : MethodName) ∈ AL := al_t6 102 rfl rfl
theorem q1350 : Cond.instanceMethod (⟨"DigitBenchModel", "ending", "(I)I"⟩ : MethodName) ∈ AL := al_t6 103 rfl rfl
theorem q1351 : Cond.selects "DigitBenchModel" (⟨"DigitBenchModel", "ending", "(I)I"⟩ : MethodName) (⟨"DigitBenchModel", "ending", "(I)I"⟩ : MethodName) ∈ AL := al_t6 104 rfl rfl
theorem q1352 : Cond.code (⟨"DigitBenchModel", "ending", "(I)I"⟩ : MethodName) prog_14_method_51_code 2 (Option.some FieldType.int) ∈ AL := al_t6 105 rfl rfl
theorem q1353 : Cond.methodLink "DigitBenchLaw" 146 (⟨"DigitBenchModel", "count", "(I)I"⟩ : MethodName) ∈ AL := al_t6 106 rfl rfl
theorem q1354 : Cond.instanceMethod (⟨"DigitBenchModel", "count", "(I)I"⟩ : MethodName) ∈ AL := al_t6 107 rfl rfl
theorem q1355 : Cond.selects "DigitBenchModel" (⟨"DigitBenchModel", "count", "(I)I"⟩ : MethodName) (⟨"DigitBenchModel", "count", "(I)I"⟩ : MethodName) ∈ AL := al_t6 108 rfl rfl
theorem q1356 : Cond.code (⟨"DigitBenchModel", "count", "(I)I"⟩ : MethodName) prog_14_method_52_code 4 (Option.some FieldType.int) ∈ AL := al_t6 109 rfl rfl
theorem ix0 : ∀ w ∈ u_ws RX0 TX0 4, w ∈ AL := List.forall_mem_cons.mpr ⟨q175, List.forall_mem_cons.mpr ⟨q177, List.forall_mem_cons.mpr ⟨q179, List.forall_mem_cons.mpr ⟨q181, fun _ h => absurd h List.not_mem_nil⟩⟩⟩⟩
theorem ix1 : ∀ w ∈ u_ws RX1 TX1 3, w ∈ AL := List.forall_mem_cons.mpr ⟨q195, List.forall_mem_cons.mpr ⟨q197, List.forall_mem_cons.mpr ⟨q199, fun _ h => absurd h List.not_mem_nil⟩⟩⟩
theorem ix2 : ∀ w ∈ u_ws RX2 TX2 14, w ∈ AL := List.forall_mem_cons.mpr ⟨q369, List.forall_mem_cons.mpr ⟨q371, List.forall_mem_cons.mpr ⟨q373, List.forall_mem_cons.mpr ⟨q375, List.forall_mem_cons.mpr ⟨q377, List.forall_mem_cons.mpr ⟨q379, List.forall_mem_cons.mpr ⟨q381, List.forall_mem_cons.mpr ⟨q383, List.forall_mem_cons.mpr ⟨q385, List.forall_mem_cons.mpr ⟨q387, List.forall_mem_cons.mpr ⟨q389, List.forall_mem_cons.mpr ⟨q391, List.forall_mem_cons.mpr ⟨q393, List.forall_mem_cons.mpr ⟨q395, fun _ h => absurd h List.not_mem_nil⟩⟩⟩⟩⟩⟩⟩⟩⟩⟩⟩⟩⟩⟩
theorem ix3 : ∀ w ∈ u_ws RX3 TX3 8, w ∈ AL := List.forall_mem_cons.mpr ⟨q130, List.forall_mem_cons.mpr ⟨q132, List.forall_mem_cons.mpr ⟨q134, List.forall_mem_cons.mpr ⟨q136, List.forall_mem_cons.mpr ⟨q138, List.forall_mem_cons.mpr ⟨q140, List.forall_mem_cons.mpr ⟨q142, List.forall_mem_cons.mpr ⟨q144, fun _ h => absurd h List.not_mem_nil⟩⟩⟩⟩⟩⟩⟩⟩
theorem ix4 : ∀ w ∈ u_ws RX4 TX4 4, w ∈ AL := List.forall_mem_cons.mpr ⟨q434, List.forall_mem_cons.mpr ⟨q436, List.forall_mem_cons.mpr ⟨q438, List.forall_mem_cons.mpr ⟨q440, fun _ h => absurd h List.not_mem_nil⟩⟩⟩⟩
theorem ix5 : ∀ w ∈ u_ws RX5 TX5 7, w ∈ AL := List.forall_mem_cons.mpr ⟨q267, List.forall_mem_cons.mpr ⟨q269, List.forall_mem_cons.mpr ⟨q271, List.forall_mem_cons.mpr ⟨q273, List.forall_mem_cons.mpr ⟨q275, List.forall_mem_cons.mpr ⟨q277, List.forall_mem_cons.mpr ⟨q279, fun _ h => absurd h List.not_mem_nil⟩⟩⟩⟩⟩⟩⟩
theorem ix6 : ∀ w ∈ u_ws RX6 TX6 3, w ∈ AL := List.forall_mem_cons.mpr ⟨q252, List.forall_mem_cons.mpr ⟨q254, List.forall_mem_cons.mpr ⟨q256, fun _ h => absurd h List.not_mem_nil⟩⟩⟩
theorem ix7 : ∀ w ∈ u_ws RX7 TX7 2, w ∈ AL := List.forall_mem_cons.mpr ⟨q85, List.forall_mem_cons.mpr ⟨q87, fun _ h => absurd h List.not_mem_nil⟩⟩
theorem ix8 : ∀ w ∈ u_ws RX8 TX8 6, w ∈ AL := List.forall_mem_cons.mpr ⟨q218, List.forall_mem_cons.mpr ⟨q220, List.forall_mem_cons.mpr ⟨q222, List.forall_mem_cons.mpr ⟨q224, List.forall_mem_cons.mpr ⟨q226, List.forall_mem_cons.mpr ⟨q228, fun _ h => absurd h List.not_mem_nil⟩⟩⟩⟩⟩⟩
theorem ix9 : ∀ w ∈ u_ws RX9 TX9 7, w ∈ AL := List.forall_mem_cons.mpr ⟨q295, List.forall_mem_cons.mpr ⟨q297, List.forall_mem_cons.mpr ⟨q299, List.forall_mem_cons.mpr ⟨q301, List.forall_mem_cons.mpr ⟨q303, List.forall_mem_cons.mpr ⟨q305, List.forall_mem_cons.mpr ⟨q307, fun _ h => absurd h List.not_mem_nil⟩⟩⟩⟩⟩⟩⟩
theorem ix10 : ∀ w ∈ u_ws RX10 TX10 4, w ∈ AL := List.forall_mem_cons.mpr ⟨q411, List.forall_mem_cons.mpr ⟨q413, List.forall_mem_cons.mpr ⟨q415, List.forall_mem_cons.mpr ⟨q417, fun _ h => absurd h List.not_mem_nil⟩⟩⟩⟩
theorem ix11 : ∀ w ∈ u_ws RX11 TX11 13, w ∈ AL := List.forall_mem_cons.mpr ⟨q456, List.forall_mem_cons.mpr ⟨q458, List.forall_mem_cons.mpr ⟨q460, List.forall_mem_cons.mpr ⟨q462, List.forall_mem_cons.mpr ⟨q464, List.forall_mem_cons.mpr ⟨q466, List.forall_mem_cons.mpr ⟨q468, List.forall_mem_cons.mpr ⟨q470, List.forall_mem_cons.mpr ⟨q472, List.forall_mem_cons.mpr ⟨q474, List.forall_mem_cons.mpr ⟨q476, List.forall_mem_cons.mpr ⟨q478, List.forall_mem_cons.mpr ⟨q480, fun _ h => absurd h List.not_mem_nil⟩⟩⟩⟩⟩⟩⟩⟩⟩⟩⟩⟩⟩
theorem ix12 : ∀ w ∈ u_ws RX12 TX12 61, w ∈ AL := List.forall_mem_cons.mpr ⟨q1021, List.forall_mem_cons.mpr ⟨q1023, List.forall_mem_cons.mpr ⟨q1025, List.forall_mem_cons.mpr ⟨q1027, List.forall_mem_cons.mpr ⟨q1029, List.forall_mem_cons.mpr ⟨q1031, List.forall_mem_cons.mpr ⟨q1033, List.forall_mem_cons.mpr ⟨q1035, List.forall_mem_cons.mpr ⟨q1037, List.forall_mem_cons.mpr ⟨q1039, List.forall_mem_cons.mpr ⟨q1041, List.forall_mem_cons.mpr ⟨q1043, List.forall_mem_cons.mpr ⟨q1045, List.forall_mem_cons.mpr ⟨q1047, List.forall_mem_cons.mpr ⟨q1049, List.forall_mem_cons.mpr ⟨q1051, List.forall_mem_cons.mpr ⟨q1053, List.forall_mem_cons.mpr ⟨q1055, List.forall_mem_cons.mpr ⟨q1057, List.forall_mem_cons.mpr ⟨q1059, List.forall_mem_cons.mpr ⟨q1061, List.forall_mem_cons.mpr ⟨q1063, List.forall_mem_cons.mpr ⟨q1065, List.forall_mem_cons.mpr ⟨q1067, List.forall_mem_cons.mpr ⟨q1069, List.forall_mem_cons.mpr ⟨q1071, List.forall_mem_cons.mpr ⟨q1073, List.forall_mem_cons.mpr ⟨q1075, List.forall_mem_cons.mpr ⟨q1077, List.forall_mem_cons.mpr ⟨q1079, List.forall_mem_cons.mpr ⟨q1081, List.forall_mem_cons.mpr ⟨q1083, List.forall_mem_cons.mpr ⟨q1085, List.forall_mem_cons.mpr ⟨q1087, List.forall_mem_cons.mpr ⟨q1089, List.forall_mem_cons.mpr ⟨q1091, List.forall_mem_cons.mpr ⟨q1093, List.forall_mem_cons.mpr ⟨q1095, List.forall_mem_cons.mpr ⟨q1097, List.forall_mem_cons.mpr ⟨q1099, List.forall_mem_cons.mpr ⟨q1101, List.forall_mem_cons.mpr ⟨q1103, List.forall_mem_cons.mpr ⟨q1105, List.forall_mem_cons.mpr ⟨q1107, List.forall_mem_cons.mpr ⟨q1109, List.forall_mem_cons.mpr ⟨q1111, List.forall_mem_cons.mpr ⟨q1113, List.forall_mem_cons.mpr ⟨q1115, List.forall_mem_cons.mpr ⟨q1117, List.forall_mem_cons.mpr ⟨q1119, List.forall_mem_cons.mpr ⟨q1121, List.forall_mem_cons.mpr ⟨q1123, List.forall_mem_cons.mpr ⟨q1125, List.forall_mem_cons.mpr ⟨q1127, List.forall_mem_cons.mpr ⟨q1129, List.forall_mem_cons.mpr ⟨q1131, List.forall_mem_cons.mpr ⟨q1133, List.forall_mem_cons.mpr ⟨q1135, List.forall_mem_cons.mpr ⟨q1137, List.forall_mem_cons.mpr ⟨q1139, List.forall_mem_cons.mpr ⟨q1141, fun _ h => absurd h List.not_mem_nil⟩⟩⟩⟩⟩⟩⟩⟩⟩⟩⟩⟩⟩⟩⟩⟩⟩⟩⟩⟩⟩⟩⟩⟩⟩⟩⟩⟩⟩⟩⟩⟩⟩⟩⟩⟩⟩⟩⟩⟩⟩⟩⟩⟩⟩⟩⟩⟩⟩⟩⟩⟩⟩⟩⟩⟩⟩⟩⟩⟩⟩
theorem nd_X0_init : yX0_init.cls ≠ "java/lang/invoke/MethodHandle" ∧ yX0_init.cls ≠ "java/lang/invoke/VarHandle" ∧ (parseMethodDescriptor yX0_init.desc).map (fun d => d.parameters.length) = some 0 := by decide +kernel
theorem nd_X0_take : yX0_take.cls ≠ "java/lang/invoke/MethodHandle" ∧ yX0_take.cls ≠ "java/lang/invoke/VarHandle" ∧ (parseMethodDescriptor yX0_take.desc).map (fun d => d.parameters.length) = some 3 := by decide +kernel
theorem nd_X0_copy : yX0_copy.cls ≠ "java/lang/invoke/MethodHandle" ∧ yX0_copy.cls ≠ "java/lang/invoke/VarHandle" ∧ (parseMethodDescriptor yX0_copy.desc).map (fun d => d.parameters.length) = some 1 := by decide +kernel
theorem nd_X1_init : yX1_init.cls ≠ "java/lang/invoke/MethodHandle" ∧ yX1_init.cls ≠ "java/lang/invoke/VarHandle" ∧ (parseMethodDescriptor yX1_init.desc).map (fun d => d.parameters.length) = some 0 := by decide +kernel
theorem nd_X1_of : yX1_of.cls ≠ "java/lang/invoke/MethodHandle" ∧ yX1_of.cls ≠ "java/lang/invoke/VarHandle" ∧ (parseMethodDescriptor yX1_of.desc).map (fun d => d.parameters.length) = some 1 := by decide +kernel
theorem nd_X1_isNothing : yX1_isNothing.cls ≠ "java/lang/invoke/MethodHandle" ∧ yX1_isNothing.cls ≠ "java/lang/invoke/VarHandle" ∧ (parseMethodDescriptor yX1_isNothing.desc).map (fun d => d.parameters.length) = some 0 := by decide +kernel
theorem nd_X1_greatestPower : yX1_greatestPower.cls ≠ "java/lang/invoke/MethodHandle" ∧ yX1_greatestPower.cls ≠ "java/lang/invoke/VarHandle" ∧ (parseMethodDescriptor yX1_greatestPower.desc).map (fun d => d.parameters.length) = some 1 := by decide +kernel
theorem nd_X1_holds : yX1_holds.cls ≠ "java/lang/invoke/MethodHandle" ∧ yX1_holds.cls ≠ "java/lang/invoke/VarHandle" ∧ (parseMethodDescriptor yX1_holds.desc).map (fun d => d.parameters.length) = some 2 := by decide +kernel
theorem nd_X1_peel : yX1_peel.cls ≠ "java/lang/invoke/MethodHandle" ∧ yX1_peel.cls ≠ "java/lang/invoke/VarHandle" ∧ (parseMethodDescriptor yX1_peel.desc).map (fun d => d.parameters.length) = some 2 := by decide +kernel
theorem nd_X1_multiplyByX : yX1_multiplyByX.cls ≠ "java/lang/invoke/MethodHandle" ∧ yX1_multiplyByX.cls ≠ "java/lang/invoke/VarHandle" ∧ (parseMethodDescriptor yX1_multiplyByX.desc).map (fun d => d.parameters.length) = some 1 := by decide +kernel
theorem nd_X2_init : yX2_init.cls ≠ "java/lang/invoke/MethodHandle" ∧ yX2_init.cls ≠ "java/lang/invoke/VarHandle" ∧ (parseMethodDescriptor yX2_init.desc).map (fun d => d.parameters.length) = some 0 := by decide +kernel
theorem nd_X2_becomeSingle : yX2_becomeSingle.cls ≠ "java/lang/invoke/MethodHandle" ∧ yX2_becomeSingle.cls ≠ "java/lang/invoke/VarHandle" ∧ (parseMethodDescriptor yX2_becomeSingle.desc).map (fun d => d.parameters.length) = some 1 := by decide +kernel
theorem nd_X2_becomeDouble : yX2_becomeDouble.cls ≠ "java/lang/invoke/MethodHandle" ∧ yX2_becomeDouble.cls ≠ "java/lang/invoke/VarHandle" ∧ (parseMethodDescriptor yX2_becomeDouble.desc).map (fun d => d.parameters.length) = some 4 := by decide +kernel
theorem nd_X2_become : yX2_become.cls ≠ "java/lang/invoke/MethodHandle" ∧ yX2_become.cls ≠ "java/lang/invoke/VarHandle" ∧ (parseMethodDescriptor yX2_become.desc).map (fun d => d.parameters.length) = some 3 := by decide +kernel
theorem nd_X2_takeDigits : yX2_takeDigits.cls ≠ "java/lang/invoke/MethodHandle" ∧ yX2_takeDigits.cls ≠ "java/lang/invoke/VarHandle" ∧ (parseMethodDescriptor yX2_takeDigits.desc).map (fun d => d.parameters.length) = some 1 := by decide +kernel
theorem nd_X2_zOf : yX2_zOf.cls ≠ "java/lang/invoke/MethodHandle" ∧ yX2_zOf.cls ≠ "java/lang/invoke/VarHandle" ∧ (parseMethodDescriptor yX2_zOf.desc).map (fun d => d.parameters.length) = some 2 := by decide +kernel
theorem nd_X2_fillKeys : yX2_fillKeys.cls ≠ "java/lang/invoke/MethodHandle" ∧ yX2_fillKeys.cls ≠ "java/lang/invoke/VarHandle" ∧ (parseMethodDescriptor yX2_fillKeys.desc).map (fun d => d.parameters.length) = some 1 := by decide +kernel
theorem nd_X2_keepDigits : yX2_keepDigits.cls ≠ "java/lang/invoke/MethodHandle" ∧ yX2_keepDigits.cls ≠ "java/lang/invoke/VarHandle" ∧ (parseMethodDescriptor yX2_keepDigits.desc).map (fun d => d.parameters.length) = some 0 := by decide +kernel
theorem nd_X2_timesSideY : yX2_timesSideY.cls ≠ "java/lang/invoke/MethodHandle" ∧ yX2_timesSideY.cls ≠ "java/lang/invoke/VarHandle" ∧ (parseMethodDescriptor yX2_timesSideY.desc).map (fun d => d.parameters.length) = some 2 := by decide +kernel
theorem nd_X2_timesSideZ : yX2_timesSideZ.cls ≠ "java/lang/invoke/MethodHandle" ∧ yX2_timesSideZ.cls ≠ "java/lang/invoke/VarHandle" ∧ (parseMethodDescriptor yX2_timesSideZ.desc).map (fun d => d.parameters.length) = some 2 := by decide +kernel
theorem nd_X2_keyOf : yX2_keyOf.cls ≠ "java/lang/invoke/MethodHandle" ∧ yX2_keyOf.cls ≠ "java/lang/invoke/VarHandle" ∧ (parseMethodDescriptor yX2_keyOf.desc).map (fun d => d.parameters.length) = some 2 := by decide +kernel
theorem nd_X2_step : yX2_step.cls ≠ "java/lang/invoke/MethodHandle" ∧ yX2_step.cls ≠ "java/lang/invoke/VarHandle" ∧ (parseMethodDescriptor yX2_step.desc).map (fun d => d.parameters.length) = some 2 := by decide +kernel
theorem nd_X3_init : yX3_init.cls ≠ "java/lang/invoke/MethodHandle" ∧ yX3_init.cls ≠ "java/lang/invoke/VarHandle" ∧ (parseMethodDescriptor yX3_init.desc).map (fun d => d.parameters.length) = some 0 := by decide +kernel
theorem nd_X3_change : yX3_change.cls ≠ "java/lang/invoke/MethodHandle" ∧ yX3_change.cls ≠ "java/lang/invoke/VarHandle" ∧ (parseMethodDescriptor yX3_change.desc).map (fun d => d.parameters.length) = some 2 := by decide +kernel
theorem nd_X3_fillPowers : yX3_fillPowers.cls ≠ "java/lang/invoke/MethodHandle" ∧ yX3_fillPowers.cls ≠ "java/lang/invoke/VarHandle" ∧ (parseMethodDescriptor yX3_fillPowers.desc).map (fun d => d.parameters.length) = some 0 := by decide +kernel
theorem nd_X3_fillRowCounts : yX3_fillRowCounts.cls ≠ "java/lang/invoke/MethodHandle" ∧ yX3_fillRowCounts.cls ≠ "java/lang/invoke/VarHandle" ∧ (parseMethodDescriptor yX3_fillRowCounts.desc).map (fun d => d.parameters.length) = some 0 := by decide +kernel
theorem nd_X3_top : yX3_top.cls ≠ "java/lang/invoke/MethodHandle" ∧ yX3_top.cls ≠ "java/lang/invoke/VarHandle" ∧ (parseMethodDescriptor yX3_top.desc).map (fun d => d.parameters.length) = some 0 := by decide +kernel
theorem nd_X3_digitOfOne : yX3_digitOfOne.cls ≠ "java/lang/invoke/MethodHandle" ∧ yX3_digitOfOne.cls ≠ "java/lang/invoke/VarHandle" ∧ (parseMethodDescriptor yX3_digitOfOne.desc).map (fun d => d.parameters.length) = some 1 := by decide +kernel
theorem nd_X3_digitOfBar : yX3_digitOfBar.cls ≠ "java/lang/invoke/MethodHandle" ∧ yX3_digitOfBar.cls ≠ "java/lang/invoke/VarHandle" ∧ (parseMethodDescriptor yX3_digitOfBar.desc).map (fun d => d.parameters.length) = some 1 := by decide +kernel
theorem nd_X3_rowCount : yX3_rowCount.cls ≠ "java/lang/invoke/MethodHandle" ∧ yX3_rowCount.cls ≠ "java/lang/invoke/VarHandle" ∧ (parseMethodDescriptor yX3_rowCount.desc).map (fun d => d.parameters.length) = some 1 := by decide +kernel
theorem nd_X3_sign : yX3_sign.cls ≠ "java/lang/invoke/MethodHandle" ∧ yX3_sign.cls ≠ "java/lang/invoke/VarHandle" ∧ (parseMethodDescriptor yX3_sign.desc).map (fun d => d.parameters.length) = some 2 := by decide +kernel
theorem nd_X3_wholeBelow : yX3_wholeBelow.cls ≠ "java/lang/invoke/MethodHandle" ∧ yX3_wholeBelow.cls ≠ "java/lang/invoke/VarHandle" ∧ (parseMethodDescriptor yX3_wholeBelow.desc).map (fun d => d.parameters.length) = some 1 := by decide +kernel
theorem nd_X3_squareRoot : yX3_squareRoot.cls ≠ "java/lang/invoke/MethodHandle" ∧ yX3_squareRoot.cls ≠ "java/lang/invoke/VarHandle" ∧ (parseMethodDescriptor yX3_squareRoot.desc).map (fun d => d.parameters.length) = some 1 := by decide +kernel
theorem nd_X3_join : yX3_join.cls ≠ "java/lang/invoke/MethodHandle" ∧ yX3_join.cls ≠ "java/lang/invoke/VarHandle" ∧ (parseMethodDescriptor yX3_join.desc).map (fun d => d.parameters.length) = some 4 := by decide +kernel
theorem nd_X3_multiply : yX3_multiply.cls ≠ "java/lang/invoke/MethodHandle" ∧ yX3_multiply.cls ≠ "java/lang/invoke/VarHandle" ∧ (parseMethodDescriptor yX3_multiply.desc).map (fun d => d.parameters.length) = some 3 := by decide +kernel
theorem nd_X3_divide : yX3_divide.cls ≠ "java/lang/invoke/MethodHandle" ∧ yX3_divide.cls ≠ "java/lang/invoke/VarHandle" ∧ (parseMethodDescriptor yX3_divide.desc).map (fun d => d.parameters.length) = some 3 := by decide +kernel
theorem nd_X3_multiplyByX : yX3_multiplyByX.cls ≠ "java/lang/invoke/MethodHandle" ∧ yX3_multiplyByX.cls ≠ "java/lang/invoke/VarHandle" ∧ (parseMethodDescriptor yX3_multiplyByX.desc).map (fun d => d.parameters.length) = some 1 := by decide +kernel
theorem nd_X3_divideByX : yX3_divideByX.cls ≠ "java/lang/invoke/MethodHandle" ∧ yX3_divideByX.cls ≠ "java/lang/invoke/VarHandle" ∧ (parseMethodDescriptor yX3_divideByX.desc).map (fun d => d.parameters.length) = some 1 := by decide +kernel
theorem nd_X3_putWhole : yX3_putWhole.cls ≠ "java/lang/invoke/MethodHandle" ∧ yX3_putWhole.cls ≠ "java/lang/invoke/VarHandle" ∧ (parseMethodDescriptor yX3_putWhole.desc).map (fun d => d.parameters.length) = some 2 := by decide +kernel
theorem nd_X4_init : yX4_init.cls ≠ "java/lang/invoke/MethodHandle" ∧ yX4_init.cls ≠ "java/lang/invoke/VarHandle" ∧ (parseMethodDescriptor yX4_init.desc).map (fun d => d.parameters.length) = some 0 := by decide +kernel
theorem nd_X4_include : yX4_include.cls ≠ "java/lang/invoke/MethodHandle" ∧ yX4_include.cls ≠ "java/lang/invoke/VarHandle" ∧ (parseMethodDescriptor yX4_include.desc).map (fun d => d.parameters.length) = some 3 := by decide +kernel
theorem nd_X4_isLess : yX4_isLess.cls ≠ "java/lang/invoke/MethodHandle" ∧ yX4_isLess.cls ≠ "java/lang/invoke/VarHandle" ∧ (parseMethodDescriptor yX4_isLess.desc).map (fun d => d.parameters.length) = some 3 := by decide +kernel
theorem nd_X5_init : yX5_init.cls ≠ "java/lang/invoke/MethodHandle" ∧ yX5_init.cls ≠ "java/lang/invoke/VarHandle" ∧ (parseMethodDescriptor yX5_init.desc).map (fun d => d.parameters.length) = some 0 := by decide +kernel
theorem nd_X5_reckon : yX5_reckon.cls ≠ "java/lang/invoke/MethodHandle" ∧ yX5_reckon.cls ≠ "java/lang/invoke/VarHandle" ∧ (parseMethodDescriptor yX5_reckon.desc).map (fun d => d.parameters.length) = some 4 := by decide +kernel
theorem nd_X5_addRound : yX5_addRound.cls ≠ "java/lang/invoke/MethodHandle" ∧ yX5_addRound.cls ≠ "java/lang/invoke/VarHandle" ∧ (parseMethodDescriptor yX5_addRound.desc).map (fun d => d.parameters.length) = some 3 := by decide +kernel
theorem nd_X5_addUpward : yX5_addUpward.cls ≠ "java/lang/invoke/MethodHandle" ∧ yX5_addUpward.cls ≠ "java/lang/invoke/VarHandle" ∧ (parseMethodDescriptor yX5_addUpward.desc).map (fun d => d.parameters.length) = some 4 := by decide +kernel
theorem nd_X5_addDownward : yX5_addDownward.cls ≠ "java/lang/invoke/MethodHandle" ∧ yX5_addDownward.cls ≠ "java/lang/invoke/VarHandle" ∧ (parseMethodDescriptor yX5_addDownward.desc).map (fun d => d.parameters.length) = some 4 := by decide +kernel
theorem nd_X6_init : yX6_init.cls ≠ "java/lang/invoke/MethodHandle" ∧ yX6_init.cls ≠ "java/lang/invoke/VarHandle" ∧ (parseMethodDescriptor yX6_init.desc).map (fun d => d.parameters.length) = some 0 := by decide +kernel
theorem nd_X6_clear : yX6_clear.cls ≠ "java/lang/invoke/MethodHandle" ∧ yX6_clear.cls ≠ "java/lang/invoke/VarHandle" ∧ (parseMethodDescriptor yX6_clear.desc).map (fun d => d.parameters.length) = some 0 := by decide +kernel
theorem nd_X6_add : yX6_add.cls ≠ "java/lang/invoke/MethodHandle" ∧ yX6_add.cls ≠ "java/lang/invoke/VarHandle" ∧ (parseMethodDescriptor yX6_add.desc).map (fun d => d.parameters.length) = some 2 := by decide +kernel
theorem nd_X7_init : yX7_init.cls ≠ "java/lang/invoke/MethodHandle" ∧ yX7_init.cls ≠ "java/lang/invoke/VarHandle" ∧ (parseMethodDescriptor yX7_init.desc).map (fun d => d.parameters.length) = some 0 := by decide +kernel
theorem nd_X7_hasRoomForFive : yX7_hasRoomForFive.cls ≠ "java/lang/invoke/MethodHandle" ∧ yX7_hasRoomForFive.cls ≠ "java/lang/invoke/VarHandle" ∧ (parseMethodDescriptor yX7_hasRoomForFive.desc).map (fun d => d.parameters.length) = some 0 := by decide +kernel
theorem nd_X7_append : yX7_append.cls ≠ "java/lang/invoke/MethodHandle" ∧ yX7_append.cls ≠ "java/lang/invoke/VarHandle" ∧ (parseMethodDescriptor yX7_append.desc).map (fun d => d.parameters.length) = some 1 := by decide +kernel
theorem nd_X7_at : yX7_at.cls ≠ "java/lang/invoke/MethodHandle" ∧ yX7_at.cls ≠ "java/lang/invoke/VarHandle" ∧ (parseMethodDescriptor yX7_at.desc).map (fun d => d.parameters.length) = some 1 := by decide +kernel
theorem nd_X7_hasNegative : yX7_hasNegative.cls ≠ "java/lang/invoke/MethodHandle" ∧ yX7_hasNegative.cls ≠ "java/lang/invoke/VarHandle" ∧ (parseMethodDescriptor yX7_hasNegative.desc).map (fun d => d.parameters.length) = some 0 := by decide +kernel
theorem nd_X8_init : yX8_init.cls ≠ "java/lang/invoke/MethodHandle" ∧ yX8_init.cls ≠ "java/lang/invoke/VarHandle" ∧ (parseMethodDescriptor yX8_init.desc).map (fun d => d.parameters.length) = some 0 := by decide +kernel
theorem nd_X8_tell : yX8_tell.cls ≠ "java/lang/invoke/MethodHandle" ∧ yX8_tell.cls ≠ "java/lang/invoke/VarHandle" ∧ (parseMethodDescriptor yX8_tell.desc).map (fun d => d.parameters.length) = some 4 := by decide +kernel
theorem nd_X8_tellBehind : yX8_tellBehind.cls ≠ "java/lang/invoke/MethodHandle" ∧ yX8_tellBehind.cls ≠ "java/lang/invoke/VarHandle" ∧ (parseMethodDescriptor yX8_tellBehind.desc).map (fun d => d.parameters.length) = some 3 := by decide +kernel
theorem nd_X8_settle : yX8_settle.cls ≠ "java/lang/invoke/MethodHandle" ∧ yX8_settle.cls ≠ "java/lang/invoke/VarHandle" ∧ (parseMethodDescriptor yX8_settle.desc).map (fun d => d.parameters.length) = some 3 := by decide +kernel
theorem nd_X8_at : yX8_at.cls ≠ "java/lang/invoke/MethodHandle" ∧ yX8_at.cls ≠ "java/lang/invoke/VarHandle" ∧ (parseMethodDescriptor yX8_at.desc).map (fun d => d.parameters.length) = some 1 := by decide +kernel
theorem nd_X9_init : yX9_init.cls ≠ "java/lang/invoke/MethodHandle" ∧ yX9_init.cls ≠ "java/lang/invoke/VarHandle" ∧ (parseMethodDescriptor yX9_init.desc).map (fun d => d.parameters.length) = some 0 := by decide +kernel
theorem nd_X9_clear : yX9_clear.cls ≠ "java/lang/invoke/MethodHandle" ∧ yX9_clear.cls ≠ "java/lang/invoke/VarHandle" ∧ (parseMethodDescriptor yX9_clear.desc).map (fun d => d.parameters.length) = some 0 := by decide +kernel
theorem nd_X9_meet : yX9_meet.cls ≠ "java/lang/invoke/MethodHandle" ∧ yX9_meet.cls ≠ "java/lang/invoke/VarHandle" ∧ (parseMethodDescriptor yX9_meet.desc).map (fun d => d.parameters.length) = some 2 := by decide +kernel
theorem nd_X9_append : yX9_append.cls ≠ "java/lang/invoke/MethodHandle" ∧ yX9_append.cls ≠ "java/lang/invoke/VarHandle" ∧ (parseMethodDescriptor yX9_append.desc).map (fun d => d.parameters.length) = some 3 := by decide +kernel
theorem nd_X9_firstAt : yX9_firstAt.cls ≠ "java/lang/invoke/MethodHandle" ∧ yX9_firstAt.cls ≠ "java/lang/invoke/VarHandle" ∧ (parseMethodDescriptor yX9_firstAt.desc).map (fun d => d.parameters.length) = some 1 := by decide +kernel
theorem nd_X9_secondAt : yX9_secondAt.cls ≠ "java/lang/invoke/MethodHandle" ∧ yX9_secondAt.cls ≠ "java/lang/invoke/VarHandle" ∧ (parseMethodDescriptor yX9_secondAt.desc).map (fun d => d.parameters.length) = some 1 := by decide +kernel
theorem nd_X9_leastOf : yX9_leastOf.cls ≠ "java/lang/invoke/MethodHandle" ∧ yX9_leastOf.cls ≠ "java/lang/invoke/VarHandle" ∧ (parseMethodDescriptor yX9_leastOf.desc).map (fun d => d.parameters.length) = some 2 := by decide +kernel
theorem nd_X10_init : yX10_init.cls ≠ "java/lang/invoke/MethodHandle" ∧ yX10_init.cls ≠ "java/lang/invoke/VarHandle" ∧ (parseMethodDescriptor yX10_init.desc).map (fun d => d.parameters.length) = some 0 := by decide +kernel
theorem nd_X10_go : yX10_go.cls ≠ "java/lang/invoke/MethodHandle" ∧ yX10_go.cls ≠ "java/lang/invoke/VarHandle" ∧ (parseMethodDescriptor yX10_go.desc).map (fun d => d.parameters.length) = some 4 := by decide +kernel
theorem nd_X10_settle : yX10_settle.cls ≠ "java/lang/invoke/MethodHandle" ∧ yX10_settle.cls ≠ "java/lang/invoke/VarHandle" ∧ (parseMethodDescriptor yX10_settle.desc).map (fun d => d.parameters.length) = some 3 := by decide +kernel
theorem nd_X10_at : yX10_at.cls ≠ "java/lang/invoke/MethodHandle" ∧ yX10_at.cls ≠ "java/lang/invoke/VarHandle" ∧ (parseMethodDescriptor yX10_at.desc).map (fun d => d.parameters.length) = some 1 := by decide +kernel
theorem nd_X11_init : yX11_init.cls ≠ "java/lang/invoke/MethodHandle" ∧ yX11_init.cls ≠ "java/lang/invoke/VarHandle" ∧ (parseMethodDescriptor yX11_init.desc).map (fun d => d.parameters.length) = some 0 := by decide +kernel
theorem nd_X11_feed : yX11_feed.cls ≠ "java/lang/invoke/MethodHandle" ∧ yX11_feed.cls ≠ "java/lang/invoke/VarHandle" ∧ (parseMethodDescriptor yX11_feed.desc).map (fun d => d.parameters.length) = some 5 := by decide +kernel
theorem nd_X11_end : yX11_end.cls ≠ "java/lang/invoke/MethodHandle" ∧ yX11_end.cls ≠ "java/lang/invoke/VarHandle" ∧ (parseMethodDescriptor yX11_end.desc).map (fun d => d.parameters.length) = some 1 := by decide +kernel
theorem nd_X11_base : yX11_base.cls ≠ "java/lang/invoke/MethodHandle" ∧ yX11_base.cls ≠ "java/lang/invoke/VarHandle" ∧ (parseMethodDescriptor yX11_base.desc).map (fun d => d.parameters.length) = some 2 := by decide +kernel
theorem nd_X11_number : yX11_number.cls ≠ "java/lang/invoke/MethodHandle" ∧ yX11_number.cls ≠ "java/lang/invoke/VarHandle" ∧ (parseMethodDescriptor yX11_number.desc).map (fun d => d.parameters.length) = some 4 := by decide +kernel
theorem nd_X11_make : yX11_make.cls ≠ "java/lang/invoke/MethodHandle" ∧ yX11_make.cls ≠ "java/lang/invoke/VarHandle" ∧ (parseMethodDescriptor yX11_make.desc).map (fun d => d.parameters.length) = some 4 := by decide +kernel
theorem nd_X11_part : yX11_part.cls ≠ "java/lang/invoke/MethodHandle" ∧ yX11_part.cls ≠ "java/lang/invoke/VarHandle" ∧ (parseMethodDescriptor yX11_part.desc).map (fun d => d.parameters.length) = some 2 := by decide +kernel
theorem nd_X11_compare : yX11_compare.cls ≠ "java/lang/invoke/MethodHandle" ∧ yX11_compare.cls ≠ "java/lang/invoke/VarHandle" ∧ (parseMethodDescriptor yX11_compare.desc).map (fun d => d.parameters.length) = some 2 := by decide +kernel
theorem nd_X11_floor : yX11_floor.cls ≠ "java/lang/invoke/MethodHandle" ∧ yX11_floor.cls ≠ "java/lang/invoke/VarHandle" ∧ (parseMethodDescriptor yX11_floor.desc).map (fun d => d.parameters.length) = some 1 := by decide +kernel
theorem nd_X11_digits : yX11_digits.cls ≠ "java/lang/invoke/MethodHandle" ∧ yX11_digits.cls ≠ "java/lang/invoke/VarHandle" ∧ (parseMethodDescriptor yX11_digits.desc).map (fun d => d.parameters.length) = some 1 := by decide +kernel
theorem nd_X11_told : yX11_told.cls ≠ "java/lang/invoke/MethodHandle" ∧ yX11_told.cls ≠ "java/lang/invoke/VarHandle" ∧ (parseMethodDescriptor yX11_told.desc).map (fun d => d.parameters.length) = some 1 := by decide +kernel
theorem nd_X11_digit : yX11_digit.cls ≠ "java/lang/invoke/MethodHandle" ∧ yX11_digit.cls ≠ "java/lang/invoke/VarHandle" ∧ (parseMethodDescriptor yX11_digit.desc).map (fun d => d.parameters.length) = some 1 := by decide +kernel
theorem nd_X11_value : yX11_value.cls ≠ "java/lang/invoke/MethodHandle" ∧ yX11_value.cls ≠ "java/lang/invoke/VarHandle" ∧ (parseMethodDescriptor yX11_value.desc).map (fun d => d.parameters.length) = some 3 := by decide +kernel
theorem nd_X11_allowed : yX11_allowed.cls ≠ "java/lang/invoke/MethodHandle" ∧ yX11_allowed.cls ≠ "java/lang/invoke/VarHandle" ∧ (parseMethodDescriptor yX11_allowed.desc).map (fun d => d.parameters.length) = some 0 := by decide +kernel
theorem nd_X11_one : yX11_one.cls ≠ "java/lang/invoke/MethodHandle" ∧ yX11_one.cls ≠ "java/lang/invoke/VarHandle" ∧ (parseMethodDescriptor yX11_one.desc).map (fun d => d.parameters.length) = some 1 := by decide +kernel
theorem nd_X11_rows : yX11_rows.cls ≠ "java/lang/invoke/MethodHandle" ∧ yX11_rows.cls ≠ "java/lang/invoke/VarHandle" ∧ (parseMethodDescriptor yX11_rows.desc).map (fun d => d.parameters.length) = some 1 := by decide +kernel
theorem nd_X11_whole : yX11_whole.cls ≠ "java/lang/invoke/MethodHandle" ∧ yX11_whole.cls ≠ "java/lang/invoke/VarHandle" ∧ (parseMethodDescriptor yX11_whole.desc).map (fun d => d.parameters.length) = some 2 := by decide +kernel
theorem nd_X11_rank : yX11_rank.cls ≠ "java/lang/invoke/MethodHandle" ∧ yX11_rank.cls ≠ "java/lang/invoke/VarHandle" ∧ (parseMethodDescriptor yX11_rank.desc).map (fun d => d.parameters.length) = some 1 := by decide +kernel
theorem nd_X11_ring : yX11_ring.cls ≠ "java/lang/invoke/MethodHandle" ∧ yX11_ring.cls ≠ "java/lang/invoke/VarHandle" ∧ (parseMethodDescriptor yX11_ring.desc).map (fun d => d.parameters.length) = some 5 := by decide +kernel
theorem nd_X11_set : yX11_set.cls ≠ "java/lang/invoke/MethodHandle" ∧ yX11_set.cls ≠ "java/lang/invoke/VarHandle" ∧ (parseMethodDescriptor yX11_set.desc).map (fun d => d.parameters.length) = some 0 := by decide +kernel
theorem nd_X11_write : yX11_write.cls ≠ "java/lang/invoke/MethodHandle" ∧ yX11_write.cls ≠ "java/lang/invoke/VarHandle" ∧ (parseMethodDescriptor yX11_write.desc).map (fun d => d.parameters.length) = some 2 := by decide +kernel
theorem nd_X11_written : yX11_written.cls ≠ "java/lang/invoke/MethodHandle" ∧ yX11_written.cls ≠ "java/lang/invoke/VarHandle" ∧ (parseMethodDescriptor yX11_written.desc).map (fun d => d.parameters.length) = some 1 := by decide +kernel
theorem nd_X11_place : yX11_place.cls ≠ "java/lang/invoke/MethodHandle" ∧ yX11_place.cls ≠ "java/lang/invoke/VarHandle" ∧ (parseMethodDescriptor yX11_place.desc).map (fun d => d.parameters.length) = some 1 := by decide +kernel
theorem nd_X11_rounds : yX11_rounds.cls ≠ "java/lang/invoke/MethodHandle" ∧ yX11_rounds.cls ≠ "java/lang/invoke/VarHandle" ∧ (parseMethodDescriptor yX11_rounds.desc).map (fun d => d.parameters.length) = some 1 := by decide +kernel
theorem nd_X11_round : yX11_round.cls ≠ "java/lang/invoke/MethodHandle" ∧ yX11_round.cls ≠ "java/lang/invoke/VarHandle" ∧ (parseMethodDescriptor yX11_round.desc).map (fun d => d.parameters.length) = some 2 := by decide +kernel
theorem nd_X11_ending : yX11_ending.cls ≠ "java/lang/invoke/MethodHandle" ∧ yX11_ending.cls ≠ "java/lang/invoke/VarHandle" ∧ (parseMethodDescriptor yX11_ending.desc).map (fun d => d.parameters.length) = some 1 := by decide +kernel
theorem nd_X11_count : yX11_count.cls ≠ "java/lang/invoke/MethodHandle" ∧ yX11_count.cls ≠ "java/lang/invoke/VarHandle" ∧ (parseMethodDescriptor yX11_count.desc).map (fun d => d.parameters.length) = some 1 := by decide +kernel
theorem nd_X11_isSlot : yX11_isSlot.cls ≠ "java/lang/invoke/MethodHandle" ∧ yX11_isSlot.cls ≠ "java/lang/invoke/VarHandle" ∧ (parseMethodDescriptor yX11_isSlot.desc).map (fun d => d.parameters.length) = some 1 := by decide +kernel
theorem nd_X11_hasNumber : yX11_hasNumber.cls ≠ "java/lang/invoke/MethodHandle" ∧ yX11_hasNumber.cls ≠ "java/lang/invoke/VarHandle" ∧ (parseMethodDescriptor yX11_hasNumber.desc).map (fun d => d.parameters.length) = some 1 := by decide +kernel
theorem nd_X11_hasNumberFromZero : yX11_hasNumberFromZero.cls ≠ "java/lang/invoke/MethodHandle" ∧ yX11_hasNumberFromZero.cls ≠ "java/lang/invoke/VarHandle" ∧ (parseMethodDescriptor yX11_hasNumberFromZero.desc).map (fun d => d.parameters.length) = some 1 := by decide +kernel
theorem nd_X11_numbersThere : yX11_numbersThere.cls ≠ "java/lang/invoke/MethodHandle" ∧ yX11_numbersThere.cls ≠ "java/lang/invoke/VarHandle" ∧ (parseMethodDescriptor yX11_numbersThere.desc).map (fun d => d.parameters.length) = some 0 := by decide +kernel
theorem nd_X11_isBeyond : yX11_isBeyond.cls ≠ "java/lang/invoke/MethodHandle" ∧ yX11_isBeyond.cls ≠ "java/lang/invoke/VarHandle" ∧ (parseMethodDescriptor yX11_isBeyond.desc).map (fun d => d.parameters.length) = some 2 := by decide +kernel
theorem nd_X11_firstAboveBar : yX11_firstAboveBar.cls ≠ "java/lang/invoke/MethodHandle" ∧ yX11_firstAboveBar.cls ≠ "java/lang/invoke/VarHandle" ∧ (parseMethodDescriptor yX11_firstAboveBar.desc).map (fun d => d.parameters.length) = some 0 := by decide +kernel
theorem nd_X11_isAboveBar : yX11_isAboveBar.cls ≠ "java/lang/invoke/MethodHandle" ∧ yX11_isAboveBar.cls ≠ "java/lang/invoke/VarHandle" ∧ (parseMethodDescriptor yX11_isAboveBar.desc).map (fun d => d.parameters.length) = some 1 := by decide +kernel
theorem nd_X11_surveyAll : yX11_surveyAll.cls ≠ "java/lang/invoke/MethodHandle" ∧ yX11_surveyAll.cls ≠ "java/lang/invoke/VarHandle" ∧ (parseMethodDescriptor yX11_surveyAll.desc).map (fun d => d.parameters.length) = some 1 := by decide +kernel
theorem nd_X11_noteOutcome : yX11_noteOutcome.cls ≠ "java/lang/invoke/MethodHandle" ∧ yX11_noteOutcome.cls ≠ "java/lang/invoke/VarHandle" ∧ (parseMethodDescriptor yX11_noteOutcome.desc).map (fun d => d.parameters.length) = some 0 := by decide +kernel
theorem nd_X11_common : yX11_common.cls ≠ "java/lang/invoke/MethodHandle" ∧ yX11_common.cls ≠ "java/lang/invoke/VarHandle" ∧ (parseMethodDescriptor yX11_common.desc).map (fun d => d.parameters.length) = some 2 := by decide +kernel
theorem nd_X12_init : yX12_init.cls ≠ "java/lang/invoke/MethodHandle" ∧ yX12_init.cls ≠ "java/lang/invoke/VarHandle" ∧ (parseMethodDescriptor yX12_init.desc).map (fun d => d.parameters.length) = some 0 := by decide +kernel
theorem nd_X12_thrown : yX12_thrown.cls ≠ "java/lang/invoke/MethodHandle" ∧ yX12_thrown.cls ≠ "java/lang/invoke/VarHandle" ∧ (parseMethodDescriptor yX12_thrown.desc).map (fun d => d.parameters.length) = some 0 := by decide +kernel
theorem nd_X12_throwsIf : yX12_throwsIf.cls ≠ "java/lang/invoke/MethodHandle" ∧ yX12_throwsIf.cls ≠ "java/lang/invoke/VarHandle" ∧ (parseMethodDescriptor yX12_throwsIf.desc).map (fun d => d.parameters.length) = some 1 := by decide +kernel
theorem nd_X12_feed : yX12_feed.cls ≠ "java/lang/invoke/MethodHandle" ∧ yX12_feed.cls ≠ "java/lang/invoke/VarHandle" ∧ (parseMethodDescriptor yX12_feed.desc).map (fun d => d.parameters.length) = some 5 := by decide +kernel
theorem nd_X12_four : yX12_four.cls ≠ "java/lang/invoke/MethodHandle" ∧ yX12_four.cls ≠ "java/lang/invoke/VarHandle" ∧ (parseMethodDescriptor yX12_four.desc).map (fun d => d.parameters.length) = some 1 := by decide +kernel
theorem nd_X12_end : yX12_end.cls ≠ "java/lang/invoke/MethodHandle" ∧ yX12_end.cls ≠ "java/lang/invoke/VarHandle" ∧ (parseMethodDescriptor yX12_end.desc).map (fun d => d.parameters.length) = some 1 := by decide +kernel
theorem nd_X12_taken : yX12_taken.cls ≠ "java/lang/invoke/MethodHandle" ∧ yX12_taken.cls ≠ "java/lang/invoke/VarHandle" ∧ (parseMethodDescriptor yX12_taken.desc).map (fun d => d.parameters.length) = some 0 := by decide +kernel
theorem nd_X12_isSquare : yX12_isSquare.cls ≠ "java/lang/invoke/MethodHandle" ∧ yX12_isSquare.cls ≠ "java/lang/invoke/VarHandle" ∧ (parseMethodDescriptor yX12_isSquare.desc).map (fun d => d.parameters.length) = some 1 := by decide +kernel
theorem nd_X12_base : yX12_base.cls ≠ "java/lang/invoke/MethodHandle" ∧ yX12_base.cls ≠ "java/lang/invoke/VarHandle" ∧ (parseMethodDescriptor yX12_base.desc).map (fun d => d.parameters.length) = some 2 := by decide +kernel
theorem nd_X12_sign : yX12_sign.cls ≠ "java/lang/invoke/MethodHandle" ∧ yX12_sign.cls ≠ "java/lang/invoke/VarHandle" ∧ (parseMethodDescriptor yX12_sign.desc).map (fun d => d.parameters.length) = some 2 := by decide +kernel
theorem nd_X12_common : yX12_common.cls ≠ "java/lang/invoke/MethodHandle" ∧ yX12_common.cls ≠ "java/lang/invoke/VarHandle" ∧ (parseMethodDescriptor yX12_common.desc).map (fun d => d.parameters.length) = some 2 := by decide +kernel
theorem nd_X12_set : yX12_set.cls ≠ "java/lang/invoke/MethodHandle" ∧ yX12_set.cls ≠ "java/lang/invoke/VarHandle" ∧ (parseMethodDescriptor yX12_set.desc).map (fun d => d.parameters.length) = some 3 := by decide +kernel
theorem nd_X12_isNumber : yX12_isNumber.cls ≠ "java/lang/invoke/MethodHandle" ∧ yX12_isNumber.cls ≠ "java/lang/invoke/VarHandle" ∧ (parseMethodDescriptor yX12_isNumber.desc).map (fun d => d.parameters.length) = some 0 := by decide +kernel
theorem nd_X12_put : yX12_put.cls ≠ "java/lang/invoke/MethodHandle" ∧ yX12_put.cls ≠ "java/lang/invoke/VarHandle" ∧ (parseMethodDescriptor yX12_put.desc).map (fun d => d.parameters.length) = some 1 := by decide +kernel
theorem nd_X12_number : yX12_number.cls ≠ "java/lang/invoke/MethodHandle" ∧ yX12_number.cls ≠ "java/lang/invoke/VarHandle" ∧ (parseMethodDescriptor yX12_number.desc).map (fun d => d.parameters.length) = some 4 := by decide +kernel
theorem nd_X12_isThere : yX12_isThere.cls ≠ "java/lang/invoke/MethodHandle" ∧ yX12_isThere.cls ≠ "java/lang/invoke/VarHandle" ∧ (parseMethodDescriptor yX12_isThere.desc).map (fun d => d.parameters.length) = some 1 := by decide +kernel
theorem nd_X12_times : yX12_times.cls ≠ "java/lang/invoke/MethodHandle" ∧ yX12_times.cls ≠ "java/lang/invoke/VarHandle" ∧ (parseMethodDescriptor yX12_times.desc).map (fun d => d.parameters.length) = some 3 := by decide +kernel
theorem nd_X12_by : yX12_by.cls ≠ "java/lang/invoke/MethodHandle" ∧ yX12_by.cls ≠ "java/lang/invoke/VarHandle" ∧ (parseMethodDescriptor yX12_by.desc).map (fun d => d.parameters.length) = some 3 := by decide +kernel
theorem nd_X12_plus : yX12_plus.cls ≠ "java/lang/invoke/MethodHandle" ∧ yX12_plus.cls ≠ "java/lang/invoke/VarHandle" ∧ (parseMethodDescriptor yX12_plus.desc).map (fun d => d.parameters.length) = some 3 := by decide +kernel
theorem nd_X12_make : yX12_make.cls ≠ "java/lang/invoke/MethodHandle" ∧ yX12_make.cls ≠ "java/lang/invoke/VarHandle" ∧ (parseMethodDescriptor yX12_make.desc).map (fun d => d.parameters.length) = some 4 := by decide +kernel
theorem nd_X12_part : yX12_part.cls ≠ "java/lang/invoke/MethodHandle" ∧ yX12_part.cls ≠ "java/lang/invoke/VarHandle" ∧ (parseMethodDescriptor yX12_part.desc).map (fun d => d.parameters.length) = some 2 := by decide +kernel
theorem nd_X12_compare : yX12_compare.cls ≠ "java/lang/invoke/MethodHandle" ∧ yX12_compare.cls ≠ "java/lang/invoke/VarHandle" ∧ (parseMethodDescriptor yX12_compare.desc).map (fun d => d.parameters.length) = some 2 := by decide +kernel
theorem nd_X12_floorOf : yX12_floorOf.cls ≠ "java/lang/invoke/MethodHandle" ∧ yX12_floorOf.cls ≠ "java/lang/invoke/VarHandle" ∧ (parseMethodDescriptor yX12_floorOf.desc).map (fun d => d.parameters.length) = some 3 := by decide +kernel
theorem nd_X12_floor : yX12_floor.cls ≠ "java/lang/invoke/MethodHandle" ∧ yX12_floor.cls ≠ "java/lang/invoke/VarHandle" ∧ (parseMethodDescriptor yX12_floor.desc).map (fun d => d.parameters.length) = some 1 := by decide +kernel
theorem nd_X12_whole : yX12_whole.cls ≠ "java/lang/invoke/MethodHandle" ∧ yX12_whole.cls ≠ "java/lang/invoke/VarHandle" ∧ (parseMethodDescriptor yX12_whole.desc).map (fun d => d.parameters.length) = some 3 := by decide +kernel
theorem nd_X12_digits : yX12_digits.cls ≠ "java/lang/invoke/MethodHandle" ∧ yX12_digits.cls ≠ "java/lang/invoke/VarHandle" ∧ (parseMethodDescriptor yX12_digits.desc).map (fun d => d.parameters.length) = some 1 := by decide +kernel
theorem nd_X12_told : yX12_told.cls ≠ "java/lang/invoke/MethodHandle" ∧ yX12_told.cls ≠ "java/lang/invoke/VarHandle" ∧ (parseMethodDescriptor yX12_told.desc).map (fun d => d.parameters.length) = some 1 := by decide +kernel
theorem nd_X12_digit : yX12_digit.cls ≠ "java/lang/invoke/MethodHandle" ∧ yX12_digit.cls ≠ "java/lang/invoke/VarHandle" ∧ (parseMethodDescriptor yX12_digit.desc).map (fun d => d.parameters.length) = some 1 := by decide +kernel
theorem nd_X12_power : yX12_power.cls ≠ "java/lang/invoke/MethodHandle" ∧ yX12_power.cls ≠ "java/lang/invoke/VarHandle" ∧ (parseMethodDescriptor yX12_power.desc).map (fun d => d.parameters.length) = some 1 := by decide +kernel
theorem nd_X12_summed : yX12_summed.cls ≠ "java/lang/invoke/MethodHandle" ∧ yX12_summed.cls ≠ "java/lang/invoke/VarHandle" ∧ (parseMethodDescriptor yX12_summed.desc).map (fun d => d.parameters.length) = some 3 := by decide +kernel
theorem nd_X12_value : yX12_value.cls ≠ "java/lang/invoke/MethodHandle" ∧ yX12_value.cls ≠ "java/lang/invoke/VarHandle" ∧ (parseMethodDescriptor yX12_value.desc).map (fun d => d.parameters.length) = some 3 := by decide +kernel
theorem nd_X12_bar : yX12_bar.cls ≠ "java/lang/invoke/MethodHandle" ∧ yX12_bar.cls ≠ "java/lang/invoke/VarHandle" ∧ (parseMethodDescriptor yX12_bar.desc).map (fun d => d.parameters.length) = some 1 := by decide +kernel
theorem nd_X12_allowed : yX12_allowed.cls ≠ "java/lang/invoke/MethodHandle" ∧ yX12_allowed.cls ≠ "java/lang/invoke/VarHandle" ∧ (parseMethodDescriptor yX12_allowed.desc).map (fun d => d.parameters.length) = some 0 := by decide +kernel
theorem nd_X12_one : yX12_one.cls ≠ "java/lang/invoke/MethodHandle" ∧ yX12_one.cls ≠ "java/lang/invoke/VarHandle" ∧ (parseMethodDescriptor yX12_one.desc).map (fun d => d.parameters.length) = some 1 := by decide +kernel
theorem nd_X12_count0 : yX12_count0.cls ≠ "java/lang/invoke/MethodHandle" ∧ yX12_count0.cls ≠ "java/lang/invoke/VarHandle" ∧ (parseMethodDescriptor yX12_count0.desc).map (fun d => d.parameters.length) = some 1 := by decide +kernel
theorem nd_X12_rows : yX12_rows.cls ≠ "java/lang/invoke/MethodHandle" ∧ yX12_rows.cls ≠ "java/lang/invoke/VarHandle" ∧ (parseMethodDescriptor yX12_rows.desc).map (fun d => d.parameters.length) = some 1 := by decide +kernel
theorem nd_X12_whole_ : yX12_whole_.cls ≠ "java/lang/invoke/MethodHandle" ∧ yX12_whole_.cls ≠ "java/lang/invoke/VarHandle" ∧ (parseMethodDescriptor yX12_whole_.desc).map (fun d => d.parameters.length) = some 2 := by decide +kernel
theorem nd_X12_rank : yX12_rank.cls ≠ "java/lang/invoke/MethodHandle" ∧ yX12_rank.cls ≠ "java/lang/invoke/VarHandle" ∧ (parseMethodDescriptor yX12_rank.desc).map (fun d => d.parameters.length) = some 1 := by decide +kernel
theorem nd_X12_ring : yX12_ring.cls ≠ "java/lang/invoke/MethodHandle" ∧ yX12_ring.cls ≠ "java/lang/invoke/VarHandle" ∧ (parseMethodDescriptor yX12_ring.desc).map (fun d => d.parameters.length) = some 5 := by decide +kernel
theorem nd_X12_divides : yX12_divides.cls ≠ "java/lang/invoke/MethodHandle" ∧ yX12_divides.cls ≠ "java/lang/invoke/VarHandle" ∧ (parseMethodDescriptor yX12_divides.desc).map (fun d => d.parameters.length) = some 2 := by decide +kernel
theorem nd_X12_set_ : yX12_set_.cls ≠ "java/lang/invoke/MethodHandle" ∧ yX12_set_.cls ≠ "java/lang/invoke/VarHandle" ∧ (parseMethodDescriptor yX12_set_.desc).map (fun d => d.parameters.length) = some 0 := by decide +kernel
theorem nd_X12_walk : yX12_walk.cls ≠ "java/lang/invoke/MethodHandle" ∧ yX12_walk.cls ≠ "java/lang/invoke/VarHandle" ∧ (parseMethodDescriptor yX12_walk.desc).map (fun d => d.parameters.length) = some 2 := by decide +kernel
theorem nd_X12_isBeyond : yX12_isBeyond.cls ≠ "java/lang/invoke/MethodHandle" ∧ yX12_isBeyond.cls ≠ "java/lang/invoke/VarHandle" ∧ (parseMethodDescriptor yX12_isBeyond.desc).map (fun d => d.parameters.length) = some 2 := by decide +kernel
theorem nd_X12_write : yX12_write.cls ≠ "java/lang/invoke/MethodHandle" ∧ yX12_write.cls ≠ "java/lang/invoke/VarHandle" ∧ (parseMethodDescriptor yX12_write.desc).map (fun d => d.parameters.length) = some 2 := by decide +kernel
theorem nd_X12_written : yX12_written.cls ≠ "java/lang/invoke/MethodHandle" ∧ yX12_written.cls ≠ "java/lang/invoke/VarHandle" ∧ (parseMethodDescriptor yX12_written.desc).map (fun d => d.parameters.length) = some 1 := by decide +kernel
theorem nd_X12_place : yX12_place.cls ≠ "java/lang/invoke/MethodHandle" ∧ yX12_place.cls ≠ "java/lang/invoke/VarHandle" ∧ (parseMethodDescriptor yX12_place.desc).map (fun d => d.parameters.length) = some 1 := by decide +kernel
theorem nd_X12_all : yX12_all.cls ≠ "java/lang/invoke/MethodHandle" ∧ yX12_all.cls ≠ "java/lang/invoke/VarHandle" ∧ (parseMethodDescriptor yX12_all.desc).map (fun d => d.parameters.length) = some 1 := by decide +kernel
theorem nd_X12_keep : yX12_keep.cls ≠ "java/lang/invoke/MethodHandle" ∧ yX12_keep.cls ≠ "java/lang/invoke/VarHandle" ∧ (parseMethodDescriptor yX12_keep.desc).map (fun d => d.parameters.length) = some 0 := by decide +kernel
theorem nd_X12_rounds : yX12_rounds.cls ≠ "java/lang/invoke/MethodHandle" ∧ yX12_rounds.cls ≠ "java/lang/invoke/VarHandle" ∧ (parseMethodDescriptor yX12_rounds.desc).map (fun d => d.parameters.length) = some 1 := by decide +kernel
theorem nd_X12_round : yX12_round.cls ≠ "java/lang/invoke/MethodHandle" ∧ yX12_round.cls ≠ "java/lang/invoke/VarHandle" ∧ (parseMethodDescriptor yX12_round.desc).map (fun d => d.parameters.length) = some 2 := by decide +kernel
theorem nd_X12_ending : yX12_ending.cls ≠ "java/lang/invoke/MethodHandle" ∧ yX12_ending.cls ≠ "java/lang/invoke/VarHandle" ∧ (parseMethodDescriptor yX12_ending.desc).map (fun d => d.parameters.length) = some 1 := by decide +kernel
theorem nd_X12_count : yX12_count.cls ≠ "java/lang/invoke/MethodHandle" ∧ yX12_count.cls ≠ "java/lang/invoke/VarHandle" ∧ (parseMethodDescriptor yX12_count.desc).map (fun d => d.parameters.length) = some 1 := by decide +kernel
theorem nd_J9_floorDiv_f86c9 : yJ9_floorDiv_f86c9.cls ≠ "java/lang/invoke/MethodHandle" ∧ yJ9_floorDiv_f86c9.cls ≠ "java/lang/invoke/VarHandle" ∧ (parseMethodDescriptor yJ9_floorDiv_f86c9.desc).map (fun d => d.parameters.length) = some 2 := by decide +kernel
theorem nd_J9_floorMod_f86c9 : yJ9_floorMod_f86c9.cls ≠ "java/lang/invoke/MethodHandle" ∧ yJ9_floorMod_f86c9.cls ≠ "java/lang/invoke/VarHandle" ∧ (parseMethodDescriptor yJ9_floorMod_f86c9.desc).map (fun d => d.parameters.length) = some 2 := by decide +kernel
theorem nd_J9_abs_067f4 : yJ9_abs_067f4.cls ≠ "java/lang/invoke/MethodHandle" ∧ yJ9_abs_067f4.cls ≠ "java/lang/invoke/VarHandle" ∧ (parseMethodDescriptor yJ9_abs_067f4.desc).map (fun d => d.parameters.length) = some 1 := by decide +kernel
theorem nd_J9_min_7cf53 : yJ9_min_7cf53.cls ≠ "java/lang/invoke/MethodHandle" ∧ yJ9_min_7cf53.cls ≠ "java/lang/invoke/VarHandle" ∧ (parseMethodDescriptor yJ9_min_7cf53.desc).map (fun d => d.parameters.length) = some 2 := by decide +kernel
def NS : List (String × Nat × MethodName × String) := [("DigitBench", 9, (⟨"DigitBench$Tape", "<init>", "()V"⟩ : MethodName), "DigitBench"), ("DigitBench", 29, (⟨"DigitBench$Num", "<init>", "()V"⟩ : MethodName), "DigitBench"), ("DigitBench", 32, (⟨"DigitBench$Rest", "<init>", "()V"⟩ : MethodName), "DigitBench"), ("DigitBench", 39, (⟨"DigitBench$Told", "<init>", "()V"⟩ : MethodName), "DigitBench"), ("DigitBench", 46, (⟨"DigitBench$RowValue", "<init>", "()V"⟩ : MethodName), "DigitBench"), ("DigitBench$RowValue", 9, (⟨"DigitBench$Num", "<init>", "()V"⟩ : MethodName), "DigitBench"), ("DigitBench$RowValue", 33, (⟨"DigitBench$Sum", "<init>", "()V"⟩ : MethodName), "DigitBench"), ("DigitBench", 53, (⟨"DigitBench$Trail", "<init>", "()V"⟩ : MethodName), "DigitBench"), ("DigitBench$Ring", 39, (⟨"DigitBench", "isBeyond", "(JJ)Z"⟩ : MethodName), "DigitBench"), ("DigitBench", 67, (⟨"DigitBench$Walk", "<init>", "()V"⟩ : MethodName), "DigitBench"), ("DigitBench", 77, (⟨"DigitBench$RoundList", "<init>", "()V"⟩ : MethodName), "DigitBench"), ("DigitBench$Num", 13, (⟨"DigitBench", "common", "(JJ)J"⟩ : MethodName), "DigitBench"), ("DigitBench$Num", 21, (⟨"DigitBench", "isBeyond", "(JJ)Z"⟩ : MethodName), "DigitBench"), ("DigitBench$Sum", 24, (⟨"DigitBench", "common", "(JJ)J"⟩ : MethodName), "DigitBench"), ("DigitBench$Walk", 30, (⟨"DigitBench", "isBeyond", "(JJ)Z"⟩ : MethodName), "DigitBench")]
def NW (U : State) : Prop := ∀ q ∈ NS, va_Nw (.methodLinkNest q.1 q.2.1 q.2.2.1 q.2.2.2) U
theorem NW.warm {s U : State} (hW : s.WarmedH U.vm) (h : NW s) : NW U := fun q hq => va_Nw.warmM hW (h q hq)
theorem NW.call {U : State} {g : JFrame} {mk : MethodId} {a : Array Value} (h : NW U) : NW (U.calling g mk a) := fun q hq => va_Nw.same rfl rfl (h q hq)
theorem NW.n0 {U : State} (h : NW U) : va_Nw (.methodLinkNest "DigitBench" 9 (⟨"DigitBench$Tape", "<init>", "()V"⟩ : MethodName) "DigitBench") U := h ("DigitBench", 9, (⟨"DigitBench$Tape", "<init>", "()V"⟩ : MethodName), "DigitBench") (List.mem_of_getElem? (i := 0) rfl)
theorem NW.n1 {U : State} (h : NW U) : va_Nw (.methodLinkNest "DigitBench" 29 (⟨"DigitBench$Num", "<init>", "()V"⟩ : MethodName) "DigitBench") U := h ("DigitBench", 29, (⟨"DigitBench$Num", "<init>", "()V"⟩ : MethodName), "DigitBench") (List.mem_of_getElem? (i := 1) rfl)
theorem NW.n2 {U : State} (h : NW U) : va_Nw (.methodLinkNest "DigitBench" 32 (⟨"DigitBench$Rest", "<init>", "()V"⟩ : MethodName) "DigitBench") U := h ("DigitBench", 32, (⟨"DigitBench$Rest", "<init>", "()V"⟩ : MethodName), "DigitBench") (List.mem_of_getElem? (i := 2) rfl)
theorem NW.n3 {U : State} (h : NW U) : va_Nw (.methodLinkNest "DigitBench" 39 (⟨"DigitBench$Told", "<init>", "()V"⟩ : MethodName) "DigitBench") U := h ("DigitBench", 39, (⟨"DigitBench$Told", "<init>", "()V"⟩ : MethodName), "DigitBench") (List.mem_of_getElem? (i := 3) rfl)
theorem NW.n4 {U : State} (h : NW U) : va_Nw (.methodLinkNest "DigitBench" 46 (⟨"DigitBench$RowValue", "<init>", "()V"⟩ : MethodName) "DigitBench") U := h ("DigitBench", 46, (⟨"DigitBench$RowValue", "<init>", "()V"⟩ : MethodName), "DigitBench") (List.mem_of_getElem? (i := 4) rfl)
theorem NW.n5 {U : State} (h : NW U) : va_Nw (.methodLinkNest "DigitBench$RowValue" 9 (⟨"DigitBench$Num", "<init>", "()V"⟩ : MethodName) "DigitBench") U := h ("DigitBench$RowValue", 9, (⟨"DigitBench$Num", "<init>", "()V"⟩ : MethodName), "DigitBench") (List.mem_of_getElem? (i := 5) rfl)
theorem NW.n6 {U : State} (h : NW U) : va_Nw (.methodLinkNest "DigitBench$RowValue" 33 (⟨"DigitBench$Sum", "<init>", "()V"⟩ : MethodName) "DigitBench") U := h ("DigitBench$RowValue", 33, (⟨"DigitBench$Sum", "<init>", "()V"⟩ : MethodName), "DigitBench") (List.mem_of_getElem? (i := 6) rfl)
theorem NW.n7 {U : State} (h : NW U) : va_Nw (.methodLinkNest "DigitBench" 53 (⟨"DigitBench$Trail", "<init>", "()V"⟩ : MethodName) "DigitBench") U := h ("DigitBench", 53, (⟨"DigitBench$Trail", "<init>", "()V"⟩ : MethodName), "DigitBench") (List.mem_of_getElem? (i := 7) rfl)
theorem NW.n8 {U : State} (h : NW U) : va_Nw (.methodLinkNest "DigitBench$Ring" 39 (⟨"DigitBench", "isBeyond", "(JJ)Z"⟩ : MethodName) "DigitBench") U := h ("DigitBench$Ring", 39, (⟨"DigitBench", "isBeyond", "(JJ)Z"⟩ : MethodName), "DigitBench") (List.mem_of_getElem? (i := 8) rfl)
theorem NW.n9 {U : State} (h : NW U) : va_Nw (.methodLinkNest "DigitBench" 67 (⟨"DigitBench$Walk", "<init>", "()V"⟩ : MethodName) "DigitBench") U := h ("DigitBench", 67, (⟨"DigitBench$Walk", "<init>", "()V"⟩ : MethodName), "DigitBench") (List.mem_of_getElem? (i := 9) rfl)
theorem NW.n10 {U : State} (h : NW U) : va_Nw (.methodLinkNest "DigitBench" 77 (⟨"DigitBench$RoundList", "<init>", "()V"⟩ : MethodName) "DigitBench") U := h ("DigitBench", 77, (⟨"DigitBench$RoundList", "<init>", "()V"⟩ : MethodName), "DigitBench") (List.mem_of_getElem? (i := 10) rfl)
theorem NW.n11 {U : State} (h : NW U) : va_Nw (.methodLinkNest "DigitBench$Num" 13 (⟨"DigitBench", "common", "(JJ)J"⟩ : MethodName) "DigitBench") U := h ("DigitBench$Num", 13, (⟨"DigitBench", "common", "(JJ)J"⟩ : MethodName), "DigitBench") (List.mem_of_getElem? (i := 11) rfl)
theorem NW.n12 {U : State} (h : NW U) : va_Nw (.methodLinkNest "DigitBench$Num" 21 (⟨"DigitBench", "isBeyond", "(JJ)Z"⟩ : MethodName) "DigitBench") U := h ("DigitBench$Num", 21, (⟨"DigitBench", "isBeyond", "(JJ)Z"⟩ : MethodName), "DigitBench") (List.mem_of_getElem? (i := 12) rfl)
theorem NW.n13 {U : State} (h : NW U) : va_Nw (.methodLinkNest "DigitBench$Sum" 24 (⟨"DigitBench", "common", "(JJ)J"⟩ : MethodName) "DigitBench") U := h ("DigitBench$Sum", 24, (⟨"DigitBench", "common", "(JJ)J"⟩ : MethodName), "DigitBench") (List.mem_of_getElem? (i := 13) rfl)
theorem NW.n14 {U : State} (h : NW U) : va_Nw (.methodLinkNest "DigitBench$Walk" 30 (⟨"DigitBench", "isBeyond", "(JJ)Z"⟩ : MethodName) "DigitBench") U := h ("DigitBench$Walk", 30, (⟨"DigitBench", "isBeyond", "(JJ)Z"⟩ : MethodName), "DigitBench") (List.mem_of_getElem? (i := 14) rfl)
theorem NW.of {args : Array Value} {s : State} (h : ∀ w ∈ lw_tbl, w.before args s = true) : NW s := by
  intro q hq
  have e : ∀ q ∈ NS, Cond.methodLinkNest q.1 q.2.1 q.2.2.1 q.2.2.2 ∈ lw_tbl := by
    show ∀ q ∈ ([("DigitBench", 9, (⟨"DigitBench$Tape", "<init>", "()V"⟩ : MethodName), "DigitBench"), ("DigitBench", 29, (⟨"DigitBench$Num", "<init>", "()V"⟩ : MethodName), "DigitBench"), ("DigitBench", 32, (⟨"DigitBench$Rest", "<init>", "()V"⟩ : MethodName), "DigitBench"), ("DigitBench", 39, (⟨"DigitBench$Told", "<init>", "()V"⟩ : MethodName), "DigitBench"), ("DigitBench", 46, (⟨"DigitBench$RowValue", "<init>", "()V"⟩ : MethodName), "DigitBench"), ("DigitBench$RowValue", 9, (⟨"DigitBench$Num", "<init>", "()V"⟩ : MethodName), "DigitBench"), ("DigitBench$RowValue", 33, (⟨"DigitBench$Sum", "<init>", "()V"⟩ : MethodName), "DigitBench"), ("DigitBench", 53, (⟨"DigitBench$Trail", "<init>", "()V"⟩ : MethodName), "DigitBench"), ("DigitBench$Ring", 39, (⟨"DigitBench", "isBeyond", "(JJ)Z"⟩ : MethodName), "DigitBench"), ("DigitBench", 67, (⟨"DigitBench$Walk", "<init>", "()V"⟩ : MethodName), "DigitBench"), ("DigitBench", 77, (⟨"DigitBench$RoundList", "<init>", "()V"⟩ : MethodName), "DigitBench"), ("DigitBench$Num", 13, (⟨"DigitBench", "common", "(JJ)J"⟩ : MethodName), "DigitBench"), ("DigitBench$Num", 21, (⟨"DigitBench", "isBeyond", "(JJ)Z"⟩ : MethodName), "DigitBench"), ("DigitBench$Sum", 24, (⟨"DigitBench", "common", "(JJ)J"⟩ : MethodName), "DigitBench"), ("DigitBench$Walk", 30, (⟨"DigitBench", "isBeyond", "(JJ)Z"⟩ : MethodName), "DigitBench")] : List (String × Nat × MethodName × String)), _
    exact List.forall_mem_cons.mpr ⟨List.mem_of_getElem? (i := 76) (by decide +kernel), List.forall_mem_cons.mpr ⟨List.mem_of_getElem? (i := 151) (by decide +kernel), List.forall_mem_cons.mpr ⟨List.mem_of_getElem? (i := 186) (by decide +kernel), List.forall_mem_cons.mpr ⟨List.mem_of_getElem? (i := 204) (by decide +kernel), List.forall_mem_cons.mpr ⟨List.mem_of_getElem? (i := 234) (by decide +kernel), List.forall_mem_cons.mpr ⟨List.mem_of_getElem? (i := 239) (by decide +kernel), List.forall_mem_cons.mpr ⟨List.mem_of_getElem? (i := 242) (by decide +kernel), List.forall_mem_cons.mpr ⟨List.mem_of_getElem? (i := 284) (by decide +kernel), List.forall_mem_cons.mpr ⟨List.mem_of_getElem? (i := 321) (by decide +kernel), List.forall_mem_cons.mpr ⟨List.mem_of_getElem? (i := 400) (by decide +kernel), List.forall_mem_cons.mpr ⟨List.mem_of_getElem? (i := 422) (by decide +kernel), List.forall_mem_cons.mpr ⟨List.mem_of_getElem? (i := 515) (by decide +kernel), List.forall_mem_cons.mpr ⟨List.mem_of_getElem? (i := 520) (by decide +kernel), List.forall_mem_cons.mpr ⟨List.mem_of_getElem? (i := 659) (by decide +kernel), List.forall_mem_cons.mpr ⟨List.mem_of_getElem? (i := 773) (by decide +kernel), fun _ h => absurd h List.not_mem_nil⟩⟩⟩⟩⟩⟩⟩⟩⟩⟩⟩⟩⟩⟩⟩
  exact va_Nw.of rfl (h _ (e q hq))
