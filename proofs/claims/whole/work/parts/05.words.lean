theorem tm1 {w : Cond} (h : w ∈ tables_1_1) : w ∈ lw_tbl := List.mem_append_right _ (show w ∈ tables_1_1 ++ (tables_1_2 ++ (tables_1_3 ++ (tables_1_4 ++ tables_1_5))) from List.mem_append_left _ h)
theorem tm2 {w : Cond} (h : w ∈ tables_1_2) : w ∈ lw_tbl := List.mem_append_right _ (show w ∈ tables_1_1 ++ (tables_1_2 ++ (tables_1_3 ++ (tables_1_4 ++ tables_1_5))) from List.mem_append_right _ (List.mem_append_left _ h))
theorem tm3 {w : Cond} (h : w ∈ tables_1_3) : w ∈ lw_tbl := List.mem_append_right _ (show w ∈ tables_1_1 ++ (tables_1_2 ++ (tables_1_3 ++ (tables_1_4 ++ tables_1_5))) from List.mem_append_right _ (List.mem_append_right _ (List.mem_append_left _ h)))
theorem tm4 {w : Cond} (h : w ∈ tables_1_4) : w ∈ lw_tbl := List.mem_append_right _ (show w ∈ tables_1_1 ++ (tables_1_2 ++ (tables_1_3 ++ (tables_1_4 ++ tables_1_5))) from List.mem_append_right _ (List.mem_append_right _ (List.mem_append_right _ (List.mem_append_left _ h))))
theorem tm5 {w : Cond} (h : w ∈ tables_1_5) : w ∈ lw_tbl := List.mem_append_right _ (show w ∈ tables_1_1 ++ (tables_1_2 ++ (tables_1_3 ++ (tables_1_4 ++ tables_1_5))) from List.mem_append_right _ (List.mem_append_right _ (List.mem_append_right _ (List.mem_append_right _ h))))
theorem tm0 {w : Cond} (h : w ∈ k2_sels lw_privs) : w ∈ lw_tbl := List.mem_append_left _ h
def RJ7 : String := "java/util/Arrays"
def RJ9 : String := "java/lang/Math"
abbrev cJ7_fill_53178 : ByteArray := prog_14_method_103_code
def yJ7_fill_53178 : MethodName := ⟨RJ7, "fill", "([II)V"⟩
abbrev cJ7_fill_d0a16 : ByteArray := prog_14_method_101_code
def yJ7_fill_d0a16 : MethodName := ⟨RJ7, "fill", "([JJ)V"⟩
abbrev cJ9_max_7cf53 : ByteArray := prog_12_method_65_code
def yJ9_max_7cf53 : MethodName := ⟨RJ9, "max", "(II)I"⟩
abbrev cJ9_min_7cf53 : ByteArray := prog_12_method_69_code
def yJ9_min_7cf53 : MethodName := ⟨RJ9, "min", "(II)I"⟩
abbrev cL_law : ByteArray := code
def yL_law : MethodName := ⟨RL, "law", "([I)Z"⟩
abbrev cX0_addEquation : ByteArray := prog_2_method_12_code
def yX0_addEquation : MethodName := ⟨RX0, "addEquation", "(IIILWordLaws$Echelon;)V"⟩
abbrev cX0_addForm : ByteArray := prog_2_method_10_code
def yX0_addForm : MethodName := ⟨RX0, "addForm", "(IIILWordLaws$Sum;)V"⟩
abbrev cX0_addHeadForm : ByteArray := prog_2_method_19_code
def yX0_addHeadForm : MethodName := ⟨RX0, "addHeadForm", "(III)V"⟩
abbrev cX0_addRow : ByteArray := prog_2_method_20_code
def yX0_addRow : MethodName := ⟨RX0, "addRow", "(III)V"⟩
abbrev cX0_addTailForm : ByteArray := prog_2_method_18_code
def yX0_addTailForm : MethodName := ⟨RX0, "addTailForm", "(II)V"⟩
abbrev cX0_clearForm : ByteArray := prog_2_method_17_code
def yX0_clearForm : MethodName := ⟨RX0, "clearForm", "(I)V"⟩
abbrev cX0_followShorter : ByteArray := prog_2_method_16_code
def yX0_followShorter : MethodName := ⟨RX0, "followShorter", "(II)V"⟩
abbrev cX0_forgetFrom : ByteArray := prog_2_method_2_code
def yX0_forgetFrom : MethodName := ⟨RX0, "forgetFrom", "(I)V"⟩
abbrev cX0_init : ByteArray := prog_2_method_1_code
def yX0_init : MethodName := ⟨RX0, "<init>", "(LWordLaws$Alphabet;LWordLaws$LawList;)V"⟩
abbrev cX0_isLeading : ByteArray := prog_2_method_5_code
def yX0_isLeading : MethodName := ⟨RX0, "isLeading", "(II)Z"⟩
abbrev cX0_isLeast : ByteArray := prog_2_method_14_code
def yX0_isLeast : MethodName := ⟨RX0, "isLeast", "(II)Z"⟩
abbrev cX0_leastLawsOf : ByteArray := prog_2_method_4_code
def yX0_leastLawsOf : MethodName := ⟨RX0, "leastLawsOf", "(I)I"⟩
abbrev cX0_leastWord : ByteArray := prog_2_method_7_code
def yX0_leastWord : MethodName := ⟨RX0, "leastWord", "(II)I"⟩
abbrev cX0_middleOf : ByteArray := prog_2_method_11_code
def yX0_middleOf : MethodName := ⟨RX0, "middleOf", "(ILWordLaws$Echelon;)I"⟩
abbrev cX0_normalWord : ByteArray := prog_2_method_6_code
def yX0_normalWord : MethodName := ⟨RX0, "normalWord", "(II)I"⟩
abbrev cX0_normalsOf : ByteArray := prog_2_method_3_code
def yX0_normalsOf : MethodName := ⟨RX0, "normalsOf", "(I)I"⟩
abbrev cX0_numberAt : ByteArray := prog_2_method_13_code
def yX0_numberAt : MethodName := ⟨RX0, "numberAt", "(III)I"⟩
abbrev cX0_numberInForm : ByteArray := prog_2_method_8_code
def yX0_numberInForm : MethodName := ⟨RX0, "numberInForm", "(III)I"⟩
abbrev cX0_prepare : ByteArray := prog_2_method_15_code
def yX0_prepare : MethodName := ⟨RX0, "prepare", "(I)V"⟩
abbrev cX0_replaceLead : ByteArray := prog_2_method_23_code
def yX0_replaceLead : MethodName := ⟨RX0, "replaceLead", "(III)V"⟩
abbrev cX0_settle : ByteArray := prog_2_method_24_code
def yX0_settle : MethodName := ⟨RX0, "settle", "(I)V"⟩
abbrev cX0_takeLaw : ByteArray := prog_2_method_21_code
def yX0_takeLaw : MethodName := ⟨RX0, "takeLaw", "(II)V"⟩
abbrev cX0_takeNought : ByteArray := prog_2_method_22_code
def yX0_takeNought : MethodName := ⟨RX0, "takeNought", "(II)V"⟩
abbrev cX0_termsInForm : ByteArray := prog_2_method_9_code
def yX0_termsInForm : MethodName := ⟨RX0, "termsInForm", "(II)I"⟩
abbrev cX1_ahead : ByteArray := prog_3_method_11_code
def yX1_ahead : MethodName := ⟨RX1, "ahead", "(III)I"⟩
abbrev cX1_behind : ByteArray := prog_3_method_12_code
def yX1_behind : MethodName := ⟨RX1, "behind", "(II)I"⟩
abbrev cX1_choose : ByteArray := prog_3_method_2_code
def yX1_choose : MethodName := ⟨RX1, "choose", "(II)V"⟩
abbrev cX1_firstLetter : ByteArray := prog_3_method_14_code
def yX1_firstLetter : MethodName := ⟨RX1, "firstLetter", "(II)I"⟩
abbrev cX1_formAt : ByteArray := prog_3_method_10_code
def yX1_formAt : MethodName := ⟨RX1, "formAt", "(II)I"⟩
abbrev cX1_hasLength : ByteArray := prog_3_method_7_code
def yX1_hasLength : MethodName := ⟨RX1, "hasLength", "(I)Z"⟩
abbrev cX1_hasWord : ByteArray := prog_3_method_8_code
def yX1_hasWord : MethodName := ⟨RX1, "hasWord", "(II)Z"⟩
abbrev cX1_init : ByteArray := prog_3_method_1_code
def yX1_init : MethodName := ⟨RX1, "<init>", "()V"⟩
abbrev cX1_inverse : ByteArray := prog_3_method_19_code
def yX1_inverse : MethodName := ⟨RX1, "inverse", "(I)I"⟩
abbrev cX1_join : ByteArray := prog_3_method_13_code
def yX1_join : MethodName := ⟨RX1, "join", "(III)I"⟩
abbrev cX1_lastLetter : ByteArray := prog_3_method_17_code
def yX1_lastLetter : MethodName := ⟨RX1, "lastLetter", "(I)I"⟩
abbrev cX1_letters : ByteArray := prog_3_method_3_code
def yX1_letters : MethodName := ⟨RX1, "letters", "()I"⟩
abbrev cX1_longest : ByteArray := prog_3_method_5_code
def yX1_longest : MethodName := ⟨RX1, "longest", "()I"⟩
abbrev cX1_placeOf : ByteArray := prog_3_method_9_code
def yX1_placeOf : MethodName := ⟨RX1, "placeOf", "(II)I"⟩
abbrev cX1_prime : ByteArray := prog_3_method_4_code
def yX1_prime : MethodName := ⟨RX1, "prime", "()I"⟩
abbrev cX1_rest : ByteArray := prog_3_method_18_code
def yX1_rest : MethodName := ⟨RX1, "rest", "(J)I"⟩
abbrev cX1_withoutFirst : ByteArray := prog_3_method_16_code
def yX1_withoutFirst : MethodName := ⟨RX1, "withoutFirst", "(II)I"⟩
abbrev cX1_withoutLast : ByteArray := prog_3_method_15_code
def yX1_withoutLast : MethodName := ⟨RX1, "withoutLast", "(I)I"⟩
abbrev cX1_words : ByteArray := prog_3_method_6_code
def yX1_words : MethodName := ⟨RX1, "words", "(I)I"⟩
abbrev cX2_init : ByteArray := prog_4_method_1_code
def yX2_init : MethodName := ⟨RX2, "<init>", "(LWordLaws$Alphabet;)V"⟩
abbrev cX2_keep : ByteArray := prog_4_method_6_code
def yX2_keep : MethodName := ⟨RX2, "keep", "(I)V"⟩
abbrev cX2_open : ByteArray := prog_4_method_2_code
def yX2_open : MethodName := ⟨RX2, "open", "(I)V"⟩
abbrev cX2_rank : ByteArray := prog_4_method_3_code
def yX2_rank : MethodName := ⟨RX2, "rank", "()I"⟩
abbrev cX2_set : ByteArray := prog_4_method_4_code
def yX2_set : MethodName := ⟨RX2, "set", "(II)V"⟩
abbrev cX2_subtractRow : ByteArray := prog_4_method_7_code
def yX2_subtractRow : MethodName := ⟨RX2, "subtractRow", "(I)V"⟩
abbrev cX2_take : ByteArray := prog_4_method_5_code
def yX2_take : MethodName := ⟨RX2, "take", "()V"⟩
abbrev cX3_allHaveLength : ByteArray := prog_5_method_9_code
def yX3_allHaveLength : MethodName := ⟨RX3, "allHaveLength", "(I)Z"⟩
abbrev cX3_clear : ByteArray := prog_5_method_3_code
def yX3_clear : MethodName := ⟨RX3, "clear", "()V"⟩
abbrev cX3_init : ByteArray := prog_5_method_1_code
def yX3_init : MethodName := ⟨RX3, "<init>", "()V"⟩
abbrev cX3_lengthOf : ByteArray := prog_5_method_7_code
def yX3_lengthOf : MethodName := ⟨RX3, "lengthOf", "(I)I"⟩
abbrev cX3_numberOf : ByteArray := prog_5_method_8_code
def yX3_numberOf : MethodName := ⟨RX3, "numberOf", "(II)I"⟩
abbrev cX3_open : ByteArray := prog_5_method_4_code
def yX3_open : MethodName := ⟨RX3, "open", "(I)V"⟩
abbrev cX3_removeLatest : ByteArray := prog_5_method_6_code
def yX3_removeLatest : MethodName := ⟨RX3, "removeLatest", "()V"⟩
abbrev cX3_set : ByteArray := prog_5_method_5_code
def yX3_set : MethodName := ⟨RX3, "set", "(II)V"⟩
abbrev cX3_size : ByteArray := prog_5_method_2_code
def yX3_size : MethodName := ⟨RX3, "size", "()I"⟩
abbrev cX4_closeTerm : ByteArray := prog_6_method_5_code
def yX4_closeTerm : MethodName := ⟨RX4, "closeTerm", "(LWordLaws$Sum;)V"⟩
abbrev cX4_init : ByteArray := prog_6_method_1_code
def yX4_init : MethodName := ⟨RX4, "<init>", "(LWordLaws$Alphabet;)V"⟩
abbrev cX4_needsTerm : ByteArray := prog_6_method_3_code
def yX4_needsTerm : MethodName := ⟨RX4, "needsTerm", "()Z"⟩
abbrev cX4_openTerm : ByteArray := prog_6_method_4_code
def yX4_openTerm : MethodName := ⟨RX4, "openTerm", "(II)V"⟩
abbrev cX4_read : ByteArray := prog_6_method_2_code
def yX4_read : MethodName := ⟨RX4, "read", "(LWordLaws$Tape;LWordLaws$Sum;)I"⟩
abbrev cX4_takeByte : ByteArray := prog_6_method_6_code
def yX4_takeByte : MethodName := ⟨RX4, "takeByte", "(IILWordLaws$Sum;)I"⟩
abbrev cX4_takeDigit : ByteArray := prog_6_method_7_code
def yX4_takeDigit : MethodName := ⟨RX4, "takeDigit", "(II)I"⟩
abbrev cX4_takeLetter : ByteArray := prog_6_method_9_code
def yX4_takeLetter : MethodName := ⟨RX4, "takeLetter", "(II)I"⟩
abbrev cX4_takeSign : ByteArray := prog_6_method_8_code
def yX4_takeSign : MethodName := ⟨RX4, "takeSign", "(IILWordLaws$Sum;)I"⟩
abbrev cX5_at : ByteArray := prog_7_method_8_code
def yX5_at : MethodName := ⟨RX5, "at", "(I)J"⟩
abbrev cX5_has : ByteArray := prog_7_method_4_code
def yX5_has : MethodName := ⟨RX5, "has", "(II)Z"⟩
abbrev cX5_hold : ByteArray := prog_7_method_5_code
def yX5_hold : MethodName := ⟨RX5, "hold", "(II)V"⟩
abbrev cX5_init : ByteArray := prog_7_method_1_code
def yX5_init : MethodName := ⟨RX5, "<init>", "()V"⟩
abbrev cX5_isMissing : ByteArray := prog_7_method_2_code
def yX5_isMissing : MethodName := ⟨RX5, "isMissing", "()Z"⟩
abbrev cX5_isOf : ByteArray := prog_7_method_3_code
def yX5_isOf : MethodName := ⟨RX5, "isOf", "(I)Z"⟩
abbrev cX5_release : ByteArray := prog_7_method_6_code
def yX5_release : MethodName := ⟨RX5, "release", "()I"⟩
abbrev cX5_set : ByteArray := prog_7_method_7_code
def yX5_set : MethodName := ⟨RX5, "set", "(II)V"⟩
abbrev cX6_add : ByteArray := prog_8_method_5_code
def yX6_add : MethodName := ⟨RX6, "add", "(IIJ)V"⟩
abbrev cX6_clear : ByteArray := prog_8_method_2_code
def yX6_clear : MethodName := ⟨RX6, "clear", "()V"⟩
abbrev cX6_copy : ByteArray := prog_8_method_3_code
def yX6_copy : MethodName := ⟨RX6, "copy", "(LWordLaws$Sum;)V"⟩
abbrev cX6_hasTermsOf : ByteArray := prog_8_method_8_code
def yX6_hasTermsOf : MethodName := ⟨RX6, "hasTermsOf", "(I)Z"⟩
abbrev cX6_init : ByteArray := prog_8_method_1_code
def yX6_init : MethodName := ⟨RX6, "<init>", "(LWordLaws$Alphabet;)V"⟩
abbrev cX6_multiply : ByteArray := prog_8_method_6_code
def yX6_multiply : MethodName := ⟨RX6, "multiply", "(I)V"⟩
abbrev cX6_numberOf : ByteArray := prog_8_method_4_code
def yX6_numberOf : MethodName := ⟨RX6, "numberOf", "(II)I"⟩
abbrev cX6_onlyLength : ByteArray := prog_8_method_9_code
def yX6_onlyLength : MethodName := ⟨RX6, "onlyLength", "()I"⟩
abbrev cX6_terms : ByteArray := prog_8_method_7_code
def yX6_terms : MethodName := ⟨RX6, "terms", "()I"⟩
abbrev cX7_add : ByteArray := prog_9_method_4_code
def yX7_add : MethodName := ⟨RX7, "add", "(I)V"⟩
abbrev cX7_at : ByteArray := prog_9_method_3_code
def yX7_at : MethodName := ⟨RX7, "at", "(I)I"⟩
abbrev cX7_clear : ByteArray := prog_9_method_5_code
def yX7_clear : MethodName := ⟨RX7, "clear", "()V"⟩
abbrev cX7_init : ByteArray := prog_9_method_1_code
def yX7_init : MethodName := ⟨RX7, "<init>", "()V"⟩
abbrev cX7_size : ByteArray := prog_9_method_2_code
def yX7_size : MethodName := ⟨RX7, "size", "()I"⟩
abbrev cX8_addLaw : ByteArray := prog_1_method_33_code
def yX8_addLaw : MethodName := ⟨RX8, "addLaw", "(I)I"⟩
abbrev cX8_begin : ByteArray := prog_1_method_2_code
def yX8_begin : MethodName := ⟨RX8, "begin", "(II)I"⟩
abbrev cX8_byteOf : ByteArray := prog_1_method_27_code
def yX8_byteOf : MethodName := ⟨RX8, "byteOf", "(JI)I"⟩
abbrev cX8_count : ByteArray := prog_1_method_7_code
def yX8_count : MethodName := ⟨RX8, "count", "(I)I"⟩
abbrev cX8_countLeastLaws : ByteArray := prog_1_method_36_code
def yX8_countLeastLaws : MethodName := ⟨RX8, "countLeastLaws", "()I"⟩
abbrev cX8_drop : ByteArray := prog_1_method_23_code
def yX8_drop : MethodName := ⟨RX8, "drop", "(I)I"⟩
abbrev cX8_fit : ByteArray := prog_1_method_16_code
def yX8_fit : MethodName := ⟨RX8, "fit", "()I"⟩
abbrev cX8_forgetFrom : ByteArray := prog_1_method_31_code
def yX8_forgetFrom : MethodName := ⟨RX8, "forgetFrom", "(I)V"⟩
abbrev cX8_init : ByteArray := prog_1_method_1_code
def yX8_init : MethodName := ⟨RX8, "<init>", "()V"⟩
abbrev cX8_isLane : ByteArray := prog_1_method_30_code
def yX8_isLane : MethodName := ⟨RX8, "isLane", "(I)Z"⟩
abbrev cX8_isLawLength : ByteArray := prog_1_method_28_code
def yX8_isLawLength : MethodName := ⟨RX8, "isLawLength", "(I)Z"⟩
abbrev cX8_isPrime : ByteArray := prog_1_method_26_code
def yX8_isPrime : MethodName := ⟨RX8, "isPrime", "(I)Z"⟩
abbrev cX8_isSheet : ByteArray := prog_1_method_29_code
def yX8_isSheet : MethodName := ⟨RX8, "isSheet", "(I)Z"⟩
abbrev cX8_item : ByteArray := prog_1_method_24_code
def yX8_item : MethodName := ⟨RX8, "item", "(IIII)I"⟩
abbrev cX8_law : ByteArray := prog_1_method_4_code
def yX8_law : MethodName := ⟨RX8, "law", "()I"⟩
abbrev cX8_laws : ByteArray := prog_1_method_25_code
def yX8_laws : MethodName := ⟨RX8, "laws", "(IIII)I"⟩
abbrev cX8_leads : ByteArray := prog_1_method_9_code
def yX8_leads : MethodName := ⟨RX8, "leads", "(II)I"⟩
abbrev cX8_least : ByteArray := prog_1_method_12_code
def yX8_least : MethodName := ⟨RX8, "least", "(II)I"⟩
abbrev cX8_middle : ByteArray := prog_1_method_14_code
def yX8_middle : MethodName := ⟨RX8, "middle", "(I)I"⟩
abbrev cX8_normal : ByteArray := prog_1_method_8_code
def yX8_normal : MethodName := ⟨RX8, "normal", "(I)I"⟩
abbrev cX8_other : ByteArray := prog_1_method_15_code
def yX8_other : MethodName := ⟨RX8, "other", "(I)I"⟩
abbrev cX8_part : ByteArray := prog_1_method_18_code
def yX8_part : MethodName := ⟨RX8, "part", "(II)I"⟩
abbrev cX8_plain : ByteArray := prog_1_method_11_code
def yX8_plain : MethodName := ⟨RX8, "plain", "(III)I"⟩
abbrev cX8_product : ByteArray := prog_1_method_13_code
def yX8_product : MethodName := ⟨RX8, "product", "(IIIII)I"⟩
abbrev cX8_put : ByteArray := prog_1_method_20_code
def yX8_put : MethodName := ⟨RX8, "put", "(II)I"⟩
abbrev cX8_readRow : ByteArray := prog_1_method_35_code
def yX8_readRow : MethodName := ⟨RX8, "readRow", "(LWordLaws$Sheet;II)V"⟩
abbrev cX8_readTape : ByteArray := prog_1_method_32_code
def yX8_readTape : MethodName := ⟨RX8, "readTape", "()I"⟩
abbrev cX8_reduce : ByteArray := prog_1_method_19_code
def yX8_reduce : MethodName := ⟨RX8, "reduce", "()I"⟩
abbrev cX8_refuseRow : ByteArray := prog_1_method_34_code
def yX8_refuseRow : MethodName := ⟨RX8, "refuseRow", "(LWordLaws$Sheet;III)I"⟩
abbrev cX8_renewOther : ByteArray := prog_1_method_38_code
def yX8_renewOther : MethodName := ⟨RX8, "renewOther", "()V"⟩
abbrev cX8_seriesAt : ByteArray := prog_1_method_39_code
def yX8_seriesAt : MethodName := ⟨RX8, "seriesAt", "(I)I"⟩
abbrev cX8_sheet : ByteArray := prog_1_method_22_code
def yX8_sheet : MethodName := ⟨RX8, "sheet", "(III)I"⟩
abbrev cX8_sum : ByteArray := prog_1_method_17_code
def yX8_sum : MethodName := ⟨RX8, "sum", "()I"⟩
abbrev cX8_tellLeast : ByteArray := prog_1_method_37_code
def yX8_tellLeast : MethodName := ⟨RX8, "tellLeast", "(III)I"⟩
abbrev cX8_times : ByteArray := prog_1_method_21_code
def yX8_times : MethodName := ⟨RX8, "times", "(I)I"⟩
abbrev cX8_told : ByteArray := prog_1_method_6_code
def yX8_told : MethodName := ⟨RX8, "told", "(II)I"⟩
abbrev cX8_type : ByteArray := prog_1_method_3_code
def yX8_type : MethodName := ⟨RX8, "type", "(JI)I"⟩
abbrev cX8_unlaw : ByteArray := prog_1_method_5_code
def yX8_unlaw : MethodName := ⟨RX8, "unlaw", "()I"⟩
abbrev cX8_word : ByteArray := prog_1_method_10_code
def yX8_word : MethodName := ⟨RX8, "word", "(II)I"⟩
abbrev cX9_add : ByteArray := prog_11_method_10_code
def yX9_add : MethodName := ⟨RX9, "add", "(I)I"⟩
abbrev cX9_areShort : ByteArray := prog_11_method_36_code
def yX9_areShort : MethodName := ⟨RX9, "areShort", "()Z"⟩
abbrev cX9_begin : ByteArray := prog_11_method_4_code
def yX9_begin : MethodName := ⟨RX9, "begin", "(II)I"⟩
abbrev cX9_clearRow : ByteArray := prog_11_method_17_code
def yX9_clearRow : MethodName := ⟨RX9, "clearRow", "()V"⟩
abbrev cX9_count : ByteArray := prog_11_method_39_code
def yX9_count : MethodName := ⟨RX9, "count", "(I)I"⟩
abbrev cX9_drop : ByteArray := prog_11_method_47_code
def yX9_drop : MethodName := ⟨RX9, "drop", "(I)I"⟩
abbrev cX9_find : ByteArray := prog_11_method_19_code
def yX9_find : MethodName := ⟨RX9, "find", "()V"⟩
abbrev cX9_findOther : ByteArray := prog_11_method_20_code
def yX9_findOther : MethodName := ⟨RX9, "findOther", "()V"⟩
abbrev cX9_fit : ByteArray := prog_11_method_38_code
def yX9_fit : MethodName := ⟨RX9, "fit", "()I"⟩
abbrev cX9_grow : ByteArray := prog_11_method_18_code
def yX9_grow : MethodName := ⟨RX9, "grow", "([I[ZI)V"⟩
abbrev cX9_in : ByteArray := prog_11_method_1_code
def yX9_in : MethodName := ⟨RX9, "in", "(JJJ)Z"⟩
abbrev cX9_init : ByteArray := prog_11_method_2_code
def yX9_init : MethodName := ⟨RX9, "<init>", "()V"⟩
abbrev cX9_insert : ByteArray := prog_11_method_15_code
def yX9_insert : MethodName := ⟨RX9, "insert", "([I[ZI)V"⟩
abbrev cX9_inverse : ByteArray := prog_11_method_14_code
def yX9_inverse : MethodName := ⟨RX9, "inverse", "(I)I"⟩
abbrev cX9_isLeast : ByteArray := prog_11_method_29_code
def yX9_isLeast : MethodName := ⟨RX9, "isLeast", "(II)Z"⟩
abbrev cX9_isLength : ByteArray := prog_11_method_5_code
def yX9_isLength : MethodName := ⟨RX9, "isLength", "(I)Z"⟩
abbrev cX9_isSheet : ByteArray := prog_11_method_45_code
def yX9_isSheet : MethodName := ⟨RX9, "isSheet", "(II)Z"⟩
abbrev cX9_isWord : ByteArray := prog_11_method_23_code
def yX9_isWord : MethodName := ⟨RX9, "isWord", "(II)Z"⟩
abbrev cX9_item : ByteArray := prog_11_method_48_code
def yX9_item : MethodName := ⟨RX9, "item", "(IIII)I"⟩
abbrev cX9_law : ByteArray := prog_11_method_11_code
def yX9_law : MethodName := ⟨RX9, "law", "()I"⟩
abbrev cX9_laws : ByteArray := prog_11_method_49_code
def yX9_laws : MethodName := ⟨RX9, "laws", "(IIII)I"⟩
abbrev cX9_leads : ByteArray := prog_11_method_24_code
def yX9_leads : MethodName := ⟨RX9, "leads", "(II)I"⟩
abbrev cX9_least : ByteArray := prog_11_method_31_code
def yX9_least : MethodName := ⟨RX9, "least", "(II)I"⟩
abbrev cX9_leastMany : ByteArray := prog_11_method_30_code
def yX9_leastMany : MethodName := ⟨RX9, "leastMany", "()I"⟩
abbrev cX9_middle : ByteArray := prog_11_method_35_code
def yX9_middle : MethodName := ⟨RX9, "middle", "(I)I"⟩
abbrev cX9_next : ByteArray := prog_11_method_7_code
def yX9_next : MethodName := ⟨RX9, "next", "()I"⟩
abbrev cX9_normal : ByteArray := prog_11_method_22_code
def yX9_normal : MethodName := ⟨RX9, "normal", "(I)I"⟩
abbrev cX9_normalIn : ByteArray := prog_11_method_21_code
def yX9_normalIn : MethodName := ⟨RX9, "normalIn", "([ZI)I"⟩
abbrev cX9_other : ByteArray := prog_11_method_37_code
def yX9_other : MethodName := ⟨RX9, "other", "(I)I"⟩
abbrev cX9_part : ByteArray := prog_11_method_41_code
def yX9_part : MethodName := ⟨RX9, "part", "(II)I"⟩
abbrev cX9_plain : ByteArray := prog_11_method_28_code
def yX9_plain : MethodName := ⟨RX9, "plain", "(III)I"⟩
abbrev cX9_plainOf : ByteArray := prog_11_method_27_code
def yX9_plainOf : MethodName := ⟨RX9, "plainOf", "(III)I"⟩
abbrev cX9_product : ByteArray := prog_11_method_33_code
def yX9_product : MethodName := ⟨RX9, "product", "(IIIII)I"⟩
abbrev cX9_put : ByteArray := prog_11_method_43_code
def yX9_put : MethodName := ⟨RX9, "put", "(II)I"⟩
abbrev cX9_readSum : ByteArray := prog_11_method_9_code
def yX9_readSum : MethodName := ⟨RX9, "readSum", "()Z"⟩
abbrev cX9_readTerm : ByteArray := prog_11_method_8_code
def yX9_readTerm : MethodName := ⟨RX9, "readTerm", "(I)Z"⟩
abbrev cX9_reduce : ByteArray := prog_11_method_42_code
def yX9_reduce : MethodName := ⟨RX9, "reduce", "()I"⟩
abbrev cX9_sheet : ByteArray := prog_11_method_46_code
def yX9_sheet : MethodName := ⟨RX9, "sheet", "(III)I"⟩
abbrev cX9_start : ByteArray := prog_11_method_3_code
def yX9_start : MethodName := ⟨RX9, "start", "()V"⟩
abbrev cX9_sum : ByteArray := prog_11_method_40_code
def yX9_sum : MethodName := ⟨RX9, "sum", "()I"⟩
abbrev cX9_tell : ByteArray := prog_11_method_34_code
def yX9_tell : MethodName := ⟨RX9, "tell", "(I)I"⟩
abbrev cX9_termsOf : ByteArray := prog_11_method_32_code
def yX9_termsOf : MethodName := ⟨RX9, "termsOf", "([III)I"⟩
abbrev cX9_tidy : ByteArray := prog_11_method_16_code
def yX9_tidy : MethodName := ⟨RX9, "tidy", "([I[ZI)V"⟩
abbrev cX9_times : ByteArray := prog_11_method_44_code
def yX9_times : MethodName := ⟨RX9, "times", "(I)I"⟩
abbrev cX9_told : ByteArray := prog_11_method_13_code
def yX9_told : MethodName := ⟨RX9, "told", "(II)I"⟩
abbrev cX9_type : ByteArray := prog_11_method_6_code
def yX9_type : MethodName := ⟨RX9, "type", "(JI)I"⟩
abbrev cX9_unlaw : ByteArray := prog_11_method_12_code
def yX9_unlaw : MethodName := ⟨RX9, "unlaw", "()I"⟩
abbrev cX9_word : ByteArray := prog_11_method_26_code
def yX9_word : MethodName := ⟨RX9, "word", "(II)I"⟩
abbrev cX9_wordOf : ByteArray := prog_11_method_25_code
def yX9_wordOf : MethodName := ⟨RX9, "wordOf", "(II)I"⟩
theorem gw0 : ab_gw (.methodLink RX8 82 yX8_isPrime) := ⟨tm2 (List.mem_of_getElem? (i := 4) (by decide +kernel)), by decide +kernel⟩
theorem gw1 : ab_gw (.code yX8_isPrime cX8_isPrime 2 (some .boolean)) := ⟨tm2 (List.mem_of_getElem? (i := 6) (by decide +kernel)), by decide +kernel⟩
theorem gw2 : ab_gw (.initialized RX8) := ⟨tm1 (List.mem_of_getElem? (i := 1) (by decide +kernel)), by decide +kernel⟩
theorem gw3 : ab_gw (.static yX8_isPrime) := ⟨tm2 (List.mem_of_getElem? (i := 5) (by decide +kernel)), by decide +kernel⟩
theorem cl_RX8_82 : ab_cs RX8 82 yX8_isPrime cX8_isPrime 2 (some .boolean) 1 := ⟨gw0, gw3, gw2, gw1, by decide +kernel, by decide +kernel, by decide +kernel⟩
theorem gw4 : ab_gw (.methodLink RX8 86 yX1_choose) := ⟨tm2 (List.mem_of_getElem? (i := 7) (by decide +kernel)), by decide +kernel⟩
theorem gw5 : ab_gw (.code yX1_choose cX1_choose 7 none) := ⟨tm1 (List.mem_of_getElem? (i := 31) (by decide +kernel)), by decide +kernel⟩
theorem gw6 : ab_gw (.initialized RX1) := ⟨tm1 (List.mem_of_getElem? (i := 2) (by decide +kernel)), by decide +kernel⟩
theorem gw7 : ab_gw (.instanceMethod yX1_choose) := ⟨tm1 (List.mem_of_getElem? (i := 29) (by decide +kernel)), by decide +kernel⟩
theorem gw8 : ab_gw (.selects RX1 yX1_choose yX1_choose) := ⟨tm1 (List.mem_of_getElem? (i := 30) (by decide +kernel)), by decide +kernel⟩
theorem cl_RX8_86 : ab_cv RX8 86 RX1 yX1_choose cX1_choose 7 none 2 := ⟨gw4, gw7, gw8, gw6, gw5, rfl, by decide +kernel, by decide +kernel, by decide +kernel⟩
theorem gw9 : ab_gw (.methodLink RX8 90 yX3_clear) := ⟨tm2 (List.mem_of_getElem? (i := 8) (by decide +kernel)), by decide +kernel⟩
theorem gw10 : ab_gw (.code yX3_clear cX3_clear 1 none) := ⟨tm2 (List.mem_of_getElem? (i := 11) (by decide +kernel)), by decide +kernel⟩
theorem gw11 : ab_gw (.initialized RX3) := ⟨tm1 (List.mem_of_getElem? (i := 6) (by decide +kernel)), by decide +kernel⟩
theorem gw12 : ab_gw (.instanceMethod yX3_clear) := ⟨tm2 (List.mem_of_getElem? (i := 9) (by decide +kernel)), by decide +kernel⟩
theorem gw13 : ab_gw (.selects RX3 yX3_clear yX3_clear) := ⟨tm2 (List.mem_of_getElem? (i := 10) (by decide +kernel)), by decide +kernel⟩
theorem cl_RX8_90 : ab_cv RX8 90 RX3 yX3_clear cX3_clear 1 none 0 := ⟨gw9, gw12, gw13, gw11, gw10, rfl, by decide +kernel, by decide +kernel, by decide +kernel⟩
theorem gw14 : ab_gw (.methodLink RX8 93 yX6_clear) := ⟨tm2 (List.mem_of_getElem? (i := 12) (by decide +kernel)), by decide +kernel⟩
theorem gw15 : ab_gw (.code yX6_clear cX6_clear 1 none) := ⟨tm2 (List.mem_of_getElem? (i := 15) (by decide +kernel)), by decide +kernel⟩
theorem gw16 : ab_gw (.initialized RX6) := ⟨tm1 (List.mem_of_getElem? (i := 5) (by decide +kernel)), by decide +kernel⟩
theorem gw17 : ab_gw (.instanceMethod yX6_clear) := ⟨tm2 (List.mem_of_getElem? (i := 13) (by decide +kernel)), by decide +kernel⟩
theorem gw18 : ab_gw (.selects RX6 yX6_clear yX6_clear) := ⟨tm2 (List.mem_of_getElem? (i := 14) (by decide +kernel)), by decide +kernel⟩
theorem cl_RX8_93 : ab_cv RX8 93 RX6 yX6_clear cX6_clear 1 none 0 := ⟨gw14, gw17, gw18, gw16, gw15, rfl, by decide +kernel, by decide +kernel, by decide +kernel⟩
theorem gw19 : ab_gw (.methodLink RX8 94 yX8_forgetFrom) := ⟨tm2 (List.mem_of_getElem? (i := 19) (by decide +kernel)), by decide +kernel⟩
theorem gw20 : ab_gw (.code yX8_forgetFrom cX8_forgetFrom 2 none) := ⟨tm2 (List.mem_of_getElem? (i := 22) (by decide +kernel)), by decide +kernel⟩
theorem gw21 : ab_gw (.instanceMethod yX8_forgetFrom) := ⟨tm2 (List.mem_of_getElem? (i := 21) (by decide +kernel)), by decide +kernel⟩
theorem gw22 : ab_gw (.selects RX8 yX8_forgetFrom yX8_forgetFrom) := ⟨tm0 (List.mem_of_getElem? (i := 0) (by decide +kernel)), by decide +kernel⟩
theorem cl_RX8_94 : ab_cv RX8 94 RX8 yX8_forgetFrom cX8_forgetFrom 2 none 1 := ⟨gw19, gw21, gw22, gw2, gw20, rfl, by decide +kernel, by decide +kernel, by decide +kernel⟩
theorem gw23 : ab_gw (.methodLink RX8 98 yX1_longest) := ⟨tm2 (List.mem_of_getElem? (i := 30) (by decide +kernel)), by decide +kernel⟩
theorem gw24 : ab_gw (.code yX1_longest cX1_longest 1 (some .int)) := ⟨tm2 (List.mem_of_getElem? (i := 33) (by decide +kernel)), by decide +kernel⟩
theorem gw25 : ab_gw (.instanceMethod yX1_longest) := ⟨tm2 (List.mem_of_getElem? (i := 31) (by decide +kernel)), by decide +kernel⟩
theorem gw26 : ab_gw (.selects RX1 yX1_longest yX1_longest) := ⟨tm2 (List.mem_of_getElem? (i := 32) (by decide +kernel)), by decide +kernel⟩
theorem cl_RX8_98 : ab_cv RX8 98 RX1 yX1_longest cX1_longest 1 (some .int) 0 := ⟨gw23, gw25, gw26, gw6, gw24, rfl, by decide +kernel, by decide +kernel, by decide +kernel⟩
theorem gw27 : ab_gw (.methodLink RX8 102 yX8_byteOf) := ⟨tm2 (List.mem_of_getElem? (i := 38) (by decide +kernel)), by decide +kernel⟩
theorem gw28 : ab_gw (.code yX8_byteOf cX8_byteOf 3 (some .int)) := ⟨tm2 (List.mem_of_getElem? (i := 40) (by decide +kernel)), by decide +kernel⟩
theorem gw29 : ab_gw (.static yX8_byteOf) := ⟨tm2 (List.mem_of_getElem? (i := 39) (by decide +kernel)), by decide +kernel⟩
theorem cl_RX8_102 : ab_cs RX8 102 yX8_byteOf cX8_byteOf 3 (some .int) 2 := ⟨gw27, gw29, gw2, gw28, by decide +kernel, by decide +kernel, by decide +kernel⟩
theorem gw30 : ab_gw (.methodLink RX8 106 yX7_size) := ⟨tm2 (List.mem_of_getElem? (i := 41) (by decide +kernel)), by decide +kernel⟩
theorem gw31 : ab_gw (.code yX7_size cX7_size 1 (some .int)) := ⟨tm2 (List.mem_of_getElem? (i := 44) (by decide +kernel)), by decide +kernel⟩
theorem gw32 : ab_gw (.initialized RX7) := ⟨tm1 (List.mem_of_getElem? (i := 3) (by decide +kernel)), by decide +kernel⟩
theorem gw33 : ab_gw (.instanceMethod yX7_size) := ⟨tm2 (List.mem_of_getElem? (i := 42) (by decide +kernel)), by decide +kernel⟩
theorem gw34 : ab_gw (.selects RX7 yX7_size yX7_size) := ⟨tm2 (List.mem_of_getElem? (i := 43) (by decide +kernel)), by decide +kernel⟩
theorem cl_RX8_106 : ab_cv RX8 106 RX7 yX7_size cX7_size 1 (some .int) 0 := ⟨gw30, gw33, gw34, gw32, gw31, rfl, by decide +kernel, by decide +kernel, by decide +kernel⟩
theorem gw35 : ab_gw (.methodLink RX8 109 yX7_add) := ⟨tm2 (List.mem_of_getElem? (i := 45) (by decide +kernel)), by decide +kernel⟩
theorem gw36 : ab_gw (.code yX7_add cX7_add 2 none) := ⟨tm2 (List.mem_of_getElem? (i := 48) (by decide +kernel)), by decide +kernel⟩
theorem gw37 : ab_gw (.instanceMethod yX7_add) := ⟨tm2 (List.mem_of_getElem? (i := 46) (by decide +kernel)), by decide +kernel⟩
theorem gw38 : ab_gw (.selects RX7 yX7_add yX7_add) := ⟨tm2 (List.mem_of_getElem? (i := 47) (by decide +kernel)), by decide +kernel⟩
theorem cl_RX8_109 : ab_cv RX8 109 RX7 yX7_add cX7_add 2 none 1 := ⟨gw35, gw37, gw38, gw32, gw36, rfl, by decide +kernel, by decide +kernel, by decide +kernel⟩
theorem gw39 : ab_gw (.methodLink RX8 112 yX8_readTape) := ⟨tm2 (List.mem_of_getElem? (i := 53) (by decide +kernel)), by decide +kernel⟩
theorem gw40 : ab_gw (.code yX8_readTape cX8_readTape 2 (some .int)) := ⟨tm2 (List.mem_of_getElem? (i := 56) (by decide +kernel)), by decide +kernel⟩
theorem gw41 : ab_gw (.instanceMethod yX8_readTape) := ⟨tm2 (List.mem_of_getElem? (i := 55) (by decide +kernel)), by decide +kernel⟩
theorem gw42 : ab_gw (.selects RX8 yX8_readTape yX8_readTape) := ⟨tm0 (List.mem_of_getElem? (i := 1) (by decide +kernel)), by decide +kernel⟩
theorem cl_RX8_112 : ab_cv RX8 112 RX8 yX8_readTape cX8_readTape 2 (some .int) 0 := ⟨gw39, gw41, gw42, gw2, gw40, rfl, by decide +kernel, by decide +kernel, by decide +kernel⟩
theorem gw43 : ab_gw (.methodLink RX8 115 yX6_onlyLength) := ⟨tm2 (List.mem_of_getElem? (i := 120) (by decide +kernel)), by decide +kernel⟩
theorem gw44 : ab_gw (.code yX6_onlyLength cX6_onlyLength 3 (some .int)) := ⟨tm2 (List.mem_of_getElem? (i := 123) (by decide +kernel)), by decide +kernel⟩
theorem gw45 : ab_gw (.instanceMethod yX6_onlyLength) := ⟨tm2 (List.mem_of_getElem? (i := 121) (by decide +kernel)), by decide +kernel⟩
theorem gw46 : ab_gw (.selects RX6 yX6_onlyLength yX6_onlyLength) := ⟨tm2 (List.mem_of_getElem? (i := 122) (by decide +kernel)), by decide +kernel⟩
theorem cl_RX8_115 : ab_cv RX8 115 RX6 yX6_onlyLength cX6_onlyLength 3 (some .int) 0 := ⟨gw43, gw45, gw46, gw16, gw44, rfl, by decide +kernel, by decide +kernel, by decide +kernel⟩
theorem gw47 : ab_gw (.methodLink RX8 118 yX8_isLawLength) := ⟨tm2 (List.mem_of_getElem? (i := 137) (by decide +kernel)), by decide +kernel⟩
theorem gw48 : ab_gw (.code yX8_isLawLength cX8_isLawLength 1 (some .boolean)) := ⟨tm2 (List.mem_of_getElem? (i := 139) (by decide +kernel)), by decide +kernel⟩
theorem gw49 : ab_gw (.static yX8_isLawLength) := ⟨tm2 (List.mem_of_getElem? (i := 138) (by decide +kernel)), by decide +kernel⟩
theorem cl_RX8_118 : ab_cs RX8 118 yX8_isLawLength cX8_isLawLength 1 (some .boolean) 1 := ⟨gw47, gw49, gw2, gw48, by decide +kernel, by decide +kernel, by decide +kernel⟩
theorem gw50 : ab_gw (.methodLink RX8 121 yX3_size) := ⟨tm2 (List.mem_of_getElem? (i := 140) (by decide +kernel)), by decide +kernel⟩
theorem gw51 : ab_gw (.code yX3_size cX3_size 1 (some .int)) := ⟨tm2 (List.mem_of_getElem? (i := 143) (by decide +kernel)), by decide +kernel⟩
theorem gw52 : ab_gw (.instanceMethod yX3_size) := ⟨tm2 (List.mem_of_getElem? (i := 141) (by decide +kernel)), by decide +kernel⟩
theorem gw53 : ab_gw (.selects RX3 yX3_size yX3_size) := ⟨tm2 (List.mem_of_getElem? (i := 142) (by decide +kernel)), by decide +kernel⟩
theorem cl_RX8_121 : ab_cv RX8 121 RX3 yX3_size cX3_size 1 (some .int) 0 := ⟨gw50, gw52, gw53, gw11, gw51, rfl, by decide +kernel, by decide +kernel, by decide +kernel⟩
theorem gw54 : ab_gw (.methodLink RX8 122 yX8_addLaw) := ⟨tm2 (List.mem_of_getElem? (i := 144) (by decide +kernel)), by decide +kernel⟩
theorem gw55 : ab_gw (.code yX8_addLaw cX8_addLaw 3 (some .int)) := ⟨tm2 (List.mem_of_getElem? (i := 147) (by decide +kernel)), by decide +kernel⟩
theorem gw56 : ab_gw (.instanceMethod yX8_addLaw) := ⟨tm2 (List.mem_of_getElem? (i := 146) (by decide +kernel)), by decide +kernel⟩
theorem gw57 : ab_gw (.selects RX8 yX8_addLaw yX8_addLaw) := ⟨tm0 (List.mem_of_getElem? (i := 9) (by decide +kernel)), by decide +kernel⟩
theorem cl_RX8_122 : ab_cv RX8 122 RX8 yX8_addLaw cX8_addLaw 3 (some .int) 1 := ⟨gw54, gw56, gw57, gw2, gw55, rfl, by decide +kernel, by decide +kernel, by decide +kernel⟩
theorem gw58 : ab_gw (.methodLink RX8 126 yX3_lengthOf) := ⟨tm2 (List.mem_of_getElem? (i := 162) (by decide +kernel)), by decide +kernel⟩
theorem gw59 : ab_gw (.code yX3_lengthOf cX3_lengthOf 2 (some .int)) := ⟨tm2 (List.mem_of_getElem? (i := 165) (by decide +kernel)), by decide +kernel⟩
theorem gw60 : ab_gw (.instanceMethod yX3_lengthOf) := ⟨tm2 (List.mem_of_getElem? (i := 163) (by decide +kernel)), by decide +kernel⟩
theorem gw61 : ab_gw (.selects RX3 yX3_lengthOf yX3_lengthOf) := ⟨tm2 (List.mem_of_getElem? (i := 164) (by decide +kernel)), by decide +kernel⟩
theorem cl_RX8_126 : ab_cv RX8 126 RX3 yX3_lengthOf cX3_lengthOf 2 (some .int) 1 := ⟨gw58, gw60, gw61, gw11, gw59, rfl, by decide +kernel, by decide +kernel, by decide +kernel⟩
theorem gw62 : ab_gw (.methodLink RX8 129 yX3_removeLatest) := ⟨tm2 (List.mem_of_getElem? (i := 166) (by decide +kernel)), by decide +kernel⟩
theorem gw63 : ab_gw (.code yX3_removeLatest cX3_removeLatest 1 none) := ⟨tm2 (List.mem_of_getElem? (i := 169) (by decide +kernel)), by decide +kernel⟩
theorem gw64 : ab_gw (.instanceMethod yX3_removeLatest) := ⟨tm2 (List.mem_of_getElem? (i := 167) (by decide +kernel)), by decide +kernel⟩
theorem gw65 : ab_gw (.selects RX3 yX3_removeLatest yX3_removeLatest) := ⟨tm2 (List.mem_of_getElem? (i := 168) (by decide +kernel)), by decide +kernel⟩
theorem cl_RX8_129 : ab_cv RX8 129 RX3 yX3_removeLatest cX3_removeLatest 1 none 0 := ⟨gw62, gw64, gw65, gw11, gw63, rfl, by decide +kernel, by decide +kernel, by decide +kernel⟩
theorem gw66 : ab_gw (.methodLink RX8 132 yX1_hasWord) := ⟨tm2 (List.mem_of_getElem? (i := 174) (by decide +kernel)), by decide +kernel⟩
theorem gw67 : ab_gw (.code yX1_hasWord cX1_hasWord 3 (some .boolean)) := ⟨tm2 (List.mem_of_getElem? (i := 177) (by decide +kernel)), by decide +kernel⟩
theorem gw68 : ab_gw (.instanceMethod yX1_hasWord) := ⟨tm2 (List.mem_of_getElem? (i := 175) (by decide +kernel)), by decide +kernel⟩
theorem gw69 : ab_gw (.selects RX1 yX1_hasWord yX1_hasWord) := ⟨tm2 (List.mem_of_getElem? (i := 176) (by decide +kernel)), by decide +kernel⟩
theorem cl_RX8_132 : ab_cv RX8 132 RX1 yX1_hasWord cX1_hasWord 3 (some .boolean) 2 := ⟨gw66, gw68, gw69, gw6, gw67, rfl, by decide +kernel, by decide +kernel, by decide +kernel⟩
theorem gw70 : ab_gw (.methodLink RX8 136 yX3_numberOf) := ⟨tm2 (List.mem_of_getElem? (i := 182) (by decide +kernel)), by decide +kernel⟩
theorem gw71 : ab_gw (.code yX3_numberOf cX3_numberOf 3 (some .int)) := ⟨tm2 (List.mem_of_getElem? (i := 185) (by decide +kernel)), by decide +kernel⟩
theorem gw72 : ab_gw (.instanceMethod yX3_numberOf) := ⟨tm2 (List.mem_of_getElem? (i := 183) (by decide +kernel)), by decide +kernel⟩
theorem gw73 : ab_gw (.selects RX3 yX3_numberOf yX3_numberOf) := ⟨tm2 (List.mem_of_getElem? (i := 184) (by decide +kernel)), by decide +kernel⟩
theorem cl_RX8_136 : ab_cv RX8 136 RX3 yX3_numberOf cX3_numberOf 3 (some .int) 2 := ⟨gw70, gw72, gw73, gw11, gw71, rfl, by decide +kernel, by decide +kernel, by decide +kernel⟩
theorem gw74 : ab_gw (.methodLink RX8 140 yX1_letters) := ⟨tm2 (List.mem_of_getElem? (i := 190) (by decide +kernel)), by decide +kernel⟩
theorem gw75 : ab_gw (.code yX1_letters cX1_letters 1 (some .int)) := ⟨tm2 (List.mem_of_getElem? (i := 110) (by decide +kernel)), by decide +kernel⟩
theorem gw76 : ab_gw (.instanceMethod yX1_letters) := ⟨tm2 (List.mem_of_getElem? (i := 108) (by decide +kernel)), by decide +kernel⟩
theorem gw77 : ab_gw (.selects RX1 yX1_letters yX1_letters) := ⟨tm2 (List.mem_of_getElem? (i := 109) (by decide +kernel)), by decide +kernel⟩
theorem cl_RX8_140 : ab_cv RX8 140 RX1 yX1_letters cX1_letters 1 (some .int) 0 := ⟨gw74, gw76, gw77, gw6, gw75, rfl, by decide +kernel, by decide +kernel, by decide +kernel⟩
theorem gw78 : ab_gw (.methodLink RX8 143 yX1_prime) := ⟨tm2 (List.mem_of_getElem? (i := 191) (by decide +kernel)), by decide +kernel⟩
theorem gw79 : ab_gw (.code yX1_prime cX1_prime 1 (some .int)) := ⟨tm2 (List.mem_of_getElem? (i := 194) (by decide +kernel)), by decide +kernel⟩
theorem gw80 : ab_gw (.instanceMethod yX1_prime) := ⟨tm2 (List.mem_of_getElem? (i := 192) (by decide +kernel)), by decide +kernel⟩
theorem gw81 : ab_gw (.selects RX1 yX1_prime yX1_prime) := ⟨tm2 (List.mem_of_getElem? (i := 193) (by decide +kernel)), by decide +kernel⟩
theorem cl_RX8_143 : ab_cv RX8 143 RX1 yX1_prime cX1_prime 1 (some .int) 0 := ⟨gw78, gw80, gw81, gw6, gw79, rfl, by decide +kernel, by decide +kernel, by decide +kernel⟩
theorem gw82 : ab_gw (.methodLink RX8 146 yX8_countLeastLaws) := ⟨tm2 (List.mem_of_getElem? (i := 195) (by decide +kernel)), by decide +kernel⟩
theorem gw83 : ab_gw (.code yX8_countLeastLaws cX8_countLeastLaws 3 (some .int)) := ⟨tm2 (List.mem_of_getElem? (i := 198) (by decide +kernel)), by decide +kernel⟩
theorem gw84 : ab_gw (.instanceMethod yX8_countLeastLaws) := ⟨tm2 (List.mem_of_getElem? (i := 197) (by decide +kernel)), by decide +kernel⟩
theorem gw85 : ab_gw (.selects RX8 yX8_countLeastLaws yX8_countLeastLaws) := ⟨tm0 (List.mem_of_getElem? (i := 10) (by decide +kernel)), by decide +kernel⟩
theorem cl_RX8_146 : ab_cv RX8 146 RX8 yX8_countLeastLaws cX8_countLeastLaws 3 (some .int) 0 := ⟨gw82, gw84, gw85, gw2, gw83, rfl, by decide +kernel, by decide +kernel, by decide +kernel⟩
theorem gw86 : ab_gw (.methodLink RX8 149 yX6_terms) := ⟨tm3 (List.mem_of_getElem? (i := 49) (by decide +kernel)), by decide +kernel⟩
theorem gw87 : ab_gw (.code yX6_terms cX6_terms 3 (some .int)) := ⟨tm3 (List.mem_of_getElem? (i := 52) (by decide +kernel)), by decide +kernel⟩
theorem gw88 : ab_gw (.instanceMethod yX6_terms) := ⟨tm3 (List.mem_of_getElem? (i := 50) (by decide +kernel)), by decide +kernel⟩
theorem gw89 : ab_gw (.selects RX6 yX6_terms yX6_terms) := ⟨tm3 (List.mem_of_getElem? (i := 51) (by decide +kernel)), by decide +kernel⟩
theorem cl_RX8_149 : ab_cv RX8 149 RX6 yX6_terms cX6_terms 3 (some .int) 0 := ⟨gw86, gw88, gw89, gw16, gw87, rfl, by decide +kernel, by decide +kernel, by decide +kernel⟩
theorem gw90 : ab_gw (.methodLink RX8 152 yX1_hasLength) := ⟨tm3 (List.mem_of_getElem? (i := 57) (by decide +kernel)), by decide +kernel⟩
theorem gw91 : ab_gw (.code yX1_hasLength cX1_hasLength 2 (some .boolean)) := ⟨tm2 (List.mem_of_getElem? (i := 181) (by decide +kernel)), by decide +kernel⟩
theorem gw92 : ab_gw (.instanceMethod yX1_hasLength) := ⟨tm2 (List.mem_of_getElem? (i := 179) (by decide +kernel)), by decide +kernel⟩
theorem gw93 : ab_gw (.selects RX1 yX1_hasLength yX1_hasLength) := ⟨tm2 (List.mem_of_getElem? (i := 180) (by decide +kernel)), by decide +kernel⟩
theorem cl_RX8_152 : ab_cv RX8 152 RX1 yX1_hasLength cX1_hasLength 2 (some .boolean) 1 := ⟨gw90, gw92, gw93, gw6, gw91, rfl, by decide +kernel, by decide +kernel, by decide +kernel⟩
theorem gw94 : ab_gw (.methodLink RX8 155 yX0_normalsOf) := ⟨tm3 (List.mem_of_getElem? (i := 58) (by decide +kernel)), by decide +kernel⟩
theorem gw95 : ab_gw (.code yX0_normalsOf cX0_normalsOf 2 (some .int)) := ⟨tm3 (List.mem_of_getElem? (i := 61) (by decide +kernel)), by decide +kernel⟩
theorem gw96 : ab_gw (.initialized RX0) := ⟨tm1 (List.mem_of_getElem? (i := 7) (by decide +kernel)), by decide +kernel⟩
theorem gw97 : ab_gw (.instanceMethod yX0_normalsOf) := ⟨tm3 (List.mem_of_getElem? (i := 59) (by decide +kernel)), by decide +kernel⟩
theorem gw98 : ab_gw (.selects RX0 yX0_normalsOf yX0_normalsOf) := ⟨tm3 (List.mem_of_getElem? (i := 60) (by decide +kernel)), by decide +kernel⟩
theorem cl_RX8_155 : ab_cv RX8 155 RX0 yX0_normalsOf cX0_normalsOf 2 (some .int) 1 := ⟨gw94, gw97, gw98, gw96, gw95, rfl, by decide +kernel, by decide +kernel, by decide +kernel⟩
theorem gw99 : ab_gw (.methodLink RX8 158 yX0_isLeading) := ⟨tm3 (List.mem_of_getElem? (i := 66) (by decide +kernel)), by decide +kernel⟩
theorem gw100 : ab_gw (.code yX0_isLeading cX0_isLeading 3 (some .boolean)) := ⟨tm3 (List.mem_of_getElem? (i := 69) (by decide +kernel)), by decide +kernel⟩
theorem gw101 : ab_gw (.instanceMethod yX0_isLeading) := ⟨tm3 (List.mem_of_getElem? (i := 67) (by decide +kernel)), by decide +kernel⟩
theorem gw102 : ab_gw (.selects RX0 yX0_isLeading yX0_isLeading) := ⟨tm3 (List.mem_of_getElem? (i := 68) (by decide +kernel)), by decide +kernel⟩
theorem cl_RX8_158 : ab_cv RX8 158 RX0 yX0_isLeading cX0_isLeading 3 (some .boolean) 2 := ⟨gw99, gw101, gw102, gw96, gw100, rfl, by decide +kernel, by decide +kernel, by decide +kernel⟩
theorem gw103 : ab_gw (.methodLink RX8 161 yX0_normalWord) := ⟨tm3 (List.mem_of_getElem? (i := 74) (by decide +kernel)), by decide +kernel⟩
theorem gw104 : ab_gw (.code yX0_normalWord cX0_normalWord 5 (some .int)) := ⟨tm3 (List.mem_of_getElem? (i := 77) (by decide +kernel)), by decide +kernel⟩
theorem gw105 : ab_gw (.instanceMethod yX0_normalWord) := ⟨tm3 (List.mem_of_getElem? (i := 75) (by decide +kernel)), by decide +kernel⟩
theorem gw106 : ab_gw (.selects RX0 yX0_normalWord yX0_normalWord) := ⟨tm3 (List.mem_of_getElem? (i := 76) (by decide +kernel)), by decide +kernel⟩
theorem cl_RX8_161 : ab_cv RX8 161 RX0 yX0_normalWord cX0_normalWord 5 (some .int) 2 := ⟨gw103, gw105, gw106, gw96, gw104, rfl, by decide +kernel, by decide +kernel, by decide +kernel⟩
theorem gw107 : ab_gw (.methodLink RX8 164 yX0_numberInForm) := ⟨tm3 (List.mem_of_getElem? (i := 82) (by decide +kernel)), by decide +kernel⟩
theorem gw108 : ab_gw (.code yX0_numberInForm cX0_numberInForm 4 (some .int)) := ⟨tm3 (List.mem_of_getElem? (i := 85) (by decide +kernel)), by decide +kernel⟩
theorem gw109 : ab_gw (.instanceMethod yX0_numberInForm) := ⟨tm3 (List.mem_of_getElem? (i := 83) (by decide +kernel)), by decide +kernel⟩
theorem gw110 : ab_gw (.selects RX0 yX0_numberInForm yX0_numberInForm) := ⟨tm3 (List.mem_of_getElem? (i := 84) (by decide +kernel)), by decide +kernel⟩
theorem cl_RX8_164 : ab_cv RX8 164 RX0 yX0_numberInForm cX0_numberInForm 4 (some .int) 3 := ⟨gw107, gw109, gw110, gw96, gw108, rfl, by decide +kernel, by decide +kernel, by decide +kernel⟩
theorem gw111 : ab_gw (.methodLink RX8 168 yX0_leastLawsOf) := ⟨tm2 (List.mem_of_getElem? (i := 199) (by decide +kernel)), by decide +kernel⟩
theorem gw112 : ab_gw (.code yX0_leastLawsOf cX0_leastLawsOf 2 (some .int)) := ⟨tm2 (List.mem_of_getElem? (i := 202) (by decide +kernel)), by decide +kernel⟩
theorem gw113 : ab_gw (.instanceMethod yX0_leastLawsOf) := ⟨tm2 (List.mem_of_getElem? (i := 200) (by decide +kernel)), by decide +kernel⟩
theorem gw114 : ab_gw (.selects RX0 yX0_leastLawsOf yX0_leastLawsOf) := ⟨tm2 (List.mem_of_getElem? (i := 201) (by decide +kernel)), by decide +kernel⟩
theorem cl_RX8_168 : ab_cv RX8 168 RX0 yX0_leastLawsOf cX0_leastLawsOf 2 (some .int) 1 := ⟨gw111, gw113, gw114, gw96, gw112, rfl, by decide +kernel, by decide +kernel, by decide +kernel⟩
theorem gw115 : ab_gw (.methodLink RX8 171 yX0_leastWord) := ⟨tm3 (List.mem_of_getElem? (i := 94) (by decide +kernel)), by decide +kernel⟩
theorem gw116 : ab_gw (.code yX0_leastWord cX0_leastWord 5 (some .int)) := ⟨tm3 (List.mem_of_getElem? (i := 97) (by decide +kernel)), by decide +kernel⟩
theorem gw117 : ab_gw (.instanceMethod yX0_leastWord) := ⟨tm3 (List.mem_of_getElem? (i := 95) (by decide +kernel)), by decide +kernel⟩
theorem gw118 : ab_gw (.selects RX0 yX0_leastWord yX0_leastWord) := ⟨tm3 (List.mem_of_getElem? (i := 96) (by decide +kernel)), by decide +kernel⟩
theorem cl_RX8_171 : ab_cv RX8 171 RX0 yX0_leastWord cX0_leastWord 5 (some .int) 2 := ⟨gw115, gw117, gw118, gw96, gw116, rfl, by decide +kernel, by decide +kernel, by decide +kernel⟩
theorem gw119 : ab_gw (.methodLink RX8 174 yX8_tellLeast) := ⟨tm3 (List.mem_of_getElem? (i := 98) (by decide +kernel)), by decide +kernel⟩
theorem gw120 : ab_gw (.code yX8_tellLeast cX8_tellLeast 4 (some .int)) := ⟨tm3 (List.mem_of_getElem? (i := 101) (by decide +kernel)), by decide +kernel⟩
theorem gw121 : ab_gw (.instanceMethod yX8_tellLeast) := ⟨tm3 (List.mem_of_getElem? (i := 100) (by decide +kernel)), by decide +kernel⟩
theorem gw122 : ab_gw (.selects RX8 yX8_tellLeast yX8_tellLeast) := ⟨tm0 (List.mem_of_getElem? (i := 23) (by decide +kernel)), by decide +kernel⟩
theorem cl_RX8_174 : ab_cv RX8 174 RX8 yX8_tellLeast cX8_tellLeast 4 (some .int) 3 := ⟨gw119, gw121, gw122, gw2, gw120, rfl, by decide +kernel, by decide +kernel, by decide +kernel⟩
theorem gw123 : ab_gw (.methodLink RX8 177 yX1_join) := ⟨tm3 (List.mem_of_getElem? (i := 110) (by decide +kernel)), by decide +kernel⟩
theorem gw124 : ab_gw (.code yX1_join cX1_join 4 (some .int)) := ⟨tm3 (List.mem_of_getElem? (i := 113) (by decide +kernel)), by decide +kernel⟩
theorem gw125 : ab_gw (.instanceMethod yX1_join) := ⟨tm3 (List.mem_of_getElem? (i := 111) (by decide +kernel)), by decide +kernel⟩
theorem gw126 : ab_gw (.selects RX1 yX1_join yX1_join) := ⟨tm3 (List.mem_of_getElem? (i := 112) (by decide +kernel)), by decide +kernel⟩
theorem cl_RX8_177 : ab_cv RX8 177 RX1 yX1_join cX1_join 4 (some .int) 3 := ⟨gw123, gw125, gw126, gw6, gw124, rfl, by decide +kernel, by decide +kernel, by decide +kernel⟩
theorem gw127 : ab_gw (.methodLink RX8 180 yX0_middleOf) := ⟨tm3 (List.mem_of_getElem? (i := 118) (by decide +kernel)), by decide +kernel⟩
theorem gw128 : ab_gw (.code yX0_middleOf cX0_middleOf 5 (some .int)) := ⟨tm3 (List.mem_of_getElem? (i := 121) (by decide +kernel)), by decide +kernel⟩
theorem gw129 : ab_gw (.instanceMethod yX0_middleOf) := ⟨tm3 (List.mem_of_getElem? (i := 119) (by decide +kernel)), by decide +kernel⟩
theorem gw130 : ab_gw (.selects RX0 yX0_middleOf yX0_middleOf) := ⟨tm3 (List.mem_of_getElem? (i := 120) (by decide +kernel)), by decide +kernel⟩
theorem cl_RX8_180 : ab_cv RX8 180 RX0 yX0_middleOf cX0_middleOf 5 (some .int) 2 := ⟨gw127, gw129, gw130, gw96, gw128, rfl, by decide +kernel, by decide +kernel, by decide +kernel⟩
theorem gw131 : ab_gw (.methodLink RX8 184 yX3_allHaveLength) := ⟨tm3 (List.mem_of_getElem? (i := 161) (by decide +kernel)), by decide +kernel⟩
theorem gw132 : ab_gw (.code yX3_allHaveLength cX3_allHaveLength 3 (some .boolean)) := ⟨tm3 (List.mem_of_getElem? (i := 164) (by decide +kernel)), by decide +kernel⟩
theorem gw133 : ab_gw (.instanceMethod yX3_allHaveLength) := ⟨tm3 (List.mem_of_getElem? (i := 162) (by decide +kernel)), by decide +kernel⟩
theorem gw134 : ab_gw (.selects RX3 yX3_allHaveLength yX3_allHaveLength) := ⟨tm3 (List.mem_of_getElem? (i := 163) (by decide +kernel)), by decide +kernel⟩
theorem cl_RX8_184 : ab_cv RX8 184 RX3 yX3_allHaveLength cX3_allHaveLength 3 (some .boolean) 1 := ⟨gw131, gw133, gw134, gw11, gw132, rfl, by decide +kernel, by decide +kernel, by decide +kernel⟩
theorem gw135 : ab_gw (.methodLink RX8 187 yX8_renewOther) := ⟨tm3 (List.mem_of_getElem? (i := 165) (by decide +kernel)), by decide +kernel⟩
theorem gw136 : ab_gw (.code yX8_renewOther cX8_renewOther 4 none) := ⟨tm3 (List.mem_of_getElem? (i := 168) (by decide +kernel)), by decide +kernel⟩
theorem gw137 : ab_gw (.instanceMethod yX8_renewOther) := ⟨tm3 (List.mem_of_getElem? (i := 167) (by decide +kernel)), by decide +kernel⟩
theorem gw138 : ab_gw (.selects RX8 yX8_renewOther yX8_renewOther) := ⟨tm0 (List.mem_of_getElem? (i := 27) (by decide +kernel)), by decide +kernel⟩
theorem cl_RX8_187 : ab_cv RX8 187 RX8 yX8_renewOther cX8_renewOther 4 none 0 := ⟨gw135, gw137, gw138, gw2, gw136, rfl, by decide +kernel, by decide +kernel, by decide +kernel⟩
theorem gw139 : ab_gw (.methodLink RX8 190 yX8_seriesAt) := ⟨tm3 (List.mem_of_getElem? (i := 173) (by decide +kernel)), by decide +kernel⟩
theorem gw140 : ab_gw (.code yX8_seriesAt cX8_seriesAt 5 (some .int)) := ⟨tm3 (List.mem_of_getElem? (i := 176) (by decide +kernel)), by decide +kernel⟩
theorem gw141 : ab_gw (.instanceMethod yX8_seriesAt) := ⟨tm3 (List.mem_of_getElem? (i := 175) (by decide +kernel)), by decide +kernel⟩
theorem gw142 : ab_gw (.selects RX8 yX8_seriesAt yX8_seriesAt) := ⟨tm0 (List.mem_of_getElem? (i := 28) (by decide +kernel)), by decide +kernel⟩
theorem cl_RX8_190 : ab_cv RX8 190 RX8 yX8_seriesAt cX8_seriesAt 5 (some .int) 1 := ⟨gw139, gw141, gw142, gw2, gw140, rfl, by decide +kernel, by decide +kernel, by decide +kernel⟩
theorem gw143 : ab_gw (.methodLink RX8 193 yX6_copy) := ⟨tm3 (List.mem_of_getElem? (i := 181) (by decide +kernel)), by decide +kernel⟩
theorem gw144 : ab_gw (.code yX6_copy cX6_copy 2 none) := ⟨tm3 (List.mem_of_getElem? (i := 184) (by decide +kernel)), by decide +kernel⟩
theorem gw145 : ab_gw (.instanceMethod yX6_copy) := ⟨tm3 (List.mem_of_getElem? (i := 182) (by decide +kernel)), by decide +kernel⟩
theorem gw146 : ab_gw (.selects RX6 yX6_copy yX6_copy) := ⟨tm3 (List.mem_of_getElem? (i := 183) (by decide +kernel)), by decide +kernel⟩
theorem cl_RX8_193 : ab_cv RX8 193 RX6 yX6_copy cX6_copy 2 none 1 := ⟨gw143, gw145, gw146, gw16, gw144, rfl, by decide +kernel, by decide +kernel, by decide +kernel⟩
theorem gw147 : ab_gw (.methodLink RX8 197 yX6_numberOf) := ⟨tm2 (List.mem_of_getElem? (i := 153) (by decide +kernel)), by decide +kernel⟩
theorem gw148 : ab_gw (.code yX6_numberOf cX6_numberOf 3 (some .int)) := ⟨tm2 (List.mem_of_getElem? (i := 136) (by decide +kernel)), by decide +kernel⟩
theorem gw149 : ab_gw (.instanceMethod yX6_numberOf) := ⟨tm2 (List.mem_of_getElem? (i := 134) (by decide +kernel)), by decide +kernel⟩
theorem gw150 : ab_gw (.selects RX6 yX6_numberOf yX6_numberOf) := ⟨tm2 (List.mem_of_getElem? (i := 135) (by decide +kernel)), by decide +kernel⟩
theorem cl_RX8_197 : ab_cv RX8 197 RX6 yX6_numberOf cX6_numberOf 3 (some .int) 2 := ⟨gw147, gw149, gw150, gw16, gw148, rfl, by decide +kernel, by decide +kernel, by decide +kernel⟩
theorem gw151 : ab_gw (.methodLink RX8 198 yX1_words) := ⟨tm2 (List.mem_of_getElem? (i := 152) (by decide +kernel)), by decide +kernel⟩
theorem gw152 : ab_gw (.code yX1_words cX1_words 2 (some .int)) := ⟨tm2 (List.mem_of_getElem? (i := 132) (by decide +kernel)), by decide +kernel⟩
theorem gw153 : ab_gw (.instanceMethod yX1_words) := ⟨tm2 (List.mem_of_getElem? (i := 130) (by decide +kernel)), by decide +kernel⟩
theorem gw154 : ab_gw (.selects RX1 yX1_words yX1_words) := ⟨tm2 (List.mem_of_getElem? (i := 131) (by decide +kernel)), by decide +kernel⟩
theorem cl_RX8_198 : ab_cv RX8 198 RX1 yX1_words cX1_words 2 (some .int) 1 := ⟨gw151, gw153, gw154, gw6, gw152, rfl, by decide +kernel, by decide +kernel, by decide +kernel⟩
theorem gw155 : ab_gw (.methodLink RX8 201 yX0_addForm) := ⟨tm3 (List.mem_of_getElem? (i := 194) (by decide +kernel)), by decide +kernel⟩
theorem gw156 : ab_gw (.code yX0_addForm cX0_addForm 6 none) := ⟨tm3 (List.mem_of_getElem? (i := 197) (by decide +kernel)), by decide +kernel⟩
theorem gw157 : ab_gw (.instanceMethod yX0_addForm) := ⟨tm3 (List.mem_of_getElem? (i := 195) (by decide +kernel)), by decide +kernel⟩
theorem gw158 : ab_gw (.selects RX0 yX0_addForm yX0_addForm) := ⟨tm3 (List.mem_of_getElem? (i := 196) (by decide +kernel)), by decide +kernel⟩
theorem cl_RX8_201 : ab_cv RX8 201 RX0 yX0_addForm cX0_addForm 6 none 4 := ⟨gw155, gw157, gw158, gw96, gw156, rfl, by decide +kernel, by decide +kernel, by decide +kernel⟩
theorem gw159 : ab_gw (.methodLink RX8 205 yX6_hasTermsOf) := ⟨tm3 (List.mem_of_getElem? (i := 203) (by decide +kernel)), by decide +kernel⟩
theorem gw160 : ab_gw (.code yX6_hasTermsOf cX6_hasTermsOf 3 (some .boolean)) := ⟨tm2 (List.mem_of_getElem? (i := 128) (by decide +kernel)), by decide +kernel⟩
theorem gw161 : ab_gw (.instanceMethod yX6_hasTermsOf) := ⟨tm2 (List.mem_of_getElem? (i := 126) (by decide +kernel)), by decide +kernel⟩
theorem gw162 : ab_gw (.selects RX6 yX6_hasTermsOf yX6_hasTermsOf) := ⟨tm2 (List.mem_of_getElem? (i := 127) (by decide +kernel)), by decide +kernel⟩
theorem cl_RX8_205 : ab_cv RX8 205 RX6 yX6_hasTermsOf cX6_hasTermsOf 3 (some .boolean) 1 := ⟨gw159, gw161, gw162, gw16, gw160, rfl, by decide +kernel, by decide +kernel, by decide +kernel⟩
theorem gw163 : ab_gw (.methodLink RX8 208 yX1_ahead) := ⟨tm3 (List.mem_of_getElem? (i := 204) (by decide +kernel)), by decide +kernel⟩
theorem gw164 : ab_gw (.code yX1_ahead cX1_ahead 4 (some .int)) := ⟨tm3 (List.mem_of_getElem? (i := 1) (by decide +kernel)), by decide +kernel⟩
theorem gw165 : ab_gw (.instanceMethod yX1_ahead) := ⟨tm2 (List.mem_of_getElem? (i := 239) (by decide +kernel)), by decide +kernel⟩
theorem gw166 : ab_gw (.selects RX1 yX1_ahead yX1_ahead) := ⟨tm3 (List.mem_of_getElem? (i := 0) (by decide +kernel)), by decide +kernel⟩
theorem cl_RX8_208 : ab_cv RX8 208 RX1 yX1_ahead cX1_ahead 4 (some .int) 3 := ⟨gw163, gw165, gw166, gw6, gw164, rfl, by decide +kernel, by decide +kernel, by decide +kernel⟩
theorem gw167 : ab_gw (.methodLink RX8 211 yX1_behind) := ⟨tm3 (List.mem_of_getElem? (i := 205) (by decide +kernel)), by decide +kernel⟩
theorem gw168 : ab_gw (.code yX1_behind cX1_behind 3 (some .int)) := ⟨tm2 (List.mem_of_getElem? (i := 115) (by decide +kernel)), by decide +kernel⟩
theorem gw169 : ab_gw (.instanceMethod yX1_behind) := ⟨tm2 (List.mem_of_getElem? (i := 113) (by decide +kernel)), by decide +kernel⟩
theorem gw170 : ab_gw (.selects RX1 yX1_behind yX1_behind) := ⟨tm2 (List.mem_of_getElem? (i := 114) (by decide +kernel)), by decide +kernel⟩
theorem cl_RX8_211 : ab_cv RX8 211 RX1 yX1_behind cX1_behind 3 (some .int) 2 := ⟨gw167, gw169, gw170, gw6, gw168, rfl, by decide +kernel, by decide +kernel, by decide +kernel⟩
theorem gw171 : ab_gw (.methodLink RX8 214 yX6_add) := ⟨tm3 (List.mem_of_getElem? (i := 206) (by decide +kernel)), by decide +kernel⟩
theorem gw172 : ab_gw (.code yX6_add cX6_add 6 none) := ⟨tm2 (List.mem_of_getElem? (i := 94) (by decide +kernel)), by decide +kernel⟩
theorem gw173 : ab_gw (.instanceMethod yX6_add) := ⟨tm2 (List.mem_of_getElem? (i := 92) (by decide +kernel)), by decide +kernel⟩
theorem gw174 : ab_gw (.selects RX6 yX6_add yX6_add) := ⟨tm2 (List.mem_of_getElem? (i := 93) (by decide +kernel)), by decide +kernel⟩
theorem cl_RX8_214 : ab_cv RX8 214 RX6 yX6_add cX6_add 6 none 3 := ⟨gw171, gw173, gw174, gw16, gw172, rfl, by decide +kernel, by decide +kernel, by decide +kernel⟩
theorem gw175 : ab_gw (.methodLink RX8 217 yX6_multiply) := ⟨tm3 (List.mem_of_getElem? (i := 211) (by decide +kernel)), by decide +kernel⟩
theorem gw176 : ab_gw (.code yX6_multiply cX6_multiply 3 none) := ⟨tm3 (List.mem_of_getElem? (i := 214) (by decide +kernel)), by decide +kernel⟩
theorem gw177 : ab_gw (.instanceMethod yX6_multiply) := ⟨tm3 (List.mem_of_getElem? (i := 212) (by decide +kernel)), by decide +kernel⟩
theorem gw178 : ab_gw (.selects RX6 yX6_multiply yX6_multiply) := ⟨tm3 (List.mem_of_getElem? (i := 213) (by decide +kernel)), by decide +kernel⟩
theorem cl_RX8_217 : ab_cv RX8 217 RX6 yX6_multiply cX6_multiply 3 none 1 := ⟨gw175, gw177, gw178, gw16, gw176, rfl, by decide +kernel, by decide +kernel, by decide +kernel⟩
theorem gw179 : ab_gw (.methodLink RX8 220 yX8_isSheet) := ⟨tm3 (List.mem_of_getElem? (i := 219) (by decide +kernel)), by decide +kernel⟩
theorem gw180 : ab_gw (.code yX8_isSheet cX8_isSheet 1 (some .boolean)) := ⟨tm3 (List.mem_of_getElem? (i := 221) (by decide +kernel)), by decide +kernel⟩
theorem gw181 : ab_gw (.static yX8_isSheet) := ⟨tm3 (List.mem_of_getElem? (i := 220) (by decide +kernel)), by decide +kernel⟩
theorem cl_RX8_220 : ab_cs RX8 220 yX8_isSheet cX8_isSheet 1 (some .boolean) 1 := ⟨gw179, gw181, gw2, gw180, by decide +kernel, by decide +kernel, by decide +kernel⟩
theorem gw182 : ab_gw (.methodLink RX8 223 yX8_isLane) := ⟨tm3 (List.mem_of_getElem? (i := 222) (by decide +kernel)), by decide +kernel⟩
theorem gw183 : ab_gw (.code yX8_isLane cX8_isLane 1 (some .boolean)) := ⟨tm3 (List.mem_of_getElem? (i := 224) (by decide +kernel)), by decide +kernel⟩
theorem gw184 : ab_gw (.static yX8_isLane) := ⟨tm3 (List.mem_of_getElem? (i := 223) (by decide +kernel)), by decide +kernel⟩
theorem cl_RX8_223 : ab_cs RX8 223 yX8_isLane cX8_isLane 1 (some .boolean) 1 := ⟨gw182, gw184, gw2, gw183, by decide +kernel, by decide +kernel, by decide +kernel⟩
theorem gw185 : ab_gw (.methodLink RX8 226 yX5_hold) := ⟨tm3 (List.mem_of_getElem? (i := 225) (by decide +kernel)), by decide +kernel⟩
theorem gw186 : ab_gw (.code yX5_hold cX5_hold 3 none) := ⟨tm3 (List.mem_of_getElem? (i := 228) (by decide +kernel)), by decide +kernel⟩
theorem gw187 : ab_gw (.initialized RX5) := ⟨tm1 (List.mem_of_getElem? (i := 9) (by decide +kernel)), by decide +kernel⟩
theorem gw188 : ab_gw (.instanceMethod yX5_hold) := ⟨tm3 (List.mem_of_getElem? (i := 226) (by decide +kernel)), by decide +kernel⟩
theorem gw189 : ab_gw (.selects RX5 yX5_hold yX5_hold) := ⟨tm3 (List.mem_of_getElem? (i := 227) (by decide +kernel)), by decide +kernel⟩
theorem cl_RX8_226 : ab_cv RX8 226 RX5 yX5_hold cX5_hold 3 none 2 := ⟨gw185, gw188, gw189, gw187, gw186, rfl, by decide +kernel, by decide +kernel, by decide +kernel⟩
theorem gw190 : ab_gw (.methodLink RX8 229 yX5_isMissing) := ⟨tm3 (List.mem_of_getElem? (i := 236) (by decide +kernel)), by decide +kernel⟩
theorem gw191 : ab_gw (.code yX5_isMissing cX5_isMissing 1 (some .boolean)) := ⟨tm3 (List.mem_of_getElem? (i := 239) (by decide +kernel)), by decide +kernel⟩
theorem gw192 : ab_gw (.instanceMethod yX5_isMissing) := ⟨tm3 (List.mem_of_getElem? (i := 237) (by decide +kernel)), by decide +kernel⟩
theorem gw193 : ab_gw (.selects RX5 yX5_isMissing yX5_isMissing) := ⟨tm3 (List.mem_of_getElem? (i := 238) (by decide +kernel)), by decide +kernel⟩
theorem cl_RX8_229 : ab_cv RX8 229 RX5 yX5_isMissing cX5_isMissing 1 (some .boolean) 0 := ⟨gw190, gw192, gw193, gw187, gw191, rfl, by decide +kernel, by decide +kernel, by decide +kernel⟩
theorem gw194 : ab_gw (.methodLink RX8 233 yX5_release) := ⟨tm4 (List.mem_of_getElem? (i := 0) (by decide +kernel)), by decide +kernel⟩
theorem gw195 : ab_gw (.code yX5_release cX5_release 1 (some .int)) := ⟨tm4 (List.mem_of_getElem? (i := 3) (by decide +kernel)), by decide +kernel⟩
theorem gw196 : ab_gw (.instanceMethod yX5_release) := ⟨tm4 (List.mem_of_getElem? (i := 1) (by decide +kernel)), by decide +kernel⟩
theorem gw197 : ab_gw (.selects RX5 yX5_release yX5_release) := ⟨tm4 (List.mem_of_getElem? (i := 2) (by decide +kernel)), by decide +kernel⟩
theorem cl_RX8_233 : ab_cv RX8 233 RX5 yX5_release cX5_release 1 (some .int) 0 := ⟨gw194, gw196, gw197, gw187, gw195, rfl, by decide +kernel, by decide +kernel, by decide +kernel⟩
theorem gw198 : ab_gw (.methodLink RX8 236 yX8_refuseRow) := ⟨tm4 (List.mem_of_getElem? (i := 8) (by decide +kernel)), by decide +kernel⟩
theorem gw199 : ab_gw (.code yX8_refuseRow cX8_refuseRow 4 (some .int)) := ⟨tm4 (List.mem_of_getElem? (i := 10) (by decide +kernel)), by decide +kernel⟩
theorem gw200 : ab_gw (.static yX8_refuseRow) := ⟨tm4 (List.mem_of_getElem? (i := 9) (by decide +kernel)), by decide +kernel⟩
theorem cl_RX8_236 : ab_cs RX8 236 yX8_refuseRow cX8_refuseRow 4 (some .int) 4 := ⟨gw198, gw200, gw2, gw199, by decide +kernel, by decide +kernel, by decide +kernel⟩
theorem gw201 : ab_gw (.methodLink RX8 240 yX5_set) := ⟨tm4 (List.mem_of_getElem? (i := 19) (by decide +kernel)), by decide +kernel⟩
theorem gw202 : ab_gw (.code yX5_set cX5_set 3 none) := ⟨tm4 (List.mem_of_getElem? (i := 22) (by decide +kernel)), by decide +kernel⟩
theorem gw203 : ab_gw (.instanceMethod yX5_set) := ⟨tm4 (List.mem_of_getElem? (i := 20) (by decide +kernel)), by decide +kernel⟩
theorem gw204 : ab_gw (.selects RX5 yX5_set yX5_set) := ⟨tm4 (List.mem_of_getElem? (i := 21) (by decide +kernel)), by decide +kernel⟩
theorem cl_RX8_240 : ab_cv RX8 240 RX5 yX5_set cX5_set 3 none 2 := ⟨gw201, gw203, gw204, gw187, gw202, rfl, by decide +kernel, by decide +kernel, by decide +kernel⟩
theorem gw205 : ab_gw (.methodLink RX8 243 yX8_readRow) := ⟨tm4 (List.mem_of_getElem? (i := 28) (by decide +kernel)), by decide +kernel⟩
theorem gw206 : ab_gw (.code yX8_readRow cX8_readRow 5 none) := ⟨tm4 (List.mem_of_getElem? (i := 31) (by decide +kernel)), by decide +kernel⟩
theorem gw207 : ab_gw (.instanceMethod yX8_readRow) := ⟨tm4 (List.mem_of_getElem? (i := 30) (by decide +kernel)), by decide +kernel⟩
theorem gw208 : ab_gw (.selects RX8 yX8_readRow yX8_readRow) := ⟨tm0 (List.mem_of_getElem? (i := 29) (by decide +kernel)), by decide +kernel⟩
theorem cl_RX8_243 : ab_cv RX8 243 RX8 yX8_readRow cX8_readRow 5 none 3 := ⟨gw205, gw207, gw208, gw2, gw206, rfl, by decide +kernel, by decide +kernel, by decide +kernel⟩
theorem gw209 : ab_gw (.methodLink RX8 247 yX0_forgetFrom) := ⟨tm2 (List.mem_of_getElem? (i := 23) (by decide +kernel)), by decide +kernel⟩
theorem gw210 : ab_gw (.code yX0_forgetFrom cX0_forgetFrom 2 none) := ⟨tm2 (List.mem_of_getElem? (i := 26) (by decide +kernel)), by decide +kernel⟩
theorem gw211 : ab_gw (.instanceMethod yX0_forgetFrom) := ⟨tm2 (List.mem_of_getElem? (i := 24) (by decide +kernel)), by decide +kernel⟩
theorem gw212 : ab_gw (.selects RX0 yX0_forgetFrom yX0_forgetFrom) := ⟨tm2 (List.mem_of_getElem? (i := 25) (by decide +kernel)), by decide +kernel⟩
theorem cl_RX8_247 : ab_cv RX8 247 RX0 yX0_forgetFrom cX0_forgetFrom 2 none 1 := ⟨gw209, gw211, gw212, gw96, gw210, rfl, by decide +kernel, by decide +kernel, by decide +kernel⟩
theorem gw213 : ab_gw (.methodLink RX8 248 yX4_read) := ⟨tm2 (List.mem_of_getElem? (i := 57) (by decide +kernel)), by decide +kernel⟩
theorem gw214 : ab_gw (.code yX4_read cX4_read 5 (some .int)) := ⟨tm2 (List.mem_of_getElem? (i := 60) (by decide +kernel)), by decide +kernel⟩
theorem gw215 : ab_gw (.initialized RX4) := ⟨tm1 (List.mem_of_getElem? (i := 4) (by decide +kernel)), by decide +kernel⟩
theorem gw216 : ab_gw (.instanceMethod yX4_read) := ⟨tm2 (List.mem_of_getElem? (i := 58) (by decide +kernel)), by decide +kernel⟩
theorem gw217 : ab_gw (.selects RX4 yX4_read yX4_read) := ⟨tm2 (List.mem_of_getElem? (i := 59) (by decide +kernel)), by decide +kernel⟩
theorem cl_RX8_248 : ab_cv RX8 248 RX4 yX4_read cX4_read 5 (some .int) 2 := ⟨gw213, gw216, gw217, gw215, gw214, rfl, by decide +kernel, by decide +kernel, by decide +kernel⟩
theorem gw218 : ab_gw (.methodLink RX8 252 yX7_clear) := ⟨tm2 (List.mem_of_getElem? (i := 116) (by decide +kernel)), by decide +kernel⟩
theorem gw219 : ab_gw (.code yX7_clear cX7_clear 1 none) := ⟨tm2 (List.mem_of_getElem? (i := 119) (by decide +kernel)), by decide +kernel⟩
theorem gw220 : ab_gw (.instanceMethod yX7_clear) := ⟨tm2 (List.mem_of_getElem? (i := 117) (by decide +kernel)), by decide +kernel⟩
theorem gw221 : ab_gw (.selects RX7 yX7_clear yX7_clear) := ⟨tm2 (List.mem_of_getElem? (i := 118) (by decide +kernel)), by decide +kernel⟩
theorem cl_RX8_252 : ab_cv RX8 252 RX7 yX7_clear cX7_clear 1 none 0 := ⟨gw218, gw220, gw221, gw32, gw219, rfl, by decide +kernel, by decide +kernel, by decide +kernel⟩
theorem gw222 : ab_gw (.methodLink RX8 253 yX3_open) := ⟨tm2 (List.mem_of_getElem? (i := 148) (by decide +kernel)), by decide +kernel⟩
theorem gw223 : ab_gw (.code yX3_open cX3_open 2 none) := ⟨tm2 (List.mem_of_getElem? (i := 151) (by decide +kernel)), by decide +kernel⟩
theorem gw224 : ab_gw (.instanceMethod yX3_open) := ⟨tm2 (List.mem_of_getElem? (i := 149) (by decide +kernel)), by decide +kernel⟩
theorem gw225 : ab_gw (.selects RX3 yX3_open yX3_open) := ⟨tm2 (List.mem_of_getElem? (i := 150) (by decide +kernel)), by decide +kernel⟩
theorem cl_RX8_253 : ab_cv RX8 253 RX3 yX3_open cX3_open 2 none 1 := ⟨gw222, gw224, gw225, gw11, gw223, rfl, by decide +kernel, by decide +kernel, by decide +kernel⟩
theorem gw226 : ab_gw (.methodLink RX8 256 yX3_set) := ⟨tm2 (List.mem_of_getElem? (i := 154) (by decide +kernel)), by decide +kernel⟩
theorem gw227 : ab_gw (.code yX3_set cX3_set 3 none) := ⟨tm2 (List.mem_of_getElem? (i := 157) (by decide +kernel)), by decide +kernel⟩
theorem gw228 : ab_gw (.instanceMethod yX3_set) := ⟨tm2 (List.mem_of_getElem? (i := 155) (by decide +kernel)), by decide +kernel⟩
theorem gw229 : ab_gw (.selects RX3 yX3_set yX3_set) := ⟨tm2 (List.mem_of_getElem? (i := 156) (by decide +kernel)), by decide +kernel⟩
theorem cl_RX8_256 : ab_cv RX8 256 RX3 yX3_set cX3_set 3 none 2 := ⟨gw226, gw228, gw229, gw11, gw227, rfl, by decide +kernel, by decide +kernel, by decide +kernel⟩
theorem gw230 : ab_gw (.methodLink RX8 257 yX5_isOf) := ⟨tm4 (List.mem_of_getElem? (i := 11) (by decide +kernel)), by decide +kernel⟩
theorem gw231 : ab_gw (.code yX5_isOf cX5_isOf 2 (some .boolean)) := ⟨tm4 (List.mem_of_getElem? (i := 14) (by decide +kernel)), by decide +kernel⟩
theorem gw232 : ab_gw (.instanceMethod yX5_isOf) := ⟨tm4 (List.mem_of_getElem? (i := 12) (by decide +kernel)), by decide +kernel⟩
theorem gw233 : ab_gw (.selects RX5 yX5_isOf yX5_isOf) := ⟨tm4 (List.mem_of_getElem? (i := 13) (by decide +kernel)), by decide +kernel⟩
theorem cl_RX8_257 : ab_cv RX8 257 RX5 yX5_isOf cX5_isOf 2 (some .boolean) 1 := ⟨gw230, gw232, gw233, gw187, gw231, rfl, by decide +kernel, by decide +kernel, by decide +kernel⟩
theorem gw234 : ab_gw (.methodLink RX8 260 yX5_has) := ⟨tm4 (List.mem_of_getElem? (i := 15) (by decide +kernel)), by decide +kernel⟩
theorem gw235 : ab_gw (.code yX5_has cX5_has 3 (some .boolean)) := ⟨tm4 (List.mem_of_getElem? (i := 18) (by decide +kernel)), by decide +kernel⟩
theorem gw236 : ab_gw (.instanceMethod yX5_has) := ⟨tm4 (List.mem_of_getElem? (i := 16) (by decide +kernel)), by decide +kernel⟩
theorem gw237 : ab_gw (.selects RX5 yX5_has yX5_has) := ⟨tm4 (List.mem_of_getElem? (i := 17) (by decide +kernel)), by decide +kernel⟩
theorem cl_RX8_260 : ab_cv RX8 260 RX5 yX5_has cX5_has 3 (some .boolean) 2 := ⟨gw234, gw236, gw237, gw187, gw235, rfl, by decide +kernel, by decide +kernel, by decide +kernel⟩
theorem gw238 : ab_gw (.methodLink RX8 263 yX5_at) := ⟨tm4 (List.mem_of_getElem? (i := 32) (by decide +kernel)), by decide +kernel⟩
theorem gw239 : ab_gw (.code yX5_at cX5_at 2 (some .long)) := ⟨tm4 (List.mem_of_getElem? (i := 35) (by decide +kernel)), by decide +kernel⟩
theorem gw240 : ab_gw (.instanceMethod yX5_at) := ⟨tm4 (List.mem_of_getElem? (i := 33) (by decide +kernel)), by decide +kernel⟩
theorem gw241 : ab_gw (.selects RX5 yX5_at yX5_at) := ⟨tm4 (List.mem_of_getElem? (i := 34) (by decide +kernel)), by decide +kernel⟩
theorem cl_RX8_263 : ab_cv RX8 263 RX5 yX5_at cX5_at 2 (some .long) 1 := ⟨gw238, gw240, gw241, gw187, gw239, rfl, by decide +kernel, by decide +kernel, by decide +kernel⟩
theorem gw242 : ab_gw (.methodLink RX8 267 yX0_termsInForm) := ⟨tm3 (List.mem_of_getElem? (i := 102) (by decide +kernel)), by decide +kernel⟩
theorem gw243 : ab_gw (.code yX0_termsInForm cX0_termsInForm 5 (some .int)) := ⟨tm3 (List.mem_of_getElem? (i := 105) (by decide +kernel)), by decide +kernel⟩
theorem gw244 : ab_gw (.instanceMethod yX0_termsInForm) := ⟨tm3 (List.mem_of_getElem? (i := 103) (by decide +kernel)), by decide +kernel⟩
theorem gw245 : ab_gw (.selects RX0 yX0_termsInForm yX0_termsInForm) := ⟨tm3 (List.mem_of_getElem? (i := 104) (by decide +kernel)), by decide +kernel⟩
theorem cl_RX8_267 : ab_cv RX8 267 RX0 yX0_termsInForm cX0_termsInForm 5 (some .int) 2 := ⟨gw242, gw244, gw245, gw96, gw243, rfl, by decide +kernel, by decide +kernel, by decide +kernel⟩
theorem gw246 : ab_gw (.methodLink RX0 44 Lib.Math.min.name) := ⟨tm2 (List.mem_of_getElem? (i := 27) (by decide +kernel)), by decide +kernel⟩
theorem gw247 : ab_gw (.methodLink RX0 50 yX0_prepare) := ⟨tm2 (List.mem_of_getElem? (i := 203) (by decide +kernel)), by decide +kernel⟩
theorem gw248 : ab_gw (.code yX0_prepare cX0_prepare 4 none) := ⟨tm2 (List.mem_of_getElem? (i := 206) (by decide +kernel)), by decide +kernel⟩
theorem gw249 : ab_gw (.instanceMethod yX0_prepare) := ⟨tm2 (List.mem_of_getElem? (i := 205) (by decide +kernel)), by decide +kernel⟩
theorem gw250 : ab_gw (.selects RX0 yX0_prepare yX0_prepare) := ⟨tm0 (List.mem_of_getElem? (i := 11) (by decide +kernel)), by decide +kernel⟩
theorem cl_RX0_50 : ab_cv RX0 50 RX0 yX0_prepare cX0_prepare 4 none 1 := ⟨gw247, gw249, gw250, gw96, gw248, rfl, by decide +kernel, by decide +kernel, by decide +kernel⟩
theorem gw251 : ab_gw (.methodLink RX0 54 yX1_placeOf) := ⟨tm2 (List.mem_of_getElem? (i := 220) (by decide +kernel)), by decide +kernel⟩
theorem gw252 : ab_gw (.code yX1_placeOf cX1_placeOf 3 (some .int)) := ⟨tm2 (List.mem_of_getElem? (i := 98) (by decide +kernel)), by decide +kernel⟩
theorem gw253 : ab_gw (.instanceMethod yX1_placeOf) := ⟨tm2 (List.mem_of_getElem? (i := 96) (by decide +kernel)), by decide +kernel⟩
theorem gw254 : ab_gw (.selects RX1 yX1_placeOf yX1_placeOf) := ⟨tm2 (List.mem_of_getElem? (i := 97) (by decide +kernel)), by decide +kernel⟩
theorem cl_RX0_54 : ab_cv RX0 54 RX1 yX1_placeOf cX1_placeOf 3 (some .int) 2 := ⟨gw251, gw253, gw254, gw6, gw252, rfl, by decide +kernel, by decide +kernel, by decide +kernel⟩
theorem gw255 : ab_gw (.methodLink RX0 59 yX1_words) := ⟨tm2 (List.mem_of_getElem? (i := 207) (by decide +kernel)), by decide +kernel⟩
theorem cl_RX0_59 : ab_cv RX0 59 RX1 yX1_words cX1_words 2 (some .int) 1 := ⟨gw255, gw153, gw154, gw6, gw152, rfl, by decide +kernel, by decide +kernel, by decide +kernel⟩
theorem gw256 : ab_gw (.methodLink RX0 63 yX0_isLeast) := ⟨tm3 (List.mem_of_getElem? (i := 45) (by decide +kernel)), by decide +kernel⟩
theorem gw257 : ab_gw (.code yX0_isLeast cX0_isLeast 3 (some .boolean)) := ⟨tm3 (List.mem_of_getElem? (i := 48) (by decide +kernel)), by decide +kernel⟩
theorem gw258 : ab_gw (.instanceMethod yX0_isLeast) := ⟨tm3 (List.mem_of_getElem? (i := 47) (by decide +kernel)), by decide +kernel⟩
theorem gw259 : ab_gw (.selects RX0 yX0_isLeast yX0_isLeast) := ⟨tm0 (List.mem_of_getElem? (i := 21) (by decide +kernel)), by decide +kernel⟩
theorem cl_RX0_63 : ab_cv RX0 63 RX0 yX0_isLeast cX0_isLeast 3 (some .boolean) 2 := ⟨gw256, gw258, gw259, gw96, gw257, rfl, by decide +kernel, by decide +kernel, by decide +kernel⟩
theorem gw260 : ab_gw (.methodLink RX0 67 yX0_numberAt) := ⟨tm3 (List.mem_of_getElem? (i := 86) (by decide +kernel)), by decide +kernel⟩
theorem gw261 : ab_gw (.code yX0_numberAt cX0_numberAt 4 (some .int)) := ⟨tm3 (List.mem_of_getElem? (i := 89) (by decide +kernel)), by decide +kernel⟩
theorem gw262 : ab_gw (.instanceMethod yX0_numberAt) := ⟨tm3 (List.mem_of_getElem? (i := 88) (by decide +kernel)), by decide +kernel⟩
theorem gw263 : ab_gw (.selects RX0 yX0_numberAt yX0_numberAt) := ⟨tm0 (List.mem_of_getElem? (i := 22) (by decide +kernel)), by decide +kernel⟩
theorem cl_RX0_67 : ab_cv RX0 67 RX0 yX0_numberAt cX0_numberAt 4 (some .int) 3 := ⟨gw260, gw262, gw263, gw96, gw261, rfl, by decide +kernel, by decide +kernel, by decide +kernel⟩
theorem gw264 : ab_gw (.methodLink RX0 71 yX6_add) := ⟨tm3 (List.mem_of_getElem? (i := 198) (by decide +kernel)), by decide +kernel⟩
theorem cl_RX0_71 : ab_cv RX0 71 RX6 yX6_add cX6_add 6 none 3 := ⟨gw264, gw173, gw174, gw16, gw172, rfl, by decide +kernel, by decide +kernel, by decide +kernel⟩
theorem gw265 : ab_gw (.methodLink RX0 77 yX2_open) := ⟨tm3 (List.mem_of_getElem? (i := 122) (by decide +kernel)), by decide +kernel⟩
theorem gw266 : ab_gw (.code yX2_open cX2_open 3 none) := ⟨tm3 (List.mem_of_getElem? (i := 125) (by decide +kernel)), by decide +kernel⟩
theorem gw267 : ab_gw (.initialized RX2) := ⟨tm1 (List.mem_of_getElem? (i := 8) (by decide +kernel)), by decide +kernel⟩
theorem gw268 : ab_gw (.instanceMethod yX2_open) := ⟨tm3 (List.mem_of_getElem? (i := 123) (by decide +kernel)), by decide +kernel⟩
theorem gw269 : ab_gw (.selects RX2 yX2_open yX2_open) := ⟨tm3 (List.mem_of_getElem? (i := 124) (by decide +kernel)), by decide +kernel⟩
theorem cl_RX0_77 : ab_cv RX0 77 RX2 yX2_open cX2_open 3 none 1 := ⟨gw265, gw268, gw269, gw267, gw266, rfl, by decide +kernel, by decide +kernel, by decide +kernel⟩
theorem gw270 : ab_gw (.methodLink RX0 82 yX1_letters) := ⟨tm3 (List.mem_of_getElem? (i := 130) (by decide +kernel)), by decide +kernel⟩
theorem cl_RX0_82 : ab_cv RX0 82 RX1 yX1_letters cX1_letters 1 (some .int) 0 := ⟨gw270, gw76, gw77, gw6, gw75, rfl, by decide +kernel, by decide +kernel, by decide +kernel⟩
theorem gw271 : ab_gw (.methodLink RX0 86 yX2_rank) := ⟨tm3 (List.mem_of_getElem? (i := 131) (by decide +kernel)), by decide +kernel⟩
theorem gw272 : ab_gw (.code yX2_rank cX2_rank 1 (some .int)) := ⟨tm3 (List.mem_of_getElem? (i := 134) (by decide +kernel)), by decide +kernel⟩
theorem gw273 : ab_gw (.instanceMethod yX2_rank) := ⟨tm3 (List.mem_of_getElem? (i := 132) (by decide +kernel)), by decide +kernel⟩
theorem gw274 : ab_gw (.selects RX2 yX2_rank yX2_rank) := ⟨tm3 (List.mem_of_getElem? (i := 133) (by decide +kernel)), by decide +kernel⟩
theorem cl_RX0_86 : ab_cv RX0 86 RX2 yX2_rank cX2_rank 1 (some .int) 0 := ⟨gw271, gw273, gw274, gw267, gw272, rfl, by decide +kernel, by decide +kernel, by decide +kernel⟩
theorem gw275 : ab_gw (.methodLink RX0 89 yX0_addEquation) := ⟨tm3 (List.mem_of_getElem? (i := 135) (by decide +kernel)), by decide +kernel⟩
theorem gw276 : ab_gw (.code yX0_addEquation cX0_addEquation 9 none) := ⟨tm3 (List.mem_of_getElem? (i := 138) (by decide +kernel)), by decide +kernel⟩
theorem gw277 : ab_gw (.instanceMethod yX0_addEquation) := ⟨tm3 (List.mem_of_getElem? (i := 137) (by decide +kernel)), by decide +kernel⟩
theorem gw278 : ab_gw (.selects RX0 yX0_addEquation yX0_addEquation) := ⟨tm0 (List.mem_of_getElem? (i := 24) (by decide +kernel)), by decide +kernel⟩
theorem cl_RX0_89 : ab_cv RX0 89 RX0 yX0_addEquation cX0_addEquation 9 none 4 := ⟨gw275, gw277, gw278, gw96, gw276, rfl, by decide +kernel, by decide +kernel, by decide +kernel⟩
theorem gw279 : ab_gw (.methodLink RX0 93 yX1_ahead) := ⟨tm2 (List.mem_of_getElem? (i := 238) (by decide +kernel)), by decide +kernel⟩
theorem cl_RX0_93 : ab_cv RX0 93 RX1 yX1_ahead cX1_ahead 4 (some .int) 3 := ⟨gw279, gw165, gw166, gw6, gw164, rfl, by decide +kernel, by decide +kernel, by decide +kernel⟩
theorem gw280 : ab_gw (.methodLink RX0 96 yX1_behind) := ⟨tm3 (List.mem_of_getElem? (i := 16) (by decide +kernel)), by decide +kernel⟩
theorem cl_RX0_96 : ab_cv RX0 96 RX1 yX1_behind cX1_behind 3 (some .int) 2 := ⟨gw280, gw169, gw170, gw6, gw168, rfl, by decide +kernel, by decide +kernel, by decide +kernel⟩
theorem gw281 : ab_gw (.methodLink RX0 99 yX2_set) := ⟨tm3 (List.mem_of_getElem? (i := 139) (by decide +kernel)), by decide +kernel⟩
theorem gw282 : ab_gw (.code yX2_set cX2_set 3 none) := ⟨tm3 (List.mem_of_getElem? (i := 142) (by decide +kernel)), by decide +kernel⟩
theorem gw283 : ab_gw (.instanceMethod yX2_set) := ⟨tm3 (List.mem_of_getElem? (i := 140) (by decide +kernel)), by decide +kernel⟩
theorem gw284 : ab_gw (.selects RX2 yX2_set yX2_set) := ⟨tm3 (List.mem_of_getElem? (i := 141) (by decide +kernel)), by decide +kernel⟩
theorem cl_RX0_99 : ab_cv RX0 99 RX2 yX2_set cX2_set 3 none 2 := ⟨gw281, gw283, gw284, gw267, gw282, rfl, by decide +kernel, by decide +kernel, by decide +kernel⟩
theorem gw285 : ab_gw (.methodLink RX0 103 yX2_take) := ⟨tm3 (List.mem_of_getElem? (i := 144) (by decide +kernel)), by decide +kernel⟩
theorem gw286 : ab_gw (.code yX2_take cX2_take 2 none) := ⟨tm3 (List.mem_of_getElem? (i := 147) (by decide +kernel)), by decide +kernel⟩
theorem gw287 : ab_gw (.instanceMethod yX2_take) := ⟨tm3 (List.mem_of_getElem? (i := 145) (by decide +kernel)), by decide +kernel⟩
theorem gw288 : ab_gw (.selects RX2 yX2_take yX2_take) := ⟨tm3 (List.mem_of_getElem? (i := 146) (by decide +kernel)), by decide +kernel⟩
theorem cl_RX0_103 : ab_cv RX0 103 RX2 yX2_take cX2_take 2 none 0 := ⟨gw285, gw287, gw288, gw267, gw286, rfl, by decide +kernel, by decide +kernel, by decide +kernel⟩
theorem gw289 : ab_gw (.methodLink RX0 106 yX1_formAt) := ⟨tm2 (List.mem_of_getElem? (i := 234) (by decide +kernel)), by decide +kernel⟩
theorem gw290 : ab_gw (.code yX1_formAt cX1_formAt 3 (some .int)) := ⟨tm2 (List.mem_of_getElem? (i := 237) (by decide +kernel)), by decide +kernel⟩
theorem gw291 : ab_gw (.instanceMethod yX1_formAt) := ⟨tm2 (List.mem_of_getElem? (i := 235) (by decide +kernel)), by decide +kernel⟩
theorem gw292 : ab_gw (.selects RX1 yX1_formAt yX1_formAt) := ⟨tm2 (List.mem_of_getElem? (i := 236) (by decide +kernel)), by decide +kernel⟩
theorem cl_RX0_106 : ab_cv RX0 106 RX1 yX1_formAt cX1_formAt 3 (some .int) 2 := ⟨gw289, gw291, gw292, gw6, gw290, rfl, by decide +kernel, by decide +kernel, by decide +kernel⟩
theorem gw293 : ab_gw (.methodLink RX0 109 yX1_withoutFirst) := ⟨tm2 (List.mem_of_getElem? (i := 212) (by decide +kernel)), by decide +kernel⟩
theorem gw294 : ab_gw (.code yX1_withoutFirst cX1_withoutFirst 3 (some .int)) := ⟨tm2 (List.mem_of_getElem? (i := 215) (by decide +kernel)), by decide +kernel⟩
theorem gw295 : ab_gw (.instanceMethod yX1_withoutFirst) := ⟨tm2 (List.mem_of_getElem? (i := 213) (by decide +kernel)), by decide +kernel⟩
theorem gw296 : ab_gw (.selects RX1 yX1_withoutFirst yX1_withoutFirst) := ⟨tm2 (List.mem_of_getElem? (i := 214) (by decide +kernel)), by decide +kernel⟩
theorem cl_RX0_109 : ab_cv RX0 109 RX1 yX1_withoutFirst cX1_withoutFirst 3 (some .int) 2 := ⟨gw293, gw295, gw296, gw6, gw294, rfl, by decide +kernel, by decide +kernel, by decide +kernel⟩
theorem gw297 : ab_gw (.methodLink RX0 112 yX1_withoutLast) := ⟨tm2 (List.mem_of_getElem? (i := 221) (by decide +kernel)), by decide +kernel⟩
theorem gw298 : ab_gw (.code yX1_withoutLast cX1_withoutLast 2 (some .int)) := ⟨tm2 (List.mem_of_getElem? (i := 224) (by decide +kernel)), by decide +kernel⟩
theorem gw299 : ab_gw (.instanceMethod yX1_withoutLast) := ⟨tm2 (List.mem_of_getElem? (i := 222) (by decide +kernel)), by decide +kernel⟩
theorem gw300 : ab_gw (.selects RX1 yX1_withoutLast yX1_withoutLast) := ⟨tm2 (List.mem_of_getElem? (i := 223) (by decide +kernel)), by decide +kernel⟩
theorem cl_RX0_112 : ab_cv RX0 112 RX1 yX1_withoutLast cX1_withoutLast 2 (some .int) 1 := ⟨gw297, gw299, gw300, gw6, gw298, rfl, by decide +kernel, by decide +kernel, by decide +kernel⟩
theorem gw301 : ab_gw (.methodLink RX0 115 yX0_followShorter) := ⟨tm2 (List.mem_of_getElem? (i := 208) (by decide +kernel)), by decide +kernel⟩
theorem gw302 : ab_gw (.code yX0_followShorter cX0_followShorter 5 none) := ⟨tm2 (List.mem_of_getElem? (i := 211) (by decide +kernel)), by decide +kernel⟩
theorem gw303 : ab_gw (.instanceMethod yX0_followShorter) := ⟨tm2 (List.mem_of_getElem? (i := 210) (by decide +kernel)), by decide +kernel⟩
theorem gw304 : ab_gw (.selects RX0 yX0_followShorter yX0_followShorter) := ⟨tm0 (List.mem_of_getElem? (i := 12) (by decide +kernel)), by decide +kernel⟩
theorem cl_RX0_115 : ab_cv RX0 115 RX0 yX0_followShorter cX0_followShorter 5 none 2 := ⟨gw301, gw303, gw304, gw96, gw302, rfl, by decide +kernel, by decide +kernel, by decide +kernel⟩
theorem gw305 : ab_gw (.methodLink RX0 118 yX3_size) := ⟨tm3 (List.mem_of_getElem? (i := 34) (by decide +kernel)), by decide +kernel⟩
theorem cl_RX0_118 : ab_cv RX0 118 RX3 yX3_size cX3_size 1 (some .int) 0 := ⟨gw305, gw52, gw53, gw11, gw51, rfl, by decide +kernel, by decide +kernel, by decide +kernel⟩
theorem gw306 : ab_gw (.methodLink RX0 123 yX0_takeLaw) := ⟨tm3 (List.mem_of_getElem? (i := 35) (by decide +kernel)), by decide +kernel⟩
theorem gw307 : ab_gw (.code yX0_takeLaw cX0_takeLaw 5 none) := ⟨tm3 (List.mem_of_getElem? (i := 38) (by decide +kernel)), by decide +kernel⟩
theorem gw308 : ab_gw (.instanceMethod yX0_takeLaw) := ⟨tm3 (List.mem_of_getElem? (i := 37) (by decide +kernel)), by decide +kernel⟩
theorem gw309 : ab_gw (.selects RX0 yX0_takeLaw yX0_takeLaw) := ⟨tm0 (List.mem_of_getElem? (i := 19) (by decide +kernel)), by decide +kernel⟩
theorem cl_RX0_123 : ab_cv RX0 123 RX0 yX0_takeLaw cX0_takeLaw 5 none 2 := ⟨gw306, gw308, gw309, gw96, gw307, rfl, by decide +kernel, by decide +kernel, by decide +kernel⟩
theorem gw310 : ab_gw (.methodLink RX0 126 yX0_settle) := ⟨tm3 (List.mem_of_getElem? (i := 41) (by decide +kernel)), by decide +kernel⟩
theorem gw311 : ab_gw (.code yX0_settle cX0_settle 3 none) := ⟨tm3 (List.mem_of_getElem? (i := 44) (by decide +kernel)), by decide +kernel⟩
theorem gw312 : ab_gw (.instanceMethod yX0_settle) := ⟨tm3 (List.mem_of_getElem? (i := 43) (by decide +kernel)), by decide +kernel⟩
theorem gw313 : ab_gw (.selects RX0 yX0_settle yX0_settle) := ⟨tm0 (List.mem_of_getElem? (i := 20) (by decide +kernel)), by decide +kernel⟩
theorem cl_RX0_126 : ab_cv RX0 126 RX0 yX0_settle cX0_settle 3 none 1 := ⟨gw310, gw312, gw313, gw96, gw311, rfl, by decide +kernel, by decide +kernel, by decide +kernel⟩
theorem gw314 : ab_gw (.methodLink RX0 129 yX0_clearForm) := ⟨tm2 (List.mem_of_getElem? (i := 225) (by decide +kernel)), by decide +kernel⟩
theorem gw315 : ab_gw (.code yX0_clearForm cX0_clearForm 3 none) := ⟨tm2 (List.mem_of_getElem? (i := 228) (by decide +kernel)), by decide +kernel⟩
theorem gw316 : ab_gw (.instanceMethod yX0_clearForm) := ⟨tm2 (List.mem_of_getElem? (i := 227) (by decide +kernel)), by decide +kernel⟩
theorem gw317 : ab_gw (.selects RX0 yX0_clearForm yX0_clearForm) := ⟨tm0 (List.mem_of_getElem? (i := 13) (by decide +kernel)), by decide +kernel⟩
theorem cl_RX0_129 : ab_cv RX0 129 RX0 yX0_clearForm cX0_clearForm 3 none 1 := ⟨gw314, gw316, gw317, gw96, gw315, rfl, by decide +kernel, by decide +kernel, by decide +kernel⟩
theorem gw318 : ab_gw (.methodLink RX0 132 yX0_addTailForm) := ⟨tm2 (List.mem_of_getElem? (i := 229) (by decide +kernel)), by decide +kernel⟩
theorem gw319 : ab_gw (.code yX0_addTailForm cX0_addTailForm 7 none) := ⟨tm2 (List.mem_of_getElem? (i := 232) (by decide +kernel)), by decide +kernel⟩
theorem gw320 : ab_gw (.instanceMethod yX0_addTailForm) := ⟨tm2 (List.mem_of_getElem? (i := 231) (by decide +kernel)), by decide +kernel⟩
theorem gw321 : ab_gw (.selects RX0 yX0_addTailForm yX0_addTailForm) := ⟨tm0 (List.mem_of_getElem? (i := 14) (by decide +kernel)), by decide +kernel⟩
theorem cl_RX0_132 : ab_cv RX0 132 RX0 yX0_addTailForm cX0_addTailForm 7 none 2 := ⟨gw318, gw320, gw321, gw96, gw319, rfl, by decide +kernel, by decide +kernel, by decide +kernel⟩
theorem gw322 : ab_gw (.methodLink RX0 135 yX0_addHeadForm) := ⟨tm3 (List.mem_of_getElem? (i := 7) (by decide +kernel)), by decide +kernel⟩
theorem gw323 : ab_gw (.code yX0_addHeadForm cX0_addHeadForm 8 none) := ⟨tm3 (List.mem_of_getElem? (i := 10) (by decide +kernel)), by decide +kernel⟩
theorem gw324 : ab_gw (.instanceMethod yX0_addHeadForm) := ⟨tm3 (List.mem_of_getElem? (i := 9) (by decide +kernel)), by decide +kernel⟩
theorem gw325 : ab_gw (.selects RX0 yX0_addHeadForm yX0_addHeadForm) := ⟨tm0 (List.mem_of_getElem? (i := 16) (by decide +kernel)), by decide +kernel⟩
theorem cl_RX0_135 : ab_cv RX0 135 RX0 yX0_addHeadForm cX0_addHeadForm 8 none 3 := ⟨gw322, gw324, gw325, gw96, gw323, rfl, by decide +kernel, by decide +kernel, by decide +kernel⟩
theorem gw326 : ab_gw (.methodLink RX0 139 arraycopyName) := ⟨tm3 (List.mem_of_getElem? (i := 17) (by decide +kernel)), by decide +kernel⟩
theorem gw327 : ab_gw (.methodLink RX0 145 yX1_prime) := ⟨tm3 (List.mem_of_getElem? (i := 6) (by decide +kernel)), by decide +kernel⟩
theorem cl_RX0_145 : ab_cv RX0 145 RX1 yX1_prime cX1_prime 1 (some .int) 0 := ⟨gw327, gw80, gw81, gw6, gw79, rfl, by decide +kernel, by decide +kernel, by decide +kernel⟩
theorem gw328 : ab_gw (.methodLink RX0 148 yX0_takeNought) := ⟨tm3 (List.mem_of_getElem? (i := 20) (by decide +kernel)), by decide +kernel⟩
theorem gw329 : ab_gw (.code yX0_takeNought cX0_takeNought 6 none) := ⟨tm3 (List.mem_of_getElem? (i := 23) (by decide +kernel)), by decide +kernel⟩
theorem gw330 : ab_gw (.instanceMethod yX0_takeNought) := ⟨tm3 (List.mem_of_getElem? (i := 22) (by decide +kernel)), by decide +kernel⟩
theorem gw331 : ab_gw (.selects RX0 yX0_takeNought yX0_takeNought) := ⟨tm0 (List.mem_of_getElem? (i := 17) (by decide +kernel)), by decide +kernel⟩
theorem cl_RX0_148 : ab_cv RX0 148 RX0 yX0_takeNought cX0_takeNought 6 none 2 := ⟨gw328, gw330, gw331, gw96, gw329, rfl, by decide +kernel, by decide +kernel, by decide +kernel⟩
theorem gw332 : ab_gw (.methodLink RX0 151 yX1_firstLetter) := ⟨tm2 (List.mem_of_getElem? (i := 233) (by decide +kernel)), by decide +kernel⟩
theorem gw333 : ab_gw (.code yX1_firstLetter cX1_firstLetter 4 (some .int)) := ⟨tm2 (List.mem_of_getElem? (i := 219) (by decide +kernel)), by decide +kernel⟩
theorem gw334 : ab_gw (.instanceMethod yX1_firstLetter) := ⟨tm2 (List.mem_of_getElem? (i := 217) (by decide +kernel)), by decide +kernel⟩
theorem gw335 : ab_gw (.selects RX1 yX1_firstLetter yX1_firstLetter) := ⟨tm2 (List.mem_of_getElem? (i := 218) (by decide +kernel)), by decide +kernel⟩
theorem cl_RX0_151 : ab_cv RX0 151 RX1 yX1_firstLetter cX1_firstLetter 4 (some .int) 2 := ⟨gw332, gw334, gw335, gw6, gw333, rfl, by decide +kernel, by decide +kernel, by decide +kernel⟩
theorem gw336 : ab_gw (.methodLink RX0 154 yX0_addRow) := ⟨tm3 (List.mem_of_getElem? (i := 2) (by decide +kernel)), by decide +kernel⟩
theorem gw337 : ab_gw (.code yX0_addRow cX0_addRow 8 none) := ⟨tm3 (List.mem_of_getElem? (i := 5) (by decide +kernel)), by decide +kernel⟩
theorem gw338 : ab_gw (.instanceMethod yX0_addRow) := ⟨tm3 (List.mem_of_getElem? (i := 4) (by decide +kernel)), by decide +kernel⟩
theorem gw339 : ab_gw (.selects RX0 yX0_addRow yX0_addRow) := ⟨tm0 (List.mem_of_getElem? (i := 15) (by decide +kernel)), by decide +kernel⟩
theorem cl_RX0_154 : ab_cv RX0 154 RX0 yX0_addRow cX0_addRow 8 none 3 := ⟨gw336, gw338, gw339, gw96, gw337, rfl, by decide +kernel, by decide +kernel, by decide +kernel⟩
theorem gw340 : ab_gw (.methodLink RX0 157 yX1_lastLetter) := ⟨tm3 (List.mem_of_getElem? (i := 11) (by decide +kernel)), by decide +kernel⟩
theorem gw341 : ab_gw (.code yX1_lastLetter cX1_lastLetter 2 (some .int)) := ⟨tm3 (List.mem_of_getElem? (i := 14) (by decide +kernel)), by decide +kernel⟩
theorem gw342 : ab_gw (.instanceMethod yX1_lastLetter) := ⟨tm3 (List.mem_of_getElem? (i := 12) (by decide +kernel)), by decide +kernel⟩
theorem gw343 : ab_gw (.selects RX1 yX1_lastLetter yX1_lastLetter) := ⟨tm3 (List.mem_of_getElem? (i := 13) (by decide +kernel)), by decide +kernel⟩
theorem cl_RX0_157 : ab_cv RX0 157 RX1 yX1_lastLetter cX1_lastLetter 2 (some .int) 1 := ⟨gw340, gw342, gw343, gw6, gw341, rfl, by decide +kernel, by decide +kernel, by decide +kernel⟩
theorem gw344 : ab_gw (.methodLink RX0 160 yX3_lengthOf) := ⟨tm3 (List.mem_of_getElem? (i := 39) (by decide +kernel)), by decide +kernel⟩
theorem cl_RX0_160 : ab_cv RX0 160 RX3 yX3_lengthOf cX3_lengthOf 2 (some .int) 1 := ⟨gw344, gw60, gw61, gw11, gw59, rfl, by decide +kernel, by decide +kernel, by decide +kernel⟩
theorem gw345 : ab_gw (.methodLink RX0 163 yX3_numberOf) := ⟨tm3 (List.mem_of_getElem? (i := 40) (by decide +kernel)), by decide +kernel⟩
theorem cl_RX0_163 : ab_cv RX0 163 RX3 yX3_numberOf cX3_numberOf 3 (some .int) 2 := ⟨gw345, gw72, gw73, gw11, gw71, rfl, by decide +kernel, by decide +kernel, by decide +kernel⟩
theorem gw346 : ab_gw (.methodLink RX0 166 yX1_inverse) := ⟨tm3 (List.mem_of_getElem? (i := 24) (by decide +kernel)), by decide +kernel⟩
theorem gw347 : ab_gw (.code yX1_inverse cX1_inverse 3 (some .int)) := ⟨tm3 (List.mem_of_getElem? (i := 27) (by decide +kernel)), by decide +kernel⟩
theorem gw348 : ab_gw (.instanceMethod yX1_inverse) := ⟨tm3 (List.mem_of_getElem? (i := 25) (by decide +kernel)), by decide +kernel⟩
theorem gw349 : ab_gw (.selects RX1 yX1_inverse yX1_inverse) := ⟨tm3 (List.mem_of_getElem? (i := 26) (by decide +kernel)), by decide +kernel⟩
theorem cl_RX0_166 : ab_cv RX0 166 RX1 yX1_inverse cX1_inverse 3 (some .int) 1 := ⟨gw346, gw348, gw349, gw6, gw347, rfl, by decide +kernel, by decide +kernel, by decide +kernel⟩
theorem gw350 : ab_gw (.methodLink RX0 169 yX1_rest) := ⟨tm3 (List.mem_of_getElem? (i := 29) (by decide +kernel)), by decide +kernel⟩
theorem gw351 : ab_gw (.code yX1_rest cX1_rest 4 (some .int)) := ⟨tm2 (List.mem_of_getElem? (i := 102) (by decide +kernel)), by decide +kernel⟩
theorem gw352 : ab_gw (.instanceMethod yX1_rest) := ⟨tm2 (List.mem_of_getElem? (i := 100) (by decide +kernel)), by decide +kernel⟩
theorem gw353 : ab_gw (.selects RX1 yX1_rest yX1_rest) := ⟨tm2 (List.mem_of_getElem? (i := 101) (by decide +kernel)), by decide +kernel⟩
theorem cl_RX0_169 : ab_cv RX0 169 RX1 yX1_rest cX1_rest 4 (some .int) 1 := ⟨gw350, gw352, gw353, gw6, gw351, rfl, by decide +kernel, by decide +kernel, by decide +kernel⟩
theorem gw354 : ab_gw (.methodLink RX0 173 yX0_replaceLead) := ⟨tm3 (List.mem_of_getElem? (i := 30) (by decide +kernel)), by decide +kernel⟩
theorem gw355 : ab_gw (.code yX0_replaceLead cX0_replaceLead 7 none) := ⟨tm3 (List.mem_of_getElem? (i := 33) (by decide +kernel)), by decide +kernel⟩
theorem gw356 : ab_gw (.instanceMethod yX0_replaceLead) := ⟨tm3 (List.mem_of_getElem? (i := 32) (by decide +kernel)), by decide +kernel⟩
theorem gw357 : ab_gw (.selects RX0 yX0_replaceLead yX0_replaceLead) := ⟨tm0 (List.mem_of_getElem? (i := 18) (by decide +kernel)), by decide +kernel⟩
theorem cl_RX0_173 : ab_cv RX0 173 RX0 yX0_replaceLead cX0_replaceLead 7 none 3 := ⟨gw354, gw356, gw357, gw96, gw355, rfl, by decide +kernel, by decide +kernel, by decide +kernel⟩
theorem gw358 : ab_gw (.methodLink RX1 21 yX1_choose) := ⟨tm1 (List.mem_of_getElem? (i := 28) (by decide +kernel)), by decide +kernel⟩
theorem cl_RX1_21 : ab_cv RX1 21 RX1 yX1_choose cX1_choose 7 none 2 := ⟨gw358, gw7, gw8, gw6, gw5, rfl, by decide +kernel, by decide +kernel, by decide +kernel⟩
theorem gw359 : ab_gw (.methodLink RX1 38 yX1_hasLength) := ⟨tm2 (List.mem_of_getElem? (i := 178) (by decide +kernel)), by decide +kernel⟩
theorem cl_RX1_38 : ab_cv RX1 38 RX1 yX1_hasLength cX1_hasLength 2 (some .boolean) 1 := ⟨gw359, gw92, gw93, gw6, gw91, rfl, by decide +kernel, by decide +kernel, by decide +kernel⟩
theorem gw360 : ab_gw (.methodLink RX1 42 yX1_firstLetter) := ⟨tm2 (List.mem_of_getElem? (i := 216) (by decide +kernel)), by decide +kernel⟩
theorem cl_RX1_42 : ab_cv RX1 42 RX1 yX1_firstLetter cX1_firstLetter 4 (some .int) 2 := ⟨gw360, gw334, gw335, gw6, gw333, rfl, by decide +kernel, by decide +kernel, by decide +kernel⟩
theorem gw361 : ab_gw (.methodLink RX1 46 yX1_withoutLast) := ⟨tm3 (List.mem_of_getElem? (i := 15) (by decide +kernel)), by decide +kernel⟩
theorem cl_RX1_46 : ab_cv RX1 46 RX1 yX1_withoutLast cX1_withoutLast 2 (some .int) 1 := ⟨gw361, gw299, gw300, gw6, gw298, rfl, by decide +kernel, by decide +kernel, by decide +kernel⟩
theorem gw362 : ab_gw (.methodLink RX1 50 yX1_rest) := ⟨tm3 (List.mem_of_getElem? (i := 28) (by decide +kernel)), by decide +kernel⟩
theorem cl_RX1_50 : ab_cv RX1 50 RX1 yX1_rest cX1_rest 4 (some .int) 1 := ⟨gw362, gw352, gw353, gw6, gw351, rfl, by decide +kernel, by decide +kernel, by decide +kernel⟩
theorem gw363 : ab_gw (.methodLink RX2 26 Lib.Math.min.name) := ⟨tm3 (List.mem_of_getElem? (i := 126) (by decide +kernel)), by decide +kernel⟩
theorem gw364 : ab_gw (.methodLink RX2 32 Lib.Math.max.name) := ⟨tm3 (List.mem_of_getElem? (i := 127) (by decide +kernel)), by decide +kernel⟩
theorem gw365 : ab_gw (.methodLink RX2 42 yX1_rest) := ⟨tm3 (List.mem_of_getElem? (i := 143) (by decide +kernel)), by decide +kernel⟩
theorem cl_RX2_42 : ab_cv RX2 42 RX1 yX1_rest cX1_rest 4 (some .int) 1 := ⟨gw365, gw352, gw353, gw6, gw351, rfl, by decide +kernel, by decide +kernel, by decide +kernel⟩
theorem gw366 : ab_gw (.methodLink RX2 48 yX2_keep) := ⟨tm3 (List.mem_of_getElem? (i := 148) (by decide +kernel)), by decide +kernel⟩
theorem gw367 : ab_gw (.code yX2_keep cX2_keep 4 none) := ⟨tm3 (List.mem_of_getElem? (i := 151) (by decide +kernel)), by decide +kernel⟩
theorem gw368 : ab_gw (.instanceMethod yX2_keep) := ⟨tm3 (List.mem_of_getElem? (i := 150) (by decide +kernel)), by decide +kernel⟩
theorem gw369 : ab_gw (.selects RX2 yX2_keep yX2_keep) := ⟨tm0 (List.mem_of_getElem? (i := 25) (by decide +kernel)), by decide +kernel⟩
theorem cl_RX2_48 : ab_cv RX2 48 RX2 yX2_keep cX2_keep 4 none 1 := ⟨gw366, gw368, gw369, gw267, gw367, rfl, by decide +kernel, by decide +kernel, by decide +kernel⟩
theorem gw370 : ab_gw (.methodLink RX2 52 yX2_subtractRow) := ⟨tm3 (List.mem_of_getElem? (i := 153) (by decide +kernel)), by decide +kernel⟩
theorem gw371 : ab_gw (.code yX2_subtractRow cX2_subtractRow 4 none) := ⟨tm3 (List.mem_of_getElem? (i := 156) (by decide +kernel)), by decide +kernel⟩
theorem gw372 : ab_gw (.instanceMethod yX2_subtractRow) := ⟨tm3 (List.mem_of_getElem? (i := 155) (by decide +kernel)), by decide +kernel⟩
theorem gw373 : ab_gw (.selects RX2 yX2_subtractRow yX2_subtractRow) := ⟨tm0 (List.mem_of_getElem? (i := 26) (by decide +kernel)), by decide +kernel⟩
theorem cl_RX2_52 : ab_cv RX2 52 RX2 yX2_subtractRow cX2_subtractRow 4 none 1 := ⟨gw370, gw372, gw373, gw267, gw371, rfl, by decide +kernel, by decide +kernel, by decide +kernel⟩
theorem gw374 : ab_gw (.methodLink RX2 55 yX1_inverse) := ⟨tm3 (List.mem_of_getElem? (i := 152) (by decide +kernel)), by decide +kernel⟩
theorem cl_RX2_55 : ab_cv RX2 55 RX1 yX1_inverse cX1_inverse 3 (some .int) 1 := ⟨gw374, gw348, gw349, gw6, gw347, rfl, by decide +kernel, by decide +kernel, by decide +kernel⟩
theorem gw375 : ab_gw (.methodLink RX4 15 yX6_clear) := ⟨tm2 (List.mem_of_getElem? (i := 61) (by decide +kernel)), by decide +kernel⟩
theorem cl_RX4_15 : ab_cv RX4 15 RX6 yX6_clear cX6_clear 1 none 0 := ⟨gw375, gw17, gw18, gw16, gw15, rfl, by decide +kernel, by decide +kernel, by decide +kernel⟩
theorem gw376 : ab_gw (.methodLink RX4 20 yX4_openTerm) := ⟨tm2 (List.mem_of_getElem? (i := 62) (by decide +kernel)), by decide +kernel⟩
theorem gw377 : ab_gw (.code yX4_openTerm cX4_openTerm 3 none) := ⟨tm2 (List.mem_of_getElem? (i := 65) (by decide +kernel)), by decide +kernel⟩
theorem gw378 : ab_gw (.instanceMethod yX4_openTerm) := ⟨tm2 (List.mem_of_getElem? (i := 64) (by decide +kernel)), by decide +kernel⟩
theorem gw379 : ab_gw (.selects RX4 yX4_openTerm yX4_openTerm) := ⟨tm0 (List.mem_of_getElem? (i := 2) (by decide +kernel)), by decide +kernel⟩
theorem cl_RX4_20 : ab_cv RX4 20 RX4 yX4_openTerm cX4_openTerm 3 none 2 := ⟨gw376, gw378, gw379, gw215, gw377, rfl, by decide +kernel, by decide +kernel, by decide +kernel⟩
theorem gw380 : ab_gw (.methodLink RX4 24 yX7_size) := ⟨tm2 (List.mem_of_getElem? (i := 66) (by decide +kernel)), by decide +kernel⟩
theorem cl_RX4_24 : ab_cv RX4 24 RX7 yX7_size cX7_size 1 (some .int) 0 := ⟨gw380, gw33, gw34, gw32, gw31, rfl, by decide +kernel, by decide +kernel, by decide +kernel⟩
theorem gw381 : ab_gw (.methodLink RX4 30 yX7_at) := ⟨tm2 (List.mem_of_getElem? (i := 67) (by decide +kernel)), by decide +kernel⟩
theorem gw382 : ab_gw (.code yX7_at cX7_at 2 (some .int)) := ⟨tm2 (List.mem_of_getElem? (i := 70) (by decide +kernel)), by decide +kernel⟩
theorem gw383 : ab_gw (.instanceMethod yX7_at) := ⟨tm2 (List.mem_of_getElem? (i := 68) (by decide +kernel)), by decide +kernel⟩
theorem gw384 : ab_gw (.selects RX7 yX7_at yX7_at) := ⟨tm2 (List.mem_of_getElem? (i := 69) (by decide +kernel)), by decide +kernel⟩
theorem cl_RX4_30 : ab_cv RX4 30 RX7 yX7_at cX7_at 2 (some .int) 1 := ⟨gw381, gw383, gw384, gw32, gw382, rfl, by decide +kernel, by decide +kernel, by decide +kernel⟩
theorem gw385 : ab_gw (.methodLink RX4 34 yX4_takeByte) := ⟨tm2 (List.mem_of_getElem? (i := 71) (by decide +kernel)), by decide +kernel⟩
theorem gw386 : ab_gw (.code yX4_takeByte cX4_takeByte 4 (some .int)) := ⟨tm2 (List.mem_of_getElem? (i := 74) (by decide +kernel)), by decide +kernel⟩
theorem gw387 : ab_gw (.instanceMethod yX4_takeByte) := ⟨tm2 (List.mem_of_getElem? (i := 73) (by decide +kernel)), by decide +kernel⟩
theorem gw388 : ab_gw (.selects RX4 yX4_takeByte yX4_takeByte) := ⟨tm0 (List.mem_of_getElem? (i := 3) (by decide +kernel)), by decide +kernel⟩
theorem cl_RX4_34 : ab_cv RX4 34 RX4 yX4_takeByte cX4_takeByte 4 (some .int) 3 := ⟨gw385, gw387, gw388, gw215, gw386, rfl, by decide +kernel, by decide +kernel, by decide +kernel⟩
theorem gw389 : ab_gw (.methodLink RX4 38 yX4_needsTerm) := ⟨tm2 (List.mem_of_getElem? (i := 79) (by decide +kernel)), by decide +kernel⟩
theorem gw390 : ab_gw (.code yX4_needsTerm cX4_needsTerm 1 (some .boolean)) := ⟨tm2 (List.mem_of_getElem? (i := 82) (by decide +kernel)), by decide +kernel⟩
theorem gw391 : ab_gw (.instanceMethod yX4_needsTerm) := ⟨tm2 (List.mem_of_getElem? (i := 81) (by decide +kernel)), by decide +kernel⟩
theorem gw392 : ab_gw (.selects RX4 yX4_needsTerm yX4_needsTerm) := ⟨tm0 (List.mem_of_getElem? (i := 5) (by decide +kernel)), by decide +kernel⟩
theorem cl_RX4_38 : ab_cv RX4 38 RX4 yX4_needsTerm cX4_needsTerm 1 (some .boolean) 0 := ⟨gw389, gw391, gw392, gw215, gw390, rfl, by decide +kernel, by decide +kernel, by decide +kernel⟩
theorem gw393 : ab_gw (.methodLink RX4 42 yX4_closeTerm) := ⟨tm2 (List.mem_of_getElem? (i := 87) (by decide +kernel)), by decide +kernel⟩
theorem gw394 : ab_gw (.code yX4_closeTerm cX4_closeTerm 2 none) := ⟨tm2 (List.mem_of_getElem? (i := 90) (by decide +kernel)), by decide +kernel⟩
theorem gw395 : ab_gw (.instanceMethod yX4_closeTerm) := ⟨tm2 (List.mem_of_getElem? (i := 89) (by decide +kernel)), by decide +kernel⟩
theorem gw396 : ab_gw (.selects RX4 yX4_closeTerm yX4_closeTerm) := ⟨tm0 (List.mem_of_getElem? (i := 7) (by decide +kernel)), by decide +kernel⟩
theorem cl_RX4_42 : ab_cv RX4 42 RX4 yX4_closeTerm cX4_closeTerm 2 none 1 := ⟨gw393, gw395, gw396, gw215, gw394, rfl, by decide +kernel, by decide +kernel, by decide +kernel⟩
theorem gw397 : ab_gw (.methodLink RX4 62 yX6_add) := ⟨tm2 (List.mem_of_getElem? (i := 91) (by decide +kernel)), by decide +kernel⟩
theorem cl_RX4_62 : ab_cv RX4 62 RX6 yX6_add cX6_add 6 none 3 := ⟨gw397, gw173, gw174, gw16, gw172, rfl, by decide +kernel, by decide +kernel, by decide +kernel⟩
theorem gw398 : ab_gw (.methodLink RX4 66 yX4_takeDigit) := ⟨tm2 (List.mem_of_getElem? (i := 75) (by decide +kernel)), by decide +kernel⟩
theorem gw399 : ab_gw (.code yX4_takeDigit cX4_takeDigit 3 (some .int)) := ⟨tm2 (List.mem_of_getElem? (i := 78) (by decide +kernel)), by decide +kernel⟩
theorem gw400 : ab_gw (.instanceMethod yX4_takeDigit) := ⟨tm2 (List.mem_of_getElem? (i := 77) (by decide +kernel)), by decide +kernel⟩
theorem gw401 : ab_gw (.selects RX4 yX4_takeDigit yX4_takeDigit) := ⟨tm0 (List.mem_of_getElem? (i := 4) (by decide +kernel)), by decide +kernel⟩
theorem cl_RX4_66 : ab_cv RX4 66 RX4 yX4_takeDigit cX4_takeDigit 3 (some .int) 2 := ⟨gw398, gw400, gw401, gw215, gw399, rfl, by decide +kernel, by decide +kernel, by decide +kernel⟩
theorem gw402 : ab_gw (.methodLink RX4 70 yX4_takeSign) := ⟨tm2 (List.mem_of_getElem? (i := 83) (by decide +kernel)), by decide +kernel⟩
theorem gw403 : ab_gw (.code yX4_takeSign cX4_takeSign 4 (some .int)) := ⟨tm2 (List.mem_of_getElem? (i := 86) (by decide +kernel)), by decide +kernel⟩
theorem gw404 : ab_gw (.instanceMethod yX4_takeSign) := ⟨tm2 (List.mem_of_getElem? (i := 85) (by decide +kernel)), by decide +kernel⟩
theorem gw405 : ab_gw (.selects RX4 yX4_takeSign yX4_takeSign) := ⟨tm0 (List.mem_of_getElem? (i := 6) (by decide +kernel)), by decide +kernel⟩
theorem cl_RX4_70 : ab_cv RX4 70 RX4 yX4_takeSign cX4_takeSign 4 (some .int) 3 := ⟨gw402, gw404, gw405, gw215, gw403, rfl, by decide +kernel, by decide +kernel, by decide +kernel⟩
theorem gw406 : ab_gw (.methodLink RX4 73 yX4_takeLetter) := ⟨tm2 (List.mem_of_getElem? (i := 103) (by decide +kernel)), by decide +kernel⟩
theorem gw407 : ab_gw (.code yX4_takeLetter cX4_takeLetter 3 (some .int)) := ⟨tm2 (List.mem_of_getElem? (i := 106) (by decide +kernel)), by decide +kernel⟩
theorem gw408 : ab_gw (.instanceMethod yX4_takeLetter) := ⟨tm2 (List.mem_of_getElem? (i := 105) (by decide +kernel)), by decide +kernel⟩
theorem gw409 : ab_gw (.selects RX4 yX4_takeLetter yX4_takeLetter) := ⟨tm0 (List.mem_of_getElem? (i := 8) (by decide +kernel)), by decide +kernel⟩
theorem cl_RX4_73 : ab_cv RX4 73 RX4 yX4_takeLetter cX4_takeLetter 3 (some .int) 2 := ⟨gw406, gw408, gw409, gw215, gw407, rfl, by decide +kernel, by decide +kernel, by decide +kernel⟩
theorem gw410 : ab_gw (.methodLink RX4 79 yX1_letters) := ⟨tm2 (List.mem_of_getElem? (i := 107) (by decide +kernel)), by decide +kernel⟩
theorem cl_RX4_79 : ab_cv RX4 79 RX1 yX1_letters cX1_letters 1 (some .int) 0 := ⟨gw410, gw76, gw77, gw6, gw75, rfl, by decide +kernel, by decide +kernel, by decide +kernel⟩
theorem gw411 : ab_gw (.methodLink RX4 83 yX1_longest) := ⟨tm2 (List.mem_of_getElem? (i := 111) (by decide +kernel)), by decide +kernel⟩
theorem cl_RX4_83 : ab_cv RX4 83 RX1 yX1_longest cX1_longest 1 (some .int) 0 := ⟨gw411, gw25, gw26, gw6, gw24, rfl, by decide +kernel, by decide +kernel, by decide +kernel⟩
theorem gw412 : ab_gw (.methodLink RX4 86 yX1_behind) := ⟨tm2 (List.mem_of_getElem? (i := 112) (by decide +kernel)), by decide +kernel⟩
theorem cl_RX4_86 : ab_cv RX4 86 RX1 yX1_behind cX1_behind 3 (some .int) 2 := ⟨gw412, gw169, gw170, gw6, gw168, rfl, by decide +kernel, by decide +kernel, by decide +kernel⟩
theorem gw413 : ab_gw (.methodLink RX5 22 yJ7_fill_d0a16) := ⟨tm3 (List.mem_of_getElem? (i := 229) (by decide +kernel)), by decide +kernel⟩
theorem gw414 : ab_gw (.code yJ7_fill_d0a16 cJ7_fill_d0a16 5 none) := ⟨tm3 (List.mem_of_getElem? (i := 231) (by decide +kernel)), by decide +kernel⟩
theorem gw415 : ab_gw (.initialized RJ7) := ⟨tm1 (List.mem_of_getElem? (i := 11) (by decide +kernel)), by decide +kernel⟩
theorem gw416 : ab_gw (.static yJ7_fill_d0a16) := ⟨tm3 (List.mem_of_getElem? (i := 230) (by decide +kernel)), by decide +kernel⟩
theorem cl_RX5_22 : ab_cs RX5 22 yJ7_fill_d0a16 cJ7_fill_d0a16 5 none 2 := ⟨gw413, gw416, gw415, gw414, by decide +kernel, by decide +kernel, by decide +kernel⟩
theorem gw417 : ab_gw (.methodLink RX5 28 yX5_has) := ⟨tm4 (List.mem_of_getElem? (i := 23) (by decide +kernel)), by decide +kernel⟩
theorem cl_RX5_28 : ab_cv RX5 28 RX5 yX5_has cX5_has 3 (some .boolean) 2 := ⟨gw417, gw236, gw237, gw187, gw235, rfl, by decide +kernel, by decide +kernel, by decide +kernel⟩
theorem gw418 : ab_gw (.methodLink RX6 19 yJ7_fill_53178) := ⟨tm2 (List.mem_of_getElem? (i := 16) (by decide +kernel)), by decide +kernel⟩
theorem gw419 : ab_gw (.code yJ7_fill_53178 cJ7_fill_53178 4 none) := ⟨tm2 (List.mem_of_getElem? (i := 18) (by decide +kernel)), by decide +kernel⟩
theorem gw420 : ab_gw (.static yJ7_fill_53178) := ⟨tm2 (List.mem_of_getElem? (i := 17) (by decide +kernel)), by decide +kernel⟩
theorem cl_RX6_19 : ab_cs RX6 19 yJ7_fill_53178 cJ7_fill_53178 4 none 2 := ⟨gw418, gw420, gw415, gw419, by decide +kernel, by decide +kernel, by decide +kernel⟩
theorem gw421 : ab_gw (.methodLink RX6 25 arraycopyName) := ⟨tm3 (List.mem_of_getElem? (i := 185) (by decide +kernel)), by decide +kernel⟩
theorem gw422 : ab_gw (.methodLink RX6 31 yX1_placeOf) := ⟨tm2 (List.mem_of_getElem? (i := 95) (by decide +kernel)), by decide +kernel⟩
theorem cl_RX6_31 : ab_cv RX6 31 RX1 yX1_placeOf cX1_placeOf 3 (some .int) 2 := ⟨gw422, gw253, gw254, gw6, gw252, rfl, by decide +kernel, by decide +kernel, by decide +kernel⟩
theorem gw423 : ab_gw (.methodLink RX6 37 yX1_rest) := ⟨tm2 (List.mem_of_getElem? (i := 99) (by decide +kernel)), by decide +kernel⟩
theorem cl_RX6_37 : ab_cv RX6 37 RX1 yX1_rest cX1_rest 4 (some .int) 1 := ⟨gw423, gw352, gw353, gw6, gw351, rfl, by decide +kernel, by decide +kernel, by decide +kernel⟩
theorem gw424 : ab_gw (.methodLink RX6 41 yX1_words) := ⟨tm2 (List.mem_of_getElem? (i := 129) (by decide +kernel)), by decide +kernel⟩
theorem cl_RX6_41 : ab_cv RX6 41 RX1 yX1_words cX1_words 2 (some .int) 1 := ⟨gw424, gw153, gw154, gw6, gw152, rfl, by decide +kernel, by decide +kernel, by decide +kernel⟩
theorem gw425 : ab_gw (.methodLink RX6 45 yX6_numberOf) := ⟨tm2 (List.mem_of_getElem? (i := 133) (by decide +kernel)), by decide +kernel⟩
theorem cl_RX6_45 : ab_cv RX6 45 RX6 yX6_numberOf cX6_numberOf 3 (some .int) 2 := ⟨gw425, gw149, gw150, gw16, gw148, rfl, by decide +kernel, by decide +kernel, by decide +kernel⟩
theorem gw426 : ab_gw (.methodLink RX6 48 yX1_longest) := ⟨tm2 (List.mem_of_getElem? (i := 124) (by decide +kernel)), by decide +kernel⟩
theorem cl_RX6_48 : ab_cv RX6 48 RX1 yX1_longest cX1_longest 1 (some .int) 0 := ⟨gw426, gw25, gw26, gw6, gw24, rfl, by decide +kernel, by decide +kernel, by decide +kernel⟩
theorem gw427 : ab_gw (.methodLink RX6 52 yX6_hasTermsOf) := ⟨tm2 (List.mem_of_getElem? (i := 125) (by decide +kernel)), by decide +kernel⟩
theorem cl_RX6_52 : ab_cv RX6 52 RX6 yX6_hasTermsOf cX6_hasTermsOf 3 (some .boolean) 1 := ⟨gw427, gw161, gw162, gw16, gw160, rfl, by decide +kernel, by decide +kernel, by decide +kernel⟩
theorem gw428 : ab_gw (.methodLink RL 13 yX8_begin) := ⟨tm2 (List.mem_of_getElem? (i := 0) (by decide +kernel)), by decide +kernel⟩
theorem gw429 : ab_gw (.code yX8_begin cX8_begin 3 (some .int)) := ⟨tm2 (List.mem_of_getElem? (i := 3) (by decide +kernel)), by decide +kernel⟩
theorem gw430 : ab_gw (.instanceMethod yX8_begin) := ⟨tm2 (List.mem_of_getElem? (i := 1) (by decide +kernel)), by decide +kernel⟩
theorem gw431 : ab_gw (.selects RX8 yX8_begin yX8_begin) := ⟨tm2 (List.mem_of_getElem? (i := 2) (by decide +kernel)), by decide +kernel⟩
theorem cl_RL_13 : ab_cv RL 13 RX8 yX8_begin cX8_begin 3 (some .int) 2 := ⟨gw428, gw430, gw431, gw2, gw429, rfl, by decide +kernel, by decide +kernel, by decide +kernel⟩
theorem gw432 : ab_gw (.methodLink RL 17 yX9_begin) := ⟨tm4 (List.mem_of_getElem? (i := 126) (by decide +kernel)), by decide +kernel⟩
theorem gw433 : ab_gw (.code yX9_begin cX9_begin 5 (some .int)) := ⟨tm4 (List.mem_of_getElem? (i := 129) (by decide +kernel)), by decide +kernel⟩
theorem gw434 : ab_gw (.initialized RX9) := ⟨tm1 (List.mem_of_getElem? (i := 10) (by decide +kernel)), by decide +kernel⟩
theorem gw435 : ab_gw (.instanceMethod yX9_begin) := ⟨tm4 (List.mem_of_getElem? (i := 127) (by decide +kernel)), by decide +kernel⟩
theorem gw436 : ab_gw (.selects RX9 yX9_begin yX9_begin) := ⟨tm4 (List.mem_of_getElem? (i := 128) (by decide +kernel)), by decide +kernel⟩
theorem cl_RL_17 : ab_cv RL 17 RX9 yX9_begin cX9_begin 5 (some .int) 2 := ⟨gw432, gw435, gw436, gw434, gw433, rfl, by decide +kernel, by decide +kernel, by decide +kernel⟩
theorem gw437 : ab_gw (.methodLink RL 20 yX8_type) := ⟨tm2 (List.mem_of_getElem? (i := 34) (by decide +kernel)), by decide +kernel⟩
theorem gw438 : ab_gw (.code yX8_type cX8_type 6 (some .int)) := ⟨tm2 (List.mem_of_getElem? (i := 37) (by decide +kernel)), by decide +kernel⟩
theorem gw439 : ab_gw (.instanceMethod yX8_type) := ⟨tm2 (List.mem_of_getElem? (i := 35) (by decide +kernel)), by decide +kernel⟩
theorem gw440 : ab_gw (.selects RX8 yX8_type yX8_type) := ⟨tm2 (List.mem_of_getElem? (i := 36) (by decide +kernel)), by decide +kernel⟩
theorem cl_RL_20 : ab_cv RL 20 RX8 yX8_type cX8_type 6 (some .int) 2 := ⟨gw437, gw439, gw440, gw2, gw438, rfl, by decide +kernel, by decide +kernel, by decide +kernel⟩
theorem gw441 : ab_gw (.methodLink RL 24 yX9_type) := ⟨tm4 (List.mem_of_getElem? (i := 136) (by decide +kernel)), by decide +kernel⟩
theorem gw442 : ab_gw (.code yX9_type cX9_type 5 (some .int)) := ⟨tm4 (List.mem_of_getElem? (i := 139) (by decide +kernel)), by decide +kernel⟩
theorem gw443 : ab_gw (.instanceMethod yX9_type) := ⟨tm4 (List.mem_of_getElem? (i := 137) (by decide +kernel)), by decide +kernel⟩
theorem gw444 : ab_gw (.selects RX9 yX9_type yX9_type) := ⟨tm4 (List.mem_of_getElem? (i := 138) (by decide +kernel)), by decide +kernel⟩
theorem cl_RL_24 : ab_cv RL 24 RX9 yX9_type cX9_type 5 (some .int) 2 := ⟨gw441, gw443, gw444, gw434, gw442, rfl, by decide +kernel, by decide +kernel, by decide +kernel⟩
theorem gw445 : ab_gw (.methodLink RL 25 yX8_law) := ⟨tm2 (List.mem_of_getElem? (i := 49) (by decide +kernel)), by decide +kernel⟩
theorem gw446 : ab_gw (.code yX8_law cX8_law 3 (some .int)) := ⟨tm2 (List.mem_of_getElem? (i := 52) (by decide +kernel)), by decide +kernel⟩
theorem gw447 : ab_gw (.instanceMethod yX8_law) := ⟨tm2 (List.mem_of_getElem? (i := 50) (by decide +kernel)), by decide +kernel⟩
theorem gw448 : ab_gw (.selects RX8 yX8_law yX8_law) := ⟨tm2 (List.mem_of_getElem? (i := 51) (by decide +kernel)), by decide +kernel⟩
theorem cl_RL_25 : ab_cv RL 25 RX8 yX8_law cX8_law 3 (some .int) 0 := ⟨gw445, gw447, gw448, gw2, gw446, rfl, by decide +kernel, by decide +kernel, by decide +kernel⟩
theorem gw449 : ab_gw (.methodLink RL 29 yX9_law) := ⟨tm4 (List.mem_of_getElem? (i := 144) (by decide +kernel)), by decide +kernel⟩
theorem gw450 : ab_gw (.code yX9_law cX9_law 6 (some .int)) := ⟨tm4 (List.mem_of_getElem? (i := 147) (by decide +kernel)), by decide +kernel⟩
theorem gw451 : ab_gw (.instanceMethod yX9_law) := ⟨tm4 (List.mem_of_getElem? (i := 145) (by decide +kernel)), by decide +kernel⟩
theorem gw452 : ab_gw (.selects RX9 yX9_law yX9_law) := ⟨tm4 (List.mem_of_getElem? (i := 146) (by decide +kernel)), by decide +kernel⟩
theorem cl_RL_29 : ab_cv RL 29 RX9 yX9_law cX9_law 6 (some .int) 0 := ⟨gw449, gw451, gw452, gw434, gw450, rfl, by decide +kernel, by decide +kernel, by decide +kernel⟩
theorem gw453 : ab_gw (.methodLink RL 30 yX8_unlaw) := ⟨tm2 (List.mem_of_getElem? (i := 158) (by decide +kernel)), by decide +kernel⟩
theorem gw454 : ab_gw (.code yX8_unlaw cX8_unlaw 3 (some .int)) := ⟨tm2 (List.mem_of_getElem? (i := 161) (by decide +kernel)), by decide +kernel⟩
theorem gw455 : ab_gw (.instanceMethod yX8_unlaw) := ⟨tm2 (List.mem_of_getElem? (i := 159) (by decide +kernel)), by decide +kernel⟩
theorem gw456 : ab_gw (.selects RX8 yX8_unlaw yX8_unlaw) := ⟨tm2 (List.mem_of_getElem? (i := 160) (by decide +kernel)), by decide +kernel⟩
theorem cl_RL_30 : ab_cv RL 30 RX8 yX8_unlaw cX8_unlaw 3 (some .int) 0 := ⟨gw453, gw455, gw456, gw2, gw454, rfl, by decide +kernel, by decide +kernel, by decide +kernel⟩
theorem gw457 : ab_gw (.methodLink RL 33 yX9_unlaw) := ⟨tm4 (List.mem_of_getElem? (i := 167) (by decide +kernel)), by decide +kernel⟩
theorem gw458 : ab_gw (.code yX9_unlaw cX9_unlaw 1 (some .int)) := ⟨tm4 (List.mem_of_getElem? (i := 170) (by decide +kernel)), by decide +kernel⟩
theorem gw459 : ab_gw (.instanceMethod yX9_unlaw) := ⟨tm4 (List.mem_of_getElem? (i := 168) (by decide +kernel)), by decide +kernel⟩
theorem gw460 : ab_gw (.selects RX9 yX9_unlaw yX9_unlaw) := ⟨tm4 (List.mem_of_getElem? (i := 169) (by decide +kernel)), by decide +kernel⟩
theorem cl_RL_33 : ab_cv RL 33 RX9 yX9_unlaw cX9_unlaw 1 (some .int) 0 := ⟨gw457, gw459, gw460, gw434, gw458, rfl, by decide +kernel, by decide +kernel, by decide +kernel⟩
theorem gw461 : ab_gw (.methodLink RL 34 yX8_told) := ⟨tm2 (List.mem_of_getElem? (i := 170) (by decide +kernel)), by decide +kernel⟩
theorem gw462 : ab_gw (.code yX8_told cX8_told 4 (some .int)) := ⟨tm2 (List.mem_of_getElem? (i := 173) (by decide +kernel)), by decide +kernel⟩
theorem gw463 : ab_gw (.instanceMethod yX8_told) := ⟨tm2 (List.mem_of_getElem? (i := 171) (by decide +kernel)), by decide +kernel⟩
theorem gw464 : ab_gw (.selects RX8 yX8_told yX8_told) := ⟨tm2 (List.mem_of_getElem? (i := 172) (by decide +kernel)), by decide +kernel⟩
theorem cl_RL_34 : ab_cv RL 34 RX8 yX8_told cX8_told 4 (some .int) 2 := ⟨gw461, gw463, gw464, gw2, gw462, rfl, by decide +kernel, by decide +kernel, by decide +kernel⟩
theorem gw465 : ab_gw (.methodLink RL 37 yX9_told) := ⟨tm4 (List.mem_of_getElem? (i := 171) (by decide +kernel)), by decide +kernel⟩
theorem gw466 : ab_gw (.code yX9_told cX9_told 3 (some .int)) := ⟨tm4 (List.mem_of_getElem? (i := 174) (by decide +kernel)), by decide +kernel⟩
theorem gw467 : ab_gw (.instanceMethod yX9_told) := ⟨tm4 (List.mem_of_getElem? (i := 172) (by decide +kernel)), by decide +kernel⟩
theorem gw468 : ab_gw (.selects RX9 yX9_told yX9_told) := ⟨tm4 (List.mem_of_getElem? (i := 173) (by decide +kernel)), by decide +kernel⟩
theorem cl_RL_37 : ab_cv RL 37 RX9 yX9_told cX9_told 3 (some .int) 2 := ⟨gw465, gw467, gw468, gw434, gw466, rfl, by decide +kernel, by decide +kernel, by decide +kernel⟩
theorem gw469 : ab_gw (.methodLink RL 38 yX8_count) := ⟨tm2 (List.mem_of_getElem? (i := 186) (by decide +kernel)), by decide +kernel⟩
theorem gw470 : ab_gw (.code yX8_count cX8_count 2 (some .int)) := ⟨tm2 (List.mem_of_getElem? (i := 189) (by decide +kernel)), by decide +kernel⟩
theorem gw471 : ab_gw (.instanceMethod yX8_count) := ⟨tm2 (List.mem_of_getElem? (i := 187) (by decide +kernel)), by decide +kernel⟩
theorem gw472 : ab_gw (.selects RX8 yX8_count yX8_count) := ⟨tm2 (List.mem_of_getElem? (i := 188) (by decide +kernel)), by decide +kernel⟩
theorem cl_RL_38 : ab_cv RL 38 RX8 yX8_count cX8_count 2 (some .int) 1 := ⟨gw469, gw471, gw472, gw2, gw470, rfl, by decide +kernel, by decide +kernel, by decide +kernel⟩
theorem gw473 : ab_gw (.methodLink RL 42 yX9_count) := ⟨tm5 (List.mem_of_getElem? (i := 35) (by decide +kernel)), by decide +kernel⟩
theorem gw474 : ab_gw (.code yX9_count cX9_count 2 (some .int)) := ⟨tm5 (List.mem_of_getElem? (i := 38) (by decide +kernel)), by decide +kernel⟩
theorem gw475 : ab_gw (.instanceMethod yX9_count) := ⟨tm5 (List.mem_of_getElem? (i := 36) (by decide +kernel)), by decide +kernel⟩
theorem gw476 : ab_gw (.selects RX9 yX9_count yX9_count) := ⟨tm5 (List.mem_of_getElem? (i := 37) (by decide +kernel)), by decide +kernel⟩
theorem cl_RL_42 : ab_cv RL 42 RX9 yX9_count cX9_count 2 (some .int) 1 := ⟨gw473, gw475, gw476, gw434, gw474, rfl, by decide +kernel, by decide +kernel, by decide +kernel⟩
theorem gw477 : ab_gw (.methodLink RL 43 yX8_normal) := ⟨tm3 (List.mem_of_getElem? (i := 53) (by decide +kernel)), by decide +kernel⟩
theorem gw478 : ab_gw (.code yX8_normal cX8_normal 2 (some .int)) := ⟨tm3 (List.mem_of_getElem? (i := 56) (by decide +kernel)), by decide +kernel⟩
theorem gw479 : ab_gw (.instanceMethod yX8_normal) := ⟨tm3 (List.mem_of_getElem? (i := 54) (by decide +kernel)), by decide +kernel⟩
theorem gw480 : ab_gw (.selects RX8 yX8_normal yX8_normal) := ⟨tm3 (List.mem_of_getElem? (i := 55) (by decide +kernel)), by decide +kernel⟩
theorem cl_RL_43 : ab_cv RL 43 RX8 yX8_normal cX8_normal 2 (some .int) 1 := ⟨gw477, gw479, gw480, gw2, gw478, rfl, by decide +kernel, by decide +kernel, by decide +kernel⟩
theorem gw481 : ab_gw (.methodLink RL 46 yX9_normal) := ⟨tm4 (List.mem_of_getElem? (i := 176) (by decide +kernel)), by decide +kernel⟩
theorem gw482 : ab_gw (.code yX9_normal cX9_normal 2 (some .int)) := ⟨tm4 (List.mem_of_getElem? (i := 179) (by decide +kernel)), by decide +kernel⟩
theorem gw483 : ab_gw (.instanceMethod yX9_normal) := ⟨tm4 (List.mem_of_getElem? (i := 177) (by decide +kernel)), by decide +kernel⟩
theorem gw484 : ab_gw (.selects RX9 yX9_normal yX9_normal) := ⟨tm4 (List.mem_of_getElem? (i := 178) (by decide +kernel)), by decide +kernel⟩
theorem cl_RL_46 : ab_cv RL 46 RX9 yX9_normal cX9_normal 2 (some .int) 1 := ⟨gw481, gw483, gw484, gw434, gw482, rfl, by decide +kernel, by decide +kernel, by decide +kernel⟩
theorem gw485 : ab_gw (.methodLink RL 47 yX8_leads) := ⟨tm3 (List.mem_of_getElem? (i := 62) (by decide +kernel)), by decide +kernel⟩
theorem gw486 : ab_gw (.code yX8_leads cX8_leads 3 (some .int)) := ⟨tm3 (List.mem_of_getElem? (i := 65) (by decide +kernel)), by decide +kernel⟩
theorem gw487 : ab_gw (.instanceMethod yX8_leads) := ⟨tm3 (List.mem_of_getElem? (i := 63) (by decide +kernel)), by decide +kernel⟩
theorem gw488 : ab_gw (.selects RX8 yX8_leads yX8_leads) := ⟨tm3 (List.mem_of_getElem? (i := 64) (by decide +kernel)), by decide +kernel⟩
theorem cl_RL_47 : ab_cv RL 47 RX8 yX8_leads cX8_leads 3 (some .int) 2 := ⟨gw485, gw487, gw488, gw2, gw486, rfl, by decide +kernel, by decide +kernel, by decide +kernel⟩
theorem gw489 : ab_gw (.methodLink RL 50 yX9_leads) := ⟨tm4 (List.mem_of_getElem? (i := 212) (by decide +kernel)), by decide +kernel⟩
theorem gw490 : ab_gw (.code yX9_leads cX9_leads 3 (some .int)) := ⟨tm4 (List.mem_of_getElem? (i := 215) (by decide +kernel)), by decide +kernel⟩
theorem gw491 : ab_gw (.instanceMethod yX9_leads) := ⟨tm4 (List.mem_of_getElem? (i := 213) (by decide +kernel)), by decide +kernel⟩
theorem gw492 : ab_gw (.selects RX9 yX9_leads yX9_leads) := ⟨tm4 (List.mem_of_getElem? (i := 214) (by decide +kernel)), by decide +kernel⟩
theorem cl_RL_50 : ab_cv RL 50 RX9 yX9_leads cX9_leads 3 (some .int) 2 := ⟨gw489, gw491, gw492, gw434, gw490, rfl, by decide +kernel, by decide +kernel, by decide +kernel⟩
theorem gw493 : ab_gw (.methodLink RL 51 yX8_word) := ⟨tm3 (List.mem_of_getElem? (i := 70) (by decide +kernel)), by decide +kernel⟩
theorem gw494 : ab_gw (.code yX8_word cX8_word 3 (some .int)) := ⟨tm3 (List.mem_of_getElem? (i := 73) (by decide +kernel)), by decide +kernel⟩
theorem gw495 : ab_gw (.instanceMethod yX8_word) := ⟨tm3 (List.mem_of_getElem? (i := 71) (by decide +kernel)), by decide +kernel⟩
theorem gw496 : ab_gw (.selects RX8 yX8_word yX8_word) := ⟨tm3 (List.mem_of_getElem? (i := 72) (by decide +kernel)), by decide +kernel⟩
theorem cl_RL_51 : ab_cv RL 51 RX8 yX8_word cX8_word 3 (some .int) 2 := ⟨gw493, gw495, gw496, gw2, gw494, rfl, by decide +kernel, by decide +kernel, by decide +kernel⟩
theorem gw497 : ab_gw (.methodLink RL 54 yX9_word) := ⟨tm4 (List.mem_of_getElem? (i := 220) (by decide +kernel)), by decide +kernel⟩
theorem gw498 : ab_gw (.code yX9_word cX9_word 3 (some .int)) := ⟨tm4 (List.mem_of_getElem? (i := 223) (by decide +kernel)), by decide +kernel⟩
theorem gw499 : ab_gw (.instanceMethod yX9_word) := ⟨tm4 (List.mem_of_getElem? (i := 221) (by decide +kernel)), by decide +kernel⟩
theorem gw500 : ab_gw (.selects RX9 yX9_word yX9_word) := ⟨tm4 (List.mem_of_getElem? (i := 222) (by decide +kernel)), by decide +kernel⟩
theorem cl_RL_54 : ab_cv RL 54 RX9 yX9_word cX9_word 3 (some .int) 2 := ⟨gw497, gw499, gw500, gw434, gw498, rfl, by decide +kernel, by decide +kernel, by decide +kernel⟩
theorem gw501 : ab_gw (.methodLink RL 55 yX8_plain) := ⟨tm3 (List.mem_of_getElem? (i := 78) (by decide +kernel)), by decide +kernel⟩
theorem gw502 : ab_gw (.code yX8_plain cX8_plain 4 (some .int)) := ⟨tm3 (List.mem_of_getElem? (i := 81) (by decide +kernel)), by decide +kernel⟩
theorem gw503 : ab_gw (.instanceMethod yX8_plain) := ⟨tm3 (List.mem_of_getElem? (i := 79) (by decide +kernel)), by decide +kernel⟩
theorem gw504 : ab_gw (.selects RX8 yX8_plain yX8_plain) := ⟨tm3 (List.mem_of_getElem? (i := 80) (by decide +kernel)), by decide +kernel⟩
theorem cl_RL_55 : ab_cv RL 55 RX8 yX8_plain cX8_plain 4 (some .int) 3 := ⟨gw501, gw503, gw504, gw2, gw502, rfl, by decide +kernel, by decide +kernel, by decide +kernel⟩
theorem gw505 : ab_gw (.methodLink RL 59 yX9_plain) := ⟨tm4 (List.mem_of_getElem? (i := 228) (by decide +kernel)), by decide +kernel⟩
theorem gw506 : ab_gw (.code yX9_plain cX9_plain 4 (some .int)) := ⟨tm4 (List.mem_of_getElem? (i := 231) (by decide +kernel)), by decide +kernel⟩
theorem gw507 : ab_gw (.instanceMethod yX9_plain) := ⟨tm4 (List.mem_of_getElem? (i := 229) (by decide +kernel)), by decide +kernel⟩
theorem gw508 : ab_gw (.selects RX9 yX9_plain yX9_plain) := ⟨tm4 (List.mem_of_getElem? (i := 230) (by decide +kernel)), by decide +kernel⟩
theorem cl_RL_59 : ab_cv RL 59 RX9 yX9_plain cX9_plain 4 (some .int) 3 := ⟨gw505, gw507, gw508, gw434, gw506, rfl, by decide +kernel, by decide +kernel, by decide +kernel⟩
theorem gw509 : ab_gw (.methodLink RL 60 yX8_least) := ⟨tm3 (List.mem_of_getElem? (i := 90) (by decide +kernel)), by decide +kernel⟩
theorem gw510 : ab_gw (.code yX8_least cX8_least 6 (some .int)) := ⟨tm3 (List.mem_of_getElem? (i := 93) (by decide +kernel)), by decide +kernel⟩
theorem gw511 : ab_gw (.instanceMethod yX8_least) := ⟨tm3 (List.mem_of_getElem? (i := 91) (by decide +kernel)), by decide +kernel⟩
theorem gw512 : ab_gw (.selects RX8 yX8_least yX8_least) := ⟨tm3 (List.mem_of_getElem? (i := 92) (by decide +kernel)), by decide +kernel⟩
theorem cl_RL_60 : ab_cv RL 60 RX8 yX8_least cX8_least 6 (some .int) 2 := ⟨gw509, gw511, gw512, gw2, gw510, rfl, by decide +kernel, by decide +kernel, by decide +kernel⟩
theorem gw513 : ab_gw (.methodLink RL 63 yX9_least) := ⟨tm4 (List.mem_of_getElem? (i := 236) (by decide +kernel)), by decide +kernel⟩
theorem gw514 : ab_gw (.code yX9_least cX9_least 6 (some .int)) := ⟨tm4 (List.mem_of_getElem? (i := 239) (by decide +kernel)), by decide +kernel⟩
theorem gw515 : ab_gw (.instanceMethod yX9_least) := ⟨tm4 (List.mem_of_getElem? (i := 237) (by decide +kernel)), by decide +kernel⟩
theorem gw516 : ab_gw (.selects RX9 yX9_least yX9_least) := ⟨tm4 (List.mem_of_getElem? (i := 238) (by decide +kernel)), by decide +kernel⟩
theorem cl_RL_63 : ab_cv RL 63 RX9 yX9_least cX9_least 6 (some .int) 2 := ⟨gw513, gw515, gw516, gw434, gw514, rfl, by decide +kernel, by decide +kernel, by decide +kernel⟩
theorem gw517 : ab_gw (.methodLink RL 64 yX8_product) := ⟨tm3 (List.mem_of_getElem? (i := 106) (by decide +kernel)), by decide +kernel⟩
theorem gw518 : ab_gw (.code yX8_product cX8_product 7 (some .int)) := ⟨tm3 (List.mem_of_getElem? (i := 109) (by decide +kernel)), by decide +kernel⟩
theorem gw519 : ab_gw (.instanceMethod yX8_product) := ⟨tm3 (List.mem_of_getElem? (i := 107) (by decide +kernel)), by decide +kernel⟩
theorem gw520 : ab_gw (.selects RX8 yX8_product yX8_product) := ⟨tm3 (List.mem_of_getElem? (i := 108) (by decide +kernel)), by decide +kernel⟩
theorem cl_RL_64 : ab_cv RL 64 RX8 yX8_product cX8_product 7 (some .int) 5 := ⟨gw517, gw519, gw520, gw2, gw518, rfl, by decide +kernel, by decide +kernel, by decide +kernel⟩
theorem gw521 : ab_gw (.methodLink RL 68 yX9_product) := ⟨tm5 (List.mem_of_getElem? (i := 7) (by decide +kernel)), by decide +kernel⟩
theorem gw522 : ab_gw (.code yX9_product cX9_product 8 (some .int)) := ⟨tm5 (List.mem_of_getElem? (i := 10) (by decide +kernel)), by decide +kernel⟩
theorem gw523 : ab_gw (.instanceMethod yX9_product) := ⟨tm5 (List.mem_of_getElem? (i := 8) (by decide +kernel)), by decide +kernel⟩
theorem gw524 : ab_gw (.selects RX9 yX9_product yX9_product) := ⟨tm5 (List.mem_of_getElem? (i := 9) (by decide +kernel)), by decide +kernel⟩
theorem cl_RL_68 : ab_cv RL 68 RX9 yX9_product cX9_product 8 (some .int) 5 := ⟨gw521, gw523, gw524, gw434, gw522, rfl, by decide +kernel, by decide +kernel, by decide +kernel⟩
theorem gw525 : ab_gw (.methodLink RL 69 yX8_middle) := ⟨tm3 (List.mem_of_getElem? (i := 114) (by decide +kernel)), by decide +kernel⟩
theorem gw526 : ab_gw (.code yX8_middle cX8_middle 2 (some .int)) := ⟨tm3 (List.mem_of_getElem? (i := 117) (by decide +kernel)), by decide +kernel⟩
theorem gw527 : ab_gw (.instanceMethod yX8_middle) := ⟨tm3 (List.mem_of_getElem? (i := 115) (by decide +kernel)), by decide +kernel⟩
theorem gw528 : ab_gw (.selects RX8 yX8_middle yX8_middle) := ⟨tm3 (List.mem_of_getElem? (i := 116) (by decide +kernel)), by decide +kernel⟩
theorem cl_RL_69 : ab_cv RL 69 RX8 yX8_middle cX8_middle 2 (some .int) 1 := ⟨gw525, gw527, gw528, gw2, gw526, rfl, by decide +kernel, by decide +kernel, by decide +kernel⟩
theorem gw529 : ab_gw (.methodLink RL 72 yX9_middle) := ⟨tm5 (List.mem_of_getElem? (i := 11) (by decide +kernel)), by decide +kernel⟩
theorem gw530 : ab_gw (.code yX9_middle cX9_middle 8 (some .int)) := ⟨tm5 (List.mem_of_getElem? (i := 14) (by decide +kernel)), by decide +kernel⟩
theorem gw531 : ab_gw (.instanceMethod yX9_middle) := ⟨tm5 (List.mem_of_getElem? (i := 12) (by decide +kernel)), by decide +kernel⟩
theorem gw532 : ab_gw (.selects RX9 yX9_middle yX9_middle) := ⟨tm5 (List.mem_of_getElem? (i := 13) (by decide +kernel)), by decide +kernel⟩
theorem cl_RL_72 : ab_cv RL 72 RX9 yX9_middle cX9_middle 8 (some .int) 1 := ⟨gw529, gw531, gw532, gw434, gw530, rfl, by decide +kernel, by decide +kernel, by decide +kernel⟩
theorem gw533 : ab_gw (.methodLink RL 73 yX8_other) := ⟨tm3 (List.mem_of_getElem? (i := 157) (by decide +kernel)), by decide +kernel⟩
theorem gw534 : ab_gw (.code yX8_other cX8_other 2 (some .int)) := ⟨tm3 (List.mem_of_getElem? (i := 160) (by decide +kernel)), by decide +kernel⟩
theorem gw535 : ab_gw (.instanceMethod yX8_other) := ⟨tm3 (List.mem_of_getElem? (i := 158) (by decide +kernel)), by decide +kernel⟩
theorem gw536 : ab_gw (.selects RX8 yX8_other yX8_other) := ⟨tm3 (List.mem_of_getElem? (i := 159) (by decide +kernel)), by decide +kernel⟩
theorem cl_RL_73 : ab_cv RL 73 RX8 yX8_other cX8_other 2 (some .int) 1 := ⟨gw533, gw535, gw536, gw2, gw534, rfl, by decide +kernel, by decide +kernel, by decide +kernel⟩
theorem gw537 : ab_gw (.methodLink RL 76 yX9_other) := ⟨tm5 (List.mem_of_getElem? (i := 19) (by decide +kernel)), by decide +kernel⟩
theorem gw538 : ab_gw (.code yX9_other cX9_other 2 (some .int)) := ⟨tm5 (List.mem_of_getElem? (i := 22) (by decide +kernel)), by decide +kernel⟩
theorem gw539 : ab_gw (.instanceMethod yX9_other) := ⟨tm5 (List.mem_of_getElem? (i := 20) (by decide +kernel)), by decide +kernel⟩
theorem gw540 : ab_gw (.selects RX9 yX9_other yX9_other) := ⟨tm5 (List.mem_of_getElem? (i := 21) (by decide +kernel)), by decide +kernel⟩
theorem cl_RL_76 : ab_cv RL 76 RX9 yX9_other cX9_other 2 (some .int) 1 := ⟨gw537, gw539, gw540, gw434, gw538, rfl, by decide +kernel, by decide +kernel, by decide +kernel⟩
theorem gw541 : ab_gw (.methodLink RL 77 yX8_fit) := ⟨tm3 (List.mem_of_getElem? (i := 169) (by decide +kernel)), by decide +kernel⟩
theorem gw542 : ab_gw (.code yX8_fit cX8_fit 2 (some .int)) := ⟨tm3 (List.mem_of_getElem? (i := 172) (by decide +kernel)), by decide +kernel⟩
theorem gw543 : ab_gw (.instanceMethod yX8_fit) := ⟨tm3 (List.mem_of_getElem? (i := 170) (by decide +kernel)), by decide +kernel⟩
theorem gw544 : ab_gw (.selects RX8 yX8_fit yX8_fit) := ⟨tm3 (List.mem_of_getElem? (i := 171) (by decide +kernel)), by decide +kernel⟩
theorem cl_RL_77 : ab_cv RL 77 RX8 yX8_fit cX8_fit 2 (some .int) 0 := ⟨gw541, gw543, gw544, gw2, gw542, rfl, by decide +kernel, by decide +kernel, by decide +kernel⟩
theorem gw545 : ab_gw (.methodLink RL 80 yX9_fit) := ⟨tm5 (List.mem_of_getElem? (i := 31) (by decide +kernel)), by decide +kernel⟩
theorem gw546 : ab_gw (.code yX9_fit cX9_fit 5 (some .int)) := ⟨tm5 (List.mem_of_getElem? (i := 34) (by decide +kernel)), by decide +kernel⟩
theorem gw547 : ab_gw (.instanceMethod yX9_fit) := ⟨tm5 (List.mem_of_getElem? (i := 32) (by decide +kernel)), by decide +kernel⟩
theorem gw548 : ab_gw (.selects RX9 yX9_fit yX9_fit) := ⟨tm5 (List.mem_of_getElem? (i := 33) (by decide +kernel)), by decide +kernel⟩
theorem cl_RL_80 : ab_cv RL 80 RX9 yX9_fit cX9_fit 5 (some .int) 0 := ⟨gw545, gw547, gw548, gw434, gw546, rfl, by decide +kernel, by decide +kernel, by decide +kernel⟩
theorem gw549 : ab_gw (.methodLink RL 81 yX8_sum) := ⟨tm3 (List.mem_of_getElem? (i := 177) (by decide +kernel)), by decide +kernel⟩
theorem gw550 : ab_gw (.code yX8_sum cX8_sum 2 (some .int)) := ⟨tm3 (List.mem_of_getElem? (i := 180) (by decide +kernel)), by decide +kernel⟩
theorem gw551 : ab_gw (.instanceMethod yX8_sum) := ⟨tm3 (List.mem_of_getElem? (i := 178) (by decide +kernel)), by decide +kernel⟩
theorem gw552 : ab_gw (.selects RX8 yX8_sum yX8_sum) := ⟨tm3 (List.mem_of_getElem? (i := 179) (by decide +kernel)), by decide +kernel⟩
theorem cl_RL_81 : ab_cv RL 81 RX8 yX8_sum cX8_sum 2 (some .int) 0 := ⟨gw549, gw551, gw552, gw2, gw550, rfl, by decide +kernel, by decide +kernel, by decide +kernel⟩
theorem gw553 : ab_gw (.methodLink RL 84 yX9_sum) := ⟨tm5 (List.mem_of_getElem? (i := 43) (by decide +kernel)), by decide +kernel⟩
theorem gw554 : ab_gw (.code yX9_sum cX9_sum 3 (some .int)) := ⟨tm5 (List.mem_of_getElem? (i := 46) (by decide +kernel)), by decide +kernel⟩
theorem gw555 : ab_gw (.instanceMethod yX9_sum) := ⟨tm5 (List.mem_of_getElem? (i := 44) (by decide +kernel)), by decide +kernel⟩
theorem gw556 : ab_gw (.selects RX9 yX9_sum yX9_sum) := ⟨tm5 (List.mem_of_getElem? (i := 45) (by decide +kernel)), by decide +kernel⟩
theorem cl_RL_84 : ab_cv RL 84 RX9 yX9_sum cX9_sum 3 (some .int) 0 := ⟨gw553, gw555, gw556, gw434, gw554, rfl, by decide +kernel, by decide +kernel, by decide +kernel⟩
theorem gw557 : ab_gw (.methodLink RL 85 yX8_part) := ⟨tm3 (List.mem_of_getElem? (i := 186) (by decide +kernel)), by decide +kernel⟩
theorem gw558 : ab_gw (.code yX8_part cX8_part 3 (some .int)) := ⟨tm3 (List.mem_of_getElem? (i := 189) (by decide +kernel)), by decide +kernel⟩
theorem gw559 : ab_gw (.instanceMethod yX8_part) := ⟨tm3 (List.mem_of_getElem? (i := 187) (by decide +kernel)), by decide +kernel⟩
theorem gw560 : ab_gw (.selects RX8 yX8_part yX8_part) := ⟨tm3 (List.mem_of_getElem? (i := 188) (by decide +kernel)), by decide +kernel⟩
theorem cl_RL_85 : ab_cv RL 85 RX8 yX8_part cX8_part 3 (some .int) 2 := ⟨gw557, gw559, gw560, gw2, gw558, rfl, by decide +kernel, by decide +kernel, by decide +kernel⟩
theorem gw561 : ab_gw (.methodLink RL 88 yX9_part) := ⟨tm5 (List.mem_of_getElem? (i := 47) (by decide +kernel)), by decide +kernel⟩
theorem gw562 : ab_gw (.code yX9_part cX9_part 3 (some .int)) := ⟨tm5 (List.mem_of_getElem? (i := 50) (by decide +kernel)), by decide +kernel⟩
theorem gw563 : ab_gw (.instanceMethod yX9_part) := ⟨tm5 (List.mem_of_getElem? (i := 48) (by decide +kernel)), by decide +kernel⟩
theorem gw564 : ab_gw (.selects RX9 yX9_part yX9_part) := ⟨tm5 (List.mem_of_getElem? (i := 49) (by decide +kernel)), by decide +kernel⟩
theorem cl_RL_88 : ab_cv RL 88 RX9 yX9_part cX9_part 3 (some .int) 2 := ⟨gw561, gw563, gw564, gw434, gw562, rfl, by decide +kernel, by decide +kernel, by decide +kernel⟩
theorem gw565 : ab_gw (.methodLink RL 89 yX8_reduce) := ⟨tm3 (List.mem_of_getElem? (i := 190) (by decide +kernel)), by decide +kernel⟩
theorem gw566 : ab_gw (.code yX8_reduce cX8_reduce 4 (some .int)) := ⟨tm3 (List.mem_of_getElem? (i := 193) (by decide +kernel)), by decide +kernel⟩
theorem gw567 : ab_gw (.instanceMethod yX8_reduce) := ⟨tm3 (List.mem_of_getElem? (i := 191) (by decide +kernel)), by decide +kernel⟩
theorem gw568 : ab_gw (.selects RX8 yX8_reduce yX8_reduce) := ⟨tm3 (List.mem_of_getElem? (i := 192) (by decide +kernel)), by decide +kernel⟩
theorem cl_RL_89 : ab_cv RL 89 RX8 yX8_reduce cX8_reduce 4 (some .int) 0 := ⟨gw565, gw567, gw568, gw2, gw566, rfl, by decide +kernel, by decide +kernel, by decide +kernel⟩
theorem gw569 : ab_gw (.methodLink RL 92 yX9_reduce) := ⟨tm5 (List.mem_of_getElem? (i := 51) (by decide +kernel)), by decide +kernel⟩
theorem gw570 : ab_gw (.code yX9_reduce cX9_reduce 7 (some .int)) := ⟨tm5 (List.mem_of_getElem? (i := 54) (by decide +kernel)), by decide +kernel⟩
theorem gw571 : ab_gw (.instanceMethod yX9_reduce) := ⟨tm5 (List.mem_of_getElem? (i := 52) (by decide +kernel)), by decide +kernel⟩
theorem gw572 : ab_gw (.selects RX9 yX9_reduce yX9_reduce) := ⟨tm5 (List.mem_of_getElem? (i := 53) (by decide +kernel)), by decide +kernel⟩
theorem cl_RL_92 : ab_cv RL 92 RX9 yX9_reduce cX9_reduce 7 (some .int) 0 := ⟨gw569, gw571, gw572, gw434, gw570, rfl, by decide +kernel, by decide +kernel, by decide +kernel⟩
theorem gw573 : ab_gw (.methodLink RL 93 yX8_put) := ⟨tm3 (List.mem_of_getElem? (i := 199) (by decide +kernel)), by decide +kernel⟩
theorem gw574 : ab_gw (.code yX8_put cX8_put 6 (some .int)) := ⟨tm3 (List.mem_of_getElem? (i := 202) (by decide +kernel)), by decide +kernel⟩
theorem gw575 : ab_gw (.instanceMethod yX8_put) := ⟨tm3 (List.mem_of_getElem? (i := 200) (by decide +kernel)), by decide +kernel⟩
theorem gw576 : ab_gw (.selects RX8 yX8_put yX8_put) := ⟨tm3 (List.mem_of_getElem? (i := 201) (by decide +kernel)), by decide +kernel⟩
theorem cl_RL_93 : ab_cv RL 93 RX8 yX8_put cX8_put 6 (some .int) 2 := ⟨gw573, gw575, gw576, gw2, gw574, rfl, by decide +kernel, by decide +kernel, by decide +kernel⟩
theorem gw577 : ab_gw (.methodLink RL 96 yX9_put) := ⟨tm5 (List.mem_of_getElem? (i := 55) (by decide +kernel)), by decide +kernel⟩
theorem gw578 : ab_gw (.code yX9_put cX9_put 6 (some .int)) := ⟨tm5 (List.mem_of_getElem? (i := 58) (by decide +kernel)), by decide +kernel⟩
theorem gw579 : ab_gw (.instanceMethod yX9_put) := ⟨tm5 (List.mem_of_getElem? (i := 56) (by decide +kernel)), by decide +kernel⟩
theorem gw580 : ab_gw (.selects RX9 yX9_put yX9_put) := ⟨tm5 (List.mem_of_getElem? (i := 57) (by decide +kernel)), by decide +kernel⟩
theorem cl_RL_96 : ab_cv RL 96 RX9 yX9_put cX9_put 6 (some .int) 2 := ⟨gw577, gw579, gw580, gw434, gw578, rfl, by decide +kernel, by decide +kernel, by decide +kernel⟩
theorem gw581 : ab_gw (.methodLink RL 97 yX8_times) := ⟨tm3 (List.mem_of_getElem? (i := 207) (by decide +kernel)), by decide +kernel⟩
theorem gw582 : ab_gw (.code yX8_times cX8_times 2 (some .int)) := ⟨tm3 (List.mem_of_getElem? (i := 210) (by decide +kernel)), by decide +kernel⟩
theorem gw583 : ab_gw (.instanceMethod yX8_times) := ⟨tm3 (List.mem_of_getElem? (i := 208) (by decide +kernel)), by decide +kernel⟩
theorem gw584 : ab_gw (.selects RX8 yX8_times yX8_times) := ⟨tm3 (List.mem_of_getElem? (i := 209) (by decide +kernel)), by decide +kernel⟩
theorem cl_RL_97 : ab_cv RL 97 RX8 yX8_times cX8_times 2 (some .int) 1 := ⟨gw581, gw583, gw584, gw2, gw582, rfl, by decide +kernel, by decide +kernel, by decide +kernel⟩
theorem gw585 : ab_gw (.methodLink RL 100 yX9_times) := ⟨tm5 (List.mem_of_getElem? (i := 59) (by decide +kernel)), by decide +kernel⟩
theorem gw586 : ab_gw (.code yX9_times cX9_times 3 (some .int)) := ⟨tm5 (List.mem_of_getElem? (i := 62) (by decide +kernel)), by decide +kernel⟩
theorem gw587 : ab_gw (.instanceMethod yX9_times) := ⟨tm5 (List.mem_of_getElem? (i := 60) (by decide +kernel)), by decide +kernel⟩
theorem gw588 : ab_gw (.selects RX9 yX9_times yX9_times) := ⟨tm5 (List.mem_of_getElem? (i := 61) (by decide +kernel)), by decide +kernel⟩
theorem cl_RL_100 : ab_cv RL 100 RX9 yX9_times cX9_times 3 (some .int) 1 := ⟨gw585, gw587, gw588, gw434, gw586, rfl, by decide +kernel, by decide +kernel, by decide +kernel⟩
theorem gw589 : ab_gw (.methodLink RL 101 yX8_sheet) := ⟨tm3 (List.mem_of_getElem? (i := 215) (by decide +kernel)), by decide +kernel⟩
theorem gw590 : ab_gw (.code yX8_sheet cX8_sheet 4 (some .int)) := ⟨tm3 (List.mem_of_getElem? (i := 218) (by decide +kernel)), by decide +kernel⟩
theorem gw591 : ab_gw (.instanceMethod yX8_sheet) := ⟨tm3 (List.mem_of_getElem? (i := 216) (by decide +kernel)), by decide +kernel⟩
theorem gw592 : ab_gw (.selects RX8 yX8_sheet yX8_sheet) := ⟨tm3 (List.mem_of_getElem? (i := 217) (by decide +kernel)), by decide +kernel⟩
theorem cl_RL_101 : ab_cv RL 101 RX8 yX8_sheet cX8_sheet 4 (some .int) 3 := ⟨gw589, gw591, gw592, gw2, gw590, rfl, by decide +kernel, by decide +kernel, by decide +kernel⟩
theorem gw593 : ab_gw (.methodLink RL 104 yX9_sheet) := ⟨tm5 (List.mem_of_getElem? (i := 64) (by decide +kernel)), by decide +kernel⟩
theorem gw594 : ab_gw (.code yX9_sheet cX9_sheet 5 (some .int)) := ⟨tm5 (List.mem_of_getElem? (i := 67) (by decide +kernel)), by decide +kernel⟩
theorem gw595 : ab_gw (.instanceMethod yX9_sheet) := ⟨tm5 (List.mem_of_getElem? (i := 65) (by decide +kernel)), by decide +kernel⟩
theorem gw596 : ab_gw (.selects RX9 yX9_sheet yX9_sheet) := ⟨tm5 (List.mem_of_getElem? (i := 66) (by decide +kernel)), by decide +kernel⟩
theorem cl_RL_104 : ab_cv RL 104 RX9 yX9_sheet cX9_sheet 5 (some .int) 3 := ⟨gw593, gw595, gw596, gw434, gw594, rfl, by decide +kernel, by decide +kernel, by decide +kernel⟩
theorem gw597 : ab_gw (.methodLink RL 105 yX8_drop) := ⟨tm3 (List.mem_of_getElem? (i := 232) (by decide +kernel)), by decide +kernel⟩
theorem gw598 : ab_gw (.code yX8_drop cX8_drop 2 (some .int)) := ⟨tm3 (List.mem_of_getElem? (i := 235) (by decide +kernel)), by decide +kernel⟩
theorem gw599 : ab_gw (.instanceMethod yX8_drop) := ⟨tm3 (List.mem_of_getElem? (i := 233) (by decide +kernel)), by decide +kernel⟩
theorem gw600 : ab_gw (.selects RX8 yX8_drop yX8_drop) := ⟨tm3 (List.mem_of_getElem? (i := 234) (by decide +kernel)), by decide +kernel⟩
theorem cl_RL_105 : ab_cv RL 105 RX8 yX8_drop cX8_drop 2 (some .int) 1 := ⟨gw597, gw599, gw600, gw2, gw598, rfl, by decide +kernel, by decide +kernel, by decide +kernel⟩
theorem gw601 : ab_gw (.methodLink RL 108 yX9_drop) := ⟨tm5 (List.mem_of_getElem? (i := 71) (by decide +kernel)), by decide +kernel⟩
theorem gw602 : ab_gw (.code yX9_drop cX9_drop 2 (some .int)) := ⟨tm5 (List.mem_of_getElem? (i := 74) (by decide +kernel)), by decide +kernel⟩
theorem gw603 : ab_gw (.instanceMethod yX9_drop) := ⟨tm5 (List.mem_of_getElem? (i := 72) (by decide +kernel)), by decide +kernel⟩
theorem gw604 : ab_gw (.selects RX9 yX9_drop yX9_drop) := ⟨tm5 (List.mem_of_getElem? (i := 73) (by decide +kernel)), by decide +kernel⟩
theorem cl_RL_108 : ab_cv RL 108 RX9 yX9_drop cX9_drop 2 (some .int) 1 := ⟨gw601, gw603, gw604, gw434, gw602, rfl, by decide +kernel, by decide +kernel, by decide +kernel⟩
theorem gw605 : ab_gw (.methodLink RL 109 yX8_item) := ⟨tm4 (List.mem_of_getElem? (i := 4) (by decide +kernel)), by decide +kernel⟩
theorem gw606 : ab_gw (.code yX8_item cX8_item 6 (some .int)) := ⟨tm4 (List.mem_of_getElem? (i := 7) (by decide +kernel)), by decide +kernel⟩
theorem gw607 : ab_gw (.instanceMethod yX8_item) := ⟨tm4 (List.mem_of_getElem? (i := 5) (by decide +kernel)), by decide +kernel⟩
theorem gw608 : ab_gw (.selects RX8 yX8_item yX8_item) := ⟨tm4 (List.mem_of_getElem? (i := 6) (by decide +kernel)), by decide +kernel⟩
theorem cl_RL_109 : ab_cv RL 109 RX8 yX8_item cX8_item 6 (some .int) 4 := ⟨gw605, gw607, gw608, gw2, gw606, rfl, by decide +kernel, by decide +kernel, by decide +kernel⟩
theorem gw609 : ab_gw (.methodLink RL 113 yX9_item) := ⟨tm5 (List.mem_of_getElem? (i := 75) (by decide +kernel)), by decide +kernel⟩
theorem gw610 : ab_gw (.code yX9_item cX9_item 5 (some .int)) := ⟨tm5 (List.mem_of_getElem? (i := 78) (by decide +kernel)), by decide +kernel⟩
theorem gw611 : ab_gw (.instanceMethod yX9_item) := ⟨tm5 (List.mem_of_getElem? (i := 76) (by decide +kernel)), by decide +kernel⟩
theorem gw612 : ab_gw (.selects RX9 yX9_item yX9_item) := ⟨tm5 (List.mem_of_getElem? (i := 77) (by decide +kernel)), by decide +kernel⟩
theorem cl_RL_113 : ab_cv RL 113 RX9 yX9_item cX9_item 5 (some .int) 4 := ⟨gw609, gw611, gw612, gw434, gw610, rfl, by decide +kernel, by decide +kernel, by decide +kernel⟩
theorem gw613 : ab_gw (.methodLink RL 114 yX8_laws) := ⟨tm4 (List.mem_of_getElem? (i := 24) (by decide +kernel)), by decide +kernel⟩
theorem gw614 : ab_gw (.code yX8_laws cX8_laws 7 (some .int)) := ⟨tm4 (List.mem_of_getElem? (i := 27) (by decide +kernel)), by decide +kernel⟩
theorem gw615 : ab_gw (.instanceMethod yX8_laws) := ⟨tm4 (List.mem_of_getElem? (i := 25) (by decide +kernel)), by decide +kernel⟩
theorem gw616 : ab_gw (.selects RX8 yX8_laws yX8_laws) := ⟨tm4 (List.mem_of_getElem? (i := 26) (by decide +kernel)), by decide +kernel⟩
theorem cl_RL_114 : ab_cv RL 114 RX8 yX8_laws cX8_laws 7 (some .int) 4 := ⟨gw613, gw615, gw616, gw2, gw614, rfl, by decide +kernel, by decide +kernel, by decide +kernel⟩
theorem gw617 : ab_gw (.methodLink RL 117 yX9_laws) := ⟨tm5 (List.mem_of_getElem? (i := 79) (by decide +kernel)), by decide +kernel⟩
theorem gw618 : ab_gw (.code yX9_laws cX9_laws 8 (some .int)) := ⟨tm5 (List.mem_of_getElem? (i := 82) (by decide +kernel)), by decide +kernel⟩
theorem gw619 : ab_gw (.instanceMethod yX9_laws) := ⟨tm5 (List.mem_of_getElem? (i := 80) (by decide +kernel)), by decide +kernel⟩
theorem gw620 : ab_gw (.selects RX9 yX9_laws yX9_laws) := ⟨tm5 (List.mem_of_getElem? (i := 81) (by decide +kernel)), by decide +kernel⟩
theorem cl_RL_117 : ab_cv RL 117 RX9 yX9_laws cX9_laws 8 (some .int) 4 := ⟨gw617, gw619, gw620, gw434, gw618, rfl, by decide +kernel, by decide +kernel, by decide +kernel⟩
theorem gw621 : ab_gw (.methodLink RX9 76 yX9_start) := ⟨tm4 (List.mem_of_getElem? (i := 43) (by decide +kernel)), by decide +kernel⟩
theorem gw622 : ab_gw (.code yX9_start cX9_start 2 none) := ⟨tm4 (List.mem_of_getElem? (i := 46) (by decide +kernel)), by decide +kernel⟩
theorem gw623 : ab_gw (.instanceMethod yX9_start) := ⟨tm4 (List.mem_of_getElem? (i := 45) (by decide +kernel)), by decide +kernel⟩
theorem gw624 : ab_gw (.selects RX9 yX9_start yX9_start) := ⟨tm0 (List.mem_of_getElem? (i := 30) (by decide +kernel)), by decide +kernel⟩
theorem cl_RX9_76 : ab_cv RX9 76 RX9 yX9_start cX9_start 2 none 0 := ⟨gw621, gw623, gw624, gw434, gw622, rfl, by decide +kernel, by decide +kernel, by decide +kernel⟩
theorem gw625 : ab_gw (.methodLink RX9 90 yX9_in) := ⟨tm4 (List.mem_of_getElem? (i := 132) (by decide +kernel)), by decide +kernel⟩
theorem gw626 : ab_gw (.code yX9_in cX9_in 6 (some .boolean)) := ⟨tm4 (List.mem_of_getElem? (i := 134) (by decide +kernel)), by decide +kernel⟩
theorem gw627 : ab_gw (.static yX9_in) := ⟨tm4 (List.mem_of_getElem? (i := 133) (by decide +kernel)), by decide +kernel⟩
theorem cl_RX9_90 : ab_cs RX9 90 yX9_in cX9_in 6 (some .boolean) 3 := ⟨gw625, gw627, gw434, gw626, by decide +kernel, by decide +kernel, by decide +kernel⟩
theorem gw628 : ab_gw (.methodLink RX9 110 yX9_next) := ⟨tm4 (List.mem_of_getElem? (i := 152) (by decide +kernel)), by decide +kernel⟩
theorem gw629 : ab_gw (.code yX9_next cX9_next 1 (some .int)) := ⟨tm4 (List.mem_of_getElem? (i := 155) (by decide +kernel)), by decide +kernel⟩
theorem gw630 : ab_gw (.instanceMethod yX9_next) := ⟨tm4 (List.mem_of_getElem? (i := 154) (by decide +kernel)), by decide +kernel⟩
theorem gw631 : ab_gw (.selects RX9 yX9_next yX9_next) := ⟨tm0 (List.mem_of_getElem? (i := 32) (by decide +kernel)), by decide +kernel⟩
theorem cl_RX9_110 : ab_cv RX9 110 RX9 yX9_next cX9_next 1 (some .int) 0 := ⟨gw628, gw630, gw631, gw434, gw629, rfl, by decide +kernel, by decide +kernel, by decide +kernel⟩
theorem gw632 : ab_gw (.methodLink RX9 118 yX9_readTerm) := ⟨tm4 (List.mem_of_getElem? (i := 156) (by decide +kernel)), by decide +kernel⟩
theorem gw633 : ab_gw (.code yX9_readTerm cX9_readTerm 9 (some .boolean)) := ⟨tm4 (List.mem_of_getElem? (i := 159) (by decide +kernel)), by decide +kernel⟩
theorem gw634 : ab_gw (.instanceMethod yX9_readTerm) := ⟨tm4 (List.mem_of_getElem? (i := 158) (by decide +kernel)), by decide +kernel⟩
theorem gw635 : ab_gw (.selects RX9 yX9_readTerm yX9_readTerm) := ⟨tm0 (List.mem_of_getElem? (i := 33) (by decide +kernel)), by decide +kernel⟩
theorem cl_RX9_118 : ab_cv RX9 118 RX9 yX9_readTerm cX9_readTerm 9 (some .boolean) 1 := ⟨gw632, gw634, gw635, gw434, gw633, rfl, by decide +kernel, by decide +kernel, by decide +kernel⟩
theorem gw636 : ab_gw (.methodLink RX9 122 yX9_readSum) := ⟨tm4 (List.mem_of_getElem? (i := 148) (by decide +kernel)), by decide +kernel⟩
theorem gw637 : ab_gw (.code yX9_readSum cX9_readSum 3 (some .boolean)) := ⟨tm4 (List.mem_of_getElem? (i := 151) (by decide +kernel)), by decide +kernel⟩
theorem gw638 : ab_gw (.instanceMethod yX9_readSum) := ⟨tm4 (List.mem_of_getElem? (i := 150) (by decide +kernel)), by decide +kernel⟩
theorem gw639 : ab_gw (.selects RX9 yX9_readSum yX9_readSum) := ⟨tm0 (List.mem_of_getElem? (i := 31) (by decide +kernel)), by decide +kernel⟩
theorem cl_RX9_122 : ab_cv RX9 122 RX9 yX9_readSum cX9_readSum 3 (some .boolean) 0 := ⟨gw636, gw638, gw639, gw434, gw637, rfl, by decide +kernel, by decide +kernel, by decide +kernel⟩
theorem gw640 : ab_gw (.methodLink RX9 128 yX9_add) := ⟨tm4 (List.mem_of_getElem? (i := 163) (by decide +kernel)), by decide +kernel⟩
theorem gw641 : ab_gw (.code yX9_add cX9_add 3 (some .int)) := ⟨tm4 (List.mem_of_getElem? (i := 166) (by decide +kernel)), by decide +kernel⟩
theorem gw642 : ab_gw (.instanceMethod yX9_add) := ⟨tm4 (List.mem_of_getElem? (i := 165) (by decide +kernel)), by decide +kernel⟩
theorem gw643 : ab_gw (.selects RX9 yX9_add yX9_add) := ⟨tm0 (List.mem_of_getElem? (i := 34) (by decide +kernel)), by decide +kernel⟩
theorem cl_RX9_128 : ab_cv RX9 128 RX9 yX9_add cX9_add 3 (some .int) 1 := ⟨gw640, gw642, gw643, gw434, gw641, rfl, by decide +kernel, by decide +kernel, by decide +kernel⟩
theorem gw644 : ab_gw (.methodLink RX9 134 yX9_inverse) := ⟨tm4 (List.mem_of_getElem? (i := 200) (by decide +kernel)), by decide +kernel⟩
theorem gw645 : ab_gw (.code yX9_inverse cX9_inverse 3 (some .int)) := ⟨tm4 (List.mem_of_getElem? (i := 203) (by decide +kernel)), by decide +kernel⟩
theorem gw646 : ab_gw (.instanceMethod yX9_inverse) := ⟨tm4 (List.mem_of_getElem? (i := 202) (by decide +kernel)), by decide +kernel⟩
theorem gw647 : ab_gw (.selects RX9 yX9_inverse yX9_inverse) := ⟨tm0 (List.mem_of_getElem? (i := 40) (by decide +kernel)), by decide +kernel⟩
theorem cl_RX9_134 : ab_cv RX9 134 RX9 yX9_inverse cX9_inverse 3 (some .int) 1 := ⟨gw644, gw646, gw647, gw434, gw645, rfl, by decide +kernel, by decide +kernel, by decide +kernel⟩
theorem gw648 : ab_gw (.methodLink RX9 137 yX9_clearRow) := ⟨tm4 (List.mem_of_getElem? (i := 192) (by decide +kernel)), by decide +kernel⟩
theorem gw649 : ab_gw (.code yX9_clearRow cX9_clearRow 2 none) := ⟨tm4 (List.mem_of_getElem? (i := 195) (by decide +kernel)), by decide +kernel⟩
theorem gw650 : ab_gw (.instanceMethod yX9_clearRow) := ⟨tm4 (List.mem_of_getElem? (i := 194) (by decide +kernel)), by decide +kernel⟩
theorem gw651 : ab_gw (.selects RX9 yX9_clearRow yX9_clearRow) := ⟨tm0 (List.mem_of_getElem? (i := 38) (by decide +kernel)), by decide +kernel⟩
theorem cl_RX9_137 : ab_cv RX9 137 RX9 yX9_clearRow cX9_clearRow 2 none 0 := ⟨gw648, gw650, gw651, gw434, gw649, rfl, by decide +kernel, by decide +kernel, by decide +kernel⟩
theorem gw652 : ab_gw (.methodLink RX9 140 yX9_insert) := ⟨tm4 (List.mem_of_getElem? (i := 196) (by decide +kernel)), by decide +kernel⟩
theorem gw653 : ab_gw (.code yX9_insert cX9_insert 8 none) := ⟨tm4 (List.mem_of_getElem? (i := 199) (by decide +kernel)), by decide +kernel⟩
theorem gw654 : ab_gw (.instanceMethod yX9_insert) := ⟨tm4 (List.mem_of_getElem? (i := 198) (by decide +kernel)), by decide +kernel⟩
theorem gw655 : ab_gw (.selects RX9 yX9_insert yX9_insert) := ⟨tm0 (List.mem_of_getElem? (i := 39) (by decide +kernel)), by decide +kernel⟩
theorem cl_RX9_140 : ab_cv RX9 140 RX9 yX9_insert cX9_insert 8 none 3 := ⟨gw652, gw654, gw655, gw434, gw653, rfl, by decide +kernel, by decide +kernel, by decide +kernel⟩
theorem gw656 : ab_gw (.methodLink RX9 144 yX9_grow) := ⟨tm4 (List.mem_of_getElem? (i := 188) (by decide +kernel)), by decide +kernel⟩
theorem gw657 : ab_gw (.code yX9_grow cX9_grow 8 none) := ⟨tm4 (List.mem_of_getElem? (i := 191) (by decide +kernel)), by decide +kernel⟩
theorem gw658 : ab_gw (.instanceMethod yX9_grow) := ⟨tm4 (List.mem_of_getElem? (i := 190) (by decide +kernel)), by decide +kernel⟩
theorem gw659 : ab_gw (.selects RX9 yX9_grow yX9_grow) := ⟨tm0 (List.mem_of_getElem? (i := 37) (by decide +kernel)), by decide +kernel⟩
theorem cl_RX9_144 : ab_cv RX9 144 RX9 yX9_grow cX9_grow 8 none 3 := ⟨gw656, gw658, gw659, gw434, gw657, rfl, by decide +kernel, by decide +kernel, by decide +kernel⟩
theorem gw660 : ab_gw (.methodLink RX9 147 yX9_tidy) := ⟨tm4 (List.mem_of_getElem? (i := 204) (by decide +kernel)), by decide +kernel⟩
theorem gw661 : ab_gw (.code yX9_tidy cX9_tidy 10 none) := ⟨tm4 (List.mem_of_getElem? (i := 207) (by decide +kernel)), by decide +kernel⟩
theorem gw662 : ab_gw (.instanceMethod yX9_tidy) := ⟨tm4 (List.mem_of_getElem? (i := 206) (by decide +kernel)), by decide +kernel⟩
theorem gw663 : ab_gw (.selects RX9 yX9_tidy yX9_tidy) := ⟨tm0 (List.mem_of_getElem? (i := 41) (by decide +kernel)), by decide +kernel⟩
theorem cl_RX9_147 : ab_cv RX9 147 RX9 yX9_tidy cX9_tidy 10 none 3 := ⟨gw660, gw662, gw663, gw434, gw661, rfl, by decide +kernel, by decide +kernel, by decide +kernel⟩
theorem gw664 : ab_gw (.methodLink RX9 153 yX9_find) := ⟨tm4 (List.mem_of_getElem? (i := 184) (by decide +kernel)), by decide +kernel⟩
theorem gw665 : ab_gw (.code yX9_find cX9_find 4 none) := ⟨tm4 (List.mem_of_getElem? (i := 187) (by decide +kernel)), by decide +kernel⟩
theorem gw666 : ab_gw (.instanceMethod yX9_find) := ⟨tm4 (List.mem_of_getElem? (i := 186) (by decide +kernel)), by decide +kernel⟩
theorem gw667 : ab_gw (.selects RX9 yX9_find yX9_find) := ⟨tm0 (List.mem_of_getElem? (i := 36) (by decide +kernel)), by decide +kernel⟩
theorem cl_RX9_153 : ab_cv RX9 153 RX9 yX9_find cX9_find 4 none 0 := ⟨gw664, gw666, gw667, gw434, gw665, rfl, by decide +kernel, by decide +kernel, by decide +kernel⟩
theorem gw668 : ab_gw (.methodLink RX9 156 yX9_isLength) := ⟨tm4 (List.mem_of_getElem? (i := 180) (by decide +kernel)), by decide +kernel⟩
theorem gw669 : ab_gw (.code yX9_isLength cX9_isLength 2 (some .boolean)) := ⟨tm4 (List.mem_of_getElem? (i := 183) (by decide +kernel)), by decide +kernel⟩
theorem gw670 : ab_gw (.instanceMethod yX9_isLength) := ⟨tm4 (List.mem_of_getElem? (i := 182) (by decide +kernel)), by decide +kernel⟩
theorem gw671 : ab_gw (.selects RX9 yX9_isLength yX9_isLength) := ⟨tm0 (List.mem_of_getElem? (i := 35) (by decide +kernel)), by decide +kernel⟩
theorem cl_RX9_156 : ab_cv RX9 156 RX9 yX9_isLength cX9_isLength 2 (some .boolean) 1 := ⟨gw668, gw670, gw671, gw434, gw669, rfl, by decide +kernel, by decide +kernel, by decide +kernel⟩
theorem gw672 : ab_gw (.methodLink RX9 159 yX9_normalIn) := ⟨tm4 (List.mem_of_getElem? (i := 208) (by decide +kernel)), by decide +kernel⟩
theorem gw673 : ab_gw (.code yX9_normalIn cX9_normalIn 5 (some .int)) := ⟨tm4 (List.mem_of_getElem? (i := 211) (by decide +kernel)), by decide +kernel⟩
theorem gw674 : ab_gw (.instanceMethod yX9_normalIn) := ⟨tm4 (List.mem_of_getElem? (i := 210) (by decide +kernel)), by decide +kernel⟩
theorem gw675 : ab_gw (.selects RX9 yX9_normalIn yX9_normalIn) := ⟨tm0 (List.mem_of_getElem? (i := 42) (by decide +kernel)), by decide +kernel⟩
theorem cl_RX9_159 : ab_cv RX9 159 RX9 yX9_normalIn cX9_normalIn 5 (some .int) 2 := ⟨gw672, gw674, gw675, gw434, gw673, rfl, by decide +kernel, by decide +kernel, by decide +kernel⟩
theorem gw676 : ab_gw (.methodLink RX9 163 yX9_isWord) := ⟨tm4 (List.mem_of_getElem? (i := 216) (by decide +kernel)), by decide +kernel⟩
theorem gw677 : ab_gw (.code yX9_isWord cX9_isWord 3 (some .boolean)) := ⟨tm4 (List.mem_of_getElem? (i := 219) (by decide +kernel)), by decide +kernel⟩
theorem gw678 : ab_gw (.instanceMethod yX9_isWord) := ⟨tm4 (List.mem_of_getElem? (i := 218) (by decide +kernel)), by decide +kernel⟩
theorem gw679 : ab_gw (.selects RX9 yX9_isWord yX9_isWord) := ⟨tm0 (List.mem_of_getElem? (i := 43) (by decide +kernel)), by decide +kernel⟩
theorem cl_RX9_163 : ab_cv RX9 163 RX9 yX9_isWord cX9_isWord 3 (some .boolean) 2 := ⟨gw676, gw678, gw679, gw434, gw677, rfl, by decide +kernel, by decide +kernel, by decide +kernel⟩
theorem gw680 : ab_gw (.methodLink RX9 167 yX9_wordOf) := ⟨tm4 (List.mem_of_getElem? (i := 224) (by decide +kernel)), by decide +kernel⟩
theorem gw681 : ab_gw (.code yX9_wordOf cX9_wordOf 5 (some .int)) := ⟨tm4 (List.mem_of_getElem? (i := 227) (by decide +kernel)), by decide +kernel⟩
theorem gw682 : ab_gw (.instanceMethod yX9_wordOf) := ⟨tm4 (List.mem_of_getElem? (i := 226) (by decide +kernel)), by decide +kernel⟩
theorem gw683 : ab_gw (.selects RX9 yX9_wordOf yX9_wordOf) := ⟨tm0 (List.mem_of_getElem? (i := 44) (by decide +kernel)), by decide +kernel⟩
theorem cl_RX9_167 : ab_cv RX9 167 RX9 yX9_wordOf cX9_wordOf 5 (some .int) 2 := ⟨gw680, gw682, gw683, gw434, gw681, rfl, by decide +kernel, by decide +kernel, by decide +kernel⟩
theorem gw684 : ab_gw (.methodLink RX9 171 yX9_plainOf) := ⟨tm4 (List.mem_of_getElem? (i := 232) (by decide +kernel)), by decide +kernel⟩
theorem gw685 : ab_gw (.code yX9_plainOf cX9_plainOf 4 (some .int)) := ⟨tm4 (List.mem_of_getElem? (i := 235) (by decide +kernel)), by decide +kernel⟩
theorem gw686 : ab_gw (.instanceMethod yX9_plainOf) := ⟨tm4 (List.mem_of_getElem? (i := 234) (by decide +kernel)), by decide +kernel⟩
theorem gw687 : ab_gw (.selects RX9 yX9_plainOf yX9_plainOf) := ⟨tm0 (List.mem_of_getElem? (i := 45) (by decide +kernel)), by decide +kernel⟩
theorem cl_RX9_171 : ab_cv RX9 171 RX9 yX9_plainOf cX9_plainOf 4 (some .int) 3 := ⟨gw684, gw686, gw687, gw434, gw685, rfl, by decide +kernel, by decide +kernel, by decide +kernel⟩
theorem gw688 : ab_gw (.methodLink RX9 175 yX9_isLeast) := ⟨tm5 (List.mem_of_getElem? (i := 0) (by decide +kernel)), by decide +kernel⟩
theorem gw689 : ab_gw (.code yX9_isLeast cX9_isLeast 4 (some .boolean)) := ⟨tm5 (List.mem_of_getElem? (i := 3) (by decide +kernel)), by decide +kernel⟩
theorem gw690 : ab_gw (.instanceMethod yX9_isLeast) := ⟨tm5 (List.mem_of_getElem? (i := 2) (by decide +kernel)), by decide +kernel⟩
theorem gw691 : ab_gw (.selects RX9 yX9_isLeast yX9_isLeast) := ⟨tm0 (List.mem_of_getElem? (i := 46) (by decide +kernel)), by decide +kernel⟩
theorem cl_RX9_175 : ab_cv RX9 175 RX9 yX9_isLeast cX9_isLeast 4 (some .boolean) 2 := ⟨gw688, gw690, gw691, gw434, gw689, rfl, by decide +kernel, by decide +kernel, by decide +kernel⟩
theorem gw692 : ab_gw (.methodLink RX9 178 yX9_termsOf) := ⟨tm5 (List.mem_of_getElem? (i := 4) (by decide +kernel)), by decide +kernel⟩
theorem gw693 : ab_gw (.code yX9_termsOf cX9_termsOf 5 (some .int)) := ⟨tm5 (List.mem_of_getElem? (i := 6) (by decide +kernel)), by decide +kernel⟩
theorem gw694 : ab_gw (.static yX9_termsOf) := ⟨tm5 (List.mem_of_getElem? (i := 5) (by decide +kernel)), by decide +kernel⟩
theorem cl_RX9_178 : ab_cs RX9 178 yX9_termsOf cX9_termsOf 5 (some .int) 3 := ⟨gw692, gw694, gw434, gw693, by decide +kernel, by decide +kernel, by decide +kernel⟩
theorem gw695 : ab_gw (.methodLink RX9 182 yX9_tell) := ⟨tm5 (List.mem_of_getElem? (i := 15) (by decide +kernel)), by decide +kernel⟩
theorem gw696 : ab_gw (.code yX9_tell cX9_tell 6 (some .int)) := ⟨tm5 (List.mem_of_getElem? (i := 18) (by decide +kernel)), by decide +kernel⟩
theorem gw697 : ab_gw (.instanceMethod yX9_tell) := ⟨tm5 (List.mem_of_getElem? (i := 17) (by decide +kernel)), by decide +kernel⟩
theorem gw698 : ab_gw (.selects RX9 yX9_tell yX9_tell) := ⟨tm0 (List.mem_of_getElem? (i := 47) (by decide +kernel)), by decide +kernel⟩
theorem cl_RX9_182 : ab_cv RX9 182 RX9 yX9_tell cX9_tell 6 (some .int) 1 := ⟨gw695, gw697, gw698, gw434, gw696, rfl, by decide +kernel, by decide +kernel, by decide +kernel⟩
theorem gw699 : ab_gw (.methodLink RX9 185 yX9_areShort) := ⟨tm5 (List.mem_of_getElem? (i := 23) (by decide +kernel)), by decide +kernel⟩
theorem gw700 : ab_gw (.code yX9_areShort cX9_areShort 3 (some .boolean)) := ⟨tm5 (List.mem_of_getElem? (i := 26) (by decide +kernel)), by decide +kernel⟩
theorem gw701 : ab_gw (.instanceMethod yX9_areShort) := ⟨tm5 (List.mem_of_getElem? (i := 25) (by decide +kernel)), by decide +kernel⟩
theorem gw702 : ab_gw (.selects RX9 yX9_areShort yX9_areShort) := ⟨tm0 (List.mem_of_getElem? (i := 48) (by decide +kernel)), by decide +kernel⟩
theorem cl_RX9_185 : ab_cv RX9 185 RX9 yX9_areShort cX9_areShort 3 (some .boolean) 0 := ⟨gw699, gw701, gw702, gw434, gw700, rfl, by decide +kernel, by decide +kernel, by decide +kernel⟩
theorem gw703 : ab_gw (.methodLink RX9 188 yX9_findOther) := ⟨tm5 (List.mem_of_getElem? (i := 27) (by decide +kernel)), by decide +kernel⟩
theorem gw704 : ab_gw (.code yX9_findOther cX9_findOther 3 none) := ⟨tm5 (List.mem_of_getElem? (i := 30) (by decide +kernel)), by decide +kernel⟩
theorem gw705 : ab_gw (.instanceMethod yX9_findOther) := ⟨tm5 (List.mem_of_getElem? (i := 29) (by decide +kernel)), by decide +kernel⟩
theorem gw706 : ab_gw (.selects RX9 yX9_findOther yX9_findOther) := ⟨tm0 (List.mem_of_getElem? (i := 49) (by decide +kernel)), by decide +kernel⟩
theorem cl_RX9_188 : ab_cv RX9 188 RX9 yX9_findOther cX9_findOther 3 none 0 := ⟨gw703, gw705, gw706, gw434, gw704, rfl, by decide +kernel, by decide +kernel, by decide +kernel⟩
theorem gw707 : ab_gw (.methodLink RX9 191 yX9_leastMany) := ⟨tm5 (List.mem_of_getElem? (i := 39) (by decide +kernel)), by decide +kernel⟩
theorem gw708 : ab_gw (.code yX9_leastMany cX9_leastMany 4 (some .int)) := ⟨tm5 (List.mem_of_getElem? (i := 42) (by decide +kernel)), by decide +kernel⟩
theorem gw709 : ab_gw (.instanceMethod yX9_leastMany) := ⟨tm5 (List.mem_of_getElem? (i := 41) (by decide +kernel)), by decide +kernel⟩
theorem gw710 : ab_gw (.selects RX9 yX9_leastMany yX9_leastMany) := ⟨tm0 (List.mem_of_getElem? (i := 50) (by decide +kernel)), by decide +kernel⟩
theorem cl_RX9_191 : ab_cv RX9 191 RX9 yX9_leastMany cX9_leastMany 4 (some .int) 0 := ⟨gw707, gw709, gw710, gw434, gw708, rfl, by decide +kernel, by decide +kernel, by decide +kernel⟩
theorem gw711 : ab_gw (.methodLink RX9 196 yX9_isSheet) := ⟨tm5 (List.mem_of_getElem? (i := 68) (by decide +kernel)), by decide +kernel⟩
theorem gw712 : ab_gw (.code yX9_isSheet cX9_isSheet 2 (some .boolean)) := ⟨tm5 (List.mem_of_getElem? (i := 70) (by decide +kernel)), by decide +kernel⟩
theorem gw713 : ab_gw (.static yX9_isSheet) := ⟨tm5 (List.mem_of_getElem? (i := 69) (by decide +kernel)), by decide +kernel⟩
theorem cl_RX9_196 : ab_cs RX9 196 yX9_isSheet cX9_isSheet 2 (some .boolean) 2 := ⟨gw711, gw713, gw434, gw712, by decide +kernel, by decide +kernel, by decide +kernel⟩
theorem gw714 : ab_gw (.static Lib.Math.min.name) := ⟨tm2 (List.mem_of_getElem? (i := 28) (by decide +kernel)), by decide +kernel⟩
theorem gw715 : ab_gw (.initialized "java/lang/Math") := ⟨tm1 (List.mem_of_getElem? (i := 12) (by decide +kernel)), by decide +kernel⟩
theorem gw716 : ab_gw (.code Lib.Math.min.name Lib.Math.min.code 2 (some .int)) := ⟨tm2 (List.mem_of_getElem? (i := 29) (by decide +kernel)), by decide +kernel⟩
theorem gw717 : ab_gw (.static Lib.Math.max.name) := ⟨tm3 (List.mem_of_getElem? (i := 128) (by decide +kernel)), by decide +kernel⟩
theorem gw718 : ab_gw (.code Lib.Math.max.name Lib.Math.max.code 2 (some .int)) := ⟨tm3 (List.mem_of_getElem? (i := 129) (by decide +kernel)), by decide +kernel⟩
theorem gw719 : ab_gw (.native arraycopyName) := ⟨tm3 (List.mem_of_getElem? (i := 19) (by decide +kernel)), by decide +kernel⟩
theorem gw720 : ab_gw (.static arraycopyName) := ⟨tm3 (List.mem_of_getElem? (i := 18) (by decide +kernel)), by decide +kernel⟩
theorem gw721 : ab_gw (.initialized "java/lang/System") := ⟨tm1 (List.mem_of_getElem? (i := 13) (by decide +kernel)), by decide +kernel⟩
theorem gw722 : ab_gw (.fieldLink RX0 10 "WordLaws$Algebra" "forms" "[I") := ⟨tm1 (List.mem_of_getElem? (i := 133) (by decide +kernel)), by decide +kernel⟩
theorem gf_RX0_10 {K : AbK} {cc : ByteArray} {rm : Room} (C : Cx K cc RX0 rm) {S : List AbS} {pc : Nat} {lv st : List AbV} {M : AbM} {k : Nat} {fs : List (Option Nat)} {q : Nat} (hk : S[k]? = some (sO 0 fs)) (hf : fs[2]? = some (some q)) (hd : decode cc pc = .ok (.getfield 10, 3)) (h : AJ K S (pc + 3) lv (vP q :: st) M) : AJ K S pc lv (vP k :: st) M := ab_getP C (T := TX0) (j := 2) (ab_inws inX0 goX0) rfl (by decide) gw722 hk hf hd h
theorem gw723 : ab_gw (.fieldLink RX0 16 "WordLaws$Algebra" "leading" "[Z") := ⟨tm1 (List.mem_of_getElem? (i := 134) (by decide +kernel)), by decide +kernel⟩
theorem gf_RX0_16 {K : AbK} {cc : ByteArray} {rm : Room} (C : Cx K cc RX0 rm) {S : List AbS} {pc : Nat} {lv st : List AbV} {M : AbM} {k : Nat} {fs : List (Option Nat)} {q : Nat} (hk : S[k]? = some (sO 0 fs)) (hf : fs[3]? = some (some q)) (hd : decode cc pc = .ok (.getfield 16, 3)) (h : AJ K S (pc + 3) lv (vP q :: st) M) : AJ K S pc lv (vP k :: st) M := ab_getP C (T := TX0) (j := 3) (ab_inws inX0 goX0) rfl (by decide) gw723 hk hf hd h
theorem gw724 : ab_gw (.fieldLink RX0 20 "WordLaws$Algebra" "normals" "[I") := ⟨tm1 (List.mem_of_getElem? (i := 135) (by decide +kernel)), by decide +kernel⟩
theorem gf_RX0_20 {K : AbK} {cc : ByteArray} {rm : Room} (C : Cx K cc RX0 rm) {S : List AbS} {pc : Nat} {lv st : List AbV} {M : AbM} {k : Nat} {fs : List (Option Nat)} {q : Nat} (hk : S[k]? = some (sO 0 fs)) (hf : fs[4]? = some (some q)) (hd : decode cc pc = .ok (.getfield 20, 3)) (h : AJ K S (pc + 3) lv (vP q :: st) M) : AJ K S pc lv (vP k :: st) M := ab_getP C (T := TX0) (j := 4) (ab_inws inX0 goX0) rfl (by decide) gw724 hk hf hd h
theorem gw725 : ab_gw (.fieldLink RX0 23 "WordLaws$Algebra" "leasts" "[I") := ⟨tm1 (List.mem_of_getElem? (i := 136) (by decide +kernel)), by decide +kernel⟩
theorem gf_RX0_23 {K : AbK} {cc : ByteArray} {rm : Room} (C : Cx K cc RX0 rm) {S : List AbS} {pc : Nat} {lv st : List AbV} {M : AbM} {k : Nat} {fs : List (Option Nat)} {q : Nat} (hk : S[k]? = some (sO 0 fs)) (hf : fs[5]? = some (some q)) (hd : decode cc pc = .ok (.getfield 23, 3)) (h : AJ K S (pc + 3) lv (vP q :: st) M) : AJ K S pc lv (vP k :: st) M := ab_getP C (T := TX0) (j := 5) (ab_inws inX0 goX0) rfl (by decide) gw725 hk hf hd h
theorem gw726 : ab_gw (.fieldLink RX0 26 "WordLaws$Algebra" "middles" "[I") := ⟨tm1 (List.mem_of_getElem? (i := 137) (by decide +kernel)), by decide +kernel⟩
theorem gf_RX0_26 {K : AbK} {cc : ByteArray} {rm : Room} (C : Cx K cc RX0 rm) {S : List AbS} {pc : Nat} {lv st : List AbV} {M : AbM} {k : Nat} {fs : List (Option Nat)} {q : Nat} (hk : S[k]? = some (sO 0 fs)) (hf : fs[6]? = some (some q)) (hd : decode cc pc = .ok (.getfield 26, 3)) (h : AJ K S (pc + 3) lv (vP q :: st) M) : AJ K S pc lv (vP k :: st) M := ab_getP C (T := TX0) (j := 6) (ab_inws inX0 goX0) rfl (by decide) gw726 hk hf hd h
theorem gw727 : ab_gw (.fieldLink RX0 29 "WordLaws$Algebra" "form" "[I") := ⟨tm1 (List.mem_of_getElem? (i := 138) (by decide +kernel)), by decide +kernel⟩
theorem gf_RX0_29 {K : AbK} {cc : ByteArray} {rm : Room} (C : Cx K cc RX0 rm) {S : List AbS} {pc : Nat} {lv st : List AbV} {M : AbM} {k : Nat} {fs : List (Option Nat)} {q : Nat} (hk : S[k]? = some (sO 0 fs)) (hf : fs[7]? = some (some q)) (hd : decode cc pc = .ok (.getfield 29, 3)) (h : AJ K S (pc + 3) lv (vP q :: st) M) : AJ K S pc lv (vP k :: st) M := ab_getP C (T := TX0) (j := 7) (ab_inws inX0 goX0) rfl (by decide) gw727 hk hf hd h
theorem gw728 : ab_gw (.fieldLink RX0 32 "WordLaws$Algebra" "ready" "I") := ⟨tm1 (List.mem_of_getElem? (i := 139) (by decide +kernel)), by decide +kernel⟩
theorem gf_RX0_32 {K : AbK} {cc : ByteArray} {rm : Room} (C : Cx K cc RX0 rm) {S : List AbS} {pc : Nat} {lv st : List AbV} {M : AbM} {k : Nat} {fs : List (Option Nat)} (hk : S[k]? = some (sO 0 fs)) (hf : fs[8]? = some none) (hd : decode cc pc = .ok (.getfield 32, 3)) (h : AJ K S (pc + 3) lv (vI (M k 8) :: st) M) : AJ K S pc lv (vP k :: st) M := ab_getI C (T := TX0) (j := 8) (ab_inws inX0 goX0) rfl (by decide) gw728 rfl hk hf hd h
theorem pf_RX0_32 {K : AbK} {cc : ByteArray} {rm : Room} (C : Cx K cc RX0 rm) {S : List AbS} {pc : Nat} {lv st : List AbV} {M : AbM} {k : Nat} {fs : List (Option Nat)} {x : Int} (hk : S[k]? = some (sO 0 fs)) (hf : fs[8]? = some none) (hd : decode cc pc = .ok (.putfield 32, 3)) (h : AJ K S (pc + 3) lv st (up M k 8 x)) : AJ K S pc lv (vI x :: vP k :: st) M := ab_putI C (T := TX0) (j := 8) (ab_inws inX0 goX0) rfl (by decide) gw728 (ty0 := tyX0) tyX0_ok nmX0 rfl rfl (by decide +kernel) hk hf hd h
theorem gw729 : ab_gw (.fieldLink RX0 36 "WordLaws$Algebra" "alphabet" "LWordLaws$Alphabet;") := ⟨tm1 (List.mem_of_getElem? (i := 131) (by decide +kernel)), by decide +kernel⟩
theorem gf_RX0_36 {K : AbK} {cc : ByteArray} {rm : Room} (C : Cx K cc RX0 rm) {S : List AbS} {pc : Nat} {lv st : List AbV} {M : AbM} {k : Nat} {fs : List (Option Nat)} {q : Nat} (hk : S[k]? = some (sO 0 fs)) (hf : fs[0]? = some (some q)) (hd : decode cc pc = .ok (.getfield 36, 3)) (h : AJ K S (pc + 3) lv (vP q :: st) M) : AJ K S pc lv (vP k :: st) M := ab_getP C (T := TX0) (j := 0) (ab_inws inX0 goX0) rfl (by decide) gw729 hk hf hd h
theorem gw730 : ab_gw (.fieldLink RX0 40 "WordLaws$Algebra" "lawList" "LWordLaws$LawList;") := ⟨tm1 (List.mem_of_getElem? (i := 132) (by decide +kernel)), by decide +kernel⟩
theorem gf_RX0_40 {K : AbK} {cc : ByteArray} {rm : Room} (C : Cx K cc RX0 rm) {S : List AbS} {pc : Nat} {lv st : List AbV} {M : AbM} {k : Nat} {fs : List (Option Nat)} {q : Nat} (hk : S[k]? = some (sO 0 fs)) (hf : fs[1]? = some (some q)) (hd : decode cc pc = .ok (.getfield 40, 3)) (h : AJ K S (pc + 3) lv (vP q :: st) M) : AJ K S pc lv (vP k :: st) M := ab_getP C (T := TX0) (j := 1) (ab_inws inX0 goX0) rfl (by decide) gw730 hk hf hd h
theorem gw731 : ab_gw (.fieldLink RX1 15 "WordLaws$Alphabet" "wordStarts" "[I") := ⟨tm1 (List.mem_of_getElem? (i := 35) (by decide +kernel)), by decide +kernel⟩
theorem gf_RX1_15 {K : AbK} {cc : ByteArray} {rm : Room} (C : Cx K cc RX1 rm) {S : List AbS} {pc : Nat} {lv st : List AbV} {M : AbM} {k : Nat} {fs : List (Option Nat)} {q : Nat} (hk : S[k]? = some (sO 1 fs)) (hf : fs[1]? = some (some q)) (hd : decode cc pc = .ok (.getfield 15, 3)) (h : AJ K S (pc + 3) lv (vP q :: st) M) : AJ K S pc lv (vP k :: st) M := ab_getP C (T := TX1) (j := 1) (ab_inws inX1 goX1) rfl (by decide) gw731 hk hf hd h
theorem gw732 : ab_gw (.fieldLink RX1 18 "WordLaws$Alphabet" "formStarts" "[I") := ⟨tm1 (List.mem_of_getElem? (i := 36) (by decide +kernel)), by decide +kernel⟩
theorem gf_RX1_18 {K : AbK} {cc : ByteArray} {rm : Room} (C : Cx K cc RX1 rm) {S : List AbS} {pc : Nat} {lv st : List AbV} {M : AbM} {k : Nat} {fs : List (Option Nat)} {q : Nat} (hk : S[k]? = some (sO 1 fs)) (hf : fs[2]? = some (some q)) (hd : decode cc pc = .ok (.getfield 18, 3)) (h : AJ K S (pc + 3) lv (vP q :: st) M) : AJ K S pc lv (vP k :: st) M := ab_getP C (T := TX1) (j := 2) (ab_inws inX1 goX1) rfl (by decide) gw732 hk hf hd h
theorem gw733 : ab_gw (.fieldLink RX1 25 "WordLaws$Alphabet" "letters" "I") := ⟨tm1 (List.mem_of_getElem? (i := 37) (by decide +kernel)), by decide +kernel⟩
theorem gf_RX1_25 {K : AbK} {cc : ByteArray} {rm : Room} (C : Cx K cc RX1 rm) {S : List AbS} {pc : Nat} {lv st : List AbV} {M : AbM} {k : Nat} {fs : List (Option Nat)} (hk : S[k]? = some (sO 1 fs)) (hf : fs[3]? = some none) (hd : decode cc pc = .ok (.getfield 25, 3)) (h : AJ K S (pc + 3) lv (vI (M k 3) :: st) M) : AJ K S pc lv (vP k :: st) M := ab_getI C (T := TX1) (j := 3) (ab_inws inX1 goX1) rfl (by decide) gw733 rfl hk hf hd h
theorem pf_RX1_25 {K : AbK} {cc : ByteArray} {rm : Room} (C : Cx K cc RX1 rm) {S : List AbS} {pc : Nat} {lv st : List AbV} {M : AbM} {k : Nat} {fs : List (Option Nat)} {x : Int} (hk : S[k]? = some (sO 1 fs)) (hf : fs[3]? = some none) (hd : decode cc pc = .ok (.putfield 25, 3)) (h : AJ K S (pc + 3) lv st (up M k 3 x)) : AJ K S pc lv (vI x :: vP k :: st) M := ab_putI C (T := TX1) (j := 3) (ab_inws inX1 goX1) rfl (by decide) gw733 (ty0 := tyX1) tyX1_ok nmX1 rfl rfl (by decide +kernel) hk hf hd h
theorem gw734 : ab_gw (.fieldLink RX1 29 "WordLaws$Alphabet" "prime" "I") := ⟨tm1 (List.mem_of_getElem? (i := 38) (by decide +kernel)), by decide +kernel⟩
theorem gf_RX1_29 {K : AbK} {cc : ByteArray} {rm : Room} (C : Cx K cc RX1 rm) {S : List AbS} {pc : Nat} {lv st : List AbV} {M : AbM} {k : Nat} {fs : List (Option Nat)} (hk : S[k]? = some (sO 1 fs)) (hf : fs[4]? = some none) (hd : decode cc pc = .ok (.getfield 29, 3)) (h : AJ K S (pc + 3) lv (vI (M k 4) :: st) M) : AJ K S pc lv (vP k :: st) M := ab_getI C (T := TX1) (j := 4) (ab_inws inX1 goX1) rfl (by decide) gw734 rfl hk hf hd h
theorem pf_RX1_29 {K : AbK} {cc : ByteArray} {rm : Room} (C : Cx K cc RX1 rm) {S : List AbS} {pc : Nat} {lv st : List AbV} {M : AbM} {k : Nat} {fs : List (Option Nat)} {x : Int} (hk : S[k]? = some (sO 1 fs)) (hf : fs[4]? = some none) (hd : decode cc pc = .ok (.putfield 29, 3)) (h : AJ K S (pc + 3) lv st (up M k 4 x)) : AJ K S pc lv (vI x :: vP k :: st) M := ab_putI C (T := TX1) (j := 4) (ab_inws inX1 goX1) rfl (by decide) gw734 (ty0 := tyX1) tyX1_ok nmX1 rfl rfl (by decide +kernel) hk hf hd h
theorem gw735 : ab_gw (.fieldLink RX1 35 "WordLaws$Alphabet" "longest" "I") := ⟨tm1 (List.mem_of_getElem? (i := 39) (by decide +kernel)), by decide +kernel⟩
theorem gf_RX1_35 {K : AbK} {cc : ByteArray} {rm : Room} (C : Cx K cc RX1 rm) {S : List AbS} {pc : Nat} {lv st : List AbV} {M : AbM} {k : Nat} {fs : List (Option Nat)} (hk : S[k]? = some (sO 1 fs)) (hf : fs[5]? = some none) (hd : decode cc pc = .ok (.getfield 35, 3)) (h : AJ K S (pc + 3) lv (vI (M k 5) :: st) M) : AJ K S pc lv (vP k :: st) M := ab_getI C (T := TX1) (j := 5) (ab_inws inX1 goX1) rfl (by decide) gw735 rfl hk hf hd h
theorem pf_RX1_35 {K : AbK} {cc : ByteArray} {rm : Room} (C : Cx K cc RX1 rm) {S : List AbS} {pc : Nat} {lv st : List AbV} {M : AbM} {k : Nat} {fs : List (Option Nat)} {x : Int} (hk : S[k]? = some (sO 1 fs)) (hf : fs[5]? = some none) (hd : decode cc pc = .ok (.putfield 35, 3)) (h : AJ K S (pc + 3) lv st (up M k 5 x)) : AJ K S pc lv (vI x :: vP k :: st) M := ab_putI C (T := TX1) (j := 5) (ab_inws inX1 goX1) rfl (by decide) gw735 (ty0 := tyX1) tyX1_ok nmX1 rfl rfl (by decide +kernel) hk hf hd h
theorem gw736 : ab_gw (.fieldLink RX1 9 "WordLaws$Alphabet" "words" "[I") := ⟨tm1 (List.mem_of_getElem? (i := 34) (by decide +kernel)), by decide +kernel⟩
theorem gf_RX1_9 {K : AbK} {cc : ByteArray} {rm : Room} (C : Cx K cc RX1 rm) {S : List AbS} {pc : Nat} {lv st : List AbV} {M : AbM} {k : Nat} {fs : List (Option Nat)} {q : Nat} (hk : S[k]? = some (sO 1 fs)) (hf : fs[0]? = some (some q)) (hd : decode cc pc = .ok (.getfield 9, 3)) (h : AJ K S (pc + 3) lv (vP q :: st) M) : AJ K S pc lv (vP k :: st) M := ab_getP C (T := TX1) (j := 0) (ab_inws inX1 goX1) rfl (by decide) gw736 hk hf hd h
theorem gw737 : ab_gw (.fieldLink RX2 15 "WordLaws$Echelon" "taken" "[Z") := ⟨tm1 (List.mem_of_getElem? (i := 168) (by decide +kernel)), by decide +kernel⟩
theorem gf_RX2_15 {K : AbK} {cc : ByteArray} {rm : Room} (C : Cx K cc RX2 rm) {S : List AbS} {pc : Nat} {lv st : List AbV} {M : AbM} {k : Nat} {fs : List (Option Nat)} {q : Nat} (hk : S[k]? = some (sO 2 fs)) (hf : fs[2]? = some (some q)) (hd : decode cc pc = .ok (.getfield 15, 3)) (h : AJ K S (pc + 3) lv (vP q :: st) M) : AJ K S pc lv (vP k :: st) M := ab_getP C (T := TX2) (j := 2) (ab_inws inX2 goX2) rfl (by decide) gw737 hk hf hd h
theorem gw738 : ab_gw (.fieldLink RX2 19 "WordLaws$Echelon" "equation" "[I") := ⟨tm1 (List.mem_of_getElem? (i := 169) (by decide +kernel)), by decide +kernel⟩
theorem gf_RX2_19 {K : AbK} {cc : ByteArray} {rm : Room} (C : Cx K cc RX2 rm) {S : List AbS} {pc : Nat} {lv st : List AbV} {M : AbM} {k : Nat} {fs : List (Option Nat)} {q : Nat} (hk : S[k]? = some (sO 2 fs)) (hf : fs[3]? = some (some q)) (hd : decode cc pc = .ok (.getfield 19, 3)) (h : AJ K S (pc + 3) lv (vP q :: st) M) : AJ K S pc lv (vP k :: st) M := ab_getP C (T := TX2) (j := 3) (ab_inws inX2 goX2) rfl (by decide) gw738 hk hf hd h
theorem gw739 : ab_gw (.fieldLink RX2 22 "WordLaws$Echelon" "alphabet" "LWordLaws$Alphabet;") := ⟨tm1 (List.mem_of_getElem? (i := 166) (by decide +kernel)), by decide +kernel⟩
theorem gf_RX2_22 {K : AbK} {cc : ByteArray} {rm : Room} (C : Cx K cc RX2 rm) {S : List AbS} {pc : Nat} {lv st : List AbV} {M : AbM} {k : Nat} {fs : List (Option Nat)} {q : Nat} (hk : S[k]? = some (sO 2 fs)) (hf : fs[0]? = some (some q)) (hd : decode cc pc = .ok (.getfield 22, 3)) (h : AJ K S (pc + 3) lv (vP q :: st) M) : AJ K S pc lv (vP k :: st) M := ab_getP C (T := TX2) (j := 0) (ab_inws inX2 goX2) rfl (by decide) gw739 hk hf hd h
theorem gw740 : ab_gw (.fieldLink RX2 35 "WordLaws$Echelon" "unknowns" "I") := ⟨tm1 (List.mem_of_getElem? (i := 170) (by decide +kernel)), by decide +kernel⟩
theorem gf_RX2_35 {K : AbK} {cc : ByteArray} {rm : Room} (C : Cx K cc RX2 rm) {S : List AbS} {pc : Nat} {lv st : List AbV} {M : AbM} {k : Nat} {fs : List (Option Nat)} (hk : S[k]? = some (sO 2 fs)) (hf : fs[4]? = some none) (hd : decode cc pc = .ok (.getfield 35, 3)) (h : AJ K S (pc + 3) lv (vI (M k 4) :: st) M) : AJ K S pc lv (vP k :: st) M := ab_getI C (T := TX2) (j := 4) (ab_inws inX2 goX2) rfl (by decide) gw740 rfl hk hf hd h
theorem pf_RX2_35 {K : AbK} {cc : ByteArray} {rm : Room} (C : Cx K cc RX2 rm) {S : List AbS} {pc : Nat} {lv st : List AbV} {M : AbM} {k : Nat} {fs : List (Option Nat)} {x : Int} (hk : S[k]? = some (sO 2 fs)) (hf : fs[4]? = some none) (hd : decode cc pc = .ok (.putfield 35, 3)) (h : AJ K S (pc + 3) lv st (up M k 4 x)) : AJ K S pc lv (vI x :: vP k :: st) M := ab_putI C (T := TX2) (j := 4) (ab_inws inX2 goX2) rfl (by decide) gw740 (ty0 := tyX2) tyX2_ok nmX2 rfl rfl (by decide +kernel) hk hf hd h
theorem gw741 : ab_gw (.fieldLink RX2 39 "WordLaws$Echelon" "rank" "I") := ⟨tm1 (List.mem_of_getElem? (i := 171) (by decide +kernel)), by decide +kernel⟩
theorem gf_RX2_39 {K : AbK} {cc : ByteArray} {rm : Room} (C : Cx K cc RX2 rm) {S : List AbS} {pc : Nat} {lv st : List AbV} {M : AbM} {k : Nat} {fs : List (Option Nat)} (hk : S[k]? = some (sO 2 fs)) (hf : fs[5]? = some none) (hd : decode cc pc = .ok (.getfield 39, 3)) (h : AJ K S (pc + 3) lv (vI (M k 5) :: st) M) : AJ K S pc lv (vP k :: st) M := ab_getI C (T := TX2) (j := 5) (ab_inws inX2 goX2) rfl (by decide) gw741 rfl hk hf hd h
theorem pf_RX2_39 {K : AbK} {cc : ByteArray} {rm : Room} (C : Cx K cc RX2 rm) {S : List AbS} {pc : Nat} {lv st : List AbV} {M : AbM} {k : Nat} {fs : List (Option Nat)} {x : Int} (hk : S[k]? = some (sO 2 fs)) (hf : fs[5]? = some none) (hd : decode cc pc = .ok (.putfield 39, 3)) (h : AJ K S (pc + 3) lv st (up M k 5 x)) : AJ K S pc lv (vI x :: vP k :: st) M := ab_putI C (T := TX2) (j := 5) (ab_inws inX2 goX2) rfl (by decide) gw741 (ty0 := tyX2) tyX2_ok nmX2 rfl rfl (by decide +kernel) hk hf hd h
theorem gw742 : ab_gw (.fieldLink RX2 9 "WordLaws$Echelon" "rows" "[I") := ⟨tm1 (List.mem_of_getElem? (i := 167) (by decide +kernel)), by decide +kernel⟩
theorem gf_RX2_9 {K : AbK} {cc : ByteArray} {rm : Room} (C : Cx K cc RX2 rm) {S : List AbS} {pc : Nat} {lv st : List AbV} {M : AbM} {k : Nat} {fs : List (Option Nat)} {q : Nat} (hk : S[k]? = some (sO 2 fs)) (hf : fs[1]? = some (some q)) (hd : decode cc pc = .ok (.getfield 9, 3)) (h : AJ K S (pc + 3) lv (vP q :: st) M) : AJ K S pc lv (vP k :: st) M := ab_getP C (T := TX2) (j := 1) (ab_inws inX2 goX2) rfl (by decide) gw742 hk hf hd h
theorem gw743 : ab_gw (.fieldLink RX3 15 "WordLaws$LawList" "numbers" "[I") := ⟨tm1 (List.mem_of_getElem? (i := 115) (by decide +kernel)), by decide +kernel⟩
theorem gf_RX3_15 {K : AbK} {cc : ByteArray} {rm : Room} (C : Cx K cc RX3 rm) {S : List AbS} {pc : Nat} {lv st : List AbV} {M : AbM} {k : Nat} {fs : List (Option Nat)} {q : Nat} (hk : S[k]? = some (sO 3 fs)) (hf : fs[1]? = some (some q)) (hd : decode cc pc = .ok (.getfield 15, 3)) (h : AJ K S (pc + 3) lv (vP q :: st) M) : AJ K S pc lv (vP k :: st) M := ab_getP C (T := TX3) (j := 1) (ab_inws inX3 goX3) rfl (by decide) gw743 hk hf hd h
theorem gw744 : ab_gw (.fieldLink RX3 18 "WordLaws$LawList" "size" "I") := ⟨tm1 (List.mem_of_getElem? (i := 116) (by decide +kernel)), by decide +kernel⟩
theorem gf_RX3_18 {K : AbK} {cc : ByteArray} {rm : Room} (C : Cx K cc RX3 rm) {S : List AbS} {pc : Nat} {lv st : List AbV} {M : AbM} {k : Nat} {fs : List (Option Nat)} (hk : S[k]? = some (sO 3 fs)) (hf : fs[2]? = some none) (hd : decode cc pc = .ok (.getfield 18, 3)) (h : AJ K S (pc + 3) lv (vI (M k 2) :: st) M) : AJ K S pc lv (vP k :: st) M := ab_getI C (T := TX3) (j := 2) (ab_inws inX3 goX3) rfl (by decide) gw744 rfl hk hf hd h
theorem pf_RX3_18 {K : AbK} {cc : ByteArray} {rm : Room} (C : Cx K cc RX3 rm) {S : List AbS} {pc : Nat} {lv st : List AbV} {M : AbM} {k : Nat} {fs : List (Option Nat)} {x : Int} (hk : S[k]? = some (sO 3 fs)) (hf : fs[2]? = some none) (hd : decode cc pc = .ok (.putfield 18, 3)) (h : AJ K S (pc + 3) lv st (up M k 2 x)) : AJ K S pc lv (vI x :: vP k :: st) M := ab_putI C (T := TX3) (j := 2) (ab_inws inX3 goX3) rfl (by decide) gw744 (ty0 := tyX3) tyX3_ok nmX3 rfl rfl (by decide +kernel) hk hf hd h
theorem gw745 : ab_gw (.fieldLink RX3 9 "WordLaws$LawList" "lengths" "[I") := ⟨tm1 (List.mem_of_getElem? (i := 114) (by decide +kernel)), by decide +kernel⟩
theorem gf_RX3_9 {K : AbK} {cc : ByteArray} {rm : Room} (C : Cx K cc RX3 rm) {S : List AbS} {pc : Nat} {lv st : List AbV} {M : AbM} {k : Nat} {fs : List (Option Nat)} {q : Nat} (hk : S[k]? = some (sO 3 fs)) (hf : fs[0]? = some (some q)) (hd : decode cc pc = .ok (.getfield 9, 3)) (h : AJ K S (pc + 3) lv (vP q :: st) M) : AJ K S pc lv (vP k :: st) M := ab_getP C (T := TX3) (j := 0) (ab_inws inX3 goX3) rfl (by decide) gw745 hk hf hd h
theorem gw746 : ab_gw (.fieldLink RX4 46 "WordLaws$Reader" "state" "I") := ⟨tm1 (List.mem_of_getElem? (i := 74) (by decide +kernel)), by decide +kernel⟩
theorem gf_RX4_46 {K : AbK} {cc : ByteArray} {rm : Room} (C : Cx K cc RX4 rm) {S : List AbS} {pc : Nat} {lv st : List AbV} {M : AbM} {k : Nat} {fs : List (Option Nat)} (hk : S[k]? = some (sO 4 fs)) (hf : fs[1]? = some none) (hd : decode cc pc = .ok (.getfield 46, 3)) (h : AJ K S (pc + 3) lv (vI (M k 1) :: st) M) : AJ K S pc lv (vP k :: st) M := ab_getI C (T := TX4) (j := 1) (ab_inws inX4 goX4) rfl (by decide) gw746 rfl hk hf hd h
theorem pf_RX4_46 {K : AbK} {cc : ByteArray} {rm : Room} (C : Cx K cc RX4 rm) {S : List AbS} {pc : Nat} {lv st : List AbV} {M : AbM} {k : Nat} {fs : List (Option Nat)} {x : Int} (hk : S[k]? = some (sO 4 fs)) (hf : fs[1]? = some none) (hd : decode cc pc = .ok (.putfield 46, 3)) (h : AJ K S (pc + 3) lv st (up M k 1 x)) : AJ K S pc lv (vI x :: vP k :: st) M := ab_putI C (T := TX4) (j := 1) (ab_inws inX4 goX4) rfl (by decide) gw746 (ty0 := tyX4) tyX4_ok nmX4 rfl rfl (by decide +kernel) hk hf hd h
theorem gw747 : ab_gw (.fieldLink RX4 50 "WordLaws$Reader" "sign" "I") := ⟨tm1 (List.mem_of_getElem? (i := 75) (by decide +kernel)), by decide +kernel⟩
theorem gf_RX4_50 {K : AbK} {cc : ByteArray} {rm : Room} (C : Cx K cc RX4 rm) {S : List AbS} {pc : Nat} {lv st : List AbV} {M : AbM} {k : Nat} {fs : List (Option Nat)} (hk : S[k]? = some (sO 4 fs)) (hf : fs[2]? = some none) (hd : decode cc pc = .ok (.getfield 50, 3)) (h : AJ K S (pc + 3) lv (vI (M k 2) :: st) M) : AJ K S pc lv (vP k :: st) M := ab_getI C (T := TX4) (j := 2) (ab_inws inX4 goX4) rfl (by decide) gw747 rfl hk hf hd h
theorem pf_RX4_50 {K : AbK} {cc : ByteArray} {rm : Room} (C : Cx K cc RX4 rm) {S : List AbS} {pc : Nat} {lv st : List AbV} {M : AbM} {k : Nat} {fs : List (Option Nat)} {x : Int} (hk : S[k]? = some (sO 4 fs)) (hf : fs[2]? = some none) (hd : decode cc pc = .ok (.putfield 50, 3)) (h : AJ K S (pc + 3) lv st (up M k 2 x)) : AJ K S pc lv (vI x :: vP k :: st) M := ab_putI C (T := TX4) (j := 2) (ab_inws inX4 goX4) rfl (by decide) gw747 (ty0 := tyX4) tyX4_ok nmX4 rfl rfl (by decide +kernel) hk hf hd h
theorem gw748 : ab_gw (.fieldLink RX4 53 "WordLaws$Reader" "number" "I") := ⟨tm1 (List.mem_of_getElem? (i := 76) (by decide +kernel)), by decide +kernel⟩
theorem gf_RX4_53 {K : AbK} {cc : ByteArray} {rm : Room} (C : Cx K cc RX4 rm) {S : List AbS} {pc : Nat} {lv st : List AbV} {M : AbM} {k : Nat} {fs : List (Option Nat)} (hk : S[k]? = some (sO 4 fs)) (hf : fs[3]? = some none) (hd : decode cc pc = .ok (.getfield 53, 3)) (h : AJ K S (pc + 3) lv (vI (M k 3) :: st) M) : AJ K S pc lv (vP k :: st) M := ab_getI C (T := TX4) (j := 3) (ab_inws inX4 goX4) rfl (by decide) gw748 rfl hk hf hd h
theorem pf_RX4_53 {K : AbK} {cc : ByteArray} {rm : Room} (C : Cx K cc RX4 rm) {S : List AbS} {pc : Nat} {lv st : List AbV} {M : AbM} {k : Nat} {fs : List (Option Nat)} {x : Int} (hk : S[k]? = some (sO 4 fs)) (hf : fs[3]? = some none) (hd : decode cc pc = .ok (.putfield 53, 3)) (h : AJ K S (pc + 3) lv st (up M k 3 x)) : AJ K S pc lv (vI x :: vP k :: st) M := ab_putI C (T := TX4) (j := 3) (ab_inws inX4 goX4) rfl (by decide) gw748 (ty0 := tyX4) tyX4_ok nmX4 rfl rfl (by decide +kernel) hk hf hd h
theorem gw749 : ab_gw (.fieldLink RX4 56 "WordLaws$Reader" "length" "I") := ⟨tm1 (List.mem_of_getElem? (i := 78) (by decide +kernel)), by decide +kernel⟩
theorem gf_RX4_56 {K : AbK} {cc : ByteArray} {rm : Room} (C : Cx K cc RX4 rm) {S : List AbS} {pc : Nat} {lv st : List AbV} {M : AbM} {k : Nat} {fs : List (Option Nat)} (hk : S[k]? = some (sO 4 fs)) (hf : fs[5]? = some none) (hd : decode cc pc = .ok (.getfield 56, 3)) (h : AJ K S (pc + 3) lv (vI (M k 5) :: st) M) : AJ K S pc lv (vP k :: st) M := ab_getI C (T := TX4) (j := 5) (ab_inws inX4 goX4) rfl (by decide) gw749 rfl hk hf hd h
theorem pf_RX4_56 {K : AbK} {cc : ByteArray} {rm : Room} (C : Cx K cc RX4 rm) {S : List AbS} {pc : Nat} {lv st : List AbV} {M : AbM} {k : Nat} {fs : List (Option Nat)} {x : Int} (hk : S[k]? = some (sO 4 fs)) (hf : fs[5]? = some none) (hd : decode cc pc = .ok (.putfield 56, 3)) (h : AJ K S (pc + 3) lv st (up M k 5 x)) : AJ K S pc lv (vI x :: vP k :: st) M := ab_putI C (T := TX4) (j := 5) (ab_inws inX4 goX4) rfl (by decide) gw749 (ty0 := tyX4) tyX4_ok nmX4 rfl rfl (by decide +kernel) hk hf hd h
theorem gw750 : ab_gw (.fieldLink RX4 59 "WordLaws$Reader" "letters" "I") := ⟨tm1 (List.mem_of_getElem? (i := 79) (by decide +kernel)), by decide +kernel⟩
theorem gf_RX4_59 {K : AbK} {cc : ByteArray} {rm : Room} (C : Cx K cc RX4 rm) {S : List AbS} {pc : Nat} {lv st : List AbV} {M : AbM} {k : Nat} {fs : List (Option Nat)} (hk : S[k]? = some (sO 4 fs)) (hf : fs[6]? = some none) (hd : decode cc pc = .ok (.getfield 59, 3)) (h : AJ K S (pc + 3) lv (vI (M k 6) :: st) M) : AJ K S pc lv (vP k :: st) M := ab_getI C (T := TX4) (j := 6) (ab_inws inX4 goX4) rfl (by decide) gw750 rfl hk hf hd h
theorem pf_RX4_59 {K : AbK} {cc : ByteArray} {rm : Room} (C : Cx K cc RX4 rm) {S : List AbS} {pc : Nat} {lv st : List AbV} {M : AbM} {k : Nat} {fs : List (Option Nat)} {x : Int} (hk : S[k]? = some (sO 4 fs)) (hf : fs[6]? = some none) (hd : decode cc pc = .ok (.putfield 59, 3)) (h : AJ K S (pc + 3) lv st (up M k 6 x)) : AJ K S pc lv (vI x :: vP k :: st) M := ab_putI C (T := TX4) (j := 6) (ab_inws inX4 goX4) rfl (by decide) gw750 (ty0 := tyX4) tyX4_ok nmX4 rfl rfl (by decide +kernel) hk hf hd h
theorem gw751 : ab_gw (.fieldLink RX4 76 "WordLaws$Reader" "numberPlace" "I") := ⟨tm1 (List.mem_of_getElem? (i := 77) (by decide +kernel)), by decide +kernel⟩
theorem gf_RX4_76 {K : AbK} {cc : ByteArray} {rm : Room} (C : Cx K cc RX4 rm) {S : List AbS} {pc : Nat} {lv st : List AbV} {M : AbM} {k : Nat} {fs : List (Option Nat)} (hk : S[k]? = some (sO 4 fs)) (hf : fs[4]? = some none) (hd : decode cc pc = .ok (.getfield 76, 3)) (h : AJ K S (pc + 3) lv (vI (M k 4) :: st) M) : AJ K S pc lv (vP k :: st) M := ab_getI C (T := TX4) (j := 4) (ab_inws inX4 goX4) rfl (by decide) gw751 rfl hk hf hd h
theorem pf_RX4_76 {K : AbK} {cc : ByteArray} {rm : Room} (C : Cx K cc RX4 rm) {S : List AbS} {pc : Nat} {lv st : List AbV} {M : AbM} {k : Nat} {fs : List (Option Nat)} {x : Int} (hk : S[k]? = some (sO 4 fs)) (hf : fs[4]? = some none) (hd : decode cc pc = .ok (.putfield 76, 3)) (h : AJ K S (pc + 3) lv st (up M k 4 x)) : AJ K S pc lv (vI x :: vP k :: st) M := ab_putI C (T := TX4) (j := 4) (ab_inws inX4 goX4) rfl (by decide) gw751 (ty0 := tyX4) tyX4_ok nmX4 rfl rfl (by decide +kernel) hk hf hd h
theorem gw752 : ab_gw (.fieldLink RX4 9 "WordLaws$Reader" "alphabet" "LWordLaws$Alphabet;") := ⟨tm1 (List.mem_of_getElem? (i := 73) (by decide +kernel)), by decide +kernel⟩
theorem gf_RX4_9 {K : AbK} {cc : ByteArray} {rm : Room} (C : Cx K cc RX4 rm) {S : List AbS} {pc : Nat} {lv st : List AbV} {M : AbM} {k : Nat} {fs : List (Option Nat)} {q : Nat} (hk : S[k]? = some (sO 4 fs)) (hf : fs[0]? = some (some q)) (hd : decode cc pc = .ok (.getfield 9, 3)) (h : AJ K S (pc + 3) lv (vP q :: st) M) : AJ K S pc lv (vP k :: st) M := ab_getP C (T := TX4) (j := 0) (ab_inws inX4 goX4) rfl (by decide) gw752 hk hf hd h
theorem gw753 : ab_gw (.fieldLink RX5 15 "WordLaws$Sheet" "lane" "I") := ⟨tm1 (List.mem_of_getElem? (i := 193) (by decide +kernel)), by decide +kernel⟩
theorem gf_RX5_15 {K : AbK} {cc : ByteArray} {rm : Room} (C : Cx K cc RX5 rm) {S : List AbS} {pc : Nat} {lv st : List AbV} {M : AbM} {k : Nat} {fs : List (Option Nat)} (hk : S[k]? = some (sO 5 fs)) (hf : fs[1]? = some none) (hd : decode cc pc = .ok (.getfield 15, 3)) (h : AJ K S (pc + 3) lv (vI (M k 1) :: st) M) : AJ K S pc lv (vP k :: st) M := ab_getI C (T := TX5) (j := 1) (ab_inws inX5 goX5) rfl (by decide) gw753 rfl hk hf hd h
theorem pf_RX5_15 {K : AbK} {cc : ByteArray} {rm : Room} (C : Cx K cc RX5 rm) {S : List AbS} {pc : Nat} {lv st : List AbV} {M : AbM} {k : Nat} {fs : List (Option Nat)} {x : Int} (hk : S[k]? = some (sO 5 fs)) (hf : fs[1]? = some none) (hd : decode cc pc = .ok (.putfield 15, 3)) (h : AJ K S (pc + 3) lv st (up M k 1 x)) : AJ K S pc lv (vI x :: vP k :: st) M := ab_putI C (T := TX5) (j := 1) (ab_inws inX5 goX5) rfl (by decide) gw753 (ty0 := tyX5) tyX5_ok nmX5 rfl rfl (by decide +kernel) hk hf hd h
theorem gw754 : ab_gw (.fieldLink RX5 19 "WordLaws$Sheet" "size" "I") := ⟨tm1 (List.mem_of_getElem? (i := 194) (by decide +kernel)), by decide +kernel⟩
theorem gf_RX5_19 {K : AbK} {cc : ByteArray} {rm : Room} (C : Cx K cc RX5 rm) {S : List AbS} {pc : Nat} {lv st : List AbV} {M : AbM} {k : Nat} {fs : List (Option Nat)} (hk : S[k]? = some (sO 5 fs)) (hf : fs[2]? = some none) (hd : decode cc pc = .ok (.getfield 19, 3)) (h : AJ K S (pc + 3) lv (vI (M k 2) :: st) M) : AJ K S pc lv (vP k :: st) M := ab_getI C (T := TX5) (j := 2) (ab_inws inX5 goX5) rfl (by decide) gw754 rfl hk hf hd h
theorem pf_RX5_19 {K : AbK} {cc : ByteArray} {rm : Room} (C : Cx K cc RX5 rm) {S : List AbS} {pc : Nat} {lv st : List AbV} {M : AbM} {k : Nat} {fs : List (Option Nat)} {x : Int} (hk : S[k]? = some (sO 5 fs)) (hf : fs[2]? = some none) (hd : decode cc pc = .ok (.putfield 19, 3)) (h : AJ K S (pc + 3) lv st (up M k 2 x)) : AJ K S pc lv (vI x :: vP k :: st) M := ab_putI C (T := TX5) (j := 2) (ab_inws inX5 goX5) rfl (by decide) gw754 (ty0 := tyX5) tyX5_ok nmX5 rfl rfl (by decide +kernel) hk hf hd h
theorem gw755 : ab_gw (.fieldLink RX5 9 "WordLaws$Sheet" "items" "[J") := ⟨tm1 (List.mem_of_getElem? (i := 192) (by decide +kernel)), by decide +kernel⟩
theorem gf_RX5_9 {K : AbK} {cc : ByteArray} {rm : Room} (C : Cx K cc RX5 rm) {S : List AbS} {pc : Nat} {lv st : List AbV} {M : AbM} {k : Nat} {fs : List (Option Nat)} {q : Nat} (hk : S[k]? = some (sO 5 fs)) (hf : fs[0]? = some (some q)) (hd : decode cc pc = .ok (.getfield 9, 3)) (h : AJ K S (pc + 3) lv (vP q :: st) M) : AJ K S pc lv (vP k :: st) M := ab_getP C (T := TX5) (j := 0) (ab_inws inX5 goX5) rfl (by decide) gw755 hk hf hd h
theorem gw756 : ab_gw (.fieldLink RX6 15 "WordLaws$Sum" "alphabet" "LWordLaws$Alphabet;") := ⟨tm1 (List.mem_of_getElem? (i := 101) (by decide +kernel)), by decide +kernel⟩
theorem gf_RX6_15 {K : AbK} {cc : ByteArray} {rm : Room} (C : Cx K cc RX6 rm) {S : List AbS} {pc : Nat} {lv st : List AbV} {M : AbM} {k : Nat} {fs : List (Option Nat)} {q : Nat} (hk : S[k]? = some (sO 6 fs)) (hf : fs[0]? = some (some q)) (hd : decode cc pc = .ok (.getfield 15, 3)) (h : AJ K S (pc + 3) lv (vP q :: st) M) : AJ K S pc lv (vP k :: st) M := ab_getP C (T := TX6) (j := 0) (ab_inws inX6 goX6) rfl (by decide) gw756 hk hf hd h
theorem gw757 : ab_gw (.fieldLink RX6 9 "WordLaws$Sum" "numbers" "[I") := ⟨tm1 (List.mem_of_getElem? (i := 102) (by decide +kernel)), by decide +kernel⟩
theorem gf_RX6_9 {K : AbK} {cc : ByteArray} {rm : Room} (C : Cx K cc RX6 rm) {S : List AbS} {pc : Nat} {lv st : List AbV} {M : AbM} {k : Nat} {fs : List (Option Nat)} {q : Nat} (hk : S[k]? = some (sO 6 fs)) (hf : fs[1]? = some (some q)) (hd : decode cc pc = .ok (.getfield 9, 3)) (h : AJ K S (pc + 3) lv (vP q :: st) M) : AJ K S pc lv (vP k :: st) M := ab_getP C (T := TX6) (j := 1) (ab_inws inX6 goX6) rfl (by decide) gw757 hk hf hd h
theorem gw758 : ab_gw (.fieldLink RX7 15 "WordLaws$Tape" "size" "I") := ⟨tm1 (List.mem_of_getElem? (i := 61) (by decide +kernel)), by decide +kernel⟩
theorem gf_RX7_15 {K : AbK} {cc : ByteArray} {rm : Room} (C : Cx K cc RX7 rm) {S : List AbS} {pc : Nat} {lv st : List AbV} {M : AbM} {k : Nat} {fs : List (Option Nat)} (hk : S[k]? = some (sO 7 fs)) (hf : fs[1]? = some none) (hd : decode cc pc = .ok (.getfield 15, 3)) (h : AJ K S (pc + 3) lv (vI (M k 1) :: st) M) : AJ K S pc lv (vP k :: st) M := ab_getI C (T := TX7) (j := 1) (ab_inws inX7 goX7) rfl (by decide) gw758 rfl hk hf hd h
theorem pf_RX7_15 {K : AbK} {cc : ByteArray} {rm : Room} (C : Cx K cc RX7 rm) {S : List AbS} {pc : Nat} {lv st : List AbV} {M : AbM} {k : Nat} {fs : List (Option Nat)} {x : Int} (hk : S[k]? = some (sO 7 fs)) (hf : fs[1]? = some none) (hd : decode cc pc = .ok (.putfield 15, 3)) (h : AJ K S (pc + 3) lv st (up M k 1 x)) : AJ K S pc lv (vI x :: vP k :: st) M := ab_putI C (T := TX7) (j := 1) (ab_inws inX7 goX7) rfl (by decide) gw758 (ty0 := tyX7) tyX7_ok nmX7 rfl rfl (by decide +kernel) hk hf hd h
theorem gw759 : ab_gw (.fieldLink RX7 9 "WordLaws$Tape" "bytes" "[I") := ⟨tm1 (List.mem_of_getElem? (i := 60) (by decide +kernel)), by decide +kernel⟩
theorem gf_RX7_9 {K : AbK} {cc : ByteArray} {rm : Room} (C : Cx K cc RX7 rm) {S : List AbS} {pc : Nat} {lv st : List AbV} {M : AbM} {k : Nat} {fs : List (Option Nat)} {q : Nat} (hk : S[k]? = some (sO 7 fs)) (hf : fs[0]? = some (some q)) (hd : decode cc pc = .ok (.getfield 9, 3)) (h : AJ K S (pc + 3) lv (vP q :: st) M) : AJ K S pc lv (vP k :: st) M := ab_getP C (T := TX7) (j := 0) (ab_inws inX7 goX7) rfl (by decide) gw759 hk hf hd h
theorem gw760 : ab_gw (.fieldLink RX8 10 "WordLaws" "alphabet" "LWordLaws$Alphabet;") := ⟨tm1 (List.mem_of_getElem? (i := 203) (by decide +kernel)), by decide +kernel⟩
theorem gf_RX8_10 {K : AbK} {cc : ByteArray} {rm : Room} (C : Cx K cc RX8 rm) {S : List AbS} {pc : Nat} {lv st : List AbV} {M : AbM} {k : Nat} {fs : List (Option Nat)} {q : Nat} (hk : S[k]? = some (sO 8 fs)) (hf : fs[0]? = some (some q)) (hd : decode cc pc = .ok (.getfield 10, 3)) (h : AJ K S (pc + 3) lv (vP q :: st) M) : AJ K S pc lv (vP k :: st) M := ab_getP C (T := TX8) (j := 0) (ab_inws inX8 goX8) rfl (by decide) gw760 hk hf hd h
theorem gw761 : ab_gw (.fieldLink RX8 19 "WordLaws" "tape" "LWordLaws$Tape;") := ⟨tm1 (List.mem_of_getElem? (i := 204) (by decide +kernel)), by decide +kernel⟩
theorem gf_RX8_19 {K : AbK} {cc : ByteArray} {rm : Room} (C : Cx K cc RX8 rm) {S : List AbS} {pc : Nat} {lv st : List AbV} {M : AbM} {k : Nat} {fs : List (Option Nat)} {q : Nat} (hk : S[k]? = some (sO 8 fs)) (hf : fs[1]? = some (some q)) (hd : decode cc pc = .ok (.getfield 19, 3)) (h : AJ K S (pc + 3) lv (vP q :: st) M) : AJ K S pc lv (vP k :: st) M := ab_getP C (T := TX8) (j := 1) (ab_inws inX8 goX8) rfl (by decide) gw761 hk hf hd h
theorem gw762 : ab_gw (.fieldLink RX8 28 "WordLaws" "reader" "LWordLaws$Reader;") := ⟨tm1 (List.mem_of_getElem? (i := 205) (by decide +kernel)), by decide +kernel⟩
theorem gf_RX8_28 {K : AbK} {cc : ByteArray} {rm : Room} (C : Cx K cc RX8 rm) {S : List AbS} {pc : Nat} {lv st : List AbV} {M : AbM} {k : Nat} {fs : List (Option Nat)} {q : Nat} (hk : S[k]? = some (sO 8 fs)) (hf : fs[2]? = some (some q)) (hd : decode cc pc = .ok (.getfield 28, 3)) (h : AJ K S (pc + 3) lv (vP q :: st) M) : AJ K S pc lv (vP k :: st) M := ab_getP C (T := TX8) (j := 2) (ab_inws inX8 goX8) rfl (by decide) gw762 hk hf hd h
theorem gw763 : ab_gw (.fieldLink RX8 35 "WordLaws" "lookedAt" "LWordLaws$Sum;") := ⟨tm1 (List.mem_of_getElem? (i := 206) (by decide +kernel)), by decide +kernel⟩
theorem gf_RX8_35 {K : AbK} {cc : ByteArray} {rm : Room} (C : Cx K cc RX8 rm) {S : List AbS} {pc : Nat} {lv st : List AbV} {M : AbM} {k : Nat} {fs : List (Option Nat)} {q : Nat} (hk : S[k]? = some (sO 8 fs)) (hf : fs[3]? = some (some q)) (hd : decode cc pc = .ok (.getfield 35, 3)) (h : AJ K S (pc + 3) lv (vP q :: st) M) : AJ K S pc lv (vP k :: st) M := ab_getP C (T := TX8) (j := 3) (ab_inws inX8 goX8) rfl (by decide) gw763 hk hf hd h
theorem gw764 : ab_gw (.fieldLink RX8 39 "WordLaws" "spare" "LWordLaws$Sum;") := ⟨tm1 (List.mem_of_getElem? (i := 207) (by decide +kernel)), by decide +kernel⟩
theorem gf_RX8_39 {K : AbK} {cc : ByteArray} {rm : Room} (C : Cx K cc RX8 rm) {S : List AbS} {pc : Nat} {lv st : List AbV} {M : AbM} {k : Nat} {fs : List (Option Nat)} {q : Nat} (hk : S[k]? = some (sO 8 fs)) (hf : fs[4]? = some (some q)) (hd : decode cc pc = .ok (.getfield 39, 3)) (h : AJ K S (pc + 3) lv (vP q :: st) M) : AJ K S pc lv (vP k :: st) M := ab_getP C (T := TX8) (j := 4) (ab_inws inX8 goX8) rfl (by decide) gw764 hk hf hd h
theorem gw765 : ab_gw (.fieldLink RX8 45 "WordLaws" "lawList" "LWordLaws$LawList;") := ⟨tm1 (List.mem_of_getElem? (i := 208) (by decide +kernel)), by decide +kernel⟩
theorem gf_RX8_45 {K : AbK} {cc : ByteArray} {rm : Room} (C : Cx K cc RX8 rm) {S : List AbS} {pc : Nat} {lv st : List AbV} {M : AbM} {k : Nat} {fs : List (Option Nat)} {q : Nat} (hk : S[k]? = some (sO 8 fs)) (hf : fs[5]? = some (some q)) (hd : decode cc pc = .ok (.getfield 45, 3)) (h : AJ K S (pc + 3) lv (vP q :: st) M) : AJ K S pc lv (vP k :: st) M := ab_getP C (T := TX8) (j := 5) (ab_inws inX8 goX8) rfl (by decide) gw765 hk hf hd h
theorem gw766 : ab_gw (.fieldLink RX8 49 "WordLaws" "otherList" "LWordLaws$LawList;") := ⟨tm1 (List.mem_of_getElem? (i := 209) (by decide +kernel)), by decide +kernel⟩
theorem gf_RX8_49 {K : AbK} {cc : ByteArray} {rm : Room} (C : Cx K cc RX8 rm) {S : List AbS} {pc : Nat} {lv st : List AbV} {M : AbM} {k : Nat} {fs : List (Option Nat)} {q : Nat} (hk : S[k]? = some (sO 8 fs)) (hf : fs[6]? = some (some q)) (hd : decode cc pc = .ok (.getfield 49, 3)) (h : AJ K S (pc + 3) lv (vP q :: st) M) : AJ K S pc lv (vP k :: st) M := ab_getP C (T := TX8) (j := 6) (ab_inws inX8 goX8) rfl (by decide) gw766 hk hf hd h
theorem gw767 : ab_gw (.fieldLink RX8 57 "WordLaws" "algebra" "LWordLaws$Algebra;") := ⟨tm1 (List.mem_of_getElem? (i := 210) (by decide +kernel)), by decide +kernel⟩
theorem gf_RX8_57 {K : AbK} {cc : ByteArray} {rm : Room} (C : Cx K cc RX8 rm) {S : List AbS} {pc : Nat} {lv st : List AbV} {M : AbM} {k : Nat} {fs : List (Option Nat)} {q : Nat} (hk : S[k]? = some (sO 8 fs)) (hf : fs[7]? = some (some q)) (hd : decode cc pc = .ok (.getfield 57, 3)) (h : AJ K S (pc + 3) lv (vP q :: st) M) : AJ K S pc lv (vP k :: st) M := ab_getP C (T := TX8) (j := 7) (ab_inws inX8 goX8) rfl (by decide) gw767 hk hf hd h
theorem gw768 : ab_gw (.fieldLink RX8 61 "WordLaws" "otherAlgebra" "LWordLaws$Algebra;") := ⟨tm1 (List.mem_of_getElem? (i := 211) (by decide +kernel)), by decide +kernel⟩
theorem gf_RX8_61 {K : AbK} {cc : ByteArray} {rm : Room} (C : Cx K cc RX8 rm) {S : List AbS} {pc : Nat} {lv st : List AbV} {M : AbM} {k : Nat} {fs : List (Option Nat)} {q : Nat} (hk : S[k]? = some (sO 8 fs)) (hf : fs[8]? = some (some q)) (hd : decode cc pc = .ok (.getfield 61, 3)) (h : AJ K S (pc + 3) lv (vP q :: st) M) : AJ K S pc lv (vP k :: st) M := ab_getP C (T := TX8) (j := 8) (ab_inws inX8 goX8) rfl (by decide) gw768 hk hf hd h
theorem gw769 : ab_gw (.fieldLink RX8 67 "WordLaws" "echelon" "LWordLaws$Echelon;") := ⟨tm1 (List.mem_of_getElem? (i := 212) (by decide +kernel)), by decide +kernel⟩
theorem gf_RX8_67 {K : AbK} {cc : ByteArray} {rm : Room} (C : Cx K cc RX8 rm) {S : List AbS} {pc : Nat} {lv st : List AbV} {M : AbM} {k : Nat} {fs : List (Option Nat)} {q : Nat} (hk : S[k]? = some (sO 8 fs)) (hf : fs[9]? = some (some q)) (hd : decode cc pc = .ok (.getfield 67, 3)) (h : AJ K S (pc + 3) lv (vP q :: st) M) : AJ K S pc lv (vP k :: st) M := ab_getP C (T := TX8) (j := 9) (ab_inws inX8 goX8) rfl (by decide) gw769 hk hf hd h
theorem gw770 : ab_gw (.fieldLink RX8 73 "WordLaws" "sheets" "[LWordLaws$Sheet;") := ⟨tm1 (List.mem_of_getElem? (i := 213) (by decide +kernel)), by decide +kernel⟩
theorem gf_RX8_73 {K : AbK} {cc : ByteArray} {rm : Room} (C : Cx K cc RX8 rm) {S : List AbS} {pc : Nat} {lv st : List AbV} {M : AbM} {k : Nat} {fs : List (Option Nat)} {q : Nat} (hk : S[k]? = some (sO 8 fs)) (hf : fs[10]? = some (some q)) (hd : decode cc pc = .ok (.getfield 73, 3)) (h : AJ K S (pc + 3) lv (vP q :: st) M) : AJ K S pc lv (vP k :: st) M := ab_getP C (T := TX8) (j := 10) (ab_inws inX8 goX8) rfl (by decide) gw770 hk hf hd h
theorem gw771 : ab_gw (.fieldLink RX8 78 "WordLaws" "otherIsStale" "Z") := ⟨tm1 (List.mem_of_getElem? (i := 214) (by decide +kernel)), by decide +kernel⟩
theorem gf_RX8_78 {K : AbK} {cc : ByteArray} {rm : Room} (C : Cx K cc RX8 rm) {S : List AbS} {pc : Nat} {lv st : List AbV} {M : AbM} {k : Nat} {fs : List (Option Nat)} (hk : S[k]? = some (sO 8 fs)) (hf : fs[11]? = some none) (hd : decode cc pc = .ok (.getfield 78, 3)) (h : AJ K S (pc + 3) lv (vI (M k 11) :: st) M) : AJ K S pc lv (vP k :: st) M := ab_getI C (T := TX8) (j := 11) (ab_inws inX8 goX8) rfl (by decide) gw771 rfl hk hf hd h
theorem pf_RX8_78 {K : AbK} {cc : ByteArray} {rm : Room} (C : Cx K cc RX8 rm) {S : List AbS} {pc : Nat} {lv st : List AbV} {M : AbM} {k : Nat} {fs : List (Option Nat)} {x : Int} (hz : x = 0 ∨ x = 1) (hk : S[k]? = some (sO 8 fs)) (hf : fs[11]? = some none) (hd : decode cc pc = .ok (.putfield 78, 3)) (h : AJ K S (pc + 3) lv st (up M k 11 x)) : AJ K S pc lv (vI x :: vP k :: st) M := ab_putZ C (T := TX8) (j := 11) (ab_inws inX8 goX8) rfl (by decide) gw771 (ty0 := tyX8) tyX8_ok nmX8 rfl rfl hz (by decide +kernel) hk hf hd h
theorem gw772 : ab_gw (.fieldLink RX9 104 "WordLawsModel" "taped" "I") := ⟨tm4 (List.mem_of_getElem? (i := 58) (by decide +kernel)), by decide +kernel⟩
theorem gf_RX9_104 {K : AbK} {cc : ByteArray} {rm : Room} (C : Cx K cc RX9 rm) {S : List AbS} {pc : Nat} {lv st : List AbV} {M : AbM} {k : Nat} {fs : List (Option Nat)} (hk : S[k]? = some (sO 9 fs)) (hf : fs[11]? = some none) (hd : decode cc pc = .ok (.getfield 104, 3)) (h : AJ K S (pc + 3) lv (vI (M k 11) :: st) M) : AJ K S pc lv (vP k :: st) M := ab_getI C (T := TX9) (j := 11) (ab_inws inX9 goX9) rfl (by decide) gw772 rfl hk hf hd h
theorem pf_RX9_104 {K : AbK} {cc : ByteArray} {rm : Room} (C : Cx K cc RX9 rm) {S : List AbS} {pc : Nat} {lv st : List AbV} {M : AbM} {k : Nat} {fs : List (Option Nat)} {x : Int} (hk : S[k]? = some (sO 9 fs)) (hf : fs[11]? = some none) (hd : decode cc pc = .ok (.putfield 104, 3)) (h : AJ K S (pc + 3) lv st (up M k 11 x)) : AJ K S pc lv (vI x :: vP k :: st) M := ab_putI C (T := TX9) (j := 11) (ab_inws inX9 goX9) rfl (by decide) gw772 (ty0 := tyX9) tyX9_ok nmX9 rfl rfl (by decide +kernel) hk hf hd h
theorem gw773 : ab_gw (.fieldLink RX9 107 "WordLawsModel" "at" "I") := ⟨tm4 (List.mem_of_getElem? (i := 59) (by decide +kernel)), by decide +kernel⟩
theorem gf_RX9_107 {K : AbK} {cc : ByteArray} {rm : Room} (C : Cx K cc RX9 rm) {S : List AbS} {pc : Nat} {lv st : List AbV} {M : AbM} {k : Nat} {fs : List (Option Nat)} (hk : S[k]? = some (sO 9 fs)) (hf : fs[12]? = some none) (hd : decode cc pc = .ok (.getfield 107, 3)) (h : AJ K S (pc + 3) lv (vI (M k 12) :: st) M) : AJ K S pc lv (vP k :: st) M := ab_getI C (T := TX9) (j := 12) (ab_inws inX9 goX9) rfl (by decide) gw773 rfl hk hf hd h
theorem pf_RX9_107 {K : AbK} {cc : ByteArray} {rm : Room} (C : Cx K cc RX9 rm) {S : List AbS} {pc : Nat} {lv st : List AbV} {M : AbM} {k : Nat} {fs : List (Option Nat)} {x : Int} (hk : S[k]? = some (sO 9 fs)) (hf : fs[12]? = some none) (hd : decode cc pc = .ok (.putfield 107, 3)) (h : AJ K S (pc + 3) lv st (up M k 12 x)) : AJ K S pc lv (vI x :: vP k :: st) M := ab_putI C (T := TX9) (j := 12) (ab_inws inX9 goX9) rfl (by decide) gw773 (ty0 := tyX9) tyX9_ok nmX9 rfl rfl (by decide +kernel) hk hf hd h
theorem gw774 : ab_gw (.fieldLink RX9 13 "WordLawsModel" "p" "I") := ⟨tm4 (List.mem_of_getElem? (i := 48) (by decide +kernel)), by decide +kernel⟩
theorem gf_RX9_13 {K : AbK} {cc : ByteArray} {rm : Room} (C : Cx K cc RX9 rm) {S : List AbS} {pc : Nat} {lv st : List AbV} {M : AbM} {k : Nat} {fs : List (Option Nat)} (hk : S[k]? = some (sO 9 fs)) (hf : fs[1]? = some none) (hd : decode cc pc = .ok (.getfield 13, 3)) (h : AJ K S (pc + 3) lv (vI (M k 1) :: st) M) : AJ K S pc lv (vP k :: st) M := ab_getI C (T := TX9) (j := 1) (ab_inws inX9 goX9) rfl (by decide) gw774 rfl hk hf hd h
theorem pf_RX9_13 {K : AbK} {cc : ByteArray} {rm : Room} (C : Cx K cc RX9 rm) {S : List AbS} {pc : Nat} {lv st : List AbV} {M : AbM} {k : Nat} {fs : List (Option Nat)} {x : Int} (hk : S[k]? = some (sO 9 fs)) (hf : fs[1]? = some none) (hd : decode cc pc = .ok (.putfield 13, 3)) (h : AJ K S (pc + 3) lv st (up M k 1 x)) : AJ K S pc lv (vI x :: vP k :: st) M := ab_putI C (T := TX9) (j := 1) (ab_inws inX9 goX9) rfl (by decide) gw774 (ty0 := tyX9) tyX9_ok nmX9 rfl rfl (by decide +kernel) hk hf hd h
theorem gw775 : ab_gw (.fieldLink RX9 150 "WordLawsModel" "hasOther" "Z") := ⟨tm4 (List.mem_of_getElem? (i := 61) (by decide +kernel)), by decide +kernel⟩
theorem gf_RX9_150 {K : AbK} {cc : ByteArray} {rm : Room} (C : Cx K cc RX9 rm) {S : List AbS} {pc : Nat} {lv st : List AbV} {M : AbM} {k : Nat} {fs : List (Option Nat)} (hk : S[k]? = some (sO 9 fs)) (hf : fs[14]? = some none) (hd : decode cc pc = .ok (.getfield 150, 3)) (h : AJ K S (pc + 3) lv (vI (M k 14) :: st) M) : AJ K S pc lv (vP k :: st) M := ab_getI C (T := TX9) (j := 14) (ab_inws inX9 goX9) rfl (by decide) gw775 rfl hk hf hd h
theorem pf_RX9_150 {K : AbK} {cc : ByteArray} {rm : Room} (C : Cx K cc RX9 rm) {S : List AbS} {pc : Nat} {lv st : List AbV} {M : AbM} {k : Nat} {fs : List (Option Nat)} {x : Int} (hz : x = 0 ∨ x = 1) (hk : S[k]? = some (sO 9 fs)) (hf : fs[14]? = some none) (hd : decode cc pc = .ok (.putfield 150, 3)) (h : AJ K S (pc + 3) lv st (up M k 14 x)) : AJ K S pc lv (vI x :: vP k :: st) M := ab_putZ C (T := TX9) (j := 14) (ab_inws inX9 goX9) rfl (by decide) gw775 (ty0 := tyX9) tyX9_ok nmX9 rfl rfl hz (by decide +kernel) hk hf hd h
theorem gw776 : ab_gw (.fieldLink RX9 16 "WordLawsModel" "longest" "I") := ⟨tm4 (List.mem_of_getElem? (i := 49) (by decide +kernel)), by decide +kernel⟩
theorem gf_RX9_16 {K : AbK} {cc : ByteArray} {rm : Room} (C : Cx K cc RX9 rm) {S : List AbS} {pc : Nat} {lv st : List AbV} {M : AbM} {k : Nat} {fs : List (Option Nat)} (hk : S[k]? = some (sO 9 fs)) (hf : fs[2]? = some none) (hd : decode cc pc = .ok (.getfield 16, 3)) (h : AJ K S (pc + 3) lv (vI (M k 2) :: st) M) : AJ K S pc lv (vP k :: st) M := ab_getI C (T := TX9) (j := 2) (ab_inws inX9 goX9) rfl (by decide) gw776 rfl hk hf hd h
theorem pf_RX9_16 {K : AbK} {cc : ByteArray} {rm : Room} (C : Cx K cc RX9 rm) {S : List AbS} {pc : Nat} {lv st : List AbV} {M : AbM} {k : Nat} {fs : List (Option Nat)} {x : Int} (hk : S[k]? = some (sO 9 fs)) (hf : fs[2]? = some none) (hd : decode cc pc = .ok (.putfield 16, 3)) (h : AJ K S (pc + 3) lv st (up M k 2 x)) : AJ K S pc lv (vI x :: vP k :: st) M := ab_putI C (T := TX9) (j := 2) (ab_inws inX9 goX9) rfl (by decide) gw776 (ty0 := tyX9) tyX9_ok nmX9 rfl rfl (by decide +kernel) hk hf hd h
theorem gw777 : ab_gw (.fieldLink RX9 19 "WordLawsModel" "words" "[I") := ⟨tm4 (List.mem_of_getElem? (i := 50) (by decide +kernel)), by decide +kernel⟩
theorem gf_RX9_19 {K : AbK} {cc : ByteArray} {rm : Room} (C : Cx K cc RX9 rm) {S : List AbS} {pc : Nat} {lv st : List AbV} {M : AbM} {k : Nat} {fs : List (Option Nat)} {q : Nat} (hk : S[k]? = some (sO 9 fs)) (hf : fs[3]? = some (some q)) (hd : decode cc pc = .ok (.getfield 19, 3)) (h : AJ K S (pc + 3) lv (vP q :: st) M) : AJ K S pc lv (vP k :: st) M := ab_getP C (T := TX9) (j := 3) (ab_inws inX9 goX9) rfl (by decide) gw777 hk hf hd h
theorem gw778 : ab_gw (.fieldLink RX9 23 "WordLawsModel" "begins" "[I") := ⟨tm4 (List.mem_of_getElem? (i := 51) (by decide +kernel)), by decide +kernel⟩
theorem gf_RX9_23 {K : AbK} {cc : ByteArray} {rm : Room} (C : Cx K cc RX9 rm) {S : List AbS} {pc : Nat} {lv st : List AbV} {M : AbM} {k : Nat} {fs : List (Option Nat)} {q : Nat} (hk : S[k]? = some (sO 9 fs)) (hf : fs[4]? = some (some q)) (hd : decode cc pc = .ok (.getfield 23, 3)) (h : AJ K S (pc + 3) lv (vP q :: st) M) : AJ K S pc lv (vP k :: st) M := ab_getP C (T := TX9) (j := 4) (ab_inws inX9 goX9) rfl (by decide) gw778 hk hf hd h
theorem gw779 : ab_gw (.fieldLink RX9 26 "WordLawsModel" "squares" "[I") := ⟨tm4 (List.mem_of_getElem? (i := 52) (by decide +kernel)), by decide +kernel⟩
theorem gf_RX9_26 {K : AbK} {cc : ByteArray} {rm : Room} (C : Cx K cc RX9 rm) {S : List AbS} {pc : Nat} {lv st : List AbV} {M : AbM} {k : Nat} {fs : List (Option Nat)} {q : Nat} (hk : S[k]? = some (sO 9 fs)) (hf : fs[5]? = some (some q)) (hd : decode cc pc = .ok (.getfield 26, 3)) (h : AJ K S (pc + 3) lv (vP q :: st) M) : AJ K S pc lv (vP k :: st) M := ab_getP C (T := TX9) (j := 5) (ab_inws inX9 goX9) rfl (by decide) gw779 hk hf hd h
theorem gw780 : ab_gw (.fieldLink RX9 29 "WordLawsModel" "lengths" "[I") := ⟨tm4 (List.mem_of_getElem? (i := 54) (by decide +kernel)), by decide +kernel⟩
theorem gf_RX9_29 {K : AbK} {cc : ByteArray} {rm : Room} (C : Cx K cc RX9 rm) {S : List AbS} {pc : Nat} {lv st : List AbV} {M : AbM} {k : Nat} {fs : List (Option Nat)} {q : Nat} (hk : S[k]? = some (sO 9 fs)) (hf : fs[7]? = some (some q)) (hd : decode cc pc = .ok (.getfield 29, 3)) (h : AJ K S (pc + 3) lv (vP q :: st) M) : AJ K S pc lv (vP k :: st) M := ab_getP C (T := TX9) (j := 7) (ab_inws inX9 goX9) rfl (by decide) gw780 hk hf hd h
theorem gw781 : ab_gw (.fieldLink RX9 32 "WordLawsModel" "numbers" "[I") := ⟨tm4 (List.mem_of_getElem? (i := 55) (by decide +kernel)), by decide +kernel⟩
theorem gf_RX9_32 {K : AbK} {cc : ByteArray} {rm : Room} (C : Cx K cc RX9 rm) {S : List AbS} {pc : Nat} {lv st : List AbV} {M : AbM} {k : Nat} {fs : List (Option Nat)} {q : Nat} (hk : S[k]? = some (sO 9 fs)) (hf : fs[8]? = some (some q)) (hd : decode cc pc = .ok (.getfield 32, 3)) (h : AJ K S (pc + 3) lv (vP q :: st) M) : AJ K S pc lv (vP k :: st) M := ab_getP C (T := TX9) (j := 8) (ab_inws inX9 goX9) rfl (by decide) gw781 hk hf hd h
theorem gw782 : ab_gw (.fieldLink RX9 35 "WordLawsModel" "made" "[I") := ⟨tm4 (List.mem_of_getElem? (i := 56) (by decide +kernel)), by decide +kernel⟩
theorem gf_RX9_35 {K : AbK} {cc : ByteArray} {rm : Room} (C : Cx K cc RX9 rm) {S : List AbS} {pc : Nat} {lv st : List AbV} {M : AbM} {k : Nat} {fs : List (Option Nat)} {q : Nat} (hk : S[k]? = some (sO 9 fs)) (hf : fs[9]? = some (some q)) (hd : decode cc pc = .ok (.getfield 35, 3)) (h : AJ K S (pc + 3) lv (vP q :: st) M) : AJ K S pc lv (vP k :: st) M := ab_getP C (T := TX9) (j := 9) (ab_inws inX9 goX9) rfl (by decide) gw782 hk hf hd h
theorem gw783 : ab_gw (.fieldLink RX9 38 "WordLawsModel" "tape" "[I") := ⟨tm4 (List.mem_of_getElem? (i := 57) (by decide +kernel)), by decide +kernel⟩
theorem gf_RX9_38 {K : AbK} {cc : ByteArray} {rm : Room} (C : Cx K cc RX9 rm) {S : List AbS} {pc : Nat} {lv st : List AbV} {M : AbM} {k : Nat} {fs : List (Option Nat)} {q : Nat} (hk : S[k]? = some (sO 9 fs)) (hf : fs[10]? = some (some q)) (hd : decode cc pc = .ok (.getfield 38, 3)) (h : AJ K S (pc + 3) lv (vP q :: st) M) : AJ K S pc lv (vP k :: st) M := ab_getP C (T := TX9) (j := 10) (ab_inws inX9 goX9) rfl (by decide) gw783 hk hf hd h
theorem gw784 : ab_gw (.fieldLink RX9 42 "WordLawsModel" "rows" "[I") := ⟨tm4 (List.mem_of_getElem? (i := 62) (by decide +kernel)), by decide +kernel⟩
theorem gf_RX9_42 {K : AbK} {cc : ByteArray} {rm : Room} (C : Cx K cc RX9 rm) {S : List AbS} {pc : Nat} {lv st : List AbV} {M : AbM} {k : Nat} {fs : List (Option Nat)} {q : Nat} (hk : S[k]? = some (sO 9 fs)) (hf : fs[15]? = some (some q)) (hd : decode cc pc = .ok (.getfield 42, 3)) (h : AJ K S (pc + 3) lv (vP q :: st) M) : AJ K S pc lv (vP k :: st) M := ab_getP C (T := TX9) (j := 15) (ab_inws inX9 goX9) rfl (by decide) gw784 hk hf hd h
theorem gw785 : ab_gw (.fieldLink RX9 45 "WordLawsModel" "leads" "[Z") := ⟨tm4 (List.mem_of_getElem? (i := 63) (by decide +kernel)), by decide +kernel⟩
theorem gf_RX9_45 {K : AbK} {cc : ByteArray} {rm : Room} (C : Cx K cc RX9 rm) {S : List AbS} {pc : Nat} {lv st : List AbV} {M : AbM} {k : Nat} {fs : List (Option Nat)} {q : Nat} (hk : S[k]? = some (sO 9 fs)) (hf : fs[16]? = some (some q)) (hd : decode cc pc = .ok (.getfield 45, 3)) (h : AJ K S (pc + 3) lv (vP q :: st) M) : AJ K S pc lv (vP k :: st) M := ab_getP C (T := TX9) (j := 16) (ab_inws inX9 goX9) rfl (by decide) gw785 hk hf hd h
theorem gw786 : ab_gw (.fieldLink RX9 49 "WordLawsModel" "otherRows" "[I") := ⟨tm4 (List.mem_of_getElem? (i := 64) (by decide +kernel)), by decide +kernel⟩
theorem gf_RX9_49 {K : AbK} {cc : ByteArray} {rm : Room} (C : Cx K cc RX9 rm) {S : List AbS} {pc : Nat} {lv st : List AbV} {M : AbM} {k : Nat} {fs : List (Option Nat)} {q : Nat} (hk : S[k]? = some (sO 9 fs)) (hf : fs[17]? = some (some q)) (hd : decode cc pc = .ok (.getfield 49, 3)) (h : AJ K S (pc + 3) lv (vP q :: st) M) : AJ K S pc lv (vP k :: st) M := ab_getP C (T := TX9) (j := 17) (ab_inws inX9 goX9) rfl (by decide) gw786 hk hf hd h
theorem gw787 : ab_gw (.fieldLink RX9 52 "WordLawsModel" "otherLeads" "[Z") := ⟨tm4 (List.mem_of_getElem? (i := 65) (by decide +kernel)), by decide +kernel⟩
theorem gf_RX9_52 {K : AbK} {cc : ByteArray} {rm : Room} (C : Cx K cc RX9 rm) {S : List AbS} {pc : Nat} {lv st : List AbV} {M : AbM} {k : Nat} {fs : List (Option Nat)} {q : Nat} (hk : S[k]? = some (sO 9 fs)) (hf : fs[18]? = some (some q)) (hd : decode cc pc = .ok (.getfield 52, 3)) (h : AJ K S (pc + 3) lv (vP q :: st) M) : AJ K S pc lv (vP k :: st) M := ab_getP C (T := TX9) (j := 18) (ab_inws inX9 goX9) rfl (by decide) gw787 hk hf hd h
theorem gw788 : ab_gw (.fieldLink RX9 55 "WordLawsModel" "row" "[I") := ⟨tm4 (List.mem_of_getElem? (i := 66) (by decide +kernel)), by decide +kernel⟩
theorem gf_RX9_55 {K : AbK} {cc : ByteArray} {rm : Room} (C : Cx K cc RX9 rm) {S : List AbS} {pc : Nat} {lv st : List AbV} {M : AbM} {k : Nat} {fs : List (Option Nat)} {q : Nat} (hk : S[k]? = some (sO 9 fs)) (hf : fs[19]? = some (some q)) (hd : decode cc pc = .ok (.getfield 55, 3)) (h : AJ K S (pc + 3) lv (vP q :: st) M) : AJ K S pc lv (vP k :: st) M := ab_getP C (T := TX9) (j := 19) (ab_inws inX9 goX9) rfl (by decide) gw788 hk hf hd h
theorem gw789 : ab_gw (.fieldLink RX9 58 "WordLawsModel" "equations" "[I") := ⟨tm4 (List.mem_of_getElem? (i := 67) (by decide +kernel)), by decide +kernel⟩
theorem gf_RX9_58 {K : AbK} {cc : ByteArray} {rm : Room} (C : Cx K cc RX9 rm) {S : List AbS} {pc : Nat} {lv st : List AbV} {M : AbM} {k : Nat} {fs : List (Option Nat)} {q : Nat} (hk : S[k]? = some (sO 9 fs)) (hf : fs[20]? = some (some q)) (hd : decode cc pc = .ok (.getfield 58, 3)) (h : AJ K S (pc + 3) lv (vP q :: st) M) : AJ K S pc lv (vP k :: st) M := ab_getP C (T := TX9) (j := 20) (ab_inws inX9 goX9) rfl (by decide) gw789 hk hf hd h
theorem gw790 : ab_gw (.fieldLink RX9 61 "WordLawsModel" "firsts" "[Z") := ⟨tm4 (List.mem_of_getElem? (i := 68) (by decide +kernel)), by decide +kernel⟩
theorem gf_RX9_61 {K : AbK} {cc : ByteArray} {rm : Room} (C : Cx K cc RX9 rm) {S : List AbS} {pc : Nat} {lv st : List AbV} {M : AbM} {k : Nat} {fs : List (Option Nat)} {q : Nat} (hk : S[k]? = some (sO 9 fs)) (hf : fs[21]? = some (some q)) (hd : decode cc pc = .ok (.getfield 61, 3)) (h : AJ K S (pc + 3) lv (vP q :: st) M) : AJ K S pc lv (vP k :: st) M := ab_getP C (T := TX9) (j := 21) (ab_inws inX9 goX9) rfl (by decide) gw790 hk hf hd h
theorem gw791 : ab_gw (.fieldLink RX9 64 "WordLawsModel" "sum" "[I") := ⟨tm4 (List.mem_of_getElem? (i := 69) (by decide +kernel)), by decide +kernel⟩
theorem gf_RX9_64 {K : AbK} {cc : ByteArray} {rm : Room} (C : Cx K cc RX9 rm) {S : List AbS} {pc : Nat} {lv st : List AbV} {M : AbM} {k : Nat} {fs : List (Option Nat)} {q : Nat} (hk : S[k]? = some (sO 9 fs)) (hf : fs[22]? = some (some q)) (hd : decode cc pc = .ok (.getfield 64, 3)) (h : AJ K S (pc + 3) lv (vP q :: st) M) : AJ K S pc lv (vP k :: st) M := ab_getP C (T := TX9) (j := 22) (ab_inws inX9 goX9) rfl (by decide) gw791 hk hf hd h
theorem gw792 : ab_gw (.fieldLink RX9 67 "WordLawsModel" "lanes" "[I") := ⟨tm4 (List.mem_of_getElem? (i := 70) (by decide +kernel)), by decide +kernel⟩
theorem gf_RX9_67 {K : AbK} {cc : ByteArray} {rm : Room} (C : Cx K cc RX9 rm) {S : List AbS} {pc : Nat} {lv st : List AbV} {M : AbM} {k : Nat} {fs : List (Option Nat)} {q : Nat} (hk : S[k]? = some (sO 9 fs)) (hf : fs[23]? = some (some q)) (hd : decode cc pc = .ok (.getfield 67, 3)) (h : AJ K S (pc + 3) lv (vP q :: st) M) : AJ K S pc lv (vP k :: st) M := ab_getP C (T := TX9) (j := 23) (ab_inws inX9 goX9) rfl (by decide) gw792 hk hf hd h
theorem gw793 : ab_gw (.fieldLink RX9 7 "WordLawsModel" "n" "I") := ⟨tm4 (List.mem_of_getElem? (i := 47) (by decide +kernel)), by decide +kernel⟩
theorem gf_RX9_7 {K : AbK} {cc : ByteArray} {rm : Room} (C : Cx K cc RX9 rm) {S : List AbS} {pc : Nat} {lv st : List AbV} {M : AbM} {k : Nat} {fs : List (Option Nat)} (hk : S[k]? = some (sO 9 fs)) (hf : fs[0]? = some none) (hd : decode cc pc = .ok (.getfield 7, 3)) (h : AJ K S (pc + 3) lv (vI (M k 0) :: st) M) : AJ K S pc lv (vP k :: st) M := ab_getI C (T := TX9) (j := 0) (ab_inws inX9 goX9) rfl (by decide) gw793 rfl hk hf hd h
theorem pf_RX9_7 {K : AbK} {cc : ByteArray} {rm : Room} (C : Cx K cc RX9 rm) {S : List AbS} {pc : Nat} {lv st : List AbV} {M : AbM} {k : Nat} {fs : List (Option Nat)} {x : Int} (hk : S[k]? = some (sO 9 fs)) (hf : fs[0]? = some none) (hd : decode cc pc = .ok (.putfield 7, 3)) (h : AJ K S (pc + 3) lv st (up M k 0 x)) : AJ K S pc lv (vI x :: vP k :: st) M := ab_putI C (T := TX9) (j := 0) (ab_inws inX9 goX9) rfl (by decide) gw793 (ty0 := tyX9) tyX9_ok nmX9 rfl rfl (by decide +kernel) hk hf hd h
theorem gw794 : ab_gw (.fieldLink RX9 70 "WordLawsModel" "sizes" "[I") := ⟨tm4 (List.mem_of_getElem? (i := 71) (by decide +kernel)), by decide +kernel⟩
theorem gf_RX9_70 {K : AbK} {cc : ByteArray} {rm : Room} (C : Cx K cc RX9 rm) {S : List AbS} {pc : Nat} {lv st : List AbV} {M : AbM} {k : Nat} {fs : List (Option Nat)} {q : Nat} (hk : S[k]? = some (sO 9 fs)) (hf : fs[24]? = some (some q)) (hd : decode cc pc = .ok (.getfield 70, 3)) (h : AJ K S (pc + 3) lv (vP q :: st) M) : AJ K S pc lv (vP k :: st) M := ab_getP C (T := TX9) (j := 24) (ab_inws inX9 goX9) rfl (by decide) gw794 hk hf hd h
theorem gw795 : ab_gw (.fieldLink RX9 73 "WordLawsModel" "items" "[I") := ⟨tm4 (List.mem_of_getElem? (i := 72) (by decide +kernel)), by decide +kernel⟩
theorem gf_RX9_73 {K : AbK} {cc : ByteArray} {rm : Room} (C : Cx K cc RX9 rm) {S : List AbS} {pc : Nat} {lv st : List AbV} {M : AbM} {k : Nat} {fs : List (Option Nat)} {q : Nat} (hk : S[k]? = some (sO 9 fs)) (hf : fs[25]? = some (some q)) (hd : decode cc pc = .ok (.getfield 73, 3)) (h : AJ K S (pc + 3) lv (vP q :: st) M) : AJ K S pc lv (vP k :: st) M := ab_getP C (T := TX9) (j := 25) (ab_inws inX9 goX9) rfl (by decide) gw795 hk hf hd h
theorem gw796 : ab_gw (.fieldLink RX9 79 "WordLawsModel" "laws" "I") := ⟨tm4 (List.mem_of_getElem? (i := 53) (by decide +kernel)), by decide +kernel⟩
theorem gf_RX9_79 {K : AbK} {cc : ByteArray} {rm : Room} (C : Cx K cc RX9 rm) {S : List AbS} {pc : Nat} {lv st : List AbV} {M : AbM} {k : Nat} {fs : List (Option Nat)} (hk : S[k]? = some (sO 9 fs)) (hf : fs[6]? = some none) (hd : decode cc pc = .ok (.getfield 79, 3)) (h : AJ K S (pc + 3) lv (vI (M k 6) :: st) M) : AJ K S pc lv (vP k :: st) M := ab_getI C (T := TX9) (j := 6) (ab_inws inX9 goX9) rfl (by decide) gw796 rfl hk hf hd h
theorem pf_RX9_79 {K : AbK} {cc : ByteArray} {rm : Room} (C : Cx K cc RX9 rm) {S : List AbS} {pc : Nat} {lv st : List AbV} {M : AbM} {k : Nat} {fs : List (Option Nat)} {x : Int} (hk : S[k]? = some (sO 9 fs)) (hf : fs[6]? = some none) (hd : decode cc pc = .ok (.putfield 79, 3)) (h : AJ K S (pc + 3) lv st (up M k 6 x)) : AJ K S pc lv (vI x :: vP k :: st) M := ab_putI C (T := TX9) (j := 6) (ab_inws inX9 goX9) rfl (by decide) gw796 (ty0 := tyX9) tyX9_ok nmX9 rfl rfl (by decide +kernel) hk hf hd h
theorem gw797 : ab_gw (.fieldLink RX9 82 "WordLawsModel" "isReady" "Z") := ⟨tm4 (List.mem_of_getElem? (i := 60) (by decide +kernel)), by decide +kernel⟩
theorem gf_RX9_82 {K : AbK} {cc : ByteArray} {rm : Room} (C : Cx K cc RX9 rm) {S : List AbS} {pc : Nat} {lv st : List AbV} {M : AbM} {k : Nat} {fs : List (Option Nat)} (hk : S[k]? = some (sO 9 fs)) (hf : fs[13]? = some none) (hd : decode cc pc = .ok (.getfield 82, 3)) (h : AJ K S (pc + 3) lv (vI (M k 13) :: st) M) : AJ K S pc lv (vP k :: st) M := ab_getI C (T := TX9) (j := 13) (ab_inws inX9 goX9) rfl (by decide) gw797 rfl hk hf hd h
theorem pf_RX9_82 {K : AbK} {cc : ByteArray} {rm : Room} (C : Cx K cc RX9 rm) {S : List AbS} {pc : Nat} {lv st : List AbV} {M : AbM} {k : Nat} {fs : List (Option Nat)} {x : Int} (hz : x = 0 ∨ x = 1) (hk : S[k]? = some (sO 9 fs)) (hf : fs[13]? = some none) (hd : decode cc pc = .ok (.putfield 82, 3)) (h : AJ K S (pc + 3) lv st (up M k 13 x)) : AJ K S pc lv (vI x :: vP k :: st) M := ab_putZ C (T := TX9) (j := 13) (ab_inws inX9 goX9) rfl (by decide) gw797 (ty0 := tyX9) tyX9_ok nmX9 rfl rfl hz (by decide +kernel) hk hf hd h
theorem gw798 : ab_gw (.constant RX0 9 (33397 : Int32)) := ⟨tm1 (List.mem_of_getElem? (i := 130) (by decide +kernel)), by decide +kernel⟩
theorem gw799 : ab_gw (.constant RX9 41 (70000 : Int32)) := ⟨tm4 (List.mem_of_getElem? (i := 42) (by decide +kernel)), by decide +kernel⟩
theorem gw800 : ab_gw (.constantLong RL 18 (4294967295 : Int64)) := ⟨tm5 (List.mem_of_getElem? (i := 83) (by decide +kernel)), by decide +kernel⟩
theorem gw801 : ab_gw (.constantLong RX9 100 (32 : Int64)) := ⟨tm4 (List.mem_of_getElem? (i := 142) (by decide +kernel)), by decide +kernel⟩
theorem gw802 : ab_gw (.constantLong RX9 102 (126 : Int64)) := ⟨tm4 (List.mem_of_getElem? (i := 143) (by decide +kernel)), by decide +kernel⟩
theorem gw803 : ab_gw (.constantLong RX9 114 (48 : Int64)) := ⟨tm4 (List.mem_of_getElem? (i := 160) (by decide +kernel)), by decide +kernel⟩
theorem gw804 : ab_gw (.constantLong RX9 116 (57 : Int64)) := ⟨tm4 (List.mem_of_getElem? (i := 161) (by decide +kernel)), by decide +kernel⟩
theorem gw805 : ab_gw (.constantLong RX9 126 (4 : Int64)) := ⟨tm4 (List.mem_of_getElem? (i := 162) (by decide +kernel)), by decide +kernel⟩
theorem gw806 : ab_gw (.constantLong RX9 132 (-1 : Int64)) := ⟨tm4 (List.mem_of_getElem? (i := 175) (by decide +kernel)), by decide +kernel⟩
theorem gw807 : ab_gw (.constantLong RX9 194 (999 : Int64)) := ⟨tm5 (List.mem_of_getElem? (i := 63) (by decide +kernel)), by decide +kernel⟩
theorem gw808 : ab_gw (.constantLong RX9 86 (2 : Int64)) := ⟨tm4 (List.mem_of_getElem? (i := 130) (by decide +kernel)), by decide +kernel⟩
theorem gw809 : ab_gw (.constantLong RX9 88 (97 : Int64)) := ⟨tm4 (List.mem_of_getElem? (i := 131) (by decide +kernel)), by decide +kernel⟩
theorem gw810 : ab_gw (.constantLong RX9 94 (3 : Int64)) := ⟨tm4 (List.mem_of_getElem? (i := 135) (by decide +kernel)), by decide +kernel⟩
theorem gw811 : ab_gw (.constantLong RX9 96 (8 : Int64)) := ⟨tm4 (List.mem_of_getElem? (i := 140) (by decide +kernel)), by decide +kernel⟩
theorem gw812 : ab_gw (.constantLong RX9 98 (255 : Int64)) := ⟨tm4 (List.mem_of_getElem? (i := 141) (by decide +kernel)), by decide +kernel⟩
abbrev rmJ7_fill_53178 : Room := { frames := 0, cells := 0, slots := 0, locals := 0 }
abbrev rmJ7_fill_d0a16 : Room := { frames := 0, cells := 0, slots := 0, locals := 0 }
abbrev rmJ9_max_7cf53 : Room := { frames := 0, cells := 0, slots := 0, locals := 0 }
abbrev rmJ9_min_7cf53 : Room := { frames := 0, cells := 0, slots := 0, locals := 0 }
abbrev rmX0_addEquation : Room := { frames := 4, cells := 0, slots := 0, locals := 89 }
abbrev rmX0_addForm : Room := { frames := 5, cells := 0, slots := 0, locals := 123 }
abbrev rmX0_addHeadForm : Room := { frames := 2, cells := 0, slots := 0, locals := 49 }
abbrev rmX0_addRow : Room := { frames := 1, cells := 0, slots := 0, locals := 22 }
abbrev rmX0_addTailForm : Room := { frames := 2, cells := 0, slots := 0, locals := 49 }
abbrev rmX0_clearForm : Room := { frames := 0, cells := 0, slots := 0, locals := 0 }
abbrev rmX0_followShorter : Room := { frames := 3, cells := 0, slots := 0, locals := 76 }
abbrev rmX0_forgetFrom : Room := { frames := 1, cells := 0, slots := 0, locals := 21 }
abbrev rmX0_init : Room := { frames := 1, cells := 0, slots := 0, locals := 20 }
abbrev rmX0_isLeading : Room := { frames := 5, cells := 0, slots := 0, locals := 123 }
abbrev rmX0_isLeast : Room := { frames := 2, cells := 0, slots := 0, locals := 45 }
abbrev rmX0_leastLawsOf : Room := { frames := 5, cells := 0, slots := 0, locals := 123 }
abbrev rmX0_leastWord : Room := { frames := 5, cells := 0, slots := 0, locals := 123 }
abbrev rmX0_middleOf : Room := { frames := 5, cells := 0, slots := 0, locals := 123 }
abbrev rmX0_normalWord : Room := { frames := 5, cells := 0, slots := 0, locals := 123 }
abbrev rmX0_normalsOf : Room := { frames := 5, cells := 0, slots := 0, locals := 123 }
abbrev rmX0_numberAt : Room := { frames := 1, cells := 0, slots := 0, locals := 22 }
abbrev rmX0_numberInForm : Room := { frames := 5, cells := 0, slots := 0, locals := 123 }
abbrev rmX0_prepare : Room := { frames := 4, cells := 0, slots := 0, locals := 100 }
abbrev rmX0_replaceLead : Room := { frames := 1, cells := 0, slots := 0, locals := 23 }
abbrev rmX0_settle : Room := { frames := 3, cells := 0, slots := 0, locals := 67 }
abbrev rmX0_takeLaw : Room := { frames := 3, cells := 0, slots := 0, locals := 74 }
abbrev rmX0_takeNought : Room := { frames := 2, cells := 0, slots := 0, locals := 49 }
abbrev rmX0_termsInForm : Room := { frames := 5, cells := 0, slots := 0, locals := 123 }
abbrev rmX1_ahead : Room := { frames := 0, cells := 0, slots := 0, locals := 0 }
abbrev rmX1_behind : Room := { frames := 0, cells := 0, slots := 0, locals := 0 }
abbrev rmX1_choose : Room := { frames := 0, cells := 0, slots := 0, locals := 0 }
abbrev rmX1_firstLetter : Room := { frames := 0, cells := 0, slots := 0, locals := 0 }
abbrev rmX1_formAt : Room := { frames := 0, cells := 0, slots := 0, locals := 0 }
abbrev rmX1_hasLength : Room := { frames := 0, cells := 0, slots := 0, locals := 0 }
abbrev rmX1_hasWord : Room := { frames := 1, cells := 0, slots := 0, locals := 21 }
abbrev rmX1_init : Room := { frames := 1, cells := 0, slots := 0, locals := 26 }
abbrev rmX1_inverse : Room := { frames := 1, cells := 0, slots := 0, locals := 23 }
abbrev rmX1_join : Room := { frames := 0, cells := 0, slots := 0, locals := 0 }
abbrev rmX1_lastLetter : Room := { frames := 1, cells := 0, slots := 0, locals := 21 }
abbrev rmX1_letters : Room := { frames := 0, cells := 0, slots := 0, locals := 0 }
abbrev rmX1_longest : Room := { frames := 0, cells := 0, slots := 0, locals := 0 }
abbrev rmX1_placeOf : Room := { frames := 0, cells := 0, slots := 0, locals := 0 }
abbrev rmX1_prime : Room := { frames := 0, cells := 0, slots := 0, locals := 0 }
abbrev rmX1_rest : Room := { frames := 0, cells := 0, slots := 0, locals := 0 }
abbrev rmX1_withoutFirst : Room := { frames := 1, cells := 0, slots := 0, locals := 23 }
abbrev rmX1_withoutLast : Room := { frames := 0, cells := 0, slots := 0, locals := 0 }
abbrev rmX1_words : Room := { frames := 0, cells := 0, slots := 0, locals := 0 }
abbrev rmX2_init : Room := { frames := 1, cells := 0, slots := 0, locals := 20 }
abbrev rmX2_keep : Room := { frames := 2, cells := 0, slots := 0, locals := 45 }
abbrev rmX2_open : Room := { frames := 1, cells := 0, slots := 0, locals := 21 }
abbrev rmX2_rank : Room := { frames := 0, cells := 0, slots := 0, locals := 0 }
abbrev rmX2_set : Room := { frames := 1, cells := 0, slots := 0, locals := 23 }
abbrev rmX2_subtractRow : Room := { frames := 1, cells := 0, slots := 0, locals := 23 }
abbrev rmX2_take : Room := { frames := 3, cells := 0, slots := 0, locals := 68 }
abbrev rmX3_allHaveLength : Room := { frames := 0, cells := 0, slots := 0, locals := 0 }
abbrev rmX3_clear : Room := { frames := 0, cells := 0, slots := 0, locals := 0 }
abbrev rmX3_init : Room := { frames := 1, cells := 0, slots := 0, locals := 20 }
abbrev rmX3_lengthOf : Room := { frames := 0, cells := 0, slots := 0, locals := 0 }
abbrev rmX3_numberOf : Room := { frames := 0, cells := 0, slots := 0, locals := 0 }
abbrev rmX3_open : Room := { frames := 0, cells := 0, slots := 0, locals := 0 }
abbrev rmX3_removeLatest : Room := { frames := 0, cells := 0, slots := 0, locals := 0 }
abbrev rmX3_set : Room := { frames := 0, cells := 0, slots := 0, locals := 0 }
abbrev rmX3_size : Room := { frames := 0, cells := 0, slots := 0, locals := 0 }
abbrev rmX4_closeTerm : Room := { frames := 2, cells := 0, slots := 0, locals := 48 }
abbrev rmX4_init : Room := { frames := 1, cells := 0, slots := 0, locals := 20 }
abbrev rmX4_needsTerm : Room := { frames := 0, cells := 0, slots := 0, locals := 0 }
abbrev rmX4_openTerm : Room := { frames := 0, cells := 0, slots := 0, locals := 0 }
abbrev rmX4_read : Room := { frames := 5, cells := 0, slots := 0, locals := 115 }
abbrev rmX4_takeByte : Room := { frames := 4, cells := 0, slots := 0, locals := 92 }
abbrev rmX4_takeDigit : Room := { frames := 1, cells := 0, slots := 0, locals := 20 }
abbrev rmX4_takeLetter : Room := { frames := 1, cells := 0, slots := 0, locals := 22 }
abbrev rmX4_takeSign : Room := { frames := 3, cells := 0, slots := 0, locals := 69 }
abbrev rmX5_at : Room := { frames := 1, cells := 0, slots := 0, locals := 22 }
abbrev rmX5_has : Room := { frames := 0, cells := 0, slots := 0, locals := 0 }
abbrev rmX5_hold : Room := { frames := 1, cells := 0, slots := 0, locals := 24 }
abbrev rmX5_init : Room := { frames := 1, cells := 0, slots := 0, locals := 20 }
abbrev rmX5_isMissing : Room := { frames := 0, cells := 0, slots := 0, locals := 0 }
abbrev rmX5_isOf : Room := { frames := 0, cells := 0, slots := 0, locals := 0 }
abbrev rmX5_release : Room := { frames := 0, cells := 0, slots := 0, locals := 0 }
abbrev rmX5_set : Room := { frames := 1, cells := 0, slots := 0, locals := 22 }
abbrev rmX6_add : Room := { frames := 1, cells := 0, slots := 0, locals := 23 }
abbrev rmX6_clear : Room := { frames := 1, cells := 0, slots := 0, locals := 23 }
abbrev rmX6_copy : Room := { frames := 1, cells := 0, slots := 0, locals := 26 }
abbrev rmX6_hasTermsOf : Room := { frames := 2, cells := 0, slots := 0, locals := 44 }
abbrev rmX6_init : Room := { frames := 1, cells := 0, slots := 0, locals := 20 }
abbrev rmX6_multiply : Room := { frames := 1, cells := 0, slots := 0, locals := 23 }
abbrev rmX6_numberOf : Room := { frames := 1, cells := 0, slots := 0, locals := 22 }
abbrev rmX6_onlyLength : Room := { frames := 3, cells := 0, slots := 0, locals := 66 }
abbrev rmX6_terms : Room := { frames := 0, cells := 0, slots := 0, locals := 0 }
abbrev rmX7_add : Room := { frames := 0, cells := 0, slots := 0, locals := 0 }
abbrev rmX7_at : Room := { frames := 0, cells := 0, slots := 0, locals := 0 }
abbrev rmX7_clear : Room := { frames := 0, cells := 0, slots := 0, locals := 0 }
abbrev rmX7_init : Room := { frames := 1, cells := 0, slots := 0, locals := 20 }
abbrev rmX7_size : Room := { frames := 0, cells := 0, slots := 0, locals := 0 }
abbrev rmX8_addLaw : Room := { frames := 3, cells := 0, slots := 0, locals := 63 }
abbrev rmX8_begin : Room := { frames := 3, cells := 0, slots := 0, locals := 63 }
abbrev rmX8_byteOf : Room := { frames := 0, cells := 0, slots := 0, locals := 0 }
abbrev rmX8_count : Room := { frames := 7, cells := 0, slots := 0, locals := 166 }
abbrev rmX8_countLeastLaws : Room := { frames := 6, cells := 0, slots := 0, locals := 144 }
abbrev rmX8_drop : Room := { frames := 1, cells := 0, slots := 0, locals := 20 }
abbrev rmX8_fit : Room := { frames := 7, cells := 0, slots := 0, locals := 170 }
abbrev rmX8_forgetFrom : Room := { frames := 2, cells := 0, slots := 0, locals := 42 }
abbrev rmX8_init : Room := { frames := 2, cells := 0, slots := 0, locals := 46 }
abbrev rmX8_isLane : Room := { frames := 0, cells := 0, slots := 0, locals := 0 }
abbrev rmX8_isLawLength : Room := { frames := 0, cells := 0, slots := 0, locals := 0 }
abbrev rmX8_isPrime : Room := { frames := 0, cells := 0, slots := 0, locals := 0 }
abbrev rmX8_isSheet : Room := { frames := 0, cells := 0, slots := 0, locals := 0 }
abbrev rmX8_item : Room := { frames := 2, cells := 0, slots := 0, locals := 45 }
abbrev rmX8_law : Room := { frames := 7, cells := 0, slots := 0, locals := 160 }
abbrev rmX8_laws : Room := { frames := 4, cells := 0, slots := 0, locals := 85 }
abbrev rmX8_leads : Room := { frames := 6, cells := 0, slots := 0, locals := 145 }
abbrev rmX8_least : Room := { frames := 7, cells := 0, slots := 0, locals := 170 }
abbrev rmX8_middle : Room := { frames := 6, cells := 0, slots := 0, locals := 147 }
abbrev rmX8_normal : Room := { frames := 6, cells := 0, slots := 0, locals := 144 }
abbrev rmX8_other : Room := { frames := 7, cells := 0, slots := 0, locals := 170 }
abbrev rmX8_part : Room := { frames := 2, cells := 0, slots := 0, locals := 44 }
abbrev rmX8_plain : Room := { frames := 6, cells := 0, slots := 0, locals := 146 }
abbrev rmX8_product : Room := { frames := 6, cells := 0, slots := 0, locals := 147 }
abbrev rmX8_put : Room := { frames := 3, cells := 0, slots := 0, locals := 66 }
abbrev rmX8_readRow : Room := { frames := 2, cells := 0, slots := 0, locals := 48 }
abbrev rmX8_readTape : Room := { frames := 6, cells := 0, slots := 0, locals := 139 }
abbrev rmX8_reduce : Room := { frames := 6, cells := 0, slots := 0, locals := 148 }
abbrev rmX8_refuseRow : Room := { frames := 1, cells := 0, slots := 0, locals := 22 }
abbrev rmX8_renewOther : Room := { frames := 6, cells := 0, slots := 0, locals := 147 }
abbrev rmX8_seriesAt : Room := { frames := 6, cells := 0, slots := 0, locals := 144 }
abbrev rmX8_sheet : Room := { frames := 2, cells := 0, slots := 0, locals := 46 }
abbrev rmX8_sum : Room := { frames := 7, cells := 0, slots := 0, locals := 160 }
abbrev rmX8_tellLeast : Room := { frames := 6, cells := 0, slots := 0, locals := 147 }
abbrev rmX8_times : Room := { frames := 2, cells := 0, slots := 0, locals := 45 }
abbrev rmX8_told : Room := { frames := 2, cells := 0, slots := 0, locals := 43 }
abbrev rmX8_type : Room := { frames := 1, cells := 0, slots := 0, locals := 22 }
abbrev rmX8_unlaw : Room := { frames := 3, cells := 0, slots := 0, locals := 63 }
abbrev rmX8_word : Room := { frames := 6, cells := 0, slots := 0, locals := 147 }
abbrev rmX9_add : Room := { frames := 0, cells := 0, slots := 0, locals := 0 }
abbrev rmX9_areShort : Room := { frames := 0, cells := 0, slots := 0, locals := 0 }
abbrev rmX9_begin : Room := { frames := 1, cells := 0, slots := 0, locals := 25 }
abbrev rmX9_clearRow : Room := { frames := 0, cells := 0, slots := 0, locals := 0 }
abbrev rmX9_count : Room := { frames := 4, cells := 0, slots := 0, locals := 99 }
abbrev rmX9_drop : Room := { frames := 1, cells := 0, slots := 0, locals := 25 }
abbrev rmX9_find : Room := { frames := 3, cells := 0, slots := 0, locals := 76 }
abbrev rmX9_findOther : Room := { frames := 4, cells := 0, slots := 0, locals := 99 }
abbrev rmX9_fit : Room := { frames := 5, cells := 0, slots := 0, locals := 121 }
abbrev rmX9_grow : Room := { frames := 2, cells := 0, slots := 0, locals := 49 }
abbrev rmX9_in : Room := { frames := 0, cells := 0, slots := 0, locals := 0 }
abbrev rmX9_init : Room := { frames := 1, cells := 0, slots := 0, locals := 21 }
abbrev rmX9_insert : Room := { frames := 1, cells := 0, slots := 0, locals := 22 }
abbrev rmX9_inverse : Room := { frames := 0, cells := 0, slots := 0, locals := 0 }
abbrev rmX9_isLeast : Room := { frames := 0, cells := 0, slots := 0, locals := 0 }
abbrev rmX9_isLength : Room := { frames := 1, cells := 0, slots := 0, locals := 25 }
abbrev rmX9_isSheet : Room := { frames := 1, cells := 0, slots := 0, locals := 25 }
abbrev rmX9_isWord : Room := { frames := 2, cells := 0, slots := 0, locals := 46 }
abbrev rmX9_item : Room := { frames := 2, cells := 0, slots := 0, locals := 46 }
abbrev rmX9_law : Room := { frames := 3, cells := 0, slots := 0, locals := 75 }
abbrev rmX9_laws : Room := { frames := 2, cells := 0, slots := 0, locals := 46 }
abbrev rmX9_leads : Room := { frames := 4, cells := 0, slots := 0, locals := 99 }
abbrev rmX9_least : Room := { frames := 4, cells := 0, slots := 0, locals := 99 }
abbrev rmX9_leastMany : Room := { frames := 1, cells := 0, slots := 0, locals := 23 }
abbrev rmX9_middle : Room := { frames := 4, cells := 0, slots := 0, locals := 99 }
abbrev rmX9_next : Room := { frames := 0, cells := 0, slots := 0, locals := 0 }
abbrev rmX9_normal : Room := { frames := 4, cells := 0, slots := 0, locals := 99 }
abbrev rmX9_normalIn : Room := { frames := 0, cells := 0, slots := 0, locals := 0 }
abbrev rmX9_other : Room := { frames := 5, cells := 0, slots := 0, locals := 121 }
abbrev rmX9_part : Room := { frames := 3, cells := 0, slots := 0, locals := 68 }
abbrev rmX9_plain : Room := { frames := 4, cells := 0, slots := 0, locals := 99 }
abbrev rmX9_plainOf : Room := { frames := 0, cells := 0, slots := 0, locals := 0 }
abbrev rmX9_product : Room := { frames := 4, cells := 0, slots := 0, locals := 99 }
abbrev rmX9_put : Room := { frames := 1, cells := 0, slots := 0, locals := 25 }
abbrev rmX9_readSum : Room := { frames := 2, cells := 0, slots := 0, locals := 53 }
abbrev rmX9_readTerm : Room := { frames := 1, cells := 0, slots := 0, locals := 25 }
abbrev rmX9_reduce : Room := { frames := 4, cells := 0, slots := 0, locals := 99 }
abbrev rmX9_sheet : Room := { frames := 2, cells := 0, slots := 0, locals := 46 }
abbrev rmX9_start : Room := { frames := 0, cells := 0, slots := 0, locals := 0 }
abbrev rmX9_sum : Room := { frames := 3, cells := 0, slots := 0, locals := 75 }
abbrev rmX9_tell : Room := { frames := 1, cells := 0, slots := 0, locals := 22 }
abbrev rmX9_termsOf : Room := { frames := 0, cells := 0, slots := 0, locals := 0 }
abbrev rmX9_tidy : Room := { frames := 0, cells := 0, slots := 0, locals := 0 }
abbrev rmX9_times : Room := { frames := 1, cells := 0, slots := 0, locals := 25 }
abbrev rmX9_told : Room := { frames := 1, cells := 0, slots := 0, locals := 25 }
abbrev rmX9_type : Room := { frames := 1, cells := 0, slots := 0, locals := 25 }
abbrev rmX9_unlaw : Room := { frames := 0, cells := 0, slots := 0, locals := 0 }
abbrev rmX9_word : Room := { frames := 4, cells := 0, slots := 0, locals := 99 }
abbrev rmX9_wordOf : Room := { frames := 0, cells := 0, slots := 0, locals := 0 }
