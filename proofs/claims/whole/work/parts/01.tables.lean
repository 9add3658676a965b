-- ===== PART A: goes FIRST, ahead of the names: the tables' words, and 'selects' of the private methods out of them =====
/-- a private method of a class that the tables say can be made, by its rows of tables_1 -/
def lw_okq (q : MethodName × Nat) : Prop := (q.1.cls ≠ "java/lang/invoke/MethodHandle" ∧ q.1.cls ≠ "java/lang/invoke/VarHandle") ∧ Cond.instantiable q.1.cls q.2 ∈ tables_1 ∧ Cond.privateMethod q.1 ∈ tables_1 ∧ Cond.instanceMethod q.1 ∈ tables_1
theorem lw_p0 : lw_okq (⟨"WordLaws", "forgetFrom", "(I)V"⟩, 12) := ⟨⟨by decide +kernel, by decide +kernel⟩, List.mem_of_getElem? (i := 15) (by decide +kernel), List.mem_of_getElem? (i := 260) (by decide +kernel), List.mem_of_getElem? (i := 261) (by decide +kernel)⟩
theorem lw_p1 : lw_okq (⟨"WordLaws", "readTape", "()I"⟩, 12) := ⟨⟨by decide +kernel, by decide +kernel⟩, List.mem_of_getElem? (i := 15) (by decide +kernel), List.mem_of_getElem? (i := 294) (by decide +kernel), List.mem_of_getElem? (i := 295) (by decide +kernel)⟩
theorem lw_p2 : lw_okq (⟨"WordLaws$Reader", "openTerm", "(II)V"⟩, 7) := ⟨⟨by decide +kernel, by decide +kernel⟩, List.mem_of_getElem? (i := 68) (by decide +kernel), List.mem_of_getElem? (i := 303) (by decide +kernel), List.mem_of_getElem? (i := 304) (by decide +kernel)⟩
theorem lw_p3 : lw_okq (⟨"WordLaws$Reader", "takeByte", "(IILWordLaws$Sum;)I"⟩, 7) := ⟨⟨by decide +kernel, by decide +kernel⟩, List.mem_of_getElem? (i := 68) (by decide +kernel), List.mem_of_getElem? (i := 312) (by decide +kernel), List.mem_of_getElem? (i := 313) (by decide +kernel)⟩
theorem lw_p4 : lw_okq (⟨"WordLaws$Reader", "takeDigit", "(II)I"⟩, 7) := ⟨⟨by decide +kernel, by decide +kernel⟩, List.mem_of_getElem? (i := 68) (by decide +kernel), List.mem_of_getElem? (i := 316) (by decide +kernel), List.mem_of_getElem? (i := 317) (by decide +kernel)⟩
theorem lw_p5 : lw_okq (⟨"WordLaws$Reader", "needsTerm", "()Z"⟩, 7) := ⟨⟨by decide +kernel, by decide +kernel⟩, List.mem_of_getElem? (i := 68) (by decide +kernel), List.mem_of_getElem? (i := 320) (by decide +kernel), List.mem_of_getElem? (i := 321) (by decide +kernel)⟩
theorem lw_p6 : lw_okq (⟨"WordLaws$Reader", "takeSign", "(IILWordLaws$Sum;)I"⟩, 7) := ⟨⟨by decide +kernel, by decide +kernel⟩, List.mem_of_getElem? (i := 68) (by decide +kernel), List.mem_of_getElem? (i := 324) (by decide +kernel), List.mem_of_getElem? (i := 325) (by decide +kernel)⟩
theorem lw_p7 : lw_okq (⟨"WordLaws$Reader", "closeTerm", "(LWordLaws$Sum;)V"⟩, 7) := ⟨⟨by decide +kernel, by decide +kernel⟩, List.mem_of_getElem? (i := 68) (by decide +kernel), List.mem_of_getElem? (i := 328) (by decide +kernel), List.mem_of_getElem? (i := 329) (by decide +kernel)⟩
theorem lw_p8 : lw_okq (⟨"WordLaws$Reader", "takeLetter", "(II)I"⟩, 7) := ⟨⟨by decide +kernel, by decide +kernel⟩, List.mem_of_getElem? (i := 68) (by decide +kernel), List.mem_of_getElem? (i := 344) (by decide +kernel), List.mem_of_getElem? (i := 345) (by decide +kernel)⟩
theorem lw_p9 : lw_okq (⟨"WordLaws", "addLaw", "(I)I"⟩, 12) := ⟨⟨by decide +kernel, by decide +kernel⟩, List.mem_of_getElem? (i := 15) (by decide +kernel), List.mem_of_getElem? (i := 385) (by decide +kernel), List.mem_of_getElem? (i := 386) (by decide +kernel)⟩
theorem lw_p10 : lw_okq (⟨"WordLaws", "countLeastLaws", "()I"⟩, 12) := ⟨⟨by decide +kernel, by decide +kernel⟩, List.mem_of_getElem? (i := 15) (by decide +kernel), List.mem_of_getElem? (i := 436) (by decide +kernel), List.mem_of_getElem? (i := 437) (by decide +kernel)⟩
theorem lw_p11 : lw_okq (⟨"WordLaws$Algebra", "prepare", "(I)V"⟩, 9) := ⟨⟨by decide +kernel, by decide +kernel⟩, List.mem_of_getElem? (i := 125) (by decide +kernel), List.mem_of_getElem? (i := 444) (by decide +kernel), List.mem_of_getElem? (i := 445) (by decide +kernel)⟩
theorem lw_p12 : lw_okq (⟨"WordLaws$Algebra", "followShorter", "(II)V"⟩, 9) := ⟨⟨by decide +kernel, by decide +kernel⟩, List.mem_of_getElem? (i := 125) (by decide +kernel), List.mem_of_getElem? (i := 449) (by decide +kernel), List.mem_of_getElem? (i := 450) (by decide +kernel)⟩
theorem lw_p13 : lw_okq (⟨"WordLaws$Algebra", "clearForm", "(I)V"⟩, 9) := ⟨⟨by decide +kernel, by decide +kernel⟩, List.mem_of_getElem? (i := 125) (by decide +kernel), List.mem_of_getElem? (i := 466) (by decide +kernel), List.mem_of_getElem? (i := 467) (by decide +kernel)⟩
theorem lw_p14 : lw_okq (⟨"WordLaws$Algebra", "addTailForm", "(II)V"⟩, 9) := ⟨⟨by decide +kernel, by decide +kernel⟩, List.mem_of_getElem? (i := 125) (by decide +kernel), List.mem_of_getElem? (i := 470) (by decide +kernel), List.mem_of_getElem? (i := 471) (by decide +kernel)⟩
theorem lw_p15 : lw_okq (⟨"WordLaws$Algebra", "addRow", "(III)V"⟩, 9) := ⟨⟨by decide +kernel, by decide +kernel⟩, List.mem_of_getElem? (i := 125) (by decide +kernel), List.mem_of_getElem? (i := 483) (by decide +kernel), List.mem_of_getElem? (i := 484) (by decide +kernel)⟩
def lw_privs_1 : List (MethodName × Nat) := [(⟨"WordLaws", "forgetFrom", "(I)V"⟩, 12), (⟨"WordLaws", "readTape", "()I"⟩, 12), (⟨"WordLaws$Reader", "openTerm", "(II)V"⟩, 7), (⟨"WordLaws$Reader", "takeByte", "(IILWordLaws$Sum;)I"⟩, 7), (⟨"WordLaws$Reader", "takeDigit", "(II)I"⟩, 7), (⟨"WordLaws$Reader", "needsTerm", "()Z"⟩, 7), (⟨"WordLaws$Reader", "takeSign", "(IILWordLaws$Sum;)I"⟩, 7), (⟨"WordLaws$Reader", "closeTerm", "(LWordLaws$Sum;)V"⟩, 7), (⟨"WordLaws$Reader", "takeLetter", "(II)I"⟩, 7), (⟨"WordLaws", "addLaw", "(I)I"⟩, 12), (⟨"WordLaws", "countLeastLaws", "()I"⟩, 12), (⟨"WordLaws$Algebra", "prepare", "(I)V"⟩, 9), (⟨"WordLaws$Algebra", "followShorter", "(II)V"⟩, 9), (⟨"WordLaws$Algebra", "clearForm", "(I)V"⟩, 9), (⟨"WordLaws$Algebra", "addTailForm", "(II)V"⟩, 9), (⟨"WordLaws$Algebra", "addRow", "(III)V"⟩, 9)]
theorem lw_r1 : ∀ q ∈ lw_privs_1, lw_okq q := List.forall_mem_cons.mpr ⟨lw_p0, List.forall_mem_cons.mpr ⟨lw_p1, List.forall_mem_cons.mpr ⟨lw_p2, List.forall_mem_cons.mpr ⟨lw_p3, List.forall_mem_cons.mpr ⟨lw_p4, List.forall_mem_cons.mpr ⟨lw_p5, List.forall_mem_cons.mpr ⟨lw_p6, List.forall_mem_cons.mpr ⟨lw_p7, List.forall_mem_cons.mpr ⟨lw_p8, List.forall_mem_cons.mpr ⟨lw_p9, List.forall_mem_cons.mpr ⟨lw_p10, List.forall_mem_cons.mpr ⟨lw_p11, List.forall_mem_cons.mpr ⟨lw_p12, List.forall_mem_cons.mpr ⟨lw_p13, List.forall_mem_cons.mpr ⟨lw_p14, List.forall_mem_cons.mpr ⟨lw_p15, fun _ h => absurd h List.not_mem_nil⟩⟩⟩⟩⟩⟩⟩⟩⟩⟩⟩⟩⟩⟩⟩⟩
theorem lw_p16 : lw_okq (⟨"WordLaws$Algebra", "addHeadForm", "(III)V"⟩, 9) := ⟨⟨by decide +kernel, by decide +kernel⟩, List.mem_of_getElem? (i := 125) (by decide +kernel), List.mem_of_getElem? (i := 488) (by decide +kernel), List.mem_of_getElem? (i := 489) (by decide +kernel)⟩
theorem lw_p17 : lw_okq (⟨"WordLaws$Algebra", "takeNought", "(II)V"⟩, 9) := ⟨⟨by decide +kernel, by decide +kernel⟩, List.mem_of_getElem? (i := 125) (by decide +kernel), List.mem_of_getElem? (i := 501) (by decide +kernel), List.mem_of_getElem? (i := 502) (by decide +kernel)⟩
theorem lw_p18 : lw_okq (⟨"WordLaws$Algebra", "replaceLead", "(III)V"⟩, 9) := ⟨⟨by decide +kernel, by decide +kernel⟩, List.mem_of_getElem? (i := 125) (by decide +kernel), List.mem_of_getElem? (i := 511) (by decide +kernel), List.mem_of_getElem? (i := 512) (by decide +kernel)⟩
theorem lw_p19 : lw_okq (⟨"WordLaws$Algebra", "takeLaw", "(II)V"⟩, 9) := ⟨⟨by decide +kernel, by decide +kernel⟩, List.mem_of_getElem? (i := 125) (by decide +kernel), List.mem_of_getElem? (i := 516) (by decide +kernel), List.mem_of_getElem? (i := 517) (by decide +kernel)⟩
theorem lw_p20 : lw_okq (⟨"WordLaws$Algebra", "settle", "(I)V"⟩, 9) := ⟨⟨by decide +kernel, by decide +kernel⟩, List.mem_of_getElem? (i := 125) (by decide +kernel), List.mem_of_getElem? (i := 522) (by decide +kernel), List.mem_of_getElem? (i := 523) (by decide +kernel)⟩
theorem lw_p21 : lw_okq (⟨"WordLaws$Algebra", "isLeast", "(II)Z"⟩, 9) := ⟨⟨by decide +kernel, by decide +kernel⟩, List.mem_of_getElem? (i := 125) (by decide +kernel), List.mem_of_getElem? (i := 526) (by decide +kernel), List.mem_of_getElem? (i := 527) (by decide +kernel)⟩
theorem lw_p22 : lw_okq (⟨"WordLaws$Algebra", "numberAt", "(III)I"⟩, 9) := ⟨⟨by decide +kernel, by decide +kernel⟩, List.mem_of_getElem? (i := 125) (by decide +kernel), List.mem_of_getElem? (i := 567) (by decide +kernel), List.mem_of_getElem? (i := 568) (by decide +kernel)⟩
theorem lw_p23 : lw_okq (⟨"WordLaws", "tellLeast", "(III)I"⟩, 12) := ⟨⟨by decide +kernel, by decide +kernel⟩, List.mem_of_getElem? (i := 15) (by decide +kernel), List.mem_of_getElem? (i := 579) (by decide +kernel), List.mem_of_getElem? (i := 580) (by decide +kernel)⟩
theorem lw_p24 : lw_okq (⟨"WordLaws$Algebra", "addEquation", "(IIILWordLaws$Echelon;)V"⟩, 9) := ⟨⟨by decide +kernel, by decide +kernel⟩, List.mem_of_getElem? (i := 125) (by decide +kernel), List.mem_of_getElem? (i := 616) (by decide +kernel), List.mem_of_getElem? (i := 617) (by decide +kernel)⟩
theorem lw_p25 : lw_okq (⟨"WordLaws$Echelon", "keep", "(I)V"⟩, 6) := ⟨⟨by decide +kernel, by decide +kernel⟩, List.mem_of_getElem? (i := 161) (by decide +kernel), List.mem_of_getElem? (i := 629) (by decide +kernel), List.mem_of_getElem? (i := 630) (by decide +kernel)⟩
theorem lw_p26 : lw_okq (⟨"WordLaws$Echelon", "subtractRow", "(I)V"⟩, 6) := ⟨⟨by decide +kernel, by decide +kernel⟩, List.mem_of_getElem? (i := 161) (by decide +kernel), List.mem_of_getElem? (i := 634) (by decide +kernel), List.mem_of_getElem? (i := 635) (by decide +kernel)⟩
theorem lw_p27 : lw_okq (⟨"WordLaws", "renewOther", "()V"⟩, 12) := ⟨⟨by decide +kernel, by decide +kernel⟩, List.mem_of_getElem? (i := 15) (by decide +kernel), List.mem_of_getElem? (i := 646) (by decide +kernel), List.mem_of_getElem? (i := 647) (by decide +kernel)⟩
theorem lw_p28 : lw_okq (⟨"WordLaws", "seriesAt", "(I)I"⟩, 12) := ⟨⟨by decide +kernel, by decide +kernel⟩, List.mem_of_getElem? (i := 15) (by decide +kernel), List.mem_of_getElem? (i := 654) (by decide +kernel), List.mem_of_getElem? (i := 655) (by decide +kernel)⟩
theorem lw_p29 : lw_okq (⟨"WordLaws", "readRow", "(LWordLaws$Sheet;II)V"⟩, 12) := ⟨⟨by decide +kernel, by decide +kernel⟩, List.mem_of_getElem? (i := 15) (by decide +kernel), List.mem_of_getElem? (i := 749) (by decide +kernel), List.mem_of_getElem? (i := 750) (by decide +kernel)⟩
theorem lw_p30 : lw_okq (⟨"WordLawsModel", "start", "()V"⟩, 26) := ⟨⟨by decide +kernel, by decide +kernel⟩, List.mem_of_getElem? (i := 757) (by decide +kernel), List.mem_of_getElem? (i := 764) (by decide +kernel), List.mem_of_getElem? (i := 765) (by decide +kernel)⟩
theorem lw_p31 : lw_okq (⟨"WordLawsModel", "readSum", "()Z"⟩, 26) := ⟨⟨by decide +kernel, by decide +kernel⟩, List.mem_of_getElem? (i := 757) (by decide +kernel), List.mem_of_getElem? (i := 869) (by decide +kernel), List.mem_of_getElem? (i := 870) (by decide +kernel)⟩
def lw_privs_2 : List (MethodName × Nat) := [(⟨"WordLaws$Algebra", "addHeadForm", "(III)V"⟩, 9), (⟨"WordLaws$Algebra", "takeNought", "(II)V"⟩, 9), (⟨"WordLaws$Algebra", "replaceLead", "(III)V"⟩, 9), (⟨"WordLaws$Algebra", "takeLaw", "(II)V"⟩, 9), (⟨"WordLaws$Algebra", "settle", "(I)V"⟩, 9), (⟨"WordLaws$Algebra", "isLeast", "(II)Z"⟩, 9), (⟨"WordLaws$Algebra", "numberAt", "(III)I"⟩, 9), (⟨"WordLaws", "tellLeast", "(III)I"⟩, 12), (⟨"WordLaws$Algebra", "addEquation", "(IIILWordLaws$Echelon;)V"⟩, 9), (⟨"WordLaws$Echelon", "keep", "(I)V"⟩, 6), (⟨"WordLaws$Echelon", "subtractRow", "(I)V"⟩, 6), (⟨"WordLaws", "renewOther", "()V"⟩, 12), (⟨"WordLaws", "seriesAt", "(I)I"⟩, 12), (⟨"WordLaws", "readRow", "(LWordLaws$Sheet;II)V"⟩, 12), (⟨"WordLawsModel", "start", "()V"⟩, 26), (⟨"WordLawsModel", "readSum", "()Z"⟩, 26)]
theorem lw_r2 : ∀ q ∈ lw_privs_2, lw_okq q := List.forall_mem_cons.mpr ⟨lw_p16, List.forall_mem_cons.mpr ⟨lw_p17, List.forall_mem_cons.mpr ⟨lw_p18, List.forall_mem_cons.mpr ⟨lw_p19, List.forall_mem_cons.mpr ⟨lw_p20, List.forall_mem_cons.mpr ⟨lw_p21, List.forall_mem_cons.mpr ⟨lw_p22, List.forall_mem_cons.mpr ⟨lw_p23, List.forall_mem_cons.mpr ⟨lw_p24, List.forall_mem_cons.mpr ⟨lw_p25, List.forall_mem_cons.mpr ⟨lw_p26, List.forall_mem_cons.mpr ⟨lw_p27, List.forall_mem_cons.mpr ⟨lw_p28, List.forall_mem_cons.mpr ⟨lw_p29, List.forall_mem_cons.mpr ⟨lw_p30, List.forall_mem_cons.mpr ⟨lw_p31, fun _ h => absurd h List.not_mem_nil⟩⟩⟩⟩⟩⟩⟩⟩⟩⟩⟩⟩⟩⟩⟩⟩
theorem lw_p32 : lw_okq (⟨"WordLawsModel", "next", "()I"⟩, 26) := ⟨⟨by decide +kernel, by decide +kernel⟩, List.mem_of_getElem? (i := 757) (by decide +kernel), List.mem_of_getElem? (i := 873) (by decide +kernel), List.mem_of_getElem? (i := 874) (by decide +kernel)⟩
theorem lw_p33 : lw_okq (⟨"WordLawsModel", "readTerm", "(I)Z"⟩, 26) := ⟨⟨by decide +kernel, by decide +kernel⟩, List.mem_of_getElem? (i := 757) (by decide +kernel), List.mem_of_getElem? (i := 877) (by decide +kernel), List.mem_of_getElem? (i := 878) (by decide +kernel)⟩
theorem lw_p34 : lw_okq (⟨"WordLawsModel", "add", "(I)I"⟩, 26) := ⟨⟨by decide +kernel, by decide +kernel⟩, List.mem_of_getElem? (i := 757) (by decide +kernel), List.mem_of_getElem? (i := 884) (by decide +kernel), List.mem_of_getElem? (i := 885) (by decide +kernel)⟩
theorem lw_p35 : lw_okq (⟨"WordLawsModel", "isLength", "(I)Z"⟩, 26) := ⟨⟨by decide +kernel, by decide +kernel⟩, List.mem_of_getElem? (i := 757) (by decide +kernel), List.mem_of_getElem? (i := 901) (by decide +kernel), List.mem_of_getElem? (i := 902) (by decide +kernel)⟩
theorem lw_p36 : lw_okq (⟨"WordLawsModel", "find", "()V"⟩, 26) := ⟨⟨by decide +kernel, by decide +kernel⟩, List.mem_of_getElem? (i := 757) (by decide +kernel), List.mem_of_getElem? (i := 905) (by decide +kernel), List.mem_of_getElem? (i := 906) (by decide +kernel)⟩
theorem lw_p37 : lw_okq (⟨"WordLawsModel", "grow", "([I[ZI)V"⟩, 26) := ⟨⟨by decide +kernel, by decide +kernel⟩, List.mem_of_getElem? (i := 757) (by decide +kernel), List.mem_of_getElem? (i := 909) (by decide +kernel), List.mem_of_getElem? (i := 910) (by decide +kernel)⟩
theorem lw_p38 : lw_okq (⟨"WordLawsModel", "clearRow", "()V"⟩, 26) := ⟨⟨by decide +kernel, by decide +kernel⟩, List.mem_of_getElem? (i := 757) (by decide +kernel), List.mem_of_getElem? (i := 913) (by decide +kernel), List.mem_of_getElem? (i := 914) (by decide +kernel)⟩
theorem lw_p39 : lw_okq (⟨"WordLawsModel", "insert", "([I[ZI)V"⟩, 26) := ⟨⟨by decide +kernel, by decide +kernel⟩, List.mem_of_getElem? (i := 757) (by decide +kernel), List.mem_of_getElem? (i := 917) (by decide +kernel), List.mem_of_getElem? (i := 918) (by decide +kernel)⟩
theorem lw_p40 : lw_okq (⟨"WordLawsModel", "inverse", "(I)I"⟩, 26) := ⟨⟨by decide +kernel, by decide +kernel⟩, List.mem_of_getElem? (i := 757) (by decide +kernel), List.mem_of_getElem? (i := 921) (by decide +kernel), List.mem_of_getElem? (i := 922) (by decide +kernel)⟩
theorem lw_p41 : lw_okq (⟨"WordLawsModel", "tidy", "([I[ZI)V"⟩, 26) := ⟨⟨by decide +kernel, by decide +kernel⟩, List.mem_of_getElem? (i := 757) (by decide +kernel), List.mem_of_getElem? (i := 925) (by decide +kernel), List.mem_of_getElem? (i := 926) (by decide +kernel)⟩
theorem lw_p42 : lw_okq (⟨"WordLawsModel", "normalIn", "([ZI)I"⟩, 26) := ⟨⟨by decide +kernel, by decide +kernel⟩, List.mem_of_getElem? (i := 757) (by decide +kernel), List.mem_of_getElem? (i := 929) (by decide +kernel), List.mem_of_getElem? (i := 930) (by decide +kernel)⟩
theorem lw_p43 : lw_okq (⟨"WordLawsModel", "isWord", "(II)Z"⟩, 26) := ⟨⟨by decide +kernel, by decide +kernel⟩, List.mem_of_getElem? (i := 757) (by decide +kernel), List.mem_of_getElem? (i := 937) (by decide +kernel), List.mem_of_getElem? (i := 938) (by decide +kernel)⟩
theorem lw_p44 : lw_okq (⟨"WordLawsModel", "wordOf", "(II)I"⟩, 26) := ⟨⟨by decide +kernel, by decide +kernel⟩, List.mem_of_getElem? (i := 757) (by decide +kernel), List.mem_of_getElem? (i := 945) (by decide +kernel), List.mem_of_getElem? (i := 946) (by decide +kernel)⟩
theorem lw_p45 : lw_okq (⟨"WordLawsModel", "plainOf", "(III)I"⟩, 26) := ⟨⟨by decide +kernel, by decide +kernel⟩, List.mem_of_getElem? (i := 757) (by decide +kernel), List.mem_of_getElem? (i := 953) (by decide +kernel), List.mem_of_getElem? (i := 954) (by decide +kernel)⟩
theorem lw_p46 : lw_okq (⟨"WordLawsModel", "isLeast", "(II)Z"⟩, 26) := ⟨⟨by decide +kernel, by decide +kernel⟩, List.mem_of_getElem? (i := 757) (by decide +kernel), List.mem_of_getElem? (i := 961) (by decide +kernel), List.mem_of_getElem? (i := 962) (by decide +kernel)⟩
theorem lw_p47 : lw_okq (⟨"WordLawsModel", "tell", "(I)I"⟩, 26) := ⟨⟨by decide +kernel, by decide +kernel⟩, List.mem_of_getElem? (i := 757) (by decide +kernel), List.mem_of_getElem? (i := 976) (by decide +kernel), List.mem_of_getElem? (i := 977) (by decide +kernel)⟩
def lw_privs_3 : List (MethodName × Nat) := [(⟨"WordLawsModel", "next", "()I"⟩, 26), (⟨"WordLawsModel", "readTerm", "(I)Z"⟩, 26), (⟨"WordLawsModel", "add", "(I)I"⟩, 26), (⟨"WordLawsModel", "isLength", "(I)Z"⟩, 26), (⟨"WordLawsModel", "find", "()V"⟩, 26), (⟨"WordLawsModel", "grow", "([I[ZI)V"⟩, 26), (⟨"WordLawsModel", "clearRow", "()V"⟩, 26), (⟨"WordLawsModel", "insert", "([I[ZI)V"⟩, 26), (⟨"WordLawsModel", "inverse", "(I)I"⟩, 26), (⟨"WordLawsModel", "tidy", "([I[ZI)V"⟩, 26), (⟨"WordLawsModel", "normalIn", "([ZI)I"⟩, 26), (⟨"WordLawsModel", "isWord", "(II)Z"⟩, 26), (⟨"WordLawsModel", "wordOf", "(II)I"⟩, 26), (⟨"WordLawsModel", "plainOf", "(III)I"⟩, 26), (⟨"WordLawsModel", "isLeast", "(II)Z"⟩, 26), (⟨"WordLawsModel", "tell", "(I)I"⟩, 26)]
theorem lw_r3 : ∀ q ∈ lw_privs_3, lw_okq q := List.forall_mem_cons.mpr ⟨lw_p32, List.forall_mem_cons.mpr ⟨lw_p33, List.forall_mem_cons.mpr ⟨lw_p34, List.forall_mem_cons.mpr ⟨lw_p35, List.forall_mem_cons.mpr ⟨lw_p36, List.forall_mem_cons.mpr ⟨lw_p37, List.forall_mem_cons.mpr ⟨lw_p38, List.forall_mem_cons.mpr ⟨lw_p39, List.forall_mem_cons.mpr ⟨lw_p40, List.forall_mem_cons.mpr ⟨lw_p41, List.forall_mem_cons.mpr ⟨lw_p42, List.forall_mem_cons.mpr ⟨lw_p43, List.forall_mem_cons.mpr ⟨lw_p44, List.forall_mem_cons.mpr ⟨lw_p45, List.forall_mem_cons.mpr ⟨lw_p46, List.forall_mem_cons.mpr ⟨lw_p47, fun _ h => absurd h List.not_mem_nil⟩⟩⟩⟩⟩⟩⟩⟩⟩⟩⟩⟩⟩⟩⟩⟩
theorem lw_p48 : lw_okq (⟨"WordLawsModel", "areShort", "()Z"⟩, 26) := ⟨⟨by decide +kernel, by decide +kernel⟩, List.mem_of_getElem? (i := 757) (by decide +kernel), List.mem_of_getElem? (i := 984) (by decide +kernel), List.mem_of_getElem? (i := 985) (by decide +kernel)⟩
theorem lw_p49 : lw_okq (⟨"WordLawsModel", "findOther", "()V"⟩, 26) := ⟨⟨by decide +kernel, by decide +kernel⟩, List.mem_of_getElem? (i := 757) (by decide +kernel), List.mem_of_getElem? (i := 988) (by decide +kernel), List.mem_of_getElem? (i := 989) (by decide +kernel)⟩
theorem lw_p50 : lw_okq (⟨"WordLawsModel", "leastMany", "()I"⟩, 26) := ⟨⟨by decide +kernel, by decide +kernel⟩, List.mem_of_getElem? (i := 757) (by decide +kernel), List.mem_of_getElem? (i := 1000) (by decide +kernel), List.mem_of_getElem? (i := 1001) (by decide +kernel)⟩
def lw_privs_4 : List (MethodName × Nat) := [(⟨"WordLawsModel", "areShort", "()Z"⟩, 26), (⟨"WordLawsModel", "findOther", "()V"⟩, 26), (⟨"WordLawsModel", "leastMany", "()I"⟩, 26)]
theorem lw_r4 : ∀ q ∈ lw_privs_4, lw_okq q := List.forall_mem_cons.mpr ⟨lw_p48, List.forall_mem_cons.mpr ⟨lw_p49, List.forall_mem_cons.mpr ⟨lw_p50, fun _ h => absurd h List.not_mem_nil⟩⟩⟩
def lw_privs : List (MethodName × Nat) := lw_privs_1 ++ (lw_privs_2 ++ (lw_privs_3 ++ (lw_privs_4)))
def lw_tbl : List Cond := k2_sels lw_privs ++ tables_1
theorem lw_privs_ok : ∀ q ∈ lw_privs, lw_okq q := by
  show ∀ q ∈ lw_privs_1 ++ (lw_privs_2 ++ (lw_privs_3 ++ (lw_privs_4))), lw_okq q
  exact List.forall_mem_append.mpr ⟨lw_r1, List.forall_mem_append.mpr ⟨lw_r2, List.forall_mem_append.mpr ⟨lw_r3, lw_r4⟩⟩⟩
def RX0 : String := "WordLaws$Algebra"
def TX0 : u_T := fun k => match k with
  | 0 => ("WordLaws$Algebra", "alphabet", "LWordLaws$Alphabet;", true)
  | 1 => ("WordLaws$Algebra", "lawList", "LWordLaws$LawList;", true)
  | 2 => ("WordLaws$Algebra", "forms", "[I", true)
  | 3 => ("WordLaws$Algebra", "leading", "[Z", true)
  | 4 => ("WordLaws$Algebra", "normals", "[I", true)
  | 5 => ("WordLaws$Algebra", "leasts", "[I", true)
  | 6 => ("WordLaws$Algebra", "middles", "[I", true)
  | 7 => ("WordLaws$Algebra", "form", "[I", true)
  | _ => ("WordLaws$Algebra", "ready", "I", false)
def tyX0 : Nat → FieldType := fun k => match k with
  | 0 => .object "WordLaws$Alphabet"
  | 1 => .object "WordLaws$LawList"
  | 2 => .array .int
  | 3 => .array .boolean
  | 4 => .array .int
  | 5 => .array .int
  | 6 => .array .int
  | 7 => .array .int
  | _ => .int
theorem nmX0 : ∀ a, a < 9 → ∀ b, b < 9 → a ≠ b → (TX0 a).2.1 ≠ (TX0 b).2.1 := by decide +kernel
theorem tyX0_ok : ∀ k, k < 9 → parseFieldDescriptor (TX0 k).2.2.1 = some (tyX0 k) := by decide +kernel
def RX1 : String := "WordLaws$Alphabet"
def TX1 : u_T := fun k => match k with
  | 0 => ("WordLaws$Alphabet", "words", "[I", true)
  | 1 => ("WordLaws$Alphabet", "wordStarts", "[I", true)
  | 2 => ("WordLaws$Alphabet", "formStarts", "[I", true)
  | 3 => ("WordLaws$Alphabet", "letters", "I", false)
  | 4 => ("WordLaws$Alphabet", "prime", "I", false)
  | _ => ("WordLaws$Alphabet", "longest", "I", false)
def tyX1 : Nat → FieldType := fun k => match k with
  | 0 => .array .int
  | 1 => .array .int
  | 2 => .array .int
  | 3 => .int
  | 4 => .int
  | _ => .int
theorem nmX1 : ∀ a, a < 6 → ∀ b, b < 6 → a ≠ b → (TX1 a).2.1 ≠ (TX1 b).2.1 := by decide +kernel
theorem tyX1_ok : ∀ k, k < 6 → parseFieldDescriptor (TX1 k).2.2.1 = some (tyX1 k) := by decide +kernel
def RX2 : String := "WordLaws$Echelon"
def TX2 : u_T := fun k => match k with
  | 0 => ("WordLaws$Echelon", "alphabet", "LWordLaws$Alphabet;", true)
  | 1 => ("WordLaws$Echelon", "rows", "[I", true)
  | 2 => ("WordLaws$Echelon", "taken", "[Z", true)
  | 3 => ("WordLaws$Echelon", "equation", "[I", true)
  | 4 => ("WordLaws$Echelon", "unknowns", "I", false)
  | _ => ("WordLaws$Echelon", "rank", "I", false)
def tyX2 : Nat → FieldType := fun k => match k with
  | 0 => .object "WordLaws$Alphabet"
  | 1 => .array .int
  | 2 => .array .boolean
  | 3 => .array .int
  | 4 => .int
  | _ => .int
theorem nmX2 : ∀ a, a < 6 → ∀ b, b < 6 → a ≠ b → (TX2 a).2.1 ≠ (TX2 b).2.1 := by decide +kernel
theorem tyX2_ok : ∀ k, k < 6 → parseFieldDescriptor (TX2 k).2.2.1 = some (tyX2 k) := by decide +kernel
def RX3 : String := "WordLaws$LawList"
def TX3 : u_T := fun k => match k with
  | 0 => ("WordLaws$LawList", "lengths", "[I", true)
  | 1 => ("WordLaws$LawList", "numbers", "[I", true)
  | _ => ("WordLaws$LawList", "size", "I", false)
def tyX3 : Nat → FieldType := fun k => match k with
  | 0 => .array .int
  | 1 => .array .int
  | _ => .int
theorem nmX3 : ∀ a, a < 3 → ∀ b, b < 3 → a ≠ b → (TX3 a).2.1 ≠ (TX3 b).2.1 := by decide +kernel
theorem tyX3_ok : ∀ k, k < 3 → parseFieldDescriptor (TX3 k).2.2.1 = some (tyX3 k) := by decide +kernel
def RX4 : String := "WordLaws$Reader"
def TX4 : u_T := fun k => match k with
  | 0 => ("WordLaws$Reader", "alphabet", "LWordLaws$Alphabet;", true)
  | 1 => ("WordLaws$Reader", "state", "I", false)
  | 2 => ("WordLaws$Reader", "sign", "I", false)
  | 3 => ("WordLaws$Reader", "number", "I", false)
  | 4 => ("WordLaws$Reader", "numberPlace", "I", false)
  | 5 => ("WordLaws$Reader", "length", "I", false)
  | _ => ("WordLaws$Reader", "letters", "I", false)
def tyX4 : Nat → FieldType := fun k => match k with
  | 0 => .object "WordLaws$Alphabet"
  | 1 => .int
  | 2 => .int
  | 3 => .int
  | 4 => .int
  | 5 => .int
  | _ => .int
theorem nmX4 : ∀ a, a < 7 → ∀ b, b < 7 → a ≠ b → (TX4 a).2.1 ≠ (TX4 b).2.1 := by decide +kernel
theorem tyX4_ok : ∀ k, k < 7 → parseFieldDescriptor (TX4 k).2.2.1 = some (tyX4 k) := by decide +kernel
def RX5 : String := "WordLaws$Sheet"
def TX5 : u_T := fun k => match k with
  | 0 => ("WordLaws$Sheet", "items", "[J", true)
  | 1 => ("WordLaws$Sheet", "lane", "I", false)
  | _ => ("WordLaws$Sheet", "size", "I", false)
def tyX5 : Nat → FieldType := fun k => match k with
  | 0 => .array .long
  | 1 => .int
  | _ => .int
theorem nmX5 : ∀ a, a < 3 → ∀ b, b < 3 → a ≠ b → (TX5 a).2.1 ≠ (TX5 b).2.1 := by decide +kernel
theorem tyX5_ok : ∀ k, k < 3 → parseFieldDescriptor (TX5 k).2.2.1 = some (tyX5 k) := by decide +kernel
def RX6 : String := "WordLaws$Sum"
def TX6 : u_T := fun k => match k with
  | 0 => ("WordLaws$Sum", "alphabet", "LWordLaws$Alphabet;", true)
  | _ => ("WordLaws$Sum", "numbers", "[I", true)
def tyX6 : Nat → FieldType := fun k => match k with
  | 0 => .object "WordLaws$Alphabet"
  | _ => .array .int
theorem nmX6 : ∀ a, a < 2 → ∀ b, b < 2 → a ≠ b → (TX6 a).2.1 ≠ (TX6 b).2.1 := by decide +kernel
theorem tyX6_ok : ∀ k, k < 2 → parseFieldDescriptor (TX6 k).2.2.1 = some (tyX6 k) := by decide +kernel
def RX7 : String := "WordLaws$Tape"
def TX7 : u_T := fun k => match k with
  | 0 => ("WordLaws$Tape", "bytes", "[I", true)
  | _ => ("WordLaws$Tape", "size", "I", false)
def tyX7 : Nat → FieldType := fun k => match k with
  | 0 => .array .int
  | _ => .int
theorem nmX7 : ∀ a, a < 2 → ∀ b, b < 2 → a ≠ b → (TX7 a).2.1 ≠ (TX7 b).2.1 := by decide +kernel
theorem tyX7_ok : ∀ k, k < 2 → parseFieldDescriptor (TX7 k).2.2.1 = some (tyX7 k) := by decide +kernel
def RX8 : String := "WordLaws"
def TX8 : u_T := fun k => match k with
  | 0 => ("WordLaws", "alphabet", "LWordLaws$Alphabet;", true)
  | 1 => ("WordLaws", "tape", "LWordLaws$Tape;", true)
  | 2 => ("WordLaws", "reader", "LWordLaws$Reader;", true)
  | 3 => ("WordLaws", "lookedAt", "LWordLaws$Sum;", true)
  | 4 => ("WordLaws", "spare", "LWordLaws$Sum;", true)
  | 5 => ("WordLaws", "lawList", "LWordLaws$LawList;", true)
  | 6 => ("WordLaws", "otherList", "LWordLaws$LawList;", true)
  | 7 => ("WordLaws", "algebra", "LWordLaws$Algebra;", true)
  | 8 => ("WordLaws", "otherAlgebra", "LWordLaws$Algebra;", true)
  | 9 => ("WordLaws", "echelon", "LWordLaws$Echelon;", true)
  | 10 => ("WordLaws", "sheets", "[LWordLaws$Sheet;", true)
  | _ => ("WordLaws", "otherIsStale", "Z", false)
def tyX8 : Nat → FieldType := fun k => match k with
  | 0 => .object "WordLaws$Alphabet"
  | 1 => .object "WordLaws$Tape"
  | 2 => .object "WordLaws$Reader"
  | 3 => .object "WordLaws$Sum"
  | 4 => .object "WordLaws$Sum"
  | 5 => .object "WordLaws$LawList"
  | 6 => .object "WordLaws$LawList"
  | 7 => .object "WordLaws$Algebra"
  | 8 => .object "WordLaws$Algebra"
  | 9 => .object "WordLaws$Echelon"
  | 10 => .array (.object "WordLaws$Sheet")
  | _ => .boolean
theorem nmX8 : ∀ a, a < 12 → ∀ b, b < 12 → a ≠ b → (TX8 a).2.1 ≠ (TX8 b).2.1 := by decide +kernel
theorem tyX8_ok : ∀ k, k < 12 → parseFieldDescriptor (TX8 k).2.2.1 = some (tyX8 k) := by decide +kernel
def RX9 : String := "WordLawsModel"
def TX9 : u_T := fun k => match k with
  | 0 => ("WordLawsModel", "n", "I", false)
  | 1 => ("WordLawsModel", "p", "I", false)
  | 2 => ("WordLawsModel", "longest", "I", false)
  | 3 => ("WordLawsModel", "words", "[I", true)
  | 4 => ("WordLawsModel", "begins", "[I", true)
  | 5 => ("WordLawsModel", "squares", "[I", true)
  | 6 => ("WordLawsModel", "laws", "I", false)
  | 7 => ("WordLawsModel", "lengths", "[I", true)
  | 8 => ("WordLawsModel", "numbers", "[I", true)
  | 9 => ("WordLawsModel", "made", "[I", true)
  | 10 => ("WordLawsModel", "tape", "[I", true)
  | 11 => ("WordLawsModel", "taped", "I", false)
  | 12 => ("WordLawsModel", "at", "I", false)
  | 13 => ("WordLawsModel", "isReady", "Z", false)
  | 14 => ("WordLawsModel", "hasOther", "Z", false)
  | 15 => ("WordLawsModel", "rows", "[I", true)
  | 16 => ("WordLawsModel", "leads", "[Z", true)
  | 17 => ("WordLawsModel", "otherRows", "[I", true)
  | 18 => ("WordLawsModel", "otherLeads", "[Z", true)
  | 19 => ("WordLawsModel", "row", "[I", true)
  | 20 => ("WordLawsModel", "equations", "[I", true)
  | 21 => ("WordLawsModel", "firsts", "[Z", true)
  | 22 => ("WordLawsModel", "sum", "[I", true)
  | 23 => ("WordLawsModel", "lanes", "[I", true)
  | 24 => ("WordLawsModel", "sizes", "[I", true)
  | _ => ("WordLawsModel", "items", "[I", true)
def tyX9 : Nat → FieldType := fun k => match k with
  | 0 => .int
  | 1 => .int
  | 2 => .int
  | 3 => .array .int
  | 4 => .array .int
  | 5 => .array .int
  | 6 => .int
  | 7 => .array .int
  | 8 => .array .int
  | 9 => .array .int
  | 10 => .array .int
  | 11 => .int
  | 12 => .int
  | 13 => .boolean
  | 14 => .boolean
  | 15 => .array .int
  | 16 => .array .boolean
  | 17 => .array .int
  | 18 => .array .boolean
  | 19 => .array .int
  | 20 => .array .int
  | 21 => .array .boolean
  | 22 => .array .int
  | 23 => .array .int
  | 24 => .array .int
  | _ => .array .int
theorem nmX9 : ∀ a, a < 26 → ∀ b, b < 26 → a ≠ b → (TX9 a).2.1 ≠ (TX9 b).2.1 := by decide +kernel
theorem tyX9_ok : ∀ k, k < 26 → parseFieldDescriptor (TX9 k).2.2.1 = some (tyX9 k) := by decide +kernel
def RL : String := "WordLawsLaw"
abbrev vwCl : List vw_C := [(RX0, TX0, 9), (RX1, TX1, 6), (RX2, TX2, 6), (RX3, TX3, 3), (RX4, TX4, 7), (RX5, TX5, 3), (RX6, TX6, 2), (RX7, TX7, 2), (RX8, TX8, 12), (RX9, TX9, 26)]
theorem inX0 : ∀ w ∈ u_ws RX0 TX0 9, w ∈ lw_tbl := by decide +kernel
theorem goX0 : (u_ws RX0 TX0 9).all goodWord = true := by decide +kernel
theorem inX1 : ∀ w ∈ u_ws RX1 TX1 6, w ∈ lw_tbl := by decide +kernel
theorem goX1 : (u_ws RX1 TX1 6).all goodWord = true := by decide +kernel
theorem inX2 : ∀ w ∈ u_ws RX2 TX2 6, w ∈ lw_tbl := by decide +kernel
theorem goX2 : (u_ws RX2 TX2 6).all goodWord = true := by decide +kernel
theorem inX3 : ∀ w ∈ u_ws RX3 TX3 3, w ∈ lw_tbl := by decide +kernel
theorem goX3 : (u_ws RX3 TX3 3).all goodWord = true := by decide +kernel
theorem inX4 : ∀ w ∈ u_ws RX4 TX4 7, w ∈ lw_tbl := by decide +kernel
theorem goX4 : (u_ws RX4 TX4 7).all goodWord = true := by decide +kernel
theorem inX5 : ∀ w ∈ u_ws RX5 TX5 3, w ∈ lw_tbl := by decide +kernel
theorem goX5 : (u_ws RX5 TX5 3).all goodWord = true := by decide +kernel
theorem inX6 : ∀ w ∈ u_ws RX6 TX6 2, w ∈ lw_tbl := by decide +kernel
theorem goX6 : (u_ws RX6 TX6 2).all goodWord = true := by decide +kernel
theorem inX7 : ∀ w ∈ u_ws RX7 TX7 2, w ∈ lw_tbl := by decide +kernel
theorem goX7 : (u_ws RX7 TX7 2).all goodWord = true := by decide +kernel
theorem inX8 : ∀ w ∈ u_ws RX8 TX8 12, w ∈ lw_tbl := by decide +kernel
theorem goX8 : (u_ws RX8 TX8 12).all goodWord = true := by decide +kernel
theorem inX9 : ∀ w ∈ u_ws RX9 TX9 26, w ∈ lw_tbl := by decide +kernel
theorem goX9 : (u_ws RX9 TX9 26).all goodWord = true := by decide +kernel
def ab_nest : Cond := .fieldLinkNest "WordLaws$Alphabet" 32 "WordLaws" "LONGEST_BY_LETTERS" "[I" "WordLaws"
abbrev ab_nestI : Nat := 32
