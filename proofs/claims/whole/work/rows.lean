section
-- ===== PART A: goes FIRST, ahead of the names: the tables' words, and 'selects' of the private methods out of them =====
/-- a private method of a class that the tables say can be made, by its rows of tables_1 -/
def lw_okq (q : MethodName × Nat) : Prop := (q.1.cls ≠ "java/lang/invoke/MethodHandle" ∧ q.1.cls ≠ "java/lang/invoke/VarHandle") ∧ Cond.instantiable q.1.cls q.2 ∈ tables_1 ∧ Cond.privateMethod q.1 ∈ tables_1 ∧ Cond.instanceMethod q.1 ∈ tables_1
theorem lw_p0 : lw_okq (⟨"TermSimplifier$Converter", "isOneTerm", "(I)Z"⟩, 7) := ⟨⟨by decide +kernel, by decide +kernel⟩, List.mem_of_getElem? (i := 36) (by decide +kernel), List.mem_of_getElem? (i := 185) (by decide +kernel), List.mem_of_getElem? (i := 186) (by decide +kernel)⟩
theorem lw_p1 : lw_okq (⟨"TermSimplifier$Converter", "isHead", "(II)Z"⟩, 7) := ⟨⟨by decide +kernel, by decide +kernel⟩, List.mem_of_getElem? (i := 36) (by decide +kernel), List.mem_of_getElem? (i := 189) (by decide +kernel), List.mem_of_getElem? (i := 190) (by decide +kernel)⟩
theorem lw_p2 : lw_okq (⟨"TermSimplifier$Converter", "rowOfNextTerm", "(II)LTermSimplifier$Row;"⟩, 7) := ⟨⟨by decide +kernel, by decide +kernel⟩, List.mem_of_getElem? (i := 36) (by decide +kernel), List.mem_of_getElem? (i := 197) (by decide +kernel), List.mem_of_getElem? (i := 198) (by decide +kernel)⟩
theorem lw_p3 : lw_okq (⟨"TermSimplifier$Converter", "atomOfNextTerm", "(LTermSimplifier$Row;II)LTermSimplifier$Atom;"⟩, 7) := ⟨⟨by decide +kernel, by decide +kernel⟩, List.mem_of_getElem? (i := 36) (by decide +kernel), List.mem_of_getElem? (i := 271) (by decide +kernel), List.mem_of_getElem? (i := 272) (by decide +kernel)⟩
theorem lw_p4 : lw_okq (⟨"TermSimplifier$Converter", "nextInt", "()I"⟩, 7) := ⟨⟨by decide +kernel, by decide +kernel⟩, List.mem_of_getElem? (i := 36) (by decide +kernel), List.mem_of_getElem? (i := 276) (by decide +kernel), List.mem_of_getElem? (i := 277) (by decide +kernel)⟩
theorem lw_p5 : lw_okq (⟨"TermSimplifier$Converter", "meaningOf", "(I)LTermSimplifier$Atom;"⟩, 7) := ⟨⟨by decide +kernel, by decide +kernel⟩, List.mem_of_getElem? (i := 36) (by decide +kernel), List.mem_of_getElem? (i := 280) (by decide +kernel), List.mem_of_getElem? (i := 281) (by decide +kernel)⟩
theorem lw_p6 : lw_okq (⟨"TermSimplifier$Converter", "atomOfFunction", "(LTermSimplifier$Row;II)LTermSimplifier$Atom;"⟩, 7) := ⟨⟨by decide +kernel, by decide +kernel⟩, List.mem_of_getElem? (i := 36) (by decide +kernel), List.mem_of_getElem? (i := 284) (by decide +kernel), List.mem_of_getElem? (i := 285) (by decide +kernel)⟩
theorem lw_p7 : lw_okq (⟨"TermSimplifier$Converter", "newName", "()LTermSimplifier$Atom;"⟩, 7) := ⟨⟨by decide +kernel, by decide +kernel⟩, List.mem_of_getElem? (i := 36) (by decide +kernel), List.mem_of_getElem? (i := 288) (by decide +kernel), List.mem_of_getElem? (i := 289) (by decide +kernel)⟩
theorem lw_p8 : lw_okq (⟨"TermSimplifier$Converter", "bind", "(LTermSimplifier$Row;II[LTermSimplifier$Atom;[LTermSimplifier$Row;)LTermSimplifier$Atom;"⟩, 7) := ⟨⟨by decide +kernel, by decide +kernel⟩, List.mem_of_getElem? (i := 36) (by decide +kernel), List.mem_of_getElem? (i := 292) (by decide +kernel), List.mem_of_getElem? (i := 293) (by decide +kernel)⟩
theorem lw_p9 : lw_okq (⟨"java/util/ArrayList", "add", "(Ljava/lang/Object;[Ljava/lang/Object;I)V"⟩, 3) := ⟨⟨by decide +kernel, by decide +kernel⟩, List.mem_of_getElem? (i := 210) (by decide +kernel), List.mem_of_getElem? (i := 340) (by decide +kernel), List.mem_of_getElem? (i := 341) (by decide +kernel)⟩
theorem lw_p10 : lw_okq (⟨"java/util/ArrayList", "grow", "()[Ljava/lang/Object;"⟩, 3) := ⟨⟨by decide +kernel, by decide +kernel⟩, List.mem_of_getElem? (i := 210) (by decide +kernel), List.mem_of_getElem? (i := 344) (by decide +kernel), List.mem_of_getElem? (i := 345) (by decide +kernel)⟩
theorem lw_p11 : lw_okq (⟨"java/util/ArrayList", "grow", "(I)[Ljava/lang/Object;"⟩, 3) := ⟨⟨by decide +kernel, by decide +kernel⟩, List.mem_of_getElem? (i := 210) (by decide +kernel), List.mem_of_getElem? (i := 348) (by decide +kernel), List.mem_of_getElem? (i := 349) (by decide +kernel)⟩
theorem lw_p12 : lw_okq (⟨"TermSimplifier$Converter", "atomOfPair", "(LTermSimplifier$Row;III)LTermSimplifier$Atom;"⟩, 7) := ⟨⟨by decide +kernel, by decide +kernel⟩, List.mem_of_getElem? (i := 36) (by decide +kernel), List.mem_of_getElem? (i := 396) (by decide +kernel), List.mem_of_getElem? (i := 397) (by decide +kernel)⟩
theorem lw_p13 : lw_okq (⟨"TermSimplifier$Converter", "atomOfLet", "(LTermSimplifier$Row;II)LTermSimplifier$Atom;"⟩, 7) := ⟨⟨by decide +kernel, by decide +kernel⟩, List.mem_of_getElem? (i := 36) (by decide +kernel), List.mem_of_getElem? (i := 400) (by decide +kernel), List.mem_of_getElem? (i := 401) (by decide +kernel)⟩
theorem lw_p14 : lw_okq (⟨"TermSimplifier$Converter", "atomOfIf", "(LTermSimplifier$Row;II)LTermSimplifier$Atom;"⟩, 7) := ⟨⟨by decide +kernel, by decide +kernel⟩, List.mem_of_getElem? (i := 36) (by decide +kernel), List.mem_of_getElem? (i := 404) (by decide +kernel), List.mem_of_getElem? (i := 405) (by decide +kernel)⟩
theorem lw_p15 : lw_okq (⟨"java/lang/Throwable", "fillInStackTrace", "(I)Ljava/lang/Throwable;"⟩, 6) := ⟨⟨by decide +kernel, by decide +kernel⟩, List.mem_of_getElem? (i := 470) (by decide +kernel), List.mem_of_getElem? (i := 468) (by decide +kernel), List.mem_of_getElem? (i := 469) (by decide +kernel)⟩
def lw_privs_1 : List (MethodName × Nat) := [(⟨"TermSimplifier$Converter", "isOneTerm", "(I)Z"⟩, 7), (⟨"TermSimplifier$Converter", "isHead", "(II)Z"⟩, 7), (⟨"TermSimplifier$Converter", "rowOfNextTerm", "(II)LTermSimplifier$Row;"⟩, 7), (⟨"TermSimplifier$Converter", "atomOfNextTerm", "(LTermSimplifier$Row;II)LTermSimplifier$Atom;"⟩, 7), (⟨"TermSimplifier$Converter", "nextInt", "()I"⟩, 7), (⟨"TermSimplifier$Converter", "meaningOf", "(I)LTermSimplifier$Atom;"⟩, 7), (⟨"TermSimplifier$Converter", "atomOfFunction", "(LTermSimplifier$Row;II)LTermSimplifier$Atom;"⟩, 7), (⟨"TermSimplifier$Converter", "newName", "()LTermSimplifier$Atom;"⟩, 7), (⟨"TermSimplifier$Converter", "bind", "(LTermSimplifier$Row;II[LTermSimplifier$Atom;[LTermSimplifier$Row;)LTermSimplifier$Atom;"⟩, 7), (⟨"java/util/ArrayList", "add", "(Ljava/lang/Object;[Ljava/lang/Object;I)V"⟩, 3), (⟨"java/util/ArrayList", "grow", "()[Ljava/lang/Object;"⟩, 3), (⟨"java/util/ArrayList", "grow", "(I)[Ljava/lang/Object;"⟩, 3), (⟨"TermSimplifier$Converter", "atomOfPair", "(LTermSimplifier$Row;III)LTermSimplifier$Atom;"⟩, 7), (⟨"TermSimplifier$Converter", "atomOfLet", "(LTermSimplifier$Row;II)LTermSimplifier$Atom;"⟩, 7), (⟨"TermSimplifier$Converter", "atomOfIf", "(LTermSimplifier$Row;II)LTermSimplifier$Atom;"⟩, 7), (⟨"java/lang/Throwable", "fillInStackTrace", "(I)Ljava/lang/Throwable;"⟩, 6)]
theorem lw_r1 : ∀ q ∈ lw_privs_1, lw_okq q := List.forall_mem_cons.mpr ⟨lw_p0, List.forall_mem_cons.mpr ⟨lw_p1, List.forall_mem_cons.mpr ⟨lw_p2, List.forall_mem_cons.mpr ⟨lw_p3, List.forall_mem_cons.mpr ⟨lw_p4, List.forall_mem_cons.mpr ⟨lw_p5, List.forall_mem_cons.mpr ⟨lw_p6, List.forall_mem_cons.mpr ⟨lw_p7, List.forall_mem_cons.mpr ⟨lw_p8, List.forall_mem_cons.mpr ⟨lw_p9, List.forall_mem_cons.mpr ⟨lw_p10, List.forall_mem_cons.mpr ⟨lw_p11, List.forall_mem_cons.mpr ⟨lw_p12, List.forall_mem_cons.mpr ⟨lw_p13, List.forall_mem_cons.mpr ⟨lw_p14, List.forall_mem_cons.mpr ⟨lw_p15, fun _ h => absurd h List.not_mem_nil⟩⟩⟩⟩⟩⟩⟩⟩⟩⟩⟩⟩⟩⟩⟩⟩
theorem lw_p16 : lw_okq (⟨"TermSimplifier$Passes", "goOver", "(LTermSimplifier$Program;LTermSimplifier$Row;I)V"⟩, 2) := ⟨⟨by decide +kernel, by decide +kernel⟩, List.mem_of_getElem? (i := 68) (by decide +kernel), List.mem_of_getElem? (i := 574) (by decide +kernel), List.mem_of_getElem? (i := 575) (by decide +kernel)⟩
theorem lw_p17 : lw_okq (⟨"TermSimplifier$Passes", "didStep", "(LTermSimplifier$Program;LTermSimplifier$Binding;I)Z"⟩, 2) := ⟨⟨by decide +kernel, by decide +kernel⟩, List.mem_of_getElem? (i := 68) (by decide +kernel), List.mem_of_getElem? (i := 582) (by decide +kernel), List.mem_of_getElem? (i := 583) (by decide +kernel)⟩
theorem lw_p18 : lw_okq (⟨"TermSimplifier$Passes", "didFold", "(LTermSimplifier$Program;LTermSimplifier$Binding;I)Z"⟩, 2) := ⟨⟨by decide +kernel, by decide +kernel⟩, List.mem_of_getElem? (i := 68) (by decide +kernel), List.mem_of_getElem? (i := 586) (by decide +kernel), List.mem_of_getElem? (i := 587) (by decide +kernel)⟩
theorem lw_p19 : lw_okq (⟨"java/util/ArrayList", "fastRemove", "([Ljava/lang/Object;I)V"⟩, 3) := ⟨⟨by decide +kernel, by decide +kernel⟩, List.mem_of_getElem? (i := 210) (by decide +kernel), List.mem_of_getElem? (i := 606) (by decide +kernel), List.mem_of_getElem? (i := 607) (by decide +kernel)⟩
theorem lw_p20 : lw_okq (⟨"TermSimplifier$Passes", "didChoose", "(LTermSimplifier$Program;LTermSimplifier$Binding;I)Z"⟩, 2) := ⟨⟨by decide +kernel, by decide +kernel⟩, List.mem_of_getElem? (i := 68) (by decide +kernel), List.mem_of_getElem? (i := 622) (by decide +kernel), List.mem_of_getElem? (i := 623) (by decide +kernel)⟩
theorem lw_p21 : lw_okq (⟨"java/util/ArrayList", "rangeCheckForAdd", "(I)V"⟩, 3) := ⟨⟨by decide +kernel, by decide +kernel⟩, List.mem_of_getElem? (i := 210) (by decide +kernel), List.mem_of_getElem? (i := 635) (by decide +kernel), List.mem_of_getElem? (i := 636) (by decide +kernel)⟩
theorem lw_p22 : lw_okq (⟨"TermSimplifier$Passes", "didInline", "(LTermSimplifier$Program;LTermSimplifier$Binding;I)Z"⟩, 2) := ⟨⟨by decide +kernel, by decide +kernel⟩, List.mem_of_getElem? (i := 68) (by decide +kernel), List.mem_of_getElem? (i := 639) (by decide +kernel), List.mem_of_getElem? (i := 640) (by decide +kernel)⟩
theorem lw_p23 : lw_okq (⟨"TermSimplifier$Passes", "levelThatBinds", "(II)I"⟩, 2) := ⟨⟨by decide +kernel, by decide +kernel⟩, List.mem_of_getElem? (i := 68) (by decide +kernel), List.mem_of_getElem? (i := 643) (by decide +kernel), List.mem_of_getElem? (i := 644) (by decide +kernel)⟩
theorem lw_p24 : lw_okq (⟨"TermSimplifier$Passes", "didDrop", "(LTermSimplifier$Program;LTermSimplifier$Binding;I)Z"⟩, 2) := ⟨⟨by decide +kernel, by decide +kernel⟩, List.mem_of_getElem? (i := 68) (by decide +kernel), List.mem_of_getElem? (i := 658) (by decide +kernel), List.mem_of_getElem? (i := 659) (by decide +kernel)⟩
theorem lw_p25 : lw_okq (⟨"TermSimplifier$Script", "writeRow", "(LTermSimplifier$Row;I)V"⟩, 2) := ⟨⟨by decide +kernel, by decide +kernel⟩, List.mem_of_getElem? (i := 83) (by decide +kernel), List.mem_of_getElem? (i := 705) (by decide +kernel), List.mem_of_getElem? (i := 706) (by decide +kernel)⟩
theorem lw_p26 : lw_okq (⟨"TermSimplifier$Script", "writeBinding", "(LTermSimplifier$Binding;I)V"⟩, 2) := ⟨⟨by decide +kernel, by decide +kernel⟩, List.mem_of_getElem? (i := 83) (by decide +kernel), List.mem_of_getElem? (i := 712) (by decide +kernel), List.mem_of_getElem? (i := 713) (by decide +kernel)⟩
theorem lw_p27 : lw_okq (⟨"TermSimplifier$Script", "put", "(I)V"⟩, 2) := ⟨⟨by decide +kernel, by decide +kernel⟩, List.mem_of_getElem? (i := 83) (by decide +kernel), List.mem_of_getElem? (i := 716) (by decide +kernel), List.mem_of_getElem? (i := 717) (by decide +kernel)⟩
theorem lw_p28 : lw_okq (⟨"TermSimplifier$Script", "writeAtom", "(LTermSimplifier$Atom;)V"⟩, 2) := ⟨⟨by decide +kernel, by decide +kernel⟩, List.mem_of_getElem? (i := 83) (by decide +kernel), List.mem_of_getElem? (i := 720) (by decide +kernel), List.mem_of_getElem? (i := 721) (by decide +kernel)⟩
theorem lw_p29 : lw_okq (⟨"TermSimplifier$Machine", "valueOfRow", "(LTermSimplifier$Row;II)J"⟩, 12) := ⟨⟨by decide +kernel, by decide +kernel⟩, List.mem_of_getElem? (i := 98) (by decide +kernel), List.mem_of_getElem? (i := 736) (by decide +kernel), List.mem_of_getElem? (i := 737) (by decide +kernel)⟩
theorem lw_p30 : lw_okq (⟨"TermSimplifier$Machine", "endWith", "(I)J"⟩, 12) := ⟨⟨by decide +kernel, by decide +kernel⟩, List.mem_of_getElem? (i := 98) (by decide +kernel), List.mem_of_getElem? (i := 740) (by decide +kernel), List.mem_of_getElem? (i := 741) (by decide +kernel)⟩
theorem lw_p31 : lw_okq (⟨"TermSimplifier$Machine", "valueOfBinding", "(LTermSimplifier$Binding;II)J"⟩, 12) := ⟨⟨by decide +kernel, by decide +kernel⟩, List.mem_of_getElem? (i := 98) (by decide +kernel), List.mem_of_getElem? (i := 747) (by decide +kernel), List.mem_of_getElem? (i := 748) (by decide +kernel)⟩
def lw_privs_2 : List (MethodName × Nat) := [(⟨"TermSimplifier$Passes", "goOver", "(LTermSimplifier$Program;LTermSimplifier$Row;I)V"⟩, 2), (⟨"TermSimplifier$Passes", "didStep", "(LTermSimplifier$Program;LTermSimplifier$Binding;I)Z"⟩, 2), (⟨"TermSimplifier$Passes", "didFold", "(LTermSimplifier$Program;LTermSimplifier$Binding;I)Z"⟩, 2), (⟨"java/util/ArrayList", "fastRemove", "([Ljava/lang/Object;I)V"⟩, 3), (⟨"TermSimplifier$Passes", "didChoose", "(LTermSimplifier$Program;LTermSimplifier$Binding;I)Z"⟩, 2), (⟨"java/util/ArrayList", "rangeCheckForAdd", "(I)V"⟩, 3), (⟨"TermSimplifier$Passes", "didInline", "(LTermSimplifier$Program;LTermSimplifier$Binding;I)Z"⟩, 2), (⟨"TermSimplifier$Passes", "levelThatBinds", "(II)I"⟩, 2), (⟨"TermSimplifier$Passes", "didDrop", "(LTermSimplifier$Program;LTermSimplifier$Binding;I)Z"⟩, 2), (⟨"TermSimplifier$Script", "writeRow", "(LTermSimplifier$Row;I)V"⟩, 2), (⟨"TermSimplifier$Script", "writeBinding", "(LTermSimplifier$Binding;I)V"⟩, 2), (⟨"TermSimplifier$Script", "put", "(I)V"⟩, 2), (⟨"TermSimplifier$Script", "writeAtom", "(LTermSimplifier$Atom;)V"⟩, 2), (⟨"TermSimplifier$Machine", "valueOfRow", "(LTermSimplifier$Row;II)J"⟩, 12), (⟨"TermSimplifier$Machine", "endWith", "(I)J"⟩, 12), (⟨"TermSimplifier$Machine", "valueOfBinding", "(LTermSimplifier$Binding;II)J"⟩, 12)]
theorem lw_r2 : ∀ q ∈ lw_privs_2, lw_okq q := List.forall_mem_cons.mpr ⟨lw_p16, List.forall_mem_cons.mpr ⟨lw_p17, List.forall_mem_cons.mpr ⟨lw_p18, List.forall_mem_cons.mpr ⟨lw_p19, List.forall_mem_cons.mpr ⟨lw_p20, List.forall_mem_cons.mpr ⟨lw_p21, List.forall_mem_cons.mpr ⟨lw_p22, List.forall_mem_cons.mpr ⟨lw_p23, List.forall_mem_cons.mpr ⟨lw_p24, List.forall_mem_cons.mpr ⟨lw_p25, List.forall_mem_cons.mpr ⟨lw_p26, List.forall_mem_cons.mpr ⟨lw_p27, List.forall_mem_cons.mpr ⟨lw_p28, List.forall_mem_cons.mpr ⟨lw_p29, List.forall_mem_cons.mpr ⟨lw_p30, List.forall_mem_cons.mpr ⟨lw_p31, fun _ h => absurd h List.not_mem_nil⟩⟩⟩⟩⟩⟩⟩⟩⟩⟩⟩⟩⟩⟩⟩⟩
theorem lw_p32 : lw_okq (⟨"TermSimplifier$Machine", "newFunction", "(LTermSimplifier$Binding;I)J"⟩, 12) := ⟨⟨by decide +kernel, by decide +kernel⟩, List.mem_of_getElem? (i := 98) (by decide +kernel), List.mem_of_getElem? (i := 751) (by decide +kernel), List.mem_of_getElem? (i := 752) (by decide +kernel)⟩
theorem lw_p33 : lw_okq (⟨"TermSimplifier$Machine", "valueOfApply", "(LTermSimplifier$Binding;II)J"⟩, 12) := ⟨⟨by decide +kernel, by decide +kernel⟩, List.mem_of_getElem? (i := 98) (by decide +kernel), List.mem_of_getElem? (i := 756) (by decide +kernel), List.mem_of_getElem? (i := 757) (by decide +kernel)⟩
theorem lw_p34 : lw_okq (⟨"TermSimplifier$Machine", "valueOfAtom", "(LTermSimplifier$Atom;I)J"⟩, 12) := ⟨⟨by decide +kernel, by decide +kernel⟩, List.mem_of_getElem? (i := 98) (by decide +kernel), List.mem_of_getElem? (i := 760) (by decide +kernel), List.mem_of_getElem? (i := 761) (by decide +kernel)⟩
theorem lw_p35 : lw_okq (⟨"TermSimplifier$Machine", "newCell", "(IJI)I"⟩, 12) := ⟨⟨by decide +kernel, by decide +kernel⟩, List.mem_of_getElem? (i := 98) (by decide +kernel), List.mem_of_getElem? (i := 771) (by decide +kernel), List.mem_of_getElem? (i := 772) (by decide +kernel)⟩
theorem lw_p36 : lw_okq (⟨"TermSimplifier$Machine", "valueOfOp", "(LTermSimplifier$Binding;I)J"⟩, 12) := ⟨⟨by decide +kernel, by decide +kernel⟩, List.mem_of_getElem? (i := 98) (by decide +kernel), List.mem_of_getElem? (i := 775) (by decide +kernel), List.mem_of_getElem? (i := 776) (by decide +kernel)⟩
theorem lw_p37 : lw_okq (⟨"TermSimplifier$Machine", "valueOfIf", "(LTermSimplifier$Binding;II)J"⟩, 12) := ⟨⟨by decide +kernel, by decide +kernel⟩, List.mem_of_getElem? (i := 98) (by decide +kernel), List.mem_of_getElem? (i := 781) (by decide +kernel), List.mem_of_getElem? (i := 782) (by decide +kernel)⟩
theorem lw_p38 : lw_okq (⟨"TermSimplifierModel", "converts", "()Z"⟩, 43) := ⟨⟨by decide +kernel, by decide +kernel⟩, List.mem_of_getElem? (i := 793) (by decide +kernel), List.mem_of_getElem? (i := 942) (by decide +kernel), List.mem_of_getElem? (i := 943) (by decide +kernel)⟩
theorem lw_p39 : lw_okq (⟨"TermSimplifierModel", "begins", "()I"⟩, 43) := ⟨⟨by decide +kernel, by decide +kernel⟩, List.mem_of_getElem? (i := 793) (by decide +kernel), List.mem_of_getElem? (i := 946) (by decide +kernel), List.mem_of_getElem? (i := 947) (by decide +kernel)⟩
theorem lw_p40 : lw_okq (⟨"TermSimplifierModel", "next", "()I"⟩, 43) := ⟨⟨by decide +kernel, by decide +kernel⟩, List.mem_of_getElem? (i := 793) (by decide +kernel), List.mem_of_getElem? (i := 950) (by decide +kernel), List.mem_of_getElem? (i := 951) (by decide +kernel)⟩
theorem lw_p41 : lw_okq (⟨"TermSimplifierModel", "atom", "(II)V"⟩, 43) := ⟨⟨by decide +kernel, by decide +kernel⟩, List.mem_of_getElem? (i := 793) (by decide +kernel), List.mem_of_getElem? (i := 954) (by decide +kernel), List.mem_of_getElem? (i := 955) (by decide +kernel)⟩
theorem lw_p42 : lw_okq (⟨"TermSimplifierModel", "newName", "()I"⟩, 43) := ⟨⟨by decide +kernel, by decide +kernel⟩, List.mem_of_getElem? (i := 793) (by decide +kernel), List.mem_of_getElem? (i := 958) (by decide +kernel), List.mem_of_getElem? (i := 959) (by decide +kernel)⟩
theorem lw_p43 : lw_okq (⟨"TermSimplifierModel", "emit", "(I)V"⟩, 43) := ⟨⟨by decide +kernel, by decide +kernel⟩, List.mem_of_getElem? (i := 793) (by decide +kernel), List.mem_of_getElem? (i := 962) (by decide +kernel), List.mem_of_getElem? (i := 963) (by decide +kernel)⟩
theorem lw_p44 : lw_okq (⟨"TermSimplifierModel", "rowBegins", "()V"⟩, 43) := ⟨⟨by decide +kernel, by decide +kernel⟩, List.mem_of_getElem? (i := 793) (by decide +kernel), List.mem_of_getElem? (i := 966) (by decide +kernel), List.mem_of_getElem? (i := 967) (by decide +kernel)⟩
theorem lw_p45 : lw_okq (⟨"TermSimplifierModel", "means", "(III)V"⟩, 43) := ⟨⟨by decide +kernel, by decide +kernel⟩, List.mem_of_getElem? (i := 793) (by decide +kernel), List.mem_of_getElem? (i := 970) (by decide +kernel), List.mem_of_getElem? (i := 971) (by decide +kernel)⟩
theorem lw_p46 : lw_okq (⟨"TermSimplifierModel", "goesOn", "()Z"⟩, 43) := ⟨⟨by decide +kernel, by decide +kernel⟩, List.mem_of_getElem? (i := 793) (by decide +kernel), List.mem_of_getElem? (i := 974) (by decide +kernel), List.mem_of_getElem? (i := 975) (by decide +kernel)⟩
theorem lw_p47 : lw_okq (⟨"TermSimplifierModel", "rowEnds", "()V"⟩, 43) := ⟨⟨by decide +kernel, by decide +kernel⟩, List.mem_of_getElem? (i := 793) (by decide +kernel), List.mem_of_getElem? (i := 978) (by decide +kernel), List.mem_of_getElem? (i := 979) (by decide +kernel)⟩
def lw_privs_3 : List (MethodName × Nat) := [(⟨"TermSimplifier$Machine", "newFunction", "(LTermSimplifier$Binding;I)J"⟩, 12), (⟨"TermSimplifier$Machine", "valueOfApply", "(LTermSimplifier$Binding;II)J"⟩, 12), (⟨"TermSimplifier$Machine", "valueOfAtom", "(LTermSimplifier$Atom;I)J"⟩, 12), (⟨"TermSimplifier$Machine", "newCell", "(IJI)I"⟩, 12), (⟨"TermSimplifier$Machine", "valueOfOp", "(LTermSimplifier$Binding;I)J"⟩, 12), (⟨"TermSimplifier$Machine", "valueOfIf", "(LTermSimplifier$Binding;II)J"⟩, 12), (⟨"TermSimplifierModel", "converts", "()Z"⟩, 43), (⟨"TermSimplifierModel", "begins", "()I"⟩, 43), (⟨"TermSimplifierModel", "next", "()I"⟩, 43), (⟨"TermSimplifierModel", "atom", "(II)V"⟩, 43), (⟨"TermSimplifierModel", "newName", "()I"⟩, 43), (⟨"TermSimplifierModel", "emit", "(I)V"⟩, 43), (⟨"TermSimplifierModel", "rowBegins", "()V"⟩, 43), (⟨"TermSimplifierModel", "means", "(III)V"⟩, 43), (⟨"TermSimplifierModel", "goesOn", "()Z"⟩, 43), (⟨"TermSimplifierModel", "rowEnds", "()V"⟩, 43)]
theorem lw_r3 : ∀ q ∈ lw_privs_3, lw_okq q := List.forall_mem_cons.mpr ⟨lw_p32, List.forall_mem_cons.mpr ⟨lw_p33, List.forall_mem_cons.mpr ⟨lw_p34, List.forall_mem_cons.mpr ⟨lw_p35, List.forall_mem_cons.mpr ⟨lw_p36, List.forall_mem_cons.mpr ⟨lw_p37, List.forall_mem_cons.mpr ⟨lw_p38, List.forall_mem_cons.mpr ⟨lw_p39, List.forall_mem_cons.mpr ⟨lw_p40, List.forall_mem_cons.mpr ⟨lw_p41, List.forall_mem_cons.mpr ⟨lw_p42, List.forall_mem_cons.mpr ⟨lw_p43, List.forall_mem_cons.mpr ⟨lw_p44, List.forall_mem_cons.mpr ⟨lw_p45, List.forall_mem_cons.mpr ⟨lw_p46, List.forall_mem_cons.mpr ⟨lw_p47, fun _ h => absurd h List.not_mem_nil⟩⟩⟩⟩⟩⟩⟩⟩⟩⟩⟩⟩⟩⟩⟩⟩
theorem lw_p48 : lw_okq (⟨"TermSimplifierModel", "emitAtom", "(II)V"⟩, 43) := ⟨⟨by decide +kernel, by decide +kernel⟩, List.mem_of_getElem? (i := 793) (by decide +kernel), List.mem_of_getElem? (i := 982) (by decide +kernel), List.mem_of_getElem? (i := 983) (by decide +kernel)⟩
theorem lw_p49 : lw_okq (⟨"TermSimplifierModel", "meansAgain", "(I)V"⟩, 43) := ⟨⟨by decide +kernel, by decide +kernel⟩, List.mem_of_getElem? (i := 793) (by decide +kernel), List.mem_of_getElem? (i := 986) (by decide +kernel), List.mem_of_getElem? (i := 987) (by decide +kernel)⟩
theorem lw_p50 : lw_okq (⟨"TermSimplifierModel", "named", "(I)V"⟩, 43) := ⟨⟨by decide +kernel, by decide +kernel⟩, List.mem_of_getElem? (i := 793) (by decide +kernel), List.mem_of_getElem? (i := 990) (by decide +kernel), List.mem_of_getElem? (i := 991) (by decide +kernel)⟩
theorem lw_p51 : lw_okq (⟨"TermSimplifierModel", "branches", "(II)Z"⟩, 43) := ⟨⟨by decide +kernel, by decide +kernel⟩, List.mem_of_getElem? (i := 793) (by decide +kernel), List.mem_of_getElem? (i := 994) (by decide +kernel), List.mem_of_getElem? (i := 995) (by decide +kernel)⟩
theorem lw_p52 : lw_okq (⟨"TermSimplifierModel", "bind", "(II)V"⟩, 43) := ⟨⟨by decide +kernel, by decide +kernel⟩, List.mem_of_getElem? (i := 793) (by decide +kernel), List.mem_of_getElem? (i := 998) (by decide +kernel), List.mem_of_getElem? (i := 999) (by decide +kernel)⟩
theorem lw_p53 : lw_okq (⟨"TermSimplifierModel", "pairs", "(II)Z"⟩, 43) := ⟨⟨by decide +kernel, by decide +kernel⟩, List.mem_of_getElem? (i := 793) (by decide +kernel), List.mem_of_getElem? (i := 1002) (by decide +kernel), List.mem_of_getElem? (i := 1003) (by decide +kernel)⟩
theorem lw_p54 : lw_okq (⟨"TermSimplifierModel", "fails", "(ZZ)Z"⟩, 43) := ⟨⟨by decide +kernel, by decide +kernel⟩, List.mem_of_getElem? (i := 793) (by decide +kernel), List.mem_of_getElem? (i := 1006) (by decide +kernel), List.mem_of_getElem? (i := 1007) (by decide +kernel)⟩
theorem lw_p55 : lw_okq (⟨"TermSimplifierModel", "bindings", "()I"⟩, 43) := ⟨⟨by decide +kernel, by decide +kernel⟩, List.mem_of_getElem? (i := 793) (by decide +kernel), List.mem_of_getElem? (i := 1010) (by decide +kernel), List.mem_of_getElem? (i := 1011) (by decide +kernel)⟩
theorem lw_p56 : lw_okq (⟨"TermSimplifierModel", "size", "(I)I"⟩, 43) := ⟨⟨by decide +kernel, by decide +kernel⟩, List.mem_of_getElem? (i := 793) (by decide +kernel), List.mem_of_getElem? (i := 1014) (by decide +kernel), List.mem_of_getElem? (i := 1015) (by decide +kernel)⟩
theorem lw_p57 : lw_okq (⟨"TermSimplifierModel", "goesOver", "()I"⟩, 43) := ⟨⟨by decide +kernel, by decide +kernel⟩, List.mem_of_getElem? (i := 793) (by decide +kernel), List.mem_of_getElem? (i := 1022) (by decide +kernel), List.mem_of_getElem? (i := 1023) (by decide +kernel)⟩
theorem lw_p58 : lw_okq (⟨"TermSimplifierModel", "step", "(I)I"⟩, 43) := ⟨⟨by decide +kernel, by decide +kernel⟩, List.mem_of_getElem? (i := 793) (by decide +kernel), List.mem_of_getElem? (i := 1026) (by decide +kernel), List.mem_of_getElem? (i := 1027) (by decide +kernel)⟩
theorem lw_p59 : lw_okq (⟨"TermSimplifierModel", "fold", "(I)I"⟩, 43) := ⟨⟨by decide +kernel, by decide +kernel⟩, List.mem_of_getElem? (i := 793) (by decide +kernel), List.mem_of_getElem? (i := 1030) (by decide +kernel), List.mem_of_getElem? (i := 1031) (by decide +kernel)⟩
theorem lw_p60 : lw_okq (⟨"TermSimplifierModel", "cut", "(II)V"⟩, 43) := ⟨⟨by decide +kernel, by decide +kernel⟩, List.mem_of_getElem? (i := 793) (by decide +kernel), List.mem_of_getElem? (i := 1037) (by decide +kernel), List.mem_of_getElem? (i := 1038) (by decide +kernel)⟩
theorem lw_p61 : lw_okq (⟨"TermSimplifierModel", "standsFor", "(III)V"⟩, 43) := ⟨⟨by decide +kernel, by decide +kernel⟩, List.mem_of_getElem? (i := 793) (by decide +kernel), List.mem_of_getElem? (i := 1041) (by decide +kernel), List.mem_of_getElem? (i := 1042) (by decide +kernel)⟩
theorem lw_p62 : lw_okq (⟨"TermSimplifierModel", "atoms", "(I)I"⟩, 43) := ⟨⟨by decide +kernel, by decide +kernel⟩, List.mem_of_getElem? (i := 793) (by decide +kernel), List.mem_of_getElem? (i := 1045) (by decide +kernel), List.mem_of_getElem? (i := 1046) (by decide +kernel)⟩
theorem lw_p63 : lw_okq (⟨"TermSimplifierModel", "firstAtom", "(I)I"⟩, 43) := ⟨⟨by decide +kernel, by decide +kernel⟩, List.mem_of_getElem? (i := 793) (by decide +kernel), List.mem_of_getElem? (i := 1049) (by decide +kernel), List.mem_of_getElem? (i := 1050) (by decide +kernel)⟩
def lw_privs_4 : List (MethodName × Nat) := [(⟨"TermSimplifierModel", "emitAtom", "(II)V"⟩, 43), (⟨"TermSimplifierModel", "meansAgain", "(I)V"⟩, 43), (⟨"TermSimplifierModel", "named", "(I)V"⟩, 43), (⟨"TermSimplifierModel", "branches", "(II)Z"⟩, 43), (⟨"TermSimplifierModel", "bind", "(II)V"⟩, 43), (⟨"TermSimplifierModel", "pairs", "(II)Z"⟩, 43), (⟨"TermSimplifierModel", "fails", "(ZZ)Z"⟩, 43), (⟨"TermSimplifierModel", "bindings", "()I"⟩, 43), (⟨"TermSimplifierModel", "size", "(I)I"⟩, 43), (⟨"TermSimplifierModel", "goesOver", "()I"⟩, 43), (⟨"TermSimplifierModel", "step", "(I)I"⟩, 43), (⟨"TermSimplifierModel", "fold", "(I)I"⟩, 43), (⟨"TermSimplifierModel", "cut", "(II)V"⟩, 43), (⟨"TermSimplifierModel", "standsFor", "(III)V"⟩, 43), (⟨"TermSimplifierModel", "atoms", "(I)I"⟩, 43), (⟨"TermSimplifierModel", "firstAtom", "(I)I"⟩, 43)]
theorem lw_r4 : ∀ q ∈ lw_privs_4, lw_okq q := List.forall_mem_cons.mpr ⟨lw_p48, List.forall_mem_cons.mpr ⟨lw_p49, List.forall_mem_cons.mpr ⟨lw_p50, List.forall_mem_cons.mpr ⟨lw_p51, List.forall_mem_cons.mpr ⟨lw_p52, List.forall_mem_cons.mpr ⟨lw_p53, List.forall_mem_cons.mpr ⟨lw_p54, List.forall_mem_cons.mpr ⟨lw_p55, List.forall_mem_cons.mpr ⟨lw_p56, List.forall_mem_cons.mpr ⟨lw_p57, List.forall_mem_cons.mpr ⟨lw_p58, List.forall_mem_cons.mpr ⟨lw_p59, List.forall_mem_cons.mpr ⟨lw_p60, List.forall_mem_cons.mpr ⟨lw_p61, List.forall_mem_cons.mpr ⟨lw_p62, List.forall_mem_cons.mpr ⟨lw_p63, fun _ h => absurd h List.not_mem_nil⟩⟩⟩⟩⟩⟩⟩⟩⟩⟩⟩⟩⟩⟩⟩⟩
theorem lw_p64 : lw_okq (⟨"TermSimplifierModel", "choose", "(I)I"⟩, 43) := ⟨⟨by decide +kernel, by decide +kernel⟩, List.mem_of_getElem? (i := 793) (by decide +kernel), List.mem_of_getElem? (i := 1053) (by decide +kernel), List.mem_of_getElem? (i := 1054) (by decide +kernel)⟩
theorem lw_p65 : lw_okq (⟨"TermSimplifierModel", "rowEnd", "(I)I"⟩, 43) := ⟨⟨by decide +kernel, by decide +kernel⟩, List.mem_of_getElem? (i := 793) (by decide +kernel), List.mem_of_getElem? (i := 1057) (by decide +kernel), List.mem_of_getElem? (i := 1058) (by decide +kernel)⟩
theorem lw_p66 : lw_okq (⟨"TermSimplifierModel", "insert", "(II)V"⟩, 43) := ⟨⟨by decide +kernel, by decide +kernel⟩, List.mem_of_getElem? (i := 793) (by decide +kernel), List.mem_of_getElem? (i := 1061) (by decide +kernel), List.mem_of_getElem? (i := 1062) (by decide +kernel)⟩
theorem lw_p67 : lw_okq (⟨"TermSimplifierModel", "inline", "(I)I"⟩, 43) := ⟨⟨by decide +kernel, by decide +kernel⟩, List.mem_of_getElem? (i := 793) (by decide +kernel), List.mem_of_getElem? (i := 1065) (by decide +kernel), List.mem_of_getElem? (i := 1066) (by decide +kernel)⟩
theorem lw_p68 : lw_okq (⟨"TermSimplifierModel", "function", "(I)I"⟩, 43) := ⟨⟨by decide +kernel, by decide +kernel⟩, List.mem_of_getElem? (i := 793) (by decide +kernel), List.mem_of_getElem? (i := 1069) (by decide +kernel), List.mem_of_getElem? (i := 1070) (by decide +kernel)⟩
theorem lw_p69 : lw_okq (⟨"TermSimplifierModel", "occurs", "(I)I"⟩, 43) := ⟨⟨by decide +kernel, by decide +kernel⟩, List.mem_of_getElem? (i := 793) (by decide +kernel), List.mem_of_getElem? (i := 1073) (by decide +kernel), List.mem_of_getElem? (i := 1074) (by decide +kernel)⟩
theorem lw_p70 : lw_okq (⟨"TermSimplifierModel", "drop", "(I)I"⟩, 43) := ⟨⟨by decide +kernel, by decide +kernel⟩, List.mem_of_getElem? (i := 793) (by decide +kernel), List.mem_of_getElem? (i := 1077) (by decide +kernel), List.mem_of_getElem? (i := 1078) (by decide +kernel)⟩
theorem lw_p71 : lw_okq (⟨"TermSimplifierModel", "enters", "(IIII)I"⟩, 43) := ⟨⟨by decide +kernel, by decide +kernel⟩, List.mem_of_getElem? (i := 793) (by decide +kernel), List.mem_of_getElem? (i := 1097) (by decide +kernel), List.mem_of_getElem? (i := 1098) (by decide +kernel)⟩
theorem lw_p72 : lw_okq (⟨"TermSimplifierModel", "returns", "(II)V"⟩, 43) := ⟨⟨by decide +kernel, by decide +kernel⟩, List.mem_of_getElem? (i := 793) (by decide +kernel), List.mem_of_getElem? (i := 1101) (by decide +kernel), List.mem_of_getElem? (i := 1102) (by decide +kernel)⟩
theorem lw_p73 : lw_okq (⟨"TermSimplifierModel", "load", "(II)V"⟩, 43) := ⟨⟨by decide +kernel, by decide +kernel⟩, List.mem_of_getElem? (i := 793) (by decide +kernel), List.mem_of_getElem? (i := 1105) (by decide +kernel), List.mem_of_getElem? (i := 1106) (by decide +kernel)⟩
theorem lw_p74 : lw_okq (⟨"TermSimplifierModel", "keep", "(II)I"⟩, 43) := ⟨⟨by decide +kernel, by decide +kernel⟩, List.mem_of_getElem? (i := 793) (by decide +kernel), List.mem_of_getElem? (i := 1109) (by decide +kernel), List.mem_of_getElem? (i := 1110) (by decide +kernel)⟩
theorem lw_p75 : lw_okq (⟨"TermSimplifierModel", "works", "(II)I"⟩, 43) := ⟨⟨by decide +kernel, by decide +kernel⟩, List.mem_of_getElem? (i := 793) (by decide +kernel), List.mem_of_getElem? (i := 1113) (by decide +kernel), List.mem_of_getElem? (i := 1114) (by decide +kernel)⟩
theorem lw_p76 : lw_okq (⟨"TermSimplifierModel", "makes", "(II)V"⟩, 43) := ⟨⟨by decide +kernel, by decide +kernel⟩, List.mem_of_getElem? (i := 793) (by decide +kernel), List.mem_of_getElem? (i := 1117) (by decide +kernel), List.mem_of_getElem? (i := 1118) (by decide +kernel)⟩
theorem lw_p77 : lw_okq (⟨"TermSimplifierModel", "applies", "(II)I"⟩, 43) := ⟨⟨by decide +kernel, by decide +kernel⟩, List.mem_of_getElem? (i := 793) (by decide +kernel), List.mem_of_getElem? (i := 1121) (by decide +kernel), List.mem_of_getElem? (i := 1122) (by decide +kernel)⟩
theorem lw_p78 : lw_okq (⟨"TermSimplifierModel", "reckons", "(II)I"⟩, 43) := ⟨⟨by decide +kernel, by decide +kernel⟩, List.mem_of_getElem? (i := 793) (by decide +kernel), List.mem_of_getElem? (i := 1125) (by decide +kernel), List.mem_of_getElem? (i := 1126) (by decide +kernel)⟩
theorem lw_p79 : lw_okq (⟨"TermSimplifierModel", "chooses", "(II)I"⟩, 43) := ⟨⟨by decide +kernel, by decide +kernel⟩, List.mem_of_getElem? (i := 793) (by decide +kernel), List.mem_of_getElem? (i := 1129) (by decide +kernel), List.mem_of_getElem? (i := 1130) (by decide +kernel)⟩
def lw_privs_5 : List (MethodName × Nat) := [(⟨"TermSimplifierModel", "choose", "(I)I"⟩, 43), (⟨"TermSimplifierModel", "rowEnd", "(I)I"⟩, 43), (⟨"TermSimplifierModel", "insert", "(II)V"⟩, 43), (⟨"TermSimplifierModel", "inline", "(I)I"⟩, 43), (⟨"TermSimplifierModel", "function", "(I)I"⟩, 43), (⟨"TermSimplifierModel", "occurs", "(I)I"⟩, 43), (⟨"TermSimplifierModel", "drop", "(I)I"⟩, 43), (⟨"TermSimplifierModel", "enters", "(IIII)I"⟩, 43), (⟨"TermSimplifierModel", "returns", "(II)V"⟩, 43), (⟨"TermSimplifierModel", "load", "(II)V"⟩, 43), (⟨"TermSimplifierModel", "keep", "(II)I"⟩, 43), (⟨"TermSimplifierModel", "works", "(II)I"⟩, 43), (⟨"TermSimplifierModel", "makes", "(II)V"⟩, 43), (⟨"TermSimplifierModel", "applies", "(II)I"⟩, 43), (⟨"TermSimplifierModel", "reckons", "(II)I"⟩, 43), (⟨"TermSimplifierModel", "chooses", "(II)I"⟩, 43)]
theorem lw_r5 : ∀ q ∈ lw_privs_5, lw_okq q := List.forall_mem_cons.mpr ⟨lw_p64, List.forall_mem_cons.mpr ⟨lw_p65, List.forall_mem_cons.mpr ⟨lw_p66, List.forall_mem_cons.mpr ⟨lw_p67, List.forall_mem_cons.mpr ⟨lw_p68, List.forall_mem_cons.mpr ⟨lw_p69, List.forall_mem_cons.mpr ⟨lw_p70, List.forall_mem_cons.mpr ⟨lw_p71, List.forall_mem_cons.mpr ⟨lw_p72, List.forall_mem_cons.mpr ⟨lw_p73, List.forall_mem_cons.mpr ⟨lw_p74, List.forall_mem_cons.mpr ⟨lw_p75, List.forall_mem_cons.mpr ⟨lw_p76, List.forall_mem_cons.mpr ⟨lw_p77, List.forall_mem_cons.mpr ⟨lw_p78, List.forall_mem_cons.mpr ⟨lw_p79, fun _ h => absurd h List.not_mem_nil⟩⟩⟩⟩⟩⟩⟩⟩⟩⟩⟩⟩⟩⟩⟩⟩
def lw_privs : List (MethodName × Nat) := lw_privs_1 ++ (lw_privs_2 ++ (lw_privs_3 ++ (lw_privs_4 ++ (lw_privs_5))))
def lw_tbl : List Cond := k2_sels lw_privs ++ tables_1
theorem lw_privs_ok : ∀ q ∈ lw_privs, lw_okq q := by
  show ∀ q ∈ lw_privs_1 ++ (lw_privs_2 ++ (lw_privs_3 ++ (lw_privs_4 ++ (lw_privs_5)))), lw_okq q
  exact List.forall_mem_append.mpr ⟨lw_r1, List.forall_mem_append.mpr ⟨lw_r2, List.forall_mem_append.mpr ⟨lw_r3, List.forall_mem_append.mpr ⟨lw_r4, lw_r5⟩⟩⟩⟩
end
section
def RX0 : String := "TermSimplifier$Atom"
def TX0 : u_T := fun k => match k with
  | 0 => ("TermSimplifier$Atom", "isName", "Z", true)
  | _ => ("TermSimplifier$Atom", "value", "I", true)
def tyX0 : Nat → FieldType := fun k => match k with
  | 0 => .boolean
  | _ => .int
theorem nmX0 : ∀ a, a < 2 → ∀ b, b < 2 → a ≠ b → (TX0 a).2.1 ≠ (TX0 b).2.1 := by decide +kernel
theorem tyX0_ok : ∀ k, k < 2 → parseFieldDescriptor (TX0 k).2.2.1 = some (tyX0 k) := by decide +kernel
def RX1 : String := "TermSimplifier$Binding"
def TX1 : u_T := fun k => match k with
  | 0 => ("TermSimplifier$Binding", "name", "I", true)
  | 1 => ("TermSimplifier$Binding", "kind", "I", true)
  | 2 => ("TermSimplifier$Binding", "detail", "I", true)
  | 3 => ("TermSimplifier$Binding", "atoms", "[LTermSimplifier$Atom;", true)
  | _ => ("TermSimplifier$Binding", "rows", "[LTermSimplifier$Row;", true)
def tyX1 : Nat → FieldType := fun k => match k with
  | 0 => .int
  | 1 => .int
  | 2 => .int
  | 3 => .array (.object "TermSimplifier$Atom")
  | _ => .array (.object "TermSimplifier$Row")
theorem nmX1 : ∀ a, a < 5 → ∀ b, b < 5 → a ≠ b → (TX1 a).2.1 ≠ (TX1 b).2.1 := by decide +kernel
theorem tyX1_ok : ∀ k, k < 5 → parseFieldDescriptor (TX1 k).2.2.1 = some (tyX1 k) := by decide +kernel
def RX2 : String := "TermSimplifier$Converter"
def TX2 : u_T := fun k => match k with
  | 0 => ("TermSimplifier$Converter", "code", "[I", true)
  | 1 => ("TermSimplifier$Converter", "length", "I", false)
  | 2 => ("TermSimplifier$Converter", "at", "I", false)
  | 3 => ("TermSimplifier$Converter", "meanings", "[LTermSimplifier$Atom;", true)
  | 4 => ("TermSimplifier$Converter", "foundFreeVariable", "Z", false)
  | 5 => ("TermSimplifier$Converter", "names", "I", false)
  | _ => ("TermSimplifier$Converter", "deepestRow", "I", false)
def tyX2 : Nat → FieldType := fun k => match k with
  | 0 => .array .int
  | 1 => .int
  | 2 => .int
  | 3 => .array (.object "TermSimplifier$Atom")
  | 4 => .boolean
  | 5 => .int
  | _ => .int
theorem nmX2 : ∀ a, a < 7 → ∀ b, b < 7 → a ≠ b → (TX2 a).2.1 ≠ (TX2 b).2.1 := by decide +kernel
theorem tyX2_ok : ∀ k, k < 7 → parseFieldDescriptor (TX2 k).2.2.1 = some (tyX2 k) := by decide +kernel
def RX3 : String := "TermSimplifier$Machine"
def TX3 : u_T := fun k => match k with
  | 0 => ("TermSimplifier$Machine", "cellNames", "[I", true)
  | 1 => ("TermSimplifier$Machine", "cellValues", "[J", true)
  | 2 => ("TermSimplifier$Machine", "cellsBefore", "[I", true)
  | 3 => ("TermSimplifier$Machine", "cells", "I", false)
  | 4 => ("TermSimplifier$Machine", "functions", "[LTermSimplifier$Binding;", true)
  | 5 => ("TermSimplifier$Machine", "functionCells", "[I", true)
  | 6 => ("TermSimplifier$Machine", "functionsMade", "I", false)
  | 7 => ("TermSimplifier$Machine", "ending", "I", false)
  | 8 => ("TermSimplifier$Machine", "number", "I", false)
  | 9 => ("TermSimplifier$Machine", "endedInFunction", "Z", false)
  | 10 => ("TermSimplifier$Machine", "begun", "I", false)
  | _ => ("TermSimplifier$Machine", "deepest", "I", false)
def tyX3 : Nat → FieldType := fun k => match k with
  | 0 => .array .int
  | 1 => .array .long
  | 2 => .array .int
  | 3 => .int
  | 4 => .array (.object "TermSimplifier$Binding")
  | 5 => .array .int
  | 6 => .int
  | 7 => .int
  | 8 => .int
  | 9 => .boolean
  | 10 => .int
  | _ => .int
theorem nmX3 : ∀ a, a < 12 → ∀ b, b < 12 → a ≠ b → (TX3 a).2.1 ≠ (TX3 b).2.1 := by decide +kernel
theorem tyX3_ok : ∀ k, k < 12 → parseFieldDescriptor (TX3 k).2.2.1 = some (tyX3 k) := by decide +kernel
def RX4 : String := "TermSimplifier$Passes"
def TX4 : u_T := fun k => match k with
  | 0 => ("TermSimplifier$Passes", "path", "[LTermSimplifier$Row;", true)
  | _ => ("TermSimplifier$Passes", "places", "[I", true)
def tyX4 : Nat → FieldType := fun k => match k with
  | 0 => .array (.object "TermSimplifier$Row")
  | _ => .array .int
theorem nmX4 : ∀ a, a < 2 → ∀ b, b < 2 → a ≠ b → (TX4 a).2.1 ≠ (TX4 b).2.1 := by decide +kernel
theorem tyX4_ok : ∀ k, k < 2 → parseFieldDescriptor (TX4 k).2.2.1 = some (tyX4 k) := by decide +kernel
def RX5 : String := "TermSimplifier$Program"
def TX5 : u_T := fun k => match k with
  | 0 => ("TermSimplifier$Program", "row", "LTermSimplifier$Row;", true)
  | 1 => ("TermSimplifier$Program", "names", "I", true)
  | _ => ("TermSimplifier$Program", "steps", "[I", true)
def tyX5 : Nat → FieldType := fun k => match k with
  | 0 => .object "TermSimplifier$Row"
  | 1 => .int
  | _ => .array .int
theorem nmX5 : ∀ a, a < 3 → ∀ b, b < 3 → a ≠ b → (TX5 a).2.1 ≠ (TX5 b).2.1 := by decide +kernel
theorem tyX5_ok : ∀ k, k < 3 → parseFieldDescriptor (TX5 k).2.2.1 = some (tyX5 k) := by decide +kernel
def RX6 : String := "TermSimplifier$Row"
def TX6 : u_T := fun k => match k with
  | 0 => ("TermSimplifier$Row", "bindings", "Ljava/util/ArrayList;", true)
  | _ => ("TermSimplifier$Row", "result", "LTermSimplifier$Atom;", false)
def tyX6 : Nat → FieldType := fun k => match k with
  | 0 => .object "java/util/ArrayList"
  | _ => .object "TermSimplifier$Atom"
theorem nmX6 : ∀ a, a < 2 → ∀ b, b < 2 → a ≠ b → (TX6 a).2.1 ≠ (TX6 b).2.1 := by decide +kernel
theorem tyX6_ok : ∀ k, k < 2 → parseFieldDescriptor (TX6 k).2.2.1 = some (tyX6 k) := by decide +kernel
def RX7 : String := "TermSimplifier$Script"
def TX7 : u_T := fun k => match k with
  | 0 => ("TermSimplifier$Script", "numbers", "[I", true)
  | _ => ("TermSimplifier$Script", "length", "I", false)
def tyX7 : Nat → FieldType := fun k => match k with
  | 0 => .array .int
  | _ => .int
theorem nmX7 : ∀ a, a < 2 → ∀ b, b < 2 → a ≠ b → (TX7 a).2.1 ≠ (TX7 b).2.1 := by decide +kernel
theorem tyX7_ok : ∀ k, k < 2 → parseFieldDescriptor (TX7 k).2.2.1 = some (tyX7 k) := by decide +kernel
def RX8 : String := "TermSimplifier"
def TX8 : u_T := fun k => match k with
  | 0 => ("TermSimplifier", "converter", "LTermSimplifier$Converter;", true)
  | 1 => ("TermSimplifier", "passes", "LTermSimplifier$Passes;", true)
  | 2 => ("TermSimplifier", "script", "LTermSimplifier$Script;", true)
  | 3 => ("TermSimplifier", "machine", "LTermSimplifier$Machine;", true)
  | _ => ("TermSimplifier", "program", "LTermSimplifier$Program;", false)
def tyX8 : Nat → FieldType := fun k => match k with
  | 0 => .object "TermSimplifier$Converter"
  | 1 => .object "TermSimplifier$Passes"
  | 2 => .object "TermSimplifier$Script"
  | 3 => .object "TermSimplifier$Machine"
  | _ => .object "TermSimplifier$Program"
theorem nmX8 : ∀ a, a < 5 → ∀ b, b < 5 → a ≠ b → (TX8 a).2.1 ≠ (TX8 b).2.1 := by decide +kernel
theorem tyX8_ok : ∀ k, k < 5 → parseFieldDescriptor (TX8 k).2.2.1 = some (tyX8 k) := by decide +kernel
def RX9 : String := "TermSimplifierModel"
def TX9 : u_T := fun k => match k with
  | 0 => ("TermSimplifierModel", "thrown", "I", false)
  | 1 => ("TermSimplifierModel", "typed", "I", false)
  | 2 => ("TermSimplifierModel", "code", "[I", true)
  | 3 => ("TermSimplifierModel", "is", "Z", false)
  | 4 => ("TermSimplifierModel", "length", "I", false)
  | 5 => ("TermSimplifierModel", "row", "[I", true)
  | 6 => ("TermSimplifierModel", "piece", "[I", true)
  | 7 => ("TermSimplifierModel", "counts", "[I", true)
  | 8 => ("TermSimplifierModel", "names", "I", false)
  | 9 => ("TermSimplifierModel", "at", "I", false)
  | 10 => ("TermSimplifierModel", "open", "I", false)
  | 11 => ("TermSimplifierModel", "what", "[I", true)
  | 12 => ("TermSimplifierModel", "state", "[I", true)
  | 13 => ("TermSimplifierModel", "variable", "[I", true)
  | 14 => ("TermSimplifierModel", "header", "[I", true)
  | 15 => ("TermSimplifierModel", "keptKind", "[I", true)
  | 16 => ("TermSimplifierModel", "keptValue", "[I", true)
  | 17 => ("TermSimplifierModel", "atomKind", "I", false)
  | 18 => ("TermSimplifierModel", "atomValue", "I", false)
  | 19 => ("TermSimplifierModel", "meansKind", "[I", true)
  | 20 => ("TermSimplifierModel", "meansValue", "[I", true)
  | 21 => ("TermSimplifierModel", "deep", "I", false)
  | 22 => ("TermSimplifierModel", "deepest", "I", false)
  | 23 => ("TermSimplifierModel", "draft", "I", false)
  | 24 => ("TermSimplifierModel", "draftNames", "I", false)
  | 25 => ("TermSimplifierModel", "draftRow", "[I", true)
  | 26 => ("TermSimplifierModel", "cells", "I", false)
  | 27 => ("TermSimplifierModel", "cellName", "[I", true)
  | 28 => ("TermSimplifierModel", "cellIs", "[Z", true)
  | 29 => ("TermSimplifierModel", "cellValue", "[I", true)
  | 30 => ("TermSimplifierModel", "cellNext", "[I", true)
  | 31 => ("TermSimplifierModel", "functions", "I", false)
  | 32 => ("TermSimplifierModel", "functionRow", "[I", true)
  | 33 => ("TermSimplifierModel", "functionName", "[I", true)
  | 34 => ("TermSimplifierModel", "functionCells", "[I", true)
  | 35 => ("TermSimplifierModel", "frames", "I", false)
  | 36 => ("TermSimplifierModel", "place", "[I", true)
  | 37 => ("TermSimplifierModel", "chain", "[I", true)
  | 38 => ("TermSimplifierModel", "back", "[I", true)
  | 39 => ("TermSimplifierModel", "wants", "[I", true)
  | 40 => ("TermSimplifierModel", "valueIs", "Z", false)
  | 41 => ("TermSimplifierModel", "value", "I", false)
  | _ => ("TermSimplifierModel", "ran", "[I", true)
def tyX9 : Nat → FieldType := fun k => match k with
  | 0 => .int
  | 1 => .int
  | 2 => .array .int
  | 3 => .boolean
  | 4 => .int
  | 5 => .array .int
  | 6 => .array .int
  | 7 => .array .int
  | 8 => .int
  | 9 => .int
  | 10 => .int
  | 11 => .array .int
  | 12 => .array .int
  | 13 => .array .int
  | 14 => .array .int
  | 15 => .array .int
  | 16 => .array .int
  | 17 => .int
  | 18 => .int
  | 19 => .array .int
  | 20 => .array .int
  | 21 => .int
  | 22 => .int
  | 23 => .int
  | 24 => .int
  | 25 => .array .int
  | 26 => .int
  | 27 => .array .int
  | 28 => .array .boolean
  | 29 => .array .int
  | 30 => .array .int
  | 31 => .int
  | 32 => .array .int
  | 33 => .array .int
  | 34 => .array .int
  | 35 => .int
  | 36 => .array .int
  | 37 => .array .int
  | 38 => .array .int
  | 39 => .array .int
  | 40 => .boolean
  | 41 => .int
  | _ => .array .int
theorem nmX9 : ∀ a, a < 43 → ∀ b, b < 43 → a ≠ b → (TX9 a).2.1 ≠ (TX9 b).2.1 := by decide +kernel
theorem tyX9_ok : ∀ k, k < 43 → parseFieldDescriptor (TX9 k).2.2.1 = some (tyX9 k) := by decide +kernel
def RJx4a65c : String := "java/util/ArrayList"
def TJx4a65c : u_T := fun k => match k with
  | 0 => ("java/util/AbstractList", "modCount", "I", false)
  | 1 => ("java/util/ArrayList", "elementData", "[Ljava/lang/Object;", false)
  | _ => ("java/util/ArrayList", "size", "I", false)
def tyJx4a65c : Nat → FieldType := fun k => match k with
  | 0 => .int
  | 1 => .array (.object "java/lang/Object")
  | _ => .int
theorem nmJx4a65c : ∀ a, a < 3 → ∀ b, b < 3 → a ≠ b → (TJx4a65c a).2.1 ≠ (TJx4a65c b).2.1 := by decide +kernel
theorem tyJx4a65c_ok : ∀ k, k < 3 → parseFieldDescriptor (TJx4a65c k).2.2.1 = some (tyJx4a65c k) := by decide +kernel
abbrev vwCl : List vw_C := [(RJx4a65c, TJx4a65c, 3), (RX0, TX0, 2), (RX1, TX1, 5), (RX2, TX2, 7), (RX3, TX3, 12), (RX4, TX4, 2), (RX5, TX5, 3), (RX6, TX6, 2), (RX7, TX7, 2), (RX8, TX8, 5), (RX9, TX9, 43)]
def gtbl : List Cond := lw_tbl.filter goodWord
theorem gt_tab {w : Cond} (i : Nat) (h : tables_1[i]? = some w) (g : goodWord w = true) : w ∈ gtbl := List.mem_filter.mpr ⟨List.mem_append_right _ (List.mem_of_getElem? h), g⟩
theorem gt_sel {w : Cond} (i : Nat) (h : (k2_sels lw_privs)[i]? = some w) (g : goodWord w = true) : w ∈ gtbl := List.mem_filter.mpr ⟨List.mem_append_left _ (List.mem_of_getElem? h), g⟩
def cnm : List String := ["TermSimplifierModel", "TermSimplifier", "TermSimplifier$Atom", "TermSimplifier$Binding", "TermSimplifier$Program", "TermSimplifier$Script", "TermSimplifier$Row", "TermSimplifier$Converter", "TermSimplifier$Passes", "TermSimplifier$Machine", "java/lang/Math", "java/util/AbstractCollection", "java/util/AbstractList", "java/util/ArrayList", "java/util/Arrays", "java/util/Objects", "jdk/internal/util/ArraysSupport", "jdk/internal/util/Preconditions", "TermSimplifierLaw"]
/-- name, code, locals, return, number of the owner, number of arguments with the receiver, place of its word -/
def mtab : List (MethodName × ByteArray × Nat × Option FieldType × Nat × Nat × Nat) := [
  (⟨"TermSimplifierModel", "<init>", "()V"⟩, prog_11_method_1_code, 1, none, 0, 1, 796),
  (⟨"TermSimplifierModel", "thrown", "()I"⟩, prog_11_method_2_code, 1, some .int, 0, 1, 932),
  (⟨"TermSimplifierModel", "type", "(I)Z"⟩, prog_11_method_4_code, 2, some .boolean, 0, 2, 936),
  (⟨"TermSimplifierModel", "convert", "()I"⟩, prog_11_method_21_code, 3, some .int, 0, 1, 940),
  (⟨"TermSimplifierModel", "converts", "()Z"⟩, prog_11_method_20_code, 4, some .boolean, 0, 1, 944),
  (⟨"TermSimplifierModel", "begins", "()I"⟩, prog_11_method_13_code, 4, some .int, 0, 1, 948),
  (⟨"TermSimplifierModel", "next", "()I"⟩, prog_11_method_9_code, 1, some .int, 0, 1, 952),
  (⟨"TermSimplifierModel", "atom", "(II)V"⟩, prog_11_method_8_code, 3, none, 0, 3, 956),
  (⟨"TermSimplifierModel", "newName", "()I"⟩, prog_11_method_7_code, 1, some .int, 0, 1, 960),
  (⟨"TermSimplifierModel", "emit", "(I)V"⟩, prog_11_method_5_code, 2, none, 0, 2, 964),
  (⟨"TermSimplifierModel", "rowBegins", "()V"⟩, prog_11_method_12_code, 1, none, 0, 1, 968),
  (⟨"TermSimplifierModel", "means", "(III)V"⟩, prog_11_method_10_code, 5, none, 0, 4, 972),
  (⟨"TermSimplifierModel", "goesOn", "()Z"⟩, prog_11_method_17_code, 3, some .boolean, 0, 1, 976),
  (⟨"TermSimplifierModel", "rowEnds", "()V"⟩, prog_11_method_15_code, 1, none, 0, 1, 980),
  (⟨"TermSimplifierModel", "emitAtom", "(II)V"⟩, prog_11_method_6_code, 3, none, 0, 3, 984),
  (⟨"TermSimplifierModel", "meansAgain", "(I)V"⟩, prog_11_method_11_code, 2, none, 0, 2, 988),
  (⟨"TermSimplifierModel", "named", "(I)V"⟩, prog_11_method_16_code, 3, none, 0, 2, 992),
  (⟨"TermSimplifierModel", "branches", "(II)Z"⟩, prog_11_method_18_code, 3, some .boolean, 0, 3, 996),
  (⟨"TermSimplifierModel", "bind", "(II)V"⟩, prog_11_method_14_code, 3, none, 0, 3, 1000),
  (⟨"TermSimplifierModel", "pairs", "(II)Z"⟩, prog_11_method_19_code, 4, some .boolean, 0, 3, 1004),
  (⟨"TermSimplifierModel", "fails", "(ZZ)Z"⟩, prog_11_method_3_code, 3, some .boolean, 0, 3, 1008),
  (⟨"TermSimplifierModel", "bindings", "()I"⟩, prog_11_method_23_code, 3, some .int, 0, 1, 1012),
  (⟨"TermSimplifierModel", "size", "(I)I"⟩, prog_11_method_22_code, 3, some .int, 0, 2, 1016),
  (⟨"TermSimplifierModel", "pass", "()I"⟩, prog_11_method_39_code, 1, some .int, 0, 1, 1020),
  (⟨"TermSimplifierModel", "goesOver", "()I"⟩, prog_11_method_38_code, 4, some .int, 0, 1, 1024),
  (⟨"TermSimplifierModel", "step", "(I)I"⟩, prog_11_method_37_code, 2, some .int, 0, 2, 1028),
  (⟨"TermSimplifierModel", "fold", "(I)I"⟩, prog_11_method_33_code, 5, some .int, 0, 2, 1032),
  (⟨"TermSimplifierModel", "sum", "(III)I"⟩, prog_11_method_32_code, 3, some .int, 0, 3, 1035),
  (⟨"TermSimplifierModel", "cut", "(II)V"⟩, prog_11_method_29_code, 4, none, 0, 3, 1039),
  (⟨"TermSimplifierModel", "standsFor", "(III)V"⟩, prog_11_method_27_code, 7, none, 0, 4, 1043),
  (⟨"TermSimplifierModel", "atoms", "(I)I"⟩, prog_11_method_24_code, 3, some .int, 0, 2, 1047),
  (⟨"TermSimplifierModel", "firstAtom", "(I)I"⟩, prog_11_method_25_code, 2, some .int, 0, 2, 1051),
  (⟨"TermSimplifierModel", "choose", "(I)I"⟩, prog_11_method_34_code, 10, some .int, 0, 2, 1055),
  (⟨"TermSimplifierModel", "rowEnd", "(I)I"⟩, prog_11_method_28_code, 5, some .int, 0, 2, 1059),
  (⟨"TermSimplifierModel", "insert", "(II)V"⟩, prog_11_method_30_code, 4, none, 0, 3, 1063),
  (⟨"TermSimplifierModel", "inline", "(I)I"⟩, prog_11_method_35_code, 11, some .int, 0, 2, 1067),
  (⟨"TermSimplifierModel", "function", "(I)I"⟩, prog_11_method_31_code, 4, some .int, 0, 2, 1071),
  (⟨"TermSimplifierModel", "occurs", "(I)I"⟩, prog_11_method_26_code, 6, some .int, 0, 2, 1075),
  (⟨"TermSimplifierModel", "drop", "(I)I"⟩, prog_11_method_36_code, 2, some .int, 0, 2, 1079),
  (⟨"TermSimplifierModel", "simplify", "()I"⟩, prog_11_method_40_code, 2, some .int, 0, 1, 1083),
  (⟨"TermSimplifierModel", "count", "(I)I"⟩, prog_11_method_41_code, 2, some .int, 0, 2, 1087),
  (⟨"TermSimplifierModel", "written", "(I)I"⟩, prog_11_method_42_code, 2, some .int, 0, 2, 1091),
  (⟨"TermSimplifierModel", "run", "()I"⟩, prog_11_method_52_code, 4, some .int, 0, 1, 1095),
  (⟨"TermSimplifierModel", "enters", "(IIII)I"⟩, prog_11_method_45_code, 5, some .int, 0, 5, 1099),
  (⟨"TermSimplifierModel", "returns", "(II)V"⟩, prog_11_method_51_code, 3, none, 0, 3, 1103),
  (⟨"TermSimplifierModel", "load", "(II)V"⟩, prog_11_method_43_code, 4, none, 0, 3, 1107),
  (⟨"TermSimplifierModel", "keep", "(II)I"⟩, prog_11_method_44_code, 3, some .int, 0, 3, 1111),
  (⟨"TermSimplifierModel", "works", "(II)I"⟩, prog_11_method_50_code, 3, some .int, 0, 3, 1115),
  (⟨"TermSimplifierModel", "makes", "(II)V"⟩, prog_11_method_49_code, 3, none, 0, 3, 1119),
  (⟨"TermSimplifierModel", "applies", "(II)I"⟩, prog_11_method_46_code, 5, some .int, 0, 3, 1123),
  (⟨"TermSimplifierModel", "reckons", "(II)I"⟩, prog_11_method_47_code, 5, some .int, 0, 3, 1127),
  (⟨"TermSimplifierModel", "chooses", "(II)I"⟩, prog_11_method_48_code, 5, some .int, 0, 3, 1131),
  (⟨"TermSimplifierModel", "ran", "(I)I"⟩, prog_11_method_53_code, 2, some .int, 0, 2, 1135),
  (⟨"TermSimplifier", "<init>", "()V"⟩, prog_1_method_1_code, 1, none, 1, 1, 31),
  (⟨"TermSimplifier", "type", "(I)Z"⟩, prog_1_method_2_code, 2, some .boolean, 1, 2, 166),
  (⟨"TermSimplifier", "convert", "()I"⟩, prog_1_method_3_code, 2, some .int, 1, 1, 179),
  (⟨"TermSimplifier", "pass", "()I"⟩, prog_1_method_4_code, 1, some .int, 1, 1, 548),
  (⟨"TermSimplifier", "dividesByZero", "(II)Z"⟩, prog_1_method_10_code, 2, some .boolean, 1, 2, 591),
  (⟨"TermSimplifier", "calculated", "(III)I"⟩, prog_1_method_11_code, 3, some .int, 1, 3, 595),
  (⟨"TermSimplifier", "simplify", "()I"⟩, prog_1_method_5_code, 2, some .int, 1, 1, 667),
  (⟨"TermSimplifier", "count", "(I)I"⟩, prog_1_method_6_code, 2, some .int, 1, 2, 676),
  (⟨"TermSimplifier", "written", "(I)I"⟩, prog_1_method_7_code, 2, some .int, 1, 2, 699),
  (⟨"TermSimplifier", "run", "()I"⟩, prog_1_method_8_code, 1, some .int, 1, 1, 730),
  (⟨"TermSimplifier", "ran", "(I)I"⟩, prog_1_method_9_code, 2, some .int, 1, 2, 790),
  (⟨"TermSimplifier$Atom", "<init>", "(ZI)V"⟩, prog_2_method_1_code, 3, none, 2, 3, 239),
  (⟨"TermSimplifier$Atom", "isTheName", "(I)Z"⟩, prog_2_method_2_code, 2, some .boolean, 2, 2, 620),
  (⟨"TermSimplifier$Binding", "<init>", "(III[LTermSimplifier$Atom;[LTermSimplifier$Row;)V"⟩, prog_3_method_1_code, 6, none, 3, 6, 299),
  (⟨"TermSimplifier$Program", "<init>", "(LTermSimplifier$Row;I)V"⟩, prog_7_method_1_code, 3, none, 4, 3, 411),
  (⟨"TermSimplifier$Program", "allSteps", "()I"⟩, prog_7_method_2_code, 1, some .int, 4, 1, 572),
  (⟨"TermSimplifier$Script", "<init>", "()V"⟩, prog_9_method_1_code, 1, none, 5, 1, 86),
  (⟨"TermSimplifier$Script", "writeProgram", "(LTermSimplifier$Program;)V"⟩, prog_9_method_2_code, 2, none, 5, 2, 703),
  (⟨"TermSimplifier$Script", "writeRow", "(LTermSimplifier$Row;I)V"⟩, prog_9_method_3_code, 4, none, 5, 3, 707),
  (⟨"TermSimplifier$Script", "writeBinding", "(LTermSimplifier$Binding;I)V"⟩, prog_9_method_4_code, 7, none, 5, 3, 714),
  (⟨"TermSimplifier$Script", "put", "(I)V"⟩, prog_9_method_6_code, 2, none, 5, 2, 718),
  (⟨"TermSimplifier$Script", "writeAtom", "(LTermSimplifier$Atom;)V"⟩, prog_9_method_5_code, 2, none, 5, 2, 722),
  (⟨"TermSimplifier$Row", "<init>", "()V"⟩, prog_8_method_1_code, 1, none, 6, 1, 207),
  (⟨"TermSimplifier$Row", "allBindings", "()I"⟩, prog_8_method_2_code, 1, some .int, 6, 1, 518),
  (⟨"TermSimplifier$Row", "bindingsIn", "(LTermSimplifier$Row;I)I"⟩, prog_8_method_3_code, 8, some .int, 6, 2, 521),
  (⟨"TermSimplifier$Row", "takeAway", "(I)V"⟩, prog_8_method_9_code, 2, none, 6, 2, 600),
  (⟨"TermSimplifier$Row", "replace", "(ILTermSimplifier$Atom;)V"⟩, prog_8_method_6_code, 3, none, 6, 3, 613),
  (⟨"TermSimplifier$Row", "replaceIn", "(LTermSimplifier$Row;ILTermSimplifier$Atom;I)V"⟩, prog_8_method_7_code, 10, none, 6, 4, 616),
  (⟨"TermSimplifier$Row", "putInPlace", "(ILTermSimplifier$Row;)V"⟩, prog_8_method_10_code, 4, none, 6, 3, 628),
  (⟨"TermSimplifier$Row", "placeOf", "(I)I"⟩, prog_8_method_8_code, 3, some .int, 6, 2, 649),
  (⟨"TermSimplifier$Row", "occurrencesOf", "(I)I"⟩, prog_8_method_4_code, 2, some .int, 6, 2, 653),
  (⟨"TermSimplifier$Row", "occurrencesIn", "(LTermSimplifier$Row;II)I"⟩, prog_8_method_5_code, 10, some .int, 6, 3, 656),
  (⟨"TermSimplifier$Converter", "<init>", "()V"⟩, prog_4_method_1_code, 1, none, 7, 1, 39),
  (⟨"TermSimplifier$Converter", "addToCode", "(I)Z"⟩, prog_4_method_2_code, 2, some .boolean, 7, 2, 170),
  (⟨"TermSimplifier$Converter", "takeProgram", "()LTermSimplifier$Program;"⟩, prog_4_method_3_code, 3, some (.object "TermSimplifier$Program"), 7, 1, 183),
  (⟨"TermSimplifier$Converter", "isOneTerm", "(I)Z"⟩, prog_4_method_4_code, 5, some .boolean, 7, 2, 187),
  (⟨"TermSimplifier$Converter", "isHead", "(II)Z"⟩, prog_4_method_5_code, 5, some .boolean, 7, 3, 191),
  (⟨"TermSimplifier$Converter", "rowOfNextTerm", "(II)LTermSimplifier$Row;"⟩, prog_4_method_6_code, 4, some (.object "TermSimplifier$Row"), 7, 3, 199),
  (⟨"TermSimplifier$Converter", "atomOfNextTerm", "(LTermSimplifier$Row;II)LTermSimplifier$Atom;"⟩, prog_4_method_7_code, 5, some (.object "TermSimplifier$Atom"), 7, 4, 273),
  (⟨"TermSimplifier$Converter", "nextInt", "()I"⟩, prog_4_method_15_code, 1, some .int, 7, 1, 278),
  (⟨"TermSimplifier$Converter", "meaningOf", "(I)LTermSimplifier$Atom;"⟩, prog_4_method_13_code, 3, some (.object "TermSimplifier$Atom"), 7, 2, 282),
  (⟨"TermSimplifier$Converter", "atomOfFunction", "(LTermSimplifier$Row;II)LTermSimplifier$Atom;"⟩, prog_4_method_8_code, 8, some (.object "TermSimplifier$Atom"), 7, 4, 286),
  (⟨"TermSimplifier$Converter", "newName", "()LTermSimplifier$Atom;"⟩, prog_4_method_14_code, 2, some (.object "TermSimplifier$Atom"), 7, 1, 290),
  (⟨"TermSimplifier$Converter", "bind", "(LTermSimplifier$Row;II[LTermSimplifier$Atom;[LTermSimplifier$Row;)LTermSimplifier$Atom;"⟩, prog_4_method_12_code, 7, some (.object "TermSimplifier$Atom"), 7, 6, 294),
  (⟨"TermSimplifier$Converter", "atomOfPair", "(LTermSimplifier$Row;III)LTermSimplifier$Atom;"⟩, prog_4_method_9_code, 8, some (.object "TermSimplifier$Atom"), 7, 5, 398),
  (⟨"TermSimplifier$Converter", "atomOfLet", "(LTermSimplifier$Row;II)LTermSimplifier$Atom;"⟩, prog_4_method_10_code, 8, some (.object "TermSimplifier$Atom"), 7, 4, 402),
  (⟨"TermSimplifier$Converter", "atomOfIf", "(LTermSimplifier$Row;II)LTermSimplifier$Atom;"⟩, prog_4_method_11_code, 7, some (.object "TermSimplifier$Atom"), 7, 4, 406),
  (⟨"TermSimplifier$Passes", "<init>", "()V"⟩, prog_6_method_1_code, 1, none, 8, 1, 71),
  (⟨"TermSimplifier$Passes", "makeOne", "(LTermSimplifier$Program;)I"⟩, prog_6_method_2_code, 3, some .int, 8, 2, 568),
  (⟨"TermSimplifier$Passes", "goOver", "(LTermSimplifier$Program;LTermSimplifier$Row;I)V"⟩, prog_6_method_3_code, 10, none, 8, 4, 576),
  (⟨"TermSimplifier$Passes", "didStep", "(LTermSimplifier$Program;LTermSimplifier$Binding;I)Z"⟩, prog_6_method_4_code, 4, some .boolean, 8, 4, 584),
  (⟨"TermSimplifier$Passes", "didFold", "(LTermSimplifier$Program;LTermSimplifier$Binding;I)Z"⟩, prog_6_method_5_code, 7, some .boolean, 8, 4, 588),
  (⟨"TermSimplifier$Passes", "didChoose", "(LTermSimplifier$Program;LTermSimplifier$Binding;I)Z"⟩, prog_6_method_6_code, 6, some .boolean, 8, 4, 624),
  (⟨"TermSimplifier$Passes", "didInline", "(LTermSimplifier$Program;LTermSimplifier$Binding;I)Z"⟩, prog_6_method_7_code, 9, some .boolean, 8, 4, 641),
  (⟨"TermSimplifier$Passes", "levelThatBinds", "(II)I"⟩, prog_6_method_8_code, 4, some .int, 8, 3, 645),
  (⟨"TermSimplifier$Passes", "didDrop", "(LTermSimplifier$Program;LTermSimplifier$Binding;I)Z"⟩, prog_6_method_9_code, 4, some .boolean, 8, 4, 660),
  (⟨"TermSimplifier$Machine", "<init>", "()V"⟩, prog_5_method_1_code, 1, none, 9, 1, 101),
  (⟨"TermSimplifier$Machine", "start", "(LTermSimplifier$Program;)I"⟩, prog_5_method_2_code, 4, some .int, 9, 2, 734),
  (⟨"TermSimplifier$Machine", "valueOfRow", "(LTermSimplifier$Row;II)J"⟩, prog_5_method_3_code, 9, some .long, 9, 4, 738),
  (⟨"TermSimplifier$Machine", "endWith", "(I)J"⟩, prog_5_method_11_code, 2, some .long, 9, 2, 742),
  (⟨"TermSimplifier$Machine", "valueOfBinding", "(LTermSimplifier$Binding;II)J"⟩, prog_5_method_4_code, 4, some .long, 9, 4, 749),
  (⟨"TermSimplifier$Machine", "newFunction", "(LTermSimplifier$Binding;I)J"⟩, prog_5_method_10_code, 3, some .long, 9, 3, 753),
  (⟨"TermSimplifier$Machine", "valueOfApply", "(LTermSimplifier$Binding;II)J"⟩, prog_5_method_5_code, 11, some .long, 9, 4, 758),
  (⟨"TermSimplifier$Machine", "valueOfAtom", "(LTermSimplifier$Atom;I)J"⟩, prog_5_method_8_code, 5, some .long, 9, 3, 762),
  (⟨"TermSimplifier$Machine", "intValue", "(I)J"⟩, prog_5_method_13_code, 1, some .long, 9, 1, 765),
  (⟨"TermSimplifier$Machine", "isFunction", "(J)Z"⟩, prog_5_method_12_code, 2, some .boolean, 9, 1, 769),
  (⟨"TermSimplifier$Machine", "newCell", "(IJI)I"⟩, prog_5_method_9_code, 5, some .int, 9, 4, 773),
  (⟨"TermSimplifier$Machine", "valueOfOp", "(LTermSimplifier$Binding;I)J"⟩, prog_5_method_6_code, 7, some .long, 9, 3, 777),
  (⟨"TermSimplifier$Machine", "valueOfIf", "(LTermSimplifier$Binding;II)J"⟩, prog_5_method_7_code, 7, some .long, 9, 4, 783),
  (⟨"java/lang/Math", "max", "(II)I"⟩, prog_18_method_65_code, 2, some .int, 10, 2, 202),
  (⟨"java/lang/Math", "min", "(II)I"⟩, prog_18_method_69_code, 2, some .int, 10, 2, 389),
  (⟨"java/util/AbstractCollection", "<init>", "()V"⟩, prog_24_method_1_code, 1, none, 11, 1, 219),
  (⟨"java/util/AbstractList", "<init>", "()V"⟩, prog_25_method_1_code, 1, none, 12, 1, 216),
  (⟨"java/util/ArrayList", "<init>", "()V"⟩, prog_26_method_2_code, 1, none, 13, 1, 213),
  (⟨"java/util/ArrayList", "add", "(Ljava/lang/Object;)Z"⟩, prog_26_method_25_code, 2, some .boolean, 13, 2, 338),
  (⟨"java/util/ArrayList", "add", "(Ljava/lang/Object;[Ljava/lang/Object;I)V"⟩, prog_26_method_24_code, 4, none, 13, 4, 342),
  (⟨"java/util/ArrayList", "grow", "()[Ljava/lang/Object;"⟩, prog_26_method_7_code, 1, some (.array (.object "java/lang/Object")), 13, 1, 346),
  (⟨"java/util/ArrayList", "grow", "(I)[Ljava/lang/Object;"⟩, prog_26_method_6_code, 4, some (.array (.object "java/lang/Object")), 13, 2, 350),
  (⟨"java/util/ArrayList", "size", "()I"⟩, prog_26_method_8_code, 1, some .int, 13, 1, 525),
  (⟨"java/util/ArrayList", "get", "(I)Ljava/lang/Object;"⟩, prog_26_method_20_code, 2, some (.object "java/lang/Object"), 13, 2, 529),
  (⟨"java/util/ArrayList", "elementData", "(I)Ljava/lang/Object;"⟩, prog_26_method_18_code, 2, some (.object "java/lang/Object"), 13, 2, 539),
  (⟨"java/util/ArrayList", "remove", "(I)Ljava/lang/Object;"⟩, prog_26_method_29_code, 4, some (.object "java/lang/Object"), 13, 2, 604),
  (⟨"java/util/ArrayList", "fastRemove", "([Ljava/lang/Object;I)V"⟩, prog_26_method_39_code, 4, none, 13, 3, 608),
  (⟨"java/util/ArrayList", "add", "(ILjava/lang/Object;)V"⟩, prog_26_method_26_code, 5, none, 13, 3, 633),
  (⟨"java/util/ArrayList", "rangeCheckForAdd", "(I)V"⟩, prog_26_method_45_code, 2, none, 13, 2, 637),
  (⟨"java/util/Arrays", "copyOf", "([Ljava/lang/Object;I)[Ljava/lang/Object;"⟩, prog_27_method_119_code, 2, some (.array (.object "java/lang/Object")), 14, 2, 361),
  (⟨"java/util/Arrays", "copyOf", "([Ljava/lang/Object;ILjava/lang/Class;)[Ljava/lang/Object;"⟩, prog_27_method_120_code, 4, some (.array (.object "java/lang/Object")), 14, 3, 383),
  (⟨"java/util/Objects", "checkIndex", "(II)I"⟩, prog_31_method_17_code, 2, some .int, 15, 2, 532),
  (⟨"jdk/internal/util/ArraysSupport", "newLength", "(III)I"⟩, prog_34_method_27_code, 4, some .int, 16, 3, 353),
  (⟨"jdk/internal/util/ArraysSupport", "hugeLength", "(II)I"⟩, prog_34_method_28_code, 3, some .int, 16, 2, 358),
  (⟨"jdk/internal/util/Preconditions", "checkIndex", "(IILjava/util/function/BiFunction;)I"⟩, prog_35_method_11_code, 3, some .int, 17, 3, 535),
  (⟨"TermSimplifierLaw", "convert", "(LTermSimplifier;[J)I"⟩, method_3_code, 3, some .int, 18, 2, 173),
  (⟨"TermSimplifierLaw", "pass", "(LTermSimplifier;[J)I"⟩, method_4_code, 3, some .int, 18, 2, 543),
  (⟨"TermSimplifierLaw", "simplify", "(LTermSimplifier;[J)I"⟩, method_5_code, 3, some .int, 18, 2, 663),
  (⟨"TermSimplifierLaw", "count", "(LTermSimplifier;I[J)I"⟩, method_6_code, 4, some .int, 18, 3, 671),
  (⟨"TermSimplifierLaw", "written", "(LTermSimplifier;I[J)I"⟩, method_7_code, 4, some .int, 18, 3, 695),
  (⟨"TermSimplifierLaw", "run", "(LTermSimplifier;[J)I"⟩, method_8_code, 3, some .int, 18, 2, 726),
  (⟨"TermSimplifierLaw", "ran", "(LTermSimplifier;I[J)I"⟩, method_9_code, 4, some .int, 18, 3, 786),
  (⟨"TermSimplifierLaw", "law", "([I)Z"⟩, code, 7, some .boolean, 18, 1, 0)]
def mrow (m : Nat) : MethodName × ByteArray × Nat × Option FieldType × Nat × Nat × Nat := mtab.getD m (⟨"", "", ""⟩, ByteArray.empty, 0, none, 0, 0, 0)
def mnam (m : Nat) : MethodName := (mrow m).1
def mbyt (m : Nat) : ByteArray := (mrow m).2.1
def mmax (m : Nat) : Nat := (mrow m).2.2.1
def mret (m : Nat) : Option FieldType := (mrow m).2.2.2.1
def mno (m : Nat) : Nat := (mrow m).2.2.2.2.1
def marg (m : Nat) : Nat := (mrow m).2.2.2.2.2.1
def mown (m : Nat) : String := cnm.getD (mno m) ""
end
section
def pt_0 : List (Nat × Instr × Nat) := [(0, .aload_n 0, 1), (1, .invokespecial 1, 3), (4, .aload_n 0, 1), (5, .bipush 60, 2), (7, .newarray .int, 2), (9, .putfield 7, 3), (12, .aload_n 0, 1), (13, .sipush 800, 3), (16, .newarray .int, 2), (18, .putfield 13, 3), (21, .aload_n 0, 1), (22, .sipush 800, 3), (25, .newarray .int, 2), (27, .putfield 16, 3), (30, .aload_n 0, 1), (31, .iconst 4, 1), (32, .newarray .int, 2), (34, .putfield 19, 3), (37, .aload_n 0, 1), (38, .bipush 61, 2), (40, .newarray .int, 2), (42, .putfield 22, 3), (45, .aload_n 0, 1), (46, .bipush 61, 2), (48, .newarray .int, 2), (50, .putfield 25, 3), (53, .aload_n 0, 1), (54, .bipush 61, 2), (56, .newarray .int, 2), (58, .putfield 28, 3), (61, .aload_n 0, 1), (62, .bipush 61, 2), (64, .newarray .int, 2), (66, .putfield 31, 3), (69, .aload_n 0, 1), (70, .bipush 61, 2), (72, .newarray .int, 2), (74, .putfield 34, 3), (77, .aload_n 0, 1), (78, .bipush 61, 2), (80, .newarray .int, 2), (82, .putfield 37, 3), (85, .aload_n 0, 1), (86, .bipush 10, 2), (88, .newarray .int, 2), (90, .putfield 40, 3), (93, .aload_n 0, 1), (94, .bipush 10, 2), (96, .newarray .int, 2), (98, .putfield 43, 3), (101, .aload_n 0, 1), (102, .sipush 800, 3), (105, .newarray .int, 2), (107, .putfield 46, 3), (110, .aload_n 0, 1), (111, .sipush 900, 3), (114, .newarray .int, 2), (116, .putfield 49, 3), (119, .aload_n 0, 1), (120, .sipush 900, 3), (123, .newarray .boolean, 2), (125, .putfield 52, 3), (128, .aload_n 0, 1), (129, .sipush 900, 3), (132, .newarray .int, 2), (134, .putfield 56, 3), (137, .aload_n 0, 1), (138, .sipush 900, 3), (141, .newarray .int, 2), (143, .putfield 59, 3), (146, .aload_n 0, 1), (147, .sipush 400, 3), (150, .newarray .int, 2), (152, .putfield 62, 3), (155, .aload_n 0, 1), (156, .sipush 400, 3), (159, .newarray .int, 2), (161, .putfield 65, 3), (164, .aload_n 0, 1), (165, .sipush 400, 3), (168, .newarray .int, 2), (170, .putfield 68, 3), (173, .aload_n 0, 1), (174, .bipush 14, 2), (176, .newarray .int, 2), (178, .putfield 71, 3), (181, .aload_n 0, 1), (182, .bipush 14, 2), (184, .newarray .int, 2), (186, .putfield 74, 3), (189, .aload_n 0, 1), (190, .bipush 14, 2), (192, .newarray .int, 2), (194, .putfield 77, 3), (197, .aload_n 0, 1), (198, .bipush 14, 2), (200, .newarray .int, 2), (202, .putfield 80, 3), (205, .aload_n 0, 1), (206, .iconst 4, 1), (207, .newarray .int, 2), (209, .putfield 83, 3), (212, .return_, 1)]
def pt_1 : List (Nat × Instr × Nat) := [(0, .aload_n 0, 1), (1, .getfield 86, 3), (4, .ireturn, 1)]
def pt_2 : List (Nat × Instr × Nat) := [(0, .aload_n 0, 1), (1, .iconst 0, 1), (2, .putfield 86, 3), (5, .aload_n 0, 1), (6, .getfield 90, 3), (9, .bipush 60, 2), (11, .if_icmp .ne 5, 3), (14, .iconst 0, 1), (15, .ireturn, 1), (16, .aload_n 0, 1), (17, .getfield 7, 3), (20, .aload_n 0, 1), (21, .getfield 90, 3), (24, .iload_n 1, 1), (25, .iastore, 1), (26, .aload_n 0, 1), (27, .dup, 1), (28, .getfield 90, 3), (31, .iconst 1, 1), (32, .iadd, 1), (33, .putfield 90, 3), (36, .iconst 1, 1), (37, .ireturn, 1)]
def pt_3 : List (Nat × Instr × Nat) := [(0, .aload_n 0, 1), (1, .invokevirtual 168, 3), (4, .istore_n 1, 1), (5, .aload_n 0, 1), (6, .iconst 0, 1), (7, .putfield 90, 3), (10, .aload_n 0, 1), (11, .iload_n 1, 1), (12, .ifCond .ne 7, 3), (15, .iconst 1, 1), (16, .goto 4, 3), (19, .iconst 0, 1), (20, .iload_n 1, 1), (21, .ifCond .eq 16, 3), (24, .aload_n 0, 1), (25, .getfield 115, 3), (28, .bipush 8, 2), (30, .if_icmp .le 7, 3), (33, .iconst 1, 1), (34, .goto 4, 3), (37, .iconst 0, 1), (38, .invokevirtual 171, 3), (41, .ifCond .eq 5, 3), (44, .iconst 0, 1), (45, .ireturn, 1), (46, .aload_n 0, 1), (47, .iconst 1, 1), (48, .putfield 175, 3), (51, .aload_n 0, 1), (52, .aload_n 0, 1), (53, .getfield 93, 3), (56, .putfield 179, 3), (59, .iconst 0, 1), (60, .istore_n 2, 1), (61, .iload_n 2, 1), (62, .aload_n 0, 1), (63, .getfield 93, 3), (66, .if_icmp .ge 21, 3), (69, .aload_n 0, 1), (70, .getfield 13, 3), (73, .iload_n 2, 1), (74, .aload_n 0, 1), (75, .getfield 46, 3), (78, .iload_n 2, 1), (79, .iaload, 1), (80, .iastore, 1), (81, .iinc 2 1, 3), (84, .goto (-23), 3), (87, .aload_n 0, 1), (88, .aload_n 0, 1), (89, .getfield 100, 3), (92, .putfield 182, 3), (95, .iconst 0, 1), (96, .istore_n 2, 1), (97, .iload_n 2, 1), (98, .iconst 4, 1), (99, .if_icmp .ge 16, 3), (102, .aload_n 0, 1), (103, .getfield 19, 3), (106, .iload_n 2, 1), (107, .iconst 0, 1), (108, .iastore, 1), (109, .iinc 2 1, 3), (112, .goto (-15), 3), (115, .aload_n 0, 1), (116, .invokevirtual 185, 3), (119, .ireturn, 1)]
def pt_4 : List (Nat × Instr × Nat) := [(0, .aload_n 0, 1), (1, .iconst 0, 1), (2, .putfield 109, 3), (5, .aload_n 0, 1), (6, .iconst 0, 1), (7, .putfield 126, 3), (10, .aload_n 0, 1), (11, .iconst 0, 1), (12, .putfield 112, 3), (15, .aload_n 0, 1), (16, .iconst 0, 1), (17, .putfield 115, 3), (20, .aload_n 0, 1), (21, .iconst 0, 1), (22, .putfield 93, 3), (25, .aload_n 0, 1), (26, .iconst 0, 1), (27, .putfield 100, 3), (30, .iconst 0, 1), (31, .istore_n 1, 1), (32, .iload_n 1, 1), (33, .bipush 10, 2), (35, .if_icmp .ge 16, 3), (38, .aload_n 0, 1), (39, .getfield 40, 3), (42, .iload_n 1, 1), (43, .iconst (-1), 1), (44, .iastore, 1), (45, .iinc 1 1, 3), (48, .goto (-16), 3), (51, .iconst 1, 1), (52, .istore_n 1, 1), (53, .iload_n 1, 1), (54, .ifCond .eq 57, 3), (57, .aload_n 0, 1), (58, .invokevirtual 161, 3), (61, .istore_n 2, 1), (62, .iload_n 2, 1), (63, .ifCond .ge 5, 3), (66, .iconst 0, 1), (67, .ireturn, 1), (68, .iload_n 2, 1), (69, .iconst 1, 1), (70, .if_icmp .ne 7, 3), (73, .iconst 1, 1), (74, .goto 4, 3), (77, .iconst 0, 1), (78, .istore_n 3, 1), (79, .iload_n 3, 1), (80, .ifCond .eq 18, 3), (83, .aload_n 0, 1), (84, .getfield 126, 3), (87, .ifCond .le 11, 3), (90, .aload_n 0, 1), (91, .invokevirtual 164, 3), (94, .istore_n 3, 1), (95, .goto (-16), 3), (98, .iload_n 3, 1), (99, .ifCond .ne 7, 3), (102, .iconst 1, 1), (103, .goto 4, 3), (106, .iconst 0, 1), (107, .istore_n 1, 1), (108, .goto (-55), 3), (111, .aload_n 0, 1), (112, .bipush 9, 2), (114, .invokevirtual 96, 3), (117, .aload_n 0, 1), (118, .aload_n 0, 1), (119, .getfield 103, 3), (122, .aload_n 0, 1), (123, .getfield 106, 3), (126, .invokevirtual 139, 3), (129, .aload_n 0, 1), (130, .getfield 109, 3), (133, .aload_n 0, 1), (134, .getfield 90, 3), (137, .if_icmp .ne 7, 3), (140, .iconst 1, 1), (141, .goto 4, 3), (144, .iconst 0, 1), (145, .ireturn, 1)]
def pt_5 : List (Nat × Instr × Nat) := [(0, .aload_n 0, 1), (1, .getfield 109, 3), (4, .aload_n 0, 1), (5, .getfield 90, 3), (8, .if_icmp .lt 5, 3), (11, .iconst (-1), 1), (12, .ireturn, 1), (13, .aload_n 0, 1), (14, .invokevirtual 118, 3), (17, .istore_n 1, 1), (18, .iload_n 1, 1), (19, .ifCond .eq 8, 3), (22, .iload_n 1, 1), (23, .iconst 1, 1), (24, .if_icmp .ne 72, 3), (27, .aload_n 0, 1), (28, .getfield 109, 3), (31, .aload_n 0, 1), (32, .getfield 90, 3), (35, .if_icmp .lt 5, 3), (38, .iconst (-1), 1), (39, .ireturn, 1), (40, .aload_n 0, 1), (41, .invokevirtual 118, 3), (44, .istore_n 2, 1), (45, .iload_n 1, 1), (46, .ifCond .ne 11, 3), (49, .aload_n 0, 1), (50, .iconst 0, 1), (51, .iload_n 2, 1), (52, .invokevirtual 122, 3), (55, .iconst 1, 1), (56, .ireturn, 1), (57, .iload_n 2, 1), (58, .ifCond .lt 18, 3), (61, .iload_n 2, 1), (62, .bipush 9, 2), (64, .if_icmp .gt 12, 3), (67, .aload_n 0, 1), (68, .getfield 40, 3), (71, .iload_n 2, 1), (72, .iaload, 1), (73, .ifCond .ge 5, 3), (76, .iconst (-1), 1), (77, .ireturn, 1), (78, .aload_n 0, 1), (79, .aload_n 0, 1), (80, .getfield 40, 3), (83, .iload_n 2, 1), (84, .iaload, 1), (85, .aload_n 0, 1), (86, .getfield 43, 3), (89, .iload_n 2, 1), (90, .iaload, 1), (91, .invokevirtual 122, 3), (94, .iconst 1, 1), (95, .ireturn, 1), (96, .iload_n 1, 1), (97, .ifCond .lt 9, 3), (100, .iload_n 1, 1), (101, .bipush 6, 2), (103, .if_icmp .le 5, 3), (106, .iconst (-1), 1), (107, .ireturn, 1), (108, .aload_n 0, 1), (109, .dup, 1), (110, .getfield 126, 3), (113, .iconst 1, 1), (114, .iadd, 1), (115, .putfield 126, 3), (118, .aload_n 0, 1), (119, .getfield 22, 3), (122, .aload_n 0, 1), (123, .getfield 126, 3), (126, .iload_n 1, 1), (127, .iastore, 1), (128, .aload_n 0, 1), (129, .getfield 25, 3), (132, .aload_n 0, 1), (133, .getfield 126, 3), (136, .iconst 0, 1), (137, .iastore, 1), (138, .iload_n 1, 1), (139, .iconst 2, 1), (140, .if_icmp .eq 13, 3), (143, .iload_n 1, 1), (144, .iconst 4, 1), (145, .if_icmp .eq 8, 3), (148, .iload_n 1, 1), (149, .iconst 5, 1), (150, .if_icmp .ne 7, 3), (153, .iconst 1, 1), (154, .goto 4, 3), (157, .iconst 0, 1), (158, .istore_n 2, 1), (159, .iload_n 2, 1), (160, .ifCond .eq 16, 3), (163, .aload_n 0, 1), (164, .getfield 109, 3), (167, .aload_n 0, 1), (168, .getfield 90, 3), (171, .if_icmp .lt 5, 3), (174, .iconst (-1), 1), (175, .ireturn, 1), (176, .aload_n 0, 1), (177, .getfield 28, 3), (180, .aload_n 0, 1), (181, .getfield 126, 3), (184, .iload_n 2, 1), (185, .ifCond .eq 10, 3), (188, .aload_n 0, 1), (189, .invokevirtual 118, 3), (192, .goto 4, 3), (195, .iconst 0, 1), (196, .iastore, 1), (197, .iload_n 2, 1), (198, .ifCond .eq 40, 3), (201, .aload_n 0, 1), (202, .getfield 28, 3), (205, .aload_n 0, 1), (206, .getfield 126, 3), (209, .iaload, 1), (210, .ifCond .lt 26, 3), (213, .aload_n 0, 1), (214, .getfield 28, 3), (217, .aload_n 0, 1), (218, .getfield 126, 3), (221, .iaload, 1), (222, .iload_n 1, 1), (223, .iconst 5, 1), (224, .if_icmp .ne 7, 3), (227, .iconst 4, 1), (228, .goto 5, 3), (231, .bipush 9, 2), (233, .if_icmp .le 5, 3), (236, .iconst (-1), 1), (237, .ireturn, 1), (238, .iload_n 1, 1), (239, .iconst 2, 1), (240, .if_icmp .ne 56, 3), (243, .aload_n 0, 1), (244, .invokevirtual 129, 3), (247, .istore_n 3, 1), (248, .aload_n 0, 1), (249, .getfield 31, 3), (252, .aload_n 0, 1), (253, .getfield 126, 3), (256, .aload_n 0, 1), (257, .getfield 93, 3), (260, .iastore, 1), (261, .aload_n 0, 1), (262, .bipush 8, 2), (264, .invokevirtual 96, 3), (267, .aload_n 0, 1), (268, .iconst (-1), 1), (269, .invokevirtual 96, 3), (272, .aload_n 0, 1), (273, .iconst 2, 1), (274, .invokevirtual 96, 3), (277, .aload_n 0, 1), (278, .iload_n 3, 1), (279, .invokevirtual 96, 3), (282, .aload_n 0, 1), (283, .invokevirtual 132, 3), (286, .aload_n 0, 1), (287, .aload_n 0, 1), (288, .getfield 126, 3), (291, .iconst 1, 1), (292, .iload_n 3, 1), (293, .invokevirtual 135, 3), (296, .iconst 0, 1), (297, .ireturn, 1)]
def pt_6 : List (Nat × Instr × Nat) := [(0, .aload_n 0, 1), (1, .dup, 1), (2, .getfield 109, 3), (5, .iconst 1, 1), (6, .iadd, 1), (7, .putfield 109, 3), (10, .aload_n 0, 1), (11, .getfield 109, 3), (14, .aload_n 0, 1), (15, .getfield 90, 3), (18, .if_icmp .gt 17, 3), (21, .aload_n 0, 1), (22, .getfield 7, 3), (25, .aload_n 0, 1), (26, .getfield 109, 3), (29, .iconst 1, 1), (30, .isub, 1), (31, .iaload, 1), (32, .goto 4, 3), (35, .iconst (-1), 1), (36, .ireturn, 1)]
def pt_7 : List (Nat × Instr × Nat) := [(0, .aload_n 0, 1), (1, .iload_n 1, 1), (2, .putfield 103, 3), (5, .aload_n 0, 1), (6, .iload_n 2, 1), (7, .putfield 106, 3), (10, .return_, 1)]
def pt_8 : List (Nat × Instr × Nat) := [(0, .aload_n 0, 1), (1, .dup, 1), (2, .getfield 100, 3), (5, .iconst 1, 1), (6, .iadd, 1), (7, .putfield 100, 3), (10, .aload_n 0, 1), (11, .getfield 100, 3), (14, .iconst 1, 1), (15, .isub, 1), (16, .ireturn, 1)]
def pt_9 : List (Nat × Instr × Nat) := [(0, .aload_n 0, 1), (1, .getfield 46, 3), (4, .aload_n 0, 1), (5, .getfield 93, 3), (8, .iload_n 1, 1), (9, .iastore, 1), (10, .aload_n 0, 1), (11, .dup, 1), (12, .getfield 93, 3), (15, .iconst 1, 1), (16, .iadd, 1), (17, .putfield 93, 3), (20, .return_, 1)]
def pt_10 : List (Nat × Instr × Nat) := [(0, .aload_n 0, 1), (1, .dup, 1), (2, .getfield 112, 3), (5, .iconst 1, 1), (6, .iadd, 1), (7, .putfield 112, 3), (10, .aload_n 0, 1), (11, .aload_n 0, 1), (12, .getfield 112, 3), (15, .aload_n 0, 1), (16, .getfield 115, 3), (19, .if_icmp .le 10, 3), (22, .aload_n 0, 1), (23, .getfield 112, 3), (26, .goto 7, 3), (29, .aload_n 0, 1), (30, .getfield 115, 3), (33, .putfield 115, 3), (36, .return_, 1)]
def pt_11 : List (Nat × Instr × Nat) := [(0, .aload_n 0, 1), (1, .getfield 28, 3), (4, .iload_n 1, 1), (5, .iaload, 1), (6, .istore 4, 2), (8, .aload_n 0, 1), (9, .getfield 34, 3), (12, .iload_n 1, 1), (13, .aload_n 0, 1), (14, .getfield 40, 3), (17, .iload 4, 2), (19, .iaload, 1), (20, .iastore, 1), (21, .aload_n 0, 1), (22, .getfield 37, 3), (25, .iload_n 1, 1), (26, .aload_n 0, 1), (27, .getfield 43, 3), (30, .iload 4, 2), (32, .iaload, 1), (33, .iastore, 1), (34, .aload_n 0, 1), (35, .getfield 40, 3), (38, .iload 4, 2), (40, .iload_n 2, 1), (41, .iastore, 1), (42, .aload_n 0, 1), (43, .getfield 43, 3), (46, .iload 4, 2), (48, .iload_n 3, 1), (49, .iastore, 1), (50, .return_, 1)]
def pt_12 : List (Nat × Instr × Nat) := [(0, .aload_n 0, 1), (1, .getfield 126, 3), (4, .istore_n 1, 1), (5, .aload_n 0, 1), (6, .getfield 25, 3), (9, .iload_n 1, 1), (10, .iaload, 1), (11, .istore_n 2, 1), (12, .aload_n 0, 1), (13, .getfield 25, 3), (16, .iload_n 1, 1), (17, .dup2, 1), (18, .iaload, 1), (19, .iconst 1, 1), (20, .iadd, 1), (21, .iastore, 1), (22, .aload_n 0, 1), (23, .getfield 22, 3), (26, .iload_n 1, 1), (27, .iaload, 1), (28, .tableswitch 95 2 6 #[36, 95, 52, 95, 88], 36), (64, .aload_n 0, 1), (65, .invokevirtual 142, 3), (68, .aload_n 0, 1), (69, .iload_n 1, 1), (70, .invokevirtual 145, 3), (73, .aload_n 0, 1), (74, .iload_n 1, 1), (75, .invokevirtual 148, 3), (78, .iconst 1, 1), (79, .ireturn, 1), (80, .iload_n 2, 1), (81, .ifCond .ne 18, 3), (84, .aload_n 0, 1), (85, .iload_n 1, 1), (86, .aload_n 0, 1), (87, .getfield 103, 3), (90, .aload_n 0, 1), (91, .getfield 106, 3), (94, .invokevirtual 135, 3), (97, .iconst 0, 1), (98, .ireturn, 1), (99, .aload_n 0, 1), (100, .iload_n 1, 1), (101, .invokevirtual 145, 3), (104, .aload_n 0, 1), (105, .dup, 1), (106, .getfield 126, 3), (109, .iconst 1, 1), (110, .isub, 1), (111, .putfield 126, 3), (114, .iconst 1, 1), (115, .ireturn, 1), (116, .aload_n 0, 1), (117, .iload_n 1, 1), (118, .iload_n 2, 1), (119, .invokevirtual 151, 3), (122, .ireturn, 1), (123, .aload_n 0, 1), (124, .iload_n 1, 1), (125, .iload_n 2, 1), (126, .invokevirtual 155, 3), (129, .ireturn, 1)]
def pt_13 : List (Nat × Instr × Nat) := [(0, .aload_n 0, 1), (1, .bipush 9, 2), (3, .invokevirtual 96, 3), (6, .aload_n 0, 1), (7, .aload_n 0, 1), (8, .getfield 103, 3), (11, .aload_n 0, 1), (12, .getfield 106, 3), (15, .invokevirtual 139, 3), (18, .return_, 1)]
def pt_14 : List (Nat × Instr × Nat) := [(0, .aload_n 0, 1), (1, .iload_n 1, 1), (2, .invokevirtual 96, 3), (5, .aload_n 0, 1), (6, .iload_n 2, 1), (7, .invokevirtual 96, 3), (10, .return_, 1)]
def pt_15 : List (Nat × Instr × Nat) := [(0, .aload_n 0, 1), (1, .getfield 40, 3), (4, .aload_n 0, 1), (5, .getfield 28, 3), (8, .iload_n 1, 1), (9, .iaload, 1), (10, .aload_n 0, 1), (11, .getfield 34, 3), (14, .iload_n 1, 1), (15, .iaload, 1), (16, .iastore, 1), (17, .aload_n 0, 1), (18, .getfield 43, 3), (21, .aload_n 0, 1), (22, .getfield 28, 3), (25, .iload_n 1, 1), (26, .iaload, 1), (27, .aload_n 0, 1), (28, .getfield 37, 3), (31, .iload_n 1, 1), (32, .iaload, 1), (33, .iastore, 1), (34, .return_, 1)]
def pt_16 : List (Nat × Instr × Nat) := [(0, .aload_n 0, 1), (1, .dup, 1), (2, .getfield 112, 3), (5, .iconst 1, 1), (6, .isub, 1), (7, .putfield 112, 3), (10, .aload_n 0, 1), (11, .invokevirtual 129, 3), (14, .istore_n 2, 1), (15, .aload_n 0, 1), (16, .getfield 46, 3), (19, .aload_n 0, 1), (20, .getfield 31, 3), (23, .iload_n 1, 1), (24, .iaload, 1), (25, .iconst 1, 1), (26, .iadd, 1), (27, .iload_n 2, 1), (28, .iastore, 1), (29, .aload_n 0, 1), (30, .iconst 1, 1), (31, .iload_n 2, 1), (32, .invokevirtual 122, 3), (35, .aload_n 0, 1), (36, .dup, 1), (37, .getfield 126, 3), (40, .iconst 1, 1), (41, .isub, 1), (42, .putfield 126, 3), (45, .return_, 1)]
def pt_17 : List (Nat × Instr × Nat) := [(0, .iload_n 2, 1), (1, .ifCond .ne 38, 3), (4, .aload_n 0, 1), (5, .getfield 31, 3), (8, .iload_n 1, 1), (9, .aload_n 0, 1), (10, .getfield 93, 3), (13, .iastore, 1), (14, .aload_n 0, 1), (15, .iconst (-1), 1), (16, .bipush 6, 2), (18, .invokevirtual 158, 3), (21, .aload_n 0, 1), (22, .aload_n 0, 1), (23, .getfield 103, 3), (26, .aload_n 0, 1), (27, .getfield 106, 3), (30, .invokevirtual 139, 3), (33, .aload_n 0, 1), (34, .invokevirtual 132, 3), (37, .iconst 0, 1), (38, .ireturn, 1), (39, .aload_n 0, 1), (40, .invokevirtual 142, 3), (43, .iload_n 2, 1), (44, .iconst 1, 1), (45, .if_icmp .ne 5, 3), (48, .iconst 0, 1), (49, .ireturn, 1), (50, .aload_n 0, 1), (51, .iload_n 1, 1), (52, .invokevirtual 148, 3), (55, .iconst 1, 1), (56, .ireturn, 1)]
def pt_18 : List (Nat × Instr × Nat) := [(0, .aload_n 0, 1), (1, .bipush 8, 2), (3, .invokevirtual 96, 3), (6, .aload_n 0, 1), (7, .iload_n 1, 1), (8, .invokevirtual 96, 3), (11, .aload_n 0, 1), (12, .iload_n 2, 1), (13, .invokevirtual 96, 3), (16, .return_, 1)]
def pt_19 : List (Nat × Instr × Nat) := [(0, .iload_n 2, 1), (1, .ifCond .ne 25, 3), (4, .aload_n 0, 1), (5, .getfield 34, 3), (8, .iload_n 1, 1), (9, .aload_n 0, 1), (10, .getfield 103, 3), (13, .iastore, 1), (14, .aload_n 0, 1), (15, .getfield 37, 3), (18, .iload_n 1, 1), (19, .aload_n 0, 1), (20, .getfield 106, 3), (23, .iastore, 1), (24, .iconst 0, 1), (25, .ireturn, 1), (26, .aload_n 0, 1), (27, .invokevirtual 129, 3), (30, .istore_n 3, 1), (31, .aload_n 0, 1), (32, .iload_n 3, 1), (33, .aload_n 0, 1), (34, .getfield 22, 3), (37, .iload_n 1, 1), (38, .iaload, 1), (39, .invokevirtual 158, 3), (42, .aload_n 0, 1), (43, .getfield 22, 3), (46, .iload_n 1, 1), (47, .iaload, 1), (48, .iconst 5, 1), (49, .if_icmp .ne 13, 3), (52, .aload_n 0, 1), (53, .aload_n 0, 1), (54, .getfield 28, 3), (57, .iload_n 1, 1), (58, .iaload, 1), (59, .invokevirtual 96, 3), (62, .aload_n 0, 1), (63, .aload_n 0, 1), (64, .getfield 34, 3), (67, .iload_n 1, 1), (68, .iaload, 1), (69, .aload_n 0, 1), (70, .getfield 37, 3), (73, .iload_n 1, 1), (74, .iaload, 1), (75, .invokevirtual 139, 3), (78, .aload_n 0, 1), (79, .aload_n 0, 1), (80, .getfield 103, 3), (83, .aload_n 0, 1), (84, .getfield 106, 3), (87, .invokevirtual 139, 3), (90, .aload_n 0, 1), (91, .iconst 1, 1), (92, .iload_n 3, 1), (93, .invokevirtual 122, 3), (96, .aload_n 0, 1), (97, .dup, 1), (98, .getfield 126, 3), (101, .iconst 1, 1), (102, .isub, 1), (103, .putfield 126, 3), (106, .iconst 1, 1), (107, .ireturn, 1)]
def pt_20 : List (Nat × Instr × Nat) := [(0, .aload_n 0, 1), (1, .iload_n 1, 1), (2, .ifCond .eq 7, 3), (5, .iconst 1, 1), (6, .goto 12, 3), (9, .iload_n 2, 1), (10, .ifCond .eq 7, 3), (13, .iconst 2, 1), (14, .goto 4, 3), (17, .iconst 0, 1), (18, .putfield 86, 3), (21, .aload_n 0, 1), (22, .getfield 86, 3), (25, .ifCond .le 7, 3), (28, .iconst 1, 1), (29, .goto 4, 3), (32, .iconst 0, 1), (33, .ireturn, 1)]
def pt_21 : List (Nat × Instr × Nat) := [(0, .iconst 0, 1), (1, .istore_n 1, 1), (2, .iconst 0, 1), (3, .istore_n 2, 1), (4, .iload_n 2, 1), (5, .aload_n 0, 1), (6, .getfield 179, 3), (9, .if_icmp .ge 33, 3), (12, .iload_n 1, 1), (13, .aload_n 0, 1), (14, .getfield 13, 3), (17, .iload_n 2, 1), (18, .iaload, 1), (19, .bipush 8, 2), (21, .if_icmp .ne 7, 3), (24, .iconst 1, 1), (25, .goto 4, 3), (28, .iconst 0, 1), (29, .iadd, 1), (30, .istore_n 1, 1), (31, .iload_n 2, 1), (32, .aload_n 0, 1), (33, .iload_n 2, 1), (34, .invokevirtual 188, 3), (37, .iadd, 1), (38, .istore_n 2, 1), (39, .goto (-35), 3), (42, .iload_n 1, 1), (43, .ireturn, 1)]
def pt_22 : List (Nat × Instr × Nat) := [(0, .aload_n 0, 1), (1, .getfield 13, 3), (4, .iload_n 1, 1), (5, .iaload, 1), (6, .bipush 9, 2), (8, .if_icmp .ne 5, 3), (11, .iconst 3, 1), (12, .ireturn, 1), (13, .aload_n 0, 1), (14, .getfield 13, 3), (17, .iload_n 1, 1), (18, .iconst 2, 1), (19, .iadd, 1), (20, .iaload, 1), (21, .istore_n 2, 1), (22, .iload_n 2, 1), (23, .iconst 2, 1), (24, .if_icmp .ne 7, 3), (27, .iconst 4, 1), (28, .goto 24, 3), (31, .iload_n 2, 1), (32, .iconst 3, 1), (33, .if_icmp .ne 8, 3), (36, .bipush 7, 2), (38, .goto 14, 3), (41, .iload_n 2, 1), (42, .iconst 5, 1), (43, .if_icmp .ne 8, 3), (46, .bipush 8, 2), (48, .goto 4, 3), (51, .iconst 5, 1), (52, .ireturn, 1)]
def pt_23 : List (Nat × Instr × Nat) := [(0, .aload_n 0, 1), (1, .aload_n 0, 1), (2, .getfield 175, 3), (5, .ifCond .ne 7, 3), (8, .iconst 1, 1), (9, .goto 4, 3), (12, .iconst 0, 1), (13, .iconst 0, 1), (14, .invokevirtual 171, 3), (17, .ifCond .eq 7, 3), (20, .iconst 0, 1), (21, .goto 7, 3), (24, .aload_n 0, 1), (25, .invokevirtual 235, 3), (28, .ireturn, 1)]
def pt_24 : List (Nat × Instr × Nat) := [(0, .iconst 0, 1), (1, .istore_n 1, 1), (2, .iconst 0, 1), (3, .istore_n 2, 1), (4, .iload_n 2, 1), (5, .aload_n 0, 1), (6, .getfield 179, 3), (9, .if_icmp .ge 55, 3), (12, .aload_n 0, 1), (13, .getfield 13, 3), (16, .iload_n 2, 1), (17, .iaload, 1), (18, .bipush 8, 2), (20, .if_icmp .ne 11, 3), (23, .aload_n 0, 1), (24, .iload_n 2, 1), (25, .invokevirtual 232, 3), (28, .goto 4, 3), (31, .iconst (-1), 1), (32, .istore_n 3, 1), (33, .iload_n 1, 1), (34, .iload_n 3, 1), (35, .ifCond .ge 7, 3), (38, .iconst 0, 1), (39, .goto 4, 3), (42, .iconst 1, 1), (43, .iadd, 1), (44, .istore_n 1, 1), (45, .iload_n 3, 1), (46, .ifCond .ge 13, 3), (49, .iload_n 2, 1), (50, .aload_n 0, 1), (51, .iload_n 2, 1), (52, .invokevirtual 188, 3), (55, .iadd, 1), (56, .goto 4, 3), (59, .iload_n 3, 1), (60, .istore_n 2, 1), (61, .goto (-57), 3), (64, .iload_n 1, 1), (65, .ireturn, 1)]
def pt_25 : List (Nat × Instr × Nat) := [(0, .aload_n 0, 1), (1, .getfield 13, 3), (4, .iload_n 1, 1), (5, .iconst 2, 1), (6, .iadd, 1), (7, .iaload, 1), (8, .tableswitch 50 3 6 #[44, 50, 32, 38], 32), (40, .aload_n 0, 1), (41, .iload_n 1, 1), (42, .invokevirtual 220, 3), (45, .ireturn, 1), (46, .aload_n 0, 1), (47, .iload_n 1, 1), (48, .invokevirtual 223, 3), (51, .ireturn, 1), (52, .aload_n 0, 1), (53, .iload_n 1, 1), (54, .invokevirtual 226, 3), (57, .ireturn, 1), (58, .aload_n 0, 1), (59, .iload_n 1, 1), (60, .invokevirtual 229, 3), (63, .ireturn, 1)]
def pt_26 : List (Nat × Instr × Nat) := [(0, .aload_n 0, 1), (1, .getfield 13, 3), (4, .iload_n 1, 1), (5, .iconst 3, 1), (6, .iadd, 1), (7, .iaload, 1), (8, .istore_n 2, 1), (9, .aload_n 0, 1), (10, .getfield 13, 3), (13, .iload_n 1, 1), (14, .iconst 4, 1), (15, .iadd, 1), (16, .iaload, 1), (17, .ifCond .ne 32, 3), (20, .aload_n 0, 1), (21, .getfield 13, 3), (24, .iload_n 1, 1), (25, .bipush 6, 2), (27, .iadd, 1), (28, .iaload, 1), (29, .ifCond .ne 20, 3), (32, .iload_n 2, 1), (33, .iconst 3, 1), (34, .if_icmp .ne 17, 3), (37, .aload_n 0, 1), (38, .getfield 13, 3), (41, .iload_n 1, 1), (42, .bipush 7, 2), (44, .iadd, 1), (45, .iaload, 1), (46, .ifCond .ne 5, 3), (49, .iconst (-1), 1), (50, .ireturn, 1), (51, .aload_n 0, 1), (52, .getfield 13, 3), (55, .iload_n 1, 1), (56, .iconst 1, 1), (57, .iadd, 1), (58, .iaload, 1), (59, .istore_n 3, 1), (60, .iload_n 2, 1), (61, .aload_n 0, 1), (62, .getfield 13, 3), (65, .iload_n 1, 1), (66, .iconst 5, 1), (67, .iadd, 1), (68, .iaload, 1), (69, .aload_n 0, 1), (70, .getfield 13, 3), (73, .iload_n 1, 1), (74, .bipush 7, 2), (76, .iadd, 1), (77, .iaload, 1), (78, .invokestatic 198, 3), (81, .istore 4, 2), (83, .aload_n 0, 1), (84, .iload_n 1, 1), (85, .iload_n 1, 1), (86, .bipush 8, 2), (88, .iadd, 1), (89, .invokevirtual 202, 3), (92, .aload_n 0, 1), (93, .iload_n 3, 1), (94, .iconst 0, 1), (95, .iload 4, 2), (97, .invokevirtual 205, 3), (100, .aload_n 0, 1), (101, .getfield 19, 3), (104, .iconst 0, 1), (105, .dup2, 1), (106, .iaload, 1), (107, .iconst 1, 1), (108, .iadd, 1), (109, .iastore, 1), (110, .iload_n 1, 1), (111, .ireturn, 1)]
def pt_27 : List (Nat × Instr × Nat) := [(0, .iload_n 0, 1), (1, .tableswitch 47 0 3 #[31, 35, 39, 43], 31), (32, .iload_n 1, 1), (33, .iload_n 2, 1), (34, .iadd, 1), (35, .ireturn, 1), (36, .iload_n 1, 1), (37, .iload_n 2, 1), (38, .isub, 1), (39, .ireturn, 1), (40, .iload_n 1, 1), (41, .iload_n 2, 1), (42, .imul, 1), (43, .ireturn, 1), (44, .iload_n 1, 1), (45, .iload_n 2, 1), (46, .idiv, 1), (47, .ireturn, 1), (48, .iload_n 1, 1), (49, .iload_n 2, 1), (50, .if_icmp .ge 7, 3), (53, .iconst 1, 1), (54, .goto 4, 3), (57, .iconst 0, 1), (58, .ireturn, 1)]
def pt_28 : List (Nat × Instr × Nat) := [(0, .iload_n 2, 1), (1, .istore_n 3, 1), (2, .iload_n 3, 1), (3, .aload_n 0, 1), (4, .getfield 179, 3), (7, .if_icmp .ge 25, 3), (10, .aload_n 0, 1), (11, .getfield 13, 3), (14, .iload_n 1, 1), (15, .iload_n 3, 1), (16, .iadd, 1), (17, .iload_n 2, 1), (18, .isub, 1), (19, .aload_n 0, 1), (20, .getfield 13, 3), (23, .iload_n 3, 1), (24, .iaload, 1), (25, .iastore, 1), (26, .iinc 3 1, 3), (29, .goto (-27), 3), (32, .aload_n 0, 1), (33, .dup, 1), (34, .getfield 179, 3), (37, .iload_n 2, 1), (38, .iload_n 1, 1), (39, .isub, 1), (40, .isub, 1), (41, .putfield 179, 3), (44, .return_, 1)]
def pt_29 : List (Nat × Instr × Nat) := [(0, .iconst 0, 1), (1, .istore 4, 2), (3, .iload 4, 2), (5, .aload_n 0, 1), (6, .getfield 179, 3), (9, .if_icmp .ge 92, 3), (12, .iconst 0, 1), (13, .istore 5, 2), (15, .iload 5, 2), (17, .aload_n 0, 1), (18, .iload 4, 2), (20, .invokevirtual 192, 3), (23, .if_icmp .ge 64, 3), (26, .aload_n 0, 1), (27, .iload 4, 2), (29, .invokevirtual 195, 3), (32, .iconst 2, 1), (33, .iload 5, 2), (35, .imul, 1), (36, .iadd, 1), (37, .istore 6, 2), (39, .aload_n 0, 1), (40, .getfield 13, 3), (43, .iload 6, 2), (45, .iaload, 1), (46, .iconst 1, 1), (47, .if_icmp .ne 34, 3), (50, .aload_n 0, 1), (51, .getfield 13, 3), (54, .iload 6, 2), (56, .iconst 1, 1), (57, .iadd, 1), (58, .iaload, 1), (59, .iload_n 1, 1), (60, .if_icmp .ne 21, 3), (63, .aload_n 0, 1), (64, .getfield 13, 3), (67, .iload 6, 2), (69, .iload_n 2, 1), (70, .iastore, 1), (71, .aload_n 0, 1), (72, .getfield 13, 3), (75, .iload 6, 2), (77, .iconst 1, 1), (78, .iadd, 1), (79, .iload_n 3, 1), (80, .iastore, 1), (81, .iinc 5 1, 3), (84, .goto (-69), 3), (87, .iload 4, 2), (89, .aload_n 0, 1), (90, .iload 4, 2), (92, .invokevirtual 188, 3), (95, .iadd, 1), (96, .istore 4, 2), (98, .goto (-95), 3), (101, .return_, 1)]
def pt_30 : List (Nat × Instr × Nat) := [(0, .aload_n 0, 1), (1, .getfield 13, 3), (4, .iload_n 1, 1), (5, .iaload, 1), (6, .bipush 9, 2), (8, .if_icmp .ne 5, 3), (11, .iconst 1, 1), (12, .ireturn, 1), (13, .aload_n 0, 1), (14, .getfield 13, 3), (17, .iload_n 1, 1), (18, .iconst 2, 1), (19, .iadd, 1), (20, .iaload, 1), (21, .istore_n 2, 1), (22, .iload_n 2, 1), (23, .iconst 2, 1), (24, .if_icmp .ne 7, 3), (27, .iconst 0, 1), (28, .goto 14, 3), (31, .iload_n 2, 1), (32, .bipush 6, 2), (34, .if_icmp .ne 7, 3), (37, .iconst 1, 1), (38, .goto 4, 3), (41, .iconst 2, 1), (42, .ireturn, 1)]
def pt_31 : List (Nat × Instr × Nat) := [(0, .aload_n 0, 1), (1, .getfield 13, 3), (4, .iload_n 1, 1), (5, .iaload, 1), (6, .bipush 9, 2), (8, .if_icmp .ne 9, 3), (11, .iload_n 1, 1), (12, .iconst 1, 1), (13, .iadd, 1), (14, .goto 24, 3), (17, .aload_n 0, 1), (18, .getfield 13, 3), (21, .iload_n 1, 1), (22, .iconst 2, 1), (23, .iadd, 1), (24, .iaload, 1), (25, .iconst 5, 1), (26, .if_icmp .ne 9, 3), (29, .iload_n 1, 1), (30, .iconst 4, 1), (31, .iadd, 1), (32, .goto 6, 3), (35, .iload_n 1, 1), (36, .iconst 3, 1), (37, .iadd, 1), (38, .ireturn, 1)]
def pt_32 : List (Nat × Instr × Nat) := [(0, .aload_n 0, 1), (1, .getfield 13, 3), (4, .iload_n 1, 1), (5, .iconst 3, 1), (6, .iadd, 1), (7, .iaload, 1), (8, .ifCond .eq 5, 3), (11, .iconst (-1), 1), (12, .ireturn, 1), (13, .aload_n 0, 1), (14, .getfield 13, 3), (17, .iload_n 1, 1), (18, .iconst 1, 1), (19, .iadd, 1), (20, .iaload, 1), (21, .istore_n 2, 1), (22, .aload_n 0, 1), (23, .iload_n 1, 1), (24, .iconst 5, 1), (25, .iadd, 1), (26, .invokevirtual 208, 3), (29, .istore_n 3, 1), (30, .aload_n 0, 1), (31, .iload_n 3, 1), (32, .iconst 3, 1), (33, .iadd, 1), (34, .invokevirtual 208, 3), (37, .istore 4, 2), (39, .aload_n 0, 1), (40, .getfield 13, 3), (43, .iload_n 1, 1), (44, .iconst 4, 1), (45, .iadd, 1), (46, .iaload, 1), (47, .ifCond .ne 7, 3), (50, .iconst 1, 1), (51, .goto 4, 3), (54, .iconst 0, 1), (55, .istore 5, 2), (57, .iload 5, 2), (59, .ifCond .eq 9, 3), (62, .iload_n 3, 1), (63, .iconst 3, 1), (64, .iadd, 1), (65, .goto 6, 3), (68, .iload_n 1, 1), (69, .iconst 5, 1), (70, .iadd, 1), (71, .istore 6, 2), (73, .iload 5, 2), (75, .ifCond .eq 8, 3), (78, .iload 4, 2), (80, .goto 4, 3), (83, .iload_n 3, 1), (84, .istore 7, 2), (86, .iload 6, 2), (88, .istore 8, 2), (90, .iload 8, 2), (92, .iload 7, 2), (94, .if_icmp .ge 26, 3), (97, .aload_n 0, 1), (98, .getfield 16, 3), (101, .iload 8, 2), (103, .iload 6, 2), (105, .isub, 1), (106, .aload_n 0, 1), (107, .getfield 13, 3), (110, .iload 8, 2), (112, .iaload, 1), (113, .iastore, 1), (114, .iinc 8 1, 3), (117, .goto (-27), 3), (120, .aload_n 0, 1), (121, .getfield 13, 3), (124, .iload 7, 2), (126, .iconst 1, 1), (127, .iadd, 1), (128, .iaload, 1), (129, .istore 8, 2), (131, .aload_n 0, 1), (132, .getfield 13, 3), (135, .iload 7, 2), (137, .iconst 2, 1), (138, .iadd, 1), (139, .iaload, 1), (140, .istore 9, 2), (142, .aload_n 0, 1), (143, .iload_n 1, 1), (144, .iload 4, 2), (146, .iconst 3, 1), (147, .iadd, 1), (148, .invokevirtual 202, 3), (151, .aload_n 0, 1), (152, .iload_n 1, 1), (153, .iload 7, 2), (155, .iload 6, 2), (157, .isub, 1), (158, .invokevirtual 211, 3), (161, .aload_n 0, 1), (162, .iload_n 2, 1), (163, .iload 8, 2), (165, .iload 9, 2), (167, .invokevirtual 205, 3), (170, .aload_n 0, 1), (171, .getfield 19, 3), (174, .iconst 1, 1), (175, .dup2, 1), (176, .iaload, 1), (177, .iconst 1, 1), (178, .iadd, 1), (179, .iastore, 1), (180, .iload_n 1, 1), (181, .ireturn, 1)]
def pt_33 : List (Nat × Instr × Nat) := [(0, .iconst 1, 1), (1, .istore_n 2, 1), (2, .iload_n 1, 1), (3, .istore_n 3, 1), (4, .iconst 0, 1), (5, .istore 4, 2), (7, .iload 4, 2), (9, .sipush 800, 3), (12, .if_icmp .ge 74, 3), (15, .aload_n 0, 1), (16, .getfield 13, 3), (19, .iload_n 3, 1), (20, .iaload, 1), (21, .bipush 9, 2), (23, .if_icmp .ne 12, 3), (26, .iinc 2 (-1), 3), (29, .iload_n 2, 1), (30, .ifCond .ne 42, 3), (33, .iload_n 3, 1), (34, .ireturn, 1), (35, .iload_n 2, 1), (36, .aload_n 0, 1), (37, .getfield 13, 3), (40, .iload_n 3, 1), (41, .iconst 2, 1), (42, .iadd, 1), (43, .iaload, 1), (44, .iconst 2, 1), (45, .if_icmp .ne 7, 3), (48, .iconst 1, 1), (49, .goto 21, 3), (52, .aload_n 0, 1), (53, .getfield 13, 3), (56, .iload_n 3, 1), (57, .iconst 2, 1), (58, .iadd, 1), (59, .iaload, 1), (60, .bipush 6, 2), (62, .if_icmp .ne 7, 3), (65, .iconst 2, 1), (66, .goto 4, 3), (69, .iconst 0, 1), (70, .iadd, 1), (71, .istore_n 2, 1), (72, .iload_n 3, 1), (73, .aload_n 0, 1), (74, .iload_n 3, 1), (75, .invokevirtual 188, 3), (78, .iadd, 1), (79, .istore_n 3, 1), (80, .iinc 4 1, 3), (83, .goto (-76), 3), (86, .iload_n 3, 1), (87, .ireturn, 1)]
def pt_34 : List (Nat × Instr × Nat) := [(0, .aload_n 0, 1), (1, .getfield 179, 3), (4, .iconst 1, 1), (5, .isub, 1), (6, .istore_n 3, 1), (7, .iload_n 3, 1), (8, .iload_n 1, 1), (9, .if_icmp .lt 23, 3), (12, .aload_n 0, 1), (13, .getfield 13, 3), (16, .iload_n 3, 1), (17, .iload_n 2, 1), (18, .iadd, 1), (19, .aload_n 0, 1), (20, .getfield 13, 3), (23, .iload_n 3, 1), (24, .iaload, 1), (25, .iastore, 1), (26, .iinc 3 (-1), 3), (29, .goto (-22), 3), (32, .iconst 0, 1), (33, .istore_n 3, 1), (34, .iload_n 3, 1), (35, .iload_n 2, 1), (36, .if_icmp .ge 23, 3), (39, .aload_n 0, 1), (40, .getfield 13, 3), (43, .iload_n 1, 1), (44, .iload_n 3, 1), (45, .iadd, 1), (46, .aload_n 0, 1), (47, .getfield 16, 3), (50, .iload_n 3, 1), (51, .iaload, 1), (52, .iastore, 1), (53, .iinc 3 1, 3), (56, .goto (-22), 3), (59, .aload_n 0, 1), (60, .dup, 1), (61, .getfield 179, 3), (64, .iload_n 2, 1), (65, .iadd, 1), (66, .putfield 179, 3), (69, .return_, 1)]
def pt_35 : List (Nat × Instr × Nat) := [(0, .aload_n 0, 1), (1, .getfield 13, 3), (4, .iload_n 1, 1), (5, .iconst 3, 1), (6, .iadd, 1), (7, .iaload, 1), (8, .iconst 1, 1), (9, .if_icmp .ne 18, 3), (12, .aload_n 0, 1), (13, .aload_n 0, 1), (14, .getfield 13, 3), (17, .iload_n 1, 1), (18, .iconst 4, 1), (19, .iadd, 1), (20, .iaload, 1), (21, .invokevirtual 214, 3), (24, .goto 4, 3), (27, .iconst (-1), 1), (28, .istore_n 2, 1), (29, .iload_n 2, 1), (30, .ifCond .lt 19, 3), (33, .aload_n 0, 1), (34, .aload_n 0, 1), (35, .getfield 13, 3), (38, .iload_n 1, 1), (39, .iconst 4, 1), (40, .iadd, 1), (41, .iaload, 1), (42, .invokevirtual 217, 3), (45, .iconst 1, 1), (46, .if_icmp .eq 5, 3), (49, .iconst (-1), 1), (50, .ireturn, 1), (51, .aload_n 0, 1), (52, .getfield 13, 3), (55, .iload_n 1, 1), (56, .iconst 1, 1), (57, .iadd, 1), (58, .iaload, 1), (59, .istore_n 3, 1), (60, .aload_n 0, 1), (61, .getfield 13, 3), (64, .iload_n 1, 1), (65, .iconst 5, 1), (66, .iadd, 1), (67, .iaload, 1), (68, .istore 4, 2), (70, .aload_n 0, 1), (71, .getfield 13, 3), (74, .iload_n 1, 1), (75, .bipush 6, 2), (77, .iadd, 1), (78, .iaload, 1), (79, .istore 5, 2), (81, .aload_n 0, 1), (82, .getfield 13, 3), (85, .iload_n 2, 1), (86, .iconst 3, 1), (87, .iadd, 1), (88, .iaload, 1), (89, .istore 6, 2), (91, .aload_n 0, 1), (92, .iload_n 2, 1), (93, .iconst 4, 1), (94, .iadd, 1), (95, .invokevirtual 208, 3), (98, .istore 7, 2), (100, .iload 7, 2), (102, .iload_n 2, 1), (103, .isub, 1), (104, .iconst 4, 1), (105, .isub, 1), (106, .istore 8, 2), (108, .iconst 0, 1), (109, .istore 9, 2), (111, .iload 9, 2), (113, .iload 8, 2), (115, .if_icmp .ge 27, 3), (118, .aload_n 0, 1), (119, .getfield 16, 3), (122, .iload 9, 2), (124, .aload_n 0, 1), (125, .getfield 13, 3), (128, .iload_n 2, 1), (129, .iconst 4, 1), (130, .iadd, 1), (131, .iload 9, 2), (133, .iadd, 1), (134, .iaload, 1), (135, .iastore, 1), (136, .iinc 9 1, 3), (139, .goto (-28), 3), (142, .aload_n 0, 1), (143, .getfield 13, 3), (146, .iload 7, 2), (148, .iconst 1, 1), (149, .iadd, 1), (150, .iaload, 1), (151, .istore 9, 2), (153, .aload_n 0, 1), (154, .getfield 13, 3), (157, .iload 7, 2), (159, .iconst 2, 1), (160, .iadd, 1), (161, .iaload, 1), (162, .istore 10, 2), (164, .aload_n 0, 1), (165, .iload_n 1, 1), (166, .iload_n 1, 1), (167, .bipush 7, 2), (169, .iadd, 1), (170, .invokevirtual 202, 3), (173, .aload_n 0, 1), (174, .iload_n 1, 1), (175, .iload 8, 2), (177, .invokevirtual 211, 3), (180, .aload_n 0, 1), (181, .iload_n 2, 1), (182, .iload 7, 2), (184, .iconst 3, 1), (185, .iadd, 1), (186, .invokevirtual 202, 3), (189, .aload_n 0, 1), (190, .iload 6, 2), (192, .iload 4, 2), (194, .iload 5, 2), (196, .invokevirtual 205, 3), (199, .iload 9, 2), (201, .iconst 1, 1), (202, .if_icmp .ne 18, 3), (205, .iload 10, 2), (207, .iload 6, 2), (209, .if_icmp .ne 11, 3), (212, .iload 4, 2), (214, .istore 9, 2), (216, .iload 5, 2), (218, .istore 10, 2), (220, .aload_n 0, 1), (221, .iload_n 3, 1), (222, .iload 9, 2), (224, .iload 10, 2), (226, .invokevirtual 205, 3), (229, .aload_n 0, 1), (230, .getfield 19, 3), (233, .iconst 2, 1), (234, .dup2, 1), (235, .iaload, 1), (236, .iconst 1, 1), (237, .iadd, 1), (238, .iastore, 1), (239, .iload_n 1, 1), (240, .iload 7, 2), (242, .iconst 3, 1), (243, .iadd, 1), (244, .iload_n 2, 1), (245, .isub, 1), (246, .isub, 1), (247, .ireturn, 1)]
def pt_36 : List (Nat × Instr × Nat) := [(0, .iconst (-1), 1), (1, .istore_n 2, 1), (2, .iconst 0, 1), (3, .istore_n 3, 1), (4, .iload_n 3, 1), (5, .aload_n 0, 1), (6, .getfield 179, 3), (9, .if_icmp .ge 51, 3), (12, .aload_n 0, 1), (13, .getfield 13, 3), (16, .iload_n 3, 1), (17, .iaload, 1), (18, .bipush 8, 2), (20, .if_icmp .ne 29, 3), (23, .aload_n 0, 1), (24, .getfield 13, 3), (27, .iload_n 3, 1), (28, .iconst 1, 1), (29, .iadd, 1), (30, .iaload, 1), (31, .iload_n 1, 1), (32, .if_icmp .ne 17, 3), (35, .aload_n 0, 1), (36, .getfield 13, 3), (39, .iload_n 3, 1), (40, .iconst 2, 1), (41, .iadd, 1), (42, .iaload, 1), (43, .iconst 2, 1), (44, .if_icmp .ne 5, 3), (47, .iload_n 3, 1), (48, .istore_n 2, 1), (49, .iload_n 3, 1), (50, .aload_n 0, 1), (51, .iload_n 3, 1), (52, .invokevirtual 188, 3), (55, .iadd, 1), (56, .istore_n 3, 1), (57, .goto (-53), 3), (60, .iload_n 2, 1), (61, .ireturn, 1)]
def pt_37 : List (Nat × Instr × Nat) := [(0, .iconst 0, 1), (1, .istore_n 2, 1), (2, .iconst 0, 1), (3, .istore_n 3, 1), (4, .iload_n 3, 1), (5, .aload_n 0, 1), (6, .getfield 179, 3), (9, .if_icmp .ge 77, 3), (12, .iconst 0, 1), (13, .istore 4, 2), (15, .iload 4, 2), (17, .aload_n 0, 1), (18, .iload_n 3, 1), (19, .invokevirtual 192, 3), (22, .if_icmp .ge 53, 3), (25, .aload_n 0, 1), (26, .iload_n 3, 1), (27, .invokevirtual 195, 3), (30, .iconst 2, 1), (31, .iload 4, 2), (33, .imul, 1), (34, .iadd, 1), (35, .istore 5, 2), (37, .iload_n 2, 1), (38, .aload_n 0, 1), (39, .getfield 13, 3), (42, .iload 5, 2), (44, .iaload, 1), (45, .iconst 1, 1), (46, .if_icmp .ne 20, 3), (49, .aload_n 0, 1), (50, .getfield 13, 3), (53, .iload 5, 2), (55, .iconst 1, 1), (56, .iadd, 1), (57, .iaload, 1), (58, .iload_n 1, 1), (59, .if_icmp .ne 7, 3), (62, .iconst 1, 1), (63, .goto 4, 3), (66, .iconst 0, 1), (67, .iadd, 1), (68, .istore_n 2, 1), (69, .iinc 4 1, 3), (72, .goto (-57), 3), (75, .iload_n 3, 1), (76, .aload_n 0, 1), (77, .iload_n 3, 1), (78, .invokevirtual 188, 3), (81, .iadd, 1), (82, .istore_n 3, 1), (83, .goto (-79), 3), (86, .iload_n 2, 1), (87, .ireturn, 1)]
def pt_38 : List (Nat × Instr × Nat) := [(0, .aload_n 0, 1), (1, .aload_n 0, 1), (2, .getfield 13, 3), (5, .iload_n 1, 1), (6, .iconst 1, 1), (7, .iadd, 1), (8, .iaload, 1), (9, .invokevirtual 217, 3), (12, .ifCond .le 5, 3), (15, .iconst (-1), 1), (16, .ireturn, 1), (17, .aload_n 0, 1), (18, .iload_n 1, 1), (19, .aload_n 0, 1), (20, .iload_n 1, 1), (21, .iconst 4, 1), (22, .iadd, 1), (23, .invokevirtual 208, 3), (26, .iconst 3, 1), (27, .iadd, 1), (28, .invokevirtual 202, 3), (31, .aload_n 0, 1), (32, .getfield 19, 3), (35, .iconst 3, 1), (36, .dup2, 1), (37, .iaload, 1), (38, .iconst 1, 1), (39, .iadd, 1), (40, .iastore, 1), (41, .iload_n 1, 1), (42, .ireturn, 1)]
def pt_39 : List (Nat × Instr × Nat) := [(0, .aload_n 0, 1), (1, .aload_n 0, 1), (2, .getfield 175, 3), (5, .ifCond .ne 7, 3), (8, .iconst 1, 1), (9, .goto 4, 3), (12, .iconst 0, 1), (13, .iconst 0, 1), (14, .invokevirtual 171, 3), (17, .ifCond .eq 5, 3), (20, .iconst 0, 1), (21, .ireturn, 1), (22, .iconst 1, 1), (23, .istore_n 1, 1), (24, .aload_n 0, 1), (25, .invokevirtual 235, 3), (28, .ifCond .le 9, 3), (31, .iinc 1 1, 3), (34, .goto (-10), 3), (37, .iload_n 1, 1), (38, .ireturn, 1)]
def pt_40 : List (Nat × Instr × Nat) := [(0, .aload_n 0, 1), (1, .iload_n 1, 1), (2, .ifCond .lt 8, 3), (5, .iload_n 1, 1), (6, .iconst 5, 1), (7, .if_icmp .le 7, 3), (10, .iconst 1, 1), (11, .goto 4, 3), (14, .iconst 0, 1), (15, .iconst 0, 1), (16, .invokevirtual 171, 3), (19, .ifCond .eq 5, 3), (22, .iconst 0, 1), (23, .ireturn, 1), (24, .iload_n 1, 1), (25, .iconst 4, 1), (26, .if_icmp .ge 12, 3), (29, .aload_n 0, 1), (30, .getfield 19, 3), (33, .iload_n 1, 1), (34, .iaload, 1), (35, .goto 30, 3), (38, .aload_n 0, 1), (39, .getfield 175, 3), (42, .ifCond .ne 7, 3), (45, .iconst 0, 1), (46, .goto 19, 3), (49, .iload_n 1, 1), (50, .iconst 4, 1), (51, .if_icmp .ne 10, 3), (54, .aload_n 0, 1), (55, .invokevirtual 185, 3), (58, .goto 7, 3), (61, .aload_n 0, 1), (62, .getfield 182, 3), (65, .ireturn, 1)]
def pt_41 : List (Nat × Instr × Nat) := [(0, .aload_n 0, 1), (1, .aload_n 0, 1), (2, .getfield 175, 3), (5, .ifCond .eq 15, 3), (8, .iload_n 1, 1), (9, .ifCond .lt 11, 3), (12, .iload_n 1, 1), (13, .aload_n 0, 1), (14, .getfield 179, 3), (17, .if_icmp .lt 7, 3), (20, .iconst 1, 1), (21, .goto 4, 3), (24, .iconst 0, 1), (25, .iconst 0, 1), (26, .invokevirtual 171, 3), (29, .ifCond .eq 7, 3), (32, .iconst 0, 1), (33, .goto 9, 3), (36, .aload_n 0, 1), (37, .getfield 13, 3), (40, .iload_n 1, 1), (41, .iaload, 1), (42, .ireturn, 1)]
def pt_42 : List (Nat × Instr × Nat) := [(0, .aload_n 0, 1), (1, .aload_n 0, 1), (2, .getfield 175, 3), (5, .ifCond .ne 7, 3), (8, .iconst 1, 1), (9, .goto 4, 3), (12, .iconst 0, 1), (13, .iconst 0, 1), (14, .invokevirtual 171, 3), (17, .ifCond .eq 5, 3), (20, .iconst 0, 1), (21, .ireturn, 1), (22, .iconst 0, 1), (23, .istore_n 1, 1), (24, .iload_n 1, 1), (25, .iconst 4, 1), (26, .if_icmp .ge 16, 3), (29, .aload_n 0, 1), (30, .getfield 83, 3), (33, .iload_n 1, 1), (34, .iconst 0, 1), (35, .iastore, 1), (36, .iinc 1 1, 3), (39, .goto (-15), 3), (42, .aload_n 0, 1), (43, .iconst 0, 1), (44, .putfield 244, 3), (47, .aload_n 0, 1), (48, .iconst 0, 1), (49, .putfield 261, 3), (52, .aload_n 0, 1), (53, .iconst 0, 1), (54, .putfield 247, 3), (57, .aload_n 0, 1), (58, .iconst 0, 1), (59, .iconst (-1), 1), (60, .iconst 0, 1), (61, .iconst 0, 1), (62, .invokevirtual 257, 3), (65, .pop, 1), (66, .aload_n 0, 1), (67, .getfield 247, 3), (70, .ifCond .le 53, 3), (73, .aload_n 0, 1), (74, .getfield 247, 3), (77, .iconst 1, 1), (78, .isub, 1), (79, .istore_n 1, 1), (80, .aload_n 0, 1), (81, .getfield 71, 3), (84, .iload_n 1, 1), (85, .iaload, 1), (86, .istore_n 2, 1), (87, .aload_n 0, 1), (88, .getfield 13, 3), (91, .iload_n 2, 1), (92, .iaload, 1), (93, .bipush 9, 2), (95, .if_icmp .ne 12, 3), (98, .aload_n 0, 1), (99, .iload_n 2, 1), (100, .iload_n 1, 1), (101, .invokevirtual 276, 3), (104, .goto 16, 3), (107, .aload_n 0, 1), (108, .iload_n 2, 1), (109, .iload_n 1, 1), (110, .invokevirtual 279, 3), (113, .istore_n 3, 1), (114, .iload_n 3, 1), (115, .ifCond .le 5, 3), (118, .iload_n 3, 1), (119, .ireturn, 1), (120, .goto (-54), 3), (123, .aload_n 0, 1), (124, .getfield 83, 3), (127, .iconst 0, 1), (128, .aload_n 0, 1), (129, .getfield 238, 3), (132, .ifCond .eq 7, 3), (135, .iconst 0, 1), (136, .goto 7, 3), (139, .aload_n 0, 1), (140, .getfield 241, 3), (143, .iastore, 1), (144, .aload_n 0, 1), (145, .getfield 83, 3), (148, .iconst 1, 1), (149, .aload_n 0, 1), (150, .getfield 238, 3), (153, .ifCond .eq 7, 3), (156, .iconst 1, 1), (157, .goto 4, 3), (160, .iconst 0, 1), (161, .iastore, 1), (162, .iconst 0, 1), (163, .ireturn, 1)]
def pt_43 : List (Nat × Instr × Nat) := [(0, .aload_n 0, 1), (1, .getfield 247, 3), (4, .bipush 13, 2), (6, .if_icmp .ne 5, 3), (9, .iconst 4, 1), (10, .ireturn, 1), (11, .aload_n 0, 1), (12, .getfield 71, 3), (15, .aload_n 0, 1), (16, .getfield 247, 3), (19, .iload_n 1, 1), (20, .iastore, 1), (21, .aload_n 0, 1), (22, .getfield 74, 3), (25, .aload_n 0, 1), (26, .getfield 247, 3), (29, .iload_n 2, 1), (30, .iastore, 1), (31, .aload_n 0, 1), (32, .getfield 77, 3), (35, .aload_n 0, 1), (36, .getfield 247, 3), (39, .iload_n 3, 1), (40, .iastore, 1), (41, .aload_n 0, 1), (42, .getfield 80, 3), (45, .aload_n 0, 1), (46, .getfield 247, 3), (49, .iload 4, 2), (51, .iastore, 1), (52, .aload_n 0, 1), (53, .dup, 1), (54, .getfield 247, 3), (57, .iconst 1, 1), (58, .iadd, 1), (59, .putfield 247, 3), (62, .aload_n 0, 1), (63, .getfield 247, 3), (66, .iconst 1, 1), (67, .isub, 1), (68, .aload_n 0, 1), (69, .getfield 83, 3), (72, .iconst 3, 1), (73, .iaload, 1), (74, .if_icmp .le 15, 3), (77, .aload_n 0, 1), (78, .getfield 83, 3), (81, .iconst 3, 1), (82, .aload_n 0, 1), (83, .getfield 247, 3), (86, .iconst 1, 1), (87, .isub, 1), (88, .iastore, 1), (89, .iconst 0, 1), (90, .ireturn, 1)]
def pt_44 : List (Nat × Instr × Nat) := [(0, .aload_n 0, 1), (1, .iload_n 1, 1), (2, .iconst 1, 1), (3, .iadd, 1), (4, .aload_n 0, 1), (5, .getfield 74, 3), (8, .iload_n 2, 1), (9, .iaload, 1), (10, .invokevirtual 250, 3), (13, .aload_n 0, 1), (14, .dup, 1), (15, .getfield 247, 3), (18, .iconst 1, 1), (19, .isub, 1), (20, .putfield 247, 3), (23, .aload_n 0, 1), (24, .getfield 247, 3), (27, .ifCond .ne 4, 3), (30, .return_, 1), (31, .aload_n 0, 1), (32, .getfield 74, 3), (35, .iload_n 2, 1), (36, .iconst 1, 1), (37, .isub, 1), (38, .aload_n 0, 1), (39, .aload_n 0, 1), (40, .getfield 80, 3), (43, .iload_n 2, 1), (44, .iaload, 1), (45, .aload_n 0, 1), (46, .getfield 74, 3), (49, .iload_n 2, 1), (50, .iconst 1, 1), (51, .isub, 1), (52, .iaload, 1), (53, .invokevirtual 253, 3), (56, .iastore, 1), (57, .aload_n 0, 1), (58, .getfield 71, 3), (61, .iload_n 2, 1), (62, .iconst 1, 1), (63, .isub, 1), (64, .aload_n 0, 1), (65, .getfield 77, 3), (68, .iload_n 2, 1), (69, .iaload, 1), (70, .iastore, 1), (71, .return_, 1)]
def pt_45 : List (Nat × Instr × Nat) := [(0, .aload_n 0, 1), (1, .iconst 0, 1), (2, .putfield 238, 3), (5, .aload_n 0, 1), (6, .aload_n 0, 1), (7, .getfield 13, 3), (10, .iload_n 1, 1), (11, .iconst 1, 1), (12, .iadd, 1), (13, .iaload, 1), (14, .putfield 241, 3), (17, .aload_n 0, 1), (18, .getfield 13, 3), (21, .iload_n 1, 1), (22, .iaload, 1), (23, .ifCond .ne 4, 3), (26, .return_, 1), (27, .iload_n 2, 1), (28, .istore_n 3, 1), (29, .aload_n 0, 1), (30, .getfield 49, 3), (33, .iload_n 3, 1), (34, .iaload, 1), (35, .aload_n 0, 1), (36, .getfield 13, 3), (39, .iload_n 1, 1), (40, .iconst 1, 1), (41, .iadd, 1), (42, .iaload, 1), (43, .if_icmp .eq 13, 3), (46, .aload_n 0, 1), (47, .getfield 59, 3), (50, .iload_n 3, 1), (51, .iaload, 1), (52, .istore_n 3, 1), (53, .goto (-24), 3), (56, .aload_n 0, 1), (57, .aload_n 0, 1), (58, .getfield 52, 3), (61, .iload_n 3, 1), (62, .baload, 1), (63, .putfield 238, 3), (66, .aload_n 0, 1), (67, .aload_n 0, 1), (68, .getfield 56, 3), (71, .iload_n 3, 1), (72, .iaload, 1), (73, .putfield 241, 3), (76, .return_, 1)]
def pt_46 : List (Nat × Instr × Nat) := [(0, .aload_n 0, 1), (1, .getfield 49, 3), (4, .aload_n 0, 1), (5, .getfield 244, 3), (8, .iload_n 1, 1), (9, .iastore, 1), (10, .aload_n 0, 1), (11, .getfield 52, 3), (14, .aload_n 0, 1), (15, .getfield 244, 3), (18, .aload_n 0, 1), (19, .getfield 238, 3), (22, .bastore, 1), (23, .aload_n 0, 1), (24, .getfield 56, 3), (27, .aload_n 0, 1), (28, .getfield 244, 3), (31, .aload_n 0, 1), (32, .getfield 241, 3), (35, .iastore, 1), (36, .aload_n 0, 1), (37, .getfield 59, 3), (40, .aload_n 0, 1), (41, .getfield 244, 3), (44, .iload_n 2, 1), (45, .iastore, 1), (46, .aload_n 0, 1), (47, .dup, 1), (48, .getfield 244, 3), (51, .iconst 1, 1), (52, .iadd, 1), (53, .putfield 244, 3), (56, .aload_n 0, 1), (57, .getfield 244, 3), (60, .iconst 1, 1), (61, .isub, 1), (62, .ireturn, 1)]
def pt_47 : List (Nat × Instr × Nat) := [(0, .aload_n 0, 1), (1, .getfield 83, 3), (4, .iconst 2, 1), (5, .iaload, 1), (6, .sipush 400, 3), (9, .if_icmp .ne 5, 3), (12, .iconst 5, 1), (13, .ireturn, 1), (14, .aload_n 0, 1), (15, .getfield 83, 3), (18, .iconst 2, 1), (19, .dup2, 1), (20, .iaload, 1), (21, .iconst 1, 1), (22, .iadd, 1), (23, .iastore, 1), (24, .aload_n 0, 1), (25, .getfield 13, 3), (28, .iload_n 1, 1), (29, .iconst 2, 1), (30, .iadd, 1), (31, .iaload, 1), (32, .tableswitch 54 2 5 #[32, 40, 54, 47], 32), (64, .aload_n 0, 1), (65, .iload_n 1, 1), (66, .iload_n 2, 1), (67, .invokevirtual 264, 3), (70, .iconst 0, 1), (71, .ireturn, 1), (72, .aload_n 0, 1), (73, .iload_n 1, 1), (74, .iload_n 2, 1), (75, .invokevirtual 267, 3), (78, .ireturn, 1), (79, .aload_n 0, 1), (80, .iload_n 1, 1), (81, .iload_n 2, 1), (82, .invokevirtual 270, 3), (85, .ireturn, 1), (86, .aload_n 0, 1), (87, .iload_n 1, 1), (88, .iload_n 2, 1), (89, .invokevirtual 273, 3), (92, .ireturn, 1)]
def pt_48 : List (Nat × Instr × Nat) := [(0, .aload_n 0, 1), (1, .getfield 62, 3), (4, .aload_n 0, 1), (5, .getfield 261, 3), (8, .iload_n 1, 1), (9, .iconst 4, 1), (10, .iadd, 1), (11, .iastore, 1), (12, .aload_n 0, 1), (13, .getfield 65, 3), (16, .aload_n 0, 1), (17, .getfield 261, 3), (20, .aload_n 0, 1), (21, .getfield 13, 3), (24, .iload_n 1, 1), (25, .iconst 3, 1), (26, .iadd, 1), (27, .iaload, 1), (28, .iastore, 1), (29, .aload_n 0, 1), (30, .getfield 68, 3), (33, .aload_n 0, 1), (34, .getfield 261, 3), (37, .aload_n 0, 1), (38, .getfield 74, 3), (41, .iload_n 2, 1), (42, .iaload, 1), (43, .iastore, 1), (44, .aload_n 0, 1), (45, .iconst 1, 1), (46, .putfield 238, 3), (49, .aload_n 0, 1), (50, .aload_n 0, 1), (51, .getfield 261, 3), (54, .putfield 241, 3), (57, .aload_n 0, 1), (58, .dup, 1), (59, .getfield 261, 3), (62, .iconst 1, 1), (63, .iadd, 1), (64, .putfield 261, 3), (67, .aload_n 0, 1), (68, .getfield 74, 3), (71, .iload_n 2, 1), (72, .aload_n 0, 1), (73, .aload_n 0, 1), (74, .getfield 13, 3), (77, .iload_n 1, 1), (78, .iconst 1, 1), (79, .iadd, 1), (80, .iaload, 1), (81, .aload_n 0, 1), (82, .getfield 74, 3), (85, .iload_n 2, 1), (86, .iaload, 1), (87, .invokevirtual 253, 3), (90, .iastore, 1), (91, .aload_n 0, 1), (92, .getfield 71, 3), (95, .iload_n 2, 1), (96, .aload_n 0, 1), (97, .iload_n 1, 1), (98, .iconst 4, 1), (99, .iadd, 1), (100, .invokevirtual 208, 3), (103, .iconst 3, 1), (104, .iadd, 1), (105, .iastore, 1), (106, .return_, 1)]
def pt_49 : List (Nat × Instr × Nat) := [(0, .aload_n 0, 1), (1, .iload_n 1, 1), (2, .iconst 3, 1), (3, .iadd, 1), (4, .aload_n 0, 1), (5, .getfield 74, 3), (8, .iload_n 2, 1), (9, .iaload, 1), (10, .invokevirtual 250, 3), (13, .aload_n 0, 1), (14, .getfield 238, 3), (17, .ifCond .ne 5, 3), (20, .iconst 1, 1), (21, .ireturn, 1), (22, .aload_n 0, 1), (23, .getfield 241, 3), (26, .istore_n 3, 1), (27, .aload_n 0, 1), (28, .iload_n 1, 1), (29, .iconst 5, 1), (30, .iadd, 1), (31, .aload_n 0, 1), (32, .getfield 74, 3), (35, .iload_n 2, 1), (36, .iaload, 1), (37, .invokevirtual 250, 3), (40, .aload_n 0, 1), (41, .getfield 247, 3), (44, .bipush 13, 2), (46, .if_icmp .ne 5, 3), (49, .iconst 4, 1), (50, .ireturn, 1), (51, .aload_n 0, 1), (52, .aload_n 0, 1), (53, .getfield 65, 3), (56, .iload_n 3, 1), (57, .iaload, 1), (58, .aload_n 0, 1), (59, .getfield 68, 3), (62, .iload_n 3, 1), (63, .iaload, 1), (64, .invokevirtual 253, 3), (67, .istore 4, 2), (69, .aload_n 0, 1), (70, .aload_n 0, 1), (71, .getfield 62, 3), (74, .iload_n 3, 1), (75, .iaload, 1), (76, .iload 4, 2), (78, .iload_n 1, 1), (79, .bipush 7, 2), (81, .iadd, 1), (82, .aload_n 0, 1), (83, .getfield 13, 3), (86, .iload_n 1, 1), (87, .iconst 1, 1), (88, .iadd, 1), (89, .iaload, 1), (90, .invokevirtual 257, 3), (93, .ireturn, 1)]
def pt_50 : List (Nat × Instr × Nat) := [(0, .aload_n 0, 1), (1, .iload_n 1, 1), (2, .iconst 4, 1), (3, .iadd, 1), (4, .aload_n 0, 1), (5, .getfield 74, 3), (8, .iload_n 2, 1), (9, .iaload, 1), (10, .invokevirtual 250, 3), (13, .aload_n 0, 1), (14, .getfield 238, 3), (17, .istore_n 3, 1), (18, .aload_n 0, 1), (19, .getfield 241, 3), (22, .istore 4, 2), (24, .aload_n 0, 1), (25, .iload_n 1, 1), (26, .bipush 6, 2), (28, .iadd, 1), (29, .aload_n 0, 1), (30, .getfield 74, 3), (33, .iload_n 2, 1), (34, .iaload, 1), (35, .invokevirtual 250, 3), (38, .iload_n 3, 1), (39, .ifCond .ne 10, 3), (42, .aload_n 0, 1), (43, .getfield 238, 3), (46, .ifCond .eq 5, 3), (49, .iconst 2, 1), (50, .ireturn, 1), (51, .aload_n 0, 1), (52, .getfield 13, 3), (55, .iload_n 1, 1), (56, .iconst 3, 1), (57, .iadd, 1), (58, .iaload, 1), (59, .iconst 3, 1), (60, .if_icmp .ne 12, 3), (63, .aload_n 0, 1), (64, .getfield 241, 3), (67, .ifCond .ne 5, 3), (70, .iconst 3, 1), (71, .ireturn, 1), (72, .aload_n 0, 1), (73, .aload_n 0, 1), (74, .getfield 13, 3), (77, .iload_n 1, 1), (78, .iconst 3, 1), (79, .iadd, 1), (80, .iaload, 1), (81, .iload 4, 2), (83, .aload_n 0, 1), (84, .getfield 241, 3), (87, .invokestatic 198, 3), (90, .putfield 241, 3), (93, .aload_n 0, 1), (94, .getfield 74, 3), (97, .iload_n 2, 1), (98, .aload_n 0, 1), (99, .aload_n 0, 1), (100, .getfield 13, 3), (103, .iload_n 1, 1), (104, .iconst 1, 1), (105, .iadd, 1), (106, .iaload, 1), (107, .aload_n 0, 1), (108, .getfield 74, 3), (111, .iload_n 2, 1), (112, .iaload, 1), (113, .invokevirtual 253, 3), (116, .iastore, 1), (117, .aload_n 0, 1), (118, .getfield 71, 3), (121, .iload_n 2, 1), (122, .iload_n 1, 1), (123, .bipush 8, 2), (125, .iadd, 1), (126, .iastore, 1), (127, .iconst 0, 1), (128, .ireturn, 1)]
def pt_51 : List (Nat × Instr × Nat) := [(0, .aload_n 0, 1), (1, .iload_n 1, 1), (2, .iconst 3, 1), (3, .iadd, 1), (4, .aload_n 0, 1), (5, .getfield 74, 3), (8, .iload_n 2, 1), (9, .iaload, 1), (10, .invokevirtual 250, 3), (13, .aload_n 0, 1), (14, .getfield 238, 3), (17, .ifCond .eq 5, 3), (20, .iconst 2, 1), (21, .ireturn, 1), (22, .aload_n 0, 1), (23, .iload_n 1, 1), (24, .iconst 5, 1), (25, .iadd, 1), (26, .invokevirtual 208, 3), (29, .istore_n 3, 1), (30, .aload_n 0, 1), (31, .iload_n 3, 1), (32, .iconst 3, 1), (33, .iadd, 1), (34, .invokevirtual 208, 3), (37, .iconst 3, 1), (38, .iadd, 1), (39, .istore 4, 2), (41, .aload_n 0, 1), (42, .aload_n 0, 1), (43, .getfield 241, 3), (46, .ifCond .ne 9, 3), (49, .iload_n 3, 1), (50, .iconst 3, 1), (51, .iadd, 1), (52, .goto 6, 3), (55, .iload_n 1, 1), (56, .iconst 5, 1), (57, .iadd, 1), (58, .aload_n 0, 1), (59, .getfield 74, 3), (62, .iload_n 2, 1), (63, .iaload, 1), (64, .iload 4, 2), (66, .aload_n 0, 1), (67, .getfield 13, 3), (70, .iload_n 1, 1), (71, .iconst 1, 1), (72, .iadd, 1), (73, .iaload, 1), (74, .invokevirtual 257, 3), (77, .ireturn, 1)]
def pt_52 : List (Nat × Instr × Nat) := [(0, .aload_n 0, 1), (1, .iload_n 1, 1), (2, .ifCond .lt 8, 3), (5, .iload_n 1, 1), (6, .iconst 3, 1), (7, .if_icmp .le 7, 3), (10, .iconst 1, 1), (11, .goto 4, 3), (14, .iconst 0, 1), (15, .iconst 0, 1), (16, .invokevirtual 171, 3), (19, .ifCond .eq 7, 3), (22, .iconst 0, 1), (23, .goto 9, 3), (26, .aload_n 0, 1), (27, .getfield 83, 3), (30, .iload_n 1, 1), (31, .iaload, 1), (32, .ireturn, 1)]
def pt_53 : List (Nat × Instr × Nat) := [(0, .aload_n 0, 1), (1, .invokespecial 1, 3), (4, .aload_n 0, 1), (5, .new 7, 3), (8, .dup, 1), (9, .invokespecial 9, 3), (12, .putfield 10, 3), (15, .aload_n 0, 1), (16, .new 16, 3), (19, .dup, 1), (20, .invokespecial 18, 3), (23, .putfield 19, 3), (26, .aload_n 0, 1), (27, .new 23, 3), (30, .dup, 1), (31, .invokespecial 25, 3), (34, .putfield 26, 3), (37, .aload_n 0, 1), (38, .new 30, 3), (41, .dup, 1), (42, .invokespecial 32, 3), (45, .putfield 33, 3), (48, .aload_n 0, 1), (49, .aconst_null, 1), (50, .putfield 37, 3), (53, .return_, 1)]
def pt_54 : List (Nat × Instr × Nat) := [(0, .aload_n 0, 1), (1, .getfield 10, 3), (4, .iload_n 1, 1), (5, .invokevirtual 41, 3), (8, .ireturn, 1)]
def pt_55 : List (Nat × Instr × Nat) := [(0, .aload_n 0, 1), (1, .getfield 10, 3), (4, .invokevirtual 45, 3), (7, .astore_n 1, 1), (8, .aload_n 1, 1), (9, .ifnonnull 13, 3), (12, .new 49, 3), (15, .dup, 1), (16, .ldc 51, 2), (18, .invokespecial 53, 3), (21, .athrow, 1), (22, .aload_n 0, 1), (23, .getfield 10, 3), (26, .getfield 56, 3), (29, .bipush 8, 2), (31, .if_icmp .le 13, 3), (34, .new 60, 3), (37, .dup, 1), (38, .ldc 62, 2), (40, .invokespecial 64, 3), (43, .athrow, 1), (44, .aload_n 0, 1), (45, .aload_n 1, 1), (46, .putfield 37, 3), (49, .aload_n 1, 1), (50, .getfield 65, 3), (53, .invokevirtual 71, 3), (56, .ireturn, 1)]
def pt_56 : List (Nat × Instr × Nat) := [(0, .aload_n 0, 1), (1, .getfield 37, 3), (4, .ifnonnull 13, 3), (7, .new 77, 3), (10, .dup, 1), (11, .ldc 79, 2), (13, .invokespecial 81, 3), (16, .athrow, 1), (17, .aload_n 0, 1), (18, .getfield 19, 3), (21, .aload_n 0, 1), (22, .getfield 37, 3), (25, .invokevirtual 82, 3), (28, .ireturn, 1)]
def pt_57 : List (Nat × Instr × Nat) := [(0, .iload_n 0, 1), (1, .iconst 3, 1), (2, .if_icmp .ne 11, 3), (5, .iload_n 1, 1), (6, .ifCond .ne 7, 3), (9, .iconst 1, 1), (10, .goto 4, 3), (13, .iconst 0, 1), (14, .ireturn, 1)]
def pt_58 : List (Nat × Instr × Nat) := [(0, .iload_n 0, 1), (1, .tableswitch 55 0 3 #[31, 35, 39, 43], 31), (32, .iload_n 1, 1), (33, .iload_n 2, 1), (34, .iadd, 1), (35, .ireturn, 1), (36, .iload_n 1, 1), (37, .iload_n 2, 1), (38, .isub, 1), (39, .ireturn, 1), (40, .iload_n 1, 1), (41, .iload_n 2, 1), (42, .imul, 1), (43, .ireturn, 1), (44, .iload_n 2, 1), (45, .ifCond .ne 7, 3), (48, .iconst 0, 1), (49, .goto 6, 3), (52, .iload_n 1, 1), (53, .iload_n 2, 1), (54, .idiv, 1), (55, .ireturn, 1), (56, .iload_n 1, 1), (57, .iload_n 2, 1), (58, .if_icmp .ge 7, 3), (61, .iconst 1, 1), (62, .goto 4, 3), (65, .iconst 0, 1), (66, .ireturn, 1)]
def pt_59 : List (Nat × Instr × Nat) := [(0, .aload_n 0, 1), (1, .getfield 37, 3), (4, .ifnonnull 13, 3), (7, .new 77, 3), (10, .dup, 1), (11, .ldc 79, 2), (13, .invokespecial 81, 3), (16, .athrow, 1), (17, .iconst 1, 1), (18, .istore_n 1, 1), (19, .iload_n 1, 1), (20, .ldc 86, 2), (22, .if_icmp .ge 23, 3), (25, .aload_n 0, 1), (26, .getfield 19, 3), (29, .aload_n 0, 1), (30, .getfield 37, 3), (33, .invokevirtual 82, 3), (36, .ifCond .le 9, 3), (39, .iinc 1 1, 3), (42, .goto (-23), 3), (45, .iload_n 1, 1), (46, .ireturn, 1)]
def pt_60 : List (Nat × Instr × Nat) := [(0, .iload_n 1, 1), (1, .ifCond .lt 8, 3), (4, .iload_n 1, 1), (5, .iconst 5, 1), (6, .if_icmp .le 13, 3), (9, .new 87, 3), (12, .dup, 1), (13, .ldc 89, 2), (15, .invokespecial 91, 3), (18, .athrow, 1), (19, .aload_n 0, 1), (20, .getfield 37, 3), (23, .ifnonnull 5, 3), (26, .iconst 0, 1), (27, .ireturn, 1), (28, .iload_n 1, 1), (29, .iconst 4, 1), (30, .if_icmp .ge 13, 3), (33, .aload_n 0, 1), (34, .getfield 37, 3), (37, .getfield 92, 3), (40, .iload_n 1, 1), (41, .iaload, 1), (42, .ireturn, 1), (43, .iload_n 1, 1), (44, .iconst 4, 1), (45, .if_icmp .ne 16, 3), (48, .aload_n 0, 1), (49, .getfield 37, 3), (52, .getfield 65, 3), (55, .invokevirtual 71, 3), (58, .goto 10, 3), (61, .aload_n 0, 1), (62, .getfield 37, 3), (65, .getfield 96, 3), (68, .ireturn, 1)]
def pt_61 : List (Nat × Instr × Nat) := [(0, .aload_n 0, 1), (1, .getfield 37, 3), (4, .ifnull 14, 3), (7, .aload_n 0, 1), (8, .getfield 26, 3), (11, .aload_n 0, 1), (12, .getfield 37, 3), (15, .invokevirtual 99, 3), (18, .aload_n 0, 1), (19, .getfield 37, 3), (22, .ifnull 18, 3), (25, .iload_n 1, 1), (26, .ifCond .lt 14, 3), (29, .iload_n 1, 1), (30, .aload_n 0, 1), (31, .getfield 26, 3), (34, .getfield 103, 3), (37, .if_icmp .lt 13, 3), (40, .new 87, 3), (43, .dup, 1), (44, .ldc 106, 2), (46, .invokespecial 91, 3), (49, .athrow, 1), (50, .aload_n 0, 1), (51, .getfield 26, 3), (54, .getfield 108, 3), (57, .iload_n 1, 1), (58, .iaload, 1), (59, .ireturn, 1)]
def pt_62 : List (Nat × Instr × Nat) := [(0, .aload_n 0, 1), (1, .getfield 37, 3), (4, .ifnonnull 13, 3), (7, .new 77, 3), (10, .dup, 1), (11, .ldc 79, 2), (13, .invokespecial 81, 3), (16, .athrow, 1), (17, .aload_n 0, 1), (18, .getfield 33, 3), (21, .aload_n 0, 1), (22, .getfield 37, 3), (25, .invokevirtual 111, 3), (28, .ireturn, 1)]
def pt_63 : List (Nat × Instr × Nat) := [(0, .iload_n 1, 1), (1, .tableswitch 71 0 3 #[31, 39, 55, 63], 31), (32, .aload_n 0, 1), (33, .getfield 33, 3), (36, .getfield 114, 3), (39, .ireturn, 1), (40, .aload_n 0, 1), (41, .getfield 33, 3), (44, .getfield 117, 3), (47, .ifCond .eq 7, 3), (50, .iconst 1, 1), (51, .goto 4, 3), (54, .iconst 0, 1), (55, .ireturn, 1), (56, .aload_n 0, 1), (57, .getfield 33, 3), (60, .getfield 121, 3), (63, .ireturn, 1), (64, .aload_n 0, 1), (65, .getfield 33, 3), (68, .getfield 124, 3), (71, .ireturn, 1), (72, .new 87, 3), (75, .dup, 1), (76, .ldc 127, 2), (78, .invokespecial 91, 3), (81, .athrow, 1)]
def pt_64 : List (Nat × Instr × Nat) := [(0, .aload_n 0, 1), (1, .invokespecial 1, 3), (4, .aload_n 0, 1), (5, .iload_n 1, 1), (6, .putfield 7, 3), (9, .aload_n 0, 1), (10, .iload_n 2, 1), (11, .putfield 13, 3), (14, .return_, 1)]
def pt_65 : List (Nat × Instr × Nat) := [(0, .aload_n 0, 1), (1, .getfield 7, 3), (4, .ifCond .eq 15, 3), (7, .aload_n 0, 1), (8, .getfield 13, 3), (11, .iload_n 1, 1), (12, .if_icmp .ne 7, 3), (15, .iconst 1, 1), (16, .goto 4, 3), (19, .iconst 0, 1), (20, .ireturn, 1)]
def pt_66 : List (Nat × Instr × Nat) := [(0, .aload_n 0, 1), (1, .invokespecial 1, 3), (4, .aload_n 0, 1), (5, .iload_n 1, 1), (6, .putfield 7, 3), (9, .aload_n 0, 1), (10, .iload_n 2, 1), (11, .putfield 13, 3), (14, .aload_n 0, 1), (15, .iload_n 3, 1), (16, .putfield 16, 3), (19, .aload_n 0, 1), (20, .aload 4, 2), (22, .putfield 19, 3), (25, .aload_n 0, 1), (26, .aload 5, 2), (28, .putfield 23, 3), (31, .return_, 1)]
def pt_67 : List (Nat × Instr × Nat) := [(0, .aload_n 0, 1), (1, .invokespecial 3, 3), (4, .aload_n 0, 1), (5, .aload_n 1, 1), (6, .putfield 9, 3), (9, .aload_n 0, 1), (10, .iload_n 2, 1), (11, .putfield 15, 3), (14, .aload_n 0, 1), (15, .iconst 4, 1), (16, .newarray .int, 2), (18, .putfield 19, 3), (21, .return_, 1)]
def pt_68 : List (Nat × Instr × Nat) := [(0, .aload_n 0, 1), (1, .getfield 19, 3), (4, .iconst 0, 1), (5, .iaload, 1), (6, .aload_n 0, 1), (7, .getfield 19, 3), (10, .iconst 1, 1), (11, .iaload, 1), (12, .iadd, 1), (13, .aload_n 0, 1), (14, .getfield 19, 3), (17, .iconst 2, 1), (18, .iaload, 1), (19, .iadd, 1), (20, .aload_n 0, 1), (21, .getfield 19, 3), (24, .iconst 3, 1), (25, .iaload, 1), (26, .iadd, 1), (27, .ireturn, 1)]
def pt_69 : List (Nat × Instr × Nat) := [(0, .aload_n 0, 1), (1, .invokespecial 3, 3), (4, .aload_n 0, 1), (5, .sipush 400, 3), (8, .newarray .int, 2), (10, .putfield 11, 3), (13, .aload_n 0, 1), (14, .iconst 0, 1), (15, .putfield 15, 3), (18, .return_, 1)]
def pt_70 : List (Nat × Instr × Nat) := [(0, .aload_n 0, 1), (1, .iconst 0, 1), (2, .putfield 15, 3), (5, .aload_n 0, 1), (6, .aload_n 1, 1), (7, .getfield 19, 3), (10, .iconst 0, 1), (11, .invokevirtual 25, 3), (14, .return_, 1)]
def pt_71 : List (Nat × Instr × Nat) := [(0, .iconst 0, 1), (1, .istore_n 3, 1), (2, .iload_n 3, 1), (3, .aload_n 1, 1), (4, .getfield 29, 3), (7, .invokevirtual 35, 3), (10, .if_icmp .ge 31, 3), (13, .iload_n 2, 1), (14, .bipush 40, 2), (16, .if_icmp .ge 25, 3), (19, .aload_n 0, 1), (20, .aload_n 1, 1), (21, .getfield 29, 3), (24, .iload_n 3, 1), (25, .invokevirtual 41, 3), (28, .checkcast 45, 3), (31, .iload_n 2, 1), (32, .invokevirtual 47, 3), (35, .iinc 3 1, 3), (38, .goto (-36), 3), (41, .aload_n 0, 1), (42, .bipush 9, 2), (44, .invokevirtual 51, 3), (47, .aload_n 0, 1), (48, .aload_n 1, 1), (49, .getfield 55, 3), (52, .invokevirtual 59, 3), (55, .return_, 1)]
def pt_72 : List (Nat × Instr × Nat) := [(0, .aload_n 0, 1), (1, .bipush 8, 2), (3, .invokevirtual 51, 3), (6, .aload_n 0, 1), (7, .aload_n 1, 1), (8, .getfield 63, 3), (11, .invokevirtual 51, 3), (14, .aload_n 0, 1), (15, .aload_n 1, 1), (16, .getfield 66, 3), (19, .invokevirtual 51, 3), (22, .aload_n 1, 1), (23, .getfield 66, 3), (26, .iconst 2, 1), (27, .if_icmp .eq 11, 3), (30, .aload_n 1, 1), (31, .getfield 66, 3), (34, .iconst 5, 1), (35, .if_icmp .ne 11, 3), (38, .aload_n 0, 1), (39, .aload_n 1, 1), (40, .getfield 69, 3), (43, .invokevirtual 51, 3), (46, .aload_n 1, 1), (47, .getfield 72, 3), (50, .astore_n 3, 1), (51, .aload_n 3, 1), (52, .arraylength, 1), (53, .istore 4, 2), (55, .iconst 0, 1), (56, .istore 5, 2), (58, .iload 5, 2), (60, .iload 4, 2), (62, .if_icmp .ge 21, 3), (65, .aload_n 3, 1), (66, .iload 5, 2), (68, .aaload, 1), (69, .astore 6, 2), (71, .aload_n 0, 1), (72, .aload 6, 2), (74, .invokevirtual 59, 3), (77, .iinc 5 1, 3), (80, .goto (-22), 3), (83, .aload_n 1, 1), (84, .getfield 76, 3), (87, .astore_n 3, 1), (88, .aload_n 3, 1), (89, .arraylength, 1), (90, .istore 4, 2), (92, .iconst 0, 1), (93, .istore 5, 2), (95, .iload 5, 2), (97, .iload 4, 2), (99, .if_icmp .ge 24, 3), (102, .aload_n 3, 1), (103, .iload 5, 2), (105, .aaload, 1), (106, .astore 6, 2), (108, .aload_n 0, 1), (109, .aload 6, 2), (111, .iload_n 2, 1), (112, .iconst 1, 1), (113, .iadd, 1), (114, .invokevirtual 25, 3), (117, .iinc 5 1, 3), (120, .goto (-25), 3), (123, .return_, 1)]
def pt_73 : List (Nat × Instr × Nat) := [(0, .aload_n 0, 1), (1, .getfield 15, 3), (4, .sipush 400, 3), (7, .if_icmp .ge 23, 3), (10, .aload_n 0, 1), (11, .getfield 11, 3), (14, .aload_n 0, 1), (15, .getfield 15, 3), (18, .iload_n 1, 1), (19, .iastore, 1), (20, .aload_n 0, 1), (21, .dup, 1), (22, .getfield 15, 3), (25, .iconst 1, 1), (26, .iadd, 1), (27, .putfield 15, 3), (30, .return_, 1)]
def pt_74 : List (Nat × Instr × Nat) := [(0, .aload_n 0, 1), (1, .aload_n 1, 1), (2, .getfield 80, 3), (5, .ifCond .eq 7, 3), (8, .iconst 1, 1), (9, .goto 4, 3), (12, .iconst 0, 1), (13, .invokevirtual 51, 3), (16, .aload_n 0, 1), (17, .aload_n 1, 1), (18, .getfield 86, 3), (21, .invokevirtual 51, 3), (24, .return_, 1)]
def pt_75 : List (Nat × Instr × Nat) := [(0, .aload_n 0, 1), (1, .invokespecial 3, 3), (4, .aload_n 0, 1), (5, .new 9, 3), (8, .dup, 1), (9, .invokespecial 11, 3), (12, .putfield 12, 3), (15, .aload_n 0, 1), (16, .new 18, 3), (19, .dup, 1), (20, .iconst 0, 1), (21, .iconst 0, 1), (22, .invokespecial 20, 3), (25, .putfield 23, 3), (28, .return_, 1)]
def pt_76 : List (Nat × Instr × Nat) := [(0, .aload_n 0, 1), (1, .iconst 0, 1), (2, .invokestatic 27, 3), (5, .ireturn, 1)]
def pt_77 : List (Nat × Instr × Nat) := [(0, .aload_n 0, 1), (1, .getfield 12, 3), (4, .invokevirtual 31, 3), (7, .istore_n 2, 1), (8, .iconst 0, 1), (9, .istore_n 3, 1), (10, .iload_n 3, 1), (11, .aload_n 0, 1), (12, .getfield 12, 3), (15, .invokevirtual 31, 3), (18, .if_icmp .ge 70, 3), (21, .iload_n 1, 1), (22, .bipush 40, 2), (24, .if_icmp .ge 64, 3), (27, .aload_n 0, 1), (28, .getfield 12, 3), (31, .iload_n 3, 1), (32, .invokevirtual 35, 3), (35, .checkcast 39, 3), (38, .getfield 41, 3), (41, .astore 4, 2), (43, .aload 4, 2), (45, .arraylength, 1), (46, .istore 5, 2), (48, .iconst 0, 1), (49, .istore 6, 2), (51, .iload 6, 2), (53, .iload 5, 2), (55, .if_icmp .ge 27, 3), (58, .aload 4, 2), (60, .iload 6, 2), (62, .aaload, 1), (63, .astore 7, 2), (65, .iload_n 2, 1), (66, .aload 7, 2), (68, .iload_n 1, 1), (69, .iconst 1, 1), (70, .iadd, 1), (71, .invokestatic 27, 3), (74, .iadd, 1), (75, .istore_n 2, 1), (76, .iinc 6 1, 3), (79, .goto (-28), 3), (82, .iinc 3 1, 3), (85, .goto (-75), 3), (88, .iload_n 2, 1), (89, .ireturn, 1)]
def pt_78 : List (Nat × Instr × Nat) := [(0, .iload_n 1, 1), (1, .ifCond .lt 23, 3), (4, .iload_n 1, 1), (5, .aload_n 0, 1), (6, .getfield 12, 3), (9, .invokevirtual 31, 3), (12, .if_icmp .ge 12, 3), (15, .aload_n 0, 1), (16, .getfield 12, 3), (19, .iload_n 1, 1), (20, .invokevirtual 65, 3), (23, .pop, 1), (24, .return_, 1)]
def pt_79 : List (Nat × Instr × Nat) := [(0, .aload_n 0, 1), (1, .iload_n 1, 1), (2, .aload_n 2, 1), (3, .iconst 0, 1), (4, .invokestatic 57, 3), (7, .return_, 1)]
def pt_80 : List (Nat × Instr × Nat) := [(0, .aload_n 0, 1), (1, .getfield 23, 3), (4, .iload_n 1, 1), (5, .invokevirtual 49, 3), (8, .ifCond .eq 8, 3), (11, .aload_n 0, 1), (12, .aload_n 2, 1), (13, .putfield 23, 3), (16, .iconst 0, 1), (17, .istore 4, 2), (19, .iload 4, 2), (21, .aload_n 0, 1), (22, .getfield 12, 3), (25, .invokevirtual 31, 3), (28, .if_icmp .ge 118, 3), (31, .iload_n 3, 1), (32, .bipush 40, 2), (34, .if_icmp .ge 112, 3), (37, .aload_n 0, 1), (38, .getfield 12, 3), (41, .iload 4, 2), (43, .invokevirtual 35, 3), (46, .checkcast 39, 3), (49, .astore 5, 2), (51, .iconst 0, 1), (52, .istore 6, 2), (54, .iload 6, 2), (56, .aload 5, 2), (58, .getfield 53, 3), (61, .arraylength, 1), (62, .if_icmp .ge 33, 3), (65, .aload 5, 2), (67, .getfield 53, 3), (70, .iload 6, 2), (72, .aaload, 1), (73, .iload_n 1, 1), (74, .invokevirtual 49, 3), (77, .ifCond .eq 12, 3), (80, .aload 5, 2), (82, .getfield 53, 3), (85, .iload 6, 2), (87, .aload_n 2, 1), (88, .aastore, 1), (89, .iinc 6 1, 3), (92, .goto (-38), 3), (95, .aload 5, 2), (97, .getfield 41, 3), (100, .astore 6, 2), (102, .aload 6, 2), (104, .arraylength, 1), (105, .istore 7, 2), (107, .iconst 0, 1), (108, .istore 8, 2), (110, .iload 8, 2), (112, .iload 7, 2), (114, .if_icmp .ge 26, 3), (117, .aload 6, 2), (119, .iload 8, 2), (121, .aaload, 1), (122, .astore 9, 2), (124, .aload 9, 2), (126, .iload_n 1, 1), (127, .aload_n 2, 1), (128, .iload_n 3, 1), (129, .iconst 1, 1), (130, .iadd, 1), (131, .invokestatic 57, 3), (134, .iinc 8 1, 3), (137, .goto (-27), 3), (140, .iinc 4 1, 3), (143, .goto (-124), 3), (146, .return_, 1)]
def pt_81 : List (Nat × Instr × Nat) := [(0, .aload_n 0, 1), (1, .iload_n 1, 1), (2, .invokevirtual 68, 3), (5, .iconst 0, 1), (6, .istore_n 3, 1), (7, .iload_n 3, 1), (8, .aload_n 2, 1), (9, .getfield 12, 3), (12, .invokevirtual 31, 3), (15, .if_icmp .ge 43, 3), (18, .iload_n 1, 1), (19, .iload_n 3, 1), (20, .iadd, 1), (21, .aload_n 0, 1), (22, .getfield 12, 3), (25, .invokevirtual 31, 3), (28, .if_icmp .gt 30, 3), (31, .aload_n 0, 1), (32, .getfield 12, 3), (35, .iload_n 1, 1), (36, .iload_n 3, 1), (37, .iadd, 1), (38, .aload_n 2, 1), (39, .getfield 12, 3), (42, .iload_n 3, 1), (43, .invokevirtual 35, 3), (46, .checkcast 39, 3), (49, .invokevirtual 72, 3), (52, .iinc 3 1, 3), (55, .goto (-48), 3), (58, .return_, 1)]
def pt_82 : List (Nat × Instr × Nat) := [(0, .iconst 0, 1), (1, .istore_n 2, 1), (2, .iload_n 2, 1), (3, .aload_n 0, 1), (4, .getfield 12, 3), (7, .invokevirtual 31, 3), (10, .if_icmp .ge 29, 3), (13, .aload_n 0, 1), (14, .getfield 12, 3), (17, .iload_n 2, 1), (18, .invokevirtual 35, 3), (21, .checkcast 39, 3), (24, .getfield 61, 3), (27, .iload_n 1, 1), (28, .if_icmp .ne 5, 3), (31, .iload_n 2, 1), (32, .ireturn, 1), (33, .iinc 2 1, 3), (36, .goto (-34), 3), (39, .iconst (-1), 1), (40, .ireturn, 1)]
def pt_83 : List (Nat × Instr × Nat) := [(0, .aload_n 0, 1), (1, .iload_n 1, 1), (2, .iconst 0, 1), (3, .invokestatic 45, 3), (6, .ireturn, 1)]
def pt_84 : List (Nat × Instr × Nat) := [(0, .aload_n 0, 1), (1, .getfield 23, 3), (4, .iload_n 1, 1), (5, .invokevirtual 49, 3), (8, .ifCond .eq 7, 3), (11, .iconst 1, 1), (12, .goto 4, 3), (15, .iconst 0, 1), (16, .istore_n 3, 1), (17, .iconst 0, 1), (18, .istore 4, 2), (20, .iload 4, 2), (22, .aload_n 0, 1), (23, .getfield 12, 3), (26, .invokevirtual 31, 3), (29, .if_icmp .ge 128, 3), (32, .iload_n 2, 1), (33, .bipush 40, 2), (35, .if_icmp .ge 122, 3), (38, .aload_n 0, 1), (39, .getfield 12, 3), (42, .iload 4, 2), (44, .invokevirtual 35, 3), (47, .checkcast 39, 3), (50, .astore 5, 2), (52, .aload 5, 2), (54, .getfield 53, 3), (57, .astore 6, 2), (59, .aload 6, 2), (61, .arraylength, 1), (62, .istore 7, 2), (64, .iconst 0, 1), (65, .istore 8, 2), (67, .iload 8, 2), (69, .iload 7, 2), (71, .if_icmp .ge 33, 3), (74, .aload 6, 2), (76, .iload 8, 2), (78, .aaload, 1), (79, .astore 9, 2), (81, .iload_n 3, 1), (82, .aload 9, 2), (84, .iload_n 1, 1), (85, .invokevirtual 49, 3), (88, .ifCond .eq 7, 3), (91, .iconst 1, 1), (92, .goto 4, 3), (95, .iconst 0, 1), (96, .iadd, 1), (97, .istore_n 3, 1), (98, .iinc 8 1, 3), (101, .goto (-34), 3), (104, .aload 5, 2), (106, .getfield 41, 3), (109, .astore 6, 2), (111, .aload 6, 2), (113, .arraylength, 1), (114, .istore 7, 2), (116, .iconst 0, 1), (117, .istore 8, 2), (119, .iload 8, 2), (121, .iload 7, 2), (123, .if_icmp .ge 28, 3), (126, .aload 6, 2), (128, .iload 8, 2), (130, .aaload, 1), (131, .astore 9, 2), (133, .iload_n 3, 1), (134, .aload 9, 2), (136, .iload_n 1, 1), (137, .iload_n 2, 1), (138, .iconst 1, 1), (139, .iadd, 1), (140, .invokestatic 45, 3), (143, .iadd, 1), (144, .istore_n 3, 1), (145, .iinc 8 1, 3), (148, .goto (-29), 3), (151, .iinc 4 1, 3), (154, .goto (-134), 3), (157, .iload_n 3, 1), (158, .ireturn, 1)]
def pt_85 : List (Nat × Instr × Nat) := [(0, .aload_n 0, 1), (1, .invokespecial 3, 3), (4, .aload_n 0, 1), (5, .bipush 60, 2), (7, .newarray .int, 2), (9, .putfield 9, 3), (12, .aload_n 0, 1), (13, .bipush 10, 2), (15, .anewarray 15, 3), (18, .putfield 17, 3), (21, .return_, 1)]
def pt_86 : List (Nat × Instr × Nat) := [(0, .aload_n 0, 1), (1, .getfield 21, 3), (4, .bipush 60, 2), (6, .if_icmp .lt 5, 3), (9, .iconst 0, 1), (10, .ireturn, 1), (11, .aload_n 0, 1), (12, .getfield 9, 3), (15, .aload_n 0, 1), (16, .getfield 21, 3), (19, .iload_n 1, 1), (20, .iastore, 1), (21, .aload_n 0, 1), (22, .dup, 1), (23, .getfield 21, 3), (26, .iconst 1, 1), (27, .iadd, 1), (28, .putfield 21, 3), (31, .iconst 1, 1), (32, .ireturn, 1)]
def pt_87 : List (Nat × Instr × Nat) := [(0, .aload_n 0, 1), (1, .getfield 21, 3), (4, .istore_n 1, 1), (5, .aload_n 0, 1), (6, .iconst 0, 1), (7, .putfield 21, 3), (10, .aload_n 0, 1), (11, .iload_n 1, 1), (12, .invokevirtual 25, 3), (15, .ifCond .ne 5, 3), (18, .aconst_null, 1), (19, .areturn, 1), (20, .aload_n 0, 1), (21, .iconst 0, 1), (22, .putfield 29, 3), (25, .aload_n 0, 1), (26, .iconst 0, 1), (27, .putfield 32, 3), (30, .aload_n 0, 1), (31, .iconst 0, 1), (32, .putfield 36, 3), (35, .aload_n 0, 1), (36, .iconst 0, 1), (37, .putfield 39, 3), (40, .aload_n 0, 1), (41, .iconst 0, 1), (42, .iconst 0, 1), (43, .invokevirtual 42, 3), (46, .astore_n 2, 1), (47, .aload_n 0, 1), (48, .getfield 32, 3), (51, .ifCond .eq 7, 3), (54, .aconst_null, 1), (55, .goto 15, 3), (58, .new 46, 3), (61, .dup, 1), (62, .aload_n 2, 1), (63, .aload_n 0, 1), (64, .getfield 36, 3), (67, .invokespecial 48, 3), (70, .areturn, 1)]
def pt_88 : List (Nat × Instr × Nat) := [(0, .iconst 1, 1), (1, .istore_n 2, 1), (2, .iconst 0, 1), (3, .istore_n 3, 1), (4, .iload_n 2, 1), (5, .ifCond .le 50, 3), (8, .iload_n 3, 1), (9, .iload_n 1, 1), (10, .if_icmp .ge 45, 3), (13, .aload_n 0, 1), (14, .iload_n 3, 1), (15, .iload_n 1, 1), (16, .invokevirtual 51, 3), (19, .ifCond .ne 5, 3), (22, .iconst 0, 1), (23, .ireturn, 1), (24, .aload_n 0, 1), (25, .getfield 9, 3), (28, .iload_n 3, 1), (29, .iaload, 1), (30, .istore 4, 2), (32, .iload_n 2, 1), (33, .getstatic 55, 3), (36, .iload 4, 2), (38, .iaload, 1), (39, .iconst 1, 1), (40, .isub, 1), (41, .iadd, 1), (42, .istore_n 2, 1), (43, .iload_n 3, 1), (44, .getstatic 58, 3), (47, .iload 4, 2), (49, .iaload, 1), (50, .iadd, 1), (51, .istore_n 3, 1), (52, .goto (-48), 3), (55, .iload_n 2, 1), (56, .ifCond .ne 12, 3), (59, .iload_n 3, 1), (60, .iload_n 1, 1), (61, .if_icmp .ne 7, 3), (64, .iconst 1, 1), (65, .goto 4, 3), (68, .iconst 0, 1), (69, .ireturn, 1)]
def pt_89 : List (Nat × Instr × Nat) := [(0, .aload_n 0, 1), (1, .getfield 9, 3), (4, .iload_n 1, 1), (5, .iaload, 1), (6, .istore_n 3, 1), (7, .iload_n 3, 1), (8, .ifCond .lt 20, 3), (11, .iload_n 3, 1), (12, .bipush 6, 2), (14, .if_icmp .gt 14, 3), (17, .iload_n 1, 1), (18, .getstatic 58, 3), (21, .iload_n 3, 1), (22, .iaload, 1), (23, .iadd, 1), (24, .iload_n 2, 1), (25, .if_icmp .le 5, 3), (28, .iconst 0, 1), (29, .ireturn, 1), (30, .iload_n 3, 1), (31, .ifCond .eq 12, 3), (34, .getstatic 58, 3), (37, .iload_n 3, 1), (38, .iaload, 1), (39, .iconst 1, 1), (40, .if_icmp .ne 5, 3), (43, .iconst 1, 1), (44, .ireturn, 1), (45, .aload_n 0, 1), (46, .getfield 9, 3), (49, .iload_n 1, 1), (50, .iconst 1, 1), (51, .iadd, 1), (52, .iaload, 1), (53, .istore 4, 2), (55, .iload 4, 2), (57, .ifCond .lt 23, 3), (60, .iload 4, 2), (62, .iload_n 3, 1), (63, .iconst 5, 1), (64, .if_icmp .ne 7, 3), (67, .iconst 5, 1), (68, .goto 5, 3), (71, .bipush 10, 2), (73, .if_icmp .ge 7, 3), (76, .iconst 1, 1), (77, .goto 4, 3), (80, .iconst 0, 1), (81, .ireturn, 1)]
def pt_90 : List (Nat × Instr × Nat) := [(0, .aload_n 0, 1), (1, .aload_n 0, 1), (2, .getfield 39, 3), (5, .iload_n 1, 1), (6, .invokestatic 61, 3), (9, .putfield 39, 3), (12, .new 67, 3), (15, .dup, 1), (16, .invokespecial 69, 3), (19, .astore_n 3, 1), (20, .aload_n 3, 1), (21, .aload_n 0, 1), (22, .aload_n 3, 1), (23, .iload_n 1, 1), (24, .iload_n 2, 1), (25, .invokevirtual 70, 3), (28, .putfield 74, 3), (31, .aload_n 3, 1), (32, .areturn, 1)]
def pt_91 : List (Nat × Instr × Nat) := [(0, .iload_n 3, 1), (1, .bipush 40, 2), (3, .if_icmp .le 13, 3), (6, .new 15, 3), (9, .dup, 1), (10, .iconst 0, 1), (11, .iconst 0, 1), (12, .invokespecial 78, 3), (15, .areturn, 1), (16, .aload_n 0, 1), (17, .invokevirtual 81, 3), (20, .istore 4, 2), (22, .iload 4, 2), (24, .tableswitch 104 0 5 #[40, 53, 62, 72, 83, 93], 40), (64, .new 15, 3), (67, .dup, 1), (68, .iconst 0, 1), (69, .aload_n 0, 1), (70, .invokevirtual 81, 3), (73, .invokespecial 78, 3), (76, .areturn, 1), (77, .aload_n 0, 1), (78, .aload_n 0, 1), (79, .invokevirtual 81, 3), (82, .invokevirtual 85, 3), (85, .areturn, 1), (86, .aload_n 0, 1), (87, .aload_n 1, 1), (88, .iload_n 2, 1), (89, .iload_n 3, 1), (90, .iconst 1, 1), (91, .iadd, 1), (92, .invokevirtual 89, 3), (95, .areturn, 1), (96, .aload_n 0, 1), (97, .aload_n 1, 1), (98, .iconst 3, 1), (99, .iload_n 2, 1), (100, .iload_n 3, 1), (101, .iconst 1, 1), (102, .iadd, 1), (103, .invokevirtual 92, 3), (106, .areturn, 1), (107, .aload_n 0, 1), (108, .aload_n 1, 1), (109, .iload_n 2, 1), (110, .iload_n 3, 1), (111, .iconst 1, 1), (112, .iadd, 1), (113, .invokevirtual 96, 3), (116, .areturn, 1), (117, .aload_n 0, 1), (118, .aload_n 1, 1), (119, .iconst 5, 1), (120, .iload_n 2, 1), (121, .iload_n 3, 1), (122, .iconst 1, 1), (123, .iadd, 1), (124, .invokevirtual 92, 3), (127, .areturn, 1), (128, .aload_n 0, 1), (129, .aload_n 1, 1), (130, .iload_n 2, 1), (131, .iload_n 3, 1), (132, .iconst 1, 1), (133, .iadd, 1), (134, .invokevirtual 99, 3), (137, .areturn, 1)]
def pt_92 : List (Nat × Instr × Nat) := [(0, .aload_n 0, 1), (1, .getfield 29, 3), (4, .aload_n 0, 1), (5, .getfield 9, 3), (8, .arraylength, 1), (9, .if_icmp .lt 5, 3), (12, .iconst 0, 1), (13, .ireturn, 1), (14, .aload_n 0, 1), (15, .dup, 1), (16, .getfield 29, 3), (19, .iconst 1, 1), (20, .iadd, 1), (21, .putfield 29, 3), (24, .aload_n 0, 1), (25, .getfield 9, 3), (28, .aload_n 0, 1), (29, .getfield 29, 3), (32, .iconst 1, 1), (33, .isub, 1), (34, .iaload, 1), (35, .ireturn, 1)]
def pt_93 : List (Nat × Instr × Nat) := [(0, .aload_n 0, 1), (1, .getfield 17, 3), (4, .iload_n 1, 1), (5, .aaload, 1), (6, .astore_n 2, 1), (7, .aload_n 2, 1), (8, .ifnonnull 18, 3), (11, .aload_n 0, 1), (12, .iconst 1, 1), (13, .putfield 32, 3), (16, .new 15, 3), (19, .dup, 1), (20, .iconst 0, 1), (21, .iconst 0, 1), (22, .invokespecial 78, 3), (25, .areturn, 1), (26, .aload_n 2, 1), (27, .areturn, 1)]
def pt_94 : List (Nat × Instr × Nat) := [(0, .aload_n 0, 1), (1, .invokevirtual 81, 3), (4, .istore 4, 2), (6, .aload_n 0, 1), (7, .invokevirtual 102, 3), (10, .astore 5, 2), (12, .aload_n 0, 1), (13, .getfield 17, 3), (16, .iload 4, 2), (18, .aaload, 1), (19, .astore 6, 2), (21, .aload_n 0, 1), (22, .getfield 17, 3), (25, .iload 4, 2), (27, .aload 5, 2), (29, .aastore, 1), (30, .aload_n 0, 1), (31, .iload_n 2, 1), (32, .iconst 1, 1), (33, .iadd, 1), (34, .iload_n 3, 1), (35, .invokevirtual 42, 3), (38, .astore 7, 2), (40, .aload_n 0, 1), (41, .getfield 17, 3), (44, .iload 4, 2), (46, .aload 6, 2), (48, .aastore, 1), (49, .aload_n 0, 1), (50, .aload_n 1, 1), (51, .iconst 2, 1), (52, .aload 5, 2), (54, .getfield 106, 3), (57, .iconst 0, 1), (58, .anewarray 15, 3), (61, .iconst 1, 1), (62, .anewarray 67, 3), (65, .dup, 1), (66, .iconst 0, 1), (67, .aload 7, 2), (69, .aastore, 1), (70, .invokevirtual 109, 3), (73, .areturn, 1)]
def pt_95 : List (Nat × Instr × Nat) := [(0, .new 15, 3), (3, .dup, 1), (4, .iconst 1, 1), (5, .aload_n 0, 1), (6, .getfield 36, 3), (9, .invokespecial 78, 3), (12, .astore_n 1, 1), (13, .aload_n 0, 1), (14, .dup, 1), (15, .getfield 36, 3), (18, .iconst 1, 1), (19, .iadd, 1), (20, .putfield 36, 3), (23, .aload_n 1, 1), (24, .areturn, 1)]
def pt_96 : List (Nat × Instr × Nat) := [(0, .aload_n 0, 1), (1, .invokevirtual 102, 3), (4, .astore 6, 2), (6, .aload_n 1, 1), (7, .getfield 113, 3), (10, .new 117, 3), (13, .dup, 1), (14, .aload 6, 2), (16, .getfield 106, 3), (19, .iload_n 2, 1), (20, .iload_n 3, 1), (21, .aload 4, 2), (23, .aload 5, 2), (25, .invokespecial 119, 3), (28, .invokevirtual 122, 3), (31, .pop, 1), (32, .aload 6, 2), (34, .areturn, 1)]
def pt_97 : List (Nat × Instr × Nat) := [(0, .iload_n 2, 1), (1, .iconst 5, 1), (2, .if_icmp .ne 10, 3), (5, .aload_n 0, 1), (6, .invokevirtual 81, 3), (9, .goto 4, 3), (12, .iconst 0, 1), (13, .istore 5, 2), (15, .aload_n 0, 1), (16, .aload_n 1, 1), (17, .iload_n 3, 1), (18, .iload 4, 2), (20, .invokevirtual 70, 3), (23, .astore 6, 2), (25, .aload_n 0, 1), (26, .aload_n 1, 1), (27, .iload_n 3, 1), (28, .iload 4, 2), (30, .invokevirtual 70, 3), (33, .astore 7, 2), (35, .aload_n 0, 1), (36, .aload_n 1, 1), (37, .iload_n 2, 1), (38, .iload 5, 2), (40, .iconst 2, 1), (41, .anewarray 15, 3), (44, .dup, 1), (45, .iconst 0, 1), (46, .aload 6, 2), (48, .aastore, 1), (49, .dup, 1), (50, .iconst 1, 1), (51, .aload 7, 2), (53, .aastore, 1), (54, .iconst 0, 1), (55, .anewarray 67, 3), (58, .invokevirtual 109, 3), (61, .areturn, 1)]
def pt_98 : List (Nat × Instr × Nat) := [(0, .aload_n 0, 1), (1, .invokevirtual 81, 3), (4, .istore 4, 2), (6, .aload_n 0, 1), (7, .aload_n 1, 1), (8, .iload_n 2, 1), (9, .iload_n 3, 1), (10, .invokevirtual 70, 3), (13, .astore 5, 2), (15, .aload_n 0, 1), (16, .getfield 17, 3), (19, .iload 4, 2), (21, .aaload, 1), (22, .astore 6, 2), (24, .aload_n 0, 1), (25, .getfield 17, 3), (28, .iload 4, 2), (30, .aload 5, 2), (32, .aastore, 1), (33, .aload_n 0, 1), (34, .aload_n 1, 1), (35, .iload_n 2, 1), (36, .iload_n 3, 1), (37, .invokevirtual 70, 3), (40, .astore 7, 2), (42, .aload_n 0, 1), (43, .getfield 17, 3), (46, .iload 4, 2), (48, .aload 6, 2), (50, .aastore, 1), (51, .aload 7, 2), (53, .areturn, 1)]
def pt_99 : List (Nat × Instr × Nat) := [(0, .aload_n 0, 1), (1, .aload_n 1, 1), (2, .iload_n 2, 1), (3, .iload_n 3, 1), (4, .invokevirtual 70, 3), (7, .astore 4, 2), (9, .aload_n 0, 1), (10, .iload_n 2, 1), (11, .iconst 1, 1), (12, .iadd, 1), (13, .iload_n 3, 1), (14, .invokevirtual 42, 3), (17, .astore 5, 2), (19, .aload_n 0, 1), (20, .iload_n 2, 1), (21, .iconst 1, 1), (22, .iadd, 1), (23, .iload_n 3, 1), (24, .invokevirtual 42, 3), (27, .astore 6, 2), (29, .aload_n 0, 1), (30, .aload_n 1, 1), (31, .bipush 6, 2), (33, .iconst 0, 1), (34, .iconst 1, 1), (35, .anewarray 15, 3), (38, .dup, 1), (39, .iconst 0, 1), (40, .aload 4, 2), (42, .aastore, 1), (43, .iconst 2, 1), (44, .anewarray 67, 3), (47, .dup, 1), (48, .iconst 0, 1), (49, .aload 5, 2), (51, .aastore, 1), (52, .dup, 1), (53, .iconst 1, 1), (54, .aload 6, 2), (56, .aastore, 1), (57, .invokevirtual 109, 3), (60, .areturn, 1)]
def pt_100 : List (Nat × Instr × Nat) := [(0, .aload_n 0, 1), (1, .invokespecial 3, 3), (4, .aload_n 0, 1), (5, .bipush 40, 2), (7, .anewarray 9, 3), (10, .putfield 11, 3), (13, .aload_n 0, 1), (14, .bipush 40, 2), (16, .newarray .int, 2), (18, .putfield 17, 3), (21, .return_, 1)]
def pt_101 : List (Nat × Instr × Nat) := [(0, .aload_n 1, 1), (1, .invokevirtual 21, 3), (4, .istore_n 2, 1), (5, .aload_n 0, 1), (6, .aload_n 1, 1), (7, .aload_n 1, 1), (8, .getfield 27, 3), (11, .iconst 0, 1), (12, .invokevirtual 31, 3), (15, .aload_n 1, 1), (16, .invokevirtual 21, 3), (19, .iload_n 2, 1), (20, .isub, 1), (21, .ireturn, 1)]
def pt_102 : List (Nat × Instr × Nat) := [(0, .iload_n 3, 1), (1, .bipush 40, 2), (3, .if_icmp .lt 4, 3), (6, .return_, 1), (7, .aload_n 0, 1), (8, .getfield 11, 3), (11, .iload_n 3, 1), (12, .aload_n 2, 1), (13, .aastore, 1), (14, .aload_n 0, 1), (15, .getfield 17, 3), (18, .iload_n 3, 1), (19, .iconst 0, 1), (20, .iastore, 1), (21, .iconst 0, 1), (22, .istore 4, 2), (24, .iload 4, 2), (26, .ldc 35, 2), (28, .if_icmp .ge 109, 3), (31, .aload_n 0, 1), (32, .getfield 17, 3), (35, .iload_n 3, 1), (36, .iaload, 1), (37, .aload_n 2, 1), (38, .getfield 36, 3), (41, .invokevirtual 40, 3), (44, .if_icmp .ge 93, 3), (47, .aload_n 2, 1), (48, .getfield 36, 3), (51, .aload_n 0, 1), (52, .getfield 17, 3), (55, .iload_n 3, 1), (56, .iaload, 1), (57, .invokevirtual 45, 3), (60, .checkcast 49, 3), (63, .astore 5, 2), (65, .aload_n 0, 1), (66, .aload_n 1, 1), (67, .aload 5, 2), (69, .iload_n 3, 1), (70, .invokevirtual 51, 3), (73, .ifCond .ne 58, 3), (76, .aload 5, 2), (78, .getfield 55, 3), (81, .astore 6, 2), (83, .aload 6, 2), (85, .arraylength, 1), (86, .istore 7, 2), (88, .iconst 0, 1), (89, .istore 8, 2), (91, .iload 8, 2), (93, .iload 7, 2), (95, .if_icmp .ge 26, 3), (98, .aload 6, 2), (100, .iload 8, 2), (102, .aaload, 1), (103, .astore 9, 2), (105, .aload_n 0, 1), (106, .aload_n 1, 1), (107, .aload 9, 2), (109, .iload_n 3, 1), (110, .iconst 1, 1), (111, .iadd, 1), (112, .invokevirtual 31, 3), (115, .iinc 8 1, 3), (118, .goto (-27), 3), (121, .aload_n 0, 1), (122, .getfield 17, 3), (125, .iload_n 3, 1), (126, .dup2, 1), (127, .iaload, 1), (128, .iconst 1, 1), (129, .iadd, 1), (130, .iastore, 1), (131, .iinc 4 1, 3), (134, .goto (-110), 3), (137, .return_, 1)]
def pt_103 : List (Nat × Instr × Nat) := [(0, .aload_n 2, 1), (1, .getfield 58, 3), (4, .tableswitch 56 3 6 #[48, 56, 32, 40], 32), (36, .aload_n 0, 1), (37, .aload_n 1, 1), (38, .aload_n 2, 1), (39, .iload_n 3, 1), (40, .invokevirtual 62, 3), (43, .ireturn, 1), (44, .aload_n 0, 1), (45, .aload_n 1, 1), (46, .aload_n 2, 1), (47, .iload_n 3, 1), (48, .invokevirtual 65, 3), (51, .ireturn, 1), (52, .aload_n 0, 1), (53, .aload_n 1, 1), (54, .aload_n 2, 1), (55, .iload_n 3, 1), (56, .invokevirtual 68, 3), (59, .ireturn, 1), (60, .aload_n 0, 1), (61, .aload_n 1, 1), (62, .aload_n 2, 1), (63, .iload_n 3, 1), (64, .invokevirtual 71, 3), (67, .ireturn, 1)]
def pt_104 : List (Nat × Instr × Nat) := [(0, .aload_n 2, 1), (1, .getfield 74, 3), (4, .iconst 0, 1), (5, .aaload, 1), (6, .astore 4, 2), (8, .aload_n 2, 1), (9, .getfield 74, 3), (12, .iconst 1, 1), (13, .aaload, 1), (14, .astore 5, 2), (16, .aload 4, 2), (18, .getfield 78, 3), (21, .ifCond .ne 26, 3), (24, .aload 5, 2), (26, .getfield 78, 3), (29, .ifCond .ne 18, 3), (32, .aload_n 2, 1), (33, .getfield 84, 3), (36, .aload 5, 2), (38, .getfield 87, 3), (41, .invokestatic 90, 3), (44, .ifCond .eq 5, 3), (47, .iconst 0, 1), (48, .ireturn, 1), (49, .new 79, 3), (52, .dup, 1), (53, .iconst 0, 1), (54, .aload_n 2, 1), (55, .getfield 84, 3), (58, .aload 4, 2), (60, .getfield 87, 3), (63, .aload 5, 2), (65, .getfield 87, 3), (68, .invokestatic 94, 3), (71, .invokespecial 98, 3), (74, .astore 6, 2), (76, .aload_n 0, 1), (77, .getfield 11, 3), (80, .iload_n 3, 1), (81, .aaload, 1), (82, .aload_n 0, 1), (83, .getfield 17, 3), (86, .iload_n 3, 1), (87, .iaload, 1), (88, .invokevirtual 101, 3), (91, .aload_n 1, 1), (92, .getfield 27, 3), (95, .aload_n 2, 1), (96, .getfield 105, 3), (99, .aload 6, 2), (101, .invokevirtual 108, 3), (104, .aload_n 1, 1), (105, .getfield 112, 3), (108, .iconst 0, 1), (109, .dup2, 1), (110, .iaload, 1), (111, .iconst 1, 1), (112, .iadd, 1), (113, .iastore, 1), (114, .iconst 1, 1), (115, .ireturn, 1)]
def pt_105 : List (Nat × Instr × Nat) := [(0, .aload_n 2, 1), (1, .getfield 74, 3), (4, .iconst 0, 1), (5, .aaload, 1), (6, .astore 4, 2), (8, .aload 4, 2), (10, .getfield 78, 3), (13, .ifCond .eq 5, 3), (16, .iconst 0, 1), (17, .ireturn, 1), (18, .aload_n 2, 1), (19, .getfield 55, 3), (22, .aload 4, 2), (24, .getfield 87, 3), (27, .ifCond .ne 7, 3), (30, .iconst 1, 1), (31, .goto 4, 3), (34, .iconst 0, 1), (35, .aaload, 1), (36, .astore 5, 2), (38, .aload_n 0, 1), (39, .getfield 11, 3), (42, .iload_n 3, 1), (43, .aaload, 1), (44, .aload_n 0, 1), (45, .getfield 17, 3), (48, .iload_n 3, 1), (49, .iaload, 1), (50, .aload 5, 2), (52, .invokevirtual 115, 3), (55, .aload_n 1, 1), (56, .getfield 27, 3), (59, .aload_n 2, 1), (60, .getfield 105, 3), (63, .aload 5, 2), (65, .getfield 119, 3), (68, .invokevirtual 108, 3), (71, .aload_n 1, 1), (72, .getfield 112, 3), (75, .iconst 1, 1), (76, .dup2, 1), (77, .iaload, 1), (78, .iconst 1, 1), (79, .iadd, 1), (80, .iastore, 1), (81, .iconst 1, 1), (82, .ireturn, 1)]
def pt_106 : List (Nat × Instr × Nat) := [(0, .aload_n 2, 1), (1, .getfield 74, 3), (4, .iconst 0, 1), (5, .aaload, 1), (6, .astore 4, 2), (8, .aload 4, 2), (10, .getfield 78, 3), (13, .ifCond .eq 16, 3), (16, .aload_n 0, 1), (17, .aload 4, 2), (19, .getfield 87, 3), (22, .iload_n 3, 1), (23, .invokevirtual 123, 3), (26, .goto 4, 3), (29, .iconst (-1), 1), (30, .istore 5, 2), (32, .iload 5, 2), (34, .ifCond .ge 5, 3), (37, .iconst 0, 1), (38, .ireturn, 1), (39, .aload_n 0, 1), (40, .getfield 11, 3), (43, .iload 5, 2), (45, .aaload, 1), (46, .aload 4, 2), (48, .getfield 87, 3), (51, .invokevirtual 127, 3), (54, .istore 6, 2), (56, .aload_n 0, 1), (57, .getfield 11, 3), (60, .iload 5, 2), (62, .aaload, 1), (63, .getfield 36, 3), (66, .iload 6, 2), (68, .invokevirtual 45, 3), (71, .checkcast 49, 3), (74, .astore 7, 2), (76, .aload 7, 2), (78, .getfield 58, 3), (81, .iconst 2, 1), (82, .if_icmp .ne 19, 3), (85, .aload_n 1, 1), (86, .getfield 27, 3), (89, .aload 4, 2), (91, .getfield 87, 3), (94, .invokevirtual 131, 3), (97, .iconst 1, 1), (98, .if_icmp .eq 5, 3), (101, .iconst 0, 1), (102, .ireturn, 1), (103, .aload_n 0, 1), (104, .getfield 11, 3), (107, .iload 5, 2), (109, .aaload, 1), (110, .iload 6, 2), (112, .invokevirtual 101, 3), (115, .aload_n 0, 1), (116, .getfield 17, 3), (119, .iload 5, 2), (121, .dup2, 1), (122, .iaload, 1), (123, .iconst 1, 1), (124, .isub, 1), (125, .iastore, 1), (126, .aload 7, 2), (128, .getfield 55, 3), (131, .iconst 0, 1), (132, .aaload, 1), (133, .astore 8, 2), (135, .aload 8, 2), (137, .aload 7, 2), (139, .getfield 84, 3), (142, .aload_n 2, 1), (143, .getfield 74, 3), (146, .iconst 1, 1), (147, .aaload, 1), (148, .invokevirtual 108, 3), (151, .aload_n 0, 1), (152, .getfield 11, 3), (155, .iload_n 3, 1), (156, .aaload, 1), (157, .aload_n 0, 1), (158, .getfield 17, 3), (161, .iload_n 3, 1), (162, .iaload, 1), (163, .aload 8, 2), (165, .invokevirtual 115, 3), (168, .aload_n 1, 1), (169, .getfield 27, 3), (172, .aload_n 2, 1), (173, .getfield 105, 3), (176, .aload 8, 2), (178, .getfield 119, 3), (181, .invokevirtual 108, 3), (184, .aload_n 1, 1), (185, .getfield 112, 3), (188, .iconst 2, 1), (189, .dup2, 1), (190, .iaload, 1), (191, .iconst 1, 1), (192, .iadd, 1), (193, .iastore, 1), (194, .iconst 1, 1), (195, .ireturn, 1)]
def pt_107 : List (Nat × Instr × Nat) := [(0, .iload_n 2, 1), (1, .istore_n 3, 1), (2, .iload_n 3, 1), (3, .ifCond .lt 24, 3), (6, .aload_n 0, 1), (7, .getfield 11, 3), (10, .iload_n 3, 1), (11, .aaload, 1), (12, .iload_n 1, 1), (13, .invokevirtual 127, 3), (16, .ifCond .lt 5, 3), (19, .iload_n 3, 1), (20, .ireturn, 1), (21, .iinc 3 (-1), 3), (24, .goto (-22), 3), (27, .iconst (-1), 1), (28, .ireturn, 1)]
def pt_108 : List (Nat × Instr × Nat) := [(0, .aload_n 1, 1), (1, .getfield 27, 3), (4, .aload_n 2, 1), (5, .getfield 105, 3), (8, .invokevirtual 131, 3), (11, .ifCond .le 5, 3), (14, .iconst 0, 1), (15, .ireturn, 1), (16, .aload_n 0, 1), (17, .getfield 11, 3), (20, .iload_n 3, 1), (21, .aaload, 1), (22, .aload_n 0, 1), (23, .getfield 17, 3), (26, .iload_n 3, 1), (27, .iaload, 1), (28, .invokevirtual 101, 3), (31, .aload_n 1, 1), (32, .getfield 112, 3), (35, .iconst 3, 1), (36, .dup2, 1), (37, .iaload, 1), (38, .iconst 1, 1), (39, .iadd, 1), (40, .iastore, 1), (41, .iconst 1, 1), (42, .ireturn, 1)]
def pt_109 : List (Nat × Instr × Nat) := [(0, .aload_n 0, 1), (1, .invokespecial 5, 3), (4, .aload_n 0, 1), (5, .sipush 800, 3), (8, .newarray .int, 2), (10, .putfield 11, 3), (13, .aload_n 0, 1), (14, .sipush 800, 3), (17, .newarray .long, 2), (19, .putfield 15, 3), (22, .aload_n 0, 1), (23, .sipush 800, 3), (26, .newarray .int, 2), (28, .putfield 19, 3), (31, .aload_n 0, 1), (32, .sipush 400, 3), (35, .anewarray 22, 3), (38, .putfield 24, 3), (41, .aload_n 0, 1), (42, .sipush 400, 3), (45, .newarray .int, 2), (47, .putfield 28, 3), (50, .return_, 1)]
def pt_110 : List (Nat × Instr × Nat) := [(0, .aload_n 0, 1), (1, .iconst 0, 1), (2, .putfield 31, 3), (5, .aload_n 0, 1), (6, .iconst 0, 1), (7, .putfield 35, 3), (10, .aload_n 0, 1), (11, .iconst 0, 1), (12, .putfield 38, 3), (15, .aload_n 0, 1), (16, .iconst 0, 1), (17, .putfield 41, 3), (20, .aload_n 0, 1), (21, .iconst 0, 1), (22, .putfield 44, 3), (25, .aload_n 0, 1), (26, .aload_n 1, 1), (27, .getfield 47, 3), (30, .iconst (-1), 1), (31, .iconst 0, 1), (32, .invokevirtual 53, 3), (35, .lstore_n 2, 1), (36, .aload_n 0, 1), (37, .aload_n 0, 1), (38, .getfield 38, 3), (41, .ifCond .ne 14, 3), (44, .lload_n 2, 1), (45, .invokestatic 57, 3), (48, .ifCond .eq 7, 3), (51, .iconst 1, 1), (52, .goto 4, 3), (55, .iconst 0, 1), (56, .putfield 61, 3), (59, .aload_n 0, 1), (60, .aload_n 0, 1), (61, .getfield 38, 3), (64, .ifCond .ne 15, 3), (67, .aload_n 0, 1), (68, .getfield 61, 3), (71, .ifCond .ne 8, 3), (74, .lload_n 2, 1), (75, .l2i, 1), (76, .goto 4, 3), (79, .iconst 0, 1), (80, .putfield 65, 3), (83, .aload_n 0, 1), (84, .getfield 38, 3), (87, .ireturn, 1)]
def pt_111 : List (Nat × Instr × Nat) := [(0, .iload_n 3, 1), (1, .bipush 12, 2), (3, .if_icmp .le 9, 3), (6, .aload_n 0, 1), (7, .iconst 4, 1), (8, .invokevirtual 68, 3), (11, .lreturn, 1), (12, .aload_n 0, 1), (13, .aload_n 0, 1), (14, .getfield 44, 3), (17, .iload_n 3, 1), (18, .invokestatic 72, 3), (21, .putfield 44, 3), (24, .iload_n 2, 1), (25, .istore 4, 2), (27, .iconst 0, 1), (28, .istore 5, 2), (30, .iload 5, 2), (32, .aload_n 1, 1), (33, .getfield 78, 3), (36, .invokevirtual 84, 3), (39, .if_icmp .ge 58, 3), (42, .aload_n 1, 1), (43, .getfield 78, 3), (46, .iload 5, 2), (48, .invokevirtual 90, 3), (51, .checkcast 22, 3), (54, .astore 6, 2), (56, .aload_n 0, 1), (57, .aload 6, 2), (59, .iload 4, 2), (61, .iload_n 3, 1), (62, .invokevirtual 94, 3), (65, .lstore 7, 2), (67, .aload_n 0, 1), (68, .getfield 38, 3), (71, .ifCond .eq 5, 3), (74, .lconst 0, 1), (75, .lreturn, 1), (76, .aload_n 0, 1), (77, .aload 6, 2), (79, .getfield 98, 3), (82, .lload 7, 2), (84, .iload 4, 2), (86, .invokevirtual 101, 3), (89, .istore 4, 2), (91, .iinc 5 1, 3), (94, .goto (-64), 3), (97, .aload_n 0, 1), (98, .aload_n 1, 1), (99, .getfield 105, 3), (102, .iload 4, 2), (104, .invokevirtual 109, 3), (107, .lreturn, 1)]
def pt_112 : List (Nat × Instr × Nat) := [(0, .aload_n 0, 1), (1, .iload_n 1, 1), (2, .putfield 38, 3), (5, .lconst 0, 1), (6, .lreturn, 1)]
def pt_113 : List (Nat × Instr × Nat) := [(0, .aload_n 0, 1), (1, .getfield 41, 3), (4, .sipush 400, 3), (7, .if_icmp .lt 9, 3), (10, .aload_n 0, 1), (11, .iconst 5, 1), (12, .invokevirtual 68, 3), (15, .lreturn, 1), (16, .aload_n 0, 1), (17, .dup, 1), (18, .getfield 41, 3), (21, .iconst 1, 1), (22, .iadd, 1), (23, .putfield 41, 3), (26, .aload_n 1, 1), (27, .getfield 113, 3), (30, .tableswitch 52 2 5 #[30, 37, 52, 45], 30), (60, .aload_n 0, 1), (61, .aload_n 1, 1), (62, .iload_n 2, 1), (63, .invokevirtual 116, 3), (66, .lreturn, 1), (67, .aload_n 0, 1), (68, .aload_n 1, 1), (69, .iload_n 2, 1), (70, .iload_n 3, 1), (71, .invokevirtual 120, 3), (74, .lreturn, 1), (75, .aload_n 0, 1), (76, .aload_n 1, 1), (77, .iload_n 2, 1), (78, .invokevirtual 123, 3), (81, .lreturn, 1), (82, .aload_n 0, 1), (83, .aload_n 1, 1), (84, .iload_n 2, 1), (85, .iload_n 3, 1), (86, .invokevirtual 126, 3), (89, .lreturn, 1)]
def pt_114 : List (Nat × Instr × Nat) := [(0, .aload_n 0, 1), (1, .getfield 35, 3), (4, .sipush 400, 3), (7, .if_icmp .lt 5, 3), (10, .lconst 0, 1), (11, .lreturn, 1), (12, .aload_n 0, 1), (13, .getfield 24, 3), (16, .aload_n 0, 1), (17, .getfield 35, 3), (20, .aload_n 1, 1), (21, .aastore, 1), (22, .aload_n 0, 1), (23, .getfield 28, 3), (26, .aload_n 0, 1), (27, .getfield 35, 3), (30, .iload_n 2, 1), (31, .iastore, 1), (32, .aload_n 0, 1), (33, .dup, 1), (34, .getfield 35, 3), (37, .iconst 1, 1), (38, .iadd, 1), (39, .putfield 35, 3), (42, .ldc2_w 159, 3), (45, .aload_n 0, 1), (46, .getfield 35, 3), (49, .i2l, 1), (50, .ladd, 1), (51, .lconst 1, 1), (52, .lsub, 1), (53, .lreturn, 1)]
def pt_115 : List (Nat × Instr × Nat) := [(0, .aload_n 0, 1), (1, .aload_n 1, 1), (2, .getfield 129, 3), (5, .iconst 0, 1), (6, .aaload, 1), (7, .iload_n 2, 1), (8, .invokevirtual 109, 3), (11, .lstore 4, 2), (13, .lload 4, 2), (15, .l2i, 1), (16, .istore 6, 2), (18, .lload 4, 2), (20, .invokestatic 57, 3), (23, .ifCond .eq 17, 3), (26, .iload 6, 2), (28, .ifCond .lt 12, 3), (31, .iload 6, 2), (33, .aload_n 0, 1), (34, .getfield 35, 3), (37, .if_icmp .lt 9, 3), (40, .aload_n 0, 1), (41, .iconst 1, 1), (42, .invokevirtual 68, 3), (45, .lreturn, 1), (46, .aload_n 0, 1), (47, .getfield 24, 3), (50, .iload 6, 2), (52, .aaload, 1), (53, .astore 7, 2), (55, .aload_n 0, 1), (56, .aload_n 1, 1), (57, .getfield 129, 3), (60, .iconst 1, 1), (61, .aaload, 1), (62, .iload_n 2, 1), (63, .invokevirtual 109, 3), (66, .lstore 8, 2), (68, .aload_n 0, 1), (69, .aload 7, 2), (71, .getfield 133, 3), (74, .lload 8, 2), (76, .aload_n 0, 1), (77, .getfield 28, 3), (80, .iload 6, 2), (82, .iaload, 1), (83, .invokevirtual 101, 3), (86, .istore 10, 2), (88, .aload_n 0, 1), (89, .aload 7, 2), (91, .getfield 136, 3), (94, .iconst 0, 1), (95, .aaload, 1), (96, .iload 10, 2), (98, .iload_n 3, 1), (99, .iconst 1, 1), (100, .iadd, 1), (101, .invokevirtual 53, 3), (104, .lreturn, 1)]
def pt_116 : List (Nat × Instr × Nat) := [(0, .aload_n 1, 1), (1, .getfield 151, 3), (4, .ifCond .ne 11, 3), (7, .aload_n 1, 1), (8, .getfield 156, 3), (11, .invokestatic 148, 3), (14, .lreturn, 1), (15, .iload_n 2, 1), (16, .istore_n 3, 1), (17, .iconst 0, 1), (18, .istore 4, 2), (20, .iload 4, 2), (22, .sipush 800, 3), (25, .if_icmp .ge 40, 3), (28, .iload_n 3, 1), (29, .ifCond .lt 36, 3), (32, .aload_n 0, 1), (33, .getfield 11, 3), (36, .iload_n 3, 1), (37, .iaload, 1), (38, .aload_n 1, 1), (39, .getfield 156, 3), (42, .if_icmp .ne 10, 3), (45, .aload_n 0, 1), (46, .getfield 15, 3), (49, .iload_n 3, 1), (50, .laload, 1), (51, .lreturn, 1), (52, .aload_n 0, 1), (53, .getfield 19, 3), (56, .iload_n 3, 1), (57, .iaload, 1), (58, .istore_n 3, 1), (59, .iinc 4 1, 3), (62, .goto (-42), 3), (65, .lconst 0, 1), (66, .lreturn, 1)]
def pt_117 : List (Nat × Instr × Nat) := [(0, .iload_n 0, 1), (1, .i2l, 1), (2, .ldc2_w 161, 3), (5, .land, 1), (6, .lreturn, 1)]
def pt_118 : List (Nat × Instr × Nat) := [(0, .lload_n 0, 1), (1, .ldc2_w 159, 3), (4, .lcmp, 1), (5, .ifCond .lt 7, 3), (8, .iconst 1, 1), (9, .goto 4, 3), (12, .iconst 0, 1), (13, .ireturn, 1)]
def pt_119 : List (Nat × Instr × Nat) := [(0, .aload_n 0, 1), (1, .getfield 31, 3), (4, .sipush 800, 3), (7, .if_icmp .lt 6, 3), (10, .iload 4, 2), (12, .ireturn, 1), (13, .aload_n 0, 1), (14, .getfield 11, 3), (17, .aload_n 0, 1), (18, .getfield 31, 3), (21, .iload_n 1, 1), (22, .iastore, 1), (23, .aload_n 0, 1), (24, .getfield 15, 3), (27, .aload_n 0, 1), (28, .getfield 31, 3), (31, .lload_n 2, 1), (32, .lastore, 1), (33, .aload_n 0, 1), (34, .getfield 19, 3), (37, .aload_n 0, 1), (38, .getfield 31, 3), (41, .iload 4, 2), (43, .iastore, 1), (44, .aload_n 0, 1), (45, .dup, 1), (46, .getfield 31, 3), (49, .iconst 1, 1), (50, .iadd, 1), (51, .putfield 31, 3), (54, .aload_n 0, 1), (55, .getfield 31, 3), (58, .iconst 1, 1), (59, .isub, 1), (60, .ireturn, 1)]
def pt_120 : List (Nat × Instr × Nat) := [(0, .aload_n 0, 1), (1, .aload_n 1, 1), (2, .getfield 129, 3), (5, .iconst 0, 1), (6, .aaload, 1), (7, .iload_n 2, 1), (8, .invokevirtual 109, 3), (11, .lstore_n 3, 1), (12, .aload_n 0, 1), (13, .aload_n 1, 1), (14, .getfield 129, 3), (17, .iconst 1, 1), (18, .aaload, 1), (19, .iload_n 2, 1), (20, .invokevirtual 109, 3), (23, .lstore 5, 2), (25, .lload_n 3, 1), (26, .invokestatic 57, 3), (29, .ifCond .ne 11, 3), (32, .lload 5, 2), (34, .invokestatic 57, 3), (37, .ifCond .eq 9, 3), (40, .aload_n 0, 1), (41, .iconst 2, 1), (42, .invokevirtual 68, 3), (45, .lreturn, 1), (46, .aload_n 1, 1), (47, .getfield 133, 3), (50, .lload 5, 2), (52, .l2i, 1), (53, .invokestatic 140, 3), (56, .ifCond .eq 9, 3), (59, .aload_n 0, 1), (60, .iconst 3, 1), (61, .invokevirtual 68, 3), (64, .lreturn, 1), (65, .aload_n 1, 1), (66, .getfield 133, 3), (69, .lload_n 3, 1), (70, .l2i, 1), (71, .lload 5, 2), (73, .l2i, 1), (74, .invokestatic 144, 3), (77, .invokestatic 148, 3), (80, .lreturn, 1)]
def pt_121 : List (Nat × Instr × Nat) := [(0, .aload_n 0, 1), (1, .aload_n 1, 1), (2, .getfield 129, 3), (5, .iconst 0, 1), (6, .aaload, 1), (7, .iload_n 2, 1), (8, .invokevirtual 109, 3), (11, .lstore 4, 2), (13, .lload 4, 2), (15, .invokestatic 57, 3), (18, .ifCond .eq 9, 3), (21, .aload_n 0, 1), (22, .iconst 2, 1), (23, .invokevirtual 68, 3), (26, .lreturn, 1), (27, .aload_n 1, 1), (28, .getfield 136, 3), (31, .lload 4, 2), (33, .lconst 0, 1), (34, .lcmp, 1), (35, .ifCond .ne 7, 3), (38, .iconst 1, 1), (39, .goto 4, 3), (42, .iconst 0, 1), (43, .aaload, 1), (44, .astore 6, 2), (46, .aload_n 0, 1), (47, .aload 6, 2), (49, .iload_n 2, 1), (50, .iload_n 3, 1), (51, .iconst 1, 1), (52, .iadd, 1), (53, .invokevirtual 53, 3), (56, .lreturn, 1)]
def pt_122 : List (Nat × Instr × Nat) := [(0, .iload_n 0, 1), (1, .iload_n 1, 1), (2, .if_icmp .lt 7, 3), (5, .iload_n 0, 1), (6, .goto 4, 3), (9, .iload_n 1, 1), (10, .ireturn, 1)]
def pt_123 : List (Nat × Instr × Nat) := [(0, .iload_n 0, 1), (1, .iload_n 1, 1), (2, .if_icmp .gt 7, 3), (5, .iload_n 0, 1), (6, .goto 4, 3), (9, .iload_n 1, 1), (10, .ireturn, 1)]
def pt_124 : List (Nat × Instr × Nat) := [(0, .aload_n 0, 1), (1, .invokespecial 1, 3), (4, .return_, 1)]
def pt_125 : List (Nat × Instr × Nat) := [(0, .aload_n 0, 1), (1, .invokespecial 1, 3), (4, .aload_n 0, 1), (5, .iconst 0, 1), (6, .putfield 7, 3), (9, .return_, 1)]
def pt_126 : List (Nat × Instr × Nat) := [(0, .aload_n 0, 1), (1, .invokespecial 1, 3), (4, .aload_n 0, 1), (5, .getstatic 39, 3), (8, .putfield 9, 3), (11, .return_, 1)]
def pt_127 : List (Nat × Instr × Nat) := [(0, .aload_n 0, 1), (1, .dup, 1), (2, .getfield 63, 3), (5, .iconst 1, 1), (6, .iadd, 1), (7, .putfield 63, 3), (10, .aload_n 0, 1), (11, .aload_n 1, 1), (12, .aload_n 0, 1), (13, .getfield 9, 3), (16, .aload_n 0, 1), (17, .getfield 48, 3), (20, .invokevirtual 131, 3), (23, .iconst 1, 1), (24, .ireturn, 1)]
def pt_128 : List (Nat × Instr × Nat) := [(0, .iload_n 3, 1), (1, .aload_n 2, 1), (2, .arraylength, 1), (3, .if_icmp .ne 8, 3), (6, .aload_n 0, 1), (7, .invokevirtual 129, 3), (10, .astore_n 2, 1), (11, .aload_n 2, 1), (12, .iload_n 3, 1), (13, .aload_n 1, 1), (14, .aastore, 1), (15, .aload_n 0, 1), (16, .iload_n 3, 1), (17, .iconst 1, 1), (18, .iadd, 1), (19, .putfield 48, 3), (22, .return_, 1)]
def pt_129 : List (Nat × Instr × Nat) := [(0, .aload_n 0, 1), (1, .aload_n 0, 1), (2, .getfield 48, 3), (5, .iconst 1, 1), (6, .iadd, 1), (7, .invokevirtual 69, 3), (10, .areturn, 1)]
def pt_130 : List (Nat × Instr × Nat) := [(0, .aload_n 0, 1), (1, .getfield 9, 3), (4, .arraylength, 1), (5, .istore_n 2, 1), (6, .iload_n 2, 1), (7, .ifCond .gt 13, 3), (10, .aload_n 0, 1), (11, .getfield 9, 3), (14, .getstatic 39, 3), (17, .if_acmp .eq 28, 3), (20, .iload_n 2, 1), (21, .iload_n 1, 1), (22, .iload_n 2, 1), (23, .isub, 1), (24, .iload_n 2, 1), (25, .iconst 1, 1), (26, .ishr, 1), (27, .invokestatic 73, 3), (30, .istore_n 3, 1), (31, .aload_n 0, 1), (32, .aload_n 0, 1), (33, .getfield 9, 3), (36, .iload_n 3, 1), (37, .invokestatic 66, 3), (40, .dup_x1, 1), (41, .putfield 9, 3), (44, .areturn, 1), (45, .aload_n 0, 1), (46, .bipush 10, 2), (48, .iload_n 1, 1), (49, .invokestatic 79, 3), (52, .anewarray 7, 3), (55, .dup_x1, 1), (56, .putfield 9, 3), (59, .areturn, 1)]
def pt_131 : List (Nat × Instr × Nat) := [(0, .aload_n 0, 1), (1, .getfield 48, 3), (4, .ireturn, 1)]
def pt_132 : List (Nat × Instr × Nat) := [(0, .iload_n 1, 1), (1, .aload_n 0, 1), (2, .getfield 48, 3), (5, .invokestatic 118, 3), (8, .pop, 1), (9, .aload_n 0, 1), (10, .iload_n 1, 1), (11, .invokevirtual 123, 3), (14, .areturn, 1)]
def pt_133 : List (Nat × Instr × Nat) := [(0, .aload_n 0, 1), (1, .getfield 9, 3), (4, .iload_n 1, 1), (5, .aaload, 1), (6, .areturn, 1)]
def pt_134 : List (Nat × Instr × Nat) := [(0, .iload_n 1, 1), (1, .aload_n 0, 1), (2, .getfield 48, 3), (5, .invokestatic 118, 3), (8, .pop, 1), (9, .aload_n 0, 1), (10, .getfield 9, 3), (13, .astore_n 2, 1), (14, .aload_n 2, 1), (15, .iload_n 1, 1), (16, .aaload, 1), (17, .astore_n 3, 1), (18, .aload_n 0, 1), (19, .aload_n 2, 1), (20, .iload_n 1, 1), (21, .invokevirtual 144, 3), (24, .aload_n 3, 1), (25, .areturn, 1)]
def pt_135 : List (Nat × Instr × Nat) := [(0, .aload_n 0, 1), (1, .dup, 1), (2, .getfield 63, 3), (5, .iconst 1, 1), (6, .iadd, 1), (7, .putfield 63, 3), (10, .aload_n 0, 1), (11, .getfield 48, 3), (14, .iconst 1, 1), (15, .isub, 1), (16, .dup, 1), (17, .istore_n 3, 1), (18, .iload_n 2, 1), (19, .if_icmp .le 15, 3), (22, .aload_n 1, 1), (23, .iload_n 2, 1), (24, .iconst 1, 1), (25, .iadd, 1), (26, .aload_n 1, 1), (27, .iload_n 2, 1), (28, .iload_n 3, 1), (29, .iload_n 2, 1), (30, .isub, 1), (31, .invokestatic 112, 3), (34, .aload_n 1, 1), (35, .aload_n 0, 1), (36, .iload_n 3, 1), (37, .dup_x1, 1), (38, .putfield 48, 3), (41, .aconst_null, 1), (42, .aastore, 1), (43, .return_, 1)]
def pt_136 : List (Nat × Instr × Nat) := [(0, .aload_n 0, 1), (1, .iload_n 1, 1), (2, .invokevirtual 135, 3), (5, .aload_n 0, 1), (6, .dup, 1), (7, .getfield 63, 3), (10, .iconst 1, 1), (11, .iadd, 1), (12, .putfield 63, 3), (15, .aload_n 0, 1), (16, .getfield 48, 3), (19, .dup, 1), (20, .istore_n 3, 1), (21, .aload_n 0, 1), (22, .getfield 9, 3), (25, .dup, 1), (26, .astore 4, 2), (28, .arraylength, 1), (29, .if_icmp .ne 9, 3), (32, .aload_n 0, 1), (33, .invokevirtual 129, 3), (36, .astore 4, 2), (38, .aload 4, 2), (40, .iload_n 1, 1), (41, .aload 4, 2), (43, .iload_n 1, 1), (44, .iconst 1, 1), (45, .iadd, 1), (46, .iload_n 3, 1), (47, .iload_n 1, 1), (48, .isub, 1), (49, .invokestatic 112, 3), (52, .aload 4, 2), (54, .iload_n 1, 1), (55, .aload_n 2, 1), (56, .aastore, 1), (57, .aload_n 0, 1), (58, .iload_n 3, 1), (59, .iconst 1, 1), (60, .iadd, 1), (61, .putfield 48, 3), (64, .return_, 1)]
def pt_137 : List (Nat × Instr × Nat) := [(0, .iload_n 1, 1), (1, .aload_n 0, 1), (2, .getfield 48, 3), (5, .if_icmp .gt 7, 3), (8, .iload_n 1, 1), (9, .ifCond .ge 16, 3), (12, .new 187, 3), (15, .dup, 1), (16, .aload_n 0, 1), (17, .iload_n 1, 1), (18, .invokevirtual 198, 3), (21, .invokespecial 193, 3), (24, .athrow, 1), (25, .return_, 1)]
def pt_138 : List (Nat × Instr × Nat) := [(0, .aload_n 0, 1), (1, .iload_n 1, 1), (2, .aload_n 0, 1), (3, .invokevirtual 86, 3), (6, .invokestatic 300, 3), (9, .areturn, 1)]
def pt_139 : List (Nat × Instr × Nat) := [(0, .aload_n 2, 1), (1, .ldc 110, 2), (3, .if_acmp .ne 10, 3), (6, .iload_n 1, 1), (7, .anewarray 2, 3), (10, .goto 14, 3), (13, .aload_n 2, 1), (14, .invokevirtual 90, 3), (17, .iload_n 1, 1), (18, .invokestatic 95, 3), (21, .checkcast 110, 3), (24, .astore_n 3, 1), (25, .aload_n 0, 1), (26, .iconst 0, 1), (27, .aload_n 3, 1), (28, .iconst 0, 1), (29, .aload_n 0, 1), (30, .arraylength, 1), (31, .iload_n 1, 1), (32, .invokestatic 304, 3), (35, .invokestatic 150, 3), (38, .aload_n 3, 1), (39, .areturn, 1)]
def pt_140 : List (Nat × Instr × Nat) := [(0, .iload_n 0, 1), (1, .iload_n 1, 1), (2, .aconst_null, 1), (3, .invokestatic 105, 3), (6, .ireturn, 1)]
def pt_141 : List (Nat × Instr × Nat) := [(0, .iload_n 0, 1), (1, .iload_n 1, 1), (2, .iload_n 2, 1), (3, .invokestatic 194, 3), (6, .iadd, 1), (7, .istore_n 3, 1), (8, .iconst 0, 1), (9, .iload_n 3, 1), (10, .if_icmp .ge 11, 3), (13, .iload_n 3, 1), (14, .ldc 200, 2), (16, .if_icmp .gt 5, 3), (19, .iload_n 3, 1), (20, .ireturn, 1), (21, .iload_n 0, 1), (22, .iload_n 1, 1), (23, .invokestatic 201, 3), (26, .ireturn, 1)]
def pt_142 : List (Nat × Instr × Nat) := [(0, .iload_n 0, 1), (1, .iload_n 1, 1), (2, .iadd, 1), (3, .istore_n 2, 1), (4, .iload_n 2, 1), (5, .ifCond .ge 44, 3), (8, .new 204, 3), (11, .dup, 1), (12, .new 89, 3), (15, .dup, 1), (16, .invokespecial 91, 3), (19, .ldc 206, 2), (21, .invokevirtual 94, 3), (24, .iload_n 0, 1), (25, .invokevirtual 98, 3), (28, .ldc 208, 2), (30, .invokevirtual 94, 3), (33, .iload_n 1, 1), (34, .invokevirtual 98, 3), (37, .ldc 210, 2), (39, .invokevirtual 94, 3), (42, .invokevirtual 101, 3), (45, .invokespecial 212, 3), (48, .athrow, 1), (49, .iload_n 2, 1), (50, .ldc 200, 2), (52, .if_icmp .gt 6, 3), (55, .ldc 200, 2), (57, .ireturn, 1), (58, .iload_n 2, 1), (59, .ireturn, 1)]
def pt_143 : List (Nat × Instr × Nat) := [(0, .iload_n 0, 1), (1, .ifCond .lt 8, 3), (4, .iload_n 0, 1), (5, .iload_n 1, 1), (6, .if_icmp .lt 10, 3), (9, .aload_n 2, 1), (10, .iload_n 0, 1), (11, .iload_n 1, 1), (12, .invokestatic 95, 3), (15, .athrow, 1), (16, .iload_n 0, 1), (17, .ireturn, 1)]
def pt_144 : List (Nat × Instr × Nat) := [(0, .aload_n 1, 1), (1, .iconst 0, 1), (2, .aload_n 0, 1), (3, .invokevirtual 7, 3), (6, .i2l, 1), (7, .lastore, 1), (8, .goto 9, 3), (11, .astore_n 2, 1), (12, .iconst 1, 1), (13, .ireturn, 1), (14, .astore_n 2, 1), (15, .iconst 2, 1), (16, .ireturn, 1), (17, .iconst 0, 1), (18, .ireturn, 1)]
def pt_145 : List (Nat × Instr × Nat) := [(0, .aload_n 1, 1), (1, .iconst 0, 1), (2, .aload_n 0, 1), (3, .invokevirtual 17, 3), (6, .i2l, 1), (7, .lastore, 1), (8, .goto 6, 3), (11, .astore_n 2, 1), (12, .iconst 1, 1), (13, .ireturn, 1), (14, .iconst 0, 1), (15, .ireturn, 1)]
def pt_146 : List (Nat × Instr × Nat) := [(0, .aload_n 1, 1), (1, .iconst 0, 1), (2, .aload_n 0, 1), (3, .invokevirtual 22, 3), (6, .i2l, 1), (7, .lastore, 1), (8, .goto 6, 3), (11, .astore_n 2, 1), (12, .iconst 1, 1), (13, .ireturn, 1), (14, .iconst 0, 1), (15, .ireturn, 1)]
def pt_147 : List (Nat × Instr × Nat) := [(0, .aload_n 2, 1), (1, .iconst 0, 1), (2, .aload_n 0, 1), (3, .iload_n 1, 1), (4, .invokevirtual 25, 3), (7, .i2l, 1), (8, .lastore, 1), (9, .goto 6, 3), (12, .astore_n 3, 1), (13, .iconst 1, 1), (14, .ireturn, 1), (15, .iconst 0, 1), (16, .ireturn, 1)]
def pt_148 : List (Nat × Instr × Nat) := [(0, .aload_n 2, 1), (1, .iconst 0, 1), (2, .aload_n 0, 1), (3, .iload_n 1, 1), (4, .invokevirtual 31, 3), (7, .i2l, 1), (8, .lastore, 1), (9, .goto 6, 3), (12, .astore_n 3, 1), (13, .iconst 1, 1), (14, .ireturn, 1), (15, .iconst 0, 1), (16, .ireturn, 1)]
def pt_149 : List (Nat × Instr × Nat) := [(0, .aload_n 1, 1), (1, .iconst 0, 1), (2, .aload_n 0, 1), (3, .invokevirtual 34, 3), (6, .i2l, 1), (7, .lastore, 1), (8, .goto 6, 3), (11, .astore_n 2, 1), (12, .iconst 1, 1), (13, .ireturn, 1), (14, .iconst 0, 1), (15, .ireturn, 1)]
def pt_150 : List (Nat × Instr × Nat) := [(0, .aload_n 2, 1), (1, .iconst 0, 1), (2, .aload_n 0, 1), (3, .iload_n 1, 1), (4, .invokevirtual 37, 3), (7, .i2l, 1), (8, .lastore, 1), (9, .goto 6, 3), (12, .astore_n 3, 1), (13, .iconst 1, 1), (14, .ireturn, 1), (15, .iconst 0, 1), (16, .ireturn, 1)]
def pt_151 : List (Nat × Instr × Nat) := [(0, .new 8, 3), (3, .dup, 1), (4, .invokespecial 40, 3), (7, .astore_n 1, 1), (8, .new 41, 3), (11, .dup, 1), (12, .invokespecial 43, 3), (15, .astore_n 2, 1), (16, .iconst 1, 1), (17, .newarray .long, 2), (19, .astore_n 3, 1), (20, .iconst 0, 1), (21, .istore 4, 2), (23, .iload 4, 2), (25, .aload_n 0, 1), (26, .arraylength, 1), (27, .iconst 2, 1), (28, .isub, 1), (29, .if_icmp .gt 430, 3), (32, .aload_n 0, 1), (33, .iload 4, 2), (35, .iaload, 1), (36, .bipush 7, 2), (38, .iand, 1), (39, .tableswitch 414 0 7 #[45, 70, 114, 158, 202, 258, 314, 358], 45), (84, .aload_n 1, 1), (85, .aload_n 0, 1), (86, .iload 4, 2), (88, .iconst 1, 1), (89, .iadd, 1), (90, .iaload, 1), (91, .invokevirtual 44, 3), (94, .aload_n 2, 1), (95, .aload_n 0, 1), (96, .iload 4, 2), (98, .iconst 1, 1), (99, .iadd, 1), (100, .iaload, 1), (101, .invokevirtual 48, 3), (104, .if_icmp .eq 349, 3), (107, .iconst 0, 1), (108, .ireturn, 1), (109, .aload_n 1, 1), (110, .aload_n 3, 1), (111, .invokestatic 49, 3), (114, .istore 5, 2), (116, .aload_n 2, 1), (117, .invokevirtual 54, 3), (120, .istore 6, 2), (122, .aload_n 2, 1), (123, .invokevirtual 55, 3), (126, .iload 5, 2), (128, .if_icmp .eq 5, 3), (131, .iconst 0, 1), (132, .ireturn, 1), (133, .iload 5, 2), (135, .ifCond .ne 15, 3), (138, .aload_n 3, 1), (139, .iconst 0, 1), (140, .laload, 1), (141, .iload 6, 2), (143, .i2l, 1), (144, .lcmp, 1), (145, .ifCond .eq 5, 3), (148, .iconst 0, 1), (149, .ireturn, 1), (150, .goto 303, 3), (153, .aload_n 1, 1), (154, .aload_n 3, 1), (155, .invokestatic 58, 3), (158, .istore 5, 2), (160, .aload_n 2, 1), (161, .invokevirtual 60, 3), (164, .istore 6, 2), (166, .aload_n 2, 1), (167, .invokevirtual 55, 3), (170, .iload 5, 2), (172, .if_icmp .eq 5, 3), (175, .iconst 0, 1), (176, .ireturn, 1), (177, .iload 5, 2), (179, .ifCond .ne 15, 3), (182, .aload_n 3, 1), (183, .iconst 0, 1), (184, .laload, 1), (185, .iload 6, 2), (187, .i2l, 1), (188, .lcmp, 1), (189, .ifCond .eq 5, 3), (192, .iconst 0, 1), (193, .ireturn, 1), (194, .goto 259, 3), (197, .aload_n 1, 1), (198, .aload_n 3, 1), (199, .invokestatic 61, 3), (202, .istore 5, 2), (204, .aload_n 2, 1), (205, .invokevirtual 63, 3), (208, .istore 6, 2), (210, .aload_n 2, 1), (211, .invokevirtual 55, 3), (214, .iload 5, 2), (216, .if_icmp .eq 5, 3), (219, .iconst 0, 1), (220, .ireturn, 1), (221, .iload 5, 2), (223, .ifCond .ne 15, 3), (226, .aload_n 3, 1), (227, .iconst 0, 1), (228, .laload, 1), (229, .iload 6, 2), (231, .i2l, 1), (232, .lcmp, 1), (233, .ifCond .eq 5, 3), (236, .iconst 0, 1), (237, .ireturn, 1), (238, .goto 215, 3), (241, .aload_n 1, 1), (242, .aload_n 0, 1), (243, .iload 4, 2), (245, .iconst 1, 1), (246, .iadd, 1), (247, .iaload, 1), (248, .aload_n 3, 1), (249, .invokestatic 64, 3), (252, .istore 5, 2), (254, .aload_n 2, 1), (255, .aload_n 0, 1), (256, .iload 4, 2), (258, .iconst 1, 1), (259, .iadd, 1), (260, .iaload, 1), (261, .invokevirtual 67, 3), (264, .istore 6, 2), (266, .aload_n 2, 1), (267, .invokevirtual 55, 3), (270, .iload 5, 2), (272, .if_icmp .eq 5, 3), (275, .iconst 0, 1), (276, .ireturn, 1), (277, .iload 5, 2), (279, .ifCond .ne 15, 3), (282, .aload_n 3, 1), (283, .iconst 0, 1), (284, .laload, 1), (285, .iload 6, 2), (287, .i2l, 1), (288, .lcmp, 1), (289, .ifCond .eq 5, 3), (292, .iconst 0, 1), (293, .ireturn, 1), (294, .goto 159, 3), (297, .aload_n 1, 1), (298, .aload_n 0, 1), (299, .iload 4, 2), (301, .iconst 1, 1), (302, .iadd, 1), (303, .iaload, 1), (304, .aload_n 3, 1), (305, .invokestatic 68, 3), (308, .istore 5, 2), (310, .aload_n 2, 1), (311, .aload_n 0, 1), (312, .iload 4, 2), (314, .iconst 1, 1), (315, .iadd, 1), (316, .iaload, 1), (317, .invokevirtual 70, 3), (320, .istore 6, 2), (322, .aload_n 2, 1), (323, .invokevirtual 55, 3), (326, .iload 5, 2), (328, .if_icmp .eq 5, 3), (331, .iconst 0, 1), (332, .ireturn, 1), (333, .iload 5, 2), (335, .ifCond .ne 15, 3), (338, .aload_n 3, 1), (339, .iconst 0, 1), (340, .laload, 1), (341, .iload 6, 2), (343, .i2l, 1), (344, .lcmp, 1), (345, .ifCond .eq 5, 3), (348, .iconst 0, 1), (349, .ireturn, 1), (350, .goto 103, 3), (353, .aload_n 1, 1), (354, .aload_n 3, 1), (355, .invokestatic 71, 3), (358, .istore 5, 2), (360, .aload_n 2, 1), (361, .invokevirtual 73, 3), (364, .istore 6, 2), (366, .aload_n 2, 1), (367, .invokevirtual 55, 3), (370, .iload 5, 2), (372, .if_icmp .eq 5, 3), (375, .iconst 0, 1), (376, .ireturn, 1), (377, .iload 5, 2), (379, .ifCond .ne 15, 3), (382, .aload_n 3, 1), (383, .iconst 0, 1), (384, .laload, 1), (385, .iload 6, 2), (387, .i2l, 1), (388, .lcmp, 1), (389, .ifCond .eq 5, 3), (392, .iconst 0, 1), (393, .ireturn, 1), (394, .goto 59, 3), (397, .aload_n 1, 1), (398, .aload_n 0, 1), (399, .iload 4, 2), (401, .iconst 1, 1), (402, .iadd, 1), (403, .iaload, 1), (404, .aload_n 3, 1), (405, .invokestatic 74, 3), (408, .istore 5, 2), (410, .aload_n 2, 1), (411, .aload_n 0, 1), (412, .iload 4, 2), (414, .iconst 1, 1), (415, .iadd, 1), (416, .iaload, 1), (417, .invokevirtual 76, 3), (420, .istore 6, 2), (422, .aload_n 2, 1), (423, .invokevirtual 55, 3), (426, .iload 5, 2), (428, .if_icmp .eq 5, 3), (431, .iconst 0, 1), (432, .ireturn, 1), (433, .iload 5, 2), (435, .ifCond .ne 15, 3), (438, .aload_n 3, 1), (439, .iconst 0, 1), (440, .laload, 1), (441, .iload 6, 2), (443, .i2l, 1), (444, .lcmp, 1), (445, .ifCond .eq 5, 3), (448, .iconst 0, 1), (449, .ireturn, 1), (450, .goto 3, 3), (453, .iinc 4 2, 3), (456, .goto (-433), 3), (459, .iconst 1, 1), (460, .ireturn, 1)]
def ptabs : List (List (Nat × Instr × Nat)) := [pt_0, pt_1, pt_2, pt_3, pt_4, pt_5, pt_6, pt_7, pt_8, pt_9, pt_10, pt_11, pt_12, pt_13, pt_14, pt_15, pt_16, pt_17, pt_18, pt_19, pt_20, pt_21, pt_22, pt_23, pt_24, pt_25, pt_26, pt_27, pt_28, pt_29, pt_30, pt_31, pt_32, pt_33, pt_34, pt_35, pt_36, pt_37, pt_38, pt_39, pt_40, pt_41, pt_42, pt_43, pt_44, pt_45, pt_46, pt_47, pt_48, pt_49, pt_50, pt_51, pt_52, pt_53, pt_54, pt_55, pt_56, pt_57, pt_58, pt_59, pt_60, pt_61, pt_62, pt_63, pt_64, pt_65, pt_66, pt_67, pt_68, pt_69, pt_70, pt_71, pt_72, pt_73, pt_74, pt_75, pt_76, pt_77, pt_78, pt_79, pt_80, pt_81, pt_82, pt_83, pt_84, pt_85, pt_86, pt_87, pt_88, pt_89, pt_90, pt_91, pt_92, pt_93, pt_94, pt_95, pt_96, pt_97, pt_98, pt_99, pt_100, pt_101, pt_102, pt_103, pt_104, pt_105, pt_106, pt_107, pt_108, pt_109, pt_110, pt_111, pt_112, pt_113, pt_114, pt_115, pt_116, pt_117, pt_118, pt_119, pt_120, pt_121, pt_122, pt_123, pt_124, pt_125, pt_126, pt_127, pt_128, pt_129, pt_130, pt_131, pt_132, pt_133, pt_134, pt_135, pt_136, pt_137, pt_138, pt_139, pt_140, pt_141, pt_142, pt_143, pt_144, pt_145, pt_146, pt_147, pt_148, pt_149, pt_150, pt_151]
/-- the instruction at pc of the method m, and its length -/
def pin (m pc : Nat) : Option (Instr × Nat) := ((ptabs.getD m []).find? (fun q => q.1 == pc)).map (fun q => q.2)
def pchk (m : Nat) : Bool := (ptabs.getD m []).all fun q => match decode (mbyt m) q.1 with
  | .ok r => decide (r = q.2)
  | .error _ => false
end
section
theorem pchk_0 : ((List.range 8).map (· + 0)).all pchk = true := by decide +kernel
theorem pchk_8 : ((List.range 8).map (· + 8)).all pchk = true := by decide +kernel
theorem pchk_16 : ((List.range 8).map (· + 16)).all pchk = true := by decide +kernel
theorem pchk_24 : ((List.range 8).map (· + 24)).all pchk = true := by decide +kernel
theorem pchk_32 : ((List.range 8).map (· + 32)).all pchk = true := by decide +kernel
theorem pchk_40 : ((List.range 8).map (· + 40)).all pchk = true := by decide +kernel
theorem pchk_48 : ((List.range 8).map (· + 48)).all pchk = true := by decide +kernel
theorem pchk_56 : ((List.range 8).map (· + 56)).all pchk = true := by decide +kernel
theorem pchk_64 : ((List.range 8).map (· + 64)).all pchk = true := by decide +kernel
theorem pchk_72 : ((List.range 8).map (· + 72)).all pchk = true := by decide +kernel
theorem pchk_80 : ((List.range 8).map (· + 80)).all pchk = true := by decide +kernel
theorem pchk_88 : ((List.range 8).map (· + 88)).all pchk = true := by decide +kernel
theorem pchk_96 : ((List.range 8).map (· + 96)).all pchk = true := by decide +kernel
theorem pchk_104 : ((List.range 8).map (· + 104)).all pchk = true := by decide +kernel
theorem pchk_112 : ((List.range 8).map (· + 112)).all pchk = true := by decide +kernel
theorem pchk_120 : ((List.range 8).map (· + 120)).all pchk = true := by decide +kernel
theorem pchk_128 : ((List.range 8).map (· + 128)).all pchk = true := by decide +kernel
theorem pchk_136 : ((List.range 8).map (· + 136)).all pchk = true := by decide +kernel
theorem pchk_144 : ((List.range 8).map (· + 144)).all pchk = true := by decide +kernel
theorem pchk_all {m : Nat} (h : m < 152) : pchk m = true := by
  by_cases h0 : m < 8
  · exact List.all_eq_true.mp pchk_0 m (List.mem_map.mpr ⟨m - 0, List.mem_range.mpr (by omega), by omega⟩)
  by_cases h8 : m < 16
  · exact List.all_eq_true.mp pchk_8 m (List.mem_map.mpr ⟨m - 8, List.mem_range.mpr (by omega), by omega⟩)
  by_cases h16 : m < 24
  · exact List.all_eq_true.mp pchk_16 m (List.mem_map.mpr ⟨m - 16, List.mem_range.mpr (by omega), by omega⟩)
  by_cases h24 : m < 32
  · exact List.all_eq_true.mp pchk_24 m (List.mem_map.mpr ⟨m - 24, List.mem_range.mpr (by omega), by omega⟩)
  by_cases h32 : m < 40
  · exact List.all_eq_true.mp pchk_32 m (List.mem_map.mpr ⟨m - 32, List.mem_range.mpr (by omega), by omega⟩)
  by_cases h40 : m < 48
  · exact List.all_eq_true.mp pchk_40 m (List.mem_map.mpr ⟨m - 40, List.mem_range.mpr (by omega), by omega⟩)
  by_cases h48 : m < 56
  · exact List.all_eq_true.mp pchk_48 m (List.mem_map.mpr ⟨m - 48, List.mem_range.mpr (by omega), by omega⟩)
  by_cases h56 : m < 64
  · exact List.all_eq_true.mp pchk_56 m (List.mem_map.mpr ⟨m - 56, List.mem_range.mpr (by omega), by omega⟩)
  by_cases h64 : m < 72
  · exact List.all_eq_true.mp pchk_64 m (List.mem_map.mpr ⟨m - 64, List.mem_range.mpr (by omega), by omega⟩)
  by_cases h72 : m < 80
  · exact List.all_eq_true.mp pchk_72 m (List.mem_map.mpr ⟨m - 72, List.mem_range.mpr (by omega), by omega⟩)
  by_cases h80 : m < 88
  · exact List.all_eq_true.mp pchk_80 m (List.mem_map.mpr ⟨m - 80, List.mem_range.mpr (by omega), by omega⟩)
  by_cases h88 : m < 96
  · exact List.all_eq_true.mp pchk_88 m (List.mem_map.mpr ⟨m - 88, List.mem_range.mpr (by omega), by omega⟩)
  by_cases h96 : m < 104
  · exact List.all_eq_true.mp pchk_96 m (List.mem_map.mpr ⟨m - 96, List.mem_range.mpr (by omega), by omega⟩)
  by_cases h104 : m < 112
  · exact List.all_eq_true.mp pchk_104 m (List.mem_map.mpr ⟨m - 104, List.mem_range.mpr (by omega), by omega⟩)
  by_cases h112 : m < 120
  · exact List.all_eq_true.mp pchk_112 m (List.mem_map.mpr ⟨m - 112, List.mem_range.mpr (by omega), by omega⟩)
  by_cases h120 : m < 128
  · exact List.all_eq_true.mp pchk_120 m (List.mem_map.mpr ⟨m - 120, List.mem_range.mpr (by omega), by omega⟩)
  by_cases h128 : m < 136
  · exact List.all_eq_true.mp pchk_128 m (List.mem_map.mpr ⟨m - 128, List.mem_range.mpr (by omega), by omega⟩)
  by_cases h136 : m < 144
  · exact List.all_eq_true.mp pchk_136 m (List.mem_map.mpr ⟨m - 136, List.mem_range.mpr (by omega), by omega⟩)
  exact List.all_eq_true.mp pchk_144 m (List.mem_map.mpr ⟨m - 144, List.mem_range.mpr (by omega), by omega⟩)
theorem ptabs_len : ptabs.length = 152 := by decide +kernel
theorem pin_lt {m pc : Nat} {r : Instr × Nat} (h : pin m pc = some r) : m < 152 := by
  rcases Nat.lt_or_ge m 152 with h1 | h1
  · exact h1
  · have e : ptabs.getD m [] = [] := by
      rw [List.getD_eq_getElem?_getD, List.getElem?_eq_none (by rw [ptabs_len]; exact h1)]
      rfl
    unfold pin at h
    rw [e] at h
    cases h
theorem pin_dec {m pc n : Nat} {i : Instr} (h : pin m pc = some (i, n)) : decode (mbyt m) pc = .ok (i, n) := by
  have hm := pin_lt h
  unfold pin at h
  cases hf : (ptabs.getD m []).find? (fun q => q.1 == pc) with
  | none => rw [hf] at h; cases h
  | some q =>
    rw [hf] at h
    have e1 := List.mem_of_find?_eq_some hf
    have e2 := List.find?_some hf
    have e3 := List.all_eq_true.mp (pchk_all hm) q e1
    have e4 : q.1 = pc := by simpa using e2
    rw [e4] at e3
    have e5 : q.2 = (i, n) := Option.some.inj h
    cases hd : decode (mbyt m) pc with
    | error x => rw [hd] at e3; cases e3
    | ok r =>
      rw [hd] at e3
      have e6 : r = q.2 := of_decide_eq_true e3
      rw [e6, e5]
end
section
/-- the arrays' element types: those that are made (0 .. 6), then the static ones and the script -/
def pat : List FieldType := [.int, .long, .boolean, .object "TermSimplifier$Atom", .object "TermSimplifier$Row", .object "TermSimplifier$Binding", .object "java/lang/Object", .int, .int, .object "java/lang/Object", .int]
/-- a field link: owner, entry, class tag, field, place of its word, 1 where it is spelled by the subclass -/
def flk : List (Nat × Nat × Nat × Nat × Nat × Nat) := [(7, 9, 3, 0, 43, 0), (7, 21, 3, 1, 44, 0), (7, 29, 3, 2, 45, 0), (7, 17, 3, 3, 46, 0), (7, 32, 3, 4, 47, 0), (7, 36, 3, 5, 48, 0), (1, 56, 3, 6, 49, 0), (7, 39, 3, 6, 50, 0), (8, 11, 5, 0, 75, 0), (8, 17, 5, 1, 76, 0), (5, 11, 8, 0, 88, 0), (1, 108, 8, 0, 89, 0), (5, 15, 8, 1, 90, 0), (1, 103, 8, 1, 91, 0), (9, 11, 4, 0, 105, 0), (9, 15, 4, 1, 106, 0), (9, 19, 4, 2, 107, 0), (9, 31, 4, 3, 108, 0), (9, 24, 4, 4, 109, 0), (9, 28, 4, 5, 110, 0), (9, 35, 4, 6, 111, 0), (9, 38, 4, 7, 112, 0), (9, 65, 4, 8, 113, 0), (1, 114, 4, 8, 114, 0), (9, 61, 4, 9, 115, 0), (1, 117, 4, 9, 116, 0), (9, 41, 4, 10, 117, 0), (1, 121, 4, 10, 118, 0), (9, 44, 4, 11, 119, 0), (1, 124, 4, 11, 120, 0), (1, 10, 9, 0, 147, 0), (1, 19, 9, 1, 148, 0), (1, 26, 9, 2, 149, 0), (1, 33, 9, 3, 150, 0), (1, 37, 9, 4, 151, 0), (13, 9, 0, 1, 223, 0), (13, 48, 0, 2, 224, 0), (12, 7, 0, 0, 225, 0), (13, 63, 0, 0, 226, 1), (2, 7, 1, 0, 241, 0), (5, 80, 1, 0, 242, 0), (8, 78, 1, 0, 243, 0), (9, 151, 1, 0, 244, 0), (2, 13, 1, 1, 245, 0), (5, 86, 1, 1, 246, 0), (8, 87, 1, 1, 247, 0), (9, 156, 1, 1, 248, 0), (7, 106, 1, 1, 249, 0), (6, 12, 7, 0, 255, 0), (5, 29, 7, 0, 256, 0), (9, 78, 7, 0, 257, 0), (8, 36, 7, 0, 258, 0), (7, 113, 7, 0, 259, 0), (6, 23, 7, 1, 260, 0), (5, 55, 7, 1, 261, 0), (9, 105, 7, 1, 262, 0), (7, 74, 7, 1, 263, 0), (8, 119, 7, 1, 264, 0), (3, 7, 2, 0, 301, 0), (9, 98, 2, 0, 302, 0), (5, 63, 2, 0, 303, 0), (8, 105, 2, 0, 304, 0), (6, 61, 2, 0, 305, 0), (3, 13, 2, 1, 306, 0), (8, 58, 2, 1, 307, 0), (5, 66, 2, 1, 308, 0), (9, 113, 2, 1, 309, 0), (3, 16, 2, 2, 310, 0), (5, 69, 2, 2, 311, 0), (8, 84, 2, 2, 312, 0), (9, 133, 2, 2, 313, 0), (3, 19, 2, 3, 314, 0), (5, 72, 2, 3, 315, 0), (8, 74, 2, 3, 316, 0), (9, 129, 2, 3, 317, 0), (6, 53, 2, 3, 318, 0), (3, 23, 2, 4, 319, 0), (6, 41, 2, 4, 320, 0), (8, 55, 2, 4, 321, 0), (5, 76, 2, 4, 322, 0), (9, 136, 2, 4, 323, 0), (4, 9, 6, 0, 413, 0), (5, 19, 6, 0, 414, 0), (8, 27, 6, 0, 415, 0), (9, 47, 6, 0, 416, 0), (1, 65, 6, 0, 417, 0), (4, 15, 6, 1, 418, 0), (1, 96, 6, 1, 419, 0), (4, 19, 6, 2, 420, 0), (8, 112, 6, 2, 421, 0), (1, 92, 6, 2, 422, 0), (0, 86, 10, 0, 798, 0), (0, 90, 10, 1, 799, 0), (0, 7, 10, 2, 800, 0), (0, 175, 10, 3, 801, 0), (0, 179, 10, 4, 802, 0), (0, 13, 10, 5, 803, 0), (0, 16, 10, 6, 804, 0), (0, 19, 10, 7, 805, 0), (0, 182, 10, 8, 806, 0), (0, 109, 10, 9, 807, 0), (0, 126, 10, 10, 808, 0), (0, 22, 10, 11, 809, 0), (0, 25, 10, 12, 810, 0), (0, 28, 10, 13, 811, 0), (0, 31, 10, 14, 812, 0), (0, 34, 10, 15, 813, 0), (0, 37, 10, 16, 814, 0), (0, 103, 10, 17, 815, 0), (0, 106, 10, 18, 816, 0), (0, 40, 10, 19, 817, 0), (0, 43, 10, 20, 818, 0), (0, 112, 10, 21, 819, 0), (0, 115, 10, 22, 820, 0), (0, 93, 10, 23, 821, 0), (0, 100, 10, 24, 822, 0), (0, 46, 10, 25, 823, 0), (0, 244, 10, 26, 824, 0), (0, 49, 10, 27, 825, 0), (0, 52, 10, 28, 826, 0), (0, 56, 10, 29, 827, 0), (0, 59, 10, 30, 828, 0), (0, 261, 10, 31, 829, 0), (0, 62, 10, 32, 830, 0), (0, 65, 10, 33, 831, 0), (0, 68, 10, 34, 832, 0), (0, 247, 10, 35, 833, 0), (0, 71, 10, 36, 834, 0), (0, 74, 10, 37, 835, 0), (0, 77, 10, 38, 836, 0), (0, 80, 10, 39, 837, 0), (0, 238, 10, 40, 838, 0), (0, 241, 10, 41, 839, 0), (0, 83, 10, 42, 840, 0)]
def pfl (o j : Nat) : Option (Nat × Nat) := (flk.find? (fun q => q.1 == o && q.2.1 == j)).map (fun q => (q.2.2.1, q.2.2.2.1))
def pcls (t : Nat) : vw_C := vwCl.getD t ("", fun _ => ("", "", "", false), 0)
def pfd (t k : Nat) : String × String × String × Bool := (pcls t).2.1 k
def pref (t k f : Nat) : String := if f = 1 then "java/util/ArrayList" else (pfd t k).1
def flkc (q : Nat × Nat × Nat × Nat × Nat × Nat) : Bool := decide (q.2.2.1 < 11) && decide (q.2.2.2.1 < (pcls q.2.2.1).2.2) && decide (tables_1[q.2.2.2.2.1]? = some (Jvm.Cond.fieldLink (cnm.getD q.1 "") q.2.1 (pref q.2.2.1 q.2.2.2.1 q.2.2.2.2.2) (pfd q.2.2.1 q.2.2.2.1).2.1 (pfd q.2.2.1 q.2.2.2.1).2.2.1)) && (decide (q.2.2.2.2.2 = 0) || decide (q.2.2.1 = 0 ∧ pfd q.2.2.1 q.2.2.2.1 = ("java/util/AbstractList", "modCount", "I", false)))
theorem flk_ok : flk.all flkc = true := by decide +kernel
theorem same_ok : tables_1[227]? = some (Jvm.Cond.sameField "java/util/ArrayList" "java/util/AbstractList" "modCount" "I") := by decide +kernel
def ulk : List (List Nat) := [[232, 228, 230], [250, 252], [324, 326, 328, 330, 332], [51, 53, 55, 57, 59, 61, 63], [121, 123, 125, 127, 129, 131, 133, 135, 137, 139, 141, 143], [77, 79], [423, 425, 427], [265, 267], [92, 94], [152, 154, 156, 158, 160], [841, 843, 845, 847, 849, 851, 853, 855, 857, 859, 861, 863, 865, 867, 869, 871, 873, 875, 877, 879, 881, 883, 885, 887, 889, 891, 893, 895, 897, 899, 901, 903, 905, 907, 909, 911, 913, 915, 917, 919, 921, 923, 925]]
theorem ulk_ok : (List.range 11).all (fun t => (List.range (pcls t).2.2).all (fun k => decide (tables_1[(ulk.getD t []).getD k 0]? = some (u_lay (pcls t).1 (pcls t).2.1 k)))) = true := by decide +kernel
def pin_inst : List (Nat × Nat) := [(210, 11), (236, 12), (296, 13), (36, 2), (98, 5), (68, 3), (408, 17), (204, 8), (83, 4), (28, 1), (793, 6)]
theorem pin_inst_ok : (List.range 11).all (fun t => decide (tables_1[(pin_inst.getD t (0, 0)).1]? = some (Jvm.Cond.instantiable (pcls t).1 (pcls t).2.2)) && decide (tables_1[(pin_inst.getD t (0, 0)).2]? = some (Jvm.Cond.initialized (pcls t).1))) = true := by decide +kernel
/-- a method link: owner, entry, callee, place of its word -/
def mlk : List (Nat × Nat × Nat × Nat) := [(18, 40, 53, 29), (1, 9, 85, 37), (1, 18, 100, 69), (1, 25, 69, 84), (1, 32, 109, 99), (18, 44, 54, 163), (1, 41, 86, 167), (18, 49, 144, 171), (18, 7, 55, 176), (1, 45, 87, 180), (7, 25, 88, 184), (7, 51, 89, 188), (7, 42, 90, 196), (7, 61, 122, 200), (7, 69, 75, 205), (6, 11, 126, 211), (13, 1, 125, 214), (12, 1, 124, 217), (6, 20, 64, 237), (7, 70, 91, 270), (7, 78, 64, 274), (7, 81, 92, 275), (7, 85, 93, 279), (7, 89, 94, 283), (7, 102, 95, 287), (7, 109, 96, 291), (7, 119, 66, 297), (7, 122, 127, 335), (13, 131, 128, 339), (13, 129, 129, 343), (13, 69, 130, 347), (13, 73, 141, 351), (16, 194, 122, 354), (16, 201, 142, 356), (13, 66, 138, 359), (14, 300, 139, 381), (14, 304, 123, 387), (13, 79, 122, 393), (7, 92, 97, 395), (7, 96, 98, 399), (7, 99, 99, 403), (7, 48, 67, 409), (1, 71, 76, 515), (6, 27, 77, 519), (6, 31, 131, 522), (6, 35, 132, 526), (13, 118, 140, 530), (15, 105, 143, 533), (13, 123, 133, 536), (18, 58, 145, 541), (18, 17, 56, 545), (1, 82, 101, 565), (8, 21, 68, 569), (8, 31, 102, 573), (8, 40, 131, 578), (8, 45, 132, 579), (8, 51, 103, 581), (8, 62, 104, 585), (8, 98, 64, 596), (8, 101, 78, 597), (6, 65, 134, 601), (13, 144, 135, 605), (8, 108, 79, 610), (6, 57, 80, 614), (6, 49, 65, 617), (8, 65, 105, 621), (8, 115, 81, 625), (6, 68, 78, 629), (6, 72, 136, 630), (13, 135, 137, 634), (8, 68, 106, 638), (8, 123, 107, 642), (8, 127, 82, 646), (8, 131, 83, 650), (6, 45, 84, 654), (8, 71, 108, 657), (18, 61, 146, 661), (18, 22, 59, 664), (18, 64, 147, 669), (18, 25, 60, 673), (18, 68, 148, 693), (18, 31, 61, 696), (1, 99, 70, 700), (5, 25, 71, 704), (5, 35, 131, 708), (5, 41, 132, 709), (5, 47, 72, 711), (5, 51, 73, 715), (5, 59, 74, 719), (18, 71, 149, 724), (18, 34, 62, 727), (1, 111, 110, 731), (9, 53, 111, 735), (9, 68, 112, 739), (9, 72, 122, 743), (9, 84, 131, 744), (9, 90, 132, 745), (9, 94, 113, 746), (9, 116, 114, 750), (9, 120, 115, 755), (9, 109, 116, 759), (9, 148, 117, 763), (9, 57, 118, 767), (9, 101, 119, 770), (9, 123, 120, 774), (9, 126, 121, 780), (18, 74, 150, 784), (18, 37, 63, 787), (18, 43, 0, 794), (18, 55, 1, 929), (18, 48, 2, 933), (18, 54, 3, 937), (0, 168, 4, 941), (0, 161, 5, 945), (0, 118, 6, 949), (0, 122, 7, 953), (0, 129, 8, 957), (0, 96, 9, 961), (0, 132, 10, 965), (0, 135, 11, 969), (0, 164, 12, 973), (0, 142, 13, 977), (0, 139, 14, 981), (0, 145, 15, 985), (0, 148, 16, 989), (0, 151, 17, 993), (0, 158, 18, 997), (0, 155, 19, 1001), (0, 171, 20, 1005), (0, 185, 21, 1009), (0, 188, 22, 1013), (18, 60, 23, 1017), (0, 235, 24, 1021), (0, 232, 25, 1025), (0, 220, 26, 1029), (0, 198, 27, 1033), (0, 202, 28, 1036), (0, 205, 29, 1040), (0, 192, 30, 1044), (0, 195, 31, 1048), (0, 223, 32, 1052), (0, 208, 33, 1056), (0, 211, 34, 1060), (0, 226, 35, 1064), (0, 214, 36, 1068), (0, 217, 37, 1072), (0, 229, 38, 1076), (18, 63, 39, 1080), (18, 67, 40, 1084), (18, 70, 41, 1088), (18, 73, 42, 1092), (0, 257, 43, 1096), (0, 276, 44, 1100), (0, 250, 45, 1104), (0, 253, 46, 1108), (0, 279, 47, 1112), (0, 264, 48, 1116), (0, 267, 49, 1120), (0, 270, 50, 1124), (0, 273, 51, 1128), (18, 76, 52, 1132)]
def pml (o j : Nat) : Option Nat := (mlk.find? (fun q => q.1 == o && q.2.1 == j)).map (fun q => q.2.2.1)
theorem mlk_ok : mlk.all (fun q => decide (tables_1[q.2.2.2]? = some (Jvm.Cond.methodLink (cnm.getD q.1 "") q.2.1 (mnam q.2.2.1)))) = true := by decide +kernel
def mln : List (Nat × Nat × Nat × Nat) := [(8, 90, 57, 589), (8, 94, 58, 593), (9, 140, 57, 778), (9, 144, 58, 779)]
def pmn (o j : Nat) : Option Nat := (mln.find? (fun q => q.1 == o && q.2.1 == j)).map (fun q => q.2.2.1)
theorem mln_ok : mln.all (fun q => decide (tables_1[q.2.2.2]? = some (Jvm.Cond.methodLinkNest (cnm.getD q.1 "") q.2.1 (mnam q.2.2.1) "TermSimplifier"))) = true := by decide +kernel
/-- a method: 0 static, 1 virtual, 2 constructor, 3 private; place of static or instanceMethod, of selects, of initialized -/
def mkt : List (Nat × Nat × Nat × Nat) := [(2, 795, 0, 6), (1, 930, 931, 6), (1, 934, 935, 6), (1, 938, 939, 6), (3, 943, 38, 6), (3, 947, 39, 6), (3, 951, 40, 6), (3, 955, 41, 6), (3, 959, 42, 6), (3, 963, 43, 6), (3, 967, 44, 6), (3, 971, 45, 6), (3, 975, 46, 6), (3, 979, 47, 6), (3, 983, 48, 6), (3, 987, 49, 6), (3, 991, 50, 6), (3, 995, 51, 6), (3, 999, 52, 6), (3, 1003, 53, 6), (3, 1007, 54, 6), (3, 1011, 55, 6), (3, 1015, 56, 6), (1, 1018, 1019, 6), (3, 1023, 57, 6), (3, 1027, 58, 6), (3, 1031, 59, 6), (0, 1034, 0, 6), (3, 1038, 60, 6), (3, 1042, 61, 6), (3, 1046, 62, 6), (3, 1050, 63, 6), (3, 1054, 64, 6), (3, 1058, 65, 6), (3, 1062, 66, 6), (3, 1066, 67, 6), (3, 1070, 68, 6), (3, 1074, 69, 6), (3, 1078, 70, 6), (1, 1081, 1082, 6), (1, 1085, 1086, 6), (1, 1089, 1090, 6), (1, 1093, 1094, 6), (3, 1098, 71, 6), (3, 1102, 72, 6), (3, 1106, 73, 6), (3, 1110, 74, 6), (3, 1114, 75, 6), (3, 1118, 76, 6), (3, 1122, 77, 6), (3, 1126, 78, 6), (3, 1130, 79, 6), (1, 1133, 1134, 6), (2, 30, 0, 1), (1, 164, 165, 1), (1, 177, 178, 1), (1, 546, 547, 1), (0, 590, 0, 1), (0, 594, 0, 1), (1, 665, 666, 1), (1, 674, 675, 1), (1, 697, 698, 1), (1, 728, 729, 1), (1, 788, 789, 1), (2, 238, 0, 12), (1, 618, 619, 12), (2, 298, 0, 13), (2, 410, 0, 17), (1, 570, 571, 17), (2, 85, 0, 4), (1, 701, 702, 4), (3, 706, 25, 4), (3, 713, 26, 4), (3, 717, 27, 4), (3, 721, 28, 4), (2, 206, 0, 8), (1, 516, 517, 8), (0, 520, 0, 8), (1, 598, 599, 8), (1, 611, 612, 8), (0, 615, 0, 8), (1, 626, 627, 8), (1, 647, 648, 8), (1, 651, 652, 8), (0, 655, 0, 8), (2, 38, 0, 2), (1, 168, 169, 2), (1, 181, 182, 2), (3, 186, 0, 2), (3, 190, 1, 2), (3, 198, 2, 2), (3, 272, 3, 2), (3, 277, 4, 2), (3, 281, 5, 2), (3, 285, 6, 2), (3, 289, 7, 2), (3, 293, 8, 2), (3, 397, 12, 2), (3, 401, 13, 2), (3, 405, 14, 2), (2, 70, 0, 3), (1, 566, 567, 3), (3, 575, 16, 3), (3, 583, 17, 3), (3, 587, 18, 3), (3, 623, 20, 3), (3, 640, 22, 3), (3, 644, 23, 3), (3, 659, 24, 3), (2, 100, 0, 5), (1, 732, 733, 5), (3, 737, 29, 5), (3, 741, 30, 5), (3, 748, 31, 5), (3, 752, 32, 5), (3, 757, 33, 5), (3, 761, 34, 5), (0, 764, 0, 5), (0, 768, 0, 5), (3, 772, 35, 5), (3, 776, 36, 5), (3, 782, 37, 5), (0, 201, 0, 7), (0, 388, 0, 7), (2, 218, 0, 9), (2, 215, 0, 10), (2, 212, 0, 11), (1, 336, 337, 11), (3, 341, 9, 11), (3, 345, 10, 11), (3, 349, 11, 11), (1, 523, 524, 11), (1, 527, 528, 11), (1, 537, 538, 11), (1, 602, 603, 11), (3, 607, 19, 11), (1, 631, 632, 11), (3, 636, 21, 11), (0, 360, 0, 15), (0, 382, 0, 15), (0, 531, 0, 23), (0, 352, 0, 14), (0, 357, 0, 14), (0, 534, 0, 24), (0, 172, 0, 0), (0, 542, 0, 0), (0, 662, 0, 0), (0, 670, 0, 0), (0, 694, 0, 0), (0, 725, 0, 0), (0, 785, 0, 0), (9, 0, 0, 0)]
def mkd (m : Nat) : Nat × Nat × Nat × Nat := mkt.getD m (9, 0, 0, 0)
def mkc (m : Nat) : Bool := decide (m = 122 ∨ m = 123) || (decide (tables_1[(mrow m).2.2.2.2.2.2]? = some (Jvm.Cond.code (mnam m) (mbyt m) (mmax m) (mret m))) && decide (tables_1[(mkd m).2.2.2]? = some (Jvm.Cond.initialized (mnam m).cls)) && decide ((mnam m).cls = mown m) && plainName (mnam m).cls && decide (mmax m ≤ 15) &&
  decide ((mnam m).cls ≠ "java/lang/invoke/MethodHandle" ∧ (mnam m).cls ≠ "java/lang/invoke/VarHandle") && decide ((parseMethodDescriptor (mnam m).desc).map (fun d => d.parameters.length) = some (if (mkd m).1 = 0 then marg m else marg m - 1)) && decide ((mkd m).1 = 0 ∨ 0 < marg m) &&
  (if (mkd m).1 = 0 then decide (tables_1[(mkd m).2.1]? = some (Jvm.Cond.static (mnam m))) else decide (tables_1[(mkd m).2.1]? = some (Jvm.Cond.instanceMethod (mnam m)))) &&
  (if (mkd m).1 = 1 then decide (tables_1[(mkd m).2.2.1]? = some (Jvm.Cond.selects (mnam m).cls (mnam m) (mnam m))) else if (mkd m).1 = 3 then decide ((k2_sels lw_privs)[(mkd m).2.2.1]? = some (Jvm.Cond.selects (mnam m).cls (mnam m) (mnam m))) else if (mkd m).1 = 2 then decide ((mnam m).name = "<init>" ∧ mret m = none) else decide ((mkd m).1 = 0)))
theorem mkc_0 : ((List.range 24).map (· + 0)).all mkc = true := by decide +kernel
theorem mkc_24 : ((List.range 24).map (· + 24)).all mkc = true := by decide +kernel
theorem mkc_48 : ((List.range 24).map (· + 48)).all mkc = true := by decide +kernel
theorem mkc_72 : ((List.range 24).map (· + 72)).all mkc = true := by decide +kernel
theorem mkc_96 : ((List.range 24).map (· + 96)).all mkc = true := by decide +kernel
theorem mkc_120 : ((List.range 24).map (· + 120)).all mkc = true := by decide +kernel
theorem mkc_all {m : Nat} (h : m < 144) : mkc m = true := by
  by_cases h0 : m < 24
  · exact List.all_eq_true.mp mkc_0 m (List.mem_map.mpr ⟨m - 0, List.mem_range.mpr (by omega), by omega⟩)
  by_cases h24 : m < 48
  · exact List.all_eq_true.mp mkc_24 m (List.mem_map.mpr ⟨m - 24, List.mem_range.mpr (by omega), by omega⟩)
  by_cases h48 : m < 72
  · exact List.all_eq_true.mp mkc_48 m (List.mem_map.mpr ⟨m - 48, List.mem_range.mpr (by omega), by omega⟩)
  by_cases h72 : m < 96
  · exact List.all_eq_true.mp mkc_72 m (List.mem_map.mpr ⟨m - 72, List.mem_range.mpr (by omega), by omega⟩)
  by_cases h96 : m < 120
  · exact List.all_eq_true.mp mkc_96 m (List.mem_map.mpr ⟨m - 96, List.mem_range.mpr (by omega), by omega⟩)
  exact List.all_eq_true.mp mkc_120 m (List.mem_map.mpr ⟨m - 120, List.mem_range.mpr (by omega), by omega⟩)
/-- a class link: owner, entry, class tag (99: none), array kind of it (99: none), place -/
def clk : List (Nat × Nat × Nat × Nat × Nat) := [(18, 8, 9, 99, 27), (1, 7, 3, 99, 35), (7, 15, 1, 3, 41), (1, 16, 5, 99, 67), (8, 9, 7, 4, 73), (1, 23, 8, 99, 82), (1, 30, 4, 99, 97), (9, 22, 2, 5, 103), (7, 67, 7, 4, 203), (6, 9, 0, 99, 209), (6, 18, 1, 3, 235), (7, 117, 2, 5, 295), (14, 2, 99, 6, 386), (13, 7, 99, 6, 394), (7, 46, 6, 99, 407), (6, 39, 2, 5, 540), (8, 49, 2, 5, 580), (8, 79, 1, 3, 592), (5, 45, 2, 5, 710), (18, 41, 10, 99, 792)]
def pcn (o j : Nat) : Option (Nat × Nat) := (clk.find? (fun q => q.1 == o && q.2.1 == j)).map (fun q => (q.2.2.1, q.2.2.2.1))
def parn : List String := ["", "", "", "TermSimplifier$Atom", "TermSimplifier$Row", "TermSimplifier$Binding", "java/lang/Object"]
theorem clk_ok : clk.all (fun q => (decide (q.2.2.1 = 99) || (decide (q.2.2.1 < 11) && decide (tables_1[q.2.2.2.2]? = some (Jvm.Cond.classLink (cnm.getD q.1 "") q.2.1 (pcls q.2.2.1).1)))) && (decide (q.2.2.2.1 = 99) || (decide (3 ≤ q.2.2.2.1 ∧ q.2.2.2.1 < 7) && decide (tables_1[q.2.2.2.2]? = some (Jvm.Cond.classLink (cnm.getD q.1 "") q.2.1 (parn.getD q.2.2.2.1 "")))))) = true := by decide +kernel
def aovl : List Nat := [0, 0, 0, 42, 74, 104, 385]
theorem aov_ok : ((List.range 4).map (· + 3)).all (fun j => decide (tables_1[aovl.getD j 0]? = some (Jvm.Cond.arrayOver (.object (parn.getD j "")))) && decide (pat[j]? = some (.object (parn.getD j "")))) = true := by decide +kernel
theorem acl_i : tables_1[66]? = some (Jvm.Cond.arrayClass .int) := by decide +kernel
theorem acl_j : tables_1[146]? = some (Jvm.Cond.arrayClass .long) := by decide +kernel
theorem acl_z : tables_1[928]? = some (Jvm.Cond.arrayClass .boolean) := by decide +kernel
def cin : List (Nat × Nat × Int × Nat) := [(16, 200, 2147483639, 355), (8, 35, 100000, 577), (1, 86, 100000, 668)]
def pci (o j : Nat) : Option Int := (cin.find? (fun q => q.1 == o && q.2.1 == j)).map (fun q => q.2.2.1)
theorem cin_ok : cin.all (fun q => decide (tables_1[q.2.2.2]? = some (Jvm.Cond.constant (cnm.getD q.1 "") q.2.1 (Int32.ofInt q.2.2.1)))) = true := by decide +kernel
def cjn : List (Nat × Nat × Int × Nat) := [(9, 159, 4294967296, 754), (9, 161, 4294967295, 766)]
def pcj (o j : Nat) : Option Int := (cjn.find? (fun q => q.1 == o && q.2.1 == j)).map (fun q => q.2.2.1)
theorem cjn_ok : cjn.all (fun q => decide (tables_1[q.2.2.2]? = some (Jvm.Cond.constantLong (cnm.getD q.1 "") q.2.1 (Int64.ofInt q.2.2.1)))) = true := by decide +kernel
def olk : List (Nat × Nat × Nat) := [(1, 1, 32), (7, 3, 40), (8, 3, 72), (5, 3, 87), (9, 5, 102), (6, 3, 208), (11, 1, 220), (2, 1, 240), (3, 1, 300), (4, 3, 412), (0, 1, 797)]
def pol (o j : Nat) : Bool := olk.any (fun q => q.1 == o && q.2.1 == j)
theorem olk_ok : olk.all (fun q => decide (tables_1[q.2.2]? = some (Jvm.Cond.methodLink (cnm.getD q.1 "") q.2.1 objectInit))) = true := by decide +kernel
theorem oin_ok : tables_1[33]? = some (Jvm.Cond.instanceMethod objectInit) := by decide +kernel
theorem oco_ok : tables_1[34]? = some (Jvm.Cond.code objectInit ⟨#[0xb1]⟩ 1 none) := by decide +kernel
def jHL : Nat := 58
def jPA : Nat := 55
/-- a static field: owner, entry, which -/
def pgs : List (Nat × Nat × Nat × Nat) := [(7, 58, 0, 192), (7, 55, 1, 194), (13, 39, 2, 221)]
def pgl (o j : Nat) : Option Nat := (pgs.find? (fun q => q.1 == o && q.2.1 == j)).map (fun q => q.2.2.1)
theorem pgs_ok : pgs.all (fun q => decide (q.2.2.1 = 0 ∧ cnm.getD q.1 "" = "TermSimplifier$Converter" ∧ q.2.1 = jHL) || decide (q.2.2.1 = 1 ∧ cnm.getD q.1 "" = "TermSimplifier$Converter" ∧ q.2.1 = jPA) || (decide (q.2.2.1 = 2) && decide (tables_1[q.2.2.2]? = some (Jvm.Cond.fieldLink (cnm.getD q.1 "") q.2.1 "java/util/ArrayList" "DEFAULTCAPACITY_EMPTY_ELEMENTDATA" "[Ljava/lang/Object;")))) = true := by decide +kernel
def acl0 : List (Nat × Nat × Nat) := [(14, 150, 390), (13, 112, 609)]
theorem acl0_ok : acl0.all (fun q => decide (tables_1[q.2.2]? = some (Jvm.Cond.methodLink (cnm.getD q.1 "") q.2.1 arraycopyName))) = true := by decide +kernel
def gcl0 : List (Nat × Nat × Nat) := [(14, 86, 362)]
theorem gcl0_ok : gcl0.all (fun q => decide (tables_1[q.2.2]? = some (Jvm.Cond.methodLink (cnm.getD q.1 "") q.2.1 ⟨"java/lang/Object", "getClass", "()Ljava/lang/Class;"⟩))) = true := by decide +kernel
def ocl0 : List (Nat × Nat × Nat) := [(14, 110, 384)]
theorem ocl0_ok : ocl0.all (fun q => decide (tables_1[q.2.2]? = some (Jvm.Cond.classLink (cnm.getD q.1 "") q.2.1 "[Ljava/lang/Object;"))) = true := by decide +kernel
theorem acn_ok : tables_1[392]? = some (Jvm.Cond.native arraycopyName) := by decide +kernel
theorem acs_ok : tables_1[391]? = some (Jvm.Cond.static arraycopyName) := by decide +kernel
theorem aci_ok : tables_1[16]? = some (Jvm.Cond.initialized "java/lang/System") := by decide +kernel
def mml : List (Nat × Nat × Nat × Nat) := [(7, 61, 122, 200), (16, 194, 122, 354), (14, 304, 123, 387), (13, 79, 122, 393), (9, 72, 122, 743)]
end
section
/-! ===== THE PURE MACHINE. A heap is what is known of its cells (tag and contents), how many cells there are, how many slots were made. Tags below 100 are objects of the class vwCl[tag]; 100 + j are arrays of the kind pat[j]. A frame: method, pc, locals, operand stack. 'Ex E d F h F' h'': from F over h the method comes to F' over h', its calls done whole, at most d deep. It is said of the machine itself (W), so that every rule below is a theorem about the machine. ===== -/
abbrev PC : Type := Nat × List Value
abbrev PH : Type := (Nat → Option PC) × Nat × Nat
abbrev PL : Type := List (Option Value)
abbrev PF : Type := Nat × Nat × PL × List Value
/-- below the first number nothing is written; where the static arrays lie; the Class object of Object[] -/
abbrev PE : Type := Nat × (Nat → Nat) × Nat
abbrev PD : Type := va_G × (Nat → ClassId)
def pN (t : Nat) : Nat := match vwCl[t]? with
  | some r => r.2.2
  | none => 0
/-- a cell of the heap is as told -/
def pcel (D : PD) (a t : Nat) (fs : List Value) (H : Heap) : Prop :=
  ∃ cell : Cell, H[a]? = some cell ∧
    ((t < 100 ∧ cell.cls = D.1.1 t ∧ cell.vm = .none ∧ fs.length = pN t ∧ ∀ k, k < pN t → cell.slots[D.1.2 t k]? = fs[k]?) ∨
     (100 ≤ t ∧ cell.cls = D.2 (t - 100) ∧ cell.vm ≠ .unknown ∧ (∀ q, cell.vm ≠ .statics q) ∧ cell.slots.toList = fs ∧ (t < 107 → cell = ({ cls := cell.cls, slots := cell.slots, vm := .none } : Cell))))
def prep (E : PE) (D : PD) (h : PH) (H : Heap) : Prop := H.size = h.2.1 ∧ ∀ (a t : Nat) (fs : List Value), h.1 a = some (t, fs) → pcel D a t fs H ∧ (t < 107 → E.1 ≤ a)
/-- an array class by the tables -/
def parr (U : State) (cA : ClassId) (ty : FieldType) : Prop := ∃ (kA : Class) (comp : ClassId), U.vm.classes[cA]? = some kA ∧ kA.kind = .array comp ty ∧ ∀ C, ty = .object C → U.vm.findClass C = some comp
/-- what the tables and the statics say, at a state -/
def PK (E : PE) (D : PD) (U : State) : Prop :=
  va_K D.1 vwCl [] U ∧ (∀ (j : Nat) (ty : FieldType), pat[j]? = some ty → parr U (D.2 j) ty) ∧
  (∀ (j : Nat) (ty : FieldType), pat[j]? = some ty → j < 7 → U.vm.findClass ("[" ++ ty.toString) = some (D.2 j)) ∧
  va_Z "TermSimplifier" "HEAD_LENGTHS" "[I" (.ref (E.2.1 0)) (fun q => E.1 ≤ q) U U.heap ∧
  va_Z "TermSimplifier" "PARTS" "[I" (.ref (E.2.1 1)) (fun q => E.1 ≤ q) U U.heap ∧
  va_Z "java/util/ArrayList" "DEFAULTCAPACITY_EMPTY_ELEMENTDATA" "[Ljava/lang/Object;" (.ref (E.2.1 2)) (fun q => E.1 ≤ q) U U.heap ∧
  va_Mi "[Ljava/lang/Object;" E.2.2 U ∧ D.2 9 = D.2 6 ∧ va_Dc U ∧ (∀ (j : Nat) (C : String), pat[j]? = some (.object C) → j < 7 → va_AO C U) ∧
  (∀ q ∈ mln, va_Nw (.methodLinkNest (cnm.getD q.1 "") q.2.1 (mnam q.2.2.1) "TermSimplifier") U) ∧ va_Nw (.fieldLinkNest "TermSimplifier$Converter" jHL "TermSimplifier" "HEAD_LENGTHS" "[I" "TermSimplifier") U ∧
  va_Nw (.fieldLinkNest "TermSimplifier$Converter" jPA "TermSimplifier" "PARTS" "[I" "TermSimplifier") U ∧ va_Nw (.castable "TermSimplifier$Binding" "java/lang/Object") U
/-- the locals of the machine's frame hold what is known of them -/
def lrel (ls : Array Slot) (L : PL) : Prop := ls.size = L.length ∧ lv_wf ls ∧ ∀ (i : Nat) (v : Value), L[i]? = some (some v) → ls[i]? = some (.val v)
/-- the method that runs: its code, the tables' words, its room -/
def PFit (E : PE) (D : PD) (p : Program) (R : Room) (s : State) (m : MethodId) (args : Array Value) (meth : Method) (c : Code) (mi d : Nat) : Prop :=
  p.tables.exec = Jvm.exec ∧ c.code = mbyt mi ∧ c.maxLocals = mmax mi ∧ s.vm.findClass (mown mi) = some m.cls ∧ (∀ w ∈ gtbl, w.before args s = true) ∧ meth.name = (mnam mi).name ∧
  d + 8 ≤ R.frames ∧ 40 * d + 200 ≤ R.locals ∧ PK E D s ∧ E.1 ≤ s.heap.size
def Ex (E : PE) (d : Nat) (F : PF) (h : PH) (F' : PF) (h' : PH) : Prop :=
  F'.1 = F.1 ∧ F'.2.2.1.length = F.2.2.1.length ∧ h.2.1 ≤ h'.2.1 ∧ h.2.2 ≤ h'.2.2 ∧
  ∀ (D : PD) (p : Program) (l : Launch) (e : Env) (R : Room) (s : State) (m : MethodId) (args : Array Value) (below : List Frame) (meth : Method) (c : Code) (Q : State → Prop) (en es : Nat) (H : Heap) (locs : List Loc) (ls : Array Slot),
    PFit E D p R s m args meth c F.1 d → en ≤ h.2.1 → es ≤ h.2.2 → h'.2.1 - en ≤ R.cells → h'.2.2 - es ≤ R.slots →
    prep E D h H → va_S (fun q => E.1 ≤ q) s.heap H locs → F.2.2.1.length = mmax F.1 → lrel ls F.2.2.1 →
    (∀ (H' : Heap) (locs' : List Loc) (ls' : Array Slot), prep E D h' H' → va_S (fun q => E.1 ≤ q) s.heap H' locs' → lrel ls' F'.2.2.1 →
      W p l e R s m args below meth c H' locs' (h'.2.1 - en) (h'.2.2 - es) Q (F0 m F'.2.1 ls' F'.2.2.2)) →
    W p l e R s m args below meth c H locs (h.2.1 - en) (h.2.2 - es) Q (F0 m F.2.1 ls F.2.2.2)
theorem Ex.rf {E : PE} {d : Nat} {F : PF} {h : PH} : Ex E d F h F h :=
  ⟨rfl, rfl, Nat.le_refl _, Nat.le_refl _, fun D p l e R s m args below meth c Q en es H locs ls _ _ _ _ _ hP hS _ hl k => k H locs ls hP hS hl⟩
theorem Ex.tr {E : PE} {d : Nat} {F F1 F2 : PF} {h h1 h2 : PH} (x : Ex E d F h F1 h1) (y : Ex E d F1 h1 F2 h2) : Ex E d F h F2 h2 := by
  obtain ⟨a1, b1, c1, d1, k1⟩ := x
  obtain ⟨a2, b2, c2, d2, k2⟩ := y
  refine ⟨a2.trans a1, b2.trans b1, Nat.le_trans c1 c2, Nat.le_trans d1 d2, ?_⟩
  intro D p l e R s m args below meth c Q en es H locs ls hF he1 he2 hc hs hP hS hm hl k
  refine k1 D p l e R s m args below meth c Q en es H locs ls hF he1 he2 (by omega) (by omega) hP hS hm hl (fun H' locs' ls' hP' hS' hl' => ?_)
  refine k2 D p l e R s m args below meth c Q en es H' locs' ls' (by rw [a1]; exact hF) (by omega) (by omega) hc hs hP' hS' (by rw [b1, a1]; exact hm) hl' k
/-- a step that touches the operand stack and the pc alone -/
theorem Ex.go {E : PE} {d mi pc pc' : Nat} {L : PL} {st st' : List Value} {h : PH}
    (k : ∀ (D : PD) (p : Program) (l : Launch) (e : Env) (R : Room) (s : State) (m : MethodId) (args : Array Value) (below : List Frame) (meth : Method) (c : Code) (Q : State → Prop) (H : Heap) (locs : List Loc) (cells slots : Nat) (ls : Array Slot),
      PFit E D p R s m args meth c mi d → lrel ls L → prep E D h H → va_S (fun q => E.1 ≤ q) s.heap H locs → W p l e R s m args below meth c H locs cells slots Q (F0 m pc' ls st') → W p l e R s m args below meth c H locs cells slots Q (F0 m pc ls st)) :
    Ex E d (mi, pc, L, st) h (mi, pc', L, st') h :=
  ⟨rfl, rfl, Nat.le_refl _, Nat.le_refl _, fun D p l e R s m args below meth c Q en es H locs ls hF _ _ _ _ hP hS _ hl kk => k D p l e R s m args below meth c Q H locs _ _ ls hF hl hP hS (kk H locs ls hP hS hl)⟩
/-- forgetting locals -/
theorem Ex.wk {E : PE} {d mi pc : Nat} {L L' : PL} {st : List Value} {h : PH} (hn : L'.length = L.length) (hw : ∀ (i : Nat) (v : Value), L'[i]? = some (some v) → L[i]? = some (some v)) : Ex E d (mi, pc, L, st) h (mi, pc, L', st) h :=
  ⟨rfl, hn, Nat.le_refl _, Nat.le_refl _, fun D p l e R s m args below meth c Q en es H locs ls hF _ _ _ _ hP hS _ hl kk => kk H locs ls hP hS ⟨hl.1.trans hn.symm, hl.2.1, fun i v q => hl.2.2 i v (hw i v q)⟩⟩
/-! ===== the instructions that touch the stack alone ===== -/
section XS
variable {E : PE} {d mi pc : Nat} {L : PL} {st : List Value} {h : PH}
theorem x_iconst {n : Int} (hi : pin mi pc = some (.iconst n, 1)) : Ex E d (mi, pc, L, st) h (mi, pc + 1, L, .int (Int32.ofInt n) :: st) h :=
  Ex.go (fun D p l e R s m args below meth c Q H locs cells slots ls hF hl _ _ k => lv_iconst hF.1 hF.2.1 (pin_dec hi) rfl k)
theorem x_bipush {n : Int} (hi : pin mi pc = some (.bipush n, 2)) : Ex E d (mi, pc, L, st) h (mi, pc + 2, L, .int (Int8.ofInt n).toInt32 :: st) h :=
  Ex.go (fun D p l e R s m args below meth c Q H locs cells slots ls hF hl _ _ k => lv_bipush hF.1 hF.2.1 (pin_dec hi) rfl k)
theorem x_sipush {n : Int} (hi : pin mi pc = some (.sipush n, 3)) : Ex E d (mi, pc, L, st) h (mi, pc + 3, L, .int (Int16.ofInt n).toInt32 :: st) h :=
  Ex.go (fun D p l e R s m args below meth c Q H locs cells slots ls hF hl _ _ k => lv_sipush hF.1 hF.2.1 (pin_dec hi) rfl k)
theorem x_lconst {n : Fin 2} (hi : pin mi pc = some (.lconst n, 1)) : Ex E d (mi, pc, L, st) h (mi, pc + 1, L, .long (Int64.ofNat n.val) :: st) h :=
  Ex.go (fun D p l e R s m args below meth c Q H locs cells slots ls hF hl _ _ k => lv_lconst hF.1 hF.2.1 (pin_dec hi) rfl k)
theorem x_null (hi : pin mi pc = some (.aconst_null, 1)) : Ex E d (mi, pc, L, st) h (mi, pc + 1, L, .null :: st) h :=
  Ex.go (fun D p l e R s m args below meth c Q H locs cells slots ls hF hl _ _ k => lv_null hF.1 hF.2.1 (pin_dec hi) k)
theorem x_iload {i : Nat} {x : Int32} (hi : pin mi pc = some (.iload i, 2)) (hx : L[i]? = some (some (.int x))) : Ex E d (mi, pc, L, st) h (mi, pc + 2, L, .int x :: st) h :=
  Ex.go (fun D p l e R s m args below meth c Q H locs cells slots ls hF hl _ _ k => lv_iload hF.1 hF.2.1 (pin_dec hi) (hl.2.2 i _ hx) k)
theorem x_iload_n {i : Fin 4} {x : Int32} (hi : pin mi pc = some (.iload_n i, 1)) (hx : L[i.val]? = some (some (.int x))) : Ex E d (mi, pc, L, st) h (mi, pc + 1, L, .int x :: st) h :=
  Ex.go (fun D p l e R s m args below meth c Q H locs cells slots ls hF hl _ _ k => lv_iload_n hF.1 hF.2.1 (pin_dec hi) rfl (hl.2.2 i.val _ hx) k)
theorem x_lload {i : Nat} {x : Int64} (hi : pin mi pc = some (.lload i, 2)) (hx : L[i]? = some (some (.long x))) : Ex E d (mi, pc, L, st) h (mi, pc + 2, L, .long x :: st) h :=
  Ex.go (fun D p l e R s m args below meth c Q H locs cells slots ls hF hl _ _ k => lv_lload hF.1 hF.2.1 (pin_dec hi) (hl.2.2 i _ hx) k)
theorem x_lload_n {i : Fin 4} {x : Int64} (hi : pin mi pc = some (.lload_n i, 1)) (hx : L[i.val]? = some (some (.long x))) : Ex E d (mi, pc, L, st) h (mi, pc + 1, L, .long x :: st) h :=
  Ex.go (fun D p l e R s m args below meth c Q H locs cells slots ls hF hl _ _ k => lv_lload_n hF.1 hF.2.1 (pin_dec hi) rfl (hl.2.2 i.val _ hx) k)
theorem x_aload {i : Nat} {v : Value} (hi : pin mi pc = some (.aload i, 2)) (hx : L[i]? = some (some v)) (hv : v.isRef = true) : Ex E d (mi, pc, L, st) h (mi, pc + 2, L, v :: st) h :=
  Ex.go (fun D p l e R s m args below meth c Q H locs cells slots ls hF hl _ _ k => by
    cases v with
    | null => exact lv_aloadN hF.1 hF.2.1 (pin_dec hi) (hl.2.2 i _ hx) k
    | ref a => exact lv_aload hF.1 hF.2.1 (pin_dec hi) (hl.2.2 i _ hx) k
    | _ => cases hv)
theorem x_aload_n {i : Fin 4} {v : Value} (hi : pin mi pc = some (.aload_n i, 1)) (hx : L[i.val]? = some (some v)) (hv : v.isRef = true) : Ex E d (mi, pc, L, st) h (mi, pc + 1, L, v :: st) h :=
  Ex.go (fun D p l e R s m args below meth c Q H locs cells slots ls hF hl _ _ k => by
    cases v with
    | null => exact lv_aload_nN hF.1 hF.2.1 (pin_dec hi) rfl (hl.2.2 i.val _ hx) k
    | ref a => exact lv_aload_n hF.1 hF.2.1 (pin_dec hi) rfl (hl.2.2 i.val _ hx) k
    | _ => cases hv)
theorem x_iadd {x y : Int32} (hi : pin mi pc = some (.iadd, 1)) : Ex E d (mi, pc, L, .int y :: .int x :: st) h (mi, pc + 1, L, .int (x + y) :: st) h :=
  Ex.go (fun D p l e R s m args below meth c Q H locs cells slots ls hF hl _ _ k => lv_iadd hF.1 hF.2.1 (pin_dec hi) k)
theorem x_isub {x y : Int32} (hi : pin mi pc = some (.isub, 1)) : Ex E d (mi, pc, L, .int y :: .int x :: st) h (mi, pc + 1, L, .int (x - y) :: st) h :=
  Ex.go (fun D p l e R s m args below meth c Q H locs cells slots ls hF hl _ _ k => lv_isub hF.1 hF.2.1 (pin_dec hi) k)
theorem x_imul {x y : Int32} (hi : pin mi pc = some (.imul, 1)) : Ex E d (mi, pc, L, .int y :: .int x :: st) h (mi, pc + 1, L, .int (x * y) :: st) h :=
  Ex.go (fun D p l e R s m args below meth c Q H locs cells slots ls hF hl _ _ k => lv_imul hF.1 hF.2.1 (pin_dec hi) k)
theorem x_iand {x y : Int32} (hi : pin mi pc = some (.iand, 1)) : Ex E d (mi, pc, L, .int y :: .int x :: st) h (mi, pc + 1, L, .int (x &&& y) :: st) h :=
  Ex.go (fun D p l e R s m args below meth c Q H locs cells slots ls hF hl _ _ k => lv_iand hF.1 hF.2.1 (pin_dec hi) k)
theorem x_idiv {x y : Int32} (hi : pin mi pc = some (.idiv, 1)) (hy : ¬ y = 0) : Ex E d (mi, pc, L, .int y :: .int x :: st) h (mi, pc + 1, L, .int (x / y) :: st) h :=
  Ex.go (fun D p l e R s m args below meth c Q H locs cells slots ls hF hl _ _ k => lv_idiv hF.1 hF.2.1 (pin_dec hi) hy k)
theorem x_ishr {x y : Int32} (hi : pin mi pc = some (.ishr, 1)) : Ex E d (mi, pc, L, .int y :: .int x :: st) h (mi, pc + 1, L, .int (x >>> (y &&& 31)) :: st) h :=
  Ex.go (fun D p l e R s m args below meth c Q H locs cells slots ls hF hl _ _ k => lv_ishr hF.1 hF.2.1 (pin_dec hi) k)
theorem x_ladd {x y : Int64} (hi : pin mi pc = some (.ladd, 1)) : Ex E d (mi, pc, L, .long y :: .long x :: st) h (mi, pc + 1, L, .long (x + y) :: st) h :=
  Ex.go (fun D p l e R s m args below meth c Q H locs cells slots ls hF hl _ _ k => lv_ladd hF.1 hF.2.1 (pin_dec hi) k)
theorem x_lsub {x y : Int64} (hi : pin mi pc = some (.lsub, 1)) : Ex E d (mi, pc, L, .long y :: .long x :: st) h (mi, pc + 1, L, .long (x - y) :: st) h :=
  Ex.go (fun D p l e R s m args below meth c Q H locs cells slots ls hF hl _ _ k => lv_lsub hF.1 hF.2.1 (pin_dec hi) k)
theorem x_land {x y : Int64} (hi : pin mi pc = some (.land, 1)) : Ex E d (mi, pc, L, .long y :: .long x :: st) h (mi, pc + 1, L, .long (x &&& y) :: st) h :=
  Ex.go (fun D p l e R s m args below meth c Q H locs cells slots ls hF hl _ _ k => lv_land hF.1 hF.2.1 (pin_dec hi) k)
theorem x_lcmp {x y : Int64} (hi : pin mi pc = some (.lcmp, 1)) : Ex E d (mi, pc, L, .long y :: .long x :: st) h (mi, pc + 1, L, .int (lg_cmp x y) :: st) h :=
  Ex.go (fun D p l e R s m args below meth c Q H locs cells slots ls hF hl _ _ k => W.lcmp hF.1 hF.2.1 (pin_dec hi) k)
theorem x_i2l {x : Int32} (hi : pin mi pc = some (.i2l, 1)) : Ex E d (mi, pc, L, .int x :: st) h (mi, pc + 1, L, .long x.toInt64 :: st) h :=
  Ex.go (fun D p l e R s m args below meth c Q H locs cells slots ls hF hl _ _ k => lv_i2l hF.1 hF.2.1 (pin_dec hi) rfl k)
theorem x_l2i {x : Int64} (hi : pin mi pc = some (.l2i, 1)) : Ex E d (mi, pc, L, .long x :: st) h (mi, pc + 1, L, .int x.toInt32 :: st) h :=
  Ex.go (fun D p l e R s m args below meth c Q H locs cells slots ls hF hl _ _ k => lv_l2i hF.1 hF.2.1 (pin_dec hi) rfl k)
theorem x_dup {v : Value} (hi : pin mi pc = some (.dup, 1)) (hv : v.category = 1) : Ex E d (mi, pc, L, v :: st) h (mi, pc + 1, L, v :: v :: st) h :=
  Ex.go (fun D p l e R s m args below meth c Q H locs cells slots ls hF hl _ _ k => lv_dup hF.1 hF.2.1 (pin_dec hi) hv k)
theorem x_pop {v : Value} (hi : pin mi pc = some (.pop, 1)) (hv : v.category = 1) : Ex E d (mi, pc, L, v :: st) h (mi, pc + 1, L, st) h :=
  Ex.go (fun D p l e R s m args below meth c Q H locs cells slots ls hF hl _ _ k => lv_pop hF.1 hF.2.1 (pin_dec hi) hv k)
theorem x_dup_x1 {v w : Value} (hi : pin mi pc = some (.dup_x1, 1)) (hv : v.category = 1) (hw : w.category = 1) : Ex E d (mi, pc, L, v :: w :: st) h (mi, pc + 1, L, v :: w :: v :: st) h :=
  Ex.go (fun D p l e R s m args below meth c Q H locs cells slots ls hF hl _ _ k => lv_dup_x1 hF.1 hF.2.1 (pin_dec hi) hv hw k)
theorem x_dup2 {v w : Value} (hi : pin mi pc = some (.dup2, 1)) (hv : v.category = 1) (hw : w.category = 1) : Ex E d (mi, pc, L, v :: w :: st) h (mi, pc + 1, L, v :: w :: v :: w :: st) h :=
  Ex.go (fun D p l e R s m args below meth c Q H locs cells slots ls hF hl _ _ k => lv_dup2_11 hF.1 hF.2.1 (pin_dec hi) hv hw k)
theorem x_goto {off : Int} {tg : Nat} (hi : pin mi pc = some (.goto off, 3)) (ht : (pc : Int) + off = (tg : Int)) : Ex E d (mi, pc, L, st) h (mi, tg, L, st) h :=
  Ex.go (fun D p l e R s m args below meth c Q H locs cells slots ls hF hl _ _ k => lv_goto hF.1 hF.2.1 (pin_dec hi) ht k)
end XS
end
section
/-! ===== the links' words, as the rules use them ===== -/
theorem pfind {α : Type} {l : List α} {f : α → Bool} {q : α} (h : l.find? f = some q) : q ∈ l ∧ f q = true := ⟨List.mem_of_find?_eq_some h, List.find?_some h⟩
theorem pcls_at {t : Nat} (h : t < 11) : vwCl[t]? = some (pcls t) := by
  unfold pcls
  rw [List.getD_eq_getElem?_getD]
  cases e : vwCl[t]? with
  | some r => rfl
  | none =>
    have := List.getElem?_eq_none_iff.mp e
    have h2 : vwCl.length = 11 := rfl
    omega
theorem pN_at {t : Nat} (h : t < 11) : pN t = (pcls t).2.2 := by
  unfold pN
  rw [pcls_at h]
theorem pfl_ok {o j t k : Nat} (h : pfl o j = some (t, k)) : t < 11 ∧ k < (pcls t).2.2 ∧ ∃ ref, Jvm.Cond.fieldLink (cnm.getD o "") j ref (pfd t k).2.1 (pfd t k).2.2.1 ∈ gtbl ∧ (ref = (pfd t k).1 ∨ Jvm.Cond.sameField ref (pfd t k).1 (pfd t k).2.1 (pfd t k).2.2.1 ∈ gtbl) := by
  unfold pfl at h
  cases hf : flk.find? (fun q => q.1 == o && q.2.1 == j) with
  | none => rw [hf] at h; cases h
  | some q =>
    rw [hf] at h
    obtain ⟨h1, h2⟩ := pfind hf
    have h3 := List.all_eq_true.mp flk_ok q h1
    obtain ⟨q1, q2, q3, q4, q5, q6⟩ := q
    cases h
    simp only [Bool.and_eq_true, beq_iff_eq] at h2
    obtain ⟨rfl, rfl⟩ := h2
    simp only [flkc, Bool.and_eq_true, decide_eq_true_eq, Bool.or_eq_true] at h3
    obtain ⟨⟨⟨g1, g2⟩, g3⟩, g4⟩ := h3
    refine ⟨g1, g2, _, gt_tab _ g3 rfl, ?_⟩
    rcases g4 with g4 | ⟨g4, g5⟩
    · left
      unfold pref
      rw [if_neg (by omega)]
    · by_cases e1 : q6 = 1
      · right
        subst e1
        rw [g5]
        exact gt_tab _ same_ok rfl
      · left
        unfold pref
        rw [if_neg e1]
theorem pws {t : Nat} (h : t < 11) : ∀ w ∈ u_ws (pcls t).1 (pcls t).2.1 (pcls t).2.2, w ∈ gtbl := by
  intro w hw
  obtain ⟨k, hk, rfl⟩ := List.mem_map.mp hw
  have h1 := List.all_eq_true.mp (List.all_eq_true.mp ulk_ok t (List.mem_range.mpr h)) k hk
  refine gt_tab _ (of_decide_eq_true h1) ?_
  unfold u_lay
  split <;> rfl
def pty (t : Nat) : Nat → FieldType := match t with
  | 0 => tyJx4a65c
  | 1 => tyX0
  | 2 => tyX1
  | 3 => tyX2
  | 4 => tyX3
  | 5 => tyX4
  | 6 => tyX5
  | 7 => tyX6
  | 8 => tyX7
  | 9 => tyX8
  | _ => tyX9
theorem pty_ok {t : Nat} (h : t < 11) : ∀ k, k < (pcls t).2.2 → parseFieldDescriptor ((pcls t).2.1 k).2.2.1 = some (pty t k) := by
  match t, h with
  | 0, _ => exact tyJx4a65c_ok
  | 1, _ => exact tyX0_ok
  | 2, _ => exact tyX1_ok
  | 3, _ => exact tyX2_ok
  | 4, _ => exact tyX3_ok
  | 5, _ => exact tyX4_ok
  | 6, _ => exact tyX5_ok
  | 7, _ => exact tyX6_ok
  | 8, _ => exact tyX7_ok
  | 9, _ => exact tyX8_ok
  | 10, _ => exact tyX9_ok
  | n + 11, h => exact absurd h (by omega)
theorem pnm_ok {t : Nat} (h : t < 11) : ∀ a, a < (pcls t).2.2 → ∀ b, b < (pcls t).2.2 → a ≠ b → ((pcls t).2.1 a).2.1 ≠ ((pcls t).2.1 b).2.1 := by
  match t, h with
  | 0, _ => exact nmJx4a65c
  | 1, _ => exact nmX0
  | 2, _ => exact nmX1
  | 3, _ => exact nmX2
  | 4, _ => exact nmX3
  | 5, _ => exact nmX4
  | 6, _ => exact nmX5
  | 7, _ => exact nmX6
  | 8, _ => exact nmX7
  | 9, _ => exact nmX8
  | 10, _ => exact nmX9
  | n + 11, h => exact absurd h (by omega)
theorem pcel.ob {D : PD} {a t : Nat} {fs : List Value} {H : Heap} (h : pcel D a t fs H) (ht : t < 11) : va_P D.1 vwCl [(a, .inr (t, fs))] H := by
  intro k q hk
  have hz : k < 1 := (List.getElem?_eq_some_iff.mp hk).1
  rw [show k = 0 by omega] at hk
  cases hk
  obtain ⟨cell, h1, h2⟩ := h
  rcases h2 with ⟨-, g1, g2, g3, g4⟩ | ⟨g, -⟩
  · refine ⟨_, pcls_at ht, cell, h1, g1, g2, fun k hk => ?_⟩
    rw [← pN_at ht] at hk
    rw [g4 k hk]
    unfold vp_V
    rw [List.getD_eq_getElem?_getD, List.getElem?_eq_getElem (by omega)]
    rfl
  · omega
theorem psame {args : Array Value} {s : State} {ref : String} {f : String × String × String × Bool} (hts : ∀ w ∈ gtbl, w.before args s = true) (h : ref = f.1 ∨ Jvm.Cond.sameField ref f.1 f.2.1 f.2.2.1 ∈ gtbl) : ∀ x, s.fieldFound? f.1 f.2.1 f.2.2.1 = some x → s.fieldFound? ref f.2.1 f.2.2.1 = some x := by
  intro x hx
  rcases h with rfl | h
  · exact hx
  · exact u_same (hts _ h) x hx
def pset (h : PH) (a : Nat) (c : PC) : PH := (fun q => if q = a then some c else h.1 q, h.2)
def pnew (h : PH) (c : PC) : PH := (fun q => if q = h.2.1 then some c else h.1 q, h.2.1 + 1, h.2.2 + c.2.length)
theorem PFit.S {E : PE} {D : PD} {p : Program} {R : Room} {s : State} {m : MethodId} {args : Array Value} {meth : Method} {c : Code} {mi d : Nat} (h : PFit E D p R s m args meth c mi d) {H : Heap} {locs : List Loc} (hS : va_S (fun q => E.1 ≤ q) s.heap H locs) : E.1 ≤ H.size := Nat.le_trans h.2.2.2.2.2.2.2.2.2 hS.1
/-- a step that writes: the heap's size stays -/
theorem Ex.put {E : PE} {d mi pc pc' : Nat} {L : PL} {st st' : List Value} {h h' : PH} (hn : h'.2 = h.2)
    (k : ∀ (D : PD) (p : Program) (l : Launch) (e : Env) (R : Room) (s : State) (m : MethodId) (args : Array Value) (below : List Frame) (meth : Method) (c : Code) (Q : State → Prop) (H : Heap) (locs : List Loc) (cells slots : Nat) (ls : Array Slot),
      PFit E D p R s m args meth c mi d → lrel ls L → prep E D h H → va_S (fun q => E.1 ≤ q) s.heap H locs →
      (∀ (H' : Heap) (locs' : List Loc), prep E D h' H' → va_S (fun q => E.1 ≤ q) s.heap H' locs' → W p l e R s m args below meth c H' locs' cells slots Q (F0 m pc' ls st')) → W p l e R s m args below meth c H locs cells slots Q (F0 m pc ls st)) :
    Ex E d (mi, pc, L, st) h (mi, pc', L, st') h' :=
  ⟨rfl, rfl, by rw [hn]; exact Nat.le_refl _, by rw [hn]; exact Nat.le_refl _, fun D p l e R s m args below meth c Q en es H locs ls hF _ _ _ _ hP hS _ hl kk =>
    k D p l e R s m args below meth c Q H locs _ _ ls hF hl hP hS (fun H' locs' hP' hS' => by
      have := kk H' locs' ls hP' hS' hl
      rw [hn] at this
      exact this)⟩
theorem prep.setO {E : PE} {D : PD} {h : PH} {H H' : Heap} {a t : Nat} {fs fs' : List Value} (hP : prep E D h H) (ha : h.1 a = some (t, fs)) (hz : H'.size = H.size) (ho : ∀ q, q ≠ a → H'[q]? = H[q]?) (hc : pcel D a t fs' H') : prep E D (pset h a (t, fs')) H' := by
  refine ⟨hz.trans hP.1, fun b u gs hb => ?_⟩
  by_cases e : b = a
  · subst e
    have hb' : (if b = b then some (t, fs') else h.1 b) = some (u, gs) := hb
    rw [if_pos rfl] at hb'
    cases hb'
    exact ⟨hc, (hP.2 b t fs ha).2⟩
  · have hb' : (if b = a then some (t, fs') else h.1 b) = some (u, gs) := hb
    rw [if_neg e] at hb'
    obtain ⟨⟨cell, g1, g2⟩, g3⟩ := hP.2 b u gs hb'
    exact ⟨⟨cell, by rw [ho b e]; exact g1, g2⟩, g3⟩
/-- a final field is written by its class's constructor -/
def pfok (mi t k : Nat) : Bool := !(pfd t k).2.2.2 || (decide ((mnam mi).name = "<init>") && decide ((pfd t k).1 = mown mi))
section XF
variable {E : PE} {d mi pc : Nat} {L : PL} {st : List Value} {h : PH}
theorem x_getf {j t k a : Nat} {fs : List Value} {v : Value} (hi : pin mi pc = some (.getfield j, 3)) (hl : pfl (mno mi) j = some (t, k)) (ha : h.1 a = some (t, fs)) (hv : fs[k]? = some v) : Ex E d (mi, pc, L, .ref a :: st) h (mi, pc + 3, L, v :: st) h :=
  Ex.go (fun D p l e R s m args below meth c Q H locs cells slots ls hF _ hP hS kk => by
    obtain ⟨ht, hk, ref, hw, hsm⟩ := pfl_ok hl
    have hP1 := (hP.2 a t fs ha).1.ob ht
    have hts := hF.2.2.2.2.1
    exact va_get (D := D.1) (own := mown mi) (ci := t) (C := (pcls t).1) (T := (pcls t).2.1) (N := (pcls t).2.2) (ref := ref) (tys := []) hF.1 hF.2.1 hts (pws ht) hF.2.2.2.1 hF.2.2.2.2.2.2.2.2.1.1 hP1 0 rfl (pcls_at ht) k hk (hts _ hw) (psame hts hsm) hv (pin_dec hi) kk)
theorem x_putf {j t k a : Nat} {fs : List Value} {v : Value} (hi : pin mi pc = some (.putfield j, 3)) (hl : pfl (mno mi) j = some (t, k)) (ha : h.1 a = some (t, fs)) (hn : narrow (pty t k) v = v) (hf : fits (pty t k) v = true) (hok : pfok mi t k = true) :
    Ex E d (mi, pc, L, v :: .ref a :: st) h (mi, pc + 3, L, st) (pset h a (t, fs.set k v)) :=
  Ex.put rfl (fun D p l e R s m args below meth c Q H locs cells slots ls hF _ hP hS kk => by
    obtain ⟨ht, hk, ref, hw, hsm⟩ := pfl_ok hl
    have hts := hF.2.2.2.2.1
    have hK := hF.2.2.2.2.2.2.2.2.1.1
    have hown : s.vm.findClass (mown mi) = some m.cls := hF.2.2.2.1
    have hin := pws ht
    have hc := pcls_at ht
    have hap := va_apart (own := mown mi) hts hin (pty t) (pty_ok ht) (pnm_ok ht) hK hc
    obtain ⟨⟨cell, q1, q2⟩, qE⟩ := hP.2 a t fs ha
    rcases q2 with ⟨-, g1, g2, g3, g4⟩ | ⟨g, -⟩
    · obtain ⟨hS2, hfc, kC, hkC, hkind⟩ := hK.1 t _ hc
      obtain ⟨cf, kf, fi, f, hi2, hsl⟩ := hS2 k hk
      have hst := (u_facts hfc hkC (u_lays hts hin hk) hi2).1
      have hd := pty_ok ht k hk
      have hk9 : k < pN t := by rw [pN_at ht]; exact hk
      have hlt : f.slot < cell.slots.size := by
        rw [hsl]
        have := g4 k hk9
        rw [List.getElem?_eq_getElem (by omega)] at this
        exact k2_hasslot this
      have fin : ∀ H' : Heap, H'[a]? = some (cell.setSlot f.slot v) → H'.size = H.size → (∀ q, q ≠ a → H'[q]? = H[q]?) → W p l e R s m args below meth c H' (locs ++ [⟨a, f.slot⟩]) cells slots Q (F0 m (pc + 3) ls st) := by
        intro H' e1 e2 e3
        refine kk H' _ (hP.setO ha e2 e3 ⟨_, e1, Or.inl ⟨by omega, g1, g2, by rw [List.length_set]; exact g3, fun z hz => ?_⟩⟩) (hS.put e2 e3 (qE (by omega)))
        have hz9 : z < (pcls t).2.2 := by rw [← pN_at ht]; exact hz
        by_cases ez : z = k
        · subst ez
          rw [List.getElem?_set_self (by omega), ← hsl]
          show (cell.slots.setIfInBounds f.slot v)[f.slot]? = some v
          rw [Array.getElem?_setIfInBounds_self_of_lt hlt]
        · rw [List.getElem?_set_ne (Ne.symm ez), ← g4 z hz]
          show (cell.slots.setIfInBounds f.slot v)[D.1.2 t z]? = _
          rw [hsl, Array.getElem?_setIfInBounds_ne (hap k z hk hz9 (Ne.symm ez))]
      by_cases hfin : (pfd t k).2.2.2 = true
      · have hlay := hts _ (hin _ (u_in_lay hk))
        unfold u_lay at hlay
        rw [if_pos (show ((pcls t).2.1 k).2.2.2 = true from hfin)] at hlay
        unfold pfok at hok
        rw [hfin] at hok
        simp only [Bool.not_true, Bool.false_or, Bool.and_eq_true, decide_eq_true_eq] at hok
        have hcf : m.cls = cf := by
          obtain ⟨_, _, c', _, _, _, -, -, hf', -, -, -, hown2, -⟩ := Cond.laysFinal_spec hlay
          have e1 : c' = cf := by have := hi2.symm.trans hf'; simp at this; exact this.1.symm
          rw [show ((pcls t).2.1 k).1 = mown mi from hok.2] at hown2
          rw [← e1]; exact Option.some.inj (hown.symm.trans hown2)
        have h6 := u_fits hfc hkC hkind (Or.inr hlay) hi2 hd hn hf
        exact W.putFinK hF.1 hF.2.1 hown (hts _ hw) (psame hts hsm _ hi2) hst hcf (hF.2.2.2.2.2.1.trans hok.1) (by rw [g1]; exact h6) q1 g2 hlt rfl rfl (pin_dec hi) fin
      · have hlay := hts _ (hin _ (u_in_lay hk))
        unfold u_lay at hlay
        rw [if_neg (show ¬ ((pcls t).2.1 k).2.2.2 = true from hfin)] at hlay
        have h6 := u_store hfc hkC hkind hlay hi2 hd hn hf
        exact W.putK hF.1 hF.2.1 (f := f) ⟨hown, hts _ hw, ⟨_, _, _, psame hts hsm _ hi2⟩, hst⟩ (by rw [g1]; exact h6) q1 g2 hlt rfl rfl (pin_dec hi) fin
    · omega)
end XF
end
section
/-! ===== branches, stores to locals ===== -/
def pcc : Jvm.ClassFile.Cond → Int32 → Int32 → Prop
  | .eq, x, y => x = y
  | .ne, x, y => ¬ x = y
  | .lt, x, y => x < y
  | .ge, x, y => y ≤ x
  | .gt, x, y => y < x
  | .le, x, y => x ≤ y
section XB
variable {E : PE} {d mi pc : Nat} {L : PL} {st : List Value} {h : PH}
theorem x_ifT {cn : Jvm.ClassFile.Cond} {off : Int} {tg : Nat} {x : Int32} (hi : pin mi pc = some (.ifCond cn off, 3)) (ht : (pc : Int) + off = (tg : Int)) (hc : pcc cn x 0) : Ex E d (mi, pc, L, .int x :: st) h (mi, tg, L, st) h :=
  Ex.go (fun D p l e R s m args below meth c Q H locs cells slots ls hF hl _ _ k => by
    cases cn
    · exact lv_if_eq hF.1 hF.2.1 (pin_dec hi) ht (fun _ => k) (fun q => absurd hc q)
    · exact lv_if_ne hF.1 hF.2.1 (pin_dec hi) ht (fun _ => k) (fun q => absurd q hc)
    · exact lv_if_lt hF.1 hF.2.1 (pin_dec hi) ht (fun _ => k) (fun q => absurd hc q)
    · exact lv_if_ge hF.1 hF.2.1 (pin_dec hi) ht (fun _ => k) (fun q => absurd hc q)
    · exact lv_if_gt hF.1 hF.2.1 (pin_dec hi) ht (fun _ => k) (fun q => absurd hc q)
    · exact lv_if_le hF.1 hF.2.1 (pin_dec hi) ht (fun _ => k) (fun q => absurd hc q))
theorem x_ifF {cn : Jvm.ClassFile.Cond} {off : Int} {tg : Nat} {x : Int32} (hi : pin mi pc = some (.ifCond cn off, 3)) (ht : (pc : Int) + off = (tg : Int)) (hc : ¬ pcc cn x 0) : Ex E d (mi, pc, L, .int x :: st) h (mi, pc + 3, L, st) h :=
  Ex.go (fun D p l e R s m args below meth c Q H locs cells slots ls hF hl _ _ k => by
    cases cn
    · exact lv_if_eq hF.1 hF.2.1 (pin_dec hi) ht (fun q => absurd q hc) (fun _ => k)
    · exact lv_if_ne hF.1 hF.2.1 (pin_dec hi) ht (fun q => absurd q hc) (fun _ => k)
    · exact lv_if_lt hF.1 hF.2.1 (pin_dec hi) ht (fun q => absurd q hc) (fun _ => k)
    · exact lv_if_ge hF.1 hF.2.1 (pin_dec hi) ht (fun q => absurd q hc) (fun _ => k)
    · exact lv_if_gt hF.1 hF.2.1 (pin_dec hi) ht (fun q => absurd q hc) (fun _ => k)
    · exact lv_if_le hF.1 hF.2.1 (pin_dec hi) ht (fun q => absurd q hc) (fun _ => k))
theorem x_icT {cn : Jvm.ClassFile.Cond} {off : Int} {tg : Nat} {x y : Int32} (hi : pin mi pc = some (.if_icmp cn off, 3)) (ht : (pc : Int) + off = (tg : Int)) (hc : pcc cn x y) : Ex E d (mi, pc, L, .int y :: .int x :: st) h (mi, tg, L, st) h :=
  Ex.go (fun D p l e R s m args below meth c Q H locs cells slots ls hF hl _ _ k => by
    cases cn
    · exact lv_icmp_eq hF.1 hF.2.1 (pin_dec hi) ht (fun _ => k) (fun q => absurd hc q)
    · exact lv_icmp_ne hF.1 hF.2.1 (pin_dec hi) ht (fun _ => k) (fun q => absurd q hc)
    · exact lv_icmp_lt hF.1 hF.2.1 (pin_dec hi) ht (fun _ => k) (fun q => absurd hc q)
    · exact lv_icmp_ge hF.1 hF.2.1 (pin_dec hi) ht (fun _ => k) (fun q => absurd hc q)
    · exact lv_icmp_gt hF.1 hF.2.1 (pin_dec hi) ht (fun _ => k) (fun q => absurd hc q)
    · exact lv_icmp_le hF.1 hF.2.1 (pin_dec hi) ht (fun _ => k) (fun q => absurd hc q))
theorem x_icF {cn : Jvm.ClassFile.Cond} {off : Int} {tg : Nat} {x y : Int32} (hi : pin mi pc = some (.if_icmp cn off, 3)) (ht : (pc : Int) + off = (tg : Int)) (hc : ¬ pcc cn x y) : Ex E d (mi, pc, L, .int y :: .int x :: st) h (mi, pc + 3, L, st) h :=
  Ex.go (fun D p l e R s m args below meth c Q H locs cells slots ls hF hl _ _ k => by
    cases cn
    · exact lv_icmp_eq hF.1 hF.2.1 (pin_dec hi) ht (fun q => absurd q hc) (fun _ => k)
    · exact lv_icmp_ne hF.1 hF.2.1 (pin_dec hi) ht (fun q => absurd q hc) (fun _ => k)
    · exact lv_icmp_lt hF.1 hF.2.1 (pin_dec hi) ht (fun q => absurd q hc) (fun _ => k)
    · exact lv_icmp_ge hF.1 hF.2.1 (pin_dec hi) ht (fun q => absurd q hc) (fun _ => k)
    · exact lv_icmp_gt hF.1 hF.2.1 (pin_dec hi) ht (fun q => absurd q hc) (fun _ => k)
    · exact lv_icmp_le hF.1 hF.2.1 (pin_dec hi) ht (fun q => absurd q hc) (fun _ => k))
theorem x_nullT {off : Int} {tg : Nat} (hi : pin mi pc = some (.ifnull off, 3)) (ht : (pc : Int) + off = (tg : Int)) : Ex E d (mi, pc, L, .null :: st) h (mi, tg, L, st) h :=
  Ex.go (fun D p l e R s m args below meth c Q H locs cells slots ls hF hl _ _ k => lv_ifnullN hF.1 hF.2.1 (pin_dec hi) ht k)
theorem x_nullF {off : Int} {a : Nat} (hi : pin mi pc = some (.ifnull off, 3)) : Ex E d (mi, pc, L, .ref a :: st) h (mi, pc + 3, L, st) h :=
  Ex.go (fun D p l e R s m args below meth c Q H locs cells slots ls hF hl _ _ k => lv_ifnull hF.1 hF.2.1 (pin_dec hi) k)
theorem x_nnullT {off : Int} {tg a : Nat} (hi : pin mi pc = some (.ifnonnull off, 3)) (ht : (pc : Int) + off = (tg : Int)) : Ex E d (mi, pc, L, .ref a :: st) h (mi, tg, L, st) h :=
  Ex.go (fun D p l e R s m args below meth c Q H locs cells slots ls hF hl _ _ k => lv_ifnonnull hF.1 hF.2.1 (pin_dec hi) ht k)
theorem x_nnullF {off : Int} (hi : pin mi pc = some (.ifnonnull off, 3)) : Ex E d (mi, pc, L, .null :: st) h (mi, pc + 3, L, st) h :=
  Ex.go (fun D p l e R s m args below meth c Q H locs cells slots ls hF hl _ _ k => lv_ifnonnullN hF.1 hF.2.1 (pin_dec hi) k)
theorem x_acmpT {cn : Jvm.ClassFile.ACond} {off : Int} {tg : Nat} {x y : Option Nat} (hi : pin mi pc = some (.if_acmp cn off, 3)) (ht : (pc : Int) + off = (tg : Int)) (hc : (x = y) = (cn = .eq)) : Ex E d (mi, pc, L, va_rf y :: va_rf x :: st) h (mi, tg, L, st) h :=
  Ex.go (fun D p l e R s m args below meth c Q H locs cells slots ls hF hl _ _ k => by
    cases cn
    · exact lv_acmp_eq hF.1 hF.2.1 (pin_dec hi) ht (fun _ => k) (fun q => absurd (hc.mpr rfl) q)
    · exact lv_acmp_ne hF.1 hF.2.1 (pin_dec hi) ht (fun _ => k) (fun q => by
        first
          | exact absurd (fun z => by cases hc.mp z) q
          | (have q2 := Classical.byContradiction q; cases hc.mp q2)
          | (cases hc.mp q)))
theorem x_tswIn {df lo hi0 off : Int} {offs : Array Int} {len tg : Nat} {x : Int32} (hi : pin mi pc = some (.tableswitch df lo hi0 offs, len)) (h1 : ¬ x.toInt < lo) (h2 : ¬ hi0 < x.toInt) (ho : offs[(x.toInt - lo).toNat]? = some off) (ht : (pc : Int) + off = (tg : Int)) : Ex E d (mi, pc, L, .int x :: st) h (mi, tg, L, st) h :=
  Ex.go (fun D p l e R s m args below meth c Q H locs cells slots ls hF hl _ _ k => lv_tableIn hF.1 hF.2.1 (pin_dec hi) h1 h2 ho ht k)
theorem x_tswOut {df lo hi0 : Int} {offs : Array Int} {len tg : Nat} {x : Int32} (hi : pin mi pc = some (.tableswitch df lo hi0 offs, len)) (h1 : x.toInt < lo ∨ hi0 < x.toInt) (ht : (pc : Int) + df = (tg : Int)) : Ex E d (mi, pc, L, .int x :: st) h (mi, tg, L, st) h :=
  Ex.go (fun D p l e R s m args below meth c Q H locs cells slots ls hF hl _ _ k => lv_tableOut hF.1 hF.2.1 (pin_dec hi) h1 ht k)
end XB
/-- the known locals as the kit's rows take them -/
def pal (L : PL) : List (Nat × Value) := (List.range L.length).filterMap (fun i => match L[i]? with
  | some (some v) => some (i, v)
  | _ => none)
theorem pal_mem {L : PL} {i : Nat} {v : Value} : (i, v) ∈ pal L ↔ L[i]? = some (some v) := by
  unfold pal
  rw [List.mem_filterMap]
  constructor
  · rintro ⟨j, -, hj⟩
    split at hj
    next w hw => cases hj; exact hw
    next => cases hj
  · intro hv
    refine ⟨i, List.mem_range.mpr (List.getElem?_eq_some_iff.mp hv).1, ?_⟩
    rw [hv]
theorem lrel.al {ls : Array Slot} {L : PL} (h : lrel ls L) : lv_has ls L.length (pal L) := ⟨h.1, h.2.1, fun q hq => h.2.2 q.1 q.2 (pal_mem.mp hq)⟩
def pclr (L : PL) (i : Nat) : PL := match i with
  | 0 => L
  | j + 1 => match L[j]? with
    | some (some (.long _)) => L.set j none
    | some (some (.double _)) => L.set j none
    | _ => L
def pst1 (L : PL) (i : Nat) (v : Value) : PL := (pclr L i).set i (some v)
def pst2 (L : PL) (i : Nat) (v : Value) : PL := ((pclr L i).set i (some v)).set (i + 1) none
theorem pclr_len (L : PL) (i : Nat) : (pclr L i).length = L.length := by
  unfold pclr
  split
  · rfl
  · split <;> simp
theorem pclr_at {L : PL} {i j : Nat} {v : Value} (h : (pclr L i)[j]? = some (some v)) : L[j]? = some (some v) ∧ ¬ (j + 1 = i ∧ v.category = 2) := by
  unfold pclr at h
  split at h
  · exact ⟨h, fun q => by omega⟩
  · rename_i j0
    split at h
    next x hx =>
      by_cases e : j = j0
      · subst e
        rw [List.getElem?_set_self (List.getElem?_eq_some_iff.mp hx).1] at h
        cases h
      · rw [List.getElem?_set_ne (Ne.symm e)] at h
        exact ⟨h, fun q => e (by omega)⟩
    next x hx =>
      by_cases e : j = j0
      · subst e
        rw [List.getElem?_set_self (List.getElem?_eq_some_iff.mp hx).1] at h
        cases h
      · rw [List.getElem?_set_ne (Ne.symm e)] at h
        exact ⟨h, fun q => e (by omega)⟩
    next h1 h2 =>
      refine ⟨h, fun q => ?_⟩
      have e : j = j0 := by omega
      subst e
      cases v with
      | long x => exact h1 x h
      | double x => exact h2 x h
      | _ => cases q.2
theorem lrel.st1 {ls' : Array Slot} {L : PL} {i : Nat} {v : Value} (hi : i < L.length) (h : lv_has ls' L.length ((i, v) :: (pal L).filter (fun q => !(q.1 == i) && !(q.1 + 1 == i && q.2.category == 2)))) : lrel ls' (pst1 L i v) := by
  refine ⟨by unfold pst1; rw [List.length_set, pclr_len]; exact h.1, h.2.1, fun j w hj => ?_⟩
  unfold pst1 at hj
  by_cases e : j = i
  · subst e
    rw [List.getElem?_set_self (by rw [pclr_len]; exact hi)] at hj
    cases hj
    exact h.2.2 _ List.mem_cons_self
  · rw [List.getElem?_set_ne (Ne.symm e)] at hj
    obtain ⟨h1, h2⟩ := pclr_at hj
    refine h.2.2 (j, w) (List.mem_cons_of_mem _ (List.mem_filter.mpr ⟨pal_mem.mpr h1, ?_⟩))
    by_cases e2 : j + 1 = i
    · have e3 : ¬ w.category = 2 := fun q => h2 ⟨e2, q⟩
      simp [e, e3]
    · simp [e, e2]
theorem lrel.st2 {ls' : Array Slot} {L : PL} {i : Nat} {v : Value} (hi : i + 1 < L.length) (h : lv_has ls' L.length ((i, v) :: (pal L).filter (fun q => !(q.1 == i) && (!(q.1 == i + 1) && !(q.1 + 1 == i && q.2.category == 2))))) : lrel ls' (pst2 L i v) := by
  refine ⟨by unfold pst2; rw [List.length_set, List.length_set, pclr_len]; exact h.1, h.2.1, fun j w hj => ?_⟩
  unfold pst2 at hj
  by_cases e1 : j = i + 1
  · subst e1
    rw [List.getElem?_set_self (by rw [List.length_set, pclr_len]; exact hi)] at hj
    cases hj
  · rw [List.getElem?_set_ne (Ne.symm e1)] at hj
    by_cases e : j = i
    · subst e
      rw [List.getElem?_set_self (by rw [pclr_len]; omega)] at hj
      cases hj
      exact h.2.2 _ List.mem_cons_self
    · rw [List.getElem?_set_ne (Ne.symm e)] at hj
      obtain ⟨h1, h2⟩ := pclr_at hj
      refine h.2.2 (j, w) (List.mem_cons_of_mem _ (List.mem_filter.mpr ⟨pal_mem.mpr h1, ?_⟩))
      by_cases e2 : j + 1 = i
      · have e3 : ¬ w.category = 2 := fun q => h2 ⟨e2, q⟩
        simp [e, e1, e3]
      · simp [e, e1, e2]
theorem Ex.goL {E : PE} {d mi pc pc' : Nat} {L L' : PL} {st st' : List Value} {h : PH} (hn : L'.length = L.length)
    (k : ∀ (D : PD) (p : Program) (l : Launch) (e : Env) (R : Room) (s : State) (m : MethodId) (args : Array Value) (below : List Frame) (meth : Method) (c : Code) (Q : State → Prop) (H : Heap) (locs : List Loc) (cells slots : Nat) (ls : Array Slot),
      PFit E D p R s m args meth c mi d → lrel ls L → (∀ ls' : Array Slot, lrel ls' L' → W p l e R s m args below meth c H locs cells slots Q (F0 m pc' ls' st')) → W p l e R s m args below meth c H locs cells slots Q (F0 m pc ls st)) :
    Ex E d (mi, pc, L, st) h (mi, pc', L', st') h :=
  ⟨rfl, hn, Nat.le_refl _, Nat.le_refl _, fun D p l e R s m args below meth c Q en es H locs ls hF _ _ _ _ hP hS _ hl kk => k D p l e R s m args below meth c Q H locs _ _ ls hF hl (fun ls' hl' => kk H locs ls' hP hS hl')⟩
theorem pst1_len (L : PL) (i : Nat) (v : Value) : (pst1 L i v).length = L.length := by unfold pst1; rw [List.length_set, pclr_len]
theorem pst2_len (L : PL) (i : Nat) (v : Value) : (pst2 L i v).length = L.length := by unfold pst2; rw [List.length_set, List.length_set, pclr_len]
section XL
variable {E : PE} {d mi pc : Nat} {L : PL} {st : List Value} {h : PH}
theorem x_istore {i : Nat} {x : Int32} (hi : pin mi pc = some (.istore i, 2)) (hn : i < L.length) : Ex E d (mi, pc, L, .int x :: st) h (mi, pc + 2, pst1 L i (.int x), st) h :=
  Ex.goL (pst1_len _ _ _) (fun D p l e R s m args below meth c Q H locs cells slots ls hF hl k => lv_istore hF.1 hF.2.1 (pin_dec hi) hl.al hn rfl (fun ls' h' => k ls' (lrel.st1 hn h')))
theorem x_istore_n {i : Fin 4} {x : Int32} (hi : pin mi pc = some (.istore_n i, 1)) (hn : i.val < L.length) : Ex E d (mi, pc, L, .int x :: st) h (mi, pc + 1, pst1 L i.val (.int x), st) h :=
  Ex.goL (pst1_len _ _ _) (fun D p l e R s m args below meth c Q H locs cells slots ls hF hl k => lv_istore_n hF.1 hF.2.1 (pin_dec hi) rfl hl.al hn rfl (fun ls' h' => k ls' (lrel.st1 hn h')))
theorem x_lstore {i : Nat} {x : Int64} (hi : pin mi pc = some (.lstore i, 2)) (hn : i + 1 < L.length) : Ex E d (mi, pc, L, .long x :: st) h (mi, pc + 2, pst2 L i (.long x), st) h :=
  Ex.goL (pst2_len _ _ _) (fun D p l e R s m args below meth c Q H locs cells slots ls hF hl k => lv_lstore hF.1 hF.2.1 (pin_dec hi) hl.al hn rfl (fun ls' h' => k ls' (lrel.st2 hn h')))
theorem x_lstore_n {i : Fin 4} {x : Int64} (hi : pin mi pc = some (.lstore_n i, 1)) (hn : i.val + 1 < L.length) : Ex E d (mi, pc, L, .long x :: st) h (mi, pc + 1, pst2 L i.val (.long x), st) h :=
  Ex.goL (pst2_len _ _ _) (fun D p l e R s m args below meth c Q H locs cells slots ls hF hl k => lv_lstore_n hF.1 hF.2.1 (pin_dec hi) rfl hl.al hn rfl (fun ls' h' => k ls' (lrel.st2 hn h')))
theorem x_astore {i a : Nat} (hi : pin mi pc = some (.astore i, 2)) (hn : i < L.length) : Ex E d (mi, pc, L, .ref a :: st) h (mi, pc + 2, pst1 L i (.ref a), st) h :=
  Ex.goL (pst1_len _ _ _) (fun D p l e R s m args below meth c Q H locs cells slots ls hF hl k => lv_astore hF.1 hF.2.1 (pin_dec hi) hl.al hn rfl (fun ls' h' => k ls' (lrel.st1 hn h')))
theorem x_astore_n {i : Fin 4} {a : Nat} (hi : pin mi pc = some (.astore_n i, 1)) (hn : i.val < L.length) : Ex E d (mi, pc, L, .ref a :: st) h (mi, pc + 1, pst1 L i.val (.ref a), st) h :=
  Ex.goL (pst1_len _ _ _) (fun D p l e R s m args below meth c Q H locs cells slots ls hF hl k => lv_astore_n hF.1 hF.2.1 (pin_dec hi) rfl hl.al hn rfl (fun ls' h' => k ls' (lrel.st1 hn h')))
theorem x_astoreN {i : Nat} (hi : pin mi pc = some (.astore i, 2)) (hn : i < L.length) : Ex E d (mi, pc, L, .null :: st) h (mi, pc + 2, pst1 L i .null, st) h :=
  Ex.goL (pst1_len _ _ _) (fun D p l e R s m args below meth c Q H locs cells slots ls hF hl k => lv_astoreN hF.1 hF.2.1 (pin_dec hi) hl.al hn rfl (fun ls' h' => k ls' (lrel.st1 hn h')))
theorem x_astore_nN {i : Fin 4} (hi : pin mi pc = some (.astore_n i, 1)) (hn : i.val < L.length) : Ex E d (mi, pc, L, .null :: st) h (mi, pc + 1, pst1 L i.val .null, st) h :=
  Ex.goL (pst1_len _ _ _) (fun D p l e R s m args below meth c Q H locs cells slots ls hF hl k => lv_astore_nN hF.1 hF.2.1 (pin_dec hi) rfl hl.al hn rfl (fun ls' h' => k ls' (lrel.st1 hn h')))
theorem x_iinc {i : Nat} {n : Int} {x : Int32} (hi : pin mi pc = some (.iinc i n, 3)) (hx : L[i]? = some (some (.int x))) : Ex E d (mi, pc, L, st) h (mi, pc + 3, pst1 L i (.int (x + Int32.ofInt n)), st) h := by
  have hn : i < L.length := (List.getElem?_eq_some_iff.mp hx).1
  obtain ⟨k0, hk0⟩ := List.getElem?_of_mem (pal_mem.mpr hx)
  exact Ex.goL (pst1_len _ _ _) (fun D p l e R s m args below meth c Q H locs cells slots ls hF hl k => lv_iinc hF.1 hF.2.1 (pin_dec hi) hl.al hk0 rfl hn rfl (fun ls' h' => k ls' (lrel.st1 hn h')))
end XL
end
section
/-! ===== arrays, new objects, statics, casts ===== -/
/-- the element type of an array's tag -/
def ptag (t : Nat) : Option FieldType := if 100 ≤ t then pat[t - 100]? else none
theorem pcel.arr {E : PE} {D : PD} {a t : Nat} {fs : List Value} {H : Heap} {s : State} {ty : FieldType} (h : pcel D a t fs H) (ht : ptag t = some ty) (hK : PK E D s) : ∃ cell : Cell, H[a]? = some cell ∧ s.isArrayOf cell ty ∧ cell.vm ≠ .unknown ∧ cell.slots.toList = fs ∧ cell.cls = D.2 (t - 100) := by
  unfold ptag at ht
  split at ht
  next h100 =>
    obtain ⟨cell, h1, h2⟩ := h
    rcases h2 with ⟨g, -⟩ | ⟨-, g1, g2, g3, g4, -⟩
    · omega
    · obtain ⟨kA, comp, k1, k2, -⟩ := hK.2.1 _ ty ht
      exact ⟨cell, h1, ⟨g3, kA, by rw [g1]; exact k1, comp, k2⟩, g2, g4, g1⟩
  next => cases ht
theorem pidx {i : Int32} {n : Nat} {cell : Cell} {fs : List Value} {v : Value} (he : i = nI n) (hb : n < 2 ^ 31) (hs : cell.slots.toList = fs) (hv : fs[n]? = some v) : ¬ (i < 0 ∨ cell.slots.size ≤ i.toNatClampNeg) ∧ cell.slots[i.toNatClampNeg]? = some v ∧ i.toNatClampNeg = n := by
  subst he
  have hl : n < fs.length := (List.getElem?_eq_some_iff.mp hv).1
  have hz : cell.slots.size = fs.length := by rw [← hs, Array.length_toList]
  rw [nI_clamp hb]
  refine ⟨fun q => ?_, by rw [← Array.getElem?_toList, hs]; exact hv, rfl⟩
  rcases q with q | q
  · exact nI_pos hb q
  · omega
theorem prep.setA {E : PE} {D : PD} {h : PH} {H H' : Heap} {a t n : Nat} {fs : List Value} {v : Value} {cell : Cell} {ty : FieldType} (hP : prep E D h H) (ha : h.1 a = some (t, fs)) (ht : ptag t = some ty) (hc : H[a]? = some cell) (h1 : H'[a]? = some (cell.setSlot n v)) (hz : H'.size = H.size) (ho : ∀ q, q ≠ a → H'[q]? = H[q]?) : prep E D (pset h a (t, fs.set n v)) H' := by
  refine hP.setO ha hz ho ?_
  obtain ⟨⟨cell', g0, g⟩, -⟩ := hP.2 a t fs ha
  cases hc.symm.trans g0
  have h100 : 100 ≤ t := by
    unfold ptag at ht
    split at ht
    next q => exact q
    next => cases ht
  rcases g with ⟨q, -⟩ | ⟨-, g1, g2, g3, g4, g5⟩
  · omega
  · refine ⟨_, h1, Or.inr ⟨h100, g1, g2, g3, ?_, fun q => by rw [g5 q]; rfl⟩⟩
    show (cell.slots.setIfInBounds n v).toList = fs.set n v
    rw [Array.toList_setIfInBounds, g4]
section XA
variable {E : PE} {d mi pc : Nat} {L : PL} {st : List Value} {h : PH}
theorem x_iald {i : Int32} {a t n : Nat} {fs : List Value} {v : Value} (hi : pin mi pc = some (.iaload, 1)) (ha : h.1 a = some (t, fs)) (ht : ptag t = some .int) (he : i = nI n) (hb : n < 2 ^ 31) (hv : fs[n]? = some v) : Ex E d (mi, pc, L, .int i :: .ref a :: st) h (mi, pc + 1, L, v :: st) h :=
  Ex.go (fun D p l e R s m args below meth c Q H locs cells slots ls hF _ hP hS kk => by
    obtain ⟨cell, c1, c2, c3, c4, -⟩ := (hP.2 a t fs ha).1.arr ht hF.2.2.2.2.2.2.2.2.1
    obtain ⟨q1, q2, -⟩ := pidx he hb c4 hv
    exact W.iald hF.1 hF.2.1 c1 c2 c3 q1 q2 rfl rfl (pin_dec hi) kk)
theorem x_lald {i : Int32} {a t n : Nat} {fs : List Value} {v : Value} (hi : pin mi pc = some (.laload, 1)) (ha : h.1 a = some (t, fs)) (ht : ptag t = some .long) (he : i = nI n) (hb : n < 2 ^ 31) (hv : fs[n]? = some v) : Ex E d (mi, pc, L, .int i :: .ref a :: st) h (mi, pc + 1, L, v :: st) h :=
  Ex.go (fun D p l e R s m args below meth c Q H locs cells slots ls hF _ hP hS kk => by
    obtain ⟨cell, c1, c2, c3, c4, -⟩ := (hP.2 a t fs ha).1.arr ht hF.2.2.2.2.2.2.2.2.1
    obtain ⟨q1, q2, -⟩ := pidx he hb c4 hv
    exact W.lald hF.1 hF.2.1 c1 c2 c3 q1 q2 rfl rfl (pin_dec hi) kk)
theorem x_zald {i : Int32} {a t n : Nat} {fs : List Value} {v : Value} (hi : pin mi pc = some (.baload, 1)) (ha : h.1 a = some (t, fs)) (ht : ptag t = some .boolean) (he : i = nI n) (hb : n < 2 ^ 31) (hv : fs[n]? = some v) : Ex E d (mi, pc, L, .int i :: .ref a :: st) h (mi, pc + 1, L, v :: st) h :=
  Ex.go (fun D p l e R s m args below meth c Q H locs cells slots ls hF _ hP hS kk => by
    obtain ⟨cell, c1, c2, c3, c4, -⟩ := (hP.2 a t fs ha).1.arr ht hF.2.2.2.2.2.2.2.2.1
    obtain ⟨q1, q2, -⟩ := pidx he hb c4 hv
    exact W.zald hF.1 hF.2.1 c1 c2 c3 q1 q2 rfl rfl (pin_dec hi) kk)
theorem x_aald {i : Int32} {a t n : Nat} {fs : List Value} {v : Value} {ty : FieldType} (hi : pin mi pc = some (.aaload, 1)) (ha : h.1 a = some (t, fs)) (ht : ptag t = some ty) (hr : ty.isReference = true) (he : i = nI n) (hb : n < 2 ^ 31) (hv : fs[n]? = some v) : Ex E d (mi, pc, L, .int i :: .ref a :: st) h (mi, pc + 1, L, v :: st) h :=
  Ex.go (fun D p l e R s m args below meth c Q H locs cells slots ls hF _ hP hS kk => by
    obtain ⟨cell, c1, c2, c3, c4, -⟩ := (hP.2 a t fs ha).1.arr ht hF.2.2.2.2.2.2.2.2.1
    obtain ⟨q1, q2, -⟩ := pidx he hb c4 hv
    exact W.aald hF.1 hF.2.1 c1 c2 hr c3 q1 q2 rfl rfl (pin_dec hi) kk)
theorem x_alen {a t : Nat} {fs : List Value} {ty : FieldType} (hi : pin mi pc = some (.arraylength, 1)) (ha : h.1 a = some (t, fs)) (ht : ptag t = some ty) : Ex E d (mi, pc, L, .ref a :: st) h (mi, pc + 1, L, .int (nI fs.length) :: st) h :=
  Ex.go (fun D p l e R s m args below meth c Q H locs cells slots ls hF _ hP hS kk => by
    obtain ⟨cell, c1, c2, c3, c4, -⟩ := (hP.2 a t fs ha).1.arr ht hF.2.2.2.2.2.2.2.2.1
    exact W.alen (n := nI fs.length) hF.1 hF.2.1 c1 c2 (by rw [← c4, Array.length_toList]; rfl) rfl rfl (pin_dec hi) kk)
theorem x_iast {i x : Int32} {a t n : Nat} {fs : List Value} (hi : pin mi pc = some (.iastore, 1)) (ha : h.1 a = some (t, fs)) (ht : ptag t = some .int) (ht7 : t < 107) (he : i = nI n) (hb : n < 2 ^ 31) (hv : n < fs.length) : Ex E d (mi, pc, L, .int x :: .int i :: .ref a :: st) h (mi, pc + 1, L, st) (pset h a (t, fs.set n (.int x))) :=
  Ex.put rfl (fun D p l e R s m args below meth c Q H locs cells slots ls hF _ hP hS kk => by
    obtain ⟨cell, c1, c2, c3, c4, -⟩ := (hP.2 a t fs ha).1.arr ht hF.2.2.2.2.2.2.2.2.1
    obtain ⟨q1, -, q3⟩ := pidx he hb c4 (List.getElem?_eq_getElem hv)
    refine W.iast hF.1 hF.2.1 c1 c2 c3 q1 rfl rfl (pin_dec hi) fun H' e1 e2 e3 => ?_
    rw [q3] at e1
    exact kk H' _ (hP.setA ha ht c1 e1 e2 e3) (hS.put e2 e3 ((hP.2 a t fs ha).2 ht7)))
theorem x_last {i : Int32} {x : Int64} {a t n : Nat} {fs : List Value} (hi : pin mi pc = some (.lastore, 1)) (ha : h.1 a = some (t, fs)) (ht : ptag t = some .long) (ht7 : t < 107) (he : i = nI n) (hb : n < 2 ^ 31) (hv : n < fs.length) : Ex E d (mi, pc, L, .long x :: .int i :: .ref a :: st) h (mi, pc + 1, L, st) (pset h a (t, fs.set n (.long x))) :=
  Ex.put rfl (fun D p l e R s m args below meth c Q H locs cells slots ls hF _ hP hS kk => by
    obtain ⟨cell, c1, c2, c3, c4, -⟩ := (hP.2 a t fs ha).1.arr ht hF.2.2.2.2.2.2.2.2.1
    obtain ⟨q1, -, q3⟩ := pidx he hb c4 (List.getElem?_eq_getElem hv)
    refine W.last hF.1 hF.2.1 c1 c2 c3 q1 rfl rfl (pin_dec hi) fun H' e1 e2 e3 => ?_
    rw [q3] at e1
    exact kk H' _ (hP.setA ha ht c1 e1 e2 e3) (hS.put e2 e3 ((hP.2 a t fs ha).2 ht7)))
theorem x_zast {i x : Int32} {a t n : Nat} {fs : List Value} (hi : pin mi pc = some (.bastore, 1)) (ha : h.1 a = some (t, fs)) (ht : ptag t = some .boolean) (ht7 : t < 107) (he : i = nI n) (hb : n < 2 ^ 31) (hv : n < fs.length) : Ex E d (mi, pc, L, .int x :: .int i :: .ref a :: st) h (mi, pc + 1, L, st) (pset h a (t, fs.set n (narrow .boolean (.int x)))) :=
  Ex.put rfl (fun D p l e R s m args below meth c Q H locs cells slots ls hF _ hP hS kk => by
    obtain ⟨cell, c1, c2, c3, c4, -⟩ := (hP.2 a t fs ha).1.arr ht hF.2.2.2.2.2.2.2.2.1
    obtain ⟨q1, -, q3⟩ := pidx he hb c4 (List.getElem?_eq_getElem hv)
    refine W.zast hF.1 hF.2.1 c1 c2 c3 q1 rfl rfl (pin_dec hi) fun H' e1 e2 e3 => ?_
    rw [q3] at e1
    exact kk H' _ (hP.setA ha ht c1 e1 e2 e3) (hS.put e2 e3 ((hP.2 a t fs ha).2 ht7)))
end XA
theorem prep.new {E : PE} {D : PD} {h : PH} {H H' : Heap} {t : Nat} {fs : List Value} (hP : prep E D h H) (hz : H'.size = H.size + 1) (ho : ∀ q, q < H.size → H'[q]? = H[q]?) (hE : E.1 ≤ H.size) (hc : pcel D H.size t fs H') : prep E D (pnew h (t, fs)) H' := by
  refine ⟨by rw [hz, hP.1]; rfl, fun b u gs hb => ?_⟩
  have hb' : (if b = h.2.1 then some (t, fs) else h.1 b) = some (u, gs) := hb
  by_cases e : b = h.2.1
  · rw [if_pos e] at hb'
    cases hb'
    subst e
    rw [← hP.1]
    exact ⟨hc, fun _ => hE⟩
  · rw [if_neg e] at hb'
    obtain ⟨⟨cell, g1, g2⟩, g3⟩ := hP.2 b u gs hb'
    exact ⟨⟨cell, by rw [ho b (Array.getElem?_eq_some_iff.mp g1).1]; exact g1, g2⟩, g3⟩
/-- a step that makes one cell -/
theorem Ex.mk {E : PE} {d mi pc pc' : Nat} {L : PL} {st st' : List Value} {h : PH} {c0 : PC}
    (k : ∀ (D : PD) (p : Program) (l : Launch) (e : Env) (R : Room) (s : State) (m : MethodId) (args : Array Value) (below : List Frame) (meth : Method) (c : Code) (Q : State → Prop) (H : Heap) (locs : List Loc) (cells slots : Nat) (ls : Array Slot),
      PFit E D p R s m args meth c mi d → lrel ls L → prep E D h H → va_S (fun q => E.1 ≤ q) s.heap H locs → cells + 1 ≤ R.cells → slots + c0.2.length ≤ R.slots →
      (∀ H' : Heap, prep E D (pnew h c0) H' → va_S (fun q => E.1 ≤ q) s.heap H' locs → W p l e R s m args below meth c H' locs (cells + 1) (slots + c0.2.length) Q (F0 m pc' ls st')) → W p l e R s m args below meth c H locs cells slots Q (F0 m pc ls st)) :
    Ex E d (mi, pc, L, st) h (mi, pc', L, st') (pnew h c0) :=
  ⟨rfl, rfl, Nat.le_succ _, Nat.le_add_right _ _, fun D p l e R s m args below meth c Q en es H locs ls hF he1 he2 hc hs hP hS _ hl kk => by
    have hc : h.2.1 + 1 - en ≤ R.cells := hc
    have hs : h.2.2 + c0.2.length - es ≤ R.slots := hs
    refine k D p l e R s m args below meth c Q H locs _ _ ls hF hl hP hS (by omega) (by omega) (fun H' hP' hS' => ?_)
    have e1 : h.2.1 - en + 1 = (pnew h c0).2.1 - en := by show _ = h.2.1 + 1 - en; omega
    have e2 : h.2.2 - es + c0.2.length = (pnew h c0).2.2 - es := by show _ = h.2.2 + c0.2.length - es; omega
    rw [e1, e2]
    exact kk H' locs ls hP' hS' hl⟩
theorem va_S.grow {A : Nat → Prop} {H0 H H' : Heap} {locs : List Loc} (hS : va_S A H0 H locs) (hz : H'.size = H.size + 1) (ho : ∀ q, q < H.size → H'[q]? = H[q]?) : va_S A H0 H' locs :=
  ⟨Nat.le_trans hS.1 (by omega), fun q h1 h2 => (ho q (Nat.lt_of_lt_of_le h1 hS.1)).trans (hS.2.1 q h1 h2), hS.2.2⟩
theorem pcn_ok {o j t u : Nat} (h : pcn o j = some (t, u)) : (t = 99 ∨ (t < 11 ∧ Jvm.Cond.classLink (cnm.getD o "") j (pcls t).1 ∈ gtbl)) ∧ (u = 99 ∨ ((3 ≤ u ∧ u < 7) ∧ Jvm.Cond.classLink (cnm.getD o "") j (parn.getD u "") ∈ gtbl)) := by
  unfold pcn at h
  cases hf : clk.find? (fun q => q.1 == o && q.2.1 == j) with
  | none => rw [hf] at h; cases h
  | some q =>
    rw [hf] at h
    obtain ⟨h1, h2⟩ := pfind hf
    have h3 := List.all_eq_true.mp clk_ok q h1
    obtain ⟨q1, q2, q3, q4, q5⟩ := q
    cases h
    simp only [Bool.and_eq_true, beq_iff_eq] at h2
    obtain ⟨rfl, rfl⟩ := h2
    simp only [Bool.and_eq_true, decide_eq_true_eq, Bool.or_eq_true] at h3
    obtain ⟨g1, g2⟩ := h3
    refine ⟨?_, ?_⟩
    · rcases g1 with g1 | ⟨g1, g3⟩
      · exact Or.inl g1
      · exact Or.inr ⟨g1, gt_tab _ g3 rfl⟩
    · rcases g2 with g2 | ⟨g2, g3⟩
      · exact Or.inl g2
      · exact Or.inr ⟨g2, gt_tab _ g3 rfl⟩
theorem pinst_ok {t : Nat} (h : t < 11) : Jvm.Cond.instantiable (pcls t).1 (pcls t).2.2 ∈ gtbl ∧ Jvm.Cond.initialized (pcls t).1 ∈ gtbl := by
  have h1 := List.all_eq_true.mp pin_inst_ok t (List.mem_range.mpr h)
  simp only [Bool.and_eq_true, decide_eq_true_eq] at h1
  exact ⟨gt_tab _ h1.1 rfl, gt_tab _ h1.2 rfl⟩
def pdef (t : Nat) : List Value := (List.range (pcls t).2.2).map (fun k => defaultValue (pty t k))
section XN
variable {E : PE} {d mi pc : Nat} {L : PL} {st : List Value} {h : PH}
theorem x_new {j t u : Nat} (hi : pin mi pc = some (.new j, 3)) (hl : pcn (mno mi) j = some (t, u)) (ht : t < 11) : Ex E d (mi, pc, L, st) h (mi, pc + 3, L, .ref h.2.1 :: st) (pnew h (t, pdef t)) := by
  have hlen : (pdef t).length = (pcls t).2.2 := by unfold pdef; rw [List.length_map, List.length_range]
  refine Ex.mk (fun D p l e R s m args below meth c Q H locs cells slots ls hF _ hP hS hc hs kk => ?_)
  have hts := hF.2.2.2.2.1
  have hK := hF.2.2.2.2.2.2.2.2.1.1
  have hcl : Jvm.Cond.classLink (mown mi) j (pcls t).1 ∈ gtbl := by
    rcases (pcn_ok hl).1 with q | q
    · omega
    · exact q.2
  obtain ⟨w1, w2⟩ := pinst_ok ht
  have hKn := hK.1 t _ (pcls_at ht)
  simp only [hlen] at hs kk
  refine W.newcK hF.1 hF.2.1 hF.2.2.2.1 (hts _ hcl) (hts _ w1) (hts _ w2) rfl (pin_dec hi) hc hs hKn.2.1 hP.1 fun H' kC hkC e1 z1 o1 => ?_
  rw [← hP.1] at e1 z1 o1
  refine kk H' (hP.new z1 o1 (hF.S hS) ?_) (hS.grow z1 o1)
  obtain ⟨cell, g1, g2, g3, g4⟩ := u_born (pty t) hts (pws ht) hKn hkC e1 (pty_ok ht)
  refine ⟨cell, g1, Or.inl ⟨by omega, g2, g3, by rw [hlen, pN_at ht], fun k hk => ?_⟩⟩
  rw [pN_at ht] at hk
  rw [g4 k hk]
  unfold pdef
  rw [List.getElem?_map, List.getElem?_range hk]
  rfl
theorem x_newa {at0 : ArrayType} {i : Int32} {j n : Nat} {ty : FieldType} (hi : pin mi pc = some (.newarray at0, 2)) (hty : newarray.typeOf at0 = ty) (hp : pat[j]? = some ty) (hj : j < 7) (hw : Jvm.Cond.arrayClass ty ∈ gtbl) (he : i = nI n) (hb : n ≤ 60000) (h8 : componentBytes ty ≤ 8) :
    Ex E d (mi, pc, L, .int i :: st) h (mi, pc + 2, L, .ref h.2.1 :: st) (pnew h (100 + j, List.replicate n (defaultValue ty))) := by
  subst hty
  subst he
  have hb31 : n < 2 ^ 31 := by omega
  refine Ex.mk (fun D p l e R s m args below meth c Q H locs cells slots ls hF _ hP hS hc hs kk => ?_)
  have hts := hF.2.2.2.2.1
  have hK := hF.2.2.2.2.2.2.2.2.1
  simp only [List.length_replicate] at hs kk
  have ec : (nI n).toNatClampNeg = n := nI_clamp hb31
  refine W.newa hF.1 hF.2.1 (hts _ hw) rfl (pin_dec hi) rfl (nI_pos hb31) (by rw [ec]; exact Nat.le_trans (Nat.mul_le_mul hb h8) (by decide)) hc (by rw [ec]; exact hs) (fun cA kA comp h1 h2 h3 => ?_)
  rw [ec]
  have hcA : cA = D.2 j := Option.some.inj (h1.symm.trans (hK.2.2.1 j _ hp hj))
  rw [show (Value.ref H.size) = Value.ref h.2.1 by rw [hP.1]]
  have z1 : (H.push ({ cls := cA, slots := Array.replicate n (defaultValue (newarray.typeOf at0)), vm := .none } : Cell)).size = H.size + 1 := Array.size_push _
  have o1 : ∀ q, q < H.size → (H.push ({ cls := cA, slots := Array.replicate n (defaultValue (newarray.typeOf at0)), vm := .none } : Cell))[q]? = H[q]? := fun q hq => by rw [Array.getElem?_push, if_neg (by omega)]
  refine kk _ (hP.new z1 o1 (hF.S hS) ⟨_, by rw [Array.getElem?_push, if_pos rfl], Or.inr ⟨by omega, ?_, (fun q => by cases q), (fun q z => by cases z), ?_, fun _ => rfl⟩⟩) (hS.grow z1 o1)
  · show cA = D.2 (100 + j - 100)
    rw [hcA, Nat.add_sub_cancel_left]
  · show (Array.replicate n (defaultValue (newarray.typeOf at0))).toList = _
    rw [Array.toList_replicate]
theorem x_anew {i : Int32} {j t u n : Nat} (hi : pin mi pc = some (.anewarray j, 3)) (hl : pcn (mno mi) j = some (t, u)) (hu : u < 7) (he : i = nI n) (hb : n ≤ 60000) :
    Ex E d (mi, pc, L, .int i :: st) h (mi, pc + 3, L, .ref h.2.1 :: st) (pnew h (100 + u, List.replicate n .null)) := by
  subst he
  have hb31 : n < 2 ^ 31 := by omega
  obtain ⟨⟨u3, u7⟩, hw⟩ : (3 ≤ u ∧ u < 7) ∧ Jvm.Cond.classLink (mown mi) j (parn.getD u "") ∈ gtbl := by
    rcases (pcn_ok hl).2 with q | q
    · omega
    · exact q
  have hov := List.all_eq_true.mp aov_ok u (List.mem_map.mpr ⟨u - 3, List.mem_range.mpr (by omega), by omega⟩)
  simp only [Bool.and_eq_true, decide_eq_true_eq] at hov
  refine Ex.mk (fun D p l e R s m args below meth c Q H locs cells slots ls hF _ hP hS hc hs kk => ?_)
  have hts := hF.2.2.2.2.1
  have hK := hF.2.2.2.2.2.2.2.2.1
  simp only [List.length_replicate] at hs kk
  have ec : (nI n).toNatClampNeg = n := nI_clamp hb31
  refine W.anew hF.1 hF.2.1 hF.2.2.2.1 (hts _ hw) (va_AO.use (hK.2.2.2.2.2.2.2.2.2.1 u _ hov.2 u7)) rfl (pin_dec hi) rfl (nI_pos hb31) (by rw [ec]; omega) hc (by rw [ec]; exact hs) (fun cA kA comp h1 h2 h3 h4 => ?_)
  rw [ec]
  have hcA : cA = D.2 u := Option.some.inj (h1.symm.trans (hK.2.2.1 u _ hov.2 u7))
  rw [show (Value.ref H.size) = Value.ref h.2.1 by rw [hP.1]]
  have z1 : (H.push ({ cls := cA, slots := Array.replicate n .null, vm := .none } : Cell)).size = H.size + 1 := Array.size_push _
  have o1 : ∀ q, q < H.size → (H.push ({ cls := cA, slots := Array.replicate n .null, vm := .none } : Cell))[q]? = H[q]? := fun q hq => by rw [Array.getElem?_push, if_neg (by omega)]
  refine kk _ (hP.new z1 o1 (hF.S hS) ⟨_, by rw [Array.getElem?_push, if_pos rfl], Or.inr ⟨by omega, ?_, (fun q => by cases q), (fun q z => by cases z), ?_, fun _ => rfl⟩⟩) (hS.grow z1 o1)
  · show cA = D.2 (100 + u - 100)
    rw [hcA, Nat.add_sub_cancel_left]
  · show (Array.replicate n Value.null).toList = _
    rw [Array.toList_replicate]
end XN
end
section
/-! ===== calls: a method's run ===== -/
theorem parr.moved {u U : State} {cA : ClassId} {ty : FieldType} (hvm : u.vm.Alike U.vm) (h : parr u cA ty) : parr U cA ty := by
  obtain ⟨kA, comp, h1, h2, h3⟩ := h
  obtain ⟨k', hk', he⟩ := hvm.2.2 _ _ h1
  exact ⟨k', comp, hk', by rw [he]; exact h2, fun C hC => by rw [hvm.findClass]; exact h3 C hC⟩
theorem PK.moved {E : PE} {D : PD} {u U : State} (hW : u.WarmedH U.vm) (hk : ∀ q : Nat, q < u.heap.size → ¬ E.1 ≤ q → U.heap[q]? = u.heap[q]?) (h : PK E D u) : PK E D U := by
  have hvm := hW.alike
  obtain ⟨h1, h2, h3, h4, h5, h6, h7, h8, h9, h10, h11, h12, h13, h14⟩ := h
  exact ⟨va_K.moved hvm h1, fun j ty hj => (h2 j ty hj).moved hvm, fun j ty hj hj7 => by rw [hvm.findClass]; exact h3 j ty hj hj7,
    (h4.moved hvm).kept hk, (h5.moved hvm).kept hk, (h6.moved hvm).kept hk, h7.moved hvm, h8, h9.moved hvm, fun j C hj hj7 => (h10 j C hj hj7).moved hvm,
    fun q hq => (h11 q hq).warmM hW, h12.warmF hW, h13.warmF hW, h14.warmC hW⟩
/-- the word of a method's code, its room -/
def mwd (k : Nat) : Jvm.Cond := Jvm.Cond.code (mnam k) (mbyt k) (mmax k) (mret k)
def rmd (d mc ms : Nat) : Room := { frames := d + 8, cells := mc, slots := ms, locals := 40 * d + 200 }
/-- the locals with which a method begins -/
def pent0 : List Value → PL
  | [] => []
  | v :: vs => if v.category = 2 then some v :: none :: pent0 vs else some v :: pent0 vs
def pent (vs : List Value) (n : Nat) : PL := pent0 vs ++ List.replicate (n - (pent0 vs).length) none
theorem pent0_len (vs : List Value) : (pent0 vs).length = (lg_sl vs).length := by
  induction vs with
  | nil => rfl
  | cons v vs ih =>
    unfold pent0
    split
    next hc =>
      rw [List.length_cons, List.length_cons, ih]
      simp [lg_sl, hc]
    next hc =>
      rw [List.length_cons, ih]
      simp [lg_sl, hc]
theorem pent0_args (vs : List Value) : ∀ (i0 i : Nat) (v : Value), (pent0 vs)[i]? = some (some v) → (i0 + i, v) ∈ lv_args i0 vs := by
  induction vs with
  | nil => intro i0 i v h; simp [pent0] at h
  | cons w vs ih =>
    intro i0 i v h
    unfold pent0 at h
    unfold lv_args
    split at h
    next hc =>
      cases i with
      | zero => simp at h; subst h; exact List.mem_cons_self
      | succ i =>
        cases i with
        | zero => simp at h
        | succ i =>
          simp only [List.getElem?_cons_succ] at h
          rw [if_pos hc]
          have := ih (i0 + 2) i v h
          rw [show i0 + (i + 1 + 1) = i0 + 2 + i by omega]
          exact List.mem_cons_of_mem _ this
    next hc =>
      cases i with
      | zero => simp at h; subst h; exact List.mem_cons_self
      | succ i =>
        simp only [List.getElem?_cons_succ] at h
        rw [if_neg hc]
        have := ih (i0 + 1) i v h
        rw [show i0 + (i + 1) = i0 + 1 + i by omega]
        exact List.mem_cons_of_mem _ this
theorem pent_rel (vs : List Value) {n : Nat} (h : (pent0 vs).length ≤ n) : lrel ((lg_sl vs ++ List.replicate (n - (lg_sl vs).length) Slot.unset).toArray) (pent vs n) := by
  have hE := lv_entry vs (n := n) (by rw [← pent0_len]; exact h)
  refine ⟨?_, hE.2.1, fun i v hi => ?_⟩
  · rw [hE.1]
    unfold pent
    rw [List.length_append, List.length_replicate]
    omega
  · unfold pent at hi
    have hi2 : (pent0 vs)[i]? = some (some v) := by
      by_cases hl : i < (pent0 vs).length
      · rw [List.getElem?_append_left hl] at hi
        exact hi
      · rw [List.getElem?_append_right (by omega)] at hi
        have := List.mem_of_getElem? hi
        rw [List.mem_replicate] at this
        cases this.2
    have := pent0_args vs 0 i v hi2
    rw [Nat.zero_add] at this
    exact hE.2.2 _ this
/-- a method's end -/
def pret (m : Nat) (i : Instr) (st : List Value) (v : Option Value) : Prop :=
  (i = .return_ ∧ mret m = none ∧ st = [] ∧ v = none) ∨
  (i = .ireturn ∧ ∃ (x : Int32) (ty : FieldType), mret m = some ty ∧ narrow ty (.int x) = .int x ∧ st = [.int x] ∧ v = some (.int x)) ∨
  (i = .lreturn ∧ mret m = some .long ∧ ∃ x : Int64, st = [.long x] ∧ v = some (.long x)) ∨
  (i = .areturn ∧ ∃ (rt : FieldType) (w : Value), mret m = some rt ∧ ((∃ n, rt = .object n) ∨ ∃ t, rt = .array t) ∧ (w = .null ∨ ∃ a, w = .ref a) ∧ st = [w] ∧ v = some w)
/-- the method m, called with As over h, answers v over h' -/
def Rn (E : PE) (d m : Nat) (As : List Value) (h : PH) (v : Option Value) (h' : PH) : Prop :=
  (pent0 As).length ≤ mmax m ∧ ∃ (pc : Nat) (L : PL) (st : List Value) (i : Instr), Ex E d (m, 0, pent As (mmax m), []) h (m, pc, L, st) h' ∧ pin m pc = some (i, 1) ∧ pret m i st v
def pPre (E : PE) (D : PD) (As : List Value) (h : PH) : Array Value → State → Prop := va_Pc As (fun U => prep E D h U.heap ∧ PK E D U ∧ E.1 ≤ U.heap.size)
def pPost (E : PE) (D : PD) (v : Option Value) (h' : PH) : Array Value → State → Outcome → State → Prop := fun _ st oc t => oc = .returned v ∧ prep E D h' t.heap ∧ va_F (fun q => E.1 ≤ q) st t
def mkp (k : Nat) : Bool := decide (k < 144 ∧ k ≠ 122 ∧ k ≠ 123)
theorem gt_good {w : Jvm.Cond} (h : w ∈ gtbl) : goodWord w = true := (List.mem_filter.mp h).2
theorem mk_ok {k : Nat} (hk : mkp k = true) : mwd k ∈ gtbl ∧ Jvm.Cond.initialized (mnam k).cls ∈ gtbl ∧ (mnam k).cls = mown k ∧ Jvm.plainName (mnam k).cls = true ∧ mmax k ≤ 15 ∧ ((mnam k).cls ≠ "java/lang/invoke/MethodHandle" ∧ (mnam k).cls ≠ "java/lang/invoke/VarHandle") ∧
    (parseMethodDescriptor (mnam k).desc).map (fun d => d.parameters.length) = some (if (mkd k).1 = 0 then marg k else marg k - 1) ∧ ((mkd k).1 = 0 ∨ 0 < marg k) ∧
    ((mkd k).1 = 0 → Jvm.Cond.static (mnam k) ∈ gtbl) ∧ ((mkd k).1 ≠ 0 → Jvm.Cond.instanceMethod (mnam k) ∈ gtbl) ∧ ((mkd k).1 = 1 ∨ (mkd k).1 = 3 → Jvm.Cond.selects (mnam k).cls (mnam k) (mnam k) ∈ gtbl) ∧ ((mkd k).1 = 2 → (mnam k).name = "<init>" ∧ mret k = none) := by
  unfold mkp at hk
  obtain ⟨h1, h2, h3⟩ := of_decide_eq_true hk
  have h := mkc_all h1
  unfold mkc at h
  have h0 : decide (k = 122 ∨ k = 123) = false := decide_eq_false (fun q => q.elim h2 h3)
  rw [h0, Bool.false_or] at h
  simp only [Bool.and_eq_true, decide_eq_true_eq] at h
  obtain ⟨⟨⟨⟨⟨⟨⟨⟨⟨g1, g2⟩, g3⟩, g4⟩, g5⟩, g6⟩, g7⟩, g8⟩, g9⟩, g10⟩ := h
  refine ⟨gt_tab _ g1 rfl, gt_tab _ g2 rfl, g3, g4, g5, g6, g7, g8, fun q => ?_, fun q => ?_, fun q => ?_, fun q => ?_⟩
  · rw [if_pos q] at g9
    exact gt_tab _ (of_decide_eq_true g9) rfl
  · rw [if_neg q] at g9
    exact gt_tab _ (of_decide_eq_true g9) rfl
  · rcases q with q | q
    · rw [if_pos q] at g10
      exact gt_tab _ (of_decide_eq_true g10) rfl
    · rw [if_neg (by omega), if_pos q] at g10
      exact gt_sel _ (of_decide_eq_true g10) rfl
  · rw [if_neg (by omega), if_neg (by omega), if_pos q] at g10
    exact of_decide_eq_true g10
theorem gt_in {k : Nat} (hk : mkp k = true) : GoodIn gtbl (mwd k :: gtbl) := by
  intro w hw
  rcases List.mem_cons.mp hw with rfl | h
  · exact ⟨(mk_ok hk).1, good_of_word (gt_good (mk_ok hk).1)⟩
  · exact ⟨h, good_of_word (gt_good h)⟩
theorem pPre.blind {E : PE} {D : PD} {As : List Value} {h : PH} : FrameBlind (pPre E D As h) := fun a U g mk q => by
  obtain ⟨q0, q1, q2, q3⟩ := q
  exact ⟨q0, q1, PK.moved (u := U) (U := U.calling g mk a) (State.WarmedH.refl U) (fun _ _ _ => rfl) q2, q3⟩
set_option maxHeartbeats 1000000 in
theorem Rn.met {E : PE} {d k : Nat} {As : List Value} {h h' : PH} {v : Option Value} (l : Launch) (D : PD) (hk : mkp k = true) (hr : Rn E d k As h v h') :
    Met l (mnam k) (mwd k :: gtbl) (rmd d (h'.2.1 - h.2.1) (h'.2.2 - h.2.2)) (pPre E D As h) (pPost E D v h') (h'.2.1 - h.2.1) (h'.2.2 - h.2.2) (fun q => E.1 ≤ q) := by
  obtain ⟨hlen, pc, L, st, i, hex, hpin, hret⟩ := hr
  obtain ⟨hX1, hX2, hX3, hX4, hX5⟩ := hex
  refine Met.ofW (cc := mbyt k) (maxL := mmax k) (ret := mret k) (mk_ok hk).2.2.2.1 rfl ?_
  intro p e s m args below meth c s₁ B hml hv
  obtain ⟨rfl, hP, hK, hE⟩ := hv
  have hx := B.exec
  have hb := B.bytes
  have hr := B.returns
  have hlocks := B.notSynchronized
  have hts := atoms_spec (ws := mwd k :: gtbl) B.pre
  have hown : s.vm.findClass (mnam k).cls = some m.cls := findClass_of_methodNamed B.named
  rw [lg_entry_eq]
  have hF : PFit E D p (headSpec (mwd k :: gtbl) (rmd d (h'.2.1 - h.2.1) (h'.2.2 - h.2.2))).room s m As.toArray meth c k d :=
    ⟨hx, hb, hml, by rw [← (mk_ok hk).2.2.1]; exact hown, fun w hw => hts w (List.mem_cons_of_mem _ hw), (name_of_methodNamed B.named B.method).1, Nat.le_refl _, Nat.le_refl _, hK, hE⟩
  have key := hX5 D p l e (headSpec (mwd k :: gtbl) (rmd d (h'.2.1 - h.2.1) (h'.2.2 - h.2.2))).room s m As.toArray below meth c (MQ below (pPost E D v h') As.toArray s (h'.2.1 - h.2.1) (h'.2.2 - h.2.2) (fun q => E.1 ≤ q)) h.2.1 h.2.2 s.heap [] _ hF (Nat.le_refl _) (Nat.le_refl _) (Nat.le_refl _) (Nat.le_refl _) hP va_S.rf (by
      show (pent As (mmax k)).length = mmax k
      unfold pent
      rw [List.length_append, List.length_replicate]
      omega) (pent_rel As hlen) (fun H' locs' ls' hP' hS' _ => ?_)
  · rw [Nat.sub_self, Nat.sub_self] at key
    exact key
  · have hq : ∀ w, w = v → ∀ t : State, t.heap = H' → s.WarmedH t.vm → pPost E D v h' As.toArray s (.returned w) t := fun w hw t ht _ => ⟨by rw [hw], by rw [ht]; exact hP', hS'.F ht⟩
    rcases hret with ⟨rfl, h1, rfl, rfl⟩ | ⟨rfl, x, ty, h1, h2, rfl, rfl⟩ | ⟨rfl, h1, x, rfl, rfl⟩ | ⟨rfl, rt, w, h1, h2, h3, rfl, rfl⟩
    · exact W.vret hx hb (hr.trans h1) (hq _ rfl) hS'.2.2 (pin_dec hpin)
    · exact W.zret hx hb (hr.trans h1) h2 (hq _ rfl) hS'.2.2 (pin_dec hpin)
    · exact W.lret hx hb (hr.trans h1) (hq _ rfl) hS'.2.2 (pin_dec hpin)
    · exact W.aret hx hb (hr.trans h1) h2 h3 (hq _ rfl) hS'.2.2 (pin_dec hpin)
/-- a call whose run the kit gives -/
theorem Ex.call {E : PE} {d mi pc k : Nat} {L : PL} {st st1 rest As : List Value} {h h1 : PH} {v : Option Value} (hst : st1 = v.toList ++ rest) (hk : mkp k = true) (hr : Rn E d k As h v h1)
    (run : ∀ (D : PD) (p : Program) (l : Launch) (e : Env) (R : Room) (s : State) (m : MethodId) (args : Array Value) (below : List Frame) (meth : Method) (c : Code) (H : Heap) (locs : List Loc) (cells slots : Nat) (ls : Array Slot),
      PFit E D p R s m args meth c mi (d + 1) → prep E D h H → va_S (fun q => E.1 ≤ q) s.heap H locs → ls.size = mmax mi → cells + (h1.2.1 - h.2.1) ≤ R.cells ∧ slots + (h1.2.2 - h.2.2) ≤ R.slots →
      Met l (mnam k) (mwd k :: gtbl) (rmd d (h1.2.1 - h.2.1) (h1.2.2 - h.2.2)) (pPre E D As h) (pPost E D v h1) (h1.2.1 - h.2.1) (h1.2.2 - h.2.2) (fun q => E.1 ≤ q) →
      (∀ U : State, U.heap = H → s.WarmedH U.vm → pPre E D As h As.toArray U) →
      va_Run p l e R s m args below meth c H locs cells slots (h1.2.1 - h.2.1) (h1.2.2 - h.2.2) (F0 m pc ls st) rest (pPost E D v h1 As.toArray) (fun q => E.1 ≤ q)) :
    Ex E (d + 1) (mi, pc, L, st) h (mi, pc + 3, L, st1) h1 := by
  have hmono := hr.2
  obtain ⟨pc0, L0, st0, i0, ⟨-, -, hn1, hn2, -⟩, -, -⟩ := hmono
  refine ⟨rfl, rfl, hn1, hn2, ?_⟩
  intro D p l e R s m args below meth c Q en es H locs ls hF he1 he2 hc hs hP hS hm hl kk
  have hc : h1.2.1 - en ≤ R.cells := hc
  have hs : h1.2.2 - es ≤ R.slots := hs
  have hn1 : h.2.1 ≤ h1.2.1 := hn1
  have hn2 : h.2.2 ≤ h1.2.2 := hn2
  have hr0 := run D p l e R s m args below meth c H locs (h.2.1 - en) (h.2.2 - es) ls hF hP hS (hl.1.trans hm) ⟨by omega, by omega⟩ (hr.met l D hk)
    (fun U hU hW => ⟨rfl, by rw [hU]; exact hP, PK.moved hW (fun q h1 h2 => by rw [hU]; exact hS.2.1 q h1 h2) hF.2.2.2.2.2.2.2.2.1, by rw [hU]; exact hF.S hS⟩)
  intro T hT X
  obtain ⟨v', st₀, t, T', Ls, h0, X', hL, e1, e2, ⟨hv, hP', hz, hkp⟩, stp⟩ := hr0 T hT X
  have hv : v' = v := Outcome.returned.inj hv
  subst hv
  rw [h0] at hz hkp
  have e3 : h.2.1 - en + (h1.2.1 - h.2.1) = h1.2.1 - en := by omega
  have e4 : h.2.2 - es + (h1.2.2 - h.2.2) = h1.2.2 - es := by omega
  rw [e3, e4] at X'
  obtain ⟨t2, a1, b1⟩ := kk T'.heap (locs ++ Ls) ls (by rw [e1]; exact hP') ⟨Nat.le_trans hS.1 (by rw [e1]; exact hz), fun q g1 g2 => by rw [e1, hkp q (Nat.lt_of_lt_of_le g1 hS.1) g2]; exact hS.2.1 q g1 g2, fun q hq => by
      rcases List.mem_append.mp hq with g | g
      · exact hS.2.2 q g
      · exact hL q g⟩ hl T' rfl X'
  refine ⟨t2, stp t2 ?_, b1⟩
  rw [← hst]
  exact a1
end
section
/-! ===== the invoking instructions ===== -/
theorem pml_ok {o j k : Nat} (h : pml o j = some k) : Jvm.Cond.methodLink (cnm.getD o "") j (mnam k) ∈ gtbl := by
  unfold pml at h
  cases hf : mlk.find? (fun q => q.1 == o && q.2.1 == j) with
  | none => rw [hf] at h; cases h
  | some q =>
    rw [hf] at h
    obtain ⟨h1, h2⟩ := pfind hf
    have h3 := List.all_eq_true.mp mlk_ok q h1
    obtain ⟨q1, q2, q3, q4⟩ := q
    cases h
    simp only [Bool.and_eq_true, beq_iff_eq] at h2
    obtain ⟨rfl, rfl⟩ := h2
    exact gt_tab _ (of_decide_eq_true h3) rfl
theorem pmn_ok {o j k : Nat} (h : pmn o j = some k) : ∃ q ∈ mln, q.1 = o ∧ q.2.1 = j ∧ q.2.2.1 = k := by
  unfold pmn at h
  cases hf : mln.find? (fun q => q.1 == o && q.2.1 == j) with
  | none => rw [hf] at h; cases h
  | some q =>
    rw [hf] at h
    obtain ⟨h1, h2⟩ := pfind hf
    simp only [Bool.and_eq_true, beq_iff_eq] at h2
    exact ⟨q, h1, h2.1, h2.2, Option.some.inj h⟩
theorem hroom {d mi : Nat} {E : PE} {D : PD} {p : Program} {R : Room} {s : State} {m : MethodId} {args : Array Value} {meth : Method} {c : Code} (hF : PFit E D p R s m args meth c mi (d + 1)) {k : Nat} (hk : mkp k = true) (mc ms : Nat) : (rmd d mc ms).frames + 1 ≤ R.frames ∧ 8 + (mmax k + 11) + (rmd d mc ms).locals ≤ R.locals := by
  have h1 : d + 1 + 8 ≤ R.frames := hF.2.2.2.2.2.2.1
  have h2 : 40 * (d + 1) + 200 ≤ R.locals := hF.2.2.2.2.2.2.2.1
  have h3 := (mk_ok hk).2.2.2.2.1
  refine ⟨?_, ?_⟩
  · show d + 8 + 1 ≤ _
    omega
  · show 8 + (mmax k + 11) + (40 * d + 200) ≤ _
    omega
section XI
variable {E : PE} {d mi pc : Nat} {L : PL} {h h1 : PH} {rest As : List Value} {v : Option Value}
theorem x_calls {j k : Nat} {st st1 : List Value} (hi : pin mi pc = some (.invokestatic j, 3)) (hl : pml (mno mi) j = some k) (hk : mkp k = true) (hs : (mkd k).1 = 0) (hst : st = As.reverse ++ rest) (ha : As.length = marg k) (hw : (rest.map fun v => v.category).sum ≤ 8) (hr : Rn E d k As h v h1) (hst1 : st1 = v.toList ++ rest) :
    Ex E (d + 1) (mi, pc, L, st) h (mi, pc + 3, L, st1) h1 := by
  subst hst
  refine Ex.call hst1 hk hr (fun D p l e R s m args below meth c H locs cells slots ls hF hP hS hz hf hM hpre => ?_)
  obtain ⟨w1, w2, w3, w4, w5, w6, w7, w8, w9, w10, w11, w12⟩ := mk_ok hk
  have hts := hF.2.2.2.2.1
  rw [if_pos hs] at w7
  exact va_runS (As := As) (rest := rest) (Ts := gtbl) (own := mown mi) ⟨hF.1, hF.2.1, hF.2.2.1, hF.2.2.2.1, hts⟩ hM ⟨callB_of (marg k) hts (gt_in hk) rfl rfl rfl (hts _ w2) (hts _ (pml_ok hl)) ⟨w6.1, w6.2, w7⟩ (hroom hF hk _ _), hts _ (w9 hs)⟩ ⟨pPre.blind, hpre⟩ rfl ha hz rfl (lv_room hw) (pin_dec hi) hf
theorem x_calln {j k : Nat} {st st1 : List Value} (hi : pin mi pc = some (.invokestatic j, 3)) (hl : pmn (mno mi) j = some k) (hk : mkp k = true) (hs : (mkd k).1 = 0) (hst : st = As.reverse ++ rest) (ha : As.length = marg k) (hw : (rest.map fun v => v.category).sum ≤ 8) (hr : Rn E d k As h v h1) (hst1 : st1 = v.toList ++ rest) :
    Ex E (d + 1) (mi, pc, L, st) h (mi, pc + 3, L, st1) h1 := by
  subst hst
  refine Ex.call hst1 hk hr (fun D p l e R s m args below meth c H locs cells slots ls hF hP hS hz hf hM hpre => ?_)
  obtain ⟨w1, w2, w3, w4, w5, w6, w7, w8, w9, w10, w11, w12⟩ := mk_ok hk
  have hts := hF.2.2.2.2.1
  rw [if_pos hs] at w7
  obtain ⟨q, q1, q2, q3, q4⟩ := pmn_ok hl
  have hn := hF.2.2.2.2.2.2.2.2.1.2.2.2.2.2.2.2.2.2.2.1 q q1
  rw [q2, q3, q4] at hn
  exact va_runSN (As := As) (rest := rest) (Ts := gtbl) (own := mown mi) ⟨hF.1, hF.2.1, hF.2.2.1, hF.2.2.2.1, hts⟩ hM ⟨va_cnB (marg k) hts (gt_in hk) rfl rfl rfl hn (hts _ w2) ⟨w6.1, w6.2, w7⟩ (hroom hF hk _ _), hts _ (w9 hs), trivial⟩ ⟨pPre.blind, hpre⟩ rfl ha hz rfl (lv_room hw) (pin_dec hi) hf
theorem x_callv {j k b t : Nat} {fs : List Value} {st st1 : List Value} (hi : pin mi pc = some (.invokevirtual j, 3)) (hl : pml (mno mi) j = some k) (hk : mkp k = true) (hs : (mkd k).1 = 1 ∨ (mkd k).1 = 3) (hst : st = As.reverse ++ .ref b :: rest) (ha : As.length + 1 = marg k) (hb : h.1 b = some (t, fs)) (ht : t < 11) (hc : (pcls t).1 = (mnam k).cls) (hw : (rest.map fun v => v.category).sum ≤ 8) (hr : Rn E d k (.ref b :: As) h v h1) (hst1 : st1 = v.toList ++ rest) :
    Ex E (d + 1) (mi, pc, L, st) h (mi, pc + 3, L, st1) h1 := by
  subst hst
  refine Ex.call hst1 hk hr (fun D p l e R s m args below meth c H locs cells slots ls hF hP hS hz hf hM hpre => ?_)
  obtain ⟨w1, w2, w3, w4, w5, w6, w7, w8, w9, w10, w11, w12⟩ := mk_ok hk
  have hts := hF.2.2.2.2.1
  have hs0 : (mkd k).1 ≠ 0 := by omega
  rw [if_neg hs0] at w7
  have hrecv := va_recv (tys := []) hF.2.2.2.2.2.2.2.2.1.1 ((hP.2 b t fs hb).1.ob ht) (pcls_at ht) (q0 := 0) rfl
  rw [hc] at hrecv
  exact va_runV (As := As) (rest := rest) (Ts := gtbl) (own := mown mi) (C := (mnam k).cls) ⟨hF.1, hF.2.1, hF.2.2.1, hF.2.2.2.1, hts⟩ hM ⟨callB_of (marg k - 1) hts (gt_in hk) rfl rfl rfl (hts _ w2) (hts _ (pml_ok hl)) ⟨w6.1, w6.2, w7⟩ (hroom hF hk _ _), hts _ (w10 hs0), hts _ (w11 hs)⟩ ⟨pPre.blind, hrecv, hpre⟩ rfl (by omega) hz rfl (lv_room hw) (pin_dec hi) hf
theorem x_calli {j k b : Nat} {st st1 : List Value} (hi : pin mi pc = some (.invokespecial j, 3)) (hl : pml (mno mi) j = some k) (hk : mkp k = true) (hs : (mkd k).1 = 2) (hst : st = As.reverse ++ .ref b :: rest) (ha : As.length + 1 = marg k) (hw : (rest.map fun v => v.category).sum ≤ 8) (hr : Rn E d k (.ref b :: As) h v h1) (hst1 : st1 = v.toList ++ rest) :
    Ex E (d + 1) (mi, pc, L, st) h (mi, pc + 3, L, st1) h1 := by
  subst hst
  refine Ex.call hst1 hk hr (fun D p l e R s m args below meth c H locs cells slots ls hF hP hS hz hf hM hpre => ?_)
  obtain ⟨w1, w2, w3, w4, w5, w6, w7, w8, w9, w10, w11, w12⟩ := mk_ok hk
  have hts := hF.2.2.2.2.1
  have hs0 : (mkd k).1 ≠ 0 := by omega
  rw [if_neg hs0] at w7
  obtain ⟨n1, n2⟩ := w12 hs
  have hw0 : mwd k :: gtbl = Jvm.Cond.code (mnam k) (mbyt k) (mmax k) none :: gtbl := by unfold mwd; rw [n2]
  exact va_runI (As := As) (rest := rest) (Ts := gtbl) (own := mown mi) (maxL := mmax k) (bytes := mbyt k) ⟨hF.1, hF.2.1, hF.2.2.1, hF.2.2.2.1, hts⟩ hM ⟨callB_of (marg k - 1) hts (gt_in hk) hw0 rfl rfl (hts _ w2) (hts _ (pml_ok hl)) ⟨w6.1, w6.2, w7⟩ (hroom hF hk _ _), n1, hts _ (w10 hs0)⟩ ⟨pPre.blind, hpre⟩ rfl (by omega) hz rfl (lv_room hw) (pin_dec hi) hf
end XI
theorem pol_ok {o j : Nat} (h : pol o j = true) : Jvm.Cond.methodLink (cnm.getD o "") j objectInit ∈ gtbl := by
  unfold pol at h
  obtain ⟨q, h1, h2⟩ := List.any_eq_true.mp h
  have h3 := List.all_eq_true.mp olk_ok q h1
  simp only [Bool.and_eq_true, beq_iff_eq] at h2
  obtain ⟨rfl, rfl⟩ := h2
  exact gt_tab _ (of_decide_eq_true h3) rfl
theorem pci_ok {o j : Nat} {z : Int} (h : pci o j = some z) : Jvm.Cond.constant (cnm.getD o "") j (Int32.ofInt z) ∈ gtbl := by
  unfold pci at h
  cases hf : cin.find? (fun q => q.1 == o && q.2.1 == j) with
  | none => rw [hf] at h; cases h
  | some q =>
    rw [hf] at h
    obtain ⟨h1, h2⟩ := pfind hf
    have h3 := List.all_eq_true.mp cin_ok q h1
    obtain ⟨q1, q2, q3, q4⟩ := q
    cases h
    simp only [Bool.and_eq_true, beq_iff_eq] at h2
    obtain ⟨rfl, rfl⟩ := h2
    exact gt_tab _ (of_decide_eq_true h3) rfl
theorem pcj_ok {o j : Nat} {z : Int} (h : pcj o j = some z) : Jvm.Cond.constantLong (cnm.getD o "") j (Int64.ofInt z) ∈ gtbl := by
  unfold pcj at h
  cases hf : cjn.find? (fun q => q.1 == o && q.2.1 == j) with
  | none => rw [hf] at h; cases h
  | some q =>
    rw [hf] at h
    obtain ⟨h1, h2⟩ := pfind hf
    have h3 := List.all_eq_true.mp cjn_ok q h1
    obtain ⟨q1, q2, q3, q4⟩ := q
    cases h
    simp only [Bool.and_eq_true, beq_iff_eq] at h2
    obtain ⟨rfl, rfl⟩ := h2
    exact gt_tab _ (of_decide_eq_true h3) rfl
theorem pgl_ok {o j w : Nat} (h : pgl o j = some w) : (w = 0 ∧ cnm.getD o "" = "TermSimplifier$Converter" ∧ j = jHL) ∨ (w = 1 ∧ cnm.getD o "" = "TermSimplifier$Converter" ∧ j = jPA) ∨ (w = 2 ∧ Jvm.Cond.fieldLink (cnm.getD o "") j "java/util/ArrayList" "DEFAULTCAPACITY_EMPTY_ELEMENTDATA" "[Ljava/lang/Object;" ∈ gtbl) := by
  unfold pgl at h
  cases hf : pgs.find? (fun q => q.1 == o && q.2.1 == j) with
  | none => rw [hf] at h; cases h
  | some q =>
    rw [hf] at h
    obtain ⟨h1, h2⟩ := pfind hf
    have h3 := List.all_eq_true.mp pgs_ok q h1
    obtain ⟨q1, q2, q3, q4⟩ := q
    cases h
    simp only [Bool.and_eq_true, beq_iff_eq] at h2
    obtain ⟨rfl, rfl⟩ := h2
    simp only [Bool.and_eq_true, Bool.or_eq_true, decide_eq_true_eq] at h3
    rcases h3 with (h3 | h3) | ⟨h3, h4⟩
    · exact Or.inl h3
    · exact Or.inr (Or.inl h3)
    · exact Or.inr (Or.inr ⟨h3, gt_tab _ h4 rfl⟩)
section XO
variable {E : PE} {d mi pc : Nat} {L : PL} {st : List Value} {h : PH}
theorem x_obj {j a : Nat} (hi : pin mi pc = some (.invokespecial j, 3)) (hl : pol (mno mi) j = true) (hn : L.length = mmax mi) (hw : (st.map fun v => v.category).sum ≤ 8) : Ex E d (mi, pc, L, .ref a :: st) h (mi, pc + 3, L, st) h :=
  Ex.go (fun D p l e R s m args below meth c Q H locs cells slots ls hF hlr _ _ k => by
    have hts := hF.2.2.2.2.1
    have h1 : d + 8 ≤ R.frames := hF.2.2.2.2.2.2.1
    have h2 : 40 * d + 200 ≤ R.locals := hF.2.2.2.2.2.2.2.1
    exact W.objInit hF.1 hF.2.1 hF.2.2.2.1 (hts _ (pol_ok hl)) (hts _ (gt_tab _ oin_ok rfl)) (hts _ (gt_tab _ oco_ok rfl)) rfl (hlr.1.trans (hn.trans hF.2.2.1.symm)) rfl (pin_dec hi) (by omega) (by
      show 2 * 0 + (st.map fun v => v.category).sum + 12 ≤ _
      omega) k)
theorem x_ldc {j : Nat} {z : Int} (hi : pin mi pc = some (.ldc j, 2)) (hl : pci (mno mi) j = some z) : Ex E d (mi, pc, L, st) h (mi, pc + 2, L, .int (Int32.ofInt z) :: st) h :=
  Ex.go (fun D p l e R s m args below meth c Q H locs cells slots ls hF hlr _ _ k => lv_ldc hF.1 hF.2.1 hF.2.2.2.1 (hF.2.2.2.2.1 _ (pci_ok hl)) (pin_dec hi) k)
theorem x_ldc2 {j : Nat} {z : Int} (hi : pin mi pc = some (.ldc2_w j, 3)) (hl : pcj (mno mi) j = some z) : Ex E d (mi, pc, L, st) h (mi, pc + 3, L, .long (Int64.ofInt z) :: st) h :=
  Ex.go (fun D p l e R s m args below meth c Q H locs cells slots ls hF hlr _ _ k => lv_ldc2 hF.1 hF.2.1 hF.2.2.2.1 (hF.2.2.2.2.1 _ (pcj_ok hl)) (pin_dec hi) k)
theorem x_gets {j w : Nat} (hi : pin mi pc = some (.getstatic j, 3)) (hl : pgl (mno mi) j = some w) : Ex E d (mi, pc, L, st) h (mi, pc + 3, L, .ref (E.2.1 w) :: st) h :=
  Ex.go (fun D p l e R s m args below meth c Q H locs cells slots ls hF hlr hP hS k => by
    obtain ⟨h1, h2, h3, h4, h5, h6, h7, h8, h9, h10, h11, h12, h13, h14⟩ := hF.2.2.2.2.2.2.2.2.1
    have hown : s.vm.findClass (mown mi) = some m.cls := hF.2.2.2.1
    rcases pgl_ok hl with ⟨rfl, g1, rfl⟩ | ⟨rfl, g1, rfl⟩ | ⟨rfl, g1⟩
    · have g2 : mown mi = "TermSimplifier$Converter" := g1
      rw [g2] at hown
      exact va_getsN hF.1 hF.2.1 h4 hS hown (va_Nw.use rfl h12) (fun _ q => q) (pin_dec hi) k
    · have g2 : mown mi = "TermSimplifier$Converter" := g1
      rw [g2] at hown
      exact va_getsN hF.1 hF.2.1 h5 hS hown (va_Nw.use rfl h13) (fun _ q => q) (pin_dec hi) k
    · exact va_gets hF.1 hF.2.1 h6 hS hown (hF.2.2.2.2.1 _ g1) (fun _ q => q) (pin_dec hi) k)
theorem x_castN {j : Nat} (hi : pin mi pc = some (.checkcast j, 3)) : Ex E d (mi, pc, L, .null :: st) h (mi, pc + 3, L, .null :: st) h :=
  Ex.go (fun D p l e R s m args below meth c Q H locs cells slots ls hF hlr _ _ k => lv_castN hF.1 hF.2.1 (pin_dec hi) k)
theorem x_cast {j t u a : Nat} {fs : List Value} (hi : pin mi pc = some (.checkcast j, 3)) (hl : pcn (mno mi) j = some (t, u)) (ht : t < 11) (ha : h.1 a = some (t, fs)) : Ex E d (mi, pc, L, .ref a :: st) h (mi, pc + 3, L, .ref a :: st) h :=
  Ex.go (fun D p l e R s m args below meth c Q H locs cells slots ls hF hlr hP hS k => by
    have hts := hF.2.2.2.2.1
    have hK := hF.2.2.2.2.2.2.2.2.1.1
    have hcl : Jvm.Cond.classLink (mown mi) j (pcls t).1 ∈ gtbl := by
      rcases (pcn_ok hl).1 with q | q
      · omega
      · exact q.2
    exact va_castS hF.1 hF.2.1 hF.2.2.2.1 (hts _ hcl) (hK.1 t _ (pcls_at ht)).2 (va_recv (tys := []) hK ((hP.2 a t fs ha).1.ob ht) (pcls_at ht) (q0 := 0) rfl) (pin_dec hi) k)
end XO
end
section
/-! ===== stores of references, the library's natives ===== -/
/-- which objects an array of references takes -/
def passn (t tv : Nat) : Bool := decide ((t = 103 ∧ tv = 1) ∨ (t = 104 ∧ tv = 7) ∨ (t = 105 ∧ tv = 2) ∨ (t = 106 ∧ tv = 2))
theorem passn_ok {E : PE} {D : PD} {s : State} {t tv : Nat} (h : passn t tv = true) (hK : PK E D s) : ∃ (C : String) (kA kcomp kv : Class) (comp : ClassId), ptag t = some (.object C) ∧ t < 107 ∧ tv < 11 ∧ s.vm.classes[D.2 (t - 100)]? = some kA ∧ kA.kind = .array comp (.object C) ∧ s.vm.classes[comp]? = some kcomp ∧ s.vm.classes[D.1.1 tv]? = some kv ∧ s.vm.assignable (D.1.1 tv) comp = true := by
  obtain ⟨h1, h2, h3, h4, h5, h6, h7, h8, h9, h10, h11, h12, h13, h14⟩ := hK
  have same : ∀ (j u : Nat) (C : String), pat[j]? = some (.object C) → u < 11 → (pcls u).1 = C → ∃ (kA kcomp kv : Class) (comp : ClassId), s.vm.classes[D.2 j]? = some kA ∧ kA.kind = .array comp (.object C) ∧ s.vm.classes[comp]? = some kcomp ∧ s.vm.classes[D.1.1 u]? = some kv ∧ s.vm.assignable (D.1.1 u) comp = true := by
    intro j u C hj hu hC
    obtain ⟨kA, comp, k1, k2, k3⟩ := h2 j _ hj
    have hcl := (h1.1 u _ (pcls_at hu)).2
    have k4 := k3 C rfl
    rw [← hC] at k4
    cases hcl.1.symm.trans k4
    obtain ⟨kC, hkC, -⟩ := hcl.2
    exact ⟨kA, kC, kC, _, k1, k2, hkC, hkC, va_assign hcl⟩
  rcases of_decide_eq_true h with ⟨rfl, rfl⟩ | ⟨rfl, rfl⟩ | ⟨rfl, rfl⟩ | ⟨rfl, rfl⟩
  · obtain ⟨a, b, c, d, e⟩ := same 3 1 _ rfl (by decide) rfl
    exact ⟨_, a, b, c, d, rfl, by decide, by decide, e⟩
  · obtain ⟨a, b, c, d, e⟩ := same 4 7 _ rfl (by decide) rfl
    exact ⟨_, a, b, c, d, rfl, by decide, by decide, e⟩
  · obtain ⟨a, b, c, d, e⟩ := same 5 2 _ rfl (by decide) rfl
    exact ⟨_, a, b, c, d, rfl, by decide, by decide, e⟩
  · obtain ⟨kA, comp, k1, k2, k3⟩ := h2 6 _ rfl
    have k4 := k3 _ rfl
    obtain ⟨kE, hkE, -⟩ := Vm.findClass_spec k4
    obtain ⟨c0, t1, f1, f2, f3⟩ := Cond.castable_spec (va_Nw.use (A := #[]) rfl h14)
    have hcl := (h1.1 2 _ (pcls_at (by decide))).2
    cases (show s.vm.findClass "TermSimplifier$Binding" = some (D.1.1 2) from hcl.1).symm.trans f1
    cases k4.symm.trans f2
    obtain ⟨kC, hkC, -⟩ := hcl.2
    exact ⟨_, kA, kE, kC, comp, rfl, by decide, by decide, k1, k2, hkE, hkC, f3⟩
def pcpy (fs gs : List Value) (sp dp n : Nat) : List Value := (List.range gs.length).map (va_cpy (fun j => fs.getD j .null) (fun j => gs.getD j .null) sp dp n)
theorem arrV_list (cA : ClassId) (N : Nat) (f : Nat → Value) : (arrV cA N f).slots.toList = (List.range N).map f := by
  apply List.ext_getElem?
  intro i
  rw [Array.getElem?_toList]
  by_cases h : i < N
  · rw [arrV_read _ _ h, List.getElem?_map, List.getElem?_range h]
    rfl
  · rw [Array.getElem?_eq_none (by rw [arrV_size]; omega), List.getElem?_eq_none (by rw [List.length_map, List.length_range]; omega)]
theorem arrV_of {cell : Cell} {fs : List Value} {cA : ClassId} (hc : cell.cls = cA) (hv : cell = ({ cls := cell.cls, slots := cell.slots, vm := .none } : Cell)) (hs : cell.slots.toList = fs) : cell = arrV cA fs.length (fun j => fs.getD j .null) := by
  rw [hv]
  generalize cell.slots = sl at hs ⊢
  rw [hc]
  have e : sl = (arrV cA fs.length (fun j => fs.getD j .null)).slots := by
    apply Array.toList_inj.mp
    rw [arrV_list]
    apply List.ext_getElem?
    intro i
    rw [show sl.toList = fs from hs]
    by_cases h : i < fs.length
    · rw [List.getElem?_map, List.getElem?_range h, List.getElem?_eq_getElem h]
      simp [h]
    · rw [List.getElem?_eq_none (by omega), List.getElem?_eq_none (by rw [List.length_map, List.length_range]; omega)]
  rw [e]
  rfl
section XR
variable {E : PE} {d mi pc : Nat} {L : PL} {st : List Value} {h : PH}
theorem x_aast {i : Int32} {a t n v tv : Nat} {fs gs : List Value} (hi : pin mi pc = some (.aastore, 1)) (ha : h.1 a = some (t, fs)) (hv : h.1 v = some (tv, gs)) (hok : passn t tv = true) (he : i = nI n) (hb : n < 2 ^ 31) (hn : n < fs.length) : Ex E d (mi, pc, L, .ref v :: .int i :: .ref a :: st) h (mi, pc + 1, L, st) (pset h a (t, fs.set n (.ref v))) :=
  Ex.put rfl (fun D p l e R s m args below meth c Q H locs cells slots ls hF _ hP hS kk => by
    have hK := hF.2.2.2.2.2.2.2.2.1
    obtain ⟨C, kA, kcomp, kv, comp, ht, ht7, htv, k1, k2, k3, k4, k5⟩ := passn_ok hok hK
    obtain ⟨cell, c1, c2, c3, c4, c5⟩ := (hP.2 a t fs ha).1.arr ht hK
    obtain ⟨q1, -, q3⟩ := pidx he hb c4 (List.getElem?_eq_getElem hn)
    obtain ⟨⟨cv, v1, v2⟩, -⟩ := hP.2 v tv gs hv
    rcases v2 with ⟨-, g1, g2, -⟩ | ⟨g, -⟩
    · refine W.aast hF.1 hF.2.1 c1 c2.1 c3 (by rw [c5]; exact k1) k2 rfl k3 ⟨fun z => q1 (Or.inl z), Nat.not_le.mp fun z => q1 (Or.inr z)⟩ v1 (fun q z => by rw [g2] at z; cases z) (by rw [g1]; exact k4) (by rw [g1]; exact k5) rfl rfl (pin_dec hi) fun H' e1 e2 e3 => ?_
      rw [q3] at e1
      exact kk H' _ (hP.setA ha ht c1 e1 e2 e3) (hS.put e2 e3 ((hP.2 a t fs ha).2 ht7))
    · omega)
theorem x_aastN {i : Int32} {a t n : Nat} {fs : List Value} {C : String} (hi : pin mi pc = some (.aastore, 1)) (ha : h.1 a = some (t, fs)) (ht : ptag t = some (.object C)) (ht7 : t < 107) (he : i = nI n) (hb : n < 2 ^ 31) (hn : n < fs.length) : Ex E d (mi, pc, L, .null :: .int i :: .ref a :: st) h (mi, pc + 1, L, st) (pset h a (t, fs.set n .null)) :=
  Ex.put rfl (fun D p l e R s m args below meth c Q H locs cells slots ls hF _ hP hS kk => by
    obtain ⟨cell, c1, c2, c3, c4, c5⟩ := (hP.2 a t fs ha).1.arr ht hF.2.2.2.2.2.2.2.2.1
    obtain ⟨q1, -, q3⟩ := pidx he hb c4 (List.getElem?_eq_getElem hn)
    refine va_WaastN (C := C) hF.1 hF.2.1 c1 c2 c3 q1 rfl rfl (pin_dec hi) fun H' e1 e2 e3 => ?_
    rw [q3] at e1
    exact kk H' _ (hP.setA ha ht c1 e1 e2 e3) (hS.put e2 e3 ((hP.2 a t fs ha).2 ht7)))
theorem acl_at {o j : Nat} (h : acl0.any (fun q => q.1 == o && q.2.1 == j) = true) : Jvm.Cond.methodLink (cnm.getD o "") j arraycopyName ∈ gtbl := by
  obtain ⟨q, h1, h2⟩ := List.any_eq_true.mp h
  have h3 := List.all_eq_true.mp acl0_ok q h1
  simp only [Bool.and_eq_true, beq_iff_eq] at h2
  obtain ⟨rfl, rfl⟩ := h2
  exact gt_tab _ (of_decide_eq_true h3) rfl
set_option maxHeartbeats 1000000 in
/-- System.arraycopy between two arrays Object[] whose elements are Bindings or null -/
theorem x_copy {isp idp ic : Int32} {j a b sp dp n : Nat} {fs gs : List Value} (hi : pin mi pc = some (.invokestatic j, 3)) (hl : acl0.any (fun q => q.1 == mno mi && q.2.1 == j) = true) (hL : L.length = mmax mi) (hw : (st.map fun v => v.category).sum ≤ 8)
    (ha : h.1 a = some (106, fs)) (hb : h.1 b = some (106, gs)) (h1 : isp = nI sp) (h2 : idp = nI dp) (h3 : ic = nI n) (h4 : sp + n ≤ fs.length) (h5 : dp + n ≤ gs.length) (hz : fs.length < 2 ^ 31 ∧ gs.length < 2 ^ 31)
    (hel : ∀ i : Nat, i < n → fs.getD (sp + i) .null = .null ∨ ∃ (y : Nat) (ys : List Value), fs.getD (sp + i) .null = .ref y ∧ h.1 y = some (2, ys)) :
    Ex E d (mi, pc, L, .int ic :: .int idp :: .ref b :: .int isp :: .ref a :: st) h (mi, pc + 3, L, st) (pset h b (106, pcpy fs gs sp dp n)) :=
  Ex.put rfl (fun D p l e R s m args below meth c Q H locs cells slots ls hF hlr hP hS kk => by
    have hts := hF.2.2.2.2.1
    have hK := hF.2.2.2.2.2.2.2.2.1
    subst h1 h2 h3
    have csp : (nI sp).toNatClampNeg = sp := nI_clamp (by omega)
    have cdp : (nI dp).toNatClampNeg = dp := nI_clamp (by omega)
    have cn : (nI n).toNatClampNeg = n := nI_clamp (by omega)
    have fr : d + 8 ≤ R.frames := hF.2.2.2.2.2.2.1
    have lo : 40 * d + 200 ≤ R.locals := hF.2.2.2.2.2.2.2.1
    have hnw : nativeFrameWords "java/lang/System" "arraycopy" 5 + 11 ≤ 100 := by decide
    obtain ⟨ca, a1, a2, a3, a4, a5⟩ := (hP.2 a 106 fs ha).1.arr (ty := .object "java/lang/Object") rfl hK
    obtain ⟨cb, b1, b2, b3, b4, b5⟩ := (hP.2 b 106 gs hb).1.arr (ty := .object "java/lang/Object") rfl hK
    have va : ca = ({ cls := ca.cls, slots := ca.slots, vm := .none } : Cell) := by
      obtain ⟨⟨c', g0, g⟩, -⟩ := hP.2 a 106 fs ha
      cases a1.symm.trans g0
      rcases g with ⟨q, -⟩ | ⟨-, -, -, -, -, g5⟩
      · omega
      · exact g5 (by decide)
    have vb : cb = ({ cls := cb.cls, slots := cb.slots, vm := .none } : Cell) := by
      obtain ⟨⟨c', g0, g⟩, -⟩ := hP.2 b 106 gs hb
      cases b1.symm.trans g0
      rcases g with ⟨q, -⟩ | ⟨-, -, -, -, -, g5⟩
      · omega
      · exact g5 (by decide)
    obtain ⟨C, kA, kcomp, kv, comp, -, -, -, k1, k2, k3, k4, k5⟩ := passn_ok (t := 106) (tv := 2) rfl hK
    obtain ⟨-, kb, hkb, cmb, hkkb⟩ := b2
    obtain ⟨-, ka, hka, cma, hkka⟩ := a2
    have ek : kb = kA := by
      rw [b5] at hkb
      exact Option.some.inj (hkb.symm.trans k1)
    subst ek
    have ec : cmb = comp := by
      have := hkkb.symm.trans k2
      cases this
      rfl
    subst ec
    have za : ca.slots.size = fs.length := by rw [← a4, Array.length_toList]
    have zb : cb.slots.size = gs.length := by rw [← b4, Array.length_toList]
    intro T hT X
    obtain ⟨vm', X', step⟩ := X.arraycopy hF.1 hF.2.2.2.1 (hts _ (acl_at hl)) (hts _ (gt_tab _ acn_ok rfl)) (hts _ (gt_tab _ acs_ok rfl)) (hts _ (gt_tab _ aci_ok rfl)) (src := a) (dst := b) (cs := ca) (cd := cb) (srcPos := nI sp) (destPos := nI dp) (n := nI n) (by rw [hT]; exact a1) (by rw [hT]; exact b1)
      (fun _ z => by rw [va] at z; cases z) (fun _ z => by rw [vb] at z; cases z) a3 b3 hka hkb hkka hkkb rfl (nI_pos (by omega)) (nI_pos (by omega)) (nI_pos (by omega))
      (by rw [nI_toInt (by omega), nI_toInt (by omega), za]; omega)
      (by rw [nI_toInt (by omega), nI_toInt (by omega), zb]; omega)
      (fun vm₁ hal i hi9 => by
        rw [cn] at hi9
        have e : ca.slots.getD ((nI sp).toNatClampNeg + i) .null = fs.getD (sp + i) .null := by
          rw [csp, Array.getD_eq_getD_getElem?, ← Array.getElem?_toList, a4, List.getD_eq_getElem?_getD]
        rw [e]
        rcases hel i hi9 with q | ⟨y, ys, q, hy⟩
        · rw [q]
          exact ⟨rfl, trivial⟩
        · rw [q]
          obtain ⟨⟨cv, v1, v2⟩, -⟩ := hP.2 y 2 ys hy
          rcases v2 with ⟨-, g1, g2, -⟩ | ⟨g, -⟩
          · obtain ⟨kC', hkC', -⟩ := hal.2.2 _ _ k4
            obtain ⟨kE', hkE', -⟩ := hal.2.2 _ _ k3
            refine ⟨rfl, cv, (show T.heap[y]? = some cv by rw [hT]; exact v1), (fun q z => by rw [g2] at z; cases z), ⟨kC', by rw [g1]; exact hkC'⟩, ⟨kE', hkE'⟩, ?_⟩
            show vm₁.assignable _ _ = true
            rw [hal.assignable, g1]
            exact k5
          · omega)
      (g := F0 m pc ls (.int (nI n) :: .int (nI dp) :: .ref b :: .int (nI sp) :: .ref a :: st)) rfl (by show ls.size = c.maxLocals; rw [hF.2.2.1, hlr.1, hL]) (rest := st) rfl (by rw [hF.2.1]; exact pin_dec hi) (by omega) (by show 2 * 0 + _ + _ ≤ _; omega)
    have e1 : copied ca cb (nI sp) (nI dp) (nI n) = arrV (D.2 6) gs.length (va_cpy (fun j => fs.getD j .null) (fun j => gs.getD j .null) sp dp n) := by
      rw [arrV_of a5 va a4, arrV_of b5 vb b4]
      show (arrV _ _ _).storeRun (nI dp).toNatClampNeg ((arrV _ _ _).stretch (nI sp).toNatClampNeg (nI n).toNatClampNeg) = _
      rw [csp, cdp, cn]
      exact va_copied (fun z => z) _ _ _ _ h4
    rw [e1] at X' step
    have hlb : b < H.size := (Array.getElem?_eq_some_iff.mp b1).1
    have hheap : ((T.setVm vm').setCell b (arrV (D.2 6) gs.length (va_cpy (fun j => fs.getD j .null) (fun j => gs.getD j .null) sp dp n))).heap = H.setIfInBounds b (arrV (D.2 6) gs.length (va_cpy (fun j => fs.getD j .null) (fun j => gs.getD j .null) sp dp n)) := by rw [← hT]; rfl
    have oq : ∀ q : Nat, q ≠ b → (H.setIfInBounds b (arrV (D.2 6) gs.length (va_cpy (fun j => fs.getD j .null) (fun j => gs.getD j .null) sp dp n)))[q]? = H[q]? := fun q hq => by simp [Array.getElem?_setIfInBounds, Ne.symm hq]
    have z1 : (H.setIfInBounds b (arrV (D.2 6) gs.length (va_cpy (fun j => fs.getD j .null) (fun j => gs.getD j .null) sp dp n))).size = H.size := by simp
    have hA : E.1 ≤ b := (hP.2 b 106 gs hb).2 (by decide)
    obtain ⟨t, r1, r2⟩ := kk _ _ (hP.setO hb z1 oq ⟨_, by simp [Array.getElem?_setIfInBounds, hlb], Or.inr ⟨by decide, rfl, (fun q => by cases q), (fun q z => by cases z), arrV_list _ _ _, fun _ => rfl⟩⟩) ⟨by rw [z1]; exact hS.1, fun q g1 g2 => by
        rw [oq q (fun e => g2 (by rw [e]; exact hA))]
        exact hS.2.1 q g1 g2, fun q hq => by
        rcases List.mem_append.mp hq with g | g
        · exact hS.2.2 q g
        · obtain ⟨z, -, hz9⟩ := List.mem_map.mp g
          rw [← hz9]
          exact hA⟩ _ hheap X'
    exact ⟨t, step t r1, r2⟩)
end XR
end
section
/-! ===== Math.max, Math.min, the Class object of Object[] ===== -/
def mxl : List (Nat × Nat × Nat) := [(7, 61, 200), (16, 194, 354), (13, 79, 393), (9, 72, 743)]
theorem mxl_ok : mxl.all (fun q => decide (tables_1[q.2.2]? = some (Jvm.Cond.methodLink (cnm.getD q.1 "") q.2.1 Lib.Math.max.name))) = true := by decide +kernel
theorem mxs_ok : tables_1[201]? = some (Jvm.Cond.static Lib.Math.max.name) := by decide +kernel
theorem mxc_ok : tables_1[202]? = some (Jvm.Cond.code Lib.Math.max.name Lib.Math.max.code 2 (some .int)) := by decide +kernel
def mnl : List (Nat × Nat × Nat) := [(14, 304, 387)]
theorem mnl_ok : mnl.all (fun q => decide (tables_1[q.2.2]? = some (Jvm.Cond.methodLink (cnm.getD q.1 "") q.2.1 Lib.Math.min.name))) = true := by decide +kernel
theorem mns_ok : tables_1[388]? = some (Jvm.Cond.static Lib.Math.min.name) := by decide +kernel
theorem mnc_ok : tables_1[389]? = some (Jvm.Cond.code Lib.Math.min.name Lib.Math.min.code 2 (some .int)) := by decide +kernel
theorem mxi_ok : tables_1[7]? = some (Jvm.Cond.initialized "java/lang/Math") := by decide +kernel
theorem gcs_ok : tables_1[1139]? = some (Jvm.Cond.selects "[Ljava/lang/Object;" (⟨"java/lang/Object", "getClass", "()Ljava/lang/Class;"⟩ : MethodName) (⟨"java/lang/Object", "getClass", "()Ljava/lang/Class;"⟩ : MethodName)) := by decide +kernel
theorem gci_ok : tables_1[363]? = some (Jvm.Cond.instanceMethod (⟨"java/lang/Object", "getClass", "()Ljava/lang/Class;"⟩ : MethodName)) := by decide +kernel
theorem gcn_ok : tables_1[380]? = some (Jvm.Cond.native (⟨"java/lang/Object", "getClass", "()Ljava/lang/Class;"⟩ : MethodName)) := by decide +kernel
theorem any_at {l : List (Nat × Nat × Nat)} {f : Nat → Nat → Jvm.Cond} {o j : Nat} (hok : l.all (fun q => decide (tables_1[q.2.2]? = some (f q.1 q.2.1))) = true) (hg : ∀ a b, goodWord (f a b) = true) (h : l.any (fun q => q.1 == o && q.2.1 == j) = true) : f o j ∈ gtbl := by
  obtain ⟨q, h1, h2⟩ := List.any_eq_true.mp h
  have h3 := List.all_eq_true.mp hok q h1
  simp only [Bool.and_eq_true, beq_iff_eq] at h2
  obtain ⟨rfl, rfl⟩ := h2
  exact gt_tab _ (of_decide_eq_true h3) (hg _ _)
section XM
variable {E : PE} {d mi pc : Nat} {L : PL} {st : List Value} {h : PH}
theorem x_max {j : Nat} {x y : Int32} (hi : pin mi pc = some (.invokestatic j, 3)) (hl : mxl.any (fun q => q.1 == mno mi && q.2.1 == j) = true) (hw : (st.map fun v => v.category).sum ≤ 8) : Ex E d (mi, pc, L, .int y :: .int x :: st) h (mi, pc + 3, L, .int (if x < y then y else x) :: st) h :=
  ⟨rfl, rfl, Nat.le_refl _, Nat.le_refl _, fun D p l e R s m args below meth c Q en es H locs ls hF _ _ hc hs hP hS hm hlr kk => by
    have hts := hF.2.2.2.2.1
    have fr : d + 8 ≤ R.frames := hF.2.2.2.2.2.2.1
    have lo : 40 * d + 200 ≤ R.locals := hF.2.2.2.2.2.2.2.1
    have hlk : Jvm.Cond.methodLink (mown mi) j Lib.Math.max.name ∈ gtbl := any_at (f := fun o j => Jvm.Cond.methodLink (cnm.getD o "") j Lib.Math.max.name) mxl_ok (fun _ _ => rfl) hl
    exact va_mmax hF.1 hF.2.1 (by rw [hF.2.2.1, hlr.1]; exact hm.symm) hF.2.2.2.1 (hts _ hlk) (hts _ (gt_tab _ mxs_ok rfl)) (hts _ (gt_tab _ mxi_ok rfl)) (hts _ (gt_tab _ mxc_ok rfl)) (by omega) (by omega) hc hs (pin_dec hi) (kk H locs ls hP hS hlr)⟩
theorem x_min {j : Nat} {x y : Int32} (hi : pin mi pc = some (.invokestatic j, 3)) (hl : mnl.any (fun q => q.1 == mno mi && q.2.1 == j) = true) (hw : (st.map fun v => v.category).sum ≤ 8) : Ex E d (mi, pc, L, .int y :: .int x :: st) h (mi, pc + 3, L, .int (if y < x then y else x) :: st) h :=
  ⟨rfl, rfl, Nat.le_refl _, Nat.le_refl _, fun D p l e R s m args below meth c Q en es H locs ls hF _ _ hc hs hP hS hm hlr kk => by
    have hts := hF.2.2.2.2.1
    have fr : d + 8 ≤ R.frames := hF.2.2.2.2.2.2.1
    have lo : 40 * d + 200 ≤ R.locals := hF.2.2.2.2.2.2.2.1
    have hlk : Jvm.Cond.methodLink (mown mi) j Lib.Math.min.name ∈ gtbl := any_at (f := fun o j => Jvm.Cond.methodLink (cnm.getD o "") j Lib.Math.min.name) mnl_ok (fun _ _ => rfl) hl
    exact va_mmin hF.1 hF.2.1 (by rw [hF.2.2.1, hlr.1]; exact hm.symm) hF.2.2.2.1 (hts _ hlk) (hts _ (gt_tab _ mns_ok rfl)) (hts _ (gt_tab _ mxi_ok rfl)) (hts _ (gt_tab _ mnc_ok rfl)) (by omega) (by omega) hc hs (pin_dec hi) (kk H locs ls hP hS hlr)⟩
theorem pobj {E : PE} {D : PD} {a : Nat} {fs : List Value} {s : State} {H : Heap} (hK : PK E D s) (h : pcel D a 106 fs H) : ∃ cell : Cell, H[a]? = some cell ∧ cell.vm.isStatics = false ∧ s.vm.findClass "[Ljava/lang/Object;" = some cell.cls := by
  have hf := hK.2.2.1 6 _ rfl (by decide)
  obtain ⟨cell, h1, h2⟩ := h
  rcases h2 with ⟨g, -⟩ | ⟨-, g1, -, -, -, g5⟩
  · omega
  · exact ⟨cell, h1, by rw [g5 (by decide)]; rfl, by rw [g1]; exact hf⟩
theorem x_getc {j a : Nat} {fs : List Value} (hi : pin mi pc = some (.invokevirtual j, 3)) (hl : gcl0.any (fun q => q.1 == mno mi && q.2.1 == j) = true) (ha : h.1 a = some (106, fs)) (hw : (st.map fun v => v.category).sum ≤ 8) : Ex E d (mi, pc, L, .ref a :: st) h (mi, pc + 3, L, .ref E.2.2 :: st) h :=
  ⟨rfl, rfl, Nat.le_refl _, Nat.le_refl _, fun D p l e R s m args below meth c Q en es H locs ls hF _ _ hc hs hP hS hm hlr kk => by
    have hts := hF.2.2.2.2.1
    have hK := hF.2.2.2.2.2.2.2.2.1
    have fr : d + 8 ≤ R.frames := hF.2.2.2.2.2.2.1
    have lo : 40 * d + 200 ≤ R.locals := hF.2.2.2.2.2.2.2.1
    have hlk : Jvm.Cond.methodLink (mown mi) j ⟨"java/lang/Object", "getClass", "()Ljava/lang/Class;"⟩ ∈ gtbl := any_at (f := fun o j => Jvm.Cond.methodLink (cnm.getD o "") j ⟨"java/lang/Object", "getClass", "()Ljava/lang/Class;"⟩) gcl0_ok (fun _ _ => rfl) hl
    exact va_getC hF.1 hF.2.1 (by rw [hF.2.2.1, hlr.1]; exact hm.symm) hF.2.2.2.1 (hts _ hlk) (va_Dc.use hK.2.2.2.2.2.2.2.2.1) (hts _ (gt_tab _ gcs_ok rfl)) (hts _ (gt_tab _ gci_ok rfl)) (hts _ (gt_tab _ gcn_ok rfl)) hK.2.2.2.2.2.2.1 (pobj hK (hP.2 a 106 fs ha).1) (by omega) (by omega) (pin_dec hi) (kk H locs ls hP hS hlr)⟩
theorem ocl_at {o j : Nat} (hl : ocl0.any (fun q => q.1 == o && q.2.1 == j) = true) : Jvm.Cond.classLink (cnm.getD o "") j "[Ljava/lang/Object;" ∈ gtbl := any_at (f := fun o j => Jvm.Cond.classLink (cnm.getD o "") j "[Ljava/lang/Object;") ocl0_ok (fun _ _ => rfl) hl
theorem x_ldcM {j : Nat} (hi : pin mi pc = some (.ldc j, 2)) (hl : ocl0.any (fun q => q.1 == mno mi && q.2.1 == j) = true) : Ex E d (mi, pc, L, st) h (mi, pc + 2, L, .ref E.2.2 :: st) h :=
  Ex.go (fun D p l e R s m args below meth c Q H locs cells slots ls hF hlr _ _ k => va_ldcM hF.1 hF.2.1 hF.2.2.2.1 (hF.2.2.2.2.1 _ (ocl_at hl)) hF.2.2.2.2.2.2.2.2.1.2.2.2.2.2.2.1 (pin_dec hi) k)
theorem x_castA {j a : Nat} {fs : List Value} (hi : pin mi pc = some (.checkcast j, 3)) (hl : ocl0.any (fun q => q.1 == mno mi && q.2.1 == j) = true) (ha : h.1 a = some (106, fs)) : Ex E d (mi, pc, L, .ref a :: st) h (mi, pc + 3, L, .ref a :: st) h :=
  Ex.go (fun D p l e R s m args below meth c Q H locs cells slots ls hF hlr hP _ k => by
    obtain ⟨cell, g1, g2, g3⟩ := pobj hF.2.2.2.2.2.2.2.2.1 (hP.2 a 106 fs ha).1
    intro T hT X
    obtain ⟨vm', X', st⟩ := X.checkcastYes hF.1 hF.2.2.2.1 (hF.2.2.2.2.1 _ (ocl_at hl)) (by rw [hT]; exact g1) g2 g3 (va_asg _ _) (g := F0 m pc ls (.ref a :: st)) rfl rfl (by rw [hF.2.1]; exact pin_dec hi)
    obtain ⟨t, a1, b1⟩ := k (T.setVm vm') hT X'
    exact ⟨t, st t a1, b1⟩)
end XM
end
section
/-! ===== THE REFERENCE's OBJECT: at o, its 25 arrays behind it; its ints S.1 by field, its arrays' contents S.2 by field; around it any heap g ===== -/
abbrev MSt : Type := (Nat → Int32) × (Nat → Nat → Int32)
/-- how far behind the object the array of a field lies; 0: the field is no array -/
def mad (k : Nat) : Nat := [0, 0, 1, 0, 0, 2, 3, 4, 0, 0, 0, 5, 6, 7, 8, 9, 10, 0, 0, 11, 12, 0, 0, 0, 0, 13, 0, 14, 15, 16, 17, 0, 18, 19, 20, 0, 21, 22, 23, 24, 0, 0, 25].getD k 0
def mak (q : Nat) : Nat := [0, 2, 5, 6, 7, 11, 12, 13, 14, 15, 16, 19, 20, 25, 27, 28, 29, 30, 32, 33, 34, 36, 37, 38, 39, 42].getD q 0
def mlen (k : Nat) : Nat := [0, 0, 60, 0, 0, 800, 800, 4, 0, 0, 0, 61, 61, 61, 61, 61, 61, 0, 0, 10, 10, 0, 0, 0, 0, 800, 0, 900, 900, 900, 900, 0, 400, 400, 400, 0, 14, 14, 14, 14, 0, 0, 4].getD k 0
def mfd (o : Nat) (S : MSt) (k : Nat) : Value := if mad k = 0 then .int (S.1 k) else .ref (o + mad k)
def mfs (o : Nat) (S : MSt) : List Value := (List.range 43).map (mfd o S)
def marr (S : MSt) (k : Nat) : List Value := (List.range (mlen k)).map (fun n => .int (S.2 k n))
def mtg (k : Nat) : Nat := if k = 28 then 102 else 100
def mh (g : PH) (o : Nat) (S : MSt) : PH := (fun q => if q = o then some (10, mfs o S) else if o < q ∧ q ≤ o + 25 then some (mtg (mak (q - o)), marr S (mak (q - o))) else g.1 q, g.2)
def msI (S : MSt) (k : Nat) (x : Int32) : MSt := (fun j => if j = k then x else S.1 j, S.2)
def msA (S : MSt) (k n : Nat) (x : Int32) : MSt := (S.1, fun k' n' => if k' = k ∧ n' = n then x else S.2 k' n')
def mok (k : Nat) : Bool := decide (0 < mad k ∧ mad k ≤ 25 ∧ mak (mad k) = k)
theorem mh_o {g : PH} {o : Nat} {S : MSt} : (mh g o S).1 o = some (10, mfs o S) := if_pos rfl
theorem mh_a {g : PH} {o k : Nat} {S : MSt} (hk : mok k = true) : (mh g o S).1 (o + mad k) = some (mtg k, marr S k) := by
  obtain ⟨h1, h2, h3⟩ := of_decide_eq_true hk
  show (if o + mad k = o then _ else if o < o + mad k ∧ o + mad k ≤ o + 25 then some (mtg (mak (o + mad k - o)), marr S (mak (o + mad k - o))) else _) = _
  rw [if_neg (by omega), if_pos (by omega), Nat.add_sub_cancel_left, h3]
theorem mfs_at {o k : Nat} {S : MSt} (hk : k < 43) : (mfs o S)[k]? = some (mfd o S k) := by
  unfold mfs
  rw [List.getElem?_map, List.getElem?_range hk]
  rfl
theorem marr_at {k n : Nat} {S : MSt} (hn : n < mlen k) : (marr S k)[n]? = some (.int (S.2 k n)) := by
  unfold marr
  rw [List.getElem?_map, List.getElem?_range hn]
  rfl
theorem marr_len {k : Nat} {S : MSt} : (marr S k).length = mlen k := by unfold marr; rw [List.length_map, List.length_range]
theorem mlen_lt (k : Nat) : mlen k ≤ 900 := by
  unfold mlen
  by_cases h : k < 43
  · have : ∀ k, k < 43 → ([0, 0, 60, 0, 0, 800, 800, 4, 0, 0, 0, 61, 61, 61, 61, 61, 61, 0, 0, 10, 10, 0, 0, 0, 0, 800, 0, 900, 900, 900, 900, 0, 400, 400, 400, 0, 14, 14, 14, 14, 0, 0, 4] : List Nat).getD k 0 ≤ 900 := by decide
    exact this k h
  · rw [List.getD_eq_getElem?_getD, List.getElem?_eq_none (by simp; omega)]
    exact Nat.zero_le _
theorem mh_I {g : PH} {o k : Nat} {S : MSt} {x : Int32} (hm : mad k = 0) : pset (mh g o S) o (10, (mfs o S).set k (.int x)) = mh g o (msI S k x) := by
  unfold pset mh
  refine Prod.ext (funext fun q => ?_) rfl
  show (if q = o then some (10, (mfs o S).set k (.int x)) else if q = o then _ else _) = (if q = o then _ else _)
  by_cases e : q = o
  · rw [if_pos e, if_pos e]
    congr 2
    apply List.ext_getElem?
    intro i
    rw [List.getElem?_set]
    unfold mfs
    by_cases h43 : i < 43
    · rw [List.getElem?_map, List.getElem?_map, List.getElem?_range h43]
      by_cases ei : k = i
      · subst ei
        rw [if_pos rfl, if_pos (by simpa using h43)]
        simp [mfd, msI, hm]
      · rw [if_neg ei]
        simp only [Option.map_some, mfd, msI]
        congr 1
        split
        · rw [if_neg (fun z => ei z.symm)]
        · rfl
    · rw [List.getElem?_eq_none (by simp; omega), List.getElem?_eq_none (by simp; omega)]
      split
      · split
        next h => exact absurd h (by simp; omega)
        next => rfl
      · rfl
  · rw [if_neg e, if_neg e, if_neg e]
    rfl
theorem mh_A {g : PH} {o k n : Nat} {S : MSt} {x : Int32} (hk : mok k = true) : pset (mh g o S) (o + mad k) (mtg k, (marr S k).set n (.int x)) = mh g o (msA S k n x) := by
  obtain ⟨h1, h2, h3⟩ := of_decide_eq_true hk
  unfold pset mh
  refine Prod.ext (funext fun q => ?_) rfl
  show (if q = o + mad k then some (mtg k, (marr S k).set n (.int x)) else if q = o then some (10, mfs o S) else if o < q ∧ q ≤ o + 25 then some (mtg (mak (q - o)), marr S (mak (q - o))) else g.1 q) = (if q = o then some (10, mfs o (msA S k n x)) else if o < q ∧ q ≤ o + 25 then some (mtg (mak (q - o)), marr (msA S k n x) (mak (q - o))) else g.1 q)
  by_cases e : q = o + mad k
  · subst e
    rw [if_pos rfl, if_neg (by omega), if_pos (by omega), Nat.add_sub_cancel_left, h3]
    congr 2
    apply List.ext_getElem?
    intro i
    rw [List.getElem?_set]
    unfold marr
    by_cases hl : i < mlen k
    · rw [List.getElem?_map, List.getElem?_map, List.getElem?_range hl]
      by_cases ei : n = i
      · subst ei
        rw [if_pos rfl, if_pos (by simpa using hl)]
        simp [msA]
      · rw [if_neg ei]
        simp only [Option.map_some, msA]
        rw [if_neg (fun z => ei z.2.symm)]
    · rw [List.getElem?_eq_none (by simp; omega), List.getElem?_eq_none (by simp; omega)]
      split
      · split
        next h => exact absurd h (by simp; omega)
        next => rfl
      · rfl
  · rw [if_neg e]
    by_cases e0 : q = o
    · rw [if_pos e0, if_pos e0]
      rfl
    · rw [if_neg e0, if_neg e0]
      by_cases e1 : o < q ∧ q ≤ o + 25
      · rw [if_pos e1, if_pos e1]
        congr 2
        have hne : mak (q - o) ≠ k := by
          intro z
          have hq : q - o ≤ 25 := by omega
          have h0 : 0 < q - o := by omega
          have inj : ∀ a, a < 26 → 0 < a → mad (mak a) = a := by decide
          have := inj (q - o) (by omega) h0
          rw [z] at this
          omega
        unfold marr msA
        simp only
        apply List.map_congr_left
        intro i _
        rw [if_neg (fun z => hne z.1)]
      · rw [if_neg e1, if_neg e1]
section MR
variable {E : PE} {d mi pc o : Nat} {L : PL} {st : List Value} {g : PH} {S : MSt}
theorem m_get {j k : Nat} (hi : pin mi pc = some (.getfield j, 3)) (hl : pfl (mno mi) j = some (10, k)) (hk : k < 43) : Ex E d (mi, pc, L, .ref o :: st) (mh g o S) (mi, pc + 3, L, mfd o S k :: st) (mh g o S) := x_getf hi hl mh_o (mfs_at hk)
theorem m_put {j k : Nat} {x : Int32} (hi : pin mi pc = some (.putfield j, 3)) (hl : pfl (mno mi) j = some (10, k)) (hm : mad k = 0) (hn : narrow (pty 10 k) (.int x) = .int x) (hf : fits (pty 10 k) (.int x) = true) (hok : pfok mi 10 k = true) : Ex E d (mi, pc, L, .int x :: .ref o :: st) (mh g o S) (mi, pc + 3, L, st) (mh g o (msI S k x)) := by
  rw [← mh_I hm]
  exact x_putf hi hl mh_o hn hf hok
theorem m_iald {i : Int32} {k n : Nat} (hi : pin mi pc = some (.iaload, 1)) (hk : mok k = true) (h28 : ptag (mtg k) = some .int) (he : i = nI n) (hn : n < mlen k) : Ex E d (mi, pc, L, .int i :: .ref (o + mad k) :: st) (mh g o S) (mi, pc + 1, L, .int (S.2 k n) :: st) (mh g o S) :=
  x_iald hi (mh_a hk) h28 he (Nat.lt_of_lt_of_le hn (Nat.le_trans (mlen_lt k) (by decide))) (marr_at hn)
theorem m_iast {i x : Int32} {k n : Nat} (hi : pin mi pc = some (.iastore, 1)) (hk : mok k = true) (h28 : ptag (mtg k) = some .int) (ht : mtg k < 107) (he : i = nI n) (hn : n < mlen k) : Ex E d (mi, pc, L, .int x :: .int i :: .ref (o + mad k) :: st) (mh g o S) (mi, pc + 1, L, st) (mh g o (msA S k n x)) := by
  rw [← mh_A hk]
  exact x_iast hi (mh_a hk) h28 ht he (Nat.lt_of_lt_of_le hn (Nat.le_trans (mlen_lt k) (by decide))) (by rw [marr_len]; exact hn)
theorem m_zald {i : Int32} {n : Nat} (hi : pin mi pc = some (.baload, 1)) (he : i = nI n) (hn : n < 900) : Ex E d (mi, pc, L, .int i :: .ref (o + mad 28) :: st) (mh g o S) (mi, pc + 1, L, .int (S.2 28 n) :: st) (mh g o S) :=
  x_zald hi (mh_a rfl) rfl he (by omega) (marr_at hn)
theorem m_zast {i x : Int32} {n : Nat} (hi : pin mi pc = some (.bastore, 1)) (hx : narrow .boolean (.int x) = .int x) (he : i = nI n) (hn : n < 900) : Ex E d (mi, pc, L, .int x :: .int i :: .ref (o + mad 28) :: st) (mh g o S) (mi, pc + 1, L, st) (mh g o (msA S 28 n x)) := by
  rw [← mh_A rfl]
  have := x_zast (E := E) (d := d) (mi := mi) (pc := pc) (L := L) (st := st) (h := mh g o S) (x := x) hi (mh_a (k := 28) rfl) rfl (by decide) he (by omega) (by rw [marr_len]; exact hn)
  rw [hx] at this
  exact this
/-- a call of one of the reference's own methods -/
theorem m_call {j k : Nat} {st st1 rest As : List Value} {v : Option Value} {h1 : PH} (hi : pin mi pc = some (.invokevirtual j, 3)) (hl : pml (mno mi) j = some k) (hk : mkp k = true) (hs : (mkd k).1 = 1 ∨ (mkd k).1 = 3) (hst : st = As.reverse ++ .ref o :: rest) (ha : As.length + 1 = marg k) (hc : (pcls 10).1 = (mnam k).cls) (hw : (rest.map fun v => v.category).sum ≤ 8) (hr : Rn E d k (.ref o :: As) (mh g o S) v h1) (hst1 : st1 = v.toList ++ rest) :
    Ex E (d + 1) (mi, pc, L, st) (mh g o S) (mi, pc + 3, L, st1) h1 := x_callv hi hl hk hs hst ha mh_o (by decide) hc hw hr hst1
end MR
/-- from this frame the method runs to its end and answers v -/
def Rk (E : PE) (d : Nat) (F : PF) (h : PH) (v : Option Value) (h' : PH) : Prop := ∃ (pc : Nat) (L : PL) (st : List Value) (i : Instr), Ex E d F h (F.1, pc, L, st) h' ∧ pin F.1 pc = some (i, 1) ∧ pret F.1 i st v
theorem Rk.tr {E : PE} {d : Nat} {F F1 : PF} {h h1 h' : PH} {v : Option Value} (x : Ex E d F h F1 h1) (y : Rk E d F1 h1 v h') : Rk E d F h v h' := by
  obtain ⟨pc, L, st, i, y1, y2, y3⟩ := y
  have e : F1.1 = F.1 := x.1
  rw [e] at y1 y2 y3
  exact ⟨pc, L, st, i, x.tr y1, y2, y3⟩
theorem Rk.end {E : PE} {d mi pc : Nat} {L : PL} {st : List Value} {i : Instr} {h : PH} {v : Option Value} (hi : pin mi pc = some (i, 1)) (hr : pret mi i st v) : Rk E d (mi, pc, L, st) h v h := ⟨pc, L, st, i, Ex.rf, hi, hr⟩
theorem Rn.of {E : PE} {d m : Nat} {As : List Value} {h h' : PH} {v : Option Value} (hl : (pent0 As).length ≤ mmax m) (k : Rk E d (m, 0, pent As (mmax m), []) h v h') : Rn E d m As h v h' := ⟨hl, k⟩
end
section
/-! ===== the reference's small methods ===== -/
/-- a token's size, its atoms, where the first lies -/
def tsz (R : Nat → Int32) (p : Nat) : Nat := if R p = 9 then 3 else if R (p + 2) = 2 then 4 else if R (p + 2) = 3 then 7 else if R (p + 2) = 5 then 8 else 5
def tat (R : Nat → Int32) (p : Nat) : Nat := if R p = 9 then 1 else if R (p + 2) = 2 then 0 else if R (p + 2) = 6 then 1 else 2
def tfa (R : Nat → Int32) (p : Nat) : Nat := if R p = 9 then p + 1 else if R (p + 2) = 5 then p + 4 else p + 3
def mEmit (S : MSt) (v : Int32) : MSt := msI (msA S 25 (S.1 23).toNatClampNeg v) 23 (S.1 23 + 1)
theorem nIc {x : Int32} {n : Nat} (h : x = nI n) (hn : n < 2 ^ 31) : x.toNatClampNeg = n := by rw [h, nI_clamp hn]
theorem msE {g : PH} {o : Nat} {S S' : MSt} (h : S = S') : mh g o S = mh g o S' := by rw [h]
section M1
variable {E : PE} {d o : Nat} {g : PH} {S : MSt}
theorem c_thrown : Rn E d 1 [.ref o] (mh g o S) (some (.int (S.1 0))) (mh g o S) := by
  refine Rn.of (Nat.le_of_ble_eq_true rfl) ?_
  refine Rk.tr (F1 := (1, 1, _, _)) (x_aload_n rfl rfl rfl) ?_
  refine Rk.tr (F1 := (1, 4, _, _)) (m_get rfl rfl (Nat.le_of_ble_eq_true rfl)) ?_
  exact Rk.end rfl (Or.inr (Or.inl ⟨rfl, _, .int, rfl, rfl, rfl, rfl⟩))
theorem c_newName : Rn E d 8 [.ref o] (mh g o S) (some (.int (S.1 24 + 1 - 1))) (mh g o (msI S 24 (S.1 24 + 1))) := by
  refine Rn.of (Nat.le_of_ble_eq_true rfl) ?_
  refine Rk.tr (F1 := (8, 1, _, _)) (x_aload_n rfl rfl rfl) ?_
  refine Rk.tr (F1 := (8, 2, _, _)) (x_dup rfl rfl) ?_
  refine Rk.tr (F1 := (8, 5, _, _)) (m_get rfl rfl (Nat.le_of_ble_eq_true rfl)) ?_
  refine Rk.tr (F1 := (8, 6, _, _)) (x_iconst rfl) ?_
  refine Rk.tr (F1 := (8, 7, _, _)) (x_iadd rfl) ?_
  refine Rk.tr (F1 := (8, 10, _, _)) (m_put rfl rfl rfl rfl rfl rfl) ?_
  refine Rk.tr (F1 := (8, 11, _, _)) (x_aload_n rfl rfl rfl) ?_
  refine Rk.tr (F1 := (8, 14, _, _)) (m_get rfl rfl (Nat.le_of_ble_eq_true rfl)) ?_
  refine Rk.tr (F1 := (8, 15, _, _)) (x_iconst rfl) ?_
  refine Rk.tr (F1 := (8, 16, _, _)) (x_isub rfl) ?_
  exact Rk.end rfl (Or.inr (Or.inl ⟨rfl, _, .int, rfl, rfl, rfl, rfl⟩))
theorem c_atom {a b : Int32} : Rn E d 7 [.ref o, .int a, .int b] (mh g o S) none (mh g o (msI (msI S 17 a) 18 b)) := by
  refine Rn.of (Nat.le_of_ble_eq_true rfl) ?_
  refine Rk.tr (F1 := (7, 1, _, _)) (x_aload_n rfl rfl rfl) ?_
  refine Rk.tr (F1 := (7, 2, _, _)) (x_iload_n rfl rfl) ?_
  refine Rk.tr (F1 := (7, 5, _, _)) (m_put rfl rfl rfl rfl rfl rfl) ?_
  refine Rk.tr (F1 := (7, 6, _, _)) (x_aload_n rfl rfl rfl) ?_
  refine Rk.tr (F1 := (7, 7, _, _)) (x_iload_n rfl rfl) ?_
  refine Rk.tr (F1 := (7, 10, _, _)) (m_put rfl rfl rfl rfl rfl rfl) ?_
  exact Rk.end rfl (Or.inl ⟨rfl, rfl, rfl, rfl⟩)
theorem c_emit {v : Int32} {n : Nat} (hd : S.1 23 = nI n) (hn : n < 800) : Rn E d 9 [.ref o, .int v] (mh g o S) none (mh g o (mEmit S v)) := by
  refine Rn.of (Nat.le_of_ble_eq_true rfl) ?_
  refine Rk.tr (F1 := (9, 1, _, _)) (x_aload_n rfl rfl rfl) ?_
  refine Rk.tr (F1 := (9, 4, _, _)) (m_get rfl rfl (Nat.le_of_ble_eq_true rfl)) ?_
  refine Rk.tr (F1 := (9, 5, _, _)) (x_aload_n rfl rfl rfl) ?_
  refine Rk.tr (F1 := (9, 8, _, _)) (m_get rfl rfl (Nat.le_of_ble_eq_true rfl)) ?_
  refine Rk.tr (F1 := (9, 9, _, _)) (x_iload_n rfl rfl) ?_
  refine Rk.tr (F1 := (9, 10, _, _)) (m_iast (k := 25) (n := (S.1 23).toNatClampNeg) rfl rfl rfl (Nat.le_of_ble_eq_true rfl) (by rw [nIc hd (by omega)]; exact hd) (by rw [nIc hd (by omega)]; exact hn)) ?_
  refine Rk.tr (F1 := (9, 11, _, _)) (x_aload_n rfl rfl rfl) ?_
  refine Rk.tr (F1 := (9, 12, _, _)) (x_dup rfl rfl) ?_
  refine Rk.tr (F1 := (9, 15, _, _)) (m_get rfl rfl (Nat.le_of_ble_eq_true rfl)) ?_
  refine Rk.tr (F1 := (9, 16, _, _)) (x_iconst rfl) ?_
  refine Rk.tr (F1 := (9, 17, _, _)) (x_iadd rfl) ?_
  refine Rk.tr (F1 := (9, 20, _, _)) (m_put rfl rfl rfl rfl rfl rfl) ?_
  exact Rk.end rfl (Or.inl ⟨rfl, rfl, rfl, rfl⟩)
theorem c_emitAtom {a b : Int32} {n : Nat} (hd : S.1 23 = nI n) (hn : n + 1 < 800) : Rn E (d + 1) 14 [.ref o, .int a, .int b] (mh g o S) none (mh g o (mEmit (mEmit S a) b)) := by
  refine Rn.of (Nat.le_of_ble_eq_true rfl) ?_
  refine Rk.tr (F1 := (14, 1, _, _)) (x_aload_n rfl rfl rfl) ?_
  refine Rk.tr (F1 := (14, 2, _, _)) (x_iload_n rfl rfl) ?_
  refine Rk.tr (F1 := (14, 5, _, _)) (m_call (As := [_]) rfl rfl rfl (Or.inr rfl) rfl rfl rfl (Nat.le_of_ble_eq_true rfl) (c_emit hd (by omega)) rfl) ?_
  refine Rk.tr (F1 := (14, 6, _, _)) (x_aload_n rfl rfl rfl) ?_
  refine Rk.tr (F1 := (14, 7, _, _)) (x_iload_n rfl rfl) ?_
  refine Rk.tr (F1 := (14, 10, _, _)) (m_call (As := [_]) rfl rfl rfl (Or.inr rfl) rfl rfl rfl (Nat.le_of_ble_eq_true rfl) (c_emit (n := n + 1) (by show S.1 23 + 1 = _; rw [hd]; exact nI_1 n) (by omega)) rfl) ?_
  exact Rk.end rfl (Or.inl ⟨rfl, rfl, rfl, rfl⟩)
theorem c_bind {a b : Int32} {n : Nat} (hd : S.1 23 = nI n) (hn : n + 2 < 800) : Rn E (d + 1) 18 [.ref o, .int a, .int b] (mh g o S) none (mh g o (mEmit (mEmit (mEmit S 8) a) b)) := by
  refine Rn.of (Nat.le_of_ble_eq_true rfl) ?_
  refine Rk.tr (F1 := (18, 1, _, _)) (x_aload_n rfl rfl rfl) ?_
  refine Rk.tr (F1 := (18, 3, _, _)) (x_bipush rfl) ?_
  refine Rk.tr (F1 := (18, 6, _, _)) (m_call (As := [_]) rfl rfl rfl (Or.inr rfl) rfl rfl rfl (Nat.le_of_ble_eq_true rfl) (c_emit hd (by omega)) rfl) ?_
  refine Rk.tr (F1 := (18, 7, _, _)) (x_aload_n rfl rfl rfl) ?_
  refine Rk.tr (F1 := (18, 8, _, _)) (x_iload_n rfl rfl) ?_
  refine Rk.tr (F1 := (18, 11, _, _)) (m_call (As := [_]) rfl rfl rfl (Or.inr rfl) rfl rfl rfl (Nat.le_of_ble_eq_true rfl) (c_emit (n := n + 1) (by show S.1 23 + 1 = _; rw [hd]; exact nI_1 n) (by omega)) rfl) ?_
  refine Rk.tr (F1 := (18, 12, _, _)) (x_aload_n rfl rfl rfl) ?_
  refine Rk.tr (F1 := (18, 13, _, _)) (x_iload_n rfl rfl) ?_
  refine Rk.tr (F1 := (18, 16, _, _)) (m_call (As := [_]) rfl rfl rfl (Or.inr rfl) rfl rfl rfl (Nat.le_of_ble_eq_true rfl) (c_emit (n := n + 2) (by show S.1 23 + 1 + 1 = _; rw [hd, nI_1, nI_1]) (by omega)) rfl) ?_
  exact Rk.end rfl (Or.inl ⟨rfl, rfl, rfl, rfl⟩)
theorem c_rowEnds {n : Nat} (hd : S.1 23 = nI n) (hn : n + 2 < 800) : Rn E (d + 2) 13 [.ref o] (mh g o S) none (mh g o (mEmit (mEmit (mEmit S 9) (S.1 17)) (S.1 18))) := by
  refine Rn.of (Nat.le_of_ble_eq_true rfl) ?_
  refine Rk.tr (F1 := (13, 1, _, _)) (x_aload_n rfl rfl rfl) ?_
  refine Rk.tr (F1 := (13, 3, _, _)) (x_bipush rfl) ?_
  refine Rk.tr (F1 := (13, 6, _, _)) (m_call (As := [_]) rfl rfl rfl (Or.inr rfl) rfl rfl rfl (Nat.le_of_ble_eq_true rfl) (c_emit hd (by omega)) rfl) ?_
  refine Rk.tr (F1 := (13, 7, _, _)) (x_aload_n rfl rfl rfl) ?_
  refine Rk.tr (F1 := (13, 8, _, _)) (x_aload_n rfl rfl rfl) ?_
  refine Rk.tr (F1 := (13, 11, _, _)) (m_get rfl rfl (Nat.le_of_ble_eq_true rfl)) ?_
  refine Rk.tr (F1 := (13, 12, _, _)) (x_aload_n rfl rfl rfl) ?_
  refine Rk.tr (F1 := (13, 15, _, _)) (m_get rfl rfl (Nat.le_of_ble_eq_true rfl)) ?_
  refine Rk.tr (F1 := (13, 18, _, _)) (m_call (As := [_, _]) rfl rfl rfl (Or.inr rfl) rfl rfl rfl (Nat.le_of_ble_eq_true rfl) (c_emitAtom (n := n + 1) (by show S.1 23 + 1 = _; rw [hd]; exact nI_1 n) (by omega)) rfl) ?_
  exact Rk.end rfl (Or.inl ⟨rfl, rfl, rfl, rfl⟩)
theorem c_rowBegins : Rn E d 10 [.ref o] (mh g o S) none (mh g o (msI (msI S 21 (S.1 21 + 1)) 22 (if S.1 21 + 1 ≤ S.1 22 then S.1 22 else S.1 21 + 1))) := by
  refine Rn.of (Nat.le_of_ble_eq_true rfl) ?_
  refine Rk.tr (F1 := (10, 1, _, _)) (x_aload_n rfl rfl rfl) ?_
  refine Rk.tr (F1 := (10, 2, _, _)) (x_dup rfl rfl) ?_
  refine Rk.tr (F1 := (10, 5, _, _)) (m_get rfl rfl (Nat.le_of_ble_eq_true rfl)) ?_
  refine Rk.tr (F1 := (10, 6, _, _)) (x_iconst rfl) ?_
  refine Rk.tr (F1 := (10, 7, _, _)) (x_iadd rfl) ?_
  refine Rk.tr (F1 := (10, 10, _, _)) (m_put rfl rfl rfl rfl rfl rfl) ?_
  refine Rk.tr (F1 := (10, 11, _, _)) (x_aload_n rfl rfl rfl) ?_
  refine Rk.tr (F1 := (10, 12, _, _)) (x_aload_n rfl rfl rfl) ?_
  refine Rk.tr (F1 := (10, 15, _, _)) (m_get rfl rfl (Nat.le_of_ble_eq_true rfl)) ?_
  refine Rk.tr (F1 := (10, 16, _, _)) (x_aload_n rfl rfl rfl) ?_
  refine Rk.tr (F1 := (10, 19, _, _)) (m_get rfl rfl (Nat.le_of_ble_eq_true rfl)) ?_
  by_cases hc19 : S.1 21 + 1 ≤ S.1 22
  · rw [if_pos hc19]
    refine Rk.tr (F1 := (10, 29, _, _)) (x_icT rfl (tg := 29) rfl hc19) ?_
    refine Rk.tr (F1 := (10, 30, _, _)) (x_aload_n rfl rfl rfl) ?_
    refine Rk.tr (F1 := (10, 33, _, _)) (m_get rfl rfl (Nat.le_of_ble_eq_true rfl)) ?_
    refine Rk.tr (F1 := (10, 36, _, _)) (m_put rfl rfl rfl rfl rfl rfl) ?_
    exact Rk.end rfl (Or.inl ⟨rfl, rfl, rfl, rfl⟩)
  · rw [if_neg hc19]
    refine Rk.tr (F1 := (10, 22, _, _)) (x_icF rfl (tg := 29) rfl hc19) ?_
    refine Rk.tr (F1 := (10, 23, _, _)) (x_aload_n rfl rfl rfl) ?_
    refine Rk.tr (F1 := (10, 26, _, _)) (m_get rfl rfl (Nat.le_of_ble_eq_true rfl)) ?_
    refine Rk.tr (F1 := (10, 33, _, _)) (x_goto rfl rfl) ?_
    refine Rk.tr (F1 := (10, 36, _, _)) (m_put rfl rfl rfl rfl rfl rfl) ?_
    exact Rk.end rfl (Or.inl ⟨rfl, rfl, rfl, rfl⟩)
theorem c_type60 {v : Int32} (hd : S.1 1 = 60) : Rn E d 2 [.ref o, .int v] (mh g o S) (some (.int 0)) (mh g o (msI S 0 0)) := by
  refine Rn.of (Nat.le_of_ble_eq_true rfl) ?_
  refine Rk.tr (F1 := (2, 1, _, _)) (x_aload_n rfl rfl rfl) ?_
  refine Rk.tr (F1 := (2, 2, _, _)) (x_iconst rfl) ?_
  refine Rk.tr (F1 := (2, 5, _, _)) (m_put rfl rfl rfl rfl rfl rfl) ?_
  refine Rk.tr (F1 := (2, 6, _, _)) (x_aload_n rfl rfl rfl) ?_
  refine Rk.tr (F1 := (2, 9, _, _)) (m_get rfl rfl (Nat.le_of_ble_eq_true rfl)) ?_
  refine Rk.tr (F1 := (2, 11, _, _)) (x_bipush rfl) ?_
  refine Rk.tr (F1 := (2, 14, _, _)) (x_icF rfl (tg := 16) rfl (fun q => q hd)) ?_
  refine Rk.tr (F1 := (2, 15, _, _)) (x_iconst rfl) ?_
  exact Rk.end rfl (Or.inr (Or.inl ⟨rfl, _, .boolean, rfl, rfl, rfl, rfl⟩))
theorem c_type {n : Nat} {v : Int32} (hd : S.1 1 = nI n) (hn : n < 60) : Rn E d 2 [.ref o, .int v] (mh g o S) (some (.int 1)) (mh g o (msI (msA (msI S 0 0) 2 n v) 1 (S.1 1 + 1))) := by
  refine Rn.of (Nat.le_of_ble_eq_true rfl) ?_
  have h60 : ¬ S.1 1 = 60 := fun q => by
    have e : nI n = nI 60 := hd.symm.trans q
    exact absurd ((nI_eq (by omega) (by decide)).mp e) (by omega)
  refine Rk.tr (F1 := (2, 1, _, _)) (x_aload_n rfl rfl rfl) ?_
  refine Rk.tr (F1 := (2, 2, _, _)) (x_iconst rfl) ?_
  refine Rk.tr (F1 := (2, 5, _, _)) (m_put rfl rfl rfl rfl rfl rfl) ?_
  refine Rk.tr (F1 := (2, 6, _, _)) (x_aload_n rfl rfl rfl) ?_
  refine Rk.tr (F1 := (2, 9, _, _)) (m_get rfl rfl (Nat.le_of_ble_eq_true rfl)) ?_
  refine Rk.tr (F1 := (2, 11, _, _)) (x_bipush rfl) ?_
  refine Rk.tr (F1 := (2, 16, _, _)) (x_icT rfl (tg := 16) rfl h60) ?_
  refine Rk.tr (F1 := (2, 17, _, _)) (x_aload_n rfl rfl rfl) ?_
  refine Rk.tr (F1 := (2, 20, _, _)) (m_get rfl rfl (Nat.le_of_ble_eq_true rfl)) ?_
  refine Rk.tr (F1 := (2, 21, _, _)) (x_aload_n rfl rfl rfl) ?_
  refine Rk.tr (F1 := (2, 24, _, _)) (m_get rfl rfl (Nat.le_of_ble_eq_true rfl)) ?_
  refine Rk.tr (F1 := (2, 25, _, _)) (x_iload_n rfl rfl) ?_
  refine Rk.tr (F1 := (2, 26, _, _)) (m_iast (k := 2) (n := n) rfl rfl rfl (Nat.le_of_ble_eq_true rfl) hd hn) ?_
  refine Rk.tr (F1 := (2, 27, _, _)) (x_aload_n rfl rfl rfl) ?_
  refine Rk.tr (F1 := (2, 28, _, _)) (x_dup rfl rfl) ?_
  refine Rk.tr (F1 := (2, 31, _, _)) (m_get rfl rfl (Nat.le_of_ble_eq_true rfl)) ?_
  refine Rk.tr (F1 := (2, 32, _, _)) (x_iconst rfl) ?_
  refine Rk.tr (F1 := (2, 33, _, _)) (x_iadd rfl) ?_
  refine Rk.tr (F1 := (2, 36, _, _)) (m_put rfl rfl rfl rfl rfl rfl) ?_
  refine Rk.tr (F1 := (2, 37, _, _)) (x_iconst rfl) ?_
  exact Rk.end rfl (Or.inr (Or.inl ⟨rfl, _, .boolean, rfl, rfl, rfl, rfl⟩))
theorem c_size {p : Nat} (hp : p + 2 < 800) : Rn E d 22 [.ref o, .int (nI p)] (mh g o S) (some (.int (nI (tsz (S.2 5) p)))) (mh g o S) := by
  refine Rn.of (Nat.le_of_ble_eq_true rfl) ?_
  unfold tsz
  refine Rk.tr (F1 := (22, 1, _, _)) (x_aload_n rfl rfl rfl) ?_
  refine Rk.tr (F1 := (22, 4, _, _)) (m_get rfl rfl (Nat.le_of_ble_eq_true rfl)) ?_
  refine Rk.tr (F1 := (22, 5, _, _)) (x_iload_n rfl rfl) ?_
  refine Rk.tr (F1 := (22, 6, _, _)) (m_iald (k := 5) (n := p) rfl rfl rfl rfl (Nat.lt_of_le_of_lt (Nat.le_add_right _ _) hp)) ?_
  refine Rk.tr (F1 := (22, 8, _, _)) (x_bipush rfl) ?_
  by_cases hc8 : S.2 5 p = 9
  · rw [if_pos hc8]
    refine Rk.tr (F1 := (22, 11, _, _)) (x_icF rfl (tg := 13) rfl (fun q => q hc8)) ?_
    refine Rk.tr (F1 := (22, 12, _, _)) (x_iconst rfl) ?_
    exact Rk.end rfl (Or.inr (Or.inl ⟨rfl, _, .int, rfl, rfl, rfl, rfl⟩))
  · rw [if_neg hc8]
    refine Rk.tr (F1 := (22, 13, _, _)) (x_icT rfl (tg := 13) rfl hc8) ?_
    refine Rk.tr (F1 := (22, 14, _, _)) (x_aload_n rfl rfl rfl) ?_
    refine Rk.tr (F1 := (22, 17, _, _)) (m_get rfl rfl (Nat.le_of_ble_eq_true rfl)) ?_
    refine Rk.tr (F1 := (22, 18, _, _)) (x_iload_n rfl rfl) ?_
    refine Rk.tr (F1 := (22, 19, _, _)) (x_iconst rfl) ?_
    refine Rk.tr (F1 := (22, 20, _, _)) (x_iadd rfl) ?_
    refine Rk.tr (F1 := (22, 21, _, _)) (m_iald (k := 5) (n := p + 2) rfl rfl rfl (nI_add p 2) hp) ?_
    refine Rk.tr (F1 := (22, 22, [_, _, _], _)) (x_istore_n (i := 2) rfl (Nat.le_of_ble_eq_true rfl)) ?_
    refine Rk.tr (F1 := (22, 23, _, _)) (x_iload_n rfl rfl) ?_
    refine Rk.tr (F1 := (22, 24, _, _)) (x_iconst rfl) ?_
    by_cases hc24 : S.2 5 (p + 2) = 2
    · rw [if_pos hc24]
      refine Rk.tr (F1 := (22, 27, _, _)) (x_icF rfl (tg := 31) rfl (fun q => q hc24)) ?_
      refine Rk.tr (F1 := (22, 28, _, _)) (x_iconst rfl) ?_
      refine Rk.tr (F1 := (22, 52, _, _)) (x_goto rfl rfl) ?_
      exact Rk.end rfl (Or.inr (Or.inl ⟨rfl, _, .int, rfl, rfl, rfl, rfl⟩))
    · rw [if_neg hc24]
      refine Rk.tr (F1 := (22, 31, _, _)) (x_icT rfl (tg := 31) rfl hc24) ?_
      refine Rk.tr (F1 := (22, 32, _, _)) (x_iload_n rfl rfl) ?_
      refine Rk.tr (F1 := (22, 33, _, _)) (x_iconst rfl) ?_
      by_cases hc33 : S.2 5 (p + 2) = 3
      · rw [if_pos hc33]
        refine Rk.tr (F1 := (22, 36, _, _)) (x_icF rfl (tg := 41) rfl (fun q => q hc33)) ?_
        refine Rk.tr (F1 := (22, 38, _, _)) (x_bipush rfl) ?_
        refine Rk.tr (F1 := (22, 52, _, _)) (x_goto rfl rfl) ?_
        exact Rk.end rfl (Or.inr (Or.inl ⟨rfl, _, .int, rfl, rfl, rfl, rfl⟩))
      · rw [if_neg hc33]
        refine Rk.tr (F1 := (22, 41, _, _)) (x_icT rfl (tg := 41) rfl hc33) ?_
        refine Rk.tr (F1 := (22, 42, _, _)) (x_iload_n rfl rfl) ?_
        refine Rk.tr (F1 := (22, 43, _, _)) (x_iconst rfl) ?_
        by_cases hc43 : S.2 5 (p + 2) = 5
        · rw [if_pos hc43]
          refine Rk.tr (F1 := (22, 46, _, _)) (x_icF rfl (tg := 51) rfl (fun q => q hc43)) ?_
          refine Rk.tr (F1 := (22, 48, _, _)) (x_bipush rfl) ?_
          refine Rk.tr (F1 := (22, 52, _, _)) (x_goto rfl rfl) ?_
          exact Rk.end rfl (Or.inr (Or.inl ⟨rfl, _, .int, rfl, rfl, rfl, rfl⟩))
        · rw [if_neg hc43]
          refine Rk.tr (F1 := (22, 51, _, _)) (x_icT rfl (tg := 51) rfl hc43) ?_
          refine Rk.tr (F1 := (22, 52, _, _)) (x_iconst rfl) ?_
          exact Rk.end rfl (Or.inr (Or.inl ⟨rfl, _, .int, rfl, rfl, rfl, rfl⟩))
theorem c_atoms {p : Nat} (hp : p + 2 < 800) : Rn E d 30 [.ref o, .int (nI p)] (mh g o S) (some (.int (nI (tat (S.2 5) p)))) (mh g o S) := by
  refine Rn.of (Nat.le_of_ble_eq_true rfl) ?_
  unfold tat
  refine Rk.tr (F1 := (30, 1, _, _)) (x_aload_n rfl rfl rfl) ?_
  refine Rk.tr (F1 := (30, 4, _, _)) (m_get rfl rfl (Nat.le_of_ble_eq_true rfl)) ?_
  refine Rk.tr (F1 := (30, 5, _, _)) (x_iload_n rfl rfl) ?_
  refine Rk.tr (F1 := (30, 6, _, _)) (m_iald (k := 5) (n := p) rfl rfl rfl rfl (Nat.lt_of_le_of_lt (Nat.le_add_right _ _) hp)) ?_
  refine Rk.tr (F1 := (30, 8, _, _)) (x_bipush rfl) ?_
  by_cases hc8 : S.2 5 p = 9
  · rw [if_pos hc8]
    refine Rk.tr (F1 := (30, 11, _, _)) (x_icF rfl (tg := 13) rfl (fun q => q hc8)) ?_
    refine Rk.tr (F1 := (30, 12, _, _)) (x_iconst rfl) ?_
    exact Rk.end rfl (Or.inr (Or.inl ⟨rfl, _, .int, rfl, rfl, rfl, rfl⟩))
  · rw [if_neg hc8]
    refine Rk.tr (F1 := (30, 13, _, _)) (x_icT rfl (tg := 13) rfl hc8) ?_
    refine Rk.tr (F1 := (30, 14, _, _)) (x_aload_n rfl rfl rfl) ?_
    refine Rk.tr (F1 := (30, 17, _, _)) (m_get rfl rfl (Nat.le_of_ble_eq_true rfl)) ?_
    refine Rk.tr (F1 := (30, 18, _, _)) (x_iload_n rfl rfl) ?_
    refine Rk.tr (F1 := (30, 19, _, _)) (x_iconst rfl) ?_
    refine Rk.tr (F1 := (30, 20, _, _)) (x_iadd rfl) ?_
    refine Rk.tr (F1 := (30, 21, _, _)) (m_iald (k := 5) (n := p + 2) rfl rfl rfl (nI_add p 2) hp) ?_
    refine Rk.tr (F1 := (30, 22, [_, _, _], _)) (x_istore_n (i := 2) rfl (Nat.le_of_ble_eq_true rfl)) ?_
    refine Rk.tr (F1 := (30, 23, _, _)) (x_iload_n rfl rfl) ?_
    refine Rk.tr (F1 := (30, 24, _, _)) (x_iconst rfl) ?_
    by_cases hc24 : S.2 5 (p + 2) = 2
    · rw [if_pos hc24]
      refine Rk.tr (F1 := (30, 27, _, _)) (x_icF rfl (tg := 31) rfl (fun q => q hc24)) ?_
      refine Rk.tr (F1 := (30, 28, _, _)) (x_iconst rfl) ?_
      refine Rk.tr (F1 := (30, 42, _, _)) (x_goto rfl rfl) ?_
      exact Rk.end rfl (Or.inr (Or.inl ⟨rfl, _, .int, rfl, rfl, rfl, rfl⟩))
    · rw [if_neg hc24]
      refine Rk.tr (F1 := (30, 31, _, _)) (x_icT rfl (tg := 31) rfl hc24) ?_
      refine Rk.tr (F1 := (30, 32, _, _)) (x_iload_n rfl rfl) ?_
      refine Rk.tr (F1 := (30, 34, _, _)) (x_bipush rfl) ?_
      by_cases hc34 : S.2 5 (p + 2) = 6
      · rw [if_pos hc34]
        refine Rk.tr (F1 := (30, 37, _, _)) (x_icF rfl (tg := 41) rfl (fun q => q hc34)) ?_
        refine Rk.tr (F1 := (30, 38, _, _)) (x_iconst rfl) ?_
        refine Rk.tr (F1 := (30, 42, _, _)) (x_goto rfl rfl) ?_
        exact Rk.end rfl (Or.inr (Or.inl ⟨rfl, _, .int, rfl, rfl, rfl, rfl⟩))
      · rw [if_neg hc34]
        refine Rk.tr (F1 := (30, 41, _, _)) (x_icT rfl (tg := 41) rfl hc34) ?_
        refine Rk.tr (F1 := (30, 42, _, _)) (x_iconst rfl) ?_
        exact Rk.end rfl (Or.inr (Or.inl ⟨rfl, _, .int, rfl, rfl, rfl, rfl⟩))
theorem c_firstAtom {p : Nat} (hp : p + 2 < 800) : Rn E d 31 [.ref o, .int (nI p)] (mh g o S) (some (.int (nI (tfa (S.2 5) p)))) (mh g o S) := by
  refine Rn.of (Nat.le_of_ble_eq_true rfl) ?_
  unfold tfa
  refine Rk.tr (F1 := (31, 1, _, _)) (x_aload_n rfl rfl rfl) ?_
  refine Rk.tr (F1 := (31, 4, _, _)) (m_get rfl rfl (Nat.le_of_ble_eq_true rfl)) ?_
  refine Rk.tr (F1 := (31, 5, _, _)) (x_iload_n rfl rfl) ?_
  refine Rk.tr (F1 := (31, 6, _, _)) (m_iald (k := 5) (n := p) rfl rfl rfl rfl (Nat.lt_of_le_of_lt (Nat.le_add_right _ _) hp)) ?_
  refine Rk.tr (F1 := (31, 8, _, _)) (x_bipush rfl) ?_
  by_cases hc8 : S.2 5 p = 9
  · rw [if_pos hc8]
    refine Rk.tr (F1 := (31, 11, _, _)) (x_icF rfl (tg := 17) rfl (fun q => q hc8)) ?_
    refine Rk.tr (F1 := (31, 12, _, _)) (x_iload_n rfl rfl) ?_
    refine Rk.tr (F1 := (31, 13, _, _)) (x_iconst rfl) ?_
    refine Rk.tr (F1 := (31, 14, _, _)) (x_iadd rfl) ?_
    refine Rk.tr (F1 := (31, 38, _, _)) (x_goto rfl rfl) ?_
    exact Rk.end rfl (Or.inr (Or.inl ⟨rfl, _, .int, rfl, rfl, (by first | (rw [← nI_add]; rfl) | rfl), rfl⟩))
  · rw [if_neg hc8]
    refine Rk.tr (F1 := (31, 17, _, _)) (x_icT rfl (tg := 17) rfl hc8) ?_
    refine Rk.tr (F1 := (31, 18, _, _)) (x_aload_n rfl rfl rfl) ?_
    refine Rk.tr (F1 := (31, 21, _, _)) (m_get rfl rfl (Nat.le_of_ble_eq_true rfl)) ?_
    refine Rk.tr (F1 := (31, 22, _, _)) (x_iload_n rfl rfl) ?_
    refine Rk.tr (F1 := (31, 23, _, _)) (x_iconst rfl) ?_
    refine Rk.tr (F1 := (31, 24, _, _)) (x_iadd rfl) ?_
    refine Rk.tr (F1 := (31, 25, _, _)) (m_iald (k := 5) (n := p + 2) rfl rfl rfl (nI_add p 2) hp) ?_
    refine Rk.tr (F1 := (31, 26, _, _)) (x_iconst rfl) ?_
    by_cases hc26 : S.2 5 (p + 2) = 5
    · rw [if_pos hc26]
      refine Rk.tr (F1 := (31, 29, _, _)) (x_icF rfl (tg := 35) rfl (fun q => q hc26)) ?_
      refine Rk.tr (F1 := (31, 30, _, _)) (x_iload_n rfl rfl) ?_
      refine Rk.tr (F1 := (31, 31, _, _)) (x_iconst rfl) ?_
      refine Rk.tr (F1 := (31, 32, _, _)) (x_iadd rfl) ?_
      refine Rk.tr (F1 := (31, 38, _, _)) (x_goto rfl rfl) ?_
      exact Rk.end rfl (Or.inr (Or.inl ⟨rfl, _, .int, rfl, rfl, (by first | (rw [← nI_add]; rfl) | rfl), rfl⟩))
    · rw [if_neg hc26]
      refine Rk.tr (F1 := (31, 35, _, _)) (x_icT rfl (tg := 35) rfl hc26) ?_
      refine Rk.tr (F1 := (31, 36, _, _)) (x_iload_n rfl rfl) ?_
      refine Rk.tr (F1 := (31, 37, _, _)) (x_iconst rfl) ?_
      refine Rk.tr (F1 := (31, 38, _, _)) (x_iadd rfl) ?_
      exact Rk.end rfl (Or.inr (Or.inl ⟨rfl, _, .int, rfl, rfl, (by first | (rw [← nI_add]; rfl) | rfl), rfl⟩))
end M1
end
section
/-! ===== A PROGRAM AS A LIST OF ITEMS: (kind, name, detail, atom, atom); kinds 2 FUN (detail: the parameter), 3 APPLY, 5 OP (detail: the operation), 9 RESULT (ends a row), others IF; how the reference's array holds it ===== -/
abbrev It : Type := Nat × Int32 × Int32 × (Int32 × Int32) × (Int32 × Int32)
def isz (it : It) : Nat := match it.1 with
  | 2 => 4
  | 3 => 7
  | 5 => 8
  | 9 => 3
  | _ => 5
def iat (it : It) : Nat := match it.1 with
  | 2 => 0
  | 3 => 2
  | 5 => 2
  | _ => 1
def ifo (it : It) : Nat := match it.1 with
  | 5 => 4
  | 9 => 1
  | _ => 3
/-- the rows that an item opens (less the one that RESULT closes) -/
def irw (it : It) : Nat := match it.1 with
  | 2 => 1
  | 3 => 0
  | 5 => 0
  | 9 => 0
  | _ => 2
def Tok1 (R : Nat → Int32) (p : Nat) (it : It) : Prop := match it.1 with
  | 2 => R p = 8 ∧ R (p + 1) = it.2.1 ∧ R (p + 2) = 2 ∧ R (p + 3) = it.2.2.1
  | 3 => R p = 8 ∧ R (p + 1) = it.2.1 ∧ R (p + 2) = 3 ∧ R (p + 3) = it.2.2.2.1.1 ∧ R (p + 4) = it.2.2.2.1.2 ∧ R (p + 5) = it.2.2.2.2.1 ∧ R (p + 6) = it.2.2.2.2.2
  | 5 => R p = 8 ∧ R (p + 1) = it.2.1 ∧ R (p + 2) = 5 ∧ R (p + 3) = it.2.2.1 ∧ R (p + 4) = it.2.2.2.1.1 ∧ R (p + 5) = it.2.2.2.1.2 ∧ R (p + 6) = it.2.2.2.2.1 ∧ R (p + 7) = it.2.2.2.2.2
  | 9 => R p = 9 ∧ R (p + 1) = it.2.2.2.1.1 ∧ R (p + 2) = it.2.2.2.1.2
  | _ => R p = 8 ∧ R (p + 1) = it.2.1 ∧ R (p + 2) = 6 ∧ R (p + 3) = it.2.2.2.1.1 ∧ R (p + 4) = it.2.2.2.1.2
def TokAt (R : Nat → Int32) : Nat → List It → Prop
  | _, [] => True
  | p, it :: Q => Tok1 R p it ∧ TokAt R (p + isz it) Q
def tsum : List It → Nat
  | [] => 0
  | it :: Q => isz it + tsum Q
/-- a kind is one of five -/
theorem kd5 (k : Nat) : k = 2 ∨ k = 3 ∨ k = 5 ∨ k = 9 ∨ (k ≠ 2 ∧ k ≠ 3 ∧ k ≠ 5 ∧ k ≠ 9) := by omega
theorem isz_ge (it : It) : 3 ≤ isz it := by
  unfold isz
  split <;> decide
theorem tsum_app (P Q : List It) : tsum (P ++ Q) = tsum P + tsum Q := by
  induction P with
  | nil => simp [tsum]
  | cons a P ih => simp [tsum, ih]; omega
theorem TokAt_app {R : Nat → Int32} {P Q : List It} : ∀ {p : Nat}, TokAt R p (P ++ Q) ↔ TokAt R p P ∧ TokAt R (p + tsum P) Q := by
  induction P with
  | nil => intro p; simp [TokAt, tsum]
  | cons a P ih =>
    intro p
    simp only [List.cons_append, TokAt, tsum]
    rw [ih, and_assoc, Nat.add_assoc]
theorem Tok1_shift {R R' : Nat → Int32} {p q : Nat} {it : It} (h : Tok1 R q it) (e : ∀ j, j < isz it → R' (p + j) = R (q + j)) : Tok1 R' p it := by
  obtain ⟨k, nm, dt, ⟨a1, a2⟩, b1, b2⟩ := it
  rcases kd5 k with rfl | rfl | rfl | rfl | ⟨n2, n3, n5, n9⟩
  · have e0 := e 0 (Nat.le_of_ble_eq_true rfl); have e1 := e 1 (Nat.le_of_ble_eq_true rfl); have e2 := e 2 (Nat.le_of_ble_eq_true rfl); have e3 := e 3 (Nat.le_of_ble_eq_true rfl)
    simp only [Tok1, Nat.add_zero] at *
    rw [e0, e1, e2, e3]
    exact h
  · have e0 := e 0 (Nat.le_of_ble_eq_true rfl); have e1 := e 1 (Nat.le_of_ble_eq_true rfl); have e2 := e 2 (Nat.le_of_ble_eq_true rfl); have e3 := e 3 (Nat.le_of_ble_eq_true rfl); have e4 := e 4 (Nat.le_of_ble_eq_true rfl); have e5 := e 5 (Nat.le_of_ble_eq_true rfl); have e6 := e 6 (Nat.le_of_ble_eq_true rfl)
    simp only [Tok1, Nat.add_zero] at *
    rw [e0, e1, e2, e3, e4, e5, e6]
    exact h
  · have e0 := e 0 (Nat.le_of_ble_eq_true rfl); have e1 := e 1 (Nat.le_of_ble_eq_true rfl); have e2 := e 2 (Nat.le_of_ble_eq_true rfl); have e3 := e 3 (Nat.le_of_ble_eq_true rfl); have e4 := e 4 (Nat.le_of_ble_eq_true rfl); have e5 := e 5 (Nat.le_of_ble_eq_true rfl); have e6 := e 6 (Nat.le_of_ble_eq_true rfl); have e7 := e 7 (Nat.le_of_ble_eq_true rfl)
    simp only [Tok1, Nat.add_zero] at *
    rw [e0, e1, e2, e3, e4, e5, e6, e7]
    exact h
  · have e0 := e 0 (Nat.le_of_ble_eq_true rfl); have e1 := e 1 (Nat.le_of_ble_eq_true rfl); have e2 := e 2 (Nat.le_of_ble_eq_true rfl)
    simp only [Tok1, Nat.add_zero] at *
    rw [e0, e1, e2]
    exact h
  · have hz : isz (k, nm, dt, (a1, a2), b1, b2) = 5 := by
      unfold isz
      split <;> first | rfl | (rename_i z; exact absurd z (by assumption))
    rw [hz] at e
    have e0 := e 0 (Nat.le_of_ble_eq_true rfl); have e1 := e 1 (Nat.le_of_ble_eq_true rfl); have e2 := e 2 (Nat.le_of_ble_eq_true rfl); have e3 := e 3 (Nat.le_of_ble_eq_true rfl); have e4 := e 4 (Nat.le_of_ble_eq_true rfl)
    have ht : ∀ (F : Nat → Int32) (x : Nat), Tok1 F x (k, nm, dt, (a1, a2), b1, b2) ↔ (F x = 8 ∧ F (x + 1) = nm ∧ F (x + 2) = 6 ∧ F (x + 3) = a1 ∧ F (x + 4) = a2) := by
      intro F x
      unfold Tok1
      split <;> first | (rename_i z; exact absurd z (by assumption)) | exact Iff.rfl
    rw [ht] at h ⊢
    simp only [Nat.add_zero] at e0
    rw [e0, e1, e2, e3, e4]
    exact h
theorem TokAt_shift {R R' : Nat → Int32} {Q : List It} : ∀ {p q : Nat}, TokAt R q Q → (∀ j, j < tsum Q → R' (p + j) = R (q + j)) → TokAt R' p Q := by
  induction Q with
  | nil => intro p q _ _; trivial
  | cons a Q ih =>
    intro p q h e
    obtain ⟨h1, h2⟩ := h
    refine ⟨Tok1_shift h1 (fun j hj => e j (by simp only [tsum]; omega)), ih h2 (fun j hj => ?_)⟩
    have := e (isz a + j) (by simp only [tsum]; omega)
    rw [← Nat.add_assoc, ← Nat.add_assoc] at this
    exact this
/-- what the reference reads of an item -/
theorem Tok1_sz {R : Nat → Int32} {p : Nat} {it : It} (h : Tok1 R p it) : tsz R p = isz it ∧ tat R p = iat it ∧ tfa R p = p + ifo it ∧ (R p = 9 ↔ it.1 = 9) ∧ (R p = 8 ↔ it.1 ≠ 9) ∧ (it.1 ≠ 9 → R (p + 1) = it.2.1) := by
  obtain ⟨k, nm, dt, ⟨a1, a2⟩, b1, b2⟩ := it
  rcases kd5 k with rfl | rfl | rfl | rfl | ⟨n2, n3, n5, n9⟩
  · obtain ⟨h0, h1, h2, -⟩ := h
    unfold tsz tat tfa
    rw [h0, h1, h2]
    exact ⟨rfl, rfl, rfl, iff_of_false (by decide) (show ¬ (2 : Nat) = 9 by decide), iff_of_true rfl (show (2 : Nat) ≠ 9 by decide), fun _ => rfl⟩
  · obtain ⟨h0, h1, h2, -⟩ := h
    unfold tsz tat tfa
    rw [h0, h1, h2]
    exact ⟨rfl, rfl, rfl, iff_of_false (by decide) (show ¬ (3 : Nat) = 9 by decide), iff_of_true rfl (show (3 : Nat) ≠ 9 by decide), fun _ => rfl⟩
  · obtain ⟨h0, h1, h2, -⟩ := h
    unfold tsz tat tfa
    rw [h0, h1, h2]
    exact ⟨rfl, rfl, rfl, iff_of_false (by decide) (show ¬ (5 : Nat) = 9 by decide), iff_of_true rfl (show (5 : Nat) ≠ 9 by decide), fun _ => rfl⟩
  · obtain ⟨h0, -⟩ := h
    unfold tsz tat tfa
    rw [h0]
    exact ⟨rfl, rfl, rfl, iff_of_true rfl rfl, iff_of_false (by decide) (fun z => z rfl), fun z => absurd rfl z⟩
  · have ht : R p = 8 ∧ R (p + 1) = nm ∧ R (p + 2) = 6 ∧ R (p + 3) = a1 ∧ R (p + 4) = a2 := by
      unfold Tok1 at h
      split at h <;> first | (rename_i z; exact absurd z (by assumption)) | exact h
    obtain ⟨h0, h1, h2, -⟩ := ht
    have hz : isz (k, nm, dt, (a1, a2), b1, b2) = 5 ∧ iat (k, nm, dt, (a1, a2), b1, b2) = 1 ∧ ifo (k, nm, dt, (a1, a2), b1, b2) = 3 := by
      refine ⟨?_, ?_, ?_⟩
      · unfold isz
        split <;> first | rfl | (rename_i z; exact absurd z (by assumption))
      · unfold iat
        split <;> first | rfl | (rename_i z; exact absurd z (by assumption))
      · unfold ifo
        split <;> first | rfl | (rename_i z; exact absurd z (by assumption))
    rw [hz.1, hz.2.1, hz.2.2]
    unfold tsz tat tfa
    rw [h0, h1, h2]
    refine ⟨rfl, rfl, rfl, ?_, ?_, fun _ => rfl⟩
    · exact ⟨fun z => absurd z (by decide), fun z => absurd z n9⟩
    · exact ⟨fun _ => n9, fun _ => rfl⟩
end
section
/-! ===== the reference's loops over its array ===== -/
def pwk : PL → PL → Prop
  | [], [] => True
  | x :: xs, y :: ys => (y = none ∨ y = x) ∧ pwk xs ys
  | _, _ => False
theorem pwk_ok : ∀ {L L' : PL}, pwk L L' → L'.length = L.length ∧ ∀ (i : Nat) (v : Value), L'[i]? = some (some v) → L[i]? = some (some v)
  | [], [], _ => ⟨rfl, fun i v h => by simp at h⟩
  | x :: xs, y :: ys, ⟨h1, h2⟩ => by
    obtain ⟨e, k⟩ := pwk_ok h2
    refine ⟨by simp [e], fun i v h => ?_⟩
    cases i with
    | zero =>
      simp only [List.getElem?_cons_zero, Option.some.injEq] at h ⊢
      rcases h1 with h1 | h1
      · rw [h1] at h; cases h
      · rw [← h1]; exact h
    | succ i => exact k i v h
theorem x_wk {E : PE} {d mi pc : Nat} {L L' : PL} {st : List Value} {h : PH} (hw : pwk L L') : Ex E d (mi, pc, L, st) h (mi, pc, L', st) h := Ex.wk (pwk_ok hw).1 (pwk_ok hw).2
theorem x_top {E : PE} {d mi pc : Nat} {L : PL} {st : List Value} {h : PH} {x y : Int32} (e : x = y) : Ex E d (mi, pc, L, .int x :: st) h (mi, pc, L, .int y :: st) h := by rw [e]; exact Ex.rf
def cntB : List It → Nat
  | [] => 0
  | it :: Q => (if it.1 = 9 then 0 else 1) + cntB Q
section M2
variable {E : PE} {d o len : Nat} {g : PH} {S : MSt}
theorem lp_bindings (hl : S.1 4 = nI len) (h8 : len ≤ 800) : ∀ (Q : List It) (p c : Nat), TokAt (S.2 5) p Q → p + tsum Q = len → Rk E (d + 1) (21, 4, [some (.ref o), some (.int (nI c)), some (.int (nI p))], []) (mh g o S) (some (.int (nI (c + cntB Q)))) (mh g o S) := by
  intro Q
  induction Q with
  | nil =>
    intro p c _ hp
    simp only [tsum] at hp
    refine Rk.tr (F1 := (21, 5, _, _)) (x_iload_n rfl rfl) ?_
    refine Rk.tr (F1 := (21, 6, _, _)) (x_aload_n rfl rfl rfl) ?_
    refine Rk.tr (F1 := (21, 9, _, _)) (m_get rfl rfl (Nat.le_of_ble_eq_true rfl)) ?_
    refine Rk.tr (F1 := (21, 42, _, _)) (x_icT rfl (tg := 42) rfl (by show S.1 4 ≤ nI p; rw [hl]; exact nI_le (by omega) (by omega))) ?_
    refine Rk.tr (F1 := (21, 43, _, _)) (x_iload_n rfl rfl) ?_
    exact Rk.end rfl (Or.inr (Or.inl ⟨rfl, _, .int, rfl, rfl, rfl, rfl⟩))
  | cons it Q ih =>
    intro p c hT hp
    obtain ⟨h1, h2⟩ := hT
    simp only [tsum] at hp
    have h3 := isz_ge it
    have hs := Tok1_sz h1
    refine Rk.tr (F1 := (21, 5, _, _)) (x_iload_n rfl rfl) ?_
    refine Rk.tr (F1 := (21, 6, _, _)) (x_aload_n rfl rfl rfl) ?_
    refine Rk.tr (F1 := (21, 9, _, _)) (m_get rfl rfl (Nat.le_of_ble_eq_true rfl)) ?_
    refine Rk.tr (F1 := (21, 12, _, _)) (x_icF rfl (tg := 42) rfl (by show ¬ S.1 4 ≤ nI p; rw [hl]; exact nI_ge (by omega) (by omega))) ?_
    have key : Ex E (d + 1) (21, 12, [some (.ref o), some (.int (nI c)), some (.int (nI p))], []) (mh g o S) (21, 29, [some (.ref o), some (.int (nI c)), some (.int (nI p))], [.int (nI (if it.1 = 9 then 0 else 1)), .int (nI c)]) (mh g o S) := by
      by_cases h9 : it.1 = 9
      · rw [if_pos h9]
        refine Ex.tr (F1 := (21, 13, _, _)) (x_iload_n rfl rfl) ?_
        refine Ex.tr (F1 := (21, 14, _, _)) (x_aload_n rfl rfl rfl) ?_
        refine Ex.tr (F1 := (21, 17, _, _)) (m_get rfl rfl (Nat.le_of_ble_eq_true rfl)) ?_
        refine Ex.tr (F1 := (21, 18, _, _)) (x_iload_n rfl rfl) ?_
        refine Ex.tr (F1 := (21, 19, _, _)) (m_iald (k := 5) (n := p) rfl rfl rfl rfl (show p < 800 by omega)) ?_
        refine Ex.tr (F1 := (21, 21, _, _)) (x_bipush rfl) ?_
        refine Ex.tr (F1 := (21, 28, _, _)) (x_icT rfl (tg := 28) rfl (fun z => (hs.2.2.2.2.1.mp z) h9)) ?_
        refine Ex.tr (F1 := (21, 29, _, _)) (x_iconst rfl) ?_
        exact Ex.rf
      · rw [if_neg h9]
        refine Ex.tr (F1 := (21, 13, _, _)) (x_iload_n rfl rfl) ?_
        refine Ex.tr (F1 := (21, 14, _, _)) (x_aload_n rfl rfl rfl) ?_
        refine Ex.tr (F1 := (21, 17, _, _)) (m_get rfl rfl (Nat.le_of_ble_eq_true rfl)) ?_
        refine Ex.tr (F1 := (21, 18, _, _)) (x_iload_n rfl rfl) ?_
        refine Ex.tr (F1 := (21, 19, _, _)) (m_iald (k := 5) (n := p) rfl rfl rfl rfl (show p < 800 by omega)) ?_
        refine Ex.tr (F1 := (21, 21, _, _)) (x_bipush rfl) ?_
        refine Ex.tr (F1 := (21, 24, _, _)) (x_icF rfl (tg := 28) rfl (fun q => q (hs.2.2.2.2.1.mpr h9))) ?_
        refine Ex.tr (F1 := (21, 25, _, _)) (x_iconst rfl) ?_
        refine Ex.tr (F1 := (21, 29, _, _)) (x_goto rfl rfl) ?_
        exact Ex.rf
    refine Rk.tr key ?_
    refine Rk.tr (F1 := (21, 30, _, _)) (x_iadd rfl) ?_
    refine Rk.tr (F1 := (21, 30, _, _)) (x_top (nI_add c _)) ?_
    refine Rk.tr (F1 := (21, 31, [_, _, _], _)) (x_istore_n (i := 1) rfl (Nat.le_of_ble_eq_true rfl)) ?_
    refine Rk.tr (F1 := (21, 32, _, _)) (x_iload_n rfl rfl) ?_
    refine Rk.tr (F1 := (21, 33, _, _)) (x_aload_n rfl rfl rfl) ?_
    refine Rk.tr (F1 := (21, 34, _, _)) (x_iload_n rfl rfl) ?_
    refine Rk.tr (F1 := (21, 37, _, _)) (m_call (As := [_]) rfl rfl rfl (Or.inr rfl) rfl rfl rfl (Nat.le_of_ble_eq_true rfl) (c_size (by omega)) rfl) ?_
    refine Rk.tr (F1 := (21, 38, _, _)) (x_iadd rfl) ?_
    refine Rk.tr (F1 := (21, 38, _, _)) (x_top (y := nI (p + isz it)) (by rw [hs.1]; exact nI_add p _)) ?_
    refine Rk.tr (F1 := (21, 39, [_, _, _], _)) (x_istore_n (i := 2) rfl (Nat.le_of_ble_eq_true rfl)) ?_
    refine Rk.tr (F1 := (21, 4, _, _)) (x_goto rfl rfl) ?_
    have := ih (p + isz it) (c + (if it.1 = 9 then 0 else 1)) h2 (by omega)
    rw [show c + (if it.1 = 9 then 0 else 1) + cntB Q = c + cntB (it :: Q) by simp only [cntB]; omega] at this
    exact this
theorem c_bindings {P : List It} (hl : S.1 4 = nI len) (h8 : len ≤ 800) (hT : TokAt (S.2 5) 0 P) (hp : tsum P = len) : Rn E (d + 1) 21 [.ref o] (mh g o S) (some (.int (nI (cntB P)))) (mh g o S) := by
  refine Rn.of (Nat.le_of_ble_eq_true rfl) ?_
  refine Rk.tr (F1 := (21, 1, _, _)) (x_iconst rfl) ?_
  refine Rk.tr (F1 := (21, 2, [_, _, _], _)) (x_istore_n (i := 1) rfl (Nat.le_of_ble_eq_true rfl)) ?_
  refine Rk.tr (F1 := (21, 3, _, _)) (x_iconst rfl) ?_
  refine Rk.tr (F1 := (21, 4, [_, _, _], _)) (x_istore_n (i := 2) rfl (Nat.le_of_ble_eq_true rfl)) ?_
  have := lp_bindings (E := E) (d := d) (o := o) (g := g) hl h8 P 0 0 hT (by omega)
  rw [Nat.zero_add] at this
  exact this
end M2
end
section
/-! ===== occurs, standsFor ===== -/
def iatm (it : It) (j : Nat) : Int32 × Int32 := if j = 0 then it.2.2.2.1 else it.2.2.2.2
theorem Tok1_at {R : Nat → Int32} {p j : Nat} {it : It} (h : Tok1 R p it) (hj : j < iat it) : R (p + ifo it + 2 * j) = (iatm it j).1 ∧ R (p + ifo it + 2 * j + 1) = (iatm it j).2 ∧ ifo it + 2 * j + 1 < isz it := by
  obtain ⟨k, nm, dt, ⟨a1, a2⟩, b1, b2⟩ := it
  rcases kd5 k with rfl | rfl | rfl | rfl | ⟨n2, n3, n5, n9⟩
  · exact absurd hj (Nat.not_lt_zero j)
  · obtain ⟨h0, h1, h2, h3, h4, h5, h6⟩ := h
    have hj : j < 2 := hj
    rcases (show j = 0 ∨ j = 1 by omega) with rfl | rfl
    · exact ⟨h3, h4, Nat.le_of_ble_eq_true rfl⟩
    · exact ⟨h5, h6, Nat.le_of_ble_eq_true rfl⟩
  · obtain ⟨h0, h1, h2, h3, h4, h5, h6, h7⟩ := h
    have hj : j < 2 := hj
    rcases (show j = 0 ∨ j = 1 by omega) with rfl | rfl
    · exact ⟨h4, h5, Nat.le_of_ble_eq_true rfl⟩
    · exact ⟨h6, h7, Nat.le_of_ble_eq_true rfl⟩
  · obtain ⟨h0, h1, h2⟩ := h
    have hj : j < 1 := hj
    rcases (show j = 0 by omega) with rfl
    exact ⟨h1, h2, Nat.le_of_ble_eq_true rfl⟩
  · have ht : R p = 8 ∧ R (p + 1) = nm ∧ R (p + 2) = 6 ∧ R (p + 3) = a1 ∧ R (p + 4) = a2 := by
      unfold Tok1 at h
      split at h <;> first | (rename_i z; exact absurd z (by assumption)) | exact h
    have hz : isz (k, nm, dt, (a1, a2), b1, b2) = 5 ∧ iat (k, nm, dt, (a1, a2), b1, b2) = 1 ∧ ifo (k, nm, dt, (a1, a2), b1, b2) = 3 := by
      refine ⟨?_, ?_, ?_⟩
      · unfold isz
        split <;> first | rfl | (rename_i z; exact absurd z (by assumption))
      · unfold iat
        split <;> first | rfl | (rename_i z; exact absurd z (by assumption))
      · unfold ifo
        split <;> first | rfl | (rename_i z; exact absurd z (by assumption))
    rw [hz.2.1] at hj
    rw [hz.1, hz.2.2]
    rcases (show j = 0 by omega) with rfl
    exact ⟨ht.2.2.2.1, ht.2.2.2.2, by decide⟩
def ioc (it : It) (nm : Int32) : Nat → Nat → Nat
  | _, 0 => 0
  | k, r + 1 => (if iatm it k = (1, nm) then 1 else 0) + ioc it nm (k + 1) r
def occ (nm : Int32) : List It → Nat
  | [] => 0
  | it :: Q => ioc it nm 0 (iat it) + occ nm Q
section M3
variable {E : PE} {d o len : Nat} {g : PH} {S : MSt}
theorem lp_occ_in {nm : Int32} {it : It} {p : Nat} (h1 : Tok1 (S.2 5) p it) (hp : p + isz it ≤ 800) : ∀ (r k c : Nat) (x : Option Value), k + r = iat it → Ex E (d + 1) (37, 15, [some (.ref o), some (.int nm), some (.int (nI (c))), some (.int (nI p)), some (.int (nI k)), x], []) (mh g o S) (37, 75, [some (.ref o), some (.int nm), some (.int (nI (c + ioc it nm k r))), some (.int (nI p)), none, none], []) (mh g o S) := by
  have hs := Tok1_sz h1
  have h3 := isz_ge it
  have h2 : iat it ≤ 2 := by unfold iat; split <;> decide
  intro r
  induction r with
  | zero =>
    intro k c x hk
    refine Ex.tr (F1 := (37, 17, _, _)) (x_iload rfl rfl) ?_
    refine Ex.tr (F1 := (37, 18, _, _)) (x_aload_n rfl rfl rfl) ?_
    refine Ex.tr (F1 := (37, 19, _, _)) (x_iload_n rfl rfl) ?_
    refine Ex.tr (F1 := (37, 22, _, _)) (m_call (As := [_]) rfl rfl rfl (Or.inr rfl) rfl rfl rfl (Nat.le_of_ble_eq_true rfl) (c_atoms (by omega)) rfl) ?_
    refine Ex.tr (F1 := (37, 75, _, _)) (x_icT rfl (tg := 75) rfl (by show nI (tat (S.2 5) p) ≤ nI k; rw [hs.2.1]; exact nI_le (by omega) (by omega))) ?_
    exact x_wk ⟨Or.inr rfl, Or.inr rfl, Or.inr rfl, Or.inr rfl, Or.inl rfl, Or.inl rfl, trivial⟩
  | succ r ih =>
    intro k c x hk
    obtain ⟨q1, q2, q3⟩ := Tok1_at h1 (j := k) (by omega)
    refine Ex.tr (F1 := (37, 17, _, _)) (x_iload rfl rfl) ?_
    refine Ex.tr (F1 := (37, 18, _, _)) (x_aload_n rfl rfl rfl) ?_
    refine Ex.tr (F1 := (37, 19, _, _)) (x_iload_n rfl rfl) ?_
    refine Ex.tr (F1 := (37, 22, _, _)) (m_call (As := [_]) rfl rfl rfl (Or.inr rfl) rfl rfl rfl (Nat.le_of_ble_eq_true rfl) (c_atoms (by omega)) rfl) ?_
    refine Ex.tr (F1 := (37, 25, _, _)) (x_icF rfl (tg := 75) rfl (by show ¬ nI (tat (S.2 5) p) ≤ nI k; rw [hs.2.1]; exact nI_ge (by omega) (by omega))) ?_
    refine Ex.tr (F1 := (37, 26, _, _)) (x_aload_n rfl rfl rfl) ?_
    refine Ex.tr (F1 := (37, 27, _, _)) (x_iload_n rfl rfl) ?_
    refine Ex.tr (F1 := (37, 30, _, _)) (m_call (As := [_]) rfl rfl rfl (Or.inr rfl) rfl rfl rfl (Nat.le_of_ble_eq_true rfl) (c_firstAtom (by omega)) rfl) ?_
    refine Ex.tr (F1 := (37, 31, _, _)) (x_iconst rfl) ?_
    refine Ex.tr (F1 := (37, 33, _, _)) (x_iload rfl rfl) ?_
    refine Ex.tr (F1 := (37, 34, _, _)) (x_imul rfl) ?_
    refine Ex.tr (F1 := (37, 35, _, _)) (x_iadd rfl) ?_
    refine Ex.tr (F1 := (37, 35, _, _)) (x_top (y := nI (p + ifo it + 2 * k)) (by rw [hs.2.2.1]; show nI (p + ifo it) + nI 2 * nI k = nI (p + ifo it + 2 * k); rw [pk_mul, nI_add])) ?_
    refine Ex.tr (F1 := (37, 37, [_, _, _, _, _, _], _)) (x_istore (i := 5) rfl (Nat.le_of_ble_eq_true rfl)) ?_
    have key : Ex E (d + 1) (37, 37, [some (.ref o), some (.int nm), some (.int (nI (c))), some (.int (nI p)), some (.int (nI k)), some (.int (nI (p + ifo it + 2 * k)))], []) (mh g o S) (37, 67, [some (.ref o), some (.int nm), some (.int (nI (c))), some (.int (nI p)), some (.int (nI k)), some (.int (nI (p + ifo it + 2 * k)))], [.int (nI (if iatm it k = (1, nm) then 1 else 0)), .int (nI c)]) (mh g o S) := by
      by_cases e1 : (iatm it k).1 = 1
      · by_cases e2 : (iatm it k).2 = nm
        · rw [if_pos (Prod.ext e1 e2)]
          refine Ex.tr (F1 := (37, 38, _, _)) (x_iload_n rfl rfl) ?_
          refine Ex.tr (F1 := (37, 39, _, _)) (x_aload_n rfl rfl rfl) ?_
          refine Ex.tr (F1 := (37, 42, _, _)) (m_get rfl rfl (Nat.le_of_ble_eq_true rfl)) ?_
          refine Ex.tr (F1 := (37, 44, _, _)) (x_iload rfl rfl) ?_
          refine Ex.tr (F1 := (37, 45, _, _)) (m_iald (k := 5) (n := p + ifo it + 2 * k) rfl rfl rfl rfl (show p + ifo it + 2 * k < 800 by omega)) ?_
          refine Ex.tr (F1 := (37, 46, _, _)) (x_iconst rfl) ?_
          refine Ex.tr (F1 := (37, 49, _, _)) (x_icF rfl (tg := 66) rfl (fun z => z (q1.trans e1))) ?_
          refine Ex.tr (F1 := (37, 50, _, _)) (x_aload_n rfl rfl rfl) ?_
          refine Ex.tr (F1 := (37, 53, _, _)) (m_get rfl rfl (Nat.le_of_ble_eq_true rfl)) ?_
          refine Ex.tr (F1 := (37, 55, _, _)) (x_iload rfl rfl) ?_
          refine Ex.tr (F1 := (37, 56, _, _)) (x_iconst rfl) ?_
          refine Ex.tr (F1 := (37, 57, _, _)) (x_iadd rfl) ?_
          refine Ex.tr (F1 := (37, 58, _, _)) (m_iald (k := 5) (n := p + ifo it + 2 * k + 1) rfl rfl rfl (nI_1 _) (show p + ifo it + 2 * k + 1 < 800 by omega)) ?_
          refine Ex.tr (F1 := (37, 59, _, _)) (x_iload_n rfl rfl) ?_
          refine Ex.tr (F1 := (37, 62, _, _)) (x_icF rfl (tg := 66) rfl (fun z => z (q2.trans e2))) ?_
          refine Ex.tr (F1 := (37, 63, _, _)) (x_iconst rfl) ?_
          refine Ex.tr (F1 := (37, 67, _, _)) (x_goto rfl rfl) ?_
          exact Ex.rf
        · rw [if_neg (fun z => e2 (by rw [z]))]
          refine Ex.tr (F1 := (37, 38, _, _)) (x_iload_n rfl rfl) ?_
          refine Ex.tr (F1 := (37, 39, _, _)) (x_aload_n rfl rfl rfl) ?_
          refine Ex.tr (F1 := (37, 42, _, _)) (m_get rfl rfl (Nat.le_of_ble_eq_true rfl)) ?_
          refine Ex.tr (F1 := (37, 44, _, _)) (x_iload rfl rfl) ?_
          refine Ex.tr (F1 := (37, 45, _, _)) (m_iald (k := 5) (n := p + ifo it + 2 * k) rfl rfl rfl rfl (show p + ifo it + 2 * k < 800 by omega)) ?_
          refine Ex.tr (F1 := (37, 46, _, _)) (x_iconst rfl) ?_
          refine Ex.tr (F1 := (37, 49, _, _)) (x_icF rfl (tg := 66) rfl (fun z => z (q1.trans e1))) ?_
          refine Ex.tr (F1 := (37, 50, _, _)) (x_aload_n rfl rfl rfl) ?_
          refine Ex.tr (F1 := (37, 53, _, _)) (m_get rfl rfl (Nat.le_of_ble_eq_true rfl)) ?_
          refine Ex.tr (F1 := (37, 55, _, _)) (x_iload rfl rfl) ?_
          refine Ex.tr (F1 := (37, 56, _, _)) (x_iconst rfl) ?_
          refine Ex.tr (F1 := (37, 57, _, _)) (x_iadd rfl) ?_
          refine Ex.tr (F1 := (37, 58, _, _)) (m_iald (k := 5) (n := p + ifo it + 2 * k + 1) rfl rfl rfl (nI_1 _) (show p + ifo it + 2 * k + 1 < 800 by omega)) ?_
          refine Ex.tr (F1 := (37, 59, _, _)) (x_iload_n rfl rfl) ?_
          refine Ex.tr (F1 := (37, 66, _, _)) (x_icT rfl (tg := 66) rfl (fun z => e2 (q2.symm.trans z))) ?_
          refine Ex.tr (F1 := (37, 67, _, _)) (x_iconst rfl) ?_
          exact Ex.rf
      · rw [if_neg (fun z => e1 (by rw [z]))]
        refine Ex.tr (F1 := (37, 38, _, _)) (x_iload_n rfl rfl) ?_
        refine Ex.tr (F1 := (37, 39, _, _)) (x_aload_n rfl rfl rfl) ?_
        refine Ex.tr (F1 := (37, 42, _, _)) (m_get rfl rfl (Nat.le_of_ble_eq_true rfl)) ?_
        refine Ex.tr (F1 := (37, 44, _, _)) (x_iload rfl rfl) ?_
        refine Ex.tr (F1 := (37, 45, _, _)) (m_iald (k := 5) (n := p + ifo it + 2 * k) rfl rfl rfl rfl (show p + ifo it + 2 * k < 800 by omega)) ?_
        refine Ex.tr (F1 := (37, 46, _, _)) (x_iconst rfl) ?_
        refine Ex.tr (F1 := (37, 66, _, _)) (x_icT rfl (tg := 66) rfl (fun z => e1 (q1.symm.trans z))) ?_
        refine Ex.tr (F1 := (37, 67, _, _)) (x_iconst rfl) ?_
        exact Ex.rf
    refine Ex.tr key ?_
    refine Ex.tr (F1 := (37, 68, _, _)) (x_iadd rfl) ?_
    refine Ex.tr (F1 := (37, 68, _, _)) (x_top (nI_add c _)) ?_
    refine Ex.tr (F1 := (37, 69, [_, _, _, _, _, _], _)) (x_istore_n (i := 2) rfl (Nat.le_of_ble_eq_true rfl)) ?_
    refine Ex.tr (F1 := (37, 72, [_, _, _, _, _, _], _)) (x_iinc (i := 4) rfl rfl) ?_
    refine Ex.tr (F1 := (37, 15, _, _)) (x_goto rfl rfl) ?_
    have h9 := ih (k + 1) (c + (if iatm it k = (1, nm) then 1 else 0)) (some (.int (nI (p + ifo it + 2 * k)))) (by omega)
    rw [show c + (if iatm it k = (1, nm) then 1 else 0) + ioc it nm (k + 1) r = c + ioc it nm k (r + 1) by simp only [ioc]; omega, ← nI_1 k] at h9
    exact h9
theorem lp_occ {nm : Int32} (hl : S.1 4 = nI len) (h8 : len ≤ 800) : ∀ (Q : List It) (p c : Nat) (x y : Option Value), TokAt (S.2 5) p Q → p + tsum Q = len → Rk E (d + 1) (37, 4, [some (.ref o), some (.int nm), some (.int (nI (c))), some (.int (nI p)), x, y], []) (mh g o S) (some (.int (nI (c + occ nm Q)))) (mh g o S) := by
  intro Q
  induction Q with
  | nil =>
    intro p c x y _ hp
    simp only [tsum] at hp
    refine Rk.tr (F1 := (37, 5, _, _)) (x_iload_n rfl rfl) ?_
    refine Rk.tr (F1 := (37, 6, _, _)) (x_aload_n rfl rfl rfl) ?_
    refine Rk.tr (F1 := (37, 9, _, _)) (m_get rfl rfl (Nat.le_of_ble_eq_true rfl)) ?_
    refine Rk.tr (F1 := (37, 86, _, _)) (x_icT rfl (tg := 86) rfl (by show S.1 4 ≤ nI p; rw [hl]; exact nI_le (by omega) (by omega))) ?_
    refine Rk.tr (F1 := (37, 87, _, _)) (x_iload_n rfl rfl) ?_
    exact Rk.end rfl (Or.inr (Or.inl ⟨rfl, _, .int, rfl, rfl, rfl, rfl⟩))
  | cons it Q ih =>
    intro p c x y hT hp
    obtain ⟨h1, h2⟩ := hT
    simp only [tsum] at hp
    have h3 := isz_ge it
    have hs := Tok1_sz h1
    refine Rk.tr (F1 := (37, 5, _, _)) (x_iload_n rfl rfl) ?_
    refine Rk.tr (F1 := (37, 6, _, _)) (x_aload_n rfl rfl rfl) ?_
    refine Rk.tr (F1 := (37, 9, _, _)) (m_get rfl rfl (Nat.le_of_ble_eq_true rfl)) ?_
    refine Rk.tr (F1 := (37, 12, _, _)) (x_icF rfl (tg := 86) rfl (by show ¬ S.1 4 ≤ nI p; rw [hl]; exact nI_ge (by omega) (by omega))) ?_
    refine Rk.tr (F1 := (37, 13, _, _)) (x_iconst rfl) ?_
    refine Rk.tr (F1 := (37, 15, [_, _, _, _, _, _], _)) (x_istore (i := 4) rfl (Nat.le_of_ble_eq_true rfl)) ?_
    refine Rk.tr (lp_occ_in h1 (by omega) (iat it) 0 c y (by omega)) ?_
    refine Rk.tr (F1 := (37, 76, _, _)) (x_iload_n rfl rfl) ?_
    refine Rk.tr (F1 := (37, 77, _, _)) (x_aload_n rfl rfl rfl) ?_
    refine Rk.tr (F1 := (37, 78, _, _)) (x_iload_n rfl rfl) ?_
    refine Rk.tr (F1 := (37, 81, _, _)) (m_call (As := [_]) rfl rfl rfl (Or.inr rfl) rfl rfl rfl (Nat.le_of_ble_eq_true rfl) (c_size (by omega)) rfl) ?_
    refine Rk.tr (F1 := (37, 82, _, _)) (x_iadd rfl) ?_
    refine Rk.tr (F1 := (37, 82, _, _)) (x_top (y := nI (p + isz it)) (by rw [hs.1]; exact nI_add p _)) ?_
    refine Rk.tr (F1 := (37, 83, [_, _, _, _, _, _], _)) (x_istore_n (i := 3) rfl (Nat.le_of_ble_eq_true rfl)) ?_
    refine Rk.tr (F1 := (37, 4, _, _)) (x_goto rfl rfl) ?_
    have h9 := ih (p + isz it) (c + ioc it nm 0 (iat it)) none none h2 (by omega)
    rw [show c + ioc it nm 0 (iat it) + occ nm Q = c + occ nm (it :: Q) by simp only [occ]; omega] at h9
    exact h9
theorem c_occurs {nm : Int32} {P : List It} (hl : S.1 4 = nI len) (h8 : len ≤ 800) (hT : TokAt (S.2 5) 0 P) (hp : tsum P = len) : Rn E (d + 1) 37 [.ref o, .int nm] (mh g o S) (some (.int (nI (occ nm P)))) (mh g o S) := by
  refine Rn.of (Nat.le_of_ble_eq_true rfl) ?_
  refine Rk.tr (F1 := (37, 1, _, _)) (x_iconst rfl) ?_
  refine Rk.tr (F1 := (37, 2, [_, _, _, _, _, _], _)) (x_istore_n (i := 2) rfl (Nat.le_of_ble_eq_true rfl)) ?_
  refine Rk.tr (F1 := (37, 3, _, _)) (x_iconst rfl) ?_
  refine Rk.tr (F1 := (37, 4, [_, _, _, _, _, _], _)) (x_istore_n (i := 3) rfl (Nat.le_of_ble_eq_true rfl)) ?_
  have h9 := lp_occ (E := E) (d := d) (o := o) (g := g) (nm := nm) hl h8 P 0 0 none none hT (by omega)
  rw [Nat.zero_add] at h9
  exact h9
end M3
end
section
/-! ===== standsFor ===== -/
def msR (S : MSt) (R : Nat → Int32) : MSt := (S.1, fun k n => if k = 5 then R n else S.2 k n)
theorem msR_self (S : MSt) : msR S (S.2 5) = S := by
  refine Prod.ext rfl (funext fun k => funext fun n => ?_)
  show (if k = 5 then S.2 5 n else S.2 k n) = S.2 k n
  split
  next h => rw [h]
  next => rfl
def rup (R : Nat → Int32) (q : Nat) (x : Int32) : Nat → Int32 := fun n => if n = q then x else R n
theorem msR_A (S : MSt) (R : Nat → Int32) (q : Nat) (x : Int32) : msA (msR S R) 5 q x = msR S (rup R q x) := by
  refine Prod.ext rfl (funext fun k => funext fun n => ?_)
  show (if k = 5 ∧ n = q then x else if k = 5 then R n else S.2 k n) = (if k = 5 then (if n = q then x else R n) else S.2 k n)
  by_cases h1 : k = 5
  · by_cases h2 : n = q
    · rw [if_pos ⟨h1, h2⟩, if_pos h1, if_pos h2]
    · rw [if_neg (fun z => h2 z.2), if_pos h1, if_pos h1, if_neg h2]
  · rw [if_neg (fun z => h1 z.1), if_neg h1, if_neg h1]
theorem msR_R (S : MSt) (R R' : Nat → Int32) : msR (msR S R) R' = msR S R' := by
  refine Prod.ext rfl (funext fun k => funext fun n => ?_)
  show (if k = 5 then R' n else if k = 5 then R n else S.2 k n) = (if k = 5 then R' n else S.2 k n)
  split <;> rfl
/-- the atom by takes the name's place -/
def sa (nm : Int32) (by0 x : Int32 × Int32) : Int32 × Int32 := if x = (1, nm) then by0 else x
/-- its first k atoms done -/
def ipt (nm : Int32) (by0 : Int32 × Int32) (it : It) (k : Nat) : It := (it.1, it.2.1, it.2.2.1, if 0 < k then sa nm by0 it.2.2.2.1 else it.2.2.2.1, if 1 < k then sa nm by0 it.2.2.2.2 else it.2.2.2.2)
def isb (nm : Int32) (by0 : Int32 × Int32) (it : It) : It := ipt nm by0 it (iat it)
def sta (it : It) (k : Nat) (x : Int32 × Int32) : It := if k = 0 then (it.1, it.2.1, it.2.2.1, x, it.2.2.2.2) else (it.1, it.2.1, it.2.2.1, it.2.2.2.1, x)
theorem kd_eq {it it' : It} (h : it.1 = it'.1) : isz it = isz it' ∧ iat it = iat it' ∧ ifo it = ifo it' ∧ irw it = irw it' := by
  unfold isz iat ifo irw
  rw [h]
  exact ⟨rfl, rfl, rfl, rfl⟩
theorem isb_sz (nm : Int32) (by0 : Int32 × Int32) (it : It) : isz (isb nm by0 it) = isz it := (kd_eq (it := isb nm by0 it) (it' := it) rfl).1
theorem isb_sum (nm : Int32) (by0 : Int32 × Int32) (Q : List It) : tsum (Q.map (isb nm by0)) = tsum Q := by
  induction Q with
  | nil => rfl
  | cons a Q ih => simp only [List.map_cons, tsum, isb_sz, ih]
theorem Tok1_sta {R : Nat → Int32} {p k : Nat} {it : It} {x y : Int32} (h : Tok1 R p it) (hk : k < iat it) : Tok1 (rup (rup R (p + ifo it + 2 * k) x) (p + ifo it + 2 * k + 1) y) p (sta it k (x, y)) := by
  have hr : ∀ q, q ≠ p + ifo it + 2 * k → q ≠ p + ifo it + 2 * k + 1 → rup (rup R (p + ifo it + 2 * k) x) (p + ifo it + 2 * k + 1) y q = R q := by
    intro q h1 h2
    unfold rup
    rw [if_neg h2, if_neg h1]
  have hx : rup (rup R (p + ifo it + 2 * k) x) (p + ifo it + 2 * k + 1) y (p + ifo it + 2 * k) = x := by
    unfold rup
    rw [if_neg (by omega), if_pos rfl]
  have hy : rup (rup R (p + ifo it + 2 * k) x) (p + ifo it + 2 * k + 1) y (p + ifo it + 2 * k + 1) = y := by
    unfold rup
    rw [if_pos rfl]
  generalize rup (rup R (p + ifo it + 2 * k) x) (p + ifo it + 2 * k + 1) y = R' at hr hx hy ⊢
  obtain ⟨kd, nm, dt, ⟨a1, a2⟩, b1, b2⟩ := it
  rcases kd5 kd with rfl | rfl | rfl | rfl | ⟨n2, n3, n5, n9⟩
  · exact absurd hk (Nat.not_lt_zero k)
  · have hk : k < 2 := hk
    have hr : ∀ q, q ≠ p + 3 + 2 * k → q ≠ p + 3 + 2 * k + 1 → R' q = R q := hr
    have hx : R' (p + 3 + 2 * k) = x := hx
    have hy : R' (p + 3 + 2 * k + 1) = y := hy
    obtain ⟨h0, h1, h2, h3, h4, h5, h6⟩ := h
    rcases (show k = 0 ∨ k = 1 by omega) with rfl | rfl
    · exact ⟨by rw [hr p (by omega) (by omega)]; exact h0, by rw [hr (p + 1) (by omega) (by omega)]; exact h1, by rw [hr (p + 2) (by omega) (by omega)]; exact h2, hx, hy, by rw [hr (p + 5) (by omega) (by omega)]; exact h5, by rw [hr (p + 6) (by omega) (by omega)]; exact h6⟩
    · exact ⟨by rw [hr p (by omega) (by omega)]; exact h0, by rw [hr (p + 1) (by omega) (by omega)]; exact h1, by rw [hr (p + 2) (by omega) (by omega)]; exact h2, by rw [hr (p + 3) (by omega) (by omega)]; exact h3, by rw [hr (p + 4) (by omega) (by omega)]; exact h4, hx, hy⟩
  · have hk : k < 2 := hk
    have hr : ∀ q, q ≠ p + 4 + 2 * k → q ≠ p + 4 + 2 * k + 1 → R' q = R q := hr
    have hx : R' (p + 4 + 2 * k) = x := hx
    have hy : R' (p + 4 + 2 * k + 1) = y := hy
    obtain ⟨h0, h1, h2, h3, h4, h5, h6, h7⟩ := h
    rcases (show k = 0 ∨ k = 1 by omega) with rfl | rfl
    · exact ⟨by rw [hr p (by omega) (by omega)]; exact h0, by rw [hr (p + 1) (by omega) (by omega)]; exact h1, by rw [hr (p + 2) (by omega) (by omega)]; exact h2, by rw [hr (p + 3) (by omega) (by omega)]; exact h3, hx, hy, by rw [hr (p + 6) (by omega) (by omega)]; exact h6, by rw [hr (p + 7) (by omega) (by omega)]; exact h7⟩
    · exact ⟨by rw [hr p (by omega) (by omega)]; exact h0, by rw [hr (p + 1) (by omega) (by omega)]; exact h1, by rw [hr (p + 2) (by omega) (by omega)]; exact h2, by rw [hr (p + 3) (by omega) (by omega)]; exact h3, by rw [hr (p + 4) (by omega) (by omega)]; exact h4, by rw [hr (p + 5) (by omega) (by omega)]; exact h5, hx, hy⟩
  · have hk : k < 1 := hk
    have hr : ∀ q, q ≠ p + 1 + 2 * k → q ≠ p + 1 + 2 * k + 1 → R' q = R q := hr
    have hx : R' (p + 1 + 2 * k) = x := hx
    have hy : R' (p + 1 + 2 * k + 1) = y := hy
    obtain ⟨h0, h1, h2⟩ := h
    rcases (show k = 0 by omega) with rfl
    exact ⟨by rw [hr p (by omega) (by omega)]; exact h0, hx, hy⟩
  · have ht : ∀ (F : Nat → Int32) (c1 c2 : Int32 × Int32), Tok1 F p (kd, nm, dt, c1, c2) ↔ (F p = 8 ∧ F (p + 1) = nm ∧ F (p + 2) = 6 ∧ F (p + 3) = c1.1 ∧ F (p + 4) = c1.2) := by
      intro F c1 c2
      unfold Tok1
      split <;> first | (rename_i z; exact absurd z (by assumption)) | exact Iff.rfl
    have hz : iat (kd, nm, dt, (a1, a2), b1, b2) = 1 ∧ ifo (kd, nm, dt, (a1, a2), b1, b2) = 3 := by
      refine ⟨?_, ?_⟩
      · unfold iat
        split <;> first | rfl | (rename_i z; exact absurd z (by assumption))
      · unfold ifo
        split <;> first | rfl | (rename_i z; exact absurd z (by assumption))
    rw [hz.1] at hk
    rw [hz.2] at hr hx hy
    rcases (show k = 0 by omega) with rfl
    rw [ht] at h
    show Tok1 R' p (kd, nm, dt, (x, y), (b1, b2))
    rw [ht]
    exact ⟨by rw [hr p (by omega) (by omega)]; exact h.1, by rw [hr (p + 1) (by omega) (by omega)]; exact h.2.1, by rw [hr (p + 2) (by omega) (by omega)]; exact h.2.2.1, hx, hy⟩
theorem ipt_next {nm : Int32} {by0 : Int32 × Int32} {it : It} {k : Nat} (hk : k < 2) : ipt nm by0 it (k + 1) = sta (ipt nm by0 it k) k (sa nm by0 (iatm it k)) := by
  rcases (show k = 0 ∨ k = 1 by omega) with rfl | rfl <;> rfl
theorem ipt_same {nm : Int32} {by0 : Int32 × Int32} {it : It} {k : Nat} (hk : k < 2) (h : ¬ iatm it k = (1, nm)) : ipt nm by0 it (k + 1) = ipt nm by0 it k := by
  rcases (show k = 0 ∨ k = 1 by omega) with rfl | rfl
  · have h : ¬ it.2.2.2.1 = (1, nm) := h
    unfold ipt sa
    simp [h]
  · have h : ¬ it.2.2.2.2 = (1, nm) := h
    unfold ipt sa
    simp [h]
theorem ipt_atm {nm : Int32} {by0 : Int32 × Int32} {it : It} {k : Nat} (hk : k < 2) : iatm (ipt nm by0 it k) k = iatm it k := by
  rcases (show k = 0 ∨ k = 1 by omega) with rfl | rfl <;> rfl
section M4
variable {E : PE} {d o len : Nat} {g : PH} {S : MSt}
theorem lp_sub_in {nm bk bv : Int32} {it : It} {p : Nat} (hp : p + isz it ≤ 800) : ∀ (r k : Nat) (x : Option Value) (R : Nat → Int32), k + r = iat it → Tok1 R p (ipt nm (bk, bv) it k) →
    ∃ R' : Nat → Int32, Ex E (d + 1) (29, 15, [some (.ref o), some (.int nm), some (.int bk), some (.int bv), some (.int (nI (p))), some (.int (nI k)), x], []) (mh g o (msR S R)) (29, 87, [some (.ref o), some (.int nm), some (.int bk), some (.int bv), some (.int (nI (p))), none, none], []) (mh g o (msR S R')) ∧ Tok1 R' p (isb nm (bk, bv) it) ∧ ∀ n, n < p ∨ p + isz it ≤ n → R' n = R n := by
  have h3 := isz_ge it
  have h2 : iat it ≤ 2 := by unfold iat; split <;> decide
  intro r
  induction r with
  | zero =>
    intro k x R hk hT
    have hs := Tok1_sz hT
    have he := kd_eq (it := ipt nm (bk, bv) it k) (it' := it) rfl
    refine ⟨R, ?_, ?_, fun _ _ => rfl⟩
    · skip
      refine Ex.tr (F1 := (29, 17, _, _)) (x_iload rfl rfl) ?_
      refine Ex.tr (F1 := (29, 18, _, _)) (x_aload_n rfl rfl rfl) ?_
      refine Ex.tr (F1 := (29, 20, _, _)) (x_iload rfl rfl) ?_
      refine Ex.tr (F1 := (29, 23, _, _)) (m_call (As := [_]) rfl rfl rfl (Or.inr rfl) rfl rfl rfl (Nat.le_of_ble_eq_true rfl) (c_atoms (by omega)) rfl) ?_
      refine Ex.tr (F1 := (29, 87, _, _)) (x_icT rfl (tg := 87) rfl (by show nI (tat R p) ≤ nI k; rw [hs.2.1, he.2.1]; exact nI_le (by omega) (by omega))) ?_
      exact x_wk ⟨Or.inr rfl, Or.inr rfl, Or.inr rfl, Or.inr rfl, Or.inr rfl, Or.inl rfl, Or.inl rfl, trivial⟩
    · unfold isb
      rw [show iat it = k by omega]
      exact hT
  | succ r ih =>
    intro k x R hk hT
    have hs := Tok1_sz hT
    have he := kd_eq (it := ipt nm (bk, bv) it k) (it' := it) rfl
    generalize hi0 : ipt nm (bk, bv) it k = it0 at hT hs he
    obtain ⟨q1, q2, q3⟩ := Tok1_at hT (j := k) (by omega)
    have hat : iatm it0 k = iatm it k := by rw [← hi0]; exact ipt_atm (by omega)
    rw [hat] at q1 q2
    have ek : Ex E (d + 1) (29, 15, [some (.ref o), some (.int nm), some (.int bk), some (.int bv), some (.int (nI (p))), some (.int (nI k)), x], []) (mh g o (msR S R)) (29, 39, [some (.ref o), some (.int nm), some (.int bk), some (.int bv), some (.int (nI (p))), some (.int (nI k)), some (.int (nI (p + ifo it0 + 2 * k)))], []) (mh g o (msR S R)) := by
      refine Ex.tr (F1 := (29, 17, _, _)) (x_iload rfl rfl) ?_
      refine Ex.tr (F1 := (29, 18, _, _)) (x_aload_n rfl rfl rfl) ?_
      refine Ex.tr (F1 := (29, 20, _, _)) (x_iload rfl rfl) ?_
      refine Ex.tr (F1 := (29, 23, _, _)) (m_call (As := [_]) rfl rfl rfl (Or.inr rfl) rfl rfl rfl (Nat.le_of_ble_eq_true rfl) (c_atoms (by omega)) rfl) ?_
      refine Ex.tr (F1 := (29, 26, _, _)) (x_icF rfl (tg := 87) rfl (by show ¬ nI (tat R p) ≤ nI k; rw [hs.2.1, he.2.1]; exact nI_ge (by omega) (by omega))) ?_
      refine Ex.tr (F1 := (29, 27, _, _)) (x_aload_n rfl rfl rfl) ?_
      refine Ex.tr (F1 := (29, 29, _, _)) (x_iload rfl rfl) ?_
      refine Ex.tr (F1 := (29, 32, _, _)) (m_call (As := [_]) rfl rfl rfl (Or.inr rfl) rfl rfl rfl (Nat.le_of_ble_eq_true rfl) (c_firstAtom (by omega)) rfl) ?_
      refine Ex.tr (F1 := (29, 33, _, _)) (x_iconst rfl) ?_
      refine Ex.tr (F1 := (29, 35, _, _)) (x_iload rfl rfl) ?_
      refine Ex.tr (F1 := (29, 36, _, _)) (x_imul rfl) ?_
      refine Ex.tr (F1 := (29, 37, _, _)) (x_iadd rfl) ?_
      refine Ex.tr (F1 := (29, 37, _, _)) (x_top (y := nI (p + ifo it0 + 2 * k)) (by rw [show tfa ((msR S R).2 5) p = p + ifo it0 from hs.2.2.1]; show nI (p + ifo it0) + nI 2 * nI k = nI (p + ifo it0 + 2 * k); rw [pk_mul, nI_add])) ?_
      refine Ex.tr (F1 := (29, 39, [_, _, _, _, _, _, _], _)) (x_istore (i := 6) rfl (Nat.le_of_ble_eq_true rfl)) ?_
      exact Ex.rf
    by_cases e : iatm it k = (1, nm)
    · have e1 : (iatm it k).1 = 1 := by rw [e]
      have e2 : (iatm it k).2 = nm := by rw [e]
      have hT2 : Tok1 (rup (rup R (p + ifo it0 + 2 * k) bk) (p + ifo it0 + 2 * k + 1) bv) p (ipt nm (bk, bv) it (k + 1)) := by
        rw [ipt_next (by omega), hi0]
        have : sa nm (bk, bv) (iatm it k) = (bk, bv) := if_pos e
        rw [this]
        exact Tok1_sta hT (by omega)
      obtain ⟨R', x1, x2, x3⟩ := ih (k + 1) (some (.int (nI (p + ifo it0 + 2 * k)))) _ (by omega) hT2
      refine ⟨R', ek.tr ?_, x2, fun n hn => ?_⟩
      · rw [← nI_1 k, ← msR_A, ← msR_A] at x1
        refine Ex.tr (F1 := (29, 40, _, _)) (x_aload_n rfl rfl rfl) ?_
        refine Ex.tr (F1 := (29, 43, _, _)) (m_get rfl rfl (Nat.le_of_ble_eq_true rfl)) ?_
        refine Ex.tr (F1 := (29, 45, _, _)) (x_iload rfl rfl) ?_
        refine Ex.tr (F1 := (29, 46, _, _)) (m_iald (k := 5) (n := p + ifo it0 + 2 * k) rfl rfl rfl rfl (show p + ifo it0 + 2 * k < 800 by omega)) ?_
        refine Ex.tr (F1 := (29, 47, _, _)) (x_iconst rfl) ?_
        refine Ex.tr (F1 := (29, 50, _, _)) (x_icF rfl (tg := 81) rfl (fun z => z (q1.trans e1))) ?_
        refine Ex.tr (F1 := (29, 51, _, _)) (x_aload_n rfl rfl rfl) ?_
        refine Ex.tr (F1 := (29, 54, _, _)) (m_get rfl rfl (Nat.le_of_ble_eq_true rfl)) ?_
        refine Ex.tr (F1 := (29, 56, _, _)) (x_iload rfl rfl) ?_
        refine Ex.tr (F1 := (29, 57, _, _)) (x_iconst rfl) ?_
        refine Ex.tr (F1 := (29, 58, _, _)) (x_iadd rfl) ?_
        refine Ex.tr (F1 := (29, 59, _, _)) (m_iald (k := 5) (n := p + ifo it0 + 2 * k + 1) rfl rfl rfl (nI_1 _) (show p + ifo it0 + 2 * k + 1 < 800 by omega)) ?_
        refine Ex.tr (F1 := (29, 60, _, _)) (x_iload_n rfl rfl) ?_
        refine Ex.tr (F1 := (29, 63, _, _)) (x_icF rfl (tg := 81) rfl (fun z => z (q2.trans e2))) ?_
        refine Ex.tr (F1 := (29, 64, _, _)) (x_aload_n rfl rfl rfl) ?_
        refine Ex.tr (F1 := (29, 67, _, _)) (m_get rfl rfl (Nat.le_of_ble_eq_true rfl)) ?_
        refine Ex.tr (F1 := (29, 69, _, _)) (x_iload rfl rfl) ?_
        refine Ex.tr (F1 := (29, 70, _, _)) (x_iload_n rfl rfl) ?_
        refine Ex.tr (F1 := (29, 71, _, _)) (m_iast (k := 5) (n := p + ifo it0 + 2 * k) rfl rfl rfl (Nat.le_of_ble_eq_true rfl) rfl (show p + ifo it0 + 2 * k < 800 by omega)) ?_
        refine Ex.tr (F1 := (29, 72, _, _)) (x_aload_n rfl rfl rfl) ?_
        refine Ex.tr (F1 := (29, 75, _, _)) (m_get rfl rfl (Nat.le_of_ble_eq_true rfl)) ?_
        refine Ex.tr (F1 := (29, 77, _, _)) (x_iload rfl rfl) ?_
        refine Ex.tr (F1 := (29, 78, _, _)) (x_iconst rfl) ?_
        refine Ex.tr (F1 := (29, 79, _, _)) (x_iadd rfl) ?_
        refine Ex.tr (F1 := (29, 80, _, _)) (x_iload_n rfl rfl) ?_
        refine Ex.tr (F1 := (29, 81, _, _)) (m_iast (k := 5) (n := p + ifo it0 + 2 * k + 1) rfl rfl rfl (Nat.le_of_ble_eq_true rfl) (nI_1 _) (show p + ifo it0 + 2 * k + 1 < 800 by omega)) ?_
        refine Ex.tr (F1 := (29, 84, [_, _, _, _, _, _, _], _)) (x_iinc (i := 5) rfl rfl) ?_
        refine Ex.tr (F1 := (29, 15, _, _)) (x_goto rfl rfl) ?_
        exact x1
      · rw [x3 n hn]
        unfold rup
        rw [if_neg (by omega), if_neg (by omega)]
    · have hT2 : Tok1 R p (ipt nm (bk, bv) it (k + 1)) := by
        rw [ipt_same (by omega) e, hi0]
        exact hT
      obtain ⟨R', x1, x2, x3⟩ := ih (k + 1) (some (.int (nI (p + ifo it0 + 2 * k)))) _ (by omega) hT2
      refine ⟨R', ek.tr ?_, x2, x3⟩
      rw [← nI_1 k] at x1
      by_cases e1 : (iatm it k).1 = 1
      · have e2 : ¬ (iatm it k).2 = nm := fun z => e (Prod.ext e1 z)
        refine Ex.tr (F1 := (29, 40, _, _)) (x_aload_n rfl rfl rfl) ?_
        refine Ex.tr (F1 := (29, 43, _, _)) (m_get rfl rfl (Nat.le_of_ble_eq_true rfl)) ?_
        refine Ex.tr (F1 := (29, 45, _, _)) (x_iload rfl rfl) ?_
        refine Ex.tr (F1 := (29, 46, _, _)) (m_iald (k := 5) (n := p + ifo it0 + 2 * k) rfl rfl rfl rfl (show p + ifo it0 + 2 * k < 800 by omega)) ?_
        refine Ex.tr (F1 := (29, 47, _, _)) (x_iconst rfl) ?_
        refine Ex.tr (F1 := (29, 50, _, _)) (x_icF rfl (tg := 81) rfl (fun z => z (q1.trans e1))) ?_
        refine Ex.tr (F1 := (29, 51, _, _)) (x_aload_n rfl rfl rfl) ?_
        refine Ex.tr (F1 := (29, 54, _, _)) (m_get rfl rfl (Nat.le_of_ble_eq_true rfl)) ?_
        refine Ex.tr (F1 := (29, 56, _, _)) (x_iload rfl rfl) ?_
        refine Ex.tr (F1 := (29, 57, _, _)) (x_iconst rfl) ?_
        refine Ex.tr (F1 := (29, 58, _, _)) (x_iadd rfl) ?_
        refine Ex.tr (F1 := (29, 59, _, _)) (m_iald (k := 5) (n := p + ifo it0 + 2 * k + 1) rfl rfl rfl (nI_1 _) (show p + ifo it0 + 2 * k + 1 < 800 by omega)) ?_
        refine Ex.tr (F1 := (29, 60, _, _)) (x_iload_n rfl rfl) ?_
        refine Ex.tr (F1 := (29, 81, _, _)) (x_icT rfl (tg := 81) rfl (fun z => e2 (q2.symm.trans z))) ?_
        refine Ex.tr (F1 := (29, 84, [_, _, _, _, _, _, _], _)) (x_iinc (i := 5) rfl rfl) ?_
        refine Ex.tr (F1 := (29, 15, _, _)) (x_goto rfl rfl) ?_
        exact x1
      · skip
        refine Ex.tr (F1 := (29, 40, _, _)) (x_aload_n rfl rfl rfl) ?_
        refine Ex.tr (F1 := (29, 43, _, _)) (m_get rfl rfl (Nat.le_of_ble_eq_true rfl)) ?_
        refine Ex.tr (F1 := (29, 45, _, _)) (x_iload rfl rfl) ?_
        refine Ex.tr (F1 := (29, 46, _, _)) (m_iald (k := 5) (n := p + ifo it0 + 2 * k) rfl rfl rfl rfl (show p + ifo it0 + 2 * k < 800 by omega)) ?_
        refine Ex.tr (F1 := (29, 47, _, _)) (x_iconst rfl) ?_
        refine Ex.tr (F1 := (29, 81, _, _)) (x_icT rfl (tg := 81) rfl (fun z => e1 (q1.symm.trans z))) ?_
        refine Ex.tr (F1 := (29, 84, [_, _, _, _, _, _, _], _)) (x_iinc (i := 5) rfl rfl) ?_
        refine Ex.tr (F1 := (29, 15, _, _)) (x_goto rfl rfl) ?_
        exact x1
theorem lp_sub {nm bk bv : Int32} (hl : S.1 4 = nI len) (h8 : len ≤ 800) : ∀ (Q : List It) (p : Nat) (x y : Option Value) (R : Nat → Int32), TokAt R p Q → p + tsum Q = len →
    ∃ R' : Nat → Int32, Rk E (d + 1) (29, 3, [some (.ref o), some (.int nm), some (.int bk), some (.int bv), some (.int (nI (p))), x, y], []) (mh g o (msR S R)) none (mh g o (msR S R')) ∧ TokAt R' p (Q.map (isb nm (bk, bv))) ∧ ∀ n, n < p → R' n = R n := by
  intro Q
  induction Q with
  | nil =>
    intro p x y R _ hp
    simp only [tsum] at hp
    refine ⟨R, ?_, trivial, fun _ _ => rfl⟩
    refine Rk.tr (F1 := (29, 5, _, _)) (x_iload rfl rfl) ?_
    refine Rk.tr (F1 := (29, 6, _, _)) (x_aload_n rfl rfl rfl) ?_
    refine Rk.tr (F1 := (29, 9, _, _)) (m_get rfl rfl (Nat.le_of_ble_eq_true rfl)) ?_
    refine Rk.tr (F1 := (29, 101, _, _)) (x_icT rfl (tg := 101) rfl (by show S.1 4 ≤ nI p; rw [hl]; exact nI_le (by omega) (by omega))) ?_
    exact Rk.end rfl (Or.inl ⟨rfl, rfl, rfl, rfl⟩)
  | cons it Q ih =>
    intro p x y R hT hp
    obtain ⟨h1, h2⟩ := hT
    simp only [tsum] at hp
    have h3 := isz_ge it
    have h0 : ipt nm (bk, bv) it 0 = it := rfl
    obtain ⟨R1, x1, x2, x3⟩ := lp_sub_in (E := E) (d := d) (o := o) (g := g) (S := S) (nm := nm) (bk := bk) (bv := bv) (it := it) (p := p) (by omega) (iat it) 0 y R (by omega) (by rw [h0]; exact h1)
    have hs := Tok1_sz x2
    have h2' : TokAt R1 (p + isz it) Q := TokAt_shift h2 (fun j _ => x3 _ (by omega))
    obtain ⟨R', y1, y2, y3⟩ := ih (p + isz it) none none R1 h2' (by omega)
    refine ⟨R', ?_, ⟨?_, by rw [isb_sz]; exact y2⟩, fun n hn => by rw [y3 n (by omega), x3 n (by omega)]⟩
    · skip
      refine Rk.tr (F1 := (29, 5, _, _)) (x_iload rfl rfl) ?_
      refine Rk.tr (F1 := (29, 6, _, _)) (x_aload_n rfl rfl rfl) ?_
      refine Rk.tr (F1 := (29, 9, _, _)) (m_get rfl rfl (Nat.le_of_ble_eq_true rfl)) ?_
      refine Rk.tr (F1 := (29, 12, _, _)) (x_icF rfl (tg := 101) rfl (by show ¬ S.1 4 ≤ nI p; rw [hl]; exact nI_ge (by omega) (by omega))) ?_
      refine Rk.tr (F1 := (29, 13, _, _)) (x_iconst rfl) ?_
      refine Rk.tr (F1 := (29, 15, [_, _, _, _, _, _, _], _)) (x_istore (i := 5) rfl (Nat.le_of_ble_eq_true rfl)) ?_
      refine Rk.tr x1 ?_
      refine Rk.tr (F1 := (29, 89, _, _)) (x_iload rfl rfl) ?_
      refine Rk.tr (F1 := (29, 90, _, _)) (x_aload_n rfl rfl rfl) ?_
      refine Rk.tr (F1 := (29, 92, _, _)) (x_iload rfl rfl) ?_
      refine Rk.tr (F1 := (29, 95, _, _)) (m_call (As := [_]) rfl rfl rfl (Or.inr rfl) rfl rfl rfl (Nat.le_of_ble_eq_true rfl) (c_size (by omega)) rfl) ?_
      refine Rk.tr (F1 := (29, 96, _, _)) (x_iadd rfl) ?_
      refine Rk.tr (F1 := (29, 96, _, _)) (x_top (y := nI (p + isz it)) (by rw [show tsz ((msR S R1).2 5) p = isz it from hs.1.trans (isb_sz _ _ _)]; exact nI_add p _)) ?_
      refine Rk.tr (F1 := (29, 98, [_, _, _, _, _, _, _], _)) (x_istore (i := 4) rfl (Nat.le_of_ble_eq_true rfl)) ?_
      refine Rk.tr (F1 := (29, 3, _, _)) (x_goto rfl rfl) ?_
      exact y1
    · refine Tok1_shift x2 (fun j hj => ?_)
      rw [isb_sz] at hj
      exact y3 _ (by omega)
theorem c_standsFor {nm bk bv : Int32} {P : List It} (hl : S.1 4 = nI len) (h8 : len ≤ 800) (hT : TokAt (S.2 5) 0 P) (hp : tsum P = len) : ∃ R' : Nat → Int32, Rn E (d + 1) 29 [.ref o, .int nm, .int bk, .int bv] (mh g o S) none (mh g o (msR S R')) ∧ TokAt R' 0 (P.map (isb nm (bk, bv))) := by
  obtain ⟨R', x1, x2, -⟩ := lp_sub (E := E) (d := d) (o := o) (g := g) (S := S) (nm := nm) (bk := bk) (bv := bv) hl h8 P 0 none none (S.2 5) hT (by omega)
  rw [msR_self] at x1
  refine ⟨R', ?_, x2⟩
  refine Rn.of (Nat.le_of_ble_eq_true rfl) ?_
  refine Rk.tr (F1 := (29, 1, _, _)) (x_iconst rfl) ?_
  refine Rk.tr (F1 := (29, 3, [_, _, _, _, _, _, _], _)) (x_istore (i := 4) rfl (Nat.le_of_ble_eq_true rfl)) ?_
  exact x1
end M4
end
section
/-! ===== rowEnd, cut, insert, function ===== -/
/-- how many rows are open behind an item -/
def bal : Nat → List It → Nat
  | n, [] => n
  | n, it :: Q => bal (if it.1 = 9 then n - 1 else n + irw it) Q
/-- Q begins inside n open rows (n ≥ 1) and the last of its items is the RESULT that closes the last of them -/
def closes : Nat → List It → Prop
  | _, [] => False
  | n, it :: Q => if it.1 = 9 then (if n = 1 then Q = [] else closes (n - 1) Q) else closes (n + irw it) Q
theorem Tok1_rw {R : Nat → Int32} {p : Nat} {it : It} (h : Tok1 R p it) (h9 : it.1 ≠ 9) : (if R (p + 2) = 2 then 1 else if R (p + 2) = 6 then 2 else 0) = irw it := by
  obtain ⟨k, nm, dt, ⟨a1, a2⟩, b1, b2⟩ := it
  rcases kd5 k with rfl | rfl | rfl | rfl | ⟨n2, n3, n5, n9⟩
  · rw [h.2.2.1]; rfl
  · rw [h.2.2.1]; rfl
  · rw [h.2.2.1]; rfl
  · exact absurd rfl h9
  · have ht : R p = 8 ∧ R (p + 1) = nm ∧ R (p + 2) = 6 ∧ R (p + 3) = a1 ∧ R (p + 4) = a2 := by
      unfold Tok1 at h
      split at h <;> first | (rename_i z; exact absurd z (by assumption)) | exact h
    have hz : irw (k, nm, dt, (a1, a2), b1, b2) = 2 := by
      unfold irw
      split <;> first | rfl | (rename_i z; exact absurd z (by assumption))
    rw [ht.2.2.1, hz]
    rfl
theorem irw_le (it : It) : irw it ≤ 2 := by unfold irw; split <;> decide
section M5
variable {E : PE} {d o len : Nat} {g : PH} {S : MSt}
theorem lp_rowEnd {x1 : Int32} : ∀ (Q : List It) (p rows n : Nat), TokAt (S.2 5) p Q → p + tsum Q ≤ 800 → 1 ≤ rows → rows ≤ 2 * n + 1 → n + Q.length ≤ 800 → closes rows Q → Rk E (d + 1) (33, 7, [some (.ref o), some (.int x1), some (.int (nI (rows))), some (.int (nI (p))), some (.int (nI (n)))], []) (mh g o S) (some (.int (nI (p + tsum Q - 3)))) (mh g o S) := by
  intro Q
  induction Q with
  | nil => intro p rows n _ _ _ _ _ hc; exact hc.elim
  | cons it Q ih =>
    intro p rows n hT hp h1 hb hn hc
    obtain ⟨t1, t2⟩ := hT
    simp only [tsum] at hp
    simp only [List.length_cons] at hn
    have h3 := isz_ge it
    have hs := Tok1_sz t1
    simp only [closes] at hc
    refine Rk.tr (F1 := (33, 9, _, _)) (x_iload rfl rfl) ?_
    refine Rk.tr (F1 := (33, 12, _, _)) (x_sipush rfl) ?_
    refine Rk.tr (F1 := (33, 15, _, _)) (x_icF rfl (tg := 86) rfl (by show ¬ nI 800 ≤ nI n; exact nI_ge (by omega) (by omega))) ?_
    by_cases h9 : it.1 = 9
    · rw [if_pos h9] at hc
      have hz : isz it = 3 := by
        unfold isz
        rw [h9]
        rfl
      refine Rk.tr (F1 := (33, 16, _, _)) (x_aload_n rfl rfl rfl) ?_
      refine Rk.tr (F1 := (33, 19, _, _)) (m_get rfl rfl (Nat.le_of_ble_eq_true rfl)) ?_
      refine Rk.tr (F1 := (33, 20, _, _)) (x_iload_n rfl rfl) ?_
      refine Rk.tr (F1 := (33, 21, _, _)) (m_iald (k := 5) (n := p) rfl rfl rfl rfl (show p < 800 by omega)) ?_
      refine Rk.tr (F1 := (33, 23, _, _)) (x_bipush rfl) ?_
      refine Rk.tr (F1 := (33, 26, _, _)) (x_icF rfl (tg := 35) rfl (fun z => z (hs.2.2.2.1.mpr h9))) ?_
      refine Rk.tr (F1 := (33, 29, [_, _, _, _, _], _)) (x_iinc (i := 2) rfl rfl) ?_
      refine Rk.tr (F1 := (33, 30, _, _)) (x_iload_n rfl rfl) ?_
      by_cases e1 : rows = 1
      · rw [if_pos e1] at hc
        subst hc
        simp only [tsum]
        rw [hz, show p + (3 + 0) - 3 = p by omega]
        subst e1
        refine Rk.tr (F1 := (33, 33, _, _)) (x_ifF rfl (tg := 72) rfl (fun z => z (by decide))) ?_
        refine Rk.tr (F1 := (33, 34, _, _)) (x_iload_n rfl rfl) ?_
        exact Rk.end rfl (Or.inr (Or.inl ⟨rfl, _, .int, rfl, rfl, rfl, rfl⟩))
      · rw [if_neg e1] at hc
        obtain ⟨m, rfl⟩ : ∃ m, rows = m + 1 := ⟨rows - 1, by omega⟩
        have hm : 0 < m := by omega
        refine Rk.tr (F1 := (33, 72, _, _)) (x_ifT rfl (tg := 72) rfl (by show ¬ nI (m + 1) + Int32.ofInt (-1) = 0; rw [show nI (m + 1) + Int32.ofInt (-1) = nI m from pk_m1 m]; exact nI_ne0 hm (by omega))) ?_
        refine Rk.tr (F1 := (33, 73, _, _)) (x_iload_n rfl rfl) ?_
        refine Rk.tr (F1 := (33, 74, _, _)) (x_aload_n rfl rfl rfl) ?_
        refine Rk.tr (F1 := (33, 75, _, _)) (x_iload_n rfl rfl) ?_
        refine Rk.tr (F1 := (33, 78, _, _)) (m_call (As := [_]) rfl rfl rfl (Or.inr rfl) rfl rfl rfl (Nat.le_of_ble_eq_true rfl) (c_size (by omega)) rfl) ?_
        refine Rk.tr (F1 := (33, 79, _, _)) (x_iadd rfl) ?_
        refine Rk.tr (F1 := (33, 79, _, _)) (x_top (y := nI (p + isz it)) (by rw [hs.1]; exact nI_add p _)) ?_
        refine Rk.tr (F1 := (33, 80, [_, _, _, _, _], _)) (x_istore_n (i := 3) rfl (Nat.le_of_ble_eq_true rfl)) ?_
        refine Rk.tr (F1 := (33, 83, [_, _, _, _, _], _)) (x_iinc (i := 4) rfl rfl) ?_
        refine Rk.tr (F1 := (33, 7, _, _)) (x_goto rfl rfl) ?_
        have h9 := ih (p + isz it) m (n + 1) t2 (by omega) (by omega) (by omega) (by omega) hc
        rw [← nI_1 n, show nI m = nI (m + 1) + Int32.ofInt (-1) from (pk_m1 m).symm, show p + isz it + tsum Q - 3 = p + tsum (it :: Q) - 3 by simp only [tsum]; omega] at h9
        exact h9
    · rw [if_neg h9] at hc
      have hi := irw_le it
      have key : Ex E (d + 1) (33, 15, [some (.ref o), some (.int x1), some (.int (nI (rows))), some (.int (nI (p))), some (.int (nI (n)))], []) (mh g o S) (33, 70, [some (.ref o), some (.int x1), some (.int (nI (rows))), some (.int (nI (p))), some (.int (nI (n)))], [.int (nI (irw it)), .int (nI rows)]) (mh g o S) := by
        rw [← Tok1_rw t1 h9]
        refine Ex.tr (F1 := (33, 16, _, _)) (x_aload_n rfl rfl rfl) ?_
        refine Ex.tr (F1 := (33, 19, _, _)) (m_get rfl rfl (Nat.le_of_ble_eq_true rfl)) ?_
        refine Ex.tr (F1 := (33, 20, _, _)) (x_iload_n rfl rfl) ?_
        refine Ex.tr (F1 := (33, 21, _, _)) (m_iald (k := 5) (n := p) rfl rfl rfl rfl (show p < 800 by omega)) ?_
        refine Ex.tr (F1 := (33, 23, _, _)) (x_bipush rfl) ?_
        refine Ex.tr (F1 := (33, 35, _, _)) (x_icT rfl (tg := 35) rfl (fun z => h9 (hs.2.2.2.1.mp z))) ?_
        refine Ex.tr (F1 := (33, 36, _, _)) (x_iload_n rfl rfl) ?_
        refine Ex.tr (F1 := (33, 37, _, _)) (x_aload_n rfl rfl rfl) ?_
        refine Ex.tr (F1 := (33, 40, _, _)) (m_get rfl rfl (Nat.le_of_ble_eq_true rfl)) ?_
        refine Ex.tr (F1 := (33, 41, _, _)) (x_iload_n rfl rfl) ?_
        refine Ex.tr (F1 := (33, 42, _, _)) (x_iconst rfl) ?_
        refine Ex.tr (F1 := (33, 43, _, _)) (x_iadd rfl) ?_
        refine Ex.tr (F1 := (33, 44, _, _)) (m_iald (k := 5) (n := p + 2) rfl rfl rfl (nI_add p 2) (show p + 2 < 800 by omega)) ?_
        refine Ex.tr (F1 := (33, 45, _, _)) (x_iconst rfl) ?_
        by_cases hc45 : S.2 5 (p + 2) = 2
        · rw [if_pos hc45]
          refine Ex.tr (F1 := (33, 48, _, _)) (x_icF rfl (tg := 52) rfl (fun q => q hc45)) ?_
          refine Ex.tr (F1 := (33, 49, _, _)) (x_iconst rfl) ?_
          refine Ex.tr (F1 := (33, 70, _, _)) (x_goto rfl rfl) ?_
          exact Ex.rf
        · rw [if_neg hc45]
          refine Ex.tr (F1 := (33, 52, _, _)) (x_icT rfl (tg := 52) rfl hc45) ?_
          refine Ex.tr (F1 := (33, 53, _, _)) (x_aload_n rfl rfl rfl) ?_
          refine Ex.tr (F1 := (33, 56, _, _)) (m_get rfl rfl (Nat.le_of_ble_eq_true rfl)) ?_
          refine Ex.tr (F1 := (33, 57, _, _)) (x_iload_n rfl rfl) ?_
          refine Ex.tr (F1 := (33, 58, _, _)) (x_iconst rfl) ?_
          refine Ex.tr (F1 := (33, 59, _, _)) (x_iadd rfl) ?_
          refine Ex.tr (F1 := (33, 60, _, _)) (m_iald (k := 5) (n := p + 2) rfl rfl rfl (nI_add p 2) (show p + 2 < 800 by omega)) ?_
          refine Ex.tr (F1 := (33, 62, _, _)) (x_bipush rfl) ?_
          by_cases hc62 : S.2 5 (p + 2) = 6
          · rw [if_pos hc62]
            refine Ex.tr (F1 := (33, 65, _, _)) (x_icF rfl (tg := 69) rfl (fun q => q hc62)) ?_
            refine Ex.tr (F1 := (33, 66, _, _)) (x_iconst rfl) ?_
            refine Ex.tr (F1 := (33, 70, _, _)) (x_goto rfl rfl) ?_
            exact Ex.rf
          · rw [if_neg hc62]
            refine Ex.tr (F1 := (33, 69, _, _)) (x_icT rfl (tg := 69) rfl hc62) ?_
            refine Ex.tr (F1 := (33, 70, _, _)) (x_iconst rfl) ?_
            exact Ex.rf
      refine Rk.tr key ?_
      refine Rk.tr (F1 := (33, 71, _, _)) (x_iadd rfl) ?_
      refine Rk.tr (F1 := (33, 71, _, _)) (x_top (nI_add rows (irw it))) ?_
      refine Rk.tr (F1 := (33, 72, [_, _, _, _, _], _)) (x_istore_n (i := 2) rfl (Nat.le_of_ble_eq_true rfl)) ?_
      refine Rk.tr (F1 := (33, 73, _, _)) (x_iload_n rfl rfl) ?_
      refine Rk.tr (F1 := (33, 74, _, _)) (x_aload_n rfl rfl rfl) ?_
      refine Rk.tr (F1 := (33, 75, _, _)) (x_iload_n rfl rfl) ?_
      refine Rk.tr (F1 := (33, 78, _, _)) (m_call (As := [_]) rfl rfl rfl (Or.inr rfl) rfl rfl rfl (Nat.le_of_ble_eq_true rfl) (c_size (by omega)) rfl) ?_
      refine Rk.tr (F1 := (33, 79, _, _)) (x_iadd rfl) ?_
      refine Rk.tr (F1 := (33, 79, _, _)) (x_top (y := nI (p + isz it)) (by rw [hs.1]; exact nI_add p _)) ?_
      refine Rk.tr (F1 := (33, 80, [_, _, _, _, _], _)) (x_istore_n (i := 3) rfl (Nat.le_of_ble_eq_true rfl)) ?_
      refine Rk.tr (F1 := (33, 83, [_, _, _, _, _], _)) (x_iinc (i := 4) rfl rfl) ?_
      refine Rk.tr (F1 := (33, 7, _, _)) (x_goto rfl rfl) ?_
      have h9 := ih (p + isz it) (rows + irw it) (n + 1) t2 (by omega) (by omega) (by omega) (by omega) hc
      rw [← nI_1 n, show p + isz it + tsum Q - 3 = p + tsum (it :: Q) - 3 by simp only [tsum]; omega] at h9
      exact h9
theorem len_sum (Q : List It) : 3 * Q.length ≤ tsum Q := by
  induction Q with
  | nil => exact Nat.le_refl _
  | cons a Q ih =>
    have := isz_ge a
    simp only [List.length_cons, tsum]
    omega
theorem c_rowEnd {p : Nat} {Q : List It} (hT : TokAt (S.2 5) p Q) (hp : p + tsum Q ≤ 800) (hc : closes 1 Q) : Rn E (d + 1) 33 [.ref o, .int (nI p)] (mh g o S) (some (.int (nI (p + tsum Q - 3)))) (mh g o S) := by
  have hq := len_sum Q
  refine Rn.of (Nat.le_of_ble_eq_true rfl) ?_
  refine Rk.tr (F1 := (33, 1, _, _)) (x_iconst rfl) ?_
  refine Rk.tr (F1 := (33, 2, [_, _, _, _, _], _)) (x_istore_n (i := 2) rfl (Nat.le_of_ble_eq_true rfl)) ?_
  refine Rk.tr (F1 := (33, 3, _, _)) (x_iload_n rfl rfl) ?_
  refine Rk.tr (F1 := (33, 4, [_, _, _, _, _], _)) (x_istore_n (i := 3) rfl (Nat.le_of_ble_eq_true rfl)) ?_
  refine Rk.tr (F1 := (33, 5, _, _)) (x_iconst rfl) ?_
  refine Rk.tr (F1 := (33, 7, [_, _, _, _, _], _)) (x_istore (i := 4) rfl (Nat.le_of_ble_eq_true rfl)) ?_
  exact lp_rowEnd Q p 1 0 hT hp (by omega) (by omega) (by omega) hc
/-- the array behind 'cut' -/
def rcut (R : Nat → Int32) (f t k : Nat) : Nat → Int32 := fun n => if f ≤ n ∧ n + (t - f) < k then R (n + (t - f)) else R n
theorem lp_cut {f u : Nat} (hl : S.1 4 = nI len) (h8 : len ≤ 800) (hfu : f ≤ u) : ∀ (r k : Nat), k + r = len → u ≤ k →
    Rk E d (28, 2, [some (.ref o), some (.int (nI f)), some (.int (nI u)), some (.int (nI k))], []) (mh g o (msR S (rcut (S.2 5) f u k))) none (mh g o (msI (msR S (rcut (S.2 5) f u len)) 4 (nI (len - (u - f))))) := by
  intro r
  induction r with
  | zero =>
    intro k hk hu
    rcases (show k = len by omega) with rfl
    refine Rk.tr (F1 := (28, 3, _, _)) (x_iload_n rfl rfl) ?_
    refine Rk.tr (F1 := (28, 4, _, _)) (x_aload_n rfl rfl rfl) ?_
    refine Rk.tr (F1 := (28, 7, _, _)) (m_get rfl rfl (Nat.le_of_ble_eq_true rfl)) ?_
    refine Rk.tr (F1 := (28, 32, _, _)) (x_icT rfl (tg := 32) rfl (by show S.1 4 ≤ nI k; rw [hl]; exact nI_le (by omega) (by omega))) ?_
    refine Rk.tr (F1 := (28, 33, _, _)) (x_aload_n rfl rfl rfl) ?_
    refine Rk.tr (F1 := (28, 34, _, _)) (x_dup rfl rfl) ?_
    refine Rk.tr (F1 := (28, 37, _, _)) (m_get rfl rfl (Nat.le_of_ble_eq_true rfl)) ?_
    refine Rk.tr (F1 := (28, 38, _, _)) (x_iload_n rfl rfl) ?_
    refine Rk.tr (F1 := (28, 39, _, _)) (x_iload_n rfl rfl) ?_
    refine Rk.tr (F1 := (28, 40, _, _)) (x_isub rfl) ?_
    refine Rk.tr (F1 := (28, 41, _, _)) (x_isub rfl) ?_
    refine Rk.tr (F1 := (28, 41, _, _)) (x_top (y := nI (k - (u - f))) (by show S.1 4 - (nI u - nI f) = _; rw [hl, pk_sub (by omega), pk_sub (by omega)])) ?_
    refine Rk.tr (F1 := (28, 44, _, _)) (m_put rfl rfl rfl rfl rfl rfl) ?_
    exact Rk.end rfl (Or.inl ⟨rfl, rfl, rfl, rfl⟩)
  | succ r ih =>
    intro k hk hu
    have h9 := ih (k + 1) (by omega) (by omega)
    have hR : rup (rcut (S.2 5) f u k) (f + k - u) (rcut (S.2 5) f u k k) = rcut (S.2 5) f u (k + 1) := by
      funext n
      have ek : rcut (S.2 5) f u k k = S.2 5 k := by
        unfold rcut
        by_cases z : f ≤ k ∧ k + (u - f) < k
        · omega
        · rw [if_neg z]
      rw [ek]
      unfold rup rcut
      by_cases z : n = f + k - u
      · rw [if_pos z, if_pos (by omega), show n + (u - f) = k by omega]
      · rw [if_neg z]
        by_cases z2 : f ≤ n ∧ n + (u - f) < k
        · rw [if_pos z2, if_pos (by omega)]
        · rw [if_neg z2, if_neg (by omega)]
    rw [← hR, ← msR_A, ← nI_1 k] at h9
    refine Rk.tr (F1 := (28, 3, _, _)) (x_iload_n rfl rfl) ?_
    refine Rk.tr (F1 := (28, 4, _, _)) (x_aload_n rfl rfl rfl) ?_
    refine Rk.tr (F1 := (28, 7, _, _)) (m_get rfl rfl (Nat.le_of_ble_eq_true rfl)) ?_
    refine Rk.tr (F1 := (28, 10, _, _)) (x_icF rfl (tg := 32) rfl (by show ¬ S.1 4 ≤ nI k; rw [hl]; exact nI_ge (by omega) (by omega))) ?_
    refine Rk.tr (F1 := (28, 11, _, _)) (x_aload_n rfl rfl rfl) ?_
    refine Rk.tr (F1 := (28, 14, _, _)) (m_get rfl rfl (Nat.le_of_ble_eq_true rfl)) ?_
    refine Rk.tr (F1 := (28, 15, _, _)) (x_iload_n rfl rfl) ?_
    refine Rk.tr (F1 := (28, 16, _, _)) (x_iload_n rfl rfl) ?_
    refine Rk.tr (F1 := (28, 17, _, _)) (x_iadd rfl) ?_
    refine Rk.tr (F1 := (28, 18, _, _)) (x_iload_n rfl rfl) ?_
    refine Rk.tr (F1 := (28, 19, _, _)) (x_isub rfl) ?_
    refine Rk.tr (F1 := (28, 20, _, _)) (x_aload_n rfl rfl rfl) ?_
    refine Rk.tr (F1 := (28, 23, _, _)) (m_get rfl rfl (Nat.le_of_ble_eq_true rfl)) ?_
    refine Rk.tr (F1 := (28, 24, _, _)) (x_iload_n rfl rfl) ?_
    refine Rk.tr (F1 := (28, 25, _, _)) (m_iald (k := 5) (n := k) rfl rfl rfl rfl (show k < 800 by omega)) ?_
    refine Rk.tr (F1 := (28, 26, _, _)) (m_iast (k := 5) (n := f + k - u) rfl rfl rfl (Nat.le_of_ble_eq_true rfl) (by show nI f + nI k - nI u = _; rw [nI_add, pk_sub (by omega)]) (show f + k - u < 800 by omega)) ?_
    refine Rk.tr (F1 := (28, 29, [_, _, _, _], _)) (x_iinc (i := 3) rfl rfl) ?_
    refine Rk.tr (F1 := (28, 2, _, _)) (x_goto rfl rfl) ?_
    exact h9
theorem c_cut {f u : Nat} (hl : S.1 4 = nI len) (h8 : len ≤ 800) (hfu : f ≤ u) (hu : u ≤ len) : Rn E d 28 [.ref o, .int (nI f), .int (nI u)] (mh g o S) none (mh g o (msI (msR S (rcut (S.2 5) f u len)) 4 (nI (len - (u - f))))) := by
  have h9 := lp_cut (E := E) (d := d) (o := o) (g := g) hl h8 hfu (len - u) u (by omega) (Nat.le_refl u)
  have e : rcut (S.2 5) f u u = S.2 5 := by
    funext n
    unfold rcut
    by_cases z : f ≤ n ∧ n + (u - f) < u
    · omega
    · rw [if_neg z]
  rw [e, msR_self] at h9
  refine Rn.of (Nat.le_of_ble_eq_true rfl) ?_
  refine Rk.tr (F1 := (28, 1, _, _)) (x_iload_n rfl rfl) ?_
  refine Rk.tr (F1 := (28, 2, [_, _, _, _], _)) (x_istore_n (i := 3) rfl (Nat.le_of_ble_eq_true rfl)) ?_
  exact h9
end M5
end
section
/-! ===== insert, function ===== -/
/-- the array behind 'insert': the n cells of the piece at f -/
def rins (R W : Nat → Int32) (f n len : Nat) : Nat → Int32 := fun q => if f ≤ q ∧ q < f + n then W (q - f) else if f + n ≤ q ∧ q < len + n then R (q - n) else R q
/-- moved so far: from k on -/
def rmv (R : Nat → Int32) (n len k : Nat) : Nat → Int32 := fun q => if k + n ≤ q ∧ q < len + n then R (q - n) else R q
def rpc (R W : Nat → Int32) (f k : Nat) : Nat → Int32 := fun q => if f ≤ q ∧ q < f + k then W (q - f) else R q
section M6
variable {E : PE} {d o len : Nat} {g : PH} {S : MSt}
theorem lp_ins1 {f n : Nat} (hf : f ≤ len) (hln : len + n ≤ 800) : ∀ (r : Nat), f + r ≤ len →
    Ex E d (34, 7, [some (.ref o), some (.int (nI f)), some (.int (nI n)), some (.int (nI (f + r) - 1))], []) (mh g o (msR S (rmv (S.2 5) n len (f + r)))) (34, 32, [some (.ref o), some (.int (nI f)), some (.int (nI n)), none], []) (mh g o (msR S (rmv (S.2 5) n len f))) := by
  intro r
  induction r with
  | zero =>
    intro _
    have hlt : nI (f + 0) - 1 < nI f := by
      rw [Nat.add_zero]
      exact Int32.lt_iff_toInt_lt.mpr (by rw [show nI f - 1 = nI f - nI 1 from rfl, pk_sub_toInt (by omega) (by decide), nI_toInt (by omega)]; omega)
    refine Ex.tr (F1 := (34, 8, _, _)) (x_iload_n rfl rfl) ?_
    refine Ex.tr (F1 := (34, 9, _, _)) (x_iload_n rfl rfl) ?_
    refine Ex.tr (F1 := (34, 32, _, _)) (x_icT rfl (tg := 32) rfl hlt) ?_
    exact x_wk ⟨Or.inr rfl, Or.inr rfl, Or.inr rfl, Or.inl rfl, trivial⟩
  | succ r ih =>
    intro hr
    have h9 := ih (by omega)
    have e0 : nI (f + (r + 1)) - 1 = nI (f + r) := nI_pred (f + r)
    have hR : rup (rmv (S.2 5) n len (f + r + 1)) (f + r + n) (rmv (S.2 5) n len (f + r + 1) (f + r)) = rmv (S.2 5) n len (f + r) := by
      funext q
      have ek : rmv (S.2 5) n len (f + r + 1) (f + r) = S.2 5 (f + r) := by
        unfold rmv
        rw [if_neg (by omega)]
      rw [ek]
      unfold rup rmv
      by_cases z : q = f + r + n
      · rw [if_pos z, if_pos (by omega), show q - n = f + r by omega]
      · rw [if_neg z]
        by_cases z2 : f + r + 1 + n ≤ q ∧ q < len + n
        · rw [if_pos z2, if_pos (by omega)]
        · rw [if_neg z2, if_neg (by omega)]
    have e5 : nI (f + r) - 1 = nI (f + r) + Int32.ofInt (-1) := by
      rw [Int32.sub_eq_add_neg]
      rfl
    rw [← hR, ← msR_A, e5] at h9
    rw [e0]
    refine Ex.tr (F1 := (34, 8, _, _)) (x_iload_n rfl rfl) ?_
    refine Ex.tr (F1 := (34, 9, _, _)) (x_iload_n rfl rfl) ?_
    refine Ex.tr (F1 := (34, 12, _, _)) (x_icF rfl (tg := 32) rfl (by show ¬ nI (f + r) < nI f; exact nI_nlt (by omega) (by omega))) ?_
    refine Ex.tr (F1 := (34, 13, _, _)) (x_aload_n rfl rfl rfl) ?_
    refine Ex.tr (F1 := (34, 16, _, _)) (m_get rfl rfl (Nat.le_of_ble_eq_true rfl)) ?_
    refine Ex.tr (F1 := (34, 17, _, _)) (x_iload_n rfl rfl) ?_
    refine Ex.tr (F1 := (34, 18, _, _)) (x_iload_n rfl rfl) ?_
    refine Ex.tr (F1 := (34, 19, _, _)) (x_iadd rfl) ?_
    refine Ex.tr (F1 := (34, 20, _, _)) (x_aload_n rfl rfl rfl) ?_
    refine Ex.tr (F1 := (34, 23, _, _)) (m_get rfl rfl (Nat.le_of_ble_eq_true rfl)) ?_
    refine Ex.tr (F1 := (34, 24, _, _)) (x_iload_n rfl rfl) ?_
    refine Ex.tr (F1 := (34, 25, _, _)) (m_iald (k := 5) (n := f + r) rfl rfl rfl rfl (show f + r < 800 by omega)) ?_
    refine Ex.tr (F1 := (34, 26, _, _)) (m_iast (k := 5) (n := f + r + n) rfl rfl rfl (Nat.le_of_ble_eq_true rfl) (nI_add (f + r) n) (show f + r + n < 800 by omega)) ?_
    refine Ex.tr (F1 := (34, 29, [_, _, _, _], _)) (x_iinc (i := 3) rfl rfl) ?_
    refine Ex.tr (F1 := (34, 7, _, _)) (x_goto rfl rfl) ?_
    exact h9
theorem lp_ins2 {f n : Nat} {R : Nat → Int32} (hfn : f + n ≤ 800) : ∀ (r k : Nat), k + r = n →
    Ex E d (34, 34, [some (.ref o), some (.int (nI f)), some (.int (nI n)), some (.int (nI k))], []) (mh g o (msR S (rpc R (S.2 6) f k))) (34, 59, [some (.ref o), some (.int (nI f)), some (.int (nI n)), none], []) (mh g o (msR S (rpc R (S.2 6) f n))) := by
  intro r
  induction r with
  | zero =>
    intro k hk
    rcases (show k = n by omega) with rfl
    refine Ex.tr (F1 := (34, 35, _, _)) (x_iload_n rfl rfl) ?_
    refine Ex.tr (F1 := (34, 36, _, _)) (x_iload_n rfl rfl) ?_
    refine Ex.tr (F1 := (34, 59, _, _)) (x_icT rfl (tg := 59) rfl (by show nI k ≤ nI k; exact nI_le (Nat.le_refl _) (by omega))) ?_
    exact x_wk ⟨Or.inr rfl, Or.inr rfl, Or.inr rfl, Or.inl rfl, trivial⟩
  | succ r ih =>
    intro k hk
    have h9 := ih (k + 1) (by omega)
    have hR : rup (rpc R (S.2 6) f k) (f + k) (S.2 6 k) = rpc R (S.2 6) f (k + 1) := by
      funext q
      unfold rup rpc
      by_cases z : q = f + k
      · rw [if_pos z, if_pos (by omega), show q - f = k by omega]
      · rw [if_neg z]
        by_cases z2 : f ≤ q ∧ q < f + k
        · rw [if_pos z2, if_pos (by omega)]
        · rw [if_neg z2, if_neg (by omega)]
    rw [← hR, ← msR_A, ← nI_1 k] at h9
    refine Ex.tr (F1 := (34, 35, _, _)) (x_iload_n rfl rfl) ?_
    refine Ex.tr (F1 := (34, 36, _, _)) (x_iload_n rfl rfl) ?_
    refine Ex.tr (F1 := (34, 39, _, _)) (x_icF rfl (tg := 59) rfl (by show ¬ nI n ≤ nI k; exact nI_ge (by omega) (by omega))) ?_
    refine Ex.tr (F1 := (34, 40, _, _)) (x_aload_n rfl rfl rfl) ?_
    refine Ex.tr (F1 := (34, 43, _, _)) (m_get rfl rfl (Nat.le_of_ble_eq_true rfl)) ?_
    refine Ex.tr (F1 := (34, 44, _, _)) (x_iload_n rfl rfl) ?_
    refine Ex.tr (F1 := (34, 45, _, _)) (x_iload_n rfl rfl) ?_
    refine Ex.tr (F1 := (34, 46, _, _)) (x_iadd rfl) ?_
    refine Ex.tr (F1 := (34, 47, _, _)) (x_aload_n rfl rfl rfl) ?_
    refine Ex.tr (F1 := (34, 50, _, _)) (m_get rfl rfl (Nat.le_of_ble_eq_true rfl)) ?_
    refine Ex.tr (F1 := (34, 51, _, _)) (x_iload_n rfl rfl) ?_
    refine Ex.tr (F1 := (34, 52, _, _)) (m_iald (k := 6) (n := k) rfl rfl rfl rfl (show k < 800 by omega)) ?_
    refine Ex.tr (F1 := (34, 53, _, _)) (m_iast (k := 5) (n := f + k) rfl rfl rfl (Nat.le_of_ble_eq_true rfl) (nI_add f k) (show f + k < 800 by omega)) ?_
    refine Ex.tr (F1 := (34, 56, [_, _, _, _], _)) (x_iinc (i := 3) rfl rfl) ?_
    refine Ex.tr (F1 := (34, 34, _, _)) (x_goto rfl rfl) ?_
    exact h9
theorem c_insert {f n : Nat} (hl : S.1 4 = nI len) (hf : f ≤ len) (h8 : len + n ≤ 800) : Rn E d 34 [.ref o, .int (nI f), .int (nI n)] (mh g o S) none (mh g o (msI (msR S (rins (S.2 5) (S.2 6) f n len)) 4 (nI (len + n)))) := by
  have e1 : rmv (S.2 5) n len (f + (len - f)) = S.2 5 := by
    funext q
    unfold rmv
    rw [show f + (len - f) = len by omega, if_neg (by omega)]
  have e2 : rpc (rmv (S.2 5) n len f) (S.2 6) f 0 = rmv (S.2 5) n len f := by
    funext q
    unfold rpc
    rw [if_neg (by omega)]
  have e3 : rpc (rmv (S.2 5) n len f) (S.2 6) f n = rins (S.2 5) (S.2 6) f n len := by
    funext q
    unfold rpc rmv rins
    rfl
  have a1 := lp_ins1 (E := E) (d := d) (o := o) (g := g) (S := S) (f := f) (n := n) (len := len) hf h8 (len - f) (by omega)
  rw [e1, msR_self, show f + (len - f) = len by omega] at a1
  have a2 := lp_ins2 (E := E) (d := d) (o := o) (g := g) (S := S) (f := f) (n := n) (R := rmv (S.2 5) n len f) (by omega) n 0 (by omega)
  rw [e2, e3] at a2
  refine Rn.of (Nat.le_of_ble_eq_true rfl) ?_
  refine Rk.tr (F1 := (34, 1, _, _)) (x_aload_n rfl rfl rfl) ?_
  refine Rk.tr (F1 := (34, 4, _, _)) (m_get rfl rfl (Nat.le_of_ble_eq_true rfl)) ?_
  refine Rk.tr (F1 := (34, 5, _, _)) (x_iconst rfl) ?_
  refine Rk.tr (F1 := (34, 6, _, _)) (x_isub rfl) ?_
  refine Rk.tr (F1 := (34, 6, _, _)) (x_top (y := nI len - 1) (by show S.1 4 - 1 = _; rw [hl])) ?_
  refine Rk.tr (F1 := (34, 7, [_, _, _, _], _)) (x_istore_n (i := 3) rfl (Nat.le_of_ble_eq_true rfl)) ?_
  refine Rk.tr a1 ?_
  refine Rk.tr (F1 := (34, 33, _, _)) (x_iconst rfl) ?_
  refine Rk.tr (F1 := (34, 34, [_, _, _, _], _)) (x_istore_n (i := 3) rfl (Nat.le_of_ble_eq_true rfl)) ?_
  refine Rk.tr a2 ?_
  refine Rk.tr (F1 := (34, 60, _, _)) (x_aload_n rfl rfl rfl) ?_
  refine Rk.tr (F1 := (34, 61, _, _)) (x_dup rfl rfl) ?_
  refine Rk.tr (F1 := (34, 64, _, _)) (m_get rfl rfl (Nat.le_of_ble_eq_true rfl)) ?_
  refine Rk.tr (F1 := (34, 65, _, _)) (x_iload_n rfl rfl) ?_
  refine Rk.tr (F1 := (34, 66, _, _)) (x_iadd rfl) ?_
  refine Rk.tr (F1 := (34, 66, _, _)) (x_top (y := nI (len + n)) (by show S.1 4 + nI n = _; rw [hl, nI_add])) ?_
  refine Rk.tr (F1 := (34, 69, _, _)) (m_put rfl rfl rfl rfl rfl rfl) ?_
  exact Rk.end rfl (Or.inl ⟨rfl, rfl, rfl, rfl⟩)
/-- where the last item stands that binds the name to a FUN; its place in tokens -/
def fnd (nm : Int32) : List It → Nat → Int32 → Int32
  | [], _, x => x
  | it :: Q, p, x => fnd nm Q (p + isz it) (if it.1 = 2 ∧ it.2.1 = nm then nI p else x)
theorem Tok1_k2 {R : Nat → Int32} {p : Nat} {it : It} (h : Tok1 R p it) (h9 : it.1 ≠ 9) : R (p + 2) = 2 ↔ it.1 = 2 := by
  obtain ⟨k, nm, dt, ⟨a1, a2⟩, b1, b2⟩ := it
  rcases kd5 k with rfl | rfl | rfl | rfl | ⟨n2, n3, n5, n9⟩
  · exact iff_of_true h.2.2.1 rfl
  · rw [h.2.2.1]; exact iff_of_false (by decide) (show ¬ (3 : Nat) = 2 by decide)
  · rw [h.2.2.1]; exact iff_of_false (by decide) (show ¬ (5 : Nat) = 2 by decide)
  · exact absurd rfl h9
  · have ht : R p = 8 ∧ R (p + 1) = nm ∧ R (p + 2) = 6 ∧ R (p + 3) = a1 ∧ R (p + 4) = a2 := by
      unfold Tok1 at h
      split at h <;> first | (rename_i z; exact absurd z (by assumption)) | exact h
    rw [ht.2.2.1]
    exact iff_of_false (by decide) n2
theorem lp_function {nm : Int32} (hl : S.1 4 = nI len) (h8 : len ≤ 800) : ∀ (Q : List It) (p : Nat) (x : Int32), TokAt (S.2 5) p Q → p + tsum Q = len → Rk E (d + 1) (36, 4, [some (.ref o), some (.int nm), some (.int (x)), some (.int (nI (p)))], []) (mh g o S) (some (.int (fnd nm Q p x))) (mh g o S) := by
  intro Q
  induction Q with
  | nil =>
    intro p x _ hp
    simp only [tsum] at hp
    refine Rk.tr (F1 := (36, 5, _, _)) (x_iload_n rfl rfl) ?_
    refine Rk.tr (F1 := (36, 6, _, _)) (x_aload_n rfl rfl rfl) ?_
    refine Rk.tr (F1 := (36, 9, _, _)) (m_get rfl rfl (Nat.le_of_ble_eq_true rfl)) ?_
    refine Rk.tr (F1 := (36, 60, _, _)) (x_icT rfl (tg := 60) rfl (by show S.1 4 ≤ nI p; rw [hl]; exact nI_le (by omega) (by omega))) ?_
    refine Rk.tr (F1 := (36, 61, _, _)) (x_iload_n rfl rfl) ?_
    exact Rk.end rfl (Or.inr (Or.inl ⟨rfl, _, .int, rfl, rfl, rfl, rfl⟩))
  | cons it Q ih =>
    intro p x hT hp
    obtain ⟨h1, h2⟩ := hT
    simp only [tsum] at hp
    have h3 := isz_ge it
    have hs := Tok1_sz h1
    have h9 := ih (p + isz it) (if it.1 = 2 ∧ it.2.1 = nm then nI p else x) h2 (by omega)
    refine Rk.tr (F1 := (36, 5, _, _)) (x_iload_n rfl rfl) ?_
    refine Rk.tr (F1 := (36, 6, _, _)) (x_aload_n rfl rfl rfl) ?_
    refine Rk.tr (F1 := (36, 9, _, _)) (m_get rfl rfl (Nat.le_of_ble_eq_true rfl)) ?_
    refine Rk.tr (F1 := (36, 12, _, _)) (x_icF rfl (tg := 60) rfl (by show ¬ S.1 4 ≤ nI p; rw [hl]; exact nI_ge (by omega) (by omega))) ?_
    have key : Ex E (d + 1) (36, 12, [some (.ref o), some (.int nm), some (.int (x)), some (.int (nI (p)))], []) (mh g o S) (36, 49, [some (.ref o), some (.int nm), some (.int (if it.1 = 2 ∧ it.2.1 = nm then nI p else x)), some (.int (nI (p)))], []) (mh g o S) := by
      by_cases c9 : it.1 = 9
      · rw [if_neg (fun z => by have := c9.symm.trans z.1; omega)]
        refine Ex.tr (F1 := (36, 13, _, _)) (x_aload_n rfl rfl rfl) ?_
        refine Ex.tr (F1 := (36, 16, _, _)) (m_get rfl rfl (Nat.le_of_ble_eq_true rfl)) ?_
        refine Ex.tr (F1 := (36, 17, _, _)) (x_iload_n rfl rfl) ?_
        refine Ex.tr (F1 := (36, 18, _, _)) (m_iald (k := 5) (n := p) rfl rfl rfl rfl (show p < 800 by omega)) ?_
        refine Ex.tr (F1 := (36, 20, _, _)) (x_bipush rfl) ?_
        refine Ex.tr (F1 := (36, 49, _, _)) (x_icT rfl (tg := 49) rfl (fun z => (hs.2.2.2.2.1.mp z) c9)) ?_
        exact Ex.rf
      · have n8 := hs.2.2.2.2.1.mpr c9
        have nn := hs.2.2.2.2.2 c9
        have n2 := Tok1_k2 h1 c9
        by_cases cn : it.2.1 = nm
        · by_cases c2 : it.1 = 2
          · rw [if_pos ⟨c2, cn⟩]
            refine Ex.tr (F1 := (36, 13, _, _)) (x_aload_n rfl rfl rfl) ?_
            refine Ex.tr (F1 := (36, 16, _, _)) (m_get rfl rfl (Nat.le_of_ble_eq_true rfl)) ?_
            refine Ex.tr (F1 := (36, 17, _, _)) (x_iload_n rfl rfl) ?_
            refine Ex.tr (F1 := (36, 18, _, _)) (m_iald (k := 5) (n := p) rfl rfl rfl rfl (show p < 800 by omega)) ?_
            refine Ex.tr (F1 := (36, 20, _, _)) (x_bipush rfl) ?_
            refine Ex.tr (F1 := (36, 23, _, _)) (x_icF rfl (tg := 49) rfl (fun z => z n8)) ?_
            refine Ex.tr (F1 := (36, 24, _, _)) (x_aload_n rfl rfl rfl) ?_
            refine Ex.tr (F1 := (36, 27, _, _)) (m_get rfl rfl (Nat.le_of_ble_eq_true rfl)) ?_
            refine Ex.tr (F1 := (36, 28, _, _)) (x_iload_n rfl rfl) ?_
            refine Ex.tr (F1 := (36, 29, _, _)) (x_iconst rfl) ?_
            refine Ex.tr (F1 := (36, 30, _, _)) (x_iadd rfl) ?_
            refine Ex.tr (F1 := (36, 31, _, _)) (m_iald (k := 5) (n := p + 1) rfl rfl rfl (nI_1 p) (show p + 1 < 800 by omega)) ?_
            refine Ex.tr (F1 := (36, 32, _, _)) (x_iload_n rfl rfl) ?_
            refine Ex.tr (F1 := (36, 35, _, _)) (x_icF rfl (tg := 49) rfl (fun z => z (nn.trans cn))) ?_
            refine Ex.tr (F1 := (36, 36, _, _)) (x_aload_n rfl rfl rfl) ?_
            refine Ex.tr (F1 := (36, 39, _, _)) (m_get rfl rfl (Nat.le_of_ble_eq_true rfl)) ?_
            refine Ex.tr (F1 := (36, 40, _, _)) (x_iload_n rfl rfl) ?_
            refine Ex.tr (F1 := (36, 41, _, _)) (x_iconst rfl) ?_
            refine Ex.tr (F1 := (36, 42, _, _)) (x_iadd rfl) ?_
            refine Ex.tr (F1 := (36, 43, _, _)) (m_iald (k := 5) (n := p + 2) rfl rfl rfl (nI_add p 2) (show p + 2 < 800 by omega)) ?_
            refine Ex.tr (F1 := (36, 44, _, _)) (x_iconst rfl) ?_
            refine Ex.tr (F1 := (36, 47, _, _)) (x_icF rfl (tg := 49) rfl (fun z => z (n2.mpr c2))) ?_
            refine Ex.tr (F1 := (36, 48, _, _)) (x_iload_n rfl rfl) ?_
            refine Ex.tr (F1 := (36, 49, [_, _, _, _], _)) (x_istore_n (i := 2) rfl (Nat.le_of_ble_eq_true rfl)) ?_
            exact Ex.rf
          · rw [if_neg (fun z => c2 z.1)]
            refine Ex.tr (F1 := (36, 13, _, _)) (x_aload_n rfl rfl rfl) ?_
            refine Ex.tr (F1 := (36, 16, _, _)) (m_get rfl rfl (Nat.le_of_ble_eq_true rfl)) ?_
            refine Ex.tr (F1 := (36, 17, _, _)) (x_iload_n rfl rfl) ?_
            refine Ex.tr (F1 := (36, 18, _, _)) (m_iald (k := 5) (n := p) rfl rfl rfl rfl (show p < 800 by omega)) ?_
            refine Ex.tr (F1 := (36, 20, _, _)) (x_bipush rfl) ?_
            refine Ex.tr (F1 := (36, 23, _, _)) (x_icF rfl (tg := 49) rfl (fun z => z n8)) ?_
            refine Ex.tr (F1 := (36, 24, _, _)) (x_aload_n rfl rfl rfl) ?_
            refine Ex.tr (F1 := (36, 27, _, _)) (m_get rfl rfl (Nat.le_of_ble_eq_true rfl)) ?_
            refine Ex.tr (F1 := (36, 28, _, _)) (x_iload_n rfl rfl) ?_
            refine Ex.tr (F1 := (36, 29, _, _)) (x_iconst rfl) ?_
            refine Ex.tr (F1 := (36, 30, _, _)) (x_iadd rfl) ?_
            refine Ex.tr (F1 := (36, 31, _, _)) (m_iald (k := 5) (n := p + 1) rfl rfl rfl (nI_1 p) (show p + 1 < 800 by omega)) ?_
            refine Ex.tr (F1 := (36, 32, _, _)) (x_iload_n rfl rfl) ?_
            refine Ex.tr (F1 := (36, 35, _, _)) (x_icF rfl (tg := 49) rfl (fun z => z (nn.trans cn))) ?_
            refine Ex.tr (F1 := (36, 36, _, _)) (x_aload_n rfl rfl rfl) ?_
            refine Ex.tr (F1 := (36, 39, _, _)) (m_get rfl rfl (Nat.le_of_ble_eq_true rfl)) ?_
            refine Ex.tr (F1 := (36, 40, _, _)) (x_iload_n rfl rfl) ?_
            refine Ex.tr (F1 := (36, 41, _, _)) (x_iconst rfl) ?_
            refine Ex.tr (F1 := (36, 42, _, _)) (x_iadd rfl) ?_
            refine Ex.tr (F1 := (36, 43, _, _)) (m_iald (k := 5) (n := p + 2) rfl rfl rfl (nI_add p 2) (show p + 2 < 800 by omega)) ?_
            refine Ex.tr (F1 := (36, 44, _, _)) (x_iconst rfl) ?_
            refine Ex.tr (F1 := (36, 49, _, _)) (x_icT rfl (tg := 49) rfl (fun z => c2 (n2.mp z))) ?_
            exact Ex.rf
        · rw [if_neg (fun z => cn z.2)]
          refine Ex.tr (F1 := (36, 13, _, _)) (x_aload_n rfl rfl rfl) ?_
          refine Ex.tr (F1 := (36, 16, _, _)) (m_get rfl rfl (Nat.le_of_ble_eq_true rfl)) ?_
          refine Ex.tr (F1 := (36, 17, _, _)) (x_iload_n rfl rfl) ?_
          refine Ex.tr (F1 := (36, 18, _, _)) (m_iald (k := 5) (n := p) rfl rfl rfl rfl (show p < 800 by omega)) ?_
          refine Ex.tr (F1 := (36, 20, _, _)) (x_bipush rfl) ?_
          refine Ex.tr (F1 := (36, 23, _, _)) (x_icF rfl (tg := 49) rfl (fun z => z n8)) ?_
          refine Ex.tr (F1 := (36, 24, _, _)) (x_aload_n rfl rfl rfl) ?_
          refine Ex.tr (F1 := (36, 27, _, _)) (m_get rfl rfl (Nat.le_of_ble_eq_true rfl)) ?_
          refine Ex.tr (F1 := (36, 28, _, _)) (x_iload_n rfl rfl) ?_
          refine Ex.tr (F1 := (36, 29, _, _)) (x_iconst rfl) ?_
          refine Ex.tr (F1 := (36, 30, _, _)) (x_iadd rfl) ?_
          refine Ex.tr (F1 := (36, 31, _, _)) (m_iald (k := 5) (n := p + 1) rfl rfl rfl (nI_1 p) (show p + 1 < 800 by omega)) ?_
          refine Ex.tr (F1 := (36, 32, _, _)) (x_iload_n rfl rfl) ?_
          refine Ex.tr (F1 := (36, 49, _, _)) (x_icT rfl (tg := 49) rfl (fun z => cn (nn.symm.trans z))) ?_
          exact Ex.rf
    refine Rk.tr key ?_
    refine Rk.tr (F1 := (36, 50, _, _)) (x_iload_n rfl rfl) ?_
    refine Rk.tr (F1 := (36, 51, _, _)) (x_aload_n rfl rfl rfl) ?_
    refine Rk.tr (F1 := (36, 52, _, _)) (x_iload_n rfl rfl) ?_
    refine Rk.tr (F1 := (36, 55, _, _)) (m_call (As := [_]) rfl rfl rfl (Or.inr rfl) rfl rfl rfl (Nat.le_of_ble_eq_true rfl) (c_size (by omega)) rfl) ?_
    refine Rk.tr (F1 := (36, 56, _, _)) (x_iadd rfl) ?_
    refine Rk.tr (F1 := (36, 56, _, _)) (x_top (y := nI (p + isz it)) (by rw [hs.1]; exact nI_add p _)) ?_
    refine Rk.tr (F1 := (36, 57, [_, _, _, _], _)) (x_istore_n (i := 3) rfl (Nat.le_of_ble_eq_true rfl)) ?_
    refine Rk.tr (F1 := (36, 4, _, _)) (x_goto rfl rfl) ?_
    exact h9
theorem c_function {nm : Int32} {P : List It} (hl : S.1 4 = nI len) (h8 : len ≤ 800) (hT : TokAt (S.2 5) 0 P) (hp : tsum P = len) : Rn E (d + 1) 36 [.ref o, .int nm] (mh g o S) (some (.int (fnd nm P 0 (-1)))) (mh g o S) := by
  refine Rn.of (Nat.le_of_ble_eq_true rfl) ?_
  refine Rk.tr (F1 := (36, 1, _, _)) (x_iconst rfl) ?_
  refine Rk.tr (F1 := (36, 2, [_, _, _, _], _)) (x_istore_n (i := 2) rfl (Nat.le_of_ble_eq_true rfl)) ?_
  refine Rk.tr (F1 := (36, 3, _, _)) (x_iconst rfl) ?_
  refine Rk.tr (F1 := (36, 4, [_, _, _, _], _)) (x_istore_n (i := 3) rfl (Nat.le_of_ble_eq_true rfl)) ?_
  exact lp_function hl h8 P 0 (-1) hT (by omega)
end M6
end
section
/-! ===== fold, drop ===== -/
/-- the reference while it simplifies: its array, the piece, the counts, the length; all else as in S -/
def mst (S : MSt) (R W c : Nat → Int32) (n : Int32) : MSt := (fun k => if k = 4 then n else S.1 k, fun k => if k = 5 then R else if k = 6 then W else if k = 7 then c else S.2 k)
theorem mst_self (S : MSt) : mst S (S.2 5) (S.2 6) (S.2 7) (S.1 4) = S := by
  refine Prod.ext (funext fun k => ?_) (funext fun k => ?_)
  · show (if k = 4 then S.1 4 else S.1 k) = S.1 k
    split
    next h => rw [h]
    next => rfl
  · show (if k = 5 then S.2 5 else if k = 6 then S.2 6 else if k = 7 then S.2 7 else S.2 k) = S.2 k
    split
    next h => rw [h]
    next =>
      split
      next h => rw [h]
      next =>
        split
        next h => rw [h]
        next => rfl
theorem mst_R (S : MSt) (R W c R' : Nat → Int32) (n : Int32) : msR (mst S R W c n) R' = mst S R' W c n := by
  refine Prod.ext rfl (funext fun k => funext fun q => ?_)
  show (if k = 5 then R' q else (if k = 5 then R else if k = 6 then W else if k = 7 then c else S.2 k) q) = (if k = 5 then R' else if k = 6 then W else if k = 7 then c else S.2 k) q
  split
  · rfl
  · rfl
theorem mst_4 (S : MSt) (R W c : Nat → Int32) (n x : Int32) : msI (mst S R W c n) 4 x = mst S R W c x := by
  refine Prod.ext (funext fun k => ?_) rfl
  show (if k = 4 then x else if k = 4 then n else S.1 k) = (if k = 4 then x else S.1 k)
  split <;> rfl
theorem mst_A7 (S : MSt) (R W c : Nat → Int32) (n x : Int32) (i : Nat) : msA (mst S R W c n) 7 i x = mst S R W (rup c i x) n := by
  refine Prod.ext rfl (funext fun k => funext fun q => ?_)
  show (if k = 7 ∧ q = i then x else (if k = 5 then R else if k = 6 then W else if k = 7 then c else S.2 k) q) = (if k = 5 then R else if k = 6 then W else if k = 7 then rup c i x else S.2 k) q
  by_cases h : k = 7
  · subst h
    by_cases hq : q = i
    · rw [if_pos ⟨rfl, hq⟩]
      simp [rup, hq]
    · rw [if_neg (fun z => hq z.2)]
      simp [rup, hq]
  · rw [if_neg (fun z => h z.1)]
    simp [h]
theorem mst_A6 (S : MSt) (R W c : Nat → Int32) (n x : Int32) (i : Nat) : msA (mst S R W c n) 6 i x = mst S R (rup W i x) c n := by
  refine Prod.ext rfl (funext fun k => funext fun q => ?_)
  show (if k = 6 ∧ q = i then x else (if k = 5 then R else if k = 6 then W else if k = 7 then c else S.2 k) q) = (if k = 5 then R else if k = 6 then rup W i x else if k = 7 then c else S.2 k) q
  by_cases h : k = 6
  · subst h
    by_cases hq : q = i
    · rw [if_pos ⟨rfl, hq⟩]
      simp [rup, hq]
    · rw [if_neg (fun z => hq z.2)]
      simp [rup, hq]
  · rw [if_neg (fun z => h z.1)]
    simp [h]
/-- the array holds the program P -/
def PM (R : Nat → Int32) (n : Int32) (P : List It) : Prop := TokAt R 0 P ∧ n = nI (tsum P) ∧ tsum P ≤ 400
theorem TokAt_cut {R : Nat → Int32} {A X B : List It} (hT : TokAt R 0 (A ++ (X ++ B))) : TokAt (rcut R (tsum A) (tsum A + tsum X) (tsum (A ++ (X ++ B)))) 0 (A ++ B) := by
  rw [TokAt_app, TokAt_app] at hT
  obtain ⟨t1, t2, t3⟩ := hT
  rw [TokAt_app]
  refine ⟨TokAt_shift t1 (fun j hj => ?_), TokAt_shift t3 (fun j hj => ?_)⟩
  · unfold rcut
    rw [if_neg (by omega)]
  · unfold rcut
    rw [tsum_app, tsum_app, if_pos (by omega)]
    congr 1
    omega
theorem TokAt_ins {R W : Nat → Int32} {A X B : List It} (hT : TokAt R 0 (A ++ B)) (hW : TokAt W 0 X) : TokAt (rins R W (tsum A) (tsum X) (tsum (A ++ B))) 0 (A ++ (X ++ B)) := by
  rw [TokAt_app] at hT
  obtain ⟨t1, t2⟩ := hT
  rw [TokAt_app, TokAt_app]
  refine ⟨TokAt_shift t1 (fun j hj => ?_), TokAt_shift hW (fun j hj => ?_), TokAt_shift t2 (fun j hj => ?_)⟩
  · unfold rins
    rw [if_neg (by omega), if_neg (by omega)]
  · unfold rins
    rw [if_pos (by omega)]
    congr 1
    omega
  · unfold rins
    rw [tsum_app, if_neg (by omega), if_pos (by omega)]
    congr 1
    omega
/-- what an operation answers -/
def opv (o a b : Int32) : Int32 := if o = 0 then a + b else if o = 1 then a - b else if o = 2 then a * b else if o = 3 then a / b else if a < b then 1 else 0
theorem op_out {x : Int32} (h0 : ¬ x = 0) (h1 : ¬ x = 1) (h2 : ¬ x = 2) (h3 : ¬ x = 3) : x.toInt < 0 ∨ 3 < x.toInt := by
  by_cases z : x.toInt < 0
  · exact Or.inl z
  · by_cases z2 : 3 < x.toInt
    · exact Or.inr z2
    · have key : ∀ k : Int32, x.toInt = k.toInt → x = k := fun k h => Int32.toInt_inj.mp h
      exfalso
      have e : x.toInt = 0 ∨ x.toInt = 1 ∨ x.toInt = 2 ∨ x.toInt = 3 := by omega
      rcases e with e | e | e | e
      · exact h0 (key 0 e)
      · exact h1 (key 1 e)
      · exact h2 (key 2 e)
      · exact h3 (key 3 e)
section M7
variable {E : PE} {d o : Nat} {g : PH} {S : MSt} {R W c : Nat → Int32} {n : Int32}
theorem c_sum {h : PH} {x a b : Int32} (hb : x = 3 → ¬ b = 0) : Rn E d 27 [.int x, .int a, .int b] h (some (.int (opv x a b))) h := by
  refine Rn.of (Nat.le_of_ble_eq_true rfl) ?_
  unfold opv
  refine Rk.tr (F1 := (27, 1, _, _)) (x_iload_n rfl rfl) ?_
  by_cases k0 : x = 0
  · rw [if_pos k0]
    subst k0
    refine Rk.tr (F1 := (27, 32, _, _)) (x_tswIn rfl (by decide) (by decide) rfl rfl) ?_
    refine Rk.tr (F1 := (27, 33, _, _)) (x_iload_n rfl rfl) ?_
    refine Rk.tr (F1 := (27, 34, _, _)) (x_iload_n rfl rfl) ?_
    refine Rk.tr (F1 := (27, 35, _, _)) (x_iadd rfl) ?_
    exact Rk.end rfl (Or.inr (Or.inl ⟨rfl, _, .int, rfl, rfl, rfl, rfl⟩))
  rw [if_neg k0]
  by_cases k1 : x = 1
  · rw [if_pos k1]
    subst k1
    refine Rk.tr (F1 := (27, 36, _, _)) (x_tswIn rfl (by decide) (by decide) rfl rfl) ?_
    refine Rk.tr (F1 := (27, 37, _, _)) (x_iload_n rfl rfl) ?_
    refine Rk.tr (F1 := (27, 38, _, _)) (x_iload_n rfl rfl) ?_
    refine Rk.tr (F1 := (27, 39, _, _)) (x_isub rfl) ?_
    exact Rk.end rfl (Or.inr (Or.inl ⟨rfl, _, .int, rfl, rfl, rfl, rfl⟩))
  rw [if_neg k1]
  by_cases k2 : x = 2
  · rw [if_pos k2]
    subst k2
    refine Rk.tr (F1 := (27, 40, _, _)) (x_tswIn rfl (by decide) (by decide) rfl rfl) ?_
    refine Rk.tr (F1 := (27, 41, _, _)) (x_iload_n rfl rfl) ?_
    refine Rk.tr (F1 := (27, 42, _, _)) (x_iload_n rfl rfl) ?_
    refine Rk.tr (F1 := (27, 43, _, _)) (x_imul rfl) ?_
    exact Rk.end rfl (Or.inr (Or.inl ⟨rfl, _, .int, rfl, rfl, rfl, rfl⟩))
  rw [if_neg k2]
  by_cases k3 : x = 3
  · rw [if_pos k3]
    subst k3
    refine Rk.tr (F1 := (27, 44, _, _)) (x_tswIn rfl (by decide) (by decide) rfl rfl) ?_
    refine Rk.tr (F1 := (27, 45, _, _)) (x_iload_n rfl rfl) ?_
    refine Rk.tr (F1 := (27, 46, _, _)) (x_iload_n rfl rfl) ?_
    refine Rk.tr (F1 := (27, 47, _, _)) (x_idiv rfl (hb rfl)) ?_
    exact Rk.end rfl (Or.inr (Or.inl ⟨rfl, _, .int, rfl, rfl, rfl, rfl⟩))
  rw [if_neg k3]
  refine Rk.tr (F1 := (27, 48, _, _)) (x_tswOut rfl (op_out k0 k1 k2 k3) rfl) ?_
  by_cases hc : a < b
  · rw [if_pos hc]
    refine Rk.tr (F1 := (27, 49, _, _)) (x_iload_n rfl rfl) ?_
    refine Rk.tr (F1 := (27, 50, _, _)) (x_iload_n rfl rfl) ?_
    refine Rk.tr (F1 := (27, 53, _, _)) (x_icF rfl (tg := 57) rfl (fun z => absurd hc (Int32.not_lt.mpr z))) ?_
    refine Rk.tr (F1 := (27, 54, _, _)) (x_iconst rfl) ?_
    refine Rk.tr (F1 := (27, 58, _, _)) (x_goto rfl rfl) ?_
    exact Rk.end rfl (Or.inr (Or.inl ⟨rfl, _, .int, rfl, rfl, rfl, rfl⟩))
  · rw [if_neg hc]
    refine Rk.tr (F1 := (27, 49, _, _)) (x_iload_n rfl rfl) ?_
    refine Rk.tr (F1 := (27, 50, _, _)) (x_iload_n rfl rfl) ?_
    refine Rk.tr (F1 := (27, 57, _, _)) (x_icT rfl (tg := 57) rfl (Int32.not_lt.mp hc)) ?_
    refine Rk.tr (F1 := (27, 58, _, _)) (x_iconst rfl) ?_
    exact Rk.end rfl (Or.inr (Or.inl ⟨rfl, _, .int, rfl, rfl, rfl, rfl⟩))
theorem PM.it {P A B : List It} {it : It} (hM : PM R n (A ++ it :: B)) : Tok1 R (tsum A) it ∧ tsum A + isz it + tsum B ≤ 400 ∧ n = nI (tsum A + isz it + tsum B) := by
  obtain ⟨h1, h2, h3⟩ := hM
  rw [TokAt_app] at h1
  rw [tsum_app] at h2 h3
  simp only [tsum] at h2 h3
  refine ⟨by have := h1.2.1; rw [Nat.zero_add] at this; exact this, by omega, by rw [h2]; congr 1; omega⟩
theorem c_fold_no {A B : List It} {it : It} (h5 : it.1 = 5) (hM : PM R n (A ++ it :: B)) (hc : ¬ (it.2.2.2.1.1 = 0 ∧ it.2.2.2.2.1 = 0 ∧ ¬ (it.2.2.1 = 3 ∧ it.2.2.2.2.2 = 0))) :
    Rn E d 26 [.ref o, .int (nI (tsum A))] (mh g o (mst S R W c n)) (some (.int (-1))) (mh g o (mst S R W c n)) := by
  obtain ⟨t1, h8, -⟩ := PM.it (P := []) hM
  obtain ⟨k, nm, dt, ⟨a1, a2⟩, b1, b2⟩ := it
  have h5 : k = 5 := h5
  subst h5
  have h8 : tsum A + 8 + tsum B ≤ 400 := h8
  generalize tsum A = p at t1 h8 ⊢
  obtain ⟨h0, rfl, h2, rfl, rfl, rfl, rfl, rfl⟩ := t1
  simp only at hc
  refine Rn.of (Nat.le_of_ble_eq_true rfl) ?_
  by_cases c1 : R (p + 4) = 0
  · by_cases c2 : R (p + 6) = 0
    · have c3 : R (p + 3) = 3 := Classical.byContradiction fun z => hc ⟨c1, c2, fun y => z y.1⟩
      have c4 : R (p + 7) = 0 := Classical.byContradiction fun z => hc ⟨c1, c2, fun y => z y.2⟩
      refine Rk.tr (F1 := (26, 1, _, _)) (x_aload_n rfl rfl rfl) ?_
      refine Rk.tr (F1 := (26, 4, _, _)) (m_get rfl rfl (Nat.le_of_ble_eq_true rfl)) ?_
      refine Rk.tr (F1 := (26, 5, _, _)) (x_iload_n rfl rfl) ?_
      refine Rk.tr (F1 := (26, 6, _, _)) (x_iconst rfl) ?_
      refine Rk.tr (F1 := (26, 7, _, _)) (x_iadd rfl) ?_
      refine Rk.tr (F1 := (26, 8, _, _)) (m_iald (k := 5) (n := p + 3) rfl rfl rfl (nI_add p 3) (show p + 3 < 800 by omega)) ?_
      refine Rk.tr (F1 := (26, 9, [_, _, _, _, _], _)) (x_istore_n (i := 2) rfl (Nat.le_of_ble_eq_true rfl)) ?_
      refine Rk.tr (F1 := (26, 10, _, _)) (x_aload_n rfl rfl rfl) ?_
      refine Rk.tr (F1 := (26, 13, _, _)) (m_get rfl rfl (Nat.le_of_ble_eq_true rfl)) ?_
      refine Rk.tr (F1 := (26, 14, _, _)) (x_iload_n rfl rfl) ?_
      refine Rk.tr (F1 := (26, 15, _, _)) (x_iconst rfl) ?_
      refine Rk.tr (F1 := (26, 16, _, _)) (x_iadd rfl) ?_
      refine Rk.tr (F1 := (26, 17, _, _)) (m_iald (k := 5) (n := p + 4) rfl rfl rfl (nI_add p 4) (show p + 4 < 800 by omega)) ?_
      refine Rk.tr (F1 := (26, 20, _, _)) (x_ifF rfl (tg := 49) rfl (fun z => z c1)) ?_
      refine Rk.tr (F1 := (26, 21, _, _)) (x_aload_n rfl rfl rfl) ?_
      refine Rk.tr (F1 := (26, 24, _, _)) (m_get rfl rfl (Nat.le_of_ble_eq_true rfl)) ?_
      refine Rk.tr (F1 := (26, 25, _, _)) (x_iload_n rfl rfl) ?_
      refine Rk.tr (F1 := (26, 27, _, _)) (x_bipush rfl) ?_
      refine Rk.tr (F1 := (26, 28, _, _)) (x_iadd rfl) ?_
      refine Rk.tr (F1 := (26, 29, _, _)) (m_iald (k := 5) (n := p + 6) rfl rfl rfl (nI_add p 6) (show p + 6 < 800 by omega)) ?_
      refine Rk.tr (F1 := (26, 32, _, _)) (x_ifF rfl (tg := 49) rfl (fun z => z c2)) ?_
      refine Rk.tr (F1 := (26, 33, _, _)) (x_iload_n rfl rfl) ?_
      refine Rk.tr (F1 := (26, 34, _, _)) (x_iconst rfl) ?_
      refine Rk.tr (F1 := (26, 37, _, _)) (x_icF rfl (tg := 51) rfl (fun z => z c3)) ?_
      refine Rk.tr (F1 := (26, 38, _, _)) (x_aload_n rfl rfl rfl) ?_
      refine Rk.tr (F1 := (26, 41, _, _)) (m_get rfl rfl (Nat.le_of_ble_eq_true rfl)) ?_
      refine Rk.tr (F1 := (26, 42, _, _)) (x_iload_n rfl rfl) ?_
      refine Rk.tr (F1 := (26, 44, _, _)) (x_bipush rfl) ?_
      refine Rk.tr (F1 := (26, 45, _, _)) (x_iadd rfl) ?_
      refine Rk.tr (F1 := (26, 46, _, _)) (m_iald (k := 5) (n := p + 7) rfl rfl rfl (nI_add p 7) (show p + 7 < 800 by omega)) ?_
      refine Rk.tr (F1 := (26, 49, _, _)) (x_ifF rfl (tg := 51) rfl (fun z => z c4)) ?_
      refine Rk.tr (F1 := (26, 50, _, _)) (x_iconst rfl) ?_
      exact Rk.end rfl (Or.inr (Or.inl ⟨rfl, _, .int, rfl, rfl, rfl, rfl⟩))
    · skip
      refine Rk.tr (F1 := (26, 1, _, _)) (x_aload_n rfl rfl rfl) ?_
      refine Rk.tr (F1 := (26, 4, _, _)) (m_get rfl rfl (Nat.le_of_ble_eq_true rfl)) ?_
      refine Rk.tr (F1 := (26, 5, _, _)) (x_iload_n rfl rfl) ?_
      refine Rk.tr (F1 := (26, 6, _, _)) (x_iconst rfl) ?_
      refine Rk.tr (F1 := (26, 7, _, _)) (x_iadd rfl) ?_
      refine Rk.tr (F1 := (26, 8, _, _)) (m_iald (k := 5) (n := p + 3) rfl rfl rfl (nI_add p 3) (show p + 3 < 800 by omega)) ?_
      refine Rk.tr (F1 := (26, 9, [_, _, _, _, _], _)) (x_istore_n (i := 2) rfl (Nat.le_of_ble_eq_true rfl)) ?_
      refine Rk.tr (F1 := (26, 10, _, _)) (x_aload_n rfl rfl rfl) ?_
      refine Rk.tr (F1 := (26, 13, _, _)) (m_get rfl rfl (Nat.le_of_ble_eq_true rfl)) ?_
      refine Rk.tr (F1 := (26, 14, _, _)) (x_iload_n rfl rfl) ?_
      refine Rk.tr (F1 := (26, 15, _, _)) (x_iconst rfl) ?_
      refine Rk.tr (F1 := (26, 16, _, _)) (x_iadd rfl) ?_
      refine Rk.tr (F1 := (26, 17, _, _)) (m_iald (k := 5) (n := p + 4) rfl rfl rfl (nI_add p 4) (show p + 4 < 800 by omega)) ?_
      refine Rk.tr (F1 := (26, 20, _, _)) (x_ifF rfl (tg := 49) rfl (fun z => z c1)) ?_
      refine Rk.tr (F1 := (26, 21, _, _)) (x_aload_n rfl rfl rfl) ?_
      refine Rk.tr (F1 := (26, 24, _, _)) (m_get rfl rfl (Nat.le_of_ble_eq_true rfl)) ?_
      refine Rk.tr (F1 := (26, 25, _, _)) (x_iload_n rfl rfl) ?_
      refine Rk.tr (F1 := (26, 27, _, _)) (x_bipush rfl) ?_
      refine Rk.tr (F1 := (26, 28, _, _)) (x_iadd rfl) ?_
      refine Rk.tr (F1 := (26, 29, _, _)) (m_iald (k := 5) (n := p + 6) rfl rfl rfl (nI_add p 6) (show p + 6 < 800 by omega)) ?_
      refine Rk.tr (F1 := (26, 49, _, _)) (x_ifT rfl (tg := 49) rfl c2) ?_
      refine Rk.tr (F1 := (26, 50, _, _)) (x_iconst rfl) ?_
      exact Rk.end rfl (Or.inr (Or.inl ⟨rfl, _, .int, rfl, rfl, rfl, rfl⟩))
  · skip
    refine Rk.tr (F1 := (26, 1, _, _)) (x_aload_n rfl rfl rfl) ?_
    refine Rk.tr (F1 := (26, 4, _, _)) (m_get rfl rfl (Nat.le_of_ble_eq_true rfl)) ?_
    refine Rk.tr (F1 := (26, 5, _, _)) (x_iload_n rfl rfl) ?_
    refine Rk.tr (F1 := (26, 6, _, _)) (x_iconst rfl) ?_
    refine Rk.tr (F1 := (26, 7, _, _)) (x_iadd rfl) ?_
    refine Rk.tr (F1 := (26, 8, _, _)) (m_iald (k := 5) (n := p + 3) rfl rfl rfl (nI_add p 3) (show p + 3 < 800 by omega)) ?_
    refine Rk.tr (F1 := (26, 9, [_, _, _, _, _], _)) (x_istore_n (i := 2) rfl (Nat.le_of_ble_eq_true rfl)) ?_
    refine Rk.tr (F1 := (26, 10, _, _)) (x_aload_n rfl rfl rfl) ?_
    refine Rk.tr (F1 := (26, 13, _, _)) (m_get rfl rfl (Nat.le_of_ble_eq_true rfl)) ?_
    refine Rk.tr (F1 := (26, 14, _, _)) (x_iload_n rfl rfl) ?_
    refine Rk.tr (F1 := (26, 15, _, _)) (x_iconst rfl) ?_
    refine Rk.tr (F1 := (26, 16, _, _)) (x_iadd rfl) ?_
    refine Rk.tr (F1 := (26, 17, _, _)) (m_iald (k := 5) (n := p + 4) rfl rfl rfl (nI_add p 4) (show p + 4 < 800 by omega)) ?_
    refine Rk.tr (F1 := (26, 49, _, _)) (x_ifT rfl (tg := 49) rfl c1) ?_
    refine Rk.tr (F1 := (26, 50, _, _)) (x_iconst rfl) ?_
    exact Rk.end rfl (Or.inr (Or.inl ⟨rfl, _, .int, rfl, rfl, rfl, rfl⟩))
theorem c_fold_yes {A B : List It} {it : It} (h5 : it.1 = 5) (hM : PM R n (A ++ it :: B)) (hc : it.2.2.2.1.1 = 0 ∧ it.2.2.2.2.1 = 0 ∧ ¬ (it.2.2.1 = 3 ∧ it.2.2.2.2.2 = 0)) :
    ∃ R' : Nat → Int32, Rn E (d + 2) 26 [.ref o, .int (nI (tsum A))] (mh g o (mst S R W c n)) (some (.int (nI (tsum A)))) (mh g o (mst S R' W (rup c 0 (c 0 + 1)) (nI (tsum (A ++ B))))) ∧ TokAt R' 0 ((A ++ B).map (isb it.2.1 (0, opv it.2.2.1 it.2.2.2.1.2 it.2.2.2.2.2))) := by
  obtain ⟨t1, h8, hn⟩ := PM.it (P := []) hM
  have hcut := TokAt_cut (A := A) (X := [it]) (B := B) hM.1
  obtain ⟨k, nm, dt, ⟨a1, a2⟩, b1, b2⟩ := it
  have h5 : k = 5 := h5
  subst h5
  have h8 : tsum A + 8 + tsum B ≤ 400 := h8
  have hn : n = nI (tsum A + 8 + tsum B) := hn
  have hz : tsum (A ++ ([(5, nm, dt, (a1, a2), b1, b2)] ++ B)) = tsum A + 8 + tsum B := by rw [tsum_app, tsum_app]; simp only [tsum, isz]; omega
  have hz2 : tsum [((5, nm, dt, (a1, a2), b1, b2) : It)] = 8 := rfl
  rw [hz, hz2] at hcut
  have hAB : tsum (A ++ B) = tsum A + 8 + tsum B - (tsum A + 8 - tsum A) := by rw [tsum_app]; omega
  obtain ⟨R', r1, r2⟩ := c_standsFor (E := E) (d := d) (o := o) (g := g) (S := mst S (rcut R (tsum A) (tsum A + 8) (tsum A + 8 + tsum B)) W c (nI (tsum (A ++ B)))) (nm := nm) (bk := 0) (bv := opv dt a2 b2) (P := A ++ B) rfl (by omega) hcut rfl
  rw [mst_R] at r1
  refine ⟨R', ?_, r2⟩
  have hct := c_cut (E := E) (d := d + 1) (o := o) (g := g) (S := mst S R W c n) (f := tsum A) (u := tsum A + 8) (len := tsum A + 8 + tsum B) hn (by omega) (by omega) (by omega)
  rw [mst_R, mst_4, ← hAB] at hct
  simp only at hc
  generalize tsum A = p at t1 h8 hn hcut hct r1 r2 ⊢
  obtain ⟨h0, rfl, h2, rfl, rfl, rfl, rfl, rfl⟩ := t1
  obtain ⟨c1, c2, c3⟩ := hc
  rw [← mst_A7]
  refine Rn.of (Nat.le_of_ble_eq_true rfl) ?_
  by_cases c4 : R (p + 3) = 3
  · have c5 : ¬ R (p + 7) = 0 := fun z => c3 ⟨c4, z⟩
    refine Rk.tr (F1 := (26, 1, _, _)) (x_aload_n rfl rfl rfl) ?_
    refine Rk.tr (F1 := (26, 4, _, _)) (m_get rfl rfl (Nat.le_of_ble_eq_true rfl)) ?_
    refine Rk.tr (F1 := (26, 5, _, _)) (x_iload_n rfl rfl) ?_
    refine Rk.tr (F1 := (26, 6, _, _)) (x_iconst rfl) ?_
    refine Rk.tr (F1 := (26, 7, _, _)) (x_iadd rfl) ?_
    refine Rk.tr (F1 := (26, 8, _, _)) (m_iald (k := 5) (n := p + 3) rfl rfl rfl (nI_add p 3) (show p + 3 < 800 by omega)) ?_
    refine Rk.tr (F1 := (26, 9, [_, _, _, _, _], _)) (x_istore_n (i := 2) rfl (Nat.le_of_ble_eq_true rfl)) ?_
    refine Rk.tr (F1 := (26, 10, _, _)) (x_aload_n rfl rfl rfl) ?_
    refine Rk.tr (F1 := (26, 13, _, _)) (m_get rfl rfl (Nat.le_of_ble_eq_true rfl)) ?_
    refine Rk.tr (F1 := (26, 14, _, _)) (x_iload_n rfl rfl) ?_
    refine Rk.tr (F1 := (26, 15, _, _)) (x_iconst rfl) ?_
    refine Rk.tr (F1 := (26, 16, _, _)) (x_iadd rfl) ?_
    refine Rk.tr (F1 := (26, 17, _, _)) (m_iald (k := 5) (n := p + 4) rfl rfl rfl (nI_add p 4) (show p + 4 < 800 by omega)) ?_
    refine Rk.tr (F1 := (26, 20, _, _)) (x_ifF rfl (tg := 49) rfl (fun z => z c1)) ?_
    refine Rk.tr (F1 := (26, 21, _, _)) (x_aload_n rfl rfl rfl) ?_
    refine Rk.tr (F1 := (26, 24, _, _)) (m_get rfl rfl (Nat.le_of_ble_eq_true rfl)) ?_
    refine Rk.tr (F1 := (26, 25, _, _)) (x_iload_n rfl rfl) ?_
    refine Rk.tr (F1 := (26, 27, _, _)) (x_bipush rfl) ?_
    refine Rk.tr (F1 := (26, 28, _, _)) (x_iadd rfl) ?_
    refine Rk.tr (F1 := (26, 29, _, _)) (m_iald (k := 5) (n := p + 6) rfl rfl rfl (nI_add p 6) (show p + 6 < 800 by omega)) ?_
    refine Rk.tr (F1 := (26, 32, _, _)) (x_ifF rfl (tg := 49) rfl (fun z => z c2)) ?_
    refine Rk.tr (F1 := (26, 33, _, _)) (x_iload_n rfl rfl) ?_
    refine Rk.tr (F1 := (26, 34, _, _)) (x_iconst rfl) ?_
    refine Rk.tr (F1 := (26, 37, _, _)) (x_icF rfl (tg := 51) rfl (fun z => z c4)) ?_
    refine Rk.tr (F1 := (26, 38, _, _)) (x_aload_n rfl rfl rfl) ?_
    refine Rk.tr (F1 := (26, 41, _, _)) (m_get rfl rfl (Nat.le_of_ble_eq_true rfl)) ?_
    refine Rk.tr (F1 := (26, 42, _, _)) (x_iload_n rfl rfl) ?_
    refine Rk.tr (F1 := (26, 44, _, _)) (x_bipush rfl) ?_
    refine Rk.tr (F1 := (26, 45, _, _)) (x_iadd rfl) ?_
    refine Rk.tr (F1 := (26, 46, _, _)) (m_iald (k := 5) (n := p + 7) rfl rfl rfl (nI_add p 7) (show p + 7 < 800 by omega)) ?_
    refine Rk.tr (F1 := (26, 51, _, _)) (x_ifT rfl (tg := 51) rfl c5) ?_
    refine Rk.tr (F1 := (26, 52, _, _)) (x_aload_n rfl rfl rfl) ?_
    refine Rk.tr (F1 := (26, 55, _, _)) (m_get rfl rfl (Nat.le_of_ble_eq_true rfl)) ?_
    refine Rk.tr (F1 := (26, 56, _, _)) (x_iload_n rfl rfl) ?_
    refine Rk.tr (F1 := (26, 57, _, _)) (x_iconst rfl) ?_
    refine Rk.tr (F1 := (26, 58, _, _)) (x_iadd rfl) ?_
    refine Rk.tr (F1 := (26, 59, _, _)) (m_iald (k := 5) (n := p + 1) rfl rfl rfl (nI_1 p) (show p + 1 < 800 by omega)) ?_
    refine Rk.tr (F1 := (26, 60, [_, _, _, _, _], _)) (x_istore_n (i := 3) rfl (Nat.le_of_ble_eq_true rfl)) ?_
    refine Rk.tr (F1 := (26, 61, _, _)) (x_iload_n rfl rfl) ?_
    refine Rk.tr (F1 := (26, 62, _, _)) (x_aload_n rfl rfl rfl) ?_
    refine Rk.tr (F1 := (26, 65, _, _)) (m_get rfl rfl (Nat.le_of_ble_eq_true rfl)) ?_
    refine Rk.tr (F1 := (26, 66, _, _)) (x_iload_n rfl rfl) ?_
    refine Rk.tr (F1 := (26, 67, _, _)) (x_iconst rfl) ?_
    refine Rk.tr (F1 := (26, 68, _, _)) (x_iadd rfl) ?_
    refine Rk.tr (F1 := (26, 69, _, _)) (m_iald (k := 5) (n := p + 5) rfl rfl rfl (nI_add p 5) (show p + 5 < 800 by omega)) ?_
    refine Rk.tr (F1 := (26, 70, _, _)) (x_aload_n rfl rfl rfl) ?_
    refine Rk.tr (F1 := (26, 73, _, _)) (m_get rfl rfl (Nat.le_of_ble_eq_true rfl)) ?_
    refine Rk.tr (F1 := (26, 74, _, _)) (x_iload_n rfl rfl) ?_
    refine Rk.tr (F1 := (26, 76, _, _)) (x_bipush rfl) ?_
    refine Rk.tr (F1 := (26, 77, _, _)) (x_iadd rfl) ?_
    refine Rk.tr (F1 := (26, 78, _, _)) (m_iald (k := 5) (n := p + 7) rfl rfl rfl (nI_add p 7) (show p + 7 < 800 by omega)) ?_
    refine Rk.tr (F1 := (26, 81, _, _)) (x_calls (As := [_, _, _]) rfl rfl rfl rfl rfl rfl (Nat.le_of_ble_eq_true rfl) (c_sum (fun z => fun y => c3 ⟨z, y⟩)) rfl) ?_
    refine Rk.tr (F1 := (26, 83, [_, _, _, _, _], _)) (x_istore (i := 4) rfl (Nat.le_of_ble_eq_true rfl)) ?_
    refine Rk.tr (F1 := (26, 84, _, _)) (x_aload_n rfl rfl rfl) ?_
    refine Rk.tr (F1 := (26, 85, _, _)) (x_iload_n rfl rfl) ?_
    refine Rk.tr (F1 := (26, 86, _, _)) (x_iload_n rfl rfl) ?_
    refine Rk.tr (F1 := (26, 88, _, _)) (x_bipush rfl) ?_
    refine Rk.tr (F1 := (26, 89, _, _)) (x_iadd rfl) ?_
    refine Rk.tr (F1 := (26, 89, _, _)) (x_top (nI_add p 8)) ?_
    refine Rk.tr (F1 := (26, 92, _, _)) (m_call (As := [_, _]) rfl rfl rfl (Or.inr rfl) rfl rfl rfl (Nat.le_of_ble_eq_true rfl) hct rfl) ?_
    refine Rk.tr (F1 := (26, 93, _, _)) (x_aload_n rfl rfl rfl) ?_
    refine Rk.tr (F1 := (26, 94, _, _)) (x_iload_n rfl rfl) ?_
    refine Rk.tr (F1 := (26, 95, _, _)) (x_iconst rfl) ?_
    refine Rk.tr (F1 := (26, 97, _, _)) (x_iload rfl rfl) ?_
    refine Rk.tr (F1 := (26, 100, _, _)) (m_call (As := [_, _, _]) rfl rfl rfl (Or.inr rfl) rfl rfl rfl (Nat.le_of_ble_eq_true rfl) r1 rfl) ?_
    refine Rk.tr (F1 := (26, 101, _, _)) (x_aload_n rfl rfl rfl) ?_
    refine Rk.tr (F1 := (26, 104, _, _)) (m_get rfl rfl (Nat.le_of_ble_eq_true rfl)) ?_
    refine Rk.tr (F1 := (26, 105, _, _)) (x_iconst rfl) ?_
    refine Rk.tr (F1 := (26, 106, _, _)) (x_dup2 rfl rfl rfl) ?_
    refine Rk.tr (F1 := (26, 107, _, _)) (m_iald (k := 7) (n := 0) rfl rfl rfl rfl (Nat.le_of_ble_eq_true rfl)) ?_
    refine Rk.tr (F1 := (26, 108, _, _)) (x_iconst rfl) ?_
    refine Rk.tr (F1 := (26, 109, _, _)) (x_iadd rfl) ?_
    refine Rk.tr (F1 := (26, 110, _, _)) (m_iast (k := 7) (n := 0) rfl rfl rfl (Nat.le_of_ble_eq_true rfl) rfl (Nat.le_of_ble_eq_true rfl)) ?_
    refine Rk.tr (F1 := (26, 111, _, _)) (x_iload_n rfl rfl) ?_
    exact Rk.end rfl (Or.inr (Or.inl ⟨rfl, _, .int, rfl, rfl, rfl, rfl⟩))
  · skip
    refine Rk.tr (F1 := (26, 1, _, _)) (x_aload_n rfl rfl rfl) ?_
    refine Rk.tr (F1 := (26, 4, _, _)) (m_get rfl rfl (Nat.le_of_ble_eq_true rfl)) ?_
    refine Rk.tr (F1 := (26, 5, _, _)) (x_iload_n rfl rfl) ?_
    refine Rk.tr (F1 := (26, 6, _, _)) (x_iconst rfl) ?_
    refine Rk.tr (F1 := (26, 7, _, _)) (x_iadd rfl) ?_
    refine Rk.tr (F1 := (26, 8, _, _)) (m_iald (k := 5) (n := p + 3) rfl rfl rfl (nI_add p 3) (show p + 3 < 800 by omega)) ?_
    refine Rk.tr (F1 := (26, 9, [_, _, _, _, _], _)) (x_istore_n (i := 2) rfl (Nat.le_of_ble_eq_true rfl)) ?_
    refine Rk.tr (F1 := (26, 10, _, _)) (x_aload_n rfl rfl rfl) ?_
    refine Rk.tr (F1 := (26, 13, _, _)) (m_get rfl rfl (Nat.le_of_ble_eq_true rfl)) ?_
    refine Rk.tr (F1 := (26, 14, _, _)) (x_iload_n rfl rfl) ?_
    refine Rk.tr (F1 := (26, 15, _, _)) (x_iconst rfl) ?_
    refine Rk.tr (F1 := (26, 16, _, _)) (x_iadd rfl) ?_
    refine Rk.tr (F1 := (26, 17, _, _)) (m_iald (k := 5) (n := p + 4) rfl rfl rfl (nI_add p 4) (show p + 4 < 800 by omega)) ?_
    refine Rk.tr (F1 := (26, 20, _, _)) (x_ifF rfl (tg := 49) rfl (fun z => z c1)) ?_
    refine Rk.tr (F1 := (26, 21, _, _)) (x_aload_n rfl rfl rfl) ?_
    refine Rk.tr (F1 := (26, 24, _, _)) (m_get rfl rfl (Nat.le_of_ble_eq_true rfl)) ?_
    refine Rk.tr (F1 := (26, 25, _, _)) (x_iload_n rfl rfl) ?_
    refine Rk.tr (F1 := (26, 27, _, _)) (x_bipush rfl) ?_
    refine Rk.tr (F1 := (26, 28, _, _)) (x_iadd rfl) ?_
    refine Rk.tr (F1 := (26, 29, _, _)) (m_iald (k := 5) (n := p + 6) rfl rfl rfl (nI_add p 6) (show p + 6 < 800 by omega)) ?_
    refine Rk.tr (F1 := (26, 32, _, _)) (x_ifF rfl (tg := 49) rfl (fun z => z c2)) ?_
    refine Rk.tr (F1 := (26, 33, _, _)) (x_iload_n rfl rfl) ?_
    refine Rk.tr (F1 := (26, 34, _, _)) (x_iconst rfl) ?_
    refine Rk.tr (F1 := (26, 51, _, _)) (x_icT rfl (tg := 51) rfl c4) ?_
    refine Rk.tr (F1 := (26, 52, _, _)) (x_aload_n rfl rfl rfl) ?_
    refine Rk.tr (F1 := (26, 55, _, _)) (m_get rfl rfl (Nat.le_of_ble_eq_true rfl)) ?_
    refine Rk.tr (F1 := (26, 56, _, _)) (x_iload_n rfl rfl) ?_
    refine Rk.tr (F1 := (26, 57, _, _)) (x_iconst rfl) ?_
    refine Rk.tr (F1 := (26, 58, _, _)) (x_iadd rfl) ?_
    refine Rk.tr (F1 := (26, 59, _, _)) (m_iald (k := 5) (n := p + 1) rfl rfl rfl (nI_1 p) (show p + 1 < 800 by omega)) ?_
    refine Rk.tr (F1 := (26, 60, [_, _, _, _, _], _)) (x_istore_n (i := 3) rfl (Nat.le_of_ble_eq_true rfl)) ?_
    refine Rk.tr (F1 := (26, 61, _, _)) (x_iload_n rfl rfl) ?_
    refine Rk.tr (F1 := (26, 62, _, _)) (x_aload_n rfl rfl rfl) ?_
    refine Rk.tr (F1 := (26, 65, _, _)) (m_get rfl rfl (Nat.le_of_ble_eq_true rfl)) ?_
    refine Rk.tr (F1 := (26, 66, _, _)) (x_iload_n rfl rfl) ?_
    refine Rk.tr (F1 := (26, 67, _, _)) (x_iconst rfl) ?_
    refine Rk.tr (F1 := (26, 68, _, _)) (x_iadd rfl) ?_
    refine Rk.tr (F1 := (26, 69, _, _)) (m_iald (k := 5) (n := p + 5) rfl rfl rfl (nI_add p 5) (show p + 5 < 800 by omega)) ?_
    refine Rk.tr (F1 := (26, 70, _, _)) (x_aload_n rfl rfl rfl) ?_
    refine Rk.tr (F1 := (26, 73, _, _)) (m_get rfl rfl (Nat.le_of_ble_eq_true rfl)) ?_
    refine Rk.tr (F1 := (26, 74, _, _)) (x_iload_n rfl rfl) ?_
    refine Rk.tr (F1 := (26, 76, _, _)) (x_bipush rfl) ?_
    refine Rk.tr (F1 := (26, 77, _, _)) (x_iadd rfl) ?_
    refine Rk.tr (F1 := (26, 78, _, _)) (m_iald (k := 5) (n := p + 7) rfl rfl rfl (nI_add p 7) (show p + 7 < 800 by omega)) ?_
    refine Rk.tr (F1 := (26, 81, _, _)) (x_calls (As := [_, _, _]) rfl rfl rfl rfl rfl rfl (Nat.le_of_ble_eq_true rfl) (c_sum (fun z => fun y => c3 ⟨z, y⟩)) rfl) ?_
    refine Rk.tr (F1 := (26, 83, [_, _, _, _, _], _)) (x_istore (i := 4) rfl (Nat.le_of_ble_eq_true rfl)) ?_
    refine Rk.tr (F1 := (26, 84, _, _)) (x_aload_n rfl rfl rfl) ?_
    refine Rk.tr (F1 := (26, 85, _, _)) (x_iload_n rfl rfl) ?_
    refine Rk.tr (F1 := (26, 86, _, _)) (x_iload_n rfl rfl) ?_
    refine Rk.tr (F1 := (26, 88, _, _)) (x_bipush rfl) ?_
    refine Rk.tr (F1 := (26, 89, _, _)) (x_iadd rfl) ?_
    refine Rk.tr (F1 := (26, 89, _, _)) (x_top (nI_add p 8)) ?_
    refine Rk.tr (F1 := (26, 92, _, _)) (m_call (As := [_, _]) rfl rfl rfl (Or.inr rfl) rfl rfl rfl (Nat.le_of_ble_eq_true rfl) hct rfl) ?_
    refine Rk.tr (F1 := (26, 93, _, _)) (x_aload_n rfl rfl rfl) ?_
    refine Rk.tr (F1 := (26, 94, _, _)) (x_iload_n rfl rfl) ?_
    refine Rk.tr (F1 := (26, 95, _, _)) (x_iconst rfl) ?_
    refine Rk.tr (F1 := (26, 97, _, _)) (x_iload rfl rfl) ?_
    refine Rk.tr (F1 := (26, 100, _, _)) (m_call (As := [_, _, _]) rfl rfl rfl (Or.inr rfl) rfl rfl rfl (Nat.le_of_ble_eq_true rfl) r1 rfl) ?_
    refine Rk.tr (F1 := (26, 101, _, _)) (x_aload_n rfl rfl rfl) ?_
    refine Rk.tr (F1 := (26, 104, _, _)) (m_get rfl rfl (Nat.le_of_ble_eq_true rfl)) ?_
    refine Rk.tr (F1 := (26, 105, _, _)) (x_iconst rfl) ?_
    refine Rk.tr (F1 := (26, 106, _, _)) (x_dup2 rfl rfl rfl) ?_
    refine Rk.tr (F1 := (26, 107, _, _)) (m_iald (k := 7) (n := 0) rfl rfl rfl rfl (Nat.le_of_ble_eq_true rfl)) ?_
    refine Rk.tr (F1 := (26, 108, _, _)) (x_iconst rfl) ?_
    refine Rk.tr (F1 := (26, 109, _, _)) (x_iadd rfl) ?_
    refine Rk.tr (F1 := (26, 110, _, _)) (m_iast (k := 7) (n := 0) rfl rfl rfl (Nat.le_of_ble_eq_true rfl) rfl (Nat.le_of_ble_eq_true rfl)) ?_
    refine Rk.tr (F1 := (26, 111, _, _)) (x_iload_n rfl rfl) ?_
    exact Rk.end rfl (Or.inr (Or.inl ⟨rfl, _, .int, rfl, rfl, rfl, rfl⟩))
end M7
end
section
/-! ===== drop, choose ===== -/
theorem ioc_le (it : It) (nm : Int32) : ∀ (r k : Nat), ioc it nm k r ≤ r := by
  intro r
  induction r with
  | zero => intro k; exact Nat.le_refl _
  | succ r ih =>
    intro k
    have := ih (k + 1)
    simp only [ioc]
    split <;> omega
theorem occ_le (nm : Int32) (P : List It) : occ nm P ≤ tsum P := by
  induction P with
  | nil => exact Nat.le_refl _
  | cons a P ih =>
    have h1 := ioc_le a nm (iat a) 0
    have h2 : iat a ≤ isz a := by unfold iat isz; split <;> split <;> first | decide | omega
    simp only [occ, tsum]
    omega
theorem closes_ge : ∀ (Q : List It) (k : Nat), closes k Q → 3 ≤ tsum Q := by
  intro Q
  induction Q with
  | nil => intro k h; exact h.elim
  | cons a Q ih =>
    intro k _
    have := isz_ge a
    simp only [tsum]
    omega
section M8
variable {E : PE} {d o : Nat} {g : PH} {S : MSt} {R W c : Nat → Int32} {n : Int32}
theorem c_drop_no {A B : List It} {it : It} (h2 : it.1 = 2) (hM : PM R n (A ++ it :: B)) (hc : 0 < occ it.2.1 (A ++ it :: B)) :
    Rn E (d + 2) 38 [.ref o, .int (nI (tsum A))] (mh g o (mst S R W c n)) (some (.int (-1))) (mh g o (mst S R W c n)) := by
  obtain ⟨t1, h8, -⟩ := PM.it (P := []) hM
  have ho := occ_le it.2.1 (A ++ it :: B)
  have hM3 := hM.2.2
  have r1 := c_occurs (E := E) (d := d) (o := o) (g := g) (S := mst S R W c n) (nm := it.2.1) (P := A ++ it :: B) hM.2.1 (by omega) hM.1 rfl
  obtain ⟨k, nm, dt, ⟨a1, a2⟩, b1, b2⟩ := it
  have h2 : k = 2 := h2
  subst h2
  have h8 : tsum A + 4 + tsum B ≤ 400 := h8
  simp only at r1 hc ho
  generalize occ nm (A ++ (2, nm, dt, (a1, a2), b1, b2) :: B) = oc at r1 hc ho
  generalize tsum A = p at t1 h8 ⊢
  obtain ⟨h0, rfl, h2, rfl⟩ := t1
  refine Rn.of (Nat.le_of_ble_eq_true rfl) ?_
  refine Rk.tr (F1 := (38, 1, _, _)) (x_aload_n rfl rfl rfl) ?_
  refine Rk.tr (F1 := (38, 2, _, _)) (x_aload_n rfl rfl rfl) ?_
  refine Rk.tr (F1 := (38, 5, _, _)) (m_get rfl rfl (Nat.le_of_ble_eq_true rfl)) ?_
  refine Rk.tr (F1 := (38, 6, _, _)) (x_iload_n rfl rfl) ?_
  refine Rk.tr (F1 := (38, 7, _, _)) (x_iconst rfl) ?_
  refine Rk.tr (F1 := (38, 8, _, _)) (x_iadd rfl) ?_
  refine Rk.tr (F1 := (38, 9, _, _)) (m_iald (k := 5) (n := p + 1) rfl rfl rfl (nI_1 p) (show p + 1 < 800 by omega)) ?_
  refine Rk.tr (F1 := (38, 12, _, _)) (m_call (As := [_]) rfl rfl rfl (Or.inr rfl) rfl rfl rfl (Nat.le_of_ble_eq_true rfl) r1 rfl) ?_
  refine Rk.tr (F1 := (38, 15, _, _)) (x_ifF rfl (tg := 17) rfl (nI_nle hc (by omega))) ?_
  refine Rk.tr (F1 := (38, 16, _, _)) (x_iconst rfl) ?_
  exact Rk.end rfl (Or.inr (Or.inl ⟨rfl, _, .int, rfl, rfl, rfl, rfl⟩))
theorem c_drop_yes {A Bd C : List It} {it : It} (h2 : it.1 = 2) (hM : PM R n (A ++ it :: (Bd ++ C))) (hcl : closes 1 Bd) (hc : occ it.2.1 (A ++ it :: (Bd ++ C)) = 0) :
    ∃ R' : Nat → Int32, Rn E (d + 2) 38 [.ref o, .int (nI (tsum A))] (mh g o (mst S R W c n)) (some (.int (nI (tsum A)))) (mh g o (mst S R' W (rup c 3 (c 3 + 1)) (nI (tsum (A ++ C))))) ∧ TokAt R' 0 (A ++ C) := by
  obtain ⟨t1, h8, hn⟩ := PM.it (P := []) hM
  have hM3 := hM.2.2
  have h3 := closes_ge Bd 1 hcl
  have r1 := c_occurs (E := E) (d := d) (o := o) (g := g) (S := mst S R W c n) (nm := it.2.1) (P := A ++ it :: (Bd ++ C)) hM.2.1 (by omega) hM.1 rfl
  rw [hc] at r1
  have hcut := TokAt_cut (A := A) (X := it :: Bd) (B := C) hM.1
  have hz : tsum (A ++ (it :: Bd ++ C)) = tsum A + (isz it + tsum Bd) + tsum C := by rw [tsum_app, tsum_app]; simp only [tsum]; omega
  have hz2 : tsum (it :: Bd) = isz it + tsum Bd := rfl
  rw [hz, hz2] at hcut
  have tB : TokAt R (tsum A + isz it) Bd := by
    have := hM.1
    rw [TokAt_app] at this
    have := this.2.2
    rw [TokAt_app, Nat.zero_add] at this
    exact this.1
  obtain ⟨k, nm, dt, ⟨a1, a2⟩, b1, b2⟩ := it
  have h2 : k = 2 := h2
  subst h2
  rw [tsum_app] at h8 hn
  have h8 : tsum A + 4 + (tsum Bd + tsum C) ≤ 400 := h8
  have hn : n = nI (tsum A + 4 + (tsum Bd + tsum C)) := hn
  have tB : TokAt R (tsum A + 4) Bd := tB
  have hcut : TokAt (rcut R (tsum A) (tsum A + (4 + tsum Bd)) (tsum A + (4 + tsum Bd) + tsum C)) 0 (A ++ C) := hcut
  refine ⟨_, ?_, hcut⟩
  have hAB : tsum (A ++ C) = tsum A + (4 + tsum Bd) + tsum C - (tsum A + (4 + tsum Bd) - tsum A) := by rw [tsum_app]; omega
  have hct := c_cut (E := E) (d := d + 1) (o := o) (g := g) (S := mst S R W c n) (f := tsum A) (u := tsum A + (4 + tsum Bd)) (len := tsum A + (4 + tsum Bd) + tsum C) (hn.trans (by congr 1; omega)) (by omega) (by omega) (by omega)
  rw [mst_R, mst_4, ← hAB] at hct
  have r2 := c_rowEnd (E := E) (d := d) (o := o) (g := g) (S := mst S R W c n) (p := tsum A + 4) (Q := Bd) tB (by omega) hcl
  rw [← mst_A7]
  simp only at r1
  generalize tsum A = p at t1 h8 hn hcut hct r2 tB ⊢
  obtain ⟨h0, rfl, h2, rfl⟩ := t1
  refine Rn.of (Nat.le_of_ble_eq_true rfl) ?_
  refine Rk.tr (F1 := (38, 1, _, _)) (x_aload_n rfl rfl rfl) ?_
  refine Rk.tr (F1 := (38, 2, _, _)) (x_aload_n rfl rfl rfl) ?_
  refine Rk.tr (F1 := (38, 5, _, _)) (m_get rfl rfl (Nat.le_of_ble_eq_true rfl)) ?_
  refine Rk.tr (F1 := (38, 6, _, _)) (x_iload_n rfl rfl) ?_
  refine Rk.tr (F1 := (38, 7, _, _)) (x_iconst rfl) ?_
  refine Rk.tr (F1 := (38, 8, _, _)) (x_iadd rfl) ?_
  refine Rk.tr (F1 := (38, 9, _, _)) (m_iald (k := 5) (n := p + 1) rfl rfl rfl (nI_1 p) (show p + 1 < 800 by omega)) ?_
  refine Rk.tr (F1 := (38, 12, _, _)) (m_call (As := [_]) rfl rfl rfl (Or.inr rfl) rfl rfl rfl (Nat.le_of_ble_eq_true rfl) r1 rfl) ?_
  refine Rk.tr (F1 := (38, 17, _, _)) (x_ifT rfl (tg := 17) rfl (show nI 0 ≤ 0 by decide)) ?_
  refine Rk.tr (F1 := (38, 18, _, _)) (x_aload_n rfl rfl rfl) ?_
  refine Rk.tr (F1 := (38, 19, _, _)) (x_iload_n rfl rfl) ?_
  refine Rk.tr (F1 := (38, 20, _, _)) (x_aload_n rfl rfl rfl) ?_
  refine Rk.tr (F1 := (38, 21, _, _)) (x_iload_n rfl rfl) ?_
  refine Rk.tr (F1 := (38, 22, _, _)) (x_iconst rfl) ?_
  refine Rk.tr (F1 := (38, 23, _, _)) (x_iadd rfl) ?_
  refine Rk.tr (F1 := (38, 23, _, _)) (x_top (nI_add p 4)) ?_
  refine Rk.tr (F1 := (38, 26, _, _)) (m_call (As := [_]) rfl rfl rfl (Or.inr rfl) rfl rfl rfl (Nat.le_of_ble_eq_true rfl) r2 rfl) ?_
  refine Rk.tr (F1 := (38, 27, _, _)) (x_iconst rfl) ?_
  refine Rk.tr (F1 := (38, 28, _, _)) (x_iadd rfl) ?_
  refine Rk.tr (F1 := (38, 28, _, _)) (x_top (y := nI (p + (4 + tsum Bd))) (by show nI (p + 4 + tsum Bd - 3) + nI 3 = _; rw [nI_add]; congr 1; omega)) ?_
  refine Rk.tr (F1 := (38, 31, _, _)) (m_call (As := [_, _]) rfl rfl rfl (Or.inr rfl) rfl rfl rfl (Nat.le_of_ble_eq_true rfl) hct rfl) ?_
  refine Rk.tr (F1 := (38, 32, _, _)) (x_aload_n rfl rfl rfl) ?_
  refine Rk.tr (F1 := (38, 35, _, _)) (m_get rfl rfl (Nat.le_of_ble_eq_true rfl)) ?_
  refine Rk.tr (F1 := (38, 36, _, _)) (x_iconst rfl) ?_
  refine Rk.tr (F1 := (38, 37, _, _)) (x_dup2 rfl rfl rfl) ?_
  refine Rk.tr (F1 := (38, 38, _, _)) (m_iald (k := 7) (n := 3) rfl rfl rfl rfl (Nat.le_of_ble_eq_true rfl)) ?_
  refine Rk.tr (F1 := (38, 39, _, _)) (x_iconst rfl) ?_
  refine Rk.tr (F1 := (38, 40, _, _)) (x_iadd rfl) ?_
  refine Rk.tr (F1 := (38, 41, _, _)) (m_iast (k := 7) (n := 3) rfl rfl rfl (Nat.le_of_ble_eq_true rfl) rfl (Nat.le_of_ble_eq_true rfl)) ?_
  refine Rk.tr (F1 := (38, 42, _, _)) (x_iload_n rfl rfl) ?_
  exact Rk.end rfl (Or.inr (Or.inl ⟨rfl, _, .int, rfl, rfl, rfl, rfl⟩))
/-- copied to the piece so far -/
def rcp (R W : Nat → Int32) (f k : Nat) : Nat → Int32 := fun q => if f + q < k then R (f + q) else W q
theorem lp_piece {p l f u : Nat} {nm : Int32} {s3 s5 : Option Value} (hu : u ≤ 800) (hf : f ≤ u) : ∀ (r k : Nat), k + r = u → f ≤ k →
    Ex E d (32, 90, [some (.ref o), some (.int (nI p)), some (.int nm), s3, some (.int (nI l)), s5, some (.int (nI f)), some (.int (nI u)), some (.int (nI k)), none], []) (mh g o (mst S R (rcp R W f k) c n)) (32, 120, [some (.ref o), some (.int (nI p)), some (.int nm), s3, some (.int (nI l)), s5, some (.int (nI f)), some (.int (nI u)), none, none], []) (mh g o (mst S R (rcp R W f u) c n)) := by
  intro r
  induction r with
  | zero =>
    intro k hk hfk
    rcases (show k = u by omega) with rfl
    refine Ex.tr (F1 := (32, 92, _, _)) (x_iload rfl rfl) ?_
    refine Ex.tr (F1 := (32, 94, _, _)) (x_iload rfl rfl) ?_
    refine Ex.tr (F1 := (32, 120, _, _)) (x_icT rfl (tg := 120) rfl (by show nI k ≤ nI k; exact nI_le (Nat.le_refl _) (by omega))) ?_
    exact x_wk ⟨Or.inr rfl, Or.inr rfl, Or.inr rfl, Or.inr rfl, Or.inr rfl, Or.inr rfl, Or.inr rfl, Or.inr rfl, Or.inl rfl, Or.inr rfl, trivial⟩
  | succ r ih =>
    intro k hk hfk
    have h9 := ih (k + 1) (by omega) (by omega)
    have hR : rup (rcp R W f k) (k - f) (R k) = rcp R W f (k + 1) := by
      funext q
      unfold rup rcp
      by_cases z : q = k - f
      · rw [if_pos z, if_pos (by omega), show f + q = k by omega]
      · rw [if_neg z]
        by_cases z2 : f + q < k
        · rw [if_pos z2, if_pos (by omega)]
        · rw [if_neg z2, if_neg (by omega)]
    rw [← hR, ← mst_A6, ← nI_1 k] at h9
    refine Ex.tr (F1 := (32, 92, _, _)) (x_iload rfl rfl) ?_
    refine Ex.tr (F1 := (32, 94, _, _)) (x_iload rfl rfl) ?_
    refine Ex.tr (F1 := (32, 97, _, _)) (x_icF rfl (tg := 120) rfl (by show ¬ nI u ≤ nI k; exact nI_ge (by omega) (by omega))) ?_
    refine Ex.tr (F1 := (32, 98, _, _)) (x_aload_n rfl rfl rfl) ?_
    refine Ex.tr (F1 := (32, 101, _, _)) (m_get rfl rfl (Nat.le_of_ble_eq_true rfl)) ?_
    refine Ex.tr (F1 := (32, 103, _, _)) (x_iload rfl rfl) ?_
    refine Ex.tr (F1 := (32, 105, _, _)) (x_iload rfl rfl) ?_
    refine Ex.tr (F1 := (32, 106, _, _)) (x_isub rfl) ?_
    refine Ex.tr (F1 := (32, 107, _, _)) (x_aload_n rfl rfl rfl) ?_
    refine Ex.tr (F1 := (32, 110, _, _)) (m_get rfl rfl (Nat.le_of_ble_eq_true rfl)) ?_
    refine Ex.tr (F1 := (32, 112, _, _)) (x_iload rfl rfl) ?_
    refine Ex.tr (F1 := (32, 113, _, _)) (m_iald (k := 5) (n := k) rfl rfl rfl rfl (show k < 800 by omega)) ?_
    refine Ex.tr (F1 := (32, 114, _, _)) (m_iast (k := 6) (n := k - f) rfl rfl rfl (Nat.le_of_ble_eq_true rfl) (pk_sub (by omega)) (show k - f < 800 by omega)) ?_
    refine Ex.tr (F1 := (32, 117, [_, _, _, _, _, _, _, _, _, _], _)) (x_iinc (i := 8) rfl rfl) ?_
    refine Ex.tr (F1 := (32, 90, _, _)) (x_goto rfl rfl) ?_
    exact h9
theorem rcp_tok {X : List It} {f : Nat} (hX : TokAt R f X) : TokAt (rcp R W f (f + tsum X)) 0 X := by
  refine TokAt_shift hX (fun j hj => ?_)
  unfold rcp
  rw [Nat.zero_add, if_pos (by omega)]
theorem choose_tail {A X Y C : List It} {nm : Int32} {e : It} {f u : Nat} {s3 s5 : Option Value} (hM : PM R n (A ++ (Y ++ C))) (hX : TokAt R f X) (hfu : f + tsum X = u) (he : Tok1 R u e) (he9 : e.1 = 9) (hu : u + 3 ≤ 400) (hY : 3 ≤ tsum Y) :
    ∃ R' W' : Nat → Int32, Rk E (d + 2) (32, 86, [some (.ref o), some (.int (nI (tsum A))), some (.int nm), s3, some (.int (nI (tsum A + tsum Y - 3))), s5, some (.int (nI f)), some (.int (nI u)), none, none], []) (mh g o (mst S R W c n)) (some (.int (nI (tsum A)))) (mh g o (mst S R' W' (rup c 1 (c 1 + 1)) (nI (tsum (A ++ (X ++ C)))))) ∧ TokAt R' 0 ((A ++ (X ++ C)).map (isb nm e.2.2.2.1)) := by
  obtain ⟨m1, m2, m3⟩ := hM
  have hcut := TokAt_cut (A := A) (X := Y) (B := C) m1
  have hz : tsum (A ++ (Y ++ C)) = tsum A + tsum Y + tsum C := by rw [tsum_app, tsum_app]; omega
  rw [hz] at hcut m2 m3
  have hAC : tsum (A ++ C) = tsum A + tsum Y + tsum C - (tsum A + tsum Y - tsum A) := by rw [tsum_app]; omega
  have hAC2 : tsum (A ++ C) = tsum A + tsum C := tsum_app A C
  have hW := rcp_tok (W := W) hX
  rw [hfu] at hW
  have hins := TokAt_ins (A := A) (X := X) (B := C) hcut hW
  have hAXC : tsum (A ++ (X ++ C)) = tsum (A ++ C) + tsum X := by rw [tsum_app, tsum_app, tsum_app]; omega
  obtain ⟨k, en, dt, ⟨a1, a2⟩, eb⟩ := e
  have he9 : k = 9 := he9
  subst he9
  obtain ⟨R', r1, r2⟩ := c_standsFor (E := E) (d := d) (o := o) (g := g) (S := mst S (rins (rcut R (tsum A) (tsum A + tsum Y) (tsum A + tsum Y + tsum C)) (rcp R W f u) (tsum A) (tsum X) (tsum (A ++ C))) (rcp R W f u) c (nI (tsum (A ++ (X ++ C))))) (nm := nm) (bk := a1) (bv := a2) (P := A ++ (X ++ C)) rfl (by omega) hins rfl
  rw [mst_R] at r1
  have hct := c_cut (E := E) (d := d + 1) (o := o) (g := g) (S := mst S R (rcp R W f u) c n) (f := tsum A) (u := tsum A + tsum Y) (len := tsum A + tsum Y + tsum C) m2 (by omega) (by omega) (by omega)
  rw [mst_R, mst_4, ← hAC] at hct
  have hit := c_insert (E := E) (d := d + 1) (o := o) (g := g) (S := mst S (rcut R (tsum A) (tsum A + tsum Y) (tsum A + tsum Y + tsum C)) (rcp R W f u) c (nI (tsum (A ++ C)))) (f := tsum A) (n := tsum X) (len := tsum (A ++ C)) rfl (by omega) (by omega)
  rw [mst_R, mst_4, ← hAXC] at hit
  refine ⟨R', rcp R W f u, ?_, r2⟩
  rw [← mst_A7]
  have hlp := lp_piece (E := E) (d := d + 2) (o := o) (g := g) (S := S) (R := R) (W := W) (c := c) (n := n) (p := tsum A) (l := tsum A + tsum Y - 3) (f := f) (u := u) (nm := nm) (s3 := s3) (s5 := s5) (by omega) (by omega) (u - f) f (by omega) (Nat.le_refl f)
  have hW0 : rcp R W f f = W := by
    funext q
    unfold rcp
    rw [if_neg (by omega)]
  rw [hW0] at hlp
  obtain ⟨h0, rfl, rfl⟩ := he
  refine Rk.tr (F1 := (32, 88, _, _)) (x_iload rfl rfl) ?_
  refine Rk.tr (F1 := (32, 90, [_, _, _, _, _, _, _, _, _, _], _)) (x_istore (i := 8) rfl (Nat.le_of_ble_eq_true rfl)) ?_
  refine Rk.tr hlp ?_
  refine Rk.tr (F1 := (32, 121, _, _)) (x_aload_n rfl rfl rfl) ?_
  refine Rk.tr (F1 := (32, 124, _, _)) (m_get rfl rfl (Nat.le_of_ble_eq_true rfl)) ?_
  refine Rk.tr (F1 := (32, 126, _, _)) (x_iload rfl rfl) ?_
  refine Rk.tr (F1 := (32, 127, _, _)) (x_iconst rfl) ?_
  refine Rk.tr (F1 := (32, 128, _, _)) (x_iadd rfl) ?_
  refine Rk.tr (F1 := (32, 129, _, _)) (m_iald (k := 5) (n := u + 1) rfl rfl rfl (nI_1 u) (show u + 1 < 800 by omega)) ?_
  refine Rk.tr (F1 := (32, 131, [_, _, _, _, _, _, _, _, _, _], _)) (x_istore (i := 8) rfl (Nat.le_of_ble_eq_true rfl)) ?_
  refine Rk.tr (F1 := (32, 132, _, _)) (x_aload_n rfl rfl rfl) ?_
  refine Rk.tr (F1 := (32, 135, _, _)) (m_get rfl rfl (Nat.le_of_ble_eq_true rfl)) ?_
  refine Rk.tr (F1 := (32, 137, _, _)) (x_iload rfl rfl) ?_
  refine Rk.tr (F1 := (32, 138, _, _)) (x_iconst rfl) ?_
  refine Rk.tr (F1 := (32, 139, _, _)) (x_iadd rfl) ?_
  refine Rk.tr (F1 := (32, 140, _, _)) (m_iald (k := 5) (n := u + 2) rfl rfl rfl (nI_add u 2) (show u + 2 < 800 by omega)) ?_
  refine Rk.tr (F1 := (32, 142, [_, _, _, _, _, _, _, _, _, _], _)) (x_istore (i := 9) rfl (Nat.le_of_ble_eq_true rfl)) ?_
  refine Rk.tr (F1 := (32, 143, _, _)) (x_aload_n rfl rfl rfl) ?_
  refine Rk.tr (F1 := (32, 144, _, _)) (x_iload_n rfl rfl) ?_
  refine Rk.tr (F1 := (32, 146, _, _)) (x_iload rfl rfl) ?_
  refine Rk.tr (F1 := (32, 147, _, _)) (x_iconst rfl) ?_
  refine Rk.tr (F1 := (32, 148, _, _)) (x_iadd rfl) ?_
  refine Rk.tr (F1 := (32, 148, _, _)) (x_top (y := nI (tsum A + tsum Y)) (by show nI (tsum A + tsum Y - 3) + nI 3 = _; rw [nI_add]; congr 1; omega)) ?_
  refine Rk.tr (F1 := (32, 151, _, _)) (m_call (As := [_, _]) rfl rfl rfl (Or.inr rfl) rfl rfl rfl (Nat.le_of_ble_eq_true rfl) hct rfl) ?_
  refine Rk.tr (F1 := (32, 152, _, _)) (x_aload_n rfl rfl rfl) ?_
  refine Rk.tr (F1 := (32, 153, _, _)) (x_iload_n rfl rfl) ?_
  refine Rk.tr (F1 := (32, 155, _, _)) (x_iload rfl rfl) ?_
  refine Rk.tr (F1 := (32, 157, _, _)) (x_iload rfl rfl) ?_
  refine Rk.tr (F1 := (32, 158, _, _)) (x_isub rfl) ?_
  refine Rk.tr (F1 := (32, 158, _, _)) (x_top (y := nI (tsum X)) (by show nI u - nI f = _; rw [pk_sub (by omega)]; congr 1; omega)) ?_
  refine Rk.tr (F1 := (32, 161, _, _)) (m_call (As := [_, _]) rfl rfl rfl (Or.inr rfl) rfl rfl rfl (Nat.le_of_ble_eq_true rfl) hit rfl) ?_
  refine Rk.tr (F1 := (32, 162, _, _)) (x_aload_n rfl rfl rfl) ?_
  refine Rk.tr (F1 := (32, 163, _, _)) (x_iload_n rfl rfl) ?_
  refine Rk.tr (F1 := (32, 165, _, _)) (x_iload rfl rfl) ?_
  refine Rk.tr (F1 := (32, 167, _, _)) (x_iload rfl rfl) ?_
  refine Rk.tr (F1 := (32, 170, _, _)) (m_call (As := [_, _, _]) rfl rfl rfl (Or.inr rfl) rfl rfl rfl (Nat.le_of_ble_eq_true rfl) r1 rfl) ?_
  refine Rk.tr (F1 := (32, 171, _, _)) (x_aload_n rfl rfl rfl) ?_
  refine Rk.tr (F1 := (32, 174, _, _)) (m_get rfl rfl (Nat.le_of_ble_eq_true rfl)) ?_
  refine Rk.tr (F1 := (32, 175, _, _)) (x_iconst rfl) ?_
  refine Rk.tr (F1 := (32, 176, _, _)) (x_dup2 rfl rfl rfl) ?_
  refine Rk.tr (F1 := (32, 177, _, _)) (m_iald (k := 7) (n := 1) rfl rfl rfl rfl (Nat.le_of_ble_eq_true rfl)) ?_
  refine Rk.tr (F1 := (32, 178, _, _)) (x_iconst rfl) ?_
  refine Rk.tr (F1 := (32, 179, _, _)) (x_iadd rfl) ?_
  refine Rk.tr (F1 := (32, 180, _, _)) (m_iast (k := 7) (n := 1) rfl rfl rfl (Nat.le_of_ble_eq_true rfl) rfl (Nat.le_of_ble_eq_true rfl)) ?_
  refine Rk.tr (F1 := (32, 181, _, _)) (x_iload_n rfl rfl) ?_
  exact Rk.end rfl (Or.inr (Or.inl ⟨rfl, _, .int, rfl, rfl, rfl, rfl⟩))
end M8
end
section
/-! ===== choose, whole ===== -/
theorem Tok1_if {R : Nat → Int32} {p : Nat} {it : It} (h2 : it.1 ≠ 2) (h3 : it.1 ≠ 3) (h5 : it.1 ≠ 5) (h9 : it.1 ≠ 9) (h : Tok1 R p it) : (R p = 8 ∧ R (p + 1) = it.2.1 ∧ R (p + 2) = 6 ∧ R (p + 3) = it.2.2.2.1.1 ∧ R (p + 4) = it.2.2.2.1.2) ∧ isz it = 5 ∧ irw it = 2 ∧ iat it = 1 := by
  refine ⟨?_, ?_, ?_, ?_⟩
  · unfold Tok1 at h
    split at h <;> first | (rename_i z; exact absurd z (by assumption)) | exact h
  · unfold isz
    split <;> first | rfl | (rename_i z; exact absurd z (by assumption))
  · unfold irw
    split <;> first | rfl | (rename_i z; exact absurd z (by assumption))
  · unfold iat
    split <;> first | rfl | (rename_i z; exact absurd z (by assumption))
section M9
variable {E : PE} {d o : Nat} {g : PH} {S : MSt} {R W c : Nat → Int32} {n : Int32}
theorem c_choose_no {A B : List It} {it : It} (h2 : it.1 ≠ 2) (h3 : it.1 ≠ 3) (h5 : it.1 ≠ 5) (h9 : it.1 ≠ 9) (hM : PM R n (A ++ it :: B)) (hc : ¬ it.2.2.2.1.1 = 0) :
    Rn E d 32 [.ref o, .int (nI (tsum A))] (mh g o (mst S R W c n)) (some (.int (-1))) (mh g o (mst S R W c n)) := by
  obtain ⟨t1, h8, -⟩ := PM.it (P := []) hM
  obtain ⟨⟨q0, q1, q2, q3, q4⟩, hz, -, -⟩ := Tok1_if h2 h3 h5 h9 t1
  rw [hz] at h8
  rw [← q3] at hc
  generalize tsum A = p at h8 hc ⊢
  refine Rn.of (Nat.le_of_ble_eq_true rfl) ?_
  refine Rk.tr (F1 := (32, 1, _, _)) (x_aload_n rfl rfl rfl) ?_
  refine Rk.tr (F1 := (32, 4, _, _)) (m_get rfl rfl (Nat.le_of_ble_eq_true rfl)) ?_
  refine Rk.tr (F1 := (32, 5, _, _)) (x_iload_n rfl rfl) ?_
  refine Rk.tr (F1 := (32, 6, _, _)) (x_iconst rfl) ?_
  refine Rk.tr (F1 := (32, 7, _, _)) (x_iadd rfl) ?_
  refine Rk.tr (F1 := (32, 8, _, _)) (m_iald (k := 5) (n := p + 3) rfl rfl rfl (nI_add p 3) (show p + 3 < 800 by omega)) ?_
  refine Rk.tr (F1 := (32, 11, _, _)) (x_ifF rfl (tg := 13) rfl hc) ?_
  refine Rk.tr (F1 := (32, 12, _, _)) (x_iconst rfl) ?_
  exact Rk.end rfl (Or.inr (Or.inl ⟨rfl, _, .int, rfl, rfl, rfl, rfl⟩))
theorem c_choose_yes {A X1 X2 C : List It} {it e1 e2 : It} (h2 : it.1 ≠ 2) (h3 : it.1 ≠ 3) (h5 : it.1 ≠ 5) (h9 : it.1 ≠ 9) (g1 : e1.1 = 9) (g2 : e2.1 = 9) (hM : PM R n (A ++ it :: ((X1 ++ [e1]) ++ ((X2 ++ [e2]) ++ C)))) (k1 : closes 1 (X1 ++ [e1])) (k2 : closes 1 (X2 ++ [e2])) (hc : it.2.2.2.1.1 = 0) :
    ∃ R' W' : Nat → Int32, Rn E (d + 2) 32 [.ref o, .int (nI (tsum A))] (mh g o (mst S R W c n)) (some (.int (nI (tsum A)))) (mh g o (mst S R' W' (rup c 1 (c 1 + 1)) (nI (tsum (A ++ ((if it.2.2.2.1.2 = 0 then X2 else X1) ++ C)))))) ∧
      TokAt R' 0 ((A ++ ((if it.2.2.2.1.2 = 0 then X2 else X1) ++ C)).map (isb it.2.1 (if it.2.2.2.1.2 = 0 then e2 else e1).2.2.2.1)) := by
  obtain ⟨t1, h8, hn⟩ := PM.it (P := []) hM
  obtain ⟨⟨q0, q1, q2, q3, q4⟩, hz, -, -⟩ := Tok1_if h2 h3 h5 h9 t1
  have z1 : isz e1 = 3 := by unfold isz; rw [g1]; rfl
  have z2 : isz e2 = 3 := by unfold isz; rw [g2]; rfl
  have s1 : tsum (X1 ++ [e1]) = tsum X1 + 3 := by rw [tsum_app]; simp only [tsum]; omega
  have s2 : tsum (X2 ++ [e2]) = tsum X2 + 3 := by rw [tsum_app]; simp only [tsum]; omega
  rw [hz, tsum_app (X1 ++ [e1]) _, tsum_app (X2 ++ [e2]) _, s1, s2] at h8
  have hT := hM.1
  rw [TokAt_app] at hT
  have hT2 := hT.2.2
  rw [Nat.zero_add, hz] at hT2
  obtain ⟨ta, tb0⟩ := TokAt_app.mp hT2
  rw [s1] at tb0
  obtain ⟨tb, -⟩ := TokAt_app.mp tb0
  have ta2 := TokAt_app.mp ta
  have tb2 := TokAt_app.mp tb
  have te1 : Tok1 R (tsum A + 5 + tsum X1) e1 := ta2.2.1
  have te2 : Tok1 R (tsum A + 5 + (tsum X1 + 3) + tsum X2) e2 := tb2.2.1
  have hY : it :: ((X1 ++ [e1]) ++ ((X2 ++ [e2]) ++ C)) = (it :: ((X1 ++ [e1]) ++ (X2 ++ [e2]))) ++ C := by simp
  have hYs : tsum (it :: ((X1 ++ [e1]) ++ (X2 ++ [e2]))) = 5 + (tsum X1 + 3) + (tsum X2 + 3) := by simp only [tsum]; rw [tsum_app, s1, s2, hz]; omega
  rw [hY] at hM
  have r1 := c_rowEnd (E := E) (d := d) (o := o) (g := g) (S := mst S R W c n) (p := tsum A + 5) (Q := X1 ++ [e1]) ta (by rw [s1]; omega) k1
  have r2 := c_rowEnd (E := E) (d := d) (o := o) (g := g) (S := mst S R W c n) (p := tsum A + 5 + (tsum X1 + 3)) (Q := X2 ++ [e2]) tb (by rw [s2]; omega) k2
  rw [s1] at r1
  rw [s2] at r2
  by_cases hs : it.2.2.2.1.2 = 0
  · rw [if_pos hs, if_pos hs]
    obtain ⟨R', W', w1, w2⟩ := choose_tail (E := E) (d := d) (o := o) (g := g) (S := S) (R := R) (W := W) (c := c) (n := n) (A := A) (X := X2) (Y := it :: ((X1 ++ [e1]) ++ (X2 ++ [e2]))) (C := C) (nm := it.2.1) (e := e2) (f := tsum A + 5 + (tsum X1 + 3)) (u := tsum A + 5 + (tsum X1 + 3) + tsum X2) (s3 := some (.int (nI (tsum A + 5 + tsum X1)))) (s5 := some (.int 1)) hM tb2.1 rfl te2 g2 (by omega) (by omega)
    refine ⟨R', W', ?_, w2⟩
    rw [hYs, show tsum A + (5 + (tsum X1 + 3) + (tsum X2 + 3)) - 3 = tsum A + 5 + (tsum X1 + 3) + tsum X2 by omega] at w1
    rw [← q3] at hc
    rw [← q4] at hs
    rw [← q1] at w1
    generalize tsum A = p at h8 hc hs r1 r2 w1 ⊢
    refine Rn.of (Nat.le_of_ble_eq_true rfl) ?_
    refine Rk.tr (F1 := (32, 1, _, _)) (x_aload_n rfl rfl rfl) ?_
    refine Rk.tr (F1 := (32, 4, _, _)) (m_get rfl rfl (Nat.le_of_ble_eq_true rfl)) ?_
    refine Rk.tr (F1 := (32, 5, _, _)) (x_iload_n rfl rfl) ?_
    refine Rk.tr (F1 := (32, 6, _, _)) (x_iconst rfl) ?_
    refine Rk.tr (F1 := (32, 7, _, _)) (x_iadd rfl) ?_
    refine Rk.tr (F1 := (32, 8, _, _)) (m_iald (k := 5) (n := p + 3) rfl rfl rfl (nI_add p 3) (show p + 3 < 800 by omega)) ?_
    refine Rk.tr (F1 := (32, 13, _, _)) (x_ifT rfl (tg := 13) rfl hc) ?_
    refine Rk.tr (F1 := (32, 14, _, _)) (x_aload_n rfl rfl rfl) ?_
    refine Rk.tr (F1 := (32, 17, _, _)) (m_get rfl rfl (Nat.le_of_ble_eq_true rfl)) ?_
    refine Rk.tr (F1 := (32, 18, _, _)) (x_iload_n rfl rfl) ?_
    refine Rk.tr (F1 := (32, 19, _, _)) (x_iconst rfl) ?_
    refine Rk.tr (F1 := (32, 20, _, _)) (x_iadd rfl) ?_
    refine Rk.tr (F1 := (32, 21, _, _)) (m_iald (k := 5) (n := p + 1) rfl rfl rfl (nI_1 p) (show p + 1 < 800 by omega)) ?_
    refine Rk.tr (F1 := (32, 22, [_, _, _, _, _, _, _, _, _, _], _)) (x_istore_n (i := 2) rfl (Nat.le_of_ble_eq_true rfl)) ?_
    refine Rk.tr (F1 := (32, 23, _, _)) (x_aload_n rfl rfl rfl) ?_
    refine Rk.tr (F1 := (32, 24, _, _)) (x_iload_n rfl rfl) ?_
    refine Rk.tr (F1 := (32, 25, _, _)) (x_iconst rfl) ?_
    refine Rk.tr (F1 := (32, 26, _, _)) (x_iadd rfl) ?_
    refine Rk.tr (F1 := (32, 26, _, _)) (x_top (nI_add p 5)) ?_
    refine Rk.tr (F1 := (32, 29, _, _)) (m_call (As := [_]) rfl rfl rfl (Or.inr rfl) rfl rfl rfl (Nat.le_of_ble_eq_true rfl) r1 rfl) ?_
    refine Rk.tr (F1 := (32, 29, _, _)) (x_top (y := nI (p + 5 + tsum X1)) (by congr 1)) ?_
    refine Rk.tr (F1 := (32, 30, [_, _, _, _, _, _, _, _, _, _], _)) (x_istore_n (i := 3) rfl (Nat.le_of_ble_eq_true rfl)) ?_
    refine Rk.tr (F1 := (32, 31, _, _)) (x_aload_n rfl rfl rfl) ?_
    refine Rk.tr (F1 := (32, 32, _, _)) (x_iload_n rfl rfl) ?_
    refine Rk.tr (F1 := (32, 33, _, _)) (x_iconst rfl) ?_
    refine Rk.tr (F1 := (32, 34, _, _)) (x_iadd rfl) ?_
    refine Rk.tr (F1 := (32, 34, _, _)) (x_top (y := nI (p + 5 + (tsum X1 + 3))) (by show nI (p + 5 + tsum X1) + nI 3 = _; rw [nI_add]; congr 1)) ?_
    refine Rk.tr (F1 := (32, 37, _, _)) (m_call (As := [_]) rfl rfl rfl (Or.inr rfl) rfl rfl rfl (Nat.le_of_ble_eq_true rfl) r2 rfl) ?_
    refine Rk.tr (F1 := (32, 37, _, _)) (x_top (y := nI (p + 5 + (tsum X1 + 3) + tsum X2)) (by congr 1)) ?_
    refine Rk.tr (F1 := (32, 39, [_, _, _, _, _, _, _, _, _, _], _)) (x_istore (i := 4) rfl (Nat.le_of_ble_eq_true rfl)) ?_
    refine Rk.tr (F1 := (32, 40, _, _)) (x_aload_n rfl rfl rfl) ?_
    refine Rk.tr (F1 := (32, 43, _, _)) (m_get rfl rfl (Nat.le_of_ble_eq_true rfl)) ?_
    refine Rk.tr (F1 := (32, 44, _, _)) (x_iload_n rfl rfl) ?_
    refine Rk.tr (F1 := (32, 45, _, _)) (x_iconst rfl) ?_
    refine Rk.tr (F1 := (32, 46, _, _)) (x_iadd rfl) ?_
    refine Rk.tr (F1 := (32, 47, _, _)) (m_iald (k := 5) (n := p + 4) rfl rfl rfl (nI_add p 4) (show p + 4 < 800 by omega)) ?_
    refine Rk.tr (F1 := (32, 50, _, _)) (x_ifF rfl (tg := 54) rfl (fun z => z hs)) ?_
    refine Rk.tr (F1 := (32, 51, _, _)) (x_iconst rfl) ?_
    refine Rk.tr (F1 := (32, 55, _, _)) (x_goto rfl rfl) ?_
    refine Rk.tr (F1 := (32, 57, [_, _, _, _, _, _, _, _, _, _], _)) (x_istore (i := 5) rfl (Nat.le_of_ble_eq_true rfl)) ?_
    refine Rk.tr (F1 := (32, 59, _, _)) (x_iload rfl rfl) ?_
    refine Rk.tr (F1 := (32, 62, _, _)) (x_ifF rfl (tg := 68) rfl (show ¬ Int32.ofInt 1 = 0 by decide)) ?_
    refine Rk.tr (F1 := (32, 63, _, _)) (x_iload_n rfl rfl) ?_
    refine Rk.tr (F1 := (32, 64, _, _)) (x_iconst rfl) ?_
    refine Rk.tr (F1 := (32, 65, _, _)) (x_iadd rfl) ?_
    refine Rk.tr (F1 := (32, 71, _, _)) (x_goto rfl rfl) ?_
    refine Rk.tr (F1 := (32, 71, _, _)) (x_top (y := nI (p + 5 + (tsum X1 + 3))) (by show nI (p + 5 + tsum X1) + nI 3 = _; rw [nI_add]; congr 1)) ?_
    refine Rk.tr (F1 := (32, 73, [_, _, _, _, _, _, _, _, _, _], _)) (x_istore (i := 6) rfl (Nat.le_of_ble_eq_true rfl)) ?_
    refine Rk.tr (F1 := (32, 75, _, _)) (x_iload rfl rfl) ?_
    refine Rk.tr (F1 := (32, 78, _, _)) (x_ifF rfl (tg := 83) rfl (show ¬ Int32.ofInt 1 = 0 by decide)) ?_
    refine Rk.tr (F1 := (32, 80, _, _)) (x_iload rfl rfl) ?_
    refine Rk.tr (F1 := (32, 84, _, _)) (x_goto rfl rfl) ?_
    refine Rk.tr (F1 := (32, 86, [_, _, _, _, _, _, _, _, _, _], _)) (x_istore (i := 7) rfl (Nat.le_of_ble_eq_true rfl)) ?_
    exact w1
  · rw [if_neg hs, if_neg hs]
    obtain ⟨R', W', w1, w2⟩ := choose_tail (E := E) (d := d) (o := o) (g := g) (S := S) (R := R) (W := W) (c := c) (n := n) (A := A) (X := X1) (Y := it :: ((X1 ++ [e1]) ++ (X2 ++ [e2]))) (C := C) (nm := it.2.1) (e := e1) (f := tsum A + 5) (u := tsum A + 5 + tsum X1) (s3 := some (.int (nI (tsum A + 5 + tsum X1)))) (s5 := some (.int 0)) hM ta2.1 rfl te1 g1 (by omega) (by omega)
    refine ⟨R', W', ?_, w2⟩
    rw [hYs, show tsum A + (5 + (tsum X1 + 3) + (tsum X2 + 3)) - 3 = tsum A + 5 + (tsum X1 + 3) + tsum X2 by omega] at w1
    rw [← q3] at hc
    rw [← q4] at hs
    rw [← q1] at w1
    generalize tsum A = p at h8 hc hs r1 r2 w1 ⊢
    refine Rn.of (Nat.le_of_ble_eq_true rfl) ?_
    refine Rk.tr (F1 := (32, 1, _, _)) (x_aload_n rfl rfl rfl) ?_
    refine Rk.tr (F1 := (32, 4, _, _)) (m_get rfl rfl (Nat.le_of_ble_eq_true rfl)) ?_
    refine Rk.tr (F1 := (32, 5, _, _)) (x_iload_n rfl rfl) ?_
    refine Rk.tr (F1 := (32, 6, _, _)) (x_iconst rfl) ?_
    refine Rk.tr (F1 := (32, 7, _, _)) (x_iadd rfl) ?_
    refine Rk.tr (F1 := (32, 8, _, _)) (m_iald (k := 5) (n := p + 3) rfl rfl rfl (nI_add p 3) (show p + 3 < 800 by omega)) ?_
    refine Rk.tr (F1 := (32, 13, _, _)) (x_ifT rfl (tg := 13) rfl hc) ?_
    refine Rk.tr (F1 := (32, 14, _, _)) (x_aload_n rfl rfl rfl) ?_
    refine Rk.tr (F1 := (32, 17, _, _)) (m_get rfl rfl (Nat.le_of_ble_eq_true rfl)) ?_
    refine Rk.tr (F1 := (32, 18, _, _)) (x_iload_n rfl rfl) ?_
    refine Rk.tr (F1 := (32, 19, _, _)) (x_iconst rfl) ?_
    refine Rk.tr (F1 := (32, 20, _, _)) (x_iadd rfl) ?_
    refine Rk.tr (F1 := (32, 21, _, _)) (m_iald (k := 5) (n := p + 1) rfl rfl rfl (nI_1 p) (show p + 1 < 800 by omega)) ?_
    refine Rk.tr (F1 := (32, 22, [_, _, _, _, _, _, _, _, _, _], _)) (x_istore_n (i := 2) rfl (Nat.le_of_ble_eq_true rfl)) ?_
    refine Rk.tr (F1 := (32, 23, _, _)) (x_aload_n rfl rfl rfl) ?_
    refine Rk.tr (F1 := (32, 24, _, _)) (x_iload_n rfl rfl) ?_
    refine Rk.tr (F1 := (32, 25, _, _)) (x_iconst rfl) ?_
    refine Rk.tr (F1 := (32, 26, _, _)) (x_iadd rfl) ?_
    refine Rk.tr (F1 := (32, 26, _, _)) (x_top (nI_add p 5)) ?_
    refine Rk.tr (F1 := (32, 29, _, _)) (m_call (As := [_]) rfl rfl rfl (Or.inr rfl) rfl rfl rfl (Nat.le_of_ble_eq_true rfl) r1 rfl) ?_
    refine Rk.tr (F1 := (32, 29, _, _)) (x_top (y := nI (p + 5 + tsum X1)) (by congr 1)) ?_
    refine Rk.tr (F1 := (32, 30, [_, _, _, _, _, _, _, _, _, _], _)) (x_istore_n (i := 3) rfl (Nat.le_of_ble_eq_true rfl)) ?_
    refine Rk.tr (F1 := (32, 31, _, _)) (x_aload_n rfl rfl rfl) ?_
    refine Rk.tr (F1 := (32, 32, _, _)) (x_iload_n rfl rfl) ?_
    refine Rk.tr (F1 := (32, 33, _, _)) (x_iconst rfl) ?_
    refine Rk.tr (F1 := (32, 34, _, _)) (x_iadd rfl) ?_
    refine Rk.tr (F1 := (32, 34, _, _)) (x_top (y := nI (p + 5 + (tsum X1 + 3))) (by show nI (p + 5 + tsum X1) + nI 3 = _; rw [nI_add]; congr 1)) ?_
    refine Rk.tr (F1 := (32, 37, _, _)) (m_call (As := [_]) rfl rfl rfl (Or.inr rfl) rfl rfl rfl (Nat.le_of_ble_eq_true rfl) r2 rfl) ?_
    refine Rk.tr (F1 := (32, 37, _, _)) (x_top (y := nI (p + 5 + (tsum X1 + 3) + tsum X2)) (by congr 1)) ?_
    refine Rk.tr (F1 := (32, 39, [_, _, _, _, _, _, _, _, _, _], _)) (x_istore (i := 4) rfl (Nat.le_of_ble_eq_true rfl)) ?_
    refine Rk.tr (F1 := (32, 40, _, _)) (x_aload_n rfl rfl rfl) ?_
    refine Rk.tr (F1 := (32, 43, _, _)) (m_get rfl rfl (Nat.le_of_ble_eq_true rfl)) ?_
    refine Rk.tr (F1 := (32, 44, _, _)) (x_iload_n rfl rfl) ?_
    refine Rk.tr (F1 := (32, 45, _, _)) (x_iconst rfl) ?_
    refine Rk.tr (F1 := (32, 46, _, _)) (x_iadd rfl) ?_
    refine Rk.tr (F1 := (32, 47, _, _)) (m_iald (k := 5) (n := p + 4) rfl rfl rfl (nI_add p 4) (show p + 4 < 800 by omega)) ?_
    refine Rk.tr (F1 := (32, 54, _, _)) (x_ifT rfl (tg := 54) rfl hs) ?_
    refine Rk.tr (F1 := (32, 55, _, _)) (x_iconst rfl) ?_
    refine Rk.tr (F1 := (32, 57, [_, _, _, _, _, _, _, _, _, _], _)) (x_istore (i := 5) rfl (Nat.le_of_ble_eq_true rfl)) ?_
    refine Rk.tr (F1 := (32, 59, _, _)) (x_iload rfl rfl) ?_
    refine Rk.tr (F1 := (32, 68, _, _)) (x_ifT rfl (tg := 68) rfl rfl) ?_
    refine Rk.tr (F1 := (32, 69, _, _)) (x_iload_n rfl rfl) ?_
    refine Rk.tr (F1 := (32, 70, _, _)) (x_iconst rfl) ?_
    refine Rk.tr (F1 := (32, 71, _, _)) (x_iadd rfl) ?_
    refine Rk.tr (F1 := (32, 71, _, _)) (x_top (nI_add p 5)) ?_
    refine Rk.tr (F1 := (32, 73, [_, _, _, _, _, _, _, _, _, _], _)) (x_istore (i := 6) rfl (Nat.le_of_ble_eq_true rfl)) ?_
    refine Rk.tr (F1 := (32, 75, _, _)) (x_iload rfl rfl) ?_
    refine Rk.tr (F1 := (32, 83, _, _)) (x_ifT rfl (tg := 83) rfl rfl) ?_
    refine Rk.tr (F1 := (32, 84, _, _)) (x_iload_n rfl rfl) ?_
    refine Rk.tr (F1 := (32, 86, [_, _, _, _, _, _, _, _, _, _], _)) (x_istore (i := 7) rfl (Nat.le_of_ble_eq_true rfl)) ?_
    exact w1
end M9
end
section
/-! ===== inline ===== -/
section M10
variable {E : PE} {d o : Nat} {g : PH} {S : MSt} {R W c : Nat → Int32} {n : Int32}
theorem c_inline_no {A B : List It} {it : It} (h3 : it.1 = 3) (hM : PM R n (A ++ it :: B)) (hc : ¬ (it.2.2.2.1.1 = 1 ∧ ¬ fnd it.2.2.2.1.2 (A ++ it :: B) 0 (-1) < 0 ∧ occ it.2.2.2.1.2 (A ++ it :: B) = 1)) :
    Rn E (d + 2) 35 [.ref o, .int (nI (tsum A))] (mh g o (mst S R W c n)) (some (.int (-1))) (mh g o (mst S R W c n)) := by
  obtain ⟨t1, h8, -⟩ := PM.it (P := []) hM
  have ho := occ_le it.2.2.2.1.2 (A ++ it :: B)
  have hM3 := hM.2.2
  have r1 := c_function (E := E) (d := d) (o := o) (g := g) (S := mst S R W c n) (nm := it.2.2.2.1.2) (P := A ++ it :: B) hM.2.1 (by omega) hM.1 rfl
  have r2 := c_occurs (E := E) (d := d) (o := o) (g := g) (S := mst S R W c n) (nm := it.2.2.2.1.2) (P := A ++ it :: B) hM.2.1 (by omega) hM.1 rfl
  obtain ⟨k, nm, dt, ⟨a1, a2⟩, b1, b2⟩ := it
  have h3 : k = 3 := h3
  subst h3
  have h8 : tsum A + 7 + tsum B ≤ 400 := h8
  simp only at r1 r2 hc ho
  generalize occ a2 (A ++ (3, nm, dt, (a1, a2), b1, b2) :: B) = oc at r2 hc ho
  generalize fnd a2 (A ++ (3, nm, dt, (a1, a2), b1, b2) :: B) 0 (-1) = fx at r1 hc
  generalize tsum A = p at t1 h8 ⊢
  obtain ⟨h0, rfl, h2, rfl, rfl, rfl, rfl⟩ := t1
  refine Rn.of (Nat.le_of_ble_eq_true rfl) ?_
  by_cases c1 : R (p + 3) = 1
  · by_cases c2 : fx < 0
    · skip
      refine Rk.tr (F1 := (35, 1, _, _)) (x_aload_n rfl rfl rfl) ?_
      refine Rk.tr (F1 := (35, 4, _, _)) (m_get rfl rfl (Nat.le_of_ble_eq_true rfl)) ?_
      refine Rk.tr (F1 := (35, 5, _, _)) (x_iload_n rfl rfl) ?_
      refine Rk.tr (F1 := (35, 6, _, _)) (x_iconst rfl) ?_
      refine Rk.tr (F1 := (35, 7, _, _)) (x_iadd rfl) ?_
      refine Rk.tr (F1 := (35, 8, _, _)) (m_iald (k := 5) (n := p + 3) rfl rfl rfl (nI_add p 3) (show p + 3 < 800 by omega)) ?_
      refine Rk.tr (F1 := (35, 9, _, _)) (x_iconst rfl) ?_
      refine Rk.tr (F1 := (35, 12, _, _)) (x_icF rfl (tg := 27) rfl (fun z => z c1)) ?_
      refine Rk.tr (F1 := (35, 13, _, _)) (x_aload_n rfl rfl rfl) ?_
      refine Rk.tr (F1 := (35, 14, _, _)) (x_aload_n rfl rfl rfl) ?_
      refine Rk.tr (F1 := (35, 17, _, _)) (m_get rfl rfl (Nat.le_of_ble_eq_true rfl)) ?_
      refine Rk.tr (F1 := (35, 18, _, _)) (x_iload_n rfl rfl) ?_
      refine Rk.tr (F1 := (35, 19, _, _)) (x_iconst rfl) ?_
      refine Rk.tr (F1 := (35, 20, _, _)) (x_iadd rfl) ?_
      refine Rk.tr (F1 := (35, 21, _, _)) (m_iald (k := 5) (n := p + 4) rfl rfl rfl (nI_add p 4) (show p + 4 < 800 by omega)) ?_
      refine Rk.tr (F1 := (35, 24, _, _)) (m_call (As := [_]) rfl rfl rfl (Or.inr rfl) rfl rfl rfl (Nat.le_of_ble_eq_true rfl) r1 rfl) ?_
      refine Rk.tr (F1 := (35, 28, _, _)) (x_goto rfl rfl) ?_
      refine Rk.tr (F1 := (35, 29, [_, _, _, _, _, _, _, _, _, _, _], _)) (x_istore_n (i := 2) rfl (Nat.le_of_ble_eq_true rfl)) ?_
      refine Rk.tr (F1 := (35, 30, _, _)) (x_iload_n rfl rfl) ?_
      refine Rk.tr (F1 := (35, 49, _, _)) (x_ifT rfl (tg := 49) rfl c2) ?_
      refine Rk.tr (F1 := (35, 50, _, _)) (x_iconst rfl) ?_
      exact Rk.end rfl (Or.inr (Or.inl ⟨rfl, _, .int, rfl, rfl, rfl, rfl⟩))
    · have c3 : ¬ nI oc = 1 := fun z => hc ⟨c1, c2, (nI_eq (by omega) (by decide)).mp z⟩
      refine Rk.tr (F1 := (35, 1, _, _)) (x_aload_n rfl rfl rfl) ?_
      refine Rk.tr (F1 := (35, 4, _, _)) (m_get rfl rfl (Nat.le_of_ble_eq_true rfl)) ?_
      refine Rk.tr (F1 := (35, 5, _, _)) (x_iload_n rfl rfl) ?_
      refine Rk.tr (F1 := (35, 6, _, _)) (x_iconst rfl) ?_
      refine Rk.tr (F1 := (35, 7, _, _)) (x_iadd rfl) ?_
      refine Rk.tr (F1 := (35, 8, _, _)) (m_iald (k := 5) (n := p + 3) rfl rfl rfl (nI_add p 3) (show p + 3 < 800 by omega)) ?_
      refine Rk.tr (F1 := (35, 9, _, _)) (x_iconst rfl) ?_
      refine Rk.tr (F1 := (35, 12, _, _)) (x_icF rfl (tg := 27) rfl (fun z => z c1)) ?_
      refine Rk.tr (F1 := (35, 13, _, _)) (x_aload_n rfl rfl rfl) ?_
      refine Rk.tr (F1 := (35, 14, _, _)) (x_aload_n rfl rfl rfl) ?_
      refine Rk.tr (F1 := (35, 17, _, _)) (m_get rfl rfl (Nat.le_of_ble_eq_true rfl)) ?_
      refine Rk.tr (F1 := (35, 18, _, _)) (x_iload_n rfl rfl) ?_
      refine Rk.tr (F1 := (35, 19, _, _)) (x_iconst rfl) ?_
      refine Rk.tr (F1 := (35, 20, _, _)) (x_iadd rfl) ?_
      refine Rk.tr (F1 := (35, 21, _, _)) (m_iald (k := 5) (n := p + 4) rfl rfl rfl (nI_add p 4) (show p + 4 < 800 by omega)) ?_
      refine Rk.tr (F1 := (35, 24, _, _)) (m_call (As := [_]) rfl rfl rfl (Or.inr rfl) rfl rfl rfl (Nat.le_of_ble_eq_true rfl) r1 rfl) ?_
      refine Rk.tr (F1 := (35, 28, _, _)) (x_goto rfl rfl) ?_
      refine Rk.tr (F1 := (35, 29, [_, _, _, _, _, _, _, _, _, _, _], _)) (x_istore_n (i := 2) rfl (Nat.le_of_ble_eq_true rfl)) ?_
      refine Rk.tr (F1 := (35, 30, _, _)) (x_iload_n rfl rfl) ?_
      refine Rk.tr (F1 := (35, 33, _, _)) (x_ifF rfl (tg := 49) rfl c2) ?_
      refine Rk.tr (F1 := (35, 34, _, _)) (x_aload_n rfl rfl rfl) ?_
      refine Rk.tr (F1 := (35, 35, _, _)) (x_aload_n rfl rfl rfl) ?_
      refine Rk.tr (F1 := (35, 38, _, _)) (m_get rfl rfl (Nat.le_of_ble_eq_true rfl)) ?_
      refine Rk.tr (F1 := (35, 39, _, _)) (x_iload_n rfl rfl) ?_
      refine Rk.tr (F1 := (35, 40, _, _)) (x_iconst rfl) ?_
      refine Rk.tr (F1 := (35, 41, _, _)) (x_iadd rfl) ?_
      refine Rk.tr (F1 := (35, 42, _, _)) (m_iald (k := 5) (n := p + 4) rfl rfl rfl (nI_add p 4) (show p + 4 < 800 by omega)) ?_
      refine Rk.tr (F1 := (35, 45, _, _)) (m_call (As := [_]) rfl rfl rfl (Or.inr rfl) rfl rfl rfl (Nat.le_of_ble_eq_true rfl) r2 rfl) ?_
      refine Rk.tr (F1 := (35, 46, _, _)) (x_iconst rfl) ?_
      refine Rk.tr (F1 := (35, 49, _, _)) (x_icF rfl (tg := 51) rfl c3) ?_
      refine Rk.tr (F1 := (35, 50, _, _)) (x_iconst rfl) ?_
      exact Rk.end rfl (Or.inr (Or.inl ⟨rfl, _, .int, rfl, rfl, rfl, rfl⟩))
  · skip
    refine Rk.tr (F1 := (35, 1, _, _)) (x_aload_n rfl rfl rfl) ?_
    refine Rk.tr (F1 := (35, 4, _, _)) (m_get rfl rfl (Nat.le_of_ble_eq_true rfl)) ?_
    refine Rk.tr (F1 := (35, 5, _, _)) (x_iload_n rfl rfl) ?_
    refine Rk.tr (F1 := (35, 6, _, _)) (x_iconst rfl) ?_
    refine Rk.tr (F1 := (35, 7, _, _)) (x_iadd rfl) ?_
    refine Rk.tr (F1 := (35, 8, _, _)) (m_iald (k := 5) (n := p + 3) rfl rfl rfl (nI_add p 3) (show p + 3 < 800 by omega)) ?_
    refine Rk.tr (F1 := (35, 9, _, _)) (x_iconst rfl) ?_
    refine Rk.tr (F1 := (35, 27, _, _)) (x_icT rfl (tg := 27) rfl c1) ?_
    refine Rk.tr (F1 := (35, 28, _, _)) (x_iconst rfl) ?_
    refine Rk.tr (F1 := (35, 29, [_, _, _, _, _, _, _, _, _, _, _], _)) (x_istore_n (i := 2) rfl (Nat.le_of_ble_eq_true rfl)) ?_
    refine Rk.tr (F1 := (35, 30, _, _)) (x_iload_n rfl rfl) ?_
    refine Rk.tr (F1 := (35, 49, _, _)) (x_ifT rfl (tg := 49) rfl (show Int32.ofInt (-1) < 0 by decide)) ?_
    refine Rk.tr (F1 := (35, 50, _, _)) (x_iconst rfl) ?_
    exact Rk.end rfl (Or.inr (Or.inl ⟨rfl, _, .int, rfl, rfl, rfl, rfl⟩))
theorem lp_piece2 {p q m : Nat} {v3 v4 v5 v6 v7 : Int32} (hm : q + 4 + m ≤ 800) : ∀ (r k : Nat), k + r = m →
    Ex E d (35, 111, [some (.ref o), some (.int (nI p)), some (.int (nI q)), some (.int v3), some (.int v4), some (.int v5), some (.int v6), some (.int v7), some (.int (nI m)), some (.int (nI k)), none], []) (mh g o (mst S R (rcp R W (q + 4) (q + 4 + k)) c n)) (35, 142, [some (.ref o), some (.int (nI p)), some (.int (nI q)), some (.int v3), some (.int v4), some (.int v5), some (.int v6), some (.int v7), some (.int (nI m)), none, none], []) (mh g o (mst S R (rcp R W (q + 4) (q + 4 + m)) c n)) := by
  intro r
  induction r with
  | zero =>
    intro k hk
    rcases (show k = m by omega) with rfl
    refine Ex.tr (F1 := (35, 113, _, _)) (x_iload rfl rfl) ?_
    refine Ex.tr (F1 := (35, 115, _, _)) (x_iload rfl rfl) ?_
    refine Ex.tr (F1 := (35, 142, _, _)) (x_icT rfl (tg := 142) rfl (by show nI k ≤ nI k; exact nI_le (Nat.le_refl _) (by omega))) ?_
    exact x_wk ⟨Or.inr rfl, Or.inr rfl, Or.inr rfl, Or.inr rfl, Or.inr rfl, Or.inr rfl, Or.inr rfl, Or.inr rfl, Or.inr rfl, Or.inl rfl, Or.inr rfl, trivial⟩
  | succ r ih =>
    intro k hk
    have h9 := ih (k + 1) (by omega)
    have hR : rup (rcp R W (q + 4) (q + 4 + k)) k (R (q + 4 + k)) = rcp R W (q + 4) (q + 4 + (k + 1)) := by
      funext z
      unfold rup rcp
      by_cases z1 : z = k
      · rw [if_pos z1, if_pos (by omega), z1]
      · rw [if_neg z1]
        by_cases z2 : q + 4 + z < q + 4 + k
        · rw [if_pos z2, if_pos (by omega)]
        · rw [if_neg z2, if_neg (by omega)]
    rw [← hR, ← mst_A6, ← nI_1 k] at h9
    refine Ex.tr (F1 := (35, 113, _, _)) (x_iload rfl rfl) ?_
    refine Ex.tr (F1 := (35, 115, _, _)) (x_iload rfl rfl) ?_
    refine Ex.tr (F1 := (35, 118, _, _)) (x_icF rfl (tg := 142) rfl (by show ¬ nI m ≤ nI k; exact nI_ge (by omega) (by omega))) ?_
    refine Ex.tr (F1 := (35, 119, _, _)) (x_aload_n rfl rfl rfl) ?_
    refine Ex.tr (F1 := (35, 122, _, _)) (m_get rfl rfl (Nat.le_of_ble_eq_true rfl)) ?_
    refine Ex.tr (F1 := (35, 124, _, _)) (x_iload rfl rfl) ?_
    refine Ex.tr (F1 := (35, 125, _, _)) (x_aload_n rfl rfl rfl) ?_
    refine Ex.tr (F1 := (35, 128, _, _)) (m_get rfl rfl (Nat.le_of_ble_eq_true rfl)) ?_
    refine Ex.tr (F1 := (35, 129, _, _)) (x_iload_n rfl rfl) ?_
    refine Ex.tr (F1 := (35, 130, _, _)) (x_iconst rfl) ?_
    refine Ex.tr (F1 := (35, 131, _, _)) (x_iadd rfl) ?_
    refine Ex.tr (F1 := (35, 133, _, _)) (x_iload rfl rfl) ?_
    refine Ex.tr (F1 := (35, 134, _, _)) (x_iadd rfl) ?_
    refine Ex.tr (F1 := (35, 135, _, _)) (m_iald (k := 5) (n := q + 4 + k) rfl rfl rfl (by show nI q + nI 4 + nI k = _; rw [nI_add, nI_add]) (show q + 4 + k < 800 by omega)) ?_
    refine Ex.tr (F1 := (35, 136, _, _)) (m_iast (k := 6) (n := k) rfl rfl rfl (Nat.le_of_ble_eq_true rfl) rfl (show k < 800 by omega)) ?_
    refine Ex.tr (F1 := (35, 139, [_, _, _, _, _, _, _, _, _, _, _], _)) (x_iinc (i := 9) rfl rfl) ?_
    refine Ex.tr (F1 := (35, 111, _, _)) (x_goto rfl rfl) ?_
    exact h9
theorem c_inline_yes {A1 X A2 B : List It} {F e it : It} (hF : F.1 = 2) (he : e.1 = 9) (h3 : it.1 = 3) (hM : PM R n (A1 ++ F :: ((X ++ [e]) ++ (A2 ++ it :: B)))) (hcl : closes 1 (X ++ [e]))
    (k1 : it.2.2.2.1.1 = 1) (k2 : fnd it.2.2.2.1.2 (A1 ++ F :: ((X ++ [e]) ++ (A2 ++ it :: B))) 0 (-1) = nI (tsum A1)) (k3 : occ it.2.2.2.1.2 (A1 ++ F :: ((X ++ [e]) ++ (A2 ++ it :: B))) = 1) :
    ∃ R' W' : Nat → Int32, Rn E (d + 2) 35 [.ref o, .int (nI (tsum A1 + 4 + (tsum X + 3) + tsum A2))] (mh g o (mst S R W c n)) (some (.int (nI (tsum A1 + tsum A2)))) (mh g o (mst S R' W' (rup c 2 (c 2 + 1)) (nI (tsum (A1 ++ (A2 ++ (X ++ B))))))) ∧
      TokAt R' 0 (((A1 ++ (A2 ++ (X ++ B))).map (isb F.2.2.1 it.2.2.2.2)).map (isb it.2.1 (sa F.2.2.1 it.2.2.2.2 e.2.2.2.1))) := by
  have z1 : isz e = 3 := by unfold isz; rw [he]; rfl
  have zF : isz F = 4 := by unfold isz; rw [hF]; rfl
  have zi : isz it = 7 := by unfold isz; rw [h3]; rfl
  have s1 : tsum (X ++ [e]) = tsum X + 3 := by rw [tsum_app]; simp only [tsum]; omega
  obtain ⟨m1, m2, m3⟩ := hM
  have hz : tsum (A1 ++ F :: ((X ++ [e]) ++ (A2 ++ it :: B))) = tsum A1 + 4 + (tsum X + 3) + tsum A2 + 7 + tsum B := by
    rw [tsum_app]
    simp only [tsum]
    rw [tsum_app (X ++ [e]) _, tsum_app A2 _, s1, zF]
    simp only [tsum]
    rw [zi]
    omega
  have r1 := c_function (E := E) (d := d) (o := o) (g := g) (S := mst S R W c n) (nm := it.2.2.2.1.2) (P := A1 ++ F :: ((X ++ [e]) ++ (A2 ++ it :: B))) m2 (by omega) m1 rfl
  have r2 := c_occurs (E := E) (d := d) (o := o) (g := g) (S := mst S R W c n) (nm := it.2.2.2.1.2) (P := A1 ++ F :: ((X ++ [e]) ++ (A2 ++ it :: B))) m2 (by omega) m1 rfl
  rw [k2] at r1
  rw [k3] at r2
  rw [hz] at m2 m3
  -- the pieces of the array
  have T0 := TokAt_app.mp m1
  have tF : Tok1 R (tsum A1) F := by have := T0.2.1; rw [Nat.zero_add] at this; exact this
  have T1 := T0.2.2
  rw [Nat.zero_add, zF] at T1
  obtain ⟨tBd, T2⟩ := TokAt_app.mp T1
  rw [s1] at T2
  have tX := (TokAt_app.mp tBd).1
  have te : Tok1 R (tsum A1 + 4 + tsum X) e := (TokAt_app.mp tBd).2.1
  have T3 := TokAt_app.mp T2
  have tit : Tok1 R (tsum A1 + 4 + (tsum X + 3) + tsum A2) it := T3.2.1
  -- the first cut
  have eA : A1 ++ F :: ((X ++ [e]) ++ (A2 ++ it :: B)) = (A1 ++ F :: ((X ++ [e]) ++ A2)) ++ ([it] ++ B) := by simp
  have sA : tsum (A1 ++ F :: ((X ++ [e]) ++ A2)) = tsum A1 + 4 + (tsum X + 3) + tsum A2 := by
    rw [tsum_app]
    simp only [tsum]
    rw [tsum_app (X ++ [e]) _, s1, zF]
    omega
  have si : tsum [it] = 7 := by simp only [tsum]; rw [zi]
  rw [eA] at m1 hz
  have c1 := TokAt_cut m1
  rw [hz, sA, si] at c1
  have hM3 : tsum A1 + 4 + (tsum X + 3) + tsum A2 + 7 + tsum B ≤ 400 := m3
  have sAB : tsum ((A1 ++ F :: ((X ++ [e]) ++ A2)) ++ B) = tsum A1 + 4 + (tsum X + 3) + tsum A2 + tsum B := by rw [tsum_app, sA]
  have ct1 := c_cut (E := E) (d := d + 1) (o := o) (g := g) (S := mst S R (rcp R W (tsum A1 + 4) (tsum A1 + 4 + tsum X)) c n) (f := tsum A1 + 4 + (tsum X + 3) + tsum A2) (u := tsum A1 + 4 + (tsum X + 3) + tsum A2 + 7) (len := tsum A1 + 4 + (tsum X + 3) + tsum A2 + 7 + tsum B) m2 (by omega) (by omega) (by omega)
  rw [mst_R, mst_4, show tsum A1 + 4 + (tsum X + 3) + tsum A2 + 7 + tsum B - (tsum A1 + 4 + (tsum X + 3) + tsum A2 + 7 - (tsum A1 + 4 + (tsum X + 3) + tsum A2)) = tsum A1 + 4 + (tsum X + 3) + tsum A2 + tsum B by omega] at ct1
  have ct1 : Rn E (d + 1) 28 [.ref o, .int (nI (tsum A1 + 4 + (tsum X + 3) + tsum A2)), .int (nI (tsum A1 + 4 + (tsum X + 3) + tsum A2 + 7))] (mh g o (mst S R (rcp R W (tsum A1 + 4) (tsum A1 + 4 + tsum X)) c n)) none (mh g o (mst S (rcut R (tsum A1 + 4 + (tsum X + 3) + tsum A2) (tsum A1 + 4 + (tsum X + 3) + tsum A2 + 7) (tsum A1 + 4 + (tsum X + 3) + tsum A2 + 7 + tsum B)) (rcp R W (tsum A1 + 4) (tsum A1 + 4 + tsum X)) c (nI (tsum A1 + 4 + (tsum X + 3) + tsum A2 + tsum B)))) := ct1
  generalize rcut R (tsum A1 + 4 + (tsum X + 3) + tsum A2) (tsum A1 + 4 + (tsum X + 3) + tsum A2 + 7) (tsum A1 + 4 + (tsum X + 3) + tsum A2 + 7 + tsum B) = R1 at c1 ct1
  -- insert
  have hW := rcp_tok (W := W) tX
  generalize hWe : rcp R W (tsum A1 + 4) (tsum A1 + 4 + tsum X) = W' at hW ct1
  have i1 := TokAt_ins c1 hW
  rw [sA, sAB] at i1
  have it1 := c_insert (E := E) (d := d + 1) (o := o) (g := g) (S := mst S R1 W' c (nI (tsum A1 + 4 + (tsum X + 3) + tsum A2 + tsum B))) (f := tsum A1 + 4 + (tsum X + 3) + tsum A2) (n := tsum X) (len := tsum A1 + 4 + (tsum X + 3) + tsum A2 + tsum B) rfl (by omega) (by omega)
  rw [mst_R, mst_4] at it1
  have it1 : Rn E (d + 1) 34 [.ref o, .int (nI (tsum A1 + 4 + (tsum X + 3) + tsum A2)), .int (nI (tsum X))] (mh g o (mst S R1 W' c (nI (tsum A1 + 4 + (tsum X + 3) + tsum A2 + tsum B)))) none (mh g o (mst S (rins R1 W' (tsum A1 + 4 + (tsum X + 3) + tsum A2) (tsum X) (tsum A1 + 4 + (tsum X + 3) + tsum A2 + tsum B)) W' c (nI (tsum A1 + 4 + (tsum X + 3) + tsum A2 + tsum B + tsum X)))) := it1
  generalize rins R1 W' (tsum A1 + 4 + (tsum X + 3) + tsum A2) (tsum X) (tsum A1 + 4 + (tsum X + 3) + tsum A2 + tsum B) = R2 at i1 it1
  -- the second cut
  have eB : (A1 ++ F :: ((X ++ [e]) ++ A2)) ++ (X ++ B) = A1 ++ ((F :: (X ++ [e])) ++ (A2 ++ (X ++ B))) := by simp
  have sFB : tsum (F :: (X ++ [e])) = 4 + (tsum X + 3) := by simp only [tsum]; rw [s1, zF]
  have sAll : tsum (A1 ++ ((F :: (X ++ [e])) ++ (A2 ++ (X ++ B)))) = tsum A1 + 4 + (tsum X + 3) + tsum A2 + tsum B + tsum X := by
    rw [← eB, tsum_app, sA, tsum_app]
    omega
  rw [eB] at i1
  have c2 := TokAt_cut i1
  rw [sAll, sFB] at c2
  have sEnd : tsum (A1 ++ (A2 ++ (X ++ B))) = tsum A1 + tsum A2 + tsum X + tsum B := by rw [tsum_app, tsum_app, tsum_app]; omega
  have ct2 := c_cut (E := E) (d := d + 1) (o := o) (g := g) (S := mst S R2 W' c (nI (tsum A1 + 4 + (tsum X + 3) + tsum A2 + tsum B + tsum X))) (f := tsum A1) (u := tsum A1 + (4 + (tsum X + 3))) (len := tsum A1 + 4 + (tsum X + 3) + tsum A2 + tsum B + tsum X) rfl (by omega) (by omega) (by omega)
  rw [mst_R, mst_4, show tsum A1 + 4 + (tsum X + 3) + tsum A2 + tsum B + tsum X - (tsum A1 + (4 + (tsum X + 3)) - tsum A1) = tsum (A1 ++ (A2 ++ (X ++ B))) by rw [sEnd]; omega] at ct2
  have ct2 : Rn E (d + 1) 28 [.ref o, .int (nI (tsum A1)), .int (nI (tsum A1 + (4 + (tsum X + 3))))] (mh g o (mst S R2 W' c (nI (tsum A1 + 4 + (tsum X + 3) + tsum A2 + tsum B + tsum X)))) none (mh g o (mst S (rcut R2 (tsum A1) (tsum A1 + (4 + (tsum X + 3))) (tsum A1 + 4 + (tsum X + 3) + tsum A2 + tsum B + tsum X)) W' c (nI (tsum (A1 ++ (A2 ++ (X ++ B))))))) := ct2
  generalize rcut R2 (tsum A1) (tsum A1 + (4 + (tsum X + 3))) (tsum A1 + 4 + (tsum X + 3) + tsum A2 + tsum B + tsum X) = R3 at c2 ct2
  -- the parameter, then the name
  obtain ⟨fk, fn, fp, fa, fb⟩ := F
  obtain ⟨ik, iv, idt, ⟨ia1, ia2⟩, ib1, ib2⟩ := it
  obtain ⟨ek, en, edt, ⟨ea1, ea2⟩, eb⟩ := e
  have hF : fk = 2 := hF
  have h3 : ik = 3 := h3
  have he : ek = 9 := he
  subst hF h3 he
  obtain ⟨R4, q1, q2⟩ := c_standsFor (E := E) (d := d) (o := o) (g := g) (S := mst S R3 W' c (nI (tsum (A1 ++ (A2 ++ (X ++ B)))))) (nm := fp) (bk := ib1) (bv := ib2) (P := A1 ++ (A2 ++ (X ++ B))) rfl (by omega) c2 rfl
  rw [mst_R] at q1
  have q3 := isb_sum fp (ib1, ib2) (A1 ++ (A2 ++ (X ++ B)))
  obtain ⟨R5, q4, q5⟩ := c_standsFor (E := E) (d := d) (o := o) (g := g) (S := mst S R4 W' c (nI (tsum (A1 ++ (A2 ++ (X ++ B)))))) (nm := iv) (bk := (sa fp (ib1, ib2) (ea1, ea2)).1) (bv := (sa fp (ib1, ib2) (ea1, ea2)).2) (P := (A1 ++ (A2 ++ (X ++ B))).map (isb fp (ib1, ib2))) rfl (by omega) q2 q3
  rw [mst_R] at q4
  refine ⟨R5, W', ?_, q5⟩
  rw [← mst_A7]
  have re := c_rowEnd (E := E) (d := d) (o := o) (g := g) (S := mst S R W c n) (p := tsum A1 + 4) (Q := X ++ [(9, en, edt, (ea1, ea2), eb)]) tBd (by rw [s1]; omega) hcl
  rw [s1] at re
  simp only at r1 r2 k1
  clear q5 q2 c1 c2 i1 hW sEnd sAll sFB eB sAB si sA eA T3 T2 T1 T0 hz hcl m1 tX k2 k3
  generalize tsum (A1 ++ (A2 ++ (X ++ B))) = tl at *
  generalize tsum A1 = q at *
  generalize tsum A2 = y2 at *
  generalize tsum B = yb at *
  generalize tsum X = x at *
  obtain ⟨w0, w1, w2, rfl⟩ := tF
  obtain ⟨u0, rfl, rfl⟩ := te
  generalize hp : q + 4 + (x + 3) + y2 = p at *
  obtain ⟨v0, rfl, v2, rfl, rfl, rfl, rfl⟩ := tit
  have hlp := lp_piece2 (E := E) (d := d + 2) (o := o) (g := g) (S := S) (R := R) (W := W) (c := c) (n := n) (p := p) (q := q) (m := x) (v3 := R (p + 1)) (v4 := R (p + 5)) (v5 := R (p + 6)) (v6 := R (q + 3)) (v7 := nI (q + 4 + x)) (by omega) x 0 (by omega)
  have hW0 : rcp R W (q + 4) (q + 4 + 0) = W := by
    funext z
    unfold rcp
    rw [if_neg (by omega)]
  rw [hW0, hWe] at hlp
  refine Rn.of (Nat.le_of_ble_eq_true rfl) ?_
  refine Rk.tr (F1 := (35, 1, _, _)) (x_aload_n rfl rfl rfl) ?_
  refine Rk.tr (F1 := (35, 4, _, _)) (m_get rfl rfl (Nat.le_of_ble_eq_true rfl)) ?_
  refine Rk.tr (F1 := (35, 5, _, _)) (x_iload_n rfl rfl) ?_
  refine Rk.tr (F1 := (35, 6, _, _)) (x_iconst rfl) ?_
  refine Rk.tr (F1 := (35, 7, _, _)) (x_iadd rfl) ?_
  refine Rk.tr (F1 := (35, 8, _, _)) (m_iald (k := 5) (n := p + 3) rfl rfl rfl (nI_add p 3) (show p + 3 < 800 by omega)) ?_
  refine Rk.tr (F1 := (35, 9, _, _)) (x_iconst rfl) ?_
  refine Rk.tr (F1 := (35, 12, _, _)) (x_icF rfl (tg := 27) rfl (fun z => z k1)) ?_
  refine Rk.tr (F1 := (35, 13, _, _)) (x_aload_n rfl rfl rfl) ?_
  refine Rk.tr (F1 := (35, 14, _, _)) (x_aload_n rfl rfl rfl) ?_
  refine Rk.tr (F1 := (35, 17, _, _)) (m_get rfl rfl (Nat.le_of_ble_eq_true rfl)) ?_
  refine Rk.tr (F1 := (35, 18, _, _)) (x_iload_n rfl rfl) ?_
  refine Rk.tr (F1 := (35, 19, _, _)) (x_iconst rfl) ?_
  refine Rk.tr (F1 := (35, 20, _, _)) (x_iadd rfl) ?_
  refine Rk.tr (F1 := (35, 21, _, _)) (m_iald (k := 5) (n := p + 4) rfl rfl rfl (nI_add p 4) (show p + 4 < 800 by omega)) ?_
  refine Rk.tr (F1 := (35, 24, _, _)) (m_call (As := [_]) rfl rfl rfl (Or.inr rfl) rfl rfl rfl (Nat.le_of_ble_eq_true rfl) r1 rfl) ?_
  refine Rk.tr (F1 := (35, 28, _, _)) (x_goto rfl rfl) ?_
  refine Rk.tr (F1 := (35, 29, [_, _, _, _, _, _, _, _, _, _, _], _)) (x_istore_n (i := 2) rfl (Nat.le_of_ble_eq_true rfl)) ?_
  refine Rk.tr (F1 := (35, 30, _, _)) (x_iload_n rfl rfl) ?_
  refine Rk.tr (F1 := (35, 33, _, _)) (x_ifF rfl (tg := 49) rfl (nI_pos (by omega))) ?_
  refine Rk.tr (F1 := (35, 34, _, _)) (x_aload_n rfl rfl rfl) ?_
  refine Rk.tr (F1 := (35, 35, _, _)) (x_aload_n rfl rfl rfl) ?_
  refine Rk.tr (F1 := (35, 38, _, _)) (m_get rfl rfl (Nat.le_of_ble_eq_true rfl)) ?_
  refine Rk.tr (F1 := (35, 39, _, _)) (x_iload_n rfl rfl) ?_
  refine Rk.tr (F1 := (35, 40, _, _)) (x_iconst rfl) ?_
  refine Rk.tr (F1 := (35, 41, _, _)) (x_iadd rfl) ?_
  refine Rk.tr (F1 := (35, 42, _, _)) (m_iald (k := 5) (n := p + 4) rfl rfl rfl (nI_add p 4) (show p + 4 < 800 by omega)) ?_
  refine Rk.tr (F1 := (35, 45, _, _)) (m_call (As := [_]) rfl rfl rfl (Or.inr rfl) rfl rfl rfl (Nat.le_of_ble_eq_true rfl) r2 rfl) ?_
  refine Rk.tr (F1 := (35, 46, _, _)) (x_iconst rfl) ?_
  refine Rk.tr (F1 := (35, 51, _, _)) (x_icT rfl (tg := 51) rfl rfl) ?_
  refine Rk.tr (F1 := (35, 52, _, _)) (x_aload_n rfl rfl rfl) ?_
  refine Rk.tr (F1 := (35, 55, _, _)) (m_get rfl rfl (Nat.le_of_ble_eq_true rfl)) ?_
  refine Rk.tr (F1 := (35, 56, _, _)) (x_iload_n rfl rfl) ?_
  refine Rk.tr (F1 := (35, 57, _, _)) (x_iconst rfl) ?_
  refine Rk.tr (F1 := (35, 58, _, _)) (x_iadd rfl) ?_
  refine Rk.tr (F1 := (35, 59, _, _)) (m_iald (k := 5) (n := p + 1) rfl rfl rfl (nI_1 p) (show p + 1 < 800 by omega)) ?_
  refine Rk.tr (F1 := (35, 60, [_, _, _, _, _, _, _, _, _, _, _], _)) (x_istore_n (i := 3) rfl (Nat.le_of_ble_eq_true rfl)) ?_
  refine Rk.tr (F1 := (35, 61, _, _)) (x_aload_n rfl rfl rfl) ?_
  refine Rk.tr (F1 := (35, 64, _, _)) (m_get rfl rfl (Nat.le_of_ble_eq_true rfl)) ?_
  refine Rk.tr (F1 := (35, 65, _, _)) (x_iload_n rfl rfl) ?_
  refine Rk.tr (F1 := (35, 66, _, _)) (x_iconst rfl) ?_
  refine Rk.tr (F1 := (35, 67, _, _)) (x_iadd rfl) ?_
  refine Rk.tr (F1 := (35, 68, _, _)) (m_iald (k := 5) (n := p + 5) rfl rfl rfl (nI_add p 5) (show p + 5 < 800 by omega)) ?_
  refine Rk.tr (F1 := (35, 70, [_, _, _, _, _, _, _, _, _, _, _], _)) (x_istore (i := 4) rfl (Nat.le_of_ble_eq_true rfl)) ?_
  refine Rk.tr (F1 := (35, 71, _, _)) (x_aload_n rfl rfl rfl) ?_
  refine Rk.tr (F1 := (35, 74, _, _)) (m_get rfl rfl (Nat.le_of_ble_eq_true rfl)) ?_
  refine Rk.tr (F1 := (35, 75, _, _)) (x_iload_n rfl rfl) ?_
  refine Rk.tr (F1 := (35, 77, _, _)) (x_bipush rfl) ?_
  refine Rk.tr (F1 := (35, 78, _, _)) (x_iadd rfl) ?_
  refine Rk.tr (F1 := (35, 79, _, _)) (m_iald (k := 5) (n := p + 6) rfl rfl rfl (nI_add p 6) (show p + 6 < 800 by omega)) ?_
  refine Rk.tr (F1 := (35, 81, [_, _, _, _, _, _, _, _, _, _, _], _)) (x_istore (i := 5) rfl (Nat.le_of_ble_eq_true rfl)) ?_
  refine Rk.tr (F1 := (35, 82, _, _)) (x_aload_n rfl rfl rfl) ?_
  refine Rk.tr (F1 := (35, 85, _, _)) (m_get rfl rfl (Nat.le_of_ble_eq_true rfl)) ?_
  refine Rk.tr (F1 := (35, 86, _, _)) (x_iload_n rfl rfl) ?_
  refine Rk.tr (F1 := (35, 87, _, _)) (x_iconst rfl) ?_
  refine Rk.tr (F1 := (35, 88, _, _)) (x_iadd rfl) ?_
  refine Rk.tr (F1 := (35, 89, _, _)) (m_iald (k := 5) (n := q + 3) rfl rfl rfl (nI_add q 3) (show q + 3 < 800 by omega)) ?_
  refine Rk.tr (F1 := (35, 91, [_, _, _, _, _, _, _, _, _, _, _], _)) (x_istore (i := 6) rfl (Nat.le_of_ble_eq_true rfl)) ?_
  refine Rk.tr (F1 := (35, 92, _, _)) (x_aload_n rfl rfl rfl) ?_
  refine Rk.tr (F1 := (35, 93, _, _)) (x_iload_n rfl rfl) ?_
  refine Rk.tr (F1 := (35, 94, _, _)) (x_iconst rfl) ?_
  refine Rk.tr (F1 := (35, 95, _, _)) (x_iadd rfl) ?_
  refine Rk.tr (F1 := (35, 95, _, _)) (x_top (nI_add q 4)) ?_
  refine Rk.tr (F1 := (35, 98, _, _)) (m_call (As := [_]) rfl rfl rfl (Or.inr rfl) rfl rfl rfl (Nat.le_of_ble_eq_true rfl) re rfl) ?_
  refine Rk.tr (F1 := (35, 98, _, _)) (x_top (y := nI (q + 4 + x)) (by congr 1)) ?_
  refine Rk.tr (F1 := (35, 100, [_, _, _, _, _, _, _, _, _, _, _], _)) (x_istore (i := 7) rfl (Nat.le_of_ble_eq_true rfl)) ?_
  refine Rk.tr (F1 := (35, 102, _, _)) (x_iload rfl rfl) ?_
  refine Rk.tr (F1 := (35, 103, _, _)) (x_iload_n rfl rfl) ?_
  refine Rk.tr (F1 := (35, 104, _, _)) (x_isub rfl) ?_
  refine Rk.tr (F1 := (35, 105, _, _)) (x_iconst rfl) ?_
  refine Rk.tr (F1 := (35, 106, _, _)) (x_isub rfl) ?_
  refine Rk.tr (F1 := (35, 106, _, _)) (x_top (y := nI x) (by show nI (q + 4 + x) - nI q - nI 4 = _; rw [pk_sub (by omega), pk_sub (by omega)]; congr 1; omega)) ?_
  refine Rk.tr (F1 := (35, 108, [_, _, _, _, _, _, _, _, _, _, _], _)) (x_istore (i := 8) rfl (Nat.le_of_ble_eq_true rfl)) ?_
  refine Rk.tr (F1 := (35, 109, _, _)) (x_iconst rfl) ?_
  refine Rk.tr (F1 := (35, 111, [_, _, _, _, _, _, _, _, _, _, _], _)) (x_istore (i := 9) rfl (Nat.le_of_ble_eq_true rfl)) ?_
  refine Rk.tr hlp ?_
  refine Rk.tr (F1 := (35, 143, _, _)) (x_aload_n rfl rfl rfl) ?_
  refine Rk.tr (F1 := (35, 146, _, _)) (m_get rfl rfl (Nat.le_of_ble_eq_true rfl)) ?_
  refine Rk.tr (F1 := (35, 148, _, _)) (x_iload rfl rfl) ?_
  refine Rk.tr (F1 := (35, 149, _, _)) (x_iconst rfl) ?_
  refine Rk.tr (F1 := (35, 150, _, _)) (x_iadd rfl) ?_
  refine Rk.tr (F1 := (35, 151, _, _)) (m_iald (k := 5) (n := q + 4 + x + 1) rfl rfl rfl (nI_1 _) (show q + 4 + x + 1 < 800 by omega)) ?_
  refine Rk.tr (F1 := (35, 153, [_, _, _, _, _, _, _, _, _, _, _], _)) (x_istore (i := 9) rfl (Nat.le_of_ble_eq_true rfl)) ?_
  refine Rk.tr (F1 := (35, 154, _, _)) (x_aload_n rfl rfl rfl) ?_
  refine Rk.tr (F1 := (35, 157, _, _)) (m_get rfl rfl (Nat.le_of_ble_eq_true rfl)) ?_
  refine Rk.tr (F1 := (35, 159, _, _)) (x_iload rfl rfl) ?_
  refine Rk.tr (F1 := (35, 160, _, _)) (x_iconst rfl) ?_
  refine Rk.tr (F1 := (35, 161, _, _)) (x_iadd rfl) ?_
  refine Rk.tr (F1 := (35, 162, _, _)) (m_iald (k := 5) (n := q + 4 + x + 2) rfl rfl rfl (nI_add _ 2) (show q + 4 + x + 2 < 800 by omega)) ?_
  refine Rk.tr (F1 := (35, 164, [_, _, _, _, _, _, _, _, _, _, _], _)) (x_istore (i := 10) rfl (Nat.le_of_ble_eq_true rfl)) ?_
  refine Rk.tr (F1 := (35, 165, _, _)) (x_aload_n rfl rfl rfl) ?_
  refine Rk.tr (F1 := (35, 166, _, _)) (x_iload_n rfl rfl) ?_
  refine Rk.tr (F1 := (35, 167, _, _)) (x_iload_n rfl rfl) ?_
  refine Rk.tr (F1 := (35, 169, _, _)) (x_bipush rfl) ?_
  refine Rk.tr (F1 := (35, 170, _, _)) (x_iadd rfl) ?_
  refine Rk.tr (F1 := (35, 170, _, _)) (x_top (nI_add p 7)) ?_
  refine Rk.tr (F1 := (35, 173, _, _)) (m_call (As := [_, _]) rfl rfl rfl (Or.inr rfl) rfl rfl rfl (Nat.le_of_ble_eq_true rfl) ct1 rfl) ?_
  refine Rk.tr (F1 := (35, 174, _, _)) (x_aload_n rfl rfl rfl) ?_
  refine Rk.tr (F1 := (35, 175, _, _)) (x_iload_n rfl rfl) ?_
  refine Rk.tr (F1 := (35, 177, _, _)) (x_iload rfl rfl) ?_
  refine Rk.tr (F1 := (35, 180, _, _)) (m_call (As := [_, _]) rfl rfl rfl (Or.inr rfl) rfl rfl rfl (Nat.le_of_ble_eq_true rfl) it1 rfl) ?_
  refine Rk.tr (F1 := (35, 181, _, _)) (x_aload_n rfl rfl rfl) ?_
  refine Rk.tr (F1 := (35, 182, _, _)) (x_iload_n rfl rfl) ?_
  refine Rk.tr (F1 := (35, 184, _, _)) (x_iload rfl rfl) ?_
  refine Rk.tr (F1 := (35, 185, _, _)) (x_iconst rfl) ?_
  refine Rk.tr (F1 := (35, 186, _, _)) (x_iadd rfl) ?_
  refine Rk.tr (F1 := (35, 186, _, _)) (x_top (y := nI (q + (4 + (x + 3)))) (by show nI (q + 4 + x) + nI 3 = _; rw [nI_add]; congr 1; omega)) ?_
  refine Rk.tr (F1 := (35, 189, _, _)) (m_call (As := [_, _]) rfl rfl rfl (Or.inr rfl) rfl rfl rfl (Nat.le_of_ble_eq_true rfl) ct2 rfl) ?_
  refine Rk.tr (F1 := (35, 190, _, _)) (x_aload_n rfl rfl rfl) ?_
  refine Rk.tr (F1 := (35, 192, _, _)) (x_iload rfl rfl) ?_
  refine Rk.tr (F1 := (35, 194, _, _)) (x_iload rfl rfl) ?_
  refine Rk.tr (F1 := (35, 196, _, _)) (x_iload rfl rfl) ?_
  refine Rk.tr (F1 := (35, 199, _, _)) (m_call (As := [_, _, _]) rfl rfl rfl (Or.inr rfl) rfl rfl rfl (Nat.le_of_ble_eq_true rfl) q1 rfl) ?_
  by_cases e1 : R (q + 4 + x + 1) = 1
  · by_cases e2 : R (q + 4 + x + 2) = R (q + 3)
    · have es : sa (R (q + 3)) (R (p + 5), R (p + 6)) (R (q + 4 + x + 1), R (q + 4 + x + 2)) = (R (p + 5), R (p + 6)) := if_pos (Prod.ext e1 e2)
      rw [es] at q4
      refine Rk.tr (F1 := (35, 201, _, _)) (x_iload rfl rfl) ?_
      refine Rk.tr (F1 := (35, 202, _, _)) (x_iconst rfl) ?_
      refine Rk.tr (F1 := (35, 205, _, _)) (x_icF rfl (tg := 220) rfl (fun z => z e1)) ?_
      refine Rk.tr (F1 := (35, 207, _, _)) (x_iload rfl rfl) ?_
      refine Rk.tr (F1 := (35, 209, _, _)) (x_iload rfl rfl) ?_
      refine Rk.tr (F1 := (35, 212, _, _)) (x_icF rfl (tg := 220) rfl (fun z => z e2)) ?_
      refine Rk.tr (F1 := (35, 214, _, _)) (x_iload rfl rfl) ?_
      refine Rk.tr (F1 := (35, 216, [_, _, _, _, _, _, _, _, _, _, _], _)) (x_istore (i := 9) rfl (Nat.le_of_ble_eq_true rfl)) ?_
      refine Rk.tr (F1 := (35, 218, _, _)) (x_iload rfl rfl) ?_
      refine Rk.tr (F1 := (35, 220, [_, _, _, _, _, _, _, _, _, _, _], _)) (x_istore (i := 10) rfl (Nat.le_of_ble_eq_true rfl)) ?_
      refine Rk.tr (F1 := (35, 221, _, _)) (x_aload_n rfl rfl rfl) ?_
      refine Rk.tr (F1 := (35, 222, _, _)) (x_iload_n rfl rfl) ?_
      refine Rk.tr (F1 := (35, 224, _, _)) (x_iload rfl rfl) ?_
      refine Rk.tr (F1 := (35, 226, _, _)) (x_iload rfl rfl) ?_
      refine Rk.tr (F1 := (35, 229, _, _)) (m_call (As := [_, _, _]) rfl rfl rfl (Or.inr rfl) rfl rfl rfl (Nat.le_of_ble_eq_true rfl) q4 rfl) ?_
      refine Rk.tr (F1 := (35, 230, _, _)) (x_aload_n rfl rfl rfl) ?_
      refine Rk.tr (F1 := (35, 233, _, _)) (m_get rfl rfl (Nat.le_of_ble_eq_true rfl)) ?_
      refine Rk.tr (F1 := (35, 234, _, _)) (x_iconst rfl) ?_
      refine Rk.tr (F1 := (35, 235, _, _)) (x_dup2 rfl rfl rfl) ?_
      refine Rk.tr (F1 := (35, 236, _, _)) (m_iald (k := 7) (n := 2) rfl rfl rfl rfl (Nat.le_of_ble_eq_true rfl)) ?_
      refine Rk.tr (F1 := (35, 237, _, _)) (x_iconst rfl) ?_
      refine Rk.tr (F1 := (35, 238, _, _)) (x_iadd rfl) ?_
      refine Rk.tr (F1 := (35, 239, _, _)) (m_iast (k := 7) (n := 2) rfl rfl rfl (Nat.le_of_ble_eq_true rfl) rfl (Nat.le_of_ble_eq_true rfl)) ?_
      refine Rk.tr (F1 := (35, 240, _, _)) (x_iload_n rfl rfl) ?_
      refine Rk.tr (F1 := (35, 242, _, _)) (x_iload rfl rfl) ?_
      refine Rk.tr (F1 := (35, 243, _, _)) (x_iconst rfl) ?_
      refine Rk.tr (F1 := (35, 244, _, _)) (x_iadd rfl) ?_
      refine Rk.tr (F1 := (35, 245, _, _)) (x_iload_n rfl rfl) ?_
      refine Rk.tr (F1 := (35, 246, _, _)) (x_isub rfl) ?_
      refine Rk.tr (F1 := (35, 247, _, _)) (x_isub rfl) ?_
      refine Rk.tr (F1 := (35, 247, _, _)) (x_top (y := nI (q + y2)) (by show nI p - (nI (q + 4 + x) + nI 3 - nI q) = _; rw [nI_add, pk_sub (by omega), pk_sub (by omega)]; congr 1; omega)) ?_
      exact Rk.end rfl (Or.inr (Or.inl ⟨rfl, _, .int, rfl, rfl, rfl, rfl⟩))
    · have es : sa (R (q + 3)) (R (p + 5), R (p + 6)) (R (q + 4 + x + 1), R (q + 4 + x + 2)) = (R (q + 4 + x + 1), R (q + 4 + x + 2)) := if_neg (fun z => e2 (Prod.ext_iff.mp z).2)
      rw [es] at q4
      refine Rk.tr (F1 := (35, 201, _, _)) (x_iload rfl rfl) ?_
      refine Rk.tr (F1 := (35, 202, _, _)) (x_iconst rfl) ?_
      refine Rk.tr (F1 := (35, 205, _, _)) (x_icF rfl (tg := 220) rfl (fun z => z e1)) ?_
      refine Rk.tr (F1 := (35, 207, _, _)) (x_iload rfl rfl) ?_
      refine Rk.tr (F1 := (35, 209, _, _)) (x_iload rfl rfl) ?_
      refine Rk.tr (F1 := (35, 220, _, _)) (x_icT rfl (tg := 220) rfl e2) ?_
      refine Rk.tr (F1 := (35, 221, _, _)) (x_aload_n rfl rfl rfl) ?_
      refine Rk.tr (F1 := (35, 222, _, _)) (x_iload_n rfl rfl) ?_
      refine Rk.tr (F1 := (35, 224, _, _)) (x_iload rfl rfl) ?_
      refine Rk.tr (F1 := (35, 226, _, _)) (x_iload rfl rfl) ?_
      refine Rk.tr (F1 := (35, 229, _, _)) (m_call (As := [_, _, _]) rfl rfl rfl (Or.inr rfl) rfl rfl rfl (Nat.le_of_ble_eq_true rfl) q4 rfl) ?_
      refine Rk.tr (F1 := (35, 230, _, _)) (x_aload_n rfl rfl rfl) ?_
      refine Rk.tr (F1 := (35, 233, _, _)) (m_get rfl rfl (Nat.le_of_ble_eq_true rfl)) ?_
      refine Rk.tr (F1 := (35, 234, _, _)) (x_iconst rfl) ?_
      refine Rk.tr (F1 := (35, 235, _, _)) (x_dup2 rfl rfl rfl) ?_
      refine Rk.tr (F1 := (35, 236, _, _)) (m_iald (k := 7) (n := 2) rfl rfl rfl rfl (Nat.le_of_ble_eq_true rfl)) ?_
      refine Rk.tr (F1 := (35, 237, _, _)) (x_iconst rfl) ?_
      refine Rk.tr (F1 := (35, 238, _, _)) (x_iadd rfl) ?_
      refine Rk.tr (F1 := (35, 239, _, _)) (m_iast (k := 7) (n := 2) rfl rfl rfl (Nat.le_of_ble_eq_true rfl) rfl (Nat.le_of_ble_eq_true rfl)) ?_
      refine Rk.tr (F1 := (35, 240, _, _)) (x_iload_n rfl rfl) ?_
      refine Rk.tr (F1 := (35, 242, _, _)) (x_iload rfl rfl) ?_
      refine Rk.tr (F1 := (35, 243, _, _)) (x_iconst rfl) ?_
      refine Rk.tr (F1 := (35, 244, _, _)) (x_iadd rfl) ?_
      refine Rk.tr (F1 := (35, 245, _, _)) (x_iload_n rfl rfl) ?_
      refine Rk.tr (F1 := (35, 246, _, _)) (x_isub rfl) ?_
      refine Rk.tr (F1 := (35, 247, _, _)) (x_isub rfl) ?_
      refine Rk.tr (F1 := (35, 247, _, _)) (x_top (y := nI (q + y2)) (by show nI p - (nI (q + 4 + x) + nI 3 - nI q) = _; rw [nI_add, pk_sub (by omega), pk_sub (by omega)]; congr 1; omega)) ?_
      exact Rk.end rfl (Or.inr (Or.inl ⟨rfl, _, .int, rfl, rfl, rfl, rfl⟩))
  · have es : sa (R (q + 3)) (R (p + 5), R (p + 6)) (R (q + 4 + x + 1), R (q + 4 + x + 2)) = (R (q + 4 + x + 1), R (q + 4 + x + 2)) := if_neg (fun z => e1 (Prod.ext_iff.mp z).1)
    rw [es] at q4
    refine Rk.tr (F1 := (35, 201, _, _)) (x_iload rfl rfl) ?_
    refine Rk.tr (F1 := (35, 202, _, _)) (x_iconst rfl) ?_
    refine Rk.tr (F1 := (35, 220, _, _)) (x_icT rfl (tg := 220) rfl e1) ?_
    refine Rk.tr (F1 := (35, 221, _, _)) (x_aload_n rfl rfl rfl) ?_
    refine Rk.tr (F1 := (35, 222, _, _)) (x_iload_n rfl rfl) ?_
    refine Rk.tr (F1 := (35, 224, _, _)) (x_iload rfl rfl) ?_
    refine Rk.tr (F1 := (35, 226, _, _)) (x_iload rfl rfl) ?_
    refine Rk.tr (F1 := (35, 229, _, _)) (m_call (As := [_, _, _]) rfl rfl rfl (Or.inr rfl) rfl rfl rfl (Nat.le_of_ble_eq_true rfl) q4 rfl) ?_
    refine Rk.tr (F1 := (35, 230, _, _)) (x_aload_n rfl rfl rfl) ?_
    refine Rk.tr (F1 := (35, 233, _, _)) (m_get rfl rfl (Nat.le_of_ble_eq_true rfl)) ?_
    refine Rk.tr (F1 := (35, 234, _, _)) (x_iconst rfl) ?_
    refine Rk.tr (F1 := (35, 235, _, _)) (x_dup2 rfl rfl rfl) ?_
    refine Rk.tr (F1 := (35, 236, _, _)) (m_iald (k := 7) (n := 2) rfl rfl rfl rfl (Nat.le_of_ble_eq_true rfl)) ?_
    refine Rk.tr (F1 := (35, 237, _, _)) (x_iconst rfl) ?_
    refine Rk.tr (F1 := (35, 238, _, _)) (x_iadd rfl) ?_
    refine Rk.tr (F1 := (35, 239, _, _)) (m_iast (k := 7) (n := 2) rfl rfl rfl (Nat.le_of_ble_eq_true rfl) rfl (Nat.le_of_ble_eq_true rfl)) ?_
    refine Rk.tr (F1 := (35, 240, _, _)) (x_iload_n rfl rfl) ?_
    refine Rk.tr (F1 := (35, 242, _, _)) (x_iload rfl rfl) ?_
    refine Rk.tr (F1 := (35, 243, _, _)) (x_iconst rfl) ?_
    refine Rk.tr (F1 := (35, 244, _, _)) (x_iadd rfl) ?_
    refine Rk.tr (F1 := (35, 245, _, _)) (x_iload_n rfl rfl) ?_
    refine Rk.tr (F1 := (35, 246, _, _)) (x_isub rfl) ?_
    refine Rk.tr (F1 := (35, 247, _, _)) (x_isub rfl) ?_
    refine Rk.tr (F1 := (35, 247, _, _)) (x_top (y := nI (q + y2)) (by show nI p - (nI (q + 4 + x) + nI 3 - nI q) = _; rw [nI_add, pk_sub (by omega), pk_sub (by omega)]; congr 1; omega)) ?_
    exact Rk.end rfl (Or.inr (Or.inl ⟨rfl, _, .int, rfl, rfl, rfl, rfl⟩))
end M10
end
section
/-! ===== programs: scopes, names, rows ===== -/
/-- the names that an item defines -/
def idf (it : It) : List Int32 := if it.1 = 9 then [] else if it.1 = 2 then [it.2.1, it.2.2.1] else [it.2.1]
def dfs (P : List It) : List Int32 := P.flatMap idf
/-- the open rows' names behind an item -/
def scn (e : List Int32) (stk : List (List Int32)) (it : It) : List (List Int32) :=
  if it.1 = 9 then stk else if it.1 = 2 then (it.2.2.1 :: e) :: (it.2.1 :: e) :: stk else if it.1 = 3 then (it.2.1 :: e) :: stk else if it.1 = 5 then (it.2.1 :: e) :: stk else e :: e :: (it.2.1 :: e) :: stk
/-- an item's atoms are numbers or names that are seen -/
def sca (e : List Int32) (it : It) : Prop := ∀ j, j < iat it → (iatm it j).1 = 0 ∨ ((iatm it j).1 = 1 ∧ (iatm it j).2 ∈ e)
def Sco : List (List Int32) → List It → Prop
  | stk, [] => stk = []
  | [], _ :: _ => False
  | e :: stk, it :: Q => sca e it ∧ Sco (scn e stk it) Q
/-- the stack behind a stretch -/
def rnk : List (List Int32) → List It → List (List Int32)
  | stk, [] => stk
  | [], _ :: _ => []
  | e :: stk, it :: Q => rnk (scn e stk it) Q
theorem Sco_rnk : ∀ {A B : List It} {stk : List (List Int32)}, Sco stk (A ++ B) → Sco (rnk stk A) B
  | [], B, stk, h => h
  | it :: A, B, [], h => h.elim
  | it :: A, B, e :: stk, h => Sco_rnk (A := A) h.2
theorem Sco_at {A B : List It} {it : It} {stk : List (List Int32)} (h : Sco stk (A ++ it :: B)) : ∃ (e : List Int32) (stk' : List (List Int32)), rnk stk A = e :: stk' ∧ sca e it ∧ Sco (scn e stk' it) B := by
  have h1 := Sco_rnk h
  cases hr : rnk stk A with
  | nil => rw [hr] at h1; exact h1.elim
  | cons e stk' => rw [hr] at h1; exact ⟨e, stk', rfl, h1.1, h1.2⟩
theorem dfs_app (A B : List It) : dfs (A ++ B) = dfs A ++ dfs B := by unfold dfs; rw [List.flatMap_append]
theorem dfs_cons (a : It) (B : List It) : dfs (a :: B) = idf a ++ dfs B := by unfold dfs; rw [List.flatMap_cons]
/-- what the stack holds came from it before, or was defined -/
theorem scn_in {e : List Int32} {stk : List (List Int32)} {it : It} {e' : List Int32} {x : Int32} (h : e' ∈ scn e stk it) (hx : x ∈ e') : (∃ e0 ∈ e :: stk, x ∈ e0) ∨ x ∈ idf it := by
  unfold scn at h
  unfold idf
  split at h
  · exact Or.inl ⟨e', List.mem_cons_of_mem _ h, hx⟩
  · rename_i h9
    rw [if_neg h9]
    split at h
    · rename_i h2
      rw [if_pos h2]
      simp only [List.mem_cons] at h
      rcases h with rfl | rfl | h
      · rcases List.mem_cons.mp hx with rfl | hx
        · exact Or.inr (by simp)
        · exact Or.inl ⟨e, List.mem_cons_self, hx⟩
      · rcases List.mem_cons.mp hx with rfl | hx
        · exact Or.inr (by simp)
        · exact Or.inl ⟨e, List.mem_cons_self, hx⟩
      · exact Or.inl ⟨e', List.mem_cons_of_mem _ h, hx⟩
    · rename_i h2
      rw [if_neg h2]
      split at h
      · simp only [List.mem_cons] at h
        rcases h with rfl | h
        · rcases List.mem_cons.mp hx with rfl | hx
          · exact Or.inr (by simp)
          · exact Or.inl ⟨e, List.mem_cons_self, hx⟩
        · exact Or.inl ⟨e', List.mem_cons_of_mem _ h, hx⟩
      · split at h
        · simp only [List.mem_cons] at h
          rcases h with rfl | h
          · rcases List.mem_cons.mp hx with rfl | hx
            · exact Or.inr (by simp)
            · exact Or.inl ⟨e, List.mem_cons_self, hx⟩
          · exact Or.inl ⟨e', List.mem_cons_of_mem _ h, hx⟩
        · simp only [List.mem_cons] at h
          rcases h with rfl | rfl | rfl | h
          · exact Or.inl ⟨_, List.mem_cons_self, hx⟩
          · exact Or.inl ⟨_, List.mem_cons_self, hx⟩
          · rcases List.mem_cons.mp hx with rfl | hx
            · exact Or.inr (by simp)
            · exact Or.inl ⟨e, List.mem_cons_self, hx⟩
          · exact Or.inl ⟨e', List.mem_cons_of_mem _ h, hx⟩
theorem rnk_in : ∀ {A : List It} {stk : List (List Int32)} {e' : List Int32} {x : Int32}, e' ∈ rnk stk A → x ∈ e' → (∃ e0 ∈ stk, x ∈ e0) ∨ x ∈ dfs A
  | [], stk, e', x, h, hx => Or.inl ⟨e', h, hx⟩
  | it :: A, [], e', x, h, hx => by simp [rnk] at h
  | it :: A, e :: stk, e', x, h, hx => by
    rw [dfs_cons]
    rcases rnk_in (A := A) (stk := scn e stk it) h hx with ⟨e0, h0, h1⟩ | h0
    · rcases scn_in h0 h1 with h2 | h2
      · exact Or.inl h2
      · exact Or.inr (List.mem_append_left _ h2)
    · exact Or.inr (List.mem_append_right _ h0)
theorem scn_app (e : List Int32) (es stk : List (List Int32)) (it : It) : scn e (es ++ stk) it = scn e es it ++ stk := by
  unfold scn
  split
  · rfl
  · split
    · rfl
    · split
      · rfl
      · split <;> rfl
theorem rnk_app : ∀ {A B : List It} {es stk : List (List Int32)}, Sco es (A ++ B) → B ≠ [] → rnk (es ++ stk) A = rnk es A ++ stk
  | [], B, es, stk, _, _ => rfl
  | it :: A, B, [], stk, h, _ => h.elim
  | it :: A, B, e :: es, stk, h, hB => by
    show rnk (scn e (es ++ stk) it) A = rnk (scn e es it) A ++ stk
    rw [scn_app]
    exact rnk_app h.2 hB
/-- the rows that are open, closed one after another -/
theorem scn_len (e : List Int32) (stk : List (List Int32)) (it : It) : (scn e stk it).length = if it.1 = 9 then stk.length else stk.length + 1 + irw it := by
  unfold scn irw
  rcases kd5 it.1 with h | h | h | h | ⟨n2, n3, n5, n9⟩
  · rw [h]; rfl
  · rw [h]; rfl
  · rw [h]; rfl
  · rw [h]; rfl
  · rw [if_neg n9, if_neg n2, if_neg n3, if_neg n5, if_neg n9]
    split <;> first | (rename_i z; exact absurd z (by assumption)) | rfl
theorem Sco_rows : ∀ (B : List It) (es stk : List (List Int32)), es ≠ [] → Sco (es ++ stk) B → ∃ Q C : List It, B = Q ++ C ∧ closes es.length Q ∧ Sco es Q ∧ Sco stk C
  | [], es, stk, hne, h => by
    have h : es ++ stk = [] := h
    exact absurd (List.append_eq_nil_iff.mp h).1 hne
  | it :: B, [], stk, hne, h => absurd rfl hne
  | it :: B, e :: es, stk, hne, h => by
    obtain ⟨h1, h2⟩ := h
    have h2 : Sco (scn e (es ++ stk) it) B := h2
    rw [scn_app] at h2
    have hl := scn_len e es it
    by_cases h9 : it.1 = 9
    · have e1 : scn e es it = es := by unfold scn; rw [if_pos h9]
      by_cases hes : es = []
      · refine ⟨[it], B, rfl, ?_, ⟨h1, ?_⟩, ?_⟩
        · show closes (e :: es).length [it]
          simp only [closes]
          rw [if_pos h9, hes]
          exact trivial
        · show Sco (scn e es it) []
          rw [e1, hes]
          rfl
        · rw [e1, hes] at h2
          exact h2
      · obtain ⟨Q, C, q1, q2, q3, q4⟩ := Sco_rows B (scn e es it) stk (by rw [e1]; exact hes) h2
        refine ⟨it :: Q, C, by rw [q1]; rfl, ?_, ⟨h1, q3⟩, q4⟩
        simp only [closes]
        rw [if_pos h9]
        have : 0 < es.length := List.length_pos_iff.mpr hes
        rw [if_neg (by simp only [List.length_cons]; omega)]
        rw [e1] at q2
        exact q2
    · rw [if_neg h9] at hl
      obtain ⟨Q, C, q1, q2, q3, q4⟩ := Sco_rows B (scn e es it) stk (fun z => by rw [z] at hl; simp only [List.length_nil] at hl; omega) h2
      refine ⟨it :: Q, C, by rw [q1]; rfl, ?_, ⟨h1, q3⟩, q4⟩
      simp only [closes]
      rw [if_neg h9]
      rw [hl] at q2
      rw [List.length_cons]
      exact q2
theorem closes_last : ∀ (Q : List It) (k : Nat), closes k Q → ∃ (X : List It) (r : It), Q = X ++ [r] ∧ r.1 = 9
  | [], k, h => h.elim
  | it :: Q, k, h => by
    simp only [closes] at h
    by_cases h9 : it.1 = 9
    · rw [if_pos h9] at h
      by_cases h1 : k = 1
      · rw [if_pos h1] at h
        exact ⟨[], it, by rw [h]; rfl, h9⟩
      · rw [if_neg h1] at h
        obtain ⟨X, r, q1, q2⟩ := closes_last Q _ h
        exact ⟨it :: X, r, by rw [q1]; rfl, q2⟩
    · rw [if_neg h9] at h
      obtain ⟨X, r, q1, q2⟩ := closes_last Q _ h
      exact ⟨it :: X, r, by rw [q1]; rfl, q2⟩
/-- the prefix that closes k rows -/
def rwl : Nat → List It → List It
  | _, [] => []
  | k, it :: Q => it :: (if it.1 = 9 then (if k = 1 then [] else rwl (k - 1) Q) else rwl (k + irw it) Q)
theorem rwl_of : ∀ (Q C : List It) (k : Nat), closes k Q → rwl k (Q ++ C) = Q
  | [], C, k, h => h.elim
  | it :: Q, C, k, h => by
    simp only [closes] at h
    simp only [List.cons_append, rwl]
    by_cases h9 : it.1 = 9
    · rw [if_pos h9] at h ⊢
      by_cases h1 : k = 1
      · rw [if_pos h1] at h ⊢
        rw [h]
      · rw [if_neg h1] at h ⊢
        rw [rwl_of Q C _ h]
    · rw [if_neg h9] at h ⊢
      rw [rwl_of Q C _ h]
/-! ===== where a function stands that is applied ===== -/
def ffn (f : Int32) : List It → List It → Option (List It × It × List It)
  | _, [] => none
  | pre, it :: Q => if it.1 = 2 ∧ it.2.1 = f then some (pre, it, Q) else ffn f (pre ++ [it]) Q
def noF (f : Int32) (P : List It) : Prop := ∀ it ∈ P, ¬ (it.1 = 2 ∧ it.2.1 = f)
theorem ffn_none {f : Int32} : ∀ {P pre : List It}, noF f P → ffn f pre P = none
  | [], pre, h => rfl
  | it :: P, pre, h => by
    unfold ffn
    rw [if_neg (h it List.mem_cons_self)]
    exact ffn_none (fun x hx => h x (List.mem_cons_of_mem _ hx))
theorem ffn_some {f : Int32} {F : It} {Q : List It} (hF : F.1 = 2 ∧ F.2.1 = f) : ∀ {A pre : List It}, noF f A → ffn f pre (A ++ F :: Q) = some (pre ++ A, F, Q)
  | [], pre, h => by
    show ffn f pre (F :: Q) = _
    unfold ffn
    rw [if_pos hF, List.append_nil]
  | it :: A, pre, h => by
    show ffn f pre (it :: (A ++ F :: Q)) = _
    unfold ffn
    rw [if_neg (h it List.mem_cons_self), ffn_some hF (fun x hx => h x (List.mem_cons_of_mem _ hx)), List.append_assoc]
    rfl
theorem fnd_none {f : Int32} : ∀ {P : List It} {p : Nat} {x : Int32}, noF f P → fnd f P p x = x
  | [], p, x, h => rfl
  | it :: P, p, x, h => by
    unfold fnd
    rw [if_neg (h it List.mem_cons_self)]
    exact fnd_none (fun y hy => h y (List.mem_cons_of_mem _ hy))
theorem fnd_some {f : Int32} {F : It} {Q : List It} (hF : F.1 = 2 ∧ F.2.1 = f) (hQ : noF f Q) : ∀ {A : List It} {p : Nat} {x : Int32}, noF f A → fnd f (A ++ F :: Q) p x = nI (p + tsum A)
  | [], p, x, h => by
    show fnd f (F :: Q) p x = _
    unfold fnd
    rw [if_pos hF, fnd_none hQ]
    rfl
  | it :: A, p, x, h => by
    show fnd f (it :: (A ++ F :: Q)) p x = _
    unfold fnd
    rw [if_neg (h it List.mem_cons_self), fnd_some hF hQ (fun y hy => h y (List.mem_cons_of_mem _ hy))]
    simp only [tsum]
    congr 1
    omega
theorem idf_F {F : It} {f : Int32} (hF : F.1 = 2 ∧ F.2.1 = f) : f ∈ idf F := by
  unfold idf
  rw [if_neg (by omega), if_pos hF.1, hF.2]
  exact List.mem_cons_self
theorem dfs_mem {f : Int32} {it : It} {P : List It} (h : it ∈ P) (hf : f ∈ idf it) : f ∈ dfs P := List.mem_flatMap.mpr ⟨it, h, hf⟩
/-- the function that an APPLY names: none in the program, or one whose row is over before the APPLY -/
theorem inl_where {A B : List It} {it : It} {f : Int32} (hS : Sco [[]] (A ++ it :: B)) (hN : (dfs (A ++ it :: B)).Nodup) (h3 : it.1 = 3) (ha : it.2.2.2.1 = (1, f)) :
    noF f (A ++ it :: B) ∨ ∃ (A1 : List It) (F : It) (X : List It) (r : It) (A2 : List It), A = A1 ++ F :: ((X ++ [r]) ++ A2) ∧ F.1 = 2 ∧ F.2.1 = f ∧ r.1 = 9 ∧ closes 1 (X ++ [r]) ∧ noF f A1 ∧ noF f ((X ++ [r]) ++ (A2 ++ it :: B)) := by
  by_cases hno : noF f (A ++ it :: B)
  · exact Or.inl hno
  · right
    -- the FUN
    have hex : ∃ F ∈ A ++ it :: B, F.1 = 2 ∧ F.2.1 = f := Classical.byContradiction fun z => hno (fun x hx hy => z ⟨x, hx, hy⟩)
    obtain ⟨F, hFm, hF⟩ := hex
    obtain ⟨P1, P2, hP⟩ := List.append_of_mem hFm
    -- names elsewhere
    have hN2 : (dfs P1 ++ (idf F ++ dfs P2)).Nodup := by rw [hP, dfs_app, dfs_cons] at hN; exact hN
    have n1 : f ∉ dfs P1 := fun z => (List.nodup_append.mp hN2).2.2 f z f (List.mem_append_left _ (idf_F hF)) rfl
    have n2 : f ∉ dfs P2 := fun z => (List.nodup_append.mp (List.nodup_append.mp hN2).2.1).2.2 f (idf_F hF) f z rfl
    have nP1 : noF f P1 := fun x hx hy => n1 (dfs_mem hx (idf_F hy))
    have nP2 : noF f P2 := fun x hx hy => n2 (dfs_mem hx (idf_F hy))
    have nD : f ≠ F.2.2.1 := by
      intro z
      have := (List.nodup_append.mp (List.nodup_append.mp hN2).2.1).1
      unfold idf at this
      rw [if_neg (by omega), if_pos hF.1, hF.2, z] at this
      simp at this
    -- the APPLY sees f
    obtain ⟨e, stk', hr, hsc, -⟩ := Sco_at hS
    have hfe : f ∈ e := by
      have h9 := hsc 0 (by unfold iat; rw [h3]; decide)
      have e0 : iatm it 0 = (1, f) := ha
      rw [e0] at h9
      rcases h9 with h9 | h9
      · exact absurd h9 (show ¬ (1 : Int32) = 0 by decide)
      · exact h9.2
    -- the stack at F
    have hS2 : Sco [[]] (P1 ++ F :: P2) := by rw [← hP]; exact hS
    obtain ⟨e0, stk0, hr0, -, hs0⟩ := Sco_at hS2
    have out : ∀ x ∈ rnk [[]] P1, f ∉ x := fun x hx hfx => by
      rcases rnk_in hx hfx with ⟨e1, h1, h2⟩ | h1
      · rw [List.mem_singleton.mp h1] at h2
        cases h2
      · exact n1 h1
    have hsF : scn e0 stk0 F = [F.2.2.1 :: e0] ++ ((F.2.1 :: e0) :: stk0) := by
      unfold scn
      rw [if_neg (by omega), if_pos hF.1]
      rfl
    rw [hsF] at hs0
    obtain ⟨Q, C, q1, q2, q3, q4⟩ := Sco_rows P2 [F.2.2.1 :: e0] _ (by simp) hs0
    obtain ⟨X, r, x1, x2⟩ := closes_last Q _ q2
    have fe0 : f ∉ e0 := out e0 (by rw [hr0]; exact List.mem_cons_self)
    -- where the APPLY stands
    rcases List.append_eq_append_iff.mp hP with ⟨a', h1, h2⟩ | ⟨c', h1, h2⟩
    · -- A ends before F
      exfalso
      cases a' with
      | nil =>
        simp at h2
        have := hF.1
        rw [← h2.1] at this
        omega
      | cons b a' =>
        have : rnk [[]] A = e :: stk' := hr
        rcases rnk_in (A := A) (stk := [[]]) (e' := e) (x := f) (by rw [this]; exact List.mem_cons_self) hfe with ⟨e1, g1, g2⟩ | g1
        · rw [List.mem_singleton.mp g1] at g2
          cases g2
        · apply n1
          rw [h1, dfs_app]
          exact List.mem_append_left _ g1
    · -- F lies in A
      cases c' with
      | nil =>
        exfalso
        simp at h2
        have := hF.1
        rw [h2.1] at this
        omega
      | cons b c' =>
        simp only [List.cons_append, List.cons.injEq] at h2
        obtain ⟨rfl, h2⟩ := h2
        -- A = P1 ++ F :: c', P2 = c' ++ it :: B = Q ++ C
        rw [q1] at h2
        rcases List.append_eq_append_iff.mp h2 with ⟨a2, g1, g2⟩ | ⟨c2, g1, g2⟩
        · -- Q is a prefix of c'
          refine ⟨P1, F, X, r, a2, by rw [h1, g1, x1], hF.1, hF.2, x2, by rw [← x1]; exact q2, nP1, ?_⟩
          rw [q1, g2, x1] at nP2
          exact nP2
        · -- the APPLY inside the row
          cases c2 with
          | nil =>
            refine ⟨P1, F, X, r, [], by rw [h1, List.append_nil, ← x1]; rw [g1]; simp, hF.1, hF.2, x2, by rw [← x1]; exact q2, nP1, ?_⟩
            rw [List.nil_append]
            rw [q1, x1] at nP2
            simp at g2
            rw [← g2] at nP2
            exact nP2
          | cons b2 c2 =>
            exfalso
            simp only [List.cons_append, List.cons.injEq] at g2
            obtain ⟨rfl, g2⟩ := g2
            rw [g1] at q3
            have ra := rnk_app (stk := (F.2.1 :: e0) :: stk0) q3 (by simp)
            have hA : rnk [[]] A = rnk ([F.2.2.1 :: e0] ++ ((F.2.1 :: e0) :: stk0)) c' := by
              rw [h1]
              have : ∀ (U V : List It) (s : List (List Int32)), rnk s (U ++ V) = rnk (rnk s U) V := by
                intro U
                induction U with
                | nil => intro V s; rfl
                | cons u U ih =>
                  intro V s
                  cases s with
                  | nil =>
                    show ([] : List (List Int32)) = rnk [] V
                    cases V <;> rfl
                  | cons s0 s => exact ih V _
              rw [this, hr0]
              show rnk (scn e0 stk0 F) c' = _
              rw [hsF]
            rw [ra, hr] at hA
            have hne := Sco_at q3
            obtain ⟨e3, s3, k1, -, -⟩ := hne
            rw [k1] at hA
            simp only [List.cons_append, List.cons.injEq] at hA
            have he3 : f ∈ e3 := by rw [← hA.1]; exact hfe
            rcases rnk_in (A := c') (stk := [F.2.2.1 :: e0]) (e' := e3) (x := f) (by rw [k1]; exact List.mem_cons_self) he3 with ⟨e4, w1, w2⟩ | w1
            · rw [List.mem_singleton.mp w1] at w2
              rcases List.mem_cons.mp w2 with w2 | w2
              · exact nD w2
              · exact fe0 w2
            · apply n2
              rw [q1, g1, dfs_app, dfs_app]
              exact List.mem_append_left _ (List.mem_append_left _ w1)
end
section
/-! ===== one step of a pass ===== -/
/-- the result of a row: its last item's atom -/
def rlast (Q : List It) : Int32 × Int32 := match Q.getLast? with
  | some r => r.2.2.2.1
  | none => (0, 0)
theorem rlast_of (X : List It) (r : It) : rlast (X ++ [r]) = r.2.2.2.1 := by
  unfold rlast
  rw [List.getLast?_append]
  rfl
/-- what a pass does at the item 'it' with A before and B behind it: which step, then before and behind -/
def stp (A : List It) (it : It) (B : List It) : Option (Nat × List It × List It) :=
  if it.1 = 9 then none
  else if it.1 = 5 then (if it.2.2.2.1.1 = 0 ∧ it.2.2.2.2.1 = 0 ∧ ¬ (it.2.2.1 = 3 ∧ it.2.2.2.2.2 = 0) then some (0, A.map (isb it.2.1 (0, opv it.2.2.1 it.2.2.2.1.2 it.2.2.2.2.2)), B.map (isb it.2.1 (0, opv it.2.2.1 it.2.2.2.1.2 it.2.2.2.2.2))) else none)
  else if it.1 = 3 then (if it.2.2.2.1.1 = 1 ∧ occ it.2.2.2.1.2 (A ++ it :: B) = 1 then
    (match ffn it.2.2.2.1.2 [] A with
    | some (A1, F, Q) => some (2, ((A1 ++ Q.drop (rwl 1 Q).length).map (isb F.2.2.1 it.2.2.2.2)).map (isb it.2.1 (sa F.2.2.1 it.2.2.2.2 (rlast (rwl 1 Q)))), (((rwl 1 Q).dropLast ++ B).map (isb F.2.2.1 it.2.2.2.2)).map (isb it.2.1 (sa F.2.2.1 it.2.2.2.2 (rlast (rwl 1 Q)))))
    | none => none) else none)
  else if it.1 = 2 then (if occ it.2.1 (A ++ it :: B) = 0 then some (3, A, B.drop (rwl 1 B).length) else none)
  else (if it.2.2.2.1.1 = 0 then
    (let R1 := rwl 1 B
     let B1 := B.drop R1.length
     let R2 := rwl 1 B1
     let ch := if it.2.2.2.1.2 = 0 then R2 else R1
     some (1, A.map (isb it.2.1 (rlast ch)), (ch.dropLast ++ B1.drop R2.length).map (isb it.2.1 (rlast ch)))) else none)
/-- what holds of a program at any time -/
def Inv (P : List It) : Prop := Sco [[]] P ∧ (dfs P).Nodup ∧ tsum P ≤ 210
/-- an item's rows behind it -/
theorem Inv_fun {A B : List It} {it : It} (hI : Inv (A ++ it :: B)) (h2 : it.1 = 2) : ∃ (X : List It) (r : It) (C : List It), B = (X ++ [r]) ++ C ∧ r.1 = 9 ∧ closes 1 (X ++ [r]) := by
  obtain ⟨e, stk, hr, hs, hB⟩ := Sco_at hI.1
  have e1 : scn e stk it = [it.2.2.1 :: e] ++ ((it.2.1 :: e) :: stk) := by
    unfold scn
    rw [if_neg (by omega), if_pos h2]
    rfl
  rw [e1] at hB
  obtain ⟨Q, C, q1, q2, q3, q4⟩ := Sco_rows B _ _ (by simp) hB
  obtain ⟨X, r, x1, x2⟩ := closes_last Q _ q2
  exact ⟨X, r, C, by rw [q1, x1], x2, by rw [← x1]; exact q2⟩
theorem Inv_if {A B : List It} {it : It} (hI : Inv (A ++ it :: B)) (h2 : it.1 ≠ 2) (h3 : it.1 ≠ 3) (h5 : it.1 ≠ 5) (h9 : it.1 ≠ 9) : ∃ (X1 : List It) (r1 : It) (X2 : List It) (r2 : It) (C : List It), B = (X1 ++ [r1]) ++ ((X2 ++ [r2]) ++ C) ∧ r1.1 = 9 ∧ r2.1 = 9 ∧ closes 1 (X1 ++ [r1]) ∧ closes 1 (X2 ++ [r2]) := by
  obtain ⟨e, stk, hr, hs, hB⟩ := Sco_at hI.1
  have e1 : scn e stk it = [e] ++ ([e] ++ ((it.2.1 :: e) :: stk)) := by
    unfold scn
    rw [if_neg h9, if_neg h2, if_neg h3, if_neg h5]
    rfl
  rw [e1] at hB
  obtain ⟨Q, C, q1, q2, q3, q4⟩ := Sco_rows B _ _ (by simp) hB
  obtain ⟨X, r, x1, x2⟩ := closes_last Q _ q2
  obtain ⟨Q2, C2, p1, p2, p3, p4⟩ := Sco_rows C _ _ (by simp) q4
  obtain ⟨X2, r2, y1, y2⟩ := closes_last Q2 _ p2
  exact ⟨X, r, X2, r2, C2, by rw [q1, x1, p1, y1], x2, y2, by rw [← x1]; exact q2, by rw [← y1]; exact p2⟩
theorem drop_app (Q C : List It) : (Q ++ C).drop Q.length = C := by simp
theorem dl_app (X : List It) (r : It) : (X ++ [r]).dropLast = X := by simp
theorem stp_if {A X1 X2 C : List It} {it r1 r2 : It} (h2 : it.1 ≠ 2) (h3 : it.1 ≠ 3) (h5 : it.1 ≠ 5) (h9 : it.1 ≠ 9) (k1 : closes 1 (X1 ++ [r1])) (k2 : closes 1 (X2 ++ [r2])) (hc : it.2.2.2.1.1 = 0) :
    stp A it ((X1 ++ [r1]) ++ ((X2 ++ [r2]) ++ C)) = some (1, A.map (isb it.2.1 (if it.2.2.2.1.2 = 0 then r2 else r1).2.2.2.1), ((if it.2.2.2.1.2 = 0 then X2 else X1) ++ C).map (isb it.2.1 (if it.2.2.2.1.2 = 0 then r2 else r1).2.2.2.1)) := by
  unfold stp
  rw [if_neg h9, if_neg h5, if_neg h3, if_neg h2, if_pos hc]
  simp only [rwl_of _ _ _ k1, drop_app, rwl_of _ _ _ k2]
  by_cases hs : it.2.2.2.1.2 = 0
  · simp only [if_pos hs, dl_app, rlast_of]
  · simp only [if_neg hs, dl_app, rlast_of]
theorem stp_drop {A X C : List It} {it r : It} (h2 : it.1 = 2) (k1 : closes 1 (X ++ [r])) (hc : occ it.2.1 (A ++ it :: ((X ++ [r]) ++ C)) = 0) : stp A it ((X ++ [r]) ++ C) = some (3, A, C) := by
  unfold stp
  rw [if_neg (by omega), if_neg (by omega), if_neg (by omega), if_pos h2, if_pos hc, rwl_of _ _ _ k1, drop_app]
theorem stp_inl {A1 X A2 B : List It} {F r it : It} (h3 : it.1 = 3) (hF : F.1 = 2 ∧ F.2.1 = it.2.2.2.1.2) (hn : noF it.2.2.2.1.2 A1) (k1 : closes 1 (X ++ [r])) (ha : it.2.2.2.1.1 = 1) (hc : occ it.2.2.2.1.2 ((A1 ++ F :: ((X ++ [r]) ++ A2)) ++ it :: B) = 1) :
    stp (A1 ++ F :: ((X ++ [r]) ++ A2)) it B = some (2, ((A1 ++ A2).map (isb F.2.2.1 it.2.2.2.2)).map (isb it.2.1 (sa F.2.2.1 it.2.2.2.2 r.2.2.2.1)), ((X ++ B).map (isb F.2.2.1 it.2.2.2.2)).map (isb it.2.1 (sa F.2.2.1 it.2.2.2.2 r.2.2.2.1))) := by
  unfold stp
  rw [if_neg (by omega), if_neg (by omega), if_pos h3, if_pos ⟨ha, hc⟩, ffn_some hF hn]
  simp only [rwl_of _ _ _ k1, drop_app, dl_app, rlast_of, List.nil_append]
section M11
variable {E : PE} {d o : Nat} {g : PH} {S : MSt} {R W c : Nat → Int32} {n : Int32}
theorem c_step_no {A B : List It} {it : It} (h9 : it.1 ≠ 9) (hI : Inv (A ++ it :: B)) (hM : PM R n (A ++ it :: B)) (hs : stp A it B = none) :
    Rn E (d + 3) 25 [.ref o, .int (nI (tsum A))] (mh g o (mst S R W c n)) (some (.int (-1))) (mh g o (mst S R W c n)) := by
  obtain ⟨t1, h8, -⟩ := PM.it (P := []) hM
  have hz := isz_ge it
  rcases kd5 it.1 with h | h | h | h | ⟨n2, n3, n5, n9⟩
  · have hc : 0 < occ it.2.1 (A ++ it :: B) := by
      rcases Nat.eq_zero_or_pos (occ it.2.1 (A ++ it :: B)) with z | z
      · unfold stp at hs
        rw [if_neg (by omega), if_neg (by omega), if_neg (by omega), if_pos h, if_pos z] at hs
        cases hs
      · exact z
    have call := c_drop_no (E := E) (d := d) (o := o) (g := g) (S := S) (W := W) (c := c) h hM hc
    have hk : R (tsum A + 2) = 2 := (Tok1_k2 t1 h9).mpr h
    generalize tsum A = p at h8 hk call ⊢
    refine Rn.of (Nat.le_of_ble_eq_true rfl) ?_
    refine Rk.tr (F1 := (25, 1, _, _)) (x_aload_n rfl rfl rfl) ?_
    refine Rk.tr (F1 := (25, 4, _, _)) (m_get rfl rfl (Nat.le_of_ble_eq_true rfl)) ?_
    refine Rk.tr (F1 := (25, 5, _, _)) (x_iload_n rfl rfl) ?_
    refine Rk.tr (F1 := (25, 6, _, _)) (x_iconst rfl) ?_
    refine Rk.tr (F1 := (25, 7, _, _)) (x_iadd rfl) ?_
    refine Rk.tr (F1 := (25, 8, _, _)) (m_iald (k := 5) (n := p + 2) rfl rfl rfl (nI_add p 2) (show p + 2 < 800 by omega)) ?_
    refine Rk.tr (F1 := (25, 8, _, _)) (x_top (y := 2) hk) ?_
    refine Rk.tr (F1 := (25, 58, _, _)) (x_tswOut (tg := 58) rfl (by decide) rfl) ?_
    refine Rk.tr (F1 := (25, 59, _, _)) (x_aload_n rfl rfl rfl) ?_
    refine Rk.tr (F1 := (25, 60, _, _)) (x_iload_n rfl rfl) ?_
    refine Rk.tr (F1 := (25, 63, _, _)) (m_call (As := [_]) rfl rfl rfl (Or.inr rfl) rfl rfl rfl (Nat.le_of_ble_eq_true rfl) call rfl) ?_
    exact Rk.end rfl (Or.inr (Or.inl ⟨rfl, _, .int, rfl, rfl, rfl, rfl⟩))
  · have hc : ¬ (it.2.2.2.1.1 = 1 ∧ ¬ fnd it.2.2.2.1.2 (A ++ it :: B) 0 (-1) < 0 ∧ occ it.2.2.2.1.2 (A ++ it :: B) = 1) := by
      rintro ⟨z1, z2, z3⟩
      rcases inl_where (f := it.2.2.2.1.2) hI.1 hI.2.1 h (Prod.ext z1 rfl) with z | ⟨A1, F, X, r, A2, e1, e2, e3, e4, e5, e6, e7⟩
      · rw [fnd_none z] at z2
        exact z2 (by decide)
      · rw [e1] at hs z3
        rw [stp_inl h ⟨e2, e3⟩ e6 e5 z1 z3] at hs
        cases hs
    have call := c_inline_no (E := E) (d := d) (o := o) (g := g) (S := S) (W := W) (c := c) h hM hc
    have hk : R (tsum A + 2) = 3 := by
      obtain ⟨k, nm, dt, ⟨a1, a2⟩, b1, b2⟩ := it
      have h : k = 3 := h
      subst h
      exact t1.2.2.1
    generalize tsum A = p at h8 hk call ⊢
    refine Rn.of (Nat.le_of_ble_eq_true rfl) ?_
    refine Rk.tr (F1 := (25, 1, _, _)) (x_aload_n rfl rfl rfl) ?_
    refine Rk.tr (F1 := (25, 4, _, _)) (m_get rfl rfl (Nat.le_of_ble_eq_true rfl)) ?_
    refine Rk.tr (F1 := (25, 5, _, _)) (x_iload_n rfl rfl) ?_
    refine Rk.tr (F1 := (25, 6, _, _)) (x_iconst rfl) ?_
    refine Rk.tr (F1 := (25, 7, _, _)) (x_iadd rfl) ?_
    refine Rk.tr (F1 := (25, 8, _, _)) (m_iald (k := 5) (n := p + 2) rfl rfl rfl (nI_add p 2) (show p + 2 < 800 by omega)) ?_
    refine Rk.tr (F1 := (25, 8, _, _)) (x_top (y := 3) hk) ?_
    refine Rk.tr (F1 := (25, 52, _, _)) (x_tswIn (tg := 52) rfl (by decide) (by decide) rfl rfl) ?_
    refine Rk.tr (F1 := (25, 53, _, _)) (x_aload_n rfl rfl rfl) ?_
    refine Rk.tr (F1 := (25, 54, _, _)) (x_iload_n rfl rfl) ?_
    refine Rk.tr (F1 := (25, 57, _, _)) (m_call (As := [_]) rfl rfl rfl (Or.inr rfl) rfl rfl rfl (Nat.le_of_ble_eq_true rfl) call rfl) ?_
    exact Rk.end rfl (Or.inr (Or.inl ⟨rfl, _, .int, rfl, rfl, rfl, rfl⟩))
  · have hc : ¬ (it.2.2.2.1.1 = 0 ∧ it.2.2.2.2.1 = 0 ∧ ¬ (it.2.2.1 = 3 ∧ it.2.2.2.2.2 = 0)) := by
      intro z
      unfold stp at hs
      rw [if_neg (by omega), if_pos h, if_pos z] at hs
      cases hs
    have call := c_fold_no (E := E) (d := d + 2) (o := o) (g := g) (S := S) (W := W) (c := c) h hM hc
    have hk : R (tsum A + 2) = 5 := by
      obtain ⟨k, nm, dt, ⟨a1, a2⟩, b1, b2⟩ := it
      have h : k = 5 := h
      subst h
      exact t1.2.2.1
    generalize tsum A = p at h8 hk call ⊢
    refine Rn.of (Nat.le_of_ble_eq_true rfl) ?_
    refine Rk.tr (F1 := (25, 1, _, _)) (x_aload_n rfl rfl rfl) ?_
    refine Rk.tr (F1 := (25, 4, _, _)) (m_get rfl rfl (Nat.le_of_ble_eq_true rfl)) ?_
    refine Rk.tr (F1 := (25, 5, _, _)) (x_iload_n rfl rfl) ?_
    refine Rk.tr (F1 := (25, 6, _, _)) (x_iconst rfl) ?_
    refine Rk.tr (F1 := (25, 7, _, _)) (x_iadd rfl) ?_
    refine Rk.tr (F1 := (25, 8, _, _)) (m_iald (k := 5) (n := p + 2) rfl rfl rfl (nI_add p 2) (show p + 2 < 800 by omega)) ?_
    refine Rk.tr (F1 := (25, 8, _, _)) (x_top (y := 5) hk) ?_
    refine Rk.tr (F1 := (25, 40, _, _)) (x_tswIn (tg := 40) rfl (by decide) (by decide) rfl rfl) ?_
    refine Rk.tr (F1 := (25, 41, _, _)) (x_aload_n rfl rfl rfl) ?_
    refine Rk.tr (F1 := (25, 42, _, _)) (x_iload_n rfl rfl) ?_
    refine Rk.tr (F1 := (25, 45, _, _)) (m_call (As := [_]) rfl rfl rfl (Or.inr rfl) rfl rfl rfl (Nat.le_of_ble_eq_true rfl) call rfl) ?_
    exact Rk.end rfl (Or.inr (Or.inl ⟨rfl, _, .int, rfl, rfl, rfl, rfl⟩))
  · exact absurd h h9
  · have hc : ¬ it.2.2.2.1.1 = 0 := by
      intro z
      unfold stp at hs
      rw [if_neg n9, if_neg n5, if_neg n3, if_neg n2, if_pos z] at hs
      cases hs
    have call := c_choose_no (E := E) (d := d + 2) (o := o) (g := g) (S := S) (W := W) (c := c) n2 n3 n5 n9 hM hc
    have hk : R (tsum A + 2) = 6 := (Tok1_if n2 n3 n5 n9 t1).1.2.2.1
    generalize tsum A = p at h8 hk call ⊢
    refine Rn.of (Nat.le_of_ble_eq_true rfl) ?_
    refine Rk.tr (F1 := (25, 1, _, _)) (x_aload_n rfl rfl rfl) ?_
    refine Rk.tr (F1 := (25, 4, _, _)) (m_get rfl rfl (Nat.le_of_ble_eq_true rfl)) ?_
    refine Rk.tr (F1 := (25, 5, _, _)) (x_iload_n rfl rfl) ?_
    refine Rk.tr (F1 := (25, 6, _, _)) (x_iconst rfl) ?_
    refine Rk.tr (F1 := (25, 7, _, _)) (x_iadd rfl) ?_
    refine Rk.tr (F1 := (25, 8, _, _)) (m_iald (k := 5) (n := p + 2) rfl rfl rfl (nI_add p 2) (show p + 2 < 800 by omega)) ?_
    refine Rk.tr (F1 := (25, 8, _, _)) (x_top (y := 6) hk) ?_
    refine Rk.tr (F1 := (25, 46, _, _)) (x_tswIn (tg := 46) rfl (by decide) (by decide) rfl rfl) ?_
    refine Rk.tr (F1 := (25, 47, _, _)) (x_aload_n rfl rfl rfl) ?_
    refine Rk.tr (F1 := (25, 48, _, _)) (x_iload_n rfl rfl) ?_
    refine Rk.tr (F1 := (25, 51, _, _)) (m_call (As := [_]) rfl rfl rfl (Or.inr rfl) rfl rfl rfl (Nat.le_of_ble_eq_true rfl) call rfl) ?_
    exact Rk.end rfl (Or.inr (Or.inl ⟨rfl, _, .int, rfl, rfl, rfl, rfl⟩))
theorem c_step_yes {A B A' B' : List It} {it : It} {w : Nat} (hI : Inv (A ++ it :: B)) (hM : PM R n (A ++ it :: B)) (hs : stp A it B = some (w, A', B')) :
    ∃ R' W' : Nat → Int32, Rn E (d + 3) 25 [.ref o, .int (nI (tsum A))] (mh g o (mst S R W c n)) (some (.int (nI (tsum A')))) (mh g o (mst S R' W' (rup c w (c w + 1)) (nI (tsum (A' ++ B'))))) ∧ TokAt R' 0 (A' ++ B') := by
  obtain ⟨t1, h8, -⟩ := PM.it (P := []) hM
  have hz := isz_ge it
  rcases kd5 it.1 with h | h | h | h | ⟨n2, n3, n5, n9⟩
  · have hc : occ it.2.1 (A ++ it :: B) = 0 := Classical.byContradiction fun z => by
      unfold stp at hs
      rw [if_neg (by omega), if_neg (by omega), if_neg (by omega), if_pos h, if_neg z] at hs
      cases hs
    obtain ⟨X, r, C, rfl, x2, x3⟩ := Inv_fun hI h
    rw [stp_drop h x3 hc] at hs
    cases hs
    obtain ⟨R', call, x5⟩ := c_drop_yes (E := E) (d := d) (o := o) (g := g) (S := S) (W := W) (c := c) h hM x3 hc
    have hk : R (tsum A + 2) = 2 := (Tok1_k2 t1 (by omega)).mpr h
    refine ⟨R', W, ?_, x5⟩
    generalize tsum A = p at h8 hk call ⊢
    refine Rn.of (Nat.le_of_ble_eq_true rfl) ?_
    refine Rk.tr (F1 := (25, 1, _, _)) (x_aload_n rfl rfl rfl) ?_
    refine Rk.tr (F1 := (25, 4, _, _)) (m_get rfl rfl (Nat.le_of_ble_eq_true rfl)) ?_
    refine Rk.tr (F1 := (25, 5, _, _)) (x_iload_n rfl rfl) ?_
    refine Rk.tr (F1 := (25, 6, _, _)) (x_iconst rfl) ?_
    refine Rk.tr (F1 := (25, 7, _, _)) (x_iadd rfl) ?_
    refine Rk.tr (F1 := (25, 8, _, _)) (m_iald (k := 5) (n := p + 2) rfl rfl rfl (nI_add p 2) (show p + 2 < 800 by omega)) ?_
    refine Rk.tr (F1 := (25, 8, _, _)) (x_top (y := 2) hk) ?_
    refine Rk.tr (F1 := (25, 58, _, _)) (x_tswOut (tg := 58) rfl (by decide) rfl) ?_
    refine Rk.tr (F1 := (25, 59, _, _)) (x_aload_n rfl rfl rfl) ?_
    refine Rk.tr (F1 := (25, 60, _, _)) (x_iload_n rfl rfl) ?_
    refine Rk.tr (F1 := (25, 63, _, _)) (m_call (As := [_]) rfl rfl rfl (Or.inr rfl) rfl rfl rfl (Nat.le_of_ble_eq_true rfl) call rfl) ?_
    exact Rk.end rfl (Or.inr (Or.inl ⟨rfl, _, .int, rfl, rfl, rfl, rfl⟩))
  · have hk : R (tsum A + 2) = 3 := by
      obtain ⟨k, nm, dt, ⟨a1, a2⟩, b1, b2⟩ := it
      have h : k = 3 := h
      subst h
      exact t1.2.2.1
    have hc : it.2.2.2.1.1 = 1 ∧ occ it.2.2.2.1.2 (A ++ it :: B) = 1 := Classical.byContradiction fun z => by
      unfold stp at hs
      rw [if_neg (by omega), if_neg (by omega), if_pos h, if_neg z] at hs
      cases hs
    rcases inl_where (f := it.2.2.2.1.2) hI.1 hI.2.1 h (Prod.ext hc.1 rfl) with z | ⟨A1, F, X, r, A2, e1, e2, e3, e4, e5, e6, e7⟩
    · exfalso
      unfold stp at hs
      rw [if_neg (by omega), if_neg (by omega), if_pos h, if_pos hc, ffn_none (fun x hx => z x (List.mem_append_left _ hx))] at hs
      cases hs
    · subst e1
      rw [stp_inl h ⟨e2, e3⟩ e6 e5 hc.1 hc.2] at hs
      cases hs
      have eA : (A1 ++ F :: ((X ++ [r]) ++ A2)) ++ it :: B = A1 ++ F :: ((X ++ [r]) ++ (A2 ++ it :: B)) := by simp
      rw [eA] at hM hc
      have hf := fnd_some (f := it.2.2.2.1.2) (F := F) (Q := (X ++ [r]) ++ (A2 ++ it :: B)) ⟨e2, e3⟩ e7 (A := A1) (p := 0) (x := -1) e6
      rw [Nat.zero_add] at hf
      obtain ⟨R', W', call, x5⟩ := c_inline_yes (E := E) (d := d) (o := o) (g := g) (S := S) (W := W) (c := c) e2 e4 h hM e5 hc.1 hf hc.2
      have zF : isz F = 4 := by unfold isz; rw [e2]; rfl
      have zr : isz r = 3 := by unfold isz; rw [e4]; rfl
      have sA : tsum (A1 ++ F :: ((X ++ [r]) ++ A2)) = tsum A1 + 4 + (tsum X + 3) + tsum A2 := by
        rw [tsum_app]
        simp only [tsum]
        rw [tsum_app (X ++ [r]) _, tsum_app X _]
        simp only [tsum]
        omega
      refine ⟨R', W', ?_, by rw [← List.map_append, ← List.map_append, List.append_assoc]; exact x5⟩
      rw [sA] at h8 hk ⊢
      rw [isb_sum, isb_sum, tsum_app A1 A2, ← List.map_append, ← List.map_append, isb_sum, isb_sum, List.append_assoc]
      generalize tsum A1 + 4 + (tsum X + 3) + tsum A2 = p at h8 hk call ⊢
      refine Rn.of (Nat.le_of_ble_eq_true rfl) ?_
      refine Rk.tr (F1 := (25, 1, _, _)) (x_aload_n rfl rfl rfl) ?_
      refine Rk.tr (F1 := (25, 4, _, _)) (m_get rfl rfl (Nat.le_of_ble_eq_true rfl)) ?_
      refine Rk.tr (F1 := (25, 5, _, _)) (x_iload_n rfl rfl) ?_
      refine Rk.tr (F1 := (25, 6, _, _)) (x_iconst rfl) ?_
      refine Rk.tr (F1 := (25, 7, _, _)) (x_iadd rfl) ?_
      refine Rk.tr (F1 := (25, 8, _, _)) (m_iald (k := 5) (n := p + 2) rfl rfl rfl (nI_add p 2) (show p + 2 < 800 by omega)) ?_
      refine Rk.tr (F1 := (25, 8, _, _)) (x_top (y := 3) hk) ?_
      refine Rk.tr (F1 := (25, 52, _, _)) (x_tswIn (tg := 52) rfl (by decide) (by decide) rfl rfl) ?_
      refine Rk.tr (F1 := (25, 53, _, _)) (x_aload_n rfl rfl rfl) ?_
      refine Rk.tr (F1 := (25, 54, _, _)) (x_iload_n rfl rfl) ?_
      refine Rk.tr (F1 := (25, 57, _, _)) (m_call (As := [_]) rfl rfl rfl (Or.inr rfl) rfl rfl rfl (Nat.le_of_ble_eq_true rfl) call rfl) ?_
      exact Rk.end rfl (Or.inr (Or.inl ⟨rfl, _, .int, rfl, rfl, rfl, rfl⟩))
  · have hc : it.2.2.2.1.1 = 0 ∧ it.2.2.2.2.1 = 0 ∧ ¬ (it.2.2.1 = 3 ∧ it.2.2.2.2.2 = 0) := Classical.byContradiction fun z => by
      unfold stp at hs
      rw [if_neg (by omega), if_pos h, if_neg z] at hs
      cases hs
    have hs2 := hs
    unfold stp at hs2
    rw [if_neg (by omega), if_pos h, if_pos hc] at hs2
    cases hs2
    obtain ⟨R', call, x5⟩ := c_fold_yes (E := E) (d := d) (o := o) (g := g) (S := S) (W := W) (c := c) h hM hc
    have hk : R (tsum A + 2) = 5 := by
      obtain ⟨k, nm, dt, ⟨a1, a2⟩, b1, b2⟩ := it
      have h : k = 5 := h
      subst h
      exact t1.2.2.1
    refine ⟨R', W, ?_, by rw [← List.map_append]; exact x5⟩
    rw [isb_sum, ← List.map_append, isb_sum]
    generalize tsum A = p at h8 hk call ⊢
    refine Rn.of (Nat.le_of_ble_eq_true rfl) ?_
    refine Rk.tr (F1 := (25, 1, _, _)) (x_aload_n rfl rfl rfl) ?_
    refine Rk.tr (F1 := (25, 4, _, _)) (m_get rfl rfl (Nat.le_of_ble_eq_true rfl)) ?_
    refine Rk.tr (F1 := (25, 5, _, _)) (x_iload_n rfl rfl) ?_
    refine Rk.tr (F1 := (25, 6, _, _)) (x_iconst rfl) ?_
    refine Rk.tr (F1 := (25, 7, _, _)) (x_iadd rfl) ?_
    refine Rk.tr (F1 := (25, 8, _, _)) (m_iald (k := 5) (n := p + 2) rfl rfl rfl (nI_add p 2) (show p + 2 < 800 by omega)) ?_
    refine Rk.tr (F1 := (25, 8, _, _)) (x_top (y := 5) hk) ?_
    refine Rk.tr (F1 := (25, 40, _, _)) (x_tswIn (tg := 40) rfl (by decide) (by decide) rfl rfl) ?_
    refine Rk.tr (F1 := (25, 41, _, _)) (x_aload_n rfl rfl rfl) ?_
    refine Rk.tr (F1 := (25, 42, _, _)) (x_iload_n rfl rfl) ?_
    refine Rk.tr (F1 := (25, 45, _, _)) (m_call (As := [_]) rfl rfl rfl (Or.inr rfl) rfl rfl rfl (Nat.le_of_ble_eq_true rfl) call rfl) ?_
    exact Rk.end rfl (Or.inr (Or.inl ⟨rfl, _, .int, rfl, rfl, rfl, rfl⟩))
  · unfold stp at hs
    rw [if_pos h] at hs
    cases hs
  · have hc : it.2.2.2.1.1 = 0 := Classical.byContradiction fun z => by
      unfold stp at hs
      rw [if_neg n9, if_neg n5, if_neg n3, if_neg n2, if_neg z] at hs
      cases hs
    obtain ⟨X1, r1, X2, r2, C, rfl, y1, y2, y3, y4⟩ := Inv_if hI n2 n3 n5 n9
    rw [stp_if n2 n3 n5 n9 y3 y4 hc] at hs
    cases hs
    obtain ⟨R', W', call, x5⟩ := c_choose_yes (E := E) (d := d) (o := o) (g := g) (S := S) (W := W) (c := c) n2 n3 n5 n9 y1 y2 hM y3 y4 hc
    have hk : R (tsum A + 2) = 6 := (Tok1_if n2 n3 n5 n9 t1).1.2.2.1
    refine ⟨R', W', ?_, by rw [← List.map_append]; exact x5⟩
    rw [isb_sum, ← List.map_append, isb_sum]
    generalize tsum A = p at h8 hk call ⊢
    refine Rn.of (Nat.le_of_ble_eq_true rfl) ?_
    refine Rk.tr (F1 := (25, 1, _, _)) (x_aload_n rfl rfl rfl) ?_
    refine Rk.tr (F1 := (25, 4, _, _)) (m_get rfl rfl (Nat.le_of_ble_eq_true rfl)) ?_
    refine Rk.tr (F1 := (25, 5, _, _)) (x_iload_n rfl rfl) ?_
    refine Rk.tr (F1 := (25, 6, _, _)) (x_iconst rfl) ?_
    refine Rk.tr (F1 := (25, 7, _, _)) (x_iadd rfl) ?_
    refine Rk.tr (F1 := (25, 8, _, _)) (m_iald (k := 5) (n := p + 2) rfl rfl rfl (nI_add p 2) (show p + 2 < 800 by omega)) ?_
    refine Rk.tr (F1 := (25, 8, _, _)) (x_top (y := 6) hk) ?_
    refine Rk.tr (F1 := (25, 46, _, _)) (x_tswIn (tg := 46) rfl (by decide) (by decide) rfl rfl) ?_
    refine Rk.tr (F1 := (25, 47, _, _)) (x_aload_n rfl rfl rfl) ?_
    refine Rk.tr (F1 := (25, 48, _, _)) (x_iload_n rfl rfl) ?_
    refine Rk.tr (F1 := (25, 51, _, _)) (m_call (As := [_]) rfl rfl rfl (Or.inr rfl) rfl rfl rfl (Nat.le_of_ble_eq_true rfl) call rfl) ?_
    exact Rk.end rfl (Or.inr (Or.inl ⟨rfl, _, .int, rfl, rfl, rfl, rfl⟩))
end M11
end
section
/-! ===== a step keeps what holds of a program ===== -/
theorem isb_idf (nm : Int32) (b : Int32 × Int32) (it : It) : idf (isb nm b it) = idf it := rfl
theorem isb_dfs (nm : Int32) (b : Int32 × Int32) (Q : List It) : dfs (Q.map (isb nm b)) = dfs Q := by
  induction Q with
  | nil => rfl
  | cons a Q ih => rw [List.map_cons, dfs_cons, dfs_cons, ih, isb_idf]
theorem isb_scn (nm : Int32) (b : Int32 × Int32) (e : List Int32) (stk : List (List Int32)) (it : It) : scn e stk (isb nm b it) = scn e stk it := rfl
theorem isb_rnk (nm : Int32) (b : Int32 × Int32) : ∀ (Q : List It) (stk : List (List Int32)), rnk stk (Q.map (isb nm b)) = rnk stk Q
  | [], stk => rfl
  | a :: Q, [] => rfl
  | a :: Q, e :: stk => isb_rnk nm b Q _
theorem isb_atm {nm : Int32} {b : Int32 × Int32} {it : It} {j : Nat} (hj : j < iat it) : iatm (isb nm b it) j = sa nm b (iatm it j) := by
  have h2 : iat it ≤ 2 := by unfold iat; split <;> decide
  rcases (show j = 0 ∨ j = 1 by omega) with rfl | rfl
  · show (if 0 < iat it then _ else _) = _
    rw [if_pos hj]
    rfl
  · show (if 1 < iat it then _ else _) = _
    rw [if_pos hj]
    rfl
/-- a name that is not used: nothing changes -/
theorem isb_id {nm : Int32} {b : Int32 × Int32} {it : It} (h : ∀ j, j < iat it → iatm it j ≠ (1, nm)) : isb nm b it = it := by
  have h2 : iat it ≤ 2 := by unfold iat; split <;> decide
  obtain ⟨k, n, dt, a, c⟩ := it
  unfold isb ipt
  have e1 : (if 0 < iat (k, n, dt, a, c) then sa nm b a else a) = a := by
    split
    next q => exact if_neg (h 0 q)
    next => rfl
  have e2 : (if 1 < iat (k, n, dt, a, c) then sa nm b c else c) = c := by
    split
    next q => exact if_neg (h 1 q)
    next => rfl
  simp only [e1, e2]
theorem ioc0 {it : It} {nm : Int32} : ∀ {r k : Nat}, ioc it nm k r = 0 → ∀ j, k ≤ j → j < k + r → iatm it j ≠ (1, nm)
  | 0, k, _, j, h1, h2 => by omega
  | r + 1, k, h, j, h1, h2 => by
    simp only [ioc] at h
    by_cases e : j = k
    · subst e
      intro z
      rw [if_pos z] at h
      omega
    · exact ioc0 (r := r) (k := k + 1) (by omega) j (by omega) (by omega)
theorem occ_app (nm : Int32) (A B : List It) : occ nm (A ++ B) = occ nm A + occ nm B := by
  induction A with
  | nil => simp [occ]
  | cons a A ih => simp only [List.cons_append, occ, ih]; omega
theorem occ0_map {nm : Int32} {b : Int32 × Int32} : ∀ {Q : List It}, occ nm Q = 0 → Q.map (isb nm b) = Q
  | [], _ => rfl
  | a :: Q, h => by
    simp only [occ] at h
    rw [List.map_cons, occ0_map (Q := Q) (by omega), isb_id (fun j hj => ioc0 (k := 0) (r := iat a) (by omega) j (by omega) (by omega))]
theorem Sco_nouse {nm : Int32} {b : Int32 × Int32} : ∀ {A B : List It} {stk : List (List Int32)}, Sco stk (A ++ B) → (∀ e ∈ stk, nm ∉ e) → nm ∉ dfs A → A.map (isb nm b) = A
  | [], B, stk, _, _, _ => rfl
  | a :: A, B, [], h, _, _ => h.elim
  | a :: A, B, e :: stk, h, hs, hn => by
    rw [dfs_cons] at hn
    have hn1 : nm ∉ idf a := fun z => hn (List.mem_append_left _ z)
    have hn2 : nm ∉ dfs A := fun z => hn (List.mem_append_right _ z)
    rw [List.map_cons, Sco_nouse (A := A) (B := B) (stk := scn e stk a) h.2 (fun e' h1 h2 => ?_) hn2, isb_id (fun j hj z => ?_)]
    · have h3 := h.1 j hj
      rw [z] at h3
      rcases h3 with h3 | h3
      · exact absurd h3 (show ¬ (1 : Int32) = 0 by decide)
      · exact hs e List.mem_cons_self h3.2
    · rcases scn_in h1 h2 with ⟨e0, q1, q2⟩ | q
      · exact hs e0 q1 q2
      · exact hn1 q
/-- an atom that is seen in e -/
def aok (e : List Int32) (b : Int32 × Int32) : Prop := b.1 = 0 ∨ (b.1 = 1 ∧ b.2 ∈ e)
def Rl (nm : Int32) (b : Int32 × Int32) (e e' : List Int32) : Prop := (∀ x ∈ e, x ≠ nm → x ∈ e') ∧ (nm ∈ e → aok e' b)
def Rls (nm : Int32) (b : Int32 × Int32) : List (List Int32) → List (List Int32) → Prop
  | [], [] => True
  | e :: s, e' :: s' => Rl nm b e e' ∧ Rls nm b s s'
  | _, _ => False
theorem aok_cons {e : List Int32} {b : Int32 × Int32} {x : Int32} (h : aok e b) : aok (x :: e) b := h.elim Or.inl (fun q => Or.inr ⟨q.1, List.mem_cons_of_mem _ q.2⟩)
theorem Rl_cons {nm x : Int32} {b : Int32 × Int32} {e e' : List Int32} (h : Rl nm b e e') (hx : x ≠ nm) : Rl nm b (x :: e) (x :: e') := by
  refine ⟨fun y hy hn => ?_, fun hm => ?_⟩
  · rcases List.mem_cons.mp hy with rfl | hy
    · exact List.mem_cons_self
    · exact List.mem_cons_of_mem _ (h.1 y hy hn)
  · rcases List.mem_cons.mp hm with z | z
    · exact absurd z.symm hx
    · exact aok_cons (h.2 z)
theorem Rls_scn {nm : Int32} {b : Int32 × Int32} {e e' : List Int32} {s s' : List (List Int32)} {it : It} (h1 : Rl nm b e e') (h2 : Rls nm b s s') (hn : nm ∉ idf it) : Rls nm b (scn e s it) (scn e' s' it) := by
  unfold idf at hn
  unfold scn
  by_cases h9 : it.1 = 9
  · rw [if_pos h9, if_pos h9]; exact h2
  · rw [if_neg h9, if_neg h9]
    rw [if_neg h9] at hn
    by_cases k2 : it.1 = 2
    · rw [if_pos k2, if_pos k2]
      rw [if_pos k2] at hn
      simp only [List.mem_cons, List.not_mem_nil, or_false, not_or] at hn
      exact ⟨Rl_cons h1 (Ne.symm hn.2), Rl_cons h1 (Ne.symm hn.1), h2⟩
    · rw [if_neg k2, if_neg k2]
      rw [if_neg k2] at hn
      simp only [List.mem_cons, List.not_mem_nil, or_false] at hn
      by_cases k3 : it.1 = 3
      · rw [if_pos k3, if_pos k3]; exact ⟨Rl_cons h1 (Ne.symm hn), h2⟩
      · rw [if_neg k3, if_neg k3]
        by_cases k5 : it.1 = 5
        · rw [if_pos k5, if_pos k5]; exact ⟨Rl_cons h1 (Ne.symm hn), h2⟩
        · rw [if_neg k5, if_neg k5]; exact ⟨h1, h1, Rl_cons h1 (Ne.symm hn), h2⟩
theorem Sco_sub {nm : Int32} {b : Int32 × Int32} : ∀ {Q : List It} {stk stk' : List (List Int32)}, Sco stk Q → Rls nm b stk stk' → nm ∉ dfs Q → Sco stk' (Q.map (isb nm b))
  | [], stk, stk', h, hr, _ => by
    have h : stk = [] := h
    subst h
    cases stk' with
    | nil => rfl
    | cons a s => exact hr.elim
  | it :: Q, [], stk', h, hr, _ => h.elim
  | it :: Q, e :: stk, [], h, hr, _ => hr.elim
  | it :: Q, e :: stk, e' :: stk', h, hr, hn => by
    rw [dfs_cons] at hn
    have hn1 : nm ∉ idf it := fun z => hn (List.mem_append_left _ z)
    have hn2 : nm ∉ dfs Q := fun z => hn (List.mem_append_right _ z)
    refine ⟨fun j hj => ?_, Sco_sub h.2 (Rls_scn hr.1 hr.2 hn1) hn2⟩
    have hj : j < iat it := hj
    rw [isb_atm hj]
    have h1 := h.1 j hj
    unfold sa
    split
    next q =>
      rw [q] at h1
      rcases h1 with h1 | h1
      · exact absurd h1 (show ¬ (1 : Int32) = 0 by decide)
      · exact hr.1.2 h1.2
    next q =>
      rcases h1 with h1 | h1
      · exact Or.inl h1
      · exact Or.inr ⟨h1.1, hr.1.1 _ h1.2 (fun z => q (Prod.ext h1.1 z))⟩
theorem Rls_rnk {nm : Int32} {b : Int32 × Int32} : ∀ {A : List It} {stk stk' : List (List Int32)}, Rls nm b stk stk' → nm ∉ dfs A → Rls nm b (rnk stk A) (rnk stk' A)
  | [], stk, stk', h, _ => h
  | it :: A, [], [], h, _ => trivial
  | it :: A, [], e' :: s', h, _ => h.elim
  | it :: A, e :: s, [], h, _ => h.elim
  | it :: A, e :: s, e' :: s', h, hn => by
    rw [dfs_cons] at hn
    show Rls nm b (rnk (scn e s it) A) (rnk (scn e' s' it) A)
    exact Rls_rnk (A := A) (stk := scn e s it) (stk' := scn e' s' it) (Rls_scn h.1 h.2 (fun z => hn (List.mem_append_left _ z))) (fun z => hn (List.mem_append_right _ z))
theorem Rls_rf {nm : Int32} {b : Int32 × Int32} : ∀ {s : List (List Int32)}, (∀ e ∈ s, nm ∉ e) → Rls nm b s s
  | [], _ => trivial
  | e :: s, h => ⟨⟨fun _ hx _ => hx, fun z => absurd z (h e List.mem_cons_self)⟩, Rls_rf (fun e' h' => h e' (List.mem_cons_of_mem _ h'))⟩
theorem Sco_glue : ∀ {A X B : List It} {stk : List (List Int32)}, Sco stk (A ++ X) → Sco (rnk stk A) B → Sco stk (A ++ B)
  | [], X, B, stk, _, h => h
  | a :: A, X, B, [], h, _ => h.elim
  | a :: A, X, B, e :: stk, h, h2 => ⟨h.1, Sco_glue (A := A) h.2 h2⟩
/-- a row's last stack -/
theorem Sco_row {e : List Int32} {X : List It} {r : It} (h : Sco [e] (X ++ [r])) (h9 : r.1 = 9) : ∃ e' : List Int32, rnk [e] X = [e'] ∧ aok e' r.2.2.2.1 := by
  obtain ⟨e', s', h1, h2, h3⟩ := Sco_at h
  have h4 : scn e' s' r = s' := by unfold scn; rw [if_pos h9]
  rw [h4] at h3
  have h3 : s' = [] := h3
  subst h3
  refine ⟨e', h1, ?_⟩
  exact h2 0 (by unfold iat; rw [h9]; decide)
/-- the lowest row's names grow -/
theorem rnk_last : ∀ {A : List It} {s : List (List Int32)} {e e' : List Int32} {s' : List (List Int32)}, rnk (s ++ [e]) A = s' ++ [e'] → ∀ x ∈ e, x ∈ e'
  | [], s, e, e', s', h, x, hx => by
    have h : s ++ [e] = s' ++ [e'] := h
    have := List.append_inj_right' h rfl
    simp at this
    rw [← this]
    exact hx
  | it :: A, [], e, e', s', h, x, hx => by
    have h : rnk (scn e [] it) A = s' ++ [e'] := h
    unfold scn at h
    by_cases h9 : it.1 = 9
    · rw [if_pos h9] at h
      cases A with
      | nil => simp [rnk] at h
      | cons b A => simp [rnk] at h
    · rw [if_neg h9] at h
      by_cases k2 : it.1 = 2
      · rw [if_pos k2] at h
        exact rnk_last (A := A) (s := [it.2.2.1 :: e]) (e := it.2.1 :: e) h x (List.mem_cons_of_mem _ hx)
      · rw [if_neg k2] at h
        by_cases k3 : it.1 = 3
        · rw [if_pos k3] at h
          exact rnk_last (A := A) (s := []) (e := it.2.1 :: e) h x (List.mem_cons_of_mem _ hx)
        · rw [if_neg k3] at h
          by_cases k5 : it.1 = 5
          · rw [if_pos k5] at h
            exact rnk_last (A := A) (s := []) (e := it.2.1 :: e) h x (List.mem_cons_of_mem _ hx)
          · rw [if_neg k5] at h
            exact rnk_last (A := A) (s := [e, e]) (e := it.2.1 :: e) h x (List.mem_cons_of_mem _ hx)
  | it :: A, e0 :: s, e, e', s', h, x, hx => by
    have h : rnk (scn e0 (s ++ [e]) it) A = s' ++ [e'] := h
    rw [scn_app] at h
    exact rnk_last (A := A) (s := scn e0 s it) (e := e) h x hx
/-- who sees f sees what f's row began with -/
theorem rnk_sees {f : Int32} {e0 : List Int32} : ∀ {A : List It} {stk : List (List Int32)}, (∀ e ∈ stk, f ∈ e → ∀ x ∈ e0, x ∈ e) → f ∉ dfs A → ∀ e ∈ rnk stk A, f ∈ e → ∀ x ∈ e0, x ∈ e
  | [], stk, h, _ => h
  | it :: A, [], h, _ => fun e he => by simp [rnk] at he
  | it :: A, e1 :: stk, h, hn => by
    rw [dfs_cons] at hn
    have hn1 : f ∉ idf it := fun z => hn (List.mem_append_left _ z)
    refine rnk_sees (A := A) (stk := scn e1 stk it) (fun e he hf x hx => ?_) (fun z => hn (List.mem_append_right _ z))
    have base : ∀ y : Int32, y ≠ f → f ∈ y :: e1 → x ∈ y :: e1 := fun y hy hm => by
      rcases List.mem_cons.mp hm with z | z
      · exact absurd z.symm hy
      · exact List.mem_cons_of_mem _ (h e1 List.mem_cons_self z x hx)
    unfold scn at he
    unfold idf at hn1
    by_cases h9 : it.1 = 9
    · rw [if_pos h9] at he
      exact h e (List.mem_cons_of_mem _ he) hf x hx
    · rw [if_neg h9] at he hn1
      by_cases k2 : it.1 = 2
      · rw [if_pos k2] at he hn1
        simp only [List.mem_cons, List.not_mem_nil, or_false, not_or] at hn1
        simp only [List.mem_cons] at he
        rcases he with rfl | rfl | he
        · exact base _ (Ne.symm hn1.2) hf
        · exact base _ (Ne.symm hn1.1) hf
        · exact h e (List.mem_cons_of_mem _ he) hf x hx
      · rw [if_neg k2] at he hn1
        simp only [List.mem_cons, List.not_mem_nil, or_false] at hn1
        by_cases k3 : it.1 = 3
        · rw [if_pos k3] at he
          rcases List.mem_cons.mp he with rfl | he
          · exact base _ (Ne.symm hn1) hf
          · exact h e (List.mem_cons_of_mem _ he) hf x hx
        · rw [if_neg k3] at he
          by_cases k5 : it.1 = 5
          · rw [if_pos k5] at he
            rcases List.mem_cons.mp he with rfl | he
            · exact base _ (Ne.symm hn1) hf
            · exact h e (List.mem_cons_of_mem _ he) hf x hx
          · rw [if_neg k5] at he
            simp only [List.mem_cons] at he
            rcases he with rfl | rfl | rfl | he
            · exact h _ List.mem_cons_self hf x hx
            · exact h _ List.mem_cons_self hf x hx
            · exact base _ (Ne.symm hn1) hf
            · exact h e (List.mem_cons_of_mem _ he) hf x hx
end
section
/-! ===== a step keeps what holds of a program, put together ===== -/
theorem rnk_two : ∀ (U V : List It) (s : List (List Int32)), rnk s (U ++ V) = rnk (rnk s U) V
  | [], V, s => rfl
  | u :: U, V, [] => by
    show ([] : List (List Int32)) = rnk [] V
    cases V <;> rfl
  | u :: U, V, s0 :: s => rnk_two U V _
theorem Sco_row1 {e : List Int32} {s : List (List Int32)} {B : List It} (h : Sco (e :: s) B) : ∃ (X : List It) (r : It) (C : List It), B = (X ++ [r]) ++ C ∧ r.1 = 9 ∧ closes 1 (X ++ [r]) ∧ Sco [e] (X ++ [r]) ∧ Sco s C := by
  obtain ⟨Q, C, q1, q2, q3, q4⟩ := Sco_rows B [e] s (by simp) h
  obtain ⟨X, r, x1, x2⟩ := closes_last Q _ q2
  subst x1
  exact ⟨X, r, C, q1, x2, q2, q3, q4⟩
theorem row1_eq {X X' C C' : List It} {r r' : It} (h : (X ++ [r]) ++ C = (X' ++ [r']) ++ C') (k1 : closes 1 (X ++ [r])) (k2 : closes 1 (X' ++ [r'])) : X = X' ∧ r = r' ∧ C = C' := by
  have e1 := rwl_of _ C _ k1
  have e2 := rwl_of _ C' _ k2
  rw [h, e2] at e1
  rw [e1] at h
  have h3 := List.append_cancel_left h
  have h4 := List.append_inj_right' e1 rfl
  have h5 := List.append_inj_left' e1 rfl
  simp at h4
  exact ⟨h5.symm, h4.symm, h3⟩
theorem Sco_glue2 : ∀ {X Y B : List It} {es stk : List (List Int32)}, Sco es (X ++ Y) → Y ≠ [] → Sco (rnk es X ++ stk) B → Sco (es ++ stk) (X ++ B)
  | [], Y, B, es, stk, _, _, h => h
  | a :: X, Y, B, [], stk, h, _, _ => h.elim
  | a :: X, Y, B, e :: es, stk, h, hy, h2 => by
    refine ⟨h.1, ?_⟩
    show Sco (scn e (es ++ stk) a) (X ++ B)
    rw [scn_app]
    exact Sco_glue2 (X := X) (Y := Y) h.2 hy h2
/-- a new name is in none of the open rows -/
theorem fresh_rnk {A : List It} {v : Int32} (h : v ∉ dfs A) : ∀ e ∈ rnk [[]] A, v ∉ e := fun e he hv => by
  rcases rnk_in he hv with ⟨e0, h0, h1⟩ | h1
  · rw [List.mem_singleton.mp h0] at h1
    cases h1
  · exact h h1
theorem Inv_stay {A B P : List It} (hI : Inv (A ++ B)) (hs : Sco [[]] P) (hd : ∃ L : List Int32, (dfs P).Perm L ∧ L.Sublist (dfs (A ++ B))) (ht : tsum P ≤ tsum (A ++ B)) : Inv P := by
  obtain ⟨L, l1, l2⟩ := hd
  exact ⟨hs, l1.nodup_iff.mpr (l2.nodup hI.2.1), Nat.le_trans ht hI.2.2⟩
theorem stp_inv_fold {A B : List It} {it : It} {b : Int32} (hI : Inv (A ++ it :: B)) (h5 : it.1 = 5) : Inv (A.map (isb it.2.1 (0, b)) ++ B.map (isb it.2.1 (0, b))) := by
  obtain ⟨e, stk, hr, hs, hB⟩ := Sco_at hI.1
  have hN := hI.2.1
  rw [dfs_app, dfs_cons] at hN
  have hid : idf it = [it.2.1] := by unfold idf; rw [if_neg (by omega), if_neg (by omega)]
  rw [hid] at hN
  have nA : it.2.1 ∉ dfs A := fun z => (List.nodup_append.mp hN).2.2 _ z _ (by simp) rfl
  have nB : it.2.1 ∉ dfs B := fun z => (List.nodup_append.mp (List.nodup_append.mp hN).2.1).2.2 _ (by simp) _ z rfl
  have hf := fresh_rnk nA
  rw [hr] at hf
  have e1 : scn e stk it = (it.2.1 :: e) :: stk := by
    unfold scn
    rw [if_neg (by omega), if_neg (by omega), if_neg (by omega), if_pos h5]
  rw [e1] at hB
  have hA : A.map (isb it.2.1 (0, b)) = A := Sco_nouse hI.1 (fun e he => by rw [List.mem_singleton.mp he]; simp) nA
  have hB2 := Sco_sub (nm := it.2.1) (b := (0, b)) (stk' := e :: stk) hB ⟨⟨fun x hx hn => (List.mem_cons.mp hx).resolve_left hn, fun _ => Or.inl rfl⟩, Rls_rf (fun e' h' => hf e' (List.mem_cons_of_mem _ h'))⟩ nB
  rw [hA]
  refine Inv_stay hI (Sco_glue hI.1 (by rw [hr]; exact hB2)) ⟨_, List.Perm.refl _, ?_⟩ ?_
  · rw [dfs_app, isb_dfs, dfs_app, dfs_cons]
    exact List.Sublist.append (List.Sublist.refl _) (List.sublist_append_right _ _)
  · rw [tsum_app, tsum_app, isb_sum]
    simp only [tsum]
    omega
theorem stp_inv_drop {A X C : List It} {it r : It} (hI : Inv (A ++ it :: ((X ++ [r]) ++ C))) (h2 : it.1 = 2) (hX : closes 1 (X ++ [r])) (hc : occ it.2.1 (A ++ it :: ((X ++ [r]) ++ C)) = 0) : Inv (A ++ C) := by
  obtain ⟨e, stk, hr, hs, hB⟩ := Sco_at hI.1
  have hN := hI.2.1
  rw [dfs_app, dfs_cons, dfs_app] at hN
  have hid : idf it = [it.2.1, it.2.2.1] := by unfold idf; rw [if_neg (by omega), if_pos h2]
  rw [hid] at hN
  have nA : it.2.1 ∉ dfs A := fun z => (List.nodup_append.mp hN).2.2 _ z _ (by simp) rfl
  have nC : it.2.1 ∉ dfs C := fun z => (List.nodup_append.mp (List.nodup_append.mp hN).2.1).2.2 _ (by simp) _ (List.mem_append_right _ z) rfl
  have hf := fresh_rnk nA
  rw [hr] at hf
  have e1 : scn e stk it = (it.2.2.1 :: e) :: (it.2.1 :: e) :: stk := by
    unfold scn
    rw [if_neg (by omega), if_pos h2]
  rw [e1] at hB
  obtain ⟨X', r', C', y1, y2, y3, y4, y5⟩ := Sco_row1 hB
  obtain ⟨rfl, rfl, rfl⟩ := row1_eq y1 hX y3
  have o1 : occ it.2.1 C = 0 := by
    rw [occ_app] at hc
    simp only [occ] at hc
    rw [occ_app] at hc
    omega
  have hB2 := Sco_sub (nm := it.2.1) (b := (0, 0)) (stk' := e :: stk) y5 ⟨⟨fun x hx hn => (List.mem_cons.mp hx).resolve_left hn, fun _ => Or.inl rfl⟩, Rls_rf (fun e' h' => hf e' (List.mem_cons_of_mem _ h'))⟩ nC
  rw [occ0_map o1] at hB2
  refine Inv_stay hI (Sco_glue hI.1 (by rw [hr]; exact hB2)) ⟨_, List.Perm.refl _, ?_⟩ ?_
  · rw [dfs_app, dfs_app, dfs_cons, dfs_app]
    exact List.Sublist.append (List.Sublist.refl _) ((List.sublist_append_right _ _).trans (List.sublist_append_right _ _))
  · rw [tsum_app, tsum_app]
    simp only [tsum]
    rw [tsum_app]
    omega
/-- one row stands in the place of an item -/
theorem stp_inv_choose {A X C Z : List It} {it r : It} {e : List Int32} {stk : List (List Int32)} (hI : Inv (A ++ it :: Z)) (hr : rnk [[]] A = e :: stk) (h2 : it.1 ≠ 2) (h9 : it.1 ≠ 9) (r9 : r.1 = 9) (hX : Sco [e] (X ++ [r])) (hC : Sco ((it.2.1 :: e) :: stk) C) (hd : ((dfs X) ++ (dfs C)).Sublist (dfs Z)) (ht : tsum X + tsum C ≤ tsum Z) :
    Inv (A.map (isb it.2.1 r.2.2.2.1) ++ (X ++ C).map (isb it.2.1 r.2.2.2.1)) := by
  have hN := hI.2.1
  rw [dfs_app, dfs_cons] at hN
  have hid : idf it = [it.2.1] := by unfold idf; rw [if_neg h9, if_neg h2]
  rw [hid] at hN
  have nA : it.2.1 ∉ dfs A := fun z => (List.nodup_append.mp hN).2.2 _ z _ (by simp) rfl
  have nZ : it.2.1 ∉ dfs Z := fun z => (List.nodup_append.mp (List.nodup_append.mp hN).2.1).2.2 _ (by simp) _ z rfl
  have nX : it.2.1 ∉ dfs X := fun z => nZ (hd.subset (List.mem_append_left _ z))
  have nC : it.2.1 ∉ dfs C := fun z => nZ (hd.subset (List.mem_append_right _ z))
  have hf := fresh_rnk nA
  rw [hr] at hf
  obtain ⟨ec, k1, k2⟩ := Sco_row hX r9
  have hA : A.map (isb it.2.1 r.2.2.2.1) = A := Sco_nouse hI.1 (fun e he => by rw [List.mem_singleton.mp he]; simp) nA
  have hX2 : X.map (isb it.2.1 r.2.2.2.1) = X := Sco_nouse hX (fun e' he => by rw [List.mem_singleton.mp he]; exact hf e List.mem_cons_self) nX
  have hsub := rnk_last (s := []) (s' := []) k1
  have hB2 := Sco_sub (nm := it.2.1) (b := r.2.2.2.1) (stk' := ec :: stk) hC ⟨⟨fun x hx hn => hsub x ((List.mem_cons.mp hx).resolve_left hn), fun _ => k2⟩, Rls_rf (fun e' h' => hf e' (List.mem_cons_of_mem _ h'))⟩ nC
  rw [hA, List.map_append, hX2]
  refine Inv_stay hI (Sco_glue hI.1 (by rw [hr]; exact Sco_glue2 (es := [e]) hX (by simp) (by rw [k1]; exact hB2))) ⟨_, List.Perm.refl _, ?_⟩ ?_
  · rw [dfs_app, dfs_app, isb_dfs, dfs_app, dfs_cons]
    exact List.Sublist.append (List.Sublist.refl _) (hd.trans (List.sublist_append_right _ _))
  · rw [tsum_app, tsum_app, tsum_app, isb_sum]
    simp only [tsum]
    omega
theorem stp_inv_inl {A1 X A2 B : List It} {F r it : It} (hI : Inv ((A1 ++ F :: ((X ++ [r]) ++ A2)) ++ it :: B)) (h3 : it.1 = 3) (hF : F.1 = 2) (hFn : F.2.1 = it.2.2.2.1.2) (r9 : r.1 = 9) (hX : closes 1 (X ++ [r])) (ha : it.2.2.2.1.1 = 1) (hc : occ it.2.2.2.1.2 ((A1 ++ F :: ((X ++ [r]) ++ A2)) ++ it :: B) = 1) :
    Inv (((A1 ++ A2).map (isb F.2.2.1 it.2.2.2.2)).map (isb it.2.1 (sa F.2.2.1 it.2.2.2.2 r.2.2.2.1)) ++ ((X ++ B).map (isb F.2.2.1 it.2.2.2.2)).map (isb it.2.1 (sa F.2.2.1 it.2.2.2.2 r.2.2.2.1))) := by
  have eA : (A1 ++ F :: ((X ++ [r]) ++ A2)) ++ it :: B = A1 ++ F :: ((X ++ [r]) ++ (A2 ++ it :: B)) := by simp
  have hI0 := hI
  rw [eA] at hI hc
  have hat : it.2.2.2.1 = (1, F.2.1) := Prod.ext ha hFn.symm
  rw [← hFn] at hc
  have hN := hI.2.1
  rw [dfs_app, dfs_cons, dfs_app, dfs_app X, dfs_app A2, dfs_cons it] at hN
  have hidF : idf F = [F.2.1, F.2.2.1] := by unfold idf; rw [if_neg (by omega), if_pos hF]
  have hidr : dfs [r] = [] := by unfold dfs idf; simp [r9]
  have hidi : idf it = [it.2.1] := by unfold idf; rw [if_neg (by omega), if_neg (by omega)]
  rw [hidF, hidr, hidi, List.append_nil] at hN
  generalize hf : F.2.1 = f at hN hat hc
  generalize hp : F.2.2.1 = p at hN ⊢
  generalize hv : it.2.1 = v at hN ⊢
  generalize hb : it.2.2.2.2 = b at ⊢
  simp only [List.nodup_append, List.mem_append, List.mem_cons, List.not_mem_nil, or_false, List.nodup_cons, List.nodup_nil, and_true, not_false_eq_true] at hN
  obtain ⟨N1, ⟨nfp, ⟨NX, ⟨N2, ⟨-, NB, NvB'⟩, D2⟩, DX⟩, DF⟩, D1⟩ := hN
  have NvB : v ∉ dfs B := fun z => NvB' v rfl v z rfl
  have f1 : f ∉ dfs A1 := fun z => D1 f z f (Or.inl (Or.inl rfl)) rfl
  have p1 : p ∉ dfs A1 := fun z => D1 p z p (Or.inl (Or.inr rfl)) rfl
  have v1 : v ∉ dfs A1 := fun z => D1 v z v (Or.inr (Or.inr (Or.inr (Or.inl rfl)))) rfl
  have fX : f ∉ dfs X := fun z => DF f (Or.inl rfl) f (Or.inl z) rfl
  have pX : p ∉ dfs X := fun z => DF p (Or.inr rfl) p (Or.inl z) rfl
  have f2 : f ∉ dfs A2 := fun z => DF f (Or.inl rfl) f (Or.inr (Or.inl z)) rfl
  have p2 : p ∉ dfs A2 := fun z => DF p (Or.inr rfl) p (Or.inr (Or.inl z)) rfl
  have fv : f ≠ v := fun z => DF f (Or.inl rfl) v (Or.inr (Or.inr (Or.inl rfl))) z
  have pv : p ≠ v := fun z => DF p (Or.inr rfl) v (Or.inr (Or.inr (Or.inl rfl))) z
  have fB : f ∉ dfs B := fun z => DF f (Or.inl rfl) f (Or.inr (Or.inr (Or.inr z))) rfl
  have pB : p ∉ dfs B := fun z => DF p (Or.inr rfl) p (Or.inr (Or.inr (Or.inr z))) rfl
  have vX : v ∉ dfs X := fun z => DX v z v (Or.inr (Or.inl rfl)) rfl
  have v2 : v ∉ dfs A2 := fun z => D2 v z v (Or.inl rfl) rfl
  -- the stack at F
  obtain ⟨e0, stk0, hr0, -, hs0⟩ := Sco_at hI.1
  have eF : scn e0 stk0 F = (p :: e0) :: (f :: e0) :: stk0 := by
    unfold scn
    rw [if_neg (by omega), if_pos hF, hf, hp]
  rw [eF] at hs0
  obtain ⟨X', r', C', y1, y2, y3, y4, y5⟩ := Sco_row1 hs0
  obtain ⟨q1, q2, q3⟩ := row1_eq y1 hX y3
  subst q1 q2 q3
  have fr0 := fresh_rnk f1
  have pr0 := fresh_rnk p1
  have vr0 := fresh_rnk v1
  rw [hr0] at fr0 pr0 vr0
  -- f is used there alone
  have hi1 : 1 ≤ ioc it f 0 (iat it) := by
    have : iat it = 2 := by unfold iat; rw [h3]; rfl
    rw [this]
    simp only [ioc]
    rw [if_pos (show iatm it 0 = (1, f) from hat)]
    omega
  simp only [occ_app, occ] at hc
  have o2 : occ f A2 = 0 := by omega
  have oB : occ f B = 0 := by omega
  have hbn : b ≠ (1, f) := by
    intro z
    have : iat it = 2 := by unfold iat; rw [h3]; rfl
    rw [this] at hc
    simp only [ioc] at hc
    rw [if_pos (show iatm it 0 = (1, f) from hat), if_pos (show iatm it (0 + 1) = (1, f) from hb.trans z)] at hc
    omega
  have i2 : iat it = 2 := by unfold iat; rw [h3]; rfl
  -- without f
  have z1 := Sco_sub (nm := f) (b := (0, 0)) (stk' := e0 :: stk0) y5 ⟨⟨fun x hx hn => (List.mem_cons.mp hx).resolve_left hn, fun _ => Or.inl rfl⟩, Rls_rf (fun e' h' => fr0 e' (List.mem_cons_of_mem _ h'))⟩ (by
    rw [dfs_app, dfs_cons, hidi, hv]
    simp only [List.mem_append, List.mem_cons, List.not_mem_nil, or_false]
    rintro (z | z | z)
    · exact f2 z
    · exact fv z
    · exact fB z)
  rw [List.map_append, List.map_cons, occ0_map o2, occ0_map oB] at z1
  obtain ⟨eh, stkh, hrh, hsh, hBh⟩ := Sco_at z1
  have ebb : aok eh b := by
    have := hsh 1 (by show 1 < iat (isb f (0, 0) it); rw [show iat (isb f (0, 0) it) = iat it from (kd_eq rfl).2.1, i2]; decide)
    rw [isb_atm (by rw [i2]; decide), show iatm it 1 = b from hb] at this
    unfold sa at this
    rw [if_neg hbn] at this
    exact this
  have e9 : scn eh stkh (isb f (0, 0) it) = (v :: eh) :: stkh := by
    rw [isb_scn]
    unfold scn
    rw [if_neg (by omega), if_neg (by omega), if_pos h3, hv]
  rw [e9] at hBh
  -- what the APPLY sees
  obtain ⟨e, stk, hr, hs, -⟩ := Sco_at y5
  have hfe : f ∈ e := by
    have := hs 0 (by rw [i2]; decide)
    rw [show iatm it 0 = (1, f) from hat] at this
    rcases this with z | z
    · exact absurd z (show ¬ (1 : Int32) = 0 by decide)
    · exact z.2
  have sub0 : ∀ x ∈ e0, x ∈ e := by
    refine rnk_sees (f := f) (A := A2) (stk := (f :: e0) :: stk0) (fun e' he' hf' x hx => ?_) f2 e (by rw [hr]; exact List.mem_cons_self) hfe
    rcases List.mem_cons.mp he' with rfl | z
    · exact List.mem_cons_of_mem _ hx
    · exact absurd hf' (fr0 e' (List.mem_cons_of_mem _ z))
  have rr := Rls_rnk (nm := f) (b := (0, 0)) (A := A2) (stk := (f :: e0) :: stk0) (stk' := e0 :: stk0) ⟨⟨fun x hx hn => (List.mem_cons.mp hx).resolve_left hn, fun _ => Or.inl rfl⟩, Rls_rf (fun e' h' => fr0 e' (List.mem_cons_of_mem _ h'))⟩ f2
  rw [hr, hrh] at rr
  have subh : ∀ x ∈ e0, x ∈ eh := fun x hx => rr.1.1 x (sub0 x hx) (fun z => fr0 e0 List.mem_cons_self (z ▸ hx))
  -- fresh at the APPLY
  have frh : ∀ x, x ∉ dfs A1 → x ∉ dfs A2 → ∀ e' ∈ eh :: stkh, x ∉ e' := by
    intro x x1 x2 e' he' hx
    rw [← hrh] at he'
    rcases rnk_in he' hx with ⟨e1, g1, g2⟩ | g1
    · rw [← hr0] at g1
      exact fresh_rnk x1 e1 g1 g2
    · exact x2 g1
  -- the body
  have zX := Sco_sub (nm := p) (b := b) (stk' := [eh]) y4 ⟨⟨fun x hx hn => subh x ((List.mem_cons.mp hx).resolve_left hn), fun _ => ebb⟩, trivial⟩ (by rw [dfs_app, hidr, List.append_nil]; exact pX)
  rw [List.map_append, List.map_singleton] at zX
  obtain ⟨eb, k1, k2⟩ := Sco_row zX r9
  have hb2 : (isb p b r).2.2.2.1 = sa p b r.2.2.2.1 := isb_atm (it := r) (j := 0) (by unfold iat; rw [r9]; decide)
  rw [hb2] at k2
  generalize sa p b r.2.2.2.1 = b2 at k2 ⊢
  have hsub := rnk_last (s := []) (s' := []) k1
  have zB := Sco_sub (nm := v) (b := b2) (stk' := eb :: stkh) hBh ⟨⟨fun x hx hn => hsub x ((List.mem_cons.mp hx).resolve_left hn), fun _ => k2⟩, Rls_rf (fun e' h' => frh v v1 v2 e' (List.mem_cons_of_mem _ h'))⟩ NvB
  -- nothing else changes
  have m1 : ∀ (nm : Int32) (c : Int32 × Int32), nm ∉ dfs A1 → A1.map (isb nm c) = A1 := fun nm c hn => Sco_nouse hI.1 (fun e he => by rw [List.mem_singleton.mp he]; simp) hn
  have m2 : ∀ (nm : Int32) (c : Int32 × Int32), nm ∉ dfs A1 → nm ∉ dfs A2 → A2.map (isb nm c) = A2 := fun nm c hn hn2 => Sco_nouse z1 (fun e he => by rw [← hr0] at he; exact fresh_rnk hn e he) hn2
  have mB : B.map (isb p b) = B := by
    refine Sco_nouse (B := []) (by rw [List.append_nil]; exact hBh) (fun e' he' hx => ?_) pB
    rcases List.mem_cons.mp he' with z | z
    · rw [z] at hx
      rcases List.mem_cons.mp hx with z2 | z2
      · exact pv z2
      · exact frh p p1 p2 eh List.mem_cons_self z2
    · exact frh p p1 p2 e' (List.mem_cons_of_mem _ z) hx
  have mX : (X.map (isb p b)).map (isb v b2) = X.map (isb p b) := Sco_nouse zX (fun e' he => by rw [List.mem_singleton.mp he]; exact frh v v1 v2 eh List.mem_cons_self) (by rw [isb_dfs]; exact vX)
  have fin : ((A1 ++ A2).map (isb p b)).map (isb v b2) ++ ((X ++ B).map (isb p b)).map (isb v b2) = A1 ++ (A2 ++ (X.map (isb p b) ++ B.map (isb v b2))) := by
    rw [List.map_append, List.map_append, List.map_append, List.map_append, m1 p b p1, m1 v b2 v1, m2 p b p1 p2, m2 v b2 v1 v2, mB, mX, List.append_assoc]
  rw [fin]
  refine Inv_stay hI0 ?_ ⟨dfs A1 ++ (dfs X ++ (dfs A2 ++ dfs B)), ?_, ?_⟩ ?_
  · refine Sco_glue hI.1 ?_
    rw [hr0]
    refine Sco_glue z1 ?_
    rw [hrh]
    exact Sco_glue2 (es := [eh]) zX (by simp) (by rw [k1]; exact zB)
  · rw [dfs_app, dfs_app, dfs_app, isb_dfs, isb_dfs]
    refine List.Perm.append_left _ ?_
    rw [← List.append_assoc, ← List.append_assoc]
    exact List.Perm.append_right _ List.perm_append_comm
  · rw [eA, dfs_app, dfs_cons, dfs_app, dfs_app X, dfs_app A2, dfs_cons it, hidr, List.append_nil]
    refine List.Sublist.append (List.Sublist.refl _) (List.Sublist.trans ?_ (List.sublist_append_right _ _))
    exact List.Sublist.append (List.Sublist.refl _) (List.Sublist.append (List.Sublist.refl _) (List.sublist_append_right _ _))
  · rw [eA]
    simp only [tsum_app, tsum, isb_sum]
    omega
theorem stp_inv {A B A' B' : List It} {it : It} {w : Nat} (hI : Inv (A ++ it :: B)) (hs : stp A it B = some (w, A', B')) : Inv (A' ++ B') ∧ A'.length + B'.length ≤ A.length + B.length ∧ w < 4 := by
  rcases kd5 it.1 with h | h | h | h | ⟨n2, n3, n5, n9⟩
  · have hc : occ it.2.1 (A ++ it :: B) = 0 := Classical.byContradiction fun z => by
      unfold stp at hs
      rw [if_neg (by omega), if_neg (by omega), if_neg (by omega), if_pos h, if_neg z] at hs
      cases hs
    obtain ⟨X, r, C, rfl, x2, x3⟩ := Inv_fun hI h
    rw [stp_drop h x3 hc] at hs
    cases hs
    refine ⟨stp_inv_drop hI h x3 hc, ?_, by decide⟩
    simp only [List.length_append, List.length_cons, List.length_nil]
    omega
  · have hc : it.2.2.2.1.1 = 1 ∧ occ it.2.2.2.1.2 (A ++ it :: B) = 1 := Classical.byContradiction fun z => by
      unfold stp at hs
      rw [if_neg (by omega), if_neg (by omega), if_pos h, if_neg z] at hs
      cases hs
    obtain ⟨z1, z3⟩ := hc
    rcases inl_where (f := it.2.2.2.1.2) hI.1 hI.2.1 h (Prod.ext z1 rfl) with z | ⟨A1, F, X, r, A2, e1, e2, e3, e4, e5, e6, e7⟩
    · exfalso
      unfold stp at hs
      rw [if_neg (by omega), if_neg (by omega), if_pos h, if_pos ⟨z1, z3⟩, ffn_none (fun x hx => z x (List.mem_append_left _ hx))] at hs
      cases hs
    · subst e1
      rw [stp_inl h ⟨e2, e3⟩ e6 e5 z1 z3] at hs
      cases hs
      refine ⟨stp_inv_inl hI h e2 e3 e4 e5 z1 z3, ?_, by decide⟩
      simp only [List.length_append, List.length_cons, List.length_nil, List.length_map]
      omega
  · have hc : it.2.2.2.1.1 = 0 ∧ it.2.2.2.2.1 = 0 ∧ ¬ (it.2.2.1 = 3 ∧ it.2.2.2.2.2 = 0) := Classical.byContradiction fun z => by
      unfold stp at hs
      rw [if_neg (by omega), if_pos h, if_neg z] at hs
      cases hs
    unfold stp at hs
    rw [if_neg (by omega), if_pos h, if_pos hc] at hs
    cases hs
    refine ⟨stp_inv_fold hI h, ?_, by decide⟩
    simp only [List.length_map]
    omega
  · exfalso
    unfold stp at hs
    rw [if_pos h] at hs
    cases hs
  · have hc : it.2.2.2.1.1 = 0 := Classical.byContradiction fun z => by
      unfold stp at hs
      rw [if_neg n9, if_neg n5, if_neg n3, if_neg n2, if_neg z] at hs
      cases hs
    obtain ⟨e, stk, hr, hss, hB⟩ := Sco_at hI.1
    have e1 : scn e stk it = e :: e :: (it.2.1 :: e) :: stk := by
      unfold scn
      rw [if_neg n9, if_neg n2, if_neg n3, if_neg n5]
    rw [e1] at hB
    obtain ⟨X1, r1, C1, rfl, x2, x3, x4, x5⟩ := Sco_row1 hB
    obtain ⟨X2, r2, C, rfl, y2, y3, y4, y5⟩ := Sco_row1 x5
    rw [stp_if n2 n3 n5 n9 x3 y3 hc] at hs
    cases hs
    by_cases hz : it.2.2.2.1.2 = 0
    · simp only [if_pos hz]
      refine ⟨stp_inv_choose hI hr n2 n9 y2 y4 y5 ?_ ?_, ?_, by decide⟩
      · rw [dfs_app, dfs_app _ C, dfs_app X2]
        refine List.Sublist.trans ?_ (List.sublist_append_right _ _)
        exact List.Sublist.append (List.sublist_append_left _ _) (List.Sublist.refl _)
      · simp only [tsum_app]
        omega
      · simp only [List.length_append, List.length_cons, List.length_nil, List.length_map]
        omega
    · simp only [if_neg hz]
      refine ⟨stp_inv_choose hI hr n2 n9 x2 x4 y5 ?_ ?_, ?_, by decide⟩
      · rw [dfs_app, dfs_app _ C, dfs_app X1]
        exact List.Sublist.append (List.sublist_append_left _ _) (List.sublist_append_right _ _)
      · simp only [tsum_app]
        omega
      · simp only [List.length_append, List.length_cons, List.length_nil, List.length_map]
        omega
end
section
/-! ===== a pass: steps until the end of the items; the reference's goesOver, fails, pass, simplify, count, written, ran ===== -/
def pas : Nat → List It → List It → Nat → (Nat → Int32) → List It × Nat × (Nat → Int32)
  | 0, A, B, m, c => (A ++ B, m, c)
  | _ + 1, A, [], m, c => (A, m, c)
  | k + 1, A, it :: B, m, c => match stp A it B with
    | some (w, A', B') => pas k A' B' (m + 1) (rup c w (c w + 1))
    | none => pas k (A ++ [it]) B m c
theorem pas_nil (k : Nat) (A : List It) (m : Nat) (c : Nat → Int32) : pas k A [] m c = (A, m, c) := by
  cases k with
  | zero => show (A ++ [], m, c) = _; rw [List.append_nil]
  | succ k => rfl
theorem pas_yes {k : Nat} {A B A' B' : List It} {it : It} {m w : Nat} {c : Nat → Int32} (h : stp A it B = some (w, A', B')) : pas (k + 1) A (it :: B) m c = pas k A' B' (m + 1) (rup c w (c w + 1)) := by
  show (match stp A it B with | some (w, A', B') => pas k A' B' (m + 1) (rup c w (c w + 1)) | none => pas k (A ++ [it]) B m c) = _
  rw [h]
theorem pas_no {k : Nat} {A B : List It} {it : It} {m : Nat} {c : Nat → Int32} (h : stp A it B = none) : pas (k + 1) A (it :: B) m c = pas k (A ++ [it]) B m c := by
  show (match stp A it B with | some (w, A', B') => pas k A' B' (m + 1) (rup c w (c w + 1)) | none => pas k (A ++ [it]) B m c) = _
  rw [h]
theorem app1 (A B : List It) (it : It) : (A ++ [it]) ++ B = A ++ it :: B := by simp
theorem pas_inv : ∀ (k : Nat) (A B : List It) (m : Nat) (c : Nat → Int32), Inv (A ++ B) → Inv (pas k A B m c).1
  | 0, A, B, m, c, h => h
  | k + 1, A, [], m, c, h => by rw [pas_nil]; rw [List.append_nil] at h; exact h
  | k + 1, A, it :: B, m, c, h => by
    cases hs : stp A it B with
    | none => rw [pas_no hs]; exact pas_inv k _ _ _ _ (by rw [app1]; exact h)
    | some q => obtain ⟨w, A', B'⟩ := q; rw [pas_yes hs]; exact pas_inv k _ _ _ _ (stp_inv h hs).1
theorem tsum_len (P : List It) : 3 * P.length ≤ tsum P := by
  induction P with
  | nil => exact Nat.le_refl _
  | cons a P ih => simp only [List.length_cons, tsum]; have := isz_ge a; omega
/-- steps that a pass has left, at most -/
def pfu (A B : List It) : Nat := (A.length + B.length) * 200 + B.length
theorem pfu_no (A B : List It) (it : It) : pfu (A ++ [it]) B < pfu A (it :: B) := by
  unfold pfu
  simp only [List.length_append, List.length_cons, List.length_nil]
  omega
theorem pfu_yes {A B A' B' : List It} {it : It} {w : Nat} (hI : Inv (A ++ it :: B)) (hs : stp A it B = some (w, A', B')) : pfu A' B' < pfu A (it :: B) := by
  obtain ⟨h1, h2, -⟩ := stp_inv hI hs
  have h3 := tsum_len (A' ++ B')
  have h4 := h1.2.2
  rw [List.length_append] at h3
  unfold pfu
  simp only [List.length_cons]
  omega
theorem pas_cnt : ∀ (k : Nat) (A B : List It) (m : Nat) (c : Nat → Int32), Inv (A ++ B) → (pas k A B m c).1.length + (pas k A B m c).2.1 ≤ A.length + B.length + m ∧ m ≤ (pas k A B m c).2.1
  | 0, A, B, m, c, h => ⟨by show (A ++ B).length + m ≤ _; rw [List.length_append]; exact Nat.le_refl _, Nat.le_refl _⟩
  | k + 1, A, [], m, c, h => by rw [pas_nil]; exact ⟨Nat.le_refl _, Nat.le_refl _⟩
  | k + 1, A, it :: B, m, c, h => by
    cases hs : stp A it B with
    | none =>
      rw [pas_no hs]
      have := pas_cnt k (A ++ [it]) B m c (by rw [app1]; exact h)
      simp only [List.length_append, List.length_cons, List.length_nil] at this ⊢
      omega
    | some q =>
      obtain ⟨w, A', B'⟩ := q
      rw [pas_yes hs]
      obtain ⟨h1, h2, -⟩ := stp_inv h hs
      have := pas_cnt k A' B' (m + 1) (rup c w (c w + 1)) h1
      simp only [List.length_cons]
      omega
section M12
variable {E : PE} {d o : Nat} {g : PH} {S : MSt}
theorem lp_go : ∀ (k : Nat) (A B : List It) (m : Nat) (R W c : Nat → Int32) (n : Int32) (x : Option Value), pfu A B ≤ k → Inv (A ++ B) → PM R n (A ++ B) →
    ∃ R' W' : Nat → Int32, Rk E (d + 4) (24, 4, [some (.ref o), some (.int (nI m)), some (.int (nI (tsum A))), x], []) (mh g o (mst S R W c n)) (some (.int (nI (pas k A B m c).2.1))) (mh g o (mst S R' W' (pas k A B m c).2.2 (nI (tsum (pas k A B m c).1)))) ∧ TokAt R' 0 (pas k A B m c).1 := by
  intro k
  induction k with
  | zero =>
    intro A B m R W c n x hk hI hM
    have hB : B = [] := by
      unfold pfu at hk
      cases B with
      | nil => rfl
      | cons a B => simp only [List.length_cons] at hk; omega
    subst hB
    rw [pas_nil]
    rw [List.append_nil] at hM
    obtain ⟨t1, rfl, -⟩ := hM
    refine ⟨R, W, ?_, t1⟩
    refine Rk.tr (F1 := (24, 5, _, _)) (x_iload_n rfl rfl) ?_
    refine Rk.tr (F1 := (24, 6, _, _)) (x_aload_n rfl rfl rfl) ?_
    refine Rk.tr (F1 := (24, 9, _, _)) (m_get rfl rfl (Nat.le_of_ble_eq_true rfl)) ?_
    refine Rk.tr (F1 := (24, 64, _, _)) (x_icT rfl (tg := 64) rfl (show nI (tsum A) ≤ nI (tsum A) by exact Int32.le_refl _)) ?_
    refine Rk.tr (F1 := (24, 65, _, _)) (x_iload_n rfl rfl) ?_
    exact Rk.end rfl (Or.inr (Or.inl ⟨rfl, _, .int, rfl, rfl, rfl, rfl⟩))
  | succ k ih =>
    intro A B m R W c n x hk hI hM
    cases B with
    | nil =>
      rw [pas_nil]
      rw [List.append_nil] at hM
      obtain ⟨t1, rfl, -⟩ := hM
      refine ⟨R, W, ?_, t1⟩
      refine Rk.tr (F1 := (24, 5, _, _)) (x_iload_n rfl rfl) ?_
      refine Rk.tr (F1 := (24, 6, _, _)) (x_aload_n rfl rfl rfl) ?_
      refine Rk.tr (F1 := (24, 9, _, _)) (m_get rfl rfl (Nat.le_of_ble_eq_true rfl)) ?_
      refine Rk.tr (F1 := (24, 64, _, _)) (x_icT rfl (tg := 64) rfl (show nI (tsum A) ≤ nI (tsum A) by exact Int32.le_refl _)) ?_
      refine Rk.tr (F1 := (24, 65, _, _)) (x_iload_n rfl rfl) ?_
      exact Rk.end rfl (Or.inr (Or.inl ⟨rfl, _, .int, rfl, rfl, rfl, rfl⟩))
    | cons it B =>
      obtain ⟨t1, h8, hn⟩ := PM.it (P := []) hM
      have hz := isz_ge it
      have hts := Tok1_sz t1
      cases hs : stp A it B with
      | none =>
        rw [pas_no hs]
        have hfu := pfu_no A B it
        obtain ⟨R', W', r1, r2⟩ := ih (A ++ [it]) B m R W c n none (by omega) (by rw [app1]; exact hI) (by rw [app1]; exact hM)
        refine ⟨R', W', ?_, r2⟩
        rw [tsum_app, show tsum [it] = isz it by simp only [tsum]; omega] at r1
        have key : Ex E (d + 4) (24, 12, [some (.ref o), some (.int (nI m)), some (.int (nI (tsum A))), x], []) (mh g o (mst S R W c n)) (24, 32, [some (.ref o), some (.int (nI m)), some (.int (nI (tsum A))), x], [.int (-1)]) (mh g o (mst S R W c n)) := by
          by_cases h9 : it.1 = 9
          · have hr : ¬ R (tsum A) = 8 := fun z => (hts.2.2.2.2.1.mp z) h9
            generalize tsum A = p at h8 hr ⊢
            refine Ex.tr (F1 := (24, 13, _, _)) (x_aload_n rfl rfl rfl) ?_
            refine Ex.tr (F1 := (24, 16, _, _)) (m_get rfl rfl (Nat.le_of_ble_eq_true rfl)) ?_
            refine Ex.tr (F1 := (24, 17, _, _)) (x_iload_n rfl rfl) ?_
            refine Ex.tr (F1 := (24, 18, _, _)) (m_iald (k := 5) (n := p) rfl rfl rfl rfl (show p < 800 by omega)) ?_
            refine Ex.tr (F1 := (24, 20, _, _)) (x_bipush rfl) ?_
            refine Ex.tr (F1 := (24, 31, _, _)) (x_icT rfl (tg := 31) rfl hr) ?_
            refine Ex.tr (F1 := (24, 32, _, _)) (x_iconst rfl) ?_
            exact Ex.rf
          · have hr : R (tsum A) = 8 := hts.2.2.2.2.1.mpr h9
            have call := c_step_no (E := E) (d := d) (o := o) (g := g) (S := S) (W := W) (c := c) h9 hI hM hs
            generalize tsum A = p at h8 hr call ⊢
            refine Ex.tr (F1 := (24, 13, _, _)) (x_aload_n rfl rfl rfl) ?_
            refine Ex.tr (F1 := (24, 16, _, _)) (m_get rfl rfl (Nat.le_of_ble_eq_true rfl)) ?_
            refine Ex.tr (F1 := (24, 17, _, _)) (x_iload_n rfl rfl) ?_
            refine Ex.tr (F1 := (24, 18, _, _)) (m_iald (k := 5) (n := p) rfl rfl rfl rfl (show p < 800 by omega)) ?_
            refine Ex.tr (F1 := (24, 20, _, _)) (x_bipush rfl) ?_
            refine Ex.tr (F1 := (24, 23, _, _)) (x_icF rfl (tg := 31) rfl (fun q => q hr)) ?_
            refine Ex.tr (F1 := (24, 24, _, _)) (x_aload_n rfl rfl rfl) ?_
            refine Ex.tr (F1 := (24, 25, _, _)) (x_iload_n rfl rfl) ?_
            refine Ex.tr (F1 := (24, 28, _, _)) (m_call (As := [_]) rfl rfl rfl (Or.inr rfl) rfl rfl rfl (Nat.le_of_ble_eq_true rfl) call rfl) ?_
            refine Ex.tr (F1 := (24, 32, _, _)) (x_goto rfl rfl) ?_
            exact Ex.rf
        have hsz : tsz R (tsum A) = isz it := hts.1
        have hlt : ¬ n ≤ nI (tsum A) := by rw [hn]; exact nI_ge (by omega) (by omega)
        generalize tsum A = p at h8 hlt hsz key r1 ⊢
        refine Rk.tr (F1 := (24, 5, _, _)) (x_iload_n rfl rfl) ?_
        refine Rk.tr (F1 := (24, 6, _, _)) (x_aload_n rfl rfl rfl) ?_
        refine Rk.tr (F1 := (24, 9, _, _)) (m_get rfl rfl (Nat.le_of_ble_eq_true rfl)) ?_
        refine Rk.tr (F1 := (24, 12, _, _)) (x_icF rfl (tg := 64) rfl hlt) ?_
        refine Rk.tr key ?_
        refine Rk.tr (F1 := (24, 33, [_, _, _, _], _)) (x_istore_n (i := 3) rfl (Nat.le_of_ble_eq_true rfl)) ?_
        refine Rk.tr (F1 := (24, 34, _, _)) (x_iload_n rfl rfl) ?_
        refine Rk.tr (F1 := (24, 35, _, _)) (x_iload_n rfl rfl) ?_
        refine Rk.tr (F1 := (24, 38, _, _)) (x_ifF rfl (tg := 42) rfl (by unfold pcc; decide)) ?_
        refine Rk.tr (F1 := (24, 39, _, _)) (x_iconst rfl) ?_
        refine Rk.tr (F1 := (24, 43, _, _)) (x_goto rfl rfl) ?_
        refine Rk.tr (F1 := (24, 44, _, _)) (x_iadd rfl) ?_
        refine Rk.tr (F1 := (24, 44, _, _)) (x_top (nI_add m 0)) ?_
        refine Rk.tr (F1 := (24, 45, [_, _, _, _], _)) (x_istore_n (i := 1) rfl (Nat.le_of_ble_eq_true rfl)) ?_
        refine Rk.tr (F1 := (24, 46, _, _)) (x_iload_n rfl rfl) ?_
        refine Rk.tr (F1 := (24, 49, _, _)) (x_ifF rfl (tg := 59) rfl (by unfold pcc; decide)) ?_
        refine Rk.tr (F1 := (24, 50, _, _)) (x_iload_n rfl rfl) ?_
        refine Rk.tr (F1 := (24, 51, _, _)) (x_aload_n rfl rfl rfl) ?_
        refine Rk.tr (F1 := (24, 52, _, _)) (x_iload_n rfl rfl) ?_
        refine Rk.tr (F1 := (24, 55, _, _)) (m_call (As := [_]) rfl rfl rfl (Or.inr rfl) rfl rfl rfl (Nat.le_of_ble_eq_true rfl) (c_size (by omega)) rfl) ?_
        refine Rk.tr (F1 := (24, 56, _, _)) (x_iadd rfl) ?_
        refine Rk.tr (F1 := (24, 60, _, _)) (x_goto rfl rfl) ?_
        refine Rk.tr (F1 := (24, 60, _, _)) (x_top (y := nI (p + isz it)) (by rw [show tsz ((mst S R W c n).2 5) p = isz it from hsz]; exact nI_add p _)) ?_
        refine Rk.tr (F1 := (24, 61, [_, _, _, _], _)) (x_istore_n (i := 2) rfl (Nat.le_of_ble_eq_true rfl)) ?_
        refine Rk.tr (F1 := (24, 4, _, _)) (x_goto rfl rfl) ?_
        refine Rk.tr (F1 := (24, 4, [_, _, _, none], _)) (x_wk ⟨Or.inr rfl, Or.inr rfl, Or.inr rfl, Or.inl rfl, trivial⟩) ?_
        exact r1
      | some q =>
        obtain ⟨w, A', B'⟩ := q
        rw [pas_yes hs]
        have hfu := pfu_yes hI hs
        have hI' := (stp_inv hI hs).1
        obtain ⟨R1, W1, call, t2⟩ := c_step_yes (E := E) (d := d) (o := o) (g := g) (S := S) (W := W) (c := c) hI hM hs
        obtain ⟨R', W', r1, r2⟩ := ih A' B' (m + 1) R1 W1 (rup c w (c w + 1)) _ none (by omega) hI' ⟨t2, rfl, by have := hI'.2.2; omega⟩
        refine ⟨R', W', ?_, r2⟩
        have h9 : it.1 ≠ 9 := fun z => by
          unfold stp at hs
          rw [if_pos z] at hs
          cases hs
        have hr : R (tsum A) = 8 := hts.2.2.2.2.1.mpr h9
        have hlt : ¬ n ≤ nI (tsum A) := by rw [hn]; exact nI_ge (by omega) (by omega)
        have hge : (0 : Int32) ≤ nI (tsum A') := nI_le (a := 0) (by omega) (by have := hI'.2.2; rw [tsum_app] at this; omega)
        generalize tsum A = p at h8 hlt hr call ⊢
        generalize tsum A' = p' at hge call r1
        refine Rk.tr (F1 := (24, 5, _, _)) (x_iload_n rfl rfl) ?_
        refine Rk.tr (F1 := (24, 6, _, _)) (x_aload_n rfl rfl rfl) ?_
        refine Rk.tr (F1 := (24, 9, _, _)) (m_get rfl rfl (Nat.le_of_ble_eq_true rfl)) ?_
        refine Rk.tr (F1 := (24, 12, _, _)) (x_icF rfl (tg := 64) rfl hlt) ?_
        refine Rk.tr (F1 := (24, 13, _, _)) (x_aload_n rfl rfl rfl) ?_
        refine Rk.tr (F1 := (24, 16, _, _)) (m_get rfl rfl (Nat.le_of_ble_eq_true rfl)) ?_
        refine Rk.tr (F1 := (24, 17, _, _)) (x_iload_n rfl rfl) ?_
        refine Rk.tr (F1 := (24, 18, _, _)) (m_iald (k := 5) (n := p) rfl rfl rfl rfl (show p < 800 by omega)) ?_
        refine Rk.tr (F1 := (24, 20, _, _)) (x_bipush rfl) ?_
        refine Rk.tr (F1 := (24, 23, _, _)) (x_icF rfl (tg := 31) rfl (fun q => q hr)) ?_
        refine Rk.tr (F1 := (24, 24, _, _)) (x_aload_n rfl rfl rfl) ?_
        refine Rk.tr (F1 := (24, 25, _, _)) (x_iload_n rfl rfl) ?_
        refine Rk.tr (F1 := (24, 28, _, _)) (m_call (As := [_]) rfl rfl rfl (Or.inr rfl) rfl rfl rfl (Nat.le_of_ble_eq_true rfl) call rfl) ?_
        refine Rk.tr (F1 := (24, 32, _, _)) (x_goto rfl rfl) ?_
        refine Rk.tr (F1 := (24, 33, [_, _, _, _], _)) (x_istore_n (i := 3) rfl (Nat.le_of_ble_eq_true rfl)) ?_
        refine Rk.tr (F1 := (24, 34, _, _)) (x_iload_n rfl rfl) ?_
        refine Rk.tr (F1 := (24, 35, _, _)) (x_iload_n rfl rfl) ?_
        refine Rk.tr (F1 := (24, 42, _, _)) (x_ifT rfl (tg := 42) rfl hge) ?_
        refine Rk.tr (F1 := (24, 43, _, _)) (x_iconst rfl) ?_
        refine Rk.tr (F1 := (24, 44, _, _)) (x_iadd rfl) ?_
        refine Rk.tr (F1 := (24, 44, _, _)) (x_top (nI_1 m)) ?_
        refine Rk.tr (F1 := (24, 45, [_, _, _, _], _)) (x_istore_n (i := 1) rfl (Nat.le_of_ble_eq_true rfl)) ?_
        refine Rk.tr (F1 := (24, 46, _, _)) (x_iload_n rfl rfl) ?_
        refine Rk.tr (F1 := (24, 59, _, _)) (x_ifT rfl (tg := 59) rfl hge) ?_
        refine Rk.tr (F1 := (24, 60, _, _)) (x_iload_n rfl rfl) ?_
        refine Rk.tr (F1 := (24, 61, [_, _, _, _], _)) (x_istore_n (i := 2) rfl (Nat.le_of_ble_eq_true rfl)) ?_
        refine Rk.tr (F1 := (24, 4, _, _)) (x_goto rfl rfl) ?_
        refine Rk.tr (F1 := (24, 4, [_, _, _, none], _)) (x_wk ⟨Or.inr rfl, Or.inr rfl, Or.inr rfl, Or.inl rfl, trivial⟩) ?_
        exact r1
/-- what a pass makes of a program -/
def paP (P : List It) (c : Nat → Int32) : List It × Nat × (Nat → Int32) := pas (pfu [] P) [] P 0 c
theorem paP_inv {P : List It} (c : Nat → Int32) (h : Inv P) : Inv (paP P c).1 := pas_inv _ [] P 0 c h
theorem c_goesOver {P : List It} {R W c : Nat → Int32} {n : Int32} (hI : Inv P) (hM : PM R n P) : ∃ R' W' : Nat → Int32, Rn E (d + 4) 24 [.ref o] (mh g o (mst S R W c n)) (some (.int (nI (paP P c).2.1))) (mh g o (mst S R' W' (paP P c).2.2 (nI (tsum (paP P c).1)))) ∧ TokAt R' 0 (paP P c).1 := by
  obtain ⟨R', W', r1, r2⟩ := lp_go (E := E) (d := d) (o := o) (g := g) (S := S) (pfu [] P) [] P 0 R W c n none (Nat.le_refl _) hI hM
  refine ⟨R', W', Rn.of (Nat.le_of_ble_eq_true rfl) ?_, r2⟩
  refine Rk.tr (F1 := (24, 1, _, _)) (x_iconst rfl) ?_
  refine Rk.tr (F1 := (24, 2, [_, _, _, _], _)) (x_istore_n (i := 1) rfl (Nat.le_of_ble_eq_true rfl)) ?_
  refine Rk.tr (F1 := (24, 3, _, _)) (x_iconst rfl) ?_
  refine Rk.tr (F1 := (24, 4, [_, _, _, _], _)) (x_istore_n (i := 2) rfl (Nat.le_of_ble_eq_true rfl)) ?_
  exact r1
theorem c_fails1 {b : Int32} : Rn E d 20 [.ref o, .int 1, .int b] (mh g o S) (some (.int 1)) (mh g o (msI S 0 1)) := by
  refine Rn.of (Nat.le_of_ble_eq_true rfl) ?_
  refine Rk.tr (F1 := (20, 1, _, _)) (x_aload_n rfl rfl rfl) ?_
  refine Rk.tr (F1 := (20, 2, _, _)) (x_iload_n rfl rfl) ?_
  refine Rk.tr (F1 := (20, 5, _, _)) (x_ifF rfl (tg := 9) rfl (by unfold pcc; decide)) ?_
  refine Rk.tr (F1 := (20, 6, _, _)) (x_iconst rfl) ?_
  refine Rk.tr (F1 := (20, 18, _, _)) (x_goto rfl rfl) ?_
  refine Rk.tr (F1 := (20, 21, _, _)) (m_put rfl rfl rfl rfl rfl rfl) ?_
  refine Rk.tr (F1 := (20, 22, _, _)) (x_aload_n rfl rfl rfl) ?_
  refine Rk.tr (F1 := (20, 25, _, _)) (m_get rfl rfl (Nat.le_of_ble_eq_true rfl)) ?_
  refine Rk.tr (F1 := (20, 28, _, _)) (x_ifF rfl (tg := 32) rfl (show ¬ (1 : Int32) ≤ 0 by decide)) ?_
  refine Rk.tr (F1 := (20, 29, _, _)) (x_iconst rfl) ?_
  refine Rk.tr (F1 := (20, 33, _, _)) (x_goto rfl rfl) ?_
  exact Rk.end rfl (Or.inr (Or.inl ⟨rfl, _, .boolean, rfl, rfl, rfl, rfl⟩))
theorem c_fails2 : Rn E d 20 [.ref o, .int 0, .int 1] (mh g o S) (some (.int 1)) (mh g o (msI S 0 2)) := by
  refine Rn.of (Nat.le_of_ble_eq_true rfl) ?_
  refine Rk.tr (F1 := (20, 1, _, _)) (x_aload_n rfl rfl rfl) ?_
  refine Rk.tr (F1 := (20, 2, _, _)) (x_iload_n rfl rfl) ?_
  refine Rk.tr (F1 := (20, 9, _, _)) (x_ifT rfl (tg := 9) rfl rfl) ?_
  refine Rk.tr (F1 := (20, 10, _, _)) (x_iload_n rfl rfl) ?_
  refine Rk.tr (F1 := (20, 13, _, _)) (x_ifF rfl (tg := 17) rfl (by unfold pcc; decide)) ?_
  refine Rk.tr (F1 := (20, 14, _, _)) (x_iconst rfl) ?_
  refine Rk.tr (F1 := (20, 18, _, _)) (x_goto rfl rfl) ?_
  refine Rk.tr (F1 := (20, 21, _, _)) (m_put rfl rfl rfl rfl rfl rfl) ?_
  refine Rk.tr (F1 := (20, 22, _, _)) (x_aload_n rfl rfl rfl) ?_
  refine Rk.tr (F1 := (20, 25, _, _)) (m_get rfl rfl (Nat.le_of_ble_eq_true rfl)) ?_
  refine Rk.tr (F1 := (20, 28, _, _)) (x_ifF rfl (tg := 32) rfl (show ¬ (2 : Int32) ≤ 0 by decide)) ?_
  refine Rk.tr (F1 := (20, 29, _, _)) (x_iconst rfl) ?_
  refine Rk.tr (F1 := (20, 33, _, _)) (x_goto rfl rfl) ?_
  exact Rk.end rfl (Or.inr (Or.inl ⟨rfl, _, .boolean, rfl, rfl, rfl, rfl⟩))
theorem c_fails0 : Rn E d 20 [.ref o, .int 0, .int 0] (mh g o S) (some (.int 0)) (mh g o (msI S 0 0)) := by
  refine Rn.of (Nat.le_of_ble_eq_true rfl) ?_
  refine Rk.tr (F1 := (20, 1, _, _)) (x_aload_n rfl rfl rfl) ?_
  refine Rk.tr (F1 := (20, 2, _, _)) (x_iload_n rfl rfl) ?_
  refine Rk.tr (F1 := (20, 9, _, _)) (x_ifT rfl (tg := 9) rfl rfl) ?_
  refine Rk.tr (F1 := (20, 10, _, _)) (x_iload_n rfl rfl) ?_
  refine Rk.tr (F1 := (20, 17, _, _)) (x_ifT rfl (tg := 17) rfl rfl) ?_
  refine Rk.tr (F1 := (20, 18, _, _)) (x_iconst rfl) ?_
  refine Rk.tr (F1 := (20, 21, _, _)) (m_put rfl rfl rfl rfl rfl rfl) ?_
  refine Rk.tr (F1 := (20, 22, _, _)) (x_aload_n rfl rfl rfl) ?_
  refine Rk.tr (F1 := (20, 25, _, _)) (m_get rfl rfl (Nat.le_of_ble_eq_true rfl)) ?_
  refine Rk.tr (F1 := (20, 32, _, _)) (x_ifT rfl (tg := 32) rfl (show (0 : Int32) ≤ 0 by decide)) ?_
  refine Rk.tr (F1 := (20, 33, _, _)) (x_iconst rfl) ?_
  exact Rk.end rfl (Or.inr (Or.inl ⟨rfl, _, .boolean, rfl, rfl, rfl, rfl⟩))
theorem c_pass0 (h : S.1 3 = 0) : Rn E (d + 1) 23 [.ref o] (mh g o S) (some (.int 0)) (mh g o (msI S 0 1)) := by
  refine Rn.of (Nat.le_of_ble_eq_true rfl) ?_
  refine Rk.tr (F1 := (23, 1, _, _)) (x_aload_n rfl rfl rfl) ?_
  refine Rk.tr (F1 := (23, 2, _, _)) (x_aload_n rfl rfl rfl) ?_
  refine Rk.tr (F1 := (23, 5, _, _)) (m_get rfl rfl (Nat.le_of_ble_eq_true rfl)) ?_
  refine Rk.tr (F1 := (23, 8, _, _)) (x_ifF rfl (tg := 12) rfl (fun q => q h)) ?_
  refine Rk.tr (F1 := (23, 9, _, _)) (x_iconst rfl) ?_
  refine Rk.tr (F1 := (23, 13, _, _)) (x_goto rfl rfl) ?_
  refine Rk.tr (F1 := (23, 14, _, _)) (x_iconst rfl) ?_
  refine Rk.tr (F1 := (23, 17, _, _)) (m_call (As := [_, _]) rfl rfl rfl (Or.inr rfl) rfl rfl rfl (Nat.le_of_ble_eq_true rfl) c_fails1 rfl) ?_
  refine Rk.tr (F1 := (23, 20, _, _)) (x_ifF rfl (tg := 24) rfl (by unfold pcc; decide)) ?_
  refine Rk.tr (F1 := (23, 21, _, _)) (x_iconst rfl) ?_
  refine Rk.tr (F1 := (23, 28, _, _)) (x_goto rfl rfl) ?_
  exact Rk.end rfl (Or.inr (Or.inl ⟨rfl, _, .int, rfl, rfl, rfl, rfl⟩))
theorem mst_of {S : MSt} {R W c : Nat → Int32} {n : Int32} : mst S R W c n = mst (mst S R W c n) R W c n := by
  refine Prod.ext (funext fun k => ?_) (funext fun k => ?_)
  · show (if k = 4 then n else S.1 k) = (if k = 4 then n else if k = 4 then n else S.1 k)
    split <;> rfl
  · show (if k = 5 then R else if k = 6 then W else if k = 7 then c else S.2 k) = (if k = 5 then R else if k = 6 then W else if k = 7 then c else if k = 5 then R else if k = 6 then W else if k = 7 then c else S.2 k)
    split
    · rfl
    · split
      · rfl
      · split <;> rfl
theorem mst_I0 {S : MSt} {R W c : Nat → Int32} {n x : Int32} : msI (mst S R W c n) 0 x = mst (msI S 0 x) R W c n := by
  refine Prod.ext (funext fun k => ?_) rfl
  show (if k = 0 then x else if k = 4 then n else S.1 k) = (if k = 4 then n else if k = 0 then x else S.1 k)
  by_cases h0 : k = 0
  · subst h0; rfl
  · rw [if_neg h0, if_neg h0]
theorem c_pass {P : List It} {R W c : Nat → Int32} {n : Int32} (hz : (mst S R W c n).1 3 ≠ 0) (hI : Inv P) (hM : PM R n P) : ∃ R' W' : Nat → Int32, Rn E (d + 5) 23 [.ref o] (mh g o (mst S R W c n)) (some (.int (nI (paP P c).2.1))) (mh g o (mst (msI S 0 0) R' W' (paP P c).2.2 (nI (tsum (paP P c).1)))) ∧ TokAt R' 0 (paP P c).1 := by
  obtain ⟨R', W', r1, r2⟩ := c_goesOver (E := E) (d := d) (o := o) (g := g) (S := msI S 0 0) (W := W) (c := c) hI hM
  refine ⟨R', W', Rn.of (Nat.le_of_ble_eq_true rfl) ?_, r2⟩
  refine Rk.tr (F1 := (23, 1, _, _)) (x_aload_n rfl rfl rfl) ?_
  refine Rk.tr (F1 := (23, 2, _, _)) (x_aload_n rfl rfl rfl) ?_
  refine Rk.tr (F1 := (23, 5, _, _)) (m_get rfl rfl (Nat.le_of_ble_eq_true rfl)) ?_
  refine Rk.tr (F1 := (23, 12, _, _)) (x_ifT rfl (tg := 12) rfl hz) ?_
  refine Rk.tr (F1 := (23, 13, _, _)) (x_iconst rfl) ?_
  refine Rk.tr (F1 := (23, 14, _, _)) (x_iconst rfl) ?_
  refine Rk.tr (F1 := (23, 17, _, _)) (m_call (As := [_, _]) rfl rfl rfl (Or.inr rfl) rfl rfl rfl (Nat.le_of_ble_eq_true rfl) (c_fails0 (d := d + 4)) rfl) ?_
  refine Rk.tr (F1 := (23, 24, _, _)) (x_ifT rfl (tg := 24) rfl rfl) ?_
  refine Rk.tr (F1 := (23, 25, _, _)) (x_aload_n rfl rfl rfl) ?_
  refine Rk.tr (F1 := (23, 28, _, _)) (m_call (As := []) rfl rfl rfl (Or.inr rfl) rfl rfl rfl (Nat.le_of_ble_eq_true rfl) (by rw [mst_I0]; exact r1) rfl) ?_
  exact Rk.end rfl (Or.inr (Or.inl ⟨rfl, _, .int, rfl, rfl, rfl, rfl⟩))
/-- passes until one has nothing to do: the program, how many, the counts -/
def sim : Nat → List It → Nat → (Nat → Int32) → List It × Nat × (Nat → Int32)
  | 0, P, n, c => (P, n, c)
  | k + 1, P, n, c => if (paP P c).2.1 = 0 then ((paP P c).1, n, (paP P c).2.2) else sim k (paP P c).1 (n + 1) (paP P c).2.2
theorem sim_inv : ∀ (k : Nat) (P : List It) (n : Nat) (c : Nat → Int32), Inv P → Inv (sim k P n c).1
  | 0, P, n, c, h => h
  | k + 1, P, n, c, h => by
    unfold sim
    split
    · exact paP_inv c h
    · exact sim_inv k _ _ _ (paP_inv c h)
theorem paP_cnt {P : List It} (c : Nat → Int32) (h : Inv P) : (paP P c).1.length + (paP P c).2.1 ≤ P.length := by
  have := (pas_cnt (pfu [] P) [] P 0 c h).1
  simp only [List.length_nil] at this
  unfold paP
  omega
theorem Inv_len {P : List It} (h : Inv P) : P.length ≤ 133 := by
  have h1 := tsum_len P
  have := h.2.2
  omega
theorem lp_sim : ∀ (k : Nat) (P : List It) (m : Nat) (R W c : Nat → Int32) (n : Int32), P.length < k → Inv P → PM R n P →
    ∃ R' W' : Nat → Int32, Rk E (d + 5) (39, 24, [some (.ref o), some (.int (nI m))], []) (mh g o (mst S R W c n)) (some (.int (nI (sim k P m c).2.1))) (mh g o (mst S R' W' (sim k P m c).2.2 (nI (tsum (sim k P m c).1)))) ∧ TokAt R' 0 (sim k P m c).1 := by
  intro k
  induction k with
  | zero => intro P m R W c n hk; omega
  | succ k ih =>
    intro P m R W c n hk hI hM
    obtain ⟨R1, W1, r1, r2⟩ := c_goesOver (E := E) (d := d) (o := o) (g := g) (S := S) (W := W) (c := c) hI hM
    have hI1 := paP_inv c hI
    have hcn := paP_cnt c hI
    have hle := Inv_len hI
    unfold sim
    by_cases h0 : (paP P c).2.1 = 0
    · rw [if_pos h0]
      refine ⟨R1, W1, ?_, r2⟩
      refine Rk.tr (F1 := (39, 25, _, _)) (x_aload_n rfl rfl rfl) ?_
      refine Rk.tr (F1 := (39, 28, _, _)) (m_call (As := []) rfl rfl rfl (Or.inr rfl) rfl rfl rfl (Nat.le_of_ble_eq_true rfl) r1 rfl) ?_
      refine Rk.tr (F1 := (39, 37, _, _)) (x_ifT rfl (tg := 37) rfl (by rw [h0]; unfold pcc; decide)) ?_
      refine Rk.tr (F1 := (39, 38, _, _)) (x_iload_n rfl rfl) ?_
      exact Rk.end rfl (Or.inr (Or.inl ⟨rfl, _, .int, rfl, rfl, rfl, rfl⟩))
    · rw [if_neg h0]
      obtain ⟨R2, W2, r3, r4⟩ := ih (paP P c).1 (m + 1) R1 W1 (paP P c).2.2 _ (by omega) hI1 ⟨r2, rfl, by have := hI1.2.2; omega⟩
      refine ⟨R2, W2, ?_, r4⟩
      refine Rk.tr (F1 := (39, 25, _, _)) (x_aload_n rfl rfl rfl) ?_
      refine Rk.tr (F1 := (39, 28, _, _)) (m_call (As := []) rfl rfl rfl (Or.inr rfl) rfl rfl rfl (Nat.le_of_ble_eq_true rfl) r1 rfl) ?_
      refine Rk.tr (F1 := (39, 31, _, _)) (x_ifF rfl (tg := 37) rfl (nI_ge (a := 0) (by omega) (by omega))) ?_
      refine Rk.tr (F1 := (39, 34, [_, _], _)) (x_iinc (i := 1) rfl rfl) ?_
      refine Rk.tr (F1 := (39, 24, [_, _], _)) (x_goto rfl rfl) ?_
      rw [show nI m + Int32.ofInt 1 = nI (m + 1) from nI_1 m]
      exact r3
theorem c_simp0 (h : S.1 3 = 0) : Rn E (d + 1) 39 [.ref o] (mh g o S) (some (.int 0)) (mh g o (msI S 0 1)) := by
  refine Rn.of (Nat.le_of_ble_eq_true rfl) ?_
  refine Rk.tr (F1 := (39, 1, _, _)) (x_aload_n rfl rfl rfl) ?_
  refine Rk.tr (F1 := (39, 2, _, _)) (x_aload_n rfl rfl rfl) ?_
  refine Rk.tr (F1 := (39, 5, _, _)) (m_get rfl rfl (Nat.le_of_ble_eq_true rfl)) ?_
  refine Rk.tr (F1 := (39, 8, _, _)) (x_ifF rfl (tg := 12) rfl (fun q => q h)) ?_
  refine Rk.tr (F1 := (39, 9, _, _)) (x_iconst rfl) ?_
  refine Rk.tr (F1 := (39, 13, _, _)) (x_goto rfl rfl) ?_
  refine Rk.tr (F1 := (39, 14, _, _)) (x_iconst rfl) ?_
  refine Rk.tr (F1 := (39, 17, _, _)) (m_call (As := [_, _]) rfl rfl rfl (Or.inr rfl) rfl rfl rfl (Nat.le_of_ble_eq_true rfl) c_fails1 rfl) ?_
  refine Rk.tr (F1 := (39, 20, _, _)) (x_ifF rfl (tg := 22) rfl (by unfold pcc; decide)) ?_
  refine Rk.tr (F1 := (39, 21, _, _)) (x_iconst rfl) ?_
  exact Rk.end rfl (Or.inr (Or.inl ⟨rfl, _, .int, rfl, rfl, rfl, rfl⟩))
theorem c_simp {P : List It} {R W c : Nat → Int32} {n : Int32} (hz : (mst S R W c n).1 3 ≠ 0) (hI : Inv P) (hM : PM R n P) : ∃ R' W' : Nat → Int32, Rn E (d + 5) 39 [.ref o] (mh g o (mst S R W c n)) (some (.int (nI (sim 200 P 1 c).2.1))) (mh g o (mst (msI S 0 0) R' W' (sim 200 P 1 c).2.2 (nI (tsum (sim 200 P 1 c).1)))) ∧ TokAt R' 0 (sim 200 P 1 c).1 := by
  obtain ⟨R', W', r1, r2⟩ := lp_sim (E := E) (d := d) (o := o) (g := g) (S := msI S 0 0) 200 P 1 R W c n (by have := Inv_len hI; omega) hI hM
  refine ⟨R', W', Rn.of (Nat.le_of_ble_eq_true rfl) ?_, r2⟩
  refine Rk.tr (F1 := (39, 1, _, _)) (x_aload_n rfl rfl rfl) ?_
  refine Rk.tr (F1 := (39, 2, _, _)) (x_aload_n rfl rfl rfl) ?_
  refine Rk.tr (F1 := (39, 5, _, _)) (m_get rfl rfl (Nat.le_of_ble_eq_true rfl)) ?_
  refine Rk.tr (F1 := (39, 12, _, _)) (x_ifT rfl (tg := 12) rfl hz) ?_
  refine Rk.tr (F1 := (39, 13, _, _)) (x_iconst rfl) ?_
  refine Rk.tr (F1 := (39, 14, _, _)) (x_iconst rfl) ?_
  refine Rk.tr (F1 := (39, 17, _, _)) (m_call (As := [_, _]) rfl rfl rfl (Or.inr rfl) rfl rfl rfl (Nat.le_of_ble_eq_true rfl) (c_fails0 (d := d + 4)) rfl) ?_
  refine Rk.tr (F1 := (39, 22, _, _)) (x_ifT rfl (tg := 22) rfl rfl) ?_
  refine Rk.tr (F1 := (39, 23, _, _)) (x_iconst rfl) ?_
  refine Rk.tr (F1 := (39, 24, [_, _], _)) (x_istore_n (i := 1) rfl (Nat.le_of_ble_eq_true rfl)) ?_
  rw [mst_I0]
  exact r1
theorem c_cntX {k : Int32} (h : k < 0 ∨ 5 < k) : Rn E (d + 1) 40 [.ref o, .int k] (mh g o S) (some (.int 0)) (mh g o (msI S 0 1)) := by
  refine Rn.of (Nat.le_of_ble_eq_true rfl) ?_
  by_cases h0 : k < 0
  · refine Rk.tr (F1 := (40, 1, _, _)) (x_aload_n rfl rfl rfl) ?_
    refine Rk.tr (F1 := (40, 2, _, _)) (x_iload_n rfl rfl) ?_
    refine Rk.tr (F1 := (40, 10, _, _)) (x_ifT rfl (tg := 10) rfl h0) ?_
    refine Rk.tr (F1 := (40, 11, _, _)) (x_iconst rfl) ?_
    refine Rk.tr (F1 := (40, 15, _, _)) (x_goto rfl rfl) ?_
    refine Rk.tr (F1 := (40, 16, _, _)) (x_iconst rfl) ?_
    refine Rk.tr (F1 := (40, 19, _, _)) (m_call (As := [_, _]) rfl rfl rfl (Or.inr rfl) rfl rfl rfl (Nat.le_of_ble_eq_true rfl) c_fails1 rfl) ?_
    refine Rk.tr (F1 := (40, 22, _, _)) (x_ifF rfl (tg := 24) rfl (by unfold pcc; decide)) ?_
    refine Rk.tr (F1 := (40, 23, _, _)) (x_iconst rfl) ?_
    exact Rk.end rfl (Or.inr (Or.inl ⟨rfl, _, .int, rfl, rfl, rfl, rfl⟩))
  · have h5 : ¬ k ≤ 5 := Int32.not_le.mpr (h.resolve_left h0)
    refine Rk.tr (F1 := (40, 1, _, _)) (x_aload_n rfl rfl rfl) ?_
    refine Rk.tr (F1 := (40, 2, _, _)) (x_iload_n rfl rfl) ?_
    refine Rk.tr (F1 := (40, 5, _, _)) (x_ifF rfl (tg := 10) rfl h0) ?_
    refine Rk.tr (F1 := (40, 6, _, _)) (x_iload_n rfl rfl) ?_
    refine Rk.tr (F1 := (40, 7, _, _)) (x_iconst rfl) ?_
    refine Rk.tr (F1 := (40, 10, _, _)) (x_icF rfl (tg := 14) rfl h5) ?_
    refine Rk.tr (F1 := (40, 11, _, _)) (x_iconst rfl) ?_
    refine Rk.tr (F1 := (40, 15, _, _)) (x_goto rfl rfl) ?_
    refine Rk.tr (F1 := (40, 16, _, _)) (x_iconst rfl) ?_
    refine Rk.tr (F1 := (40, 19, _, _)) (m_call (As := [_, _]) rfl rfl rfl (Or.inr rfl) rfl rfl rfl (Nat.le_of_ble_eq_true rfl) c_fails1 rfl) ?_
    refine Rk.tr (F1 := (40, 22, _, _)) (x_ifF rfl (tg := 24) rfl (by unfold pcc; decide)) ?_
    refine Rk.tr (F1 := (40, 23, _, _)) (x_iconst rfl) ?_
    exact Rk.end rfl (Or.inr (Or.inl ⟨rfl, _, .int, rfl, rfl, rfl, rfl⟩))
theorem c_cnt4 {j : Nat} (h : j < 4) : Rn E (d + 1) 40 [.ref o, .int (nI j)] (mh g o S) (some (.int (S.2 7 j))) (mh g o (msI S 0 0)) := by
  refine Rn.of (Nat.le_of_ble_eq_true rfl) ?_
  refine Rk.tr (F1 := (40, 1, _, _)) (x_aload_n rfl rfl rfl) ?_
  refine Rk.tr (F1 := (40, 2, _, _)) (x_iload_n rfl rfl) ?_
  refine Rk.tr (F1 := (40, 5, _, _)) (x_ifF rfl (tg := 10) rfl (show ¬ nI j < nI 0 from Int32.not_lt.mpr (nI_le (by omega) (by omega)))) ?_
  refine Rk.tr (F1 := (40, 6, _, _)) (x_iload_n rfl rfl) ?_
  refine Rk.tr (F1 := (40, 7, _, _)) (x_iconst rfl) ?_
  refine Rk.tr (F1 := (40, 14, _, _)) (x_icT rfl (tg := 14) rfl (show nI j ≤ nI 5 from nI_le (by omega) (by decide))) ?_
  refine Rk.tr (F1 := (40, 15, _, _)) (x_iconst rfl) ?_
  refine Rk.tr (F1 := (40, 16, _, _)) (x_iconst rfl) ?_
  refine Rk.tr (F1 := (40, 19, _, _)) (m_call (As := [_, _]) rfl rfl rfl (Or.inr rfl) rfl rfl rfl (Nat.le_of_ble_eq_true rfl) c_fails0 rfl) ?_
  refine Rk.tr (F1 := (40, 24, _, _)) (x_ifT rfl (tg := 24) rfl rfl) ?_
  refine Rk.tr (F1 := (40, 25, _, _)) (x_iload_n rfl rfl) ?_
  refine Rk.tr (F1 := (40, 26, _, _)) (x_iconst rfl) ?_
  refine Rk.tr (F1 := (40, 29, _, _)) (x_icF rfl (tg := 38) rfl (show ¬ nI 4 ≤ nI j from nI_ge (by omega) (by decide))) ?_
  refine Rk.tr (F1 := (40, 30, _, _)) (x_aload_n rfl rfl rfl) ?_
  refine Rk.tr (F1 := (40, 33, _, _)) (m_get rfl rfl (Nat.le_of_ble_eq_true rfl)) ?_
  refine Rk.tr (F1 := (40, 34, _, _)) (x_iload_n rfl rfl) ?_
  refine Rk.tr (F1 := (40, 35, _, _)) (m_iald (k := 7) (n := j) rfl rfl rfl rfl h) ?_
  refine Rk.tr (F1 := (40, 65, _, _)) (x_goto rfl rfl) ?_
  exact Rk.end rfl (Or.inr (Or.inl ⟨rfl, _, .int, rfl, rfl, rfl, rfl⟩))
theorem c_cntN {j : Nat} (h4 : 4 ≤ j) (h : j < 6) (hz : S.1 3 = 0) : Rn E (d + 1) 40 [.ref o, .int (nI j)] (mh g o S) (some (.int 0)) (mh g o (msI S 0 0)) := by
  refine Rn.of (Nat.le_of_ble_eq_true rfl) ?_
  refine Rk.tr (F1 := (40, 1, _, _)) (x_aload_n rfl rfl rfl) ?_
  refine Rk.tr (F1 := (40, 2, _, _)) (x_iload_n rfl rfl) ?_
  refine Rk.tr (F1 := (40, 5, _, _)) (x_ifF rfl (tg := 10) rfl (show ¬ nI j < nI 0 from Int32.not_lt.mpr (nI_le (by omega) (by omega)))) ?_
  refine Rk.tr (F1 := (40, 6, _, _)) (x_iload_n rfl rfl) ?_
  refine Rk.tr (F1 := (40, 7, _, _)) (x_iconst rfl) ?_
  refine Rk.tr (F1 := (40, 14, _, _)) (x_icT rfl (tg := 14) rfl (show nI j ≤ nI 5 from nI_le (by omega) (by decide))) ?_
  refine Rk.tr (F1 := (40, 15, _, _)) (x_iconst rfl) ?_
  refine Rk.tr (F1 := (40, 16, _, _)) (x_iconst rfl) ?_
  refine Rk.tr (F1 := (40, 19, _, _)) (m_call (As := [_, _]) rfl rfl rfl (Or.inr rfl) rfl rfl rfl (Nat.le_of_ble_eq_true rfl) c_fails0 rfl) ?_
  refine Rk.tr (F1 := (40, 24, _, _)) (x_ifT rfl (tg := 24) rfl rfl) ?_
  refine Rk.tr (F1 := (40, 25, _, _)) (x_iload_n rfl rfl) ?_
  refine Rk.tr (F1 := (40, 26, _, _)) (x_iconst rfl) ?_
  refine Rk.tr (F1 := (40, 38, _, _)) (x_icT rfl (tg := 38) rfl (show nI 4 ≤ nI j from nI_le (by omega) (by omega))) ?_
  refine Rk.tr (F1 := (40, 39, _, _)) (x_aload_n rfl rfl rfl) ?_
  refine Rk.tr (F1 := (40, 42, _, _)) (m_get rfl rfl (Nat.le_of_ble_eq_true rfl)) ?_
  refine Rk.tr (F1 := (40, 45, _, _)) (x_ifF rfl (tg := 49) rfl (fun q => q hz)) ?_
  refine Rk.tr (F1 := (40, 46, _, _)) (x_iconst rfl) ?_
  refine Rk.tr (F1 := (40, 65, _, _)) (x_goto rfl rfl) ?_
  exact Rk.end rfl (Or.inr (Or.inl ⟨rfl, _, .int, rfl, rfl, rfl, rfl⟩))
theorem c_cntB {P : List It} {len : Nat} (hl : S.1 4 = nI len) (h8 : len ≤ 800) (hT : TokAt (S.2 5) 0 P) (hp : tsum P = len) (hz : S.1 3 ≠ 0) : Rn E (d + 2) 40 [.ref o, .int 4] (mh g o S) (some (.int (nI (cntB P)))) (mh g o (msI S 0 0)) := by
  refine Rn.of (Nat.le_of_ble_eq_true rfl) ?_
  refine Rk.tr (F1 := (40, 1, _, _)) (x_aload_n rfl rfl rfl) ?_
  refine Rk.tr (F1 := (40, 2, _, _)) (x_iload_n rfl rfl) ?_
  refine Rk.tr (F1 := (40, 5, _, _)) (x_ifF rfl (tg := 10) rfl (by unfold pcc; decide)) ?_
  refine Rk.tr (F1 := (40, 6, _, _)) (x_iload_n rfl rfl) ?_
  refine Rk.tr (F1 := (40, 7, _, _)) (x_iconst rfl) ?_
  refine Rk.tr (F1 := (40, 14, _, _)) (x_icT rfl (tg := 14) rfl (by unfold pcc; decide)) ?_
  refine Rk.tr (F1 := (40, 15, _, _)) (x_iconst rfl) ?_
  refine Rk.tr (F1 := (40, 16, _, _)) (x_iconst rfl) ?_
  refine Rk.tr (F1 := (40, 19, _, _)) (m_call (As := [_, _]) rfl rfl rfl (Or.inr rfl) rfl rfl rfl (Nat.le_of_ble_eq_true rfl) c_fails0 rfl) ?_
  refine Rk.tr (F1 := (40, 24, _, _)) (x_ifT rfl (tg := 24) rfl rfl) ?_
  refine Rk.tr (F1 := (40, 25, _, _)) (x_iload_n rfl rfl) ?_
  refine Rk.tr (F1 := (40, 26, _, _)) (x_iconst rfl) ?_
  refine Rk.tr (F1 := (40, 38, _, _)) (x_icT rfl (tg := 38) rfl (by unfold pcc; decide)) ?_
  refine Rk.tr (F1 := (40, 39, _, _)) (x_aload_n rfl rfl rfl) ?_
  refine Rk.tr (F1 := (40, 42, _, _)) (m_get rfl rfl (Nat.le_of_ble_eq_true rfl)) ?_
  refine Rk.tr (F1 := (40, 49, _, _)) (x_ifT rfl (tg := 49) rfl hz) ?_
  refine Rk.tr (F1 := (40, 50, _, _)) (x_iload_n rfl rfl) ?_
  refine Rk.tr (F1 := (40, 51, _, _)) (x_iconst rfl) ?_
  refine Rk.tr (F1 := (40, 54, _, _)) (x_icF rfl (tg := 61) rfl (fun q => q rfl)) ?_
  refine Rk.tr (F1 := (40, 55, _, _)) (x_aload_n rfl rfl rfl) ?_
  refine Rk.tr (F1 := (40, 58, _, _)) (m_call (As := []) rfl rfl rfl (Or.inr rfl) rfl rfl rfl (Nat.le_of_ble_eq_true rfl) (c_bindings (len := len) hl h8 hT hp) rfl) ?_
  refine Rk.tr (F1 := (40, 65, _, _)) (x_goto rfl rfl) ?_
  exact Rk.end rfl (Or.inr (Or.inl ⟨rfl, _, .int, rfl, rfl, rfl, rfl⟩))
theorem c_cntM (hz : S.1 3 ≠ 0) : Rn E (d + 2) 40 [.ref o, .int 5] (mh g o S) (some (.int (S.1 8))) (mh g o (msI S 0 0)) := by
  refine Rn.of (Nat.le_of_ble_eq_true rfl) ?_
  refine Rk.tr (F1 := (40, 1, _, _)) (x_aload_n rfl rfl rfl) ?_
  refine Rk.tr (F1 := (40, 2, _, _)) (x_iload_n rfl rfl) ?_
  refine Rk.tr (F1 := (40, 5, _, _)) (x_ifF rfl (tg := 10) rfl (by unfold pcc; decide)) ?_
  refine Rk.tr (F1 := (40, 6, _, _)) (x_iload_n rfl rfl) ?_
  refine Rk.tr (F1 := (40, 7, _, _)) (x_iconst rfl) ?_
  refine Rk.tr (F1 := (40, 14, _, _)) (x_icT rfl (tg := 14) rfl (by unfold pcc; decide)) ?_
  refine Rk.tr (F1 := (40, 15, _, _)) (x_iconst rfl) ?_
  refine Rk.tr (F1 := (40, 16, _, _)) (x_iconst rfl) ?_
  refine Rk.tr (F1 := (40, 19, _, _)) (m_call (As := [_, _]) rfl rfl rfl (Or.inr rfl) rfl rfl rfl (Nat.le_of_ble_eq_true rfl) c_fails0 rfl) ?_
  refine Rk.tr (F1 := (40, 24, _, _)) (x_ifT rfl (tg := 24) rfl rfl) ?_
  refine Rk.tr (F1 := (40, 25, _, _)) (x_iload_n rfl rfl) ?_
  refine Rk.tr (F1 := (40, 26, _, _)) (x_iconst rfl) ?_
  refine Rk.tr (F1 := (40, 38, _, _)) (x_icT rfl (tg := 38) rfl (by unfold pcc; decide)) ?_
  refine Rk.tr (F1 := (40, 39, _, _)) (x_aload_n rfl rfl rfl) ?_
  refine Rk.tr (F1 := (40, 42, _, _)) (m_get rfl rfl (Nat.le_of_ble_eq_true rfl)) ?_
  refine Rk.tr (F1 := (40, 49, _, _)) (x_ifT rfl (tg := 49) rfl hz) ?_
  refine Rk.tr (F1 := (40, 50, _, _)) (x_iload_n rfl rfl) ?_
  refine Rk.tr (F1 := (40, 51, _, _)) (x_iconst rfl) ?_
  refine Rk.tr (F1 := (40, 61, _, _)) (x_icT rfl (tg := 61) rfl (show ¬ (5 : Int32) = 4 by decide)) ?_
  refine Rk.tr (F1 := (40, 62, _, _)) (x_aload_n rfl rfl rfl) ?_
  refine Rk.tr (F1 := (40, 65, _, _)) (m_get rfl rfl (Nat.le_of_ble_eq_true rfl)) ?_
  exact Rk.end rfl (Or.inr (Or.inl ⟨rfl, _, .int, rfl, rfl, rfl, rfl⟩))
theorem c_wriX {k : Int32} (h : S.1 3 = 0 ∨ k < 0 ∨ S.1 4 ≤ k) : Rn E (d + 1) 41 [.ref o, .int k] (mh g o S) (some (.int 0)) (mh g o (msI S 0 1)) := by
  refine Rn.of (Nat.le_of_ble_eq_true rfl) ?_
  by_cases hi : S.1 3 = 0
  · refine Rk.tr (F1 := (41, 1, _, _)) (x_aload_n rfl rfl rfl) ?_
    refine Rk.tr (F1 := (41, 2, _, _)) (x_aload_n rfl rfl rfl) ?_
    refine Rk.tr (F1 := (41, 5, _, _)) (m_get rfl rfl (Nat.le_of_ble_eq_true rfl)) ?_
    refine Rk.tr (F1 := (41, 20, _, _)) (x_ifT rfl (tg := 20) rfl hi) ?_
    refine Rk.tr (F1 := (41, 21, _, _)) (x_iconst rfl) ?_
    refine Rk.tr (F1 := (41, 25, _, _)) (x_goto rfl rfl) ?_
    refine Rk.tr (F1 := (41, 26, _, _)) (x_iconst rfl) ?_
    refine Rk.tr (F1 := (41, 29, _, _)) (m_call (As := [_, _]) rfl rfl rfl (Or.inr rfl) rfl rfl rfl (Nat.le_of_ble_eq_true rfl) c_fails1 rfl) ?_
    refine Rk.tr (F1 := (41, 32, _, _)) (x_ifF rfl (tg := 36) rfl (by unfold pcc; decide)) ?_
    refine Rk.tr (F1 := (41, 33, _, _)) (x_iconst rfl) ?_
    refine Rk.tr (F1 := (41, 42, _, _)) (x_goto rfl rfl) ?_
    exact Rk.end rfl (Or.inr (Or.inl ⟨rfl, _, .int, rfl, rfl, rfl, rfl⟩))
  · by_cases h0 : k < 0
    · refine Rk.tr (F1 := (41, 1, _, _)) (x_aload_n rfl rfl rfl) ?_
      refine Rk.tr (F1 := (41, 2, _, _)) (x_aload_n rfl rfl rfl) ?_
      refine Rk.tr (F1 := (41, 5, _, _)) (m_get rfl rfl (Nat.le_of_ble_eq_true rfl)) ?_
      refine Rk.tr (F1 := (41, 8, _, _)) (x_ifF rfl (tg := 20) rfl hi) ?_
      refine Rk.tr (F1 := (41, 9, _, _)) (x_iload_n rfl rfl) ?_
      refine Rk.tr (F1 := (41, 20, _, _)) (x_ifT rfl (tg := 20) rfl h0) ?_
      refine Rk.tr (F1 := (41, 21, _, _)) (x_iconst rfl) ?_
      refine Rk.tr (F1 := (41, 25, _, _)) (x_goto rfl rfl) ?_
      refine Rk.tr (F1 := (41, 26, _, _)) (x_iconst rfl) ?_
      refine Rk.tr (F1 := (41, 29, _, _)) (m_call (As := [_, _]) rfl rfl rfl (Or.inr rfl) rfl rfl rfl (Nat.le_of_ble_eq_true rfl) c_fails1 rfl) ?_
      refine Rk.tr (F1 := (41, 32, _, _)) (x_ifF rfl (tg := 36) rfl (by unfold pcc; decide)) ?_
      refine Rk.tr (F1 := (41, 33, _, _)) (x_iconst rfl) ?_
      refine Rk.tr (F1 := (41, 42, _, _)) (x_goto rfl rfl) ?_
      exact Rk.end rfl (Or.inr (Or.inl ⟨rfl, _, .int, rfl, rfl, rfl, rfl⟩))
    · have h5 : ¬ k < S.1 4 := Int32.not_lt.mpr ((h.resolve_left hi).resolve_left h0)
      refine Rk.tr (F1 := (41, 1, _, _)) (x_aload_n rfl rfl rfl) ?_
      refine Rk.tr (F1 := (41, 2, _, _)) (x_aload_n rfl rfl rfl) ?_
      refine Rk.tr (F1 := (41, 5, _, _)) (m_get rfl rfl (Nat.le_of_ble_eq_true rfl)) ?_
      refine Rk.tr (F1 := (41, 8, _, _)) (x_ifF rfl (tg := 20) rfl hi) ?_
      refine Rk.tr (F1 := (41, 9, _, _)) (x_iload_n rfl rfl) ?_
      refine Rk.tr (F1 := (41, 12, _, _)) (x_ifF rfl (tg := 20) rfl h0) ?_
      refine Rk.tr (F1 := (41, 13, _, _)) (x_iload_n rfl rfl) ?_
      refine Rk.tr (F1 := (41, 14, _, _)) (x_aload_n rfl rfl rfl) ?_
      refine Rk.tr (F1 := (41, 17, _, _)) (m_get rfl rfl (Nat.le_of_ble_eq_true rfl)) ?_
      refine Rk.tr (F1 := (41, 20, _, _)) (x_icF rfl (tg := 24) rfl h5) ?_
      refine Rk.tr (F1 := (41, 21, _, _)) (x_iconst rfl) ?_
      refine Rk.tr (F1 := (41, 25, _, _)) (x_goto rfl rfl) ?_
      refine Rk.tr (F1 := (41, 26, _, _)) (x_iconst rfl) ?_
      refine Rk.tr (F1 := (41, 29, _, _)) (m_call (As := [_, _]) rfl rfl rfl (Or.inr rfl) rfl rfl rfl (Nat.le_of_ble_eq_true rfl) c_fails1 rfl) ?_
      refine Rk.tr (F1 := (41, 32, _, _)) (x_ifF rfl (tg := 36) rfl (by unfold pcc; decide)) ?_
      refine Rk.tr (F1 := (41, 33, _, _)) (x_iconst rfl) ?_
      refine Rk.tr (F1 := (41, 42, _, _)) (x_goto rfl rfl) ?_
      exact Rk.end rfl (Or.inr (Or.inl ⟨rfl, _, .int, rfl, rfl, rfl, rfl⟩))
theorem c_wri {j len : Nat} (hz : S.1 3 ≠ 0) (hl : S.1 4 = nI len) (h8 : len ≤ 800) (h : j < len) : Rn E (d + 1) 41 [.ref o, .int (nI j)] (mh g o S) (some (.int (S.2 5 j))) (mh g o (msI S 0 0)) := by
  refine Rn.of (Nat.le_of_ble_eq_true rfl) ?_
  refine Rk.tr (F1 := (41, 1, _, _)) (x_aload_n rfl rfl rfl) ?_
  refine Rk.tr (F1 := (41, 2, _, _)) (x_aload_n rfl rfl rfl) ?_
  refine Rk.tr (F1 := (41, 5, _, _)) (m_get rfl rfl (Nat.le_of_ble_eq_true rfl)) ?_
  refine Rk.tr (F1 := (41, 8, _, _)) (x_ifF rfl (tg := 20) rfl hz) ?_
  refine Rk.tr (F1 := (41, 9, _, _)) (x_iload_n rfl rfl) ?_
  refine Rk.tr (F1 := (41, 12, _, _)) (x_ifF rfl (tg := 20) rfl (show ¬ nI j < nI 0 from Int32.not_lt.mpr (nI_le (by omega) (by omega)))) ?_
  refine Rk.tr (F1 := (41, 13, _, _)) (x_iload_n rfl rfl) ?_
  refine Rk.tr (F1 := (41, 14, _, _)) (x_aload_n rfl rfl rfl) ?_
  refine Rk.tr (F1 := (41, 17, _, _)) (m_get rfl rfl (Nat.le_of_ble_eq_true rfl)) ?_
  refine Rk.tr (F1 := (41, 24, _, _)) (x_icT rfl (tg := 24) rfl (by show nI j < S.1 4; rw [hl]; exact Int32.not_le.mp (nI_ge (by omega) (by omega)))) ?_
  refine Rk.tr (F1 := (41, 25, _, _)) (x_iconst rfl) ?_
  refine Rk.tr (F1 := (41, 26, _, _)) (x_iconst rfl) ?_
  refine Rk.tr (F1 := (41, 29, _, _)) (m_call (As := [_, _]) rfl rfl rfl (Or.inr rfl) rfl rfl rfl (Nat.le_of_ble_eq_true rfl) c_fails0 rfl) ?_
  refine Rk.tr (F1 := (41, 36, _, _)) (x_ifT rfl (tg := 36) rfl rfl) ?_
  refine Rk.tr (F1 := (41, 37, _, _)) (x_aload_n rfl rfl rfl) ?_
  refine Rk.tr (F1 := (41, 40, _, _)) (m_get rfl rfl (Nat.le_of_ble_eq_true rfl)) ?_
  refine Rk.tr (F1 := (41, 41, _, _)) (x_iload_n rfl rfl) ?_
  refine Rk.tr (F1 := (41, 42, _, _)) (m_iald (k := 5) (n := j) rfl rfl rfl rfl (show j < 800 by omega)) ?_
  exact Rk.end rfl (Or.inr (Or.inl ⟨rfl, _, .int, rfl, rfl, rfl, rfl⟩))
theorem c_ranX {k : Int32} (h : k < 0 ∨ 3 < k) : Rn E (d + 1) 52 [.ref o, .int k] (mh g o S) (some (.int 0)) (mh g o (msI S 0 1)) := by
  refine Rn.of (Nat.le_of_ble_eq_true rfl) ?_
  by_cases h0 : k < 0
  · refine Rk.tr (F1 := (52, 1, _, _)) (x_aload_n rfl rfl rfl) ?_
    refine Rk.tr (F1 := (52, 2, _, _)) (x_iload_n rfl rfl) ?_
    refine Rk.tr (F1 := (52, 10, _, _)) (x_ifT rfl (tg := 10) rfl h0) ?_
    refine Rk.tr (F1 := (52, 11, _, _)) (x_iconst rfl) ?_
    refine Rk.tr (F1 := (52, 15, _, _)) (x_goto rfl rfl) ?_
    refine Rk.tr (F1 := (52, 16, _, _)) (x_iconst rfl) ?_
    refine Rk.tr (F1 := (52, 19, _, _)) (m_call (As := [_, _]) rfl rfl rfl (Or.inr rfl) rfl rfl rfl (Nat.le_of_ble_eq_true rfl) c_fails1 rfl) ?_
    refine Rk.tr (F1 := (52, 22, _, _)) (x_ifF rfl (tg := 26) rfl (by unfold pcc; decide)) ?_
    refine Rk.tr (F1 := (52, 23, _, _)) (x_iconst rfl) ?_
    refine Rk.tr (F1 := (52, 32, _, _)) (x_goto rfl rfl) ?_
    exact Rk.end rfl (Or.inr (Or.inl ⟨rfl, _, .int, rfl, rfl, rfl, rfl⟩))
  · have h5 : ¬ k ≤ 3 := Int32.not_le.mpr (h.resolve_left h0)
    refine Rk.tr (F1 := (52, 1, _, _)) (x_aload_n rfl rfl rfl) ?_
    refine Rk.tr (F1 := (52, 2, _, _)) (x_iload_n rfl rfl) ?_
    refine Rk.tr (F1 := (52, 5, _, _)) (x_ifF rfl (tg := 10) rfl h0) ?_
    refine Rk.tr (F1 := (52, 6, _, _)) (x_iload_n rfl rfl) ?_
    refine Rk.tr (F1 := (52, 7, _, _)) (x_iconst rfl) ?_
    refine Rk.tr (F1 := (52, 10, _, _)) (x_icF rfl (tg := 14) rfl h5) ?_
    refine Rk.tr (F1 := (52, 11, _, _)) (x_iconst rfl) ?_
    refine Rk.tr (F1 := (52, 15, _, _)) (x_goto rfl rfl) ?_
    refine Rk.tr (F1 := (52, 16, _, _)) (x_iconst rfl) ?_
    refine Rk.tr (F1 := (52, 19, _, _)) (m_call (As := [_, _]) rfl rfl rfl (Or.inr rfl) rfl rfl rfl (Nat.le_of_ble_eq_true rfl) c_fails1 rfl) ?_
    refine Rk.tr (F1 := (52, 22, _, _)) (x_ifF rfl (tg := 26) rfl (by unfold pcc; decide)) ?_
    refine Rk.tr (F1 := (52, 23, _, _)) (x_iconst rfl) ?_
    refine Rk.tr (F1 := (52, 32, _, _)) (x_goto rfl rfl) ?_
    exact Rk.end rfl (Or.inr (Or.inl ⟨rfl, _, .int, rfl, rfl, rfl, rfl⟩))
theorem c_ran {j : Nat} (h : j < 4) : Rn E (d + 1) 52 [.ref o, .int (nI j)] (mh g o S) (some (.int (S.2 42 j))) (mh g o (msI S 0 0)) := by
  refine Rn.of (Nat.le_of_ble_eq_true rfl) ?_
  refine Rk.tr (F1 := (52, 1, _, _)) (x_aload_n rfl rfl rfl) ?_
  refine Rk.tr (F1 := (52, 2, _, _)) (x_iload_n rfl rfl) ?_
  refine Rk.tr (F1 := (52, 5, _, _)) (x_ifF rfl (tg := 10) rfl (show ¬ nI j < nI 0 from Int32.not_lt.mpr (nI_le (by omega) (by omega)))) ?_
  refine Rk.tr (F1 := (52, 6, _, _)) (x_iload_n rfl rfl) ?_
  refine Rk.tr (F1 := (52, 7, _, _)) (x_iconst rfl) ?_
  refine Rk.tr (F1 := (52, 14, _, _)) (x_icT rfl (tg := 14) rfl (show nI j ≤ nI 3 from nI_le (by omega) (by decide))) ?_
  refine Rk.tr (F1 := (52, 15, _, _)) (x_iconst rfl) ?_
  refine Rk.tr (F1 := (52, 16, _, _)) (x_iconst rfl) ?_
  refine Rk.tr (F1 := (52, 19, _, _)) (m_call (As := [_, _]) rfl rfl rfl (Or.inr rfl) rfl rfl rfl (Nat.le_of_ble_eq_true rfl) c_fails0 rfl) ?_
  refine Rk.tr (F1 := (52, 26, _, _)) (x_ifT rfl (tg := 26) rfl rfl) ?_
  refine Rk.tr (F1 := (52, 27, _, _)) (x_aload_n rfl rfl rfl) ?_
  refine Rk.tr (F1 := (52, 30, _, _)) (m_get rfl rfl (Nat.le_of_ble_eq_true rfl)) ?_
  refine Rk.tr (F1 := (52, 31, _, _)) (x_iload_n rfl rfl) ?_
  refine Rk.tr (F1 := (52, 32, _, _)) (m_iald (k := 42) (n := j) rfl rfl rfl rfl h) ?_
  exact Rk.end rfl (Or.inr (Or.inl ⟨rfl, _, .int, rfl, rfl, rfl, rfl⟩))
end M12
end
section
/-! ===== the reference's conversion: next, means, named, begins, goesOn ===== -/
def mNext (S : MSt) : MSt := msI S 9 (S.1 9 + 1)
def mMeans (S : MSt) (k x : Nat) (a b : Int32) : MSt := msA (msA (msA (msA S 15 k (S.2 19 x)) 16 k (S.2 20 x)) 19 x a) 20 x b
def mAgain (S : MSt) (k x : Nat) : MSt := msA (msA S 19 x (S.2 15 k)) 20 x (S.2 16 k)
def mNamed (S : MSt) (hd : Nat) : MSt := msI (msI (msI (msA (msI (msI S 21 (S.1 21 - 1)) 24 (S.1 24 + 1)) 25 (hd + 1) (S.1 24 + 1 - 1)) 17 1) 18 (S.1 24 + 1 - 1)) 10 (S.1 10 - 1)
def mBegR (S : MSt) : MSt := msI (msI S 21 (S.1 21 + 1)) 22 (if S.1 21 + 1 ≤ S.1 22 then S.1 22 else S.1 21 + 1)
/-- a frame is opened -/
def mOpen (S : MSt) (q : Nat) (w : Int32) : MSt := msA (msA (msI (mNext S) 10 (S.1 10 + 1)) 11 (q + 1) w) 12 (q + 1) 0
theorem msA_at {S : MSt} {k n : Nat} {x : Int32} : (msA S k n x).2 k n = x := if_pos ⟨rfl, rfl⟩
theorem msA_ne {S : MSt} {k n j : Nat} {x : Int32} (h : j ≠ n) : (msA S k n x).2 k j = S.2 k j := if_neg (fun z => h z.2)
section M13
variable {E : PE} {d o p q n : Nat} {g : PH} {S : MSt}
theorem c_next (hp : S.1 9 = nI p) (hn : S.1 1 = nI n) (h : p < n) (h60 : n ≤ 60) : Rn E d 6 [.ref o] (mh g o S) (some (.int (S.2 2 p))) (mh g o (mNext S)) := by
  refine Rn.of (Nat.le_of_ble_eq_true rfl) ?_
  refine Rk.tr (F1 := (6, 1, _, _)) (x_aload_n rfl rfl rfl) ?_
  refine Rk.tr (F1 := (6, 2, _, _)) (x_dup rfl rfl) ?_
  refine Rk.tr (F1 := (6, 5, _, _)) (m_get rfl rfl (Nat.le_of_ble_eq_true rfl)) ?_
  refine Rk.tr (F1 := (6, 6, _, _)) (x_iconst rfl) ?_
  refine Rk.tr (F1 := (6, 7, _, _)) (x_iadd rfl) ?_
  refine Rk.tr (F1 := (6, 10, _, _)) (m_put rfl rfl rfl rfl rfl rfl) ?_
  refine Rk.tr (F1 := (6, 11, _, _)) (x_aload_n rfl rfl rfl) ?_
  refine Rk.tr (F1 := (6, 14, _, _)) (m_get rfl rfl (Nat.le_of_ble_eq_true rfl)) ?_
  refine Rk.tr (F1 := (6, 15, _, _)) (x_aload_n rfl rfl rfl) ?_
  refine Rk.tr (F1 := (6, 18, _, _)) (m_get rfl rfl (Nat.le_of_ble_eq_true rfl)) ?_
  refine Rk.tr (F1 := (6, 21, _, _)) (x_icF rfl (tg := 35) rfl (by show ¬ S.1 1 < S.1 9 + 1; rw [hp, hn, nI_1]; exact Int32.not_lt.mpr (nI_le (by omega) (by omega)))) ?_
  refine Rk.tr (F1 := (6, 22, _, _)) (x_aload_n rfl rfl rfl) ?_
  refine Rk.tr (F1 := (6, 25, _, _)) (m_get rfl rfl (Nat.le_of_ble_eq_true rfl)) ?_
  refine Rk.tr (F1 := (6, 26, _, _)) (x_aload_n rfl rfl rfl) ?_
  refine Rk.tr (F1 := (6, 29, _, _)) (m_get rfl rfl (Nat.le_of_ble_eq_true rfl)) ?_
  refine Rk.tr (F1 := (6, 30, _, _)) (x_iconst rfl) ?_
  refine Rk.tr (F1 := (6, 31, _, _)) (x_isub rfl) ?_
  refine Rk.tr (F1 := (6, 32, _, _)) (m_iald (k := 2) (n := p) rfl rfl rfl (by show S.1 9 + 1 - 1 = nI p; rw [hp]; exact Int32.add_sub_cancel _ _) (show p < 60 by omega)) ?_
  refine Rk.tr (F1 := (6, 36, _, _)) (x_goto rfl rfl) ?_
  exact Rk.end rfl (Or.inr (Or.inl ⟨rfl, _, .int, rfl, rfl, rfl, rfl⟩))
theorem c_means {k x : Nat} {a b : Int32} (hk : k < 61) (hx : x < 10) (hv : S.2 13 k = nI x) : Rn E d 11 [.ref o, .int (nI k), .int a, .int b] (mh g o S) none (mh g o (mMeans S k x a b)) := by
  refine Rn.of (Nat.le_of_ble_eq_true rfl) ?_
  refine Rk.tr (F1 := (11, 1, _, _)) (x_aload_n rfl rfl rfl) ?_
  refine Rk.tr (F1 := (11, 4, _, _)) (m_get rfl rfl (Nat.le_of_ble_eq_true rfl)) ?_
  refine Rk.tr (F1 := (11, 5, _, _)) (x_iload_n rfl rfl) ?_
  refine Rk.tr (F1 := (11, 6, _, _)) (m_iald (k := 13) (n := k) rfl rfl rfl rfl hk) ?_
  refine Rk.tr (F1 := (11, 6, _, _)) (x_top hv) ?_
  refine Rk.tr (F1 := (11, 8, [_, _, _, _, _], _)) (x_istore (i := 4) rfl (Nat.le_of_ble_eq_true rfl)) ?_
  refine Rk.tr (F1 := (11, 9, _, _)) (x_aload_n rfl rfl rfl) ?_
  refine Rk.tr (F1 := (11, 12, _, _)) (m_get rfl rfl (Nat.le_of_ble_eq_true rfl)) ?_
  refine Rk.tr (F1 := (11, 13, _, _)) (x_iload_n rfl rfl) ?_
  refine Rk.tr (F1 := (11, 14, _, _)) (x_aload_n rfl rfl rfl) ?_
  refine Rk.tr (F1 := (11, 17, _, _)) (m_get rfl rfl (Nat.le_of_ble_eq_true rfl)) ?_
  refine Rk.tr (F1 := (11, 19, _, _)) (x_iload rfl rfl) ?_
  refine Rk.tr (F1 := (11, 20, _, _)) (m_iald (k := 19) (n := x) rfl rfl rfl rfl hx) ?_
  refine Rk.tr (F1 := (11, 21, _, _)) (m_iast (k := 15) (n := k) rfl rfl rfl (Nat.le_of_ble_eq_true rfl) rfl hk) ?_
  refine Rk.tr (F1 := (11, 22, _, _)) (x_aload_n rfl rfl rfl) ?_
  refine Rk.tr (F1 := (11, 25, _, _)) (m_get rfl rfl (Nat.le_of_ble_eq_true rfl)) ?_
  refine Rk.tr (F1 := (11, 26, _, _)) (x_iload_n rfl rfl) ?_
  refine Rk.tr (F1 := (11, 27, _, _)) (x_aload_n rfl rfl rfl) ?_
  refine Rk.tr (F1 := (11, 30, _, _)) (m_get rfl rfl (Nat.le_of_ble_eq_true rfl)) ?_
  refine Rk.tr (F1 := (11, 32, _, _)) (x_iload rfl rfl) ?_
  refine Rk.tr (F1 := (11, 33, _, _)) (m_iald (k := 20) (n := x) rfl rfl rfl rfl hx) ?_
  refine Rk.tr (F1 := (11, 34, _, _)) (m_iast (k := 16) (n := k) rfl rfl rfl (Nat.le_of_ble_eq_true rfl) rfl hk) ?_
  refine Rk.tr (F1 := (11, 35, _, _)) (x_aload_n rfl rfl rfl) ?_
  refine Rk.tr (F1 := (11, 38, _, _)) (m_get rfl rfl (Nat.le_of_ble_eq_true rfl)) ?_
  refine Rk.tr (F1 := (11, 40, _, _)) (x_iload rfl rfl) ?_
  refine Rk.tr (F1 := (11, 41, _, _)) (x_iload_n rfl rfl) ?_
  refine Rk.tr (F1 := (11, 42, _, _)) (m_iast (k := 19) (n := x) rfl rfl rfl (Nat.le_of_ble_eq_true rfl) rfl hx) ?_
  refine Rk.tr (F1 := (11, 43, _, _)) (x_aload_n rfl rfl rfl) ?_
  refine Rk.tr (F1 := (11, 46, _, _)) (m_get rfl rfl (Nat.le_of_ble_eq_true rfl)) ?_
  refine Rk.tr (F1 := (11, 48, _, _)) (x_iload rfl rfl) ?_
  refine Rk.tr (F1 := (11, 49, _, _)) (x_iload_n rfl rfl) ?_
  refine Rk.tr (F1 := (11, 50, _, _)) (m_iast (k := 20) (n := x) rfl rfl rfl (Nat.le_of_ble_eq_true rfl) rfl hx) ?_
  exact Rk.end rfl (Or.inl ⟨rfl, rfl, rfl, rfl⟩)
theorem c_again {k x : Nat} (hk : k < 61) (hx : x < 10) (hv : S.2 13 k = nI x) : Rn E d 15 [.ref o, .int (nI k)] (mh g o S) none (mh g o (mAgain S k x)) := by
  refine Rn.of (Nat.le_of_ble_eq_true rfl) ?_
  refine Rk.tr (F1 := (15, 1, _, _)) (x_aload_n rfl rfl rfl) ?_
  refine Rk.tr (F1 := (15, 4, _, _)) (m_get rfl rfl (Nat.le_of_ble_eq_true rfl)) ?_
  refine Rk.tr (F1 := (15, 5, _, _)) (x_aload_n rfl rfl rfl) ?_
  refine Rk.tr (F1 := (15, 8, _, _)) (m_get rfl rfl (Nat.le_of_ble_eq_true rfl)) ?_
  refine Rk.tr (F1 := (15, 9, _, _)) (x_iload_n rfl rfl) ?_
  refine Rk.tr (F1 := (15, 10, _, _)) (m_iald (k := 13) (n := k) rfl rfl rfl rfl hk) ?_
  refine Rk.tr (F1 := (15, 10, _, _)) (x_top hv) ?_
  refine Rk.tr (F1 := (15, 11, _, _)) (x_aload_n rfl rfl rfl) ?_
  refine Rk.tr (F1 := (15, 14, _, _)) (m_get rfl rfl (Nat.le_of_ble_eq_true rfl)) ?_
  refine Rk.tr (F1 := (15, 15, _, _)) (x_iload_n rfl rfl) ?_
  refine Rk.tr (F1 := (15, 16, _, _)) (m_iald (k := 15) (n := k) rfl rfl rfl rfl hk) ?_
  refine Rk.tr (F1 := (15, 17, _, _)) (m_iast (k := 19) (n := x) rfl rfl rfl (Nat.le_of_ble_eq_true rfl) rfl hx) ?_
  refine Rk.tr (F1 := (15, 18, _, _)) (x_aload_n rfl rfl rfl) ?_
  refine Rk.tr (F1 := (15, 21, _, _)) (m_get rfl rfl (Nat.le_of_ble_eq_true rfl)) ?_
  refine Rk.tr (F1 := (15, 22, _, _)) (x_aload_n rfl rfl rfl) ?_
  refine Rk.tr (F1 := (15, 25, _, _)) (m_get rfl rfl (Nat.le_of_ble_eq_true rfl)) ?_
  refine Rk.tr (F1 := (15, 26, _, _)) (x_iload_n rfl rfl) ?_
  refine Rk.tr (F1 := (15, 27, _, _)) (m_iald (k := 13) (n := k) rfl rfl rfl rfl hk) ?_
  refine Rk.tr (F1 := (15, 27, _, _)) (x_top hv) ?_
  refine Rk.tr (F1 := (15, 28, _, _)) (x_aload_n rfl rfl rfl) ?_
  refine Rk.tr (F1 := (15, 31, _, _)) (m_get rfl rfl (Nat.le_of_ble_eq_true rfl)) ?_
  refine Rk.tr (F1 := (15, 32, _, _)) (x_iload_n rfl rfl) ?_
  refine Rk.tr (F1 := (15, 33, _, _)) (m_iald (k := 16) (n := k) rfl rfl rfl rfl hk) ?_
  refine Rk.tr (F1 := (15, 34, _, _)) (m_iast (k := 20) (n := x) rfl rfl rfl (Nat.le_of_ble_eq_true rfl) rfl hx) ?_
  exact Rk.end rfl (Or.inl ⟨rfl, rfl, rfl, rfl⟩)
theorem c_named {k hd : Nat} (hk : k < 61) (h8 : hd + 1 < 800) (hv : S.2 14 k = nI hd) : Rn E (d + 1) 16 [.ref o, .int (nI k)] (mh g o S) none (mh g o (mNamed S hd)) := by
  refine Rn.of (Nat.le_of_ble_eq_true rfl) ?_
  refine Rk.tr (F1 := (16, 1, _, _)) (x_aload_n rfl rfl rfl) ?_
  refine Rk.tr (F1 := (16, 2, _, _)) (x_dup rfl rfl) ?_
  refine Rk.tr (F1 := (16, 5, _, _)) (m_get rfl rfl (Nat.le_of_ble_eq_true rfl)) ?_
  refine Rk.tr (F1 := (16, 6, _, _)) (x_iconst rfl) ?_
  refine Rk.tr (F1 := (16, 7, _, _)) (x_isub rfl) ?_
  refine Rk.tr (F1 := (16, 10, _, _)) (m_put rfl rfl rfl rfl rfl rfl) ?_
  refine Rk.tr (F1 := (16, 11, _, _)) (x_aload_n rfl rfl rfl) ?_
  refine Rk.tr (F1 := (16, 14, _, _)) (m_call (As := []) rfl rfl rfl (Or.inr rfl) rfl rfl rfl (Nat.le_of_ble_eq_true rfl) c_newName rfl) ?_
  refine Rk.tr (F1 := (16, 15, [_, _, _], _)) (x_istore_n (i := 2) rfl (Nat.le_of_ble_eq_true rfl)) ?_
  refine Rk.tr (F1 := (16, 16, _, _)) (x_aload_n rfl rfl rfl) ?_
  refine Rk.tr (F1 := (16, 19, _, _)) (m_get rfl rfl (Nat.le_of_ble_eq_true rfl)) ?_
  refine Rk.tr (F1 := (16, 20, _, _)) (x_aload_n rfl rfl rfl) ?_
  refine Rk.tr (F1 := (16, 23, _, _)) (m_get rfl rfl (Nat.le_of_ble_eq_true rfl)) ?_
  refine Rk.tr (F1 := (16, 24, _, _)) (x_iload_n rfl rfl) ?_
  refine Rk.tr (F1 := (16, 25, _, _)) (m_iald (k := 14) (n := k) rfl rfl rfl rfl hk) ?_
  refine Rk.tr (F1 := (16, 25, _, _)) (x_top hv) ?_
  refine Rk.tr (F1 := (16, 26, _, _)) (x_iconst rfl) ?_
  refine Rk.tr (F1 := (16, 27, _, _)) (x_iadd rfl) ?_
  refine Rk.tr (F1 := (16, 27, _, _)) (x_top (nI_1 hd)) ?_
  refine Rk.tr (F1 := (16, 28, _, _)) (x_iload_n rfl rfl) ?_
  refine Rk.tr (F1 := (16, 29, _, _)) (m_iast (k := 25) (n := hd + 1) rfl rfl rfl (Nat.le_of_ble_eq_true rfl) rfl h8) ?_
  refine Rk.tr (F1 := (16, 30, _, _)) (x_aload_n rfl rfl rfl) ?_
  refine Rk.tr (F1 := (16, 31, _, _)) (x_iconst rfl) ?_
  refine Rk.tr (F1 := (16, 32, _, _)) (x_iload_n rfl rfl) ?_
  refine Rk.tr (F1 := (16, 35, _, _)) (m_call (As := [_, _]) rfl rfl rfl (Or.inr rfl) rfl rfl rfl (Nat.le_of_ble_eq_true rfl) c_atom rfl) ?_
  refine Rk.tr (F1 := (16, 36, _, _)) (x_aload_n rfl rfl rfl) ?_
  refine Rk.tr (F1 := (16, 37, _, _)) (x_dup rfl rfl) ?_
  refine Rk.tr (F1 := (16, 40, _, _)) (m_get rfl rfl (Nat.le_of_ble_eq_true rfl)) ?_
  refine Rk.tr (F1 := (16, 41, _, _)) (x_iconst rfl) ?_
  refine Rk.tr (F1 := (16, 42, _, _)) (x_isub rfl) ?_
  refine Rk.tr (F1 := (16, 45, _, _)) (m_put rfl rfl rfl rfl rfl rfl) ?_
  exact Rk.end rfl (Or.inl ⟨rfl, rfl, rfl, rfl⟩)
theorem b_end (hp : S.1 9 = nI p) (hn : S.1 1 = nI n) (h60 : n ≤ 60) (h : n ≤ p) (h60p : p ≤ 60) : Rn E (d + 1) 5 [.ref o] (mh g o S) (some (.int (-1))) (mh g o (S)) := by
  refine Rn.of (Nat.le_of_ble_eq_true rfl) ?_
  refine Rk.tr (F1 := (5, 1, _, _)) (x_aload_n rfl rfl rfl) ?_
  refine Rk.tr (F1 := (5, 4, _, _)) (m_get rfl rfl (Nat.le_of_ble_eq_true rfl)) ?_
  refine Rk.tr (F1 := (5, 5, _, _)) (x_aload_n rfl rfl rfl) ?_
  refine Rk.tr (F1 := (5, 8, _, _)) (m_get rfl rfl (Nat.le_of_ble_eq_true rfl)) ?_
  refine Rk.tr (F1 := (5, 11, _, _)) (x_icF rfl (tg := 13) rfl (by show ¬ S.1 9 < S.1 1; rw [hp, hn]; exact Int32.not_lt.mpr (nI_le (by omega) (by omega)))) ?_
  refine Rk.tr (F1 := (5, 12, _, _)) (x_iconst rfl) ?_
  exact Rk.end rfl (Or.inr (Or.inl ⟨rfl, _, .int, rfl, rfl, rfl, rfl⟩))
theorem b_num (hp : S.1 9 = nI p) (hn : S.1 1 = nI n) (h60 : n ≤ 60) (hw : S.2 2 p = 0) (h : p + 1 < n) : Rn E (d + 1) 5 [.ref o] (mh g o S) (some (.int (1))) (mh g o (msI (msI (mNext (mNext S)) 17 0) 18 (S.2 2 (p + 1)))) := by
  refine Rn.of (Nat.le_of_ble_eq_true rfl) ?_
  refine Rk.tr (F1 := (5, 1, _, _)) (x_aload_n rfl rfl rfl) ?_
  refine Rk.tr (F1 := (5, 4, _, _)) (m_get rfl rfl (Nat.le_of_ble_eq_true rfl)) ?_
  refine Rk.tr (F1 := (5, 5, _, _)) (x_aload_n rfl rfl rfl) ?_
  refine Rk.tr (F1 := (5, 8, _, _)) (m_get rfl rfl (Nat.le_of_ble_eq_true rfl)) ?_
  refine Rk.tr (F1 := (5, 13, _, _)) (x_icT rfl (tg := 13) rfl (by show S.1 9 < S.1 1; rw [hp, hn]; exact Int32.not_le.mp (nI_ge (by omega) (by omega)))) ?_
  refine Rk.tr (F1 := (5, 14, _, _)) (x_aload_n rfl rfl rfl) ?_
  refine Rk.tr (F1 := (5, 17, _, _)) (m_call (As := []) rfl rfl rfl (Or.inr rfl) rfl rfl rfl (Nat.le_of_ble_eq_true rfl) (c_next hp hn (by omega) h60) rfl) ?_
  refine Rk.tr (F1 := (5, 17, _, _)) (x_top hw) ?_
  refine Rk.tr (F1 := (5, 18, [_, _, _, _], _)) (x_istore_n (i := 1) rfl (Nat.le_of_ble_eq_true rfl)) ?_
  refine Rk.tr (F1 := (5, 19, _, _)) (x_iload_n rfl rfl) ?_
  refine Rk.tr (F1 := (5, 27, _, _)) (x_ifT rfl (tg := 27) rfl rfl) ?_
  refine Rk.tr (F1 := (5, 28, _, _)) (x_aload_n rfl rfl rfl) ?_
  refine Rk.tr (F1 := (5, 31, _, _)) (m_get rfl rfl (Nat.le_of_ble_eq_true rfl)) ?_
  refine Rk.tr (F1 := (5, 32, _, _)) (x_aload_n rfl rfl rfl) ?_
  refine Rk.tr (F1 := (5, 35, _, _)) (m_get rfl rfl (Nat.le_of_ble_eq_true rfl)) ?_
  refine Rk.tr (F1 := (5, 40, _, _)) (x_icT rfl (tg := 40) rfl (by show S.1 9 + 1 < S.1 1; rw [hp, hn, nI_1]; exact Int32.not_le.mp (nI_ge (by omega) (by omega)))) ?_
  refine Rk.tr (F1 := (5, 41, _, _)) (x_aload_n rfl rfl rfl) ?_
  refine Rk.tr (F1 := (5, 44, _, _)) (m_call (As := []) rfl rfl rfl (Or.inr rfl) rfl rfl rfl (Nat.le_of_ble_eq_true rfl) (c_next (p := p + 1) (by show S.1 9 + 1 = _; rw [hp, nI_1]) hn (by omega) h60) rfl) ?_
  refine Rk.tr (F1 := (5, 45, [_, _, _, _], _)) (x_istore_n (i := 2) rfl (Nat.le_of_ble_eq_true rfl)) ?_
  refine Rk.tr (F1 := (5, 46, _, _)) (x_iload_n rfl rfl) ?_
  refine Rk.tr (F1 := (5, 49, _, _)) (x_ifF rfl (tg := 57) rfl (fun q => q rfl)) ?_
  refine Rk.tr (F1 := (5, 50, _, _)) (x_aload_n rfl rfl rfl) ?_
  refine Rk.tr (F1 := (5, 51, _, _)) (x_iconst rfl) ?_
  refine Rk.tr (F1 := (5, 52, _, _)) (x_iload_n rfl rfl) ?_
  refine Rk.tr (F1 := (5, 55, _, _)) (m_call (As := [_, _]) rfl rfl rfl (Or.inr rfl) rfl rfl rfl (Nat.le_of_ble_eq_true rfl) c_atom rfl) ?_
  refine Rk.tr (F1 := (5, 56, _, _)) (x_iconst rfl) ?_
  exact Rk.end rfl (Or.inr (Or.inl ⟨rfl, _, .int, rfl, rfl, rfl, rfl⟩))
theorem b_num1 (hp : S.1 9 = nI p) (hn : S.1 1 = nI n) (h60 : n ≤ 60) (hw : S.2 2 p = 0) (h : p < n) (h1 : n ≤ p + 1) : Rn E (d + 1) 5 [.ref o] (mh g o S) (some (.int (-1))) (mh g o (mNext S)) := by
  refine Rn.of (Nat.le_of_ble_eq_true rfl) ?_
  refine Rk.tr (F1 := (5, 1, _, _)) (x_aload_n rfl rfl rfl) ?_
  refine Rk.tr (F1 := (5, 4, _, _)) (m_get rfl rfl (Nat.le_of_ble_eq_true rfl)) ?_
  refine Rk.tr (F1 := (5, 5, _, _)) (x_aload_n rfl rfl rfl) ?_
  refine Rk.tr (F1 := (5, 8, _, _)) (m_get rfl rfl (Nat.le_of_ble_eq_true rfl)) ?_
  refine Rk.tr (F1 := (5, 13, _, _)) (x_icT rfl (tg := 13) rfl (by show S.1 9 < S.1 1; rw [hp, hn]; exact Int32.not_le.mp (nI_ge (by omega) (by omega)))) ?_
  refine Rk.tr (F1 := (5, 14, _, _)) (x_aload_n rfl rfl rfl) ?_
  refine Rk.tr (F1 := (5, 17, _, _)) (m_call (As := []) rfl rfl rfl (Or.inr rfl) rfl rfl rfl (Nat.le_of_ble_eq_true rfl) (c_next hp hn (by omega) h60) rfl) ?_
  refine Rk.tr (F1 := (5, 17, _, _)) (x_top hw) ?_
  refine Rk.tr (F1 := (5, 18, [_, _, _, _], _)) (x_istore_n (i := 1) rfl (Nat.le_of_ble_eq_true rfl)) ?_
  refine Rk.tr (F1 := (5, 19, _, _)) (x_iload_n rfl rfl) ?_
  refine Rk.tr (F1 := (5, 27, _, _)) (x_ifT rfl (tg := 27) rfl rfl) ?_
  refine Rk.tr (F1 := (5, 28, _, _)) (x_aload_n rfl rfl rfl) ?_
  refine Rk.tr (F1 := (5, 31, _, _)) (m_get rfl rfl (Nat.le_of_ble_eq_true rfl)) ?_
  refine Rk.tr (F1 := (5, 32, _, _)) (x_aload_n rfl rfl rfl) ?_
  refine Rk.tr (F1 := (5, 35, _, _)) (m_get rfl rfl (Nat.le_of_ble_eq_true rfl)) ?_
  refine Rk.tr (F1 := (5, 38, _, _)) (x_icF rfl (tg := 40) rfl (by show ¬ S.1 9 + 1 < S.1 1; rw [hp, hn, nI_1]; exact Int32.not_lt.mpr (nI_le (by omega) (by omega)))) ?_
  refine Rk.tr (F1 := (5, 39, _, _)) (x_iconst rfl) ?_
  exact Rk.end rfl (Or.inr (Or.inl ⟨rfl, _, .int, rfl, rfl, rfl, rfl⟩))
theorem b_var1 (hp : S.1 9 = nI p) (hn : S.1 1 = nI n) (h60 : n ≤ 60) (hw : S.2 2 p = 1) (h : p < n) (h1 : n ≤ p + 1) : Rn E (d + 1) 5 [.ref o] (mh g o S) (some (.int (-1))) (mh g o (mNext S)) := by
  refine Rn.of (Nat.le_of_ble_eq_true rfl) ?_
  refine Rk.tr (F1 := (5, 1, _, _)) (x_aload_n rfl rfl rfl) ?_
  refine Rk.tr (F1 := (5, 4, _, _)) (m_get rfl rfl (Nat.le_of_ble_eq_true rfl)) ?_
  refine Rk.tr (F1 := (5, 5, _, _)) (x_aload_n rfl rfl rfl) ?_
  refine Rk.tr (F1 := (5, 8, _, _)) (m_get rfl rfl (Nat.le_of_ble_eq_true rfl)) ?_
  refine Rk.tr (F1 := (5, 13, _, _)) (x_icT rfl (tg := 13) rfl (by show S.1 9 < S.1 1; rw [hp, hn]; exact Int32.not_le.mp (nI_ge (by omega) (by omega)))) ?_
  refine Rk.tr (F1 := (5, 14, _, _)) (x_aload_n rfl rfl rfl) ?_
  refine Rk.tr (F1 := (5, 17, _, _)) (m_call (As := []) rfl rfl rfl (Or.inr rfl) rfl rfl rfl (Nat.le_of_ble_eq_true rfl) (c_next hp hn (by omega) h60) rfl) ?_
  refine Rk.tr (F1 := (5, 17, _, _)) (x_top hw) ?_
  refine Rk.tr (F1 := (5, 18, [_, _, _, _], _)) (x_istore_n (i := 1) rfl (Nat.le_of_ble_eq_true rfl)) ?_
  refine Rk.tr (F1 := (5, 19, _, _)) (x_iload_n rfl rfl) ?_
  refine Rk.tr (F1 := (5, 22, _, _)) (x_ifF rfl (tg := 27) rfl (show ¬ (1 : Int32) = 0 by decide)) ?_
  refine Rk.tr (F1 := (5, 23, _, _)) (x_iload_n rfl rfl) ?_
  refine Rk.tr (F1 := (5, 24, _, _)) (x_iconst rfl) ?_
  refine Rk.tr (F1 := (5, 27, _, _)) (x_icF rfl (tg := 96) rfl (fun q => q rfl)) ?_
  refine Rk.tr (F1 := (5, 28, _, _)) (x_aload_n rfl rfl rfl) ?_
  refine Rk.tr (F1 := (5, 31, _, _)) (m_get rfl rfl (Nat.le_of_ble_eq_true rfl)) ?_
  refine Rk.tr (F1 := (5, 32, _, _)) (x_aload_n rfl rfl rfl) ?_
  refine Rk.tr (F1 := (5, 35, _, _)) (m_get rfl rfl (Nat.le_of_ble_eq_true rfl)) ?_
  refine Rk.tr (F1 := (5, 38, _, _)) (x_icF rfl (tg := 40) rfl (by show ¬ S.1 9 + 1 < S.1 1; rw [hp, hn, nI_1]; exact Int32.not_lt.mpr (nI_le (by omega) (by omega)))) ?_
  refine Rk.tr (F1 := (5, 39, _, _)) (x_iconst rfl) ?_
  exact Rk.end rfl (Or.inr (Or.inl ⟨rfl, _, .int, rfl, rfl, rfl, rfl⟩))
theorem b_var (hp : S.1 9 = nI p) (hn : S.1 1 = nI n) (h60 : n ≤ 60) {x : Nat} (hw : S.2 2 p = 1) (h : p + 1 < n) (hx : x < 10) (hv : S.2 2 (p + 1) = nI x) (hm : 0 ≤ S.2 19 x) : Rn E (d + 1) 5 [.ref o] (mh g o S) (some (.int (1))) (mh g o (msI (msI (mNext (mNext S)) 17 (S.2 19 x)) 18 (S.2 20 x))) := by
  refine Rn.of (Nat.le_of_ble_eq_true rfl) ?_
  refine Rk.tr (F1 := (5, 1, _, _)) (x_aload_n rfl rfl rfl) ?_
  refine Rk.tr (F1 := (5, 4, _, _)) (m_get rfl rfl (Nat.le_of_ble_eq_true rfl)) ?_
  refine Rk.tr (F1 := (5, 5, _, _)) (x_aload_n rfl rfl rfl) ?_
  refine Rk.tr (F1 := (5, 8, _, _)) (m_get rfl rfl (Nat.le_of_ble_eq_true rfl)) ?_
  refine Rk.tr (F1 := (5, 13, _, _)) (x_icT rfl (tg := 13) rfl (by show S.1 9 < S.1 1; rw [hp, hn]; exact Int32.not_le.mp (nI_ge (by omega) (by omega)))) ?_
  refine Rk.tr (F1 := (5, 14, _, _)) (x_aload_n rfl rfl rfl) ?_
  refine Rk.tr (F1 := (5, 17, _, _)) (m_call (As := []) rfl rfl rfl (Or.inr rfl) rfl rfl rfl (Nat.le_of_ble_eq_true rfl) (c_next hp hn (by omega) h60) rfl) ?_
  refine Rk.tr (F1 := (5, 17, _, _)) (x_top hw) ?_
  refine Rk.tr (F1 := (5, 18, [_, _, _, _], _)) (x_istore_n (i := 1) rfl (Nat.le_of_ble_eq_true rfl)) ?_
  refine Rk.tr (F1 := (5, 19, _, _)) (x_iload_n rfl rfl) ?_
  refine Rk.tr (F1 := (5, 22, _, _)) (x_ifF rfl (tg := 27) rfl (show ¬ (1 : Int32) = 0 by decide)) ?_
  refine Rk.tr (F1 := (5, 23, _, _)) (x_iload_n rfl rfl) ?_
  refine Rk.tr (F1 := (5, 24, _, _)) (x_iconst rfl) ?_
  refine Rk.tr (F1 := (5, 27, _, _)) (x_icF rfl (tg := 96) rfl (fun q => q rfl)) ?_
  refine Rk.tr (F1 := (5, 28, _, _)) (x_aload_n rfl rfl rfl) ?_
  refine Rk.tr (F1 := (5, 31, _, _)) (m_get rfl rfl (Nat.le_of_ble_eq_true rfl)) ?_
  refine Rk.tr (F1 := (5, 32, _, _)) (x_aload_n rfl rfl rfl) ?_
  refine Rk.tr (F1 := (5, 35, _, _)) (m_get rfl rfl (Nat.le_of_ble_eq_true rfl)) ?_
  refine Rk.tr (F1 := (5, 40, _, _)) (x_icT rfl (tg := 40) rfl (by show S.1 9 + 1 < S.1 1; rw [hp, hn, nI_1]; exact Int32.not_le.mp (nI_ge (by omega) (by omega)))) ?_
  refine Rk.tr (F1 := (5, 41, _, _)) (x_aload_n rfl rfl rfl) ?_
  refine Rk.tr (F1 := (5, 44, _, _)) (m_call (As := []) rfl rfl rfl (Or.inr rfl) rfl rfl rfl (Nat.le_of_ble_eq_true rfl) (c_next (p := p + 1) (by show S.1 9 + 1 = _; rw [hp, nI_1]) hn (by omega) h60) rfl) ?_
  refine Rk.tr (F1 := (5, 44, _, _)) (x_top hv) ?_
  refine Rk.tr (F1 := (5, 45, [_, _, _, _], _)) (x_istore_n (i := 2) rfl (Nat.le_of_ble_eq_true rfl)) ?_
  refine Rk.tr (F1 := (5, 46, _, _)) (x_iload_n rfl rfl) ?_
  refine Rk.tr (F1 := (5, 57, _, _)) (x_ifT rfl (tg := 57) rfl (show ¬ (1 : Int32) = 0 by decide)) ?_
  refine Rk.tr (F1 := (5, 58, _, _)) (x_iload_n rfl rfl) ?_
  refine Rk.tr (F1 := (5, 61, _, _)) (x_ifF rfl (tg := 76) rfl (show ¬ nI x < nI 0 from Int32.not_lt.mpr (nI_le (by omega) (by omega)))) ?_
  refine Rk.tr (F1 := (5, 62, _, _)) (x_iload_n rfl rfl) ?_
  refine Rk.tr (F1 := (5, 64, _, _)) (x_bipush rfl) ?_
  refine Rk.tr (F1 := (5, 67, _, _)) (x_icF rfl (tg := 76) rfl (show ¬ nI 9 < nI x from Int32.not_lt.mpr (nI_le (by omega) (by omega)))) ?_
  refine Rk.tr (F1 := (5, 68, _, _)) (x_aload_n rfl rfl rfl) ?_
  refine Rk.tr (F1 := (5, 71, _, _)) (m_get rfl rfl (Nat.le_of_ble_eq_true rfl)) ?_
  refine Rk.tr (F1 := (5, 72, _, _)) (x_iload_n rfl rfl) ?_
  refine Rk.tr (F1 := (5, 73, _, _)) (m_iald (k := 19) (n := x) rfl rfl rfl rfl hx) ?_
  refine Rk.tr (F1 := (5, 78, _, _)) (x_ifT rfl (tg := 78) rfl hm) ?_
  refine Rk.tr (F1 := (5, 79, _, _)) (x_aload_n rfl rfl rfl) ?_
  refine Rk.tr (F1 := (5, 80, _, _)) (x_aload_n rfl rfl rfl) ?_
  refine Rk.tr (F1 := (5, 83, _, _)) (m_get rfl rfl (Nat.le_of_ble_eq_true rfl)) ?_
  refine Rk.tr (F1 := (5, 84, _, _)) (x_iload_n rfl rfl) ?_
  refine Rk.tr (F1 := (5, 85, _, _)) (m_iald (k := 19) (n := x) rfl rfl rfl rfl hx) ?_
  refine Rk.tr (F1 := (5, 86, _, _)) (x_aload_n rfl rfl rfl) ?_
  refine Rk.tr (F1 := (5, 89, _, _)) (m_get rfl rfl (Nat.le_of_ble_eq_true rfl)) ?_
  refine Rk.tr (F1 := (5, 90, _, _)) (x_iload_n rfl rfl) ?_
  refine Rk.tr (F1 := (5, 91, _, _)) (m_iald (k := 20) (n := x) rfl rfl rfl rfl hx) ?_
  refine Rk.tr (F1 := (5, 94, _, _)) (m_call (As := [_, _]) rfl rfl rfl (Or.inr rfl) rfl rfl rfl (Nat.le_of_ble_eq_true rfl) c_atom rfl) ?_
  refine Rk.tr (F1 := (5, 95, _, _)) (x_iconst rfl) ?_
  exact Rk.end rfl (Or.inr (Or.inl ⟨rfl, _, .int, rfl, rfl, rfl, rfl⟩))
theorem b_varF (hp : S.1 9 = nI p) (hn : S.1 1 = nI n) (h60 : n ≤ 60) {x : Nat} (hw : S.2 2 p = 1) (h : p + 1 < n) (hx : x < 10) (hv : S.2 2 (p + 1) = nI x) (hm : S.2 19 x < 0) : Rn E (d + 1) 5 [.ref o] (mh g o S) (some (.int (-1))) (mh g o (mNext (mNext S))) := by
  refine Rn.of (Nat.le_of_ble_eq_true rfl) ?_
  refine Rk.tr (F1 := (5, 1, _, _)) (x_aload_n rfl rfl rfl) ?_
  refine Rk.tr (F1 := (5, 4, _, _)) (m_get rfl rfl (Nat.le_of_ble_eq_true rfl)) ?_
  refine Rk.tr (F1 := (5, 5, _, _)) (x_aload_n rfl rfl rfl) ?_
  refine Rk.tr (F1 := (5, 8, _, _)) (m_get rfl rfl (Nat.le_of_ble_eq_true rfl)) ?_
  refine Rk.tr (F1 := (5, 13, _, _)) (x_icT rfl (tg := 13) rfl (by show S.1 9 < S.1 1; rw [hp, hn]; exact Int32.not_le.mp (nI_ge (by omega) (by omega)))) ?_
  refine Rk.tr (F1 := (5, 14, _, _)) (x_aload_n rfl rfl rfl) ?_
  refine Rk.tr (F1 := (5, 17, _, _)) (m_call (As := []) rfl rfl rfl (Or.inr rfl) rfl rfl rfl (Nat.le_of_ble_eq_true rfl) (c_next hp hn (by omega) h60) rfl) ?_
  refine Rk.tr (F1 := (5, 17, _, _)) (x_top hw) ?_
  refine Rk.tr (F1 := (5, 18, [_, _, _, _], _)) (x_istore_n (i := 1) rfl (Nat.le_of_ble_eq_true rfl)) ?_
  refine Rk.tr (F1 := (5, 19, _, _)) (x_iload_n rfl rfl) ?_
  refine Rk.tr (F1 := (5, 22, _, _)) (x_ifF rfl (tg := 27) rfl (show ¬ (1 : Int32) = 0 by decide)) ?_
  refine Rk.tr (F1 := (5, 23, _, _)) (x_iload_n rfl rfl) ?_
  refine Rk.tr (F1 := (5, 24, _, _)) (x_iconst rfl) ?_
  refine Rk.tr (F1 := (5, 27, _, _)) (x_icF rfl (tg := 96) rfl (fun q => q rfl)) ?_
  refine Rk.tr (F1 := (5, 28, _, _)) (x_aload_n rfl rfl rfl) ?_
  refine Rk.tr (F1 := (5, 31, _, _)) (m_get rfl rfl (Nat.le_of_ble_eq_true rfl)) ?_
  refine Rk.tr (F1 := (5, 32, _, _)) (x_aload_n rfl rfl rfl) ?_
  refine Rk.tr (F1 := (5, 35, _, _)) (m_get rfl rfl (Nat.le_of_ble_eq_true rfl)) ?_
  refine Rk.tr (F1 := (5, 40, _, _)) (x_icT rfl (tg := 40) rfl (by show S.1 9 + 1 < S.1 1; rw [hp, hn, nI_1]; exact Int32.not_le.mp (nI_ge (by omega) (by omega)))) ?_
  refine Rk.tr (F1 := (5, 41, _, _)) (x_aload_n rfl rfl rfl) ?_
  refine Rk.tr (F1 := (5, 44, _, _)) (m_call (As := []) rfl rfl rfl (Or.inr rfl) rfl rfl rfl (Nat.le_of_ble_eq_true rfl) (c_next (p := p + 1) (by show S.1 9 + 1 = _; rw [hp, nI_1]) hn (by omega) h60) rfl) ?_
  refine Rk.tr (F1 := (5, 44, _, _)) (x_top hv) ?_
  refine Rk.tr (F1 := (5, 45, [_, _, _, _], _)) (x_istore_n (i := 2) rfl (Nat.le_of_ble_eq_true rfl)) ?_
  refine Rk.tr (F1 := (5, 46, _, _)) (x_iload_n rfl rfl) ?_
  refine Rk.tr (F1 := (5, 57, _, _)) (x_ifT rfl (tg := 57) rfl (show ¬ (1 : Int32) = 0 by decide)) ?_
  refine Rk.tr (F1 := (5, 58, _, _)) (x_iload_n rfl rfl) ?_
  refine Rk.tr (F1 := (5, 61, _, _)) (x_ifF rfl (tg := 76) rfl (show ¬ nI x < nI 0 from Int32.not_lt.mpr (nI_le (by omega) (by omega)))) ?_
  refine Rk.tr (F1 := (5, 62, _, _)) (x_iload_n rfl rfl) ?_
  refine Rk.tr (F1 := (5, 64, _, _)) (x_bipush rfl) ?_
  refine Rk.tr (F1 := (5, 67, _, _)) (x_icF rfl (tg := 76) rfl (show ¬ nI 9 < nI x from Int32.not_lt.mpr (nI_le (by omega) (by omega)))) ?_
  refine Rk.tr (F1 := (5, 68, _, _)) (x_aload_n rfl rfl rfl) ?_
  refine Rk.tr (F1 := (5, 71, _, _)) (m_get rfl rfl (Nat.le_of_ble_eq_true rfl)) ?_
  refine Rk.tr (F1 := (5, 72, _, _)) (x_iload_n rfl rfl) ?_
  refine Rk.tr (F1 := (5, 73, _, _)) (m_iald (k := 19) (n := x) rfl rfl rfl rfl hx) ?_
  refine Rk.tr (F1 := (5, 76, _, _)) (x_ifF rfl (tg := 78) rfl (Int32.not_le.mpr hm)) ?_
  refine Rk.tr (F1 := (5, 77, _, _)) (x_iconst rfl) ?_
  exact Rk.end rfl (Or.inr (Or.inl ⟨rfl, _, .int, rfl, rfl, rfl, rfl⟩))
theorem b_varL (hp : S.1 9 = nI p) (hn : S.1 1 = nI n) (h60 : n ≤ 60) (hw : S.2 2 p = 1) (h : p + 1 < n) (hv : S.2 2 (p + 1) < 0) : Rn E (d + 1) 5 [.ref o] (mh g o S) (some (.int (-1))) (mh g o (mNext (mNext S))) := by
  refine Rn.of (Nat.le_of_ble_eq_true rfl) ?_
  refine Rk.tr (F1 := (5, 1, _, _)) (x_aload_n rfl rfl rfl) ?_
  refine Rk.tr (F1 := (5, 4, _, _)) (m_get rfl rfl (Nat.le_of_ble_eq_true rfl)) ?_
  refine Rk.tr (F1 := (5, 5, _, _)) (x_aload_n rfl rfl rfl) ?_
  refine Rk.tr (F1 := (5, 8, _, _)) (m_get rfl rfl (Nat.le_of_ble_eq_true rfl)) ?_
  refine Rk.tr (F1 := (5, 13, _, _)) (x_icT rfl (tg := 13) rfl (by show S.1 9 < S.1 1; rw [hp, hn]; exact Int32.not_le.mp (nI_ge (by omega) (by omega)))) ?_
  refine Rk.tr (F1 := (5, 14, _, _)) (x_aload_n rfl rfl rfl) ?_
  refine Rk.tr (F1 := (5, 17, _, _)) (m_call (As := []) rfl rfl rfl (Or.inr rfl) rfl rfl rfl (Nat.le_of_ble_eq_true rfl) (c_next hp hn (by omega) h60) rfl) ?_
  refine Rk.tr (F1 := (5, 17, _, _)) (x_top hw) ?_
  refine Rk.tr (F1 := (5, 18, [_, _, _, _], _)) (x_istore_n (i := 1) rfl (Nat.le_of_ble_eq_true rfl)) ?_
  refine Rk.tr (F1 := (5, 19, _, _)) (x_iload_n rfl rfl) ?_
  refine Rk.tr (F1 := (5, 22, _, _)) (x_ifF rfl (tg := 27) rfl (show ¬ (1 : Int32) = 0 by decide)) ?_
  refine Rk.tr (F1 := (5, 23, _, _)) (x_iload_n rfl rfl) ?_
  refine Rk.tr (F1 := (5, 24, _, _)) (x_iconst rfl) ?_
  refine Rk.tr (F1 := (5, 27, _, _)) (x_icF rfl (tg := 96) rfl (fun q => q rfl)) ?_
  refine Rk.tr (F1 := (5, 28, _, _)) (x_aload_n rfl rfl rfl) ?_
  refine Rk.tr (F1 := (5, 31, _, _)) (m_get rfl rfl (Nat.le_of_ble_eq_true rfl)) ?_
  refine Rk.tr (F1 := (5, 32, _, _)) (x_aload_n rfl rfl rfl) ?_
  refine Rk.tr (F1 := (5, 35, _, _)) (m_get rfl rfl (Nat.le_of_ble_eq_true rfl)) ?_
  refine Rk.tr (F1 := (5, 40, _, _)) (x_icT rfl (tg := 40) rfl (by show S.1 9 + 1 < S.1 1; rw [hp, hn, nI_1]; exact Int32.not_le.mp (nI_ge (by omega) (by omega)))) ?_
  refine Rk.tr (F1 := (5, 41, _, _)) (x_aload_n rfl rfl rfl) ?_
  refine Rk.tr (F1 := (5, 44, _, _)) (m_call (As := []) rfl rfl rfl (Or.inr rfl) rfl rfl rfl (Nat.le_of_ble_eq_true rfl) (c_next (p := p + 1) (by show S.1 9 + 1 = _; rw [hp, nI_1]) hn (by omega) h60) rfl) ?_
  refine Rk.tr (F1 := (5, 45, [_, _, _, _], _)) (x_istore_n (i := 2) rfl (Nat.le_of_ble_eq_true rfl)) ?_
  refine Rk.tr (F1 := (5, 46, _, _)) (x_iload_n rfl rfl) ?_
  refine Rk.tr (F1 := (5, 57, _, _)) (x_ifT rfl (tg := 57) rfl (show ¬ (1 : Int32) = 0 by decide)) ?_
  refine Rk.tr (F1 := (5, 58, _, _)) (x_iload_n rfl rfl) ?_
  refine Rk.tr (F1 := (5, 76, _, _)) (x_ifT rfl (tg := 76) rfl hv) ?_
  refine Rk.tr (F1 := (5, 77, _, _)) (x_iconst rfl) ?_
  exact Rk.end rfl (Or.inr (Or.inl ⟨rfl, _, .int, rfl, rfl, rfl, rfl⟩))
theorem b_varG (hp : S.1 9 = nI p) (hn : S.1 1 = nI n) (h60 : n ≤ 60) (hw : S.2 2 p = 1) (h : p + 1 < n) (hv : ¬ S.2 2 (p + 1) < 0) (hv2 : 9 < S.2 2 (p + 1)) : Rn E (d + 1) 5 [.ref o] (mh g o S) (some (.int (-1))) (mh g o (mNext (mNext S))) := by
  refine Rn.of (Nat.le_of_ble_eq_true rfl) ?_
  refine Rk.tr (F1 := (5, 1, _, _)) (x_aload_n rfl rfl rfl) ?_
  refine Rk.tr (F1 := (5, 4, _, _)) (m_get rfl rfl (Nat.le_of_ble_eq_true rfl)) ?_
  refine Rk.tr (F1 := (5, 5, _, _)) (x_aload_n rfl rfl rfl) ?_
  refine Rk.tr (F1 := (5, 8, _, _)) (m_get rfl rfl (Nat.le_of_ble_eq_true rfl)) ?_
  refine Rk.tr (F1 := (5, 13, _, _)) (x_icT rfl (tg := 13) rfl (by show S.1 9 < S.1 1; rw [hp, hn]; exact Int32.not_le.mp (nI_ge (by omega) (by omega)))) ?_
  refine Rk.tr (F1 := (5, 14, _, _)) (x_aload_n rfl rfl rfl) ?_
  refine Rk.tr (F1 := (5, 17, _, _)) (m_call (As := []) rfl rfl rfl (Or.inr rfl) rfl rfl rfl (Nat.le_of_ble_eq_true rfl) (c_next hp hn (by omega) h60) rfl) ?_
  refine Rk.tr (F1 := (5, 17, _, _)) (x_top hw) ?_
  refine Rk.tr (F1 := (5, 18, [_, _, _, _], _)) (x_istore_n (i := 1) rfl (Nat.le_of_ble_eq_true rfl)) ?_
  refine Rk.tr (F1 := (5, 19, _, _)) (x_iload_n rfl rfl) ?_
  refine Rk.tr (F1 := (5, 22, _, _)) (x_ifF rfl (tg := 27) rfl (show ¬ (1 : Int32) = 0 by decide)) ?_
  refine Rk.tr (F1 := (5, 23, _, _)) (x_iload_n rfl rfl) ?_
  refine Rk.tr (F1 := (5, 24, _, _)) (x_iconst rfl) ?_
  refine Rk.tr (F1 := (5, 27, _, _)) (x_icF rfl (tg := 96) rfl (fun q => q rfl)) ?_
  refine Rk.tr (F1 := (5, 28, _, _)) (x_aload_n rfl rfl rfl) ?_
  refine Rk.tr (F1 := (5, 31, _, _)) (m_get rfl rfl (Nat.le_of_ble_eq_true rfl)) ?_
  refine Rk.tr (F1 := (5, 32, _, _)) (x_aload_n rfl rfl rfl) ?_
  refine Rk.tr (F1 := (5, 35, _, _)) (m_get rfl rfl (Nat.le_of_ble_eq_true rfl)) ?_
  refine Rk.tr (F1 := (5, 40, _, _)) (x_icT rfl (tg := 40) rfl (by show S.1 9 + 1 < S.1 1; rw [hp, hn, nI_1]; exact Int32.not_le.mp (nI_ge (by omega) (by omega)))) ?_
  refine Rk.tr (F1 := (5, 41, _, _)) (x_aload_n rfl rfl rfl) ?_
  refine Rk.tr (F1 := (5, 44, _, _)) (m_call (As := []) rfl rfl rfl (Or.inr rfl) rfl rfl rfl (Nat.le_of_ble_eq_true rfl) (c_next (p := p + 1) (by show S.1 9 + 1 = _; rw [hp, nI_1]) hn (by omega) h60) rfl) ?_
  refine Rk.tr (F1 := (5, 45, [_, _, _, _], _)) (x_istore_n (i := 2) rfl (Nat.le_of_ble_eq_true rfl)) ?_
  refine Rk.tr (F1 := (5, 46, _, _)) (x_iload_n rfl rfl) ?_
  refine Rk.tr (F1 := (5, 57, _, _)) (x_ifT rfl (tg := 57) rfl (show ¬ (1 : Int32) = 0 by decide)) ?_
  refine Rk.tr (F1 := (5, 58, _, _)) (x_iload_n rfl rfl) ?_
  refine Rk.tr (F1 := (5, 61, _, _)) (x_ifF rfl (tg := 76) rfl hv) ?_
  refine Rk.tr (F1 := (5, 62, _, _)) (x_iload_n rfl rfl) ?_
  refine Rk.tr (F1 := (5, 64, _, _)) (x_bipush rfl) ?_
  refine Rk.tr (F1 := (5, 76, _, _)) (x_icT rfl (tg := 76) rfl hv2) ?_
  refine Rk.tr (F1 := (5, 77, _, _)) (x_iconst rfl) ?_
  exact Rk.end rfl (Or.inr (Or.inl ⟨rfl, _, .int, rfl, rfl, rfl, rfl⟩))
theorem b_low (hp : S.1 9 = nI p) (hn : S.1 1 = nI n) (h60 : n ≤ 60) (h : p < n) (hw : S.2 2 p < 0) : Rn E (d + 1) 5 [.ref o] (mh g o S) (some (.int (-1))) (mh g o (mNext S)) := by
  refine Rn.of (Nat.le_of_ble_eq_true rfl) ?_
  refine Rk.tr (F1 := (5, 1, _, _)) (x_aload_n rfl rfl rfl) ?_
  refine Rk.tr (F1 := (5, 4, _, _)) (m_get rfl rfl (Nat.le_of_ble_eq_true rfl)) ?_
  refine Rk.tr (F1 := (5, 5, _, _)) (x_aload_n rfl rfl rfl) ?_
  refine Rk.tr (F1 := (5, 8, _, _)) (m_get rfl rfl (Nat.le_of_ble_eq_true rfl)) ?_
  refine Rk.tr (F1 := (5, 13, _, _)) (x_icT rfl (tg := 13) rfl (by show S.1 9 < S.1 1; rw [hp, hn]; exact Int32.not_le.mp (nI_ge (by omega) (by omega)))) ?_
  refine Rk.tr (F1 := (5, 14, _, _)) (x_aload_n rfl rfl rfl) ?_
  refine Rk.tr (F1 := (5, 17, _, _)) (m_call (As := []) rfl rfl rfl (Or.inr rfl) rfl rfl rfl (Nat.le_of_ble_eq_true rfl) (c_next hp hn (by omega) h60) rfl) ?_
  refine Rk.tr (F1 := (5, 18, [_, _, _, _], _)) (x_istore_n (i := 1) rfl (Nat.le_of_ble_eq_true rfl)) ?_
  refine Rk.tr (F1 := (5, 19, _, _)) (x_iload_n rfl rfl) ?_
  refine Rk.tr (F1 := (5, 22, _, _)) (x_ifF rfl (tg := 27) rfl (fun z => absurd (show S.2 2 p < 0 from hw) (by rw [show S.2 2 p = 0 from z]; decide))) ?_
  refine Rk.tr (F1 := (5, 23, _, _)) (x_iload_n rfl rfl) ?_
  refine Rk.tr (F1 := (5, 24, _, _)) (x_iconst rfl) ?_
  refine Rk.tr (F1 := (5, 96, _, _)) (x_icT rfl (tg := 96) rfl (fun z => absurd (show S.2 2 p < 0 from hw) (by rw [show S.2 2 p = 1 from z]; decide))) ?_
  refine Rk.tr (F1 := (5, 97, _, _)) (x_iload_n rfl rfl) ?_
  refine Rk.tr (F1 := (5, 106, _, _)) (x_ifT rfl (tg := 106) rfl hw) ?_
  refine Rk.tr (F1 := (5, 107, _, _)) (x_iconst rfl) ?_
  exact Rk.end rfl (Or.inr (Or.inl ⟨rfl, _, .int, rfl, rfl, rfl, rfl⟩))
theorem b_high (hp : S.1 9 = nI p) (hn : S.1 1 = nI n) (h60 : n ≤ 60) (h : p < n) (hw : 6 < S.2 2 p) : Rn E (d + 1) 5 [.ref o] (mh g o S) (some (.int (-1))) (mh g o (mNext S)) := by
  refine Rn.of (Nat.le_of_ble_eq_true rfl) ?_
  refine Rk.tr (F1 := (5, 1, _, _)) (x_aload_n rfl rfl rfl) ?_
  refine Rk.tr (F1 := (5, 4, _, _)) (m_get rfl rfl (Nat.le_of_ble_eq_true rfl)) ?_
  refine Rk.tr (F1 := (5, 5, _, _)) (x_aload_n rfl rfl rfl) ?_
  refine Rk.tr (F1 := (5, 8, _, _)) (m_get rfl rfl (Nat.le_of_ble_eq_true rfl)) ?_
  refine Rk.tr (F1 := (5, 13, _, _)) (x_icT rfl (tg := 13) rfl (by show S.1 9 < S.1 1; rw [hp, hn]; exact Int32.not_le.mp (nI_ge (by omega) (by omega)))) ?_
  refine Rk.tr (F1 := (5, 14, _, _)) (x_aload_n rfl rfl rfl) ?_
  refine Rk.tr (F1 := (5, 17, _, _)) (m_call (As := []) rfl rfl rfl (Or.inr rfl) rfl rfl rfl (Nat.le_of_ble_eq_true rfl) (c_next hp hn (by omega) h60) rfl) ?_
  refine Rk.tr (F1 := (5, 18, [_, _, _, _], _)) (x_istore_n (i := 1) rfl (Nat.le_of_ble_eq_true rfl)) ?_
  refine Rk.tr (F1 := (5, 19, _, _)) (x_iload_n rfl rfl) ?_
  refine Rk.tr (F1 := (5, 22, _, _)) (x_ifF rfl (tg := 27) rfl (fun z => absurd (show 6 < S.2 2 p from hw) (by rw [show S.2 2 p = 0 from z]; decide))) ?_
  refine Rk.tr (F1 := (5, 23, _, _)) (x_iload_n rfl rfl) ?_
  refine Rk.tr (F1 := (5, 24, _, _)) (x_iconst rfl) ?_
  refine Rk.tr (F1 := (5, 96, _, _)) (x_icT rfl (tg := 96) rfl (fun z => absurd (show 6 < S.2 2 p from hw) (by rw [show S.2 2 p = 1 from z]; decide))) ?_
  refine Rk.tr (F1 := (5, 97, _, _)) (x_iload_n rfl rfl) ?_
  refine Rk.tr (F1 := (5, 100, _, _)) (x_ifF rfl (tg := 106) rfl (fun z => absurd (Int32.lt_trans (show (6 : Int32) < S.2 2 p from hw) z) (by decide))) ?_
  refine Rk.tr (F1 := (5, 101, _, _)) (x_iload_n rfl rfl) ?_
  refine Rk.tr (F1 := (5, 103, _, _)) (x_bipush rfl) ?_
  refine Rk.tr (F1 := (5, 106, _, _)) (x_icF rfl (tg := 108) rfl (Int32.not_le.mpr hw)) ?_
  refine Rk.tr (F1 := (5, 107, _, _)) (x_iconst rfl) ?_
  exact Rk.end rfl (Or.inr (Or.inl ⟨rfl, _, .int, rfl, rfl, rfl, rfl⟩))
theorem b_op3 (hp : S.1 9 = nI p) (hn : S.1 1 = nI n) (h60 : n ≤ 60) (hw : S.2 2 p = 3) (h : p < n) (hq : S.1 10 = nI q) (hq6 : q < 60) : Rn E (d + 1) 5 [.ref o] (mh g o S) (some (.int (0))) (mh g o (msA (mOpen S q 3) 13 (q + 1) 0)) := by
  refine Rn.of (Nat.le_of_ble_eq_true rfl) ?_
  refine Rk.tr (F1 := (5, 1, _, _)) (x_aload_n rfl rfl rfl) ?_
  refine Rk.tr (F1 := (5, 4, _, _)) (m_get rfl rfl (Nat.le_of_ble_eq_true rfl)) ?_
  refine Rk.tr (F1 := (5, 5, _, _)) (x_aload_n rfl rfl rfl) ?_
  refine Rk.tr (F1 := (5, 8, _, _)) (m_get rfl rfl (Nat.le_of_ble_eq_true rfl)) ?_
  refine Rk.tr (F1 := (5, 13, _, _)) (x_icT rfl (tg := 13) rfl (by show S.1 9 < S.1 1; rw [hp, hn]; exact Int32.not_le.mp (nI_ge (by omega) (by omega)))) ?_
  refine Rk.tr (F1 := (5, 14, _, _)) (x_aload_n rfl rfl rfl) ?_
  refine Rk.tr (F1 := (5, 17, _, _)) (m_call (As := []) rfl rfl rfl (Or.inr rfl) rfl rfl rfl (Nat.le_of_ble_eq_true rfl) (c_next hp hn (by omega) h60) rfl) ?_
  refine Rk.tr (F1 := (5, 17, _, _)) (x_top hw) ?_
  refine Rk.tr (F1 := (5, 18, [_, _, _, _], _)) (x_istore_n (i := 1) rfl (Nat.le_of_ble_eq_true rfl)) ?_
  refine Rk.tr (F1 := (5, 19, _, _)) (x_iload_n rfl rfl) ?_
  refine Rk.tr (F1 := (5, 22, _, _)) (x_ifF rfl (tg := 27) rfl (show ¬ (3 : Int32) = 0 by decide)) ?_
  refine Rk.tr (F1 := (5, 23, _, _)) (x_iload_n rfl rfl) ?_
  refine Rk.tr (F1 := (5, 24, _, _)) (x_iconst rfl) ?_
  refine Rk.tr (F1 := (5, 96, _, _)) (x_icT rfl (tg := 96) rfl (show ¬ (3 : Int32) = 1 by decide)) ?_
  refine Rk.tr (F1 := (5, 97, _, _)) (x_iload_n rfl rfl) ?_
  refine Rk.tr (F1 := (5, 100, _, _)) (x_ifF rfl (tg := 106) rfl (show ¬ (3 : Int32) < 0 by decide)) ?_
  refine Rk.tr (F1 := (5, 101, _, _)) (x_iload_n rfl rfl) ?_
  refine Rk.tr (F1 := (5, 103, _, _)) (x_bipush rfl) ?_
  refine Rk.tr (F1 := (5, 108, _, _)) (x_icT rfl (tg := 108) rfl (show (3 : Int32) ≤ 6 by decide)) ?_
  refine Rk.tr (F1 := (5, 109, _, _)) (x_aload_n rfl rfl rfl) ?_
  refine Rk.tr (F1 := (5, 110, _, _)) (x_dup rfl rfl) ?_
  refine Rk.tr (F1 := (5, 113, _, _)) (m_get rfl rfl (Nat.le_of_ble_eq_true rfl)) ?_
  refine Rk.tr (F1 := (5, 114, _, _)) (x_iconst rfl) ?_
  refine Rk.tr (F1 := (5, 115, _, _)) (x_iadd rfl) ?_
  refine Rk.tr (F1 := (5, 118, _, _)) (m_put rfl rfl rfl rfl rfl rfl) ?_
  refine Rk.tr (F1 := (5, 119, _, _)) (x_aload_n rfl rfl rfl) ?_
  refine Rk.tr (F1 := (5, 122, _, _)) (m_get rfl rfl (Nat.le_of_ble_eq_true rfl)) ?_
  refine Rk.tr (F1 := (5, 123, _, _)) (x_aload_n rfl rfl rfl) ?_
  refine Rk.tr (F1 := (5, 126, _, _)) (m_get rfl rfl (Nat.le_of_ble_eq_true rfl)) ?_
  refine Rk.tr (F1 := (5, 127, _, _)) (x_iload_n rfl rfl) ?_
  refine Rk.tr (F1 := (5, 128, _, _)) (m_iast (k := 11) (n := q + 1) rfl rfl rfl (Nat.le_of_ble_eq_true rfl) (by show S.1 10 + 1 = nI (q + 1); rw [hq, nI_1]) (show q + 1 < 61 by omega)) ?_
  refine Rk.tr (F1 := (5, 129, _, _)) (x_aload_n rfl rfl rfl) ?_
  refine Rk.tr (F1 := (5, 132, _, _)) (m_get rfl rfl (Nat.le_of_ble_eq_true rfl)) ?_
  refine Rk.tr (F1 := (5, 133, _, _)) (x_aload_n rfl rfl rfl) ?_
  refine Rk.tr (F1 := (5, 136, _, _)) (m_get rfl rfl (Nat.le_of_ble_eq_true rfl)) ?_
  refine Rk.tr (F1 := (5, 137, _, _)) (x_iconst rfl) ?_
  refine Rk.tr (F1 := (5, 138, _, _)) (m_iast (k := 12) (n := q + 1) rfl rfl rfl (Nat.le_of_ble_eq_true rfl) (by show S.1 10 + 1 = nI (q + 1); rw [hq, nI_1]) (show q + 1 < 61 by omega)) ?_
  refine Rk.tr (F1 := (5, 139, _, _)) (x_iload_n rfl rfl) ?_
  refine Rk.tr (F1 := (5, 140, _, _)) (x_iconst rfl) ?_
  refine Rk.tr (F1 := (5, 143, _, _)) (x_icF rfl (tg := 153) rfl (show ¬ (3 : Int32) = 2 by decide)) ?_
  refine Rk.tr (F1 := (5, 144, _, _)) (x_iload_n rfl rfl) ?_
  refine Rk.tr (F1 := (5, 145, _, _)) (x_iconst rfl) ?_
  refine Rk.tr (F1 := (5, 148, _, _)) (x_icF rfl (tg := 153) rfl (show ¬ (3 : Int32) = 4 by decide)) ?_
  refine Rk.tr (F1 := (5, 149, _, _)) (x_iload_n rfl rfl) ?_
  refine Rk.tr (F1 := (5, 150, _, _)) (x_iconst rfl) ?_
  refine Rk.tr (F1 := (5, 157, _, _)) (x_icT rfl (tg := 157) rfl (show ¬ (3 : Int32) = 5 by decide)) ?_
  refine Rk.tr (F1 := (5, 158, _, _)) (x_iconst rfl) ?_
  refine Rk.tr (F1 := (5, 159, [_, _, _, _], _)) (x_istore_n (i := 2) rfl (Nat.le_of_ble_eq_true rfl)) ?_
  refine Rk.tr (F1 := (5, 160, _, _)) (x_iload_n rfl rfl) ?_
  refine Rk.tr (F1 := (5, 176, _, _)) (x_ifT rfl (tg := 176) rfl rfl) ?_
  refine Rk.tr (F1 := (5, 177, _, _)) (x_aload_n rfl rfl rfl) ?_
  refine Rk.tr (F1 := (5, 180, _, _)) (m_get rfl rfl (Nat.le_of_ble_eq_true rfl)) ?_
  refine Rk.tr (F1 := (5, 181, _, _)) (x_aload_n rfl rfl rfl) ?_
  refine Rk.tr (F1 := (5, 184, _, _)) (m_get rfl rfl (Nat.le_of_ble_eq_true rfl)) ?_
  refine Rk.tr (F1 := (5, 185, _, _)) (x_iload_n rfl rfl) ?_
  refine Rk.tr (F1 := (5, 195, _, _)) (x_ifT rfl (tg := 195) rfl rfl) ?_
  refine Rk.tr (F1 := (5, 196, _, _)) (x_iconst rfl) ?_
  refine Rk.tr (F1 := (5, 197, _, _)) (m_iast (k := 13) (n := q + 1) rfl rfl rfl (Nat.le_of_ble_eq_true rfl) (by show S.1 10 + 1 = nI (q + 1); rw [hq, nI_1]) (show q + 1 < 61 by omega)) ?_
  refine Rk.tr (F1 := (5, 198, _, _)) (x_iload_n rfl rfl) ?_
  refine Rk.tr (F1 := (5, 238, _, _)) (x_ifT rfl (tg := 238) rfl rfl) ?_
  refine Rk.tr (F1 := (5, 239, _, _)) (x_iload_n rfl rfl) ?_
  refine Rk.tr (F1 := (5, 240, _, _)) (x_iconst rfl) ?_
  refine Rk.tr (F1 := (5, 296, _, _)) (x_icT rfl (tg := 296) rfl (show ¬ (3 : Int32) = 2 by decide)) ?_
  refine Rk.tr (F1 := (5, 297, _, _)) (x_iconst rfl) ?_
  exact Rk.end rfl (Or.inr (Or.inl ⟨rfl, _, .int, rfl, rfl, rfl, rfl⟩))
theorem b_op6 (hp : S.1 9 = nI p) (hn : S.1 1 = nI n) (h60 : n ≤ 60) (hw : S.2 2 p = 6) (h : p < n) (hq : S.1 10 = nI q) (hq6 : q < 60) : Rn E (d + 1) 5 [.ref o] (mh g o S) (some (.int (0))) (mh g o (msA (mOpen S q 6) 13 (q + 1) 0)) := by
  refine Rn.of (Nat.le_of_ble_eq_true rfl) ?_
  refine Rk.tr (F1 := (5, 1, _, _)) (x_aload_n rfl rfl rfl) ?_
  refine Rk.tr (F1 := (5, 4, _, _)) (m_get rfl rfl (Nat.le_of_ble_eq_true rfl)) ?_
  refine Rk.tr (F1 := (5, 5, _, _)) (x_aload_n rfl rfl rfl) ?_
  refine Rk.tr (F1 := (5, 8, _, _)) (m_get rfl rfl (Nat.le_of_ble_eq_true rfl)) ?_
  refine Rk.tr (F1 := (5, 13, _, _)) (x_icT rfl (tg := 13) rfl (by show S.1 9 < S.1 1; rw [hp, hn]; exact Int32.not_le.mp (nI_ge (by omega) (by omega)))) ?_
  refine Rk.tr (F1 := (5, 14, _, _)) (x_aload_n rfl rfl rfl) ?_
  refine Rk.tr (F1 := (5, 17, _, _)) (m_call (As := []) rfl rfl rfl (Or.inr rfl) rfl rfl rfl (Nat.le_of_ble_eq_true rfl) (c_next hp hn (by omega) h60) rfl) ?_
  refine Rk.tr (F1 := (5, 17, _, _)) (x_top hw) ?_
  refine Rk.tr (F1 := (5, 18, [_, _, _, _], _)) (x_istore_n (i := 1) rfl (Nat.le_of_ble_eq_true rfl)) ?_
  refine Rk.tr (F1 := (5, 19, _, _)) (x_iload_n rfl rfl) ?_
  refine Rk.tr (F1 := (5, 22, _, _)) (x_ifF rfl (tg := 27) rfl (show ¬ (6 : Int32) = 0 by decide)) ?_
  refine Rk.tr (F1 := (5, 23, _, _)) (x_iload_n rfl rfl) ?_
  refine Rk.tr (F1 := (5, 24, _, _)) (x_iconst rfl) ?_
  refine Rk.tr (F1 := (5, 96, _, _)) (x_icT rfl (tg := 96) rfl (show ¬ (6 : Int32) = 1 by decide)) ?_
  refine Rk.tr (F1 := (5, 97, _, _)) (x_iload_n rfl rfl) ?_
  refine Rk.tr (F1 := (5, 100, _, _)) (x_ifF rfl (tg := 106) rfl (show ¬ (6 : Int32) < 0 by decide)) ?_
  refine Rk.tr (F1 := (5, 101, _, _)) (x_iload_n rfl rfl) ?_
  refine Rk.tr (F1 := (5, 103, _, _)) (x_bipush rfl) ?_
  refine Rk.tr (F1 := (5, 108, _, _)) (x_icT rfl (tg := 108) rfl (show (6 : Int32) ≤ 6 by decide)) ?_
  refine Rk.tr (F1 := (5, 109, _, _)) (x_aload_n rfl rfl rfl) ?_
  refine Rk.tr (F1 := (5, 110, _, _)) (x_dup rfl rfl) ?_
  refine Rk.tr (F1 := (5, 113, _, _)) (m_get rfl rfl (Nat.le_of_ble_eq_true rfl)) ?_
  refine Rk.tr (F1 := (5, 114, _, _)) (x_iconst rfl) ?_
  refine Rk.tr (F1 := (5, 115, _, _)) (x_iadd rfl) ?_
  refine Rk.tr (F1 := (5, 118, _, _)) (m_put rfl rfl rfl rfl rfl rfl) ?_
  refine Rk.tr (F1 := (5, 119, _, _)) (x_aload_n rfl rfl rfl) ?_
  refine Rk.tr (F1 := (5, 122, _, _)) (m_get rfl rfl (Nat.le_of_ble_eq_true rfl)) ?_
  refine Rk.tr (F1 := (5, 123, _, _)) (x_aload_n rfl rfl rfl) ?_
  refine Rk.tr (F1 := (5, 126, _, _)) (m_get rfl rfl (Nat.le_of_ble_eq_true rfl)) ?_
  refine Rk.tr (F1 := (5, 127, _, _)) (x_iload_n rfl rfl) ?_
  refine Rk.tr (F1 := (5, 128, _, _)) (m_iast (k := 11) (n := q + 1) rfl rfl rfl (Nat.le_of_ble_eq_true rfl) (by show S.1 10 + 1 = nI (q + 1); rw [hq, nI_1]) (show q + 1 < 61 by omega)) ?_
  refine Rk.tr (F1 := (5, 129, _, _)) (x_aload_n rfl rfl rfl) ?_
  refine Rk.tr (F1 := (5, 132, _, _)) (m_get rfl rfl (Nat.le_of_ble_eq_true rfl)) ?_
  refine Rk.tr (F1 := (5, 133, _, _)) (x_aload_n rfl rfl rfl) ?_
  refine Rk.tr (F1 := (5, 136, _, _)) (m_get rfl rfl (Nat.le_of_ble_eq_true rfl)) ?_
  refine Rk.tr (F1 := (5, 137, _, _)) (x_iconst rfl) ?_
  refine Rk.tr (F1 := (5, 138, _, _)) (m_iast (k := 12) (n := q + 1) rfl rfl rfl (Nat.le_of_ble_eq_true rfl) (by show S.1 10 + 1 = nI (q + 1); rw [hq, nI_1]) (show q + 1 < 61 by omega)) ?_
  refine Rk.tr (F1 := (5, 139, _, _)) (x_iload_n rfl rfl) ?_
  refine Rk.tr (F1 := (5, 140, _, _)) (x_iconst rfl) ?_
  refine Rk.tr (F1 := (5, 143, _, _)) (x_icF rfl (tg := 153) rfl (show ¬ (6 : Int32) = 2 by decide)) ?_
  refine Rk.tr (F1 := (5, 144, _, _)) (x_iload_n rfl rfl) ?_
  refine Rk.tr (F1 := (5, 145, _, _)) (x_iconst rfl) ?_
  refine Rk.tr (F1 := (5, 148, _, _)) (x_icF rfl (tg := 153) rfl (show ¬ (6 : Int32) = 4 by decide)) ?_
  refine Rk.tr (F1 := (5, 149, _, _)) (x_iload_n rfl rfl) ?_
  refine Rk.tr (F1 := (5, 150, _, _)) (x_iconst rfl) ?_
  refine Rk.tr (F1 := (5, 157, _, _)) (x_icT rfl (tg := 157) rfl (show ¬ (6 : Int32) = 5 by decide)) ?_
  refine Rk.tr (F1 := (5, 158, _, _)) (x_iconst rfl) ?_
  refine Rk.tr (F1 := (5, 159, [_, _, _, _], _)) (x_istore_n (i := 2) rfl (Nat.le_of_ble_eq_true rfl)) ?_
  refine Rk.tr (F1 := (5, 160, _, _)) (x_iload_n rfl rfl) ?_
  refine Rk.tr (F1 := (5, 176, _, _)) (x_ifT rfl (tg := 176) rfl rfl) ?_
  refine Rk.tr (F1 := (5, 177, _, _)) (x_aload_n rfl rfl rfl) ?_
  refine Rk.tr (F1 := (5, 180, _, _)) (m_get rfl rfl (Nat.le_of_ble_eq_true rfl)) ?_
  refine Rk.tr (F1 := (5, 181, _, _)) (x_aload_n rfl rfl rfl) ?_
  refine Rk.tr (F1 := (5, 184, _, _)) (m_get rfl rfl (Nat.le_of_ble_eq_true rfl)) ?_
  refine Rk.tr (F1 := (5, 185, _, _)) (x_iload_n rfl rfl) ?_
  refine Rk.tr (F1 := (5, 195, _, _)) (x_ifT rfl (tg := 195) rfl rfl) ?_
  refine Rk.tr (F1 := (5, 196, _, _)) (x_iconst rfl) ?_
  refine Rk.tr (F1 := (5, 197, _, _)) (m_iast (k := 13) (n := q + 1) rfl rfl rfl (Nat.le_of_ble_eq_true rfl) (by show S.1 10 + 1 = nI (q + 1); rw [hq, nI_1]) (show q + 1 < 61 by omega)) ?_
  refine Rk.tr (F1 := (5, 198, _, _)) (x_iload_n rfl rfl) ?_
  refine Rk.tr (F1 := (5, 238, _, _)) (x_ifT rfl (tg := 238) rfl rfl) ?_
  refine Rk.tr (F1 := (5, 239, _, _)) (x_iload_n rfl rfl) ?_
  refine Rk.tr (F1 := (5, 240, _, _)) (x_iconst rfl) ?_
  refine Rk.tr (F1 := (5, 296, _, _)) (x_icT rfl (tg := 296) rfl (show ¬ (6 : Int32) = 2 by decide)) ?_
  refine Rk.tr (F1 := (5, 297, _, _)) (x_iconst rfl) ?_
  exact Rk.end rfl (Or.inr (Or.inl ⟨rfl, _, .int, rfl, rfl, rfl, rfl⟩))
theorem b_sh2 (hp : S.1 9 = nI p) (hn : S.1 1 = nI n) (h60 : n ≤ 60) (hw : S.2 2 p = 2) (h : p < n) (h1 : n ≤ p + 1) (hq : S.1 10 = nI q) (hq6 : q < 60) : Rn E (d + 1) 5 [.ref o] (mh g o S) (some (.int (-1))) (mh g o (mOpen S q 2)) := by
  refine Rn.of (Nat.le_of_ble_eq_true rfl) ?_
  refine Rk.tr (F1 := (5, 1, _, _)) (x_aload_n rfl rfl rfl) ?_
  refine Rk.tr (F1 := (5, 4, _, _)) (m_get rfl rfl (Nat.le_of_ble_eq_true rfl)) ?_
  refine Rk.tr (F1 := (5, 5, _, _)) (x_aload_n rfl rfl rfl) ?_
  refine Rk.tr (F1 := (5, 8, _, _)) (m_get rfl rfl (Nat.le_of_ble_eq_true rfl)) ?_
  refine Rk.tr (F1 := (5, 13, _, _)) (x_icT rfl (tg := 13) rfl (by show S.1 9 < S.1 1; rw [hp, hn]; exact Int32.not_le.mp (nI_ge (by omega) (by omega)))) ?_
  refine Rk.tr (F1 := (5, 14, _, _)) (x_aload_n rfl rfl rfl) ?_
  refine Rk.tr (F1 := (5, 17, _, _)) (m_call (As := []) rfl rfl rfl (Or.inr rfl) rfl rfl rfl (Nat.le_of_ble_eq_true rfl) (c_next hp hn (by omega) h60) rfl) ?_
  refine Rk.tr (F1 := (5, 17, _, _)) (x_top hw) ?_
  refine Rk.tr (F1 := (5, 18, [_, _, _, _], _)) (x_istore_n (i := 1) rfl (Nat.le_of_ble_eq_true rfl)) ?_
  refine Rk.tr (F1 := (5, 19, _, _)) (x_iload_n rfl rfl) ?_
  refine Rk.tr (F1 := (5, 22, _, _)) (x_ifF rfl (tg := 27) rfl (show ¬ (2 : Int32) = 0 by decide)) ?_
  refine Rk.tr (F1 := (5, 23, _, _)) (x_iload_n rfl rfl) ?_
  refine Rk.tr (F1 := (5, 24, _, _)) (x_iconst rfl) ?_
  refine Rk.tr (F1 := (5, 96, _, _)) (x_icT rfl (tg := 96) rfl (show ¬ (2 : Int32) = 1 by decide)) ?_
  refine Rk.tr (F1 := (5, 97, _, _)) (x_iload_n rfl rfl) ?_
  refine Rk.tr (F1 := (5, 100, _, _)) (x_ifF rfl (tg := 106) rfl (show ¬ (2 : Int32) < 0 by decide)) ?_
  refine Rk.tr (F1 := (5, 101, _, _)) (x_iload_n rfl rfl) ?_
  refine Rk.tr (F1 := (5, 103, _, _)) (x_bipush rfl) ?_
  refine Rk.tr (F1 := (5, 108, _, _)) (x_icT rfl (tg := 108) rfl (show (2 : Int32) ≤ 6 by decide)) ?_
  refine Rk.tr (F1 := (5, 109, _, _)) (x_aload_n rfl rfl rfl) ?_
  refine Rk.tr (F1 := (5, 110, _, _)) (x_dup rfl rfl) ?_
  refine Rk.tr (F1 := (5, 113, _, _)) (m_get rfl rfl (Nat.le_of_ble_eq_true rfl)) ?_
  refine Rk.tr (F1 := (5, 114, _, _)) (x_iconst rfl) ?_
  refine Rk.tr (F1 := (5, 115, _, _)) (x_iadd rfl) ?_
  refine Rk.tr (F1 := (5, 118, _, _)) (m_put rfl rfl rfl rfl rfl rfl) ?_
  refine Rk.tr (F1 := (5, 119, _, _)) (x_aload_n rfl rfl rfl) ?_
  refine Rk.tr (F1 := (5, 122, _, _)) (m_get rfl rfl (Nat.le_of_ble_eq_true rfl)) ?_
  refine Rk.tr (F1 := (5, 123, _, _)) (x_aload_n rfl rfl rfl) ?_
  refine Rk.tr (F1 := (5, 126, _, _)) (m_get rfl rfl (Nat.le_of_ble_eq_true rfl)) ?_
  refine Rk.tr (F1 := (5, 127, _, _)) (x_iload_n rfl rfl) ?_
  refine Rk.tr (F1 := (5, 128, _, _)) (m_iast (k := 11) (n := q + 1) rfl rfl rfl (Nat.le_of_ble_eq_true rfl) (by show S.1 10 + 1 = nI (q + 1); rw [hq, nI_1]) (show q + 1 < 61 by omega)) ?_
  refine Rk.tr (F1 := (5, 129, _, _)) (x_aload_n rfl rfl rfl) ?_
  refine Rk.tr (F1 := (5, 132, _, _)) (m_get rfl rfl (Nat.le_of_ble_eq_true rfl)) ?_
  refine Rk.tr (F1 := (5, 133, _, _)) (x_aload_n rfl rfl rfl) ?_
  refine Rk.tr (F1 := (5, 136, _, _)) (m_get rfl rfl (Nat.le_of_ble_eq_true rfl)) ?_
  refine Rk.tr (F1 := (5, 137, _, _)) (x_iconst rfl) ?_
  refine Rk.tr (F1 := (5, 138, _, _)) (m_iast (k := 12) (n := q + 1) rfl rfl rfl (Nat.le_of_ble_eq_true rfl) (by show S.1 10 + 1 = nI (q + 1); rw [hq, nI_1]) (show q + 1 < 61 by omega)) ?_
  refine Rk.tr (F1 := (5, 139, _, _)) (x_iload_n rfl rfl) ?_
  refine Rk.tr (F1 := (5, 140, _, _)) (x_iconst rfl) ?_
  refine Rk.tr (F1 := (5, 153, _, _)) (x_icT rfl (tg := 153) rfl rfl) ?_
  refine Rk.tr (F1 := (5, 154, _, _)) (x_iconst rfl) ?_
  refine Rk.tr (F1 := (5, 158, _, _)) (x_goto rfl rfl) ?_
  refine Rk.tr (F1 := (5, 159, [_, _, _, _], _)) (x_istore_n (i := 2) rfl (Nat.le_of_ble_eq_true rfl)) ?_
  refine Rk.tr (F1 := (5, 160, _, _)) (x_iload_n rfl rfl) ?_
  refine Rk.tr (F1 := (5, 163, _, _)) (x_ifF rfl (tg := 176) rfl (show ¬ (1 : Int32) = 0 by decide)) ?_
  refine Rk.tr (F1 := (5, 164, _, _)) (x_aload_n rfl rfl rfl) ?_
  refine Rk.tr (F1 := (5, 167, _, _)) (m_get rfl rfl (Nat.le_of_ble_eq_true rfl)) ?_
  refine Rk.tr (F1 := (5, 168, _, _)) (x_aload_n rfl rfl rfl) ?_
  refine Rk.tr (F1 := (5, 171, _, _)) (m_get rfl rfl (Nat.le_of_ble_eq_true rfl)) ?_
  refine Rk.tr (F1 := (5, 174, _, _)) (x_icF rfl (tg := 176) rfl (by show ¬ S.1 9 + 1 < S.1 1; rw [hp, hn, nI_1]; exact Int32.not_lt.mpr (nI_le (by omega) (by omega)))) ?_
  refine Rk.tr (F1 := (5, 175, _, _)) (x_iconst rfl) ?_
  exact Rk.end rfl (Or.inr (Or.inl ⟨rfl, _, .int, rfl, rfl, rfl, rfl⟩))
theorem b_lo2 (hp : S.1 9 = nI p) (hn : S.1 1 = nI n) (h60 : n ≤ 60) (hw : S.2 2 p = 2) (h : p + 1 < n) (hq : S.1 10 = nI q) (hq6 : q < 60) (hv : S.2 2 (p + 1) < 0) : Rn E (d + 1) 5 [.ref o] (mh g o S) (some (.int (-1))) (mh g o (msA (mNext (mOpen S q 2)) 13 (q + 1) (S.2 2 (p + 1)))) := by
  refine Rn.of (Nat.le_of_ble_eq_true rfl) ?_
  refine Rk.tr (F1 := (5, 1, _, _)) (x_aload_n rfl rfl rfl) ?_
  refine Rk.tr (F1 := (5, 4, _, _)) (m_get rfl rfl (Nat.le_of_ble_eq_true rfl)) ?_
  refine Rk.tr (F1 := (5, 5, _, _)) (x_aload_n rfl rfl rfl) ?_
  refine Rk.tr (F1 := (5, 8, _, _)) (m_get rfl rfl (Nat.le_of_ble_eq_true rfl)) ?_
  refine Rk.tr (F1 := (5, 13, _, _)) (x_icT rfl (tg := 13) rfl (by show S.1 9 < S.1 1; rw [hp, hn]; exact Int32.not_le.mp (nI_ge (by omega) (by omega)))) ?_
  refine Rk.tr (F1 := (5, 14, _, _)) (x_aload_n rfl rfl rfl) ?_
  refine Rk.tr (F1 := (5, 17, _, _)) (m_call (As := []) rfl rfl rfl (Or.inr rfl) rfl rfl rfl (Nat.le_of_ble_eq_true rfl) (c_next hp hn (by omega) h60) rfl) ?_
  refine Rk.tr (F1 := (5, 17, _, _)) (x_top hw) ?_
  refine Rk.tr (F1 := (5, 18, [_, _, _, _], _)) (x_istore_n (i := 1) rfl (Nat.le_of_ble_eq_true rfl)) ?_
  refine Rk.tr (F1 := (5, 19, _, _)) (x_iload_n rfl rfl) ?_
  refine Rk.tr (F1 := (5, 22, _, _)) (x_ifF rfl (tg := 27) rfl (show ¬ (2 : Int32) = 0 by decide)) ?_
  refine Rk.tr (F1 := (5, 23, _, _)) (x_iload_n rfl rfl) ?_
  refine Rk.tr (F1 := (5, 24, _, _)) (x_iconst rfl) ?_
  refine Rk.tr (F1 := (5, 96, _, _)) (x_icT rfl (tg := 96) rfl (show ¬ (2 : Int32) = 1 by decide)) ?_
  refine Rk.tr (F1 := (5, 97, _, _)) (x_iload_n rfl rfl) ?_
  refine Rk.tr (F1 := (5, 100, _, _)) (x_ifF rfl (tg := 106) rfl (show ¬ (2 : Int32) < 0 by decide)) ?_
  refine Rk.tr (F1 := (5, 101, _, _)) (x_iload_n rfl rfl) ?_
  refine Rk.tr (F1 := (5, 103, _, _)) (x_bipush rfl) ?_
  refine Rk.tr (F1 := (5, 108, _, _)) (x_icT rfl (tg := 108) rfl (show (2 : Int32) ≤ 6 by decide)) ?_
  refine Rk.tr (F1 := (5, 109, _, _)) (x_aload_n rfl rfl rfl) ?_
  refine Rk.tr (F1 := (5, 110, _, _)) (x_dup rfl rfl) ?_
  refine Rk.tr (F1 := (5, 113, _, _)) (m_get rfl rfl (Nat.le_of_ble_eq_true rfl)) ?_
  refine Rk.tr (F1 := (5, 114, _, _)) (x_iconst rfl) ?_
  refine Rk.tr (F1 := (5, 115, _, _)) (x_iadd rfl) ?_
  refine Rk.tr (F1 := (5, 118, _, _)) (m_put rfl rfl rfl rfl rfl rfl) ?_
  refine Rk.tr (F1 := (5, 119, _, _)) (x_aload_n rfl rfl rfl) ?_
  refine Rk.tr (F1 := (5, 122, _, _)) (m_get rfl rfl (Nat.le_of_ble_eq_true rfl)) ?_
  refine Rk.tr (F1 := (5, 123, _, _)) (x_aload_n rfl rfl rfl) ?_
  refine Rk.tr (F1 := (5, 126, _, _)) (m_get rfl rfl (Nat.le_of_ble_eq_true rfl)) ?_
  refine Rk.tr (F1 := (5, 127, _, _)) (x_iload_n rfl rfl) ?_
  refine Rk.tr (F1 := (5, 128, _, _)) (m_iast (k := 11) (n := q + 1) rfl rfl rfl (Nat.le_of_ble_eq_true rfl) (by show S.1 10 + 1 = nI (q + 1); rw [hq, nI_1]) (show q + 1 < 61 by omega)) ?_
  refine Rk.tr (F1 := (5, 129, _, _)) (x_aload_n rfl rfl rfl) ?_
  refine Rk.tr (F1 := (5, 132, _, _)) (m_get rfl rfl (Nat.le_of_ble_eq_true rfl)) ?_
  refine Rk.tr (F1 := (5, 133, _, _)) (x_aload_n rfl rfl rfl) ?_
  refine Rk.tr (F1 := (5, 136, _, _)) (m_get rfl rfl (Nat.le_of_ble_eq_true rfl)) ?_
  refine Rk.tr (F1 := (5, 137, _, _)) (x_iconst rfl) ?_
  refine Rk.tr (F1 := (5, 138, _, _)) (m_iast (k := 12) (n := q + 1) rfl rfl rfl (Nat.le_of_ble_eq_true rfl) (by show S.1 10 + 1 = nI (q + 1); rw [hq, nI_1]) (show q + 1 < 61 by omega)) ?_
  refine Rk.tr (F1 := (5, 139, _, _)) (x_iload_n rfl rfl) ?_
  refine Rk.tr (F1 := (5, 140, _, _)) (x_iconst rfl) ?_
  refine Rk.tr (F1 := (5, 153, _, _)) (x_icT rfl (tg := 153) rfl rfl) ?_
  refine Rk.tr (F1 := (5, 154, _, _)) (x_iconst rfl) ?_
  refine Rk.tr (F1 := (5, 158, _, _)) (x_goto rfl rfl) ?_
  refine Rk.tr (F1 := (5, 159, [_, _, _, _], _)) (x_istore_n (i := 2) rfl (Nat.le_of_ble_eq_true rfl)) ?_
  refine Rk.tr (F1 := (5, 160, _, _)) (x_iload_n rfl rfl) ?_
  refine Rk.tr (F1 := (5, 163, _, _)) (x_ifF rfl (tg := 176) rfl (show ¬ (1 : Int32) = 0 by decide)) ?_
  refine Rk.tr (F1 := (5, 164, _, _)) (x_aload_n rfl rfl rfl) ?_
  refine Rk.tr (F1 := (5, 167, _, _)) (m_get rfl rfl (Nat.le_of_ble_eq_true rfl)) ?_
  refine Rk.tr (F1 := (5, 168, _, _)) (x_aload_n rfl rfl rfl) ?_
  refine Rk.tr (F1 := (5, 171, _, _)) (m_get rfl rfl (Nat.le_of_ble_eq_true rfl)) ?_
  refine Rk.tr (F1 := (5, 176, _, _)) (x_icT rfl (tg := 176) rfl (by show S.1 9 + 1 < S.1 1; rw [hp, hn, nI_1]; exact Int32.not_le.mp (nI_ge (by omega) (by omega)))) ?_
  refine Rk.tr (F1 := (5, 177, _, _)) (x_aload_n rfl rfl rfl) ?_
  refine Rk.tr (F1 := (5, 180, _, _)) (m_get rfl rfl (Nat.le_of_ble_eq_true rfl)) ?_
  refine Rk.tr (F1 := (5, 181, _, _)) (x_aload_n rfl rfl rfl) ?_
  refine Rk.tr (F1 := (5, 184, _, _)) (m_get rfl rfl (Nat.le_of_ble_eq_true rfl)) ?_
  refine Rk.tr (F1 := (5, 185, _, _)) (x_iload_n rfl rfl) ?_
  refine Rk.tr (F1 := (5, 188, _, _)) (x_ifF rfl (tg := 195) rfl (show ¬ (1 : Int32) = 0 by decide)) ?_
  refine Rk.tr (F1 := (5, 189, _, _)) (x_aload_n rfl rfl rfl) ?_
  refine Rk.tr (F1 := (5, 192, _, _)) (m_call (As := []) rfl rfl rfl (Or.inr rfl) rfl rfl rfl (Nat.le_of_ble_eq_true rfl) (c_next (p := p + 1) (by show S.1 9 + 1 = _; rw [hp, nI_1]) hn (by omega) h60) rfl) ?_
  refine Rk.tr (F1 := (5, 196, _, _)) (x_goto rfl rfl) ?_
  refine Rk.tr (F1 := (5, 197, _, _)) (m_iast (k := 13) (n := q + 1) rfl rfl rfl (Nat.le_of_ble_eq_true rfl) (by show S.1 10 + 1 = nI (q + 1); rw [hq, nI_1]) (show q + 1 < 61 by omega)) ?_
  refine Rk.tr (F1 := (5, 198, _, _)) (x_iload_n rfl rfl) ?_
  refine Rk.tr (F1 := (5, 201, _, _)) (x_ifF rfl (tg := 238) rfl (show ¬ (1 : Int32) = 0 by decide)) ?_
  refine Rk.tr (F1 := (5, 202, _, _)) (x_aload_n rfl rfl rfl) ?_
  refine Rk.tr (F1 := (5, 205, _, _)) (m_get rfl rfl (Nat.le_of_ble_eq_true rfl)) ?_
  refine Rk.tr (F1 := (5, 206, _, _)) (x_aload_n rfl rfl rfl) ?_
  refine Rk.tr (F1 := (5, 209, _, _)) (m_get rfl rfl (Nat.le_of_ble_eq_true rfl)) ?_
  refine Rk.tr (F1 := (5, 210, _, _)) (m_iald (k := 13) (n := q + 1) rfl rfl rfl (by show S.1 10 + 1 = nI (q + 1); rw [hq, nI_1]) (show q + 1 < 61 by omega)) ?_
  refine Rk.tr (F1 := (5, 210, _, _)) (x_top msA_at) ?_
  refine Rk.tr (F1 := (5, 236, _, _)) (x_ifT rfl (tg := 236) rfl hv) ?_
  refine Rk.tr (F1 := (5, 237, _, _)) (x_iconst rfl) ?_
  exact Rk.end rfl (Or.inr (Or.inl ⟨rfl, _, .int, rfl, rfl, rfl, rfl⟩))
theorem b_hi2 (hp : S.1 9 = nI p) (hn : S.1 1 = nI n) (h60 : n ≤ 60) (hw : S.2 2 p = 2) (h : p + 1 < n) (hq : S.1 10 = nI q) (hq6 : q < 60) (hv : ¬ S.2 2 (p + 1) < 0) (hv2 : 9 < S.2 2 (p + 1)) : Rn E (d + 1) 5 [.ref o] (mh g o S) (some (.int (-1))) (mh g o (msA (mNext (mOpen S q 2)) 13 (q + 1) (S.2 2 (p + 1)))) := by
  refine Rn.of (Nat.le_of_ble_eq_true rfl) ?_
  refine Rk.tr (F1 := (5, 1, _, _)) (x_aload_n rfl rfl rfl) ?_
  refine Rk.tr (F1 := (5, 4, _, _)) (m_get rfl rfl (Nat.le_of_ble_eq_true rfl)) ?_
  refine Rk.tr (F1 := (5, 5, _, _)) (x_aload_n rfl rfl rfl) ?_
  refine Rk.tr (F1 := (5, 8, _, _)) (m_get rfl rfl (Nat.le_of_ble_eq_true rfl)) ?_
  refine Rk.tr (F1 := (5, 13, _, _)) (x_icT rfl (tg := 13) rfl (by show S.1 9 < S.1 1; rw [hp, hn]; exact Int32.not_le.mp (nI_ge (by omega) (by omega)))) ?_
  refine Rk.tr (F1 := (5, 14, _, _)) (x_aload_n rfl rfl rfl) ?_
  refine Rk.tr (F1 := (5, 17, _, _)) (m_call (As := []) rfl rfl rfl (Or.inr rfl) rfl rfl rfl (Nat.le_of_ble_eq_true rfl) (c_next hp hn (by omega) h60) rfl) ?_
  refine Rk.tr (F1 := (5, 17, _, _)) (x_top hw) ?_
  refine Rk.tr (F1 := (5, 18, [_, _, _, _], _)) (x_istore_n (i := 1) rfl (Nat.le_of_ble_eq_true rfl)) ?_
  refine Rk.tr (F1 := (5, 19, _, _)) (x_iload_n rfl rfl) ?_
  refine Rk.tr (F1 := (5, 22, _, _)) (x_ifF rfl (tg := 27) rfl (show ¬ (2 : Int32) = 0 by decide)) ?_
  refine Rk.tr (F1 := (5, 23, _, _)) (x_iload_n rfl rfl) ?_
  refine Rk.tr (F1 := (5, 24, _, _)) (x_iconst rfl) ?_
  refine Rk.tr (F1 := (5, 96, _, _)) (x_icT rfl (tg := 96) rfl (show ¬ (2 : Int32) = 1 by decide)) ?_
  refine Rk.tr (F1 := (5, 97, _, _)) (x_iload_n rfl rfl) ?_
  refine Rk.tr (F1 := (5, 100, _, _)) (x_ifF rfl (tg := 106) rfl (show ¬ (2 : Int32) < 0 by decide)) ?_
  refine Rk.tr (F1 := (5, 101, _, _)) (x_iload_n rfl rfl) ?_
  refine Rk.tr (F1 := (5, 103, _, _)) (x_bipush rfl) ?_
  refine Rk.tr (F1 := (5, 108, _, _)) (x_icT rfl (tg := 108) rfl (show (2 : Int32) ≤ 6 by decide)) ?_
  refine Rk.tr (F1 := (5, 109, _, _)) (x_aload_n rfl rfl rfl) ?_
  refine Rk.tr (F1 := (5, 110, _, _)) (x_dup rfl rfl) ?_
  refine Rk.tr (F1 := (5, 113, _, _)) (m_get rfl rfl (Nat.le_of_ble_eq_true rfl)) ?_
  refine Rk.tr (F1 := (5, 114, _, _)) (x_iconst rfl) ?_
  refine Rk.tr (F1 := (5, 115, _, _)) (x_iadd rfl) ?_
  refine Rk.tr (F1 := (5, 118, _, _)) (m_put rfl rfl rfl rfl rfl rfl) ?_
  refine Rk.tr (F1 := (5, 119, _, _)) (x_aload_n rfl rfl rfl) ?_
  refine Rk.tr (F1 := (5, 122, _, _)) (m_get rfl rfl (Nat.le_of_ble_eq_true rfl)) ?_
  refine Rk.tr (F1 := (5, 123, _, _)) (x_aload_n rfl rfl rfl) ?_
  refine Rk.tr (F1 := (5, 126, _, _)) (m_get rfl rfl (Nat.le_of_ble_eq_true rfl)) ?_
  refine Rk.tr (F1 := (5, 127, _, _)) (x_iload_n rfl rfl) ?_
  refine Rk.tr (F1 := (5, 128, _, _)) (m_iast (k := 11) (n := q + 1) rfl rfl rfl (Nat.le_of_ble_eq_true rfl) (by show S.1 10 + 1 = nI (q + 1); rw [hq, nI_1]) (show q + 1 < 61 by omega)) ?_
  refine Rk.tr (F1 := (5, 129, _, _)) (x_aload_n rfl rfl rfl) ?_
  refine Rk.tr (F1 := (5, 132, _, _)) (m_get rfl rfl (Nat.le_of_ble_eq_true rfl)) ?_
  refine Rk.tr (F1 := (5, 133, _, _)) (x_aload_n rfl rfl rfl) ?_
  refine Rk.tr (F1 := (5, 136, _, _)) (m_get rfl rfl (Nat.le_of_ble_eq_true rfl)) ?_
  refine Rk.tr (F1 := (5, 137, _, _)) (x_iconst rfl) ?_
  refine Rk.tr (F1 := (5, 138, _, _)) (m_iast (k := 12) (n := q + 1) rfl rfl rfl (Nat.le_of_ble_eq_true rfl) (by show S.1 10 + 1 = nI (q + 1); rw [hq, nI_1]) (show q + 1 < 61 by omega)) ?_
  refine Rk.tr (F1 := (5, 139, _, _)) (x_iload_n rfl rfl) ?_
  refine Rk.tr (F1 := (5, 140, _, _)) (x_iconst rfl) ?_
  refine Rk.tr (F1 := (5, 153, _, _)) (x_icT rfl (tg := 153) rfl rfl) ?_
  refine Rk.tr (F1 := (5, 154, _, _)) (x_iconst rfl) ?_
  refine Rk.tr (F1 := (5, 158, _, _)) (x_goto rfl rfl) ?_
  refine Rk.tr (F1 := (5, 159, [_, _, _, _], _)) (x_istore_n (i := 2) rfl (Nat.le_of_ble_eq_true rfl)) ?_
  refine Rk.tr (F1 := (5, 160, _, _)) (x_iload_n rfl rfl) ?_
  refine Rk.tr (F1 := (5, 163, _, _)) (x_ifF rfl (tg := 176) rfl (show ¬ (1 : Int32) = 0 by decide)) ?_
  refine Rk.tr (F1 := (5, 164, _, _)) (x_aload_n rfl rfl rfl) ?_
  refine Rk.tr (F1 := (5, 167, _, _)) (m_get rfl rfl (Nat.le_of_ble_eq_true rfl)) ?_
  refine Rk.tr (F1 := (5, 168, _, _)) (x_aload_n rfl rfl rfl) ?_
  refine Rk.tr (F1 := (5, 171, _, _)) (m_get rfl rfl (Nat.le_of_ble_eq_true rfl)) ?_
  refine Rk.tr (F1 := (5, 176, _, _)) (x_icT rfl (tg := 176) rfl (by show S.1 9 + 1 < S.1 1; rw [hp, hn, nI_1]; exact Int32.not_le.mp (nI_ge (by omega) (by omega)))) ?_
  refine Rk.tr (F1 := (5, 177, _, _)) (x_aload_n rfl rfl rfl) ?_
  refine Rk.tr (F1 := (5, 180, _, _)) (m_get rfl rfl (Nat.le_of_ble_eq_true rfl)) ?_
  refine Rk.tr (F1 := (5, 181, _, _)) (x_aload_n rfl rfl rfl) ?_
  refine Rk.tr (F1 := (5, 184, _, _)) (m_get rfl rfl (Nat.le_of_ble_eq_true rfl)) ?_
  refine Rk.tr (F1 := (5, 185, _, _)) (x_iload_n rfl rfl) ?_
  refine Rk.tr (F1 := (5, 188, _, _)) (x_ifF rfl (tg := 195) rfl (show ¬ (1 : Int32) = 0 by decide)) ?_
  refine Rk.tr (F1 := (5, 189, _, _)) (x_aload_n rfl rfl rfl) ?_
  refine Rk.tr (F1 := (5, 192, _, _)) (m_call (As := []) rfl rfl rfl (Or.inr rfl) rfl rfl rfl (Nat.le_of_ble_eq_true rfl) (c_next (p := p + 1) (by show S.1 9 + 1 = _; rw [hp, nI_1]) hn (by omega) h60) rfl) ?_
  refine Rk.tr (F1 := (5, 196, _, _)) (x_goto rfl rfl) ?_
  refine Rk.tr (F1 := (5, 197, _, _)) (m_iast (k := 13) (n := q + 1) rfl rfl rfl (Nat.le_of_ble_eq_true rfl) (by show S.1 10 + 1 = nI (q + 1); rw [hq, nI_1]) (show q + 1 < 61 by omega)) ?_
  refine Rk.tr (F1 := (5, 198, _, _)) (x_iload_n rfl rfl) ?_
  refine Rk.tr (F1 := (5, 201, _, _)) (x_ifF rfl (tg := 238) rfl (show ¬ (1 : Int32) = 0 by decide)) ?_
  refine Rk.tr (F1 := (5, 202, _, _)) (x_aload_n rfl rfl rfl) ?_
  refine Rk.tr (F1 := (5, 205, _, _)) (m_get rfl rfl (Nat.le_of_ble_eq_true rfl)) ?_
  refine Rk.tr (F1 := (5, 206, _, _)) (x_aload_n rfl rfl rfl) ?_
  refine Rk.tr (F1 := (5, 209, _, _)) (m_get rfl rfl (Nat.le_of_ble_eq_true rfl)) ?_
  refine Rk.tr (F1 := (5, 210, _, _)) (m_iald (k := 13) (n := q + 1) rfl rfl rfl (by show S.1 10 + 1 = nI (q + 1); rw [hq, nI_1]) (show q + 1 < 61 by omega)) ?_
  refine Rk.tr (F1 := (5, 210, _, _)) (x_top msA_at) ?_
  refine Rk.tr (F1 := (5, 213, _, _)) (x_ifF rfl (tg := 236) rfl hv) ?_
  refine Rk.tr (F1 := (5, 214, _, _)) (x_aload_n rfl rfl rfl) ?_
  refine Rk.tr (F1 := (5, 217, _, _)) (m_get rfl rfl (Nat.le_of_ble_eq_true rfl)) ?_
  refine Rk.tr (F1 := (5, 218, _, _)) (x_aload_n rfl rfl rfl) ?_
  refine Rk.tr (F1 := (5, 221, _, _)) (m_get rfl rfl (Nat.le_of_ble_eq_true rfl)) ?_
  refine Rk.tr (F1 := (5, 222, _, _)) (m_iald (k := 13) (n := q + 1) rfl rfl rfl (by show S.1 10 + 1 = nI (q + 1); rw [hq, nI_1]) (show q + 1 < 61 by omega)) ?_
  refine Rk.tr (F1 := (5, 222, _, _)) (x_top msA_at) ?_
  refine Rk.tr (F1 := (5, 223, _, _)) (x_iload_n rfl rfl) ?_
  refine Rk.tr (F1 := (5, 224, _, _)) (x_iconst rfl) ?_
  refine Rk.tr (F1 := (5, 231, _, _)) (x_icT rfl (tg := 231) rfl (show ¬ (2 : Int32) = 5 by decide)) ?_
  refine Rk.tr (F1 := (5, 233, _, _)) (x_bipush rfl) ?_
  refine Rk.tr (F1 := (5, 236, _, _)) (x_icF rfl (tg := 238) rfl (Int32.not_le.mpr hv2)) ?_
  refine Rk.tr (F1 := (5, 237, _, _)) (x_iconst rfl) ?_
  exact Rk.end rfl (Or.inr (Or.inl ⟨rfl, _, .int, rfl, rfl, rfl, rfl⟩))
theorem b_sh4 (hp : S.1 9 = nI p) (hn : S.1 1 = nI n) (h60 : n ≤ 60) (hw : S.2 2 p = 4) (h : p < n) (h1 : n ≤ p + 1) (hq : S.1 10 = nI q) (hq6 : q < 60) : Rn E (d + 1) 5 [.ref o] (mh g o S) (some (.int (-1))) (mh g o (mOpen S q 4)) := by
  refine Rn.of (Nat.le_of_ble_eq_true rfl) ?_
  refine Rk.tr (F1 := (5, 1, _, _)) (x_aload_n rfl rfl rfl) ?_
  refine Rk.tr (F1 := (5, 4, _, _)) (m_get rfl rfl (Nat.le_of_ble_eq_true rfl)) ?_
  refine Rk.tr (F1 := (5, 5, _, _)) (x_aload_n rfl rfl rfl) ?_
  refine Rk.tr (F1 := (5, 8, _, _)) (m_get rfl rfl (Nat.le_of_ble_eq_true rfl)) ?_
  refine Rk.tr (F1 := (5, 13, _, _)) (x_icT rfl (tg := 13) rfl (by show S.1 9 < S.1 1; rw [hp, hn]; exact Int32.not_le.mp (nI_ge (by omega) (by omega)))) ?_
  refine Rk.tr (F1 := (5, 14, _, _)) (x_aload_n rfl rfl rfl) ?_
  refine Rk.tr (F1 := (5, 17, _, _)) (m_call (As := []) rfl rfl rfl (Or.inr rfl) rfl rfl rfl (Nat.le_of_ble_eq_true rfl) (c_next hp hn (by omega) h60) rfl) ?_
  refine Rk.tr (F1 := (5, 17, _, _)) (x_top hw) ?_
  refine Rk.tr (F1 := (5, 18, [_, _, _, _], _)) (x_istore_n (i := 1) rfl (Nat.le_of_ble_eq_true rfl)) ?_
  refine Rk.tr (F1 := (5, 19, _, _)) (x_iload_n rfl rfl) ?_
  refine Rk.tr (F1 := (5, 22, _, _)) (x_ifF rfl (tg := 27) rfl (show ¬ (4 : Int32) = 0 by decide)) ?_
  refine Rk.tr (F1 := (5, 23, _, _)) (x_iload_n rfl rfl) ?_
  refine Rk.tr (F1 := (5, 24, _, _)) (x_iconst rfl) ?_
  refine Rk.tr (F1 := (5, 96, _, _)) (x_icT rfl (tg := 96) rfl (show ¬ (4 : Int32) = 1 by decide)) ?_
  refine Rk.tr (F1 := (5, 97, _, _)) (x_iload_n rfl rfl) ?_
  refine Rk.tr (F1 := (5, 100, _, _)) (x_ifF rfl (tg := 106) rfl (show ¬ (4 : Int32) < 0 by decide)) ?_
  refine Rk.tr (F1 := (5, 101, _, _)) (x_iload_n rfl rfl) ?_
  refine Rk.tr (F1 := (5, 103, _, _)) (x_bipush rfl) ?_
  refine Rk.tr (F1 := (5, 108, _, _)) (x_icT rfl (tg := 108) rfl (show (4 : Int32) ≤ 6 by decide)) ?_
  refine Rk.tr (F1 := (5, 109, _, _)) (x_aload_n rfl rfl rfl) ?_
  refine Rk.tr (F1 := (5, 110, _, _)) (x_dup rfl rfl) ?_
  refine Rk.tr (F1 := (5, 113, _, _)) (m_get rfl rfl (Nat.le_of_ble_eq_true rfl)) ?_
  refine Rk.tr (F1 := (5, 114, _, _)) (x_iconst rfl) ?_
  refine Rk.tr (F1 := (5, 115, _, _)) (x_iadd rfl) ?_
  refine Rk.tr (F1 := (5, 118, _, _)) (m_put rfl rfl rfl rfl rfl rfl) ?_
  refine Rk.tr (F1 := (5, 119, _, _)) (x_aload_n rfl rfl rfl) ?_
  refine Rk.tr (F1 := (5, 122, _, _)) (m_get rfl rfl (Nat.le_of_ble_eq_true rfl)) ?_
  refine Rk.tr (F1 := (5, 123, _, _)) (x_aload_n rfl rfl rfl) ?_
  refine Rk.tr (F1 := (5, 126, _, _)) (m_get rfl rfl (Nat.le_of_ble_eq_true rfl)) ?_
  refine Rk.tr (F1 := (5, 127, _, _)) (x_iload_n rfl rfl) ?_
  refine Rk.tr (F1 := (5, 128, _, _)) (m_iast (k := 11) (n := q + 1) rfl rfl rfl (Nat.le_of_ble_eq_true rfl) (by show S.1 10 + 1 = nI (q + 1); rw [hq, nI_1]) (show q + 1 < 61 by omega)) ?_
  refine Rk.tr (F1 := (5, 129, _, _)) (x_aload_n rfl rfl rfl) ?_
  refine Rk.tr (F1 := (5, 132, _, _)) (m_get rfl rfl (Nat.le_of_ble_eq_true rfl)) ?_
  refine Rk.tr (F1 := (5, 133, _, _)) (x_aload_n rfl rfl rfl) ?_
  refine Rk.tr (F1 := (5, 136, _, _)) (m_get rfl rfl (Nat.le_of_ble_eq_true rfl)) ?_
  refine Rk.tr (F1 := (5, 137, _, _)) (x_iconst rfl) ?_
  refine Rk.tr (F1 := (5, 138, _, _)) (m_iast (k := 12) (n := q + 1) rfl rfl rfl (Nat.le_of_ble_eq_true rfl) (by show S.1 10 + 1 = nI (q + 1); rw [hq, nI_1]) (show q + 1 < 61 by omega)) ?_
  refine Rk.tr (F1 := (5, 139, _, _)) (x_iload_n rfl rfl) ?_
  refine Rk.tr (F1 := (5, 140, _, _)) (x_iconst rfl) ?_
  refine Rk.tr (F1 := (5, 143, _, _)) (x_icF rfl (tg := 153) rfl (show ¬ (4 : Int32) = 2 by decide)) ?_
  refine Rk.tr (F1 := (5, 144, _, _)) (x_iload_n rfl rfl) ?_
  refine Rk.tr (F1 := (5, 145, _, _)) (x_iconst rfl) ?_
  refine Rk.tr (F1 := (5, 153, _, _)) (x_icT rfl (tg := 153) rfl rfl) ?_
  refine Rk.tr (F1 := (5, 154, _, _)) (x_iconst rfl) ?_
  refine Rk.tr (F1 := (5, 158, _, _)) (x_goto rfl rfl) ?_
  refine Rk.tr (F1 := (5, 159, [_, _, _, _], _)) (x_istore_n (i := 2) rfl (Nat.le_of_ble_eq_true rfl)) ?_
  refine Rk.tr (F1 := (5, 160, _, _)) (x_iload_n rfl rfl) ?_
  refine Rk.tr (F1 := (5, 163, _, _)) (x_ifF rfl (tg := 176) rfl (show ¬ (1 : Int32) = 0 by decide)) ?_
  refine Rk.tr (F1 := (5, 164, _, _)) (x_aload_n rfl rfl rfl) ?_
  refine Rk.tr (F1 := (5, 167, _, _)) (m_get rfl rfl (Nat.le_of_ble_eq_true rfl)) ?_
  refine Rk.tr (F1 := (5, 168, _, _)) (x_aload_n rfl rfl rfl) ?_
  refine Rk.tr (F1 := (5, 171, _, _)) (m_get rfl rfl (Nat.le_of_ble_eq_true rfl)) ?_
  refine Rk.tr (F1 := (5, 174, _, _)) (x_icF rfl (tg := 176) rfl (by show ¬ S.1 9 + 1 < S.1 1; rw [hp, hn, nI_1]; exact Int32.not_lt.mpr (nI_le (by omega) (by omega)))) ?_
  refine Rk.tr (F1 := (5, 175, _, _)) (x_iconst rfl) ?_
  exact Rk.end rfl (Or.inr (Or.inl ⟨rfl, _, .int, rfl, rfl, rfl, rfl⟩))
theorem b_lo4 (hp : S.1 9 = nI p) (hn : S.1 1 = nI n) (h60 : n ≤ 60) (hw : S.2 2 p = 4) (h : p + 1 < n) (hq : S.1 10 = nI q) (hq6 : q < 60) (hv : S.2 2 (p + 1) < 0) : Rn E (d + 1) 5 [.ref o] (mh g o S) (some (.int (-1))) (mh g o (msA (mNext (mOpen S q 4)) 13 (q + 1) (S.2 2 (p + 1)))) := by
  refine Rn.of (Nat.le_of_ble_eq_true rfl) ?_
  refine Rk.tr (F1 := (5, 1, _, _)) (x_aload_n rfl rfl rfl) ?_
  refine Rk.tr (F1 := (5, 4, _, _)) (m_get rfl rfl (Nat.le_of_ble_eq_true rfl)) ?_
  refine Rk.tr (F1 := (5, 5, _, _)) (x_aload_n rfl rfl rfl) ?_
  refine Rk.tr (F1 := (5, 8, _, _)) (m_get rfl rfl (Nat.le_of_ble_eq_true rfl)) ?_
  refine Rk.tr (F1 := (5, 13, _, _)) (x_icT rfl (tg := 13) rfl (by show S.1 9 < S.1 1; rw [hp, hn]; exact Int32.not_le.mp (nI_ge (by omega) (by omega)))) ?_
  refine Rk.tr (F1 := (5, 14, _, _)) (x_aload_n rfl rfl rfl) ?_
  refine Rk.tr (F1 := (5, 17, _, _)) (m_call (As := []) rfl rfl rfl (Or.inr rfl) rfl rfl rfl (Nat.le_of_ble_eq_true rfl) (c_next hp hn (by omega) h60) rfl) ?_
  refine Rk.tr (F1 := (5, 17, _, _)) (x_top hw) ?_
  refine Rk.tr (F1 := (5, 18, [_, _, _, _], _)) (x_istore_n (i := 1) rfl (Nat.le_of_ble_eq_true rfl)) ?_
  refine Rk.tr (F1 := (5, 19, _, _)) (x_iload_n rfl rfl) ?_
  refine Rk.tr (F1 := (5, 22, _, _)) (x_ifF rfl (tg := 27) rfl (show ¬ (4 : Int32) = 0 by decide)) ?_
  refine Rk.tr (F1 := (5, 23, _, _)) (x_iload_n rfl rfl) ?_
  refine Rk.tr (F1 := (5, 24, _, _)) (x_iconst rfl) ?_
  refine Rk.tr (F1 := (5, 96, _, _)) (x_icT rfl (tg := 96) rfl (show ¬ (4 : Int32) = 1 by decide)) ?_
  refine Rk.tr (F1 := (5, 97, _, _)) (x_iload_n rfl rfl) ?_
  refine Rk.tr (F1 := (5, 100, _, _)) (x_ifF rfl (tg := 106) rfl (show ¬ (4 : Int32) < 0 by decide)) ?_
  refine Rk.tr (F1 := (5, 101, _, _)) (x_iload_n rfl rfl) ?_
  refine Rk.tr (F1 := (5, 103, _, _)) (x_bipush rfl) ?_
  refine Rk.tr (F1 := (5, 108, _, _)) (x_icT rfl (tg := 108) rfl (show (4 : Int32) ≤ 6 by decide)) ?_
  refine Rk.tr (F1 := (5, 109, _, _)) (x_aload_n rfl rfl rfl) ?_
  refine Rk.tr (F1 := (5, 110, _, _)) (x_dup rfl rfl) ?_
  refine Rk.tr (F1 := (5, 113, _, _)) (m_get rfl rfl (Nat.le_of_ble_eq_true rfl)) ?_
  refine Rk.tr (F1 := (5, 114, _, _)) (x_iconst rfl) ?_
  refine Rk.tr (F1 := (5, 115, _, _)) (x_iadd rfl) ?_
  refine Rk.tr (F1 := (5, 118, _, _)) (m_put rfl rfl rfl rfl rfl rfl) ?_
  refine Rk.tr (F1 := (5, 119, _, _)) (x_aload_n rfl rfl rfl) ?_
  refine Rk.tr (F1 := (5, 122, _, _)) (m_get rfl rfl (Nat.le_of_ble_eq_true rfl)) ?_
  refine Rk.tr (F1 := (5, 123, _, _)) (x_aload_n rfl rfl rfl) ?_
  refine Rk.tr (F1 := (5, 126, _, _)) (m_get rfl rfl (Nat.le_of_ble_eq_true rfl)) ?_
  refine Rk.tr (F1 := (5, 127, _, _)) (x_iload_n rfl rfl) ?_
  refine Rk.tr (F1 := (5, 128, _, _)) (m_iast (k := 11) (n := q + 1) rfl rfl rfl (Nat.le_of_ble_eq_true rfl) (by show S.1 10 + 1 = nI (q + 1); rw [hq, nI_1]) (show q + 1 < 61 by omega)) ?_
  refine Rk.tr (F1 := (5, 129, _, _)) (x_aload_n rfl rfl rfl) ?_
  refine Rk.tr (F1 := (5, 132, _, _)) (m_get rfl rfl (Nat.le_of_ble_eq_true rfl)) ?_
  refine Rk.tr (F1 := (5, 133, _, _)) (x_aload_n rfl rfl rfl) ?_
  refine Rk.tr (F1 := (5, 136, _, _)) (m_get rfl rfl (Nat.le_of_ble_eq_true rfl)) ?_
  refine Rk.tr (F1 := (5, 137, _, _)) (x_iconst rfl) ?_
  refine Rk.tr (F1 := (5, 138, _, _)) (m_iast (k := 12) (n := q + 1) rfl rfl rfl (Nat.le_of_ble_eq_true rfl) (by show S.1 10 + 1 = nI (q + 1); rw [hq, nI_1]) (show q + 1 < 61 by omega)) ?_
  refine Rk.tr (F1 := (5, 139, _, _)) (x_iload_n rfl rfl) ?_
  refine Rk.tr (F1 := (5, 140, _, _)) (x_iconst rfl) ?_
  refine Rk.tr (F1 := (5, 143, _, _)) (x_icF rfl (tg := 153) rfl (show ¬ (4 : Int32) = 2 by decide)) ?_
  refine Rk.tr (F1 := (5, 144, _, _)) (x_iload_n rfl rfl) ?_
  refine Rk.tr (F1 := (5, 145, _, _)) (x_iconst rfl) ?_
  refine Rk.tr (F1 := (5, 153, _, _)) (x_icT rfl (tg := 153) rfl rfl) ?_
  refine Rk.tr (F1 := (5, 154, _, _)) (x_iconst rfl) ?_
  refine Rk.tr (F1 := (5, 158, _, _)) (x_goto rfl rfl) ?_
  refine Rk.tr (F1 := (5, 159, [_, _, _, _], _)) (x_istore_n (i := 2) rfl (Nat.le_of_ble_eq_true rfl)) ?_
  refine Rk.tr (F1 := (5, 160, _, _)) (x_iload_n rfl rfl) ?_
  refine Rk.tr (F1 := (5, 163, _, _)) (x_ifF rfl (tg := 176) rfl (show ¬ (1 : Int32) = 0 by decide)) ?_
  refine Rk.tr (F1 := (5, 164, _, _)) (x_aload_n rfl rfl rfl) ?_
  refine Rk.tr (F1 := (5, 167, _, _)) (m_get rfl rfl (Nat.le_of_ble_eq_true rfl)) ?_
  refine Rk.tr (F1 := (5, 168, _, _)) (x_aload_n rfl rfl rfl) ?_
  refine Rk.tr (F1 := (5, 171, _, _)) (m_get rfl rfl (Nat.le_of_ble_eq_true rfl)) ?_
  refine Rk.tr (F1 := (5, 176, _, _)) (x_icT rfl (tg := 176) rfl (by show S.1 9 + 1 < S.1 1; rw [hp, hn, nI_1]; exact Int32.not_le.mp (nI_ge (by omega) (by omega)))) ?_
  refine Rk.tr (F1 := (5, 177, _, _)) (x_aload_n rfl rfl rfl) ?_
  refine Rk.tr (F1 := (5, 180, _, _)) (m_get rfl rfl (Nat.le_of_ble_eq_true rfl)) ?_
  refine Rk.tr (F1 := (5, 181, _, _)) (x_aload_n rfl rfl rfl) ?_
  refine Rk.tr (F1 := (5, 184, _, _)) (m_get rfl rfl (Nat.le_of_ble_eq_true rfl)) ?_
  refine Rk.tr (F1 := (5, 185, _, _)) (x_iload_n rfl rfl) ?_
  refine Rk.tr (F1 := (5, 188, _, _)) (x_ifF rfl (tg := 195) rfl (show ¬ (1 : Int32) = 0 by decide)) ?_
  refine Rk.tr (F1 := (5, 189, _, _)) (x_aload_n rfl rfl rfl) ?_
  refine Rk.tr (F1 := (5, 192, _, _)) (m_call (As := []) rfl rfl rfl (Or.inr rfl) rfl rfl rfl (Nat.le_of_ble_eq_true rfl) (c_next (p := p + 1) (by show S.1 9 + 1 = _; rw [hp, nI_1]) hn (by omega) h60) rfl) ?_
  refine Rk.tr (F1 := (5, 196, _, _)) (x_goto rfl rfl) ?_
  refine Rk.tr (F1 := (5, 197, _, _)) (m_iast (k := 13) (n := q + 1) rfl rfl rfl (Nat.le_of_ble_eq_true rfl) (by show S.1 10 + 1 = nI (q + 1); rw [hq, nI_1]) (show q + 1 < 61 by omega)) ?_
  refine Rk.tr (F1 := (5, 198, _, _)) (x_iload_n rfl rfl) ?_
  refine Rk.tr (F1 := (5, 201, _, _)) (x_ifF rfl (tg := 238) rfl (show ¬ (1 : Int32) = 0 by decide)) ?_
  refine Rk.tr (F1 := (5, 202, _, _)) (x_aload_n rfl rfl rfl) ?_
  refine Rk.tr (F1 := (5, 205, _, _)) (m_get rfl rfl (Nat.le_of_ble_eq_true rfl)) ?_
  refine Rk.tr (F1 := (5, 206, _, _)) (x_aload_n rfl rfl rfl) ?_
  refine Rk.tr (F1 := (5, 209, _, _)) (m_get rfl rfl (Nat.le_of_ble_eq_true rfl)) ?_
  refine Rk.tr (F1 := (5, 210, _, _)) (m_iald (k := 13) (n := q + 1) rfl rfl rfl (by show S.1 10 + 1 = nI (q + 1); rw [hq, nI_1]) (show q + 1 < 61 by omega)) ?_
  refine Rk.tr (F1 := (5, 210, _, _)) (x_top msA_at) ?_
  refine Rk.tr (F1 := (5, 236, _, _)) (x_ifT rfl (tg := 236) rfl hv) ?_
  refine Rk.tr (F1 := (5, 237, _, _)) (x_iconst rfl) ?_
  exact Rk.end rfl (Or.inr (Or.inl ⟨rfl, _, .int, rfl, rfl, rfl, rfl⟩))
theorem b_hi4 (hp : S.1 9 = nI p) (hn : S.1 1 = nI n) (h60 : n ≤ 60) (hw : S.2 2 p = 4) (h : p + 1 < n) (hq : S.1 10 = nI q) (hq6 : q < 60) (hv : ¬ S.2 2 (p + 1) < 0) (hv2 : 9 < S.2 2 (p + 1)) : Rn E (d + 1) 5 [.ref o] (mh g o S) (some (.int (-1))) (mh g o (msA (mNext (mOpen S q 4)) 13 (q + 1) (S.2 2 (p + 1)))) := by
  refine Rn.of (Nat.le_of_ble_eq_true rfl) ?_
  refine Rk.tr (F1 := (5, 1, _, _)) (x_aload_n rfl rfl rfl) ?_
  refine Rk.tr (F1 := (5, 4, _, _)) (m_get rfl rfl (Nat.le_of_ble_eq_true rfl)) ?_
  refine Rk.tr (F1 := (5, 5, _, _)) (x_aload_n rfl rfl rfl) ?_
  refine Rk.tr (F1 := (5, 8, _, _)) (m_get rfl rfl (Nat.le_of_ble_eq_true rfl)) ?_
  refine Rk.tr (F1 := (5, 13, _, _)) (x_icT rfl (tg := 13) rfl (by show S.1 9 < S.1 1; rw [hp, hn]; exact Int32.not_le.mp (nI_ge (by omega) (by omega)))) ?_
  refine Rk.tr (F1 := (5, 14, _, _)) (x_aload_n rfl rfl rfl) ?_
  refine Rk.tr (F1 := (5, 17, _, _)) (m_call (As := []) rfl rfl rfl (Or.inr rfl) rfl rfl rfl (Nat.le_of_ble_eq_true rfl) (c_next hp hn (by omega) h60) rfl) ?_
  refine Rk.tr (F1 := (5, 17, _, _)) (x_top hw) ?_
  refine Rk.tr (F1 := (5, 18, [_, _, _, _], _)) (x_istore_n (i := 1) rfl (Nat.le_of_ble_eq_true rfl)) ?_
  refine Rk.tr (F1 := (5, 19, _, _)) (x_iload_n rfl rfl) ?_
  refine Rk.tr (F1 := (5, 22, _, _)) (x_ifF rfl (tg := 27) rfl (show ¬ (4 : Int32) = 0 by decide)) ?_
  refine Rk.tr (F1 := (5, 23, _, _)) (x_iload_n rfl rfl) ?_
  refine Rk.tr (F1 := (5, 24, _, _)) (x_iconst rfl) ?_
  refine Rk.tr (F1 := (5, 96, _, _)) (x_icT rfl (tg := 96) rfl (show ¬ (4 : Int32) = 1 by decide)) ?_
  refine Rk.tr (F1 := (5, 97, _, _)) (x_iload_n rfl rfl) ?_
  refine Rk.tr (F1 := (5, 100, _, _)) (x_ifF rfl (tg := 106) rfl (show ¬ (4 : Int32) < 0 by decide)) ?_
  refine Rk.tr (F1 := (5, 101, _, _)) (x_iload_n rfl rfl) ?_
  refine Rk.tr (F1 := (5, 103, _, _)) (x_bipush rfl) ?_
  refine Rk.tr (F1 := (5, 108, _, _)) (x_icT rfl (tg := 108) rfl (show (4 : Int32) ≤ 6 by decide)) ?_
  refine Rk.tr (F1 := (5, 109, _, _)) (x_aload_n rfl rfl rfl) ?_
  refine Rk.tr (F1 := (5, 110, _, _)) (x_dup rfl rfl) ?_
  refine Rk.tr (F1 := (5, 113, _, _)) (m_get rfl rfl (Nat.le_of_ble_eq_true rfl)) ?_
  refine Rk.tr (F1 := (5, 114, _, _)) (x_iconst rfl) ?_
  refine Rk.tr (F1 := (5, 115, _, _)) (x_iadd rfl) ?_
  refine Rk.tr (F1 := (5, 118, _, _)) (m_put rfl rfl rfl rfl rfl rfl) ?_
  refine Rk.tr (F1 := (5, 119, _, _)) (x_aload_n rfl rfl rfl) ?_
  refine Rk.tr (F1 := (5, 122, _, _)) (m_get rfl rfl (Nat.le_of_ble_eq_true rfl)) ?_
  refine Rk.tr (F1 := (5, 123, _, _)) (x_aload_n rfl rfl rfl) ?_
  refine Rk.tr (F1 := (5, 126, _, _)) (m_get rfl rfl (Nat.le_of_ble_eq_true rfl)) ?_
  refine Rk.tr (F1 := (5, 127, _, _)) (x_iload_n rfl rfl) ?_
  refine Rk.tr (F1 := (5, 128, _, _)) (m_iast (k := 11) (n := q + 1) rfl rfl rfl (Nat.le_of_ble_eq_true rfl) (by show S.1 10 + 1 = nI (q + 1); rw [hq, nI_1]) (show q + 1 < 61 by omega)) ?_
  refine Rk.tr (F1 := (5, 129, _, _)) (x_aload_n rfl rfl rfl) ?_
  refine Rk.tr (F1 := (5, 132, _, _)) (m_get rfl rfl (Nat.le_of_ble_eq_true rfl)) ?_
  refine Rk.tr (F1 := (5, 133, _, _)) (x_aload_n rfl rfl rfl) ?_
  refine Rk.tr (F1 := (5, 136, _, _)) (m_get rfl rfl (Nat.le_of_ble_eq_true rfl)) ?_
  refine Rk.tr (F1 := (5, 137, _, _)) (x_iconst rfl) ?_
  refine Rk.tr (F1 := (5, 138, _, _)) (m_iast (k := 12) (n := q + 1) rfl rfl rfl (Nat.le_of_ble_eq_true rfl) (by show S.1 10 + 1 = nI (q + 1); rw [hq, nI_1]) (show q + 1 < 61 by omega)) ?_
  refine Rk.tr (F1 := (5, 139, _, _)) (x_iload_n rfl rfl) ?_
  refine Rk.tr (F1 := (5, 140, _, _)) (x_iconst rfl) ?_
  refine Rk.tr (F1 := (5, 143, _, _)) (x_icF rfl (tg := 153) rfl (show ¬ (4 : Int32) = 2 by decide)) ?_
  refine Rk.tr (F1 := (5, 144, _, _)) (x_iload_n rfl rfl) ?_
  refine Rk.tr (F1 := (5, 145, _, _)) (x_iconst rfl) ?_
  refine Rk.tr (F1 := (5, 153, _, _)) (x_icT rfl (tg := 153) rfl rfl) ?_
  refine Rk.tr (F1 := (5, 154, _, _)) (x_iconst rfl) ?_
  refine Rk.tr (F1 := (5, 158, _, _)) (x_goto rfl rfl) ?_
  refine Rk.tr (F1 := (5, 159, [_, _, _, _], _)) (x_istore_n (i := 2) rfl (Nat.le_of_ble_eq_true rfl)) ?_
  refine Rk.tr (F1 := (5, 160, _, _)) (x_iload_n rfl rfl) ?_
  refine Rk.tr (F1 := (5, 163, _, _)) (x_ifF rfl (tg := 176) rfl (show ¬ (1 : Int32) = 0 by decide)) ?_
  refine Rk.tr (F1 := (5, 164, _, _)) (x_aload_n rfl rfl rfl) ?_
  refine Rk.tr (F1 := (5, 167, _, _)) (m_get rfl rfl (Nat.le_of_ble_eq_true rfl)) ?_
  refine Rk.tr (F1 := (5, 168, _, _)) (x_aload_n rfl rfl rfl) ?_
  refine Rk.tr (F1 := (5, 171, _, _)) (m_get rfl rfl (Nat.le_of_ble_eq_true rfl)) ?_
  refine Rk.tr (F1 := (5, 176, _, _)) (x_icT rfl (tg := 176) rfl (by show S.1 9 + 1 < S.1 1; rw [hp, hn, nI_1]; exact Int32.not_le.mp (nI_ge (by omega) (by omega)))) ?_
  refine Rk.tr (F1 := (5, 177, _, _)) (x_aload_n rfl rfl rfl) ?_
  refine Rk.tr (F1 := (5, 180, _, _)) (m_get rfl rfl (Nat.le_of_ble_eq_true rfl)) ?_
  refine Rk.tr (F1 := (5, 181, _, _)) (x_aload_n rfl rfl rfl) ?_
  refine Rk.tr (F1 := (5, 184, _, _)) (m_get rfl rfl (Nat.le_of_ble_eq_true rfl)) ?_
  refine Rk.tr (F1 := (5, 185, _, _)) (x_iload_n rfl rfl) ?_
  refine Rk.tr (F1 := (5, 188, _, _)) (x_ifF rfl (tg := 195) rfl (show ¬ (1 : Int32) = 0 by decide)) ?_
  refine Rk.tr (F1 := (5, 189, _, _)) (x_aload_n rfl rfl rfl) ?_
  refine Rk.tr (F1 := (5, 192, _, _)) (m_call (As := []) rfl rfl rfl (Or.inr rfl) rfl rfl rfl (Nat.le_of_ble_eq_true rfl) (c_next (p := p + 1) (by show S.1 9 + 1 = _; rw [hp, nI_1]) hn (by omega) h60) rfl) ?_
  refine Rk.tr (F1 := (5, 196, _, _)) (x_goto rfl rfl) ?_
  refine Rk.tr (F1 := (5, 197, _, _)) (m_iast (k := 13) (n := q + 1) rfl rfl rfl (Nat.le_of_ble_eq_true rfl) (by show S.1 10 + 1 = nI (q + 1); rw [hq, nI_1]) (show q + 1 < 61 by omega)) ?_
  refine Rk.tr (F1 := (5, 198, _, _)) (x_iload_n rfl rfl) ?_
  refine Rk.tr (F1 := (5, 201, _, _)) (x_ifF rfl (tg := 238) rfl (show ¬ (1 : Int32) = 0 by decide)) ?_
  refine Rk.tr (F1 := (5, 202, _, _)) (x_aload_n rfl rfl rfl) ?_
  refine Rk.tr (F1 := (5, 205, _, _)) (m_get rfl rfl (Nat.le_of_ble_eq_true rfl)) ?_
  refine Rk.tr (F1 := (5, 206, _, _)) (x_aload_n rfl rfl rfl) ?_
  refine Rk.tr (F1 := (5, 209, _, _)) (m_get rfl rfl (Nat.le_of_ble_eq_true rfl)) ?_
  refine Rk.tr (F1 := (5, 210, _, _)) (m_iald (k := 13) (n := q + 1) rfl rfl rfl (by show S.1 10 + 1 = nI (q + 1); rw [hq, nI_1]) (show q + 1 < 61 by omega)) ?_
  refine Rk.tr (F1 := (5, 210, _, _)) (x_top msA_at) ?_
  refine Rk.tr (F1 := (5, 213, _, _)) (x_ifF rfl (tg := 236) rfl hv) ?_
  refine Rk.tr (F1 := (5, 214, _, _)) (x_aload_n rfl rfl rfl) ?_
  refine Rk.tr (F1 := (5, 217, _, _)) (m_get rfl rfl (Nat.le_of_ble_eq_true rfl)) ?_
  refine Rk.tr (F1 := (5, 218, _, _)) (x_aload_n rfl rfl rfl) ?_
  refine Rk.tr (F1 := (5, 221, _, _)) (m_get rfl rfl (Nat.le_of_ble_eq_true rfl)) ?_
  refine Rk.tr (F1 := (5, 222, _, _)) (m_iald (k := 13) (n := q + 1) rfl rfl rfl (by show S.1 10 + 1 = nI (q + 1); rw [hq, nI_1]) (show q + 1 < 61 by omega)) ?_
  refine Rk.tr (F1 := (5, 222, _, _)) (x_top msA_at) ?_
  refine Rk.tr (F1 := (5, 223, _, _)) (x_iload_n rfl rfl) ?_
  refine Rk.tr (F1 := (5, 224, _, _)) (x_iconst rfl) ?_
  refine Rk.tr (F1 := (5, 231, _, _)) (x_icT rfl (tg := 231) rfl (show ¬ (4 : Int32) = 5 by decide)) ?_
  refine Rk.tr (F1 := (5, 233, _, _)) (x_bipush rfl) ?_
  refine Rk.tr (F1 := (5, 236, _, _)) (x_icF rfl (tg := 238) rfl (Int32.not_le.mpr hv2)) ?_
  refine Rk.tr (F1 := (5, 237, _, _)) (x_iconst rfl) ?_
  exact Rk.end rfl (Or.inr (Or.inl ⟨rfl, _, .int, rfl, rfl, rfl, rfl⟩))
theorem b_op4 (hp : S.1 9 = nI p) (hn : S.1 1 = nI n) (h60 : n ≤ 60) (hw : S.2 2 p = 4) (h : p + 1 < n) (hq : S.1 10 = nI q) (hq6 : q < 60) (hv : ¬ S.2 2 (p + 1) < 0) (hv2 : S.2 2 (p + 1) ≤ 9) : Rn E (d + 1) 5 [.ref o] (mh g o S) (some (.int (0))) (mh g o (msA (mNext (mOpen S q 4)) 13 (q + 1) (S.2 2 (p + 1)))) := by
  refine Rn.of (Nat.le_of_ble_eq_true rfl) ?_
  refine Rk.tr (F1 := (5, 1, _, _)) (x_aload_n rfl rfl rfl) ?_
  refine Rk.tr (F1 := (5, 4, _, _)) (m_get rfl rfl (Nat.le_of_ble_eq_true rfl)) ?_
  refine Rk.tr (F1 := (5, 5, _, _)) (x_aload_n rfl rfl rfl) ?_
  refine Rk.tr (F1 := (5, 8, _, _)) (m_get rfl rfl (Nat.le_of_ble_eq_true rfl)) ?_
  refine Rk.tr (F1 := (5, 13, _, _)) (x_icT rfl (tg := 13) rfl (by show S.1 9 < S.1 1; rw [hp, hn]; exact Int32.not_le.mp (nI_ge (by omega) (by omega)))) ?_
  refine Rk.tr (F1 := (5, 14, _, _)) (x_aload_n rfl rfl rfl) ?_
  refine Rk.tr (F1 := (5, 17, _, _)) (m_call (As := []) rfl rfl rfl (Or.inr rfl) rfl rfl rfl (Nat.le_of_ble_eq_true rfl) (c_next hp hn (by omega) h60) rfl) ?_
  refine Rk.tr (F1 := (5, 17, _, _)) (x_top hw) ?_
  refine Rk.tr (F1 := (5, 18, [_, _, _, _], _)) (x_istore_n (i := 1) rfl (Nat.le_of_ble_eq_true rfl)) ?_
  refine Rk.tr (F1 := (5, 19, _, _)) (x_iload_n rfl rfl) ?_
  refine Rk.tr (F1 := (5, 22, _, _)) (x_ifF rfl (tg := 27) rfl (show ¬ (4 : Int32) = 0 by decide)) ?_
  refine Rk.tr (F1 := (5, 23, _, _)) (x_iload_n rfl rfl) ?_
  refine Rk.tr (F1 := (5, 24, _, _)) (x_iconst rfl) ?_
  refine Rk.tr (F1 := (5, 96, _, _)) (x_icT rfl (tg := 96) rfl (show ¬ (4 : Int32) = 1 by decide)) ?_
  refine Rk.tr (F1 := (5, 97, _, _)) (x_iload_n rfl rfl) ?_
  refine Rk.tr (F1 := (5, 100, _, _)) (x_ifF rfl (tg := 106) rfl (show ¬ (4 : Int32) < 0 by decide)) ?_
  refine Rk.tr (F1 := (5, 101, _, _)) (x_iload_n rfl rfl) ?_
  refine Rk.tr (F1 := (5, 103, _, _)) (x_bipush rfl) ?_
  refine Rk.tr (F1 := (5, 108, _, _)) (x_icT rfl (tg := 108) rfl (show (4 : Int32) ≤ 6 by decide)) ?_
  refine Rk.tr (F1 := (5, 109, _, _)) (x_aload_n rfl rfl rfl) ?_
  refine Rk.tr (F1 := (5, 110, _, _)) (x_dup rfl rfl) ?_
  refine Rk.tr (F1 := (5, 113, _, _)) (m_get rfl rfl (Nat.le_of_ble_eq_true rfl)) ?_
  refine Rk.tr (F1 := (5, 114, _, _)) (x_iconst rfl) ?_
  refine Rk.tr (F1 := (5, 115, _, _)) (x_iadd rfl) ?_
  refine Rk.tr (F1 := (5, 118, _, _)) (m_put rfl rfl rfl rfl rfl rfl) ?_
  refine Rk.tr (F1 := (5, 119, _, _)) (x_aload_n rfl rfl rfl) ?_
  refine Rk.tr (F1 := (5, 122, _, _)) (m_get rfl rfl (Nat.le_of_ble_eq_true rfl)) ?_
  refine Rk.tr (F1 := (5, 123, _, _)) (x_aload_n rfl rfl rfl) ?_
  refine Rk.tr (F1 := (5, 126, _, _)) (m_get rfl rfl (Nat.le_of_ble_eq_true rfl)) ?_
  refine Rk.tr (F1 := (5, 127, _, _)) (x_iload_n rfl rfl) ?_
  refine Rk.tr (F1 := (5, 128, _, _)) (m_iast (k := 11) (n := q + 1) rfl rfl rfl (Nat.le_of_ble_eq_true rfl) (by show S.1 10 + 1 = nI (q + 1); rw [hq, nI_1]) (show q + 1 < 61 by omega)) ?_
  refine Rk.tr (F1 := (5, 129, _, _)) (x_aload_n rfl rfl rfl) ?_
  refine Rk.tr (F1 := (5, 132, _, _)) (m_get rfl rfl (Nat.le_of_ble_eq_true rfl)) ?_
  refine Rk.tr (F1 := (5, 133, _, _)) (x_aload_n rfl rfl rfl) ?_
  refine Rk.tr (F1 := (5, 136, _, _)) (m_get rfl rfl (Nat.le_of_ble_eq_true rfl)) ?_
  refine Rk.tr (F1 := (5, 137, _, _)) (x_iconst rfl) ?_
  refine Rk.tr (F1 := (5, 138, _, _)) (m_iast (k := 12) (n := q + 1) rfl rfl rfl (Nat.le_of_ble_eq_true rfl) (by show S.1 10 + 1 = nI (q + 1); rw [hq, nI_1]) (show q + 1 < 61 by omega)) ?_
  refine Rk.tr (F1 := (5, 139, _, _)) (x_iload_n rfl rfl) ?_
  refine Rk.tr (F1 := (5, 140, _, _)) (x_iconst rfl) ?_
  refine Rk.tr (F1 := (5, 143, _, _)) (x_icF rfl (tg := 153) rfl (show ¬ (4 : Int32) = 2 by decide)) ?_
  refine Rk.tr (F1 := (5, 144, _, _)) (x_iload_n rfl rfl) ?_
  refine Rk.tr (F1 := (5, 145, _, _)) (x_iconst rfl) ?_
  refine Rk.tr (F1 := (5, 153, _, _)) (x_icT rfl (tg := 153) rfl rfl) ?_
  refine Rk.tr (F1 := (5, 154, _, _)) (x_iconst rfl) ?_
  refine Rk.tr (F1 := (5, 158, _, _)) (x_goto rfl rfl) ?_
  refine Rk.tr (F1 := (5, 159, [_, _, _, _], _)) (x_istore_n (i := 2) rfl (Nat.le_of_ble_eq_true rfl)) ?_
  refine Rk.tr (F1 := (5, 160, _, _)) (x_iload_n rfl rfl) ?_
  refine Rk.tr (F1 := (5, 163, _, _)) (x_ifF rfl (tg := 176) rfl (show ¬ (1 : Int32) = 0 by decide)) ?_
  refine Rk.tr (F1 := (5, 164, _, _)) (x_aload_n rfl rfl rfl) ?_
  refine Rk.tr (F1 := (5, 167, _, _)) (m_get rfl rfl (Nat.le_of_ble_eq_true rfl)) ?_
  refine Rk.tr (F1 := (5, 168, _, _)) (x_aload_n rfl rfl rfl) ?_
  refine Rk.tr (F1 := (5, 171, _, _)) (m_get rfl rfl (Nat.le_of_ble_eq_true rfl)) ?_
  refine Rk.tr (F1 := (5, 176, _, _)) (x_icT rfl (tg := 176) rfl (by show S.1 9 + 1 < S.1 1; rw [hp, hn, nI_1]; exact Int32.not_le.mp (nI_ge (by omega) (by omega)))) ?_
  refine Rk.tr (F1 := (5, 177, _, _)) (x_aload_n rfl rfl rfl) ?_
  refine Rk.tr (F1 := (5, 180, _, _)) (m_get rfl rfl (Nat.le_of_ble_eq_true rfl)) ?_
  refine Rk.tr (F1 := (5, 181, _, _)) (x_aload_n rfl rfl rfl) ?_
  refine Rk.tr (F1 := (5, 184, _, _)) (m_get rfl rfl (Nat.le_of_ble_eq_true rfl)) ?_
  refine Rk.tr (F1 := (5, 185, _, _)) (x_iload_n rfl rfl) ?_
  refine Rk.tr (F1 := (5, 188, _, _)) (x_ifF rfl (tg := 195) rfl (show ¬ (1 : Int32) = 0 by decide)) ?_
  refine Rk.tr (F1 := (5, 189, _, _)) (x_aload_n rfl rfl rfl) ?_
  refine Rk.tr (F1 := (5, 192, _, _)) (m_call (As := []) rfl rfl rfl (Or.inr rfl) rfl rfl rfl (Nat.le_of_ble_eq_true rfl) (c_next (p := p + 1) (by show S.1 9 + 1 = _; rw [hp, nI_1]) hn (by omega) h60) rfl) ?_
  refine Rk.tr (F1 := (5, 196, _, _)) (x_goto rfl rfl) ?_
  refine Rk.tr (F1 := (5, 197, _, _)) (m_iast (k := 13) (n := q + 1) rfl rfl rfl (Nat.le_of_ble_eq_true rfl) (by show S.1 10 + 1 = nI (q + 1); rw [hq, nI_1]) (show q + 1 < 61 by omega)) ?_
  refine Rk.tr (F1 := (5, 198, _, _)) (x_iload_n rfl rfl) ?_
  refine Rk.tr (F1 := (5, 201, _, _)) (x_ifF rfl (tg := 238) rfl (show ¬ (1 : Int32) = 0 by decide)) ?_
  refine Rk.tr (F1 := (5, 202, _, _)) (x_aload_n rfl rfl rfl) ?_
  refine Rk.tr (F1 := (5, 205, _, _)) (m_get rfl rfl (Nat.le_of_ble_eq_true rfl)) ?_
  refine Rk.tr (F1 := (5, 206, _, _)) (x_aload_n rfl rfl rfl) ?_
  refine Rk.tr (F1 := (5, 209, _, _)) (m_get rfl rfl (Nat.le_of_ble_eq_true rfl)) ?_
  refine Rk.tr (F1 := (5, 210, _, _)) (m_iald (k := 13) (n := q + 1) rfl rfl rfl (by show S.1 10 + 1 = nI (q + 1); rw [hq, nI_1]) (show q + 1 < 61 by omega)) ?_
  refine Rk.tr (F1 := (5, 210, _, _)) (x_top msA_at) ?_
  refine Rk.tr (F1 := (5, 213, _, _)) (x_ifF rfl (tg := 236) rfl hv) ?_
  refine Rk.tr (F1 := (5, 214, _, _)) (x_aload_n rfl rfl rfl) ?_
  refine Rk.tr (F1 := (5, 217, _, _)) (m_get rfl rfl (Nat.le_of_ble_eq_true rfl)) ?_
  refine Rk.tr (F1 := (5, 218, _, _)) (x_aload_n rfl rfl rfl) ?_
  refine Rk.tr (F1 := (5, 221, _, _)) (m_get rfl rfl (Nat.le_of_ble_eq_true rfl)) ?_
  refine Rk.tr (F1 := (5, 222, _, _)) (m_iald (k := 13) (n := q + 1) rfl rfl rfl (by show S.1 10 + 1 = nI (q + 1); rw [hq, nI_1]) (show q + 1 < 61 by omega)) ?_
  refine Rk.tr (F1 := (5, 222, _, _)) (x_top msA_at) ?_
  refine Rk.tr (F1 := (5, 223, _, _)) (x_iload_n rfl rfl) ?_
  refine Rk.tr (F1 := (5, 224, _, _)) (x_iconst rfl) ?_
  refine Rk.tr (F1 := (5, 231, _, _)) (x_icT rfl (tg := 231) rfl (show ¬ (4 : Int32) = 5 by decide)) ?_
  refine Rk.tr (F1 := (5, 233, _, _)) (x_bipush rfl) ?_
  refine Rk.tr (F1 := (5, 238, _, _)) (x_icT rfl (tg := 238) rfl hv2) ?_
  refine Rk.tr (F1 := (5, 239, _, _)) (x_iload_n rfl rfl) ?_
  refine Rk.tr (F1 := (5, 240, _, _)) (x_iconst rfl) ?_
  refine Rk.tr (F1 := (5, 296, _, _)) (x_icT rfl (tg := 296) rfl (show ¬ (4 : Int32) = 2 by decide)) ?_
  refine Rk.tr (F1 := (5, 297, _, _)) (x_iconst rfl) ?_
  exact Rk.end rfl (Or.inr (Or.inl ⟨rfl, _, .int, rfl, rfl, rfl, rfl⟩))
theorem b_sh5 (hp : S.1 9 = nI p) (hn : S.1 1 = nI n) (h60 : n ≤ 60) (hw : S.2 2 p = 5) (h : p < n) (h1 : n ≤ p + 1) (hq : S.1 10 = nI q) (hq6 : q < 60) : Rn E (d + 1) 5 [.ref o] (mh g o S) (some (.int (-1))) (mh g o (mOpen S q 5)) := by
  refine Rn.of (Nat.le_of_ble_eq_true rfl) ?_
  refine Rk.tr (F1 := (5, 1, _, _)) (x_aload_n rfl rfl rfl) ?_
  refine Rk.tr (F1 := (5, 4, _, _)) (m_get rfl rfl (Nat.le_of_ble_eq_true rfl)) ?_
  refine Rk.tr (F1 := (5, 5, _, _)) (x_aload_n rfl rfl rfl) ?_
  refine Rk.tr (F1 := (5, 8, _, _)) (m_get rfl rfl (Nat.le_of_ble_eq_true rfl)) ?_
  refine Rk.tr (F1 := (5, 13, _, _)) (x_icT rfl (tg := 13) rfl (by show S.1 9 < S.1 1; rw [hp, hn]; exact Int32.not_le.mp (nI_ge (by omega) (by omega)))) ?_
  refine Rk.tr (F1 := (5, 14, _, _)) (x_aload_n rfl rfl rfl) ?_
  refine Rk.tr (F1 := (5, 17, _, _)) (m_call (As := []) rfl rfl rfl (Or.inr rfl) rfl rfl rfl (Nat.le_of_ble_eq_true rfl) (c_next hp hn (by omega) h60) rfl) ?_
  refine Rk.tr (F1 := (5, 17, _, _)) (x_top hw) ?_
  refine Rk.tr (F1 := (5, 18, [_, _, _, _], _)) (x_istore_n (i := 1) rfl (Nat.le_of_ble_eq_true rfl)) ?_
  refine Rk.tr (F1 := (5, 19, _, _)) (x_iload_n rfl rfl) ?_
  refine Rk.tr (F1 := (5, 22, _, _)) (x_ifF rfl (tg := 27) rfl (show ¬ (5 : Int32) = 0 by decide)) ?_
  refine Rk.tr (F1 := (5, 23, _, _)) (x_iload_n rfl rfl) ?_
  refine Rk.tr (F1 := (5, 24, _, _)) (x_iconst rfl) ?_
  refine Rk.tr (F1 := (5, 96, _, _)) (x_icT rfl (tg := 96) rfl (show ¬ (5 : Int32) = 1 by decide)) ?_
  refine Rk.tr (F1 := (5, 97, _, _)) (x_iload_n rfl rfl) ?_
  refine Rk.tr (F1 := (5, 100, _, _)) (x_ifF rfl (tg := 106) rfl (show ¬ (5 : Int32) < 0 by decide)) ?_
  refine Rk.tr (F1 := (5, 101, _, _)) (x_iload_n rfl rfl) ?_
  refine Rk.tr (F1 := (5, 103, _, _)) (x_bipush rfl) ?_
  refine Rk.tr (F1 := (5, 108, _, _)) (x_icT rfl (tg := 108) rfl (show (5 : Int32) ≤ 6 by decide)) ?_
  refine Rk.tr (F1 := (5, 109, _, _)) (x_aload_n rfl rfl rfl) ?_
  refine Rk.tr (F1 := (5, 110, _, _)) (x_dup rfl rfl) ?_
  refine Rk.tr (F1 := (5, 113, _, _)) (m_get rfl rfl (Nat.le_of_ble_eq_true rfl)) ?_
  refine Rk.tr (F1 := (5, 114, _, _)) (x_iconst rfl) ?_
  refine Rk.tr (F1 := (5, 115, _, _)) (x_iadd rfl) ?_
  refine Rk.tr (F1 := (5, 118, _, _)) (m_put rfl rfl rfl rfl rfl rfl) ?_
  refine Rk.tr (F1 := (5, 119, _, _)) (x_aload_n rfl rfl rfl) ?_
  refine Rk.tr (F1 := (5, 122, _, _)) (m_get rfl rfl (Nat.le_of_ble_eq_true rfl)) ?_
  refine Rk.tr (F1 := (5, 123, _, _)) (x_aload_n rfl rfl rfl) ?_
  refine Rk.tr (F1 := (5, 126, _, _)) (m_get rfl rfl (Nat.le_of_ble_eq_true rfl)) ?_
  refine Rk.tr (F1 := (5, 127, _, _)) (x_iload_n rfl rfl) ?_
  refine Rk.tr (F1 := (5, 128, _, _)) (m_iast (k := 11) (n := q + 1) rfl rfl rfl (Nat.le_of_ble_eq_true rfl) (by show S.1 10 + 1 = nI (q + 1); rw [hq, nI_1]) (show q + 1 < 61 by omega)) ?_
  refine Rk.tr (F1 := (5, 129, _, _)) (x_aload_n rfl rfl rfl) ?_
  refine Rk.tr (F1 := (5, 132, _, _)) (m_get rfl rfl (Nat.le_of_ble_eq_true rfl)) ?_
  refine Rk.tr (F1 := (5, 133, _, _)) (x_aload_n rfl rfl rfl) ?_
  refine Rk.tr (F1 := (5, 136, _, _)) (m_get rfl rfl (Nat.le_of_ble_eq_true rfl)) ?_
  refine Rk.tr (F1 := (5, 137, _, _)) (x_iconst rfl) ?_
  refine Rk.tr (F1 := (5, 138, _, _)) (m_iast (k := 12) (n := q + 1) rfl rfl rfl (Nat.le_of_ble_eq_true rfl) (by show S.1 10 + 1 = nI (q + 1); rw [hq, nI_1]) (show q + 1 < 61 by omega)) ?_
  refine Rk.tr (F1 := (5, 139, _, _)) (x_iload_n rfl rfl) ?_
  refine Rk.tr (F1 := (5, 140, _, _)) (x_iconst rfl) ?_
  refine Rk.tr (F1 := (5, 143, _, _)) (x_icF rfl (tg := 153) rfl (show ¬ (5 : Int32) = 2 by decide)) ?_
  refine Rk.tr (F1 := (5, 144, _, _)) (x_iload_n rfl rfl) ?_
  refine Rk.tr (F1 := (5, 145, _, _)) (x_iconst rfl) ?_
  refine Rk.tr (F1 := (5, 148, _, _)) (x_icF rfl (tg := 153) rfl (show ¬ (5 : Int32) = 4 by decide)) ?_
  refine Rk.tr (F1 := (5, 149, _, _)) (x_iload_n rfl rfl) ?_
  refine Rk.tr (F1 := (5, 150, _, _)) (x_iconst rfl) ?_
  refine Rk.tr (F1 := (5, 153, _, _)) (x_icF rfl (tg := 157) rfl (fun q => q rfl)) ?_
  refine Rk.tr (F1 := (5, 154, _, _)) (x_iconst rfl) ?_
  refine Rk.tr (F1 := (5, 158, _, _)) (x_goto rfl rfl) ?_
  refine Rk.tr (F1 := (5, 159, [_, _, _, _], _)) (x_istore_n (i := 2) rfl (Nat.le_of_ble_eq_true rfl)) ?_
  refine Rk.tr (F1 := (5, 160, _, _)) (x_iload_n rfl rfl) ?_
  refine Rk.tr (F1 := (5, 163, _, _)) (x_ifF rfl (tg := 176) rfl (show ¬ (1 : Int32) = 0 by decide)) ?_
  refine Rk.tr (F1 := (5, 164, _, _)) (x_aload_n rfl rfl rfl) ?_
  refine Rk.tr (F1 := (5, 167, _, _)) (m_get rfl rfl (Nat.le_of_ble_eq_true rfl)) ?_
  refine Rk.tr (F1 := (5, 168, _, _)) (x_aload_n rfl rfl rfl) ?_
  refine Rk.tr (F1 := (5, 171, _, _)) (m_get rfl rfl (Nat.le_of_ble_eq_true rfl)) ?_
  refine Rk.tr (F1 := (5, 174, _, _)) (x_icF rfl (tg := 176) rfl (by show ¬ S.1 9 + 1 < S.1 1; rw [hp, hn, nI_1]; exact Int32.not_lt.mpr (nI_le (by omega) (by omega)))) ?_
  refine Rk.tr (F1 := (5, 175, _, _)) (x_iconst rfl) ?_
  exact Rk.end rfl (Or.inr (Or.inl ⟨rfl, _, .int, rfl, rfl, rfl, rfl⟩))
theorem b_lo5 (hp : S.1 9 = nI p) (hn : S.1 1 = nI n) (h60 : n ≤ 60) (hw : S.2 2 p = 5) (h : p + 1 < n) (hq : S.1 10 = nI q) (hq6 : q < 60) (hv : S.2 2 (p + 1) < 0) : Rn E (d + 1) 5 [.ref o] (mh g o S) (some (.int (-1))) (mh g o (msA (mNext (mOpen S q 5)) 13 (q + 1) (S.2 2 (p + 1)))) := by
  refine Rn.of (Nat.le_of_ble_eq_true rfl) ?_
  refine Rk.tr (F1 := (5, 1, _, _)) (x_aload_n rfl rfl rfl) ?_
  refine Rk.tr (F1 := (5, 4, _, _)) (m_get rfl rfl (Nat.le_of_ble_eq_true rfl)) ?_
  refine Rk.tr (F1 := (5, 5, _, _)) (x_aload_n rfl rfl rfl) ?_
  refine Rk.tr (F1 := (5, 8, _, _)) (m_get rfl rfl (Nat.le_of_ble_eq_true rfl)) ?_
  refine Rk.tr (F1 := (5, 13, _, _)) (x_icT rfl (tg := 13) rfl (by show S.1 9 < S.1 1; rw [hp, hn]; exact Int32.not_le.mp (nI_ge (by omega) (by omega)))) ?_
  refine Rk.tr (F1 := (5, 14, _, _)) (x_aload_n rfl rfl rfl) ?_
  refine Rk.tr (F1 := (5, 17, _, _)) (m_call (As := []) rfl rfl rfl (Or.inr rfl) rfl rfl rfl (Nat.le_of_ble_eq_true rfl) (c_next hp hn (by omega) h60) rfl) ?_
  refine Rk.tr (F1 := (5, 17, _, _)) (x_top hw) ?_
  refine Rk.tr (F1 := (5, 18, [_, _, _, _], _)) (x_istore_n (i := 1) rfl (Nat.le_of_ble_eq_true rfl)) ?_
  refine Rk.tr (F1 := (5, 19, _, _)) (x_iload_n rfl rfl) ?_
  refine Rk.tr (F1 := (5, 22, _, _)) (x_ifF rfl (tg := 27) rfl (show ¬ (5 : Int32) = 0 by decide)) ?_
  refine Rk.tr (F1 := (5, 23, _, _)) (x_iload_n rfl rfl) ?_
  refine Rk.tr (F1 := (5, 24, _, _)) (x_iconst rfl) ?_
  refine Rk.tr (F1 := (5, 96, _, _)) (x_icT rfl (tg := 96) rfl (show ¬ (5 : Int32) = 1 by decide)) ?_
  refine Rk.tr (F1 := (5, 97, _, _)) (x_iload_n rfl rfl) ?_
  refine Rk.tr (F1 := (5, 100, _, _)) (x_ifF rfl (tg := 106) rfl (show ¬ (5 : Int32) < 0 by decide)) ?_
  refine Rk.tr (F1 := (5, 101, _, _)) (x_iload_n rfl rfl) ?_
  refine Rk.tr (F1 := (5, 103, _, _)) (x_bipush rfl) ?_
  refine Rk.tr (F1 := (5, 108, _, _)) (x_icT rfl (tg := 108) rfl (show (5 : Int32) ≤ 6 by decide)) ?_
  refine Rk.tr (F1 := (5, 109, _, _)) (x_aload_n rfl rfl rfl) ?_
  refine Rk.tr (F1 := (5, 110, _, _)) (x_dup rfl rfl) ?_
  refine Rk.tr (F1 := (5, 113, _, _)) (m_get rfl rfl (Nat.le_of_ble_eq_true rfl)) ?_
  refine Rk.tr (F1 := (5, 114, _, _)) (x_iconst rfl) ?_
  refine Rk.tr (F1 := (5, 115, _, _)) (x_iadd rfl) ?_
  refine Rk.tr (F1 := (5, 118, _, _)) (m_put rfl rfl rfl rfl rfl rfl) ?_
  refine Rk.tr (F1 := (5, 119, _, _)) (x_aload_n rfl rfl rfl) ?_
  refine Rk.tr (F1 := (5, 122, _, _)) (m_get rfl rfl (Nat.le_of_ble_eq_true rfl)) ?_
  refine Rk.tr (F1 := (5, 123, _, _)) (x_aload_n rfl rfl rfl) ?_
  refine Rk.tr (F1 := (5, 126, _, _)) (m_get rfl rfl (Nat.le_of_ble_eq_true rfl)) ?_
  refine Rk.tr (F1 := (5, 127, _, _)) (x_iload_n rfl rfl) ?_
  refine Rk.tr (F1 := (5, 128, _, _)) (m_iast (k := 11) (n := q + 1) rfl rfl rfl (Nat.le_of_ble_eq_true rfl) (by show S.1 10 + 1 = nI (q + 1); rw [hq, nI_1]) (show q + 1 < 61 by omega)) ?_
  refine Rk.tr (F1 := (5, 129, _, _)) (x_aload_n rfl rfl rfl) ?_
  refine Rk.tr (F1 := (5, 132, _, _)) (m_get rfl rfl (Nat.le_of_ble_eq_true rfl)) ?_
  refine Rk.tr (F1 := (5, 133, _, _)) (x_aload_n rfl rfl rfl) ?_
  refine Rk.tr (F1 := (5, 136, _, _)) (m_get rfl rfl (Nat.le_of_ble_eq_true rfl)) ?_
  refine Rk.tr (F1 := (5, 137, _, _)) (x_iconst rfl) ?_
  refine Rk.tr (F1 := (5, 138, _, _)) (m_iast (k := 12) (n := q + 1) rfl rfl rfl (Nat.le_of_ble_eq_true rfl) (by show S.1 10 + 1 = nI (q + 1); rw [hq, nI_1]) (show q + 1 < 61 by omega)) ?_
  refine Rk.tr (F1 := (5, 139, _, _)) (x_iload_n rfl rfl) ?_
  refine Rk.tr (F1 := (5, 140, _, _)) (x_iconst rfl) ?_
  refine Rk.tr (F1 := (5, 143, _, _)) (x_icF rfl (tg := 153) rfl (show ¬ (5 : Int32) = 2 by decide)) ?_
  refine Rk.tr (F1 := (5, 144, _, _)) (x_iload_n rfl rfl) ?_
  refine Rk.tr (F1 := (5, 145, _, _)) (x_iconst rfl) ?_
  refine Rk.tr (F1 := (5, 148, _, _)) (x_icF rfl (tg := 153) rfl (show ¬ (5 : Int32) = 4 by decide)) ?_
  refine Rk.tr (F1 := (5, 149, _, _)) (x_iload_n rfl rfl) ?_
  refine Rk.tr (F1 := (5, 150, _, _)) (x_iconst rfl) ?_
  refine Rk.tr (F1 := (5, 153, _, _)) (x_icF rfl (tg := 157) rfl (fun q => q rfl)) ?_
  refine Rk.tr (F1 := (5, 154, _, _)) (x_iconst rfl) ?_
  refine Rk.tr (F1 := (5, 158, _, _)) (x_goto rfl rfl) ?_
  refine Rk.tr (F1 := (5, 159, [_, _, _, _], _)) (x_istore_n (i := 2) rfl (Nat.le_of_ble_eq_true rfl)) ?_
  refine Rk.tr (F1 := (5, 160, _, _)) (x_iload_n rfl rfl) ?_
  refine Rk.tr (F1 := (5, 163, _, _)) (x_ifF rfl (tg := 176) rfl (show ¬ (1 : Int32) = 0 by decide)) ?_
  refine Rk.tr (F1 := (5, 164, _, _)) (x_aload_n rfl rfl rfl) ?_
  refine Rk.tr (F1 := (5, 167, _, _)) (m_get rfl rfl (Nat.le_of_ble_eq_true rfl)) ?_
  refine Rk.tr (F1 := (5, 168, _, _)) (x_aload_n rfl rfl rfl) ?_
  refine Rk.tr (F1 := (5, 171, _, _)) (m_get rfl rfl (Nat.le_of_ble_eq_true rfl)) ?_
  refine Rk.tr (F1 := (5, 176, _, _)) (x_icT rfl (tg := 176) rfl (by show S.1 9 + 1 < S.1 1; rw [hp, hn, nI_1]; exact Int32.not_le.mp (nI_ge (by omega) (by omega)))) ?_
  refine Rk.tr (F1 := (5, 177, _, _)) (x_aload_n rfl rfl rfl) ?_
  refine Rk.tr (F1 := (5, 180, _, _)) (m_get rfl rfl (Nat.le_of_ble_eq_true rfl)) ?_
  refine Rk.tr (F1 := (5, 181, _, _)) (x_aload_n rfl rfl rfl) ?_
  refine Rk.tr (F1 := (5, 184, _, _)) (m_get rfl rfl (Nat.le_of_ble_eq_true rfl)) ?_
  refine Rk.tr (F1 := (5, 185, _, _)) (x_iload_n rfl rfl) ?_
  refine Rk.tr (F1 := (5, 188, _, _)) (x_ifF rfl (tg := 195) rfl (show ¬ (1 : Int32) = 0 by decide)) ?_
  refine Rk.tr (F1 := (5, 189, _, _)) (x_aload_n rfl rfl rfl) ?_
  refine Rk.tr (F1 := (5, 192, _, _)) (m_call (As := []) rfl rfl rfl (Or.inr rfl) rfl rfl rfl (Nat.le_of_ble_eq_true rfl) (c_next (p := p + 1) (by show S.1 9 + 1 = _; rw [hp, nI_1]) hn (by omega) h60) rfl) ?_
  refine Rk.tr (F1 := (5, 196, _, _)) (x_goto rfl rfl) ?_
  refine Rk.tr (F1 := (5, 197, _, _)) (m_iast (k := 13) (n := q + 1) rfl rfl rfl (Nat.le_of_ble_eq_true rfl) (by show S.1 10 + 1 = nI (q + 1); rw [hq, nI_1]) (show q + 1 < 61 by omega)) ?_
  refine Rk.tr (F1 := (5, 198, _, _)) (x_iload_n rfl rfl) ?_
  refine Rk.tr (F1 := (5, 201, _, _)) (x_ifF rfl (tg := 238) rfl (show ¬ (1 : Int32) = 0 by decide)) ?_
  refine Rk.tr (F1 := (5, 202, _, _)) (x_aload_n rfl rfl rfl) ?_
  refine Rk.tr (F1 := (5, 205, _, _)) (m_get rfl rfl (Nat.le_of_ble_eq_true rfl)) ?_
  refine Rk.tr (F1 := (5, 206, _, _)) (x_aload_n rfl rfl rfl) ?_
  refine Rk.tr (F1 := (5, 209, _, _)) (m_get rfl rfl (Nat.le_of_ble_eq_true rfl)) ?_
  refine Rk.tr (F1 := (5, 210, _, _)) (m_iald (k := 13) (n := q + 1) rfl rfl rfl (by show S.1 10 + 1 = nI (q + 1); rw [hq, nI_1]) (show q + 1 < 61 by omega)) ?_
  refine Rk.tr (F1 := (5, 210, _, _)) (x_top msA_at) ?_
  refine Rk.tr (F1 := (5, 236, _, _)) (x_ifT rfl (tg := 236) rfl hv) ?_
  refine Rk.tr (F1 := (5, 237, _, _)) (x_iconst rfl) ?_
  exact Rk.end rfl (Or.inr (Or.inl ⟨rfl, _, .int, rfl, rfl, rfl, rfl⟩))
theorem b_hi5 (hp : S.1 9 = nI p) (hn : S.1 1 = nI n) (h60 : n ≤ 60) (hw : S.2 2 p = 5) (h : p + 1 < n) (hq : S.1 10 = nI q) (hq6 : q < 60) (hv : ¬ S.2 2 (p + 1) < 0) (hv2 : 4 < S.2 2 (p + 1)) : Rn E (d + 1) 5 [.ref o] (mh g o S) (some (.int (-1))) (mh g o (msA (mNext (mOpen S q 5)) 13 (q + 1) (S.2 2 (p + 1)))) := by
  refine Rn.of (Nat.le_of_ble_eq_true rfl) ?_
  refine Rk.tr (F1 := (5, 1, _, _)) (x_aload_n rfl rfl rfl) ?_
  refine Rk.tr (F1 := (5, 4, _, _)) (m_get rfl rfl (Nat.le_of_ble_eq_true rfl)) ?_
  refine Rk.tr (F1 := (5, 5, _, _)) (x_aload_n rfl rfl rfl) ?_
  refine Rk.tr (F1 := (5, 8, _, _)) (m_get rfl rfl (Nat.le_of_ble_eq_true rfl)) ?_
  refine Rk.tr (F1 := (5, 13, _, _)) (x_icT rfl (tg := 13) rfl (by show S.1 9 < S.1 1; rw [hp, hn]; exact Int32.not_le.mp (nI_ge (by omega) (by omega)))) ?_
  refine Rk.tr (F1 := (5, 14, _, _)) (x_aload_n rfl rfl rfl) ?_
  refine Rk.tr (F1 := (5, 17, _, _)) (m_call (As := []) rfl rfl rfl (Or.inr rfl) rfl rfl rfl (Nat.le_of_ble_eq_true rfl) (c_next hp hn (by omega) h60) rfl) ?_
  refine Rk.tr (F1 := (5, 17, _, _)) (x_top hw) ?_
  refine Rk.tr (F1 := (5, 18, [_, _, _, _], _)) (x_istore_n (i := 1) rfl (Nat.le_of_ble_eq_true rfl)) ?_
  refine Rk.tr (F1 := (5, 19, _, _)) (x_iload_n rfl rfl) ?_
  refine Rk.tr (F1 := (5, 22, _, _)) (x_ifF rfl (tg := 27) rfl (show ¬ (5 : Int32) = 0 by decide)) ?_
  refine Rk.tr (F1 := (5, 23, _, _)) (x_iload_n rfl rfl) ?_
  refine Rk.tr (F1 := (5, 24, _, _)) (x_iconst rfl) ?_
  refine Rk.tr (F1 := (5, 96, _, _)) (x_icT rfl (tg := 96) rfl (show ¬ (5 : Int32) = 1 by decide)) ?_
  refine Rk.tr (F1 := (5, 97, _, _)) (x_iload_n rfl rfl) ?_
  refine Rk.tr (F1 := (5, 100, _, _)) (x_ifF rfl (tg := 106) rfl (show ¬ (5 : Int32) < 0 by decide)) ?_
  refine Rk.tr (F1 := (5, 101, _, _)) (x_iload_n rfl rfl) ?_
  refine Rk.tr (F1 := (5, 103, _, _)) (x_bipush rfl) ?_
  refine Rk.tr (F1 := (5, 108, _, _)) (x_icT rfl (tg := 108) rfl (show (5 : Int32) ≤ 6 by decide)) ?_
  refine Rk.tr (F1 := (5, 109, _, _)) (x_aload_n rfl rfl rfl) ?_
  refine Rk.tr (F1 := (5, 110, _, _)) (x_dup rfl rfl) ?_
  refine Rk.tr (F1 := (5, 113, _, _)) (m_get rfl rfl (Nat.le_of_ble_eq_true rfl)) ?_
  refine Rk.tr (F1 := (5, 114, _, _)) (x_iconst rfl) ?_
  refine Rk.tr (F1 := (5, 115, _, _)) (x_iadd rfl) ?_
  refine Rk.tr (F1 := (5, 118, _, _)) (m_put rfl rfl rfl rfl rfl rfl) ?_
  refine Rk.tr (F1 := (5, 119, _, _)) (x_aload_n rfl rfl rfl) ?_
  refine Rk.tr (F1 := (5, 122, _, _)) (m_get rfl rfl (Nat.le_of_ble_eq_true rfl)) ?_
  refine Rk.tr (F1 := (5, 123, _, _)) (x_aload_n rfl rfl rfl) ?_
  refine Rk.tr (F1 := (5, 126, _, _)) (m_get rfl rfl (Nat.le_of_ble_eq_true rfl)) ?_
  refine Rk.tr (F1 := (5, 127, _, _)) (x_iload_n rfl rfl) ?_
  refine Rk.tr (F1 := (5, 128, _, _)) (m_iast (k := 11) (n := q + 1) rfl rfl rfl (Nat.le_of_ble_eq_true rfl) (by show S.1 10 + 1 = nI (q + 1); rw [hq, nI_1]) (show q + 1 < 61 by omega)) ?_
  refine Rk.tr (F1 := (5, 129, _, _)) (x_aload_n rfl rfl rfl) ?_
  refine Rk.tr (F1 := (5, 132, _, _)) (m_get rfl rfl (Nat.le_of_ble_eq_true rfl)) ?_
  refine Rk.tr (F1 := (5, 133, _, _)) (x_aload_n rfl rfl rfl) ?_
  refine Rk.tr (F1 := (5, 136, _, _)) (m_get rfl rfl (Nat.le_of_ble_eq_true rfl)) ?_
  refine Rk.tr (F1 := (5, 137, _, _)) (x_iconst rfl) ?_
  refine Rk.tr (F1 := (5, 138, _, _)) (m_iast (k := 12) (n := q + 1) rfl rfl rfl (Nat.le_of_ble_eq_true rfl) (by show S.1 10 + 1 = nI (q + 1); rw [hq, nI_1]) (show q + 1 < 61 by omega)) ?_
  refine Rk.tr (F1 := (5, 139, _, _)) (x_iload_n rfl rfl) ?_
  refine Rk.tr (F1 := (5, 140, _, _)) (x_iconst rfl) ?_
  refine Rk.tr (F1 := (5, 143, _, _)) (x_icF rfl (tg := 153) rfl (show ¬ (5 : Int32) = 2 by decide)) ?_
  refine Rk.tr (F1 := (5, 144, _, _)) (x_iload_n rfl rfl) ?_
  refine Rk.tr (F1 := (5, 145, _, _)) (x_iconst rfl) ?_
  refine Rk.tr (F1 := (5, 148, _, _)) (x_icF rfl (tg := 153) rfl (show ¬ (5 : Int32) = 4 by decide)) ?_
  refine Rk.tr (F1 := (5, 149, _, _)) (x_iload_n rfl rfl) ?_
  refine Rk.tr (F1 := (5, 150, _, _)) (x_iconst rfl) ?_
  refine Rk.tr (F1 := (5, 153, _, _)) (x_icF rfl (tg := 157) rfl (fun q => q rfl)) ?_
  refine Rk.tr (F1 := (5, 154, _, _)) (x_iconst rfl) ?_
  refine Rk.tr (F1 := (5, 158, _, _)) (x_goto rfl rfl) ?_
  refine Rk.tr (F1 := (5, 159, [_, _, _, _], _)) (x_istore_n (i := 2) rfl (Nat.le_of_ble_eq_true rfl)) ?_
  refine Rk.tr (F1 := (5, 160, _, _)) (x_iload_n rfl rfl) ?_
  refine Rk.tr (F1 := (5, 163, _, _)) (x_ifF rfl (tg := 176) rfl (show ¬ (1 : Int32) = 0 by decide)) ?_
  refine Rk.tr (F1 := (5, 164, _, _)) (x_aload_n rfl rfl rfl) ?_
  refine Rk.tr (F1 := (5, 167, _, _)) (m_get rfl rfl (Nat.le_of_ble_eq_true rfl)) ?_
  refine Rk.tr (F1 := (5, 168, _, _)) (x_aload_n rfl rfl rfl) ?_
  refine Rk.tr (F1 := (5, 171, _, _)) (m_get rfl rfl (Nat.le_of_ble_eq_true rfl)) ?_
  refine Rk.tr (F1 := (5, 176, _, _)) (x_icT rfl (tg := 176) rfl (by show S.1 9 + 1 < S.1 1; rw [hp, hn, nI_1]; exact Int32.not_le.mp (nI_ge (by omega) (by omega)))) ?_
  refine Rk.tr (F1 := (5, 177, _, _)) (x_aload_n rfl rfl rfl) ?_
  refine Rk.tr (F1 := (5, 180, _, _)) (m_get rfl rfl (Nat.le_of_ble_eq_true rfl)) ?_
  refine Rk.tr (F1 := (5, 181, _, _)) (x_aload_n rfl rfl rfl) ?_
  refine Rk.tr (F1 := (5, 184, _, _)) (m_get rfl rfl (Nat.le_of_ble_eq_true rfl)) ?_
  refine Rk.tr (F1 := (5, 185, _, _)) (x_iload_n rfl rfl) ?_
  refine Rk.tr (F1 := (5, 188, _, _)) (x_ifF rfl (tg := 195) rfl (show ¬ (1 : Int32) = 0 by decide)) ?_
  refine Rk.tr (F1 := (5, 189, _, _)) (x_aload_n rfl rfl rfl) ?_
  refine Rk.tr (F1 := (5, 192, _, _)) (m_call (As := []) rfl rfl rfl (Or.inr rfl) rfl rfl rfl (Nat.le_of_ble_eq_true rfl) (c_next (p := p + 1) (by show S.1 9 + 1 = _; rw [hp, nI_1]) hn (by omega) h60) rfl) ?_
  refine Rk.tr (F1 := (5, 196, _, _)) (x_goto rfl rfl) ?_
  refine Rk.tr (F1 := (5, 197, _, _)) (m_iast (k := 13) (n := q + 1) rfl rfl rfl (Nat.le_of_ble_eq_true rfl) (by show S.1 10 + 1 = nI (q + 1); rw [hq, nI_1]) (show q + 1 < 61 by omega)) ?_
  refine Rk.tr (F1 := (5, 198, _, _)) (x_iload_n rfl rfl) ?_
  refine Rk.tr (F1 := (5, 201, _, _)) (x_ifF rfl (tg := 238) rfl (show ¬ (1 : Int32) = 0 by decide)) ?_
  refine Rk.tr (F1 := (5, 202, _, _)) (x_aload_n rfl rfl rfl) ?_
  refine Rk.tr (F1 := (5, 205, _, _)) (m_get rfl rfl (Nat.le_of_ble_eq_true rfl)) ?_
  refine Rk.tr (F1 := (5, 206, _, _)) (x_aload_n rfl rfl rfl) ?_
  refine Rk.tr (F1 := (5, 209, _, _)) (m_get rfl rfl (Nat.le_of_ble_eq_true rfl)) ?_
  refine Rk.tr (F1 := (5, 210, _, _)) (m_iald (k := 13) (n := q + 1) rfl rfl rfl (by show S.1 10 + 1 = nI (q + 1); rw [hq, nI_1]) (show q + 1 < 61 by omega)) ?_
  refine Rk.tr (F1 := (5, 210, _, _)) (x_top msA_at) ?_
  refine Rk.tr (F1 := (5, 213, _, _)) (x_ifF rfl (tg := 236) rfl hv) ?_
  refine Rk.tr (F1 := (5, 214, _, _)) (x_aload_n rfl rfl rfl) ?_
  refine Rk.tr (F1 := (5, 217, _, _)) (m_get rfl rfl (Nat.le_of_ble_eq_true rfl)) ?_
  refine Rk.tr (F1 := (5, 218, _, _)) (x_aload_n rfl rfl rfl) ?_
  refine Rk.tr (F1 := (5, 221, _, _)) (m_get rfl rfl (Nat.le_of_ble_eq_true rfl)) ?_
  refine Rk.tr (F1 := (5, 222, _, _)) (m_iald (k := 13) (n := q + 1) rfl rfl rfl (by show S.1 10 + 1 = nI (q + 1); rw [hq, nI_1]) (show q + 1 < 61 by omega)) ?_
  refine Rk.tr (F1 := (5, 222, _, _)) (x_top msA_at) ?_
  refine Rk.tr (F1 := (5, 223, _, _)) (x_iload_n rfl rfl) ?_
  refine Rk.tr (F1 := (5, 224, _, _)) (x_iconst rfl) ?_
  refine Rk.tr (F1 := (5, 227, _, _)) (x_icF rfl (tg := 231) rfl (fun q => q rfl)) ?_
  refine Rk.tr (F1 := (5, 228, _, _)) (x_iconst rfl) ?_
  refine Rk.tr (F1 := (5, 233, _, _)) (x_goto rfl rfl) ?_
  refine Rk.tr (F1 := (5, 236, _, _)) (x_icF rfl (tg := 238) rfl (Int32.not_le.mpr hv2)) ?_
  refine Rk.tr (F1 := (5, 237, _, _)) (x_iconst rfl) ?_
  exact Rk.end rfl (Or.inr (Or.inl ⟨rfl, _, .int, rfl, rfl, rfl, rfl⟩))
theorem b_op5 (hp : S.1 9 = nI p) (hn : S.1 1 = nI n) (h60 : n ≤ 60) (hw : S.2 2 p = 5) (h : p + 1 < n) (hq : S.1 10 = nI q) (hq6 : q < 60) (hv : ¬ S.2 2 (p + 1) < 0) (hv2 : S.2 2 (p + 1) ≤ 4) : Rn E (d + 1) 5 [.ref o] (mh g o S) (some (.int (0))) (mh g o (msA (mNext (mOpen S q 5)) 13 (q + 1) (S.2 2 (p + 1)))) := by
  refine Rn.of (Nat.le_of_ble_eq_true rfl) ?_
  refine Rk.tr (F1 := (5, 1, _, _)) (x_aload_n rfl rfl rfl) ?_
  refine Rk.tr (F1 := (5, 4, _, _)) (m_get rfl rfl (Nat.le_of_ble_eq_true rfl)) ?_
  refine Rk.tr (F1 := (5, 5, _, _)) (x_aload_n rfl rfl rfl) ?_
  refine Rk.tr (F1 := (5, 8, _, _)) (m_get rfl rfl (Nat.le_of_ble_eq_true rfl)) ?_
  refine Rk.tr (F1 := (5, 13, _, _)) (x_icT rfl (tg := 13) rfl (by show S.1 9 < S.1 1; rw [hp, hn]; exact Int32.not_le.mp (nI_ge (by omega) (by omega)))) ?_
  refine Rk.tr (F1 := (5, 14, _, _)) (x_aload_n rfl rfl rfl) ?_
  refine Rk.tr (F1 := (5, 17, _, _)) (m_call (As := []) rfl rfl rfl (Or.inr rfl) rfl rfl rfl (Nat.le_of_ble_eq_true rfl) (c_next hp hn (by omega) h60) rfl) ?_
  refine Rk.tr (F1 := (5, 17, _, _)) (x_top hw) ?_
  refine Rk.tr (F1 := (5, 18, [_, _, _, _], _)) (x_istore_n (i := 1) rfl (Nat.le_of_ble_eq_true rfl)) ?_
  refine Rk.tr (F1 := (5, 19, _, _)) (x_iload_n rfl rfl) ?_
  refine Rk.tr (F1 := (5, 22, _, _)) (x_ifF rfl (tg := 27) rfl (show ¬ (5 : Int32) = 0 by decide)) ?_
  refine Rk.tr (F1 := (5, 23, _, _)) (x_iload_n rfl rfl) ?_
  refine Rk.tr (F1 := (5, 24, _, _)) (x_iconst rfl) ?_
  refine Rk.tr (F1 := (5, 96, _, _)) (x_icT rfl (tg := 96) rfl (show ¬ (5 : Int32) = 1 by decide)) ?_
  refine Rk.tr (F1 := (5, 97, _, _)) (x_iload_n rfl rfl) ?_
  refine Rk.tr (F1 := (5, 100, _, _)) (x_ifF rfl (tg := 106) rfl (show ¬ (5 : Int32) < 0 by decide)) ?_
  refine Rk.tr (F1 := (5, 101, _, _)) (x_iload_n rfl rfl) ?_
  refine Rk.tr (F1 := (5, 103, _, _)) (x_bipush rfl) ?_
  refine Rk.tr (F1 := (5, 108, _, _)) (x_icT rfl (tg := 108) rfl (show (5 : Int32) ≤ 6 by decide)) ?_
  refine Rk.tr (F1 := (5, 109, _, _)) (x_aload_n rfl rfl rfl) ?_
  refine Rk.tr (F1 := (5, 110, _, _)) (x_dup rfl rfl) ?_
  refine Rk.tr (F1 := (5, 113, _, _)) (m_get rfl rfl (Nat.le_of_ble_eq_true rfl)) ?_
  refine Rk.tr (F1 := (5, 114, _, _)) (x_iconst rfl) ?_
  refine Rk.tr (F1 := (5, 115, _, _)) (x_iadd rfl) ?_
  refine Rk.tr (F1 := (5, 118, _, _)) (m_put rfl rfl rfl rfl rfl rfl) ?_
  refine Rk.tr (F1 := (5, 119, _, _)) (x_aload_n rfl rfl rfl) ?_
  refine Rk.tr (F1 := (5, 122, _, _)) (m_get rfl rfl (Nat.le_of_ble_eq_true rfl)) ?_
  refine Rk.tr (F1 := (5, 123, _, _)) (x_aload_n rfl rfl rfl) ?_
  refine Rk.tr (F1 := (5, 126, _, _)) (m_get rfl rfl (Nat.le_of_ble_eq_true rfl)) ?_
  refine Rk.tr (F1 := (5, 127, _, _)) (x_iload_n rfl rfl) ?_
  refine Rk.tr (F1 := (5, 128, _, _)) (m_iast (k := 11) (n := q + 1) rfl rfl rfl (Nat.le_of_ble_eq_true rfl) (by show S.1 10 + 1 = nI (q + 1); rw [hq, nI_1]) (show q + 1 < 61 by omega)) ?_
  refine Rk.tr (F1 := (5, 129, _, _)) (x_aload_n rfl rfl rfl) ?_
  refine Rk.tr (F1 := (5, 132, _, _)) (m_get rfl rfl (Nat.le_of_ble_eq_true rfl)) ?_
  refine Rk.tr (F1 := (5, 133, _, _)) (x_aload_n rfl rfl rfl) ?_
  refine Rk.tr (F1 := (5, 136, _, _)) (m_get rfl rfl (Nat.le_of_ble_eq_true rfl)) ?_
  refine Rk.tr (F1 := (5, 137, _, _)) (x_iconst rfl) ?_
  refine Rk.tr (F1 := (5, 138, _, _)) (m_iast (k := 12) (n := q + 1) rfl rfl rfl (Nat.le_of_ble_eq_true rfl) (by show S.1 10 + 1 = nI (q + 1); rw [hq, nI_1]) (show q + 1 < 61 by omega)) ?_
  refine Rk.tr (F1 := (5, 139, _, _)) (x_iload_n rfl rfl) ?_
  refine Rk.tr (F1 := (5, 140, _, _)) (x_iconst rfl) ?_
  refine Rk.tr (F1 := (5, 143, _, _)) (x_icF rfl (tg := 153) rfl (show ¬ (5 : Int32) = 2 by decide)) ?_
  refine Rk.tr (F1 := (5, 144, _, _)) (x_iload_n rfl rfl) ?_
  refine Rk.tr (F1 := (5, 145, _, _)) (x_iconst rfl) ?_
  refine Rk.tr (F1 := (5, 148, _, _)) (x_icF rfl (tg := 153) rfl (show ¬ (5 : Int32) = 4 by decide)) ?_
  refine Rk.tr (F1 := (5, 149, _, _)) (x_iload_n rfl rfl) ?_
  refine Rk.tr (F1 := (5, 150, _, _)) (x_iconst rfl) ?_
  refine Rk.tr (F1 := (5, 153, _, _)) (x_icF rfl (tg := 157) rfl (fun q => q rfl)) ?_
  refine Rk.tr (F1 := (5, 154, _, _)) (x_iconst rfl) ?_
  refine Rk.tr (F1 := (5, 158, _, _)) (x_goto rfl rfl) ?_
  refine Rk.tr (F1 := (5, 159, [_, _, _, _], _)) (x_istore_n (i := 2) rfl (Nat.le_of_ble_eq_true rfl)) ?_
  refine Rk.tr (F1 := (5, 160, _, _)) (x_iload_n rfl rfl) ?_
  refine Rk.tr (F1 := (5, 163, _, _)) (x_ifF rfl (tg := 176) rfl (show ¬ (1 : Int32) = 0 by decide)) ?_
  refine Rk.tr (F1 := (5, 164, _, _)) (x_aload_n rfl rfl rfl) ?_
  refine Rk.tr (F1 := (5, 167, _, _)) (m_get rfl rfl (Nat.le_of_ble_eq_true rfl)) ?_
  refine Rk.tr (F1 := (5, 168, _, _)) (x_aload_n rfl rfl rfl) ?_
  refine Rk.tr (F1 := (5, 171, _, _)) (m_get rfl rfl (Nat.le_of_ble_eq_true rfl)) ?_
  refine Rk.tr (F1 := (5, 176, _, _)) (x_icT rfl (tg := 176) rfl (by show S.1 9 + 1 < S.1 1; rw [hp, hn, nI_1]; exact Int32.not_le.mp (nI_ge (by omega) (by omega)))) ?_
  refine Rk.tr (F1 := (5, 177, _, _)) (x_aload_n rfl rfl rfl) ?_
  refine Rk.tr (F1 := (5, 180, _, _)) (m_get rfl rfl (Nat.le_of_ble_eq_true rfl)) ?_
  refine Rk.tr (F1 := (5, 181, _, _)) (x_aload_n rfl rfl rfl) ?_
  refine Rk.tr (F1 := (5, 184, _, _)) (m_get rfl rfl (Nat.le_of_ble_eq_true rfl)) ?_
  refine Rk.tr (F1 := (5, 185, _, _)) (x_iload_n rfl rfl) ?_
  refine Rk.tr (F1 := (5, 188, _, _)) (x_ifF rfl (tg := 195) rfl (show ¬ (1 : Int32) = 0 by decide)) ?_
  refine Rk.tr (F1 := (5, 189, _, _)) (x_aload_n rfl rfl rfl) ?_
  refine Rk.tr (F1 := (5, 192, _, _)) (m_call (As := []) rfl rfl rfl (Or.inr rfl) rfl rfl rfl (Nat.le_of_ble_eq_true rfl) (c_next (p := p + 1) (by show S.1 9 + 1 = _; rw [hp, nI_1]) hn (by omega) h60) rfl) ?_
  refine Rk.tr (F1 := (5, 196, _, _)) (x_goto rfl rfl) ?_
  refine Rk.tr (F1 := (5, 197, _, _)) (m_iast (k := 13) (n := q + 1) rfl rfl rfl (Nat.le_of_ble_eq_true rfl) (by show S.1 10 + 1 = nI (q + 1); rw [hq, nI_1]) (show q + 1 < 61 by omega)) ?_
  refine Rk.tr (F1 := (5, 198, _, _)) (x_iload_n rfl rfl) ?_
  refine Rk.tr (F1 := (5, 201, _, _)) (x_ifF rfl (tg := 238) rfl (show ¬ (1 : Int32) = 0 by decide)) ?_
  refine Rk.tr (F1 := (5, 202, _, _)) (x_aload_n rfl rfl rfl) ?_
  refine Rk.tr (F1 := (5, 205, _, _)) (m_get rfl rfl (Nat.le_of_ble_eq_true rfl)) ?_
  refine Rk.tr (F1 := (5, 206, _, _)) (x_aload_n rfl rfl rfl) ?_
  refine Rk.tr (F1 := (5, 209, _, _)) (m_get rfl rfl (Nat.le_of_ble_eq_true rfl)) ?_
  refine Rk.tr (F1 := (5, 210, _, _)) (m_iald (k := 13) (n := q + 1) rfl rfl rfl (by show S.1 10 + 1 = nI (q + 1); rw [hq, nI_1]) (show q + 1 < 61 by omega)) ?_
  refine Rk.tr (F1 := (5, 210, _, _)) (x_top msA_at) ?_
  refine Rk.tr (F1 := (5, 213, _, _)) (x_ifF rfl (tg := 236) rfl hv) ?_
  refine Rk.tr (F1 := (5, 214, _, _)) (x_aload_n rfl rfl rfl) ?_
  refine Rk.tr (F1 := (5, 217, _, _)) (m_get rfl rfl (Nat.le_of_ble_eq_true rfl)) ?_
  refine Rk.tr (F1 := (5, 218, _, _)) (x_aload_n rfl rfl rfl) ?_
  refine Rk.tr (F1 := (5, 221, _, _)) (m_get rfl rfl (Nat.le_of_ble_eq_true rfl)) ?_
  refine Rk.tr (F1 := (5, 222, _, _)) (m_iald (k := 13) (n := q + 1) rfl rfl rfl (by show S.1 10 + 1 = nI (q + 1); rw [hq, nI_1]) (show q + 1 < 61 by omega)) ?_
  refine Rk.tr (F1 := (5, 222, _, _)) (x_top msA_at) ?_
  refine Rk.tr (F1 := (5, 223, _, _)) (x_iload_n rfl rfl) ?_
  refine Rk.tr (F1 := (5, 224, _, _)) (x_iconst rfl) ?_
  refine Rk.tr (F1 := (5, 227, _, _)) (x_icF rfl (tg := 231) rfl (fun q => q rfl)) ?_
  refine Rk.tr (F1 := (5, 228, _, _)) (x_iconst rfl) ?_
  refine Rk.tr (F1 := (5, 233, _, _)) (x_goto rfl rfl) ?_
  refine Rk.tr (F1 := (5, 238, _, _)) (x_icT rfl (tg := 238) rfl hv2) ?_
  refine Rk.tr (F1 := (5, 239, _, _)) (x_iload_n rfl rfl) ?_
  refine Rk.tr (F1 := (5, 240, _, _)) (x_iconst rfl) ?_
  refine Rk.tr (F1 := (5, 296, _, _)) (x_icT rfl (tg := 296) rfl (show ¬ (5 : Int32) = 2 by decide)) ?_
  refine Rk.tr (F1 := (5, 297, _, _)) (x_iconst rfl) ?_
  exact Rk.end rfl (Or.inr (Or.inl ⟨rfl, _, .int, rfl, rfl, rfl, rfl⟩))
def mFun0 (S : MSt) (q : Nat) (x : Int32) : MSt := msA (msI (msA (mNext (mOpen S q 2)) 13 (q + 1) x) 24 (S.1 24 + 1)) 14 (q + 1) (S.1 23)
def mFun (S : MSt) (q : Nat) (x : Nat) : MSt := mMeans (mBegR (mEmit (mEmit (mEmit (mEmit (mFun0 S q (nI x)) 8) (-1)) 2) (S.1 24 + 1 - 1))) (q + 1) x 1 (S.1 24 + 1 - 1)
theorem b_op2 (hp : S.1 9 = nI p) (hn : S.1 1 = nI n) (h60 : n ≤ 60) {x dr : Nat} (hw : S.2 2 p = 2) (h : p + 1 < n) (hq : S.1 10 = nI q) (hq6 : q < 60) (hv : S.2 2 (p + 1) = nI x) (hx : x < 10) (hd : S.1 23 = nI dr) (hd8 : dr + 3 < 800) : Rn E (d + 1) 5 [.ref o] (mh g o S) (some (.int (0))) (mh g o (mFun S q x)) := by
  refine Rn.of (Nat.le_of_ble_eq_true rfl) ?_
  refine Rk.tr (F1 := (5, 1, _, _)) (x_aload_n rfl rfl rfl) ?_
  refine Rk.tr (F1 := (5, 4, _, _)) (m_get rfl rfl (Nat.le_of_ble_eq_true rfl)) ?_
  refine Rk.tr (F1 := (5, 5, _, _)) (x_aload_n rfl rfl rfl) ?_
  refine Rk.tr (F1 := (5, 8, _, _)) (m_get rfl rfl (Nat.le_of_ble_eq_true rfl)) ?_
  refine Rk.tr (F1 := (5, 13, _, _)) (x_icT rfl (tg := 13) rfl (by show S.1 9 < S.1 1; rw [hp, hn]; exact Int32.not_le.mp (nI_ge (by omega) (by omega)))) ?_
  refine Rk.tr (F1 := (5, 14, _, _)) (x_aload_n rfl rfl rfl) ?_
  refine Rk.tr (F1 := (5, 17, _, _)) (m_call (As := []) rfl rfl rfl (Or.inr rfl) rfl rfl rfl (Nat.le_of_ble_eq_true rfl) (c_next hp hn (by omega) h60) rfl) ?_
  refine Rk.tr (F1 := (5, 17, _, _)) (x_top hw) ?_
  refine Rk.tr (F1 := (5, 18, [_, _, _, _], _)) (x_istore_n (i := 1) rfl (Nat.le_of_ble_eq_true rfl)) ?_
  refine Rk.tr (F1 := (5, 19, _, _)) (x_iload_n rfl rfl) ?_
  refine Rk.tr (F1 := (5, 22, _, _)) (x_ifF rfl (tg := 27) rfl (show ¬ (2 : Int32) = 0 by decide)) ?_
  refine Rk.tr (F1 := (5, 23, _, _)) (x_iload_n rfl rfl) ?_
  refine Rk.tr (F1 := (5, 24, _, _)) (x_iconst rfl) ?_
  refine Rk.tr (F1 := (5, 96, _, _)) (x_icT rfl (tg := 96) rfl (show ¬ (2 : Int32) = 1 by decide)) ?_
  refine Rk.tr (F1 := (5, 97, _, _)) (x_iload_n rfl rfl) ?_
  refine Rk.tr (F1 := (5, 100, _, _)) (x_ifF rfl (tg := 106) rfl (show ¬ (2 : Int32) < 0 by decide)) ?_
  refine Rk.tr (F1 := (5, 101, _, _)) (x_iload_n rfl rfl) ?_
  refine Rk.tr (F1 := (5, 103, _, _)) (x_bipush rfl) ?_
  refine Rk.tr (F1 := (5, 108, _, _)) (x_icT rfl (tg := 108) rfl (show (2 : Int32) ≤ 6 by decide)) ?_
  refine Rk.tr (F1 := (5, 109, _, _)) (x_aload_n rfl rfl rfl) ?_
  refine Rk.tr (F1 := (5, 110, _, _)) (x_dup rfl rfl) ?_
  refine Rk.tr (F1 := (5, 113, _, _)) (m_get rfl rfl (Nat.le_of_ble_eq_true rfl)) ?_
  refine Rk.tr (F1 := (5, 114, _, _)) (x_iconst rfl) ?_
  refine Rk.tr (F1 := (5, 115, _, _)) (x_iadd rfl) ?_
  refine Rk.tr (F1 := (5, 118, _, _)) (m_put rfl rfl rfl rfl rfl rfl) ?_
  refine Rk.tr (F1 := (5, 119, _, _)) (x_aload_n rfl rfl rfl) ?_
  refine Rk.tr (F1 := (5, 122, _, _)) (m_get rfl rfl (Nat.le_of_ble_eq_true rfl)) ?_
  refine Rk.tr (F1 := (5, 123, _, _)) (x_aload_n rfl rfl rfl) ?_
  refine Rk.tr (F1 := (5, 126, _, _)) (m_get rfl rfl (Nat.le_of_ble_eq_true rfl)) ?_
  refine Rk.tr (F1 := (5, 127, _, _)) (x_iload_n rfl rfl) ?_
  refine Rk.tr (F1 := (5, 128, _, _)) (m_iast (k := 11) (n := q + 1) rfl rfl rfl (Nat.le_of_ble_eq_true rfl) (by show S.1 10 + 1 = nI (q + 1); rw [hq, nI_1]) (show q + 1 < 61 by omega)) ?_
  refine Rk.tr (F1 := (5, 129, _, _)) (x_aload_n rfl rfl rfl) ?_
  refine Rk.tr (F1 := (5, 132, _, _)) (m_get rfl rfl (Nat.le_of_ble_eq_true rfl)) ?_
  refine Rk.tr (F1 := (5, 133, _, _)) (x_aload_n rfl rfl rfl) ?_
  refine Rk.tr (F1 := (5, 136, _, _)) (m_get rfl rfl (Nat.le_of_ble_eq_true rfl)) ?_
  refine Rk.tr (F1 := (5, 137, _, _)) (x_iconst rfl) ?_
  refine Rk.tr (F1 := (5, 138, _, _)) (m_iast (k := 12) (n := q + 1) rfl rfl rfl (Nat.le_of_ble_eq_true rfl) (by show S.1 10 + 1 = nI (q + 1); rw [hq, nI_1]) (show q + 1 < 61 by omega)) ?_
  refine Rk.tr (F1 := (5, 139, _, _)) (x_iload_n rfl rfl) ?_
  refine Rk.tr (F1 := (5, 140, _, _)) (x_iconst rfl) ?_
  refine Rk.tr (F1 := (5, 153, _, _)) (x_icT rfl (tg := 153) rfl rfl) ?_
  refine Rk.tr (F1 := (5, 154, _, _)) (x_iconst rfl) ?_
  refine Rk.tr (F1 := (5, 158, _, _)) (x_goto rfl rfl) ?_
  refine Rk.tr (F1 := (5, 159, [_, _, _, _], _)) (x_istore_n (i := 2) rfl (Nat.le_of_ble_eq_true rfl)) ?_
  refine Rk.tr (F1 := (5, 160, _, _)) (x_iload_n rfl rfl) ?_
  refine Rk.tr (F1 := (5, 163, _, _)) (x_ifF rfl (tg := 176) rfl (show ¬ (1 : Int32) = 0 by decide)) ?_
  refine Rk.tr (F1 := (5, 164, _, _)) (x_aload_n rfl rfl rfl) ?_
  refine Rk.tr (F1 := (5, 167, _, _)) (m_get rfl rfl (Nat.le_of_ble_eq_true rfl)) ?_
  refine Rk.tr (F1 := (5, 168, _, _)) (x_aload_n rfl rfl rfl) ?_
  refine Rk.tr (F1 := (5, 171, _, _)) (m_get rfl rfl (Nat.le_of_ble_eq_true rfl)) ?_
  refine Rk.tr (F1 := (5, 176, _, _)) (x_icT rfl (tg := 176) rfl (by show S.1 9 + 1 < S.1 1; rw [hp, hn, nI_1]; exact Int32.not_le.mp (nI_ge (by omega) (by omega)))) ?_
  refine Rk.tr (F1 := (5, 177, _, _)) (x_aload_n rfl rfl rfl) ?_
  refine Rk.tr (F1 := (5, 180, _, _)) (m_get rfl rfl (Nat.le_of_ble_eq_true rfl)) ?_
  refine Rk.tr (F1 := (5, 181, _, _)) (x_aload_n rfl rfl rfl) ?_
  refine Rk.tr (F1 := (5, 184, _, _)) (m_get rfl rfl (Nat.le_of_ble_eq_true rfl)) ?_
  refine Rk.tr (F1 := (5, 185, _, _)) (x_iload_n rfl rfl) ?_
  refine Rk.tr (F1 := (5, 188, _, _)) (x_ifF rfl (tg := 195) rfl (show ¬ (1 : Int32) = 0 by decide)) ?_
  refine Rk.tr (F1 := (5, 189, _, _)) (x_aload_n rfl rfl rfl) ?_
  refine Rk.tr (F1 := (5, 192, _, _)) (m_call (As := []) rfl rfl rfl (Or.inr rfl) rfl rfl rfl (Nat.le_of_ble_eq_true rfl) (c_next (p := p + 1) (by show S.1 9 + 1 = _; rw [hp, nI_1]) hn (by omega) h60) rfl) ?_
  refine Rk.tr (F1 := (5, 192, _, _)) (x_top hv) ?_
  refine Rk.tr (F1 := (5, 196, _, _)) (x_goto rfl rfl) ?_
  refine Rk.tr (F1 := (5, 197, _, _)) (m_iast (k := 13) (n := q + 1) rfl rfl rfl (Nat.le_of_ble_eq_true rfl) (by show S.1 10 + 1 = nI (q + 1); rw [hq, nI_1]) (show q + 1 < 61 by omega)) ?_
  refine Rk.tr (F1 := (5, 198, _, _)) (x_iload_n rfl rfl) ?_
  refine Rk.tr (F1 := (5, 201, _, _)) (x_ifF rfl (tg := 238) rfl (show ¬ (1 : Int32) = 0 by decide)) ?_
  refine Rk.tr (F1 := (5, 202, _, _)) (x_aload_n rfl rfl rfl) ?_
  refine Rk.tr (F1 := (5, 205, _, _)) (m_get rfl rfl (Nat.le_of_ble_eq_true rfl)) ?_
  refine Rk.tr (F1 := (5, 206, _, _)) (x_aload_n rfl rfl rfl) ?_
  refine Rk.tr (F1 := (5, 209, _, _)) (m_get rfl rfl (Nat.le_of_ble_eq_true rfl)) ?_
  refine Rk.tr (F1 := (5, 210, _, _)) (m_iald (k := 13) (n := q + 1) rfl rfl rfl (by show S.1 10 + 1 = nI (q + 1); rw [hq, nI_1]) (show q + 1 < 61 by omega)) ?_
  refine Rk.tr (F1 := (5, 210, _, _)) (x_top msA_at) ?_
  refine Rk.tr (F1 := (5, 213, _, _)) (x_ifF rfl (tg := 236) rfl (show ¬ nI x < nI 0 from Int32.not_lt.mpr (nI_le (by omega) (by omega)))) ?_
  refine Rk.tr (F1 := (5, 214, _, _)) (x_aload_n rfl rfl rfl) ?_
  refine Rk.tr (F1 := (5, 217, _, _)) (m_get rfl rfl (Nat.le_of_ble_eq_true rfl)) ?_
  refine Rk.tr (F1 := (5, 218, _, _)) (x_aload_n rfl rfl rfl) ?_
  refine Rk.tr (F1 := (5, 221, _, _)) (m_get rfl rfl (Nat.le_of_ble_eq_true rfl)) ?_
  refine Rk.tr (F1 := (5, 222, _, _)) (m_iald (k := 13) (n := q + 1) rfl rfl rfl (by show S.1 10 + 1 = nI (q + 1); rw [hq, nI_1]) (show q + 1 < 61 by omega)) ?_
  refine Rk.tr (F1 := (5, 222, _, _)) (x_top msA_at) ?_
  refine Rk.tr (F1 := (5, 223, _, _)) (x_iload_n rfl rfl) ?_
  refine Rk.tr (F1 := (5, 224, _, _)) (x_iconst rfl) ?_
  refine Rk.tr (F1 := (5, 231, _, _)) (x_icT rfl (tg := 231) rfl (show ¬ (2 : Int32) = 5 by decide)) ?_
  refine Rk.tr (F1 := (5, 233, _, _)) (x_bipush rfl) ?_
  refine Rk.tr (F1 := (5, 238, _, _)) (x_icT rfl (tg := 238) rfl (show nI x ≤ nI 9 from nI_le (by omega) (by omega))) ?_
  refine Rk.tr (F1 := (5, 239, _, _)) (x_iload_n rfl rfl) ?_
  refine Rk.tr (F1 := (5, 240, _, _)) (x_iconst rfl) ?_
  refine Rk.tr (F1 := (5, 243, _, _)) (x_icF rfl (tg := 296) rfl (fun q => q rfl)) ?_
  refine Rk.tr (F1 := (5, 244, _, _)) (x_aload_n rfl rfl rfl) ?_
  refine Rk.tr (F1 := (5, 247, _, _)) (m_call (As := []) rfl rfl rfl (Or.inr rfl) rfl rfl rfl (Nat.le_of_ble_eq_true rfl) c_newName rfl) ?_
  refine Rk.tr (F1 := (5, 248, [_, _, _, _], _)) (x_istore_n (i := 3) rfl (Nat.le_of_ble_eq_true rfl)) ?_
  refine Rk.tr (F1 := (5, 249, _, _)) (x_aload_n rfl rfl rfl) ?_
  refine Rk.tr (F1 := (5, 252, _, _)) (m_get rfl rfl (Nat.le_of_ble_eq_true rfl)) ?_
  refine Rk.tr (F1 := (5, 253, _, _)) (x_aload_n rfl rfl rfl) ?_
  refine Rk.tr (F1 := (5, 256, _, _)) (m_get rfl rfl (Nat.le_of_ble_eq_true rfl)) ?_
  refine Rk.tr (F1 := (5, 257, _, _)) (x_aload_n rfl rfl rfl) ?_
  refine Rk.tr (F1 := (5, 260, _, _)) (m_get rfl rfl (Nat.le_of_ble_eq_true rfl)) ?_
  refine Rk.tr (F1 := (5, 261, _, _)) (m_iast (k := 14) (n := q + 1) rfl rfl rfl (Nat.le_of_ble_eq_true rfl) (by show S.1 10 + 1 = nI (q + 1); rw [hq, nI_1]) (show q + 1 < 61 by omega)) ?_
  refine Rk.tr (F1 := (5, 262, _, _)) (x_aload_n rfl rfl rfl) ?_
  refine Rk.tr (F1 := (5, 264, _, _)) (x_bipush rfl) ?_
  refine Rk.tr (F1 := (5, 267, _, _)) (m_call (As := [_]) rfl rfl rfl (Or.inr rfl) rfl rfl rfl (Nat.le_of_ble_eq_true rfl) (c_emit (n := dr) hd (by omega)) rfl) ?_
  refine Rk.tr (F1 := (5, 268, _, _)) (x_aload_n rfl rfl rfl) ?_
  refine Rk.tr (F1 := (5, 269, _, _)) (x_iconst rfl) ?_
  refine Rk.tr (F1 := (5, 272, _, _)) (m_call (As := [_]) rfl rfl rfl (Or.inr rfl) rfl rfl rfl (Nat.le_of_ble_eq_true rfl) (c_emit (n := dr + 1) (by show S.1 23 + 1 = _; rw [hd, nI_1]) (by omega)) rfl) ?_
  refine Rk.tr (F1 := (5, 273, _, _)) (x_aload_n rfl rfl rfl) ?_
  refine Rk.tr (F1 := (5, 274, _, _)) (x_iconst rfl) ?_
  refine Rk.tr (F1 := (5, 277, _, _)) (m_call (As := [_]) rfl rfl rfl (Or.inr rfl) rfl rfl rfl (Nat.le_of_ble_eq_true rfl) (c_emit (n := dr + 2) (by show S.1 23 + 1 + 1 = _; rw [hd, nI_1, nI_1]) (by omega)) rfl) ?_
  refine Rk.tr (F1 := (5, 278, _, _)) (x_aload_n rfl rfl rfl) ?_
  refine Rk.tr (F1 := (5, 279, _, _)) (x_iload_n rfl rfl) ?_
  refine Rk.tr (F1 := (5, 282, _, _)) (m_call (As := [_]) rfl rfl rfl (Or.inr rfl) rfl rfl rfl (Nat.le_of_ble_eq_true rfl) (c_emit (n := dr + 3) (by show S.1 23 + 1 + 1 + 1 = _; rw [hd, nI_1, nI_1, nI_1]) (by omega)) rfl) ?_
  refine Rk.tr (F1 := (5, 283, _, _)) (x_aload_n rfl rfl rfl) ?_
  refine Rk.tr (F1 := (5, 286, _, _)) (m_call (As := []) rfl rfl rfl (Or.inr rfl) rfl rfl rfl (Nat.le_of_ble_eq_true rfl) c_rowBegins rfl) ?_
  refine Rk.tr (F1 := (5, 287, _, _)) (x_aload_n rfl rfl rfl) ?_
  refine Rk.tr (F1 := (5, 288, _, _)) (x_aload_n rfl rfl rfl) ?_
  refine Rk.tr (F1 := (5, 291, _, _)) (m_get rfl rfl (Nat.le_of_ble_eq_true rfl)) ?_
  refine Rk.tr (F1 := (5, 291, _, _)) (x_top (y := nI (q + 1)) (by show S.1 10 + 1 = nI (q + 1); rw [hq, nI_1])) ?_
  refine Rk.tr (F1 := (5, 292, _, _)) (x_iconst rfl) ?_
  refine Rk.tr (F1 := (5, 293, _, _)) (x_iload_n rfl rfl) ?_
  refine Rk.tr (F1 := (5, 296, _, _)) (m_call (As := [_, _, _]) rfl rfl rfl (Or.inr rfl) rfl rfl rfl (Nat.le_of_ble_eq_true rfl) (c_means (by omega) hx (if_pos ⟨rfl, rfl⟩)) rfl) ?_
  refine Rk.tr (F1 := (5, 297, _, _)) (x_iconst rfl) ?_
  exact Rk.end rfl (Or.inr (Or.inl ⟨rfl, _, .int, rfl, rfl, rfl, rfl⟩))
end M13
end
section
/-! ===== the reference's conversion: goesOn; the loop of converts ===== -/
def mRowE (S : MSt) : MSt := mEmit (mEmit (mEmit S 9) (S.1 17)) (S.1 18)
def emK (S : MSt) (q : Nat) : MSt := mEmit (mEmit S (S.2 15 q)) (S.2 16 q)
def emA (S : MSt) : MSt := mEmit (mEmit S (S.1 17)) (S.1 18)
def emD (S : MSt) (q : Nat) : MSt := mEmit S (S.2 13 q)
def mCl (S : MSt) : MSt := msI S 10 (S.1 10 - 1)
def mBr0 (S : MSt) (q : Nat) : MSt := mBegR (emA (mEmit (mEmit (mEmit (msA S 14 q (S.1 23)) 8) (-1)) 6))
def mPr0a (S : MSt) (q : Nat) : MSt := msA S 15 q (S.1 17)
def mPr0b (S : MSt) (q : Nat) : MSt := msA S 16 q (S.1 18)
def mPr0 (S : MSt) (q : Nat) : MSt := mPr0b (mPr0a S q) q
def mPr3 (S : MSt) (q : Nat) : MSt := mCl (msI (msI (emA (emK (mEmit (mEmit (mEmit (msI S 24 (S.1 24 + 1)) 8) (S.1 24 + 1 - 1)) 3) q)) 17 1) 18 (S.1 24 + 1 - 1))
def mPr5 (S : MSt) (q : Nat) : MSt := mCl (msI (msI (emA (emK (emD (mEmit (mEmit (mEmit (msI S 24 (S.1 24 + 1)) 8) (S.1 24 + 1 - 1)) 5) q) q)) 17 1) 18 (S.1 24 + 1 - 1))
def mS0 (S : MSt) (q : Nat) : MSt := msA S 12 q (S.2 12 q + 1)
section M14
variable {E : PE} {d o p q n dr hd x : Nat} {g : PH} {S : MSt}
theorem br0 (hq : q < 61) (hdr : S.1 23 = nI dr) (h8 : dr + 10 < 800) : Rn E (d + 3) 17 [.ref o, .int (nI q), .int 0] (mh g o S) (some (.int 0)) (mh g o (mBr0 S q)) := by
  refine Rn.of (Nat.le_of_ble_eq_true rfl) ?_
  refine Rk.tr (F1 := (17, 1, _, _)) (x_iload_n rfl rfl) ?_
  refine Rk.tr (F1 := (17, 4, _, _)) (x_ifF rfl (tg := 39) rfl (fun q => q rfl)) ?_
  refine Rk.tr (F1 := (17, 5, _, _)) (x_aload_n rfl rfl rfl) ?_
  refine Rk.tr (F1 := (17, 8, _, _)) (m_get rfl rfl (Nat.le_of_ble_eq_true rfl)) ?_
  refine Rk.tr (F1 := (17, 9, _, _)) (x_iload_n rfl rfl) ?_
  refine Rk.tr (F1 := (17, 10, _, _)) (x_aload_n rfl rfl rfl) ?_
  refine Rk.tr (F1 := (17, 13, _, _)) (m_get rfl rfl (Nat.le_of_ble_eq_true rfl)) ?_
  refine Rk.tr (F1 := (17, 14, _, _)) (m_iast (k := 14) (n := q) rfl rfl rfl (Nat.le_of_ble_eq_true rfl) rfl hq) ?_
  refine Rk.tr (F1 := (17, 15, _, _)) (x_aload_n rfl rfl rfl) ?_
  refine Rk.tr (F1 := (17, 16, _, _)) (x_iconst rfl) ?_
  refine Rk.tr (F1 := (17, 18, _, _)) (x_bipush rfl) ?_
  refine Rk.tr (F1 := (17, 21, _, _)) (m_call (As := [_, _]) rfl rfl rfl (Or.inr rfl) rfl rfl rfl (Nat.le_of_ble_eq_true rfl) (c_bind (n := dr) hdr (by omega)) rfl) ?_
  refine Rk.tr (F1 := (17, 22, _, _)) (x_aload_n rfl rfl rfl) ?_
  refine Rk.tr (F1 := (17, 23, _, _)) (x_aload_n rfl rfl rfl) ?_
  refine Rk.tr (F1 := (17, 26, _, _)) (m_get rfl rfl (Nat.le_of_ble_eq_true rfl)) ?_
  refine Rk.tr (F1 := (17, 27, _, _)) (x_aload_n rfl rfl rfl) ?_
  refine Rk.tr (F1 := (17, 30, _, _)) (m_get rfl rfl (Nat.le_of_ble_eq_true rfl)) ?_
  refine Rk.tr (F1 := (17, 33, _, _)) (m_call (As := [_, _]) rfl rfl rfl (Or.inr rfl) rfl rfl rfl (Nat.le_of_ble_eq_true rfl) (c_emitAtom (n := dr + 3) (by show S.1 23 + 1 + 1 + 1 = _; rw [hdr, nI_1, nI_1, nI_1]) (by omega)) rfl) ?_
  refine Rk.tr (F1 := (17, 34, _, _)) (x_aload_n rfl rfl rfl) ?_
  refine Rk.tr (F1 := (17, 37, _, _)) (m_call (As := []) rfl rfl rfl (Or.inr rfl) rfl rfl rfl (Nat.le_of_ble_eq_true rfl) c_rowBegins rfl) ?_
  refine Rk.tr (F1 := (17, 38, _, _)) (x_iconst rfl) ?_
  exact Rk.end rfl (Or.inr (Or.inl ⟨rfl, _, .boolean, rfl, rfl, rfl, rfl⟩))
theorem br1 (hq : q < 61) (hdr : S.1 23 = nI dr) (h8 : dr + 10 < 800) : Rn E (d + 3) 17 [.ref o, .int (nI q), .int 1] (mh g o S) (some (.int 0)) (mh g o (mRowE S)) := by
  refine Rn.of (Nat.le_of_ble_eq_true rfl) ?_
  refine Rk.tr (F1 := (17, 1, _, _)) (x_iload_n rfl rfl) ?_
  refine Rk.tr (F1 := (17, 39, _, _)) (x_ifT rfl (tg := 39) rfl (show ¬ (1 : Int32) = 0 by decide)) ?_
  refine Rk.tr (F1 := (17, 40, _, _)) (x_aload_n rfl rfl rfl) ?_
  refine Rk.tr (F1 := (17, 43, _, _)) (m_call (As := []) rfl rfl rfl (Or.inr rfl) rfl rfl rfl (Nat.le_of_ble_eq_true rfl) (c_rowEnds (n := dr) hdr (by omega)) rfl) ?_
  refine Rk.tr (F1 := (17, 44, _, _)) (x_iload_n rfl rfl) ?_
  refine Rk.tr (F1 := (17, 45, _, _)) (x_iconst rfl) ?_
  refine Rk.tr (F1 := (17, 48, _, _)) (x_icF rfl (tg := 50) rfl (fun q => q rfl)) ?_
  refine Rk.tr (F1 := (17, 49, _, _)) (x_iconst rfl) ?_
  exact Rk.end rfl (Or.inr (Or.inl ⟨rfl, _, .boolean, rfl, rfl, rfl, rfl⟩))
theorem br2 (hq : q < 61) (h14 : S.2 14 q = nI hd) (hhd : hd + 1 < dr) (hdr : S.1 23 = nI dr) (h8 : dr + 10 < 800) : Rn E (d + 3) 17 [.ref o, .int (nI q), .int 2] (mh g o S) (some (.int 1)) (mh g o (mNamed (mRowE S) hd)) := by
  refine Rn.of (Nat.le_of_ble_eq_true rfl) ?_
  refine Rk.tr (F1 := (17, 1, _, _)) (x_iload_n rfl rfl) ?_
  refine Rk.tr (F1 := (17, 39, _, _)) (x_ifT rfl (tg := 39) rfl (show ¬ (2 : Int32) = 0 by decide)) ?_
  refine Rk.tr (F1 := (17, 40, _, _)) (x_aload_n rfl rfl rfl) ?_
  refine Rk.tr (F1 := (17, 43, _, _)) (m_call (As := []) rfl rfl rfl (Or.inr rfl) rfl rfl rfl (Nat.le_of_ble_eq_true rfl) (c_rowEnds (n := dr) hdr (by omega)) rfl) ?_
  refine Rk.tr (F1 := (17, 44, _, _)) (x_iload_n rfl rfl) ?_
  refine Rk.tr (F1 := (17, 45, _, _)) (x_iconst rfl) ?_
  refine Rk.tr (F1 := (17, 50, _, _)) (x_icT rfl (tg := 50) rfl (show ¬ (2 : Int32) = 1 by decide)) ?_
  refine Rk.tr (F1 := (17, 51, _, _)) (x_aload_n rfl rfl rfl) ?_
  refine Rk.tr (F1 := (17, 52, _, _)) (x_iload_n rfl rfl) ?_
  refine Rk.tr (F1 := (17, 55, _, _)) (m_call (As := [_]) rfl rfl rfl (Or.inr rfl) rfl rfl rfl (Nat.le_of_ble_eq_true rfl) (c_named hq (by omega) h14) rfl) ?_
  refine Rk.tr (F1 := (17, 56, _, _)) (x_iconst rfl) ?_
  exact Rk.end rfl (Or.inr (Or.inl ⟨rfl, _, .boolean, rfl, rfl, rfl, rfl⟩))
theorem pr0 (hq : q < 61) : Rn E (d + 3) 19 [.ref o, .int (nI q), .int 0] (mh g o S) (some (.int 0)) (mh g o (mPr0 S q)) := by
  refine Rn.of (Nat.le_of_ble_eq_true rfl) ?_
  refine Rk.tr (F1 := (19, 1, _, _)) (x_iload_n rfl rfl) ?_
  refine Rk.tr (F1 := (19, 4, _, _)) (x_ifF rfl (tg := 26) rfl (fun q => q rfl)) ?_
  refine Rk.tr (F1 := (19, 5, _, _)) (x_aload_n rfl rfl rfl) ?_
  refine Rk.tr (F1 := (19, 8, _, _)) (m_get rfl rfl (Nat.le_of_ble_eq_true rfl)) ?_
  refine Rk.tr (F1 := (19, 9, _, _)) (x_iload_n rfl rfl) ?_
  refine Rk.tr (F1 := (19, 10, _, _)) (x_aload_n rfl rfl rfl) ?_
  refine Rk.tr (F1 := (19, 13, _, _)) (m_get rfl rfl (Nat.le_of_ble_eq_true rfl)) ?_
  refine Rk.tr (F1 := (19, 14, _, _)) (m_iast (k := 15) (n := q) rfl rfl rfl (Nat.le_of_ble_eq_true rfl) rfl hq) ?_
  refine Rk.tr (F1 := (19, 15, _, _)) (x_aload_n rfl rfl rfl) ?_
  refine Rk.tr (F1 := (19, 18, _, _)) (m_get rfl rfl (Nat.le_of_ble_eq_true rfl)) ?_
  refine Rk.tr (F1 := (19, 19, _, _)) (x_iload_n rfl rfl) ?_
  refine Rk.tr (F1 := (19, 20, _, _)) (x_aload_n rfl rfl rfl) ?_
  refine Rk.tr (F1 := (19, 23, _, _)) (m_get rfl rfl (Nat.le_of_ble_eq_true rfl)) ?_
  refine Rk.tr (F1 := (19, 24, _, _)) (m_iast (k := 16) (n := q) rfl rfl rfl (Nat.le_of_ble_eq_true rfl) rfl hq) ?_
  refine Rk.tr (F1 := (19, 25, _, _)) (x_iconst rfl) ?_
  exact Rk.end rfl (Or.inr (Or.inl ⟨rfl, _, .boolean, rfl, rfl, rfl, rfl⟩))
theorem pr1_3 (hq : q < 61) (hw : S.2 11 q = 3) (hdr : S.1 23 = nI dr) (h8 : dr + 10 < 800) : Rn E (d + 3) 19 [.ref o, .int (nI q), .int 1] (mh g o S) (some (.int 1)) (mh g o (mPr3 S q)) := by
  refine Rn.of (Nat.le_of_ble_eq_true rfl) ?_
  refine Rk.tr (F1 := (19, 1, _, _)) (x_iload_n rfl rfl) ?_
  refine Rk.tr (F1 := (19, 26, _, _)) (x_ifT rfl (tg := 26) rfl (show ¬ (1 : Int32) = 0 by decide)) ?_
  refine Rk.tr (F1 := (19, 27, _, _)) (x_aload_n rfl rfl rfl) ?_
  refine Rk.tr (F1 := (19, 30, _, _)) (m_call (As := []) rfl rfl rfl (Or.inr rfl) rfl rfl rfl (Nat.le_of_ble_eq_true rfl) c_newName rfl) ?_
  refine Rk.tr (F1 := (19, 31, [_, _, _, _], _)) (x_istore_n (i := 3) rfl (Nat.le_of_ble_eq_true rfl)) ?_
  refine Rk.tr (F1 := (19, 32, _, _)) (x_aload_n rfl rfl rfl) ?_
  refine Rk.tr (F1 := (19, 33, _, _)) (x_iload_n rfl rfl) ?_
  refine Rk.tr (F1 := (19, 34, _, _)) (x_aload_n rfl rfl rfl) ?_
  refine Rk.tr (F1 := (19, 37, _, _)) (m_get rfl rfl (Nat.le_of_ble_eq_true rfl)) ?_
  refine Rk.tr (F1 := (19, 38, _, _)) (x_iload_n rfl rfl) ?_
  refine Rk.tr (F1 := (19, 39, _, _)) (m_iald (k := 11) (n := q) rfl rfl rfl rfl hq) ?_
  refine Rk.tr (F1 := (19, 39, _, _)) (x_top hw) ?_
  refine Rk.tr (F1 := (19, 42, _, _)) (m_call (As := [_, _]) rfl rfl rfl (Or.inr rfl) rfl rfl rfl (Nat.le_of_ble_eq_true rfl) (c_bind (n := dr) hdr (by omega)) rfl) ?_
  refine Rk.tr (F1 := (19, 43, _, _)) (x_aload_n rfl rfl rfl) ?_
  refine Rk.tr (F1 := (19, 46, _, _)) (m_get rfl rfl (Nat.le_of_ble_eq_true rfl)) ?_
  refine Rk.tr (F1 := (19, 47, _, _)) (x_iload_n rfl rfl) ?_
  refine Rk.tr (F1 := (19, 48, _, _)) (m_iald (k := 11) (n := q) rfl rfl rfl rfl hq) ?_
  refine Rk.tr (F1 := (19, 48, _, _)) (x_top hw) ?_
  refine Rk.tr (F1 := (19, 49, _, _)) (x_iconst rfl) ?_
  refine Rk.tr (F1 := (19, 62, _, _)) (x_icT rfl (tg := 62) rfl (show ¬ (3 : Int32) = 5 by decide)) ?_
  refine Rk.tr (F1 := (19, 63, _, _)) (x_aload_n rfl rfl rfl) ?_
  refine Rk.tr (F1 := (19, 64, _, _)) (x_aload_n rfl rfl rfl) ?_
  refine Rk.tr (F1 := (19, 67, _, _)) (m_get rfl rfl (Nat.le_of_ble_eq_true rfl)) ?_
  refine Rk.tr (F1 := (19, 68, _, _)) (x_iload_n rfl rfl) ?_
  refine Rk.tr (F1 := (19, 69, _, _)) (m_iald (k := 15) (n := q) rfl rfl rfl rfl hq) ?_
  refine Rk.tr (F1 := (19, 70, _, _)) (x_aload_n rfl rfl rfl) ?_
  refine Rk.tr (F1 := (19, 73, _, _)) (m_get rfl rfl (Nat.le_of_ble_eq_true rfl)) ?_
  refine Rk.tr (F1 := (19, 74, _, _)) (x_iload_n rfl rfl) ?_
  refine Rk.tr (F1 := (19, 75, _, _)) (m_iald (k := 16) (n := q) rfl rfl rfl rfl hq) ?_
  refine Rk.tr (F1 := (19, 78, _, _)) (m_call (As := [_, _]) rfl rfl rfl (Or.inr rfl) rfl rfl rfl (Nat.le_of_ble_eq_true rfl) (c_emitAtom (n := dr + 3) (by show S.1 23 + 1 + 1 + 1 = _; rw [hdr, nI_1, nI_1, nI_1]) (by omega)) rfl) ?_
  refine Rk.tr (F1 := (19, 79, _, _)) (x_aload_n rfl rfl rfl) ?_
  refine Rk.tr (F1 := (19, 80, _, _)) (x_aload_n rfl rfl rfl) ?_
  refine Rk.tr (F1 := (19, 83, _, _)) (m_get rfl rfl (Nat.le_of_ble_eq_true rfl)) ?_
  refine Rk.tr (F1 := (19, 84, _, _)) (x_aload_n rfl rfl rfl) ?_
  refine Rk.tr (F1 := (19, 87, _, _)) (m_get rfl rfl (Nat.le_of_ble_eq_true rfl)) ?_
  refine Rk.tr (F1 := (19, 90, _, _)) (m_call (As := [_, _]) rfl rfl rfl (Or.inr rfl) rfl rfl rfl (Nat.le_of_ble_eq_true rfl) (c_emitAtom (n := dr + 5) (by show S.1 23 + 1 + 1 + 1 + 1 + 1 = _; rw [hdr, nI_1, nI_1, nI_1, nI_1, nI_1]) (by omega)) rfl) ?_
  refine Rk.tr (F1 := (19, 91, _, _)) (x_aload_n rfl rfl rfl) ?_
  refine Rk.tr (F1 := (19, 92, _, _)) (x_iconst rfl) ?_
  refine Rk.tr (F1 := (19, 93, _, _)) (x_iload_n rfl rfl) ?_
  refine Rk.tr (F1 := (19, 96, _, _)) (m_call (As := [_, _]) rfl rfl rfl (Or.inr rfl) rfl rfl rfl (Nat.le_of_ble_eq_true rfl) c_atom rfl) ?_
  refine Rk.tr (F1 := (19, 97, _, _)) (x_aload_n rfl rfl rfl) ?_
  refine Rk.tr (F1 := (19, 98, _, _)) (x_dup rfl rfl) ?_
  refine Rk.tr (F1 := (19, 101, _, _)) (m_get rfl rfl (Nat.le_of_ble_eq_true rfl)) ?_
  refine Rk.tr (F1 := (19, 102, _, _)) (x_iconst rfl) ?_
  refine Rk.tr (F1 := (19, 103, _, _)) (x_isub rfl) ?_
  refine Rk.tr (F1 := (19, 106, _, _)) (m_put rfl rfl rfl rfl rfl rfl) ?_
  refine Rk.tr (F1 := (19, 107, _, _)) (x_iconst rfl) ?_
  exact Rk.end rfl (Or.inr (Or.inl ⟨rfl, _, .boolean, rfl, rfl, rfl, rfl⟩))
theorem pr1_5 (hq : q < 61) (hw : S.2 11 q = 5) (hdr : S.1 23 = nI dr) (h8 : dr + 10 < 800) : Rn E (d + 3) 19 [.ref o, .int (nI q), .int 1] (mh g o S) (some (.int 1)) (mh g o (mPr5 S q)) := by
  refine Rn.of (Nat.le_of_ble_eq_true rfl) ?_
  refine Rk.tr (F1 := (19, 1, _, _)) (x_iload_n rfl rfl) ?_
  refine Rk.tr (F1 := (19, 26, _, _)) (x_ifT rfl (tg := 26) rfl (show ¬ (1 : Int32) = 0 by decide)) ?_
  refine Rk.tr (F1 := (19, 27, _, _)) (x_aload_n rfl rfl rfl) ?_
  refine Rk.tr (F1 := (19, 30, _, _)) (m_call (As := []) rfl rfl rfl (Or.inr rfl) rfl rfl rfl (Nat.le_of_ble_eq_true rfl) c_newName rfl) ?_
  refine Rk.tr (F1 := (19, 31, [_, _, _, _], _)) (x_istore_n (i := 3) rfl (Nat.le_of_ble_eq_true rfl)) ?_
  refine Rk.tr (F1 := (19, 32, _, _)) (x_aload_n rfl rfl rfl) ?_
  refine Rk.tr (F1 := (19, 33, _, _)) (x_iload_n rfl rfl) ?_
  refine Rk.tr (F1 := (19, 34, _, _)) (x_aload_n rfl rfl rfl) ?_
  refine Rk.tr (F1 := (19, 37, _, _)) (m_get rfl rfl (Nat.le_of_ble_eq_true rfl)) ?_
  refine Rk.tr (F1 := (19, 38, _, _)) (x_iload_n rfl rfl) ?_
  refine Rk.tr (F1 := (19, 39, _, _)) (m_iald (k := 11) (n := q) rfl rfl rfl rfl hq) ?_
  refine Rk.tr (F1 := (19, 39, _, _)) (x_top hw) ?_
  refine Rk.tr (F1 := (19, 42, _, _)) (m_call (As := [_, _]) rfl rfl rfl (Or.inr rfl) rfl rfl rfl (Nat.le_of_ble_eq_true rfl) (c_bind (n := dr) hdr (by omega)) rfl) ?_
  refine Rk.tr (F1 := (19, 43, _, _)) (x_aload_n rfl rfl rfl) ?_
  refine Rk.tr (F1 := (19, 46, _, _)) (m_get rfl rfl (Nat.le_of_ble_eq_true rfl)) ?_
  refine Rk.tr (F1 := (19, 47, _, _)) (x_iload_n rfl rfl) ?_
  refine Rk.tr (F1 := (19, 48, _, _)) (m_iald (k := 11) (n := q) rfl rfl rfl rfl hq) ?_
  refine Rk.tr (F1 := (19, 48, _, _)) (x_top hw) ?_
  refine Rk.tr (F1 := (19, 49, _, _)) (x_iconst rfl) ?_
  refine Rk.tr (F1 := (19, 52, _, _)) (x_icF rfl (tg := 62) rfl (fun q => q rfl)) ?_
  refine Rk.tr (F1 := (19, 53, _, _)) (x_aload_n rfl rfl rfl) ?_
  refine Rk.tr (F1 := (19, 54, _, _)) (x_aload_n rfl rfl rfl) ?_
  refine Rk.tr (F1 := (19, 57, _, _)) (m_get rfl rfl (Nat.le_of_ble_eq_true rfl)) ?_
  refine Rk.tr (F1 := (19, 58, _, _)) (x_iload_n rfl rfl) ?_
  refine Rk.tr (F1 := (19, 59, _, _)) (m_iald (k := 13) (n := q) rfl rfl rfl rfl hq) ?_
  refine Rk.tr (F1 := (19, 62, _, _)) (m_call (As := [_]) rfl rfl rfl (Or.inr rfl) rfl rfl rfl (Nat.le_of_ble_eq_true rfl) (c_emit (n := dr + 3) (by show S.1 23 + 1 + 1 + 1 = _; rw [hdr, nI_1, nI_1, nI_1]) (by omega)) rfl) ?_
  refine Rk.tr (F1 := (19, 63, _, _)) (x_aload_n rfl rfl rfl) ?_
  refine Rk.tr (F1 := (19, 64, _, _)) (x_aload_n rfl rfl rfl) ?_
  refine Rk.tr (F1 := (19, 67, _, _)) (m_get rfl rfl (Nat.le_of_ble_eq_true rfl)) ?_
  refine Rk.tr (F1 := (19, 68, _, _)) (x_iload_n rfl rfl) ?_
  refine Rk.tr (F1 := (19, 69, _, _)) (m_iald (k := 15) (n := q) rfl rfl rfl rfl hq) ?_
  refine Rk.tr (F1 := (19, 70, _, _)) (x_aload_n rfl rfl rfl) ?_
  refine Rk.tr (F1 := (19, 73, _, _)) (m_get rfl rfl (Nat.le_of_ble_eq_true rfl)) ?_
  refine Rk.tr (F1 := (19, 74, _, _)) (x_iload_n rfl rfl) ?_
  refine Rk.tr (F1 := (19, 75, _, _)) (m_iald (k := 16) (n := q) rfl rfl rfl rfl hq) ?_
  refine Rk.tr (F1 := (19, 78, _, _)) (m_call (As := [_, _]) rfl rfl rfl (Or.inr rfl) rfl rfl rfl (Nat.le_of_ble_eq_true rfl) (c_emitAtom (n := dr + 4) (by show S.1 23 + 1 + 1 + 1 + 1 = _; rw [hdr, nI_1, nI_1, nI_1, nI_1]) (by omega)) rfl) ?_
  refine Rk.tr (F1 := (19, 79, _, _)) (x_aload_n rfl rfl rfl) ?_
  refine Rk.tr (F1 := (19, 80, _, _)) (x_aload_n rfl rfl rfl) ?_
  refine Rk.tr (F1 := (19, 83, _, _)) (m_get rfl rfl (Nat.le_of_ble_eq_true rfl)) ?_
  refine Rk.tr (F1 := (19, 84, _, _)) (x_aload_n rfl rfl rfl) ?_
  refine Rk.tr (F1 := (19, 87, _, _)) (m_get rfl rfl (Nat.le_of_ble_eq_true rfl)) ?_
  refine Rk.tr (F1 := (19, 90, _, _)) (m_call (As := [_, _]) rfl rfl rfl (Or.inr rfl) rfl rfl rfl (Nat.le_of_ble_eq_true rfl) (c_emitAtom (n := dr + 6) (by show S.1 23 + 1 + 1 + 1 + 1 + 1 + 1 = _; rw [hdr, nI_1, nI_1, nI_1, nI_1, nI_1, nI_1]) (by omega)) rfl) ?_
  refine Rk.tr (F1 := (19, 91, _, _)) (x_aload_n rfl rfl rfl) ?_
  refine Rk.tr (F1 := (19, 92, _, _)) (x_iconst rfl) ?_
  refine Rk.tr (F1 := (19, 93, _, _)) (x_iload_n rfl rfl) ?_
  refine Rk.tr (F1 := (19, 96, _, _)) (m_call (As := [_, _]) rfl rfl rfl (Or.inr rfl) rfl rfl rfl (Nat.le_of_ble_eq_true rfl) c_atom rfl) ?_
  refine Rk.tr (F1 := (19, 97, _, _)) (x_aload_n rfl rfl rfl) ?_
  refine Rk.tr (F1 := (19, 98, _, _)) (x_dup rfl rfl) ?_
  refine Rk.tr (F1 := (19, 101, _, _)) (m_get rfl rfl (Nat.le_of_ble_eq_true rfl)) ?_
  refine Rk.tr (F1 := (19, 102, _, _)) (x_iconst rfl) ?_
  refine Rk.tr (F1 := (19, 103, _, _)) (x_isub rfl) ?_
  refine Rk.tr (F1 := (19, 106, _, _)) (m_put rfl rfl rfl rfl rfl rfl) ?_
  refine Rk.tr (F1 := (19, 107, _, _)) (x_iconst rfl) ?_
  exact Rk.end rfl (Or.inr (Or.inl ⟨rfl, _, .boolean, rfl, rfl, rfl, rfl⟩))
theorem go_fun (hq : q < 61) (h10 : S.1 10 = nI q) (hw : S.2 11 q = 2) (hs : S.2 12 q = 0) (hx : x < 10) (hv : S.2 13 q = nI x) (h14 : S.2 14 q = nI hd) (hhd : hd + 1 < dr) (hdr : S.1 23 = nI dr) (h8 : dr + 10 < 800) : Rn E (d + 4) 12 [.ref o] (mh g o S) (some (.int 1)) (mh g o (mNamed (mAgain (mRowE (mS0 S q)) q x) hd)) := by
  refine Rn.of (Nat.le_of_ble_eq_true rfl) ?_
  refine Rk.tr (F1 := (12, 1, _, _)) (x_aload_n rfl rfl rfl) ?_
  refine Rk.tr (F1 := (12, 4, _, _)) (m_get rfl rfl (Nat.le_of_ble_eq_true rfl)) ?_
  refine Rk.tr (F1 := (12, 4, _, _)) (x_top h10) ?_
  refine Rk.tr (F1 := (12, 5, [_, _, _], _)) (x_istore_n (i := 1) rfl (Nat.le_of_ble_eq_true rfl)) ?_
  refine Rk.tr (F1 := (12, 6, _, _)) (x_aload_n rfl rfl rfl) ?_
  refine Rk.tr (F1 := (12, 9, _, _)) (m_get rfl rfl (Nat.le_of_ble_eq_true rfl)) ?_
  refine Rk.tr (F1 := (12, 10, _, _)) (x_iload_n rfl rfl) ?_
  refine Rk.tr (F1 := (12, 11, _, _)) (m_iald (k := 12) (n := q) rfl rfl rfl rfl hq) ?_
  refine Rk.tr (F1 := (12, 11, _, _)) (x_top hs) ?_
  refine Rk.tr (F1 := (12, 12, [_, _, _], _)) (x_istore_n (i := 2) rfl (Nat.le_of_ble_eq_true rfl)) ?_
  refine Rk.tr (F1 := (12, 13, _, _)) (x_aload_n rfl rfl rfl) ?_
  refine Rk.tr (F1 := (12, 16, _, _)) (m_get rfl rfl (Nat.le_of_ble_eq_true rfl)) ?_
  refine Rk.tr (F1 := (12, 17, _, _)) (x_iload_n rfl rfl) ?_
  refine Rk.tr (F1 := (12, 18, _, _)) (x_dup2 rfl rfl rfl) ?_
  refine Rk.tr (F1 := (12, 19, _, _)) (m_iald (k := 12) (n := q) rfl rfl rfl rfl hq) ?_
  refine Rk.tr (F1 := (12, 20, _, _)) (x_iconst rfl) ?_
  refine Rk.tr (F1 := (12, 21, _, _)) (x_iadd rfl) ?_
  refine Rk.tr (F1 := (12, 22, _, _)) (m_iast (k := 12) (n := q) rfl rfl rfl (Nat.le_of_ble_eq_true rfl) rfl hq) ?_
  refine Rk.tr (F1 := (12, 23, _, _)) (x_aload_n rfl rfl rfl) ?_
  refine Rk.tr (F1 := (12, 26, _, _)) (m_get rfl rfl (Nat.le_of_ble_eq_true rfl)) ?_
  refine Rk.tr (F1 := (12, 27, _, _)) (x_iload_n rfl rfl) ?_
  refine Rk.tr (F1 := (12, 28, _, _)) (m_iald (k := 11) (n := q) rfl rfl rfl rfl hq) ?_
  refine Rk.tr (F1 := (12, 28, _, _)) (x_top hw) ?_
  refine Rk.tr (F1 := (12, 64, _, _)) (x_tswIn (tg := 64) rfl (by decide) (by decide) rfl rfl) ?_
  refine Rk.tr (F1 := (12, 65, _, _)) (x_aload_n rfl rfl rfl) ?_
  refine Rk.tr (F1 := (12, 68, _, _)) (m_call (As := []) rfl rfl rfl (Or.inr rfl) rfl rfl rfl (Nat.le_of_ble_eq_true rfl) (c_rowEnds (n := dr) hdr (by omega)) rfl) ?_
  refine Rk.tr (F1 := (12, 69, _, _)) (x_aload_n rfl rfl rfl) ?_
  refine Rk.tr (F1 := (12, 70, _, _)) (x_iload_n rfl rfl) ?_
  refine Rk.tr (F1 := (12, 73, _, _)) (m_call (As := [_]) rfl rfl rfl (Or.inr rfl) rfl rfl rfl (Nat.le_of_ble_eq_true rfl) (c_again hq hx hv) rfl) ?_
  refine Rk.tr (F1 := (12, 74, _, _)) (x_aload_n rfl rfl rfl) ?_
  refine Rk.tr (F1 := (12, 75, _, _)) (x_iload_n rfl rfl) ?_
  refine Rk.tr (F1 := (12, 78, _, _)) (m_call (As := [_]) rfl rfl rfl (Or.inr rfl) rfl rfl rfl (Nat.le_of_ble_eq_true rfl) (c_named hq (by omega) h14) rfl) ?_
  refine Rk.tr (F1 := (12, 79, _, _)) (x_iconst rfl) ?_
  exact Rk.end rfl (Or.inr (Or.inl ⟨rfl, _, .boolean, rfl, rfl, rfl, rfl⟩))
theorem go_let0 (hq : q < 61) (h10 : S.1 10 = nI q) (hw : S.2 11 q = 4) (hs : S.2 12 q = 0) (hx : x < 10) (hv : S.2 13 q = nI x) : Rn E (d + 4) 12 [.ref o] (mh g o S) (some (.int 0)) (mh g o (mMeans (mS0 S q) q x ((mS0 S q).1 17) ((mS0 S q).1 18))) := by
  refine Rn.of (Nat.le_of_ble_eq_true rfl) ?_
  refine Rk.tr (F1 := (12, 1, _, _)) (x_aload_n rfl rfl rfl) ?_
  refine Rk.tr (F1 := (12, 4, _, _)) (m_get rfl rfl (Nat.le_of_ble_eq_true rfl)) ?_
  refine Rk.tr (F1 := (12, 4, _, _)) (x_top h10) ?_
  refine Rk.tr (F1 := (12, 5, [_, _, _], _)) (x_istore_n (i := 1) rfl (Nat.le_of_ble_eq_true rfl)) ?_
  refine Rk.tr (F1 := (12, 6, _, _)) (x_aload_n rfl rfl rfl) ?_
  refine Rk.tr (F1 := (12, 9, _, _)) (m_get rfl rfl (Nat.le_of_ble_eq_true rfl)) ?_
  refine Rk.tr (F1 := (12, 10, _, _)) (x_iload_n rfl rfl) ?_
  refine Rk.tr (F1 := (12, 11, _, _)) (m_iald (k := 12) (n := q) rfl rfl rfl rfl hq) ?_
  refine Rk.tr (F1 := (12, 11, _, _)) (x_top hs) ?_
  refine Rk.tr (F1 := (12, 12, [_, _, _], _)) (x_istore_n (i := 2) rfl (Nat.le_of_ble_eq_true rfl)) ?_
  refine Rk.tr (F1 := (12, 13, _, _)) (x_aload_n rfl rfl rfl) ?_
  refine Rk.tr (F1 := (12, 16, _, _)) (m_get rfl rfl (Nat.le_of_ble_eq_true rfl)) ?_
  refine Rk.tr (F1 := (12, 17, _, _)) (x_iload_n rfl rfl) ?_
  refine Rk.tr (F1 := (12, 18, _, _)) (x_dup2 rfl rfl rfl) ?_
  refine Rk.tr (F1 := (12, 19, _, _)) (m_iald (k := 12) (n := q) rfl rfl rfl rfl hq) ?_
  refine Rk.tr (F1 := (12, 20, _, _)) (x_iconst rfl) ?_
  refine Rk.tr (F1 := (12, 21, _, _)) (x_iadd rfl) ?_
  refine Rk.tr (F1 := (12, 22, _, _)) (m_iast (k := 12) (n := q) rfl rfl rfl (Nat.le_of_ble_eq_true rfl) rfl hq) ?_
  refine Rk.tr (F1 := (12, 23, _, _)) (x_aload_n rfl rfl rfl) ?_
  refine Rk.tr (F1 := (12, 26, _, _)) (m_get rfl rfl (Nat.le_of_ble_eq_true rfl)) ?_
  refine Rk.tr (F1 := (12, 27, _, _)) (x_iload_n rfl rfl) ?_
  refine Rk.tr (F1 := (12, 28, _, _)) (m_iald (k := 11) (n := q) rfl rfl rfl rfl hq) ?_
  refine Rk.tr (F1 := (12, 28, _, _)) (x_top hw) ?_
  refine Rk.tr (F1 := (12, 80, _, _)) (x_tswIn (tg := 80) rfl (by decide) (by decide) rfl rfl) ?_
  refine Rk.tr (F1 := (12, 81, _, _)) (x_iload_n rfl rfl) ?_
  refine Rk.tr (F1 := (12, 84, _, _)) (x_ifF rfl (tg := 99) rfl (fun q => q rfl)) ?_
  refine Rk.tr (F1 := (12, 85, _, _)) (x_aload_n rfl rfl rfl) ?_
  refine Rk.tr (F1 := (12, 86, _, _)) (x_iload_n rfl rfl) ?_
  refine Rk.tr (F1 := (12, 87, _, _)) (x_aload_n rfl rfl rfl) ?_
  refine Rk.tr (F1 := (12, 90, _, _)) (m_get rfl rfl (Nat.le_of_ble_eq_true rfl)) ?_
  refine Rk.tr (F1 := (12, 91, _, _)) (x_aload_n rfl rfl rfl) ?_
  refine Rk.tr (F1 := (12, 94, _, _)) (m_get rfl rfl (Nat.le_of_ble_eq_true rfl)) ?_
  refine Rk.tr (F1 := (12, 97, _, _)) (m_call (As := [_, _, _]) rfl rfl rfl (Or.inr rfl) rfl rfl rfl (Nat.le_of_ble_eq_true rfl) (c_means hq hx hv) rfl) ?_
  refine Rk.tr (F1 := (12, 98, _, _)) (x_iconst rfl) ?_
  exact Rk.end rfl (Or.inr (Or.inl ⟨rfl, _, .boolean, rfl, rfl, rfl, rfl⟩))
theorem go_let1 (hq : q < 61) (h10 : S.1 10 = nI q) (hw : S.2 11 q = 4) (hs : S.2 12 q = 1) (hx : x < 10) (hv : S.2 13 q = nI x) : Rn E (d + 4) 12 [.ref o] (mh g o S) (some (.int 1)) (mh g o (mCl (mAgain (mS0 S q) q x))) := by
  refine Rn.of (Nat.le_of_ble_eq_true rfl) ?_
  refine Rk.tr (F1 := (12, 1, _, _)) (x_aload_n rfl rfl rfl) ?_
  refine Rk.tr (F1 := (12, 4, _, _)) (m_get rfl rfl (Nat.le_of_ble_eq_true rfl)) ?_
  refine Rk.tr (F1 := (12, 4, _, _)) (x_top h10) ?_
  refine Rk.tr (F1 := (12, 5, [_, _, _], _)) (x_istore_n (i := 1) rfl (Nat.le_of_ble_eq_true rfl)) ?_
  refine Rk.tr (F1 := (12, 6, _, _)) (x_aload_n rfl rfl rfl) ?_
  refine Rk.tr (F1 := (12, 9, _, _)) (m_get rfl rfl (Nat.le_of_ble_eq_true rfl)) ?_
  refine Rk.tr (F1 := (12, 10, _, _)) (x_iload_n rfl rfl) ?_
  refine Rk.tr (F1 := (12, 11, _, _)) (m_iald (k := 12) (n := q) rfl rfl rfl rfl hq) ?_
  refine Rk.tr (F1 := (12, 11, _, _)) (x_top hs) ?_
  refine Rk.tr (F1 := (12, 12, [_, _, _], _)) (x_istore_n (i := 2) rfl (Nat.le_of_ble_eq_true rfl)) ?_
  refine Rk.tr (F1 := (12, 13, _, _)) (x_aload_n rfl rfl rfl) ?_
  refine Rk.tr (F1 := (12, 16, _, _)) (m_get rfl rfl (Nat.le_of_ble_eq_true rfl)) ?_
  refine Rk.tr (F1 := (12, 17, _, _)) (x_iload_n rfl rfl) ?_
  refine Rk.tr (F1 := (12, 18, _, _)) (x_dup2 rfl rfl rfl) ?_
  refine Rk.tr (F1 := (12, 19, _, _)) (m_iald (k := 12) (n := q) rfl rfl rfl rfl hq) ?_
  refine Rk.tr (F1 := (12, 20, _, _)) (x_iconst rfl) ?_
  refine Rk.tr (F1 := (12, 21, _, _)) (x_iadd rfl) ?_
  refine Rk.tr (F1 := (12, 22, _, _)) (m_iast (k := 12) (n := q) rfl rfl rfl (Nat.le_of_ble_eq_true rfl) rfl hq) ?_
  refine Rk.tr (F1 := (12, 23, _, _)) (x_aload_n rfl rfl rfl) ?_
  refine Rk.tr (F1 := (12, 26, _, _)) (m_get rfl rfl (Nat.le_of_ble_eq_true rfl)) ?_
  refine Rk.tr (F1 := (12, 27, _, _)) (x_iload_n rfl rfl) ?_
  refine Rk.tr (F1 := (12, 28, _, _)) (m_iald (k := 11) (n := q) rfl rfl rfl rfl hq) ?_
  refine Rk.tr (F1 := (12, 28, _, _)) (x_top hw) ?_
  refine Rk.tr (F1 := (12, 80, _, _)) (x_tswIn (tg := 80) rfl (by decide) (by decide) rfl rfl) ?_
  refine Rk.tr (F1 := (12, 81, _, _)) (x_iload_n rfl rfl) ?_
  refine Rk.tr (F1 := (12, 99, _, _)) (x_ifT rfl (tg := 99) rfl (show ¬ (1 : Int32) = 0 by decide)) ?_
  refine Rk.tr (F1 := (12, 100, _, _)) (x_aload_n rfl rfl rfl) ?_
  refine Rk.tr (F1 := (12, 101, _, _)) (x_iload_n rfl rfl) ?_
  refine Rk.tr (F1 := (12, 104, _, _)) (m_call (As := [_]) rfl rfl rfl (Or.inr rfl) rfl rfl rfl (Nat.le_of_ble_eq_true rfl) (c_again hq hx hv) rfl) ?_
  refine Rk.tr (F1 := (12, 105, _, _)) (x_aload_n rfl rfl rfl) ?_
  refine Rk.tr (F1 := (12, 106, _, _)) (x_dup rfl rfl) ?_
  refine Rk.tr (F1 := (12, 109, _, _)) (m_get rfl rfl (Nat.le_of_ble_eq_true rfl)) ?_
  refine Rk.tr (F1 := (12, 110, _, _)) (x_iconst rfl) ?_
  refine Rk.tr (F1 := (12, 111, _, _)) (x_isub rfl) ?_
  refine Rk.tr (F1 := (12, 114, _, _)) (m_put rfl rfl rfl rfl rfl rfl) ?_
  refine Rk.tr (F1 := (12, 115, _, _)) (x_iconst rfl) ?_
  exact Rk.end rfl (Or.inr (Or.inl ⟨rfl, _, .boolean, rfl, rfl, rfl, rfl⟩))
theorem go_if0 (hq : q < 61) (h10 : S.1 10 = nI q) (hw : S.2 11 q = 6) (hs : S.2 12 q = 0) (hdr : S.1 23 = nI dr) (h8 : dr + 10 < 800) : Rn E (d + 4) 12 [.ref o] (mh g o S) (some (.int 0)) (mh g o (mBr0 (mS0 S q) q)) := by
  refine Rn.of (Nat.le_of_ble_eq_true rfl) ?_
  refine Rk.tr (F1 := (12, 1, _, _)) (x_aload_n rfl rfl rfl) ?_
  refine Rk.tr (F1 := (12, 4, _, _)) (m_get rfl rfl (Nat.le_of_ble_eq_true rfl)) ?_
  refine Rk.tr (F1 := (12, 4, _, _)) (x_top h10) ?_
  refine Rk.tr (F1 := (12, 5, [_, _, _], _)) (x_istore_n (i := 1) rfl (Nat.le_of_ble_eq_true rfl)) ?_
  refine Rk.tr (F1 := (12, 6, _, _)) (x_aload_n rfl rfl rfl) ?_
  refine Rk.tr (F1 := (12, 9, _, _)) (m_get rfl rfl (Nat.le_of_ble_eq_true rfl)) ?_
  refine Rk.tr (F1 := (12, 10, _, _)) (x_iload_n rfl rfl) ?_
  refine Rk.tr (F1 := (12, 11, _, _)) (m_iald (k := 12) (n := q) rfl rfl rfl rfl hq) ?_
  refine Rk.tr (F1 := (12, 11, _, _)) (x_top hs) ?_
  refine Rk.tr (F1 := (12, 12, [_, _, _], _)) (x_istore_n (i := 2) rfl (Nat.le_of_ble_eq_true rfl)) ?_
  refine Rk.tr (F1 := (12, 13, _, _)) (x_aload_n rfl rfl rfl) ?_
  refine Rk.tr (F1 := (12, 16, _, _)) (m_get rfl rfl (Nat.le_of_ble_eq_true rfl)) ?_
  refine Rk.tr (F1 := (12, 17, _, _)) (x_iload_n rfl rfl) ?_
  refine Rk.tr (F1 := (12, 18, _, _)) (x_dup2 rfl rfl rfl) ?_
  refine Rk.tr (F1 := (12, 19, _, _)) (m_iald (k := 12) (n := q) rfl rfl rfl rfl hq) ?_
  refine Rk.tr (F1 := (12, 20, _, _)) (x_iconst rfl) ?_
  refine Rk.tr (F1 := (12, 21, _, _)) (x_iadd rfl) ?_
  refine Rk.tr (F1 := (12, 22, _, _)) (m_iast (k := 12) (n := q) rfl rfl rfl (Nat.le_of_ble_eq_true rfl) rfl hq) ?_
  refine Rk.tr (F1 := (12, 23, _, _)) (x_aload_n rfl rfl rfl) ?_
  refine Rk.tr (F1 := (12, 26, _, _)) (m_get rfl rfl (Nat.le_of_ble_eq_true rfl)) ?_
  refine Rk.tr (F1 := (12, 27, _, _)) (x_iload_n rfl rfl) ?_
  refine Rk.tr (F1 := (12, 28, _, _)) (m_iald (k := 11) (n := q) rfl rfl rfl rfl hq) ?_
  refine Rk.tr (F1 := (12, 28, _, _)) (x_top hw) ?_
  refine Rk.tr (F1 := (12, 116, _, _)) (x_tswIn (tg := 116) rfl (by decide) (by decide) rfl rfl) ?_
  refine Rk.tr (F1 := (12, 117, _, _)) (x_aload_n rfl rfl rfl) ?_
  refine Rk.tr (F1 := (12, 118, _, _)) (x_iload_n rfl rfl) ?_
  refine Rk.tr (F1 := (12, 119, _, _)) (x_iload_n rfl rfl) ?_
  refine Rk.tr (F1 := (12, 122, _, _)) (m_call (As := [_, _]) rfl rfl rfl (Or.inr rfl) rfl rfl rfl (Nat.le_of_ble_eq_true rfl) (br0 hq hdr h8) rfl) ?_
  exact Rk.end rfl (Or.inr (Or.inl ⟨rfl, _, .boolean, rfl, rfl, rfl, rfl⟩))
theorem go_if1 (hq : q < 61) (h10 : S.1 10 = nI q) (hw : S.2 11 q = 6) (hs : S.2 12 q = 1) (hdr : S.1 23 = nI dr) (h8 : dr + 10 < 800) : Rn E (d + 4) 12 [.ref o] (mh g o S) (some (.int 0)) (mh g o (mRowE (mS0 S q))) := by
  refine Rn.of (Nat.le_of_ble_eq_true rfl) ?_
  refine Rk.tr (F1 := (12, 1, _, _)) (x_aload_n rfl rfl rfl) ?_
  refine Rk.tr (F1 := (12, 4, _, _)) (m_get rfl rfl (Nat.le_of_ble_eq_true rfl)) ?_
  refine Rk.tr (F1 := (12, 4, _, _)) (x_top h10) ?_
  refine Rk.tr (F1 := (12, 5, [_, _, _], _)) (x_istore_n (i := 1) rfl (Nat.le_of_ble_eq_true rfl)) ?_
  refine Rk.tr (F1 := (12, 6, _, _)) (x_aload_n rfl rfl rfl) ?_
  refine Rk.tr (F1 := (12, 9, _, _)) (m_get rfl rfl (Nat.le_of_ble_eq_true rfl)) ?_
  refine Rk.tr (F1 := (12, 10, _, _)) (x_iload_n rfl rfl) ?_
  refine Rk.tr (F1 := (12, 11, _, _)) (m_iald (k := 12) (n := q) rfl rfl rfl rfl hq) ?_
  refine Rk.tr (F1 := (12, 11, _, _)) (x_top hs) ?_
  refine Rk.tr (F1 := (12, 12, [_, _, _], _)) (x_istore_n (i := 2) rfl (Nat.le_of_ble_eq_true rfl)) ?_
  refine Rk.tr (F1 := (12, 13, _, _)) (x_aload_n rfl rfl rfl) ?_
  refine Rk.tr (F1 := (12, 16, _, _)) (m_get rfl rfl (Nat.le_of_ble_eq_true rfl)) ?_
  refine Rk.tr (F1 := (12, 17, _, _)) (x_iload_n rfl rfl) ?_
  refine Rk.tr (F1 := (12, 18, _, _)) (x_dup2 rfl rfl rfl) ?_
  refine Rk.tr (F1 := (12, 19, _, _)) (m_iald (k := 12) (n := q) rfl rfl rfl rfl hq) ?_
  refine Rk.tr (F1 := (12, 20, _, _)) (x_iconst rfl) ?_
  refine Rk.tr (F1 := (12, 21, _, _)) (x_iadd rfl) ?_
  refine Rk.tr (F1 := (12, 22, _, _)) (m_iast (k := 12) (n := q) rfl rfl rfl (Nat.le_of_ble_eq_true rfl) rfl hq) ?_
  refine Rk.tr (F1 := (12, 23, _, _)) (x_aload_n rfl rfl rfl) ?_
  refine Rk.tr (F1 := (12, 26, _, _)) (m_get rfl rfl (Nat.le_of_ble_eq_true rfl)) ?_
  refine Rk.tr (F1 := (12, 27, _, _)) (x_iload_n rfl rfl) ?_
  refine Rk.tr (F1 := (12, 28, _, _)) (m_iald (k := 11) (n := q) rfl rfl rfl rfl hq) ?_
  refine Rk.tr (F1 := (12, 28, _, _)) (x_top hw) ?_
  refine Rk.tr (F1 := (12, 116, _, _)) (x_tswIn (tg := 116) rfl (by decide) (by decide) rfl rfl) ?_
  refine Rk.tr (F1 := (12, 117, _, _)) (x_aload_n rfl rfl rfl) ?_
  refine Rk.tr (F1 := (12, 118, _, _)) (x_iload_n rfl rfl) ?_
  refine Rk.tr (F1 := (12, 119, _, _)) (x_iload_n rfl rfl) ?_
  refine Rk.tr (F1 := (12, 122, _, _)) (m_call (As := [_, _]) rfl rfl rfl (Or.inr rfl) rfl rfl rfl (Nat.le_of_ble_eq_true rfl) (br1 hq hdr h8) rfl) ?_
  exact Rk.end rfl (Or.inr (Or.inl ⟨rfl, _, .boolean, rfl, rfl, rfl, rfl⟩))
theorem go_if2 (hq : q < 61) (h10 : S.1 10 = nI q) (hw : S.2 11 q = 6) (hs : S.2 12 q = 2) (h14 : S.2 14 q = nI hd) (hhd : hd + 1 < dr) (hdr : S.1 23 = nI dr) (h8 : dr + 10 < 800) : Rn E (d + 4) 12 [.ref o] (mh g o S) (some (.int 1)) (mh g o (mNamed (mRowE (mS0 S q)) hd)) := by
  refine Rn.of (Nat.le_of_ble_eq_true rfl) ?_
  refine Rk.tr (F1 := (12, 1, _, _)) (x_aload_n rfl rfl rfl) ?_
  refine Rk.tr (F1 := (12, 4, _, _)) (m_get rfl rfl (Nat.le_of_ble_eq_true rfl)) ?_
  refine Rk.tr (F1 := (12, 4, _, _)) (x_top h10) ?_
  refine Rk.tr (F1 := (12, 5, [_, _, _], _)) (x_istore_n (i := 1) rfl (Nat.le_of_ble_eq_true rfl)) ?_
  refine Rk.tr (F1 := (12, 6, _, _)) (x_aload_n rfl rfl rfl) ?_
  refine Rk.tr (F1 := (12, 9, _, _)) (m_get rfl rfl (Nat.le_of_ble_eq_true rfl)) ?_
  refine Rk.tr (F1 := (12, 10, _, _)) (x_iload_n rfl rfl) ?_
  refine Rk.tr (F1 := (12, 11, _, _)) (m_iald (k := 12) (n := q) rfl rfl rfl rfl hq) ?_
  refine Rk.tr (F1 := (12, 11, _, _)) (x_top hs) ?_
  refine Rk.tr (F1 := (12, 12, [_, _, _], _)) (x_istore_n (i := 2) rfl (Nat.le_of_ble_eq_true rfl)) ?_
  refine Rk.tr (F1 := (12, 13, _, _)) (x_aload_n rfl rfl rfl) ?_
  refine Rk.tr (F1 := (12, 16, _, _)) (m_get rfl rfl (Nat.le_of_ble_eq_true rfl)) ?_
  refine Rk.tr (F1 := (12, 17, _, _)) (x_iload_n rfl rfl) ?_
  refine Rk.tr (F1 := (12, 18, _, _)) (x_dup2 rfl rfl rfl) ?_
  refine Rk.tr (F1 := (12, 19, _, _)) (m_iald (k := 12) (n := q) rfl rfl rfl rfl hq) ?_
  refine Rk.tr (F1 := (12, 20, _, _)) (x_iconst rfl) ?_
  refine Rk.tr (F1 := (12, 21, _, _)) (x_iadd rfl) ?_
  refine Rk.tr (F1 := (12, 22, _, _)) (m_iast (k := 12) (n := q) rfl rfl rfl (Nat.le_of_ble_eq_true rfl) rfl hq) ?_
  refine Rk.tr (F1 := (12, 23, _, _)) (x_aload_n rfl rfl rfl) ?_
  refine Rk.tr (F1 := (12, 26, _, _)) (m_get rfl rfl (Nat.le_of_ble_eq_true rfl)) ?_
  refine Rk.tr (F1 := (12, 27, _, _)) (x_iload_n rfl rfl) ?_
  refine Rk.tr (F1 := (12, 28, _, _)) (m_iald (k := 11) (n := q) rfl rfl rfl rfl hq) ?_
  refine Rk.tr (F1 := (12, 28, _, _)) (x_top hw) ?_
  refine Rk.tr (F1 := (12, 116, _, _)) (x_tswIn (tg := 116) rfl (by decide) (by decide) rfl rfl) ?_
  refine Rk.tr (F1 := (12, 117, _, _)) (x_aload_n rfl rfl rfl) ?_
  refine Rk.tr (F1 := (12, 118, _, _)) (x_iload_n rfl rfl) ?_
  refine Rk.tr (F1 := (12, 119, _, _)) (x_iload_n rfl rfl) ?_
  refine Rk.tr (F1 := (12, 122, _, _)) (m_call (As := [_, _]) rfl rfl rfl (Or.inr rfl) rfl rfl rfl (Nat.le_of_ble_eq_true rfl) (br2 hq h14 hhd hdr h8) rfl) ?_
  exact Rk.end rfl (Or.inr (Or.inl ⟨rfl, _, .boolean, rfl, rfl, rfl, rfl⟩))
theorem go_pa3 (hq : q < 61) (h10 : S.1 10 = nI q) (hw : S.2 11 q = 3) (hs : S.2 12 q = 0)  : Rn E (d + 4) 12 [.ref o] (mh g o S) (some (.int 0)) (mh g o (mPr0 (mS0 S q) q)) := by
  refine Rn.of (Nat.le_of_ble_eq_true rfl) ?_
  refine Rk.tr (F1 := (12, 1, _, _)) (x_aload_n rfl rfl rfl) ?_
  refine Rk.tr (F1 := (12, 4, _, _)) (m_get rfl rfl (Nat.le_of_ble_eq_true rfl)) ?_
  refine Rk.tr (F1 := (12, 4, _, _)) (x_top h10) ?_
  refine Rk.tr (F1 := (12, 5, [_, _, _], _)) (x_istore_n (i := 1) rfl (Nat.le_of_ble_eq_true rfl)) ?_
  refine Rk.tr (F1 := (12, 6, _, _)) (x_aload_n rfl rfl rfl) ?_
  refine Rk.tr (F1 := (12, 9, _, _)) (m_get rfl rfl (Nat.le_of_ble_eq_true rfl)) ?_
  refine Rk.tr (F1 := (12, 10, _, _)) (x_iload_n rfl rfl) ?_
  refine Rk.tr (F1 := (12, 11, _, _)) (m_iald (k := 12) (n := q) rfl rfl rfl rfl hq) ?_
  refine Rk.tr (F1 := (12, 11, _, _)) (x_top hs) ?_
  refine Rk.tr (F1 := (12, 12, [_, _, _], _)) (x_istore_n (i := 2) rfl (Nat.le_of_ble_eq_true rfl)) ?_
  refine Rk.tr (F1 := (12, 13, _, _)) (x_aload_n rfl rfl rfl) ?_
  refine Rk.tr (F1 := (12, 16, _, _)) (m_get rfl rfl (Nat.le_of_ble_eq_true rfl)) ?_
  refine Rk.tr (F1 := (12, 17, _, _)) (x_iload_n rfl rfl) ?_
  refine Rk.tr (F1 := (12, 18, _, _)) (x_dup2 rfl rfl rfl) ?_
  refine Rk.tr (F1 := (12, 19, _, _)) (m_iald (k := 12) (n := q) rfl rfl rfl rfl hq) ?_
  refine Rk.tr (F1 := (12, 20, _, _)) (x_iconst rfl) ?_
  refine Rk.tr (F1 := (12, 21, _, _)) (x_iadd rfl) ?_
  refine Rk.tr (F1 := (12, 22, _, _)) (m_iast (k := 12) (n := q) rfl rfl rfl (Nat.le_of_ble_eq_true rfl) rfl hq) ?_
  refine Rk.tr (F1 := (12, 23, _, _)) (x_aload_n rfl rfl rfl) ?_
  refine Rk.tr (F1 := (12, 26, _, _)) (m_get rfl rfl (Nat.le_of_ble_eq_true rfl)) ?_
  refine Rk.tr (F1 := (12, 27, _, _)) (x_iload_n rfl rfl) ?_
  refine Rk.tr (F1 := (12, 28, _, _)) (m_iald (k := 11) (n := q) rfl rfl rfl rfl hq) ?_
  refine Rk.tr (F1 := (12, 28, _, _)) (x_top hw) ?_
  refine Rk.tr (F1 := (12, 123, _, _)) (x_tswIn (tg := 123) rfl (by decide) (by decide) rfl rfl) ?_
  refine Rk.tr (F1 := (12, 124, _, _)) (x_aload_n rfl rfl rfl) ?_
  refine Rk.tr (F1 := (12, 125, _, _)) (x_iload_n rfl rfl) ?_
  refine Rk.tr (F1 := (12, 126, _, _)) (x_iload_n rfl rfl) ?_
  refine Rk.tr (F1 := (12, 129, _, _)) (m_call (As := [_, _]) rfl rfl rfl (Or.inr rfl) rfl rfl rfl (Nat.le_of_ble_eq_true rfl) (pr0 hq) rfl) ?_
  exact Rk.end rfl (Or.inr (Or.inl ⟨rfl, _, .boolean, rfl, rfl, rfl, rfl⟩))
theorem go_pb3 (hq : q < 61) (h10 : S.1 10 = nI q) (hw : S.2 11 q = 3) (hs : S.2 12 q = 1) (hdr : S.1 23 = nI dr) (h8 : dr + 10 < 800) : Rn E (d + 4) 12 [.ref o] (mh g o S) (some (.int 1)) (mh g o (mPr3 (mS0 S q) q)) := by
  refine Rn.of (Nat.le_of_ble_eq_true rfl) ?_
  refine Rk.tr (F1 := (12, 1, _, _)) (x_aload_n rfl rfl rfl) ?_
  refine Rk.tr (F1 := (12, 4, _, _)) (m_get rfl rfl (Nat.le_of_ble_eq_true rfl)) ?_
  refine Rk.tr (F1 := (12, 4, _, _)) (x_top h10) ?_
  refine Rk.tr (F1 := (12, 5, [_, _, _], _)) (x_istore_n (i := 1) rfl (Nat.le_of_ble_eq_true rfl)) ?_
  refine Rk.tr (F1 := (12, 6, _, _)) (x_aload_n rfl rfl rfl) ?_
  refine Rk.tr (F1 := (12, 9, _, _)) (m_get rfl rfl (Nat.le_of_ble_eq_true rfl)) ?_
  refine Rk.tr (F1 := (12, 10, _, _)) (x_iload_n rfl rfl) ?_
  refine Rk.tr (F1 := (12, 11, _, _)) (m_iald (k := 12) (n := q) rfl rfl rfl rfl hq) ?_
  refine Rk.tr (F1 := (12, 11, _, _)) (x_top hs) ?_
  refine Rk.tr (F1 := (12, 12, [_, _, _], _)) (x_istore_n (i := 2) rfl (Nat.le_of_ble_eq_true rfl)) ?_
  refine Rk.tr (F1 := (12, 13, _, _)) (x_aload_n rfl rfl rfl) ?_
  refine Rk.tr (F1 := (12, 16, _, _)) (m_get rfl rfl (Nat.le_of_ble_eq_true rfl)) ?_
  refine Rk.tr (F1 := (12, 17, _, _)) (x_iload_n rfl rfl) ?_
  refine Rk.tr (F1 := (12, 18, _, _)) (x_dup2 rfl rfl rfl) ?_
  refine Rk.tr (F1 := (12, 19, _, _)) (m_iald (k := 12) (n := q) rfl rfl rfl rfl hq) ?_
  refine Rk.tr (F1 := (12, 20, _, _)) (x_iconst rfl) ?_
  refine Rk.tr (F1 := (12, 21, _, _)) (x_iadd rfl) ?_
  refine Rk.tr (F1 := (12, 22, _, _)) (m_iast (k := 12) (n := q) rfl rfl rfl (Nat.le_of_ble_eq_true rfl) rfl hq) ?_
  refine Rk.tr (F1 := (12, 23, _, _)) (x_aload_n rfl rfl rfl) ?_
  refine Rk.tr (F1 := (12, 26, _, _)) (m_get rfl rfl (Nat.le_of_ble_eq_true rfl)) ?_
  refine Rk.tr (F1 := (12, 27, _, _)) (x_iload_n rfl rfl) ?_
  refine Rk.tr (F1 := (12, 28, _, _)) (m_iald (k := 11) (n := q) rfl rfl rfl rfl hq) ?_
  refine Rk.tr (F1 := (12, 28, _, _)) (x_top hw) ?_
  refine Rk.tr (F1 := (12, 123, _, _)) (x_tswIn (tg := 123) rfl (by decide) (by decide) rfl rfl) ?_
  refine Rk.tr (F1 := (12, 124, _, _)) (x_aload_n rfl rfl rfl) ?_
  refine Rk.tr (F1 := (12, 125, _, _)) (x_iload_n rfl rfl) ?_
  refine Rk.tr (F1 := (12, 126, _, _)) (x_iload_n rfl rfl) ?_
  refine Rk.tr (F1 := (12, 129, _, _)) (m_call (As := [_, _]) rfl rfl rfl (Or.inr rfl) rfl rfl rfl (Nat.le_of_ble_eq_true rfl) (pr1_3 hq hw hdr h8) rfl) ?_
  exact Rk.end rfl (Or.inr (Or.inl ⟨rfl, _, .boolean, rfl, rfl, rfl, rfl⟩))
theorem go_pa5 (hq : q < 61) (h10 : S.1 10 = nI q) (hw : S.2 11 q = 5) (hs : S.2 12 q = 0)  : Rn E (d + 4) 12 [.ref o] (mh g o S) (some (.int 0)) (mh g o (mPr0 (mS0 S q) q)) := by
  refine Rn.of (Nat.le_of_ble_eq_true rfl) ?_
  refine Rk.tr (F1 := (12, 1, _, _)) (x_aload_n rfl rfl rfl) ?_
  refine Rk.tr (F1 := (12, 4, _, _)) (m_get rfl rfl (Nat.le_of_ble_eq_true rfl)) ?_
  refine Rk.tr (F1 := (12, 4, _, _)) (x_top h10) ?_
  refine Rk.tr (F1 := (12, 5, [_, _, _], _)) (x_istore_n (i := 1) rfl (Nat.le_of_ble_eq_true rfl)) ?_
  refine Rk.tr (F1 := (12, 6, _, _)) (x_aload_n rfl rfl rfl) ?_
  refine Rk.tr (F1 := (12, 9, _, _)) (m_get rfl rfl (Nat.le_of_ble_eq_true rfl)) ?_
  refine Rk.tr (F1 := (12, 10, _, _)) (x_iload_n rfl rfl) ?_
  refine Rk.tr (F1 := (12, 11, _, _)) (m_iald (k := 12) (n := q) rfl rfl rfl rfl hq) ?_
  refine Rk.tr (F1 := (12, 11, _, _)) (x_top hs) ?_
  refine Rk.tr (F1 := (12, 12, [_, _, _], _)) (x_istore_n (i := 2) rfl (Nat.le_of_ble_eq_true rfl)) ?_
  refine Rk.tr (F1 := (12, 13, _, _)) (x_aload_n rfl rfl rfl) ?_
  refine Rk.tr (F1 := (12, 16, _, _)) (m_get rfl rfl (Nat.le_of_ble_eq_true rfl)) ?_
  refine Rk.tr (F1 := (12, 17, _, _)) (x_iload_n rfl rfl) ?_
  refine Rk.tr (F1 := (12, 18, _, _)) (x_dup2 rfl rfl rfl) ?_
  refine Rk.tr (F1 := (12, 19, _, _)) (m_iald (k := 12) (n := q) rfl rfl rfl rfl hq) ?_
  refine Rk.tr (F1 := (12, 20, _, _)) (x_iconst rfl) ?_
  refine Rk.tr (F1 := (12, 21, _, _)) (x_iadd rfl) ?_
  refine Rk.tr (F1 := (12, 22, _, _)) (m_iast (k := 12) (n := q) rfl rfl rfl (Nat.le_of_ble_eq_true rfl) rfl hq) ?_
  refine Rk.tr (F1 := (12, 23, _, _)) (x_aload_n rfl rfl rfl) ?_
  refine Rk.tr (F1 := (12, 26, _, _)) (m_get rfl rfl (Nat.le_of_ble_eq_true rfl)) ?_
  refine Rk.tr (F1 := (12, 27, _, _)) (x_iload_n rfl rfl) ?_
  refine Rk.tr (F1 := (12, 28, _, _)) (m_iald (k := 11) (n := q) rfl rfl rfl rfl hq) ?_
  refine Rk.tr (F1 := (12, 28, _, _)) (x_top hw) ?_
  refine Rk.tr (F1 := (12, 123, _, _)) (x_tswIn (tg := 123) rfl (by decide) (by decide) rfl rfl) ?_
  refine Rk.tr (F1 := (12, 124, _, _)) (x_aload_n rfl rfl rfl) ?_
  refine Rk.tr (F1 := (12, 125, _, _)) (x_iload_n rfl rfl) ?_
  refine Rk.tr (F1 := (12, 126, _, _)) (x_iload_n rfl rfl) ?_
  refine Rk.tr (F1 := (12, 129, _, _)) (m_call (As := [_, _]) rfl rfl rfl (Or.inr rfl) rfl rfl rfl (Nat.le_of_ble_eq_true rfl) (pr0 hq) rfl) ?_
  exact Rk.end rfl (Or.inr (Or.inl ⟨rfl, _, .boolean, rfl, rfl, rfl, rfl⟩))
theorem go_pb5 (hq : q < 61) (h10 : S.1 10 = nI q) (hw : S.2 11 q = 5) (hs : S.2 12 q = 1) (hdr : S.1 23 = nI dr) (h8 : dr + 10 < 800) : Rn E (d + 4) 12 [.ref o] (mh g o S) (some (.int 1)) (mh g o (mPr5 (mS0 S q) q)) := by
  refine Rn.of (Nat.le_of_ble_eq_true rfl) ?_
  refine Rk.tr (F1 := (12, 1, _, _)) (x_aload_n rfl rfl rfl) ?_
  refine Rk.tr (F1 := (12, 4, _, _)) (m_get rfl rfl (Nat.le_of_ble_eq_true rfl)) ?_
  refine Rk.tr (F1 := (12, 4, _, _)) (x_top h10) ?_
  refine Rk.tr (F1 := (12, 5, [_, _, _], _)) (x_istore_n (i := 1) rfl (Nat.le_of_ble_eq_true rfl)) ?_
  refine Rk.tr (F1 := (12, 6, _, _)) (x_aload_n rfl rfl rfl) ?_
  refine Rk.tr (F1 := (12, 9, _, _)) (m_get rfl rfl (Nat.le_of_ble_eq_true rfl)) ?_
  refine Rk.tr (F1 := (12, 10, _, _)) (x_iload_n rfl rfl) ?_
  refine Rk.tr (F1 := (12, 11, _, _)) (m_iald (k := 12) (n := q) rfl rfl rfl rfl hq) ?_
  refine Rk.tr (F1 := (12, 11, _, _)) (x_top hs) ?_
  refine Rk.tr (F1 := (12, 12, [_, _, _], _)) (x_istore_n (i := 2) rfl (Nat.le_of_ble_eq_true rfl)) ?_
  refine Rk.tr (F1 := (12, 13, _, _)) (x_aload_n rfl rfl rfl) ?_
  refine Rk.tr (F1 := (12, 16, _, _)) (m_get rfl rfl (Nat.le_of_ble_eq_true rfl)) ?_
  refine Rk.tr (F1 := (12, 17, _, _)) (x_iload_n rfl rfl) ?_
  refine Rk.tr (F1 := (12, 18, _, _)) (x_dup2 rfl rfl rfl) ?_
  refine Rk.tr (F1 := (12, 19, _, _)) (m_iald (k := 12) (n := q) rfl rfl rfl rfl hq) ?_
  refine Rk.tr (F1 := (12, 20, _, _)) (x_iconst rfl) ?_
  refine Rk.tr (F1 := (12, 21, _, _)) (x_iadd rfl) ?_
  refine Rk.tr (F1 := (12, 22, _, _)) (m_iast (k := 12) (n := q) rfl rfl rfl (Nat.le_of_ble_eq_true rfl) rfl hq) ?_
  refine Rk.tr (F1 := (12, 23, _, _)) (x_aload_n rfl rfl rfl) ?_
  refine Rk.tr (F1 := (12, 26, _, _)) (m_get rfl rfl (Nat.le_of_ble_eq_true rfl)) ?_
  refine Rk.tr (F1 := (12, 27, _, _)) (x_iload_n rfl rfl) ?_
  refine Rk.tr (F1 := (12, 28, _, _)) (m_iald (k := 11) (n := q) rfl rfl rfl rfl hq) ?_
  refine Rk.tr (F1 := (12, 28, _, _)) (x_top hw) ?_
  refine Rk.tr (F1 := (12, 123, _, _)) (x_tswIn (tg := 123) rfl (by decide) (by decide) rfl rfl) ?_
  refine Rk.tr (F1 := (12, 124, _, _)) (x_aload_n rfl rfl rfl) ?_
  refine Rk.tr (F1 := (12, 125, _, _)) (x_iload_n rfl rfl) ?_
  refine Rk.tr (F1 := (12, 126, _, _)) (x_iload_n rfl rfl) ?_
  refine Rk.tr (F1 := (12, 129, _, _)) (m_call (As := [_, _]) rfl rfl rfl (Or.inr rfl) rfl rfl rfl (Nat.le_of_ble_eq_true rfl) (pr1_5 hq hw hdr h8) rfl) ?_
  exact Rk.end rfl (Or.inr (Or.inl ⟨rfl, _, .boolean, rfl, rfl, rfl, rfl⟩))
theorem cl_1 {S' : MSt} {x y : Option Value} (h : Rn E (d + 4) 5 [.ref o] (mh g o S) (some (.int 1)) (mh g o S')) : Ex E (d + 5) (4, 53, [some (.ref o), some (.int 1), x, y], []) (mh g o S) (4, 79, [some (.ref o), some (.int 1), none, some (.int 1)], []) (mh g o S') := by
  refine Ex.tr (F1 := (4, 54, _, _)) (x_iload_n rfl rfl) ?_
  refine Ex.tr (F1 := (4, 57, _, _)) (x_ifF rfl (tg := 111) rfl (show ¬ (1 : Int32) = 0 by decide)) ?_
  refine Ex.tr (F1 := (4, 58, _, _)) (x_aload_n rfl rfl rfl) ?_
  refine Ex.tr (F1 := (4, 61, _, _)) (m_call (As := []) rfl rfl rfl (Or.inr rfl) rfl rfl rfl (Nat.le_of_ble_eq_true rfl) h rfl) ?_
  refine Ex.tr (F1 := (4, 62, [_, _, _, _], _)) (x_istore_n (i := 2) rfl (Nat.le_of_ble_eq_true rfl)) ?_
  refine Ex.tr (F1 := (4, 63, _, _)) (x_iload_n rfl rfl) ?_
  refine Ex.tr (F1 := (4, 68, _, _)) (x_ifT rfl (tg := 68) rfl (show (0 : Int32) ≤ 1 by decide)) ?_
  refine Ex.tr (F1 := (4, 69, _, _)) (x_iload_n rfl rfl) ?_
  refine Ex.tr (F1 := (4, 70, _, _)) (x_iconst rfl) ?_
  refine Ex.tr (F1 := (4, 73, _, _)) (x_icF rfl (tg := 77) rfl (fun q => q rfl)) ?_
  refine Ex.tr (F1 := (4, 74, _, _)) (x_iconst rfl) ?_
  refine Ex.tr (F1 := (4, 78, _, _)) (x_goto rfl rfl) ?_
  refine Ex.tr (F1 := (4, 79, [_, _, _, _], _)) (x_istore_n (i := 3) rfl (Nat.le_of_ble_eq_true rfl)) ?_
  exact x_wk ⟨Or.inr rfl, Or.inr rfl, Or.inl rfl, Or.inr rfl, trivial⟩
theorem cl_0 {S' : MSt} {x y : Option Value} (h : Rn E (d + 4) 5 [.ref o] (mh g o S) (some (.int 0)) (mh g o S')) : Ex E (d + 5) (4, 53, [some (.ref o), some (.int 1), x, y], []) (mh g o S) (4, 53, [some (.ref o), some (.int 1), none, none], []) (mh g o S') := by
  refine Ex.tr (F1 := (4, 54, _, _)) (x_iload_n rfl rfl) ?_
  refine Ex.tr (F1 := (4, 57, _, _)) (x_ifF rfl (tg := 111) rfl (show ¬ (1 : Int32) = 0 by decide)) ?_
  refine Ex.tr (F1 := (4, 58, _, _)) (x_aload_n rfl rfl rfl) ?_
  refine Ex.tr (F1 := (4, 61, _, _)) (m_call (As := []) rfl rfl rfl (Or.inr rfl) rfl rfl rfl (Nat.le_of_ble_eq_true rfl) h rfl) ?_
  refine Ex.tr (F1 := (4, 62, [_, _, _, _], _)) (x_istore_n (i := 2) rfl (Nat.le_of_ble_eq_true rfl)) ?_
  refine Ex.tr (F1 := (4, 63, _, _)) (x_iload_n rfl rfl) ?_
  refine Ex.tr (F1 := (4, 68, _, _)) (x_ifT rfl (tg := 68) rfl (show (0 : Int32) ≤ 0 by decide)) ?_
  refine Ex.tr (F1 := (4, 69, _, _)) (x_iload_n rfl rfl) ?_
  refine Ex.tr (F1 := (4, 70, _, _)) (x_iconst rfl) ?_
  refine Ex.tr (F1 := (4, 77, _, _)) (x_icT rfl (tg := 77) rfl (show ¬ (0 : Int32) = 1 by decide)) ?_
  refine Ex.tr (F1 := (4, 78, _, _)) (x_iconst rfl) ?_
  refine Ex.tr (F1 := (4, 79, [_, _, _, _], _)) (x_istore_n (i := 3) rfl (Nat.le_of_ble_eq_true rfl)) ?_
  refine Ex.tr (F1 := (4, 80, _, _)) (x_iload_n rfl rfl) ?_
  refine Ex.tr (F1 := (4, 98, _, _)) (x_ifT rfl (tg := 98) rfl rfl) ?_
  refine Ex.tr (F1 := (4, 99, _, _)) (x_iload_n rfl rfl) ?_
  refine Ex.tr (F1 := (4, 102, _, _)) (x_ifF rfl (tg := 106) rfl (fun q => q rfl)) ?_
  refine Ex.tr (F1 := (4, 103, _, _)) (x_iconst rfl) ?_
  refine Ex.tr (F1 := (4, 107, _, _)) (x_goto rfl rfl) ?_
  refine Ex.tr (F1 := (4, 108, [_, _, _, _], _)) (x_istore_n (i := 1) rfl (Nat.le_of_ble_eq_true rfl)) ?_
  refine Ex.tr (F1 := (4, 53, [_, _, _, _], _)) (x_goto rfl rfl) ?_
  exact x_wk ⟨Or.inr rfl, Or.inr rfl, Or.inl rfl, Or.inl rfl, trivial⟩
theorem cl_f {S' : MSt} {x y : Option Value} (h : Rn E (d + 4) 5 [.ref o] (mh g o S) (some (.int (-1))) (mh g o S')) : Rk E (d + 5) (4, 53, [some (.ref o), some (.int 1), x, y], []) (mh g o S) (some (.int 0)) (mh g o S') := by
  refine Rk.tr (F1 := (4, 54, _, _)) (x_iload_n rfl rfl) ?_
  refine Rk.tr (F1 := (4, 57, _, _)) (x_ifF rfl (tg := 111) rfl (show ¬ (1 : Int32) = 0 by decide)) ?_
  refine Rk.tr (F1 := (4, 58, _, _)) (x_aload_n rfl rfl rfl) ?_
  refine Rk.tr (F1 := (4, 61, _, _)) (m_call (As := []) rfl rfl rfl (Or.inr rfl) rfl rfl rfl (Nat.le_of_ble_eq_true rfl) h rfl) ?_
  refine Rk.tr (F1 := (4, 62, [_, _, _, _], _)) (x_istore_n (i := 2) rfl (Nat.le_of_ble_eq_true rfl)) ?_
  refine Rk.tr (F1 := (4, 63, _, _)) (x_iload_n rfl rfl) ?_
  refine Rk.tr (F1 := (4, 66, _, _)) (x_ifF rfl (tg := 68) rfl (show ¬ (0 : Int32) ≤ -1 by decide)) ?_
  refine Rk.tr (F1 := (4, 67, _, _)) (x_iconst rfl) ?_
  exact Rk.end rfl (Or.inr (Or.inl ⟨rfl, _, .boolean, rfl, rfl, rfl, rfl⟩))
theorem cl_g1 {S' : MSt} (h10 : S.1 10 = nI q) (hq : 0 < q) (hq6 : q < 61) (h : Rn E (d + 4) 12 [.ref o] (mh g o S) (some (.int 1)) (mh g o S')) : Ex E (d + 5) (4, 79, [some (.ref o), some (.int 1), none, some (.int 1)], []) (mh g o S) (4, 79, [some (.ref o), some (.int 1), none, some (.int 1)], []) (mh g o S') := by
  refine Ex.tr (F1 := (4, 80, _, _)) (x_iload_n rfl rfl) ?_
  refine Ex.tr (F1 := (4, 83, _, _)) (x_ifF rfl (tg := 98) rfl (show ¬ (1 : Int32) = 0 by decide)) ?_
  refine Ex.tr (F1 := (4, 84, _, _)) (x_aload_n rfl rfl rfl) ?_
  refine Ex.tr (F1 := (4, 87, _, _)) (m_get rfl rfl (Nat.le_of_ble_eq_true rfl)) ?_
  refine Ex.tr (F1 := (4, 90, _, _)) (x_ifF rfl (tg := 98) rfl (by show ¬ S.1 10 ≤ nI 0; rw [h10]; exact nI_ge (by omega) (by omega))) ?_
  refine Ex.tr (F1 := (4, 91, _, _)) (x_aload_n rfl rfl rfl) ?_
  refine Ex.tr (F1 := (4, 94, _, _)) (m_call (As := []) rfl rfl rfl (Or.inr rfl) rfl rfl rfl (Nat.le_of_ble_eq_true rfl) h rfl) ?_
  refine Ex.tr (F1 := (4, 95, [_, _, _, _], _)) (x_istore_n (i := 3) rfl (Nat.le_of_ble_eq_true rfl)) ?_
  exact x_goto rfl rfl
theorem cl_g0 {S' : MSt} (h10 : S.1 10 = nI q) (hq : 0 < q) (hq6 : q < 61) (h : Rn E (d + 4) 12 [.ref o] (mh g o S) (some (.int 0)) (mh g o S')) : Ex E (d + 5) (4, 79, [some (.ref o), some (.int 1), none, some (.int 1)], []) (mh g o S) (4, 53, [some (.ref o), some (.int 1), none, none], []) (mh g o S') := by
  refine Ex.tr (F1 := (4, 80, _, _)) (x_iload_n rfl rfl) ?_
  refine Ex.tr (F1 := (4, 83, _, _)) (x_ifF rfl (tg := 98) rfl (show ¬ (1 : Int32) = 0 by decide)) ?_
  refine Ex.tr (F1 := (4, 84, _, _)) (x_aload_n rfl rfl rfl) ?_
  refine Ex.tr (F1 := (4, 87, _, _)) (m_get rfl rfl (Nat.le_of_ble_eq_true rfl)) ?_
  refine Ex.tr (F1 := (4, 90, _, _)) (x_ifF rfl (tg := 98) rfl (by show ¬ S.1 10 ≤ nI 0; rw [h10]; exact nI_ge (by omega) (by omega))) ?_
  refine Ex.tr (F1 := (4, 91, _, _)) (x_aload_n rfl rfl rfl) ?_
  refine Ex.tr (F1 := (4, 94, _, _)) (m_call (As := []) rfl rfl rfl (Or.inr rfl) rfl rfl rfl (Nat.le_of_ble_eq_true rfl) h rfl) ?_
  refine Ex.tr (F1 := (4, 95, [_, _, _, _], _)) (x_istore_n (i := 3) rfl (Nat.le_of_ble_eq_true rfl)) ?_
  refine Ex.tr (F1 := (4, 79, [_, _, _, _], _)) (x_goto rfl rfl) ?_
  refine Ex.tr (F1 := (4, 80, _, _)) (x_iload_n rfl rfl) ?_
  refine Ex.tr (F1 := (4, 98, _, _)) (x_ifT rfl (tg := 98) rfl rfl) ?_
  refine Ex.tr (F1 := (4, 99, _, _)) (x_iload_n rfl rfl) ?_
  refine Ex.tr (F1 := (4, 102, _, _)) (x_ifF rfl (tg := 106) rfl (fun q => q rfl)) ?_
  refine Ex.tr (F1 := (4, 103, _, _)) (x_iconst rfl) ?_
  refine Ex.tr (F1 := (4, 107, _, _)) (x_goto rfl rfl) ?_
  refine Ex.tr (F1 := (4, 108, [_, _, _, _], _)) (x_istore_n (i := 1) rfl (Nat.le_of_ble_eq_true rfl)) ?_
  refine Ex.tr (F1 := (4, 53, [_, _, _, _], _)) (x_goto rfl rfl) ?_
  exact x_wk ⟨Or.inr rfl, Or.inr rfl, Or.inl rfl, Or.inl rfl, trivial⟩
end M14
end
section
/-! ===== the conversion: what the code means ===== -/
/-- how many ints a head has -/
def hl (w : Int32) : Nat := if w = 3 then 1 else if w = 6 then 1 else 2
def hok (cs : Nat → Int32) (n p : Nat) : Bool := decide (p < n ∧ 0 ≤ cs p ∧ cs p ≤ 6 ∧ p + hl (cs p) ≤ n ∧ (cs p = 1 → 0 ≤ cs (p + 1) ∧ cs (p + 1) ≤ 9) ∧ (cs p = 2 → 0 ≤ cs (p + 1) ∧ cs (p + 1) ≤ 9) ∧ (cs p = 4 → 0 ≤ cs (p + 1) ∧ cs (p + 1) ≤ 9) ∧ (cs p = 5 → 0 ≤ cs (p + 1) ∧ cs (p + 1) ≤ 4))
theorem hok_iff {cs : Nat → Int32} {n p : Nat} : hok cs n p = true ↔ (p < n ∧ 0 ≤ cs p ∧ cs p ≤ 6 ∧ p + hl (cs p) ≤ n ∧ (cs p = 1 → 0 ≤ cs (p + 1) ∧ cs (p + 1) ≤ 9) ∧ (cs p = 2 → 0 ≤ cs (p + 1) ∧ cs (p + 1) ≤ 9) ∧ (cs p = 4 → 0 ≤ cs (p + 1) ∧ cs (p + 1) ≤ 9) ∧ (cs p = 5 → 0 ≤ cs (p + 1) ∧ cs (p + 1) ≤ 4)) := decide_eq_true_iff
/-- where the term at p ends, if it is one -/
def sy (cs : Nat → Int32) (n : Nat) : Nat → Nat → Option Nat
  | 0, _ => none
  | f + 1, p => if hok cs n p = true then (if cs p = 0 then some (p + 2) else if cs p = 1 then some (p + 2) else if cs p = 2 then sy cs n f (p + 2) else if cs p = 6 then (sy cs n f (p + 1)).bind (fun a => (sy cs n f a).bind (fun b => sy cs n f b)) else (sy cs n f (p + hl (cs p))).bind (fun a => sy cs n f a)) else none
abbrev Mn : Type := Nat → Option (Int32 × Int32)
def mup (M : Mn) (x : Nat) (a : Int32 × Int32) : Mn := fun y => if y = x then some a else M y
abbrev Cv : Type := List It × (Int32 × Int32) × Nat × Nat × Nat × Bool
def iRes (a : Int32 × Int32) : It := (9, 0, 0, a, (0, 0))
/-- items, atom, place behind, names, how deep its rows lie, whether a variable is free -/
def cv (cs : Nat → Int32) : Nat → Mn → Nat → Nat → Cv
  | 0, _, p, k => ([], (0, 0), p, k, 0, false)
  | f + 1, M, p, k =>
    if cs p = 0 then ([], (0, cs (p + 1)), p + 2, k, 0, false)
    else if cs p = 1 then (match M (cs (p + 1)).toNatClampNeg with
      | some a => ([], a, p + 2, k, 0, false)
      | none => ([], (0, 0), p + 2, k, 0, true))
    else if cs p = 2 then
      (let r := cv cs f (mup M (cs (p + 1)).toNatClampNeg (1, nI k)) (p + 2) (k + 1)
       ((2, nI r.2.2.2.1, nI k, (0, 0), (0, 0)) :: (r.1 ++ [iRes r.2.1]), (1, nI r.2.2.2.1), r.2.2.1, r.2.2.2.1 + 1, r.2.2.2.2.1 + 1, r.2.2.2.2.2))
    else if cs p = 4 then
      (let r := cv cs f M (p + 2) k
       let s := cv cs f (mup M (cs (p + 1)).toNatClampNeg r.2.1) r.2.2.1 r.2.2.2.1
       (r.1 ++ s.1, s.2.1, s.2.2.1, s.2.2.2.1, max r.2.2.2.2.1 s.2.2.2.2.1, r.2.2.2.2.2 || s.2.2.2.2.2))
    else if cs p = 6 then
      (let r := cv cs f M (p + 1) k
       let s := cv cs f M r.2.2.1 r.2.2.2.1
       let u := cv cs f M s.2.2.1 s.2.2.2.1
       (r.1 ++ (6, nI u.2.2.2.1, 0, r.2.1, (0, 0)) :: (s.1 ++ iRes s.2.1 :: (u.1 ++ [iRes u.2.1])), (1, nI u.2.2.2.1), u.2.2.1, u.2.2.2.1 + 1, max r.2.2.2.2.1 (max (s.2.2.2.2.1 + 1) (u.2.2.2.2.1 + 1)), r.2.2.2.2.2 || (s.2.2.2.2.2 || u.2.2.2.2.2)))
    else
      (let r := cv cs f M (p + hl (cs p)) k
       let s := cv cs f M r.2.2.1 r.2.2.2.1
       (r.1 ++ (s.1 ++ [(if cs p = 5 then 5 else 3, nI s.2.2.2.1, if cs p = 5 then cs (p + 1) else 0, r.2.1, s.2.1)]), (1, nI s.2.2.2.1), s.2.2.1, s.2.2.2.1 + 1, max r.2.2.2.2.1 s.2.2.2.2.1, r.2.2.2.2.2 || s.2.2.2.2.2))
theorem le_nat {x : Int32} {m : Nat} (hm : m < 2 ^ 31) (h0 : 0 ≤ x) (h : x ≤ nI m) : ∃ j, j ≤ m ∧ x = nI j := by
  refine ⟨x.toNatClampNeg, ?_, ?_⟩
  · have h1 : x.toInt ≤ (nI m).toInt := Int32.le_iff_toInt_le.mp h
    have h2 : (nI m).toNatClampNeg = m := nI_clamp hm
    have h3 : x.toNatClampNeg = x.toInt.toNat := rfl
    have h4 : (nI m).toNatClampNeg = (nI m).toInt.toNat := rfl
    omega
  · have h1 : (0 : Int32).toInt ≤ x.toInt := Int32.le_iff_toInt_le.mp h0
    have h0' : (0 : Int32).toInt = 0 := rfl
    show x = Int32.ofNat x.toNatClampNeg
    apply Int32.toInt_inj.mp
    rw [Int32.toInt_ofNat_of_lt]
    · have h3 : x.toNatClampNeg = x.toInt.toNat := rfl
      omega
    · have h3 : x.toNatClampNeg = x.toInt.toNat := rfl
      have := x.toInt_lt
      omega
/-- the seven heads -/
theorem kd7 {x : Int32} (h0 : 0 ≤ x) (h6 : x ≤ 6) : x = 0 ∨ x = 1 ∨ x = 2 ∨ x = 3 ∨ x = 4 ∨ x = 5 ∨ x = 6 := by
  obtain ⟨j, hj, rfl⟩ := le_nat (m := 6) (by decide) h0 h6
  rcases (show j = 0 ∨ j = 1 ∨ j = 2 ∨ j = 3 ∨ j = 4 ∨ j = 5 ∨ j = 6 by omega) with rfl | rfl | rfl | rfl | rfl | rfl | rfl
  · exact Or.inl rfl
  · exact Or.inr (Or.inl rfl)
  · exact Or.inr (Or.inr (Or.inl rfl))
  · exact Or.inr (Or.inr (Or.inr (Or.inl rfl)))
  · exact Or.inr (Or.inr (Or.inr (Or.inr (Or.inl rfl))))
  · exact Or.inr (Or.inr (Or.inr (Or.inr (Or.inr (Or.inl rfl)))))
  · exact Or.inr (Or.inr (Or.inr (Or.inr (Or.inr (Or.inr rfl)))))
theorem bind_some {a : Option Nat} {F : Nat → Option Nat} {c : Nat} (h : a.bind F = some c) : ∃ b, a = some b ∧ F b = some c := by
  cases a with
  | none => cases h
  | some b => exact ⟨b, rfl, h⟩
section CV
variable {cs : Nat → Int32} {n f p k : Nat} {M : Mn}
theorem cv_0 (h : cs p = 0) : cv cs (f + 1) M p k = ([], (0, cs (p + 1)), p + 2, k, 0, false) := by unfold cv; rw [if_pos h]
theorem cv_1s {a : Int32 × Int32} (h : cs p = 1) (hM : M (cs (p + 1)).toNatClampNeg = some a) : cv cs (f + 1) M p k = ([], a, p + 2, k, 0, false) := by unfold cv; rw [if_neg (by rw [h]; decide), if_pos h, hM]
theorem cv_1n (h : cs p = 1) (hM : M (cs (p + 1)).toNatClampNeg = none) : cv cs (f + 1) M p k = ([], (0, 0), p + 2, k, 0, true) := by unfold cv; rw [if_neg (by rw [h]; decide), if_pos h, hM]
theorem cv_2 (h : cs p = 2) : cv cs (f + 1) M p k = (let r := cv cs f (mup M (cs (p + 1)).toNatClampNeg (1, nI k)) (p + 2) (k + 1)
       ((2, nI r.2.2.2.1, nI k, (0, 0), (0, 0)) :: (r.1 ++ [iRes r.2.1]), (1, nI r.2.2.2.1), r.2.2.1, r.2.2.2.1 + 1, r.2.2.2.2.1 + 1, r.2.2.2.2.2)) := by
  conv => lhs; unfold cv
  rw [if_neg (by rw [h]; decide), if_neg (by rw [h]; decide), if_pos h]
theorem cv_4 (h : cs p = 4) : cv cs (f + 1) M p k = (let r := cv cs f M (p + 2) k
       let s := cv cs f (mup M (cs (p + 1)).toNatClampNeg r.2.1) r.2.2.1 r.2.2.2.1
       (r.1 ++ s.1, s.2.1, s.2.2.1, s.2.2.2.1, max r.2.2.2.2.1 s.2.2.2.2.1, r.2.2.2.2.2 || s.2.2.2.2.2)) := by
  conv => lhs; unfold cv
  rw [if_neg (by rw [h]; decide), if_neg (by rw [h]; decide), if_neg (by rw [h]; decide), if_pos h]
theorem cv_6 (h : cs p = 6) : cv cs (f + 1) M p k = (let r := cv cs f M (p + 1) k
       let s := cv cs f M r.2.2.1 r.2.2.2.1
       let u := cv cs f M s.2.2.1 s.2.2.2.1
       (r.1 ++ (6, nI u.2.2.2.1, 0, r.2.1, (0, 0)) :: (s.1 ++ iRes s.2.1 :: (u.1 ++ [iRes u.2.1])), (1, nI u.2.2.2.1), u.2.2.1, u.2.2.2.1 + 1, max r.2.2.2.2.1 (max (s.2.2.2.2.1 + 1) (u.2.2.2.2.1 + 1)), r.2.2.2.2.2 || (s.2.2.2.2.2 || u.2.2.2.2.2))) := by
  conv => lhs; unfold cv
  rw [if_neg (by rw [h]; decide), if_neg (by rw [h]; decide), if_neg (by rw [h]; decide), if_neg (by rw [h]; decide), if_pos h]
theorem cv_3 (h : cs p = 3) : cv cs (f + 1) M p k = (let r := cv cs f M (p + 1) k
       let s := cv cs f M r.2.2.1 r.2.2.2.1
       (r.1 ++ (s.1 ++ [(3, nI s.2.2.2.1, 0, r.2.1, s.2.1)]), (1, nI s.2.2.2.1), s.2.2.1, s.2.2.2.1 + 1, max r.2.2.2.2.1 s.2.2.2.2.1, r.2.2.2.2.2 || s.2.2.2.2.2)) := by
  conv => lhs; unfold cv
  simp only [h, show hl 3 = 1 from rfl]
  rfl
theorem cv_5 (h : cs p = 5) : cv cs (f + 1) M p k = (let r := cv cs f M (p + 2) k
       let s := cv cs f M r.2.2.1 r.2.2.2.1
       (r.1 ++ (s.1 ++ [(5, nI s.2.2.2.1, cs (p + 1), r.2.1, s.2.1)]), (1, nI s.2.2.2.1), s.2.2.1, s.2.2.2.1 + 1, max r.2.2.2.2.1 s.2.2.2.2.1, r.2.2.2.2.2 || s.2.2.2.2.2)) := by
  conv => lhs; unfold cv
  simp only [h, show hl 5 = 2 from rfl]
  rfl
theorem sy_01 (hk : hok cs n p = true) (h : cs p = 0 ∨ cs p = 1) : sy cs n (f + 1) p = some (p + 2) := by
  unfold sy
  rw [if_pos hk]
  rcases h with h | h
  · rw [if_pos h]
  · rw [if_neg (by rw [h]; decide), if_pos h]
theorem sy_2 (hk : hok cs n p = true) (h : cs p = 2) : sy cs n (f + 1) p = sy cs n f (p + 2) := by
  conv => lhs; unfold sy
  rw [if_pos hk, if_neg (by rw [h]; decide), if_neg (by rw [h]; decide), if_pos h]
theorem sy_6 (hk : hok cs n p = true) (h : cs p = 6) : sy cs n (f + 1) p = (sy cs n f (p + 1)).bind (fun a => (sy cs n f a).bind (fun b => sy cs n f b)) := by
  conv => lhs; unfold sy
  rw [if_pos hk, if_neg (by rw [h]; decide), if_neg (by rw [h]; decide), if_neg (by rw [h]; decide), if_pos h]
theorem sy_345 (hk : hok cs n p = true) (h : cs p = 3 ∨ cs p = 4 ∨ cs p = 5) : sy cs n (f + 1) p = (sy cs n f (p + hl (cs p))).bind (fun a => sy cs n f a) := by
  conv => lhs; unfold sy
  rw [if_pos hk, if_neg (by rcases h with h | h | h <;> rw [h] <;> decide), if_neg (by rcases h with h | h | h <;> rw [h] <;> decide), if_neg (by rcases h with h | h | h <;> rw [h] <;> decide), if_neg (by rcases h with h | h | h <;> rw [h] <;> decide)]
theorem sy_hok {p' : Nat} (h : sy cs n (f + 1) p = some p') : hok cs n p = true := by
  unfold sy at h
  split at h
  · assumption
  · cases h
end CV
/-- what the numbers of a conversion come to -/
theorem cv_nums {cs : Nat → Int32} {n : Nat} : ∀ (f : Nat) (M : Mn) (p k p' : Nat), sy cs n f p = some p' →
    (cv cs f M p k).2.2.1 = p' ∧ p + 2 ≤ p' ∧ p' ≤ n ∧ k ≤ (cv cs f M p k).2.2.2.1 ∧ (cv cs f M p k).2.2.2.1 + p ≤ k + p' ∧ 2 * tsum (cv cs f M p k).1 + 14 + 7 * p ≤ 7 * p' ∧ (cv cs f M p k).2.2.2.2.1 + p + 2 ≤ p'
  | 0, M, p, k, p', h => by cases h
  | f + 1, M, p, k, p', h => by
    have hk := sy_hok h
    obtain ⟨h1, h2, h3, h4, -⟩ := hok_iff.mp hk
    rcases kd7 h2 h3 with w | w | w | w | w | w | w
    · rw [sy_01 hk (Or.inl w)] at h
      rw [w, show hl 0 = 2 from rfl] at h4
      cases h
      rw [cv_0 w]
      refine ⟨rfl, Nat.le_refl _, h4, Nat.le_refl _, ?_, ?_, by show 0 + p + 2 ≤ p + 2; omega⟩
      · show k + p ≤ k + (p + 2); omega
      · show 2 * 0 + 14 + 7 * p ≤ 7 * (p + 2); omega
    · rw [sy_01 hk (Or.inr w)] at h
      rw [w, show hl 1 = 2 from rfl] at h4
      cases h
      cases hM : M (cs (p + 1)).toNatClampNeg with
      | none =>
        rw [cv_1n w hM]
        refine ⟨rfl, Nat.le_refl _, h4, Nat.le_refl _, ?_, ?_, by show 0 + p + 2 ≤ p + 2; omega⟩
        · show k + p ≤ k + (p + 2); omega
        · show 2 * 0 + 14 + 7 * p ≤ 7 * (p + 2); omega
      | some a =>
        rw [cv_1s w hM]
        refine ⟨rfl, Nat.le_refl _, h4, Nat.le_refl _, ?_, ?_, by show 0 + p + 2 ≤ p + 2; omega⟩
        · show k + p ≤ k + (p + 2); omega
        · show 2 * 0 + 14 + 7 * p ≤ 7 * (p + 2); omega
    · rw [sy_2 hk w] at h
      rw [cv_2 w]
      obtain ⟨a1, a2, a3, a4, a5, a6, a8⟩ := cv_nums f (mup M (cs (p + 1)).toNatClampNeg (1, nI k)) (p + 2) (k + 1) p' h
      simp only [tsum, tsum_app, isz, iRes]
      omega
    · rw [sy_345 hk (Or.inl w), w, show hl 3 = 1 from rfl] at h
      obtain ⟨b, hb, hc⟩ := bind_some h
      rw [cv_3 w]
      obtain ⟨a1, a2, a3, a4, a5, a6, a8⟩ := cv_nums f M (p + 1) k b hb
      have c0 := cv_nums f M b (cv cs f M (p + 1) k).2.2.2.1 p' hc
      rw [← a1] at c0
      obtain ⟨c1, c2, c3, c4, c5, c6, c8⟩ := c0
      simp only [tsum, tsum_app, isz]
      omega
    · rw [sy_345 hk (Or.inr (Or.inl w)), w, show hl 4 = 2 from rfl] at h
      obtain ⟨b, hb, hc⟩ := bind_some h
      rw [cv_4 w]
      obtain ⟨a1, a2, a3, a4, a5, a6, a8⟩ := cv_nums f M (p + 2) k b hb
      have c0 := cv_nums f (mup M (cs (p + 1)).toNatClampNeg (cv cs f M (p + 2) k).2.1) b (cv cs f M (p + 2) k).2.2.2.1 p' hc
      rw [← a1] at c0
      obtain ⟨c1, c2, c3, c4, c5, c6, c8⟩ := c0
      simp only [tsum_app]
      omega
    · rw [sy_345 hk (Or.inr (Or.inr w)), w, show hl 5 = 2 from rfl] at h
      obtain ⟨b, hb, hc⟩ := bind_some h
      rw [cv_5 w]
      obtain ⟨a1, a2, a3, a4, a5, a6, a8⟩ := cv_nums f M (p + 2) k b hb
      have c0 := cv_nums f M b (cv cs f M (p + 2) k).2.2.2.1 p' hc
      rw [← a1] at c0
      obtain ⟨c1, c2, c3, c4, c5, c6, c8⟩ := c0
      simp only [tsum, tsum_app, isz]
      omega
    · rw [sy_6 hk w] at h
      obtain ⟨b, hb, h⟩ := bind_some h
      obtain ⟨c, hc, hd⟩ := bind_some h
      rw [cv_6 w]
      obtain ⟨a1, a2, a3, a4, a5, a6, a8⟩ := cv_nums f M (p + 1) k b hb
      have c0 := cv_nums f M b (cv cs f M (p + 1) k).2.2.2.1 c hc
      rw [← a1] at c0
      obtain ⟨c1, c2, c3, c4, c5, c6, c8⟩ := c0
      have d0 := cv_nums f M c (cv cs f M (cv cs f M (p + 1) k).2.2.1 (cv cs f M (p + 1) k).2.2.2.1).2.2.2.1 p' hd
      rw [← c1] at d0
      obtain ⟨d1, d2, d3, d4, d5, d6, d8⟩ := d0
      simp only [tsum, tsum_app, isz, iRes]
      omega
end
section
/-! ===== a converted program: its scopes and names ===== -/
theorem aok_sub {e e' : List Int32} {a : Int32 × Int32} (h : ∀ x ∈ e, x ∈ e') (ha : aok e a) : aok e' a := ha.elim Or.inl (fun q => Or.inr ⟨q.1, h _ q.2⟩)
theorem sca_res {e : List Int32} {a : Int32 × Int32} (h : aok e a) : sca e (iRes a) := fun j hj => by
  have hj : j < 1 := hj
  have : j = 0 := by omega
  subst this
  exact h
theorem sca_2 {e : List Int32} {it : It} (h2 : iat it = 2) (h : aok e it.2.2.2.1) (h' : aok e it.2.2.2.2) : sca e it := fun j hj => by
  rw [h2] at hj
  rcases (show j = 0 ∨ j = 1 by omega) with rfl | rfl
  · exact h
  · exact h'
theorem cv_sco {cs : Nat → Int32} : ∀ (f : Nat) (M : Mn) (p k : Nat) (e : List Int32), (∀ x a, M x = some a → aok e a) →
    ∃ e' : List Int32, (∀ x ∈ e, x ∈ e') ∧ aok e' (cv cs f M p k).2.1 ∧ ∀ (stk : List (List Int32)) (B : List It), Sco (e' :: stk) B → Sco (e :: stk) ((cv cs f M p k).1 ++ B)
  | 0, M, p, k, e, hM => ⟨e, fun _ h => h, Or.inl rfl, fun _ _ h => h⟩
  | f + 1, M, p, k, e, hM => by
    by_cases w0 : cs p = 0
    · rw [cv_0 w0]
      exact ⟨e, fun _ h => h, Or.inl rfl, fun _ _ h => h⟩
    · by_cases w1 : cs p = 1
      · cases hx : M (cs (p + 1)).toNatClampNeg with
        | none => rw [cv_1n w1 hx]; exact ⟨e, fun _ h => h, Or.inl rfl, fun _ _ h => h⟩
        | some a => rw [cv_1s w1 hx]; exact ⟨e, fun _ h => h, hM _ _ hx, fun _ _ h => h⟩
      · by_cases w2 : cs p = 2
        · rw [cv_2 w2]
          simp only
          obtain ⟨e1, a1, a2, a3⟩ := cv_sco (cs := cs) f (mup M (cs (p + 1)).toNatClampNeg (1, nI k)) (p + 2) (k + 1) (nI k :: e) (fun x a h => by
            unfold mup at h
            split at h
            · cases h; exact Or.inr ⟨rfl, List.mem_cons_self⟩
            · exact aok_sub (fun y hy => List.mem_cons_of_mem _ hy) (hM x a h))
          generalize cv cs f (mup M (cs (p + 1)).toNatClampNeg (1, nI k)) (p + 2) (k + 1) = r at a2 a3 ⊢
          refine ⟨nI r.2.2.2.1 :: e, fun x hx => List.mem_cons_of_mem _ hx, Or.inr ⟨rfl, List.mem_cons_self⟩, fun stk B hB => ?_⟩
          refine ⟨fun j hj => absurd hj (Nat.not_lt_zero j), ?_⟩
          show Sco ((nI k :: e) :: (nI r.2.2.2.1 :: e) :: stk) ((r.1 ++ [iRes r.2.1]) ++ B)
          rw [List.append_assoc]
          exact a3 _ _ ⟨sca_res a2, hB⟩
        · by_cases w4 : cs p = 4
          · rw [cv_4 w4]
            simp only
            obtain ⟨e1, a1, a2, a3⟩ := cv_sco (cs := cs) f M (p + 2) k e hM
            generalize cv cs f M (p + 2) k = r at a2 a3 ⊢
            obtain ⟨e2, b1, b2, b3⟩ := cv_sco (cs := cs) f (mup M (cs (p + 1)).toNatClampNeg r.2.1) r.2.2.1 r.2.2.2.1 e1 (fun x a h => by
              unfold mup at h
              split at h
              · cases h; exact a2
              · exact aok_sub a1 (hM x a h))
            generalize cv cs f (mup M (cs (p + 1)).toNatClampNeg r.2.1) r.2.2.1 r.2.2.2.1 = s at b2 b3 ⊢
            exact ⟨e2, fun x hx => b1 x (a1 x hx), b2, fun stk B hB => by rw [List.append_assoc]; exact a3 _ _ (b3 _ _ hB)⟩
          · by_cases w6 : cs p = 6
            · rw [cv_6 w6]
              simp only
              obtain ⟨e1, a1, a2, a3⟩ := cv_sco (cs := cs) f M (p + 1) k e hM
              generalize cv cs f M (p + 1) k = r at a2 a3 ⊢
              obtain ⟨e2, b1, b2, b3⟩ := cv_sco (cs := cs) f M r.2.2.1 r.2.2.2.1 e1 (fun x a h => aok_sub a1 (hM x a h))
              generalize cv cs f M r.2.2.1 r.2.2.2.1 = s at b2 b3 ⊢
              obtain ⟨e3, c1, c2, c3⟩ := cv_sco (cs := cs) f M s.2.2.1 s.2.2.2.1 e1 (fun x a h => aok_sub a1 (hM x a h))
              generalize cv cs f M s.2.2.1 s.2.2.2.1 = u at c2 c3 ⊢
              refine ⟨nI u.2.2.2.1 :: e1, fun x hx => List.mem_cons_of_mem _ (a1 x hx), Or.inr ⟨rfl, List.mem_cons_self⟩, fun stk B hB => ?_⟩
              rw [List.append_assoc]
              refine a3 _ _ ⟨fun j hj => ?_, ?_⟩
              · have hj : j < 1 := hj
                have : j = 0 := by omega
                subst this
                exact a2
              · show Sco (e1 :: e1 :: (nI u.2.2.2.1 :: e1) :: stk) ((s.1 ++ iRes s.2.1 :: (u.1 ++ [iRes u.2.1])) ++ B)
                rw [List.append_assoc]
                refine b3 _ _ ⟨sca_res b2, ?_⟩
                show Sco (e1 :: (nI u.2.2.2.1 :: e1) :: stk) ((u.1 ++ [iRes u.2.1]) ++ B)
                rw [List.append_assoc]
                exact c3 _ _ ⟨sca_res c2, hB⟩
            · have hu : cv cs (f + 1) M p k = (let r := cv cs f M (p + hl (cs p)) k
                 let s := cv cs f M r.2.2.1 r.2.2.2.1
                 (r.1 ++ (s.1 ++ [(if cs p = 5 then 5 else 3, nI s.2.2.2.1, if cs p = 5 then cs (p + 1) else 0, r.2.1, s.2.1)]), (1, nI s.2.2.2.1), s.2.2.1, s.2.2.2.1 + 1, max r.2.2.2.2.1 s.2.2.2.2.1, r.2.2.2.2.2 || s.2.2.2.2.2)) := by
                conv => lhs; unfold cv
                rw [if_neg w0, if_neg w1, if_neg w2, if_neg w4, if_neg w6]
              rw [hu]
              simp only
              obtain ⟨e1, a1, a2, a3⟩ := cv_sco (cs := cs) f M (p + hl (cs p)) k e hM
              generalize cv cs f M (p + hl (cs p)) k = r at a2 a3 ⊢
              obtain ⟨e2, b1, b2, b3⟩ := cv_sco (cs := cs) f M r.2.2.1 r.2.2.2.1 e1 (fun x a h => aok_sub a1 (hM x a h))
              generalize cv cs f M r.2.2.1 r.2.2.2.1 = s at b2 b3 ⊢
              refine ⟨nI s.2.2.2.1 :: e2, fun x hx => List.mem_cons_of_mem _ (b1 x (a1 x hx)), Or.inr ⟨rfl, List.mem_cons_self⟩, fun stk B hB => ?_⟩
              rw [List.append_assoc]
              refine a3 _ _ ?_
              rw [List.append_assoc]
              refine b3 _ _ ?_
              by_cases w5 : cs p = 5
              · rw [if_pos w5]
                exact ⟨sca_2 rfl (aok_sub b1 a2) b2, hB⟩
              · rw [if_neg w5]
                exact ⟨sca_2 rfl (aok_sub b1 a2) b2, hB⟩
def Nm (a b : Nat) (L : List Int32) : Prop := (∀ x ∈ L, ∃ j, a ≤ j ∧ j < b ∧ x = nI j) ∧ L.Nodup
theorem Nm_nil {a b : Nat} : Nm a b [] := ⟨fun x hx => absurd hx (List.not_mem_nil), List.nodup_nil⟩
theorem Nm_one {j b : Nat} (h : j < b) : Nm j b [nI j] := ⟨fun x hx => ⟨j, Nat.le_refl _, h, List.mem_singleton.mp hx⟩, by simp⟩
theorem Nm_app {a b c : Nat} {L L' : List Int32} (h : Nm a b L) (h' : Nm b c L') (hab : a ≤ b) (hbc : b ≤ c) (hc : c < 2 ^ 31) : Nm a c (L ++ L') := by
  refine ⟨fun x hx => ?_, List.nodup_append.mpr ⟨h.2, h'.2, fun x hx y hy hxy => ?_⟩⟩
  · rcases List.mem_append.mp hx with hx | hx
    · obtain ⟨j, j1, j2, j3⟩ := h.1 x hx
      exact ⟨j, j1, by omega, j3⟩
    · obtain ⟨j, j1, j2, j3⟩ := h'.1 x hx
      exact ⟨j, by omega, j2, j3⟩
  · obtain ⟨j, j1, j2, j3⟩ := h.1 x hx
    obtain ⟨i, i1, i2, i3⟩ := h'.1 y hy
    have e : nI j = nI i := by rw [← j3, ← i3, hxy]
    have := (nI_eq (by omega) (by omega)).mp e
    omega
theorem Nm_perm {a b : Nat} {L L' : List Int32} (h : Nm a b L) (hp : L'.Perm L) : Nm a b L' := ⟨fun x hx => h.1 x (hp.mem_iff.mp hx), hp.nodup_iff.mpr h.2⟩
theorem dfs_one (it : It) : dfs [it] = idf it := by unfold dfs; simp
theorem cv_dfs {cs : Nat → Int32} {n : Nat} : ∀ (f : Nat) (M : Mn) (p k p' : Nat), sy cs n f p = some p' → k + n < 2 ^ 31 + p → Nm k (cv cs f M p k).2.2.2.1 (dfs (cv cs f M p k).1)
  | 0, M, p, k, p', h, _ => by cases h
  | f + 1, M, p, k, p', h, hb => by
    have hk := sy_hok h
    obtain ⟨h1, h2, h3, h4, -⟩ := hok_iff.mp hk
    rcases kd7 h2 h3 with w | w | w | w | w | w | w
    · rw [cv_0 w]; exact Nm_nil
    · cases hM : M (cs (p + 1)).toNatClampNeg with
      | none => rw [cv_1n w hM]; exact Nm_nil
      | some a => rw [cv_1s w hM]; exact Nm_nil
    · rw [sy_2 hk w] at h
      rw [cv_2 w]
      obtain ⟨a1, a2, a3, a4, a5, a6, a8⟩ := cv_nums f (mup M (cs (p + 1)).toNatClampNeg (1, nI k)) (p + 2) (k + 1) p' h
      have a7 := cv_dfs f (mup M (cs (p + 1)).toNatClampNeg (1, nI k)) (p + 2) (k + 1) p' h (by omega)
      simp only
      generalize cv cs f (mup M (cs (p + 1)).toNatClampNeg (1, nI k)) (p + 2) (k + 1) = r at *
      rw [dfs_cons, dfs_app, dfs_one, show idf (iRes r.2.1) = [] from rfl, List.append_nil, show idf (2, nI r.2.2.2.1, nI k, (0, 0), (0, 0)) = [nI r.2.2.2.1, nI k] from rfl]
      refine Nm_perm (Nm_app (Nm_one (Nat.lt_succ_self k)) (Nm_app a7 (Nm_one (Nat.lt_succ_self _)) (by omega) (by omega) (by omega)) (by omega) (by omega) (by omega)) ?_
      show (nI r.2.2.2.1 :: ([nI k] ++ dfs r.1)).Perm ([nI k] ++ (dfs r.1 ++ [nI r.2.2.2.1]))
      rw [← List.append_assoc]
      exact List.perm_append_comm (l₁ := [nI r.2.2.2.1])
    · rw [sy_345 hk (Or.inl w), w, show hl 3 = 1 from rfl] at h
      obtain ⟨b, hbb, hc⟩ := bind_some h
      rw [cv_3 w]
      obtain ⟨a1, a2, a3, a4, a5, a6, a8⟩ := cv_nums f M (p + 1) k b hbb
      have a7 := cv_dfs f M (p + 1) k b hbb (by omega)
      simp only
      generalize cv cs f M (p + 1) k = r at *
      subst a1
      obtain ⟨c1, c2, c3, c4, c5, c6, c8⟩ := cv_nums f M r.2.2.1 r.2.2.2.1 p' hc
      have c7 := cv_dfs f M r.2.2.1 r.2.2.2.1 p' hc (by omega)
      generalize cv cs f M r.2.2.1 r.2.2.2.1 = s at *
      rw [dfs_app, dfs_app, dfs_one, show idf (3, nI s.2.2.2.1, 0, r.2.1, s.2.1) = [nI s.2.2.2.1] from rfl]
      exact Nm_app a7 (Nm_app c7 (Nm_one (Nat.lt_succ_self _)) (by omega) (by omega) (by omega)) (by omega) (by omega) (by omega)
    · rw [sy_345 hk (Or.inr (Or.inl w)), w, show hl 4 = 2 from rfl] at h
      obtain ⟨b, hbb, hc⟩ := bind_some h
      rw [cv_4 w]
      obtain ⟨a1, a2, a3, a4, a5, a6, a8⟩ := cv_nums f M (p + 2) k b hbb
      have a7 := cv_dfs f M (p + 2) k b hbb (by omega)
      simp only
      generalize cv cs f M (p + 2) k = r at *
      subst a1
      obtain ⟨c1, c2, c3, c4, c5, c6, c8⟩ := cv_nums f (mup M (cs (p + 1)).toNatClampNeg r.2.1) r.2.2.1 r.2.2.2.1 p' hc
      have c7 := cv_dfs f (mup M (cs (p + 1)).toNatClampNeg r.2.1) r.2.2.1 r.2.2.2.1 p' hc (by omega)
      generalize cv cs f (mup M (cs (p + 1)).toNatClampNeg r.2.1) r.2.2.1 r.2.2.2.1 = s at *
      rw [dfs_app]
      exact Nm_app a7 c7 (by omega) (by omega) (by omega)
    · rw [sy_345 hk (Or.inr (Or.inr w)), w, show hl 5 = 2 from rfl] at h
      obtain ⟨b, hbb, hc⟩ := bind_some h
      rw [cv_5 w]
      obtain ⟨a1, a2, a3, a4, a5, a6, a8⟩ := cv_nums f M (p + 2) k b hbb
      have a7 := cv_dfs f M (p + 2) k b hbb (by omega)
      simp only
      generalize cv cs f M (p + 2) k = r at *
      subst a1
      obtain ⟨c1, c2, c3, c4, c5, c6, c8⟩ := cv_nums f M r.2.2.1 r.2.2.2.1 p' hc
      have c7 := cv_dfs f M r.2.2.1 r.2.2.2.1 p' hc (by omega)
      generalize cv cs f M r.2.2.1 r.2.2.2.1 = s at *
      rw [dfs_app, dfs_app, dfs_one, show idf (5, nI s.2.2.2.1, cs (p + 1), r.2.1, s.2.1) = [nI s.2.2.2.1] from rfl]
      exact Nm_app a7 (Nm_app c7 (Nm_one (Nat.lt_succ_self _)) (by omega) (by omega) (by omega)) (by omega) (by omega) (by omega)
    · rw [sy_6 hk w] at h
      obtain ⟨b, hbb, h⟩ := bind_some h
      obtain ⟨c, hc, hd⟩ := bind_some h
      rw [cv_6 w]
      obtain ⟨a1, a2, a3, a4, a5, a6, a8⟩ := cv_nums f M (p + 1) k b hbb
      have a7 := cv_dfs f M (p + 1) k b hbb (by omega)
      simp only
      generalize cv cs f M (p + 1) k = r at *
      subst a1
      obtain ⟨c1, c2, c3, c4, c5, c6, c8⟩ := cv_nums f M r.2.2.1 r.2.2.2.1 c hc
      have c7 := cv_dfs f M r.2.2.1 r.2.2.2.1 c hc (by omega)
      generalize cv cs f M r.2.2.1 r.2.2.2.1 = s at *
      subst c1
      obtain ⟨d1, d2, d3, d4, d5, d6, d8⟩ := cv_nums f M s.2.2.1 s.2.2.2.1 p' hd
      have d7 := cv_dfs f M s.2.2.1 s.2.2.2.1 p' hd (by omega)
      generalize cv cs f M s.2.2.1 s.2.2.2.1 = u at *
      rw [dfs_app, dfs_cons, dfs_app, dfs_cons, dfs_app, dfs_one, show idf (iRes s.2.1) = [] from rfl, show idf (iRes u.2.1) = [] from rfl, List.append_nil, List.nil_append, show idf (6, nI u.2.2.2.1, 0, r.2.1, (0, 0)) = [nI u.2.2.2.1] from rfl]
      refine Nm_perm (Nm_app a7 (Nm_app (Nm_app c7 d7 (by omega) (by omega) (by omega)) (Nm_one (Nat.lt_succ_self _)) (by omega) (by omega) (by omega)) (by omega) (by omega) (by omega)) ?_
      exact List.Perm.append_left _ List.perm_append_comm
/-- a whole converted program -/
def cvP (cs : Nat → Int32) : List It := (cv cs 61 (fun _ => none) 0 0).1 ++ [iRes (cv cs 61 (fun _ => none) 0 0).2.1]
theorem cvP_inv {cs : Nat → Int32} {n : Nat} (hn : n ≤ 60) (h : sy cs n 61 0 = some n) : Inv (cvP cs) := by
  obtain ⟨a1, a2, a3, a4, a5, a6, a8⟩ := cv_nums 61 (fun _ => none) 0 0 n h
  refine ⟨?_, ?_, ?_⟩
  · obtain ⟨e', b1, b2, b3⟩ := cv_sco (cs := cs) 61 (fun _ => none) 0 0 [] (fun x a h => by cases h)
    exact b3 [] [iRes (cv cs 61 (fun _ => none) 0 0).2.1] ⟨sca_res b2, rfl⟩
  · have := (cv_dfs 61 (fun _ => none) 0 0 n h (by omega)).2
    unfold cvP
    rw [dfs_app, dfs_one, show idf (iRes (cv cs 61 (fun _ => none) 0 0).2.1) = [] from rfl, List.append_nil]
    exact this
  · unfold cvP
    rw [tsum_app]
    have : tsum [iRes (cv cs 61 (fun _ => none) 0 0).2.1] = 3 := rfl
    omega
end
section
/-! ===== the reference's conversion: what each turn does to its state ===== -/
def ckI (k : Nat) : Bool := [9, 10, 17, 18, 21, 22, 23, 24].contains k
def ckA (k : Nat) : Bool := [11, 12, 13, 14, 15, 16, 19, 20, 25].contains k
/-- what the conversion doesn't touch -/
def out (S : MSt) : MSt := (fun k => if ckI k = true then 0 else S.1 k, fun k n => if ckA k = true then 0 else S.2 k n)
theorem out_I {S : MSt} {k : Nat} {x : Int32} (h : ckI k = true) : out (msI S k x) = out S := by
  refine Prod.ext (funext fun j => ?_) rfl
  show (if ckI j = true then 0 else if j = k then x else S.1 j) = (if ckI j = true then 0 else S.1 j)
  by_cases e : j = k
  · rw [if_pos (by rw [e]; exact h), if_pos (by rw [e]; exact h)]
  · rw [if_neg e]
theorem out_A {S : MSt} {k m : Nat} {x : Int32} (h : ckA k = true) : out (msA S k m x) = out S := by
  refine Prod.ext rfl (funext fun j => funext fun i => ?_)
  show (if ckA j = true then 0 else if j = k ∧ i = m then x else S.2 j i) = (if ckA j = true then 0 else S.2 j i)
  by_cases e : j = k
  · rw [if_pos (by rw [e]; exact h), if_pos (by rw [e]; exact h)]
  · rw [if_neg (show ¬ (j = k ∧ i = m) from fun z => e z.1)]
theorem out_i {S S' : MSt} (h : out S' = out S) {k : Nat} (hk : ckI k = false) : S'.1 k = S.1 k := by
  have := congrFun (congrArg Prod.fst h) k
  simp only [out, hk, Bool.false_eq_true, if_false] at this
  exact this
theorem out_a {S S' : MSt} (h : out S' = out S) {k : Nat} (hk : ckA k = false) : S'.2 k = S.2 k := by
  funext n
  have := congrFun (congrFun (congrArg Prod.snd h) k) n
  simp only [out, hk, Bool.false_eq_true, if_false] at this
  exact this
/-- kept: what lies below q in the frames' arrays, below dr in the draft, and outside -/
def KA (q dr : Nat) (S S' : MSt) : Prop := out S' = out S ∧ (∀ k, 11 ≤ k → k ≤ 16 → ∀ j, j ≤ q → S'.2 k j = S.2 k j) ∧ (∀ j, j < dr → S'.2 25 j = S.2 25 j)
theorem KA.tr {q dr q' dr' : Nat} {S S1 S2 : MSt} (h : KA q dr S S1) (h' : KA q' dr' S1 S2) (hq : q ≤ q') (hd : dr ≤ dr') : KA q dr S S2 :=
  ⟨h'.1.trans h.1, fun k a b j hj => (h'.2.1 k a b j (Nat.le_trans hj hq)).trans (h.2.1 k a b j hj), fun j hj => (h'.2.2 j (Nat.lt_of_lt_of_le hj hd)).trans (h.2.2 j hj)⟩
theorem KA.rf {q dr : Nat} {S : MSt} : KA q dr S S := ⟨rfl, fun _ _ _ _ _ => rfl, fun _ _ => rfl⟩
theorem KA.I {q dr k : Nat} {S S0 : MSt} {x : Int32} (h : KA q dr S0 S) (hk : ckI k = true) : KA q dr S0 (msI S k x) := ⟨(out_I hk).trans h.1, h.2.1, h.2.2⟩
theorem KA.A {q dr k m : Nat} {S S0 : MSt} {x : Int32} (h : KA q dr S0 S) (hk : ckA k = true) (hm : k = 19 ∨ k = 20 ∨ (k = 25 ∧ dr ≤ m) ∨ (11 ≤ k ∧ k ≤ 16 ∧ q < m)) : KA q dr S0 (msA S k m x) := by
  refine ⟨(out_A hk).trans h.1, fun j a b i hi => ?_, fun i hi => ?_⟩
  · have : ¬ (j = k ∧ i = m) := fun z => by omega
    exact (if_neg this).trans (h.2.1 j a b i hi)
  · have : ¬ (25 = k ∧ i = m) := fun z => by omega
    exact (if_neg this).trans (h.2.2 i hi)
def CS (n p q dr k dp D : Nat) (S : MSt) : Prop := S.1 1 = nI n ∧ S.1 9 = nI p ∧ S.1 10 = nI q ∧ S.1 23 = nI dr ∧ S.1 24 = nI k ∧ S.1 21 = nI dp ∧ S.1 22 = nI D
theorem mE {S : MSt} {m : Nat} {v : Int32} (h : S.1 23 = nI m) (hm : m < 2 ^ 31) : mEmit S v = msI (msA S 25 m v) 23 (nI (m + 1)) := by
  unfold mEmit
  rw [nIc h hm, h, nI_1]
theorem nI_p1 (k : Nat) : nI k + 1 - 1 = nI k := Int32.add_sub_cancel _ _
theorem nI_m1 {k : Nat} (h : 0 < k) : nI k - 1 = nI (k - 1) := by
  have e : nI k = nI (k - 1) + 1 := by rw [nI_1, Nat.sub_add_cancel h]
  rw [e]
  exact Int32.add_sub_cancel _ _
theorem mB {S : MSt} {dp D : Nat} (h : S.1 21 = nI dp) (h' : S.1 22 = nI D) (h1 : dp < 1000) (h2 : D < 1000) : mBegR S = msI (msI S 21 (nI (dp + 1))) 22 (nI (max D (dp + 1))) := by
  unfold mBegR
  rw [h, h', nI_1]
  by_cases hc : dp + 1 ≤ D
  · rw [if_pos (nI_le hc (by omega)), Nat.max_eq_left hc]
  · rw [if_neg (nI_ge (by omega) (by omega)), Nat.max_eq_right (by omega)]
section M15
variable {n p q dr k dp D x hd : Nat} {S : MSt}
theorem T_fun (h : CS n p q dr k dp D S) (hb : dr < 700 ∧ dp < 900 ∧ D < 900) :
    ∃ S1, mFun S q x = S1 ∧ CS n (p + 2) (q + 1) (dr + 4) (k + 1) (dp + 1) (max D (dp + 1)) S1 ∧ KA q dr S S1 ∧ S1.2 11 (q + 1) = 2 ∧ S1.2 12 (q + 1) = 0 ∧ S1.2 13 (q + 1) = nI x ∧ S1.2 14 (q + 1) = nI dr ∧ S1.2 15 (q + 1) = S.2 19 x ∧ S1.2 16 (q + 1) = S.2 20 x ∧ S1.2 19 = rup (S.2 19) x 1 ∧ S1.2 20 = rup (S.2 20) x (nI k) ∧ S1.2 25 = rup (rup (rup (rup (S.2 25) dr 8) (dr + 1) (-1)) (dr + 2) 2) (dr + 3) (nI k) := by
  obtain ⟨c1, c9, c10, c23, c24, c21, c22⟩ := h
  have e1 : mFun S q x = mMeans (msI (msI (msI (msA (msI (msA (msI (msA (msI (msA (mFun0 S q (nI x)) 25 (dr) 8) 23 (nI (dr + 1))) 25 (dr + 1) (-1)) 23 (nI (dr + 1 + 1))) 25 (dr + 1 + 1) 2) 23 (nI (dr + 1 + 1 + 1))) 25 (dr + 1 + 1 + 1) (nI k)) 23 (nI (dr + 1 + 1 + 1 + 1))) 21 (nI (dp + 1))) 22 (nI (max D (dp + 1)))) (q + 1) x 1 (nI k) := by
    unfold mFun
    rw [c24, nI_p1, mE (S := mFun0 S q (nI x)) (m := dr) (v := 8) c23 (by omega), mE (m := dr + 1) (v := (-1)) rfl (by omega), mE (m := dr + 1 + 1) (v := 2) rfl (by omega), mE (m := dr + 1 + 1 + 1) (v := (nI k)) rfl (by omega), mB (S := (msI (msA (msI (msA (msI (msA (msI (msA (mFun0 S q (nI x)) 25 (dr) 8) 23 (nI (dr + 1))) 25 (dr + 1) (-1)) 23 (nI (dr + 1 + 1))) 25 (dr + 1 + 1) 2) 23 (nI (dr + 1 + 1 + 1))) 25 (dr + 1 + 1 + 1) (nI k)) 23 (nI (dr + 1 + 1 + 1 + 1)))) (dp := dp) (D := D) c21 c22 (by omega) (by omega)]
  refine ⟨_, rfl, ?_⟩
  rw [e1]
  refine ⟨⟨c1, ?_, ?_, rfl, ?_, rfl, rfl⟩, ?_, ?_, ?_, ?_, ?_, ?_, ?_, ?_, ?_, ?_⟩
  · show S.1 9 + 1 + 1 = _; rw [c9, nI_1, nI_1]
  · show S.1 10 + 1 = _; rw [c10, nI_1]
  · show S.1 24 + 1 = _; rw [c24, nI_1]
  · unfold mMeans mFun0 mOpen mNext
    repeat (first | exact KA.rf | refine KA.I ?_ rfl | refine KA.A ?_ rfl (by omega))
  · simp [mMeans, mFun0, mOpen, mNext, msI, msA]
  · simp [mMeans, mFun0, mOpen, mNext, msI, msA]
  · simp [mMeans, mFun0, mOpen, mNext, msI, msA]
  · simp [mMeans, mFun0, mOpen, mNext, msI, msA, c23]
  · simp [mMeans, mFun0, mOpen, mNext, msI, msA]
  · simp [mMeans, mFun0, mOpen, mNext, msI, msA]
  · funext j; simp [mMeans, mFun0, mOpen, mNext, msI, msA, rup]
  · funext j; simp [mMeans, mFun0, mOpen, mNext, msI, msA, rup]
  · funext j; simp [mMeans, mFun0, mOpen, mNext, msI, msA, rup]
theorem T_op3 (h : CS n p q dr k dp D S)  :
    ∃ S1, msA (mOpen S q 3) 13 (q + 1) 0 = S1 ∧ CS n (p + 1) (q + 1) dr k dp D S1 ∧ KA q dr S S1 ∧ S1.2 11 (q + 1) = 3 ∧ S1.2 12 (q + 1) = 0 ∧ S1.2 19 = S.2 19 ∧ S1.2 20 = S.2 20 ∧ S1.2 25 = S.2 25 := by
  obtain ⟨c1, c9, c10, c23, c24, c21, c22⟩ := h
  refine ⟨_, rfl, ?_⟩
  refine ⟨⟨?_, ?_, ?_, ?_, ?_, ?_, ?_⟩, ?_, ?_, ?_, ?_, ?_, ?_⟩
  · exact c1
  · show S.1 9 + 1 = _; rw [c9, nI_1]
  · show S.1 10 + 1 = _; rw [c10, nI_1]
  · exact c23
  · exact c24
  · exact c21
  · exact c22
  · unfold mOpen mNext
    repeat (first | exact KA.rf | refine KA.I ?_ rfl | refine KA.A ?_ rfl (by omega))
  · simp [mOpen, mNext, msI, msA, rup]
  · simp [mOpen, mNext, msI, msA, rup]
  · exact rfl
  · exact rfl
  · exact rfl
theorem T_op6 (h : CS n p q dr k dp D S)  :
    ∃ S1, msA (mOpen S q 6) 13 (q + 1) 0 = S1 ∧ CS n (p + 1) (q + 1) dr k dp D S1 ∧ KA q dr S S1 ∧ S1.2 11 (q + 1) = 6 ∧ S1.2 12 (q + 1) = 0 ∧ S1.2 19 = S.2 19 ∧ S1.2 20 = S.2 20 ∧ S1.2 25 = S.2 25 := by
  obtain ⟨c1, c9, c10, c23, c24, c21, c22⟩ := h
  refine ⟨_, rfl, ?_⟩
  refine ⟨⟨?_, ?_, ?_, ?_, ?_, ?_, ?_⟩, ?_, ?_, ?_, ?_, ?_, ?_⟩
  · exact c1
  · show S.1 9 + 1 = _; rw [c9, nI_1]
  · show S.1 10 + 1 = _; rw [c10, nI_1]
  · exact c23
  · exact c24
  · exact c21
  · exact c22
  · unfold mOpen mNext
    repeat (first | exact KA.rf | refine KA.I ?_ rfl | refine KA.A ?_ rfl (by omega))
  · simp [mOpen, mNext, msI, msA, rup]
  · simp [mOpen, mNext, msI, msA, rup]
  · exact rfl
  · exact rfl
  · exact rfl
theorem T_op4 (h : CS n p q dr k dp D S) {v : Int32}  :
    ∃ S1, msA (mNext (mOpen S q 4)) 13 (q + 1) v = S1 ∧ CS n (p + 2) (q + 1) dr k dp D S1 ∧ KA q dr S S1 ∧ S1.2 11 (q + 1) = 4 ∧ S1.2 12 (q + 1) = 0 ∧ S1.2 13 (q + 1) = v ∧ S1.2 19 = S.2 19 ∧ S1.2 20 = S.2 20 ∧ S1.2 25 = S.2 25 := by
  obtain ⟨c1, c9, c10, c23, c24, c21, c22⟩ := h
  refine ⟨_, rfl, ?_⟩
  refine ⟨⟨?_, ?_, ?_, ?_, ?_, ?_, ?_⟩, ?_, ?_, ?_, ?_, ?_, ?_, ?_⟩
  · exact c1
  · show S.1 9 + 1 + 1 = _; rw [c9, nI_1, nI_1]
  · show S.1 10 + 1 = _; rw [c10, nI_1]
  · exact c23
  · exact c24
  · exact c21
  · exact c22
  · unfold mOpen mNext
    repeat (first | exact KA.rf | refine KA.I ?_ rfl | refine KA.A ?_ rfl (by omega))
  · simp [mOpen, mNext, msI, msA, rup]
  · simp [mOpen, mNext, msI, msA, rup]
  · simp [mOpen, mNext, msI, msA, rup]
  · exact rfl
  · exact rfl
  · exact rfl
theorem T_op5 (h : CS n p q dr k dp D S) {v : Int32}  :
    ∃ S1, msA (mNext (mOpen S q 5)) 13 (q + 1) v = S1 ∧ CS n (p + 2) (q + 1) dr k dp D S1 ∧ KA q dr S S1 ∧ S1.2 11 (q + 1) = 5 ∧ S1.2 12 (q + 1) = 0 ∧ S1.2 13 (q + 1) = v ∧ S1.2 19 = S.2 19 ∧ S1.2 20 = S.2 20 ∧ S1.2 25 = S.2 25 := by
  obtain ⟨c1, c9, c10, c23, c24, c21, c22⟩ := h
  refine ⟨_, rfl, ?_⟩
  refine ⟨⟨?_, ?_, ?_, ?_, ?_, ?_, ?_⟩, ?_, ?_, ?_, ?_, ?_, ?_, ?_⟩
  · exact c1
  · show S.1 9 + 1 + 1 = _; rw [c9, nI_1, nI_1]
  · show S.1 10 + 1 = _; rw [c10, nI_1]
  · exact c23
  · exact c24
  · exact c21
  · exact c22
  · unfold mOpen mNext
    repeat (first | exact KA.rf | refine KA.I ?_ rfl | refine KA.A ?_ rfl (by omega))
  · simp [mOpen, mNext, msI, msA, rup]
  · simp [mOpen, mNext, msI, msA, rup]
  · simp [mOpen, mNext, msI, msA, rup]
  · exact rfl
  · exact rfl
  · exact rfl
theorem T_at (h : CS n p q dr k dp D S) {a b : Int32}  :
    ∃ S1, msI (msI (mNext (mNext S)) 17 a) 18 b = S1 ∧ CS n (p + 2) q dr k dp D S1 ∧ KA q dr S S1 ∧ S1.1 17 = a ∧ S1.1 18 = b ∧ S1.2 19 = S.2 19 ∧ S1.2 20 = S.2 20 ∧ S1.2 25 = S.2 25 := by
  obtain ⟨c1, c9, c10, c23, c24, c21, c22⟩ := h
  refine ⟨_, rfl, ?_⟩
  refine ⟨⟨?_, ?_, ?_, ?_, ?_, ?_, ?_⟩, ?_, ?_, ?_, ?_, ?_, ?_⟩
  · exact c1
  · show S.1 9 + 1 + 1 = _; rw [c9, nI_1, nI_1]
  · exact c10
  · exact c23
  · exact c24
  · exact c21
  · exact c22
  · unfold mNext
    repeat (first | exact KA.rf | refine KA.I ?_ rfl | refine KA.A ?_ rfl (by omega))
  · exact rfl
  · exact rfl
  · exact rfl
  · exact rfl
  · exact rfl
theorem T_gofun (h : CS n p (q + 1) dr k dp D S) (hb : dr < 700 ∧ dp < 900 ∧ D < 900) {a b : Int32} (hdp : 0 < dp) (hhd : hd + 1 < dr) (h15 : S.2 15 (q + 1) = a) (h16 : S.2 16 (q + 1) = b)  :
    ∃ S1, mNamed (mAgain (mRowE (mS0 S (q + 1))) (q + 1) x) hd = S1 ∧ CS n p q (dr + 3) (k + 1) (dp - 1) D S1 ∧ KA q (hd + 1) S S1 ∧ S1.1 17 = 1 ∧ S1.1 18 = nI k ∧ S1.2 19 = rup (S.2 19) x a ∧ S1.2 20 = rup (S.2 20) x b ∧ S1.2 25 = rup (rup (rup (rup (S.2 25) dr 9) (dr + 1) (S.1 17)) (dr + 2) (S.1 18)) (hd + 1) (nI k) := by
  obtain ⟨c1, c9, c10, c23, c24, c21, c22⟩ := h
  have e1 : mNamed (mAgain (mRowE (mS0 S (q + 1))) (q + 1) x) hd = mNamed (mAgain (msI (msA (msI (msA (msI (msA (mS0 S (q + 1)) 25 (dr) 9) 23 (nI (dr + 1))) 25 (dr + 1) (S.1 17)) 23 (nI (dr + 1 + 1))) 25 (dr + 1 + 1) (S.1 18)) 23 (nI (dr + 1 + 1 + 1))) (q + 1) x) hd := by
    show mNamed (mAgain (mEmit (mEmit (mEmit (mS0 S (q + 1)) 9) (S.1 17)) (S.1 18)) (q + 1) x) hd = _
    rw [mE (S := mS0 S (q + 1)) (m := dr) (v := 9) c23 (by omega), mE (m := dr + 1) (v := (S.1 17)) rfl (by omega), mE (m := dr + 1 + 1) (v := (S.1 18)) rfl (by omega)]
  refine ⟨_, rfl, ?_⟩
  rw [e1]
  refine ⟨⟨?_, ?_, ?_, ?_, ?_, ?_, ?_⟩, ?_, ?_, ?_, ?_, ?_, ?_⟩
  · exact c1
  · exact c9
  · show S.1 10 - 1 = _; rw [c10, nI_m1 (by omega)]; rfl
  · exact rfl
  · show S.1 24 + 1 = _; rw [c24, nI_1]
  · show S.1 21 - 1 = _; rw [c21, nI_m1 (by omega)]
  · exact c22
  · unfold mNamed mAgain mS0
    repeat (first | exact KA.rf | refine KA.I ?_ rfl | refine KA.A ?_ rfl (by omega))
  · exact rfl
  · show S.1 24 + 1 - 1 = _; rw [c24, nI_p1]
  · funext j; simp [mNamed, mAgain, mS0, msI, msA, rup, h15]
  · funext j; simp [mNamed, mAgain, mS0, msI, msA, rup, h16]
  · funext j; simp [mNamed, mAgain, mS0, msI, msA, rup, c24, nI_p1]
theorem T_golet0 (h : CS n p (q + 1) dr k dp D S) (hs : S.2 12 (q + 1) = 0) :
    ∃ S1, mMeans (mS0 S (q + 1)) (q + 1) x ((mS0 S (q + 1)).1 17) ((mS0 S (q + 1)).1 18) = S1 ∧ CS n p (q + 1) dr k dp D S1 ∧ KA q dr S S1 ∧ S1.2 11 (q + 1) = S.2 11 (q + 1) ∧ S1.2 12 (q + 1) = 1 ∧ S1.2 13 (q + 1) = S.2 13 (q + 1) ∧ S1.2 15 (q + 1) = S.2 19 x ∧ S1.2 16 (q + 1) = S.2 20 x ∧ S1.2 19 = rup (S.2 19) x (S.1 17) ∧ S1.2 20 = rup (S.2 20) x (S.1 18) ∧ S1.2 25 = S.2 25 := by
  obtain ⟨c1, c9, c10, c23, c24, c21, c22⟩ := h
  refine ⟨_, rfl, ?_⟩
  refine ⟨⟨?_, ?_, ?_, ?_, ?_, ?_, ?_⟩, ?_, ?_, ?_, ?_, ?_, ?_, ?_, ?_, ?_⟩
  · exact c1
  · exact c9
  · exact c10
  · exact c23
  · exact c24
  · exact c21
  · exact c22
  · unfold mMeans mS0
    repeat (first | exact KA.rf | refine KA.I ?_ rfl | refine KA.A ?_ rfl (by omega))
  · simp [mMeans, mS0, msI, msA, rup]
  · simp [mMeans, mS0, msI, msA, hs]
  · simp [mMeans, mS0, msI, msA, rup]
  · simp [mMeans, mS0, msI, msA, rup]
  · simp [mMeans, mS0, msI, msA, rup]
  · funext j; simp [mMeans, mS0, msI, msA, rup]
  · funext j; simp [mMeans, mS0, msI, msA, rup]
  · exact rfl
theorem T_golet1 (h : CS n p (q + 1) dr k dp D S) {a b : Int32} (h15 : S.2 15 (q + 1) = a) (h16 : S.2 16 (q + 1) = b)  :
    ∃ S1, mCl (mAgain (mS0 S (q + 1)) (q + 1) x) = S1 ∧ CS n p q dr k dp D S1 ∧ KA q dr S S1 ∧ S1.1 17 = S.1 17 ∧ S1.1 18 = S.1 18 ∧ S1.2 19 = rup (S.2 19) x a ∧ S1.2 20 = rup (S.2 20) x b ∧ S1.2 25 = S.2 25 := by
  obtain ⟨c1, c9, c10, c23, c24, c21, c22⟩ := h
  refine ⟨_, rfl, ?_⟩
  refine ⟨⟨?_, ?_, ?_, ?_, ?_, ?_, ?_⟩, ?_, ?_, ?_, ?_, ?_, ?_⟩
  · exact c1
  · exact c9
  · show S.1 10 - 1 = _; rw [c10, nI_m1 (by omega)]; rfl
  · exact c23
  · exact c24
  · exact c21
  · exact c22
  · unfold mCl mAgain mS0
    repeat (first | exact KA.rf | refine KA.I ?_ rfl | refine KA.A ?_ rfl (by omega))
  · exact rfl
  · exact rfl
  · funext j; simp [mCl, mAgain, mS0, msI, msA, rup, h15]
  · funext j; simp [mCl, mAgain, mS0, msI, msA, rup, h16]
  · exact rfl
theorem T_goif0 (h : CS n p (q + 1) dr k dp D S) (hb : dr < 700 ∧ dp < 900 ∧ D < 900) (hs : S.2 12 (q + 1) = 0) :
    ∃ S1, mBr0 (mS0 S (q + 1)) (q + 1) = S1 ∧ CS n p (q + 1) (dr + 5) k (dp + 1) (max D (dp + 1)) S1 ∧ KA q dr S S1 ∧ S1.2 11 (q + 1) = S.2 11 (q + 1) ∧ S1.2 12 (q + 1) = 1 ∧ S1.2 14 (q + 1) = nI dr ∧ S1.2 19 = S.2 19 ∧ S1.2 20 = S.2 20 ∧ S1.2 25 = rup (rup (rup (rup (rup (S.2 25) dr 8) (dr + 1) (-1)) (dr + 2) 6) (dr + 3) (S.1 17)) (dr + 4) (S.1 18) := by
  obtain ⟨c1, c9, c10, c23, c24, c21, c22⟩ := h
  have e1 : mBr0 (mS0 S (q + 1)) (q + 1) = (msI (msI (msI (msA (msI (msA (msI (msA (msI (msA (msI (msA (msA (mS0 S (q + 1)) 14 (q + 1) (S.1 23)) 25 (dr) 8) 23 (nI (dr + 1))) 25 (dr + 1) (-1)) 23 (nI (dr + 1 + 1))) 25 (dr + 1 + 1) 6) 23 (nI (dr + 1 + 1 + 1))) 25 (dr + 1 + 1 + 1) (S.1 17)) 23 (nI (dr + 1 + 1 + 1 + 1))) 25 (dr + 1 + 1 + 1 + 1) (S.1 18)) 23 (nI (dr + 1 + 1 + 1 + 1 + 1))) 21 (nI (dp + 1))) 22 (nI (max D (dp + 1)))) := by
    show mBegR (mEmit (mEmit (mEmit (mEmit (mEmit (msA (mS0 S (q + 1)) 14 (q + 1) (S.1 23)) 8) (-1)) 6) (S.1 17)) (S.1 18)) = _
    rw [mE (S := msA (mS0 S (q + 1)) 14 (q + 1) (S.1 23)) (m := dr) (v := 8) c23 (by omega), mE (m := dr + 1) (v := (-1)) rfl (by omega), mE (m := dr + 1 + 1) (v := 6) rfl (by omega), mE (m := dr + 1 + 1 + 1) (v := (S.1 17)) rfl (by omega), mE (m := dr + 1 + 1 + 1 + 1) (v := (S.1 18)) rfl (by omega), mB (S := (msI (msA (msI (msA (msI (msA (msI (msA (msI (msA (msA (mS0 S (q + 1)) 14 (q + 1) (S.1 23)) 25 (dr) 8) 23 (nI (dr + 1))) 25 (dr + 1) (-1)) 23 (nI (dr + 1 + 1))) 25 (dr + 1 + 1) 6) 23 (nI (dr + 1 + 1 + 1))) 25 (dr + 1 + 1 + 1) (S.1 17)) 23 (nI (dr + 1 + 1 + 1 + 1))) 25 (dr + 1 + 1 + 1 + 1) (S.1 18)) 23 (nI (dr + 1 + 1 + 1 + 1 + 1)))) (dp := dp) (D := D) c21 c22 (by omega) (by omega)]
  refine ⟨_, rfl, ?_⟩
  rw [e1]
  refine ⟨⟨?_, ?_, ?_, ?_, ?_, ?_, ?_⟩, ?_, ?_, ?_, ?_, ?_, ?_, ?_⟩
  · exact c1
  · exact c9
  · exact c10
  · exact rfl
  · exact c24
  · exact rfl
  · exact rfl
  · unfold mS0
    repeat (first | exact KA.rf | refine KA.I ?_ rfl | refine KA.A ?_ rfl (by omega))
  · simp [mS0, msI, msA, rup]
  · simp [mS0, msI, msA, hs]
  · simp [mS0, msI, msA, c23]
  · exact rfl
  · exact rfl
  · funext j; simp [mS0, msI, msA, rup]
theorem T_goif1 (h : CS n p (q + 1) dr k dp D S) (hb : dr < 700 ∧ dp < 900 ∧ D < 900) (hs : S.2 12 (q + 1) = 1) :
    ∃ S1, mRowE (mS0 S (q + 1)) = S1 ∧ CS n p (q + 1) (dr + 3) k dp D S1 ∧ KA q dr S S1 ∧ S1.2 11 (q + 1) = S.2 11 (q + 1) ∧ S1.2 12 (q + 1) = 2 ∧ S1.2 14 (q + 1) = S.2 14 (q + 1) ∧ S1.2 19 = S.2 19 ∧ S1.2 20 = S.2 20 ∧ S1.2 25 = rup (rup (rup (S.2 25) dr 9) (dr + 1) (S.1 17)) (dr + 2) (S.1 18) := by
  obtain ⟨c1, c9, c10, c23, c24, c21, c22⟩ := h
  have e1 : mRowE (mS0 S (q + 1)) = (msI (msA (msI (msA (msI (msA (mS0 S (q + 1)) 25 (dr) 9) 23 (nI (dr + 1))) 25 (dr + 1) (S.1 17)) 23 (nI (dr + 1 + 1))) 25 (dr + 1 + 1) (S.1 18)) 23 (nI (dr + 1 + 1 + 1))) := by
    show (mEmit (mEmit (mEmit (mS0 S (q + 1)) 9) (S.1 17)) (S.1 18)) = _
    rw [mE (S := mS0 S (q + 1)) (m := dr) (v := 9) c23 (by omega), mE (m := dr + 1) (v := (S.1 17)) rfl (by omega), mE (m := dr + 1 + 1) (v := (S.1 18)) rfl (by omega)]
  refine ⟨_, rfl, ?_⟩
  rw [e1]
  refine ⟨⟨?_, ?_, ?_, ?_, ?_, ?_, ?_⟩, ?_, ?_, ?_, ?_, ?_, ?_, ?_⟩
  · exact c1
  · exact c9
  · exact c10
  · exact rfl
  · exact c24
  · exact c21
  · exact c22
  · unfold mS0
    repeat (first | exact KA.rf | refine KA.I ?_ rfl | refine KA.A ?_ rfl (by omega))
  · simp [mS0, msI, msA, rup]
  · simp [mS0, msI, msA, hs]
  · simp [mS0, msI, msA, rup]
  · exact rfl
  · exact rfl
  · funext j; simp [mS0, msI, msA, rup]
theorem T_goif2 (h : CS n p (q + 1) dr k dp D S) (hb : dr < 700 ∧ dp < 900 ∧ D < 900) (hdp : 0 < dp) (hhd : hd + 1 < dr)  :
    ∃ S1, mNamed (mRowE (mS0 S (q + 1))) hd = S1 ∧ CS n p q (dr + 3) (k + 1) (dp - 1) D S1 ∧ KA q (hd + 1) S S1 ∧ S1.1 17 = 1 ∧ S1.1 18 = nI k ∧ S1.2 19 = S.2 19 ∧ S1.2 20 = S.2 20 ∧ S1.2 25 = rup (rup (rup (rup (S.2 25) dr 9) (dr + 1) (S.1 17)) (dr + 2) (S.1 18)) (hd + 1) (nI k) := by
  obtain ⟨c1, c9, c10, c23, c24, c21, c22⟩ := h
  have e1 : mNamed (mRowE (mS0 S (q + 1))) hd = mNamed (msI (msA (msI (msA (msI (msA (mS0 S (q + 1)) 25 (dr) 9) 23 (nI (dr + 1))) 25 (dr + 1) (S.1 17)) 23 (nI (dr + 1 + 1))) 25 (dr + 1 + 1) (S.1 18)) 23 (nI (dr + 1 + 1 + 1))) hd := by
    show mNamed (mEmit (mEmit (mEmit (mS0 S (q + 1)) 9) (S.1 17)) (S.1 18)) hd = _
    rw [mE (S := mS0 S (q + 1)) (m := dr) (v := 9) c23 (by omega), mE (m := dr + 1) (v := (S.1 17)) rfl (by omega), mE (m := dr + 1 + 1) (v := (S.1 18)) rfl (by omega)]
  refine ⟨_, rfl, ?_⟩
  rw [e1]
  refine ⟨⟨?_, ?_, ?_, ?_, ?_, ?_, ?_⟩, ?_, ?_, ?_, ?_, ?_, ?_⟩
  · exact c1
  · exact c9
  · show S.1 10 - 1 = _; rw [c10, nI_m1 (by omega)]; rfl
  · exact rfl
  · show S.1 24 + 1 = _; rw [c24, nI_1]
  · show S.1 21 - 1 = _; rw [c21, nI_m1 (by omega)]
  · exact c22
  · unfold mNamed mS0
    repeat (first | exact KA.rf | refine KA.I ?_ rfl | refine KA.A ?_ rfl (by omega))
  · exact rfl
  · show S.1 24 + 1 - 1 = _; rw [c24, nI_p1]
  · exact rfl
  · exact rfl
  · funext j; simp [mNamed, mS0, msI, msA, rup, c24, nI_p1]
theorem T_gopa (h : CS n p (q + 1) dr k dp D S) (hs : S.2 12 (q + 1) = 0) :
    ∃ S1, mPr0 (mS0 S (q + 1)) (q + 1) = S1 ∧ CS n p (q + 1) dr k dp D S1 ∧ KA q dr S S1 ∧ S1.2 11 (q + 1) = S.2 11 (q + 1) ∧ S1.2 12 (q + 1) = 1 ∧ S1.2 13 (q + 1) = S.2 13 (q + 1) ∧ S1.2 15 (q + 1) = S.1 17 ∧ S1.2 16 (q + 1) = S.1 18 ∧ S1.2 19 = S.2 19 ∧ S1.2 20 = S.2 20 ∧ S1.2 25 = S.2 25 := by
  obtain ⟨c1, c9, c10, c23, c24, c21, c22⟩ := h
  refine ⟨_, rfl, ?_⟩
  refine ⟨⟨?_, ?_, ?_, ?_, ?_, ?_, ?_⟩, ?_, ?_, ?_, ?_, ?_, ?_, ?_, ?_, ?_⟩
  · exact c1
  · exact c9
  · exact c10
  · exact c23
  · exact c24
  · exact c21
  · exact c22
  · unfold mPr0 mPr0a mPr0b mS0
    repeat (first | exact KA.rf | refine KA.I ?_ rfl | refine KA.A ?_ rfl (by omega))
  · simp [mPr0, mPr0a, mPr0b, mS0, msI, msA, rup]
  · simp [mPr0, mPr0a, mPr0b, mS0, msI, msA, hs]
  · simp [mPr0, mPr0a, mPr0b, mS0, msI, msA, rup]
  · simp [mPr0, mPr0a, mPr0b, mS0, msI, msA, rup]
  · simp [mPr0, mPr0a, mPr0b, mS0, msI, msA, rup]
  · exact rfl
  · exact rfl
  · exact rfl
theorem T_gopb3 (h : CS n p (q + 1) dr k dp D S) (hb : dr < 700 ∧ dp < 900 ∧ D < 900) {a b : Int32} (h15 : S.2 15 (q + 1) = a) (h16 : S.2 16 (q + 1) = b)  :
    ∃ S1, mPr3 (mS0 S (q + 1)) (q + 1) = S1 ∧ CS n p q (dr + 7) (k + 1) dp D S1 ∧ KA q dr S S1 ∧ S1.1 17 = 1 ∧ S1.1 18 = nI k ∧ S1.2 19 = S.2 19 ∧ S1.2 20 = S.2 20 ∧ S1.2 25 = (rup (rup (rup (rup (rup (rup (rup (S.2 25) dr 8) (dr + 1) (nI k)) (dr + 2) 3) (dr + 3) a) (dr + 4) b) (dr + 5) (S.1 17)) (dr + 6) (S.1 18)) := by
  obtain ⟨c1, c9, c10, c23, c24, c21, c22⟩ := h
  have e1 : mPr3 (mS0 S (q + 1)) (q + 1) = mCl (msI (msI (msI (msA (msI (msA (msI (msA (msI (msA (msI (msA (msI (msA (msI (msA (msI (mS0 S (q + 1)) 24 (S.1 24 + 1)) 25 (dr) 8) 23 (nI (dr + 1))) 25 (dr + 1) (nI k)) 23 (nI (dr + 1 + 1))) 25 (dr + 1 + 1) 3) 23 (nI (dr + 1 + 1 + 1))) 25 (dr + 1 + 1 + 1) a) 23 (nI (dr + 1 + 1 + 1 + 1))) 25 (dr + 1 + 1 + 1 + 1) b) 23 (nI (dr + 1 + 1 + 1 + 1 + 1))) 25 (dr + 1 + 1 + 1 + 1 + 1) (S.1 17)) 23 (nI (dr + 1 + 1 + 1 + 1 + 1 + 1))) 25 (dr + 1 + 1 + 1 + 1 + 1 + 1) (S.1 18)) 23 (nI (dr + 1 + 1 + 1 + 1 + 1 + 1 + 1))) 17 1) 18 (nI k)) := by
    show mCl (msI (msI (mEmit (mEmit (mEmit (mEmit (mEmit (mEmit (mEmit (msI (mS0 S (q + 1)) 24 (S.1 24 + 1)) 8) (S.1 24 + 1 - 1)) 3) (S.2 15 (q + 1))) (S.2 16 (q + 1))) (S.1 17)) (S.1 18)) 17 1) 18 (S.1 24 + 1 - 1)) = _
    rw [show S.1 24 + 1 - 1 = nI k by rw [c24, nI_p1], h15, h16, mE (S := msI (mS0 S (q + 1)) 24 (S.1 24 + 1)) (m := dr) (v := 8) c23 (by omega), mE (m := dr + 1) (v := (nI k)) rfl (by omega), mE (m := dr + 1 + 1) (v := 3) rfl (by omega), mE (m := dr + 1 + 1 + 1) (v := a) rfl (by omega), mE (m := dr + 1 + 1 + 1 + 1) (v := b) rfl (by omega), mE (m := dr + 1 + 1 + 1 + 1 + 1) (v := (S.1 17)) rfl (by omega), mE (m := dr + 1 + 1 + 1 + 1 + 1 + 1) (v := (S.1 18)) rfl (by omega)]
  refine ⟨_, rfl, ?_⟩
  rw [e1]
  refine ⟨⟨?_, ?_, ?_, ?_, ?_, ?_, ?_⟩, ?_, ?_, ?_, ?_, ?_, ?_⟩
  · exact c1
  · exact c9
  · show S.1 10 - 1 = _; rw [c10, nI_m1 (by omega)]; rfl
  · exact rfl
  · show S.1 24 + 1 = _; rw [c24, nI_1]
  · exact c21
  · exact c22
  · unfold mCl mS0
    repeat (first | exact KA.rf | refine KA.I ?_ rfl | refine KA.A ?_ rfl (by omega))
  · exact rfl
  · exact rfl
  · exact rfl
  · exact rfl
  · funext j; simp [mCl, mS0, msI, msA, rup]
theorem T_gopb5 (h : CS n p (q + 1) dr k dp D S) (hb : dr < 700 ∧ dp < 900 ∧ D < 900) {a b : Int32} (h15 : S.2 15 (q + 1) = a) (h16 : S.2 16 (q + 1) = b)  :
    ∃ S1, mPr5 (mS0 S (q + 1)) (q + 1) = S1 ∧ CS n p q (dr + 8) (k + 1) dp D S1 ∧ KA q dr S S1 ∧ S1.1 17 = 1 ∧ S1.1 18 = nI k ∧ S1.2 19 = S.2 19 ∧ S1.2 20 = S.2 20 ∧ S1.2 25 = (rup (rup (rup (rup (rup (rup (rup (rup (S.2 25) dr 8) (dr + 1) (nI k)) (dr + 2) 5) (dr + 3) (S.2 13 (q + 1))) (dr + 4) a) (dr + 5) b) (dr + 6) (S.1 17)) (dr + 7) (S.1 18)) := by
  obtain ⟨c1, c9, c10, c23, c24, c21, c22⟩ := h
  have e1 : mPr5 (mS0 S (q + 1)) (q + 1) = mCl (msI (msI (msI (msA (msI (msA (msI (msA (msI (msA (msI (msA (msI (msA (msI (msA (msI (msA (msI (mS0 S (q + 1)) 24 (S.1 24 + 1)) 25 (dr) 8) 23 (nI (dr + 1))) 25 (dr + 1) (nI k)) 23 (nI (dr + 1 + 1))) 25 (dr + 1 + 1) 5) 23 (nI (dr + 1 + 1 + 1))) 25 (dr + 1 + 1 + 1) (S.2 13 (q + 1))) 23 (nI (dr + 1 + 1 + 1 + 1))) 25 (dr + 1 + 1 + 1 + 1) a) 23 (nI (dr + 1 + 1 + 1 + 1 + 1))) 25 (dr + 1 + 1 + 1 + 1 + 1) b) 23 (nI (dr + 1 + 1 + 1 + 1 + 1 + 1))) 25 (dr + 1 + 1 + 1 + 1 + 1 + 1) (S.1 17)) 23 (nI (dr + 1 + 1 + 1 + 1 + 1 + 1 + 1))) 25 (dr + 1 + 1 + 1 + 1 + 1 + 1 + 1) (S.1 18)) 23 (nI (dr + 1 + 1 + 1 + 1 + 1 + 1 + 1 + 1))) 17 1) 18 (nI k)) := by
    show mCl (msI (msI (mEmit (mEmit (mEmit (mEmit (mEmit (mEmit (mEmit (mEmit (msI (mS0 S (q + 1)) 24 (S.1 24 + 1)) 8) (S.1 24 + 1 - 1)) 5) (S.2 13 (q + 1))) (S.2 15 (q + 1))) (S.2 16 (q + 1))) (S.1 17)) (S.1 18)) 17 1) 18 (S.1 24 + 1 - 1)) = _
    rw [show S.1 24 + 1 - 1 = nI k by rw [c24, nI_p1], h15, h16, mE (S := msI (mS0 S (q + 1)) 24 (S.1 24 + 1)) (m := dr) (v := 8) c23 (by omega), mE (m := dr + 1) (v := (nI k)) rfl (by omega), mE (m := dr + 1 + 1) (v := 5) rfl (by omega), mE (m := dr + 1 + 1 + 1) (v := (S.2 13 (q + 1))) rfl (by omega), mE (m := dr + 1 + 1 + 1 + 1) (v := a) rfl (by omega), mE (m := dr + 1 + 1 + 1 + 1 + 1) (v := b) rfl (by omega), mE (m := dr + 1 + 1 + 1 + 1 + 1 + 1) (v := (S.1 17)) rfl (by omega), mE (m := dr + 1 + 1 + 1 + 1 + 1 + 1 + 1) (v := (S.1 18)) rfl (by omega)]
  refine ⟨_, rfl, ?_⟩
  rw [e1]
  refine ⟨⟨?_, ?_, ?_, ?_, ?_, ?_, ?_⟩, ?_, ?_, ?_, ?_, ?_, ?_⟩
  · exact c1
  · exact c9
  · show S.1 10 - 1 = _; rw [c10, nI_m1 (by omega)]; rfl
  · exact rfl
  · show S.1 24 + 1 = _; rw [c24, nI_1]
  · exact c21
  · exact c22
  · unfold mCl mS0
    repeat (first | exact KA.rf | refine KA.I ?_ rfl | refine KA.A ?_ rfl (by omega))
  · exact rfl
  · exact rfl
  · exact rfl
  · exact rfl
  · funext j; simp [mCl, mS0, msI, msA, rup]
end M15
end
section
/-! ===== the reference's conversion does what cv says ===== -/
def Gd (cs : Nat → Int32) (n f : Nat) (M : Mn) (p k : Nat) : Prop := (∃ p', sy cs n f p = some p') ∧ (cv cs f M p k).2.2.2.2.2 = false
def mrel (M : Mn) (S : MSt) : Prop := ∀ x, x < 10 → (M x = none → S.2 19 x < 0) ∧ (∀ a, M x = some a → S.2 19 x = a.1 ∧ S.2 20 x = a.2 ∧ 0 ≤ a.1)
theorem mrel_eq {M : Mn} {S S' : MSt} (h : mrel M S) (h1 : S'.2 19 = S.2 19) (h2 : S'.2 20 = S.2 20) : mrel M S' := fun x hx => by
  rw [h1, h2]
  exact h x hx
theorem rup_eq {R : Nat → Int32} {q : Nat} {x : Int32} : rup R q x q = x := if_pos rfl
theorem rup_ne {R : Nat → Int32} {q j : Nat} {x : Int32} (h : j ≠ q) : rup R q x j = R j := if_neg h
theorem rup_back {R : Nat → Int32} {q : Nat} {x : Int32} : rup (rup R q x) q (R q) = R := by
  funext j
  by_cases h : j = q
  · rw [h, rup_eq]
  · rw [rup_ne h, rup_ne h]
theorem mrel_up {M : Mn} {S S1 : MSt} {x : Nat} {a b : Int32} (h : mrel M S) (h1 : S1.2 19 = rup (S.2 19) x a) (h2 : S1.2 20 = rup (S.2 20) x b) (ha : 0 ≤ a) : mrel (mup M x (a, b)) S1 := fun y hy => by
  rw [h1, h2]
  by_cases e : y = x
  · subst e
    rw [rup_eq, rup_eq]
    unfold mup
    rw [if_pos rfl]
    exact ⟨fun z => (by cases z), fun c hc => (by cases hc; exact ⟨rfl, rfl, ha⟩)⟩
  · rw [rup_ne e, rup_ne e]
    unfold mup
    rw [if_neg e]
    exact h y hy
theorem cv_at {cs : Nat → Int32} {n : Nat} : ∀ (f : Nat) (M : Mn) (p k p' : Nat), sy cs n f p = some p' → (∀ x a, x < 10 → M x = some a → 0 ≤ a.1) → 0 ≤ (cv cs f M p k).2.1.1
  | 0, M, p, k, p', h, _ => by cases h
  | f + 1, M, p, k, p', h, hM => by
    have hk := sy_hok h
    obtain ⟨h1, h2, h3, h4, h5, -, h6, -⟩ := hok_iff.mp hk
    rcases kd7 h2 h3 with w | w | w | w | w | w | w
    · rw [cv_0 w]; exact (show (0 : Int32) ≤ 0 by decide)
    · cases hx : M (cs (p + 1)).toNatClampNeg with
      | none => rw [cv_1n w hx]; exact (show (0 : Int32) ≤ 0 by decide)
      | some a =>
        rw [cv_1s w hx]
        obtain ⟨j, hj, e⟩ := le_nat (m := 9) (by decide) (h5 w).1 (h5 w).2
        rw [nIc e (by omega)] at hx
        exact hM _ _ (by omega) hx
    · rw [cv_2 w]; exact (show (0 : Int32) ≤ 1 by decide)
    · rw [cv_3 w]; exact (show (0 : Int32) ≤ 1 by decide)
    · rw [sy_345 hk (Or.inr (Or.inl w)), w, show hl 4 = 2 from rfl] at h
      obtain ⟨b, hb, hc⟩ := bind_some h
      rw [cv_4 w]
      have a1 := (cv_nums f M (p + 2) k b hb).1
      have a0 := cv_at f M (p + 2) k b hb hM
      simp only
      generalize cv cs f M (p + 2) k = r at *
      subst a1
      refine cv_at f _ r.2.2.1 r.2.2.2.1 p' hc (fun x a hx h => ?_)
      unfold mup at h
      split at h
      · cases h; exact a0
      · exact hM x a hx h
    · rw [cv_5 w]; exact (show (0 : Int32) ≤ 1 by decide)
    · rw [cv_6 w]; exact (show (0 : Int32) ≤ 1 by decide)
section SIM
variable {cs : Nat → Int32} {n f p k q dr dp D d o : Nat} {M : Mn} {S : MSt} {E : PE} {g : PH}
theorem out_next : out (mNext S) = out S := out_I rfl
theorem out_open {w : Int32} : out (mOpen S q w) = out S := ((out_A rfl).trans (out_A rfl)).trans ((out_I rfl).trans (out_I rfl))
theorem nhd {x : Int32} {m : Nat} (hm : m < 2 ^ 31) (h : ¬ (0 ≤ x ∧ x ≤ nI m)) : x < 0 ∨ (¬ x < 0 ∧ nI m < x) := by
  by_cases h0 : x < 0
  · exact Or.inl h0
  · exact Or.inr ⟨h0, Int32.not_le.mp (fun z => h ⟨Int32.not_lt.mp h0, z⟩)⟩
/-- no head here: begins says so -/
theorem begins_bad (h60 : n ≤ 60) (hcs : S.2 2 = cs) (hC : CS n p q dr k dp D S) (hp : p ≤ n) (hq : q ≤ p) (hk : hok cs n p = false) : ∃ S', Rn E (d + 1) 5 [.ref o] (mh g o S) (some (.int (-1))) (mh g o S') ∧ out S' = out S := by
  obtain ⟨c1, c9, c10, c23, c24, c21, c22⟩ := hC
  have hk : ¬ hok cs n p = true := by rw [hk]; decide
  rw [hok_iff] at hk
  by_cases hpn : n ≤ p
  · exact ⟨_, b_end c9 c1 h60 hpn (by omega), rfl⟩
  · have hlt : p < n := by omega
    by_cases hlo : cs p < 0
    · exact ⟨_, b_low c9 c1 h60 hlt (by rw [hcs]; exact hlo), out_next⟩
    · by_cases hhi : 6 < cs p
      · exact ⟨_, b_high c9 c1 h60 hlt (by rw [hcs]; exact hhi), out_next⟩
      · have h0 : 0 ≤ cs p := Int32.not_lt.mp hlo
        have h6 : cs p ≤ 6 := Int32.not_lt.mp hhi
        have hi : ∀ (a b : Int32), cs p = a → a ≠ b → ∀ {P : Prop}, cs p = b → P := fun a b e1 e2 P e3 => absurd (e1.symm.trans e3) e2
        rcases kd7 h0 h6 with w | w | w | w | w | w | w
        · by_cases hs : n ≤ p + 1
          · exact ⟨_, b_num1 c9 c1 h60 (by rw [hcs]; exact w) hlt hs, out_next⟩
          · exact absurd ⟨hlt, h0, h6, by rw [w]; show p + 2 ≤ n; omega, fun z => hi 0 1 w (by decide) z, fun z => hi 0 2 w (by decide) z, fun z => hi 0 4 w (by decide) z, fun z => hi 0 5 w (by decide) z⟩ hk
        · by_cases hs : n ≤ p + 1
          · exact ⟨_, b_var1 c9 c1 h60 (by rw [hcs]; exact w) hlt hs, out_next⟩
          · have hb : ¬ (0 ≤ cs (p + 1) ∧ cs (p + 1) ≤ nI 9) := fun z => hk ⟨hlt, h0, h6, by rw [w]; show p + 2 ≤ n; omega, fun _ => z, fun z => hi 1 2 w (by decide) z, fun z => hi 1 4 w (by decide) z, fun z => hi 1 5 w (by decide) z⟩
            rcases nhd (by decide) hb with z | z
            · exact ⟨_, b_varL c9 c1 h60 (by rw [hcs]; exact w) (by omega) (by rw [hcs]; exact z), out_next.trans out_next⟩
            · exact ⟨_, b_varG c9 c1 h60 (by rw [hcs]; exact w) (by omega) (by rw [hcs]; exact z.1) (by rw [hcs]; exact z.2), out_next.trans out_next⟩
        · by_cases hs : n ≤ p + 1
          · exact ⟨_, b_sh2 (q := q) c9 c1 h60 (by rw [hcs]; exact w) hlt hs c10 (by omega), out_open⟩
          · have hb : ¬ (0 ≤ cs (p + 1) ∧ cs (p + 1) ≤ nI 9) := fun z => hk ⟨hlt, h0, h6, by rw [w]; show p + 2 ≤ n; omega, fun z => hi 2 1 w (by decide) z, fun _ => z, fun z => hi 2 4 w (by decide) z, fun z => hi 2 5 w (by decide) z⟩
            rcases nhd (by decide) hb with z | z
            · exact ⟨_, b_lo2 (q := q) c9 c1 h60 (by rw [hcs]; exact w) (by omega) c10 (by omega) (by rw [hcs]; exact z), (out_A rfl).trans (out_next.trans out_open)⟩
            · exact ⟨_, b_hi2 (q := q) c9 c1 h60 (by rw [hcs]; exact w) (by omega) c10 (by omega) (by rw [hcs]; exact z.1) (by rw [hcs]; exact z.2), (out_A rfl).trans (out_next.trans out_open)⟩
        · exact absurd ⟨hlt, h0, h6, by rw [w]; show p + 1 ≤ n; omega, fun z => hi 3 1 w (by decide) z, fun z => hi 3 2 w (by decide) z, fun z => hi 3 4 w (by decide) z, fun z => hi 3 5 w (by decide) z⟩ hk
        · by_cases hs : n ≤ p + 1
          · exact ⟨_, b_sh4 (q := q) c9 c1 h60 (by rw [hcs]; exact w) hlt hs c10 (by omega), out_open⟩
          · have hb : ¬ (0 ≤ cs (p + 1) ∧ cs (p + 1) ≤ nI 9) := fun z => hk ⟨hlt, h0, h6, by rw [w]; show p + 2 ≤ n; omega, fun z => hi 4 1 w (by decide) z, fun z => hi 4 2 w (by decide) z, fun _ => z, fun z => hi 4 5 w (by decide) z⟩
            rcases nhd (by decide) hb with z | z
            · exact ⟨_, b_lo4 (q := q) c9 c1 h60 (by rw [hcs]; exact w) (by omega) c10 (by omega) (by rw [hcs]; exact z), (out_A rfl).trans (out_next.trans out_open)⟩
            · exact ⟨_, b_hi4 (q := q) c9 c1 h60 (by rw [hcs]; exact w) (by omega) c10 (by omega) (by rw [hcs]; exact z.1) (by rw [hcs]; exact z.2), (out_A rfl).trans (out_next.trans out_open)⟩
        · by_cases hs : n ≤ p + 1
          · exact ⟨_, b_sh5 (q := q) c9 c1 h60 (by rw [hcs]; exact w) hlt hs c10 (by omega), out_open⟩
          · have hb : ¬ (0 ≤ cs (p + 1) ∧ cs (p + 1) ≤ nI 4) := fun z => hk ⟨hlt, h0, h6, by rw [w]; show p + 2 ≤ n; omega, fun z => hi 5 1 w (by decide) z, fun z => hi 5 2 w (by decide) z, fun z => hi 5 4 w (by decide) z, fun _ => z⟩
            rcases nhd (by decide) hb with z | z
            · exact ⟨_, b_lo5 (q := q) c9 c1 h60 (by rw [hcs]; exact w) (by omega) c10 (by omega) (by rw [hcs]; exact z), (out_A rfl).trans (out_next.trans out_open)⟩
            · exact ⟨_, b_hi5 (q := q) c9 c1 h60 (by rw [hcs]; exact w) (by omega) c10 (by omega) (by rw [hcs]; exact z.1) (by rw [hcs]; exact z.2), (out_A rfl).trans (out_next.trans out_open)⟩
        · exact absurd ⟨hlt, h0, h6, by rw [w]; show p + 1 ≤ n; omega, fun z => hi 6 1 w (by decide) z, fun z => hi 6 2 w (by decide) z, fun z => hi 6 4 w (by decide) z, fun z => hi 6 5 w (by decide) z⟩ hk
end SIM
/-- what a finished term leaves -/
def Post (n q dr dp D : Nat) (S : MSt) (r : Cv) (S' : MSt) : Prop := CS n r.2.2.1 q (dr + tsum r.1) r.2.2.2.1 dp (max D (dp + r.2.2.2.2.1)) S' ∧ KA q dr S S' ∧ S'.1 17 = r.2.1.1 ∧ S'.1 18 = r.2.1.2 ∧ S'.2 19 = S.2 19 ∧ S'.2 20 = S.2 20 ∧ TokAt (S'.2 25) dr r.1
theorem Gd_01 {cs : Nat → Int32} {n f p k : Nat} {M : Mn} (hk : hok cs n p = true) (h : cs p = 0) : Gd cs n (f + 1) M p k := ⟨⟨_, sy_01 hk (Or.inl h)⟩, by rw [cv_0 h]⟩
theorem Gd_2 {cs : Nat → Int32} {n f p k : Nat} {M : Mn} (hk : hok cs n p = true) (h : cs p = 2) : Gd cs n (f + 1) M p k ↔ Gd cs n f (mup M (cs (p + 1)).toNatClampNeg (1, nI k)) (p + 2) (k + 1) := by
  unfold Gd
  rw [sy_2 hk h, cv_2 h]
theorem bind_ex {a : Option Nat} {F : Nat → Option Nat} : (∃ c, a.bind F = some c) ↔ ∃ b, a = some b ∧ ∃ c, F b = some c :=
  ⟨fun ⟨_, h⟩ => let ⟨b, h1, h2⟩ := bind_some h; ⟨b, h1, _, h2⟩, fun ⟨b, h1, c, h2⟩ => ⟨c, by rw [h1]; exact h2⟩⟩
theorem Gd_4 {cs : Nat → Int32} {n f p k : Nat} {M : Mn} (hk : hok cs n p = true) (h : cs p = 4) : Gd cs n (f + 1) M p k ↔ (Gd cs n f M (p + 2) k ∧ Gd cs n f (mup M (cs (p + 1)).toNatClampNeg (cv cs f M (p + 2) k).2.1) (cv cs f M (p + 2) k).2.2.1 (cv cs f M (p + 2) k).2.2.2.1) := by
  unfold Gd
  rw [sy_345 hk (Or.inr (Or.inl h)), cv_4 h, h, show hl 4 = 2 from rfl, bind_ex]
  simp only [Bool.or_eq_false_iff]
  constructor
  · rintro ⟨⟨b, h1, c, h2⟩, h3, h4⟩
    have e := (cv_nums f M (p + 2) k b h1).1
    exact ⟨⟨⟨b, h1⟩, h3⟩, ⟨c, by rw [e]; exact h2⟩, h4⟩
  · rintro ⟨⟨⟨b, h1⟩, h3⟩, ⟨c, h2⟩, h4⟩
    have e := (cv_nums f M (p + 2) k b h1).1
    exact ⟨⟨b, h1, c, by rw [e] at h2; exact h2⟩, h3, h4⟩
theorem Gd_3 {cs : Nat → Int32} {n f p k : Nat} {M : Mn} (hk : hok cs n p = true) (h : cs p = 3) : Gd cs n (f + 1) M p k ↔ (Gd cs n f M (p + 1) k ∧ Gd cs n f M (cv cs f M (p + 1) k).2.2.1 (cv cs f M (p + 1) k).2.2.2.1) := by
  unfold Gd
  rw [sy_345 hk (Or.inl h), cv_3 h, h, show hl 3 = 1 from rfl, bind_ex]
  simp only [Bool.or_eq_false_iff]
  constructor
  · rintro ⟨⟨b, h1, c, h2⟩, h3, h4⟩
    have e := (cv_nums f M (p + 1) k b h1).1
    exact ⟨⟨⟨b, h1⟩, h3⟩, ⟨c, by rw [e]; exact h2⟩, h4⟩
  · rintro ⟨⟨⟨b, h1⟩, h3⟩, ⟨c, h2⟩, h4⟩
    have e := (cv_nums f M (p + 1) k b h1).1
    exact ⟨⟨b, h1, c, by rw [e] at h2; exact h2⟩, h3, h4⟩
theorem Gd_5 {cs : Nat → Int32} {n f p k : Nat} {M : Mn} (hk : hok cs n p = true) (h : cs p = 5) : Gd cs n (f + 1) M p k ↔ (Gd cs n f M (p + 2) k ∧ Gd cs n f M (cv cs f M (p + 2) k).2.2.1 (cv cs f M (p + 2) k).2.2.2.1) := by
  unfold Gd
  rw [sy_345 hk (Or.inr (Or.inr h)), cv_5 h, h, show hl 5 = 2 from rfl, bind_ex]
  simp only [Bool.or_eq_false_iff]
  constructor
  · rintro ⟨⟨b, h1, c, h2⟩, h3, h4⟩
    have e := (cv_nums f M (p + 2) k b h1).1
    exact ⟨⟨⟨b, h1⟩, h3⟩, ⟨c, by rw [e]; exact h2⟩, h4⟩
  · rintro ⟨⟨⟨b, h1⟩, h3⟩, ⟨c, h2⟩, h4⟩
    have e := (cv_nums f M (p + 2) k b h1).1
    exact ⟨⟨b, h1, c, by rw [e] at h2; exact h2⟩, h3, h4⟩
theorem Gd_6 {cs : Nat → Int32} {n f p k : Nat} {M : Mn} (hk : hok cs n p = true) (h : cs p = 6) : Gd cs n (f + 1) M p k ↔ (Gd cs n f M (p + 1) k ∧ Gd cs n f M (cv cs f M (p + 1) k).2.2.1 (cv cs f M (p + 1) k).2.2.2.1 ∧ Gd cs n f M (cv cs f M (cv cs f M (p + 1) k).2.2.1 (cv cs f M (p + 1) k).2.2.2.1).2.2.1 (cv cs f M (cv cs f M (p + 1) k).2.2.1 (cv cs f M (p + 1) k).2.2.2.1).2.2.2.1) := by
  unfold Gd
  rw [sy_6 hk h, cv_6 h, bind_ex]
  simp only [Bool.or_eq_false_iff, bind_ex]
  constructor
  · rintro ⟨⟨b, h1, c, h2, e, h5⟩, h3, h4, h6⟩
    have e1 := (cv_nums f M (p + 1) k b h1).1
    have e2 := (cv_nums f M b (cv cs f M (p + 1) k).2.2.2.1 c h2).1
    rw [e1]
    rw [e1] at h4 h6
    rw [e2]
    rw [e2] at h6
    exact ⟨⟨⟨b, h1⟩, h3⟩, ⟨⟨c, h2⟩, h4⟩, ⟨e, h5⟩, h6⟩
  · rintro ⟨⟨⟨b, h1⟩, h3⟩, ⟨⟨c, h2⟩, h4⟩, ⟨e, h5⟩, h6⟩
    have e1 := (cv_nums f M (p + 1) k b h1).1
    rw [e1] at h2 h4 h5 h6
    have e2 := (cv_nums f M b (cv cs f M (p + 1) k).2.2.2.1 c h2).1
    rw [e2] at h5 h6
    rw [e1]
    rw [e2]
    exact ⟨⟨b, h1, c, h2, e, h5⟩, h3, h4, h6⟩
end
section
/-! ===== the reference's conversion does what cv says: the turns together ===== -/
section SIM2
variable {cs : Nat → Int32} {n d o : Nat} {E : PE} {g : PH}
abbrev C53 (o : Nat) (x y : Option Value) : PF := (4, 53, [some (.ref o), some (.int 1), x, y], [])
abbrev C79 (o : Nat) : PF := (4, 79, [some (.ref o), some (.int 1), none, some (.int 1)], [])
def SimS (E : PE) (g : PH) (o d : Nat) (cs : Nat → Int32) (n f : Nat) : Prop := ∀ (M : Mn) (p k q dr dp D : Nat) (S : MSt) (x y : Option Value), S.2 2 = cs → CS n p q dr k dp D S → p ≤ n → n < f + p → q ≤ p → k ≤ p → dp ≤ p → (dp ≤ D ∧ D ≤ p) → dr ≤ 11 * p → mrel M S →
    (Gd cs n f M p k → ∃ S', Ex E (d + 5) (C53 o x y) (mh g o S) (C79 o) (mh g o S') ∧ Post n q dr dp D S (cv cs f M p k) S') ∧ (¬ Gd cs n f M p k → ∃ S', Rk E (d + 5) (C53 o x y) (mh g o S) (some (.int 0)) (mh g o S') ∧ out S' = out S)
theorem max_a (a b c : Nat) : max (max a (b + 1)) (b + 1 + c) = max a (b + (c + 1)) := by omega
theorem sim_2 {f : Nat} (h60 : n ≤ 60) (ih : SimS E g o d cs n f) {M : Mn} {p k q dr dp D : Nat} {S : MSt} {x y : Option Value} (hcs : S.2 2 = cs) (hC : CS n p q dr k dp D S) (hf : n < f + 1 + p) (hq : q ≤ p) (hk : k ≤ p) (hdp : dp ≤ p) (hD : dp ≤ D ∧ D ≤ p) (hdr : dr ≤ 11 * p) (hM : mrel M S) (hh : hok cs n p = true) (w : cs p = 2) :
    (Gd cs n (f + 1) M p k → ∃ S', Ex E (d + 5) (C53 o x y) (mh g o S) (C79 o) (mh g o S') ∧ Post n q dr dp D S (cv cs (f + 1) M p k) S') ∧ (¬ Gd cs n (f + 1) M p k → ∃ S', Rk E (d + 5) (C53 o x y) (mh g o S) (some (.int 0)) (mh g o S') ∧ out S' = out S) := by
  obtain ⟨h1, -, -, h4, -, h5, -⟩ := hok_iff.mp hh
  rw [w, show hl 2 = 2 from rfl] at h4
  obtain ⟨j, hj, ej⟩ := le_nat (m := 9) (by decide) (h5 w).1 (h5 w).2
  obtain ⟨S1, e1, b1, b2, b3, b4, b5, b6, b7, b8, b9, b10, b11⟩ := T_fun (x := j) hC ⟨by omega, by omega, by omega⟩
  have hst := b_op2 (E := E) (d := d + 3) (o := o) (g := g) (q := q) (x := j) (dr := dr) hC.2.1 hC.1 h60 (by rw [hcs]; exact w) (by omega) hC.2.2.1 (by omega) (by rw [hcs]; exact ej) (by omega) hC.2.2.2.1 (by omega)
  rw [e1] at hst
  have st1 := cl_0 (x := x) (y := y) hst
  have hM1 : mrel (mup M j (1, nI k)) S1 := mrel_up hM b9 b10 (by decide)
  obtain ⟨g1, g2⟩ := ih (mup M j (1, nI k)) (p + 2) (k + 1) (q + 1) (dr + 4) (dp + 1) (max D (dp + 1)) S1 none none (by rw [out_a b2.1 rfl]; exact hcs) b1 h4 (by omega) (by omega) (by omega) (by omega) (by omega) (by omega) hM1
  rw [Gd_2 hh w, ej, nI_clamp (by omega)]
  refine ⟨fun hg => ?_, fun hg => ?_⟩
  · obtain ⟨S2, r1, p1, p2, p3, p4, p5, p6, p7⟩ := g1 hg
    obtain ⟨p', hp'⟩ := hg.1
    obtain ⟨n1, n2, n3, n4, n5, n6, n7⟩ := cv_nums f (mup M j (1, nI k)) (p + 2) (k + 1) p' hp'
    rw [cv_2 w, ej, nI_clamp (by omega)]
    simp only
    generalize cv cs f (mup M j (1, nI k)) (p + 2) (k + 1) = r at *
    have f11 := p2.2.1 11 (by omega) (by omega) (q + 1) (Nat.le_refl _)
    have f12 := p2.2.1 12 (by omega) (by omega) (q + 1) (Nat.le_refl _)
    have f13 := p2.2.1 13 (by omega) (by omega) (q + 1) (Nat.le_refl _)
    have f14 := p2.2.1 14 (by omega) (by omega) (q + 1) (Nat.le_refl _)
    have f15 := p2.2.1 15 (by omega) (by omega) (q + 1) (Nat.le_refl _)
    have f16 := p2.2.1 16 (by omega) (by omega) (q + 1) (Nat.le_refl _)
    have hgo := go_fun (E := E) (d := d) (o := o) (g := g) (x := j) (hd := dr) (dr := dr + 4 + tsum r.1) (by omega) p1.2.2.1 (f11.trans b3) (f12.trans b4) (by omega) (f13.trans b5) (f14.trans b6) (by omega) p1.2.2.2.1 (by omega)
    obtain ⟨S3, e3, c1, c2, c3, c4, c5, c6, c7⟩ := T_gofun (x := j) (hd := dr) p1 ⟨by omega, by omega, by omega⟩ (by omega) (by omega) (f15.trans b7) (f16.trans b8)
    rw [e3] at hgo
    refine ⟨S3, st1.tr (r1.tr (cl_g1 p1.2.2.1 (by omega) (by omega) hgo)), ?_, ?_, c3, c4, ?_, ?_, ?_⟩
    · rw [max_a, show dr + 4 + tsum r.1 + 3 = dr + tsum ((2, nI r.2.2.2.1, nI k, (0, 0), (0, 0)) :: (r.1 ++ [iRes r.2.1])) by simp only [tsum, tsum_app, isz, iRes]; omega, Nat.add_sub_cancel] at c1
      exact c1
    · exact (b2.tr p2 (by omega) (by omega)).tr c2 (by omega) (by omega)
    · rw [c5, p5, b9, rup_back]
    · rw [c6, p6, b10, rup_back]
    · have hR : ∀ i, i < dr + 4 → S2.2 25 i = S1.2 25 i := p2.2.2
      rw [c7, p3, p4]
      refine ⟨⟨?_, ?_, ?_, ?_⟩, ?_⟩
      · rw [rup_ne (by omega), rup_ne (by omega), rup_ne (by omega), rup_ne (by omega), hR _ (by omega), b11, rup_ne (by omega), rup_ne (by omega), rup_ne (by omega), rup_eq]
      · rw [rup_eq]
      · rw [rup_ne (by omega), rup_ne (by omega), rup_ne (by omega), rup_ne (by omega), hR _ (by omega), b11, rup_ne (by omega), rup_eq]
      · rw [rup_ne (by omega), rup_ne (by omega), rup_ne (by omega), rup_ne (by omega), hR _ (by omega), b11, rup_eq]
      · show TokAt _ (dr + 4) (r.1 ++ [iRes r.2.1])
        rw [TokAt_app]
        refine ⟨TokAt_shift p7 (fun i hi => ?_), ⟨?_, ?_, ?_⟩, trivial⟩
        · rw [rup_ne (by omega), rup_ne (by omega), rup_ne (by omega), rup_ne (by omega)]
        · rw [rup_ne (by omega), rup_ne (by omega), rup_ne (by omega), rup_eq]
        · rw [rup_ne (by omega), rup_ne (by omega), rup_eq]; rfl
        · rw [rup_ne (by omega), rup_eq]; rfl
  · obtain ⟨S', r1, r2⟩ := g2 hg
    exact ⟨S', Rk.tr st1 r1, r2.trans b2.1⟩
theorem sim_4 {f : Nat} (h60 : n ≤ 60) (ih : SimS E g o d cs n f) {M : Mn} {p k q dr dp D : Nat} {S : MSt} {x y : Option Value} (hcs : S.2 2 = cs) (hC : CS n p q dr k dp D S) (hf : n < f + 1 + p) (hq : q ≤ p) (hk : k ≤ p) (hdp : dp ≤ p) (hD : dp ≤ D ∧ D ≤ p) (hdr : dr ≤ 11 * p) (hM : mrel M S) (hh : hok cs n p = true) (w : cs p = 4) :
    (Gd cs n (f + 1) M p k → ∃ S', Ex E (d + 5) (C53 o x y) (mh g o S) (C79 o) (mh g o S') ∧ Post n q dr dp D S (cv cs (f + 1) M p k) S') ∧ (¬ Gd cs n (f + 1) M p k → ∃ S', Rk E (d + 5) (C53 o x y) (mh g o S) (some (.int 0)) (mh g o S') ∧ out S' = out S) := by
  obtain ⟨h1, -, -, h4, -, -, h5, -⟩ := hok_iff.mp hh
  rw [w, show hl 4 = 2 from rfl] at h4
  obtain ⟨j, hj, ej⟩ := le_nat (m := 9) (by decide) (h5 w).1 (h5 w).2
  have hst := b_op4 (E := E) (d := d + 3) (o := o) (g := g) (q := q) hC.2.1 hC.1 h60 (by rw [hcs]; exact w) (by omega) hC.2.2.1 (by omega) (by rw [hcs]; exact Int32.not_lt.mpr (h5 w).1) (by rw [hcs]; exact (h5 w).2)
  obtain ⟨S1, e1, b1, b2, b3, b4, b5, b6, b7, b8⟩ := T_op4 (v := S.2 2 (p + 1)) hC
  rw [e1] at hst
  rw [hcs, ej] at b5
  have st1 := cl_0 (x := x) (y := y) hst
  have hM1 : mrel M S1 := mrel_eq hM b6 b7
  obtain ⟨g1, g2⟩ := ih M (p + 2) k (q + 1) dr dp D S1 none none (by rw [out_a b2.1 rfl]; exact hcs) b1 h4 (by omega) (by omega) (by omega) (by omega) (by omega) (by omega) hM1
  rw [Gd_4 hh w, ej, nI_clamp (by omega)]
  by_cases hg1 : Gd cs n f M (p + 2) k
  · obtain ⟨S2, r1, p1, p2, p3, p4, p5, p6, p7⟩ := g1 hg1
    obtain ⟨p', hp'⟩ := hg1.1
    obtain ⟨n1, n2, n3, n4, n5, n6, n7⟩ := cv_nums f M (p + 2) k p' hp'
    have hat := cv_at f M (p + 2) k p' hp' (fun z a hz hza => ((hM z hz).2 a hza).2.2)
    rw [cv_4 w, ej, nI_clamp (by omega)]
    simp only
    generalize cv cs f M (p + 2) k = r at *
    have f11 := p2.2.1 11 (by omega) (by omega) (q + 1) (Nat.le_refl _)
    have f12 := p2.2.1 12 (by omega) (by omega) (q + 1) (Nat.le_refl _)
    have f13 := p2.2.1 13 (by omega) (by omega) (q + 1) (Nat.le_refl _)
    have hgo := go_let0 (E := E) (d := d) (o := o) (g := g) (x := j) (by omega) p1.2.2.1 (f11.trans b3) (f12.trans b4) (by omega) (f13.trans b5)
    obtain ⟨S3, e3, c1, c2, c3, c4, c5, c6, c7, c8, c9, c10⟩ := T_golet0 (x := j) p1 (f12.trans b4)
    rw [e3] at hgo
    have st2 := st1.tr (r1.tr (cl_g0 p1.2.2.1 (by omega) (by omega) hgo))
    rw [p3] at c8
    rw [p4] at c9
    have k3 : KA q dr S S3 := (b2.tr p2 (by omega) (by omega)).tr c2 (by omega) (by omega)
    have hM3 : mrel (mup M j r.2.1) S3 := mrel_up (mrel_eq hM1 p5 p6) c8 c9 hat
    obtain ⟨g3, g4⟩ := ih (mup M j r.2.1) r.2.2.1 r.2.2.2.1 (q + 1) (dr + tsum r.1) dp (max D (dp + r.2.2.2.2.1)) S3 none none (by rw [out_a k3.1 rfl]; exact hcs) c1 (by omega) (by omega) (by omega) (by omega) (by omega) (by omega) (by omega) hM3
    refine ⟨fun hg => ?_, fun hg => ?_⟩
    · obtain ⟨S4, r4, q1, q2, q3, q4, q5, q6, q7⟩ := g3 hg.2
      obtain ⟨p'', hp''⟩ := hg.2.1
      obtain ⟨m1, m2, m3, m4, m5, m6, m7⟩ := cv_nums f (mup M j r.2.1) r.2.2.1 r.2.2.2.1 p'' hp''
      generalize cv cs f (mup M j r.2.1) r.2.2.1 r.2.2.2.1 = s at *
      have d11 := q2.2.1 11 (by omega) (by omega) (q + 1) (Nat.le_refl _)
      have d12 := q2.2.1 12 (by omega) (by omega) (q + 1) (Nat.le_refl _)
      have d13 := q2.2.1 13 (by omega) (by omega) (q + 1) (Nat.le_refl _)
      have d15 := q2.2.1 15 (by omega) (by omega) (q + 1) (Nat.le_refl _)
      have d16 := q2.2.1 16 (by omega) (by omega) (q + 1) (Nat.le_refl _)
      have hgo2 := go_let1 (E := E) (d := d) (o := o) (g := g) (x := j) (by omega) q1.2.2.1 (d11.trans (c3.trans (f11.trans b3))) (d12.trans c4) (by omega) (d13.trans (c5.trans (f13.trans b5)))
      obtain ⟨S5, e5, a1, a2, a3, a4, a5, a6, a7⟩ := T_golet1 (x := j) q1 (d15.trans c6) (d16.trans c7)
      rw [e5] at hgo2
      refine ⟨S5, st2.tr (r4.tr (cl_g1 q1.2.2.1 (by omega) (by omega) hgo2)), ?_, ?_, a3.trans q3, a4.trans q4, ?_, ?_, ?_⟩
      · rw [show max (max D (dp + r.2.2.2.2.1)) (dp + s.2.2.2.2.1) = max D (dp + max r.2.2.2.2.1 s.2.2.2.2.1) by omega, show dr + tsum r.1 + tsum s.1 = dr + tsum (r.1 ++ s.1) by rw [tsum_app]; omega] at a1
        exact a1
      · exact (k3.tr q2 (by omega) (by omega)).tr a2 (by omega) (by omega)
      · rw [a5, q5, c8, p5, rup_back, b6]
      · rw [a6, q6, c9, p6, rup_back, b7]
      · rw [a7]
        show TokAt _ dr (r.1 ++ s.1)
        rw [TokAt_app]
        refine ⟨TokAt_shift p7 (fun i hi => ?_), q7⟩
        rw [q2.2.2 _ (by omega), c10]
    · obtain ⟨S', r4, r5⟩ := g4 (fun z => hg ⟨hg1, z⟩)
      exact ⟨S', Rk.tr st2 r4, r5.trans k3.1⟩
  · refine ⟨fun hg => absurd hg.1 hg1, fun _ => ?_⟩
    obtain ⟨S', r1, r2⟩ := g2 hg1
    exact ⟨S', Rk.tr st1 r1, r2.trans b2.1⟩
theorem sim_3 {f : Nat} (h60 : n ≤ 60) (ih : SimS E g o d cs n f) {M : Mn} {p k q dr dp D : Nat} {S : MSt} {x y : Option Value} (hcs : S.2 2 = cs) (hC : CS n p q dr k dp D S) (hf : n < f + 1 + p) (hq : q ≤ p) (hk : k ≤ p) (hdp : dp ≤ p) (hD : dp ≤ D ∧ D ≤ p) (hdr : dr ≤ 11 * p) (hM : mrel M S) (hh : hok cs n p = true) (w : cs p = 3) :
    (Gd cs n (f + 1) M p k → ∃ S', Ex E (d + 5) (C53 o x y) (mh g o S) (C79 o) (mh g o S') ∧ Post n q dr dp D S (cv cs (f + 1) M p k) S') ∧ (¬ Gd cs n (f + 1) M p k → ∃ S', Rk E (d + 5) (C53 o x y) (mh g o S) (some (.int 0)) (mh g o S') ∧ out S' = out S) := by
  obtain ⟨h1, -, -, h4, -⟩ := hok_iff.mp hh
  rw [w, show hl 3 = 1 from rfl] at h4
  have hst := b_op3 (E := E) (d := d + 3) (o := o) (g := g) (q := q) hC.2.1 hC.1 h60 (by rw [hcs]; exact w) (by omega) hC.2.2.1 (by omega)
  obtain ⟨S1, e1, b1, b2, b3, b4, b6, b7, b8⟩ := T_op3 hC
  rw [e1] at hst
  have st1 := cl_0 (x := x) (y := y) hst
  have hM1 : mrel M S1 := mrel_eq hM b6 b7
  obtain ⟨g1, g2⟩ := ih M (p + 1) k (q + 1) dr dp D S1 none none (by rw [out_a b2.1 rfl]; exact hcs) b1 h4 (by omega) (by omega) (by omega) (by omega) (by omega) (by omega) hM1
  rw [Gd_3 hh w]
  by_cases hg1 : Gd cs n f M (p + 1) k
  · obtain ⟨S2, r1, p1, p2, p3, p4, p5, p6, p7⟩ := g1 hg1
    obtain ⟨p', hp'⟩ := hg1.1
    obtain ⟨n1, n2, n3, n4, n5, n6, n7⟩ := cv_nums f M (p + 1) k p' hp'
    rw [cv_3 w]
    simp only
    generalize cv cs f M (p + 1) k = r at *
    have f11 := p2.2.1 11 (by omega) (by omega) (q + 1) (Nat.le_refl _)
    have f12 := p2.2.1 12 (by omega) (by omega) (q + 1) (Nat.le_refl _)
    have f13 := p2.2.1 13 (by omega) (by omega) (q + 1) (Nat.le_refl _)
    have hgo := go_pa3 (E := E) (d := d) (o := o) (g := g) (by omega) p1.2.2.1 (f11.trans b3) (f12.trans b4)
    obtain ⟨S3, e3, c1, c2, c3, c4, c5, c6, c7, c8, c9, c10⟩ := T_gopa p1 (f12.trans b4)
    rw [e3] at hgo
    have st2 := st1.tr (r1.tr (cl_g0 p1.2.2.1 (by omega) (by omega) hgo))
    have k3 : KA q dr S S3 := (b2.tr p2 (by omega) (by omega)).tr c2 (by omega) (by omega)
    have hM3 : mrel M S3 := mrel_eq (mrel_eq hM1 p5 p6) c8 c9
    obtain ⟨g3, g4⟩ := ih M r.2.2.1 r.2.2.2.1 (q + 1) (dr + tsum r.1) dp (max D (dp + r.2.2.2.2.1)) S3 none none (by rw [out_a k3.1 rfl]; exact hcs) c1 (by omega) (by omega) (by omega) (by omega) (by omega) (by omega) (by omega) hM3
    refine ⟨fun hg => ?_, fun hg => ?_⟩
    · obtain ⟨S4, r4, q1, q2, q3, q4, q5, q6, q7⟩ := g3 hg.2
      obtain ⟨p'', hp''⟩ := hg.2.1
      obtain ⟨m1, m2, m3, m4, m5, m6, m7⟩ := cv_nums f M r.2.2.1 r.2.2.2.1 p'' hp''
      generalize cv cs f M r.2.2.1 r.2.2.2.1 = s at *
      have d11 := q2.2.1 11 (by omega) (by omega) (q + 1) (Nat.le_refl _)
      have d12 := q2.2.1 12 (by omega) (by omega) (q + 1) (Nat.le_refl _)
      have d13 := q2.2.1 13 (by omega) (by omega) (q + 1) (Nat.le_refl _)
      have d15 := q2.2.1 15 (by omega) (by omega) (q + 1) (Nat.le_refl _)
      have d16 := q2.2.1 16 (by omega) (by omega) (q + 1) (Nat.le_refl _)
      have hgo2 := go_pb3 (E := E) (d := d) (o := o) (g := g) (dr := dr + tsum r.1 + tsum s.1) (by omega) q1.2.2.1 (d11.trans (c3.trans (f11.trans b3))) (d12.trans c4) q1.2.2.2.1 (by omega)
      obtain ⟨S5, e5, a1, a2, a3, a4, a5, a6, a7⟩ := T_gopb3 q1 ⟨by omega, by omega, by omega⟩ (d15.trans (c6.trans p3)) (d16.trans (c7.trans p4))
      rw [e5] at hgo2
      refine ⟨S5, st2.tr (r4.tr (cl_g1 q1.2.2.1 (by omega) (by omega) hgo2)), ?_, ?_, a3, a4, ?_, ?_, ?_⟩
      · rw [show max (max D (dp + r.2.2.2.2.1)) (dp + s.2.2.2.2.1) = max D (dp + max r.2.2.2.2.1 s.2.2.2.2.1) by omega, show dr + tsum r.1 + tsum s.1 + 7 = dr + tsum (r.1 ++ (s.1 ++ [(3, nI s.2.2.2.1, 0, r.2.1, s.2.1)])) by simp only [tsum, tsum_app, isz]; omega] at a1
        exact a1
      · exact (k3.tr q2 (by omega) (by omega)).tr a2 (by omega) (by omega)
      · rw [a5, q5, c8, p5, b6]
      · rw [a6, q6, c9, p6, b7]
      · rw [a7, q3, q4]
        show TokAt _ dr (r.1 ++ (s.1 ++ [(3, nI s.2.2.2.1, 0, r.2.1, s.2.1)]))
        rw [TokAt_app, TokAt_app]
        refine ⟨TokAt_shift p7 (fun i hi => ?_), TokAt_shift q7 (fun i hi => ?_), ⟨?_, ?_, ?_, ?_, ?_, ?_, ?_⟩, trivial⟩
        · rw [rup_ne (by omega), rup_ne (by omega), rup_ne (by omega), rup_ne (by omega), rup_ne (by omega), rup_ne (by omega), rup_ne (by omega), q2.2.2 _ (by omega), c10]
        · rw [rup_ne (by omega), rup_ne (by omega), rup_ne (by omega), rup_ne (by omega), rup_ne (by omega), rup_ne (by omega), rup_ne (by omega)]
        · rw [rup_ne (by omega), rup_ne (by omega), rup_ne (by omega), rup_ne (by omega), rup_ne (by omega), rup_ne (by omega), rup_eq]
        · rw [rup_ne (by omega), rup_ne (by omega), rup_ne (by omega), rup_ne (by omega), rup_ne (by omega), rup_eq]
        · rw [rup_ne (by omega), rup_ne (by omega), rup_ne (by omega), rup_ne (by omega), rup_eq]
        · rw [rup_ne (by omega), rup_ne (by omega), rup_ne (by omega), rup_eq]
        · rw [rup_ne (by omega), rup_ne (by omega), rup_eq]
        · rw [rup_ne (by omega), rup_eq]
        · rw [rup_eq]
    · obtain ⟨S', r4, r5⟩ := g4 (fun z => hg ⟨hg1, z⟩)
      exact ⟨S', Rk.tr st2 r4, r5.trans k3.1⟩
  · refine ⟨fun hg => absurd hg.1 hg1, fun _ => ?_⟩
    obtain ⟨S', r1, r2⟩ := g2 hg1
    exact ⟨S', Rk.tr st1 r1, r2.trans b2.1⟩
theorem sim_5 {f : Nat} (h60 : n ≤ 60) (ih : SimS E g o d cs n f) {M : Mn} {p k q dr dp D : Nat} {S : MSt} {x y : Option Value} (hcs : S.2 2 = cs) (hC : CS n p q dr k dp D S) (hf : n < f + 1 + p) (hq : q ≤ p) (hk : k ≤ p) (hdp : dp ≤ p) (hD : dp ≤ D ∧ D ≤ p) (hdr : dr ≤ 11 * p) (hM : mrel M S) (hh : hok cs n p = true) (w : cs p = 5) :
    (Gd cs n (f + 1) M p k → ∃ S', Ex E (d + 5) (C53 o x y) (mh g o S) (C79 o) (mh g o S') ∧ Post n q dr dp D S (cv cs (f + 1) M p k) S') ∧ (¬ Gd cs n (f + 1) M p k → ∃ S', Rk E (d + 5) (C53 o x y) (mh g o S) (some (.int 0)) (mh g o S') ∧ out S' = out S) := by
  obtain ⟨h1, -, -, h4, -, -, -, h5⟩ := hok_iff.mp hh
  rw [w, show hl 5 = 2 from rfl] at h4
  have hst := b_op5 (E := E) (d := d + 3) (o := o) (g := g) (q := q) hC.2.1 hC.1 h60 (by rw [hcs]; exact w) (by omega) hC.2.2.1 (by omega) (by rw [hcs]; exact Int32.not_lt.mpr (h5 w).1) (by rw [hcs]; exact (h5 w).2)
  obtain ⟨S1, e1, b1, b2, b3, b4, b5, b6, b7, b8⟩ := T_op5 (v := S.2 2 (p + 1)) hC
  rw [e1] at hst
  rw [hcs] at b5
  have st1 := cl_0 (x := x) (y := y) hst
  have hM1 : mrel M S1 := mrel_eq hM b6 b7
  obtain ⟨g1, g2⟩ := ih M (p + 2) k (q + 1) dr dp D S1 none none (by rw [out_a b2.1 rfl]; exact hcs) b1 h4 (by omega) (by omega) (by omega) (by omega) (by omega) (by omega) hM1
  rw [Gd_5 hh w]
  by_cases hg1 : Gd cs n f M (p + 2) k
  · obtain ⟨S2, r1, p1, p2, p3, p4, p5, p6, p7⟩ := g1 hg1
    obtain ⟨p', hp'⟩ := hg1.1
    obtain ⟨n1, n2, n3, n4, n5, n6, n7⟩ := cv_nums f M (p + 2) k p' hp'
    rw [cv_5 w]
    simp only
    generalize cv cs f M (p + 2) k = r at *
    have f11 := p2.2.1 11 (by omega) (by omega) (q + 1) (Nat.le_refl _)
    have f12 := p2.2.1 12 (by omega) (by omega) (q + 1) (Nat.le_refl _)
    have f13 := p2.2.1 13 (by omega) (by omega) (q + 1) (Nat.le_refl _)
    have hgo := go_pa5 (E := E) (d := d) (o := o) (g := g) (by omega) p1.2.2.1 (f11.trans b3) (f12.trans b4)
    obtain ⟨S3, e3, c1, c2, c3, c4, c5, c6, c7, c8, c9, c10⟩ := T_gopa p1 (f12.trans b4)
    rw [e3] at hgo
    have st2 := st1.tr (r1.tr (cl_g0 p1.2.2.1 (by omega) (by omega) hgo))
    have k3 : KA q dr S S3 := (b2.tr p2 (by omega) (by omega)).tr c2 (by omega) (by omega)
    have hM3 : mrel M S3 := mrel_eq (mrel_eq hM1 p5 p6) c8 c9
    obtain ⟨g3, g4⟩ := ih M r.2.2.1 r.2.2.2.1 (q + 1) (dr + tsum r.1) dp (max D (dp + r.2.2.2.2.1)) S3 none none (by rw [out_a k3.1 rfl]; exact hcs) c1 (by omega) (by omega) (by omega) (by omega) (by omega) (by omega) (by omega) hM3
    refine ⟨fun hg => ?_, fun hg => ?_⟩
    · obtain ⟨S4, r4, q1, q2, q3, q4, q5, q6, q7⟩ := g3 hg.2
      obtain ⟨p'', hp''⟩ := hg.2.1
      obtain ⟨m1, m2, m3, m4, m5, m6, m7⟩ := cv_nums f M r.2.2.1 r.2.2.2.1 p'' hp''
      generalize cv cs f M r.2.2.1 r.2.2.2.1 = s at *
      have d11 := q2.2.1 11 (by omega) (by omega) (q + 1) (Nat.le_refl _)
      have d12 := q2.2.1 12 (by omega) (by omega) (q + 1) (Nat.le_refl _)
      have d13 := q2.2.1 13 (by omega) (by omega) (q + 1) (Nat.le_refl _)
      have d15 := q2.2.1 15 (by omega) (by omega) (q + 1) (Nat.le_refl _)
      have d16 := q2.2.1 16 (by omega) (by omega) (q + 1) (Nat.le_refl _)
      have hgo2 := go_pb5 (E := E) (d := d) (o := o) (g := g) (dr := dr + tsum r.1 + tsum s.1) (by omega) q1.2.2.1 (d11.trans (c3.trans (f11.trans b3))) (d12.trans c4) q1.2.2.2.1 (by omega)
      obtain ⟨S5, e5, a1, a2, a3, a4, a5, a6, a7⟩ := T_gopb5 q1 ⟨by omega, by omega, by omega⟩ (d15.trans (c6.trans p3)) (d16.trans (c7.trans p4))
      rw [e5] at hgo2
      refine ⟨S5, st2.tr (r4.tr (cl_g1 q1.2.2.1 (by omega) (by omega) hgo2)), ?_, ?_, a3, a4, ?_, ?_, ?_⟩
      · rw [show max (max D (dp + r.2.2.2.2.1)) (dp + s.2.2.2.2.1) = max D (dp + max r.2.2.2.2.1 s.2.2.2.2.1) by omega, show dr + tsum r.1 + tsum s.1 + 8 = dr + tsum (r.1 ++ (s.1 ++ [(5, nI s.2.2.2.1, cs (p + 1), r.2.1, s.2.1)])) by simp only [tsum, tsum_app, isz]; omega] at a1
        exact a1
      · exact (k3.tr q2 (by omega) (by omega)).tr a2 (by omega) (by omega)
      · rw [a5, q5, c8, p5, b6]
      · rw [a6, q6, c9, p6, b7]
      · rw [a7, q3, q4, d13.trans (c5.trans (f13.trans b5))]
        show TokAt _ dr (r.1 ++ (s.1 ++ [(5, nI s.2.2.2.1, cs (p + 1), r.2.1, s.2.1)]))
        rw [TokAt_app, TokAt_app]
        refine ⟨TokAt_shift p7 (fun i hi => ?_), TokAt_shift q7 (fun i hi => ?_), ⟨?_, ?_, ?_, ?_, ?_, ?_, ?_, ?_⟩, trivial⟩
        · rw [rup_ne (by omega), rup_ne (by omega), rup_ne (by omega), rup_ne (by omega), rup_ne (by omega), rup_ne (by omega), rup_ne (by omega), rup_ne (by omega), q2.2.2 _ (by omega), c10]
        · rw [rup_ne (by omega), rup_ne (by omega), rup_ne (by omega), rup_ne (by omega), rup_ne (by omega), rup_ne (by omega), rup_ne (by omega), rup_ne (by omega)]
        · rw [rup_ne (by omega), rup_ne (by omega), rup_ne (by omega), rup_ne (by omega), rup_ne (by omega), rup_ne (by omega), rup_ne (by omega), rup_eq]
        · rw [rup_ne (by omega), rup_ne (by omega), rup_ne (by omega), rup_ne (by omega), rup_ne (by omega), rup_ne (by omega), rup_eq]
        · rw [rup_ne (by omega), rup_ne (by omega), rup_ne (by omega), rup_ne (by omega), rup_ne (by omega), rup_eq]
        · rw [rup_ne (by omega), rup_ne (by omega), rup_ne (by omega), rup_ne (by omega), rup_eq]
        · rw [rup_ne (by omega), rup_ne (by omega), rup_ne (by omega), rup_eq]
        · rw [rup_ne (by omega), rup_ne (by omega), rup_eq]
        · rw [rup_ne (by omega), rup_eq]
        · rw [rup_eq]
    · obtain ⟨S', r4, r5⟩ := g4 (fun z => hg ⟨hg1, z⟩)
      exact ⟨S', Rk.tr st2 r4, r5.trans k3.1⟩
  · refine ⟨fun hg => absurd hg.1 hg1, fun _ => ?_⟩
    obtain ⟨S', r1, r2⟩ := g2 hg1
    exact ⟨S', Rk.tr st1 r1, r2.trans b2.1⟩
theorem sim_6 {f : Nat} (h60 : n ≤ 60) (ih : SimS E g o d cs n f) {M : Mn} {p k q dr dp D : Nat} {S : MSt} {x y : Option Value} (hcs : S.2 2 = cs) (hC : CS n p q dr k dp D S) (hf : n < f + 1 + p) (hq : q ≤ p) (hk : k ≤ p) (hdp : dp ≤ p) (hD : dp ≤ D ∧ D ≤ p) (hdr : dr ≤ 11 * p) (hM : mrel M S) (hh : hok cs n p = true) (w : cs p = 6) :
    (Gd cs n (f + 1) M p k → ∃ S', Ex E (d + 5) (C53 o x y) (mh g o S) (C79 o) (mh g o S') ∧ Post n q dr dp D S (cv cs (f + 1) M p k) S') ∧ (¬ Gd cs n (f + 1) M p k → ∃ S', Rk E (d + 5) (C53 o x y) (mh g o S) (some (.int 0)) (mh g o S') ∧ out S' = out S) := by
  obtain ⟨h1, -, -, h4, -⟩ := hok_iff.mp hh
  rw [w, show hl 6 = 1 from rfl] at h4
  have hst := b_op6 (E := E) (d := d + 3) (o := o) (g := g) (q := q) hC.2.1 hC.1 h60 (by rw [hcs]; exact w) (by omega) hC.2.2.1 (by omega)
  obtain ⟨S1, e1, b1, b2, b3, b4, b6, b7, b8⟩ := T_op6 hC
  rw [e1] at hst
  have st1 := cl_0 (x := x) (y := y) hst
  have hM1 : mrel M S1 := mrel_eq hM b6 b7
  obtain ⟨g1, g2⟩ := ih M (p + 1) k (q + 1) dr dp D S1 none none (by rw [out_a b2.1 rfl]; exact hcs) b1 h4 (by omega) (by omega) (by omega) (by omega) (by omega) (by omega) hM1
  rw [Gd_6 hh w]
  by_cases hg1 : Gd cs n f M (p + 1) k
  · obtain ⟨S2, r1, p1, p2, p3, p4, p5, p6, p7⟩ := g1 hg1
    obtain ⟨p', hp'⟩ := hg1.1
    obtain ⟨n1, n2, n3, n4, n5, n6, n7⟩ := cv_nums f M (p + 1) k p' hp'
    rw [cv_6 w]
    simp only
    generalize cv cs f M (p + 1) k = r at *
    have f11 := p2.2.1 11 (by omega) (by omega) (q + 1) (Nat.le_refl _)
    have f12 := p2.2.1 12 (by omega) (by omega) (q + 1) (Nat.le_refl _)
    have hgo := go_if0 (E := E) (d := d) (o := o) (g := g) (dr := dr + tsum r.1) (by omega) p1.2.2.1 (f11.trans b3) (f12.trans b4) p1.2.2.2.1 (by omega)
    obtain ⟨S3, e3, c1, c2, c3, c4, c5, c6, c7, c8⟩ := T_goif0 p1 ⟨by omega, by omega, by omega⟩ (f12.trans b4)
    rw [e3] at hgo
    have st2 := st1.tr (r1.tr (cl_g0 p1.2.2.1 (by omega) (by omega) hgo))
    have k3 : KA q dr S S3 := (b2.tr p2 (by omega) (by omega)).tr c2 (by omega) (by omega)
    have hM3 : mrel M S3 := mrel_eq (mrel_eq hM1 p5 p6) c6 c7
    obtain ⟨g3, g4⟩ := ih M r.2.2.1 r.2.2.2.1 (q + 1) (dr + tsum r.1 + 5) (dp + 1) (max (max D (dp + r.2.2.2.2.1)) (dp + 1)) S3 none none (by rw [out_a k3.1 rfl]; exact hcs) c1 (by omega) (by omega) (by omega) (by omega) (by omega) (by omega) (by omega) hM3
    by_cases hg2 : Gd cs n f M r.2.2.1 r.2.2.2.1
    · obtain ⟨S4, r4, q1, q2, q3, q4, q5, q6, q7⟩ := g3 hg2
      obtain ⟨p'', hp''⟩ := hg2.1
      obtain ⟨m1, m2, m3, m4, m5, m6, m7⟩ := cv_nums f M r.2.2.1 r.2.2.2.1 p'' hp''
      generalize cv cs f M r.2.2.1 r.2.2.2.1 = s at *
      have d11 := q2.2.1 11 (by omega) (by omega) (q + 1) (Nat.le_refl _)
      have d12 := q2.2.1 12 (by omega) (by omega) (q + 1) (Nat.le_refl _)
      have d14 := q2.2.1 14 (by omega) (by omega) (q + 1) (Nat.le_refl _)
      have hgo2 := go_if1 (E := E) (d := d) (o := o) (g := g) (dr := dr + tsum r.1 + 5 + tsum s.1) (by omega) q1.2.2.1 (d11.trans (c3.trans (f11.trans b3))) (d12.trans c4) q1.2.2.2.1 (by omega)
      obtain ⟨S5, e5, a1, a2, a3, a4, a5, a6, a7, a8⟩ := T_goif1 q1 ⟨by omega, by omega, by omega⟩ (d12.trans c4)
      rw [e5] at hgo2
      have st3 := st2.tr (r4.tr (cl_g0 q1.2.2.1 (by omega) (by omega) hgo2))
      have k5 : KA q dr S S5 := (k3.tr q2 (by omega) (by omega)).tr a2 (by omega) (by omega)
      have hM5 : mrel M S5 := mrel_eq (mrel_eq hM3 q5 q6) a6 a7
      obtain ⟨g5, g6⟩ := ih M s.2.2.1 s.2.2.2.1 (q + 1) (dr + tsum r.1 + 5 + tsum s.1 + 3) (dp + 1) (max (max (max D (dp + r.2.2.2.2.1)) (dp + 1)) (dp + 1 + s.2.2.2.2.1)) S5 none none (by rw [out_a k5.1 rfl]; exact hcs) a1 (by omega) (by omega) (by omega) (by omega) (by omega) (by omega) (by omega) hM5
      refine ⟨fun hg => ?_, fun hg => ?_⟩
      · obtain ⟨S6, r6, u1, u2, u3, u4, u5, u6, u7⟩ := g5 hg.2.2
        obtain ⟨p3', hp3⟩ := hg.2.2.1
        obtain ⟨l1, l2, l3, l4, l5, l6, l7⟩ := cv_nums f M s.2.2.1 s.2.2.2.1 p3' hp3
        generalize cv cs f M s.2.2.1 s.2.2.2.1 = u at *
        have v11 := u2.2.1 11 (by omega) (by omega) (q + 1) (Nat.le_refl _)
        have v12 := u2.2.1 12 (by omega) (by omega) (q + 1) (Nat.le_refl _)
        have v14 := u2.2.1 14 (by omega) (by omega) (q + 1) (Nat.le_refl _)
        have h14 : S6.2 14 (q + 1) = nI (dr + tsum r.1) := v14.trans (a5.trans (d14.trans c5))
        have hgo3 := go_if2 (E := E) (d := d) (o := o) (g := g) (hd := dr + tsum r.1) (dr := dr + tsum r.1 + 5 + tsum s.1 + 3 + tsum u.1) (by omega) u1.2.2.1 (v11.trans (a3.trans (d11.trans (c3.trans (f11.trans b3))))) (v12.trans a4) h14 (by omega) u1.2.2.2.1 (by omega)
        obtain ⟨S7, e7, w1, w2, w3, w4, w5, w6, w7⟩ := T_goif2 (hd := dr + tsum r.1) u1 ⟨by omega, by omega, by omega⟩ (by omega) (by omega)
        rw [e7] at hgo3
        refine ⟨S7, st3.tr (r6.tr (cl_g1 u1.2.2.1 (by omega) (by omega) hgo3)), ?_, ?_, w3, w4, ?_, ?_, ?_⟩
        · rw [show max (max (max (max D (dp + r.2.2.2.2.1)) (dp + 1)) (dp + 1 + s.2.2.2.2.1)) (dp + 1 + u.2.2.2.2.1) = max D (dp + max r.2.2.2.2.1 (max (s.2.2.2.2.1 + 1) (u.2.2.2.2.1 + 1))) by omega, show dr + tsum r.1 + 5 + tsum s.1 + 3 + tsum u.1 + 3 = dr + tsum (r.1 ++ (6, nI u.2.2.2.1, 0, r.2.1, (0, 0)) :: (s.1 ++ iRes s.2.1 :: (u.1 ++ [iRes u.2.1]))) by simp only [tsum, tsum_app, isz, iRes]; omega, Nat.add_sub_cancel] at w1
          exact w1
        · exact (k5.tr u2 (by omega) (by omega)).tr w2 (by omega) (by omega)
        · rw [w5, u5, a6, q5, c6, p5, b6]
        · rw [w6, u6, a7, q6, c7, p6, b7]
        · have hR4 : ∀ i, i < dr + tsum r.1 + 5 → S4.2 25 i = S3.2 25 i := q2.2.2
          have hR6 : ∀ i, i < dr + tsum r.1 + 5 + tsum s.1 + 3 → S6.2 25 i = S5.2 25 i := u2.2.2
          rw [w7, u3, u4]
          rw [p3, p4] at c8
          rw [q3, q4] at a8
          show TokAt _ dr (r.1 ++ (6, nI u.2.2.2.1, 0, r.2.1, (0, 0)) :: (s.1 ++ iRes s.2.1 :: (u.1 ++ [iRes u.2.1])))
          rw [TokAt_app]
          refine ⟨TokAt_shift p7 (fun i hi => ?_), ⟨?_, ?_, ?_, ?_, ?_⟩, ?_⟩
          · rw [rup_ne (by omega), rup_ne (by omega), rup_ne (by omega), rup_ne (by omega), hR6 _ (by omega), a8, rup_ne (by omega), rup_ne (by omega), rup_ne (by omega), hR4 _ (by omega), c8, rup_ne (by omega), rup_ne (by omega), rup_ne (by omega), rup_ne (by omega), rup_ne (by omega)]
          · rw [rup_ne (by omega), rup_ne (by omega), rup_ne (by omega), rup_ne (by omega), hR6 _ (by omega), a8, rup_ne (by omega), rup_ne (by omega), rup_ne (by omega), hR4 _ (by omega), c8, rup_ne (by omega), rup_ne (by omega), rup_ne (by omega), rup_ne (by omega), rup_eq]
          · rw [rup_eq]
          · rw [rup_ne (by omega), rup_ne (by omega), rup_ne (by omega), rup_ne (by omega), hR6 _ (by omega), a8, rup_ne (by omega), rup_ne (by omega), rup_ne (by omega), hR4 _ (by omega), c8, rup_ne (by omega), rup_ne (by omega), rup_eq]
          · rw [rup_ne (by omega), rup_ne (by omega), rup_ne (by omega), rup_ne (by omega), hR6 _ (by omega), a8, rup_ne (by omega), rup_ne (by omega), rup_ne (by omega), hR4 _ (by omega), c8, rup_ne (by omega), rup_eq]
          · rw [rup_ne (by omega), rup_ne (by omega), rup_ne (by omega), rup_ne (by omega), hR6 _ (by omega), a8, rup_ne (by omega), rup_ne (by omega), rup_ne (by omega), hR4 _ (by omega), c8, rup_eq]
          · show TokAt _ (dr + tsum r.1 + 5) (s.1 ++ iRes s.2.1 :: (u.1 ++ [iRes u.2.1]))
            rw [TokAt_app]
            refine ⟨TokAt_shift q7 (fun i hi => ?_), ⟨?_, ?_, ?_⟩, ?_⟩
            · rw [rup_ne (by omega), rup_ne (by omega), rup_ne (by omega), rup_ne (by omega), hR6 _ (by omega), a8, rup_ne (by omega), rup_ne (by omega), rup_ne (by omega)]
            · rw [rup_ne (by omega), rup_ne (by omega), rup_ne (by omega), rup_ne (by omega), hR6 _ (by omega), a8, rup_ne (by omega), rup_ne (by omega), rup_eq]
            · rw [rup_ne (by omega), rup_ne (by omega), rup_ne (by omega), rup_ne (by omega), hR6 _ (by omega), a8, rup_ne (by omega), rup_eq]; rfl
            · rw [rup_ne (by omega), rup_ne (by omega), rup_ne (by omega), rup_ne (by omega), hR6 _ (by omega), a8, rup_eq]; rfl
            · show TokAt _ (dr + tsum r.1 + 5 + tsum s.1 + 3) (u.1 ++ [iRes u.2.1])
              rw [TokAt_app]
              refine ⟨TokAt_shift u7 (fun i hi => ?_), ⟨?_, ?_, ?_⟩, trivial⟩
              · rw [rup_ne (by omega), rup_ne (by omega), rup_ne (by omega), rup_ne (by omega)]
              · rw [rup_ne (by omega), rup_ne (by omega), rup_ne (by omega), rup_eq]
              · rw [rup_ne (by omega), rup_ne (by omega), rup_eq]; rfl
              · rw [rup_ne (by omega), rup_eq]; rfl
      · obtain ⟨S', r6, r7⟩ := g6 (fun z => hg ⟨hg1, hg2, z⟩)
        exact ⟨S', Rk.tr st3 r6, r7.trans k5.1⟩
    · refine ⟨fun hg => absurd hg.2.1 hg2, fun _ => ?_⟩
      obtain ⟨S', r4, r5⟩ := g4 hg2
      exact ⟨S', Rk.tr st2 r4, r5.trans k3.1⟩
  · refine ⟨fun hg => absurd hg.1 hg1, fun _ => ?_⟩
    obtain ⟨S', r1, r2⟩ := g2 hg1
    exact ⟨S', Rk.tr st1 r1, r2.trans b2.1⟩
theorem cv_sim (h60 : n ≤ 60) : ∀ f, SimS E g o d cs n f := by
  intro f
  induction f with
  | zero =>
    intro M p k q dr dp D S x y hcs hC hp hf
    omega
  | succ f ih =>
    intro M p k q dr dp D S x y hcs hC hp hf hq hk hdp hD hdr hM
    by_cases hh : hok cs n p = true
    · obtain ⟨h1, h2, h3, h4, h5, -⟩ := hok_iff.mp hh
      rcases kd7 h2 h3 with w | w | w | w | w | w | w
      · rw [w, show hl 0 = 2 from rfl] at h4
        refine ⟨fun _ => ?_, fun hg => absurd (Gd_01 hh w) hg⟩
        have hst := b_num (E := E) (d := d + 3) (o := o) (g := g) hC.2.1 hC.1 h60 (by rw [hcs]; exact w) (by omega)
        obtain ⟨S1, e1, b1, b2, b3, b4, b5, b6, b7⟩ := T_at (a := 0) (b := S.2 2 (p + 1)) hC
        rw [e1] at hst
        refine ⟨S1, cl_1 hst, ?_⟩
        rw [cv_0 w]
        refine ⟨?_, b2, b3, by rw [b4, hcs], b5, b6, trivial⟩
        show CS n (p + 2) q (dr + 0) k dp (max D (dp + 0)) S1
        by_cases hd : dp ≤ D
        · rw [show max D (dp + 0) = D by omega]; exact b1
        · exact absurd hd (by omega)
      · rw [w, show hl 1 = 2 from rfl] at h4
        obtain ⟨j, hj, ej⟩ := le_nat (m := 9) (by decide) (h5 w).1 (h5 w).2
        cases hx : M j with
        | none =>
          have hx' : M (cs (p + 1)).toNatClampNeg = none := by rw [ej, nI_clamp (by omega)]; exact hx
          refine ⟨fun hg => ?_, fun _ => ?_⟩
          · have := hg.2
            rw [cv_1n w hx'] at this
            cases this
          · have hst := b_varF (E := E) (d := d + 3) (o := o) (g := g) (x := j) hC.2.1 hC.1 h60 (by rw [hcs]; exact w) (by omega) (by omega) (by rw [hcs]; exact ej) ((hM j (by omega)).1 hx)
            exact ⟨_, cl_f hst, out_next.trans out_next⟩
        | some a =>
          have hx' : M (cs (p + 1)).toNatClampNeg = some a := by rw [ej, nI_clamp (by omega)]; exact hx
          obtain ⟨m1, m2, m3⟩ := (hM j (by omega)).2 a hx
          refine ⟨fun _ => ?_, fun hg => absurd ⟨⟨_, sy_01 hh (Or.inr w)⟩, by rw [cv_1s w hx']⟩ hg⟩
          have hst := b_var (E := E) (d := d + 3) (o := o) (g := g) (x := j) hC.2.1 hC.1 h60 (by rw [hcs]; exact w) (by omega) (by omega) (by rw [hcs]; exact ej) (by rw [m1]; exact m3)
          obtain ⟨S1, e1, b1, b2, b3, b4, b5, b6, b7⟩ := T_at (a := S.2 19 j) (b := S.2 20 j) hC
          rw [e1] at hst
          refine ⟨S1, cl_1 hst, ?_⟩
          rw [cv_1s w hx']
          refine ⟨?_, b2, b3.trans m1, b4.trans m2, b5, b6, trivial⟩
          show CS n (p + 2) q (dr + 0) k dp (max D (dp + 0)) S1
          rw [show max D (dp + 0) = D by omega]
          exact b1
      · exact sim_2 h60 ih hcs hC hf hq hk hdp hD hdr hM hh w
      · exact sim_3 h60 ih hcs hC hf hq hk hdp hD hdr hM hh w
      · exact sim_4 h60 ih hcs hC hf hq hk hdp hD hdr hM hh w
      · exact sim_5 h60 ih hcs hC hf hq hk hdp hD hdr hM hh w
      · exact sim_6 h60 ih hcs hC hf hq hk hdp hD hdr hM hh w
    · refine ⟨fun hg => ?_, fun _ => ?_⟩
      · obtain ⟨p', hp'⟩ := hg.1
        exact absurd (sy_hok hp') hh
      · obtain ⟨S', r1, r2⟩ := begins_bad (E := E) (d := d + 3) (o := o) (g := g) h60 hcs hC hp hq (by cases hb : hok cs n p with | false => rfl | true => exact absurd hb hh)
        exact ⟨S', cl_f r1, r2⟩
end SIM2
end
section
/-! ===== the reference's converts and convert ===== -/
section M16
variable {cs : Nat → Int32} {n d o : Nat} {E : PE} {g : PH}
theorem lp_mi : ∀ (r i : Nat) (S : MSt), i + r = 10 → (∀ x, x < i → S.2 19 x = -1) → ∃ S', Ex E (d + 5) (4, 32, [some (.ref o), some (.int (nI i)), none, none], []) (mh g o S) (4, 51, [some (.ref o), none, none, none], []) (mh g o S') ∧ out S' = out S ∧ S'.1 = S.1 ∧ ∀ x, x < 10 → S'.2 19 x = -1 := by
  intro r
  induction r with
  | zero =>
    intro i S hi hS
    have : i = 10 := by omega
    subst this
    refine ⟨S, ?_, rfl, rfl, hS⟩
    refine Ex.tr (F1 := (4, 33, _, _)) (x_iload_n rfl rfl) ?_
    refine Ex.tr (F1 := (4, 35, _, _)) (x_bipush rfl) ?_
    refine Ex.tr (F1 := (4, 51, _, _)) (x_icT rfl (tg := 51) rfl (show nI 10 ≤ nI 10 from nI_le (by omega) (by omega))) ?_
    exact x_wk ⟨Or.inr rfl, Or.inl rfl, Or.inl rfl, Or.inl rfl, trivial⟩
  | succ r ih =>
    intro i S hi hS
    obtain ⟨S', r1, r2, r3, r4⟩ := ih (i + 1) (msA S 19 i (-1)) (by omega) (fun x hx => by
      by_cases e : x = i
      · rw [e]; exact msA_at
      · rw [msA_ne e]; exact hS x (by omega))
    refine ⟨S', ?_, r2.trans (out_A rfl), r3, r4⟩
    refine Ex.tr (F1 := (4, 33, _, _)) (x_iload_n rfl rfl) ?_
    refine Ex.tr (F1 := (4, 35, _, _)) (x_bipush rfl) ?_
    refine Ex.tr (F1 := (4, 38, _, _)) (x_icF rfl (tg := 51) rfl (show ¬ nI 10 ≤ nI i from nI_ge (by omega) (by omega))) ?_
    refine Ex.tr (F1 := (4, 39, _, _)) (x_aload_n rfl rfl rfl) ?_
    refine Ex.tr (F1 := (4, 42, _, _)) (m_get rfl rfl (Nat.le_of_ble_eq_true rfl)) ?_
    refine Ex.tr (F1 := (4, 43, _, _)) (x_iload_n rfl rfl) ?_
    refine Ex.tr (F1 := (4, 44, _, _)) (x_iconst rfl) ?_
    refine Ex.tr (F1 := (4, 45, _, _)) (m_iast (k := 19) (n := i) rfl rfl rfl (Nat.le_of_ble_eq_true rfl) rfl (show i < 10 by omega)) ?_
    refine Ex.tr (F1 := (4, 48, [_, _, _, _], _)) (x_iinc (i := 1) rfl rfl) ?_
    refine Ex.tr (F1 := (4, 32, [_, _, _, _], _)) (x_goto rfl rfl) ?_
    rw [show nI i + Int32.ofInt 1 = nI (i + 1) from nI_1 i]
    exact r1
/-- the code is one term without a free variable -/
def GdP (cs : Nat → Int32) (n : Nat) : Prop := sy cs n 61 0 = some n ∧ (cv cs 61 (fun _ => none) 0 0).2.2.2.2.2 = false
theorem c_converts (h60 : n ≤ 60) {S : MSt} (hn : S.1 1 = nI n) (hcs : S.2 2 = cs) :
    (GdP cs n → ∃ S', Rn E (d + 5) 4 [.ref o] (mh g o S) (some (.int 1)) (mh g o S') ∧ out S' = out S ∧ S'.1 23 = nI (tsum (cvP cs)) ∧ S'.1 24 = nI (cv cs 61 (fun _ => none) 0 0).2.2.2.1 ∧ S'.1 22 = nI (cv cs 61 (fun _ => none) 0 0).2.2.2.2.1 ∧ TokAt (S'.2 25) 0 (cvP cs)) ∧
    (¬ GdP cs n → ∃ S', Rn E (d + 5) 4 [.ref o] (mh g o S) (some (.int 0)) (mh g o S') ∧ out S' = out S) := by
  obtain ⟨S1, i1, i2, i3, i4⟩ := lp_mi (E := E) (d := d) (o := o) (g := g) 10 0 (msI (msI (msI (msI (msI (msI S 9 0) 10 0) 21 0) 22 0) 23 0) 24 0) rfl (fun x hx => absurd hx (Nat.not_lt_zero x))
  have o1 : out S1 = out S := i2.trans ((out_I rfl).trans ((out_I rfl).trans ((out_I rfl).trans ((out_I rfl).trans ((out_I rfl).trans (out_I rfl))))))
  have hC : CS n 0 0 0 0 0 0 S1 := ⟨(congrFun i3 1).trans hn, congrFun i3 9, congrFun i3 10, congrFun i3 23, congrFun i3 24, congrFun i3 21, congrFun i3 22⟩
  have hM : mrel (fun _ => none) S1 := fun x hx => ⟨fun _ => by rw [i4 x hx]; decide, fun a h => by cases h⟩
  have beg : Ex E (d + 5) (4, 0, pent [.ref o] (mmax 4), []) (mh g o S) (C53 o none none) (mh g o S1) := by
    refine Ex.tr (F1 := (4, 1, _, _)) (x_aload_n rfl rfl rfl) ?_
    refine Ex.tr (F1 := (4, 2, _, _)) (x_iconst rfl) ?_
    refine Ex.tr (F1 := (4, 5, _, _)) (m_put rfl rfl rfl rfl rfl rfl) ?_
    refine Ex.tr (F1 := (4, 6, _, _)) (x_aload_n rfl rfl rfl) ?_
    refine Ex.tr (F1 := (4, 7, _, _)) (x_iconst rfl) ?_
    refine Ex.tr (F1 := (4, 10, _, _)) (m_put rfl rfl rfl rfl rfl rfl) ?_
    refine Ex.tr (F1 := (4, 11, _, _)) (x_aload_n rfl rfl rfl) ?_
    refine Ex.tr (F1 := (4, 12, _, _)) (x_iconst rfl) ?_
    refine Ex.tr (F1 := (4, 15, _, _)) (m_put rfl rfl rfl rfl rfl rfl) ?_
    refine Ex.tr (F1 := (4, 16, _, _)) (x_aload_n rfl rfl rfl) ?_
    refine Ex.tr (F1 := (4, 17, _, _)) (x_iconst rfl) ?_
    refine Ex.tr (F1 := (4, 20, _, _)) (m_put rfl rfl rfl rfl rfl rfl) ?_
    refine Ex.tr (F1 := (4, 21, _, _)) (x_aload_n rfl rfl rfl) ?_
    refine Ex.tr (F1 := (4, 22, _, _)) (x_iconst rfl) ?_
    refine Ex.tr (F1 := (4, 25, _, _)) (m_put rfl rfl rfl rfl rfl rfl) ?_
    refine Ex.tr (F1 := (4, 26, _, _)) (x_aload_n rfl rfl rfl) ?_
    refine Ex.tr (F1 := (4, 27, _, _)) (x_iconst rfl) ?_
    refine Ex.tr (F1 := (4, 30, _, _)) (m_put rfl rfl rfl rfl rfl rfl) ?_
    refine Ex.tr (F1 := (4, 31, _, _)) (x_iconst rfl) ?_
    refine Ex.tr (F1 := (4, 32, [_, _, _, _], _)) (x_istore_n (i := 1) rfl (Nat.le_of_ble_eq_true rfl)) ?_
    refine Ex.tr i1 ?_
    refine Ex.tr (F1 := (4, 52, _, _)) (x_iconst rfl) ?_
    refine Ex.tr (F1 := (4, 53, [_, _, _, _], _)) (x_istore_n (i := 1) rfl (Nat.le_of_ble_eq_true rfl)) ?_
    exact Ex.rf
  obtain ⟨g1, g2⟩ := cv_sim (E := E) (d := d) (o := o) (g := g) (cs := cs) h60 61 (fun _ => none) 0 0 0 0 0 0 S1 none none ((out_a o1 rfl).trans hcs) hC (by omega) (by omega) (by omega) (by omega) (by omega) (by omega) (by omega) hM
  by_cases hg : Gd cs n 61 (fun _ => none) 0 0
  · obtain ⟨S2, r1, p1, p2, p3, p4, p5, p6, p7⟩ := g1 hg
    obtain ⟨p', hp'⟩ := hg.1
    obtain ⟨n1, n2, n3, n4, n5, n6, n7⟩ := cv_nums 61 (fun _ => none) 0 0 p' hp'
    have hfr := hg.2
    unfold GdP cvP
    generalize cv cs 61 (fun _ => none) 0 0 = r at *
    rw [Nat.zero_add] at p1
    have e25 : mRowE S2 = msI (msA (msI (msA (msI (msA S2 25 (tsum r.1) 9) 23 (nI (tsum r.1 + 1))) 25 (tsum r.1 + 1) r.2.1.1) 23 (nI (tsum r.1 + 1 + 1))) 25 (tsum r.1 + 1 + 1) r.2.1.2) 23 (nI (tsum r.1 + 1 + 1 + 1)) := by
      unfold mRowE
      rw [p3, p4, mE (S := S2) (m := tsum r.1) (v := 9) p1.2.2.2.1 (by omega), mE (m := tsum r.1 + 1) (v := r.2.1.1) rfl (by omega), mE (m := tsum r.1 + 1 + 1) (v := r.2.1.2) rfl (by omega)]
    have oE : out (mRowE S2) = out S := by
      rw [e25]
      exact ((out_I rfl).trans ((out_A rfl).trans ((out_I rfl).trans ((out_A rfl).trans ((out_I rfl).trans (out_A rfl)))))).trans (p2.1.trans o1)
    have h9 : S2.1 9 = nI p' := by rw [← n1]; exact p1.2.1
    by_cases hpn : p' = n
    · subst hpn
      refine ⟨fun _ => ⟨mRowE S2, ?_, oE, ?_, ?_, ?_, ?_⟩, fun z => absurd ⟨hp', hfr⟩ z⟩
      · refine Rn.of (Nat.le_of_ble_eq_true rfl) (Rk.tr beg (Rk.tr r1 ?_))
        refine Rk.tr (F1 := (4, 80, _, _)) (x_iload_n rfl rfl) ?_
        refine Rk.tr (F1 := (4, 83, _, _)) (x_ifF rfl (tg := 98) rfl (show ¬ (1 : Int32) = 0 by decide)) ?_
        refine Rk.tr (F1 := (4, 84, _, _)) (x_aload_n rfl rfl rfl) ?_
        refine Rk.tr (F1 := (4, 87, _, _)) (m_get rfl rfl (Nat.le_of_ble_eq_true rfl)) ?_
        refine Rk.tr (F1 := (4, 98, _, _)) (x_ifT rfl (tg := 98) rfl (by show S2.1 10 ≤ 0; rw [p1.2.2.1]; decide)) ?_
        refine Rk.tr (F1 := (4, 99, _, _)) (x_iload_n rfl rfl) ?_
        refine Rk.tr (F1 := (4, 106, _, _)) (x_ifT rfl (tg := 106) rfl (show ¬ (1 : Int32) = 0 by decide)) ?_
        refine Rk.tr (F1 := (4, 107, _, _)) (x_iconst rfl) ?_
        refine Rk.tr (F1 := (4, 108, [_, _, _, _], _)) (x_istore_n (i := 1) rfl (Nat.le_of_ble_eq_true rfl)) ?_
        refine Rk.tr (F1 := (4, 53, [_, _, _, _], _)) (x_goto rfl rfl) ?_
        refine Rk.tr (F1 := (4, 54, _, _)) (x_iload_n rfl rfl) ?_
        refine Rk.tr (F1 := (4, 111, _, _)) (x_ifT rfl (tg := 111) rfl rfl) ?_
        refine Rk.tr (F1 := (4, 112, _, _)) (x_aload_n rfl rfl rfl) ?_
        refine Rk.tr (F1 := (4, 114, _, _)) (x_bipush rfl) ?_
        refine Rk.tr (F1 := (4, 117, _, _)) (m_call (As := [_]) rfl rfl rfl (Or.inr rfl) rfl rfl rfl (Nat.le_of_ble_eq_true rfl) (c_emit (n := tsum r.1) p1.2.2.2.1 (by omega)) rfl) ?_
        refine Rk.tr (F1 := (4, 118, _, _)) (x_aload_n rfl rfl rfl) ?_
        refine Rk.tr (F1 := (4, 119, _, _)) (x_aload_n rfl rfl rfl) ?_
        refine Rk.tr (F1 := (4, 122, _, _)) (m_get rfl rfl (Nat.le_of_ble_eq_true rfl)) ?_
        refine Rk.tr (F1 := (4, 123, _, _)) (x_aload_n rfl rfl rfl) ?_
        refine Rk.tr (F1 := (4, 126, _, _)) (m_get rfl rfl (Nat.le_of_ble_eq_true rfl)) ?_
        refine Rk.tr (F1 := (4, 129, _, _)) (m_call (As := [_, _]) rfl rfl rfl (Or.inr rfl) rfl rfl rfl (Nat.le_of_ble_eq_true rfl) (c_emitAtom (n := tsum r.1 + 1) (by show S2.1 23 + 1 = _; rw [p1.2.2.2.1, nI_1]) (by omega)) rfl) ?_
        refine Rk.tr (F1 := (4, 130, _, _)) (x_aload_n rfl rfl rfl) ?_
        refine Rk.tr (F1 := (4, 133, _, _)) (m_get rfl rfl (Nat.le_of_ble_eq_true rfl)) ?_
        refine Rk.tr (F1 := (4, 134, _, _)) (x_aload_n rfl rfl rfl) ?_
        refine Rk.tr (F1 := (4, 137, _, _)) (m_get rfl rfl (Nat.le_of_ble_eq_true rfl)) ?_
        refine Rk.tr (F1 := (4, 140, _, _)) (x_icF rfl (tg := 144) rfl (fun q => q (by show S2.1 9 = S2.1 1; rw [h9, p1.1]))) ?_
        refine Rk.tr (F1 := (4, 141, _, _)) (x_iconst rfl) ?_
        refine Rk.tr (F1 := (4, 145, _, _)) (x_goto rfl rfl) ?_
        exact Rk.end rfl (Or.inr (Or.inl ⟨rfl, _, .boolean, rfl, rfl, rfl, rfl⟩))
      · rw [e25, tsum_app, show tsum [iRes r.2.1] = 3 from rfl]
        rfl
      · exact p1.2.2.2.2.1
      · have := p1.2.2.2.2.2.2
        rw [show max 0 (0 + r.2.2.2.2.1) = r.2.2.2.2.1 by omega] at this
        exact this
      · rw [TokAt_app]
        have e : (mRowE S2).2 25 = rup (rup (rup (S2.2 25) (tsum r.1) 9) (tsum r.1 + 1) r.2.1.1) (tsum r.1 + 1 + 1) r.2.1.2 := by
          rw [e25]
          funext j
          simp [msI, msA, rup]
        rw [e, Nat.zero_add]
        refine ⟨TokAt_shift p7 (fun i hi => ?_), ⟨?_, ?_, ?_⟩, trivial⟩
        · rw [rup_ne (by omega), rup_ne (by omega), rup_ne (by omega)]
        · rw [rup_ne (by omega), rup_ne (by omega), rup_eq]
        · rw [rup_ne (by omega), rup_eq]; rfl
        · rw [rup_eq]; rfl
    · refine ⟨fun z => ?_, fun _ => ⟨mRowE S2, ?_, oE⟩⟩
      · exact absurd (Option.some.inj (hp'.symm.trans z.1)) hpn
      · refine Rn.of (Nat.le_of_ble_eq_true rfl) (Rk.tr beg (Rk.tr r1 ?_))
        refine Rk.tr (F1 := (4, 80, _, _)) (x_iload_n rfl rfl) ?_
        refine Rk.tr (F1 := (4, 83, _, _)) (x_ifF rfl (tg := 98) rfl (show ¬ (1 : Int32) = 0 by decide)) ?_
        refine Rk.tr (F1 := (4, 84, _, _)) (x_aload_n rfl rfl rfl) ?_
        refine Rk.tr (F1 := (4, 87, _, _)) (m_get rfl rfl (Nat.le_of_ble_eq_true rfl)) ?_
        refine Rk.tr (F1 := (4, 98, _, _)) (x_ifT rfl (tg := 98) rfl (by show S2.1 10 ≤ 0; rw [p1.2.2.1]; decide)) ?_
        refine Rk.tr (F1 := (4, 99, _, _)) (x_iload_n rfl rfl) ?_
        refine Rk.tr (F1 := (4, 106, _, _)) (x_ifT rfl (tg := 106) rfl (show ¬ (1 : Int32) = 0 by decide)) ?_
        refine Rk.tr (F1 := (4, 107, _, _)) (x_iconst rfl) ?_
        refine Rk.tr (F1 := (4, 108, [_, _, _, _], _)) (x_istore_n (i := 1) rfl (Nat.le_of_ble_eq_true rfl)) ?_
        refine Rk.tr (F1 := (4, 53, [_, _, _, _], _)) (x_goto rfl rfl) ?_
        refine Rk.tr (F1 := (4, 54, _, _)) (x_iload_n rfl rfl) ?_
        refine Rk.tr (F1 := (4, 111, _, _)) (x_ifT rfl (tg := 111) rfl rfl) ?_
        refine Rk.tr (F1 := (4, 112, _, _)) (x_aload_n rfl rfl rfl) ?_
        refine Rk.tr (F1 := (4, 114, _, _)) (x_bipush rfl) ?_
        refine Rk.tr (F1 := (4, 117, _, _)) (m_call (As := [_]) rfl rfl rfl (Or.inr rfl) rfl rfl rfl (Nat.le_of_ble_eq_true rfl) (c_emit (n := tsum r.1) p1.2.2.2.1 (by omega)) rfl) ?_
        refine Rk.tr (F1 := (4, 118, _, _)) (x_aload_n rfl rfl rfl) ?_
        refine Rk.tr (F1 := (4, 119, _, _)) (x_aload_n rfl rfl rfl) ?_
        refine Rk.tr (F1 := (4, 122, _, _)) (m_get rfl rfl (Nat.le_of_ble_eq_true rfl)) ?_
        refine Rk.tr (F1 := (4, 123, _, _)) (x_aload_n rfl rfl rfl) ?_
        refine Rk.tr (F1 := (4, 126, _, _)) (m_get rfl rfl (Nat.le_of_ble_eq_true rfl)) ?_
        refine Rk.tr (F1 := (4, 129, _, _)) (m_call (As := [_, _]) rfl rfl rfl (Or.inr rfl) rfl rfl rfl (Nat.le_of_ble_eq_true rfl) (c_emitAtom (n := tsum r.1 + 1) (by show S2.1 23 + 1 = _; rw [p1.2.2.2.1, nI_1]) (by omega)) rfl) ?_
        refine Rk.tr (F1 := (4, 130, _, _)) (x_aload_n rfl rfl rfl) ?_
        refine Rk.tr (F1 := (4, 133, _, _)) (m_get rfl rfl (Nat.le_of_ble_eq_true rfl)) ?_
        refine Rk.tr (F1 := (4, 134, _, _)) (x_aload_n rfl rfl rfl) ?_
        refine Rk.tr (F1 := (4, 137, _, _)) (m_get rfl rfl (Nat.le_of_ble_eq_true rfl)) ?_
        refine Rk.tr (F1 := (4, 144, _, _)) (x_icT rfl (tg := 144) rfl (by show ¬ S2.1 9 = S2.1 1; rw [h9, p1.1]; exact fun z => hpn ((nI_eq (by omega) (by omega)).mp z))) ?_
        refine Rk.tr (F1 := (4, 145, _, _)) (x_iconst rfl) ?_
        exact Rk.end rfl (Or.inr (Or.inl ⟨rfl, _, .boolean, rfl, rfl, rfl, rfl⟩))
  · refine ⟨fun z => absurd ⟨⟨n, z.1⟩, z.2⟩ hg, fun _ => ?_⟩
    obtain ⟨S', r1, r2⟩ := g2 hg
    exact ⟨S', Rn.of (Nat.le_of_ble_eq_true rfl) (Rk.tr beg r1), r2.trans o1⟩
theorem out_out {S S' : MSt} {k : Nat} {x : Int32} (h : out S' = out S) : out (msI S' k x) = out (msI S k x) := by
  refine Prod.ext (funext fun j => ?_) (show (out S').2 = (out S).2 from congrArg Prod.snd h)
  have := congrFun (congrArg Prod.fst h) j
  show (if ckI j = true then 0 else if j = k then x else S'.1 j) = (if ckI j = true then 0 else if j = k then x else S.1 j)
  have this : (if ckI j = true then 0 else S'.1 j) = (if ckI j = true then 0 else S.1 j) := this
  by_cases e : j = k
  · rw [if_pos e, if_pos e]
  · rw [if_neg e, if_neg e]
    exact this
theorem lp_cp (len : Nat) (h8 : len ≤ 800) : ∀ (r i : Nat) (S : MSt), S.1 23 = nI len → i + r = len → (∀ j, j < i → S.2 5 j = S.2 25 j) → ∃ S', Ex E (d + 6) (3, 61, [some (.ref o), none, some (.int (nI i))], []) (mh g o S) (3, 87, [some (.ref o), none, none], []) (mh g o S') ∧ S'.1 = S.1 ∧ (∀ k, k ≠ 5 → S'.2 k = S.2 k) ∧ ∀ j, j < len → S'.2 5 j = S.2 25 j := by
  intro r
  induction r with
  | zero =>
    intro i S hl hi hS
    have : i = len := by omega
    subst this
    refine ⟨S, ?_, rfl, fun _ _ => rfl, hS⟩
    refine Ex.tr (F1 := (3, 62, _, _)) (x_iload_n rfl rfl) ?_
    refine Ex.tr (F1 := (3, 63, _, _)) (x_aload_n rfl rfl rfl) ?_
    refine Ex.tr (F1 := (3, 66, _, _)) (m_get rfl rfl (Nat.le_of_ble_eq_true rfl)) ?_
    refine Ex.tr (F1 := (3, 87, _, _)) (x_icT rfl (tg := 87) rfl (by show S.1 23 ≤ nI i; rw [hl]; exact nI_le (by omega) (by omega))) ?_
    exact x_wk ⟨Or.inr rfl, Or.inr rfl, Or.inl rfl, trivial⟩
  | succ r ih =>
    intro i S hl hi hS
    obtain ⟨S', r1, r2, r3, r4⟩ := ih (i + 1) (msA S 5 i (S.2 25 i)) hl (by omega) (fun j hj => by
      by_cases e : j = i
      · rw [e]; exact msA_at
      · rw [msA_ne e]; exact hS j (by omega))
    refine ⟨S', ?_, r2, fun k hk => (r3 k hk).trans (funext fun j => if_neg (fun z => hk z.1)), r4⟩
    refine Ex.tr (F1 := (3, 62, _, _)) (x_iload_n rfl rfl) ?_
    refine Ex.tr (F1 := (3, 63, _, _)) (x_aload_n rfl rfl rfl) ?_
    refine Ex.tr (F1 := (3, 66, _, _)) (m_get rfl rfl (Nat.le_of_ble_eq_true rfl)) ?_
    refine Ex.tr (F1 := (3, 69, _, _)) (x_icF rfl (tg := 87) rfl (by show ¬ S.1 23 ≤ nI i; rw [hl]; exact nI_ge (by omega) (by omega))) ?_
    refine Ex.tr (F1 := (3, 70, _, _)) (x_aload_n rfl rfl rfl) ?_
    refine Ex.tr (F1 := (3, 73, _, _)) (m_get rfl rfl (Nat.le_of_ble_eq_true rfl)) ?_
    refine Ex.tr (F1 := (3, 74, _, _)) (x_iload_n rfl rfl) ?_
    refine Ex.tr (F1 := (3, 75, _, _)) (x_aload_n rfl rfl rfl) ?_
    refine Ex.tr (F1 := (3, 78, _, _)) (m_get rfl rfl (Nat.le_of_ble_eq_true rfl)) ?_
    refine Ex.tr (F1 := (3, 79, _, _)) (x_iload_n rfl rfl) ?_
    refine Ex.tr (F1 := (3, 80, _, _)) (m_iald (k := 25) (n := i) rfl rfl rfl rfl (show i < 800 by omega)) ?_
    refine Ex.tr (F1 := (3, 81, _, _)) (m_iast (k := 5) (n := i) rfl rfl rfl (Nat.le_of_ble_eq_true rfl) rfl (show i < 800 by omega)) ?_
    refine Ex.tr (F1 := (3, 84, [_, _, _], _)) (x_iinc (i := 2) rfl rfl) ?_
    refine Ex.tr (F1 := (3, 61, [_, _, _], _)) (x_goto rfl rfl) ?_
    rw [show nI i + Int32.ofInt 1 = nI (i + 1) from nI_1 i]
    exact r1
theorem lp_c0 : ∀ (r i : Nat) (S : MSt), i + r = 4 → (∀ j, j < i → S.2 7 j = 0) → ∃ S', Ex E (d + 6) (3, 97, [some (.ref o), none, some (.int (nI i))], []) (mh g o S) (3, 115, [some (.ref o), none, none], []) (mh g o S') ∧ S'.1 = S.1 ∧ (∀ k, k ≠ 7 → S'.2 k = S.2 k) ∧ ∀ j, j < 4 → S'.2 7 j = 0 := by
  intro r
  induction r with
  | zero =>
    intro i S hi hS
    have : i = 4 := by omega
    subst this
    refine ⟨S, ?_, rfl, fun _ _ => rfl, hS⟩
    refine Ex.tr (F1 := (3, 98, _, _)) (x_iload_n rfl rfl) ?_
    refine Ex.tr (F1 := (3, 99, _, _)) (x_iconst rfl) ?_
    refine Ex.tr (F1 := (3, 115, _, _)) (x_icT rfl (tg := 115) rfl (show nI 4 ≤ nI 4 from nI_le (by omega) (by omega))) ?_
    exact x_wk ⟨Or.inr rfl, Or.inr rfl, Or.inl rfl, trivial⟩
  | succ r ih =>
    intro i S hi hS
    obtain ⟨S', r1, r2, r3, r4⟩ := ih (i + 1) (msA S 7 i 0) (by omega) (fun j hj => by
      by_cases e : j = i
      · rw [e]; exact msA_at
      · rw [msA_ne e]; exact hS j (by omega))
    refine ⟨S', ?_, r2, fun k hk => (r3 k hk).trans (funext fun j => if_neg (fun z => hk z.1)), r4⟩
    refine Ex.tr (F1 := (3, 98, _, _)) (x_iload_n rfl rfl) ?_
    refine Ex.tr (F1 := (3, 99, _, _)) (x_iconst rfl) ?_
    refine Ex.tr (F1 := (3, 102, _, _)) (x_icF rfl (tg := 115) rfl (show ¬ nI 4 ≤ nI i from nI_ge (by omega) (by omega))) ?_
    refine Ex.tr (F1 := (3, 103, _, _)) (x_aload_n rfl rfl rfl) ?_
    refine Ex.tr (F1 := (3, 106, _, _)) (m_get rfl rfl (Nat.le_of_ble_eq_true rfl)) ?_
    refine Ex.tr (F1 := (3, 107, _, _)) (x_iload_n rfl rfl) ?_
    refine Ex.tr (F1 := (3, 108, _, _)) (x_iconst rfl) ?_
    refine Ex.tr (F1 := (3, 109, _, _)) (m_iast (k := 7) (n := i) rfl rfl rfl (Nat.le_of_ble_eq_true rfl) rfl (show i < 4 by omega)) ?_
    refine Ex.tr (F1 := (3, 112, [_, _, _], _)) (x_iinc (i := 2) rfl rfl) ?_
    refine Ex.tr (F1 := (3, 97, [_, _, _], _)) (x_goto rfl rfl) ?_
    rw [show nI i + Int32.ofInt 1 = nI (i + 1) from nI_1 i]
    exact r1
theorem c_conv1 (h60 : n ≤ 60) {S : MSt} (hn : S.1 1 = nI n) (hcs : S.2 2 = cs) (hg : ¬ GdP cs n) : ∃ S', Rn E (d + 6) 3 [.ref o] (mh g o S) (some (.int 0)) (mh g o S') ∧ out S' = out (msI (msI S 1 0) 0 1) := by
  obtain ⟨S1, r1, r2⟩ := (c_converts (E := E) (d := d) (o := o) (g := g) h60 hn hcs).2 hg
  refine ⟨msI (msI S1 1 0) 0 1, Rn.of (Nat.le_of_ble_eq_true rfl) ?_, ?_⟩
  · refine Rk.tr (F1 := (3, 1, _, _)) (x_aload_n rfl rfl rfl) ?_
    refine Rk.tr (F1 := (3, 4, _, _)) (m_call (As := []) rfl rfl rfl (Or.inr rfl) rfl rfl rfl (Nat.le_of_ble_eq_true rfl) r1 rfl) ?_
    refine Rk.tr (F1 := (3, 5, [_, _, _], _)) (x_istore_n (i := 1) rfl (Nat.le_of_ble_eq_true rfl)) ?_
    refine Rk.tr (F1 := (3, 6, _, _)) (x_aload_n rfl rfl rfl) ?_
    refine Rk.tr (F1 := (3, 7, _, _)) (x_iconst rfl) ?_
    refine Rk.tr (F1 := (3, 10, _, _)) (m_put rfl rfl rfl rfl rfl rfl) ?_
    refine Rk.tr (F1 := (3, 11, _, _)) (x_aload_n rfl rfl rfl) ?_
    refine Rk.tr (F1 := (3, 12, _, _)) (x_iload_n rfl rfl) ?_
    refine Rk.tr (F1 := (3, 15, _, _)) (x_ifF rfl (tg := 19) rfl (fun q => q rfl)) ?_
    refine Rk.tr (F1 := (3, 16, _, _)) (x_iconst rfl) ?_
    refine Rk.tr (F1 := (3, 20, _, _)) (x_goto rfl rfl) ?_
    refine Rk.tr (F1 := (3, 21, _, _)) (x_iload_n rfl rfl) ?_
    refine Rk.tr (F1 := (3, 37, _, _)) (x_ifT rfl (tg := 37) rfl rfl) ?_
    refine Rk.tr (F1 := (3, 38, _, _)) (x_iconst rfl) ?_
    refine Rk.tr (F1 := (3, 41, _, _)) (m_call (As := [_, _]) rfl rfl rfl (Or.inr rfl) rfl rfl rfl (Nat.le_of_ble_eq_true rfl) c_fails1 rfl) ?_
    refine Rk.tr (F1 := (3, 44, _, _)) (x_ifF rfl (tg := 46) rfl (show ¬ (1 : Int32) = 0 by decide)) ?_
    refine Rk.tr (F1 := (3, 45, _, _)) (x_iconst rfl) ?_
    exact Rk.end rfl (Or.inr (Or.inl ⟨rfl, _, .int, rfl, rfl, rfl, rfl⟩))
  · exact out_out (out_out r2)
theorem c_conv2 (h60 : n ≤ 60) {S : MSt} (hn : S.1 1 = nI n) (hcs : S.2 2 = cs) (hg : GdP cs n) (hd : 8 < (cv cs 61 (fun _ => none) 0 0).2.2.2.2.1) : ∃ S', Rn E (d + 6) 3 [.ref o] (mh g o S) (some (.int 0)) (mh g o S') ∧ out S' = out (msI (msI S 1 0) 0 2) := by
  obtain ⟨S1, r1, r2, r3, r4, r5, r6⟩ := (c_converts (E := E) (d := d) (o := o) (g := g) h60 hn hcs).1 hg
  have hb := (cv_nums 61 (fun _ => none) 0 0 n hg.1).2.2.2.2.2.2
  refine ⟨msI (msI S1 1 0) 0 2, Rn.of (Nat.le_of_ble_eq_true rfl) ?_, ?_⟩
  · refine Rk.tr (F1 := (3, 1, _, _)) (x_aload_n rfl rfl rfl) ?_
    refine Rk.tr (F1 := (3, 4, _, _)) (m_call (As := []) rfl rfl rfl (Or.inr rfl) rfl rfl rfl (Nat.le_of_ble_eq_true rfl) r1 rfl) ?_
    refine Rk.tr (F1 := (3, 5, [_, _, _], _)) (x_istore_n (i := 1) rfl (Nat.le_of_ble_eq_true rfl)) ?_
    refine Rk.tr (F1 := (3, 6, _, _)) (x_aload_n rfl rfl rfl) ?_
    refine Rk.tr (F1 := (3, 7, _, _)) (x_iconst rfl) ?_
    refine Rk.tr (F1 := (3, 10, _, _)) (m_put rfl rfl rfl rfl rfl rfl) ?_
    refine Rk.tr (F1 := (3, 11, _, _)) (x_aload_n rfl rfl rfl) ?_
    refine Rk.tr (F1 := (3, 12, _, _)) (x_iload_n rfl rfl) ?_
    refine Rk.tr (F1 := (3, 19, _, _)) (x_ifT rfl (tg := 19) rfl (show ¬ (1 : Int32) = 0 by decide)) ?_
    refine Rk.tr (F1 := (3, 20, _, _)) (x_iconst rfl) ?_
    refine Rk.tr (F1 := (3, 21, _, _)) (x_iload_n rfl rfl) ?_
    refine Rk.tr (F1 := (3, 24, _, _)) (x_ifF rfl (tg := 37) rfl (show ¬ (1 : Int32) = 0 by decide)) ?_
    refine Rk.tr (F1 := (3, 25, _, _)) (x_aload_n rfl rfl rfl) ?_
    refine Rk.tr (F1 := (3, 28, _, _)) (m_get rfl rfl (Nat.le_of_ble_eq_true rfl)) ?_
    refine Rk.tr (F1 := (3, 30, _, _)) (x_bipush rfl) ?_
    refine Rk.tr (F1 := (3, 33, _, _)) (x_icF rfl (tg := 37) rfl (by show ¬ S1.1 22 ≤ nI 8; rw [r5]; exact nI_ge (by omega) (by omega))) ?_
    refine Rk.tr (F1 := (3, 34, _, _)) (x_iconst rfl) ?_
    refine Rk.tr (F1 := (3, 38, _, _)) (x_goto rfl rfl) ?_
    refine Rk.tr (F1 := (3, 41, _, _)) (m_call (As := [_, _]) rfl rfl rfl (Or.inr rfl) rfl rfl rfl (Nat.le_of_ble_eq_true rfl) c_fails2 rfl) ?_
    refine Rk.tr (F1 := (3, 44, _, _)) (x_ifF rfl (tg := 46) rfl (show ¬ (1 : Int32) = 0 by decide)) ?_
    refine Rk.tr (F1 := (3, 45, _, _)) (x_iconst rfl) ?_
    exact Rk.end rfl (Or.inr (Or.inl ⟨rfl, _, .int, rfl, rfl, rfl, rfl⟩))
  · exact out_out (out_out r2)
theorem c_conv (h60 : n ≤ 60) {S : MSt} (hn : S.1 1 = nI n) (hcs : S.2 2 = cs) (hg : GdP cs n) (hd : (cv cs 61 (fun _ => none) 0 0).2.2.2.2.1 ≤ 8) : ∃ S', Rn E (d + 6) 3 [.ref o] (mh g o S) (some (.int (nI (cntB (cvP cs))))) (mh g o S') ∧ S'.1 0 = 0 ∧ S'.1 1 = 0 ∧ S'.1 3 = 1 ∧ S'.1 4 = nI (tsum (cvP cs)) ∧ S'.1 8 = nI (cv cs 61 (fun _ => none) 0 0).2.2.2.1 ∧ TokAt (S'.2 5) 0 (cvP cs) ∧ (∀ j, j < 4 → S'.2 7 j = 0) ∧ S'.2 42 = S.2 42 := by
  obtain ⟨S1, r1, r2, r3, r4, r5, r6⟩ := (c_converts (E := E) (d := d) (o := o) (g := g) h60 hn hcs).1 hg
  have hb := (cv_nums 61 (fun _ => none) 0 0 n hg.1).2.2.2.2.2
  have hI := cvP_inv h60 hg.1
  have hl := hI.2.2
  obtain ⟨S2, a1, a2, a3, a4⟩ := lp_cp (E := E) (d := d) (o := o) (g := g) (tsum (cvP cs)) (by omega) (tsum (cvP cs)) 0 (msI (msI (msI (msI S1 1 0) 0 0) 3 1) 4 (S1.1 23)) r3 (by omega) (fun j hj => absurd hj (Nat.not_lt_zero j))
  obtain ⟨S3, b1, b2, b3, b4⟩ := lp_c0 (E := E) (d := d) (o := o) (g := g) 4 0 (msI S2 8 (S2.1 24)) (by omega) (fun j hj => absurd hj (Nat.not_lt_zero j))
  have e5 : TokAt (S3.2 5) 0 (cvP cs) := by
    rw [b3 5 (by decide)]
    refine TokAt_shift r6 (fun j hj => ?_)
    rw [Nat.zero_add]
    exact a4 j hj
  have e4 : S3.1 4 = nI (tsum (cvP cs)) := by
    rw [b2]
    show S2.1 4 = _
    rw [a2]
    exact r3
  refine ⟨S3, Rn.of (Nat.le_of_ble_eq_true rfl) ?_, ?_, ?_, ?_, e4, ?_, e5, b4, ?_⟩
  · refine Rk.tr (F1 := (3, 1, _, _)) (x_aload_n rfl rfl rfl) ?_
    refine Rk.tr (F1 := (3, 4, _, _)) (m_call (As := []) rfl rfl rfl (Or.inr rfl) rfl rfl rfl (Nat.le_of_ble_eq_true rfl) r1 rfl) ?_
    refine Rk.tr (F1 := (3, 5, [_, _, _], _)) (x_istore_n (i := 1) rfl (Nat.le_of_ble_eq_true rfl)) ?_
    refine Rk.tr (F1 := (3, 6, _, _)) (x_aload_n rfl rfl rfl) ?_
    refine Rk.tr (F1 := (3, 7, _, _)) (x_iconst rfl) ?_
    refine Rk.tr (F1 := (3, 10, _, _)) (m_put rfl rfl rfl rfl rfl rfl) ?_
    refine Rk.tr (F1 := (3, 11, _, _)) (x_aload_n rfl rfl rfl) ?_
    refine Rk.tr (F1 := (3, 12, _, _)) (x_iload_n rfl rfl) ?_
    refine Rk.tr (F1 := (3, 19, _, _)) (x_ifT rfl (tg := 19) rfl (show ¬ (1 : Int32) = 0 by decide)) ?_
    refine Rk.tr (F1 := (3, 20, _, _)) (x_iconst rfl) ?_
    refine Rk.tr (F1 := (3, 21, _, _)) (x_iload_n rfl rfl) ?_
    refine Rk.tr (F1 := (3, 24, _, _)) (x_ifF rfl (tg := 37) rfl (show ¬ (1 : Int32) = 0 by decide)) ?_
    refine Rk.tr (F1 := (3, 25, _, _)) (x_aload_n rfl rfl rfl) ?_
    refine Rk.tr (F1 := (3, 28, _, _)) (m_get rfl rfl (Nat.le_of_ble_eq_true rfl)) ?_
    refine Rk.tr (F1 := (3, 30, _, _)) (x_bipush rfl) ?_
    refine Rk.tr (F1 := (3, 37, _, _)) (x_icT rfl (tg := 37) rfl (by show S1.1 22 ≤ nI 8; rw [r5]; exact nI_le (by omega) (by omega))) ?_
    refine Rk.tr (F1 := (3, 38, _, _)) (x_iconst rfl) ?_
    refine Rk.tr (F1 := (3, 41, _, _)) (m_call (As := [_, _]) rfl rfl rfl (Or.inr rfl) rfl rfl rfl (Nat.le_of_ble_eq_true rfl) c_fails0 rfl) ?_
    refine Rk.tr (F1 := (3, 46, _, _)) (x_ifT rfl (tg := 46) rfl rfl) ?_
    refine Rk.tr (F1 := (3, 47, _, _)) (x_aload_n rfl rfl rfl) ?_
    refine Rk.tr (F1 := (3, 48, _, _)) (x_iconst rfl) ?_
    refine Rk.tr (F1 := (3, 51, _, _)) (m_put rfl rfl rfl rfl rfl rfl) ?_
    refine Rk.tr (F1 := (3, 52, _, _)) (x_aload_n rfl rfl rfl) ?_
    refine Rk.tr (F1 := (3, 53, _, _)) (x_aload_n rfl rfl rfl) ?_
    refine Rk.tr (F1 := (3, 56, _, _)) (m_get rfl rfl (Nat.le_of_ble_eq_true rfl)) ?_
    refine Rk.tr (F1 := (3, 59, _, _)) (m_put rfl rfl rfl rfl rfl rfl) ?_
    refine Rk.tr (F1 := (3, 60, _, _)) (x_iconst rfl) ?_
    refine Rk.tr (F1 := (3, 61, [_, _, _], _)) (x_istore_n (i := 2) rfl (Nat.le_of_ble_eq_true rfl)) ?_
    refine Rk.tr (F1 := (3, 61, [_, none, _], _)) (x_wk ⟨Or.inr rfl, Or.inl rfl, Or.inr rfl, trivial⟩) ?_
    refine Rk.tr a1 ?_
    refine Rk.tr (F1 := (3, 88, _, _)) (x_aload_n rfl rfl rfl) ?_
    refine Rk.tr (F1 := (3, 89, _, _)) (x_aload_n rfl rfl rfl) ?_
    refine Rk.tr (F1 := (3, 92, _, _)) (m_get rfl rfl (Nat.le_of_ble_eq_true rfl)) ?_
    refine Rk.tr (F1 := (3, 95, _, _)) (m_put rfl rfl rfl rfl rfl rfl) ?_
    refine Rk.tr (F1 := (3, 96, _, _)) (x_iconst rfl) ?_
    refine Rk.tr (F1 := (3, 97, [_, _, _], _)) (x_istore_n (i := 2) rfl (Nat.le_of_ble_eq_true rfl)) ?_
    refine Rk.tr b1 ?_
    refine Rk.tr (F1 := (3, 116, _, _)) (x_aload_n rfl rfl rfl) ?_
    refine Rk.tr (F1 := (3, 119, _, _)) (m_call (As := []) rfl rfl rfl (Or.inr rfl) rfl rfl rfl (Nat.le_of_ble_eq_true rfl) (c_bindings (d := d + 4) (len := tsum (cvP cs)) e4 (by omega) e5 rfl) rfl) ?_
    exact Rk.end rfl (Or.inr (Or.inl ⟨rfl, _, .int, rfl, rfl, rfl, rfl⟩))
  · rw [b2]; show S2.1 0 = _; rw [a2]; rfl
  · rw [b2]; show S2.1 1 = _; rw [a2]; rfl
  · rw [b2]; show S2.1 3 = _; rw [a2]; rfl
  · rw [b2]; show S2.1 24 = _; rw [a2]; exact r4
  · rw [b3 42 (by decide)]; show S2.2 42 = _; rw [a3 42 (by decide)]; exact out_a r2 rfl
end M16
end
section
/-! ===== the reference's run: load, keep, enters ===== -/
abbrev Val : Type := Bool × Int32
abbrev Env : Type := List (Int32 × Val)
def look : Env → Int32 → Val
  | [], _ => (false, 0)
  | q :: L, y => if q.1 = y then q.2 else look L y
def lkE (L : Env) (a : Int32 × Int32) : Val := if a.1 = 0 then (false, a.2) else look L a.2
def bI (b : Bool) : Int32 := if b = true then 1 else 0
/-- a chain of cells, the last one first; each cell's before lies lower -/
def En (Cl : Nat → Int32 → Val → Int32 → Prop) : Nat → Int32 → Env → Prop
  | _, c, [] => c = -1
  | b, c, q :: L => ∃ (j : Nat) (c' : Int32), j < b ∧ c = nI j ∧ Cl j q.1 q.2 c' ∧ En Cl j c' L
theorem En.mono {Cl Cl' : Nat → Int32 → Val → Int32 → Prop} : ∀ {L : Env} {b b' : Nat} {c : Int32}, En Cl b c L → b ≤ b' → (∀ j x v c', j < b → Cl j x v c' → Cl' j x v c') → En Cl' b' c L
  | [], _, _, _, h, _, _ => h
  | q :: L, b, b', c, ⟨j, c', h1, h2, h3, h4⟩, hb, hc => ⟨j, c', by omega, h2, hc j _ _ _ h1 h3, En.mono h4 (Nat.le_refl _) (fun i x v d hi => hc i x v d (by omega))⟩
theorem En.len {Cl : Nat → Int32 → Val → Int32 → Prop} : ∀ {L : Env} {b : Nat} {c : Int32}, En Cl b c L → L.length ≤ b
  | [], _, _, _ => Nat.zero_le _
  | _ :: L, b, c, ⟨j, c', h1, _, _, h4⟩ => by
    have := En.len h4
    simp only [List.length_cons]
    omega
/-- the reference's cell j; a function's number is below nf -/
def rcl (S : MSt) (nf j : Nat) (x : Int32) (v : Val) (c' : Int32) : Prop := S.2 27 j = x ∧ S.2 28 j = bI v.1 ∧ S.2 29 j = v.2 ∧ S.2 30 j = c' ∧ (v.1 = true → ∃ k, k < nf ∧ v.2 = nI k)
def mVal (S : MSt) (v : Val) : MSt := msI (msI S 40 (bI v.1)) 41 v.2
theorem mVal2 {S : MSt} {a b : Int32} {v : Val} : msI (msI (msI (msI S 40 a) 41 b) 40 (bI v.1)) 41 v.2 = mVal S v := by
  refine Prod.ext (funext fun j => ?_) rfl
  show (if j = 41 then v.2 else if j = 40 then bI v.1 else if j = 41 then b else if j = 40 then a else S.1 j) = (if j = 41 then v.2 else if j = 40 then bI v.1 else S.1 j)
  by_cases h1 : j = 41
  · simp [h1]
  · by_cases h0 : j = 40
    · simp [h0]
    · simp [h0, h1]
def mKeep (S : MSt) (m : Nat) (nm bf : Int32) : MSt := msI (msA (msA (msA (msA S 27 m nm) 28 m (S.1 40)) 29 m (S.1 41)) 30 m bf) 26 (S.1 26 + 1)
section M17
variable {E : PE} {d o q nc nf : Nat} {g : PH} {S : MSt}
theorem lp_load {y x : Int32} (hq : q + 1 < 800) (hy : S.2 5 (q + 1) = y) : ∀ (L : Env) (b : Nat) (c : Int32), b ≤ 900 → En (rcl S nf) b c L → y ∈ L.map Prod.fst → Rk E d (45, 29, [some (.ref o), some (.int (nI q)), some (.int x), some (.int c)], []) (mh g o S) none (mh g o (msI (msI S 40 (bI (look L y).1)) 41 (look L y).2)) := by
  intro L
  induction L with
  | nil => intro b c _ _ h; simp at h
  | cons p L ih =>
    intro b c hb ⟨j, c', h1, h2, h3, h4⟩ hm
    obtain ⟨n1, n2, n3, n4, -⟩ := h3
    subst h2
    unfold look
    by_cases e : p.1 = y
    · rw [if_pos e]
      refine Rk.tr (F1 := (45, 30, _, _)) (x_aload_n rfl rfl rfl) ?_
      refine Rk.tr (F1 := (45, 33, _, _)) (m_get rfl rfl (Nat.le_of_ble_eq_true rfl)) ?_
      refine Rk.tr (F1 := (45, 34, _, _)) (x_iload_n rfl rfl) ?_
      refine Rk.tr (F1 := (45, 35, _, _)) (m_iald (k := 27) (n := j) rfl rfl rfl rfl (show j < 900 by omega)) ?_
      refine Rk.tr (F1 := (45, 36, _, _)) (x_aload_n rfl rfl rfl) ?_
      refine Rk.tr (F1 := (45, 39, _, _)) (m_get rfl rfl (Nat.le_of_ble_eq_true rfl)) ?_
      refine Rk.tr (F1 := (45, 40, _, _)) (x_iload_n rfl rfl) ?_
      refine Rk.tr (F1 := (45, 41, _, _)) (x_iconst rfl) ?_
      refine Rk.tr (F1 := (45, 42, _, _)) (x_iadd rfl) ?_
      refine Rk.tr (F1 := (45, 43, _, _)) (m_iald (k := 5) (n := q + 1) rfl rfl rfl (nI_1 q) (show q + 1 < 800 by omega)) ?_
      refine Rk.tr (F1 := (45, 56, _, _)) (x_icT rfl (tg := 56) rfl (show S.2 27 j = S.2 5 (q + 1) by rw [n1, hy]; exact e)) ?_
      refine Rk.tr (F1 := (45, 57, _, _)) (x_aload_n rfl rfl rfl) ?_
      refine Rk.tr (F1 := (45, 58, _, _)) (x_aload_n rfl rfl rfl) ?_
      refine Rk.tr (F1 := (45, 61, _, _)) (m_get rfl rfl (Nat.le_of_ble_eq_true rfl)) ?_
      refine Rk.tr (F1 := (45, 62, _, _)) (x_iload_n rfl rfl) ?_
      refine Rk.tr (F1 := (45, 63, _, _)) (m_zald (n := j) rfl rfl (show j < 900 by omega)) ?_
      refine Rk.tr (F1 := (45, 63, _, _)) (x_top n2) ?_
      refine Rk.tr (F1 := (45, 66, _, _)) (m_put rfl rfl rfl (by cases p.2.1 <;> rfl) (by cases p.2.1 <;> rfl) rfl) ?_
      refine Rk.tr (F1 := (45, 67, _, _)) (x_aload_n rfl rfl rfl) ?_
      refine Rk.tr (F1 := (45, 68, _, _)) (x_aload_n rfl rfl rfl) ?_
      refine Rk.tr (F1 := (45, 71, _, _)) (m_get rfl rfl (Nat.le_of_ble_eq_true rfl)) ?_
      refine Rk.tr (F1 := (45, 72, _, _)) (x_iload_n rfl rfl) ?_
      refine Rk.tr (F1 := (45, 73, _, _)) (m_iald (k := 29) (n := j) rfl rfl rfl rfl (show j < 900 by omega)) ?_
      refine Rk.tr (F1 := (45, 73, _, _)) (x_top (show S.2 29 j = p.2.2 from n3)) ?_
      refine Rk.tr (F1 := (45, 76, _, _)) (m_put rfl rfl rfl rfl rfl rfl) ?_
      exact Rk.end rfl (Or.inl ⟨rfl, rfl, rfl, rfl⟩)
    · rw [if_neg e]
      have hm' : y ∈ L.map Prod.fst := by
        rcases List.mem_cons.mp hm with z | z
        · exact absurd z.symm e
        · exact z
      rw [← n4] at h4
      have r := ih j (S.2 30 j) (by omega) h4 hm'
      refine Rk.tr (F1 := (45, 30, _, _)) (x_aload_n rfl rfl rfl) ?_
      refine Rk.tr (F1 := (45, 33, _, _)) (m_get rfl rfl (Nat.le_of_ble_eq_true rfl)) ?_
      refine Rk.tr (F1 := (45, 34, _, _)) (x_iload_n rfl rfl) ?_
      refine Rk.tr (F1 := (45, 35, _, _)) (m_iald (k := 27) (n := j) rfl rfl rfl rfl (show j < 900 by omega)) ?_
      refine Rk.tr (F1 := (45, 36, _, _)) (x_aload_n rfl rfl rfl) ?_
      refine Rk.tr (F1 := (45, 39, _, _)) (m_get rfl rfl (Nat.le_of_ble_eq_true rfl)) ?_
      refine Rk.tr (F1 := (45, 40, _, _)) (x_iload_n rfl rfl) ?_
      refine Rk.tr (F1 := (45, 41, _, _)) (x_iconst rfl) ?_
      refine Rk.tr (F1 := (45, 42, _, _)) (x_iadd rfl) ?_
      refine Rk.tr (F1 := (45, 43, _, _)) (m_iald (k := 5) (n := q + 1) rfl rfl rfl (nI_1 q) (show q + 1 < 800 by omega)) ?_
      refine Rk.tr (F1 := (45, 46, _, _)) (x_icF rfl (tg := 56) rfl (show ¬ S.2 27 j = S.2 5 (q + 1) by rw [n1, hy]; exact e)) ?_
      refine Rk.tr (F1 := (45, 47, _, _)) (x_aload_n rfl rfl rfl) ?_
      refine Rk.tr (F1 := (45, 50, _, _)) (m_get rfl rfl (Nat.le_of_ble_eq_true rfl)) ?_
      refine Rk.tr (F1 := (45, 51, _, _)) (x_iload_n rfl rfl) ?_
      refine Rk.tr (F1 := (45, 52, _, _)) (m_iald (k := 30) (n := j) rfl rfl rfl rfl (show j < 900 by omega)) ?_
      refine Rk.tr (F1 := (45, 53, [_, _, _, _], _)) (x_istore_n (i := 3) rfl (Nat.le_of_ble_eq_true rfl)) ?_
      refine Rk.tr (F1 := (45, 29, [_, _, _, _], _)) (x_goto rfl rfl) ?_
      exact r
theorem c_load {a : Int32 × Int32} {c : Int32} {L : Env} {b : Nat} (hq : q + 1 < 800) (h0 : S.2 5 q = a.1) (h1 : S.2 5 (q + 1) = a.2) (hb : b ≤ 900) (hE : En (rcl S nf) b c L) (ha : a.1 = 0 ∨ (a.1 = 1 ∧ a.2 ∈ L.map Prod.fst)) : Rn E d 45 [.ref o, .int (nI q), .int c] (mh g o S) none (mh g o (mVal S (lkE L a))) := by
  refine Rn.of (Nat.le_of_ble_eq_true rfl) ?_
  unfold lkE
  by_cases e : a.1 = 0
  · rw [if_pos e]
    show Rk E d _ _ _ (mh g o (msI (msI S 40 0) 41 a.2))
    refine Rk.tr (F1 := (45, 1, _, _)) (x_aload_n rfl rfl rfl) ?_
    refine Rk.tr (F1 := (45, 2, _, _)) (x_iconst rfl) ?_
    refine Rk.tr (F1 := (45, 5, _, _)) (m_put rfl rfl rfl rfl rfl rfl) ?_
    refine Rk.tr (F1 := (45, 6, _, _)) (x_aload_n rfl rfl rfl) ?_
    refine Rk.tr (F1 := (45, 7, _, _)) (x_aload_n rfl rfl rfl) ?_
    refine Rk.tr (F1 := (45, 10, _, _)) (m_get rfl rfl (Nat.le_of_ble_eq_true rfl)) ?_
    refine Rk.tr (F1 := (45, 11, _, _)) (x_iload_n rfl rfl) ?_
    refine Rk.tr (F1 := (45, 12, _, _)) (x_iconst rfl) ?_
    refine Rk.tr (F1 := (45, 13, _, _)) (x_iadd rfl) ?_
    refine Rk.tr (F1 := (45, 14, _, _)) (m_iald (k := 5) (n := q + 1) rfl rfl rfl (nI_1 q) (show q + 1 < 800 by omega)) ?_
    refine Rk.tr (F1 := (45, 14, _, _)) (x_top (show S.2 5 (q + 1) = a.2 from h1)) ?_
    refine Rk.tr (F1 := (45, 17, _, _)) (m_put rfl rfl rfl rfl rfl rfl) ?_
    refine Rk.tr (F1 := (45, 18, _, _)) (x_aload_n rfl rfl rfl) ?_
    refine Rk.tr (F1 := (45, 21, _, _)) (m_get rfl rfl (Nat.le_of_ble_eq_true rfl)) ?_
    refine Rk.tr (F1 := (45, 22, _, _)) (x_iload_n rfl rfl) ?_
    refine Rk.tr (F1 := (45, 23, _, _)) (m_iald (k := 5) (n := q) rfl rfl rfl rfl (show q < 800 by omega)) ?_
    refine Rk.tr (F1 := (45, 26, _, _)) (x_ifF rfl (tg := 27) rfl (fun z => z (show S.2 5 q = 0 by rw [h0]; exact e))) ?_
    exact Rk.end rfl (Or.inl ⟨rfl, rfl, rfl, rfl⟩)
  · rw [if_neg e]
    have hy : a.2 ∈ L.map Prod.fst := (ha.resolve_left e).2
    rw [← mVal2 (a := 0) (b := a.2)]
    have r := lp_load (E := E) (d := d) (o := o) (g := g) (S := msI (msI S 40 0) 41 a.2) (nf := nf) (x := c) (y := a.2) hq h1 L b c hb (hE.mono (Nat.le_refl _) (fun _ _ _ _ _ h => h)) hy
    refine Rk.tr (F1 := (45, 1, _, _)) (x_aload_n rfl rfl rfl) ?_
    refine Rk.tr (F1 := (45, 2, _, _)) (x_iconst rfl) ?_
    refine Rk.tr (F1 := (45, 5, _, _)) (m_put rfl rfl rfl rfl rfl rfl) ?_
    refine Rk.tr (F1 := (45, 6, _, _)) (x_aload_n rfl rfl rfl) ?_
    refine Rk.tr (F1 := (45, 7, _, _)) (x_aload_n rfl rfl rfl) ?_
    refine Rk.tr (F1 := (45, 10, _, _)) (m_get rfl rfl (Nat.le_of_ble_eq_true rfl)) ?_
    refine Rk.tr (F1 := (45, 11, _, _)) (x_iload_n rfl rfl) ?_
    refine Rk.tr (F1 := (45, 12, _, _)) (x_iconst rfl) ?_
    refine Rk.tr (F1 := (45, 13, _, _)) (x_iadd rfl) ?_
    refine Rk.tr (F1 := (45, 14, _, _)) (m_iald (k := 5) (n := q + 1) rfl rfl rfl (nI_1 q) (show q + 1 < 800 by omega)) ?_
    refine Rk.tr (F1 := (45, 14, _, _)) (x_top (show S.2 5 (q + 1) = a.2 from h1)) ?_
    refine Rk.tr (F1 := (45, 17, _, _)) (m_put rfl rfl rfl rfl rfl rfl) ?_
    refine Rk.tr (F1 := (45, 18, _, _)) (x_aload_n rfl rfl rfl) ?_
    refine Rk.tr (F1 := (45, 21, _, _)) (m_get rfl rfl (Nat.le_of_ble_eq_true rfl)) ?_
    refine Rk.tr (F1 := (45, 22, _, _)) (x_iload_n rfl rfl) ?_
    refine Rk.tr (F1 := (45, 23, _, _)) (m_iald (k := 5) (n := q) rfl rfl rfl rfl (show q < 800 by omega)) ?_
    refine Rk.tr (F1 := (45, 27, _, _)) (x_ifT rfl (tg := 27) rfl (fun z => e (h0.symm.trans z))) ?_
    refine Rk.tr (F1 := (45, 28, _, _)) (x_iload_n rfl rfl) ?_
    refine Rk.tr (F1 := (45, 29, [_, _, _, _], _)) (x_istore_n (i := 3) rfl (Nat.le_of_ble_eq_true rfl)) ?_
    exact r
theorem c_keep {nm bf : Int32} {b : Bool} (hc : S.1 26 = nI nc) (h9 : nc < 900) (hb : S.1 40 = bI b) : Rn E d 46 [.ref o, .int nm, .int bf] (mh g o S) (some (.int (nI nc))) (mh g o (mKeep S nc nm bf)) := by
  refine Rn.of (Nat.le_of_ble_eq_true rfl) ?_
  refine Rk.tr (F1 := (46, 1, _, _)) (x_aload_n rfl rfl rfl) ?_
  refine Rk.tr (F1 := (46, 4, _, _)) (m_get rfl rfl (Nat.le_of_ble_eq_true rfl)) ?_
  refine Rk.tr (F1 := (46, 5, _, _)) (x_aload_n rfl rfl rfl) ?_
  refine Rk.tr (F1 := (46, 8, _, _)) (m_get rfl rfl (Nat.le_of_ble_eq_true rfl)) ?_
  refine Rk.tr (F1 := (46, 9, _, _)) (x_iload_n rfl rfl) ?_
  refine Rk.tr (F1 := (46, 10, _, _)) (m_iast (k := 27) (n := nc) rfl rfl rfl (Nat.le_of_ble_eq_true rfl) hc (show nc < 900 by omega)) ?_
  refine Rk.tr (F1 := (46, 11, _, _)) (x_aload_n rfl rfl rfl) ?_
  refine Rk.tr (F1 := (46, 14, _, _)) (m_get rfl rfl (Nat.le_of_ble_eq_true rfl)) ?_
  refine Rk.tr (F1 := (46, 15, _, _)) (x_aload_n rfl rfl rfl) ?_
  refine Rk.tr (F1 := (46, 18, _, _)) (m_get rfl rfl (Nat.le_of_ble_eq_true rfl)) ?_
  refine Rk.tr (F1 := (46, 19, _, _)) (x_aload_n rfl rfl rfl) ?_
  refine Rk.tr (F1 := (46, 22, _, _)) (m_get rfl rfl (Nat.le_of_ble_eq_true rfl)) ?_
  refine Rk.tr (F1 := (46, 23, _, _)) (m_zast (n := nc) rfl (by show narrow .boolean (.int (S.1 40)) = .int (S.1 40); rw [hb]; cases b <;> rfl) hc (show nc < 900 by omega)) ?_
  refine Rk.tr (F1 := (46, 24, _, _)) (x_aload_n rfl rfl rfl) ?_
  refine Rk.tr (F1 := (46, 27, _, _)) (m_get rfl rfl (Nat.le_of_ble_eq_true rfl)) ?_
  refine Rk.tr (F1 := (46, 28, _, _)) (x_aload_n rfl rfl rfl) ?_
  refine Rk.tr (F1 := (46, 31, _, _)) (m_get rfl rfl (Nat.le_of_ble_eq_true rfl)) ?_
  refine Rk.tr (F1 := (46, 32, _, _)) (x_aload_n rfl rfl rfl) ?_
  refine Rk.tr (F1 := (46, 35, _, _)) (m_get rfl rfl (Nat.le_of_ble_eq_true rfl)) ?_
  refine Rk.tr (F1 := (46, 36, _, _)) (m_iast (k := 29) (n := nc) rfl rfl rfl (Nat.le_of_ble_eq_true rfl) hc (show nc < 900 by omega)) ?_
  refine Rk.tr (F1 := (46, 37, _, _)) (x_aload_n rfl rfl rfl) ?_
  refine Rk.tr (F1 := (46, 40, _, _)) (m_get rfl rfl (Nat.le_of_ble_eq_true rfl)) ?_
  refine Rk.tr (F1 := (46, 41, _, _)) (x_aload_n rfl rfl rfl) ?_
  refine Rk.tr (F1 := (46, 44, _, _)) (m_get rfl rfl (Nat.le_of_ble_eq_true rfl)) ?_
  refine Rk.tr (F1 := (46, 45, _, _)) (x_iload_n rfl rfl) ?_
  refine Rk.tr (F1 := (46, 46, _, _)) (m_iast (k := 30) (n := nc) rfl rfl rfl (Nat.le_of_ble_eq_true rfl) hc (show nc < 900 by omega)) ?_
  refine Rk.tr (F1 := (46, 47, _, _)) (x_aload_n rfl rfl rfl) ?_
  refine Rk.tr (F1 := (46, 48, _, _)) (x_dup rfl rfl) ?_
  refine Rk.tr (F1 := (46, 51, _, _)) (m_get rfl rfl (Nat.le_of_ble_eq_true rfl)) ?_
  refine Rk.tr (F1 := (46, 52, _, _)) (x_iconst rfl) ?_
  refine Rk.tr (F1 := (46, 53, _, _)) (x_iadd rfl) ?_
  refine Rk.tr (F1 := (46, 56, _, _)) (m_put rfl rfl rfl rfl rfl rfl) ?_
  refine Rk.tr (F1 := (46, 57, _, _)) (x_aload_n rfl rfl rfl) ?_
  refine Rk.tr (F1 := (46, 60, _, _)) (m_get rfl rfl (Nat.le_of_ble_eq_true rfl)) ?_
  refine Rk.tr (F1 := (46, 61, _, _)) (x_iconst rfl) ?_
  refine Rk.tr (F1 := (46, 62, _, _)) (x_isub rfl) ?_
  refine Rk.tr (F1 := (46, 62, _, _)) (x_top (y := nI nc) (by show S.1 26 + 1 - 1 = nI nc; rw [hc, nI_p1])) ?_
  exact Rk.end rfl (Or.inr (Or.inl ⟨rfl, _, .int, rfl, rfl, rfl, rfl⟩))
def mEnt (S : MSt) (fr : Nat) (a b c e : Int32) : MSt := msI (msA (msA (msA (msA S 36 fr a) 37 fr b) 38 fr c) 39 fr e) 35 (S.1 35 + 1)
theorem c_enters {fr dm : Nat} {a b c e : Int32} (hf : S.1 35 = nI fr) (h13 : fr < 13) (hd : S.2 42 3 = nI dm) (hd9 : dm < 100) : ∃ S1, Rn E d 43 [.ref o, .int a, .int b, .int c, .int e] (mh g o S) (some (.int 0)) (mh g o S1) ∧ S1.1 = (mEnt S fr a b c e).1 ∧ (∀ k, k ≠ 42 → S1.2 k = (mEnt S fr a b c e).2 k) ∧ (∀ j, j ≠ 3 → S1.2 42 j = S.2 42 j) ∧ S1.2 42 3 = nI (max dm fr) := by
  have hne : ¬ S.1 35 = 13 := fun z => by
    have e : nI fr = nI 13 := hf.symm.trans z
    exact absurd ((nI_eq (by omega) (by decide)).mp e) (by omega)
  by_cases hm : fr ≤ dm
  · refine ⟨mEnt S fr a b c e, Rn.of (Nat.le_of_ble_eq_true rfl) ?_, rfl, fun _ _ => rfl, fun _ _ => rfl, ?_⟩
    · refine Rk.tr (F1 := (43, 1, _, _)) (x_aload_n rfl rfl rfl) ?_
      refine Rk.tr (F1 := (43, 4, _, _)) (m_get rfl rfl (Nat.le_of_ble_eq_true rfl)) ?_
      refine Rk.tr (F1 := (43, 6, _, _)) (x_bipush rfl) ?_
      refine Rk.tr (F1 := (43, 11, _, _)) (x_icT rfl (tg := 11) rfl hne) ?_
      refine Rk.tr (F1 := (43, 12, _, _)) (x_aload_n rfl rfl rfl) ?_
      refine Rk.tr (F1 := (43, 15, _, _)) (m_get rfl rfl (Nat.le_of_ble_eq_true rfl)) ?_
      refine Rk.tr (F1 := (43, 16, _, _)) (x_aload_n rfl rfl rfl) ?_
      refine Rk.tr (F1 := (43, 19, _, _)) (m_get rfl rfl (Nat.le_of_ble_eq_true rfl)) ?_
      refine Rk.tr (F1 := (43, 20, _, _)) (x_iload_n rfl rfl) ?_
      refine Rk.tr (F1 := (43, 21, _, _)) (m_iast (k := 36) (n := fr) rfl rfl rfl (Nat.le_of_ble_eq_true rfl) hf (show fr < 14 by omega)) ?_
      refine Rk.tr (F1 := (43, 22, _, _)) (x_aload_n rfl rfl rfl) ?_
      refine Rk.tr (F1 := (43, 25, _, _)) (m_get rfl rfl (Nat.le_of_ble_eq_true rfl)) ?_
      refine Rk.tr (F1 := (43, 26, _, _)) (x_aload_n rfl rfl rfl) ?_
      refine Rk.tr (F1 := (43, 29, _, _)) (m_get rfl rfl (Nat.le_of_ble_eq_true rfl)) ?_
      refine Rk.tr (F1 := (43, 30, _, _)) (x_iload_n rfl rfl) ?_
      refine Rk.tr (F1 := (43, 31, _, _)) (m_iast (k := 37) (n := fr) rfl rfl rfl (Nat.le_of_ble_eq_true rfl) hf (show fr < 14 by omega)) ?_
      refine Rk.tr (F1 := (43, 32, _, _)) (x_aload_n rfl rfl rfl) ?_
      refine Rk.tr (F1 := (43, 35, _, _)) (m_get rfl rfl (Nat.le_of_ble_eq_true rfl)) ?_
      refine Rk.tr (F1 := (43, 36, _, _)) (x_aload_n rfl rfl rfl) ?_
      refine Rk.tr (F1 := (43, 39, _, _)) (m_get rfl rfl (Nat.le_of_ble_eq_true rfl)) ?_
      refine Rk.tr (F1 := (43, 40, _, _)) (x_iload_n rfl rfl) ?_
      refine Rk.tr (F1 := (43, 41, _, _)) (m_iast (k := 38) (n := fr) rfl rfl rfl (Nat.le_of_ble_eq_true rfl) hf (show fr < 14 by omega)) ?_
      refine Rk.tr (F1 := (43, 42, _, _)) (x_aload_n rfl rfl rfl) ?_
      refine Rk.tr (F1 := (43, 45, _, _)) (m_get rfl rfl (Nat.le_of_ble_eq_true rfl)) ?_
      refine Rk.tr (F1 := (43, 46, _, _)) (x_aload_n rfl rfl rfl) ?_
      refine Rk.tr (F1 := (43, 49, _, _)) (m_get rfl rfl (Nat.le_of_ble_eq_true rfl)) ?_
      refine Rk.tr (F1 := (43, 51, _, _)) (x_iload rfl rfl) ?_
      refine Rk.tr (F1 := (43, 52, _, _)) (m_iast (k := 39) (n := fr) rfl rfl rfl (Nat.le_of_ble_eq_true rfl) hf (show fr < 14 by omega)) ?_
      refine Rk.tr (F1 := (43, 53, _, _)) (x_aload_n rfl rfl rfl) ?_
      refine Rk.tr (F1 := (43, 54, _, _)) (x_dup rfl rfl) ?_
      refine Rk.tr (F1 := (43, 57, _, _)) (m_get rfl rfl (Nat.le_of_ble_eq_true rfl)) ?_
      refine Rk.tr (F1 := (43, 58, _, _)) (x_iconst rfl) ?_
      refine Rk.tr (F1 := (43, 59, _, _)) (x_iadd rfl) ?_
      refine Rk.tr (F1 := (43, 62, _, _)) (m_put rfl rfl rfl rfl rfl rfl) ?_
      refine Rk.tr (F1 := (43, 63, _, _)) (x_aload_n rfl rfl rfl) ?_
      refine Rk.tr (F1 := (43, 66, _, _)) (m_get rfl rfl (Nat.le_of_ble_eq_true rfl)) ?_
      refine Rk.tr (F1 := (43, 67, _, _)) (x_iconst rfl) ?_
      refine Rk.tr (F1 := (43, 68, _, _)) (x_isub rfl) ?_
      refine Rk.tr (F1 := (43, 69, _, _)) (x_aload_n rfl rfl rfl) ?_
      refine Rk.tr (F1 := (43, 72, _, _)) (m_get rfl rfl (Nat.le_of_ble_eq_true rfl)) ?_
      refine Rk.tr (F1 := (43, 73, _, _)) (x_iconst rfl) ?_
      refine Rk.tr (F1 := (43, 74, _, _)) (m_iald (k := 42) (n := 3) rfl rfl rfl rfl (Nat.le_of_ble_eq_true rfl)) ?_
      refine Rk.tr (F1 := (43, 89, _, _)) (x_icT rfl (tg := 89) rfl (by show S.1 35 + 1 - 1 ≤ S.2 42 3; rw [hf, nI_p1, hd]; exact nI_le hm (by omega))) ?_
      refine Rk.tr (F1 := (43, 90, _, _)) (x_iconst rfl) ?_
      exact Rk.end rfl (Or.inr (Or.inl ⟨rfl, _, .int, rfl, rfl, rfl, rfl⟩))
    · rw [Nat.max_eq_left hm]; exact hd
  · refine ⟨msA (mEnt S fr a b c e) 42 3 ((mEnt S fr a b c e).1 35 - 1), Rn.of (Nat.le_of_ble_eq_true rfl) ?_, rfl, fun k hk => funext fun j => if_neg (fun z => hk z.1), fun j hj => if_neg (fun z => hj z.2), ?_⟩
    · refine Rk.tr (F1 := (43, 1, _, _)) (x_aload_n rfl rfl rfl) ?_
      refine Rk.tr (F1 := (43, 4, _, _)) (m_get rfl rfl (Nat.le_of_ble_eq_true rfl)) ?_
      refine Rk.tr (F1 := (43, 6, _, _)) (x_bipush rfl) ?_
      refine Rk.tr (F1 := (43, 11, _, _)) (x_icT rfl (tg := 11) rfl hne) ?_
      refine Rk.tr (F1 := (43, 12, _, _)) (x_aload_n rfl rfl rfl) ?_
      refine Rk.tr (F1 := (43, 15, _, _)) (m_get rfl rfl (Nat.le_of_ble_eq_true rfl)) ?_
      refine Rk.tr (F1 := (43, 16, _, _)) (x_aload_n rfl rfl rfl) ?_
      refine Rk.tr (F1 := (43, 19, _, _)) (m_get rfl rfl (Nat.le_of_ble_eq_true rfl)) ?_
      refine Rk.tr (F1 := (43, 20, _, _)) (x_iload_n rfl rfl) ?_
      refine Rk.tr (F1 := (43, 21, _, _)) (m_iast (k := 36) (n := fr) rfl rfl rfl (Nat.le_of_ble_eq_true rfl) hf (show fr < 14 by omega)) ?_
      refine Rk.tr (F1 := (43, 22, _, _)) (x_aload_n rfl rfl rfl) ?_
      refine Rk.tr (F1 := (43, 25, _, _)) (m_get rfl rfl (Nat.le_of_ble_eq_true rfl)) ?_
      refine Rk.tr (F1 := (43, 26, _, _)) (x_aload_n rfl rfl rfl) ?_
      refine Rk.tr (F1 := (43, 29, _, _)) (m_get rfl rfl (Nat.le_of_ble_eq_true rfl)) ?_
      refine Rk.tr (F1 := (43, 30, _, _)) (x_iload_n rfl rfl) ?_
      refine Rk.tr (F1 := (43, 31, _, _)) (m_iast (k := 37) (n := fr) rfl rfl rfl (Nat.le_of_ble_eq_true rfl) hf (show fr < 14 by omega)) ?_
      refine Rk.tr (F1 := (43, 32, _, _)) (x_aload_n rfl rfl rfl) ?_
      refine Rk.tr (F1 := (43, 35, _, _)) (m_get rfl rfl (Nat.le_of_ble_eq_true rfl)) ?_
      refine Rk.tr (F1 := (43, 36, _, _)) (x_aload_n rfl rfl rfl) ?_
      refine Rk.tr (F1 := (43, 39, _, _)) (m_get rfl rfl (Nat.le_of_ble_eq_true rfl)) ?_
      refine Rk.tr (F1 := (43, 40, _, _)) (x_iload_n rfl rfl) ?_
      refine Rk.tr (F1 := (43, 41, _, _)) (m_iast (k := 38) (n := fr) rfl rfl rfl (Nat.le_of_ble_eq_true rfl) hf (show fr < 14 by omega)) ?_
      refine Rk.tr (F1 := (43, 42, _, _)) (x_aload_n rfl rfl rfl) ?_
      refine Rk.tr (F1 := (43, 45, _, _)) (m_get rfl rfl (Nat.le_of_ble_eq_true rfl)) ?_
      refine Rk.tr (F1 := (43, 46, _, _)) (x_aload_n rfl rfl rfl) ?_
      refine Rk.tr (F1 := (43, 49, _, _)) (m_get rfl rfl (Nat.le_of_ble_eq_true rfl)) ?_
      refine Rk.tr (F1 := (43, 51, _, _)) (x_iload rfl rfl) ?_
      refine Rk.tr (F1 := (43, 52, _, _)) (m_iast (k := 39) (n := fr) rfl rfl rfl (Nat.le_of_ble_eq_true rfl) hf (show fr < 14 by omega)) ?_
      refine Rk.tr (F1 := (43, 53, _, _)) (x_aload_n rfl rfl rfl) ?_
      refine Rk.tr (F1 := (43, 54, _, _)) (x_dup rfl rfl) ?_
      refine Rk.tr (F1 := (43, 57, _, _)) (m_get rfl rfl (Nat.le_of_ble_eq_true rfl)) ?_
      refine Rk.tr (F1 := (43, 58, _, _)) (x_iconst rfl) ?_
      refine Rk.tr (F1 := (43, 59, _, _)) (x_iadd rfl) ?_
      refine Rk.tr (F1 := (43, 62, _, _)) (m_put rfl rfl rfl rfl rfl rfl) ?_
      refine Rk.tr (F1 := (43, 63, _, _)) (x_aload_n rfl rfl rfl) ?_
      refine Rk.tr (F1 := (43, 66, _, _)) (m_get rfl rfl (Nat.le_of_ble_eq_true rfl)) ?_
      refine Rk.tr (F1 := (43, 67, _, _)) (x_iconst rfl) ?_
      refine Rk.tr (F1 := (43, 68, _, _)) (x_isub rfl) ?_
      refine Rk.tr (F1 := (43, 69, _, _)) (x_aload_n rfl rfl rfl) ?_
      refine Rk.tr (F1 := (43, 72, _, _)) (m_get rfl rfl (Nat.le_of_ble_eq_true rfl)) ?_
      refine Rk.tr (F1 := (43, 73, _, _)) (x_iconst rfl) ?_
      refine Rk.tr (F1 := (43, 74, _, _)) (m_iald (k := 42) (n := 3) rfl rfl rfl rfl (Nat.le_of_ble_eq_true rfl)) ?_
      refine Rk.tr (F1 := (43, 77, _, _)) (x_icF rfl (tg := 89) rfl (by show ¬ S.1 35 + 1 - 1 ≤ S.2 42 3; rw [hf, nI_p1, hd]; exact nI_ge (by omega) (by omega))) ?_
      refine Rk.tr (F1 := (43, 78, _, _)) (x_aload_n rfl rfl rfl) ?_
      refine Rk.tr (F1 := (43, 81, _, _)) (m_get rfl rfl (Nat.le_of_ble_eq_true rfl)) ?_
      refine Rk.tr (F1 := (43, 82, _, _)) (x_iconst rfl) ?_
      refine Rk.tr (F1 := (43, 83, _, _)) (x_aload_n rfl rfl rfl) ?_
      refine Rk.tr (F1 := (43, 86, _, _)) (m_get rfl rfl (Nat.le_of_ble_eq_true rfl)) ?_
      refine Rk.tr (F1 := (43, 87, _, _)) (x_iconst rfl) ?_
      refine Rk.tr (F1 := (43, 88, _, _)) (x_isub rfl) ?_
      refine Rk.tr (F1 := (43, 89, _, _)) (m_iast (k := 42) (n := 3) rfl rfl rfl (Nat.le_of_ble_eq_true rfl) rfl (Nat.le_of_ble_eq_true rfl)) ?_
      refine Rk.tr (F1 := (43, 90, _, _)) (x_iconst rfl) ?_
      exact Rk.end rfl (Or.inr (Or.inl ⟨rfl, _, .int, rfl, rfl, rfl, rfl⟩))
    · rw [Nat.max_eq_right (by omega)]
      rw [msA_at]
      show S.1 35 + 1 - 1 = _
      rw [hf, nI_p1]
theorem c_enters4 {a b c e : Int32} (hf : S.1 35 = 13) : Rn E d 43 [.ref o, .int a, .int b, .int c, .int e] (mh g o S) (some (.int 4)) (mh g o S) := by
  refine Rn.of (Nat.le_of_ble_eq_true rfl) ?_
  refine Rk.tr (F1 := (43, 1, _, _)) (x_aload_n rfl rfl rfl) ?_
  refine Rk.tr (F1 := (43, 4, _, _)) (m_get rfl rfl (Nat.le_of_ble_eq_true rfl)) ?_
  refine Rk.tr (F1 := (43, 6, _, _)) (x_bipush rfl) ?_
  refine Rk.tr (F1 := (43, 9, _, _)) (x_icF rfl (tg := 11) rfl (fun z => z hf)) ?_
  refine Rk.tr (F1 := (43, 10, _, _)) (x_iconst rfl) ?_
  exact Rk.end rfl (Or.inr (Or.inl ⟨rfl, _, .int, rfl, rfl, rfl, rfl⟩))
end M17
end
