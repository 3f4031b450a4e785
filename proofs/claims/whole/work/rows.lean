section
-- ===== PART A: goes FIRST, ahead of the names: the tables' words, and 'selects' of the private methods out of them =====
/-- a private method of a class that the tables say can be made, by its rows of tables_1 -/
def lw_okq (q : MethodName × Nat) : Prop := (q.1.cls ≠ "java/lang/invoke/MethodHandle" ∧ q.1.cls ≠ "java/lang/invoke/VarHandle") ∧ Cond.instantiable q.1.cls q.2 ∈ tables_1 ∧ Cond.privateMethod q.1 ∈ tables_1 ∧ Cond.instanceMethod q.1 ∈ tables_1
theorem lw_p0 : lw_okq (⟨"OathButtons$History", "writeRow", "()V"⟩, 6) := ⟨⟨by decide +kernel, by decide +kernel⟩, List.mem_of_getElem? (i := 284) (by decide +kernel), List.mem_of_getElem? (i := 445) (by decide +kernel), List.mem_of_getElem? (i := 446) (by decide +kernel)⟩
theorem lw_p1 : lw_okq (⟨"OathButtons", "putOnTape", "(I)V"⟩, 14) := ⟨⟨by decide +kernel, by decide +kernel⟩, List.mem_of_getElem? (i := 23) (by decide +kernel), List.mem_of_getElem? (i := 499) (by decide +kernel), List.mem_of_getElem? (i := 500) (by decide +kernel)⟩
theorem lw_p2 : lw_okq (⟨"OathButtons$Tokens", "takeLetters", "()V"⟩, 9) := ⟨⟨by decide +kernel, by decide +kernel⟩, List.mem_of_getElem? (i := 188) (by decide +kernel), List.mem_of_getElem? (i := 527) (by decide +kernel), List.mem_of_getElem? (i := 528) (by decide +kernel)⟩
theorem lw_p3 : lw_okq (⟨"OathButtons$Tokens", "takeDigits", "()V"⟩, 9) := ⟨⟨by decide +kernel, by decide +kernel⟩, List.mem_of_getElem? (i := 188) (by decide +kernel), List.mem_of_getElem? (i := 584) (by decide +kernel), List.mem_of_getElem? (i := 585) (by decide +kernel)⟩
theorem lw_p4 : lw_okq (⟨"OathButtons$Reader", "readMan", "()Z"⟩, 7) := ⟨⟨by decide +kernel, by decide +kernel⟩, List.mem_of_getElem? (i := 182) (by decide +kernel), List.mem_of_getElem? (i := 646) (by decide +kernel), List.mem_of_getElem? (i := 647) (by decide +kernel)⟩
theorem lw_p5 : lw_okq (⟨"OathButtons$Reader", "opens", "(II)Z"⟩, 7) := ⟨⟨by decide +kernel, by decide +kernel⟩, List.mem_of_getElem? (i := 182) (by decide +kernel), List.mem_of_getElem? (i := 650) (by decide +kernel), List.mem_of_getElem? (i := 651) (by decide +kernel)⟩
theorem lw_p6 : lw_okq (⟨"OathButtons$Reader", "isNewName", "([JI)Z"⟩, 7) := ⟨⟨by decide +kernel, by decide +kernel⟩, List.mem_of_getElem? (i := 182) (by decide +kernel), List.mem_of_getElem? (i := 663) (by decide +kernel), List.mem_of_getElem? (i := 664) (by decide +kernel)⟩
theorem lw_p7 : lw_okq (⟨"OathButtons$Reader", "find", "([JI)I"⟩, 7) := ⟨⟨by decide +kernel, by decide +kernel⟩, List.mem_of_getElem? (i := 182) (by decide +kernel), List.mem_of_getElem? (i := 667) (by decide +kernel), List.mem_of_getElem? (i := 668) (by decide +kernel)⟩
theorem lw_p8 : lw_okq (⟨"OathButtons$Reader", "optional", "(IIII)I"⟩, 7) := ⟨⟨by decide +kernel, by decide +kernel⟩, List.mem_of_getElem? (i := 182) (by decide +kernel), List.mem_of_getElem? (i := 671) (by decide +kernel), List.mem_of_getElem? (i := 672) (by decide +kernel)⟩
theorem lw_p9 : lw_okq (⟨"OathButtons$Reader", "number", "(II)I"⟩, 7) := ⟨⟨by decide +kernel, by decide +kernel⟩, List.mem_of_getElem? (i := 182) (by decide +kernel), List.mem_of_getElem? (i := 679) (by decide +kernel), List.mem_of_getElem? (i := 680) (by decide +kernel)⟩
theorem lw_p10 : lw_okq (⟨"OathButtons$Reader", "readDeed", "()Z"⟩, 7) := ⟨⟨by decide +kernel, by decide +kernel⟩, List.mem_of_getElem? (i := 182) (by decide +kernel), List.mem_of_getElem? (i := 683) (by decide +kernel), List.mem_of_getElem? (i := 684) (by decide +kernel)⟩
theorem lw_p11 : lw_okq (⟨"OathButtons$Reader", "readButton", "()Z"⟩, 7) := ⟨⟨by decide +kernel, by decide +kernel⟩, List.mem_of_getElem? (i := 182) (by decide +kernel), List.mem_of_getElem? (i := 693) (by decide +kernel), List.mem_of_getElem? (i := 694) (by decide +kernel)⟩
theorem lw_p12 : lw_okq (⟨"OathButtons$Reader", "readWhose", "(I)Z"⟩, 7) := ⟨⟨by decide +kernel, by decide +kernel⟩, List.mem_of_getElem? (i := 182) (by decide +kernel), List.mem_of_getElem? (i := 697) (by decide +kernel), List.mem_of_getElem? (i := 698) (by decide +kernel)⟩
theorem lw_p13 : lw_okq (⟨"OathButtons$Reader", "oldName", "([JI)I"⟩, 7) := ⟨⟨by decide +kernel, by decide +kernel⟩, List.mem_of_getElem? (i := 182) (by decide +kernel), List.mem_of_getElem? (i := 701) (by decide +kernel), List.mem_of_getElem? (i := 702) (by decide +kernel)⟩
theorem lw_p14 : lw_okq (⟨"OathButtons$Reader", "readPromise", "(I)Z"⟩, 7) := ⟨⟨by decide +kernel, by decide +kernel⟩, List.mem_of_getElem? (i := 182) (by decide +kernel), List.mem_of_getElem? (i := 705) (by decide +kernel), List.mem_of_getElem? (i := 706) (by decide +kernel)⟩
theorem lw_p15 : lw_okq (⟨"OathButtons$Reader", "readAfter", "(I)Z"⟩, 7) := ⟨⟨by decide +kernel, by decide +kernel⟩, List.mem_of_getElem? (i := 182) (by decide +kernel), List.mem_of_getElem? (i := 709) (by decide +kernel), List.mem_of_getElem? (i := 710) (by decide +kernel)⟩
def lw_privs_1 : List (MethodName × Nat) := [(⟨"OathButtons$History", "writeRow", "()V"⟩, 6), (⟨"OathButtons", "putOnTape", "(I)V"⟩, 14), (⟨"OathButtons$Tokens", "takeLetters", "()V"⟩, 9), (⟨"OathButtons$Tokens", "takeDigits", "()V"⟩, 9), (⟨"OathButtons$Reader", "readMan", "()Z"⟩, 7), (⟨"OathButtons$Reader", "opens", "(II)Z"⟩, 7), (⟨"OathButtons$Reader", "isNewName", "([JI)Z"⟩, 7), (⟨"OathButtons$Reader", "find", "([JI)I"⟩, 7), (⟨"OathButtons$Reader", "optional", "(IIII)I"⟩, 7), (⟨"OathButtons$Reader", "number", "(II)I"⟩, 7), (⟨"OathButtons$Reader", "readDeed", "()Z"⟩, 7), (⟨"OathButtons$Reader", "readButton", "()Z"⟩, 7), (⟨"OathButtons$Reader", "readWhose", "(I)Z"⟩, 7), (⟨"OathButtons$Reader", "oldName", "([JI)I"⟩, 7), (⟨"OathButtons$Reader", "readPromise", "(I)Z"⟩, 7), (⟨"OathButtons$Reader", "readAfter", "(I)Z"⟩, 7)]
theorem lw_r1 : ∀ q ∈ lw_privs_1, lw_okq q := List.forall_mem_cons.mpr ⟨lw_p0, List.forall_mem_cons.mpr ⟨lw_p1, List.forall_mem_cons.mpr ⟨lw_p2, List.forall_mem_cons.mpr ⟨lw_p3, List.forall_mem_cons.mpr ⟨lw_p4, List.forall_mem_cons.mpr ⟨lw_p5, List.forall_mem_cons.mpr ⟨lw_p6, List.forall_mem_cons.mpr ⟨lw_p7, List.forall_mem_cons.mpr ⟨lw_p8, List.forall_mem_cons.mpr ⟨lw_p9, List.forall_mem_cons.mpr ⟨lw_p10, List.forall_mem_cons.mpr ⟨lw_p11, List.forall_mem_cons.mpr ⟨lw_p12, List.forall_mem_cons.mpr ⟨lw_p13, List.forall_mem_cons.mpr ⟨lw_p14, List.forall_mem_cons.mpr ⟨lw_p15, fun _ h => absurd h List.not_mem_nil⟩⟩⟩⟩⟩⟩⟩⟩⟩⟩⟩⟩⟩⟩⟩⟩
theorem lw_p16 : lw_okq (⟨"OathButtons$Reader", "readFriend", "()Z"⟩, 7) := ⟨⟨by decide +kernel, by decide +kernel⟩, List.mem_of_getElem? (i := 182) (by decide +kernel), List.mem_of_getElem? (i := 713) (by decide +kernel), List.mem_of_getElem? (i := 714) (by decide +kernel)⟩
theorem lw_p17 : lw_okq (⟨"OathButtons$Reader", "readWorth", "(II)Z"⟩, 7) := ⟨⟨by decide +kernel, by decide +kernel⟩, List.mem_of_getElem? (i := 182) (by decide +kernel), List.mem_of_getElem? (i := 721) (by decide +kernel), List.mem_of_getElem? (i := 722) (by decide +kernel)⟩
theorem lw_p18 : lw_okq (⟨"OathButtons$Reader", "opensOnce", "()Z"⟩, 7) := ⟨⟨by decide +kernel, by decide +kernel⟩, List.mem_of_getElem? (i := 182) (by decide +kernel), List.mem_of_getElem? (i := 734) (by decide +kernel), List.mem_of_getElem? (i := 735) (by decide +kernel)⟩
theorem lw_p19 : lw_okq (⟨"OathButtons$FormulaReader", "readEither", "(I)Z"⟩, 2) := ⟨⟨by decide +kernel, by decide +kernel⟩, List.mem_of_getElem? (i := 232) (by decide +kernel), List.mem_of_getElem? (i := 742) (by decide +kernel), List.mem_of_getElem? (i := 743) (by decide +kernel)⟩
theorem lw_p20 : lw_okq (⟨"OathButtons$FormulaReader", "readBoth", "(I)Z"⟩, 2) := ⟨⟨by decide +kernel, by decide +kernel⟩, List.mem_of_getElem? (i := 232) (by decide +kernel), List.mem_of_getElem? (i := 746) (by decide +kernel), List.mem_of_getElem? (i := 747) (by decide +kernel)⟩
theorem lw_p21 : lw_okq (⟨"OathButtons$FormulaReader", "readOne", "(I)Z"⟩, 2) := ⟨⟨by decide +kernel, by decide +kernel⟩, List.mem_of_getElem? (i := 232) (by decide +kernel), List.mem_of_getElem? (i := 750) (by decide +kernel), List.mem_of_getElem? (i := 751) (by decide +kernel)⟩
theorem lw_p22 : lw_okq (⟨"OathButtons$FormulaReader", "readNot", "(I)Z"⟩, 2) := ⟨⟨by decide +kernel, by decide +kernel⟩, List.mem_of_getElem? (i := 232) (by decide +kernel), List.mem_of_getElem? (i := 755) (by decide +kernel), List.mem_of_getElem? (i := 756) (by decide +kernel)⟩
theorem lw_p23 : lw_okq (⟨"OathButtons$FormulaReader", "readSum", "(I)Z"⟩, 2) := ⟨⟨by decide +kernel, by decide +kernel⟩, List.mem_of_getElem? (i := 232) (by decide +kernel), List.mem_of_getElem? (i := 765) (by decide +kernel), List.mem_of_getElem? (i := 766) (by decide +kernel)⟩
theorem lw_p24 : lw_okq (⟨"OathButtons$FormulaReader", "readTerm", "(I)Z"⟩, 2) := ⟨⟨by decide +kernel, by decide +kernel⟩, List.mem_of_getElem? (i := 232) (by decide +kernel), List.mem_of_getElem? (i := 769) (by decide +kernel), List.mem_of_getElem? (i := 770) (by decide +kernel)⟩
theorem lw_p25 : lw_okq (⟨"OathButtons$FormulaReader", "readUnit", "(I)Z"⟩, 2) := ⟨⟨by decide +kernel, by decide +kernel⟩, List.mem_of_getElem? (i := 232) (by decide +kernel), List.mem_of_getElem? (i := 773) (by decide +kernel), List.mem_of_getElem? (i := 774) (by decide +kernel)⟩
theorem lw_p26 : lw_okq (⟨"OathButtons$FormulaReader", "readBracket", "(I)Z"⟩, 2) := ⟨⟨by decide +kernel, by decide +kernel⟩, List.mem_of_getElem? (i := 232) (by decide +kernel), List.mem_of_getElem? (i := 778) (by decide +kernel), List.mem_of_getElem? (i := 779) (by decide +kernel)⟩
theorem lw_p27 : lw_okq (⟨"OathButtons$FormulaReader", "inputSign", "()I"⟩, 2) := ⟨⟨by decide +kernel, by decide +kernel⟩, List.mem_of_getElem? (i := 232) (by decide +kernel), List.mem_of_getElem? (i := 787) (by decide +kernel), List.mem_of_getElem? (i := 788) (by decide +kernel)⟩
theorem lw_p28 : lw_okq (⟨"OathButtons$FormulaReader", "isTermSign", "()Z"⟩, 2) := ⟨⟨by decide +kernel, by decide +kernel⟩, List.mem_of_getElem? (i := 232) (by decide +kernel), List.mem_of_getElem? (i := 791) (by decide +kernel), List.mem_of_getElem? (i := 792) (by decide +kernel)⟩
theorem lw_p29 : lw_okq (⟨"OathButtons$Reader", "readHoursOfDay", "()Z"⟩, 7) := ⟨⟨by decide +kernel, by decide +kernel⟩, List.mem_of_getElem? (i := 182) (by decide +kernel), List.mem_of_getElem? (i := 795) (by decide +kernel), List.mem_of_getElem? (i := 796) (by decide +kernel)⟩
theorem lw_p30 : lw_okq (⟨"OathButtons$Reader", "readStorm", "()Z"⟩, 7) := ⟨⟨by decide +kernel, by decide +kernel⟩, List.mem_of_getElem? (i := 182) (by decide +kernel), List.mem_of_getElem? (i := 799) (by decide +kernel), List.mem_of_getElem? (i := 800) (by decide +kernel)⟩
theorem lw_p31 : lw_okq (⟨"OathButtons$Reader", "readDraw", "()Z"⟩, 7) := ⟨⟨by decide +kernel, by decide +kernel⟩, List.mem_of_getElem? (i := 182) (by decide +kernel), List.mem_of_getElem? (i := 803) (by decide +kernel), List.mem_of_getElem? (i := 804) (by decide +kernel)⟩
def lw_privs_2 : List (MethodName × Nat) := [(⟨"OathButtons$Reader", "readFriend", "()Z"⟩, 7), (⟨"OathButtons$Reader", "readWorth", "(II)Z"⟩, 7), (⟨"OathButtons$Reader", "opensOnce", "()Z"⟩, 7), (⟨"OathButtons$FormulaReader", "readEither", "(I)Z"⟩, 2), (⟨"OathButtons$FormulaReader", "readBoth", "(I)Z"⟩, 2), (⟨"OathButtons$FormulaReader", "readOne", "(I)Z"⟩, 2), (⟨"OathButtons$FormulaReader", "readNot", "(I)Z"⟩, 2), (⟨"OathButtons$FormulaReader", "readSum", "(I)Z"⟩, 2), (⟨"OathButtons$FormulaReader", "readTerm", "(I)Z"⟩, 2), (⟨"OathButtons$FormulaReader", "readUnit", "(I)Z"⟩, 2), (⟨"OathButtons$FormulaReader", "readBracket", "(I)Z"⟩, 2), (⟨"OathButtons$FormulaReader", "inputSign", "()I"⟩, 2), (⟨"OathButtons$FormulaReader", "isTermSign", "()Z"⟩, 2), (⟨"OathButtons$Reader", "readHoursOfDay", "()Z"⟩, 7), (⟨"OathButtons$Reader", "readStorm", "()Z"⟩, 7), (⟨"OathButtons$Reader", "readDraw", "()Z"⟩, 7)]
theorem lw_r2 : ∀ q ∈ lw_privs_2, lw_okq q := List.forall_mem_cons.mpr ⟨lw_p16, List.forall_mem_cons.mpr ⟨lw_p17, List.forall_mem_cons.mpr ⟨lw_p18, List.forall_mem_cons.mpr ⟨lw_p19, List.forall_mem_cons.mpr ⟨lw_p20, List.forall_mem_cons.mpr ⟨lw_p21, List.forall_mem_cons.mpr ⟨lw_p22, List.forall_mem_cons.mpr ⟨lw_p23, List.forall_mem_cons.mpr ⟨lw_p24, List.forall_mem_cons.mpr ⟨lw_p25, List.forall_mem_cons.mpr ⟨lw_p26, List.forall_mem_cons.mpr ⟨lw_p27, List.forall_mem_cons.mpr ⟨lw_p28, List.forall_mem_cons.mpr ⟨lw_p29, List.forall_mem_cons.mpr ⟨lw_p30, List.forall_mem_cons.mpr ⟨lw_p31, fun _ h => absurd h List.not_mem_nil⟩⟩⟩⟩⟩⟩⟩⟩⟩⟩⟩⟩⟩⟩⟩⟩
theorem lw_p32 : lw_okq (⟨"OathButtons", "isButtonOn", "(I)Z"⟩, 14) := ⟨⟨by decide +kernel, by decide +kernel⟩, List.mem_of_getElem? (i := 23) (by decide +kernel), List.mem_of_getElem? (i := 896) (by decide +kernel), List.mem_of_getElem? (i := 897) (by decide +kernel)⟩
theorem lw_p33 : lw_okq (⟨"OathButtons$Wear", "push", "(II)I"⟩, 4) := ⟨⟨by decide +kernel, by decide +kernel⟩, List.mem_of_getElem? (i := 37) (by decide +kernel), List.mem_of_getElem? (i := 964) (by decide +kernel), List.mem_of_getElem? (i := 965) (by decide +kernel)⟩
theorem lw_p34 : lw_okq (⟨"OathButtons$History", "readRow", "()V"⟩, 6) := ⟨⟨by decide +kernel, by decide +kernel⟩, List.mem_of_getElem? (i := 284) (by decide +kernel), List.mem_of_getElem? (i := 988) (by decide +kernel), List.mem_of_getElem? (i := 989) (by decide +kernel)⟩
theorem lw_p35 : lw_okq (⟨"OathButtons$Orders", "wonBy", "(II)I"⟩, 12) := ⟨⟨by decide +kernel, by decide +kernel⟩, List.mem_of_getElem? (i := 311) (by decide +kernel), List.mem_of_getElem? (i := 1013) (by decide +kernel), List.mem_of_getElem? (i := 1014) (by decide +kernel)⟩
theorem lw_p36 : lw_okq (⟨"OathButtons$Orders", "keptBy", "(II)I"⟩, 12) := ⟨⟨by decide +kernel, by decide +kernel⟩, List.mem_of_getElem? (i := 311) (by decide +kernel), List.mem_of_getElem? (i := 1017) (by decide +kernel), List.mem_of_getElem? (i := 1018) (by decide +kernel)⟩
theorem lw_p37 : lw_okq (⟨"OathButtons$Orders", "firstBestDeed", "(I)I"⟩, 12) := ⟨⟨by decide +kernel, by decide +kernel⟩, List.mem_of_getElem? (i := 311) (by decide +kernel), List.mem_of_getElem? (i := 1032) (by decide +kernel), List.mem_of_getElem? (i := 1033) (by decide +kernel)⟩
theorem lw_p38 : lw_okq (⟨"OathButtons", "layOut", "([II)V"⟩, 14) := ⟨⟨by decide +kernel, by decide +kernel⟩, List.mem_of_getElem? (i := 23) (by decide +kernel), List.mem_of_getElem? (i := 1036) (by decide +kernel), List.mem_of_getElem? (i := 1037) (by decide +kernel)⟩
theorem lw_p39 : lw_okq (⟨"OathButtons", "layDown", "(I)V"⟩, 14) := ⟨⟨by decide +kernel, by decide +kernel⟩, List.mem_of_getElem? (i := 23) (by decide +kernel), List.mem_of_getElem? (i := 1040) (by decide +kernel), List.mem_of_getElem? (i := 1041) (by decide +kernel)⟩
theorem lw_p40 : lw_okq (⟨"OathButtons$Orders", "markKeepable", "()V"⟩, 12) := ⟨⟨by decide +kernel, by decide +kernel⟩, List.mem_of_getElem? (i := 311) (by decide +kernel), List.mem_of_getElem? (i := 1067) (by decide +kernel), List.mem_of_getElem? (i := 1068) (by decide +kernel)⟩
theorem lw_p41 : lw_okq (⟨"OathButtons$Orders", "markOrders", "(III)V"⟩, 12) := ⟨⟨by decide +kernel, by decide +kernel⟩, List.mem_of_getElem? (i := 311) (by decide +kernel), List.mem_of_getElem? (i := 1071) (by decide +kernel), List.mem_of_getElem? (i := 1072) (by decide +kernel)⟩
theorem lw_p42 : lw_okq (⟨"OathButtons$Threads", "waysOf", "(II)J"⟩, 2) := ⟨⟨by decide +kernel, by decide +kernel⟩, List.mem_of_getElem? (i := 358) (by decide +kernel), List.mem_of_getElem? (i := 1109) (by decide +kernel), List.mem_of_getElem? (i := 1110) (by decide +kernel)⟩
theorem lw_p43 : lw_okq (⟨"OathButtons$Truces", "pairFrom", "(I)V"⟩, 7) := ⟨⟨by decide +kernel, by decide +kernel⟩, List.mem_of_getElem? (i := 371) (by decide +kernel), List.mem_of_getElem? (i := 1146) (by decide +kernel), List.mem_of_getElem? (i := 1147) (by decide +kernel)⟩
theorem lw_p44 : lw_okq (⟨"OathButtons$Truces", "weigh", "()V"⟩, 7) := ⟨⟨by decide +kernel, by decide +kernel⟩, List.mem_of_getElem? (i := 371) (by decide +kernel), List.mem_of_getElem? (i := 1150) (by decide +kernel), List.mem_of_getElem? (i := 1151) (by decide +kernel)⟩
theorem lw_p45 : lw_okq (⟨"OathButtons$Truces", "has", "(I)I"⟩, 7) := ⟨⟨by decide +kernel, by decide +kernel⟩, List.mem_of_getElem? (i := 371) (by decide +kernel), List.mem_of_getElem? (i := 1154) (by decide +kernel), List.mem_of_getElem? (i := 1155) (by decide +kernel)⟩
theorem lw_p46 : lw_okq (⟨"OathButtons$Truces", "copyWith", "([I)V"⟩, 7) := ⟨⟨by decide +kernel, by decide +kernel⟩, List.mem_of_getElem? (i := 371) (by decide +kernel), List.mem_of_getElem? (i := 1160) (by decide +kernel), List.mem_of_getElem? (i := 1161) (by decide +kernel)⟩
theorem lw_p47 : lw_okq (⟨"OathButtons$Truces", "isCalm", "()Z"⟩, 7) := ⟨⟨by decide +kernel, by decide +kernel⟩, List.mem_of_getElem? (i := 371) (by decide +kernel), List.mem_of_getElem? (i := 1164) (by decide +kernel), List.mem_of_getElem? (i := 1165) (by decide +kernel)⟩
def lw_privs_3 : List (MethodName × Nat) := [(⟨"OathButtons", "isButtonOn", "(I)Z"⟩, 14), (⟨"OathButtons$Wear", "push", "(II)I"⟩, 4), (⟨"OathButtons$History", "readRow", "()V"⟩, 6), (⟨"OathButtons$Orders", "wonBy", "(II)I"⟩, 12), (⟨"OathButtons$Orders", "keptBy", "(II)I"⟩, 12), (⟨"OathButtons$Orders", "firstBestDeed", "(I)I"⟩, 12), (⟨"OathButtons", "layOut", "([II)V"⟩, 14), (⟨"OathButtons", "layDown", "(I)V"⟩, 14), (⟨"OathButtons$Orders", "markKeepable", "()V"⟩, 12), (⟨"OathButtons$Orders", "markOrders", "(III)V"⟩, 12), (⟨"OathButtons$Threads", "waysOf", "(II)J"⟩, 2), (⟨"OathButtons$Truces", "pairFrom", "(I)V"⟩, 7), (⟨"OathButtons$Truces", "weigh", "()V"⟩, 7), (⟨"OathButtons$Truces", "has", "(I)I"⟩, 7), (⟨"OathButtons$Truces", "copyWith", "([I)V"⟩, 7), (⟨"OathButtons$Truces", "isCalm", "()Z"⟩, 7)]
theorem lw_r3 : ∀ q ∈ lw_privs_3, lw_okq q := List.forall_mem_cons.mpr ⟨lw_p32, List.forall_mem_cons.mpr ⟨lw_p33, List.forall_mem_cons.mpr ⟨lw_p34, List.forall_mem_cons.mpr ⟨lw_p35, List.forall_mem_cons.mpr ⟨lw_p36, List.forall_mem_cons.mpr ⟨lw_p37, List.forall_mem_cons.mpr ⟨lw_p38, List.forall_mem_cons.mpr ⟨lw_p39, List.forall_mem_cons.mpr ⟨lw_p40, List.forall_mem_cons.mpr ⟨lw_p41, List.forall_mem_cons.mpr ⟨lw_p42, List.forall_mem_cons.mpr ⟨lw_p43, List.forall_mem_cons.mpr ⟨lw_p44, List.forall_mem_cons.mpr ⟨lw_p45, List.forall_mem_cons.mpr ⟨lw_p46, List.forall_mem_cons.mpr ⟨lw_p47, fun _ h => absurd h List.not_mem_nil⟩⟩⟩⟩⟩⟩⟩⟩⟩⟩⟩⟩⟩⟩⟩⟩
theorem lw_p48 : lw_okq (⟨"OathButtons$Tugs", "fits", "(II)Z"⟩, 8) := ⟨⟨by decide +kernel, by decide +kernel⟩, List.mem_of_getElem? (i := 403) (by decide +kernel), List.mem_of_getElem? (i := 1210) (by decide +kernel), List.mem_of_getElem? (i := 1211) (by decide +kernel)⟩
theorem lw_p49 : lw_okq (⟨"OathButtonsModel", "four", "(I)V"⟩, 97) := ⟨⟨by decide +kernel, by decide +kernel⟩, List.mem_of_getElem? (i := 1249) (by decide +kernel), List.mem_of_getElem? (i := 1551) (by decide +kernel), List.mem_of_getElem? (i := 1552) (by decide +kernel)⟩
theorem lw_p50 : lw_okq (⟨"OathButtonsModel", "readAll", "()V"⟩, 97) := ⟨⟨by decide +kernel, by decide +kernel⟩, List.mem_of_getElem? (i := 1249) (by decide +kernel), List.mem_of_getElem? (i := 1563) (by decide +kernel), List.mem_of_getElem? (i := 1564) (by decide +kernel)⟩
theorem lw_p51 : lw_okq (⟨"OathButtonsModel", "token", "()V"⟩, 97) := ⟨⟨by decide +kernel, by decide +kernel⟩, List.mem_of_getElem? (i := 1249) (by decide +kernel), List.mem_of_getElem? (i := 1567) (by decide +kernel), List.mem_of_getElem? (i := 1568) (by decide +kernel)⟩
theorem lw_p52 : lw_okq (⟨"OathButtonsModel", "here", "(I)I"⟩, 97) := ⟨⟨by decide +kernel, by decide +kernel⟩, List.mem_of_getElem? (i := 1249) (by decide +kernel), List.mem_of_getElem? (i := 1571) (by decide +kernel), List.mem_of_getElem? (i := 1572) (by decide +kernel)⟩
theorem lw_p53 : lw_okq (⟨"OathButtonsModel", "readLine", "()V"⟩, 97) := ⟨⟨by decide +kernel, by decide +kernel⟩, List.mem_of_getElem? (i := 1249) (by decide +kernel), List.mem_of_getElem? (i := 1584) (by decide +kernel), List.mem_of_getElem? (i := 1585) (by decide +kernel)⟩
theorem lw_p54 : lw_okq (⟨"OathButtonsModel", "isWord", "(J)Z"⟩, 97) := ⟨⟨by decide +kernel, by decide +kernel⟩, List.mem_of_getElem? (i := 1249) (by decide +kernel), List.mem_of_getElem? (i := 1589) (by decide +kernel), List.mem_of_getElem? (i := 1590) (by decide +kernel)⟩
theorem lw_p55 : lw_okq (⟨"OathButtonsModel", "readMan", "()V"⟩, 97) := ⟨⟨by decide +kernel, by decide +kernel⟩, List.mem_of_getElem? (i := 1249) (by decide +kernel), List.mem_of_getElem? (i := 1593) (by decide +kernel), List.mem_of_getElem? (i := 1594) (by decide +kernel)⟩
theorem lw_p56 : lw_okq (⟨"OathButtonsModel", "newName", "(II)V"⟩, 97) := ⟨⟨by decide +kernel, by decide +kernel⟩, List.mem_of_getElem? (i := 1249) (by decide +kernel), List.mem_of_getElem? (i := 1597) (by decide +kernel), List.mem_of_getElem? (i := 1598) (by decide +kernel)⟩
theorem lw_p57 : lw_okq (⟨"OathButtonsModel", "isName", "()Z"⟩, 97) := ⟨⟨by decide +kernel, by decide +kernel⟩, List.mem_of_getElem? (i := 1249) (by decide +kernel), List.mem_of_getElem? (i := 1601) (by decide +kernel), List.mem_of_getElem? (i := 1602) (by decide +kernel)⟩
theorem lw_p58 : lw_okq (⟨"OathButtonsModel", "isOwn", "()Z"⟩, 97) := ⟨⟨by decide +kernel, by decide +kernel⟩, List.mem_of_getElem? (i := 1249) (by decide +kernel), List.mem_of_getElem? (i := 1605) (by decide +kernel), List.mem_of_getElem? (i := 1606) (by decide +kernel)⟩
theorem lw_p59 : lw_okq (⟨"OathButtonsModel", "wrong", "(I)V"⟩, 97) := ⟨⟨by decide +kernel, by decide +kernel⟩, List.mem_of_getElem? (i := 1249) (by decide +kernel), List.mem_of_getElem? (i := 1630) (by decide +kernel), List.mem_of_getElem? (i := 1631) (by decide +kernel)⟩
theorem lw_p60 : lw_okq (⟨"OathButtonsModel", "find", "(II)I"⟩, 97) := ⟨⟨by decide +kernel, by decide +kernel⟩, List.mem_of_getElem? (i := 1249) (by decide +kernel), List.mem_of_getElem? (i := 1634) (by decide +kernel), List.mem_of_getElem? (i := 1635) (by decide +kernel)⟩
theorem lw_p61 : lw_okq (⟨"OathButtonsModel", "option", "(JIII)I"⟩, 97) := ⟨⟨by decide +kernel, by decide +kernel⟩, List.mem_of_getElem? (i := 1249) (by decide +kernel), List.mem_of_getElem? (i := 1638) (by decide +kernel), List.mem_of_getElem? (i := 1639) (by decide +kernel)⟩
theorem lw_p62 : lw_okq (⟨"OathButtonsModel", "told", "(JII)I"⟩, 97) := ⟨⟨by decide +kernel, by decide +kernel⟩, List.mem_of_getElem? (i := 1249) (by decide +kernel), List.mem_of_getElem? (i := 1642) (by decide +kernel), List.mem_of_getElem? (i := 1643) (by decide +kernel)⟩
theorem lw_p63 : lw_okq (⟨"OathButtonsModel", "want", "(J)V"⟩, 97) := ⟨⟨by decide +kernel, by decide +kernel⟩, List.mem_of_getElem? (i := 1249) (by decide +kernel), List.mem_of_getElem? (i := 1646) (by decide +kernel), List.mem_of_getElem? (i := 1647) (by decide +kernel)⟩
def lw_privs_4 : List (MethodName × Nat) := [(⟨"OathButtons$Tugs", "fits", "(II)Z"⟩, 8), (⟨"OathButtonsModel", "four", "(I)V"⟩, 97), (⟨"OathButtonsModel", "readAll", "()V"⟩, 97), (⟨"OathButtonsModel", "token", "()V"⟩, 97), (⟨"OathButtonsModel", "here", "(I)I"⟩, 97), (⟨"OathButtonsModel", "readLine", "()V"⟩, 97), (⟨"OathButtonsModel", "isWord", "(J)Z"⟩, 97), (⟨"OathButtonsModel", "readMan", "()V"⟩, 97), (⟨"OathButtonsModel", "newName", "(II)V"⟩, 97), (⟨"OathButtonsModel", "isName", "()Z"⟩, 97), (⟨"OathButtonsModel", "isOwn", "()Z"⟩, 97), (⟨"OathButtonsModel", "wrong", "(I)V"⟩, 97), (⟨"OathButtonsModel", "find", "(II)I"⟩, 97), (⟨"OathButtonsModel", "option", "(JIII)I"⟩, 97), (⟨"OathButtonsModel", "told", "(JII)I"⟩, 97), (⟨"OathButtonsModel", "want", "(J)V"⟩, 97)]
theorem lw_r4 : ∀ q ∈ lw_privs_4, lw_okq q := List.forall_mem_cons.mpr ⟨lw_p48, List.forall_mem_cons.mpr ⟨lw_p49, List.forall_mem_cons.mpr ⟨lw_p50, List.forall_mem_cons.mpr ⟨lw_p51, List.forall_mem_cons.mpr ⟨lw_p52, List.forall_mem_cons.mpr ⟨lw_p53, List.forall_mem_cons.mpr ⟨lw_p54, List.forall_mem_cons.mpr ⟨lw_p55, List.forall_mem_cons.mpr ⟨lw_p56, List.forall_mem_cons.mpr ⟨lw_p57, List.forall_mem_cons.mpr ⟨lw_p58, List.forall_mem_cons.mpr ⟨lw_p59, List.forall_mem_cons.mpr ⟨lw_p60, List.forall_mem_cons.mpr ⟨lw_p61, List.forall_mem_cons.mpr ⟨lw_p62, List.forall_mem_cons.mpr ⟨lw_p63, fun _ h => absurd h List.not_mem_nil⟩⟩⟩⟩⟩⟩⟩⟩⟩⟩⟩⟩⟩⟩⟩⟩
theorem lw_p64 : lw_okq (⟨"OathButtonsModel", "toldNumber", "(II)I"⟩, 97) := ⟨⟨by decide +kernel, by decide +kernel⟩, List.mem_of_getElem? (i := 1249) (by decide +kernel), List.mem_of_getElem? (i := 1650) (by decide +kernel), List.mem_of_getElem? (i := 1651) (by decide +kernel)⟩
theorem lw_p65 : lw_okq (⟨"OathButtonsModel", "readDeed", "()V"⟩, 97) := ⟨⟨by decide +kernel, by decide +kernel⟩, List.mem_of_getElem? (i := 1249) (by decide +kernel), List.mem_of_getElem? (i := 1657) (by decide +kernel), List.mem_of_getElem? (i := 1658) (by decide +kernel)⟩
theorem lw_p66 : lw_okq (⟨"OathButtonsModel", "readButton", "()V"⟩, 97) := ⟨⟨by decide +kernel, by decide +kernel⟩, List.mem_of_getElem? (i := 1249) (by decide +kernel), List.mem_of_getElem? (i := 1661) (by decide +kernel), List.mem_of_getElem? (i := 1662) (by decide +kernel)⟩
theorem lw_p67 : lw_okq (⟨"OathButtonsModel", "oldName", "(II)I"⟩, 97) := ⟨⟨by decide +kernel, by decide +kernel⟩, List.mem_of_getElem? (i := 1249) (by decide +kernel), List.mem_of_getElem? (i := 1665) (by decide +kernel), List.mem_of_getElem? (i := 1666) (by decide +kernel)⟩
theorem lw_p68 : lw_okq (⟨"OathButtonsModel", "readFriend", "()V"⟩, 97) := ⟨⟨by decide +kernel, by decide +kernel⟩, List.mem_of_getElem? (i := 1249) (by decide +kernel), List.mem_of_getElem? (i := 1669) (by decide +kernel), List.mem_of_getElem? (i := 1670) (by decide +kernel)⟩
theorem lw_p69 : lw_okq (⟨"OathButtonsModel", "readWear", "()V"⟩, 97) := ⟨⟨by decide +kernel, by decide +kernel⟩, List.mem_of_getElem? (i := 1249) (by decide +kernel), List.mem_of_getElem? (i := 1673) (by decide +kernel), List.mem_of_getElem? (i := 1674) (by decide +kernel)⟩
theorem lw_p70 : lw_okq (⟨"OathButtonsModel", "unit", "()V"⟩, 97) := ⟨⟨by decide +kernel, by decide +kernel⟩, List.mem_of_getElem? (i := 1249) (by decide +kernel), List.mem_of_getElem? (i := 1677) (by decide +kernel), List.mem_of_getElem? (i := 1678) (by decide +kernel)⟩
theorem lw_p71 : lw_okq (⟨"OathButtonsModel", "mayNot", "()Z"⟩, 97) := ⟨⟨by decide +kernel, by decide +kernel⟩, List.mem_of_getElem? (i := 1249) (by decide +kernel), List.mem_of_getElem? (i := 1681) (by decide +kernel), List.mem_of_getElem? (i := 1682) (by decide +kernel)⟩
theorem lw_p72 : lw_okq (⟨"OathButtonsModel", "openUp", "(I)V"⟩, 97) := ⟨⟨by decide +kernel, by decide +kernel⟩, List.mem_of_getElem? (i := 1249) (by decide +kernel), List.mem_of_getElem? (i := 1688) (by decide +kernel), List.mem_of_getElem? (i := 1689) (by decide +kernel)⟩
theorem lw_p73 : lw_okq (⟨"OathButtonsModel", "isFull", "()Z"⟩, 97) := ⟨⟨by decide +kernel, by decide +kernel⟩, List.mem_of_getElem? (i := 1249) (by decide +kernel), List.mem_of_getElem? (i := 1692) (by decide +kernel), List.mem_of_getElem? (i := 1693) (by decide +kernel)⟩
theorem lw_p74 : lw_okq (⟨"OathButtonsModel", "countUnit", "()V"⟩, 97) := ⟨⟨by decide +kernel, by decide +kernel⟩, List.mem_of_getElem? (i := 1249) (by decide +kernel), List.mem_of_getElem? (i := 1696) (by decide +kernel), List.mem_of_getElem? (i := 1697) (by decide +kernel)⟩
theorem lw_p75 : lw_okq (⟨"OathButtonsModel", "asked", "()I"⟩, 97) := ⟨⟨by decide +kernel, by decide +kernel⟩, List.mem_of_getElem? (i := 1249) (by decide +kernel), List.mem_of_getElem? (i := 1700) (by decide +kernel), List.mem_of_getElem? (i := 1701) (by decide +kernel)⟩
theorem lw_p76 : lw_okq (⟨"OathButtonsModel", "add", "(II)V"⟩, 97) := ⟨⟨by decide +kernel, by decide +kernel⟩, List.mem_of_getElem? (i := 1249) (by decide +kernel), List.mem_of_getElem? (i := 1704) (by decide +kernel), List.mem_of_getElem? (i := 1705) (by decide +kernel)⟩
theorem lw_p77 : lw_okq (⟨"OathButtonsModel", "sign", "()I"⟩, 97) := ⟨⟨by decide +kernel, by decide +kernel⟩, List.mem_of_getElem? (i := 1249) (by decide +kernel), List.mem_of_getElem? (i := 1708) (by decide +kernel), List.mem_of_getElem? (i := 1709) (by decide +kernel)⟩
theorem lw_p78 : lw_okq (⟨"OathButtonsModel", "hasBracket", "()Z"⟩, 97) := ⟨⟨by decide +kernel, by decide +kernel⟩, List.mem_of_getElem? (i := 1249) (by decide +kernel), List.mem_of_getElem? (i := 1712) (by decide +kernel), List.mem_of_getElem? (i := 1713) (by decide +kernel)⟩
theorem lw_p79 : lw_okq (⟨"OathButtonsModel", "close", "(I)V"⟩, 97) := ⟨⟨by decide +kernel, by decide +kernel⟩, List.mem_of_getElem? (i := 1249) (by decide +kernel), List.mem_of_getElem? (i := 1716) (by decide +kernel), List.mem_of_getElem? (i := 1717) (by decide +kernel)⟩
def lw_privs_5 : List (MethodName × Nat) := [(⟨"OathButtonsModel", "toldNumber", "(II)I"⟩, 97), (⟨"OathButtonsModel", "readDeed", "()V"⟩, 97), (⟨"OathButtonsModel", "readButton", "()V"⟩, 97), (⟨"OathButtonsModel", "oldName", "(II)I"⟩, 97), (⟨"OathButtonsModel", "readFriend", "()V"⟩, 97), (⟨"OathButtonsModel", "readWear", "()V"⟩, 97), (⟨"OathButtonsModel", "unit", "()V"⟩, 97), (⟨"OathButtonsModel", "mayNot", "()Z"⟩, 97), (⟨"OathButtonsModel", "openUp", "(I)V"⟩, 97), (⟨"OathButtonsModel", "isFull", "()Z"⟩, 97), (⟨"OathButtonsModel", "countUnit", "()V"⟩, 97), (⟨"OathButtonsModel", "asked", "()I"⟩, 97), (⟨"OathButtonsModel", "add", "(II)V"⟩, 97), (⟨"OathButtonsModel", "sign", "()I"⟩, 97), (⟨"OathButtonsModel", "hasBracket", "()Z"⟩, 97), (⟨"OathButtonsModel", "close", "(I)V"⟩, 97)]
theorem lw_r5 : ∀ q ∈ lw_privs_5, lw_okq q := List.forall_mem_cons.mpr ⟨lw_p64, List.forall_mem_cons.mpr ⟨lw_p65, List.forall_mem_cons.mpr ⟨lw_p66, List.forall_mem_cons.mpr ⟨lw_p67, List.forall_mem_cons.mpr ⟨lw_p68, List.forall_mem_cons.mpr ⟨lw_p69, List.forall_mem_cons.mpr ⟨lw_p70, List.forall_mem_cons.mpr ⟨lw_p71, List.forall_mem_cons.mpr ⟨lw_p72, List.forall_mem_cons.mpr ⟨lw_p73, List.forall_mem_cons.mpr ⟨lw_p74, List.forall_mem_cons.mpr ⟨lw_p75, List.forall_mem_cons.mpr ⟨lw_p76, List.forall_mem_cons.mpr ⟨lw_p77, List.forall_mem_cons.mpr ⟨lw_p78, List.forall_mem_cons.mpr ⟨lw_p79, fun _ h => absurd h List.not_mem_nil⟩⟩⟩⟩⟩⟩⟩⟩⟩⟩⟩⟩⟩⟩⟩⟩
theorem lw_p80 : lw_okq (⟨"OathButtonsModel", "hasRelation", "()Z"⟩, 97) := ⟨⟨by decide +kernel, by decide +kernel⟩, List.mem_of_getElem? (i := 1249) (by decide +kernel), List.mem_of_getElem? (i := 1720) (by decide +kernel), List.mem_of_getElem? (i := 1721) (by decide +kernel)⟩
theorem lw_p81 : lw_okq (⟨"OathButtonsModel", "isButton", "(I)Z"⟩, 97) := ⟨⟨by decide +kernel, by decide +kernel⟩, List.mem_of_getElem? (i := 1249) (by decide +kernel), List.mem_of_getElem? (i := 1732) (by decide +kernel), List.mem_of_getElem? (i := 1733) (by decide +kernel)⟩
theorem lw_p82 : lw_okq (⟨"OathButtonsModel", "isMan", "(I)Z"⟩, 97) := ⟨⟨by decide +kernel, by decide +kernel⟩, List.mem_of_getElem? (i := 1249) (by decide +kernel), List.mem_of_getElem? (i := 1743) (by decide +kernel), List.mem_of_getElem? (i := 1744) (by decide +kernel)⟩
theorem lw_p83 : lw_okq (⟨"OathButtonsModel", "isDeed", "(I)Z"⟩, 97) := ⟨⟨by decide +kernel, by decide +kernel⟩, List.mem_of_getElem? (i := 1249) (by decide +kernel), List.mem_of_getElem? (i := 1756) (by decide +kernel), List.mem_of_getElem? (i := 1757) (by decide +kernel)⟩
theorem lw_p84 : lw_okq (⟨"OathButtonsModel", "isOn", "(I)Z"⟩, 97) := ⟨⟨by decide +kernel, by decide +kernel⟩, List.mem_of_getElem? (i := 1249) (by decide +kernel), List.mem_of_getElem? (i := 1760) (by decide +kernel), List.mem_of_getElem? (i := 1761) (by decide +kernel)⟩
theorem lw_p85 : lw_okq (⟨"OathButtonsModel", "act", "()V"⟩, 97) := ⟨⟨by decide +kernel, by decide +kernel⟩, List.mem_of_getElem? (i := 1249) (by decide +kernel), List.mem_of_getElem? (i := 1772) (by decide +kernel), List.mem_of_getElem? (i := 1773) (by decide +kernel)⟩
theorem lw_p86 : lw_okq (⟨"OathButtonsModel", "load", "()V"⟩, 97) := ⟨⟨by decide +kernel, by decide +kernel⟩, List.mem_of_getElem? (i := 1249) (by decide +kernel), List.mem_of_getElem? (i := 1792) (by decide +kernel), List.mem_of_getElem? (i := 1793) (by decide +kernel)⟩
theorem lw_p87 : lw_okq (⟨"OathButtonsModel", "goDay", "()I"⟩, 97) := ⟨⟨by decide +kernel, by decide +kernel⟩, List.mem_of_getElem? (i := 1249) (by decide +kernel), List.mem_of_getElem? (i := 1796) (by decide +kernel), List.mem_of_getElem? (i := 1797) (by decide +kernel)⟩
theorem lw_p88 : lw_okq (⟨"OathButtonsModel", "wearOf", "(IIII)I"⟩, 97) := ⟨⟨by decide +kernel, by decide +kernel⟩, List.mem_of_getElem? (i := 1249) (by decide +kernel), List.mem_of_getElem? (i := 1800) (by decide +kernel), List.mem_of_getElem? (i := 1801) (by decide +kernel)⟩
theorem lw_p89 : lw_okq (⟨"OathButtonsModel", "exchange", "(I)V"⟩, 97) := ⟨⟨by decide +kernel, by decide +kernel⟩, List.mem_of_getElem? (i := 1249) (by decide +kernel), List.mem_of_getElem? (i := 1811) (by decide +kernel), List.mem_of_getElem? (i := 1812) (by decide +kernel)⟩
theorem lw_p90 : lw_okq (⟨"OathButtonsModel", "layBest", "(II)V"⟩, 97) := ⟨⟨by decide +kernel, by decide +kernel⟩, List.mem_of_getElem? (i := 1249) (by decide +kernel), List.mem_of_getElem? (i := 1823) (by decide +kernel), List.mem_of_getElem? (i := 1824) (by decide +kernel)⟩
theorem lw_p91 : lw_okq (⟨"OathButtonsModel", "beginOrder", "()V"⟩, 97) := ⟨⟨by decide +kernel, by decide +kernel⟩, List.mem_of_getElem? (i := 1249) (by decide +kernel), List.mem_of_getElem? (i := 1827) (by decide +kernel), List.mem_of_getElem? (i := 1828) (by decide +kernel)⟩
theorem lw_p92 : lw_okq (⟨"OathButtonsModel", "nextOrder", "(I)Z"⟩, 97) := ⟨⟨by decide +kernel, by decide +kernel⟩, List.mem_of_getElem? (i := 1249) (by decide +kernel), List.mem_of_getElem? (i := 1831) (by decide +kernel), List.mem_of_getElem? (i := 1832) (by decide +kernel)⟩
theorem lw_p93 : lw_okq (⟨"OathButtonsModel", "canPut", "(II)Z"⟩, 97) := ⟨⟨by decide +kernel, by decide +kernel⟩, List.mem_of_getElem? (i := 1249) (by decide +kernel), List.mem_of_getElem? (i := 1835) (by decide +kernel), List.mem_of_getElem? (i := 1836) (by decide +kernel)⟩
theorem lw_p94 : lw_okq (⟨"OathButtonsModel", "doneOn", "(I)I"⟩, 97) := ⟨⟨by decide +kernel, by decide +kernel⟩, List.mem_of_getElem? (i := 1249) (by decide +kernel), List.mem_of_getElem? (i := 1839) (by decide +kernel), List.mem_of_getElem? (i := 1840) (by decide +kernel)⟩
theorem lw_p95 : lw_okq (⟨"OathButtonsModel", "isForbidden", "(III)Z"⟩, 97) := ⟨⟨by decide +kernel, by decide +kernel⟩, List.mem_of_getElem? (i := 1249) (by decide +kernel), List.mem_of_getElem? (i := 1843) (by decide +kernel), List.mem_of_getElem? (i := 1844) (by decide +kernel)⟩
def lw_privs_6 : List (MethodName × Nat) := [(⟨"OathButtonsModel", "hasRelation", "()Z"⟩, 97), (⟨"OathButtonsModel", "isButton", "(I)Z"⟩, 97), (⟨"OathButtonsModel", "isMan", "(I)Z"⟩, 97), (⟨"OathButtonsModel", "isDeed", "(I)Z"⟩, 97), (⟨"OathButtonsModel", "isOn", "(I)Z"⟩, 97), (⟨"OathButtonsModel", "act", "()V"⟩, 97), (⟨"OathButtonsModel", "load", "()V"⟩, 97), (⟨"OathButtonsModel", "goDay", "()I"⟩, 97), (⟨"OathButtonsModel", "wearOf", "(IIII)I"⟩, 97), (⟨"OathButtonsModel", "exchange", "(I)V"⟩, 97), (⟨"OathButtonsModel", "layBest", "(II)V"⟩, 97), (⟨"OathButtonsModel", "beginOrder", "()V"⟩, 97), (⟨"OathButtonsModel", "nextOrder", "(I)Z"⟩, 97), (⟨"OathButtonsModel", "canPut", "(II)Z"⟩, 97), (⟨"OathButtonsModel", "doneOn", "(I)I"⟩, 97), (⟨"OathButtonsModel", "isForbidden", "(III)Z"⟩, 97)]
theorem lw_r6 : ∀ q ∈ lw_privs_6, lw_okq q := List.forall_mem_cons.mpr ⟨lw_p80, List.forall_mem_cons.mpr ⟨lw_p81, List.forall_mem_cons.mpr ⟨lw_p82, List.forall_mem_cons.mpr ⟨lw_p83, List.forall_mem_cons.mpr ⟨lw_p84, List.forall_mem_cons.mpr ⟨lw_p85, List.forall_mem_cons.mpr ⟨lw_p86, List.forall_mem_cons.mpr ⟨lw_p87, List.forall_mem_cons.mpr ⟨lw_p88, List.forall_mem_cons.mpr ⟨lw_p89, List.forall_mem_cons.mpr ⟨lw_p90, List.forall_mem_cons.mpr ⟨lw_p91, List.forall_mem_cons.mpr ⟨lw_p92, List.forall_mem_cons.mpr ⟨lw_p93, List.forall_mem_cons.mpr ⟨lw_p94, List.forall_mem_cons.mpr ⟨lw_p95, fun _ h => absurd h List.not_mem_nil⟩⟩⟩⟩⟩⟩⟩⟩⟩⟩⟩⟩⟩⟩⟩⟩
theorem lw_p96 : lw_okq (⟨"OathButtonsModel", "keptOf", "(III)I"⟩, 97) := ⟨⟨by decide +kernel, by decide +kernel⟩, List.mem_of_getElem? (i := 1249) (by decide +kernel), List.mem_of_getElem? (i := 1847) (by decide +kernel), List.mem_of_getElem? (i := 1848) (by decide +kernel)⟩
theorem lw_p97 : lw_okq (⟨"OathButtonsModel", "isBetter", "()Z"⟩, 97) := ⟨⟨by decide +kernel, by decide +kernel⟩, List.mem_of_getElem? (i := 1249) (by decide +kernel), List.mem_of_getElem? (i := 1851) (by decide +kernel), List.mem_of_getElem? (i := 1852) (by decide +kernel)⟩
theorem lw_p98 : lw_okq (⟨"OathButtonsModel", "isAhead", "()Z"⟩, 97) := ⟨⟨by decide +kernel, by decide +kernel⟩, List.mem_of_getElem? (i := 1249) (by decide +kernel), List.mem_of_getElem? (i := 1858) (by decide +kernel), List.mem_of_getElem? (i := 1859) (by decide +kernel)⟩
theorem lw_p99 : lw_okq (⟨"OathButtonsModel", "layCanKeep", "(I)V"⟩, 97) := ⟨⟨by decide +kernel, by decide +kernel⟩, List.mem_of_getElem? (i := 1249) (by decide +kernel), List.mem_of_getElem? (i := 1874) (by decide +kernel), List.mem_of_getElem? (i := 1875) (by decide +kernel)⟩
theorem lw_p100 : lw_okq (⟨"OathButtonsModel", "leaving", "(II)I"⟩, 97) := ⟨⟨by decide +kernel, by decide +kernel⟩, List.mem_of_getElem? (i := 1249) (by decide +kernel), List.mem_of_getElem? (i := 1882) (by decide +kernel), List.mem_of_getElem? (i := 1883) (by decide +kernel)⟩
theorem lw_p101 : lw_okq (⟨"OathButtonsModel", "threadSame", "(III)I"⟩, 97) := ⟨⟨by decide +kernel, by decide +kernel⟩, List.mem_of_getElem? (i := 1249) (by decide +kernel), List.mem_of_getElem? (i := 1894) (by decide +kernel), List.mem_of_getElem? (i := 1895) (by decide +kernel)⟩
theorem lw_p102 : lw_okq (⟨"OathButtonsModel", "threadBy", "(III)I"⟩, 97) := ⟨⟨by decide +kernel, by decide +kernel⟩, List.mem_of_getElem? (i := 1249) (by decide +kernel), List.mem_of_getElem? (i := 1904) (by decide +kernel), List.mem_of_getElem? (i := 1905) (by decide +kernel)⟩
theorem lw_p103 : lw_okq (⟨"OathButtonsModel", "daysOf", "(I)I"⟩, 97) := ⟨⟨by decide +kernel, by decide +kernel⟩, List.mem_of_getElem? (i := 1249) (by decide +kernel), List.mem_of_getElem? (i := 1916) (by decide +kernel), List.mem_of_getElem? (i := 1917) (by decide +kernel)⟩
theorem lw_p104 : lw_okq (⟨"OathButtonsModel", "rowsOf", "()I"⟩, 97) := ⟨⟨by decide +kernel, by decide +kernel⟩, List.mem_of_getElem? (i := 1249) (by decide +kernel), List.mem_of_getElem? (i := 1928) (by decide +kernel), List.mem_of_getElem? (i := 1929) (by decide +kernel)⟩
theorem lw_p105 : lw_okq (⟨"OathButtonsModel", "layTwos", "(I)Z"⟩, 97) := ⟨⟨by decide +kernel, by decide +kernel⟩, List.mem_of_getElem? (i := 1249) (by decide +kernel), List.mem_of_getElem? (i := 1932) (by decide +kernel), List.mem_of_getElem? (i := 1933) (by decide +kernel)⟩
theorem lw_p106 : lw_okq (⟨"OathButtonsModel", "isTold", "(II)Z"⟩, 97) := ⟨⟨by decide +kernel, by decide +kernel⟩, List.mem_of_getElem? (i := 1249) (by decide +kernel), List.mem_of_getElem? (i := 1936) (by decide +kernel), List.mem_of_getElem? (i := 1937) (by decide +kernel)⟩
theorem lw_p107 : lw_okq (⟨"OathButtonsModel", "has", "(I)I"⟩, 97) := ⟨⟨by decide +kernel, by decide +kernel⟩, List.mem_of_getElem? (i := 1249) (by decide +kernel), List.mem_of_getElem? (i := 1940) (by decide +kernel), List.mem_of_getElem? (i := 1941) (by decide +kernel)⟩
theorem lw_p108 : lw_okq (⟨"OathButtonsModel", "putTwos", "()V"⟩, 97) := ⟨⟨by decide +kernel, by decide +kernel⟩, List.mem_of_getElem? (i := 1249) (by decide +kernel), List.mem_of_getElem? (i := 1944) (by decide +kernel), List.mem_of_getElem? (i := 1945) (by decide +kernel)⟩
theorem lw_p109 : lw_okq (⟨"OathButtonsModel", "isCalm", "()Z"⟩, 97) := ⟨⟨by decide +kernel, by decide +kernel⟩, List.mem_of_getElem? (i := 1249) (by decide +kernel), List.mem_of_getElem? (i := 1952) (by decide +kernel), List.mem_of_getElem? (i := 1953) (by decide +kernel)⟩
theorem lw_p110 : lw_okq (⟨"OathButtonsModel", "swears", "(II)Z"⟩, 97) := ⟨⟨by decide +kernel, by decide +kernel⟩, List.mem_of_getElem? (i := 1249) (by decide +kernel), List.mem_of_getElem? (i := 1981) (by decide +kernel), List.mem_of_getElem? (i := 1982) (by decide +kernel)⟩
theorem lw_p111 : lw_okq (⟨"OathButtonsModel", "markOf", "(II)I"⟩, 97) := ⟨⟨by decide +kernel, by decide +kernel⟩, List.mem_of_getElem? (i := 1249) (by decide +kernel), List.mem_of_getElem? (i := 1985) (by decide +kernel), List.mem_of_getElem? (i := 1986) (by decide +kernel)⟩
def lw_privs_7 : List (MethodName × Nat) := [(⟨"OathButtonsModel", "keptOf", "(III)I"⟩, 97), (⟨"OathButtonsModel", "isBetter", "()Z"⟩, 97), (⟨"OathButtonsModel", "isAhead", "()Z"⟩, 97), (⟨"OathButtonsModel", "layCanKeep", "(I)V"⟩, 97), (⟨"OathButtonsModel", "leaving", "(II)I"⟩, 97), (⟨"OathButtonsModel", "threadSame", "(III)I"⟩, 97), (⟨"OathButtonsModel", "threadBy", "(III)I"⟩, 97), (⟨"OathButtonsModel", "daysOf", "(I)I"⟩, 97), (⟨"OathButtonsModel", "rowsOf", "()I"⟩, 97), (⟨"OathButtonsModel", "layTwos", "(I)Z"⟩, 97), (⟨"OathButtonsModel", "isTold", "(II)Z"⟩, 97), (⟨"OathButtonsModel", "has", "(I)I"⟩, 97), (⟨"OathButtonsModel", "putTwos", "()V"⟩, 97), (⟨"OathButtonsModel", "isCalm", "()Z"⟩, 97), (⟨"OathButtonsModel", "swears", "(II)Z"⟩, 97), (⟨"OathButtonsModel", "markOf", "(II)I"⟩, 97)]
theorem lw_r7 : ∀ q ∈ lw_privs_7, lw_okq q := List.forall_mem_cons.mpr ⟨lw_p96, List.forall_mem_cons.mpr ⟨lw_p97, List.forall_mem_cons.mpr ⟨lw_p98, List.forall_mem_cons.mpr ⟨lw_p99, List.forall_mem_cons.mpr ⟨lw_p100, List.forall_mem_cons.mpr ⟨lw_p101, List.forall_mem_cons.mpr ⟨lw_p102, List.forall_mem_cons.mpr ⟨lw_p103, List.forall_mem_cons.mpr ⟨lw_p104, List.forall_mem_cons.mpr ⟨lw_p105, List.forall_mem_cons.mpr ⟨lw_p106, List.forall_mem_cons.mpr ⟨lw_p107, List.forall_mem_cons.mpr ⟨lw_p108, List.forall_mem_cons.mpr ⟨lw_p109, List.forall_mem_cons.mpr ⟨lw_p110, List.forall_mem_cons.mpr ⟨lw_p111, fun _ h => absurd h List.not_mem_nil⟩⟩⟩⟩⟩⟩⟩⟩⟩⟩⟩⟩⟩⟩⟩⟩
theorem lw_p112 : lw_okq (⟨"OathButtonsModel", "mostLeft", "(II)I"⟩, 97) := ⟨⟨by decide +kernel, by decide +kernel⟩, List.mem_of_getElem? (i := 1249) (by decide +kernel), List.mem_of_getElem? (i := 1994) (by decide +kernel), List.mem_of_getElem? (i := 1995) (by decide +kernel)⟩
def lw_privs_8 : List (MethodName × Nat) := [(⟨"OathButtonsModel", "mostLeft", "(II)I"⟩, 97)]
theorem lw_r8 : ∀ q ∈ lw_privs_8, lw_okq q := List.forall_mem_cons.mpr ⟨lw_p112, fun _ h => absurd h List.not_mem_nil⟩
def lw_privs : List (MethodName × Nat) := lw_privs_1 ++ (lw_privs_2 ++ (lw_privs_3 ++ (lw_privs_4 ++ (lw_privs_5 ++ (lw_privs_6 ++ (lw_privs_7 ++ (lw_privs_8)))))))
def lw_tbl : List Cond := k2_sels lw_privs ++ tables_1
theorem lw_privs_ok : ∀ q ∈ lw_privs, lw_okq q := by
  show ∀ q ∈ lw_privs_1 ++ (lw_privs_2 ++ (lw_privs_3 ++ (lw_privs_4 ++ (lw_privs_5 ++ (lw_privs_6 ++ (lw_privs_7 ++ (lw_privs_8))))))), lw_okq q
  exact List.forall_mem_append.mpr ⟨lw_r1, List.forall_mem_append.mpr ⟨lw_r2, List.forall_mem_append.mpr ⟨lw_r3, List.forall_mem_append.mpr ⟨lw_r4, List.forall_mem_append.mpr ⟨lw_r5, List.forall_mem_append.mpr ⟨lw_r6, List.forall_mem_append.mpr ⟨lw_r7, lw_r8⟩⟩⟩⟩⟩⟩⟩
end
section
def RX0 : String := "OathButtons$Coats"
def TX0 : u_T := fun k => match k with
  | 0 => ("OathButtons$Coats", "told", "LOathButtons$Regiment;", true)
  | _ => ("OathButtons$Coats", "now", "[I", true)
def tyX0 : Nat → FieldType := fun k => match k with
  | 0 => .object "OathButtons$Regiment"
  | _ => .array .int
abbrev wsX00 : List Cond := u_ws RX0 TX0 2
theorem nmX0 : ∀ a, a < 2 → ∀ b, b < 2 → a ≠ b → (TX0 a).2.1 ≠ (TX0 b).2.1 := by decide +kernel
theorem tyX0_ok : ∀ k, k < 2 → parseFieldDescriptor (TX0 k).2.2.1 = some (tyX0 k) := by decide +kernel
abbrev cX0_init : ByteArray := prog_2_method_1_code
def yX0_init : MethodName := ⟨RX0, "<init>", "(LOathButtons$Regiment;)V"⟩
abbrev cX0_sewAllAsTold : ByteArray := prog_2_method_2_code
def yX0_sewAllAsTold : MethodName := ⟨RX0, "sewAllAsTold", "()V"⟩
abbrev cX0_stateOf : ByteArray := prog_2_method_3_code
def yX0_stateOf : MethodName := ⟨RX0, "stateOf", "(I)I"⟩
abbrev cX0_threadOf : ByteArray := prog_2_method_4_code
def yX0_threadOf : MethodName := ⟨RX0, "threadOf", "(I)I"⟩
abbrev cX0_today : ByteArray := prog_2_method_5_code
def yX0_today : MethodName := ⟨RX0, "today", "()I"⟩
abbrev cX0_seed : ByteArray := prog_2_method_6_code
def yX0_seed : MethodName := ⟨RX0, "seed", "()I"⟩
abbrev cX0_cuts : ByteArray := prog_2_method_7_code
def yX0_cuts : MethodName := ⟨RX0, "cuts", "()I"⟩
abbrev cX0_isOn : ByteArray := prog_2_method_8_code
def yX0_isOn : MethodName := ⟨RX0, "isOn", "(I)Z"⟩
abbrev cX0_isOnMan : ByteArray := prog_2_method_9_code
def yX0_isOnMan : MethodName := ⟨RX0, "isOnMan", "(II)Z"⟩
abbrev cX0_waits : ByteArray := prog_2_method_10_code
def yX0_waits : MethodName := ⟨RX0, "waits", "(I)Z"⟩
abbrev cX0_doDeed : ByteArray := prog_2_method_11_code
def yX0_doDeed : MethodName := ⟨RX0, "doDeed", "(II)I"⟩
abbrev cX0_unbutton : ByteArray := prog_2_method_12_code
def yX0_unbutton : MethodName := ⟨RX0, "unbutton", "(I)V"⟩
abbrev cX0_cutOff : ByteArray := prog_2_method_13_code
def yX0_cutOff : MethodName := ⟨RX0, "cutOff", "(I)V"⟩
abbrev cX0_sewAnew : ByteArray := prog_2_method_14_code
def yX0_sewAnew : MethodName := ⟨RX0, "sewAnew", "(I)V"⟩
abbrev cX0_passDay : ByteArray := prog_2_method_15_code
def yX0_passDay : MethodName := ⟨RX0, "passDay", "()I"⟩
abbrev cX0_nextSeed : ByteArray := prog_2_method_16_code
def yX0_nextSeed : MethodName := ⟨RX0, "nextSeed", "(I)I"⟩
abbrev cX0_stormBy : ByteArray := prog_2_method_17_code
def yX0_stormBy : MethodName := ⟨RX0, "stormBy", "(I)I"⟩
abbrev cX0_worn : ByteArray := prog_2_method_18_code
def yX0_worn : MethodName := ⟨RX0, "worn", "(IIII)I"⟩
abbrev cX0_stateAfterWear : ByteArray := prog_2_method_19_code
def yX0_stateAfterWear : MethodName := ⟨RX0, "stateAfterWear", "(III)I"⟩
abbrev cX0_leaveBits : ByteArray := prog_2_method_20_code
def yX0_leaveBits : MethodName := ⟨RX0, "leaveBits", "(II)I"⟩
def RX1 : String := "OathButtons$FormulaReader"
def TX1 : u_T := fun k => match k with
  | 0 => ("OathButtons$FormulaReader", "tokens", "LOathButtons$Tokens;", true)
  | _ => ("OathButtons$FormulaReader", "wear", "LOathButtons$Wear;", true)
def tyX1 : Nat → FieldType := fun k => match k with
  | 0 => .object "OathButtons$Tokens"
  | _ => .object "OathButtons$Wear"
abbrev wsX10 : List Cond := u_ws RX1 TX1 2
theorem nmX1 : ∀ a, a < 2 → ∀ b, b < 2 → a ≠ b → (TX1 a).2.1 ≠ (TX1 b).2.1 := by decide +kernel
theorem tyX1_ok : ∀ k, k < 2 → parseFieldDescriptor (TX1 k).2.2.1 = some (tyX1 k) := by decide +kernel
abbrev cX1_init : ByteArray := prog_3_method_1_code
def yX1_init : MethodName := ⟨RX1, "<init>", "(LOathButtons$Tokens;LOathButtons$Wear;)V"⟩
abbrev cX1_readFormula : ByteArray := prog_3_method_2_code
def yX1_readFormula : MethodName := ⟨RX1, "readFormula", "()Z"⟩
abbrev cX1_readEither : ByteArray := prog_3_method_3_code
def yX1_readEither : MethodName := ⟨RX1, "readEither", "(I)Z"⟩
abbrev cX1_readBoth : ByteArray := prog_3_method_4_code
def yX1_readBoth : MethodName := ⟨RX1, "readBoth", "(I)Z"⟩
abbrev cX1_readOne : ByteArray := prog_3_method_5_code
def yX1_readOne : MethodName := ⟨RX1, "readOne", "(I)Z"⟩
abbrev cX1_readNot : ByteArray := prog_3_method_6_code
def yX1_readNot : MethodName := ⟨RX1, "readNot", "(I)Z"⟩
abbrev cX1_readSum : ByteArray := prog_3_method_7_code
def yX1_readSum : MethodName := ⟨RX1, "readSum", "(I)Z"⟩
abbrev cX1_readTerm : ByteArray := prog_3_method_8_code
def yX1_readTerm : MethodName := ⟨RX1, "readTerm", "(I)Z"⟩
abbrev cX1_isTermSign : ByteArray := prog_3_method_9_code
def yX1_isTermSign : MethodName := ⟨RX1, "isTermSign", "()Z"⟩
abbrev cX1_readUnit : ByteArray := prog_3_method_10_code
def yX1_readUnit : MethodName := ⟨RX1, "readUnit", "(I)Z"⟩
abbrev cX1_readBracket : ByteArray := prog_3_method_11_code
def yX1_readBracket : MethodName := ⟨RX1, "readBracket", "(I)Z"⟩
abbrev cX1_inputSign : ByteArray := prog_3_method_12_code
def yX1_inputSign : MethodName := ⟨RX1, "inputSign", "()I"⟩
def RX2 : String := "OathButtons$History"
def TX2 : u_T := fun k => match k with
  | 0 => ("OathButtons$History", "coats", "LOathButtons$Coats;", true)
  | 1 => ("OathButtons$History", "rows", "[I", true)
  | 2 => ("OathButtons$History", "boxes", "[I", true)
  | 3 => ("OathButtons$History", "filled", "I", false)
  | 4 => ("OathButtons$History", "done", "I", false)
  | _ => ("OathButtons$History", "known", "I", false)
def tyX2 : Nat → FieldType := fun k => match k with
  | 0 => .object "OathButtons$Coats"
  | 1 => .array .int
  | 2 => .array .int
  | 3 => .int
  | 4 => .int
  | _ => .int
abbrev wsX20 : List Cond := u_ws RX2 TX2 6
theorem nmX2 : ∀ a, a < 6 → ∀ b, b < 6 → a ≠ b → (TX2 a).2.1 ≠ (TX2 b).2.1 := by decide +kernel
theorem tyX2_ok : ∀ k, k < 6 → parseFieldDescriptor (TX2 k).2.2.1 = some (tyX2 k) := by decide +kernel
abbrev cX2_init : ByteArray := prog_4_method_1_code
def yX2_init : MethodName := ⟨RX2, "<init>", "(LOathButtons$Coats;)V"⟩
abbrev cX2_forgetActs : ByteArray := prog_4_method_2_code
def yX2_forgetActs : MethodName := ⟨RX2, "forgetActs", "()V"⟩
abbrev cX2_addAct : ByteArray := prog_4_method_3_code
def yX2_addAct : MethodName := ⟨RX2, "addAct", "()V"⟩
abbrev cX2_stepBack : ByteArray := prog_4_method_4_code
def yX2_stepBack : MethodName := ⟨RX2, "stepBack", "()Z"⟩
abbrev cX2_stepOn : ByteArray := prog_4_method_5_code
def yX2_stepOn : MethodName := ⟨RX2, "stepOn", "()Z"⟩
abbrev cX2_writeRow : ByteArray := prog_4_method_6_code
def yX2_writeRow : MethodName := ⟨RX2, "writeRow", "()V"⟩
abbrev cX2_readRow : ByteArray := prog_4_method_7_code
def yX2_readRow : MethodName := ⟨RX2, "readRow", "()V"⟩
abbrev cX2_emptyBoxes : ByteArray := prog_4_method_8_code
def yX2_emptyBoxes : MethodName := ⟨RX2, "emptyBoxes", "()V"⟩
abbrev cX2_fillBox : ByteArray := prog_4_method_9_code
def yX2_fillBox : MethodName := ⟨RX2, "fillBox", "(I)V"⟩
abbrev cX2_openBox : ByteArray := prog_4_method_10_code
def yX2_openBox : MethodName := ⟨RX2, "openBox", "(I)Z"⟩
def RX3 : String := "OathButtons$Orders"
def TX3 : u_T := fun k => match k with
  | 0 => ("OathButtons$Orders", "told", "LOathButtons$Regiment;", true)
  | 1 => ("OathButtons$Orders", "coats", "LOathButtons$Coats;", true)
  | 2 => ("OathButtons$Orders", "mine", "[I", true)
  | 3 => ("OathButtons$Orders", "mineCount", "I", false)
  | 4 => ("OathButtons$Orders", "begin", "I", false)
  | 5 => ("OathButtons$Orders", "hoursOf", "[I", true)
  | 6 => ("OathButtons$Orders", "best", "[I", true)
  | 7 => ("OathButtons$Orders", "keepable", "[B", true)
  | 8 => ("OathButtons$Orders", "order", "[I", true)
  | 9 => ("OathButtons$Orders", "orderLength", "I", false)
  | 10 => ("OathButtons$Orders", "keptBits", "I", false)
  | _ => ("OathButtons$Orders", "hoursTogether", "I", false)
def tyX3 : Nat → FieldType := fun k => match k with
  | 0 => .object "OathButtons$Regiment"
  | 1 => .object "OathButtons$Coats"
  | 2 => .array .int
  | 3 => .int
  | 4 => .int
  | 5 => .array .int
  | 6 => .array .int
  | 7 => .array .byte
  | 8 => .array .int
  | 9 => .int
  | 10 => .int
  | _ => .int
abbrev wsX30 : List Cond := u_ws RX3 TX3 12
theorem nmX3 : ∀ a, a < 12 → ∀ b, b < 12 → a ≠ b → (TX3 a).2.1 ≠ (TX3 b).2.1 := by decide +kernel
theorem tyX3_ok : ∀ k, k < 12 → parseFieldDescriptor (TX3 k).2.2.1 = some (tyX3 k) := by decide +kernel
abbrev cX3_init : ByteArray := prog_5_method_1_code
def yX3_init : MethodName := ⟨RX3, "<init>", "(LOathButtons$Regiment;LOathButtons$Coats;)V"⟩
abbrev cX3_lookAt : ByteArray := prog_5_method_2_code
def yX3_lookAt : MethodName := ⟨RX3, "lookAt", "(I)V"⟩
abbrev cX3_findBest : ByteArray := prog_5_method_3_code
def yX3_findBest : MethodName := ⟨RX3, "findBest", "(I)V"⟩
abbrev cX3_mostKept : ByteArray := prog_5_method_4_code
def yX3_mostKept : MethodName := ⟨RX3, "mostKept", "(I)I"⟩
abbrev cX3_wonBy : ByteArray := prog_5_method_5_code
def yX3_wonBy : MethodName := ⟨RX3, "wonBy", "(II)I"⟩
abbrev cX3_keptBy : ByteArray := prog_5_method_6_code
def yX3_keptBy : MethodName := ⟨RX3, "keptBy", "(II)I"⟩
abbrev cX3_followBest : ByteArray := prog_5_method_7_code
def yX3_followBest : MethodName := ⟨RX3, "followBest", "()V"⟩
abbrev cX3_firstBestDeed : ByteArray := prog_5_method_8_code
def yX3_firstBestDeed : MethodName := ⟨RX3, "firstBestDeed", "(I)I"⟩
abbrev cX3_smallestClash : ByteArray := prog_5_method_9_code
def yX3_smallestClash : MethodName := ⟨RX3, "smallestClash", "(I)I"⟩
abbrev cX3_markKeepable : ByteArray := prog_5_method_10_code
def yX3_markKeepable : MethodName := ⟨RX3, "markKeepable", "()V"⟩
abbrev cX3_markOrders : ByteArray := prog_5_method_11_code
def yX3_markOrders : MethodName := ⟨RX3, "markOrders", "(III)V"⟩
def RX4 : String := "OathButtons$Reader"
def TX4 : u_T := fun k => match k with
  | 0 => ("OathButtons$Reader", "tokens", "LOathButtons$Tokens;", true)
  | 1 => ("OathButtons$Reader", "draft", "LOathButtons$Regiment;", true)
  | 2 => ("OathButtons$Reader", "formulas", "LOathButtons$FormulaReader;", true)
  | 3 => ("OathButtons$Reader", "manNames", "[J", true)
  | 4 => ("OathButtons$Reader", "deedNames", "[J", true)
  | 5 => ("OathButtons$Reader", "buttonNames", "[J", true)
  | _ => ("OathButtons$Reader", "seen", "I", false)
def tyX4 : Nat → FieldType := fun k => match k with
  | 0 => .object "OathButtons$Tokens"
  | 1 => .object "OathButtons$Regiment"
  | 2 => .object "OathButtons$FormulaReader"
  | 3 => .array .long
  | 4 => .array .long
  | 5 => .array .long
  | _ => .int
abbrev wsX40 : List Cond := u_ws RX4 TX4 7
theorem nmX4 : ∀ a, a < 7 → ∀ b, b < 7 → a ≠ b → (TX4 a).2.1 ≠ (TX4 b).2.1 := by decide +kernel
theorem tyX4_ok : ∀ k, k < 7 → parseFieldDescriptor (TX4 k).2.2.1 = some (tyX4 k) := by decide +kernel
abbrev cX4_init : ByteArray := prog_6_method_1_code
def yX4_init : MethodName := ⟨RX4, "<init>", "()V"⟩
abbrev cX4_readText : ByteArray := prog_6_method_2_code
def yX4_readText : MethodName := ⟨RX4, "readText", "([BI)Z"⟩
abbrev cX4_opensOnce : ByteArray := prog_6_method_3_code
def yX4_opensOnce : MethodName := ⟨RX4, "opensOnce", "()Z"⟩
abbrev cX4_opens : ByteArray := prog_6_method_4_code
def yX4_opens : MethodName := ⟨RX4, "opens", "(II)Z"⟩
abbrev cX4_readMan : ByteArray := prog_6_method_5_code
def yX4_readMan : MethodName := ⟨RX4, "readMan", "()Z"⟩
abbrev cX4_readDeed : ByteArray := prog_6_method_6_code
def yX4_readDeed : MethodName := ⟨RX4, "readDeed", "()Z"⟩
abbrev cX4_readButton : ByteArray := prog_6_method_7_code
def yX4_readButton : MethodName := ⟨RX4, "readButton", "()Z"⟩
abbrev cX4_readWhose : ByteArray := prog_6_method_8_code
def yX4_readWhose : MethodName := ⟨RX4, "readWhose", "(I)Z"⟩
abbrev cX4_readPromise : ByteArray := prog_6_method_9_code
def yX4_readPromise : MethodName := ⟨RX4, "readPromise", "(I)Z"⟩
abbrev cX4_readAfter : ByteArray := prog_6_method_10_code
def yX4_readAfter : MethodName := ⟨RX4, "readAfter", "(I)Z"⟩
abbrev cX4_readFriend : ByteArray := prog_6_method_11_code
def yX4_readFriend : MethodName := ⟨RX4, "readFriend", "()Z"⟩
abbrev cX4_readWorth : ByteArray := prog_6_method_12_code
def yX4_readWorth : MethodName := ⟨RX4, "readWorth", "(II)Z"⟩
abbrev cX4_readHoursOfDay : ByteArray := prog_6_method_13_code
def yX4_readHoursOfDay : MethodName := ⟨RX4, "readHoursOfDay", "()Z"⟩
abbrev cX4_readStorm : ByteArray := prog_6_method_14_code
def yX4_readStorm : MethodName := ⟨RX4, "readStorm", "()Z"⟩
abbrev cX4_readDraw : ByteArray := prog_6_method_15_code
def yX4_readDraw : MethodName := ⟨RX4, "readDraw", "()Z"⟩
abbrev cX4_optional : ByteArray := prog_6_method_16_code
def yX4_optional : MethodName := ⟨RX4, "optional", "(IIII)I"⟩
abbrev cX4_number : ByteArray := prog_6_method_17_code
def yX4_number : MethodName := ⟨RX4, "number", "(II)I"⟩
abbrev cX4_isNewName : ByteArray := prog_6_method_18_code
def yX4_isNewName : MethodName := ⟨RX4, "isNewName", "([JI)Z"⟩
abbrev cX4_oldName : ByteArray := prog_6_method_19_code
def yX4_oldName : MethodName := ⟨RX4, "oldName", "([JI)I"⟩
abbrev cX4_find : ByteArray := prog_6_method_20_code
def yX4_find : MethodName := ⟨RX4, "find", "([JI)I"⟩
def RX5 : String := "OathButtons$Regiment"
def TX5 : u_T := fun k => match k with
  | 0 => ("OathButtons$Regiment", "men", "I", false)
  | 1 => ("OathButtons$Regiment", "colour", "[I", true)
  | 2 => ("OathButtons$Regiment", "holes", "[I", true)
  | 3 => ("OathButtons$Regiment", "left", "[I", true)
  | 4 => ("OathButtons$Regiment", "deeds", "I", false)
  | 5 => ("OathButtons$Regiment", "hours", "[I", true)
  | 6 => ("OathButtons$Regiment", "buttons", "I", false)
  | 7 => ("OathButtons$Regiment", "on", "[I", true)
  | 8 => ("OathButtons$Regiment", "by", "[I", true)
  | 9 => ("OathButtons$Regiment", "deed", "[I", true)
  | 10 => ("OathButtons$Regiment", "promises", "[I", true)
  | 11 => ("OathButtons$Regiment", "until", "[I", true)
  | 12 => ("OathButtons$Regiment", "thread", "[I", true)
  | 13 => ("OathButtons$Regiment", "after", "[I", true)
  | 14 => ("OathButtons$Regiment", "friends", "I", false)
  | 15 => ("OathButtons$Regiment", "worth", "[I", true)
  | 16 => ("OathButtons$Regiment", "wear", "LOathButtons$Wear;", true)
  | 17 => ("OathButtons$Regiment", "hoursOfDay", "I", false)
  | 18 => ("OathButtons$Regiment", "storm", "I", false)
  | _ => ("OathButtons$Regiment", "draw", "I", false)
def tyX5 : Nat → FieldType := fun k => match k with
  | 0 => .int
  | 1 => .array .int
  | 2 => .array .int
  | 3 => .array .int
  | 4 => .int
  | 5 => .array .int
  | 6 => .int
  | 7 => .array .int
  | 8 => .array .int
  | 9 => .array .int
  | 10 => .array .int
  | 11 => .array .int
  | 12 => .array .int
  | 13 => .array .int
  | 14 => .int
  | 15 => .array .int
  | 16 => .object "OathButtons$Wear"
  | 17 => .int
  | 18 => .int
  | _ => .int
abbrev wsX50 : List Cond := u_ws RX5 TX5 20
theorem nmX5 : ∀ a, a < 20 → ∀ b, b < 20 → a ≠ b → (TX5 a).2.1 ≠ (TX5 b).2.1 := by decide +kernel
theorem tyX5_ok : ∀ k, k < 20 → parseFieldDescriptor (TX5 k).2.2.1 = some (tyX5 k) := by decide +kernel
abbrev cX5_init : ByteArray := prog_7_method_1_code
def yX5_init : MethodName := ⟨RX5, "<init>", "()V"⟩
abbrev cX5_empty : ByteArray := prog_7_method_2_code
def yX5_empty : MethodName := ⟨RX5, "empty", "()V"⟩
abbrev cX5_takeOver : ByteArray := prog_7_method_3_code
def yX5_takeOver : MethodName := ⟨RX5, "takeOver", "(LOathButtons$Regiment;)V"⟩
abbrev cX5_copy : ByteArray := prog_7_method_4_code
def yX5_copy : MethodName := ⟨RX5, "copy", "([I[I)V"⟩
abbrev cX5_hasMan : ByteArray := prog_7_method_5_code
def yX5_hasMan : MethodName := ⟨RX5, "hasMan", "(I)Z"⟩
abbrev cX5_hasDeed : ByteArray := prog_7_method_6_code
def yX5_hasDeed : MethodName := ⟨RX5, "hasDeed", "(I)Z"⟩
abbrev cX5_hasButton : ByteArray := prog_7_method_7_code
def yX5_hasButton : MethodName := ⟨RX5, "hasButton", "(I)Z"⟩
abbrev cX5_worthOf : ByteArray := prog_7_method_8_code
def yX5_worthOf : MethodName := ⟨RX5, "worthOf", "(II)I"⟩
abbrev cX5_befriend : ByteArray := prog_7_method_9_code
def yX5_befriend : MethodName := ⟨RX5, "befriend", "(III)V"⟩
abbrev cX5_traitOf : ByteArray := prog_7_method_10_code
def yX5_traitOf : MethodName := ⟨RX5, "traitOf", "(II)I"⟩
def RX6 : String := "OathButtons$Threads"
def TX6 : u_T := fun k => match k with
  | 0 => ("OathButtons$Threads", "told", "LOathButtons$Regiment;", true)
  | _ => ("OathButtons$Threads", "coats", "LOathButtons$Coats;", true)
def tyX6 : Nat → FieldType := fun k => match k with
  | 0 => .object "OathButtons$Regiment"
  | _ => .object "OathButtons$Coats"
abbrev wsX60 : List Cond := u_ws RX6 TX6 2
theorem nmX6 : ∀ a, a < 2 → ∀ b, b < 2 → a ≠ b → (TX6 a).2.1 ≠ (TX6 b).2.1 := by decide +kernel
theorem tyX6_ok : ∀ k, k < 2 → parseFieldDescriptor (TX6 k).2.2.1 = some (tyX6 k) := by decide +kernel
abbrev cX6_init : ByteArray := prog_8_method_1_code
def yX6_init : MethodName := ⟨RX6, "<init>", "(LOathButtons$Regiment;LOathButtons$Coats;)V"⟩
abbrev cX6_threadBehind : ByteArray := prog_8_method_2_code
def yX6_threadBehind : MethodName := ⟨RX6, "threadBehind", "(IIJ)I"⟩
abbrev cX6_daysTillLost : ByteArray := prog_8_method_3_code
def yX6_daysTillLost : MethodName := ⟨RX6, "daysTillLost", "(I)I"⟩
abbrev cX6_oddsPart : ByteArray := prog_8_method_4_code
def yX6_oddsPart : MethodName := ⟨RX6, "oddsPart", "(III)J"⟩
abbrev cX6_waysOf : ByteArray := prog_8_method_5_code
def yX6_waysOf : MethodName := ⟨RX6, "waysOf", "(II)J"⟩
abbrev cX6_commonDivisor : ByteArray := prog_8_method_6_code
def yX6_commonDivisor : MethodName := ⟨RX6, "commonDivisor", "(JJ)J"⟩
abbrev cX6_stateBehind : ByteArray := prog_8_method_7_code
def yX6_stateBehind : MethodName := ⟨RX6, "stateBehind", "(II)I"⟩
def RX7 : String := "OathButtons$Tokens"
def TX7 : u_T := fun k => match k with
  | 0 => ("OathButtons$Tokens", "text", "[B", false)
  | 1 => ("OathButtons$Tokens", "length", "I", false)
  | 2 => ("OathButtons$Tokens", "next", "I", false)
  | 3 => ("OathButtons$Tokens", "place", "I", false)
  | 4 => ("OathButtons$Tokens", "kind", "I", false)
  | 5 => ("OathButtons$Tokens", "value", "I", false)
  | 6 => ("OathButtons$Tokens", "letters", "J", false)
  | 7 => ("OathButtons$Tokens", "faultKind", "I", false)
  | _ => ("OathButtons$Tokens", "faultPlace", "I", false)
def tyX7 : Nat → FieldType := fun k => match k with
  | 0 => .array .byte
  | 1 => .int
  | 2 => .int
  | 3 => .int
  | 4 => .int
  | 5 => .int
  | 6 => .long
  | 7 => .int
  | _ => .int
abbrev wsX70 : List Cond := u_ws RX7 TX7 9
theorem nmX7 : ∀ a, a < 9 → ∀ b, b < 9 → a ≠ b → (TX7 a).2.1 ≠ (TX7 b).2.1 := by decide +kernel
theorem tyX7_ok : ∀ k, k < 9 → parseFieldDescriptor (TX7 k).2.2.1 = some (tyX7 k) := by decide +kernel
abbrev cX7_init : ByteArray := prog_9_method_1_code
def yX7_init : MethodName := ⟨RX7, "<init>", "()V"⟩
abbrev cX7_open : ByteArray := prog_9_method_2_code
def yX7_open : MethodName := ⟨RX7, "open", "([BI)V"⟩
abbrev cX7_advance : ByteArray := prog_9_method_3_code
def yX7_advance : MethodName := ⟨RX7, "advance", "()V"⟩
abbrev cX7_takeLetters : ByteArray := prog_9_method_4_code
def yX7_takeLetters : MethodName := ⟨RX7, "takeLetters", "()V"⟩
abbrev cX7_takeDigits : ByteArray := prog_9_method_5_code
def yX7_takeDigits : MethodName := ⟨RX7, "takeDigits", "()V"⟩
abbrev cX7_wordNumber : ByteArray := prog_9_method_6_code
def yX7_wordNumber : MethodName := ⟨RX7, "wordNumber", "(J)I"⟩
abbrev cX7_isWord : ByteArray := prog_9_method_7_code
def yX7_isWord : MethodName := ⟨RX7, "isWord", "(I)Z"⟩
abbrev cX7_isSign : ByteArray := prog_9_method_8_code
def yX7_isSign : MethodName := ⟨RX7, "isSign", "(C)Z"⟩
abbrev cX7_takesWord : ByteArray := prog_9_method_9_code
def yX7_takesWord : MethodName := ⟨RX7, "takesWord", "(I)Z"⟩
abbrev cX7_takesSign : ByteArray := prog_9_method_10_code
def yX7_takesSign : MethodName := ⟨RX7, "takesSign", "(C)Z"⟩
abbrev cX7_refuse : ByteArray := prog_9_method_11_code
def yX7_refuse : MethodName := ⟨RX7, "refuse", "(I)Z"⟩
abbrev cX7_refuseAt : ByteArray := prog_9_method_12_code
def yX7_refuseAt : MethodName := ⟨RX7, "refuseAt", "(II)Z"⟩
def RX8 : String := "OathButtons$Truces"
def TX8 : u_T := fun k => match k with
  | 0 => ("OathButtons$Truces", "told", "LOathButtons$Regiment;", true)
  | 1 => ("OathButtons$Truces", "with", "[I", true)
  | 2 => ("OathButtons$Truces", "best", "[I", true)
  | 3 => ("OathButtons$Truces", "bestWorth", "I", false)
  | 4 => ("OathButtons$Truces", "firstCalm", "[I", true)
  | 5 => ("OathButtons$Truces", "calmCount", "I", false)
  | _ => ("OathButtons$Truces", "any", "Z", false)
def tyX8 : Nat → FieldType := fun k => match k with
  | 0 => .object "OathButtons$Regiment"
  | 1 => .array .int
  | 2 => .array .int
  | 3 => .int
  | 4 => .array .int
  | 5 => .int
  | _ => .boolean
abbrev wsX80 : List Cond := u_ws RX8 TX8 7
theorem nmX8 : ∀ a, a < 7 → ∀ b, b < 7 → a ≠ b → (TX8 a).2.1 ≠ (TX8 b).2.1 := by decide +kernel
theorem tyX8_ok : ∀ k, k < 7 → parseFieldDescriptor (TX8 k).2.2.1 = some (tyX8 k) := by decide +kernel
abbrev cX8_init : ByteArray := prog_10_method_1_code
def yX8_init : MethodName := ⟨RX8, "<init>", "(LOathButtons$Regiment;)V"⟩
abbrev cX8_tryAll : ByteArray := prog_10_method_2_code
def yX8_tryAll : MethodName := ⟨RX8, "tryAll", "()V"⟩
abbrev cX8_pairFrom : ByteArray := prog_10_method_3_code
def yX8_pairFrom : MethodName := ⟨RX8, "pairFrom", "(I)V"⟩
abbrev cX8_weigh : ByteArray := prog_10_method_4_code
def yX8_weigh : MethodName := ⟨RX8, "weigh", "()V"⟩
abbrev cX8_has : ByteArray := prog_10_method_5_code
def yX8_has : MethodName := ⟨RX8, "has", "(I)I"⟩
abbrev cX8_copyWith : ByteArray := prog_10_method_6_code
def yX8_copyWith : MethodName := ⟨RX8, "copyWith", "([I)V"⟩
abbrev cX8_isCalm : ByteArray := prog_10_method_7_code
def yX8_isCalm : MethodName := ⟨RX8, "isCalm", "()Z"⟩
def RX9 : String := "OathButtons$Tugs"
def TX9 : u_T := fun k => match k with
  | 0 => ("OathButtons$Tugs", "told", "LOathButtons$Regiment;", true)
  | 1 => ("OathButtons$Tugs", "what", "[I", true)
  | 2 => ("OathButtons$Tugs", "number", "[I", true)
  | 3 => ("OathButtons$Tugs", "is", "[Z", true)
  | 4 => ("OathButtons$Tugs", "toldAt", "[I", true)
  | 5 => ("OathButtons$Tugs", "untoldAt", "[I", true)
  | 6 => ("OathButtons$Tugs", "count", "I", false)
  | _ => ("OathButtons$Tugs", "time", "I", false)
def tyX9 : Nat → FieldType := fun k => match k with
  | 0 => .object "OathButtons$Regiment"
  | 1 => .array .int
  | 2 => .array .int
  | 3 => .array .boolean
  | 4 => .array .int
  | 5 => .array .int
  | 6 => .int
  | _ => .int
abbrev wsX90 : List Cond := u_ws RX9 TX9 8
theorem nmX9 : ∀ a, a < 8 → ∀ b, b < 8 → a ≠ b → (TX9 a).2.1 ≠ (TX9 b).2.1 := by decide +kernel
theorem tyX9_ok : ∀ k, k < 8 → parseFieldDescriptor (TX9 k).2.2.1 = some (tyX9 k) := by decide +kernel
abbrev cX9_init : ByteArray := prog_11_method_1_code
def yX9_init : MethodName := ⟨RX9, "<init>", "(LOathButtons$Regiment;)V"⟩
abbrev cX9_forgetAll : ByteArray := prog_11_method_2_code
def yX9_forgetAll : MethodName := ⟨RX9, "forgetAll", "()V"⟩
abbrev cX9_tell : ByteArray := prog_11_method_3_code
def yX9_tell : MethodName := ⟨RX9, "tell", "(IIZ)I"⟩
abbrev cX9_takeBack : ByteArray := prog_11_method_4_code
def yX9_takeBack : MethodName := ⟨RX9, "takeBack", "(I)Z"⟩
abbrev cX9_suspects : ByteArray := prog_11_method_5_code
def yX9_suspects : MethodName := ⟨RX9, "suspects", "(I)I"⟩
abbrev cX9_fits : ByteArray := prog_11_method_6_code
def yX9_fits : MethodName := ⟨RX9, "fits", "(II)Z"⟩
abbrev cX9_leftAtMost : ByteArray := prog_11_method_7_code
def yX9_leftAtMost : MethodName := ⟨RX9, "leftAtMost", "(II)I"⟩
def RX10 : String := "OathButtons$Wear"
def TX10 : u_T := fun k => match k with
  | 0 => ("OathButtons$Wear", "code", "[I", true)
  | 1 => ("OathButtons$Wear", "length", "I", false)
  | 2 => ("OathButtons$Wear", "stack", "[I", true)
  | _ => ("OathButtons$Wear", "units", "I", false)
def tyX10 : Nat → FieldType := fun k => match k with
  | 0 => .array .int
  | 1 => .int
  | 2 => .array .int
  | _ => .int
abbrev wsX100 : List Cond := u_ws RX10 TX10 4
theorem nmX10 : ∀ a, a < 4 → ∀ b, b < 4 → a ≠ b → (TX10 a).2.1 ≠ (TX10 b).2.1 := by decide +kernel
theorem tyX10_ok : ∀ k, k < 4 → parseFieldDescriptor (TX10 k).2.2.1 = some (tyX10 k) := by decide +kernel
abbrev cX10_init : ByteArray := prog_12_method_1_code
def yX10_init : MethodName := ⟨RX10, "<init>", "()V"⟩
abbrev cX10_empty : ByteArray := prog_12_method_2_code
def yX10_empty : MethodName := ⟨RX10, "empty", "()V"⟩
abbrev cX10_takeOver : ByteArray := prog_12_method_3_code
def yX10_takeOver : MethodName := ⟨RX10, "takeOver", "(LOathButtons$Wear;)V"⟩
abbrev cX10_put : ByteArray := prog_12_method_4_code
def yX10_put : MethodName := ⟨RX10, "put", "(I)V"⟩
abbrev cX10_amount : ByteArray := prog_12_method_5_code
def yX10_amount : MethodName := ⟨RX10, "amount", "(IIII)I"⟩
abbrev cX10_push : ByteArray := prog_12_method_6_code
def yX10_push : MethodName := ⟨RX10, "push", "(II)I"⟩
abbrev cX10_join : ByteArray := prog_12_method_7_code
def yX10_join : MethodName := ⟨RX10, "join", "(III)I"⟩
abbrev cX10_truth : ByteArray := prog_12_method_8_code
def yX10_truth : MethodName := ⟨RX10, "truth", "(Z)I"⟩
def RX11 : String := "OathButtons"
def TX11 : u_T := fun k => match k with
  | 0 => ("OathButtons", "tape", "[B", true)
  | 1 => ("OathButtons", "taped", "I", false)
  | 2 => ("OathButtons", "told", "LOathButtons$Regiment;", true)
  | 3 => ("OathButtons", "reader", "LOathButtons$Reader;", true)
  | 4 => ("OathButtons", "coats", "LOathButtons$Coats;", true)
  | 5 => ("OathButtons", "history", "LOathButtons$History;", true)
  | 6 => ("OathButtons", "orders", "LOathButtons$Orders;", true)
  | 7 => ("OathButtons", "threads", "LOathButtons$Threads;", true)
  | 8 => ("OathButtons", "truces", "LOathButtons$Truces;", true)
  | 9 => ("OathButtons", "tugs", "LOathButtons$Tugs;", true)
  | 10 => ("OathButtons", "lying", "[I", true)
  | 11 => ("OathButtons", "lyingCount", "I", false)
  | 12 => ("OathButtons", "faultKind", "I", false)
  | _ => ("OathButtons", "faultPlace", "I", false)
def tyX11 : Nat → FieldType := fun k => match k with
  | 0 => .array .byte
  | 1 => .int
  | 2 => .object "OathButtons$Regiment"
  | 3 => .object "OathButtons$Reader"
  | 4 => .object "OathButtons$Coats"
  | 5 => .object "OathButtons$History"
  | 6 => .object "OathButtons$Orders"
  | 7 => .object "OathButtons$Threads"
  | 8 => .object "OathButtons$Truces"
  | 9 => .object "OathButtons$Tugs"
  | 10 => .array .int
  | 11 => .int
  | 12 => .int
  | _ => .int
abbrev wsX110 : List Cond := u_ws RX11 TX11 14
theorem nmX11 : ∀ a, a < 14 → ∀ b, b < 14 → a ≠ b → (TX11 a).2.1 ≠ (TX11 b).2.1 := by decide +kernel
theorem tyX11_ok : ∀ k, k < 14 → parseFieldDescriptor (TX11 k).2.2.1 = some (tyX11 k) := by decide +kernel
abbrev cX11_init : ByteArray := prog_1_method_1_code
def yX11_init : MethodName := ⟨RX11, "<init>", "()V"⟩
abbrev cX11_feed : ByteArray := prog_1_method_2_code
def yX11_feed : MethodName := ⟨RX11, "feed", "(IIIII)I"⟩
abbrev cX11_putOnTape : ByteArray := prog_1_method_3_code
def yX11_putOnTape : MethodName := ⟨RX11, "putOnTape", "(I)V"⟩
abbrev cX11_end : ByteArray := prog_1_method_4_code
def yX11_end : MethodName := ⟨RX11, "end", "(I)I"⟩
abbrev cX11_regiment : ByteArray := prog_1_method_5_code
def yX11_regiment : MethodName := ⟨RX11, "regiment", "()I"⟩
abbrev cX11_fault : ByteArray := prog_1_method_6_code
def yX11_fault : MethodName := ⟨RX11, "fault", "(I)I"⟩
abbrev cX11_button : ByteArray := prog_1_method_7_code
def yX11_button : MethodName := ⟨RX11, "button", "(II)I"⟩
abbrev cX11_coat : ByteArray := prog_1_method_8_code
def yX11_coat : MethodName := ⟨RX11, "coat", "(II)I"⟩
abbrev cX11_free : ByteArray := prog_1_method_9_code
def yX11_free : MethodName := ⟨RX11, "free", "()I"⟩
abbrev cX11_sworn : ByteArray := prog_1_method_10_code
def yX11_sworn : MethodName := ⟨RX11, "sworn", "(II)I"⟩
abbrev cX11_many : ByteArray := prog_1_method_11_code
def yX11_many : MethodName := ⟨RX11, "many", "(I)I"⟩
abbrev cX11_does : ByteArray := prog_1_method_12_code
def yX11_does : MethodName := ⟨RX11, "does", "(II)I"⟩
abbrev cX11_undoes : ByteArray := prog_1_method_13_code
def yX11_undoes : MethodName := ⟨RX11, "undoes", "(I)Z"⟩
abbrev cX11_cut : ByteArray := prog_1_method_14_code
def yX11_cut : MethodName := ⟨RX11, "cut", "(I)I"⟩
abbrev cX11_sew : ByteArray := prog_1_method_15_code
def yX11_sew : MethodName := ⟨RX11, "sew", "(I)I"⟩
abbrev cX11_day : ByteArray := prog_1_method_16_code
def yX11_day : MethodName := ⟨RX11, "day", "()I"⟩
abbrev cX11_undo : ByteArray := prog_1_method_17_code
def yX11_undo : MethodName := ⟨RX11, "undo", "()Z"⟩
abbrev cX11_redo : ByteArray := prog_1_method_18_code
def yX11_redo : MethodName := ⟨RX11, "redo", "()Z"⟩
abbrev cX11_isButtonOn : ByteArray := prog_1_method_19_code
def yX11_isButtonOn : MethodName := ⟨RX11, "isButtonOn", "(I)Z"⟩
abbrev cX11_keep : ByteArray := prog_1_method_20_code
def yX11_keep : MethodName := ⟨RX11, "keep", "(II)I"⟩
abbrev cX11_rest : ByteArray := prog_1_method_21_code
def yX11_rest : MethodName := ⟨RX11, "rest", "(I)I"⟩
abbrev cX11_ties : ByteArray := prog_1_method_22_code
def yX11_ties : MethodName := ⟨RX11, "ties", "(II)I"⟩
abbrev cX11_clash : ByteArray := prog_1_method_23_code
def yX11_clash : MethodName := ⟨RX11, "clash", "(II)I"⟩
abbrev cX11_leave : ByteArray := prog_1_method_24_code
def yX11_leave : MethodName := ⟨RX11, "leave", "(II)I"⟩
abbrev cX11_asked : ByteArray := prog_1_method_25_code
def yX11_asked : MethodName := ⟨RX11, "asked", "(II)I"⟩
abbrev cX11_holds : ByteArray := prog_1_method_26_code
def yX11_holds : MethodName := ⟨RX11, "holds", "(III)I"⟩
abbrev cX11_odds : ByteArray := prog_1_method_27_code
def yX11_odds : MethodName := ⟨RX11, "odds", "(III)J"⟩
abbrev cX11_first : ByteArray := prog_1_method_28_code
def yX11_first : MethodName := ⟨RX11, "first", "(I)I"⟩
abbrev cX11_will : ByteArray := prog_1_method_29_code
def yX11_will : MethodName := ⟨RX11, "will", "(II)I"⟩
abbrev cX11_truce : ByteArray := prog_1_method_30_code
def yX11_truce : MethodName := ⟨RX11, "truce", "()I"⟩
abbrev cX11_calm : ByteArray := prog_1_method_31_code
def yX11_calm : MethodName := ⟨RX11, "calm", "()I"⟩
abbrev cX11_likes : ByteArray := prog_1_method_32_code
def yX11_likes : MethodName := ⟨RX11, "likes", "(II)I"⟩
abbrev cX11_lies : ByteArray := prog_1_method_33_code
def yX11_lies : MethodName := ⟨RX11, "lies", "(I)I"⟩
abbrev cX11_layDown : ByteArray := prog_1_method_34_code
def yX11_layDown : MethodName := ⟨RX11, "layDown", "(I)V"⟩
abbrev cX11_layOut : ByteArray := prog_1_method_35_code
def yX11_layOut : MethodName := ⟨RX11, "layOut", "([II)V"⟩
abbrev cX11_tug : ByteArray := prog_1_method_36_code
def yX11_tug : MethodName := ⟨RX11, "tug", "(IIZ)I"⟩
abbrev cX11_untell : ByteArray := prog_1_method_37_code
def yX11_untell : MethodName := ⟨RX11, "untell", "(I)Z"⟩
abbrev cX11_later : ByteArray := prog_1_method_38_code
def yX11_later : MethodName := ⟨RX11, "later", "(I)I"⟩
abbrev cX11_swore : ByteArray := prog_1_method_39_code
def yX11_swore : MethodName := ⟨RX11, "swore", "(I)I"⟩
abbrev cX11_ask : ByteArray := prog_1_method_40_code
def yX11_ask : MethodName := ⟨RX11, "ask", "(II)I"⟩
abbrev cX11_image : ByteArray := prog_1_method_41_code
def yX11_image : MethodName := ⟨RX11, "image", "(I)I"⟩
abbrev cX11_back : ByteArray := prog_1_method_42_code
def yX11_back : MethodName := ⟨RX11, "back", "(I)I"⟩
abbrev cX11_about : ByteArray := prog_1_method_43_code
def yX11_about : MethodName := ⟨RX11, "about", "(I)I"⟩
def RX12 : String := "OathButtonsModel"
def TX12 : u_T := fun k => match k with
  | 0 => ("OathButtonsModel", "tape", "[I", true)
  | 1 => ("OathButtonsModel", "taped", "I", false)
  | 2 => ("OathButtonsModel", "fault", "I", false)
  | 3 => ("OathButtonsModel", "faultPlace", "I", false)
  | 4 => ("OathButtonsModel", "at", "I", false)
  | 5 => ("OathButtonsModel", "size", "I", false)
  | 6 => ("OathButtonsModel", "sort", "I", false)
  | 7 => ("OathButtonsModel", "place", "I", false)
  | 8 => ("OathButtonsModel", "number", "I", false)
  | 9 => ("OathButtonsModel", "word", "J", false)
  | 10 => ("OathButtonsModel", "nName", "[J", true)
  | 11 => ("OathButtonsModel", "nStep", "[I", true)
  | 12 => ("OathButtonsModel", "nArg", "[I", true)
  | 13 => ("OathButtonsModel", "step", "[I", true)
  | 14 => ("OathButtonsModel", "arg", "[I", true)
  | 15 => ("OathButtonsModel", "open", "[I", true)
  | 16 => ("OathButtonsModel", "values", "[I", true)
  | 17 => ("OathButtonsModel", "nSteps", "I", false)
  | 18 => ("OathButtonsModel", "steps", "I", false)
  | 19 => ("OathButtonsModel", "opens", "I", false)
  | 20 => ("OathButtonsModel", "nUnits", "I", false)
  | 21 => ("OathButtonsModel", "units", "I", false)
  | 22 => ("OathButtonsModel", "ownUnits", "I", false)
  | 23 => ("OathButtonsModel", "deep", "I", false)
  | 24 => ("OathButtonsModel", "asks", "[I", true)
  | 25 => ("OathButtonsModel", "nColour", "[I", true)
  | 26 => ("OathButtonsModel", "nHoles", "[I", true)
  | 27 => ("OathButtonsModel", "nLeft", "[I", true)
  | 28 => ("OathButtonsModel", "nHours", "[I", true)
  | 29 => ("OathButtonsModel", "nFriend", "[I", true)
  | 30 => ("OathButtonsModel", "colour", "[I", true)
  | 31 => ("OathButtonsModel", "holes", "[I", true)
  | 32 => ("OathButtonsModel", "left", "[I", true)
  | 33 => ("OathButtonsModel", "hours", "[I", true)
  | 34 => ("OathButtonsModel", "friend", "[I", true)
  | 35 => ("OathButtonsModel", "nOn", "[I", true)
  | 36 => ("OathButtonsModel", "nBy", "[I", true)
  | 37 => ("OathButtonsModel", "nDeed", "[I", true)
  | 38 => ("OathButtonsModel", "nUntil", "[I", true)
  | 39 => ("OathButtonsModel", "nThread", "[I", true)
  | 40 => ("OathButtonsModel", "nAfter", "[I", true)
  | 41 => ("OathButtonsModel", "onMan", "[I", true)
  | 42 => ("OathButtonsModel", "byMan", "[I", true)
  | 43 => ("OathButtonsModel", "deedOf", "[I", true)
  | 44 => ("OathButtonsModel", "until", "[I", true)
  | 45 => ("OathButtonsModel", "toldThread", "[I", true)
  | 46 => ("OathButtonsModel", "after", "[I", true)
  | 47 => ("OathButtonsModel", "nPromises", "[Z", true)
  | 48 => ("OathButtonsModel", "promises", "[Z", true)
  | 49 => ("OathButtonsModel", "nMen", "I", false)
  | 50 => ("OathButtonsModel", "nDeeds", "I", false)
  | 51 => ("OathButtonsModel", "nButtons", "I", false)
  | 52 => ("OathButtonsModel", "nFriends", "I", false)
  | 53 => ("OathButtonsModel", "nDay", "I", false)
  | 54 => ("OathButtonsModel", "nStorm", "I", false)
  | 55 => ("OathButtonsModel", "nDraw", "I", false)
  | 56 => ("OathButtonsModel", "men", "I", false)
  | 57 => ("OathButtonsModel", "deeds", "I", false)
  | 58 => ("OathButtonsModel", "buttons", "I", false)
  | 59 => ("OathButtonsModel", "friends", "I", false)
  | 60 => ("OathButtonsModel", "dayHours", "I", false)
  | 61 => ("OathButtonsModel", "storm", "I", false)
  | 62 => ("OathButtonsModel", "nHasWear", "Z", false)
  | 63 => ("OathButtonsModel", "nHasDay", "Z", false)
  | 64 => ("OathButtonsModel", "nHasStorm", "Z", false)
  | 65 => ("OathButtonsModel", "nHasDraw", "Z", false)
  | 66 => ("OathButtonsModel", "hasWear", "Z", false)
  | 67 => ("OathButtonsModel", "now", "[I", true)
  | 68 => ("OathButtonsModel", "were", "[I", true)
  | 69 => ("OathButtonsModel", "acts", "I", false)
  | 70 => ("OathButtonsModel", "undone", "I", false)
  | 71 => ("OathButtonsModel", "state", "[I", true)
  | 72 => ("OathButtonsModel", "thread", "[I", true)
  | 73 => ("OathButtonsModel", "day", "I", false)
  | 74 => ("OathButtonsModel", "seed", "I", false)
  | 75 => ("OathButtonsModel", "order", "[I", true)
  | 76 => ("OathButtonsModel", "spent", "[I", true)
  | 77 => ("OathButtonsModel", "keptBy", "[I", true)
  | 78 => ("OathButtonsModel", "bestOrder", "[I", true)
  | 79 => ("OathButtonsModel", "orderMany", "I", false)
  | 80 => ("OathButtonsModel", "beginDay", "I", false)
  | 81 => ("OathButtonsModel", "bestMany", "I", false)
  | 82 => ("OathButtonsModel", "bestHours", "I", false)
  | 83 => ("OathButtonsModel", "bestKept", "I", false)
  | 84 => ("OathButtonsModel", "lies", "[I", true)
  | 85 => ("OathButtonsModel", "lain", "I", false)
  | 86 => ("OathButtonsModel", "canKeep", "[Z", true)
  | 87 => ("OathButtonsModel", "with", "[I", true)
  | 88 => ("OathButtonsModel", "tugWhat", "[I", true)
  | 89 => ("OathButtonsModel", "tugNumber", "[I", true)
  | 90 => ("OathButtonsModel", "tugTold", "[I", true)
  | 91 => ("OathButtonsModel", "tugUntold", "[I", true)
  | 92 => ("OathButtonsModel", "tugIs", "[Z", true)
  | 93 => ("OathButtonsModel", "tugs", "I", false)
  | 94 => ("OathButtonsModel", "time", "I", false)
  | 95 => ("OathButtonsModel", "hasBox", "[Z", true)
  | _ => ("OathButtonsModel", "boxes", "[I", true)
def tyX12 : Nat → FieldType := fun k => match k with
  | 0 => .array .int
  | 1 => .int
  | 2 => .int
  | 3 => .int
  | 4 => .int
  | 5 => .int
  | 6 => .int
  | 7 => .int
  | 8 => .int
  | 9 => .long
  | 10 => .array .long
  | 11 => .array .int
  | 12 => .array .int
  | 13 => .array .int
  | 14 => .array .int
  | 15 => .array .int
  | 16 => .array .int
  | 17 => .int
  | 18 => .int
  | 19 => .int
  | 20 => .int
  | 21 => .int
  | 22 => .int
  | 23 => .int
  | 24 => .array .int
  | 25 => .array .int
  | 26 => .array .int
  | 27 => .array .int
  | 28 => .array .int
  | 29 => .array .int
  | 30 => .array .int
  | 31 => .array .int
  | 32 => .array .int
  | 33 => .array .int
  | 34 => .array .int
  | 35 => .array .int
  | 36 => .array .int
  | 37 => .array .int
  | 38 => .array .int
  | 39 => .array .int
  | 40 => .array .int
  | 41 => .array .int
  | 42 => .array .int
  | 43 => .array .int
  | 44 => .array .int
  | 45 => .array .int
  | 46 => .array .int
  | 47 => .array .boolean
  | 48 => .array .boolean
  | 49 => .int
  | 50 => .int
  | 51 => .int
  | 52 => .int
  | 53 => .int
  | 54 => .int
  | 55 => .int
  | 56 => .int
  | 57 => .int
  | 58 => .int
  | 59 => .int
  | 60 => .int
  | 61 => .int
  | 62 => .boolean
  | 63 => .boolean
  | 64 => .boolean
  | 65 => .boolean
  | 66 => .boolean
  | 67 => .array .int
  | 68 => .array .int
  | 69 => .int
  | 70 => .int
  | 71 => .array .int
  | 72 => .array .int
  | 73 => .int
  | 74 => .int
  | 75 => .array .int
  | 76 => .array .int
  | 77 => .array .int
  | 78 => .array .int
  | 79 => .int
  | 80 => .int
  | 81 => .int
  | 82 => .int
  | 83 => .int
  | 84 => .array .int
  | 85 => .int
  | 86 => .array .boolean
  | 87 => .array .int
  | 88 => .array .int
  | 89 => .array .int
  | 90 => .array .int
  | 91 => .array .int
  | 92 => .array .boolean
  | 93 => .int
  | 94 => .int
  | 95 => .array .boolean
  | _ => .array .int
abbrev wsX120 : List Cond := u_ws RX12 TX12 97
theorem nmX12 : ∀ a, a < 97 → ∀ b, b < 97 → a ≠ b → (TX12 a).2.1 ≠ (TX12 b).2.1 := by decide +kernel
theorem tyX12_ok : ∀ k, k < 97 → parseFieldDescriptor (TX12 k).2.2.1 = some (tyX12 k) := by decide +kernel
abbrev cX12_init : ByteArray := prog_14_method_1_code
def yX12_init : MethodName := ⟨RX12, "<init>", "()V"⟩
abbrev cX12_feed : ByteArray := prog_14_method_2_code
def yX12_feed : MethodName := ⟨RX12, "feed", "(IIIII)I"⟩
abbrev cX12_four : ByteArray := prog_14_method_3_code
def yX12_four : MethodName := ⟨RX12, "four", "(I)V"⟩
abbrev cX12_end : ByteArray := prog_14_method_4_code
def yX12_end : MethodName := ⟨RX12, "end", "(I)I"⟩
abbrev cX12_here : ByteArray := prog_14_method_5_code
def yX12_here : MethodName := ⟨RX12, "here", "(I)I"⟩
abbrev cX12_isLetter : ByteArray := prog_14_method_6_code
def yX12_isLetter : MethodName := ⟨RX12, "isLetter", "(I)Z"⟩
abbrev cX12_isDigit : ByteArray := prog_14_method_7_code
def yX12_isDigit : MethodName := ⟨RX12, "isDigit", "(I)Z"⟩
abbrev cX12_isSign : ByteArray := prog_14_method_8_code
def yX12_isSign : MethodName := ⟨RX12, "isSign", "(I)Z"⟩
abbrev cX12_token : ByteArray := prog_14_method_9_code
def yX12_token : MethodName := ⟨RX12, "token", "()V"⟩
abbrev cX12_wrong : ByteArray := prog_14_method_10_code
def yX12_wrong : MethodName := ⟨RX12, "wrong", "(I)V"⟩
abbrev cX12_isWord : ByteArray := prog_14_method_11_code
def yX12_isWord : MethodName := ⟨RX12, "isWord", "(J)Z"⟩
abbrev cX12_isOwn : ByteArray := prog_14_method_12_code
def yX12_isOwn : MethodName := ⟨RX12, "isOwn", "()Z"⟩
abbrev cX12_isName : ByteArray := prog_14_method_13_code
def yX12_isName : MethodName := ⟨RX12, "isName", "()Z"⟩
abbrev cX12_want : ByteArray := prog_14_method_14_code
def yX12_want : MethodName := ⟨RX12, "want", "(J)V"⟩
abbrev cX12_toldNumber : ByteArray := prog_14_method_15_code
def yX12_toldNumber : MethodName := ⟨RX12, "toldNumber", "(II)I"⟩
abbrev cX12_told : ByteArray := prog_14_method_16_code
def yX12_told : MethodName := ⟨RX12, "told", "(JII)I"⟩
abbrev cX12_option : ByteArray := prog_14_method_17_code
def yX12_option : MethodName := ⟨RX12, "option", "(JIII)I"⟩
abbrev cX12_find : ByteArray := prog_14_method_18_code
def yX12_find : MethodName := ⟨RX12, "find", "(II)I"⟩
abbrev cX12_newName : ByteArray := prog_14_method_19_code
def yX12_newName : MethodName := ⟨RX12, "newName", "(II)V"⟩
abbrev cX12_oldName : ByteArray := prog_14_method_20_code
def yX12_oldName : MethodName := ⟨RX12, "oldName", "(II)I"⟩
abbrev cX12_add : ByteArray := prog_14_method_21_code
def yX12_add : MethodName := ⟨RX12, "add", "(II)V"⟩
abbrev cX12_tight : ByteArray := prog_14_method_22_code
def yX12_tight : MethodName := ⟨RX12, "tight", "(I)I"⟩
abbrev cX12_close : ByteArray := prog_14_method_23_code
def yX12_close : MethodName := ⟨RX12, "close", "(I)V"⟩
abbrev cX12_hasRelation : ByteArray := prog_14_method_24_code
def yX12_hasRelation : MethodName := ⟨RX12, "hasRelation", "()Z"⟩
abbrev cX12_mayNot : ByteArray := prog_14_method_25_code
def yX12_mayNot : MethodName := ⟨RX12, "mayNot", "()Z"⟩
abbrev cX12_asked : ByteArray := prog_14_method_26_code
def yX12_asked : MethodName := ⟨RX12, "asked", "()I"⟩
abbrev cX12_isFull : ByteArray := prog_14_method_27_code
def yX12_isFull : MethodName := ⟨RX12, "isFull", "()Z"⟩
abbrev cX12_countUnit : ByteArray := prog_14_method_28_code
def yX12_countUnit : MethodName := ⟨RX12, "countUnit", "()V"⟩
abbrev cX12_openUp : ByteArray := prog_14_method_29_code
def yX12_openUp : MethodName := ⟨RX12, "openUp", "(I)V"⟩
abbrev cX12_unit : ByteArray := prog_14_method_30_code
def yX12_unit : MethodName := ⟨RX12, "unit", "()V"⟩
abbrev cX12_sign : ByteArray := prog_14_method_31_code
def yX12_sign : MethodName := ⟨RX12, "sign", "()I"⟩
abbrev cX12_hasBracket : ByteArray := prog_14_method_32_code
def yX12_hasBracket : MethodName := ⟨RX12, "hasBracket", "()Z"⟩
abbrev cX12_readWear : ByteArray := prog_14_method_33_code
def yX12_readWear : MethodName := ⟨RX12, "readWear", "()V"⟩
abbrev cX12_truth : ByteArray := prog_14_method_34_code
def yX12_truth : MethodName := ⟨RX12, "truth", "(Z)I"⟩
abbrev cX12_done : ByteArray := prog_14_method_35_code
def yX12_done : MethodName := ⟨RX12, "done", "(III)I"⟩
abbrev cX12_wearOf : ByteArray := prog_14_method_36_code
def yX12_wearOf : MethodName := ⟨RX12, "wearOf", "(IIII)I"⟩
abbrev cX12_readMan : ByteArray := prog_14_method_37_code
def yX12_readMan : MethodName := ⟨RX12, "readMan", "()V"⟩
abbrev cX12_readDeed : ByteArray := prog_14_method_38_code
def yX12_readDeed : MethodName := ⟨RX12, "readDeed", "()V"⟩
abbrev cX12_readButton : ByteArray := prog_14_method_39_code
def yX12_readButton : MethodName := ⟨RX12, "readButton", "()V"⟩
abbrev cX12_readFriend : ByteArray := prog_14_method_40_code
def yX12_readFriend : MethodName := ⟨RX12, "readFriend", "()V"⟩
abbrev cX12_readLine : ByteArray := prog_14_method_41_code
def yX12_readLine : MethodName := ⟨RX12, "readLine", "()V"⟩
abbrev cX12_readAll : ByteArray := prog_14_method_42_code
def yX12_readAll : MethodName := ⟨RX12, "readAll", "()V"⟩
abbrev cX12_regiment : ByteArray := prog_14_method_43_code
def yX12_regiment : MethodName := ⟨RX12, "regiment", "()I"⟩
abbrev cX12_fault : ByteArray := prog_14_method_44_code
def yX12_fault : MethodName := ⟨RX12, "fault", "(I)I"⟩
abbrev cX12_isIn : ByteArray := prog_14_method_45_code
def yX12_isIn : MethodName := ⟨RX12, "isIn", "(III)Z"⟩
abbrev cX12_isMan : ByteArray := prog_14_method_46_code
def yX12_isMan : MethodName := ⟨RX12, "isMan", "(I)Z"⟩
abbrev cX12_isDeed : ByteArray := prog_14_method_47_code
def yX12_isDeed : MethodName := ⟨RX12, "isDeed", "(I)Z"⟩
abbrev cX12_isButton : ByteArray := prog_14_method_48_code
def yX12_isButton : MethodName := ⟨RX12, "isButton", "(I)Z"⟩
abbrev cX12_isOn : ByteArray := prog_14_method_49_code
def yX12_isOn : MethodName := ⟨RX12, "isOn", "(I)Z"⟩
abbrev cX12_button : ByteArray := prog_14_method_50_code
def yX12_button : MethodName := ⟨RX12, "button", "(II)I"⟩
abbrev cX12_coat : ByteArray := prog_14_method_51_code
def yX12_coat : MethodName := ⟨RX12, "coat", "(II)I"⟩
abbrev cX12_free : ByteArray := prog_14_method_52_code
def yX12_free : MethodName := ⟨RX12, "free", "()I"⟩
abbrev cX12_sworn : ByteArray := prog_14_method_53_code
def yX12_sworn : MethodName := ⟨RX12, "sworn", "(II)I"⟩
abbrev cX12_many : ByteArray := prog_14_method_54_code
def yX12_many : MethodName := ⟨RX12, "many", "(I)I"⟩
abbrev cX12_act : ByteArray := prog_14_method_55_code
def yX12_act : MethodName := ⟨RX12, "act", "()V"⟩
abbrev cX12_exchange : ByteArray := prog_14_method_56_code
def yX12_exchange : MethodName := ⟨RX12, "exchange", "(I)V"⟩
abbrev cX12_does : ByteArray := prog_14_method_57_code
def yX12_does : MethodName := ⟨RX12, "does", "(II)I"⟩
abbrev cX12_undoes : ByteArray := prog_14_method_58_code
def yX12_undoes : MethodName := ⟨RX12, "undoes", "(I)Z"⟩
abbrev cX12_cut : ByteArray := prog_14_method_59_code
def yX12_cut : MethodName := ⟨RX12, "cut", "(I)I"⟩
abbrev cX12_sew : ByteArray := prog_14_method_60_code
def yX12_sew : MethodName := ⟨RX12, "sew", "(I)I"⟩
abbrev cX12_load : ByteArray := prog_14_method_61_code
def yX12_load : MethodName := ⟨RX12, "load", "()V"⟩
abbrev cX12_goDay : ByteArray := prog_14_method_62_code
def yX12_goDay : MethodName := ⟨RX12, "goDay", "()I"⟩
abbrev cX12_day : ByteArray := prog_14_method_63_code
def yX12_day : MethodName := ⟨RX12, "day", "()I"⟩
abbrev cX12_undo : ByteArray := prog_14_method_64_code
def yX12_undo : MethodName := ⟨RX12, "undo", "()Z"⟩
abbrev cX12_redo : ByteArray := prog_14_method_65_code
def yX12_redo : MethodName := ⟨RX12, "redo", "()Z"⟩
abbrev cX12_doneOn : ByteArray := prog_14_method_66_code
def yX12_doneOn : MethodName := ⟨RX12, "doneOn", "(I)I"⟩
abbrev cX12_isForbidden : ByteArray := prog_14_method_67_code
def yX12_isForbidden : MethodName := ⟨RX12, "isForbidden", "(III)Z"⟩
abbrev cX12_keptOf : ByteArray := prog_14_method_68_code
def yX12_keptOf : MethodName := ⟨RX12, "keptOf", "(III)I"⟩
abbrev cX12_canPut : ByteArray := prog_14_method_69_code
def yX12_canPut : MethodName := ⟨RX12, "canPut", "(II)Z"⟩
abbrev cX12_beginOrder : ByteArray := prog_14_method_70_code
def yX12_beginOrder : MethodName := ⟨RX12, "beginOrder", "()V"⟩
abbrev cX12_nextOrder : ByteArray := prog_14_method_71_code
def yX12_nextOrder : MethodName := ⟨RX12, "nextOrder", "(I)Z"⟩
abbrev cX12_members : ByteArray := prog_14_method_72_code
def yX12_members : MethodName := ⟨RX12, "members", "(I)I"⟩
abbrev cX12_isAhead : ByteArray := prog_14_method_73_code
def yX12_isAhead : MethodName := ⟨RX12, "isAhead", "()Z"⟩
abbrev cX12_isBetter : ByteArray := prog_14_method_74_code
def yX12_isBetter : MethodName := ⟨RX12, "isBetter", "()Z"⟩
abbrev cX12_layBest : ByteArray := prog_14_method_75_code
def yX12_layBest : MethodName := ⟨RX12, "layBest", "(II)V"⟩
abbrev cX12_keep : ByteArray := prog_14_method_76_code
def yX12_keep : MethodName := ⟨RX12, "keep", "(II)I"⟩
abbrev cX12_rest : ByteArray := prog_14_method_77_code
def yX12_rest : MethodName := ⟨RX12, "rest", "(I)I"⟩
abbrev cX12_ties : ByteArray := prog_14_method_78_code
def yX12_ties : MethodName := ⟨RX12, "ties", "(II)I"⟩
abbrev cX12_layCanKeep : ByteArray := prog_14_method_79_code
def yX12_layCanKeep : MethodName := ⟨RX12, "layCanKeep", "(I)V"⟩
abbrev cX12_clash : ByteArray := prog_14_method_80_code
def yX12_clash : MethodName := ⟨RX12, "clash", "(II)I"⟩
abbrev cX12_leaving : ByteArray := prog_14_method_81_code
def yX12_leaving : MethodName := ⟨RX12, "leaving", "(II)I"⟩
abbrev cX12_leave : ByteArray := prog_14_method_82_code
def yX12_leave : MethodName := ⟨RX12, "leave", "(II)I"⟩
abbrev cX12_asked_ : ByteArray := prog_14_method_83_code
def yX12_asked_ : MethodName := ⟨RX12, "asked", "(II)I"⟩
abbrev cX12_threadBy : ByteArray := prog_14_method_84_code
def yX12_threadBy : MethodName := ⟨RX12, "threadBy", "(III)I"⟩
abbrev cX12_threadSame : ByteArray := prog_14_method_85_code
def yX12_threadSame : MethodName := ⟨RX12, "threadSame", "(III)I"⟩
abbrev cX12_holds : ByteArray := prog_14_method_86_code
def yX12_holds : MethodName := ⟨RX12, "holds", "(III)I"⟩
abbrev cX12_common : ByteArray := prog_14_method_87_code
def yX12_common : MethodName := ⟨RX12, "common", "(JJ)J"⟩
abbrev cX12_odds : ByteArray := prog_14_method_88_code
def yX12_odds : MethodName := ⟨RX12, "odds", "(III)J"⟩
abbrev cX12_daysOf : ByteArray := prog_14_method_89_code
def yX12_daysOf : MethodName := ⟨RX12, "daysOf", "(I)I"⟩
abbrev cX12_first : ByteArray := prog_14_method_90_code
def yX12_first : MethodName := ⟨RX12, "first", "(I)I"⟩
abbrev cX12_will : ByteArray := prog_14_method_91_code
def yX12_will : MethodName := ⟨RX12, "will", "(II)I"⟩
abbrev cX12_rowsOf : ByteArray := prog_14_method_92_code
def yX12_rowsOf : MethodName := ⟨RX12, "rowsOf", "()I"⟩
abbrev cX12_isTold : ByteArray := prog_14_method_93_code
def yX12_isTold : MethodName := ⟨RX12, "isTold", "(II)Z"⟩
abbrev cX12_layTwos : ByteArray := prog_14_method_94_code
def yX12_layTwos : MethodName := ⟨RX12, "layTwos", "(I)Z"⟩
abbrev cX12_has : ByteArray := prog_14_method_95_code
def yX12_has : MethodName := ⟨RX12, "has", "(I)I"⟩
abbrev cX12_putTwos : ByteArray := prog_14_method_96_code
def yX12_putTwos : MethodName := ⟨RX12, "putTwos", "()V"⟩
abbrev cX12_truce : ByteArray := prog_14_method_97_code
def yX12_truce : MethodName := ⟨RX12, "truce", "()I"⟩
abbrev cX12_isCalm : ByteArray := prog_14_method_98_code
def yX12_isCalm : MethodName := ⟨RX12, "isCalm", "()Z"⟩
abbrev cX12_calm : ByteArray := prog_14_method_99_code
def yX12_calm : MethodName := ⟨RX12, "calm", "()I"⟩
abbrev cX12_likes : ByteArray := prog_14_method_100_code
def yX12_likes : MethodName := ⟨RX12, "likes", "(II)I"⟩
abbrev cX12_lies : ByteArray := prog_14_method_101_code
def yX12_lies : MethodName := ⟨RX12, "lies", "(I)I"⟩
abbrev cX12_tug : ByteArray := prog_14_method_102_code
def yX12_tug : MethodName := ⟨RX12, "tug", "(IIZ)I"⟩
abbrev cX12_untell : ByteArray := prog_14_method_103_code
def yX12_untell : MethodName := ⟨RX12, "untell", "(I)Z"⟩
abbrev cX12_later : ByteArray := prog_14_method_104_code
def yX12_later : MethodName := ⟨RX12, "later", "(I)I"⟩
abbrev cX12_markOf : ByteArray := prog_14_method_105_code
def yX12_markOf : MethodName := ⟨RX12, "markOf", "(II)I"⟩
abbrev cX12_swears : ByteArray := prog_14_method_106_code
def yX12_swears : MethodName := ⟨RX12, "swears", "(II)Z"⟩
abbrev cX12_swore : ByteArray := prog_14_method_107_code
def yX12_swore : MethodName := ⟨RX12, "swore", "(I)I"⟩
abbrev cX12_mostLeft : ByteArray := prog_14_method_108_code
def yX12_mostLeft : MethodName := ⟨RX12, "mostLeft", "(II)I"⟩
abbrev cX12_ask : ByteArray := prog_14_method_109_code
def yX12_ask : MethodName := ⟨RX12, "ask", "(II)I"⟩
abbrev cX12_isBox : ByteArray := prog_14_method_110_code
def yX12_isBox : MethodName := ⟨RX12, "isBox", "(I)Z"⟩
abbrev cX12_image : ByteArray := prog_14_method_111_code
def yX12_image : MethodName := ⟨RX12, "image", "(I)I"⟩
abbrev cX12_back : ByteArray := prog_14_method_112_code
def yX12_back : MethodName := ⟨RX12, "back", "(I)I"⟩
abbrev cX12_about : ByteArray := prog_14_method_113_code
def yX12_about : MethodName := ⟨RX12, "about", "(I)I"⟩
def RJ11 : String := "java/lang/Character"
abbrev cJ11_isValidCodePoint_9a6ad : ByteArray := prog_15_method_11_code
def yJ11_isValidCodePoint_9a6ad : MethodName := ⟨RJ11, "isValidCodePoint", "(I)Z"⟩
abbrev cJ11_highSurrogate_5068e : ByteArray := prog_15_method_28_code
def yJ11_highSurrogate_5068e : MethodName := ⟨RJ11, "highSurrogate", "(I)C"⟩
abbrev cJ11_lowSurrogate_5068e : ByteArray := prog_15_method_29_code
def yJ11_lowSurrogate_5068e : MethodName := ⟨RJ11, "lowSurrogate", "(I)C"⟩
def RJ6 : String := "java/lang/Integer"
abbrev cJ6_bitCount_0f7a4 : ByteArray := prog_16_method_49_code
def yJ6_bitCount_0f7a4 : MethodName := ⟨RJ6, "bitCount", "(I)I"⟩
def RJ9 : String := "java/lang/Math"
abbrev cJ9_max_7cf53 : ByteArray := prog_17_method_65_code
def yJ9_max_7cf53 : MethodName := ⟨RJ9, "max", "(II)I"⟩
abbrev cJ9_min_7cf53 : ByteArray := prog_17_method_69_code
def yJ9_min_7cf53 : MethodName := ⟨RJ9, "min", "(II)I"⟩
def RJ0 : String := "java/lang/String"
abbrev cJ0_length_8abf5 : ByteArray := prog_18_method_54_code
def yJ0_length_8abf5 : MethodName := ⟨RJ0, "length", "()I"⟩
abbrev cJ0_charAt_5068e : ByteArray := prog_18_method_56_code
def yJ0_charAt_5068e : MethodName := ⟨RJ0, "charAt", "(I)C"⟩
abbrev cJ0_indexOf_0f7a4 : ByteArray := prog_18_method_79_code
def yJ0_indexOf_0f7a4 : MethodName := ⟨RJ0, "indexOf", "(I)I"⟩
abbrev cJ0_indexOf_7cf53 : ByteArray := prog_18_method_80_code
def yJ0_indexOf_7cf53 : MethodName := ⟨RJ0, "indexOf", "(II)I"⟩
abbrev cJ0_coder_7d493 : ByteArray := prog_18_method_152_code
def yJ0_coder_7d493 : MethodName := ⟨RJ0, "coder", "()B"⟩
abbrev cJ0_isLatin1_aae02 : ByteArray := prog_18_method_154_code
def yJ0_isLatin1_aae02 : MethodName := ⟨RJ0, "isLatin1", "()Z"⟩
abbrev cJ0_checkIndex_df160 : ByteArray := prog_18_method_155_code
def yJ0_checkIndex_df160 : MethodName := ⟨RJ0, "checkIndex", "(II)V"⟩
abbrev cJ0_checkBoundsBeginEnd_23922 : ByteArray := prog_18_method_158_code
def yJ0_checkBoundsBeginEnd_23922 : MethodName := ⟨RJ0, "checkBoundsBeginEnd", "(III)V"⟩
def RJ1 : String := "java/lang/StringLatin1"
abbrev cJ1_charAt_3b067 : ByteArray := prog_19_method_2_code
def yJ1_charAt_3b067 : MethodName := ⟨RJ1, "charAt", "([BI)C"⟩
abbrev cJ1_canEncode_9a6ad : ByteArray := prog_19_method_4_code
def yJ1_canEncode_9a6ad : MethodName := ⟨RJ1, "canEncode", "(I)Z"⟩
abbrev cJ1_indexOf_4cfef : ByteArray := prog_19_method_22_code
def yJ1_indexOf_4cfef : MethodName := ⟨RJ1, "indexOf", "([BIII)I"⟩
abbrev cJ1_indexOfChar_4cfef : ByteArray := prog_19_method_23_code
def yJ1_indexOfChar_4cfef : MethodName := ⟨RJ1, "indexOfChar", "([BIII)I"⟩
def RJ2 : String := "java/lang/StringUTF16"
abbrev cJ2_getChar_3b067 : ByteArray := prog_20_method_5_code
def yJ2_getChar_3b067 : MethodName := ⟨RJ2, "getChar", "([BI)C"⟩
abbrev cJ2_length_9d52b : ByteArray := prog_20_method_6_code
def yJ2_length_9d52b : MethodName := ⟨RJ2, "length", "([B)I"⟩
abbrev cJ2_indexOf_4cfef : ByteArray := prog_20_method_40_code
def yJ2_indexOf_4cfef : MethodName := ⟨RJ2, "indexOf", "([BIII)I"⟩
abbrev cJ2_indexOfChar_4cfef : ByteArray := prog_20_method_47_code
def yJ2_indexOfChar_4cfef : MethodName := ⟨RJ2, "indexOfChar", "([BIII)I"⟩
abbrev cJ2_indexOfCharUnsafe_4cfef : ByteArray := prog_20_method_48_code
def yJ2_indexOfCharUnsafe_4cfef : MethodName := ⟨RJ2, "indexOfCharUnsafe", "([BIII)I"⟩
abbrev cJ2_indexOfSupplementary_4cfef : ByteArray := prog_20_method_49_code
def yJ2_indexOfSupplementary_4cfef : MethodName := ⟨RJ2, "indexOfSupplementary", "([BIII)I"⟩
abbrev cJ2_charAt_3b067 : ByteArray := prog_20_method_83_code
def yJ2_charAt_3b067 : MethodName := ⟨RJ2, "charAt", "([BI)C"⟩
abbrev cJ2_checkIndex_2214a : ByteArray := prog_20_method_91_code
def yJ2_checkIndex_2214a : MethodName := ⟨RJ2, "checkIndex", "(I[B)V"⟩
abbrev cJ2_checkBoundsBeginEnd_d044e : ByteArray := prog_20_method_93_code
def yJ2_checkBoundsBeginEnd_d044e : MethodName := ⟨RJ2, "checkBoundsBeginEnd", "(II[B)V"⟩
def RJ10 : String := "java/lang/System"
def RJ3 : String := "jdk/internal/util/Preconditions"
abbrev cJ3_checkIndex_8e157 : ByteArray := prog_22_method_11_code
def yJ3_checkIndex_8e157 : MethodName := ⟨RJ3, "checkIndex", "(IILjava/util/function/BiFunction;)I"⟩
abbrev cJ3_checkFromToIndex_8c36e : ByteArray := prog_22_method_12_code
def yJ3_checkFromToIndex_8c36e : MethodName := ⟨RJ3, "checkFromToIndex", "(IIILjava/util/function/BiFunction;)I"⟩
def RL : String := "OathButtonsLaw"
abbrev cL_law : ByteArray := code
def yL_law : MethodName := ⟨RL, "law", "([I)Z"⟩
abbrev vwCl : List vw_C := [(RX0, TX0, 2), (RX1, TX1, 2), (RX2, TX2, 6), (RX3, TX3, 12), (RX4, TX4, 7), (RX5, TX5, 20), (RX6, TX6, 2), (RX7, TX7, 9), (RX8, TX8, 7), (RX9, TX9, 8), (RX10, TX10, 4), (RX11, TX11, 14), (RX12, TX12, 97)]
end
section
section
-- a system's state: ints of (cell, place), longs of (cell, place), the array that a cell's one changing reference names
abbrev xSt : Type := (Nat → Nat → Int32) × (Nat → Nat → Int64) × (Nat → Nat)
-- a cell: an array (0 int, 1 byte, 2 boolean, 3 long; its length), or an object (class; its places: 0 int, 1 long, 2 a changing reference, k + 3 the cell k)
abbrev xKind : Type := (Nat × Nat) ⊕ (Nat × List Nat)
-- launch, classes and slots, array classes, addresses, layout, what holds of the tables and of cells outside
abbrev xG : Type := Launch × va_G × (Nat → ClassId) × (Nat → Nat) × List xKind × (State → Prop)
-- a method: name, code, locals, answer
abbrev xY : Type := MethodName × ByteArray × Nat × Option FieldType
def x_putI (S : xSt) (c j : Nat) (v : Int32) : xSt := (fun c' => if c' = c then upd (S.1 c) j v else S.1 c', S.2.1, S.2.2)
def x_putL (S : xSt) (c j : Nat) (v : Int64) : xSt := (S.1, fun c' => if c' = c then vp_updL (S.2.1 c) j v else S.2.1 c', S.2.2)
def x_putR (S : xSt) (c r : Nat) : xSt := (S.1, S.2.1, fun c' => if c' = c then r else S.2.2 c')
def x_putA (S : xSt) (c : Nat) (f : Nat → Int32) : xSt := (fun c' => if c' = c then f else S.1 c', S.2.1, S.2.2)
def x_sv (ad : Nat → Nat) (S : xSt) (c j k : Nat) : Value := match k with
  | 0 => .int (S.1 c j)
  | 1 => .long (S.2.1 c j)
  | 2 => .ref (ad (S.2.2 c))
  | k + 3 => .ref (ad k)
def x_fs (ad : Nat → Nat) (S : xSt) (c : Nat) : Nat → List Nat → List Value
  | _, [] => []
  | j, k :: t => x_sv ad S c j k :: x_fs ad S c (j + 1) t
def x_arr (S : xSt) (c t : Nat) : (Nat → Int32) ⊕ (Nat → Int64) ⊕ (Nat → UInt32) ⊕ (Nat → UInt64) ⊕ (Nat → Option Nat) := match t with
  | 3 => .inr (.inl (S.2.1 c))
  | _ => .inl (S.1 c)
def x_cell (ta : Nat → ClassId) (ad : Nat → Nat) (S : xSt) (c : Nat) (k : xKind) : va_E := match k with
  | .inl q => .inl (ta q.1, q.2, x_arr S c q.1)
  | .inr q => .inr (q.1, x_fs ad S c 0 q.2)
def x_W (ta : Nat → ClassId) (ad : Nat → Nat) (S : xSt) : Nat → List xKind → va_W
  | _, [] => []
  | c, k :: t => (ad c, x_cell ta ad S c k) :: x_W ta ad S (c + 1) t
abbrev x_ws (G : xG) (S : xSt) : va_W := x_W G.2.2.1 G.2.2.2.1 S 0 G.2.2.2.2.1
abbrev x_tys (G : xG) : List (ClassId × FieldType) := [(G.2.2.1 0, .int), (G.2.2.1 1, .byte), (G.2.2.1 2, .boolean), (G.2.2.1 3, .long)]
abbrev x_ad (G : xG) : Nat → Nat := G.2.2.2.1
def x_A (G : xG) : Nat → Prop := fun q => ∃ c, c < G.2.2.2.2.1.length ∧ q = G.2.2.2.1 c
def x_ok (G : xG) : Prop := (∀ i j, i < G.2.2.2.2.1.length → j < G.2.2.2.2.1.length → x_ad G i = x_ad G j → i = j) ∧ (∀ s U : State, G.2.2.2.2.2 s → s.WarmedH U.vm → va_F (x_A G) s U → G.2.2.2.2.2 U) ∧ (∀ s U : State, G.2.2.2.2.2 s → U.vm = s.vm → U.heap = s.heap → G.2.2.2.2.2 U)
def x_TT : List Cond := lw_tbl.filter goodWord
theorem x_TT_of {w : Cond} (h : w ∈ lw_tbl) (hg : goodWord w = true) : w ∈ x_TT := List.mem_filter.mpr ⟨h, hg⟩
abbrev x_wsY (Y : xY) : List Cond := Cond.code Y.1 Y.2.1 Y.2.2.1 Y.2.2.2 :: x_TT
abbrev x_room (d : Nat) : Room := { frames := d, cells := 0, slots := 0, locals := 64 * d }
def x_C (p : Program) (s : State) (m : MethodId) (args : Array Value) (meth : Method) (c : Code) (Y : xY) : Prop :=
  p.tables.exec = Jvm.exec ∧ c.code = Y.2.1 ∧ meth.sig.returnType = Y.2.2.2 ∧ c.maxLocals = Y.2.2.1 ∧ s.vm.findClass Y.1.cls = some m.cls ∧ (∀ w ∈ x_wsY Y, w.before args s = true) ∧ meth.locks = false
def x_Pre (G : xG) (S : xSt) (U : State) : Prop := x_ok G ∧ va_K G.2.1 vwCl (x_tys G) U ∧ va_P G.2.1 vwCl (x_ws G S) U.heap ∧ G.2.2.2.2.2 U
def x_Q (G : xG) (K : Option Value → xSt → Prop) : Array Value → State → Outcome → State → Prop := fun _ st oc t => (∃ (r : Option Value) (S : xSt), oc = .returned r ∧ K r S ∧ va_P G.2.1 vwCl (x_ws G S) t.heap) ∧ va_F (x_A G) st t
def E (G : xG) (d : Nat) (Y : xY) (as : List Value) (S : xSt) (K : Option Value → xSt → Prop) : Prop :=
  Met G.1 Y.1 (x_wsY Y) (x_room d) (va_Pc as (x_Pre G S)) (x_Q G K) 0 0 (x_A G)
def X (G : xG) (d : Nat) (Y : xY) (pc : Nat) (lv : List (Nat × Value)) (st : List Value) (S : xSt) (K : Option Value → xSt → Prop) : Prop :=
  ∀ (p : Program) (e : Env) (s : State) (m : MethodId) (args : Array Value) (below : List Frame) (meth : Method) (c : Code) (H : Heap) (locs : List Loc) (ls : Array Slot),
    x_C p s m args meth c Y → x_ok G → va_K G.2.1 vwCl (x_tys G) s → G.2.2.2.2.2 s → va_P G.2.1 vwCl (x_ws G S) H → va_S (x_A G) s.heap H locs → lv_has ls Y.2.2.1 lv →
    W p G.1 e (x_room d) s m args below meth c H locs 0 0 (MQ below (x_Q G K) args s 0 0 (x_A G)) (F0 m pc ls st)
-- an int's, a long's, no answer
abbrev kI (K : Int32 → xSt → Prop) : Option Value → xSt → Prop := fun r S => ∃ x, r = some (.int x) ∧ K x S
abbrev kL (K : Int64 → xSt → Prop) : Option Value → xSt → Prop := fun r S => ∃ x, r = some (.long x) ∧ K x S
abbrev kV (K : xSt → Prop) : Option Value → xSt → Prop := fun r S => r = none ∧ K S
-- locals
def x_get : List (Nat × Value) → Nat → Option Value
  | [], _ => none
  | q :: t, i => if q.1 = i then some q.2 else x_get t i
def x_ins (i : Nat) (v : Value) : List (Nat × Value) → List (Nat × Value)
  | [] => [(i, v)]
  | q :: t => if i < q.1 then (i, v) :: q :: t else q :: x_ins i v t
abbrev x_set (lv : List (Nat × Value)) (i : Nat) (v : Value) : List (Nat × Value) := x_ins i v (lv.filter (fun q => !(q.1 == i) && !(q.1 + 1 == i && q.2.category == 2)))
abbrev x_set2 (lv : List (Nat × Value)) (i : Nat) (v : Value) : List (Nat × Value) := x_ins i v (lv.filter (fun q => !(q.1 == i) && (!(q.1 == i + 1) && !(q.1 + 1 == i && q.2.category == 2))))
theorem x_get_mem : ∀ {lv : List (Nat × Value)} {i : Nat} {v : Value}, x_get lv i = some v → (i, v) ∈ lv
  | [], _, _, h => by simp [x_get] at h
  | q :: t, i, v, h => by
    unfold x_get at h
    by_cases e : q.1 = i
    · rw [if_pos e] at h
      obtain rfl := Option.some.inj h
      subst e
      exact List.mem_cons_self
    · rw [if_neg e] at h
      exact List.mem_cons_of_mem _ (x_get_mem h)
theorem x_get_at {ls : Array Slot} {nL : Nat} {lv : List (Nat × Value)} (h : lv_has ls nL lv) {i : Nat} {v : Value} (hk : x_get lv i = some v) : ls[i]? = some (.val v) := h.2.2 (i, v) (x_get_mem hk)
theorem x_ins_mem (i : Nat) (v : Value) : ∀ (l : List (Nat × Value)) (q : Nat × Value), q ∈ x_ins i v l → q ∈ (i, v) :: l
  | [], q, h => h
  | r :: t, q, h => by
    unfold x_ins at h
    by_cases e : i < r.1
    · rw [if_pos e] at h; exact h
    · rw [if_neg e] at h
      rcases List.mem_cons.mp h with h | h
      · subst h; exact List.mem_cons_of_mem _ List.mem_cons_self
      · rcases List.mem_cons.mp (x_ins_mem i v t q h) with h | h
        · subst h; exact List.mem_cons_self
        · exact List.mem_cons_of_mem _ (List.mem_cons_of_mem _ h)
theorem x_ins_has {ls : Array Slot} {nL i : Nat} {v : Value} {l : List (Nat × Value)} (h : lv_has ls nL ((i, v) :: l)) : lv_has ls nL (x_ins i v l) := ⟨h.1, h.2.1, fun q hq => h.2.2 q (x_ins_mem i v l q hq)⟩
-- the world as a list
theorem x_W_get (ta : Nat → ClassId) (ad : Nat → Nat) (S : xSt) : ∀ (lay : List xKind) (i c : Nat), (x_W ta ad S i lay)[c]? = (lay[c]?).map (fun k => (ad (i + c), x_cell ta ad S (i + c) k))
  | [], i, c => by simp [x_W]
  | k :: t, i, 0 => by simp [x_W]
  | k :: t, i, c + 1 => by
    show (x_W ta ad S (i + 1) t)[c]? = _
    rw [x_W_get ta ad S t (i + 1) c, show i + 1 + c = i + (c + 1) by omega]
    rfl
theorem x_ws_get {G : xG} {S : xSt} {c : Nat} {k : xKind} (h : G.2.2.2.2.1[c]? = some k) : (x_ws G S)[c]? = some (x_ad G c, x_cell G.2.2.1 (x_ad G) S c k) := by
  rw [x_W_get, h]; simp
theorem x_ws_len (G : xG) (S : xSt) : (x_ws G S).length = G.2.2.2.2.1.length := by
  have h : ∀ (lay : List xKind) (i : Nat), (x_W G.2.2.1 G.2.2.2.1 S i lay).length = lay.length := by
    intro lay
    induction lay with
    | nil => intro i; rfl
    | cons k t ih => intro i; show (x_W _ _ S (i + 1) t).length + 1 = t.length + 1; rw [ih]
  exact h _ 0
theorem x_D {G : xG} (hG : x_ok G) (S : xSt) : va_D (x_A G) (x_ws G S) := by
  have at' : ∀ (i : Nat) (q : Nat × va_E), (x_ws G S)[i]? = some q → i < G.2.2.2.2.1.length ∧ q.1 = x_ad G i := by
    intro i q h
    rw [x_W_get] at h
    cases e : G.2.2.2.2.1[i]? with
    | none => rw [e] at h; cases h
    | some k =>
      rw [e] at h
      obtain rfl := Option.some.inj h
      exact ⟨(List.getElem?_eq_some_iff.mp e).1, by simp⟩
  refine ⟨fun i j p q hp hq he => ?_, fun k q h => ?_⟩
  · obtain ⟨a1, a2⟩ := at' i p hp
    obtain ⟨b1, b2⟩ := at' j q hq
    exact hG.1 i j a1 b1 (by rw [← a2, ← b2]; exact he)
  · obtain ⟨a1, a2⟩ := at' k q h
    exact ⟨k, a1, a2⟩
theorem x_ws_set {G : xG} {S S' : xSt} {c : Nat} {k : xKind} (h : G.2.2.2.2.1[c]? = some k) (ho : ∀ c', c' ≠ c → S'.1 c' = S.1 c' ∧ S'.2.1 c' = S.2.1 c' ∧ S'.2.2 c' = S.2.2 c') : (x_ws G S).set c (x_ad G c, x_cell G.2.2.1 (x_ad G) S' c k) = x_ws G S' := by
  have hfs : ∀ (c' : Nat), c' ≠ c → ∀ (l : List Nat) (j : Nat), x_fs (x_ad G) S' c' j l = x_fs (x_ad G) S c' j l := by
    intro c' hc l
    obtain ⟨a1, a2, a3⟩ := ho c' hc
    induction l with
    | nil => intro j; rfl
    | cons q t ih =>
      intro j
      show x_sv _ S' c' j q :: _ = x_sv _ S c' j q :: _
      rw [ih]
      unfold x_sv
      rw [a1, a2, a3]
  apply List.ext_getElem?
  intro i
  rw [List.getElem?_set, x_W_get, x_W_get]
  by_cases e : c = i
  · subst e
    have hl : c < (x_ws G S).length := by rw [x_ws_len]; exact (List.getElem?_eq_some_iff.mp h).1
    rw [if_pos rfl, if_pos hl, h]; simp
  · rw [if_neg e]
    cases hh : G.2.2.2.2.1[i]? with
    | none => rfl
    | some k' =>
      simp only [Option.map_some, Nat.zero_add]
      obtain ⟨a1, a2, a3⟩ := ho i (fun q => e q.symm)
      congr 2
      cases k' with
      | inl q =>
        show Sum.inl (_, _, x_arr S i q.1) = Sum.inl (_, _, x_arr S' i q.1)
        unfold x_arr
        rw [a1, a2]
      | inr q => show Sum.inr (_, x_fs _ S i 0 q.2) = Sum.inr (_, x_fs _ S' i 0 q.2); rw [hfs i (fun q => e q.symm)]
theorem x_putI_o (S : xSt) (c j : Nat) (v : Int32) : ∀ c', c' ≠ c → (x_putI S c j v).1 c' = S.1 c' ∧ (x_putI S c j v).2.1 c' = S.2.1 c' ∧ (x_putI S c j v).2.2 c' = S.2.2 c' := fun c' h => ⟨if_neg h, rfl, rfl⟩
theorem x_putL_o (S : xSt) (c j : Nat) (v : Int64) : ∀ c', c' ≠ c → (x_putL S c j v).1 c' = S.1 c' ∧ (x_putL S c j v).2.1 c' = S.2.1 c' ∧ (x_putL S c j v).2.2 c' = S.2.2 c' := fun c' h => ⟨rfl, if_neg h, rfl⟩
theorem x_putR_o (S : xSt) (c r : Nat) : ∀ c', c' ≠ c → (x_putR S c r).1 c' = S.1 c' ∧ (x_putR S c r).2.1 c' = S.2.1 c' ∧ (x_putR S c r).2.2 c' = S.2.2 c' := fun c' h => ⟨rfl, rfl, if_neg h⟩
theorem x_putA_o (S : xSt) (c : Nat) (f : Nat → Int32) : ∀ c', c' ≠ c → (x_putA S c f).1 c' = S.1 c' ∧ (x_putA S c f).2.1 c' = S.2.1 c' ∧ (x_putA S c f).2.2 c' = S.2.2 c' := fun c' h => ⟨if_neg h, rfl, rfl⟩
theorem x_fs_get (ad : Nat → Nat) (S : xSt) (c : Nat) : ∀ (l : List Nat) (j k : Nat), (x_fs ad S c j l)[k]? = (l[k]?).map (fun q => x_sv ad S c (j + k) q)
  | [], j, k => by simp [x_fs]
  | q :: t, j, 0 => by simp [x_fs]
  | q :: t, j, k + 1 => by
    show (x_fs ad S c (j + 1) t)[k]? = _
    rw [x_fs_get ad S c t (j + 1) k, show j + 1 + k = j + (k + 1) by omega]
    rfl
theorem x_fs_set {ad : Nat → Nat} {S S' : xSt} {c : Nat} {l : List Nat} {k q : Nat} {v : Value} (hk : l[k]? = some q) (hv : x_sv ad S' c k q = v) (ho : ∀ j q', l[j]? = some q' → j ≠ k → x_sv ad S' c j q' = x_sv ad S c j q') : (x_fs ad S c 0 l).set k v = x_fs ad S' c 0 l := by
  apply List.ext_getElem?
  intro i
  have hlen : (x_fs ad S c 0 l).length = l.length := by
    have h : ∀ (l : List Nat) (j : Nat), (x_fs ad S c j l).length = l.length := by
      intro l
      induction l with
      | nil => intro j; rfl
      | cons a t ih => intro j; show (x_fs ad S c (j + 1) t).length + 1 = t.length + 1; rw [ih]
    exact h l 0
  rw [List.getElem?_set, x_fs_get, x_fs_get]
  by_cases e : k = i
  · subst e
    rw [if_pos rfl, if_pos (by rw [hlen]; exact (List.getElem?_eq_some_iff.mp hk).1), hk]
    simp [hv]
  · rw [if_neg e]
    cases hh : l[i]? with
    | none => rfl
    | some q' => simp only [Option.map_some, Nat.zero_add]; rw [ho i q' hh (fun z => e z.symm)]
theorem x_fs_len (ad : Nat → Nat) (S : xSt) (c : Nat) : ∀ (l : List Nat) (j : Nat), (x_fs ad S c j l).length = l.length
  | [], _ => rfl
  | a :: t, j => by show (x_fs ad S c (j + 1) t).length + 1 = t.length + 1; rw [x_fs_len ad S c t (j + 1)]
-- decoded rows
def x_dec (cc : ByteArray) (l : List (Nat × Instr × Nat)) : Bool := l.all (fun e => decide (decode cc e.1 = .ok e.2))
theorem x_at {cc : ByteArray} {l : List (Nat × Instr × Nat)} (h : x_dec cc l = true) (k : Nat) {pc : Nat} {i : Instr} {n : Nat} (hk : l[k]? = some (pc, i, n)) : decode cc pc = .ok (i, n) := by
  have h1 := List.all_eq_true.mp h (pc, i, n) (List.mem_of_getElem? hk)
  simp only [decide_eq_true_eq] at h1
  exact h1
-- a class as the words have it
def x_Cls (ci : Nat) (C : String) (T : u_T) (N : Nat) (ty : Nat → FieldType) : Prop := vwCl[ci]? = some (C, T, N) ∧ (∀ w ∈ u_ws C T N, w ∈ x_TT) ∧ (∀ k, k < N → parseFieldDescriptor (T k).2.2.1 = some (ty k)) ∧ ∀ a, a < N → ∀ b, b < N → a ≠ b → (T a).2.1 ≠ (T b).2.1
end
section
variable {G : xG} {d : Nat} {Y : xY} {pc : Nat} {lv : List (Nat × Value)} {st : List Value} {S : xSt} {K : Option Value → xSt → Prop}

theorem x_iconst {n : Int} {v : Int32} (hd : decode Y.2.1 pc = .ok (.iconst n, 1)) (hv : Int32.ofInt n = v) (h : X G d Y (pc + 1) lv (.int v :: st) S K) : X G d Y pc lv (st) S K := by
  intro p e s m args below meth c H locs ls C hG hK hZ hP hS hl
  exact lv_iconst C.1 C.2.1 hd hv (h p e s m args below meth c H locs ls C hG hK hZ hP hS hl)
theorem x_bipush {n : Int} {v : Int32} (hd : decode Y.2.1 pc = .ok (.bipush n, 2)) (hv : (Int8.ofInt n).toInt32 = v) (h : X G d Y (pc + 2) lv (.int v :: st) S K) : X G d Y pc lv (st) S K := by
  intro p e s m args below meth c H locs ls C hG hK hZ hP hS hl
  exact lv_bipush C.1 C.2.1 hd hv (h p e s m args below meth c H locs ls C hG hK hZ hP hS hl)
theorem x_sipush {n : Int} {v : Int32} (hd : decode Y.2.1 pc = .ok (.sipush n, 3)) (hv : (Int16.ofInt n).toInt32 = v) (h : X G d Y (pc + 3) lv (.int v :: st) S K) : X G d Y pc lv (st) S K := by
  intro p e s m args below meth c H locs ls C hG hK hZ hP hS hl
  exact lv_sipush C.1 C.2.1 hd hv (h p e s m args below meth c H locs ls C hG hK hZ hP hS hl)
theorem x_lconst {n : Fin 2} {v : Int64} (hd : decode Y.2.1 pc = .ok (.lconst n, 1)) (hv : Int64.ofNat (n : Nat) = v) (h : X G d Y (pc + 1) lv (.long v :: st) S K) : X G d Y pc lv (st) S K := by
  intro p e s m args below meth c H locs ls C hG hK hZ hP hS hl
  exact lv_lconst C.1 C.2.1 hd hv (h p e s m args below meth c H locs ls C hG hK hZ hP hS hl)
theorem x_iload_n {k : Fin 4} {i : Nat} {x : Int32} (hd : decode Y.2.1 pc = .ok (.iload_n k, 1)) (hi : (k : Nat) = i) (hx : x_get lv i = some (.int x)) (h : X G d Y (pc + 1) lv (.int x :: st) S K) : X G d Y pc lv (st) S K := by
  intro p e s m args below meth c H locs ls C hG hK hZ hP hS hl
  exact lv_iload_n C.1 C.2.1 hd hi (x_get_at hl hx) (h p e s m args below meth c H locs ls C hG hK hZ hP hS hl)
theorem x_iload {i : Nat} {x : Int32} (hd : decode Y.2.1 pc = .ok (.iload i, 2)) (hx : x_get lv i = some (.int x)) (h : X G d Y (pc + 2) lv (.int x :: st) S K) : X G d Y pc lv (st) S K := by
  intro p e s m args below meth c H locs ls C hG hK hZ hP hS hl
  exact lv_iload C.1 C.2.1 hd (x_get_at hl hx) (h p e s m args below meth c H locs ls C hG hK hZ hP hS hl)
theorem x_lload_n {k : Fin 4} {i : Nat} {x : Int64} (hd : decode Y.2.1 pc = .ok (.lload_n k, 1)) (hi : (k : Nat) = i) (hx : x_get lv i = some (.long x)) (h : X G d Y (pc + 1) lv (.long x :: st) S K) : X G d Y pc lv (st) S K := by
  intro p e s m args below meth c H locs ls C hG hK hZ hP hS hl
  exact lv_lload_n C.1 C.2.1 hd hi (x_get_at hl hx) (h p e s m args below meth c H locs ls C hG hK hZ hP hS hl)
theorem x_lload {i : Nat} {x : Int64} (hd : decode Y.2.1 pc = .ok (.lload i, 2)) (hx : x_get lv i = some (.long x)) (h : X G d Y (pc + 2) lv (.long x :: st) S K) : X G d Y pc lv (st) S K := by
  intro p e s m args below meth c H locs ls C hG hK hZ hP hS hl
  exact lv_lload C.1 C.2.1 hd (x_get_at hl hx) (h p e s m args below meth c H locs ls C hG hK hZ hP hS hl)
theorem x_aload_n {k : Fin 4} {i : Nat} {x : Nat} (hd : decode Y.2.1 pc = .ok (.aload_n k, 1)) (hi : (k : Nat) = i) (hx : x_get lv i = some (.ref x)) (h : X G d Y (pc + 1) lv (.ref x :: st) S K) : X G d Y pc lv (st) S K := by
  intro p e s m args below meth c H locs ls C hG hK hZ hP hS hl
  exact lv_aload_n C.1 C.2.1 hd hi (x_get_at hl hx) (h p e s m args below meth c H locs ls C hG hK hZ hP hS hl)
theorem x_aload {i : Nat} {x : Nat} (hd : decode Y.2.1 pc = .ok (.aload i, 2)) (hx : x_get lv i = some (.ref x)) (h : X G d Y (pc + 2) lv (.ref x :: st) S K) : X G d Y pc lv (st) S K := by
  intro p e s m args below meth c H locs ls C hG hK hZ hP hS hl
  exact lv_aload C.1 C.2.1 hd (x_get_at hl hx) (h p e s m args below meth c H locs ls C hG hK hZ hP hS hl)
theorem x_istore_n {k : Fin 4} {i : Nat} {x : Int32} (hd : decode Y.2.1 pc = .ok (.istore_n k, 1)) (hi : (k : Nat) = i) (hn : i < Y.2.2.1) (h : X G d Y (pc + 1) (x_set lv i (.int x)) st S K) : X G d Y pc lv (.int x :: st) S K := by
  intro p e s m args below meth c H locs ls C hG hK hZ hP hS hl
  exact lv_istore_n C.1 C.2.1 hd hi hl hn rfl (fun ls hl => h p e s m args below meth c H locs ls C hG hK hZ hP hS (x_ins_has hl))
theorem x_istore {i : Nat} {x : Int32} (hd : decode Y.2.1 pc = .ok (.istore i, 2)) (hn : i < Y.2.2.1) (h : X G d Y (pc + 2) (x_set lv i (.int x)) st S K) : X G d Y pc lv (.int x :: st) S K := by
  intro p e s m args below meth c H locs ls C hG hK hZ hP hS hl
  exact lv_istore C.1 C.2.1 hd hl hn rfl (fun ls hl => h p e s m args below meth c H locs ls C hG hK hZ hP hS (x_ins_has hl))
theorem x_lstore_n {k : Fin 4} {i : Nat} {x : Int64} (hd : decode Y.2.1 pc = .ok (.lstore_n k, 1)) (hi : (k : Nat) = i) (hn : i + 1 < Y.2.2.1) (h : X G d Y (pc + 1) (x_set2 lv i (.long x)) st S K) : X G d Y pc lv (.long x :: st) S K := by
  intro p e s m args below meth c H locs ls C hG hK hZ hP hS hl
  exact lv_lstore_n C.1 C.2.1 hd hi hl hn rfl (fun ls hl => h p e s m args below meth c H locs ls C hG hK hZ hP hS (x_ins_has hl))
theorem x_lstore {i : Nat} {x : Int64} (hd : decode Y.2.1 pc = .ok (.lstore i, 2)) (hn : i + 1 < Y.2.2.1) (h : X G d Y (pc + 2) (x_set2 lv i (.long x)) st S K) : X G d Y pc lv (.long x :: st) S K := by
  intro p e s m args below meth c H locs ls C hG hK hZ hP hS hl
  exact lv_lstore C.1 C.2.1 hd hl hn rfl (fun ls hl => h p e s m args below meth c H locs ls C hG hK hZ hP hS (x_ins_has hl))
theorem x_astore_n {k : Fin 4} {i : Nat} {x : Nat} (hd : decode Y.2.1 pc = .ok (.astore_n k, 1)) (hi : (k : Nat) = i) (hn : i < Y.2.2.1) (h : X G d Y (pc + 1) (x_set lv i (.ref x)) st S K) : X G d Y pc lv (.ref x :: st) S K := by
  intro p e s m args below meth c H locs ls C hG hK hZ hP hS hl
  exact lv_astore_n C.1 C.2.1 hd hi hl hn rfl (fun ls hl => h p e s m args below meth c H locs ls C hG hK hZ hP hS (x_ins_has hl))
theorem x_astore {i : Nat} {x : Nat} (hd : decode Y.2.1 pc = .ok (.astore i, 2)) (hn : i < Y.2.2.1) (h : X G d Y (pc + 2) (x_set lv i (.ref x)) st S K) : X G d Y pc lv (.ref x :: st) S K := by
  intro p e s m args below meth c H locs ls C hG hK hZ hP hS hl
  exact lv_astore C.1 C.2.1 hd hl hn rfl (fun ls hl => h p e s m args below meth c H locs ls C hG hK hZ hP hS (x_ins_has hl))
theorem x_iinc {i : Nat} {n : Int} {x v : Int32} (hd : decode Y.2.1 pc = .ok (.iinc i n, 3)) (hx : x_get lv i = some (.int x)) (hv : x + Int32.ofInt n = v) (hn : i < Y.2.2.1) (h : X G d Y (pc + 3) (x_set lv i (.int v)) st S K) : X G d Y pc lv st S K := by
  intro p e s m args below meth c H locs ls C hG hK hZ hP hS hl
  obtain ⟨k, hk⟩ := List.getElem?_of_mem (x_get_mem hx)
  exact lv_iinc C.1 C.2.1 hd hl (k := k) hk hv hn rfl (fun ls hl => h p e s m args below meth c H locs ls C hG hK hZ hP hS (x_ins_has hl))
theorem x_iadd {x y : Int32} (hd : decode Y.2.1 pc = .ok (.iadd, 1)) (h : X G d Y (pc + 1) lv (.int (x + y) :: st) S K) : X G d Y pc lv (.int y :: .int x :: st) S K := by
  intro p e s m args below meth c H locs ls C hG hK hZ hP hS hl
  exact lv_iadd C.1 C.2.1 hd (h p e s m args below meth c H locs ls C hG hK hZ hP hS hl)
theorem x_isub {x y : Int32} (hd : decode Y.2.1 pc = .ok (.isub, 1)) (h : X G d Y (pc + 1) lv (.int (x - y) :: st) S K) : X G d Y pc lv (.int y :: .int x :: st) S K := by
  intro p e s m args below meth c H locs ls C hG hK hZ hP hS hl
  exact lv_isub C.1 C.2.1 hd (h p e s m args below meth c H locs ls C hG hK hZ hP hS hl)
theorem x_imul {x y : Int32} (hd : decode Y.2.1 pc = .ok (.imul, 1)) (h : X G d Y (pc + 1) lv (.int (x * y) :: st) S K) : X G d Y pc lv (.int y :: .int x :: st) S K := by
  intro p e s m args below meth c H locs ls C hG hK hZ hP hS hl
  exact lv_imul C.1 C.2.1 hd (h p e s m args below meth c H locs ls C hG hK hZ hP hS hl)
theorem x_iand {x y : Int32} (hd : decode Y.2.1 pc = .ok (.iand, 1)) (h : X G d Y (pc + 1) lv (.int (x &&& y) :: st) S K) : X G d Y pc lv (.int y :: .int x :: st) S K := by
  intro p e s m args below meth c H locs ls C hG hK hZ hP hS hl
  exact lv_iand C.1 C.2.1 hd (h p e s m args below meth c H locs ls C hG hK hZ hP hS hl)
theorem x_ior {x y : Int32} (hd : decode Y.2.1 pc = .ok (.ior, 1)) (h : X G d Y (pc + 1) lv (.int (x ||| y) :: st) S K) : X G d Y pc lv (.int y :: .int x :: st) S K := by
  intro p e s m args below meth c H locs ls C hG hK hZ hP hS hl
  exact lv_ior C.1 C.2.1 hd (h p e s m args below meth c H locs ls C hG hK hZ hP hS hl)
theorem x_ixor {x y : Int32} (hd : decode Y.2.1 pc = .ok (.ixor, 1)) (h : X G d Y (pc + 1) lv (.int (x ^^^ y) :: st) S K) : X G d Y pc lv (.int y :: .int x :: st) S K := by
  intro p e s m args below meth c H locs ls C hG hK hZ hP hS hl
  exact lv_ixor C.1 C.2.1 hd (h p e s m args below meth c H locs ls C hG hK hZ hP hS hl)
theorem x_ishl {x y : Int32} (hd : decode Y.2.1 pc = .ok (.ishl, 1)) (h : X G d Y (pc + 1) lv (.int (x <<< (y &&& 31)) :: st) S K) : X G d Y pc lv (.int y :: .int x :: st) S K := by
  intro p e s m args below meth c H locs ls C hG hK hZ hP hS hl
  exact lv_ishl C.1 C.2.1 hd (h p e s m args below meth c H locs ls C hG hK hZ hP hS hl)
theorem x_ishr {x y : Int32} (hd : decode Y.2.1 pc = .ok (.ishr, 1)) (h : X G d Y (pc + 1) lv (.int (x >>> (y &&& 31)) :: st) S K) : X G d Y pc lv (.int y :: .int x :: st) S K := by
  intro p e s m args below meth c H locs ls C hG hK hZ hP hS hl
  exact lv_ishr C.1 C.2.1 hd (h p e s m args below meth c H locs ls C hG hK hZ hP hS hl)
theorem x_idiv {x y : Int32} (hd : decode Y.2.1 pc = .ok (.idiv, 1)) (hne : ¬ y = 0) (h : X G d Y (pc + 1) lv (.int (x / y) :: st) S K) : X G d Y pc lv (.int y :: .int x :: st) S K := by
  intro p e s m args below meth c H locs ls C hG hK hZ hP hS hl
  exact lv_idiv C.1 C.2.1 hd hne (h p e s m args below meth c H locs ls C hG hK hZ hP hS hl)
theorem x_irem {x y : Int32} (hd : decode Y.2.1 pc = .ok (.irem, 1)) (hne : ¬ y = 0) (h : X G d Y (pc + 1) lv (.int (x - x / y * y) :: st) S K) : X G d Y pc lv (.int y :: .int x :: st) S K := by
  intro p e s m args below meth c H locs ls C hG hK hZ hP hS hl
  exact lv_irem C.1 C.2.1 hd hne (h p e s m args below meth c H locs ls C hG hK hZ hP hS hl)
theorem x_ineg {x : Int32} (hd : decode Y.2.1 pc = .ok (.ineg, 1)) (h : X G d Y (pc + 1) lv (.int (-x) :: st) S K) : X G d Y pc lv (.int x :: st) S K := by
  intro p e s m args below meth c H locs ls C hG hK hZ hP hS hl
  exact lv_ineg C.1 C.2.1 hd (h p e s m args below meth c H locs ls C hG hK hZ hP hS hl)
theorem x_iushr {x y : Int32} (hd : decode Y.2.1 pc = .ok (.iushr, 1)) (h : X G d Y (pc + 1) lv (.int (x.toUInt32 >>> (y.toUInt32 &&& Int32.toUInt32 31)).toInt32 :: st) S K) : X G d Y pc lv (.int y :: .int x :: st) S K := by
  intro p e s m args below meth c H locs ls C hG hK hZ hP hS hl
  exact lv_iushr C.1 C.2.1 hd rfl (h p e s m args below meth c H locs ls C hG hK hZ hP hS hl)
theorem x_ladd {x y : Int64} (hd : decode Y.2.1 pc = .ok (.ladd, 1)) (h : X G d Y (pc + 1) lv (.long (x + y) :: st) S K) : X G d Y pc lv (.long y :: .long x :: st) S K := by
  intro p e s m args below meth c H locs ls C hG hK hZ hP hS hl
  exact lv_ladd C.1 C.2.1 hd (h p e s m args below meth c H locs ls C hG hK hZ hP hS hl)
theorem x_lsub {x y : Int64} (hd : decode Y.2.1 pc = .ok (.lsub, 1)) (h : X G d Y (pc + 1) lv (.long (x - y) :: st) S K) : X G d Y pc lv (.long y :: .long x :: st) S K := by
  intro p e s m args below meth c H locs ls C hG hK hZ hP hS hl
  exact lv_lsub C.1 C.2.1 hd (h p e s m args below meth c H locs ls C hG hK hZ hP hS hl)
theorem x_lmul {x y : Int64} (hd : decode Y.2.1 pc = .ok (.lmul, 1)) (h : X G d Y (pc + 1) lv (.long (x * y) :: st) S K) : X G d Y pc lv (.long y :: .long x :: st) S K := by
  intro p e s m args below meth c H locs ls C hG hK hZ hP hS hl
  exact lv_lmul C.1 C.2.1 hd (h p e s m args below meth c H locs ls C hG hK hZ hP hS hl)
theorem x_land {x y : Int64} (hd : decode Y.2.1 pc = .ok (.land, 1)) (h : X G d Y (pc + 1) lv (.long (x &&& y) :: st) S K) : X G d Y pc lv (.long y :: .long x :: st) S K := by
  intro p e s m args below meth c H locs ls C hG hK hZ hP hS hl
  exact lv_land C.1 C.2.1 hd (h p e s m args below meth c H locs ls C hG hK hZ hP hS hl)
theorem x_lor {x y : Int64} (hd : decode Y.2.1 pc = .ok (.lor, 1)) (h : X G d Y (pc + 1) lv (.long (x ||| y) :: st) S K) : X G d Y pc lv (.long y :: .long x :: st) S K := by
  intro p e s m args below meth c H locs ls C hG hK hZ hP hS hl
  exact lv_lor C.1 C.2.1 hd (h p e s m args below meth c H locs ls C hG hK hZ hP hS hl)
theorem x_ldiv {x y : Int64} (hd : decode Y.2.1 pc = .ok (.ldiv, 1)) (hne : ¬ y = 0) (h : X G d Y (pc + 1) lv (.long (x / y) :: st) S K) : X G d Y pc lv (.long y :: .long x :: st) S K := by
  intro p e s m args below meth c H locs ls C hG hK hZ hP hS hl
  exact lv_ldiv C.1 C.2.1 hd hne (h p e s m args below meth c H locs ls C hG hK hZ hP hS hl)
theorem x_lrem {x y : Int64} (hd : decode Y.2.1 pc = .ok (.lrem, 1)) (hne : ¬ y = 0) (h : X G d Y (pc + 1) lv (.long (x - x / y * y) :: st) S K) : X G d Y pc lv (.long y :: .long x :: st) S K := by
  intro p e s m args below meth c H locs ls C hG hK hZ hP hS hl
  exact lv_lrem C.1 C.2.1 hd hne (h p e s m args below meth c H locs ls C hG hK hZ hP hS hl)
theorem x_lshl {x : Int64} {y : Int32} (hd : decode Y.2.1 pc = .ok (.lshl, 1)) (h : X G d Y (pc + 1) lv (.long (x <<< (y.toInt64 &&& 63)) :: st) S K) : X G d Y pc lv (.int y :: .long x :: st) S K := by
  intro p e s m args below meth c H locs ls C hG hK hZ hP hS hl
  exact lv_lshl C.1 C.2.1 hd rfl (h p e s m args below meth c H locs ls C hG hK hZ hP hS hl)
theorem x_lshr {x : Int64} {y : Int32} (hd : decode Y.2.1 pc = .ok (.lshr, 1)) (h : X G d Y (pc + 1) lv (.long (x >>> (y.toInt64 &&& 63)) :: st) S K) : X G d Y pc lv (.int y :: .long x :: st) S K := by
  intro p e s m args below meth c H locs ls C hG hK hZ hP hS hl
  exact lv_lshr C.1 C.2.1 hd rfl (h p e s m args below meth c H locs ls C hG hK hZ hP hS hl)
theorem x_lcmp {x y : Int64} (hd : decode Y.2.1 pc = .ok (.lcmp, 1)) (h : X G d Y (pc + 1) lv (.int (lg_cmp x y) :: st) S K) : X G d Y pc lv (.long y :: .long x :: st) S K := by
  intro p e s m args below meth c H locs ls C hG hK hZ hP hS hl
  exact W.lcmp C.1 C.2.1 hd (h p e s m args below meth c H locs ls C hG hK hZ hP hS hl)
theorem x_i2l {x : Int32} (hd : decode Y.2.1 pc = .ok (.i2l, 1)) (h : X G d Y (pc + 1) lv (.long x.toInt64 :: st) S K) : X G d Y pc lv (.int x :: st) S K := by
  intro p e s m args below meth c H locs ls C hG hK hZ hP hS hl
  exact lv_i2l C.1 C.2.1 hd rfl (h p e s m args below meth c H locs ls C hG hK hZ hP hS hl)
theorem x_l2i {x : Int64} (hd : decode Y.2.1 pc = .ok (.l2i, 1)) (h : X G d Y (pc + 1) lv (.int x.toInt32 :: st) S K) : X G d Y pc lv (.long x :: st) S K := by
  intro p e s m args below meth c H locs ls C hG hK hZ hP hS hl
  exact lv_l2i C.1 C.2.1 hd rfl (h p e s m args below meth c H locs ls C hG hK hZ hP hS hl)
theorem x_i2b {x : Int32} (hd : decode Y.2.1 pc = .ok (.i2b, 1)) (h : X G d Y (pc + 1) lv (.int x.toInt8.toInt32 :: st) S K) : X G d Y pc lv (.int x :: st) S K := by
  intro p e s m args below meth c H locs ls C hG hK hZ hP hS hl
  exact lv_i2b C.1 C.2.1 hd rfl (h p e s m args below meth c H locs ls C hG hK hZ hP hS hl)
theorem x_i2c {x : Int32} (hd : decode Y.2.1 pc = .ok (.i2c, 1)) (h : X G d Y (pc + 1) lv (.int (x.toUInt32 % 65536).toInt32 :: st) S K) : X G d Y pc lv (.int x :: st) S K := by
  intro p e s m args below meth c H locs ls C hG hK hZ hP hS hl
  exact lv_i2c C.1 C.2.1 hd rfl (h p e s m args below meth c H locs ls C hG hK hZ hP hS hl)
theorem x_dup {v : Value} (hd : decode Y.2.1 pc = .ok (.dup, 1)) (hc : v.category = 1) (h : X G d Y (pc + 1) lv (v :: v :: st) S K) : X G d Y pc lv (v :: st) S K := by
  intro p e s m args below meth c H locs ls C hG hK hZ hP hS hl
  exact lv_dup C.1 C.2.1 hd hc (h p e s m args below meth c H locs ls C hG hK hZ hP hS hl)
theorem x_dup2 {v u : Value} (hd : decode Y.2.1 pc = .ok (.dup2, 1)) (hc : v.category = 1) (hu : u.category = 1) (h : X G d Y (pc + 1) lv (v :: u :: v :: u :: st) S K) : X G d Y pc lv (v :: u :: st) S K := by
  intro p e s m args below meth c H locs ls C hG hK hZ hP hS hl
  exact lv_dup2_11 C.1 C.2.1 hd hc hu (h p e s m args below meth c H locs ls C hG hK hZ hP hS hl)
theorem x_dup_x1 {v u : Value} (hd : decode Y.2.1 pc = .ok (.dup_x1, 1)) (hc : v.category = 1) (hu : u.category = 1) (h : X G d Y (pc + 1) lv (v :: u :: v :: st) S K) : X G d Y pc lv (v :: u :: st) S K := by
  intro p e s m args below meth c H locs ls C hG hK hZ hP hS hl
  exact lv_dup_x1 C.1 C.2.1 hd hc hu (h p e s m args below meth c H locs ls C hG hK hZ hP hS hl)
theorem x_pop {v : Value} (hd : decode Y.2.1 pc = .ok (.pop, 1)) (hc : v.category = 1) (h : X G d Y (pc + 1) lv (st) S K) : X G d Y pc lv (v :: st) S K := by
  intro p e s m args below meth c H locs ls C hG hK hZ hP hS hl
  exact lv_pop C.1 C.2.1 hd hc (h p e s m args below meth c H locs ls C hG hK hZ hP hS hl)
theorem x_if_eq {x : Int32} {off : Int} (tgt : Nat) (hd : decode Y.2.1 pc = .ok (.ifCond .eq off, 3)) (hg : (pc : Int) + off = (tgt : Int)) (ht : x = 0 → X G d Y tgt lv st S K) (hf : ¬ x = 0 → X G d Y (pc + 3) lv st S K) : X G d Y pc lv (.int x :: st) S K := by
  intro p e s m args below meth c H locs ls C hG hK hZ hP hS hl
  exact lv_if_eq C.1 C.2.1 hd hg (fun q => ht q p e s m args below meth c H locs ls C hG hK hZ hP hS hl) (fun q => hf q p e s m args below meth c H locs ls C hG hK hZ hP hS hl)
theorem x_ic_eq {x y : Int32} {off : Int} (tgt : Nat) (hd : decode Y.2.1 pc = .ok (.if_icmp .eq off, 3)) (hg : (pc : Int) + off = (tgt : Int)) (ht : x = y → X G d Y tgt lv st S K) (hf : ¬ x = y → X G d Y (pc + 3) lv st S K) : X G d Y pc lv (.int y :: .int x :: st) S K := by
  intro p e s m args below meth c H locs ls C hG hK hZ hP hS hl
  exact lv_icmp_eq C.1 C.2.1 hd hg (fun q => ht q p e s m args below meth c H locs ls C hG hK hZ hP hS hl) (fun q => hf q p e s m args below meth c H locs ls C hG hK hZ hP hS hl)
theorem x_if_ne {x : Int32} {off : Int} (tgt : Nat) (hd : decode Y.2.1 pc = .ok (.ifCond .ne off, 3)) (hg : (pc : Int) + off = (tgt : Int)) (ht : ¬ x = 0 → X G d Y tgt lv st S K) (hf : x = 0 → X G d Y (pc + 3) lv st S K) : X G d Y pc lv (.int x :: st) S K := by
  intro p e s m args below meth c H locs ls C hG hK hZ hP hS hl
  exact lv_if_ne C.1 C.2.1 hd hg (fun q => ht q p e s m args below meth c H locs ls C hG hK hZ hP hS hl) (fun q => hf q p e s m args below meth c H locs ls C hG hK hZ hP hS hl)
theorem x_ic_ne {x y : Int32} {off : Int} (tgt : Nat) (hd : decode Y.2.1 pc = .ok (.if_icmp .ne off, 3)) (hg : (pc : Int) + off = (tgt : Int)) (ht : ¬ x = y → X G d Y tgt lv st S K) (hf : x = y → X G d Y (pc + 3) lv st S K) : X G d Y pc lv (.int y :: .int x :: st) S K := by
  intro p e s m args below meth c H locs ls C hG hK hZ hP hS hl
  exact lv_icmp_ne C.1 C.2.1 hd hg (fun q => ht q p e s m args below meth c H locs ls C hG hK hZ hP hS hl) (fun q => hf q p e s m args below meth c H locs ls C hG hK hZ hP hS hl)
theorem x_if_lt {x : Int32} {off : Int} (tgt : Nat) (hd : decode Y.2.1 pc = .ok (.ifCond .lt off, 3)) (hg : (pc : Int) + off = (tgt : Int)) (ht : x < 0 → X G d Y tgt lv st S K) (hf : ¬ x < 0 → X G d Y (pc + 3) lv st S K) : X G d Y pc lv (.int x :: st) S K := by
  intro p e s m args below meth c H locs ls C hG hK hZ hP hS hl
  exact lv_if_lt C.1 C.2.1 hd hg (fun q => ht q p e s m args below meth c H locs ls C hG hK hZ hP hS hl) (fun q => hf q p e s m args below meth c H locs ls C hG hK hZ hP hS hl)
theorem x_ic_lt {x y : Int32} {off : Int} (tgt : Nat) (hd : decode Y.2.1 pc = .ok (.if_icmp .lt off, 3)) (hg : (pc : Int) + off = (tgt : Int)) (ht : x < y → X G d Y tgt lv st S K) (hf : ¬ x < y → X G d Y (pc + 3) lv st S K) : X G d Y pc lv (.int y :: .int x :: st) S K := by
  intro p e s m args below meth c H locs ls C hG hK hZ hP hS hl
  exact lv_icmp_lt C.1 C.2.1 hd hg (fun q => ht q p e s m args below meth c H locs ls C hG hK hZ hP hS hl) (fun q => hf q p e s m args below meth c H locs ls C hG hK hZ hP hS hl)
theorem x_if_ge {x : Int32} {off : Int} (tgt : Nat) (hd : decode Y.2.1 pc = .ok (.ifCond .ge off, 3)) (hg : (pc : Int) + off = (tgt : Int)) (ht : 0 ≤ x → X G d Y tgt lv st S K) (hf : ¬ 0 ≤ x → X G d Y (pc + 3) lv st S K) : X G d Y pc lv (.int x :: st) S K := by
  intro p e s m args below meth c H locs ls C hG hK hZ hP hS hl
  exact lv_if_ge C.1 C.2.1 hd hg (fun q => ht q p e s m args below meth c H locs ls C hG hK hZ hP hS hl) (fun q => hf q p e s m args below meth c H locs ls C hG hK hZ hP hS hl)
theorem x_ic_ge {x y : Int32} {off : Int} (tgt : Nat) (hd : decode Y.2.1 pc = .ok (.if_icmp .ge off, 3)) (hg : (pc : Int) + off = (tgt : Int)) (ht : y ≤ x → X G d Y tgt lv st S K) (hf : ¬ y ≤ x → X G d Y (pc + 3) lv st S K) : X G d Y pc lv (.int y :: .int x :: st) S K := by
  intro p e s m args below meth c H locs ls C hG hK hZ hP hS hl
  exact lv_icmp_ge C.1 C.2.1 hd hg (fun q => ht q p e s m args below meth c H locs ls C hG hK hZ hP hS hl) (fun q => hf q p e s m args below meth c H locs ls C hG hK hZ hP hS hl)
theorem x_if_gt {x : Int32} {off : Int} (tgt : Nat) (hd : decode Y.2.1 pc = .ok (.ifCond .gt off, 3)) (hg : (pc : Int) + off = (tgt : Int)) (ht : 0 < x → X G d Y tgt lv st S K) (hf : ¬ 0 < x → X G d Y (pc + 3) lv st S K) : X G d Y pc lv (.int x :: st) S K := by
  intro p e s m args below meth c H locs ls C hG hK hZ hP hS hl
  exact lv_if_gt C.1 C.2.1 hd hg (fun q => ht q p e s m args below meth c H locs ls C hG hK hZ hP hS hl) (fun q => hf q p e s m args below meth c H locs ls C hG hK hZ hP hS hl)
theorem x_ic_gt {x y : Int32} {off : Int} (tgt : Nat) (hd : decode Y.2.1 pc = .ok (.if_icmp .gt off, 3)) (hg : (pc : Int) + off = (tgt : Int)) (ht : y < x → X G d Y tgt lv st S K) (hf : ¬ y < x → X G d Y (pc + 3) lv st S K) : X G d Y pc lv (.int y :: .int x :: st) S K := by
  intro p e s m args below meth c H locs ls C hG hK hZ hP hS hl
  exact lv_icmp_gt C.1 C.2.1 hd hg (fun q => ht q p e s m args below meth c H locs ls C hG hK hZ hP hS hl) (fun q => hf q p e s m args below meth c H locs ls C hG hK hZ hP hS hl)
theorem x_if_le {x : Int32} {off : Int} (tgt : Nat) (hd : decode Y.2.1 pc = .ok (.ifCond .le off, 3)) (hg : (pc : Int) + off = (tgt : Int)) (ht : x ≤ 0 → X G d Y tgt lv st S K) (hf : ¬ x ≤ 0 → X G d Y (pc + 3) lv st S K) : X G d Y pc lv (.int x :: st) S K := by
  intro p e s m args below meth c H locs ls C hG hK hZ hP hS hl
  exact lv_if_le C.1 C.2.1 hd hg (fun q => ht q p e s m args below meth c H locs ls C hG hK hZ hP hS hl) (fun q => hf q p e s m args below meth c H locs ls C hG hK hZ hP hS hl)
theorem x_ic_le {x y : Int32} {off : Int} (tgt : Nat) (hd : decode Y.2.1 pc = .ok (.if_icmp .le off, 3)) (hg : (pc : Int) + off = (tgt : Int)) (ht : x ≤ y → X G d Y tgt lv st S K) (hf : ¬ x ≤ y → X G d Y (pc + 3) lv st S K) : X G d Y pc lv (.int y :: .int x :: st) S K := by
  intro p e s m args below meth c H locs ls C hG hK hZ hP hS hl
  exact lv_icmp_le C.1 C.2.1 hd hg (fun q => ht q p e s m args below meth c H locs ls C hG hK hZ hP hS hl) (fun q => hf q p e s m args below meth c H locs ls C hG hK hZ hP hS hl)
theorem x_goto {off : Int} (tgt : Nat) (hd : decode Y.2.1 pc = .ok (.goto off, 3)) (hg : (pc : Int) + off = (tgt : Int)) (h : X G d Y tgt lv st S K) : X G d Y pc lv st S K := by
  intro p e s m args below meth c H locs ls C hG hK hZ hP hS hl
  exact lv_goto C.1 C.2.1 hd hg (h p e s m args below meth c H locs ls C hG hK hZ hP hS hl)
theorem x_ldc {ix : Nat} {v : Int32} (hd : decode Y.2.1 pc = .ok (.ldc ix, 2)) (hw : Cond.constant Y.1.cls ix v ∈ x_TT) (h : X G d Y (pc + 2) lv (.int v :: st) S K) : X G d Y pc lv (st) S K := by
  intro p e s m args below meth c H locs ls C hG hK hZ hP hS hl
  exact lv_ldc C.1 C.2.1 C.2.2.2.2.1 (C.2.2.2.2.2.1 _ (List.mem_cons_of_mem _ hw)) hd (h p e s m args below meth c H locs ls C hG hK hZ hP hS hl)
theorem x_ldcw {ix : Nat} {v : Int32} (hd : decode Y.2.1 pc = .ok (.ldc_w ix, 3)) (hw : Cond.constant Y.1.cls ix v ∈ x_TT) (h : X G d Y (pc + 3) lv (.int v :: st) S K) : X G d Y pc lv (st) S K := by
  intro p e s m args below meth c H locs ls C hG hK hZ hP hS hl
  exact lv_ldcw C.1 C.2.1 C.2.2.2.2.1 (C.2.2.2.2.2.1 _ (List.mem_cons_of_mem _ hw)) hd (h p e s m args below meth c H locs ls C hG hK hZ hP hS hl)
theorem x_ldc2 {ix : Nat} {v : Int64} (hd : decode Y.2.1 pc = .ok (.ldc2_w ix, 3)) (hw : Cond.constantLong Y.1.cls ix v ∈ x_TT) (h : X G d Y (pc + 3) lv (.long v :: st) S K) : X G d Y pc lv (st) S K := by
  intro p e s m args below meth c H locs ls C hG hK hZ hP hS hl
  exact lv_ldc2 C.1 C.2.1 C.2.2.2.2.1 (C.2.2.2.2.2.1 _ (List.mem_cons_of_mem _ hw)) hd (h p e s m args below meth c H locs ls C hG hK hZ hP hS hl)
theorem x_tableOut {dflt lo hi : Int} {offs : Array Int} {len : Nat} {x : Int32} (tgt : Nat) (hd : decode Y.2.1 pc = .ok (.tableswitch dflt lo hi offs, len)) (ho : x.toInt < lo ∨ hi < x.toInt) (hg : (pc : Int) + dflt = (tgt : Int)) (h : X G d Y tgt lv st S K) : X G d Y pc lv (.int x :: st) S K := by
  intro p e s m args below meth c H locs ls C hG hK hZ hP hS hl
  exact lv_tableOut C.1 C.2.1 hd ho hg (h p e s m args below meth c H locs ls C hG hK hZ hP hS hl)
theorem x_tableIn {dflt lo hi : Int} {offs : Array Int} {len : Nat} {x : Int32} {off : Int} (tgt : Nat) (hd : decode Y.2.1 pc = .ok (.tableswitch dflt lo hi offs, len)) (h1 : ¬ x.toInt < lo) (h2 : ¬ hi < x.toInt) (ho : offs[(x.toInt - lo).toNat]? = some off) (hg : (pc : Int) + off = (tgt : Int)) (h : X G d Y tgt lv st S K) : X G d Y pc lv (.int x :: st) S K := by
  intro p e s m args below meth c H locs ls C hG hK hZ hP hS hl
  exact lv_tableIn C.1 C.2.1 hd h1 h2 ho hg (h p e s m args below meth c H locs ls C hG hK hZ hP hS hl)
theorem x_lookup {dflt : Int} {ps : Array (Int × Int)} {len : Nat} {x : Int32} {off : Int} (tgt : Nat) (hd : decode Y.2.1 pc = .ok (.lookupswitch dflt ps, len)) (hp : (ps.toList.zip (ps.toList.drop 1)).all (fun (a, next) => a.1 < next.1) = true) (ho : Op.lookupswitch.offset ps.toList dflt x.toInt = off) (hg : (pc : Int) + off = (tgt : Int)) (h : X G d Y tgt lv st S K) : X G d Y pc lv (.int x :: st) S K := by
  intro p e s m args below meth c H locs ls C hG hK hZ hP hS hl
  exact lv_lookup C.1 C.2.1 hd hp ho hg (h p e s m args below meth c H locs ls C hG hK hZ hP hS hl)
theorem x_getI {ci N o k ix : Nat} {C : String} {T : u_T} {ty : Nat → FieldType} {fk : List Nat} (hc : x_Cls ci C T N ty) (ho : G.2.2.2.2.1[o]? = some (.inr (ci, fk))) (hk : fk[k]? = some (0)) (hkN : k < N) (hd : decode Y.2.1 pc = .ok (.getfield ix, 3)) (hw : Cond.fieldLink Y.1.cls ix (T k).1 (T k).2.1 (T k).2.2.1 ∈ x_TT) (h : X G d Y (pc + 3) lv (.int (S.1 o k) :: st) S K) : X G d Y pc lv (.ref (x_ad G o) :: st) S K := by
  intro p e s m args below meth c H locs ls C_ hG hK hZ hP hS hl
  refine va_get (D := G.2.1) (cl := vwCl) (ws := x_ws G S) (C := C) (T := T) (N := N) (ci := ci) (Ts := x_TT) C_.1 C_.2.1 (fun w hw => C_.2.2.2.2.2.1 w (List.mem_cons_of_mem _ hw)) hc.2.1 C_.2.2.2.2.1 hK hP o (x_ws_get ho) hc.1 k hkN (C_.2.2.2.2.2.1 _ (List.mem_cons_of_mem _ hw)) (fun _ h9 => h9) (v := .int (S.1 o k)) ?_ hd (h p e s m args below meth c H locs ls C_ hG hK hZ hP hS hl)
  rw [x_fs_get, hk]; simp [x_sv]
theorem x_getL {ci N o k ix : Nat} {C : String} {T : u_T} {ty : Nat → FieldType} {fk : List Nat} (hc : x_Cls ci C T N ty) (ho : G.2.2.2.2.1[o]? = some (.inr (ci, fk))) (hk : fk[k]? = some (1)) (hkN : k < N) (hd : decode Y.2.1 pc = .ok (.getfield ix, 3)) (hw : Cond.fieldLink Y.1.cls ix (T k).1 (T k).2.1 (T k).2.2.1 ∈ x_TT) (h : X G d Y (pc + 3) lv (.long (S.2.1 o k) :: st) S K) : X G d Y pc lv (.ref (x_ad G o) :: st) S K := by
  intro p e s m args below meth c H locs ls C_ hG hK hZ hP hS hl
  refine va_get (D := G.2.1) (cl := vwCl) (ws := x_ws G S) (C := C) (T := T) (N := N) (ci := ci) (Ts := x_TT) C_.1 C_.2.1 (fun w hw => C_.2.2.2.2.2.1 w (List.mem_cons_of_mem _ hw)) hc.2.1 C_.2.2.2.2.1 hK hP o (x_ws_get ho) hc.1 k hkN (C_.2.2.2.2.2.1 _ (List.mem_cons_of_mem _ hw)) (fun _ h9 => h9) (v := .long (S.2.1 o k)) ?_ hd (h p e s m args below meth c H locs ls C_ hG hK hZ hP hS hl)
  rw [x_fs_get, hk]; simp [x_sv]
theorem x_getV {ci N o k ix : Nat} {C : String} {T : u_T} {ty : Nat → FieldType} {fk : List Nat} (hc : x_Cls ci C T N ty) (ho : G.2.2.2.2.1[o]? = some (.inr (ci, fk))) (hk : fk[k]? = some (2)) (hkN : k < N) (hd : decode Y.2.1 pc = .ok (.getfield ix, 3)) (hw : Cond.fieldLink Y.1.cls ix (T k).1 (T k).2.1 (T k).2.2.1 ∈ x_TT) (h : X G d Y (pc + 3) lv (.ref (x_ad G (S.2.2 o)) :: st) S K) : X G d Y pc lv (.ref (x_ad G o) :: st) S K := by
  intro p e s m args below meth c H locs ls C_ hG hK hZ hP hS hl
  refine va_get (D := G.2.1) (cl := vwCl) (ws := x_ws G S) (C := C) (T := T) (N := N) (ci := ci) (Ts := x_TT) C_.1 C_.2.1 (fun w hw => C_.2.2.2.2.2.1 w (List.mem_cons_of_mem _ hw)) hc.2.1 C_.2.2.2.2.1 hK hP o (x_ws_get ho) hc.1 k hkN (C_.2.2.2.2.2.1 _ (List.mem_cons_of_mem _ hw)) (fun _ h9 => h9) (v := .ref (x_ad G (S.2.2 o))) ?_ hd (h p e s m args below meth c H locs ls C_ hG hK hZ hP hS hl)
  rw [x_fs_get, hk]; simp [x_sv]
theorem x_getR {ci N o k ix : Nat} {r : Nat} {C : String} {T : u_T} {ty : Nat → FieldType} {fk : List Nat} (hc : x_Cls ci C T N ty) (ho : G.2.2.2.2.1[o]? = some (.inr (ci, fk))) (hk : fk[k]? = some (r + 3)) (hkN : k < N) (hd : decode Y.2.1 pc = .ok (.getfield ix, 3)) (hw : Cond.fieldLink Y.1.cls ix (T k).1 (T k).2.1 (T k).2.2.1 ∈ x_TT) (h : X G d Y (pc + 3) lv (.ref (x_ad G r) :: st) S K) : X G d Y pc lv (.ref (x_ad G o) :: st) S K := by
  intro p e s m args below meth c H locs ls C_ hG hK hZ hP hS hl
  refine va_get (D := G.2.1) (cl := vwCl) (ws := x_ws G S) (C := C) (T := T) (N := N) (ci := ci) (Ts := x_TT) C_.1 C_.2.1 (fun w hw => C_.2.2.2.2.2.1 w (List.mem_cons_of_mem _ hw)) hc.2.1 C_.2.2.2.2.1 hK hP o (x_ws_get ho) hc.1 k hkN (C_.2.2.2.2.2.1 _ (List.mem_cons_of_mem _ hw)) (fun _ h9 => h9) (v := .ref (x_ad G r)) ?_ hd (h p e s m args below meth c H locs ls C_ hG hK hZ hP hS hl)
  rw [x_fs_get, hk]; simp [x_sv]
theorem x_othI {ad : Nat → Nat} {S : xSt} {c k j q : Nat} {v : Int32} (hj : j ≠ k) : x_sv ad (x_putI S c k v) c j q = x_sv ad S c j q := by
  unfold x_sv x_putI
  split <;> simp [upd, hj]
theorem x_othL {ad : Nat → Nat} {S : xSt} {c k j q : Nat} {v : Int64} (hj : j ≠ k) : x_sv ad (x_putL S c k v) c j q = x_sv ad S c j q := by
  unfold x_sv x_putL
  split <;> simp [vp_updL, hj]
theorem x_pfI {ci N o k ix : Nat} {C : String} {T : u_T} {ty : Nat → FieldType} {fk : List Nat} {v : Int32} (hc : x_Cls ci C T N ty) (ho : G.2.2.2.2.1[o]? = some (.inr (ci, fk))) (hk : fk[k]? = some 0) (hkN : k < N) (hf : (T k).2.2.2 = false) (hn : narrow (ty k) (.int v) = .int v) (hfit : fits (ty k) (.int v) = true) (hd : decode Y.2.1 pc = .ok (.putfield ix, 3)) (hw : Cond.fieldLink Y.1.cls ix (T k).1 (T k).2.1 (T k).2.2.1 ∈ x_TT) (h : X G d Y (pc + 3) lv st (x_putI S o k v) K) : X G d Y pc lv (.int v :: .ref (x_ad G o) :: st) S K := by
  intro p e s m args below meth c H locs ls C_ hG hK hZ hP hS hl
  have hset : (x_ws G S).set o (x_ad G o, .inr (ci, (x_fs (x_ad G) S o 0 fk).set k (.int v))) = x_ws G (x_putI S o k v) := by
    rw [x_fs_set (S' := x_putI S o k v) hk (by simp [x_sv, x_putI, upd]) (fun j q' _ hj => x_othI hj)]
    exact x_ws_set ho (x_putI_o S o k v)
  refine va_put (D := G.2.1) (cl := vwCl) (ws := x_ws G S) (C := C) (T := T) (N := N) (ci := ci) (Ts := x_TT) (fs := x_fs (x_ad G) S o 0 fk) C_.1 C_.2.1 (fun w hw => C_.2.2.2.2.2.1 w (List.mem_cons_of_mem _ hw)) hc.2.1 ty hc.2.2.1 hc.2.2.2 C_.2.2.2.2.1 hK hP (x_D hG S) hS o (x_ws_get ho) hc.1 k hkN (C_.2.2.2.2.2.1 _ (List.mem_cons_of_mem _ hw)) (fun _ h9 => h9) hf (hc.2.2.1 k hkN) hn hfit (by rw [x_fs_len]; exact (List.getElem?_eq_some_iff.mp hk).1) hd (fun H1 locs1 hP1 hD1 hS1 => ?_)
  rw [hset] at hP1
  exact h p e s m args below meth c H1 locs1 ls C_ hG hK hZ hP1 hS1 hl
theorem x_pfL {ci N o k ix : Nat} {C : String} {T : u_T} {ty : Nat → FieldType} {fk : List Nat} {v : Int64} (hc : x_Cls ci C T N ty) (ho : G.2.2.2.2.1[o]? = some (.inr (ci, fk))) (hk : fk[k]? = some 1) (hkN : k < N) (hf : (T k).2.2.2 = false) (hn : narrow (ty k) (.long v) = .long v) (hfit : fits (ty k) (.long v) = true) (hd : decode Y.2.1 pc = .ok (.putfield ix, 3)) (hw : Cond.fieldLink Y.1.cls ix (T k).1 (T k).2.1 (T k).2.2.1 ∈ x_TT) (h : X G d Y (pc + 3) lv st (x_putL S o k v) K) : X G d Y pc lv (.long v :: .ref (x_ad G o) :: st) S K := by
  intro p e s m args below meth c H locs ls C_ hG hK hZ hP hS hl
  have hset : (x_ws G S).set o (x_ad G o, .inr (ci, (x_fs (x_ad G) S o 0 fk).set k (.long v))) = x_ws G (x_putL S o k v) := by
    rw [x_fs_set (S' := x_putL S o k v) hk (by simp [x_sv, x_putL, vp_updL]) (fun j q' _ hj => x_othL hj)]
    exact x_ws_set ho (x_putL_o S o k v)
  refine va_put (D := G.2.1) (cl := vwCl) (ws := x_ws G S) (C := C) (T := T) (N := N) (ci := ci) (Ts := x_TT) (fs := x_fs (x_ad G) S o 0 fk) C_.1 C_.2.1 (fun w hw => C_.2.2.2.2.2.1 w (List.mem_cons_of_mem _ hw)) hc.2.1 ty hc.2.2.1 hc.2.2.2 C_.2.2.2.2.1 hK hP (x_D hG S) hS o (x_ws_get ho) hc.1 k hkN (C_.2.2.2.2.2.1 _ (List.mem_cons_of_mem _ hw)) (fun _ h9 => h9) hf (hc.2.2.1 k hkN) hn hfit (by rw [x_fs_len]; exact (List.getElem?_eq_some_iff.mp hk).1) hd (fun H1 locs1 hP1 hD1 hS1 => ?_)
  rw [hset] at hP1
  exact h p e s m args below meth c H1 locs1 ls C_ hG hK hZ hP1 hS1 hl
theorem x_pfR {ci N o k ix r : Nat} {C : String} {T : u_T} {ty : Nat → FieldType} {fk : List Nat} (hc : x_Cls ci C T N ty) (ho : G.2.2.2.2.1[o]? = some (.inr (ci, fk))) (hk : fk[k]? = some 2) (hsole : ∀ j, fk[j]? = some 2 → j = k) (hkN : k < N) (hf : (T k).2.2.2 = false) (hn : narrow (ty k) (.ref (x_ad G r)) = .ref (x_ad G r)) (hfit : fits (ty k) (.ref (x_ad G r)) = true) (hd : decode Y.2.1 pc = .ok (.putfield ix, 3)) (hw : Cond.fieldLink Y.1.cls ix (T k).1 (T k).2.1 (T k).2.2.1 ∈ x_TT) (h : X G d Y (pc + 3) lv st (x_putR S o r) K) : X G d Y pc lv (.ref (x_ad G r) :: .ref (x_ad G o) :: st) S K := by
  intro p e s m args below meth c H locs ls C_ hG hK hZ hP hS hl
  have hset : (x_ws G S).set o (x_ad G o, .inr (ci, (x_fs (x_ad G) S o 0 fk).set k (.ref (x_ad G r)))) = x_ws G (x_putR S o r) := by
    rw [x_fs_set (S' := x_putR S o r) hk (by simp [x_sv, x_putR]) (fun j q' hq hj => by
      unfold x_sv x_putR
      split
      · rfl
      · rfl
      · exact absurd (hsole j hq) hj
      · rfl)]
    exact x_ws_set ho (x_putR_o S o r)
  refine va_put (D := G.2.1) (cl := vwCl) (ws := x_ws G S) (C := C) (T := T) (N := N) (ci := ci) (Ts := x_TT) (fs := x_fs (x_ad G) S o 0 fk) C_.1 C_.2.1 (fun w hw => C_.2.2.2.2.2.1 w (List.mem_cons_of_mem _ hw)) hc.2.1 ty hc.2.2.1 hc.2.2.2 C_.2.2.2.2.1 hK hP (x_D hG S) hS o (x_ws_get ho) hc.1 k hkN (C_.2.2.2.2.2.1 _ (List.mem_cons_of_mem _ hw)) (fun _ h9 => h9) hf (hc.2.2.1 k hkN) hn hfit (by rw [x_fs_len]; exact (List.getElem?_eq_some_iff.mp hk).1) hd (fun H1 locs1 hP1 hD1 hS1 => ?_)
  rw [hset] at hP1
  exact h p e s m args below meth c H1 locs1 ls C_ hG hK hZ hP1 hS1 hl
theorem x_iald {o n : Nat} {i : Int32} (ho : G.2.2.2.2.1[o]? = some (.inl (0, n))) (hd : decode Y.2.1 pc = .ok (.iaload, 1)) (hin : vp_in i n) (h : X G d Y (pc + 1) lv (.int (S.1 o i.toNatClampNeg) :: st) S K) : X G d Y pc lv (.int i :: .ref (x_ad G o) :: st) S K := by
  intro p e s m args below meth c H locs ls C hG hK hZ hP hS hl
  exact va_iald (D := G.2.1) (cl := vwCl) (ws := x_ws G S) C.1 C.2.1 hK hP o 0 (x_ws_get ho) rfl hin hd (h p e s m args below meth c H locs ls C hG hK hZ hP hS hl)
theorem x_bald {o n : Nat} {i : Int32} (ho : G.2.2.2.2.1[o]? = some (.inl (1, n))) (hd : decode Y.2.1 pc = .ok (.baload, 1)) (hin : vp_in i n) (h : X G d Y (pc + 1) lv (.int (S.1 o i.toNatClampNeg) :: st) S K) : X G d Y pc lv (.int i :: .ref (x_ad G o) :: st) S K := by
  intro p e s m args below meth c H locs ls C hG hK hZ hP hS hl
  exact va_bald (D := G.2.1) (cl := vwCl) (ws := x_ws G S) C.1 C.2.1 hK hP o 1 (x_ws_get ho) rfl hin hd (h p e s m args below meth c H locs ls C hG hK hZ hP hS hl)
theorem x_zald {o n : Nat} {i : Int32} (ho : G.2.2.2.2.1[o]? = some (.inl (2, n))) (hd : decode Y.2.1 pc = .ok (.baload, 1)) (hin : vp_in i n) (h : X G d Y (pc + 1) lv (.int (S.1 o i.toNatClampNeg) :: st) S K) : X G d Y pc lv (.int i :: .ref (x_ad G o) :: st) S K := by
  intro p e s m args below meth c H locs ls C hG hK hZ hP hS hl
  exact va_zald (D := G.2.1) (cl := vwCl) (ws := x_ws G S) C.1 C.2.1 hK hP o 2 (x_ws_get ho) rfl hin hd (h p e s m args below meth c H locs ls C hG hK hZ hP hS hl)
theorem x_lald {o n : Nat} {i : Int32} (ho : G.2.2.2.2.1[o]? = some (.inl (3, n))) (hd : decode Y.2.1 pc = .ok (.laload, 1)) (hin : vp_in i n) (h : X G d Y (pc + 1) lv (.long (S.2.1 o i.toNatClampNeg) :: st) S K) : X G d Y pc lv (.int i :: .ref (x_ad G o) :: st) S K := by
  intro p e s m args below meth c H locs ls C hG hK hZ hP hS hl
  exact va_lald (D := G.2.1) (cl := vwCl) (ws := x_ws G S) C.1 C.2.1 hK hP o 3 (x_ws_get ho) rfl hin hd (h p e s m args below meth c H locs ls C hG hK hZ hP hS hl)
theorem x_iast {o n : Nat} {i : Int32} {x : Int32} (ho : G.2.2.2.2.1[o]? = some (.inl (0, n))) (hd : decode Y.2.1 pc = .ok (.iastore, 1)) (hin : vp_in i n) (h : X G d Y (pc + 1) lv st (x_putI S o i.toNatClampNeg x) K) : X G d Y pc lv (.int x :: .int i :: .ref (x_ad G o) :: st) S K := by
  intro p e s m args below meth c H locs ls C hG hK hZ hP hS hl
  have hset : (x_ws G S).set o (x_ad G o, .inl (G.2.2.1 0, n, .inl (upd (S.1 o) i.toNatClampNeg x))) = x_ws G (x_putI S o i.toNatClampNeg x) := by
    rw [← x_ws_set (S := S) (S' := x_putI S o i.toNatClampNeg x) ho (x_putI_o S o _ _)]
    simp [x_cell, x_arr, x_putI]
  refine va_iast (D := G.2.1) (cl := vwCl) (ws := x_ws G S) C.1 C.2.1 hK hP (x_D hG S) hS o 0 (x_ws_get ho) rfl hin hd (fun H1 locs1 hP1 hD1 hS1 => ?_)
  rw [hset] at hP1
  exact h p e s m args below meth c H1 locs1 ls C hG hK hZ hP1 hS1 hl
theorem x_bast {o n : Nat} {i : Int32} {x : Int32} (ho : G.2.2.2.2.1[o]? = some (.inl (1, n))) (hd : decode Y.2.1 pc = .ok (.bastore, 1)) (hin : vp_in i n) (h : X G d Y (pc + 1) lv st (x_putI S o i.toNatClampNeg (vp_nar .byte x)) K) : X G d Y pc lv (.int x :: .int i :: .ref (x_ad G o) :: st) S K := by
  intro p e s m args below meth c H locs ls C hG hK hZ hP hS hl
  have hset : (x_ws G S).set o (x_ad G o, .inl (G.2.2.1 1, n, .inl (upd (S.1 o) i.toNatClampNeg (vp_nar .byte x)))) = x_ws G (x_putI S o i.toNatClampNeg (vp_nar .byte x)) := by
    rw [← x_ws_set (S := S) (S' := x_putI S o i.toNatClampNeg (vp_nar .byte x)) ho (x_putI_o S o _ _)]
    simp [x_cell, x_arr, x_putI]
  refine va_bast (D := G.2.1) (cl := vwCl) (ws := x_ws G S) C.1 C.2.1 hK hP (x_D hG S) hS o 1 (x_ws_get ho) rfl hin hd (fun H1 locs1 hP1 hD1 hS1 => ?_)
  rw [hset] at hP1
  exact h p e s m args below meth c H1 locs1 ls C hG hK hZ hP1 hS1 hl
theorem x_zast {o n : Nat} {i : Int32} {x : Int32} (ho : G.2.2.2.2.1[o]? = some (.inl (2, n))) (hd : decode Y.2.1 pc = .ok (.bastore, 1)) (hin : vp_in i n) (h : X G d Y (pc + 1) lv st (x_putI S o i.toNatClampNeg (vp_nar .boolean x)) K) : X G d Y pc lv (.int x :: .int i :: .ref (x_ad G o) :: st) S K := by
  intro p e s m args below meth c H locs ls C hG hK hZ hP hS hl
  have hset : (x_ws G S).set o (x_ad G o, .inl (G.2.2.1 2, n, .inl (upd (S.1 o) i.toNatClampNeg (vp_nar .boolean x)))) = x_ws G (x_putI S o i.toNatClampNeg (vp_nar .boolean x)) := by
    rw [← x_ws_set (S := S) (S' := x_putI S o i.toNatClampNeg (vp_nar .boolean x)) ho (x_putI_o S o _ _)]
    simp [x_cell, x_arr, x_putI]
  refine va_zast (D := G.2.1) (cl := vwCl) (ws := x_ws G S) C.1 C.2.1 hK hP (x_D hG S) hS o 2 (x_ws_get ho) rfl hin hd (fun H1 locs1 hP1 hD1 hS1 => ?_)
  rw [hset] at hP1
  exact h p e s m args below meth c H1 locs1 ls C hG hK hZ hP1 hS1 hl
theorem x_last {o n : Nat} {i : Int32} {x : Int64} (ho : G.2.2.2.2.1[o]? = some (.inl (3, n))) (hd : decode Y.2.1 pc = .ok (.lastore, 1)) (hin : vp_in i n) (h : X G d Y (pc + 1) lv st (x_putL S o i.toNatClampNeg x) K) : X G d Y pc lv (.long x :: .int i :: .ref (x_ad G o) :: st) S K := by
  intro p e s m args below meth c H locs ls C hG hK hZ hP hS hl
  have hset : (x_ws G S).set o (x_ad G o, .inl (G.2.2.1 3, n, .inr (.inl (vp_updL (S.2.1 o) i.toNatClampNeg x)))) = x_ws G (x_putL S o i.toNatClampNeg x) := by
    rw [← x_ws_set (S := S) (S' := x_putL S o i.toNatClampNeg x) ho (x_putL_o S o _ _)]
    simp [x_cell, x_arr, x_putL]
  refine va_last (D := G.2.1) (cl := vwCl) (ws := x_ws G S) C.1 C.2.1 hK hP (x_D hG S) hS o 3 (x_ws_get ho) rfl hin hd (fun H1 locs1 hP1 hD1 hS1 => ?_)
  rw [hset] at hP1
  exact h p e s m args below meth c H1 locs1 ls C hG hK hZ hP1 hS1 hl
theorem x_tysT {G : xG} {t : Nat} (ht : t < 4) : ∃ ty, (x_tys G)[t]? = some (G.2.2.1 t, ty) := by
  match t, ht with
  | 0, _ => exact ⟨_, rfl⟩
  | 1, _ => exact ⟨_, rfl⟩
  | 2, _ => exact ⟨_, rfl⟩
  | 3, _ => exact ⟨_, rfl⟩
theorem x_alen {o t n : Nat} (ht : t < 4) (ho : G.2.2.2.2.1[o]? = some (.inl (t, n))) (hd : decode Y.2.1 pc = .ok (.arraylength, 1)) (h : X G d Y (pc + 1) lv (.int (nI n) :: st) S K) : X G d Y pc lv (.ref (x_ad G o) :: st) S K := by
  intro p e s m args below meth c H locs ls C hG hK hZ hP hS hl
  obtain ⟨ty, hty⟩ := x_tysT (G := G) ht
  exact va_alen (D := G.2.1) (cl := vwCl) (ws := x_ws G S) C.1 C.2.1 hK hP o t (x_ws_get ho) hty rfl hd (h p e s m args below meth c H locs ls C hG hK hZ hP hS hl)
theorem x_Q_of {s t : State} {H : Heap} {locs : List Loc} {a : Array Value} {r : Option Value} (hP : va_P G.2.1 vwCl (x_ws G S) H) (hS : va_S (x_A G) s.heap H locs) (h : K r S) (ht : t.heap = H) : x_Q G K a s (.returned r) t := ⟨⟨r, S, rfl, h, by rw [ht]; exact hP⟩, hS.F ht⟩
theorem x_ireturn {ty : FieldType} {v : Int32} (hr : Y.2.2.2 = some ty) (hn : narrow ty (.int v) = .int v) (hd : decode Y.2.1 pc = .ok (.ireturn, 1)) (h : K (some (.int v)) S) : X G d Y pc lv [.int v] S K := by
  intro p e s m args below meth c H locs ls C hG hK hZ hP hS hl
  exact W.zret C.1 C.2.1 (C.2.2.1.trans hr) hn (fun t ht _ => x_Q_of hP hS h ht) hS.2.2 hd C.2.2.2.2.2.2
theorem x_lreturn {v : Int64} (hr : Y.2.2.2 = some .long) (hd : decode Y.2.1 pc = .ok (.lreturn, 1)) (h : K (some (.long v)) S) : X G d Y pc lv [.long v] S K := by
  intro p e s m args below meth c H locs ls C hG hK hZ hP hS hl
  exact W.lret C.1 C.2.1 (C.2.2.1.trans hr) (fun t ht _ => x_Q_of hP hS h ht) hS.2.2 hd C.2.2.2.2.2.2
theorem x_return (hr : Y.2.2.2 = none) (hd : decode Y.2.1 pc = .ok (.return_, 1)) (h : K none S) : X G d Y pc lv [] S K := by
  intro p e s m args below meth c H locs ls C hG hK hZ hP hS hl
  exact W.vret C.1 C.2.1 (C.2.2.1.trans hr) (fun t ht _ => x_Q_of hP hS h ht) hS.2.2 hd C.2.2.2.2.2.2
theorem x_enter {as : List Value} (hy : plainName Y.1.cls = true) (hn : (lg_sl as).length ≤ Y.2.2.1) (h : X G d Y 0 (lv_args 0 as) [] S K) : E G d Y as S K := by
  refine Met.ofW (cc := Y.2.1) (maxL := Y.2.2.1) (ret := Y.2.2.2) hy rfl ?_
  intro p e s m args below meth c s₁ B hml hv
  obtain ⟨rfl, hG, hK, hP, hZ⟩ := hv
  rw [lg_entry_eq]
  exact h p e s m _ below meth c s.heap [] _ ⟨B.exec, B.bytes, B.returns, hml, findClass_of_methodNamed B.named, atoms_spec (ws := x_wsY Y) B.pre, B.notSynchronized⟩ hG hK hZ hP va_S.rf (lv_entry as hn)
-- calls
theorem x_good {w : Cond} (h : w ∈ x_TT) : (w.onTables && w.keeps) = true ∨ ∃ ty, w = .arrayClass ty := good_of_word (List.mem_filter.mp h).2
def x_M (Y : xY) (n : Nat) : Prop := Cond.code Y.1 Y.2.1 Y.2.2.1 Y.2.2.2 ∈ x_TT ∧ Cond.initialized Y.1.cls ∈ x_TT ∧ Y.2.2.1 ≤ 45 ∧ Y.1.cls ≠ "java/lang/invoke/MethodHandle" ∧ Y.1.cls ≠ "java/lang/invoke/VarHandle" ∧ (parseMethodDescriptor Y.1.desc).map (fun d => d.parameters.length) = some n
def x_MV (Y : xY) (n : Nat) : Prop := x_M Y n ∧ Cond.instanceMethod Y.1 ∈ x_TT ∧ Cond.selects Y.1.cls Y.1 Y.1 ∈ x_TT
def x_MS (Y : xY) (n : Nat) : Prop := x_M Y n ∧ Cond.static Y.1 ∈ x_TT
theorem x_blind {as : List Value} : FrameBlind (va_Pc as (x_Pre G S)) := fun a U g mk h => ⟨h.1, h.2.1, va_K.moved (u := U) (U := U.calling g mk a) (Vm.Alike.refl U.vm) h.2.2.1, h.2.2.2.1, h.2.1.2.2 U _ h.2.2.2.2 rfl rfl⟩
theorem x_pre {s : State} {H : Heap} {locs : List Loc} (hG : x_ok G) (hK : va_K G.2.1 vwCl (x_tys G) s) (hZ : G.2.2.2.2.2 s) (hP : va_P G.2.1 vwCl (x_ws G S) H) (hS : va_S (x_A G) s.heap H locs) (as : List Value) : ∀ U : State, U.heap = H → s.WarmedH U.vm → va_Pc as (x_Pre G S) as.toArray U := fun U hU hW => ⟨rfl, hG, va_K.moved hW.alike hK, by rw [hU]; exact hP, hG.2.1 s U hZ hW (hS.F hU)⟩
theorem x_callK {p : Program} {l : Launch} {e : Env} {R : Room} {s : State} {m : MethodId} {args a : Array Value} {below : List Frame} {meth : Method} {c : Code} {H : Heap} {locs : List Loc} {Q : State → Prop} {ls : Array Slot} {st0 rest : List Value} {Kc : Option Value → xSt → Prop}
    (hr : va_Run p l e R s m args below meth c H locs 0 0 0 0 (F0 m pc ls st0) rest (x_Q G Kc a) (x_A G)) (hS : va_S (x_A G) s.heap H locs)
    (kk : ∀ (r : Option Value) (S' : xSt) (H1 : Heap) (locs1 : List Loc), Kc r S' → va_P G.2.1 vwCl (x_ws G S') H1 → va_S (x_A G) s.heap H1 locs1 → W p l e R s m args below meth c H1 locs1 0 0 Q (F0 m (pc + 3) ls (r.toList ++ rest))) : W p l e R s m args below meth c H locs 0 0 Q (F0 m pc ls st0) := by
  intro T hT X
  obtain ⟨v, st₀, t, T', L, h0, X', hL, e1, e2, ⟨⟨r, S', hv, hp, hb⟩, hz, hk⟩, st⟩ := hr T hT X
  cases hv
  rw [h0] at hz hk
  obtain ⟨t2, a1, b1⟩ := kk _ S' T'.heap (locs ++ L) hp (by rw [e1]; exact hb)
    ⟨Nat.le_trans hS.1 (by rw [e1]; exact hz), fun q h1 h2 => by rw [e1, hk q (Nat.lt_of_lt_of_le h1 hS.1) h2]; exact hS.2.1 q h1 h2, fun q hq => by
      rcases List.mem_append.mp hq with h | h
      · exact hS.2.2 q h
      · exact hL q h⟩ T' rfl X'
  exact ⟨t2, st t2 a1, b1⟩
theorem x_callV {Y' : xY} {as rest : List Value} {n ix o ci N : Nat} {T : u_T} {fk : List Nat} {Kc : Option Value → xSt → Prop} (hM : x_MV Y' n) (hc : vwCl[ci]? = some (Y'.1.cls, T, N)) (ho : G.2.2.2.2.1[o]? = some (.inr (ci, fk))) (hd : decode Y.2.1 pc = .ok (.invokevirtual ix, 3)) (hw : Cond.methodLink Y.1.cls ix Y'.1 ∈ x_TT) (hn : as.length = n) (hr : (rest.map fun v => v.category).sum ≤ 8) (hs : st = as.reverse ++ .ref (x_ad G o) :: rest)
    (h : E G d Y' (.ref (x_ad G o) :: as) S Kc) (hk : ∀ r S', Kc r S' → X G (d + 1) Y (pc + 3) lv (r.toList ++ rest) S' K) : X G (d + 1) Y pc lv st S K := by
  intro p e s m args below meth c H locs ls C hG hK hZ hP hS hl
  subst hs
  obtain ⟨⟨m1, m2, m3, m4, m5, m6⟩, m7, m8⟩ := hM
  have hgood : GoodIn (x_wsY Y) (wsV Y.1.cls ix Y'.1.cls Y'.1 (x_wsY Y')) := by
    have go : ∀ w, w ∈ x_TT → w ∈ x_wsY Y ∧ ((w.onTables && w.keeps) = true ∨ ∃ ty, w = .arrayClass ty) := fun w h => ⟨List.mem_cons_of_mem _ h, x_good h⟩
    intro w h
    unfold wsV at h
    simp only [List.cons_append, List.nil_append, List.mem_cons] at h
    rcases h with h | h | h | h | h | h
    · rw [h]; exact go _ hw
    · rw [h]; exact go _ m7
    · rw [h]; exact go _ m8
    · rw [h]; exact go _ m2
    · rw [h]; exact go _ m1
    · exact go _ h
  refine x_callK (va_runV (g := F0 m pc ls (as.reverse ++ .ref (x_ad G o) :: rest)) (As := as) (rest := rest) ⟨C.1, C.2.1, C.2.2.2.1, C.2.2.2.2.1, C.2.2.2.2.2.1⟩ h (cwV n C.2.2.2.2.2.1 hgood rfl rfl rfl ⟨rfl, m4, m5, m6⟩ ⟨Nat.le_refl _, by show 8 + (Y'.2.2.1 + 11) + 64 * d ≤ 64 * (d + 1); omega⟩) ⟨x_blind, va_recv hK hP hc (x_ws_get ho), x_pre hG hK hZ hP hS _⟩ rfl hn hl.1 rfl (lv_room hr) hd ⟨Nat.zero_le _, Nat.zero_le _⟩) hS (fun r S' H1 locs1 hk1 hP1 hS1 => ?_)
  exact hk r S' hk1 p e s m args below meth c H1 locs1 ls C hG hK hZ hP1 hS1 hl
theorem x_callS {Y' : xY} {as rest : List Value} {n ix : Nat} {Kc : Option Value → xSt → Prop} (hM : x_MS Y' n) (hd : decode Y.2.1 pc = .ok (.invokestatic ix, 3)) (hw : Cond.methodLink Y.1.cls ix Y'.1 ∈ x_TT) (hn : as.length = n) (hr : (rest.map fun v => v.category).sum ≤ 8) (hs : st = as.reverse ++ rest)
    (h : E G d Y' as S Kc) (hk : ∀ r S', Kc r S' → X G (d + 1) Y (pc + 3) lv (r.toList ++ rest) S' K) : X G (d + 1) Y pc lv st S K := by
  intro p e s m args below meth c H locs ls C hG hK hZ hP hS hl
  subst hs
  obtain ⟨⟨m1, m2, m3, m4, m5, m6⟩, m7⟩ := hM
  have hgood : GoodIn (x_wsY Y) (va_wsS Y.1.cls ix Y'.1 (x_wsY Y')) := by
    have go : ∀ w, w ∈ x_TT → w ∈ x_wsY Y ∧ ((w.onTables && w.keeps) = true ∨ ∃ ty, w = .arrayClass ty) := fun w h => ⟨List.mem_cons_of_mem _ h, x_good h⟩
    intro w h
    unfold va_wsS at h
    simp only [List.cons_append, List.nil_append, List.mem_cons] at h
    rcases h with h | h | h | h | h
    · rw [h]; exact go _ hw
    · rw [h]; exact go _ m7
    · rw [h]; exact go _ m2
    · rw [h]; exact go _ m1
    · exact go _ h
  refine x_callK (va_runS (g := F0 m pc ls (as.reverse ++ rest)) (As := as) (rest := rest) ⟨C.1, C.2.1, C.2.2.2.1, C.2.2.2.2.1, C.2.2.2.2.2.1⟩ h (va_cwS n C.2.2.2.2.2.1 hgood rfl rfl rfl ⟨m4, m5, m6⟩ ⟨Nat.le_refl _, by show 8 + (Y'.2.2.1 + 11) + 64 * d ≤ 64 * (d + 1); omega⟩) ⟨x_blind, x_pre hG hK hZ hP hS _⟩ rfl hn hl.1 rfl (lv_room hr) hd ⟨Nat.zero_le _, Nat.zero_le _⟩) hS (fun r S' H1 locs1 hk1 hP1 hS1 => ?_)
  exact hk r S' hk1 p e s m args below meth c H1 locs1 ls C hG hK hZ hP1 hS1 hl
theorem x_mmax {x y : Int32} {ix : Nat} (hw : Cond.methodLink Y.1.cls ix Lib.Math.max.name ∈ x_TT) (h1 : Cond.static Lib.Math.max.name ∈ x_TT) (h2 : Cond.initialized "java/lang/Math" ∈ x_TT) (h3 : Cond.code Lib.Math.max.name Lib.Math.max.code 2 (some .int) ∈ x_TT) (hd : decode Y.2.1 pc = .ok (.invokestatic ix, 3)) (hr : (st.map fun v => v.category).sum ≤ 8) (h : X G (d + 1) Y (pc + 3) lv (.int (if x < y then y else x) :: st) S K) : X G (d + 1) Y pc lv (.int y :: .int x :: st) S K := by
  intro p e s m args below meth c H locs ls C hG hK hZ hP hS hl
  have ht : ∀ w, w ∈ x_TT → w.before args s = true := fun w h => C.2.2.2.2.2.1 w (List.mem_cons_of_mem _ h)
  exact va_mmax C.1 C.2.1 (C.2.2.2.1.trans hl.1.symm) C.2.2.2.2.1 (ht _ hw) (ht _ h1) (ht _ h2) (ht _ h3) (by show 1 ≤ d + 1; omega) (by show _ + 13 ≤ 64 * (d + 1); omega) (Nat.zero_le _) (Nat.zero_le _) hd (h p e s m args below meth c H locs ls C hG hK hZ hP hS hl)
theorem x_mmin {x y : Int32} {ix : Nat} (hw : Cond.methodLink Y.1.cls ix Lib.Math.min.name ∈ x_TT) (h1 : Cond.static Lib.Math.min.name ∈ x_TT) (h2 : Cond.initialized "java/lang/Math" ∈ x_TT) (h3 : Cond.code Lib.Math.min.name Lib.Math.min.code 2 (some .int) ∈ x_TT) (hd : decode Y.2.1 pc = .ok (.invokestatic ix, 3)) (hr : (st.map fun v => v.category).sum ≤ 8) (h : X G (d + 1) Y (pc + 3) lv (.int (if y < x then y else x) :: st) S K) : X G (d + 1) Y pc lv (.int y :: .int x :: st) S K := by
  intro p e s m args below meth c H locs ls C hG hK hZ hP hS hl
  have ht : ∀ w, w ∈ x_TT → w.before args s = true := fun w h => C.2.2.2.2.2.1 w (List.mem_cons_of_mem _ h)
  exact va_mmin C.1 C.2.1 (C.2.2.2.1.trans hl.1.symm) C.2.2.2.2.1 (ht _ hw) (ht _ h1) (ht _ h2) (ht _ h3) (by show 1 ≤ d + 1; omega) (by show _ + 13 ≤ 64 * (d + 1); omega) (Nat.zero_le _) (Nat.zero_le _) hd (h p e s m args below meth c H locs ls C hG hK hZ hP hS hl)
theorem x_copyI {o1 o2 n1 n2 : Nat} {sp dp n : Int32} {ix : Nat} (ho1 : G.2.2.2.2.1[o1]? = some (.inl (0, n1))) (ho2 : G.2.2.2.2.1[o2]? = some (.inl (0, n2))) (hw : Cond.methodLink Y.1.cls ix arraycopyName ∈ x_TT) (h1 : Cond.native arraycopyName ∈ x_TT) (h2 : Cond.static arraycopyName ∈ x_TT) (h3 : Cond.initialized "java/lang/System" ∈ x_TT) (hd : decode Y.2.1 pc = .ok (.invokestatic ix, 3)) (hr : (st.map fun v => v.category).sum ≤ 8)
    (hb : (¬ sp < 0 ∧ ¬ dp < 0 ∧ ¬ n < 0) ∧ sp.toNatClampNeg + n.toNatClampNeg ≤ n1 ∧ dp.toNatClampNeg + n.toNatClampNeg ≤ n2) (h : X G (d + 1) Y (pc + 3) lv st (x_putA S o2 (va_cpy (S.1 o1) (S.1 o2) sp.toNatClampNeg dp.toNatClampNeg n.toNatClampNeg)) K) : X G (d + 1) Y pc lv (.int n :: .int dp :: .ref (x_ad G o2) :: .int sp :: .ref (x_ad G o1) :: st) S K := by
  intro p e s m args below meth c H locs ls C hG hK hZ hP hS hl
  have ht : ∀ w, w ∈ x_TT → w.before args s = true := fun w h => C.2.2.2.2.2.1 w (List.mem_cons_of_mem _ h)
  have hset : (x_ws G S).set o2 (x_ad G o2, .inl (G.2.2.1 0, n2, .inl (va_cpy (S.1 o1) (S.1 o2) sp.toNatClampNeg dp.toNatClampNeg n.toNatClampNeg))) = x_ws G (x_putA S o2 (va_cpy (S.1 o1) (S.1 o2) sp.toNatClampNeg dp.toNatClampNeg n.toNatClampNeg)) := by
    rw [← x_ws_set (S := S) (S' := x_putA S o2 (va_cpy (S.1 o1) (S.1 o2) sp.toNatClampNeg dp.toNatClampNeg n.toNatClampNeg)) ho2 (x_putA_o S o2 _)]
    simp [x_cell, x_arr, x_putA]
  have hna : nativeFrameWords "java/lang/System" "arraycopy" 5 + 11 ≤ 40 := by decide +kernel
  have hfr : 1 ≤ (x_room (d + 1)).frames := by show 1 ≤ d + 1; omega
  have hlo : (st.map fun v => v.category).sum + (nativeFrameWords "java/lang/System" "arraycopy" 5 + 11) ≤ (x_room (d + 1)).locals := by show _ ≤ 64 * (d + 1); omega
  refine va_copyi (D := G.2.1) (cl := vwCl) (ws := x_ws G S) (ty := .int) C.1 C.2.1 (C.2.2.2.1.trans hl.1.symm) C.2.2.2.2.1 (ht _ hw) (ht _ h1) (ht _ h2) (ht _ h3) hK hP (x_D hG S) hS o1 o2 0 0 (x_ws_get ho1) (x_ws_get ho2) rfl rfl rfl hb.1.1 hb.1.2.1 hb.1.2.2 hb.2.1 hb.2.2 (fun i _ => rfl) hfr hlo hd (fun H1 locs1 hP1 hD1 hS1 => ?_)
  rw [hset] at hP1
  exact h p e s m args below meth c H1 locs1 ls C hG hK hZ hP1 hS1 hl
end
end
