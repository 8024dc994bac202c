section
-- ===== PART A: goes FIRST, ahead of the names: the tables' words, and 'selects' of the private methods out of them =====
/-- a private method of a class that the tables say can be made, by its rows of tables_1 -/
def lw_okq (q : MethodName × Nat) : Prop := (q.1.cls ≠ "java/lang/invoke/MethodHandle" ∧ q.1.cls ≠ "java/lang/invoke/VarHandle") ∧ Cond.instantiable q.1.cls q.2 ∈ tables_1 ∧ Cond.privateMethod q.1 ∈ tables_1 ∧ Cond.instanceMethod q.1 ∈ tables_1
theorem lw_p0 : lw_okq (⟨"ShorthandRules$TriggerTree", "addNode", "(II)I"⟩, 3) := ⟨⟨by decide +kernel, by decide +kernel⟩, List.mem_of_getElem? (i := 66) (by decide +kernel), List.mem_of_getElem? (i := 89) (by decide +kernel), List.mem_of_getElem? (i := 90) (by decide +kernel)⟩
theorem lw_p1 : lw_okq (⟨"ShorthandRules", "lowestShadower", "(I)I"⟩, 11) := ⟨⟨by decide +kernel, by decide +kernel⟩, List.mem_of_getElem? (i := 32) (by decide +kernel), List.mem_of_getElem? (i := 193) (by decide +kernel), List.mem_of_getElem? (i := 194) (by decide +kernel)⟩
theorem lw_p2 : lw_okq (⟨"ShorthandRules", "isInShadow", "(II)Z"⟩, 11) := ⟨⟨by decide +kernel, by decide +kernel⟩, List.mem_of_getElem? (i := 32) (by decide +kernel), List.mem_of_getElem? (i := 197) (by decide +kernel), List.mem_of_getElem? (i := 198) (by decide +kernel)⟩
theorem lw_p3 : lw_okq (⟨"ShorthandRules", "snippetAt", "(I)LShorthandRules$Snippet;"⟩, 11) := ⟨⟨by decide +kernel, by decide +kernel⟩, List.mem_of_getElem? (i := 32) (by decide +kernel), List.mem_of_getElem? (i := 201) (by decide +kernel), List.mem_of_getElem? (i := 202) (by decide +kernel)⟩
theorem lw_p4 : lw_okq (⟨"ShorthandRules", "requireSnippet", "(I)V"⟩, 11) := ⟨⟨by decide +kernel, by decide +kernel⟩, List.mem_of_getElem? (i := 32) (by decide +kernel), List.mem_of_getElem? (i := 205) (by decide +kernel), List.mem_of_getElem? (i := 206) (by decide +kernel)⟩
theorem lw_p5 : lw_okq (⟨"java/lang/Throwable", "fillInStackTrace", "(I)Ljava/lang/Throwable;"⟩, 6) := ⟨⟨by decide +kernel, by decide +kernel⟩, List.mem_of_getElem? (i := 249) (by decide +kernel), List.mem_of_getElem? (i := 247) (by decide +kernel), List.mem_of_getElem? (i := 248) (by decide +kernel)⟩
theorem lw_p6 : lw_okq (⟨"ShorthandRules", "findInTree", "()I"⟩, 11) := ⟨⟨by decide +kernel, by decide +kernel⟩, List.mem_of_getElem? (i := 32) (by decide +kernel), List.mem_of_getElem? (i := 335) (by decide +kernel), List.mem_of_getElem? (i := 336) (by decide +kernel)⟩
theorem lw_p7 : lw_okq (⟨"ShorthandRules", "lowestReady", "(II)I"⟩, 11) := ⟨⟨by decide +kernel, by decide +kernel⟩, List.mem_of_getElem? (i := 32) (by decide +kernel), List.mem_of_getElem? (i := 349) (by decide +kernel), List.mem_of_getElem? (i := 350) (by decide +kernel)⟩
theorem lw_p8 : lw_okq (⟨"ShorthandRules", "isReady", "(LShorthandRules$Snippet;I)Z"⟩, 11) := ⟨⟨by decide +kernel, by decide +kernel⟩, List.mem_of_getElem? (i := 32) (by decide +kernel), List.mem_of_getElem? (i := 353) (by decide +kernel), List.mem_of_getElem? (i := 354) (by decide +kernel)⟩
theorem lw_p9 : lw_okq (⟨"ShorthandRules", "isWordStart", "(I)Z"⟩, 11) := ⟨⟨by decide +kernel, by decide +kernel⟩, List.mem_of_getElem? (i := 32) (by decide +kernel), List.mem_of_getElem? (i := 357) (by decide +kernel), List.mem_of_getElem? (i := 358) (by decide +kernel)⟩
theorem lw_p10 : lw_okq (⟨"ShorthandRules", "findByLooking", "()I"⟩, 11) := ⟨⟨by decide +kernel, by decide +kernel⟩, List.mem_of_getElem? (i := 32) (by decide +kernel), List.mem_of_getElem? (i := 368) (by decide +kernel), List.mem_of_getElem? (i := 369) (by decide +kernel)⟩
theorem lw_p11 : lw_okq (⟨"java/util/ArrayList", "add", "(Ljava/lang/Object;[Ljava/lang/Object;I)V"⟩, 3) := ⟨⟨by decide +kernel, by decide +kernel⟩, List.mem_of_getElem? (i := 40) (by decide +kernel), List.mem_of_getElem? (i := 446) (by decide +kernel), List.mem_of_getElem? (i := 447) (by decide +kernel)⟩
theorem lw_p12 : lw_okq (⟨"java/util/ArrayList", "grow", "()[Ljava/lang/Object;"⟩, 3) := ⟨⟨by decide +kernel, by decide +kernel⟩, List.mem_of_getElem? (i := 40) (by decide +kernel), List.mem_of_getElem? (i := 450) (by decide +kernel), List.mem_of_getElem? (i := 451) (by decide +kernel)⟩
theorem lw_p13 : lw_okq (⟨"java/util/ArrayList", "grow", "(I)[Ljava/lang/Object;"⟩, 3) := ⟨⟨by decide +kernel, by decide +kernel⟩, List.mem_of_getElem? (i := 40) (by decide +kernel), List.mem_of_getElem? (i := 454) (by decide +kernel), List.mem_of_getElem? (i := 455) (by decide +kernel)⟩
theorem lw_p14 : lw_okq (⟨"ShorthandRules", "growTree", "()V"⟩, 11) := ⟨⟨by decide +kernel, by decide +kernel⟩, List.mem_of_getElem? (i := 32) (by decide +kernel), List.mem_of_getElem? (i := 536) (by decide +kernel), List.mem_of_getElem? (i := 537) (by decide +kernel)⟩
theorem lw_p15 : lw_okq (⟨"ShorthandRules", "addPart", "(LShorthandRules$Snippet;LShorthandRules$Part;)I"⟩, 11) := ⟨⟨by decide +kernel, by decide +kernel⟩, List.mem_of_getElem? (i := 32) (by decide +kernel), List.mem_of_getElem? (i := 600) (by decide +kernel), List.mem_of_getElem? (i := 601) (by decide +kernel)⟩
def lw_privs_1 : List (MethodName × Nat) := [(⟨"ShorthandRules$TriggerTree", "addNode", "(II)I"⟩, 3), (⟨"ShorthandRules", "lowestShadower", "(I)I"⟩, 11), (⟨"ShorthandRules", "isInShadow", "(II)Z"⟩, 11), (⟨"ShorthandRules", "snippetAt", "(I)LShorthandRules$Snippet;"⟩, 11), (⟨"ShorthandRules", "requireSnippet", "(I)V"⟩, 11), (⟨"java/lang/Throwable", "fillInStackTrace", "(I)Ljava/lang/Throwable;"⟩, 6), (⟨"ShorthandRules", "findInTree", "()I"⟩, 11), (⟨"ShorthandRules", "lowestReady", "(II)I"⟩, 11), (⟨"ShorthandRules", "isReady", "(LShorthandRules$Snippet;I)Z"⟩, 11), (⟨"ShorthandRules", "isWordStart", "(I)Z"⟩, 11), (⟨"ShorthandRules", "findByLooking", "()I"⟩, 11), (⟨"java/util/ArrayList", "add", "(Ljava/lang/Object;[Ljava/lang/Object;I)V"⟩, 3), (⟨"java/util/ArrayList", "grow", "()[Ljava/lang/Object;"⟩, 3), (⟨"java/util/ArrayList", "grow", "(I)[Ljava/lang/Object;"⟩, 3), (⟨"ShorthandRules", "growTree", "()V"⟩, 11), (⟨"ShorthandRules", "addPart", "(LShorthandRules$Snippet;LShorthandRules$Part;)I"⟩, 11)]
theorem lw_r1 : ∀ q ∈ lw_privs_1, lw_okq q := List.forall_mem_cons.mpr ⟨lw_p0, List.forall_mem_cons.mpr ⟨lw_p1, List.forall_mem_cons.mpr ⟨lw_p2, List.forall_mem_cons.mpr ⟨lw_p3, List.forall_mem_cons.mpr ⟨lw_p4, List.forall_mem_cons.mpr ⟨lw_p5, List.forall_mem_cons.mpr ⟨lw_p6, List.forall_mem_cons.mpr ⟨lw_p7, List.forall_mem_cons.mpr ⟨lw_p8, List.forall_mem_cons.mpr ⟨lw_p9, List.forall_mem_cons.mpr ⟨lw_p10, List.forall_mem_cons.mpr ⟨lw_p11, List.forall_mem_cons.mpr ⟨lw_p12, List.forall_mem_cons.mpr ⟨lw_p13, List.forall_mem_cons.mpr ⟨lw_p14, List.forall_mem_cons.mpr ⟨lw_p15, fun _ h => absurd h List.not_mem_nil⟩⟩⟩⟩⟩⟩⟩⟩⟩⟩⟩⟩⟩⟩⟩⟩
theorem lw_p16 : lw_okq (⟨"ShorthandRules", "measureAll", "()V"⟩, 11) := ⟨⟨by decide +kernel, by decide +kernel⟩, List.mem_of_getElem? (i := 32) (by decide +kernel), List.mem_of_getElem? (i := 605) (by decide +kernel), List.mem_of_getElem? (i := 606) (by decide +kernel)⟩
theorem lw_p17 : lw_okq (⟨"ShorthandRules", "measure", "(LShorthandRules$Snippet;)V"⟩, 11) := ⟨⟨by decide +kernel, by decide +kernel⟩, List.mem_of_getElem? (i := 32) (by decide +kernel), List.mem_of_getElem? (i := 609) (by decide +kernel), List.mem_of_getElem? (i := 610) (by decide +kernel)⟩
theorem lw_p18 : lw_okq (⟨"ShorthandRules", "measureInner", "(LShorthandRules$Snippet;II)V"⟩, 11) := ⟨⟨by decide +kernel, by decide +kernel⟩, List.mem_of_getElem? (i := 32) (by decide +kernel), List.mem_of_getElem? (i := 615) (by decide +kernel), List.mem_of_getElem? (i := 616) (by decide +kernel)⟩
theorem lw_p19 : lw_okq (⟨"ShorthandRules", "isSomeTooLarge", "()Z"⟩, 11) := ⟨⟨by decide +kernel, by decide +kernel⟩, List.mem_of_getElem? (i := 32) (by decide +kernel), List.mem_of_getElem? (i := 627) (by decide +kernel), List.mem_of_getElem? (i := 628) (by decide +kernel)⟩
theorem lw_p20 : lw_okq (⟨"java/util/ArrayList", "fastRemove", "([Ljava/lang/Object;I)V"⟩, 3) := ⟨⟨by decide +kernel, by decide +kernel⟩, List.mem_of_getElem? (i := 40) (by decide +kernel), List.mem_of_getElem? (i := 635) (by decide +kernel), List.mem_of_getElem? (i := 636) (by decide +kernel)⟩
theorem lw_p21 : lw_okq (⟨"ShorthandRules", "innerPart", "(III)LShorthandRules$Part;"⟩, 11) := ⟨⟨by decide +kernel, by decide +kernel⟩, List.mem_of_getElem? (i := 32) (by decide +kernel), List.mem_of_getElem? (i := 649) (by decide +kernel), List.mem_of_getElem? (i := 650) (by decide +kernel)⟩
theorem lw_p22 : lw_okq (⟨"ShorthandRules", "gather", "(LShorthandRules$Snippet;)V"⟩, 11) := ⟨⟨by decide +kernel, by decide +kernel⟩, List.mem_of_getElem? (i := 32) (by decide +kernel), List.mem_of_getElem? (i := 731) (by decide +kernel), List.mem_of_getElem? (i := 732) (by decide +kernel)⟩
theorem lw_p23 : lw_okq (⟨"ShorthandRules", "give", "(LShorthandRules$Snippet;I)V"⟩, 11) := ⟨⟨by decide +kernel, by decide +kernel⟩, List.mem_of_getElem? (i := 32) (by decide +kernel), List.mem_of_getElem? (i := 740) (by decide +kernel), List.mem_of_getElem? (i := 741) (by decide +kernel)⟩
theorem lw_p24 : lw_okq (⟨"ShorthandRules", "givePart", "(LShorthandRules$Snippet;LShorthandRules$Part;I)V"⟩, 11) := ⟨⟨by decide +kernel, by decide +kernel⟩, List.mem_of_getElem? (i := 32) (by decide +kernel), List.mem_of_getElem? (i := 744) (by decide +kernel), List.mem_of_getElem? (i := 745) (by decide +kernel)⟩
theorem lw_p25 : lw_okq (⟨"ShorthandRules$Gift", "addNumber", "(I)V"⟩, 2) := ⟨⟨by decide +kernel, by decide +kernel⟩, List.mem_of_getElem? (i := 111) (by decide +kernel), List.mem_of_getElem? (i := 752) (by decide +kernel), List.mem_of_getElem? (i := 753) (by decide +kernel)⟩
theorem lw_p26 : lw_okq (⟨"ShorthandRules$Gift", "addWeekday", "(I)V"⟩, 2) := ⟨⟨by decide +kernel, by decide +kernel⟩, List.mem_of_getElem? (i := 111) (by decide +kernel), List.mem_of_getElem? (i := 760) (by decide +kernel), List.mem_of_getElem? (i := 761) (by decide +kernel)⟩
theorem lw_p27 : lw_okq (⟨"ShorthandRules$Text", "shiftStops", "(I)V"⟩, 3) := ⟨⟨by decide +kernel, by decide +kernel⟩, List.mem_of_getElem? (i := 130) (by decide +kernel), List.mem_of_getElem? (i := 896) (by decide +kernel), List.mem_of_getElem? (i := 897) (by decide +kernel)⟩
theorem lw_p28 : lw_okq (⟨"ShorthandRules", "expand", "(LShorthandRules$Snippet;)Z"⟩, 11) := ⟨⟨by decide +kernel, by decide +kernel⟩, List.mem_of_getElem? (i := 32) (by decide +kernel), List.mem_of_getElem? (i := 903) (by decide +kernel), List.mem_of_getElem? (i := 904) (by decide +kernel)⟩
theorem lw_p29 : lw_okq (⟨"ShorthandRulesModel", "fail", "(I)I"⟩, 31) := ⟨⟨by decide +kernel, by decide +kernel⟩, List.mem_of_getElem? (i := 987) (by decide +kernel), List.mem_of_getElem? (i := 1097) (by decide +kernel), List.mem_of_getElem? (i := 1098) (by decide +kernel)⟩
theorem lw_p30 : lw_okq (⟨"ShorthandRulesModel", "noSnippet", "(I)Z"⟩, 31) := ⟨⟨by decide +kernel, by decide +kernel⟩, List.mem_of_getElem? (i := 987) (by decide +kernel), List.mem_of_getElem? (i := 1105) (by decide +kernel), List.mem_of_getElem? (i := 1106) (by decide +kernel)⟩
theorem lw_p31 : lw_okq (⟨"ShorthandRulesModel", "puts", "(ICIII)I"⟩, 31) := ⟨⟨by decide +kernel, by decide +kernel⟩, List.mem_of_getElem? (i := 987) (by decide +kernel), List.mem_of_getElem? (i := 1130) (by decide +kernel), List.mem_of_getElem? (i := 1131) (by decide +kernel)⟩
def lw_privs_2 : List (MethodName × Nat) := [(⟨"ShorthandRules", "measureAll", "()V"⟩, 11), (⟨"ShorthandRules", "measure", "(LShorthandRules$Snippet;)V"⟩, 11), (⟨"ShorthandRules", "measureInner", "(LShorthandRules$Snippet;II)V"⟩, 11), (⟨"ShorthandRules", "isSomeTooLarge", "()Z"⟩, 11), (⟨"java/util/ArrayList", "fastRemove", "([Ljava/lang/Object;I)V"⟩, 3), (⟨"ShorthandRules", "innerPart", "(III)LShorthandRules$Part;"⟩, 11), (⟨"ShorthandRules", "gather", "(LShorthandRules$Snippet;)V"⟩, 11), (⟨"ShorthandRules", "give", "(LShorthandRules$Snippet;I)V"⟩, 11), (⟨"ShorthandRules", "givePart", "(LShorthandRules$Snippet;LShorthandRules$Part;I)V"⟩, 11), (⟨"ShorthandRules$Gift", "addNumber", "(I)V"⟩, 2), (⟨"ShorthandRules$Gift", "addWeekday", "(I)V"⟩, 2), (⟨"ShorthandRules$Text", "shiftStops", "(I)V"⟩, 3), (⟨"ShorthandRules", "expand", "(LShorthandRules$Snippet;)Z"⟩, 11), (⟨"ShorthandRulesModel", "fail", "(I)I"⟩, 31), (⟨"ShorthandRulesModel", "noSnippet", "(I)Z"⟩, 31), (⟨"ShorthandRulesModel", "puts", "(ICIII)I"⟩, 31)]
theorem lw_r2 : ∀ q ∈ lw_privs_2, lw_okq q := List.forall_mem_cons.mpr ⟨lw_p16, List.forall_mem_cons.mpr ⟨lw_p17, List.forall_mem_cons.mpr ⟨lw_p18, List.forall_mem_cons.mpr ⟨lw_p19, List.forall_mem_cons.mpr ⟨lw_p20, List.forall_mem_cons.mpr ⟨lw_p21, List.forall_mem_cons.mpr ⟨lw_p22, List.forall_mem_cons.mpr ⟨lw_p23, List.forall_mem_cons.mpr ⟨lw_p24, List.forall_mem_cons.mpr ⟨lw_p25, List.forall_mem_cons.mpr ⟨lw_p26, List.forall_mem_cons.mpr ⟨lw_p27, List.forall_mem_cons.mpr ⟨lw_p28, List.forall_mem_cons.mpr ⟨lw_p29, List.forall_mem_cons.mpr ⟨lw_p30, List.forall_mem_cons.mpr ⟨lw_p31, fun _ h => absurd h List.not_mem_nil⟩⟩⟩⟩⟩⟩⟩⟩⟩⟩⟩⟩⟩⟩⟩⟩
theorem lw_p32 : lw_okq (⟨"ShorthandRulesModel", "size", "(I)I"⟩, 31) := ⟨⟨by decide +kernel, by decide +kernel⟩, List.mem_of_getElem? (i := 987) (by decide +kernel), List.mem_of_getElem? (i := 1134) (by decide +kernel), List.mem_of_getElem? (i := 1135) (by decide +kernel)⟩
theorem lw_p33 : lw_okq (⟨"ShorthandRulesModel", "goesTo", "(II)Z"⟩, 31) := ⟨⟨by decide +kernel, by decide +kernel⟩, List.mem_of_getElem? (i := 987) (by decide +kernel), List.mem_of_getElem? (i := 1142) (by decide +kernel), List.mem_of_getElem? (i := 1143) (by decide +kernel)⟩
theorem lw_p34 : lw_okq (⟨"ShorthandRulesModel", "gives", "(I)V"⟩, 31) := ⟨⟨by decide +kernel, by decide +kernel⟩, List.mem_of_getElem? (i := 987) (by decide +kernel), List.mem_of_getElem? (i := 1174) (by decide +kernel), List.mem_of_getElem? (i := 1175) (by decide +kernel)⟩
theorem lw_p35 : lw_okq (⟨"ShorthandRulesModel", "layAll", "(I)V"⟩, 31) := ⟨⟨by decide +kernel, by decide +kernel⟩, List.mem_of_getElem? (i := 987) (by decide +kernel), List.mem_of_getElem? (i := 1178) (by decide +kernel), List.mem_of_getElem? (i := 1179) (by decide +kernel)⟩
theorem lw_p36 : lw_okq (⟨"ShorthandRulesModel", "lay", "(C)V"⟩, 31) := ⟨⟨by decide +kernel, by decide +kernel⟩, List.mem_of_getElem? (i := 987) (by decide +kernel), List.mem_of_getElem? (i := 1182) (by decide +kernel), List.mem_of_getElem? (i := 1183) (by decide +kernel)⟩
theorem lw_p37 : lw_okq (⟨"ShorthandRulesModel", "layDay", "(IC)V"⟩, 31) := ⟨⟨by decide +kernel, by decide +kernel⟩, List.mem_of_getElem? (i := 987) (by decide +kernel), List.mem_of_getElem? (i := 1186) (by decide +kernel), List.mem_of_getElem? (i := 1187) (by decide +kernel)⟩
theorem lw_p38 : lw_okq (⟨"ShorthandRulesModel", "layNumber", "(I)V"⟩, 31) := ⟨⟨by decide +kernel, by decide +kernel⟩, List.mem_of_getElem? (i := 987) (by decide +kernel), List.mem_of_getElem? (i := 1190) (by decide +kernel), List.mem_of_getElem? (i := 1191) (by decide +kernel)⟩
theorem lw_p39 : lw_okq (⟨"ShorthandRulesModel", "deep", "(I)I"⟩, 31) := ⟨⟨by decide +kernel, by decide +kernel⟩, List.mem_of_getElem? (i := 987) (by decide +kernel), List.mem_of_getElem? (i := 1214) (by decide +kernel), List.mem_of_getElem? (i := 1215) (by decide +kernel)⟩
theorem lw_p40 : lw_okq (⟨"ShorthandRulesModel", "shadows", "(II)Z"⟩, 31) := ⟨⟨by decide +kernel, by decide +kernel⟩, List.mem_of_getElem? (i := 987) (by decide +kernel), List.mem_of_getElem? (i := 1222) (by decide +kernel), List.mem_of_getElem? (i := 1223) (by decide +kernel)⟩
theorem lw_p41 : lw_okq (⟨"ShorthandRulesModel", "isUsed", "(I)Z"⟩, 31) := ⟨⟨by decide +kernel, by decide +kernel⟩, List.mem_of_getElem? (i := 987) (by decide +kernel), List.mem_of_getElem? (i := 1226) (by decide +kernel), List.mem_of_getElem? (i := 1227) (by decide +kernel)⟩
theorem lw_p42 : lw_okq (⟨"ShorthandRulesModel", "endsAt", "(III)Z"⟩, 31) := ⟨⟨by decide +kernel, by decide +kernel⟩, List.mem_of_getElem? (i := 987) (by decide +kernel), List.mem_of_getElem? (i := 1230) (by decide +kernel), List.mem_of_getElem? (i := 1231) (by decide +kernel)⟩
theorem lw_p43 : lw_okq (⟨"ShorthandRulesModel", "firstShadow", "(I)I"⟩, 31) := ⟨⟨by decide +kernel, by decide +kernel⟩, List.mem_of_getElem? (i := 987) (by decide +kernel), List.mem_of_getElem? (i := 1238) (by decide +kernel), List.mem_of_getElem? (i := 1239) (by decide +kernel)⟩
theorem lw_p44 : lw_okq (⟨"ShorthandRulesModel", "matches", "(I)Z"⟩, 31) := ⟨⟨by decide +kernel, by decide +kernel⟩, List.mem_of_getElem? (i := 987) (by decide +kernel), List.mem_of_getElem? (i := 1250) (by decide +kernel), List.mem_of_getElem? (i := 1251) (by decide +kernel)⟩
theorem lw_p45 : lw_okq (⟨"ShorthandRulesModel", "insert", "(C)V"⟩, 31) := ⟨⟨by decide +kernel, by decide +kernel⟩, List.mem_of_getElem? (i := 987) (by decide +kernel), List.mem_of_getElem? (i := 1263) (by decide +kernel), List.mem_of_getElem? (i := 1264) (by decide +kernel)⟩
theorem lw_p46 : lw_okq (⟨"ShorthandRulesModel", "expands", "(I)V"⟩, 31) := ⟨⟨by decide +kernel, by decide +kernel⟩, List.mem_of_getElem? (i := 987) (by decide +kernel), List.mem_of_getElem? (i := 1267) (by decide +kernel), List.mem_of_getElem? (i := 1268) (by decide +kernel)⟩
theorem lw_p47 : lw_okq (⟨"ShorthandRulesModel", "keeps", "()V"⟩, 31) := ⟨⟨by decide +kernel, by decide +kernel⟩, List.mem_of_getElem? (i := 987) (by decide +kernel), List.mem_of_getElem? (i := 1271) (by decide +kernel), List.mem_of_getElem? (i := 1272) (by decide +kernel)⟩
def lw_privs_3 : List (MethodName × Nat) := [(⟨"ShorthandRulesModel", "size", "(I)I"⟩, 31), (⟨"ShorthandRulesModel", "goesTo", "(II)Z"⟩, 31), (⟨"ShorthandRulesModel", "gives", "(I)V"⟩, 31), (⟨"ShorthandRulesModel", "layAll", "(I)V"⟩, 31), (⟨"ShorthandRulesModel", "lay", "(C)V"⟩, 31), (⟨"ShorthandRulesModel", "layDay", "(IC)V"⟩, 31), (⟨"ShorthandRulesModel", "layNumber", "(I)V"⟩, 31), (⟨"ShorthandRulesModel", "deep", "(I)I"⟩, 31), (⟨"ShorthandRulesModel", "shadows", "(II)Z"⟩, 31), (⟨"ShorthandRulesModel", "isUsed", "(I)Z"⟩, 31), (⟨"ShorthandRulesModel", "endsAt", "(III)Z"⟩, 31), (⟨"ShorthandRulesModel", "firstShadow", "(I)I"⟩, 31), (⟨"ShorthandRulesModel", "matches", "(I)Z"⟩, 31), (⟨"ShorthandRulesModel", "insert", "(C)V"⟩, 31), (⟨"ShorthandRulesModel", "expands", "(I)V"⟩, 31), (⟨"ShorthandRulesModel", "keeps", "()V"⟩, 31)]
theorem lw_r3 : ∀ q ∈ lw_privs_3, lw_okq q := List.forall_mem_cons.mpr ⟨lw_p32, List.forall_mem_cons.mpr ⟨lw_p33, List.forall_mem_cons.mpr ⟨lw_p34, List.forall_mem_cons.mpr ⟨lw_p35, List.forall_mem_cons.mpr ⟨lw_p36, List.forall_mem_cons.mpr ⟨lw_p37, List.forall_mem_cons.mpr ⟨lw_p38, List.forall_mem_cons.mpr ⟨lw_p39, List.forall_mem_cons.mpr ⟨lw_p40, List.forall_mem_cons.mpr ⟨lw_p41, List.forall_mem_cons.mpr ⟨lw_p42, List.forall_mem_cons.mpr ⟨lw_p43, List.forall_mem_cons.mpr ⟨lw_p44, List.forall_mem_cons.mpr ⟨lw_p45, List.forall_mem_cons.mpr ⟨lw_p46, List.forall_mem_cons.mpr ⟨lw_p47, fun _ h => absurd h List.not_mem_nil⟩⟩⟩⟩⟩⟩⟩⟩⟩⟩⟩⟩⟩⟩⟩⟩
theorem lw_p48 : lw_okq (⟨"ShorthandRulesModel", "takeOut", "()V"⟩, 31) := ⟨⟨by decide +kernel, by decide +kernel⟩, List.mem_of_getElem? (i := 987) (by decide +kernel), List.mem_of_getElem? (i := 1275) (by decide +kernel), List.mem_of_getElem? (i := 1276) (by decide +kernel)⟩
def lw_privs_4 : List (MethodName × Nat) := [(⟨"ShorthandRulesModel", "takeOut", "()V"⟩, 31)]
theorem lw_r4 : ∀ q ∈ lw_privs_4, lw_okq q := List.forall_mem_cons.mpr ⟨lw_p48, fun _ h => absurd h List.not_mem_nil⟩
def lw_privs : List (MethodName × Nat) := lw_privs_1 ++ (lw_privs_2 ++ (lw_privs_3 ++ (lw_privs_4)))
def lw_tbl : List Cond := k2_sels lw_privs ++ tables_1
theorem lw_privs_ok : ∀ q ∈ lw_privs, lw_okq q := by
  show ∀ q ∈ lw_privs_1 ++ (lw_privs_2 ++ (lw_privs_3 ++ (lw_privs_4))), lw_okq q
  exact List.forall_mem_append.mpr ⟨lw_r1, List.forall_mem_append.mpr ⟨lw_r2, List.forall_mem_append.mpr ⟨lw_r3, lw_r4⟩⟩⟩
/-- the streams that the claim lets the run draw from -/
abbrev lw_cs : List Choice := [Jvm.Choice.named "NaN.bits"]
theorem lw_bits : nanBits ∈ lw_cs := by first | decide | exact List.mem_cons_self | simp [lw_cs, nanBits]
end
section
/-! ===== BEGIN printed: names, fields, word lists, decode rows ===== -/
def RX0 : String := "ShorthandRules$Gift"
def TX0 : u_T := fun k => match k with
  | 0 => ("ShorthandRules$Gift", "characters", "LShorthandRules$Row;", true)
  | _ => ("ShorthandRules$Gift", "stops", "LShorthandRules$Row;", true)
def tyX0 : Nat → FieldType := fun k => match k with
  | 0 => .object "ShorthandRules$Row"
  | _ => .object "ShorthandRules$Row"
abbrev wsX00 : List Cond := u_ws RX0 TX0 2
theorem nmX0 : ∀ a, a < 2 → ∀ b, b < 2 → a ≠ b → (TX0 a).2.1 ≠ (TX0 b).2.1 := by decide +kernel
theorem tyX0_ok : ∀ k, k < 2 → parseFieldDescriptor (TX0 k).2.2.1 = some (tyX0 k) := by decide +kernel
abbrev cX0_init : ByteArray := prog_2_method_1_code
def yX0_init : MethodName := ⟨RX0, "<init>", "()V"⟩
abbrev cX0_empty : ByteArray := prog_2_method_2_code
def yX0_empty : MethodName := ⟨RX0, "empty", "()V"⟩
abbrev cX0_addDate : ByteArray := prog_2_method_3_code
def yX0_addDate : MethodName := ⟨RX0, "addDate", "(II)V"⟩
abbrev cX0_addWeekday : ByteArray := prog_2_method_4_code
def yX0_addWeekday : MethodName := ⟨RX0, "addWeekday", "(I)V"⟩
abbrev cX0_addNumber : ByteArray := prog_2_method_5_code
def yX0_addNumber : MethodName := ⟨RX0, "addNumber", "(I)V"⟩
def RX1 : String := "ShorthandRules$Kind"
def TX1 : u_T := fun k => match k with
  | _ => ("", "", "", false)
def tyX1 : Nat → FieldType := fun k => match k with
  | _ => .int
abbrev wsX10 : List Cond := u_ws RX1 TX1 0
theorem nmX1 : ∀ a, a < 0 → ∀ b, b < 0 → a ≠ b → (TX1 a).2.1 ≠ (TX1 b).2.1 := by decide +kernel
theorem tyX1_ok : ∀ k, k < 0 → parseFieldDescriptor (TX1 k).2.2.1 = some (tyX1 k) := by decide +kernel
def RX2 : String := "ShorthandRules$Part"
def TX2 : u_T := fun k => match k with
  | 0 => ("ShorthandRules$Part", "kind", "LShorthandRules$Kind;", true)
  | 1 => ("ShorthandRules$Part", "first", "I", true)
  | _ => ("ShorthandRules$Part", "second", "I", true)
def tyX2 : Nat → FieldType := fun k => match k with
  | 0 => .object "ShorthandRules$Kind"
  | 1 => .int
  | _ => .int
abbrev wsX20 : List Cond := u_ws RX2 TX2 3
theorem nmX2 : ∀ a, a < 3 → ∀ b, b < 3 → a ≠ b → (TX2 a).2.1 ≠ (TX2 b).2.1 := by decide +kernel
theorem tyX2_ok : ∀ k, k < 3 → parseFieldDescriptor (TX2 k).2.2.1 = some (tyX2 k) := by decide +kernel
abbrev cX2_init : ByteArray := prog_4_method_1_code
def yX2_init : MethodName := ⟨RX2, "<init>", "(LShorthandRules$Kind;II)V"⟩
def RX3 : String := "ShorthandRules$Row"
def TX3 : u_T := fun k => match k with
  | 0 => ("ShorthandRules$Row", "cells", "[I", true)
  | _ => ("ShorthandRules$Row", "count", "I", false)
def tyX3 : Nat → FieldType := fun k => match k with
  | 0 => .array .int
  | _ => .int
abbrev wsX30 : List Cond := u_ws RX3 TX3 2
theorem nmX3 : ∀ a, a < 2 → ∀ b, b < 2 → a ≠ b → (TX3 a).2.1 ≠ (TX3 b).2.1 := by decide +kernel
theorem tyX3_ok : ∀ k, k < 2 → parseFieldDescriptor (TX3 k).2.2.1 = some (tyX3 k) := by decide +kernel
abbrev cX3_init : ByteArray := prog_5_method_1_code
def yX3_init : MethodName := ⟨RX3, "<init>", "(I)V"⟩
abbrev cX3_count : ByteArray := prog_5_method_2_code
def yX3_count : MethodName := ⟨RX3, "count", "()I"⟩
abbrev cX3_isEmpty : ByteArray := prog_5_method_3_code
def yX3_isEmpty : MethodName := ⟨RX3, "isEmpty", "()Z"⟩
abbrev cX3_isFull : ByteArray := prog_5_method_4_code
def yX3_isFull : MethodName := ⟨RX3, "isFull", "()Z"⟩
abbrev cX3_has : ByteArray := prog_5_method_5_code
def yX3_has : MethodName := ⟨RX3, "has", "(I)Z"⟩
abbrev cX3_at : ByteArray := prog_5_method_6_code
def yX3_at : MethodName := ⟨RX3, "at", "(I)I"⟩
abbrev cX3_set : ByteArray := prog_5_method_7_code
def yX3_set : MethodName := ⟨RX3, "set", "(II)V"⟩
abbrev cX3_add : ByteArray := prog_5_method_8_code
def yX3_add : MethodName := ⟨RX3, "add", "(I)V"⟩
abbrev cX3_insert : ByteArray := prog_5_method_9_code
def yX3_insert : MethodName := ⟨RX3, "insert", "(II)V"⟩
abbrev cX3_removeAt : ByteArray := prog_5_method_10_code
def yX3_removeAt : MethodName := ⟨RX3, "removeAt", "(I)I"⟩
abbrev cX3_empty : ByteArray := prog_5_method_11_code
def yX3_empty : MethodName := ⟨RX3, "empty", "()V"⟩
abbrev cX3_copyFrom : ByteArray := prog_5_method_12_code
def yX3_copyFrom : MethodName := ⟨RX3, "copyFrom", "(LShorthandRules$Row;)V"⟩
abbrev cX3_isSameAs : ByteArray := prog_5_method_13_code
def yX3_isSameAs : MethodName := ⟨RX3, "isSameAs", "(LShorthandRules$Row;)Z"⟩
abbrev cX3_endsWith : ByteArray := prog_5_method_14_code
def yX3_endsWith : MethodName := ⟨RX3, "endsWith", "(LShorthandRules$Row;I)Z"⟩
def RX4 : String := "ShorthandRules$Snippet"
def TX4 : u_T := fun k => match k with
  | 0 => ("ShorthandRules$Snippet", "isForWords", "Z", true)
  | 1 => ("ShorthandRules$Snippet", "trigger", "LShorthandRules$Row;", true)
  | 2 => ("ShorthandRules$Snippet", "parts", "Ljava/util/ArrayList;", true)
  | 3 => ("ShorthandRules$Snippet", "isOn", "Z", false)
  | 4 => ("ShorthandRules$Snippet", "isSecondChosen", "Z", false)
  | 5 => ("ShorthandRules$Snippet", "size", "I", false)
  | 6 => ("ShorthandRules$Snippet", "height", "I", false)
  | _ => ("ShorthandRules$Snippet", "reached", "I", false)
def tyX4 : Nat → FieldType := fun k => match k with
  | 0 => .boolean
  | 1 => .object "ShorthandRules$Row"
  | 2 => .object "java/util/ArrayList"
  | 3 => .boolean
  | 4 => .boolean
  | 5 => .int
  | 6 => .int
  | _ => .int
abbrev wsX40 : List Cond := u_ws RX4 TX4 8
theorem nmX4 : ∀ a, a < 8 → ∀ b, b < 8 → a ≠ b → (TX4 a).2.1 ≠ (TX4 b).2.1 := by decide +kernel
theorem tyX4_ok : ∀ k, k < 8 → parseFieldDescriptor (TX4 k).2.2.1 = some (tyX4 k) := by decide +kernel
abbrev cX4_init : ByteArray := prog_6_method_1_code
def yX4_init : MethodName := ⟨RX4, "<init>", "(Z)V"⟩
abbrev cX4_reaches : ByteArray := prog_6_method_2_code
def yX4_reaches : MethodName := ⟨RX4, "reaches", "(I)Z"⟩
abbrev cX4_grow : ByteArray := prog_6_method_3_code
def yX4_grow : MethodName := ⟨RX4, "grow", "(I)V"⟩
def RX5 : String := "ShorthandRules$Text"
def TX5 : u_T := fun k => match k with
  | 0 => ("ShorthandRules$Text", "characters", "LShorthandRules$Row;", true)
  | 1 => ("ShorthandRules$Text", "stops", "LShorthandRules$Row;", true)
  | _ => ("ShorthandRules$Text", "caret", "I", false)
def tyX5 : Nat → FieldType := fun k => match k with
  | 0 => .object "ShorthandRules$Row"
  | 1 => .object "ShorthandRules$Row"
  | _ => .int
abbrev wsX50 : List Cond := u_ws RX5 TX5 3
theorem nmX5 : ∀ a, a < 3 → ∀ b, b < 3 → a ≠ b → (TX5 a).2.1 ≠ (TX5 b).2.1 := by decide +kernel
theorem tyX5_ok : ∀ k, k < 3 → parseFieldDescriptor (TX5 k).2.2.1 = some (tyX5 k) := by decide +kernel
abbrev cX5_init : ByteArray := prog_7_method_1_code
def yX5_init : MethodName := ⟨RX5, "<init>", "()V"⟩
abbrev cX5_type : ByteArray := prog_7_method_2_code
def yX5_type : MethodName := ⟨RX5, "type", "(I)V"⟩
abbrev cX5_takeOut : ByteArray := prog_7_method_3_code
def yX5_takeOut : MethodName := ⟨RX5, "takeOut", "()I"⟩
abbrev cX5_shiftStops : ByteArray := prog_7_method_4_code
def yX5_shiftStops : MethodName := ⟨RX5, "shiftStops", "(I)V"⟩
abbrev cX5_replace : ByteArray := prog_7_method_5_code
def yX5_replace : MethodName := ⟨RX5, "replace", "(ILShorthandRules$Gift;)V"⟩
abbrev cX5_copyFrom : ByteArray := prog_7_method_6_code
def yX5_copyFrom : MethodName := ⟨RX5, "copyFrom", "(LShorthandRules$Text;)V"⟩
def RX6 : String := "ShorthandRules$TriggerTree"
def TX6 : u_T := fun k => match k with
  | 0 => ("ShorthandRules$TriggerTree", "parents", "LShorthandRules$Row;", true)
  | 1 => ("ShorthandRules$TriggerTree", "characters", "LShorthandRules$Row;", true)
  | _ => ("ShorthandRules$TriggerTree", "endings", "LShorthandRules$Row;", true)
def tyX6 : Nat → FieldType := fun k => match k with
  | 0 => .object "ShorthandRules$Row"
  | 1 => .object "ShorthandRules$Row"
  | _ => .object "ShorthandRules$Row"
abbrev wsX60 : List Cond := u_ws RX6 TX6 3
theorem nmX6 : ∀ a, a < 3 → ∀ b, b < 3 → a ≠ b → (TX6 a).2.1 ≠ (TX6 b).2.1 := by decide +kernel
theorem tyX6_ok : ∀ k, k < 3 → parseFieldDescriptor (TX6 k).2.2.1 = some (tyX6 k) := by decide +kernel
abbrev cX6_init : ByteArray := prog_8_method_1_code
def yX6_init : MethodName := ⟨RX6, "<init>", "()V"⟩
abbrev cX6_empty : ByteArray := prog_8_method_2_code
def yX6_empty : MethodName := ⟨RX6, "empty", "()V"⟩
abbrev cX6_add : ByteArray := prog_8_method_3_code
def yX6_add : MethodName := ⟨RX6, "add", "(LShorthandRules$Row;I)V"⟩
abbrev cX6_childOf : ByteArray := prog_8_method_4_code
def yX6_childOf : MethodName := ⟨RX6, "childOf", "(II)I"⟩
abbrev cX6_endingsAt : ByteArray := prog_8_method_5_code
def yX6_endingsAt : MethodName := ⟨RX6, "endingsAt", "(I)I"⟩
abbrev cX6_addNode : ByteArray := prog_8_method_6_code
def yX6_addNode : MethodName := ⟨RX6, "addNode", "(II)I"⟩
def RX7 : String := "ShorthandRules"
def TX7 : u_T := fun k => match k with
  | 0 => ("ShorthandRules", "snippets", "Ljava/util/ArrayList;", true)
  | 1 => ("ShorthandRules", "tree", "LShorthandRules$TriggerTree;", true)
  | 2 => ("ShorthandRules", "gift", "LShorthandRules$Gift;", true)
  | 3 => ("ShorthandRules", "text", "LShorthandRules$Text;", true)
  | 4 => ("ShorthandRules", "textAheadOfExpansion", "LShorthandRules$Text;", true)
  | 5 => ("ShorthandRules", "today", "I", false)
  | 6 => ("ShorthandRules", "canUndo", "Z", false)
  | 7 => ("ShorthandRules", "lastGain", "I", false)
  | 8 => ("ShorthandRules", "gain", "J", false)
  | 9 => ("ShorthandRules", "expansions", "I", false)
  | _ => ("ShorthandRules", "undone", "I", false)
def tyX7 : Nat → FieldType := fun k => match k with
  | 0 => .object "java/util/ArrayList"
  | 1 => .object "ShorthandRules$TriggerTree"
  | 2 => .object "ShorthandRules$Gift"
  | 3 => .object "ShorthandRules$Text"
  | 4 => .object "ShorthandRules$Text"
  | 5 => .int
  | 6 => .boolean
  | 7 => .int
  | 8 => .long
  | 9 => .int
  | _ => .int
abbrev wsX70 : List Cond := u_ws RX7 TX7 11
theorem nmX7 : ∀ a, a < 11 → ∀ b, b < 11 → a ≠ b → (TX7 a).2.1 ≠ (TX7 b).2.1 := by decide +kernel
theorem tyX7_ok : ∀ k, k < 11 → parseFieldDescriptor (TX7 k).2.2.1 = some (tyX7 k) := by decide +kernel
abbrev cX7_init : ByteArray := prog_1_method_1_code
def yX7_init : MethodName := ⟨RX7, "<init>", "()V"⟩
abbrev cX7_addSnippet : ByteArray := prog_1_method_2_code
def yX7_addSnippet : MethodName := ⟨RX7, "addSnippet", "(Z)I"⟩
abbrev cX7_addToTrigger : ByteArray := prog_1_method_3_code
def yX7_addToTrigger : MethodName := ⟨RX7, "addToTrigger", "(IC)I"⟩
abbrev cX7_clearTrigger : ByteArray := prog_1_method_4_code
def yX7_clearTrigger : MethodName := ⟨RX7, "clearTrigger", "(I)I"⟩
abbrev cX7_setOn : ByteArray := prog_1_method_5_code
def yX7_setOn : MethodName := ⟨RX7, "setOn", "(IZ)Z"⟩
abbrev cX7_putCharacter : ByteArray := prog_1_method_6_code
def yX7_putCharacter : MethodName := ⟨RX7, "putCharacter", "(IC)I"⟩
abbrev cX7_putSnippet : ByteArray := prog_1_method_7_code
def yX7_putSnippet : MethodName := ⟨RX7, "putSnippet", "(II)I"⟩
abbrev cX7_putChoice : ByteArray := prog_1_method_8_code
def yX7_putChoice : MethodName := ⟨RX7, "putChoice", "(III)I"⟩
abbrev cX7_putDate : ByteArray := prog_1_method_9_code
def yX7_putDate : MethodName := ⟨RX7, "putDate", "(IIC)I"⟩
abbrev cX7_putStop : ByteArray := prog_1_method_10_code
def yX7_putStop : MethodName := ⟨RX7, "putStop", "(I)I"⟩
abbrev cX7_clearBody : ByteArray := prog_1_method_11_code
def yX7_clearBody : MethodName := ⟨RX7, "clearBody", "(I)I"⟩
abbrev cX7_choose : ByteArray := prog_1_method_12_code
def yX7_choose : MethodName := ⟨RX7, "choose", "(IZ)Z"⟩
abbrev cX7_setToday : ByteArray := prog_1_method_13_code
def yX7_setToday : MethodName := ⟨RX7, "setToday", "(I)I"⟩
abbrev cX7_lengthOf : ByteArray := prog_1_method_14_code
def yX7_lengthOf : MethodName := ⟨RX7, "lengthOf", "(I)I"⟩
abbrev cX7_characterOf : ByteArray := prog_1_method_15_code
def yX7_characterOf : MethodName := ⟨RX7, "characterOf", "(II)C"⟩
abbrev cX7_stopsOf : ByteArray := prog_1_method_16_code
def yX7_stopsOf : MethodName := ⟨RX7, "stopsOf", "(I)I"⟩
abbrev cX7_stopOf : ByteArray := prog_1_method_17_code
def yX7_stopOf : MethodName := ⟨RX7, "stopOf", "(II)I"⟩
abbrev cX7_comesTo : ByteArray := prog_1_method_18_code
def yX7_comesTo : MethodName := ⟨RX7, "comesTo", "(II)Z"⟩
abbrev cX7_depth : ByteArray := prog_1_method_19_code
def yX7_depth : MethodName := ⟨RX7, "depth", "(I)I"⟩
abbrev cX7_isShadowedBy : ByteArray := prog_1_method_20_code
def yX7_isShadowedBy : MethodName := ⟨RX7, "isShadowedBy", "(II)Z"⟩
abbrev cX7_shadower : ByteArray := prog_1_method_21_code
def yX7_shadower : MethodName := ⟨RX7, "shadower", "(I)I"⟩
abbrev cX7_clashes : ByteArray := prog_1_method_22_code
def yX7_clashes : MethodName := ⟨RX7, "clashes", "()I"⟩
abbrev cX7_key : ByteArray := prog_1_method_23_code
def yX7_key : MethodName := ⟨RX7, "key", "(C)I"⟩
abbrev cX7_erase : ByteArray := prog_1_method_24_code
def yX7_erase : MethodName := ⟨RX7, "erase", "()C"⟩
abbrev cX7_moveCaret : ByteArray := prog_1_method_25_code
def yX7_moveCaret : MethodName := ⟨RX7, "moveCaret", "(I)I"⟩
abbrev cX7_nextStop : ByteArray := prog_1_method_26_code
def yX7_nextStop : MethodName := ⟨RX7, "nextStop", "()I"⟩
abbrev cX7_undo : ByteArray := prog_1_method_27_code
def yX7_undo : MethodName := ⟨RX7, "undo", "()I"⟩
abbrev cX7_length : ByteArray := prog_1_method_28_code
def yX7_length : MethodName := ⟨RX7, "length", "()I"⟩
abbrev cX7_characterAt : ByteArray := prog_1_method_29_code
def yX7_characterAt : MethodName := ⟨RX7, "characterAt", "(I)C"⟩
abbrev cX7_caret : ByteArray := prog_1_method_30_code
def yX7_caret : MethodName := ⟨RX7, "caret", "()I"⟩
abbrev cX7_stops : ByteArray := prog_1_method_31_code
def yX7_stops : MethodName := ⟨RX7, "stops", "()I"⟩
abbrev cX7_stopAt : ByteArray := prog_1_method_32_code
def yX7_stopAt : MethodName := ⟨RX7, "stopAt", "(I)I"⟩
abbrev cX7_matching : ByteArray := prog_1_method_33_code
def yX7_matching : MethodName := ⟨RX7, "matching", "()I"⟩
abbrev cX7_matchingByLooking : ByteArray := prog_1_method_34_code
def yX7_matchingByLooking : MethodName := ⟨RX7, "matchingByLooking", "()I"⟩
abbrev cX7_saved : ByteArray := prog_1_method_35_code
def yX7_saved : MethodName := ⟨RX7, "saved", "()J"⟩
abbrev cX7_keptShare : ByteArray := prog_1_method_36_code
def yX7_keptShare : MethodName := ⟨RX7, "keptShare", "()F"⟩
abbrev cX7_requireSnippet : ByteArray := prog_1_method_37_code
def yX7_requireSnippet : MethodName := ⟨RX7, "requireSnippet", "(I)V"⟩
abbrev cX7_snippetAt : ByteArray := prog_1_method_38_code
def yX7_snippetAt : MethodName := ⟨RX7, "snippetAt", "(I)LShorthandRules$Snippet;"⟩
abbrev cX7_requireTypeable : ByteArray := prog_1_method_39_code
def yX7_requireTypeable : MethodName := ⟨RX7, "requireTypeable", "(C)V"⟩
abbrev cX7_isLetterOrDigit : ByteArray := prog_1_method_40_code
def yX7_isLetterOrDigit : MethodName := ⟨RX7, "isLetterOrDigit", "(I)Z"⟩
abbrev cX7_innerPart : ByteArray := prog_1_method_41_code
def yX7_innerPart : MethodName := ⟨RX7, "innerPart", "(III)LShorthandRules$Part;"⟩
abbrev cX7_addPart : ByteArray := prog_1_method_42_code
def yX7_addPart : MethodName := ⟨RX7, "addPart", "(LShorthandRules$Snippet;LShorthandRules$Part;)I"⟩
abbrev cX7_isSomeTooLarge : ByteArray := prog_1_method_43_code
def yX7_isSomeTooLarge : MethodName := ⟨RX7, "isSomeTooLarge", "()Z"⟩
abbrev cX7_measureAll : ByteArray := prog_1_method_44_code
def yX7_measureAll : MethodName := ⟨RX7, "measureAll", "()V"⟩
abbrev cX7_measure : ByteArray := prog_1_method_45_code
def yX7_measure : MethodName := ⟨RX7, "measure", "(LShorthandRules$Snippet;)V"⟩
abbrev cX7_measureInner : ByteArray := prog_1_method_46_code
def yX7_measureInner : MethodName := ⟨RX7, "measureInner", "(LShorthandRules$Snippet;II)V"⟩
abbrev cX7_gather : ByteArray := prog_1_method_47_code
def yX7_gather : MethodName := ⟨RX7, "gather", "(LShorthandRules$Snippet;)V"⟩
abbrev cX7_give : ByteArray := prog_1_method_48_code
def yX7_give : MethodName := ⟨RX7, "give", "(LShorthandRules$Snippet;I)V"⟩
abbrev cX7_givePart : ByteArray := prog_1_method_49_code
def yX7_givePart : MethodName := ⟨RX7, "givePart", "(LShorthandRules$Snippet;LShorthandRules$Part;I)V"⟩
abbrev cX7_isInShadow : ByteArray := prog_1_method_50_code
def yX7_isInShadow : MethodName := ⟨RX7, "isInShadow", "(II)Z"⟩
abbrev cX7_isTypedEarlier : ByteArray := prog_1_method_51_code
def yX7_isTypedEarlier : MethodName := ⟨RX7, "isTypedEarlier", "(LShorthandRules$Row;LShorthandRules$Row;)Z"⟩
abbrev cX7_lowestShadower : ByteArray := prog_1_method_52_code
def yX7_lowestShadower : MethodName := ⟨RX7, "lowestShadower", "(I)I"⟩
abbrev cX7_growTree : ByteArray := prog_1_method_53_code
def yX7_growTree : MethodName := ⟨RX7, "growTree", "()V"⟩
abbrev cX7_findInTree : ByteArray := prog_1_method_54_code
def yX7_findInTree : MethodName := ⟨RX7, "findInTree", "()I"⟩
abbrev cX7_lowestReady : ByteArray := prog_1_method_55_code
def yX7_lowestReady : MethodName := ⟨RX7, "lowestReady", "(II)I"⟩
abbrev cX7_findByLooking : ByteArray := prog_1_method_56_code
def yX7_findByLooking : MethodName := ⟨RX7, "findByLooking", "()I"⟩
abbrev cX7_isReady : ByteArray := prog_1_method_57_code
def yX7_isReady : MethodName := ⟨RX7, "isReady", "(LShorthandRules$Snippet;I)Z"⟩
abbrev cX7_isWordStart : ByteArray := prog_1_method_58_code
def yX7_isWordStart : MethodName := ⟨RX7, "isWordStart", "(I)Z"⟩
abbrev cX7_expand : ByteArray := prog_1_method_59_code
def yX7_expand : MethodName := ⟨RX7, "expand", "(LShorthandRules$Snippet;)Z"⟩
def RX8 : String := "ShorthandRulesModel"
def TX8 : u_T := fun k => match k with
  | 0 => ("ShorthandRulesModel", "thrown", "I", false)
  | 1 => ("ShorthandRulesModel", "snippets", "I", false)
  | 2 => ("ShorthandRulesModel", "today", "I", false)
  | 3 => ("ShorthandRulesModel", "length", "I", false)
  | 4 => ("ShorthandRulesModel", "caret", "I", false)
  | 5 => ("ShorthandRulesModel", "stops", "I", false)
  | 6 => ("ShorthandRulesModel", "laid", "I", false)
  | 7 => ("ShorthandRulesModel", "laidStops", "I", false)
  | 8 => ("ShorthandRulesModel", "wasLength", "I", false)
  | 9 => ("ShorthandRulesModel", "wasCaret", "I", false)
  | 10 => ("ShorthandRulesModel", "wasStops", "I", false)
  | 11 => ("ShorthandRulesModel", "expansions", "I", false)
  | 12 => ("ShorthandRulesModel", "kept", "I", false)
  | 13 => ("ShorthandRulesModel", "last", "I", false)
  | 14 => ("ShorthandRulesModel", "saved", "J", false)
  | 15 => ("ShorthandRulesModel", "canUndo", "Z", false)
  | 16 => ("ShorthandRulesModel", "trigger", "[C", true)
  | 17 => ("ShorthandRulesModel", "kind", "[C", true)
  | 18 => ("ShorthandRulesModel", "text", "[C", true)
  | 19 => ("ShorthandRulesModel", "was", "[C", true)
  | 20 => ("ShorthandRulesModel", "out", "[C", true)
  | 21 => ("ShorthandRulesModel", "lengths", "[I", true)
  | 22 => ("ShorthandRulesModel", "parts", "[I", true)
  | 23 => ("ShorthandRulesModel", "one", "[I", true)
  | 24 => ("ShorthandRulesModel", "other", "[I", true)
  | 25 => ("ShorthandRulesModel", "stop", "[I", true)
  | 26 => ("ShorthandRulesModel", "wasStop", "[I", true)
  | 27 => ("ShorthandRulesModel", "outStop", "[I", true)
  | 28 => ("ShorthandRulesModel", "isForWords", "[Z", true)
  | 29 => ("ShorthandRulesModel", "isOff", "[Z", true)
  | _ => ("ShorthandRulesModel", "isSecond", "[Z", true)
def tyX8 : Nat → FieldType := fun k => match k with
  | 0 => .int
  | 1 => .int
  | 2 => .int
  | 3 => .int
  | 4 => .int
  | 5 => .int
  | 6 => .int
  | 7 => .int
  | 8 => .int
  | 9 => .int
  | 10 => .int
  | 11 => .int
  | 12 => .int
  | 13 => .int
  | 14 => .long
  | 15 => .boolean
  | 16 => .array .char
  | 17 => .array .char
  | 18 => .array .char
  | 19 => .array .char
  | 20 => .array .char
  | 21 => .array .int
  | 22 => .array .int
  | 23 => .array .int
  | 24 => .array .int
  | 25 => .array .int
  | 26 => .array .int
  | 27 => .array .int
  | 28 => .array .boolean
  | 29 => .array .boolean
  | _ => .array .boolean
abbrev wsX80 : List Cond := u_ws RX8 TX8 31
theorem nmX8 : ∀ a, a < 31 → ∀ b, b < 31 → a ≠ b → (TX8 a).2.1 ≠ (TX8 b).2.1 := by decide +kernel
theorem tyX8_ok : ∀ k, k < 31 → parseFieldDescriptor (TX8 k).2.2.1 = some (tyX8 k) := by decide +kernel
abbrev cX8_init : ByteArray := prog_10_method_1_code
def yX8_init : MethodName := ⟨RX8, "<init>", "()V"⟩
abbrev cX8_thrown : ByteArray := prog_10_method_2_code
def yX8_thrown : MethodName := ⟨RX8, "thrown", "()I"⟩
abbrev cX8_fail : ByteArray := prog_10_method_3_code
def yX8_fail : MethodName := ⟨RX8, "fail", "(I)I"⟩
abbrev cX8_isIn : ByteArray := prog_10_method_4_code
def yX8_isIn : MethodName := ⟨RX8, "isIn", "(III)Z"⟩
abbrev cX8_noSnippet : ByteArray := prog_10_method_5_code
def yX8_noSnippet : MethodName := ⟨RX8, "noSnippet", "(I)Z"⟩
abbrev cX8_isWord : ByteArray := prog_10_method_6_code
def yX8_isWord : MethodName := ⟨RX8, "isWord", "(C)Z"⟩
abbrev cX8_canType : ByteArray := prog_10_method_7_code
def yX8_canType : MethodName := ⟨RX8, "canType", "(C)Z"⟩
abbrev cX8_addSnippet : ByteArray := prog_10_method_8_code
def yX8_addSnippet : MethodName := ⟨RX8, "addSnippet", "(Z)I"⟩
abbrev cX8_addToTrigger : ByteArray := prog_10_method_9_code
def yX8_addToTrigger : MethodName := ⟨RX8, "addToTrigger", "(IC)I"⟩
abbrev cX8_clearTrigger : ByteArray := prog_10_method_10_code
def yX8_clearTrigger : MethodName := ⟨RX8, "clearTrigger", "(I)I"⟩
abbrev cX8_setOn : ByteArray := prog_10_method_11_code
def yX8_setOn : MethodName := ⟨RX8, "setOn", "(IZ)Z"⟩
abbrev cX8_size : ByteArray := prog_10_method_12_code
def yX8_size : MethodName := ⟨RX8, "size", "(I)I"⟩
abbrev cX8_puts : ByteArray := prog_10_method_13_code
def yX8_puts : MethodName := ⟨RX8, "puts", "(ICIII)I"⟩
abbrev cX8_putCharacter : ByteArray := prog_10_method_14_code
def yX8_putCharacter : MethodName := ⟨RX8, "putCharacter", "(IC)I"⟩
abbrev cX8_goesTo : ByteArray := prog_10_method_15_code
def yX8_goesTo : MethodName := ⟨RX8, "goesTo", "(II)Z"⟩
abbrev cX8_putSnippet : ByteArray := prog_10_method_16_code
def yX8_putSnippet : MethodName := ⟨RX8, "putSnippet", "(II)I"⟩
abbrev cX8_putChoice : ByteArray := prog_10_method_17_code
def yX8_putChoice : MethodName := ⟨RX8, "putChoice", "(III)I"⟩
abbrev cX8_putDate : ByteArray := prog_10_method_18_code
def yX8_putDate : MethodName := ⟨RX8, "putDate", "(IIC)I"⟩
abbrev cX8_putStop : ByteArray := prog_10_method_19_code
def yX8_putStop : MethodName := ⟨RX8, "putStop", "(I)I"⟩
abbrev cX8_clearBody : ByteArray := prog_10_method_20_code
def yX8_clearBody : MethodName := ⟨RX8, "clearBody", "(I)I"⟩
abbrev cX8_choose : ByteArray := prog_10_method_21_code
def yX8_choose : MethodName := ⟨RX8, "choose", "(IZ)Z"⟩
abbrev cX8_setToday : ByteArray := prog_10_method_22_code
def yX8_setToday : MethodName := ⟨RX8, "setToday", "(I)I"⟩
abbrev cX8_lay : ByteArray := prog_10_method_23_code
def yX8_lay : MethodName := ⟨RX8, "lay", "(C)V"⟩
abbrev cX8_layNumber : ByteArray := prog_10_method_24_code
def yX8_layNumber : MethodName := ⟨RX8, "layNumber", "(I)V"⟩
abbrev cX8_layDay : ByteArray := prog_10_method_25_code
def yX8_layDay : MethodName := ⟨RX8, "layDay", "(IC)V"⟩
abbrev cX8_layAll : ByteArray := prog_10_method_26_code
def yX8_layAll : MethodName := ⟨RX8, "layAll", "(I)V"⟩
abbrev cX8_gives : ByteArray := prog_10_method_27_code
def yX8_gives : MethodName := ⟨RX8, "gives", "(I)V"⟩
abbrev cX8_lengthOf : ByteArray := prog_10_method_28_code
def yX8_lengthOf : MethodName := ⟨RX8, "lengthOf", "(I)I"⟩
abbrev cX8_characterOf : ByteArray := prog_10_method_29_code
def yX8_characterOf : MethodName := ⟨RX8, "characterOf", "(II)C"⟩
abbrev cX8_stopsOf : ByteArray := prog_10_method_30_code
def yX8_stopsOf : MethodName := ⟨RX8, "stopsOf", "(I)I"⟩
abbrev cX8_stopOf : ByteArray := prog_10_method_31_code
def yX8_stopOf : MethodName := ⟨RX8, "stopOf", "(II)I"⟩
abbrev cX8_comesTo : ByteArray := prog_10_method_32_code
def yX8_comesTo : MethodName := ⟨RX8, "comesTo", "(II)Z"⟩
abbrev cX8_deep : ByteArray := prog_10_method_33_code
def yX8_deep : MethodName := ⟨RX8, "deep", "(I)I"⟩
abbrev cX8_depth : ByteArray := prog_10_method_34_code
def yX8_depth : MethodName := ⟨RX8, "depth", "(I)I"⟩
abbrev cX8_endsAt : ByteArray := prog_10_method_35_code
def yX8_endsAt : MethodName := ⟨RX8, "endsAt", "(III)Z"⟩
abbrev cX8_isUsed : ByteArray := prog_10_method_36_code
def yX8_isUsed : MethodName := ⟨RX8, "isUsed", "(I)Z"⟩
abbrev cX8_shadows : ByteArray := prog_10_method_37_code
def yX8_shadows : MethodName := ⟨RX8, "shadows", "(II)Z"⟩
abbrev cX8_isShadowedBy : ByteArray := prog_10_method_38_code
def yX8_isShadowedBy : MethodName := ⟨RX8, "isShadowedBy", "(II)Z"⟩
abbrev cX8_firstShadow : ByteArray := prog_10_method_39_code
def yX8_firstShadow : MethodName := ⟨RX8, "firstShadow", "(I)I"⟩
abbrev cX8_shadower : ByteArray := prog_10_method_40_code
def yX8_shadower : MethodName := ⟨RX8, "shadower", "(I)I"⟩
abbrev cX8_clashes : ByteArray := prog_10_method_41_code
def yX8_clashes : MethodName := ⟨RX8, "clashes", "()I"⟩
abbrev cX8_matches : ByteArray := prog_10_method_42_code
def yX8_matches : MethodName := ⟨RX8, "matches", "(I)Z"⟩
abbrev cX8_matching : ByteArray := prog_10_method_43_code
def yX8_matching : MethodName := ⟨RX8, "matching", "()I"⟩
abbrev cX8_matchingByLooking : ByteArray := prog_10_method_44_code
def yX8_matchingByLooking : MethodName := ⟨RX8, "matchingByLooking", "()I"⟩
abbrev cX8_insert : ByteArray := prog_10_method_45_code
def yX8_insert : MethodName := ⟨RX8, "insert", "(C)V"⟩
abbrev cX8_takeOut : ByteArray := prog_10_method_46_code
def yX8_takeOut : MethodName := ⟨RX8, "takeOut", "()V"⟩
abbrev cX8_keeps : ByteArray := prog_10_method_47_code
def yX8_keeps : MethodName := ⟨RX8, "keeps", "()V"⟩
abbrev cX8_expands : ByteArray := prog_10_method_48_code
def yX8_expands : MethodName := ⟨RX8, "expands", "(I)V"⟩
abbrev cX8_key : ByteArray := prog_10_method_49_code
def yX8_key : MethodName := ⟨RX8, "key", "(C)I"⟩
abbrev cX8_erase : ByteArray := prog_10_method_50_code
def yX8_erase : MethodName := ⟨RX8, "erase", "()C"⟩
abbrev cX8_moveCaret : ByteArray := prog_10_method_51_code
def yX8_moveCaret : MethodName := ⟨RX8, "moveCaret", "(I)I"⟩
abbrev cX8_nextStop : ByteArray := prog_10_method_52_code
def yX8_nextStop : MethodName := ⟨RX8, "nextStop", "()I"⟩
abbrev cX8_undo : ByteArray := prog_10_method_53_code
def yX8_undo : MethodName := ⟨RX8, "undo", "()I"⟩
abbrev cX8_length : ByteArray := prog_10_method_54_code
def yX8_length : MethodName := ⟨RX8, "length", "()I"⟩
abbrev cX8_characterAt : ByteArray := prog_10_method_55_code
def yX8_characterAt : MethodName := ⟨RX8, "characterAt", "(I)C"⟩
abbrev cX8_caret : ByteArray := prog_10_method_56_code
def yX8_caret : MethodName := ⟨RX8, "caret", "()I"⟩
abbrev cX8_stops : ByteArray := prog_10_method_57_code
def yX8_stops : MethodName := ⟨RX8, "stops", "()I"⟩
abbrev cX8_stopAt : ByteArray := prog_10_method_58_code
def yX8_stopAt : MethodName := ⟨RX8, "stopAt", "(I)I"⟩
abbrev cX8_saved : ByteArray := prog_10_method_59_code
def yX8_saved : MethodName := ⟨RX8, "saved", "()J"⟩
abbrev cX8_keptShare : ByteArray := prog_10_method_60_code
def yX8_keptShare : MethodName := ⟨RX8, "keptShare", "()F"⟩
def RJx145de : String := "java/io/Serializable"
def TJx145de : u_T := fun k => match k with
  | _ => ("", "", "", false)
def tyJx145de : Nat → FieldType := fun k => match k with
  | _ => .int
abbrev wsJx145de0 : List Cond := u_ws RJx145de TJx145de 0
theorem nmJx145de : ∀ a, a < 0 → ∀ b, b < 0 → a ≠ b → (TJx145de a).2.1 ≠ (TJx145de b).2.1 := by decide +kernel
theorem tyJx145de_ok : ∀ k, k < 0 → parseFieldDescriptor (TJx145de k).2.2.1 = some (tyJx145de k) := by decide +kernel
def RJx9f9b0 : String := "java/lang/CharSequence"
def TJx9f9b0 : u_T := fun k => match k with
  | _ => ("", "", "", false)
def tyJx9f9b0 : Nat → FieldType := fun k => match k with
  | _ => .int
abbrev wsJx9f9b00 : List Cond := u_ws RJx9f9b0 TJx9f9b0 0
theorem nmJx9f9b0 : ∀ a, a < 0 → ∀ b, b < 0 → a ≠ b → (TJx9f9b0 a).2.1 ≠ (TJx9f9b0 b).2.1 := by decide +kernel
theorem tyJx9f9b0_ok : ∀ k, k < 0 → parseFieldDescriptor (TJx9f9b0 k).2.2.1 = some (tyJx9f9b0 k) := by decide +kernel
def RJx8e188 : String := "java/lang/Cloneable"
def TJx8e188 : u_T := fun k => match k with
  | _ => ("", "", "", false)
def tyJx8e188 : Nat → FieldType := fun k => match k with
  | _ => .int
abbrev wsJx8e1880 : List Cond := u_ws RJx8e188 TJx8e188 0
theorem nmJx8e188 : ∀ a, a < 0 → ∀ b, b < 0 → a ≠ b → (TJx8e188 a).2.1 ≠ (TJx8e188 b).2.1 := by decide +kernel
theorem tyJx8e188_ok : ∀ k, k < 0 → parseFieldDescriptor (TJx8e188 k).2.2.1 = some (tyJx8e188 k) := by decide +kernel
def RJxb160c : String := "java/lang/Comparable"
def TJxb160c : u_T := fun k => match k with
  | _ => ("", "", "", false)
def tyJxb160c : Nat → FieldType := fun k => match k with
  | _ => .int
abbrev wsJxb160c0 : List Cond := u_ws RJxb160c TJxb160c 0
theorem nmJxb160c : ∀ a, a < 0 → ∀ b, b < 0 → a ≠ b → (TJxb160c a).2.1 ≠ (TJxb160c b).2.1 := by decide +kernel
theorem tyJxb160c_ok : ∀ k, k < 0 → parseFieldDescriptor (TJxb160c k).2.2.1 = some (tyJxb160c k) := by decide +kernel
def RJx29ce0 : String := "java/lang/Enum"
def TJx29ce0 : u_T := fun k => match k with
  | _ => ("", "", "", false)
def tyJx29ce0 : Nat → FieldType := fun k => match k with
  | _ => .int
abbrev wsJx29ce00 : List Cond := u_ws RJx29ce0 TJx29ce0 0
theorem nmJx29ce0 : ∀ a, a < 0 → ∀ b, b < 0 → a ≠ b → (TJx29ce0 a).2.1 ≠ (TJx29ce0 b).2.1 := by decide +kernel
theorem tyJx29ce0_ok : ∀ k, k < 0 → parseFieldDescriptor (TJx29ce0 k).2.2.1 = some (tyJx29ce0 k) := by decide +kernel
def RJxab1ab : String := "java/lang/Iterable"
def TJxab1ab : u_T := fun k => match k with
  | _ => ("", "", "", false)
def tyJxab1ab : Nat → FieldType := fun k => match k with
  | _ => .int
abbrev wsJxab1ab0 : List Cond := u_ws RJxab1ab TJxab1ab 0
theorem nmJxab1ab : ∀ a, a < 0 → ∀ b, b < 0 → a ≠ b → (TJxab1ab a).2.1 ≠ (TJxab1ab b).2.1 := by decide +kernel
theorem tyJxab1ab_ok : ∀ k, k < 0 → parseFieldDescriptor (TJxab1ab k).2.2.1 = some (tyJxab1ab k) := by decide +kernel
def RJ9 : String := "java/lang/Math"
def TJ9 : u_T := fun k => match k with
  | _ => ("", "", "", false)
def tyJ9 : Nat → FieldType := fun k => match k with
  | _ => .int
abbrev wsJ90 : List Cond := u_ws RJ9 TJ9 0
theorem nmJ9 : ∀ a, a < 0 → ∀ b, b < 0 → a ≠ b → (TJ9 a).2.1 ≠ (TJ9 b).2.1 := by decide +kernel
theorem tyJ9_ok : ∀ k, k < 0 → parseFieldDescriptor (TJ9 k).2.2.1 = some (tyJ9 k) := by decide +kernel
abbrev cJ9_floorMod_7cf53 : ByteArray := prog_21_method_50_code
def yJ9_floorMod_7cf53 : MethodName := ⟨RJ9, "floorMod", "(II)I"⟩
abbrev cJ9_max_7cf53 : ByteArray := prog_21_method_65_code
def yJ9_max_7cf53 : MethodName := ⟨RJ9, "max", "(II)I"⟩
abbrev cJ9_min_7cf53 : ByteArray := prog_21_method_69_code
def yJ9_min_7cf53 : MethodName := ⟨RJ9, "min", "(II)I"⟩
def RJ0 : String := "java/lang/String"
def TJ0 : u_T := fun k => match k with
  | _ => ("", "", "", false)
def tyJ0 : Nat → FieldType := fun k => match k with
  | _ => .int
abbrev wsJ00 : List Cond := u_ws RJ0 TJ0 0
theorem nmJ0 : ∀ a, a < 0 → ∀ b, b < 0 → a ≠ b → (TJ0 a).2.1 ≠ (TJ0 b).2.1 := by decide +kernel
theorem tyJ0_ok : ∀ k, k < 0 → parseFieldDescriptor (TJ0 k).2.2.1 = some (tyJ0 k) := by decide +kernel
abbrev cJ0_length_8abf5 : ByteArray := prog_23_method_54_code
def yJ0_length_8abf5 : MethodName := ⟨RJ0, "length", "()I"⟩
abbrev cJ0_charAt_5068e : ByteArray := prog_23_method_56_code
def yJ0_charAt_5068e : MethodName := ⟨RJ0, "charAt", "(I)C"⟩
abbrev cJ0_coder_7d493 : ByteArray := prog_23_method_152_code
def yJ0_coder_7d493 : MethodName := ⟨RJ0, "coder", "()B"⟩
abbrev cJ0_isLatin1_aae02 : ByteArray := prog_23_method_154_code
def yJ0_isLatin1_aae02 : MethodName := ⟨RJ0, "isLatin1", "()Z"⟩
abbrev cJ0_checkIndex_df160 : ByteArray := prog_23_method_155_code
def yJ0_checkIndex_df160 : MethodName := ⟨RJ0, "checkIndex", "(II)V"⟩
def RJ1 : String := "java/lang/StringLatin1"
def TJ1 : u_T := fun k => match k with
  | _ => ("", "", "", false)
def tyJ1 : Nat → FieldType := fun k => match k with
  | _ => .int
abbrev wsJ10 : List Cond := u_ws RJ1 TJ1 0
theorem nmJ1 : ∀ a, a < 0 → ∀ b, b < 0 → a ≠ b → (TJ1 a).2.1 ≠ (TJ1 b).2.1 := by decide +kernel
theorem tyJ1_ok : ∀ k, k < 0 → parseFieldDescriptor (TJ1 k).2.2.1 = some (tyJ1 k) := by decide +kernel
abbrev cJ1_charAt_3b067 : ByteArray := prog_24_method_2_code
def yJ1_charAt_3b067 : MethodName := ⟨RJ1, "charAt", "([BI)C"⟩
def RJ2 : String := "java/lang/StringUTF16"
def TJ2 : u_T := fun k => match k with
  | _ => ("", "", "", false)
def tyJ2 : Nat → FieldType := fun k => match k with
  | _ => .int
abbrev wsJ20 : List Cond := u_ws RJ2 TJ2 0
theorem nmJ2 : ∀ a, a < 0 → ∀ b, b < 0 → a ≠ b → (TJ2 a).2.1 ≠ (TJ2 b).2.1 := by decide +kernel
theorem tyJ2_ok : ∀ k, k < 0 → parseFieldDescriptor (TJ2 k).2.2.1 = some (tyJ2 k) := by decide +kernel
abbrev cJ2_getChar_3b067 : ByteArray := prog_25_method_5_code
def yJ2_getChar_3b067 : MethodName := ⟨RJ2, "getChar", "([BI)C"⟩
abbrev cJ2_length_9d52b : ByteArray := prog_25_method_6_code
def yJ2_length_9d52b : MethodName := ⟨RJ2, "length", "([B)I"⟩
abbrev cJ2_charAt_3b067 : ByteArray := prog_25_method_83_code
def yJ2_charAt_3b067 : MethodName := ⟨RJ2, "charAt", "([BI)C"⟩
abbrev cJ2_checkIndex_2214a : ByteArray := prog_25_method_91_code
def yJ2_checkIndex_2214a : MethodName := ⟨RJ2, "checkIndex", "(I[B)V"⟩
def RJ10 : String := "java/lang/System"
def TJ10 : u_T := fun k => match k with
  | _ => ("", "", "", false)
def tyJ10 : Nat → FieldType := fun k => match k with
  | _ => .int
abbrev wsJ100 : List Cond := u_ws RJ10 TJ10 0
theorem nmJ10 : ∀ a, a < 0 → ∀ b, b < 0 → a ≠ b → (TJ10 a).2.1 ≠ (TJ10 b).2.1 := by decide +kernel
theorem tyJ10_ok : ∀ k, k < 0 → parseFieldDescriptor (TJ10 k).2.2.1 = some (tyJ10 k) := by decide +kernel
def RJxfd54e : String := "java/lang/constant/Constable"
def TJxfd54e : u_T := fun k => match k with
  | _ => ("", "", "", false)
def tyJxfd54e : Nat → FieldType := fun k => match k with
  | _ => .int
abbrev wsJxfd54e0 : List Cond := u_ws RJxfd54e TJxfd54e 0
theorem nmJxfd54e : ∀ a, a < 0 → ∀ b, b < 0 → a ≠ b → (TJxfd54e a).2.1 ≠ (TJxfd54e b).2.1 := by decide +kernel
theorem tyJxfd54e_ok : ∀ k, k < 0 → parseFieldDescriptor (TJxfd54e k).2.2.1 = some (tyJxfd54e k) := by decide +kernel
def RJx3cf43 : String := "java/lang/constant/ConstantDesc"
def TJx3cf43 : u_T := fun k => match k with
  | _ => ("", "", "", false)
def tyJx3cf43 : Nat → FieldType := fun k => match k with
  | _ => .int
abbrev wsJx3cf430 : List Cond := u_ws RJx3cf43 TJx3cf43 0
theorem nmJx3cf43 : ∀ a, a < 0 → ∀ b, b < 0 → a ≠ b → (TJx3cf43 a).2.1 ≠ (TJx3cf43 b).2.1 := by decide +kernel
theorem tyJx3cf43_ok : ∀ k, k < 0 → parseFieldDescriptor (TJx3cf43 k).2.2.1 = some (tyJx3cf43 k) := by decide +kernel
def RJxa1e45 : String := "java/util/AbstractCollection"
def TJxa1e45 : u_T := fun k => match k with
  | _ => ("", "", "", false)
def tyJxa1e45 : Nat → FieldType := fun k => match k with
  | _ => .int
abbrev wsJxa1e450 : List Cond := u_ws RJxa1e45 TJxa1e45 0
theorem nmJxa1e45 : ∀ a, a < 0 → ∀ b, b < 0 → a ≠ b → (TJxa1e45 a).2.1 ≠ (TJxa1e45 b).2.1 := by decide +kernel
theorem tyJxa1e45_ok : ∀ k, k < 0 → parseFieldDescriptor (TJxa1e45 k).2.2.1 = some (tyJxa1e45 k) := by decide +kernel
abbrev cJxa1e45_init_da8c8 : ByteArray := prog_31_method_1_code
def yJxa1e45_init_da8c8 : MethodName := ⟨RJxa1e45, "<init>", "()V"⟩
def RJxc12de : String := "java/util/AbstractList"
def TJxc12de : u_T := fun k => match k with
  | _ => ("", "", "", false)
def tyJxc12de : Nat → FieldType := fun k => match k with
  | _ => .int
abbrev wsJxc12de0 : List Cond := u_ws RJxc12de TJxc12de 0
theorem nmJxc12de : ∀ a, a < 0 → ∀ b, b < 0 → a ≠ b → (TJxc12de a).2.1 ≠ (TJxc12de b).2.1 := by decide +kernel
theorem tyJxc12de_ok : ∀ k, k < 0 → parseFieldDescriptor (TJxc12de k).2.2.1 = some (tyJxc12de k) := by decide +kernel
abbrev cJxc12de_init_da8c8 : ByteArray := prog_32_method_1_code
def yJxc12de_init_da8c8 : MethodName := ⟨RJxc12de, "<init>", "()V"⟩
def RJx4a65c : String := "java/util/ArrayList"
def TJx4a65c : u_T := fun k => match k with
  | 0 => ("java/util/AbstractList", "modCount", "I", false)
  | 1 => ("java/util/ArrayList", "elementData", "[Ljava/lang/Object;", false)
  | _ => ("java/util/ArrayList", "size", "I", false)
def tyJx4a65c : Nat → FieldType := fun k => match k with
  | 0 => .int
  | 1 => .array (.object "java/lang/Object")
  | _ => .int
abbrev wsJx4a65c0 : List Cond := u_ws RJx4a65c TJx4a65c 3
theorem nmJx4a65c : ∀ a, a < 3 → ∀ b, b < 3 → a ≠ b → (TJx4a65c a).2.1 ≠ (TJx4a65c b).2.1 := by decide +kernel
theorem tyJx4a65c_ok : ∀ k, k < 3 → parseFieldDescriptor (TJx4a65c k).2.2.1 = some (tyJx4a65c k) := by decide +kernel
abbrev cJx4a65c_init_da8c8 : ByteArray := prog_33_method_2_code
def yJx4a65c_init_da8c8 : MethodName := ⟨RJx4a65c, "<init>", "()V"⟩
abbrev cJx4a65c_grow_92f84 : ByteArray := prog_33_method_6_code
def yJx4a65c_grow_92f84 : MethodName := ⟨RJx4a65c, "grow", "(I)[Ljava/lang/Object;"⟩
abbrev cJx4a65c_grow_d5877 : ByteArray := prog_33_method_7_code
def yJx4a65c_grow_d5877 : MethodName := ⟨RJx4a65c, "grow", "()[Ljava/lang/Object;"⟩
abbrev cJx4a65c_size_8abf5 : ByteArray := prog_33_method_8_code
def yJx4a65c_size_8abf5 : MethodName := ⟨RJx4a65c, "size", "()I"⟩
abbrev cJx4a65c_elementData_915e3 : ByteArray := prog_33_method_18_code
def yJx4a65c_elementData_915e3 : MethodName := ⟨RJx4a65c, "elementData", "(I)Ljava/lang/Object;"⟩
abbrev cJx4a65c_get_915e3 : ByteArray := prog_33_method_20_code
def yJx4a65c_get_915e3 : MethodName := ⟨RJx4a65c, "get", "(I)Ljava/lang/Object;"⟩
abbrev cJx4a65c_add_72be8 : ByteArray := prog_33_method_24_code
def yJx4a65c_add_72be8 : MethodName := ⟨RJx4a65c, "add", "(Ljava/lang/Object;[Ljava/lang/Object;I)V"⟩
abbrev cJx4a65c_add_9ea2d : ByteArray := prog_33_method_25_code
def yJx4a65c_add_9ea2d : MethodName := ⟨RJx4a65c, "add", "(Ljava/lang/Object;)Z"⟩
abbrev cJx4a65c_remove_915e3 : ByteArray := prog_33_method_29_code
def yJx4a65c_remove_915e3 : MethodName := ⟨RJx4a65c, "remove", "(I)Ljava/lang/Object;"⟩
abbrev cJx4a65c_fastRemove_b59b0 : ByteArray := prog_33_method_39_code
def yJx4a65c_fastRemove_b59b0 : MethodName := ⟨RJx4a65c, "fastRemove", "([Ljava/lang/Object;I)V"⟩
abbrev cJx4a65c_clear_da8c8 : ByteArray := prog_33_method_40_code
def yJx4a65c_clear_da8c8 : MethodName := ⟨RJx4a65c, "clear", "()V"⟩
def RJ7 : String := "java/util/Arrays"
def TJ7 : u_T := fun k => match k with
  | _ => ("", "", "", false)
def tyJ7 : Nat → FieldType := fun k => match k with
  | _ => .int
abbrev wsJ70 : List Cond := u_ws RJ7 TJ7 0
theorem nmJ7 : ∀ a, a < 0 → ∀ b, b < 0 → a ≠ b → (TJ7 a).2.1 ≠ (TJ7 b).2.1 := by decide +kernel
theorem tyJ7_ok : ∀ k, k < 0 → parseFieldDescriptor (TJ7 k).2.2.1 = some (tyJ7 k) := by decide +kernel
abbrev cJ7_copyOf_1904c : ByteArray := prog_34_method_119_code
def yJ7_copyOf_1904c : MethodName := ⟨RJ7, "copyOf", "([Ljava/lang/Object;I)[Ljava/lang/Object;"⟩
abbrev cJ7_copyOf_6403c : ByteArray := prog_34_method_120_code
def yJ7_copyOf_6403c : MethodName := ⟨RJ7, "copyOf", "([Ljava/lang/Object;ILjava/lang/Class;)[Ljava/lang/Object;"⟩
def RJx5ef63 : String := "java/util/Collection"
def TJx5ef63 : u_T := fun k => match k with
  | _ => ("", "", "", false)
def tyJx5ef63 : Nat → FieldType := fun k => match k with
  | _ => .int
abbrev wsJx5ef630 : List Cond := u_ws RJx5ef63 TJx5ef63 0
theorem nmJx5ef63 : ∀ a, a < 0 → ∀ b, b < 0 → a ≠ b → (TJx5ef63 a).2.1 ≠ (TJx5ef63 b).2.1 := by decide +kernel
theorem tyJx5ef63_ok : ∀ k, k < 0 → parseFieldDescriptor (TJx5ef63 k).2.2.1 = some (tyJx5ef63 k) := by decide +kernel
def RJxbd725 : String := "java/util/List"
def TJxbd725 : u_T := fun k => match k with
  | _ => ("", "", "", false)
def tyJxbd725 : Nat → FieldType := fun k => match k with
  | _ => .int
abbrev wsJxbd7250 : List Cond := u_ws RJxbd725 TJxbd725 0
theorem nmJxbd725 : ∀ a, a < 0 → ∀ b, b < 0 → a ≠ b → (TJxbd725 a).2.1 ≠ (TJxbd725 b).2.1 := by decide +kernel
theorem tyJxbd725_ok : ∀ k, k < 0 → parseFieldDescriptor (TJxbd725 k).2.2.1 = some (tyJxbd725 k) := by decide +kernel
def RJ15 : String := "java/util/Objects"
def TJ15 : u_T := fun k => match k with
  | _ => ("", "", "", false)
def tyJ15 : Nat → FieldType := fun k => match k with
  | _ => .int
abbrev wsJ150 : List Cond := u_ws RJ15 TJ15 0
theorem nmJ15 : ∀ a, a < 0 → ∀ b, b < 0 → a ≠ b → (TJ15 a).2.1 ≠ (TJ15 b).2.1 := by decide +kernel
theorem tyJ15_ok : ∀ k, k < 0 → parseFieldDescriptor (TJ15 k).2.2.1 = some (tyJ15 k) := by decide +kernel
abbrev cJ15_checkIndex_7cf53 : ByteArray := prog_38_method_17_code
def yJ15_checkIndex_7cf53 : MethodName := ⟨RJ15, "checkIndex", "(II)I"⟩
def RJxf0a74 : String := "java/util/RandomAccess"
def TJxf0a74 : u_T := fun k => match k with
  | _ => ("", "", "", false)
def tyJxf0a74 : Nat → FieldType := fun k => match k with
  | _ => .int
abbrev wsJxf0a740 : List Cond := u_ws RJxf0a74 TJxf0a74 0
theorem nmJxf0a74 : ∀ a, a < 0 → ∀ b, b < 0 → a ≠ b → (TJxf0a74 a).2.1 ≠ (TJxf0a74 b).2.1 := by decide +kernel
theorem tyJxf0a74_ok : ∀ k, k < 0 → parseFieldDescriptor (TJxf0a74 k).2.2.1 = some (tyJxf0a74 k) := by decide +kernel
def RJxa66e6 : String := "java/util/SequencedCollection"
def TJxa66e6 : u_T := fun k => match k with
  | _ => ("", "", "", false)
def tyJxa66e6 : Nat → FieldType := fun k => match k with
  | _ => .int
abbrev wsJxa66e60 : List Cond := u_ws RJxa66e6 TJxa66e6 0
theorem nmJxa66e6 : ∀ a, a < 0 → ∀ b, b < 0 → a ≠ b → (TJxa66e6 a).2.1 ≠ (TJxa66e6 b).2.1 := by decide +kernel
theorem tyJxa66e6_ok : ∀ k, k < 0 → parseFieldDescriptor (TJxa66e6 k).2.2.1 = some (tyJxa66e6 k) := by decide +kernel
def RJ8 : String := "jdk/internal/util/ArraysSupport"
def TJ8 : u_T := fun k => match k with
  | _ => ("", "", "", false)
def tyJ8 : Nat → FieldType := fun k => match k with
  | _ => .int
abbrev wsJ80 : List Cond := u_ws RJ8 TJ8 0
theorem nmJ8 : ∀ a, a < 0 → ∀ b, b < 0 → a ≠ b → (TJ8 a).2.1 ≠ (TJ8 b).2.1 := by decide +kernel
theorem tyJ8_ok : ∀ k, k < 0 → parseFieldDescriptor (TJ8 k).2.2.1 = some (tyJ8 k) := by decide +kernel
abbrev cJ8_newLength_cabcc : ByteArray := prog_41_method_27_code
def yJ8_newLength_cabcc : MethodName := ⟨RJ8, "newLength", "(III)I"⟩
abbrev cJ8_hugeLength_7cf53 : ByteArray := prog_41_method_28_code
def yJ8_hugeLength_7cf53 : MethodName := ⟨RJ8, "hugeLength", "(II)I"⟩
def RJ3 : String := "jdk/internal/util/Preconditions"
def TJ3 : u_T := fun k => match k with
  | _ => ("", "", "", false)
def tyJ3 : Nat → FieldType := fun k => match k with
  | _ => .int
abbrev wsJ30 : List Cond := u_ws RJ3 TJ3 0
theorem nmJ3 : ∀ a, a < 0 → ∀ b, b < 0 → a ≠ b → (TJ3 a).2.1 ≠ (TJ3 b).2.1 := by decide +kernel
theorem tyJ3_ok : ∀ k, k < 0 → parseFieldDescriptor (TJ3 k).2.2.1 = some (tyJ3 k) := by decide +kernel
abbrev cJ3_checkIndex_8e157 : ByteArray := prog_42_method_11_code
def yJ3_checkIndex_8e157 : MethodName := ⟨RJ3, "checkIndex", "(IILjava/util/function/BiFunction;)I"⟩
def RL : String := "ShorthandRulesLaw"
abbrev cL_addSnippet : ByteArray := method_3_code
def yL_addSnippet : MethodName := ⟨RL, "addSnippet", "(LShorthandRules;Z[J)I"⟩
abbrev cL_addToTrigger : ByteArray := method_4_code
def yL_addToTrigger : MethodName := ⟨RL, "addToTrigger", "(LShorthandRules;IC[J)I"⟩
abbrev cL_clearTrigger : ByteArray := method_5_code
def yL_clearTrigger : MethodName := ⟨RL, "clearTrigger", "(LShorthandRules;I[J)I"⟩
abbrev cL_setOn : ByteArray := method_6_code
def yL_setOn : MethodName := ⟨RL, "setOn", "(LShorthandRules;IZ[J)I"⟩
abbrev cL_putCharacter : ByteArray := method_7_code
def yL_putCharacter : MethodName := ⟨RL, "putCharacter", "(LShorthandRules;IC[J)I"⟩
abbrev cL_putSnippet : ByteArray := method_8_code
def yL_putSnippet : MethodName := ⟨RL, "putSnippet", "(LShorthandRules;II[J)I"⟩
abbrev cL_putChoice : ByteArray := method_9_code
def yL_putChoice : MethodName := ⟨RL, "putChoice", "(LShorthandRules;III[J)I"⟩
abbrev cL_putDate : ByteArray := method_10_code
def yL_putDate : MethodName := ⟨RL, "putDate", "(LShorthandRules;IIC[J)I"⟩
abbrev cL_putStop : ByteArray := method_11_code
def yL_putStop : MethodName := ⟨RL, "putStop", "(LShorthandRules;I[J)I"⟩
abbrev cL_clearBody : ByteArray := method_12_code
def yL_clearBody : MethodName := ⟨RL, "clearBody", "(LShorthandRules;I[J)I"⟩
abbrev cL_choose : ByteArray := method_13_code
def yL_choose : MethodName := ⟨RL, "choose", "(LShorthandRules;IZ[J)I"⟩
abbrev cL_setToday : ByteArray := method_14_code
def yL_setToday : MethodName := ⟨RL, "setToday", "(LShorthandRules;I[J)I"⟩
abbrev cL_lengthOf : ByteArray := method_15_code
def yL_lengthOf : MethodName := ⟨RL, "lengthOf", "(LShorthandRules;I[J)I"⟩
abbrev cL_characterOf : ByteArray := method_16_code
def yL_characterOf : MethodName := ⟨RL, "characterOf", "(LShorthandRules;II[J)I"⟩
abbrev cL_stopsOf : ByteArray := method_17_code
def yL_stopsOf : MethodName := ⟨RL, "stopsOf", "(LShorthandRules;I[J)I"⟩
abbrev cL_stopOf : ByteArray := method_18_code
def yL_stopOf : MethodName := ⟨RL, "stopOf", "(LShorthandRules;II[J)I"⟩
abbrev cL_comesTo : ByteArray := method_19_code
def yL_comesTo : MethodName := ⟨RL, "comesTo", "(LShorthandRules;II[J)I"⟩
abbrev cL_depth : ByteArray := method_20_code
def yL_depth : MethodName := ⟨RL, "depth", "(LShorthandRules;I[J)I"⟩
abbrev cL_isShadowedBy : ByteArray := method_21_code
def yL_isShadowedBy : MethodName := ⟨RL, "isShadowedBy", "(LShorthandRules;II[J)I"⟩
abbrev cL_shadower : ByteArray := method_22_code
def yL_shadower : MethodName := ⟨RL, "shadower", "(LShorthandRules;I[J)I"⟩
abbrev cL_key : ByteArray := method_23_code
def yL_key : MethodName := ⟨RL, "key", "(LShorthandRules;C[J)I"⟩
abbrev cL_erase : ByteArray := method_24_code
def yL_erase : MethodName := ⟨RL, "erase", "(LShorthandRules;[J)I"⟩
abbrev cL_moveCaret : ByteArray := method_25_code
def yL_moveCaret : MethodName := ⟨RL, "moveCaret", "(LShorthandRules;I[J)I"⟩
abbrev cL_nextStop : ByteArray := method_26_code
def yL_nextStop : MethodName := ⟨RL, "nextStop", "(LShorthandRules;[J)I"⟩
abbrev cL_undo : ByteArray := method_27_code
def yL_undo : MethodName := ⟨RL, "undo", "(LShorthandRules;[J)I"⟩
abbrev cL_characterAt : ByteArray := method_28_code
def yL_characterAt : MethodName := ⟨RL, "characterAt", "(LShorthandRules;I[J)I"⟩
abbrev cL_stopAt : ByteArray := method_29_code
def yL_stopAt : MethodName := ⟨RL, "stopAt", "(LShorthandRules;I[J)I"⟩
abbrev cL_keptShare : ByteArray := method_30_code
def yL_keptShare : MethodName := ⟨RL, "keptShare", "(LShorthandRules;[D)I"⟩
abbrev cL_law : ByteArray := code
def yL_law : MethodName := ⟨RL, "law", "([I)Z"⟩
end
section
/-! ===== BEGIN words of one list among another's, by their places ===== -/
theorem goodIn_r {big : List Cond} (ws : List Cond) (ps : List Nat) (hp : ws = ps.filterMap (fun i => big[i]?)) (h : ws.all goodWord = true) : GoodIn big ws := by
  intro w hw
  have h1 := List.all_eq_true.mp h w hw
  rw [hp] at hw
  obtain ⟨i, -, hi⟩ := List.mem_filterMap.mp hw
  have hm : w ∈ big := by first | exact List.mem_of_getElem? hi | exact List.getElem?_mem hi
  exact ⟨hm, good_of_word h1⟩
theorem goodIn_app {big a b : List Cond} (ha : GoodIn big a) (hb : GoodIn big b) : GoodIn big (a ++ b) := fun w h => (List.mem_append.mp h).elim (ha w) (hb w)
theorem goodIn_ca {big a b : List Cond} {c : Cond} (ha : GoodIn big (c :: a)) (hb : GoodIn big b) : GoodIn big (c :: (a ++ b)) := fun w h => (List.mem_cons.mp h).elim (fun e => ha w (List.mem_cons.mpr (Or.inl e))) (fun h => (List.mem_append.mp h).elim (fun h => ha w (List.mem_cons.mpr (Or.inr h))) (hb w))
theorem goodIn_sub {big ws : List Cond} (hm : ∀ w ∈ ws, w ∈ big) (h : ws.all goodWord = true) : GoodIn big ws := fun w hw => ⟨hm w hw, good_of_word (List.all_eq_true.mp h w hw)⟩
/-! ===== END ===== -/
/-! ===== BEGIN exceptions that leave a method, and their catching by the caller (launches without stack traces) ===== -/
section VXA
/-! The laws vx_back, vx_callV, vx_callS, vx_callSW, vx_throw0, vx_throwS follow proofs of the library, with one case more: JvmDerived/Free/Laws.lean (Back.of_free), Shelf42/LK1.lean (callV, callS), Shelf/KitTraced.lean (throwNew0V, throwNewS). -/
/-- where a method has thrown q: the class by its name, the cell, what was written, the world -/
def vx_T (XC : String → State → State → Prop) (st : State) (q : Addr) (t : State) (mc ms : Nat) (free : Addr → Prop) : Prop :=
  ∃ (E : String) (ce : Cell) (L : List Loc), XC E st t ∧ t.heap[q]? = some ce ∧ ce.vm = .none ∧ st.vm.findClass E = some ce.cls ∧ st.WarmedH t.vm ∧ st.sameButNew ({ t with vm := st.vm } : State) L mc ms ∧ ∀ z ∈ L, free z.base
def vx_Q (Qc : Array Value → State → Outcome → State → Prop) (XC : String → State → State → Prop) (mc ms : Nat) (free : Addr → Prop) : Array Value → State → Outcome → State → Prop := fun a st o t =>
  (Qc a st o t ∧ ∃ L, FrameEnd st o t L mc ms ∧ ∀ q ∈ L, free q.base) ∨ ∃ q, o = .threw q ∧ vx_T XC st q t mc ms free
/-- a callee that returns or throws -/
def vx_Met (l : Launch) (y : MethodName) (ws : List Cond) (rm : Room) (Pc : Array Value → State → Prop) (Qc : Array Value → State → Outcome → State → Prop) (XC : String → State → State → Prop) (mc ms : Nat) (free : Addr → Prop) : Prop :=
  MetFree l y (headSpec ws rm) Pc (fun _ _ _ _ _ => True) (vx_Q Qc XC mc ms free)
def vx_Post (XC : String → State → State → Prop) (mc ms : Nat) (free : Addr → Prop) : Pt → Array Value → Addr → Pt → Prop := fun A a q B =>
  ∃ (g : JFrame) (mk : MethodId) (t : State) (L : List Loc) (E : String) (ce : Cell), B.U.heap = t.heap ∧ B.U.vm = t.vm ∧ XC E (A.U.calling g mk a) t ∧ t.heap[q]? = some ce ∧ ce.vm = .none ∧ A.U.vm.findClass E = some ce.cls ∧ B.locs = A.locs ++ L ∧ (∀ z ∈ L, free z.base) ∧ B.cells = A.cells + mc ∧ B.slots = A.slots + ms
def vx_Back (l : Launch) (R : Room) (p : Program) (e : Env) (below : List Frame) (s : State) (sargs : Array Value) (y : MethodName) (len W9 : Nat)
    (Pre : Pt → Array Value → Prop) (Post : Pt → Array Value → Option Value → Pt → Prop) (PostX : Pt → Array Value → Addr → Pt → Prop) : Prop :=
  ∀ (m : MethodId) (meth : Method) (c : Code) (A : Pt) (g : JFrame) (ig : Instr) (mk : MethodId) (a : Array Value),
    Stand p l e R s m sargs below meth c A.U A.locs A.cells A.slots → g.method = m → g.locals.size = c.maxLocals → decode c.code g.pc = .ok (ig, len) →
    2 * g.monitorRoom + (g.stack.map fun v => v.category).sum ≤ W9 → A.U.methodNamed? y = some mk → Pre A a →
    (∃ (v : Option Value) (B : Pt), Stand p l e R s m sargs below meth c B.U B.locs B.cells B.slots ∧ Post A a v B ∧
      Steps p.tables e below (doInvoke e (A.U.setTop g) [] mk a).1 (B.U.setTop { g with pc := g.pc + len, stack := v.toList ++ g.stack })) ∨
    (∃ (q : Addr) (B : Pt), Stand p l e R s m sargs below meth c B.U B.locs B.cells B.slots ∧ PostX A a q B ∧
      Steps p.tables e below (doInvoke e (A.U.setTop g) [] mk a).1 ((B.U.setTop g).pushFrame (.throwing q)))
section Payer
variable {l : Launch} {R : Room} {p : Program} {e : Env} {below : List Frame} {s : State} {sargs : Array Value} {y : MethodName} {len W9 : Nat}
theorem vx_back {ws : List Cond} {rm : Room} {Pc : Array Value → State → Prop} {Qc : Array Value → State → Outcome → State → Prop} {XC : String → State → State → Prop} {mc ms : Nat} {free : Addr → Prop} {bytes : ByteArray} {maxL : Nat} {ret : Option FieldType}
    (hM : vx_Met l y ws rm Pc Qc XC mc ms free) (hblind : FrameBlind Pc) (hrc : rm.cells = mc) (hrs : rm.slots = ms)
    (hframes : rm.frames + 1 ≤ R.frames) (hlocals : W9 + (maxL + 11) + rm.locals ≤ R.locals)
    (hws : ∀ w ∈ ws, ∀ a' U, s.WarmedH U.vm → w.before a' U = true) (hcode : Cond.code y bytes maxL ret ∈ ws) (hinit : ∀ a' U, s.WarmedH U.vm → (Cond.initialized y.cls).before a' U = true) :
    vx_Back l R p e below s sargs y len W9 (PreOf R mc ms Pc) (PostOf Qc mc ms free) (vx_Post XC mc ms free) := by
  intro m meth c A g ig mk a X hg hsize hdg hW hn hp
  have h1 : (headSpec ws rm).pre.before a A.U = true := atoms_intro fun w hw => hws w hw _ _ X.warmed
  have h2 : (Cond.code y bytes maxL ret).before a A.U = true := hws _ hcode _ _ X.warmed
  have h3 : (Cond.initialized y.cls).before a A.U = true := hinit _ _ X.warmed
  have h4 : A.cells + (headSpec ws rm).room.cells ≤ R.cells := by rw [show (headSpec ws rm).room.cells = mc from hrc]; exact hp.1
  have h5 : A.slots + (headSpec ws rm).room.slots ≤ R.slots := by rw [show (headSpec ws rm).room.slots = ms from hrs]; exact hp.2.1
  have hPc : Pc a (A.U.calling g mk a) := hblind _ _ _ _ hp.2.2
  obtain ⟨U, Ls, c0, s0⟩ := A
  dsimp only [Pt.U, Pt.locs, Pt.cells, Pt.slots] at h1 h2 h3 h4 h5 X hn hPc ⊢
  obtain ⟨methY, cY, hmY, hcY, -, hlY, -, -, -, -⟩ := Cond.code_spec hn h2
  obtain ⟨kY, hkY, -⟩ := className_of_methodNamed hn
  have hinitY : kY.init = .initialized := Cond.initialized_spec (findClass_of_methodNamed hn) hkY h3
  have h : At U g.method c below := by rw [hg]; exact X.here
  have hlocals9 : W9 + (maxL + 11) + (headSpec ws rm).room.locals ≤ R.locals := hlocals
  have happ : (headSpec ws rm).appliesLoose y e.platform (U.calling g mk a) = true :=
    Spec.appliesLoose_calling (g := g) h hdg hn hkY hinitY
      (X.room_calling (g := g) (R' := (headSpec ws rm).room) hsize hmY hcY hframes (by rw [hlY]; omega) h4 h5) h1
  obtain ⟨mid, hmid⟩ := h.above
  have hfr : (U.setTop g).frames = (.java g :: mid) ++ below := by rw [State.frames_setTop' g h.top, hmid]; rfl
  obtain ⟨o, s₂, hsteps, -, hend, hq⟩ := Steps.callFree hM p X.admits X.cas X.clock (acts := []) hfr happ hPc trivial
  have hq' : vx_Q Qc XC mc ms free a (U.calling g mk a) o s₂ := hq
  rw [State.frames_setTop' g h.top] at hend
  obtain ⟨g₀, hg0⟩ := Option.isSome_iff_exists.mp h.top
  obtain ⟨r, hr⟩ := State.topJava?_eq_some.mp hg0
  have hr' : (({ U with heap := s₂.heap, slotsUsed := s₂.slotsUsed } : State).setVm s₂.vm).frames = .java g₀ :: r := hr
  rcases hq' with ⟨hqc, L, hfe, hL⟩ | ⟨q, rfl, E, ce, L, hx, hce, hcv, hcl, hW₂, hsm, hL⟩
  · obtain ⟨⟨v, rfl⟩, hW₂, e2, q2, q3, q4, q5, q6⟩ := id hfe
    have e3 : s₂ = ({ (U.calling g mk a).setFrames s₂.frames with heap := s₂.heap, slotsUsed := s₂.slotsUsed } : State).setVm s₂.vm := by
      have : s₂ = ({ s₂ with vm := (U.calling g mk a).vm } : State).setVm s₂.vm := rfl
      rw [e2] at this
      exact this
    obtain ⟨c₂, i₂, len₂, hc₂, hd₂, hf₂⟩ := hend
    have hW' : U.WarmedH s₂.vm := hW₂
    have hcc : c₂ = c := by
      have h1 : s₂.code? g.method = U.code? g.method := by
        rw [State.code?_eq, State.code?_eq, hW'.alike.method?]
      exact Option.some.inj (hc₂.symm.trans (h1.trans h.code))
    subst hcc
    have hlen : len₂ = len := by rw [hdg] at hd₂; cases hd₂; rfl
    subst hlen
    have hs₂ : s₂ = (({ U with heap := s₂.heap, slotsUsed := s₂.slotsUsed } : State).setVm s₂.vm).setTop { g with pc := g.pc + len₂, stack := v.toList ++ g.stack } := by
      refine e3.trans ?_
      rw [hf₂, State.calling_eq h.top, State.setFrames_setFrames, State.setTop_of_frames _ hr', hr]
      rfl
    have hsame : U.sameButNew ({ U with heap := s₂.heap, slotsUsed := s₂.slotsUsed } : State) L mc ms := by
      refine ⟨?_, q2, q3, q4, q5, q6⟩
      obtain ⟨t, ht, -⟩ := State.frames_cons hr
      show ({ U with heap := s₂.heap, slotsUsed := s₂.slotsUsed } : State) = { U.setFrames U.frames with heap := s₂.heap, slotsUsed := s₂.slotsUsed }
      rw [State.setFrames_self ht]
    subst hg
    refine Or.inl ⟨v, ⟨(({ U with heap := s₂.heap, slotsUsed := s₂.slotsUsed } : State).setVm s₂.vm), Ls ++ L, c0 + mc, s0 + ms⟩,
      ⟨X.admits, X.cas, X.clock, X.frames, X.room, X.hears, X.method, X.code, (X.here.setHeapUsed s₂.heap s₂.slotsUsed).setVm hW'.alike, X.tail, State.WarmedH.trans X.warmed hW', X.limits, X.bytes, X.same.trans (hsame.setVm s.vm)⟩,
      ⟨g, mk, s₂, L, rfl, rfl, hqc, rfl, hL, rfl, rfl⟩, ?_⟩
    show Steps p.tables e below _ ((({ U with heap := s₂.heap, slotsUsed := s₂.slotsUsed } : State).setVm s₂.vm).setTop { g with pc := g.pc + len₂, stack := v.toList ++ g.stack })
    rw [← hs₂]
    exact hsteps
  · obtain ⟨e2, q2, q3, q4, q5, q6⟩ := id hsm
    have e3 : s₂ = ({ (U.calling g mk a).setFrames s₂.frames with heap := s₂.heap, slotsUsed := s₂.slotsUsed } : State).setVm s₂.vm := by
      have : s₂ = ({ s₂ with vm := (U.calling g mk a).vm } : State).setVm s₂.vm := rfl
      rw [e2] at this
      exact this
    have hf₂ : s₂.frames = .throwing q :: .java g :: U.frames.tail := hend
    have hW' : U.WarmedH s₂.vm := hW₂
    have hs₂ : s₂ = ((({ U with heap := s₂.heap, slotsUsed := s₂.slotsUsed } : State).setVm s₂.vm).setTop g).pushFrame (.throwing q) := by
      refine e3.trans ?_
      rw [hf₂, State.calling_eq h.top, State.setFrames_setFrames, State.pushFrame, State.frames_setTop _ hr', State.setTop_of_frames _ hr', State.setFrames_setFrames, hr]
      rfl
    have hsame : U.sameButNew ({ U with heap := s₂.heap, slotsUsed := s₂.slotsUsed } : State) L mc ms := by
      refine ⟨?_, q2, q3, q4, q5, q6⟩
      obtain ⟨t, ht, -⟩ := State.frames_cons hr
      show ({ U with heap := s₂.heap, slotsUsed := s₂.slotsUsed } : State) = { U.setFrames U.frames with heap := s₂.heap, slotsUsed := s₂.slotsUsed }
      rw [State.setFrames_self ht]
    subst hg
    refine Or.inr ⟨q, ⟨(({ U with heap := s₂.heap, slotsUsed := s₂.slotsUsed } : State).setVm s₂.vm), Ls ++ L, c0 + mc, s0 + ms⟩,
      ⟨X.admits, X.cas, X.clock, X.frames, X.room, X.hears, X.method, X.code, (X.here.setHeapUsed s₂.heap s₂.slotsUsed).setVm hW'.alike, X.tail, State.WarmedH.trans X.warmed hW', X.limits, X.bytes, X.same.trans (hsame.setVm s.vm)⟩,
      ⟨g, mk, s₂, L, E, ce, rfl, rfl, hx, hce, hcv, hcl, rfl, hL, rfl, rfl⟩, ?_⟩
    show Steps p.tables e below _ (((({ U with heap := s₂.heap, slotsUsed := s₂.slotsUsed } : State).setVm s₂.vm).setTop g).pushFrame (.throwing q))
    rw [← hs₂]
    exact hsteps
end Payer
section Calls
variable {p : Program} {l : Launch} {e : Env} {R : Room} {s : State} {m : MethodId} {args : Array Value} {below : List Frame} {meth : Method} {c : Code} {T : State} {locs : List Loc} {cells slots : Nat}
theorem vx_callV (X : Stand p l e R s m args below meth c T locs cells slots) (hexec : p.tables.exec = Jvm.exec) {own C : String} {index : Nat} {y : MethodName} {bytes : ByteArray} {maxL : Nat} {ret : Option FieldType}
    (hown : s.vm.findClass own = some m.cls) (hlink : (Cond.methodLink own index y).before args s = true) (hinst : (Cond.instanceMethod y).before args s = true) (hsel : (Cond.selects C y y).before args s = true)
    (hcode : (Cond.code y bytes maxL ret).before args s = true) (hy : y.cls ≠ "java/lang/invoke/MethodHandle" ∧ y.cls ≠ "java/lang/invoke/VarHandle")
    {W9 : Nat} {Pre : Pt → Array Value → Prop} {Post : Pt → Array Value → Option Value → Pt → Prop} {PostX : Pt → Array Value → Addr → Pt → Prop} (hK : vx_Back l R p e below s args y 3 W9 Pre Post PostX)
    {b : Addr} {cellB : Cell} (hcell : T.heap[b]? = some cellB) (hobj : cellB.vm.isStatics = false) (hcls : s.vm.findClass C = some cellB.cls)
    {g : JFrame} (hg : g.method = m) (hsize : g.locals.size = c.maxLocals) {argsL rest : List Value} (hlen : ∀ sig, parseMethodDescriptor y.desc = some sig → argsL.length = sig.parameters.length)
    (hstack : g.stack = argsL.reverse ++ .ref b :: rest) (hW : 2 * g.monitorRoom + (rest.map fun v => v.category).sum ≤ W9) (hdg : decode c.code g.pc = .ok (.invokevirtual index, 3))
    (hpre : ∀ vm₁, s.WarmedH vm₁ → Pre ⟨T.setVm vm₁, locs, cells, slots⟩ (Value.ref b :: argsL).toArray) :
    (∃ (v : Option Value) (vm₁ : Vm) (B : Pt), s.WarmedH vm₁ ∧ Stand p l e R s m args below meth c B.U B.locs B.cells B.slots ∧ Post ⟨T.setVm vm₁, locs, cells, slots⟩ (Value.ref b :: argsL).toArray v B ∧
      ∀ target, Steps p.tables e below (B.U.setTop { g with pc := g.pc + 3, stack := v.toList ++ rest }) target → Steps p.tables e below (T.setTop g) target) ∨
    (∃ (q : Addr) (vm₁ : Vm) (B : Pt), s.WarmedH vm₁ ∧ Stand p l e R s m args below meth c B.U B.locs B.cells B.slots ∧ PostX ⟨T.setVm vm₁, locs, cells, slots⟩ (Value.ref b :: argsL).toArray q B ∧
      Steps p.tables e below (T.setTop g) ((B.U.setTop { g with stack := rest }).pushFrame (.throwing q))) := by
  obtain ⟨mk, methM, hnamed, hmethM, hstM, habM⟩ := Cond.instanceMethod_spec hinst
  obtain ⟨methM', cM, hmethM', -, -, -, -, -, -, hsigM⟩ := Cond.code_spec hnamed hcode
  cases hmethM.symm.trans hmethM'
  obtain ⟨c2, r2, m2, q1, q2, q3, q4, kP, hkP, hkPi⟩ := Cond.selects_spec hsel
  cases hcls.symm.trans q1
  cases (State.methodFound?_of_named hnamed hy).symm.trans q2
  cases hnamed.symm.trans q3
  have hselP : selectMethod e.platform s.vm cellB.cls mk = .method mk := by rw [Launch.admits_selectMethod X.admits]; exact q4
  obtain ⟨vm₁, X₁, hstep₁⟩ := X.invokevirtual hexec hown hlink hnamed hmethM hstM hkP hkPi hy (a := b) (cell := cellB) hcell
    (fun z h => by rw [h] at hobj; cases hobj) hselP hmethM habM hkP hkPi (g := g) hg (argsL := argsL) (rest := rest) (hlen _ hsigM) hstack hdg
  rcases hK m meth c ⟨T.setVm vm₁, locs, cells, slots⟩ { g with stack := rest } (.invokevirtual index) mk (Value.ref b :: argsL).toArray X₁ hg hsize hdg hW (X₁.named hnamed) (hpre vm₁ X₁.warmed) with ⟨v, B, X', hpost, hsteps⟩ | ⟨q, B, X', hpost, hsteps⟩
  · exact Or.inl ⟨v, vm₁, B, X₁.warmed, X', hpost, fun target h => hstep₁ _ fun acts => by rw [doInvoke_state]; exact hsteps.trans h⟩
  · exact Or.inr ⟨q, vm₁, B, X₁.warmed, X', hpost, hstep₁ _ fun acts => by rw [doInvoke_state]; exact hsteps⟩
theorem vx_callS (X : Stand p l e R s m args below meth c T locs cells slots) (hexec : p.tables.exec = Jvm.exec) {own : String} {index : Nat} {y : MethodName} {bytes : ByteArray} {maxL : Nat} {ret : Option FieldType}
    (hown : s.vm.findClass own = some m.cls) (hlink : (Cond.methodLink own index y).before args s = true) (hstat : (Cond.static y).before args s = true) (hinit : (Cond.initialized y.cls).before args s = true)
    (hcode : (Cond.code y bytes maxL ret).before args s = true) (hy : y.cls ≠ "java/lang/invoke/MethodHandle" ∧ y.cls ≠ "java/lang/invoke/VarHandle")
    {W9 : Nat} {Pre : Pt → Array Value → Prop} {Post : Pt → Array Value → Option Value → Pt → Prop} {PostX : Pt → Array Value → Addr → Pt → Prop} (hK : vx_Back l R p e below s args y 3 W9 Pre Post PostX)
    {g : JFrame} (hg : g.method = m) (hsize : g.locals.size = c.maxLocals) {argsL rest : List Value} (hlen : ∀ sig, parseMethodDescriptor y.desc = some sig → argsL.length = sig.parameters.length)
    (hstack : g.stack = argsL.reverse ++ rest) (hW : 2 * g.monitorRoom + (rest.map fun v => v.category).sum ≤ W9) (hdg : decode c.code g.pc = .ok (.invokestatic index, 3))
    (hpre : ∀ vm₁, s.WarmedH vm₁ → Pre ⟨T.setVm vm₁, locs, cells, slots⟩ argsL.toArray) :
    (∃ (v : Option Value) (vm₁ : Vm) (B : Pt), s.WarmedH vm₁ ∧ Stand p l e R s m args below meth c B.U B.locs B.cells B.slots ∧ Post ⟨T.setVm vm₁, locs, cells, slots⟩ argsL.toArray v B ∧
      ∀ target, Steps p.tables e below (B.U.setTop { g with pc := g.pc + 3, stack := v.toList ++ rest }) target → Steps p.tables e below (T.setTop g) target) ∨
    (∃ (q : Addr) (vm₁ : Vm) (B : Pt), s.WarmedH vm₁ ∧ Stand p l e R s m args below meth c B.U B.locs B.cells B.slots ∧ PostX ⟨T.setVm vm₁, locs, cells, slots⟩ argsL.toArray q B ∧
      Steps p.tables e below (T.setTop g) ((B.U.setTop { g with stack := rest }).pushFrame (.throwing q))) := by
  obtain ⟨mk, hnamed⟩ := Cond.code_named hcode
  obtain ⟨methM, cM, hmethM, -, -, -, -, -, -, hsigM⟩ := Cond.code_spec hnamed hcode
  have hstatic : methM.isStatic = true := Cond.static_spec hnamed hmethM hstat
  obtain ⟨kP, hkP, -⟩ := className_of_methodNamed hnamed
  have hinitP : kP.init = .initialized := Cond.initialized_spec (findClass_of_methodNamed hnamed) hkP hinit
  obtain ⟨vm₁, X₁, hstep₁⟩ := X.invokestatic hexec hown hlink hnamed hmethM hstatic hkP hinitP hy (g := g) hg (argsL := argsL) (rest := rest) (hlen _ hsigM) hstack hdg
  rcases hK m meth c ⟨T.setVm vm₁, locs, cells, slots⟩ { g with stack := rest } (.invokestatic index) mk argsL.toArray X₁ hg hsize hdg hW (X₁.named hnamed) (hpre vm₁ X₁.warmed) with ⟨v, B, X', hpost, hsteps⟩ | ⟨q, B, X', hpost, hsteps⟩
  · exact Or.inl ⟨v, vm₁, B, X₁.warmed, X', hpost, fun target h => hstep₁ _ fun acts => by rw [doInvoke_state]; exact hsteps.trans h⟩
  · exact Or.inr ⟨q, vm₁, B, X₁.warmed, X', hpost, hstep₁ _ fun acts => by rw [doInvoke_state]; exact hsteps⟩
end Calls
theorem vx_cls {s : State} {T : State} {vm₁ : Vm} {E : String} {k : ClassId} (hW : s.WarmedH vm₁) (h : (T.setVm vm₁).vm.findClass E = some k) : s.vm.findClass E = some k := by
  have h1 : vm₁.findClass E = some k := h
  rw [hW.alike.findClass] at h1
  exact h1
/-- the method's frame g, with q thrown over it -/
def vx_W (p : Program) (l : Launch) (e : Env) (R : Room) (s : State) (m : MethodId) (args : Array Value) (below : List Frame) (meth : Method) (c : Code) (H : Heap) (locs : List Loc) (cells slots : Nat) (Q : State → Prop) (g : JFrame) (q : Addr) : Prop :=
  ∀ T : State, T.heap = H → Stand p l e R s m args below meth c T locs cells slots → ∃ t, Steps p.tables e below ((T.setTop g).pushFrame (.throwing q)) t ∧ Q t
def vx_Run (p : Program) (l : Launch) (e : Env) (R : Room) (s : State) (m : MethodId) (args : Array Value) (below : List Frame) (meth : Method) (c : Code) (H : Heap) (locs : List Loc) (cells slots mc ms : Nat) (g : JFrame) (rest : List Value) (Qa : State → Outcome → State → Prop) (XC : String → State → State → Prop) (free : Addr → Prop) : Prop :=
  ∀ T : State, T.heap = H → Stand p l e R s m args below meth c T locs cells slots →
    (∃ (v : Option Value) (st₀ t T' : State) (L : List Loc), st₀.heap = H ∧ Stand p l e R s m args below meth c T' (locs ++ L) (cells + mc) (slots + ms) ∧ (∀ q ∈ L, free q.base) ∧ T'.heap = t.heap ∧ T'.vm = t.vm ∧ Qa st₀ (.returned v) t ∧
      Goes p e below T g T' { g with pc := g.pc + 3, stack := v.toList ++ rest }) ∨
    (∃ (q : Addr) (st₀ t T' : State) (L : List Loc) (E : String) (ce : Cell), st₀.heap = H ∧ Stand p l e R s m args below meth c T' (locs ++ L) (cells + mc) (slots + ms) ∧ (∀ z ∈ L, free z.base) ∧ T'.heap = t.heap ∧ T'.vm = t.vm ∧ XC E st₀ t ∧ t.heap[q]? = some ce ∧ ce.vm = .none ∧ s.vm.findClass E = some ce.cls ∧
      Steps p.tables e below (T.setTop g) ((T'.setTop { g with stack := rest }).pushFrame (.throwing q)))
def vx_X {S : Type} (px : S → Prop) (B : String → S → State → Prop) (A : Nat → Prop) : String → State → State → Prop := fun E st t => ∃ u : S, px u ∧ B E u t ∧ va_F A st t
section Runs
variable {p : Program} {l : Launch} {e : Env} {R : Room} {s : State} {m : MethodId} {args : Array Value} {below : List Frame} {meth : Method} {c : Code} {H : Heap} {locs : List Loc} {cells slots : Nat}
variable {y : MethodName} {bytes cc : ByteArray} {maxL nL mc ms n index : Nat} {ret : Option FieldType} {ws : List Cond} {rm : Room} {Pc : Array Value → State → Prop} {Qc : Array Value → State → Outcome → State → Prop} {XC : String → State → State → Prop} {free : Addr → Prop} {Ts : List Cond} {own C : String} {b : Addr} {As rest : List Value} {g : JFrame}
theorem vx_callBack (cb : CallB R s args own index y bytes maxL ret ws rm mc ms n) (hM : vx_Met l y ws rm Pc Qc XC mc ms free) (hbl : FrameBlind Pc) : vx_Back l R p e below s args y 3 8 (PreOf R mc ms Pc) (PostOf Qc mc ms free) (vx_Post XC mc ms free) := by
  obtain ⟨hrc, hrs, hfr, hlo, hws, hcw, -, hini, -⟩ := cb
  exact vx_back (bytes := bytes) (maxL := maxL) (ret := ret) hM hbl hrc hrs hfr hlo hws hcw (fun a' U hW => word_at hW (Or.inl (by first | rfl | simp [Cond.onTables, Cond.keeps, Cond.steady])) hini)
theorem vx_runV (S : CallFix p m c cc nL s args Ts own) (hM : vx_Met l y ws rm Pc Qc XC mc ms free) (cw : CallW R s args own C index y bytes maxL ret ws rm mc ms n) (hp : PreV s H C b Pc As)
    (hg : g.method = m) (hn : As.length = n) (hsize : g.locals.size = nL) (hstack : g.stack = As.reverse ++ .ref b :: rest) (hW : 2 * g.monitorRoom + (rest.map fun v => v.category).sum ≤ 8) (hdg : decode cc g.pc = .ok (.invokevirtual index, 3)) (hf : cells + mc ≤ R.cells ∧ slots + ms ≤ R.slots) :
    vx_Run p l e R s m args below meth c H locs cells slots mc ms g rest (Qc (Value.ref b :: As).toArray) XC free := by
  have hK : vx_Back l R p e below s args y 3 8 (PreOf R mc ms Pc) (PostOf Qc mc ms free) (vx_Post XC mc ms free) := vx_callBack cw.1 hM hp.1
  obtain ⟨⟨-, -, -, -, -, -, hcode, -, hy, hlen, hl⟩, hin, hse⟩ := cw
  obtain ⟨hx, hb, hml, ho, -⟩ := S
  obtain ⟨-, ⟨cellB, hcB, hoB, hclB⟩, hPc⟩ := hp
  intro T hT X
  rcases vx_callV X hx (C := C) (bytes := bytes) (maxL := maxL) (ret := ret) ho hl hin hse hcode hy hK (by rw [hT]; exact hcB) hoB hclB hg (hsize.trans hml.symm) (argsL := As) (rest := rest) (fun sig h => hn.trans (hlen sig h)) hstack hW (by rw [hb]; exact hdg)
    (fun vm₁ hW₁ => ⟨hf.1, hf.2, hPc (T.setVm vm₁) hT hW₁⟩) with ⟨v, vm₁, ⟨U', l2, c2, s2⟩, hW₁, X', ⟨g', mk, t, L, e1, e2, hq, h1, hL, h2, h3⟩, st⟩ | ⟨q, vm₁, ⟨U', l2, c2, s2⟩, hW₁, X', ⟨g', mk, t, L, E, ce, e1, e2, hq, hce, hcv, hcl, h1, hL, h2, h3⟩, st⟩
  · dsimp only [Pt.U, Pt.locs, Pt.cells, Pt.slots] at X' e1 e2 h1 h2 h3 st
    subst h1; subst h2; subst h3
    exact Or.inl ⟨v, (T.setVm vm₁).calling g' mk (Value.ref b :: As).toArray, t, U', L, hT, X', hL, e1, e2, hq, st⟩
  · dsimp only [Pt.U, Pt.locs, Pt.cells, Pt.slots] at X' e1 e2 h1 h2 h3 st hcl
    subst h1; subst h2; subst h3
    exact Or.inr ⟨q, (T.setVm vm₁).calling g' mk (Value.ref b :: As).toArray, t, U', L, E, ce, hT, X', hL, e1, e2, hq, hce, hcv, vx_cls hW₁ hcl, st⟩
theorem vx_runS (S : CallFix p m c cc nL s args Ts own) (hM : vx_Met l y ws rm Pc Qc XC mc ms free) (cw : CallB R s args own index y bytes maxL ret ws rm mc ms n ∧ (Cond.static y).before args s = true) (hp : PreS s H Pc As)
    (hg : g.method = m) (hn : As.length = n) (hsize : g.locals.size = nL) (hstack : g.stack = As.reverse ++ rest) (hW : 2 * g.monitorRoom + (rest.map fun v => v.category).sum ≤ 8) (hdg : decode cc g.pc = .ok (.invokestatic index, 3)) (hf : cells + mc ≤ R.cells ∧ slots + ms ≤ R.slots) :
    vx_Run p l e R s m args below meth c H locs cells slots mc ms g rest (Qc As.toArray) XC free := by
  have hK : vx_Back l R p e below s args y 3 8 (PreOf R mc ms Pc) (PostOf Qc mc ms free) (vx_Post XC mc ms free) := vx_callBack cw.1 hM hp.1
  obtain ⟨⟨-, -, -, -, -, -, hcode, hini, hy, hlen, hl⟩, hstt⟩ := cw
  obtain ⟨hx, hb, hml, ho, -⟩ := S
  intro T hT X
  rcases vx_callS X hx (bytes := bytes) (maxL := maxL) (ret := ret) ho hl hstt hini hcode hy hK hg (hsize.trans hml.symm) (argsL := As) (rest := rest) (fun sig h => hn.trans (hlen sig h)) hstack hW (by rw [hb]; exact hdg)
    (fun vm₁ hW₁ => ⟨hf.1, hf.2, hp.2 (T.setVm vm₁) hT hW₁⟩) with ⟨v, vm₁, ⟨U', l2, c2, s2⟩, hW₁, X', ⟨g', mk, t, L, e1, e2, hq, h1, hL, h2, h3⟩, st⟩ | ⟨q, vm₁, ⟨U', l2, c2, s2⟩, hW₁, X', ⟨g', mk, t, L, E, ce, e1, e2, hq, hce, hcv, hcl, h1, hL, h2, h3⟩, st⟩
  · dsimp only [Pt.U, Pt.locs, Pt.cells, Pt.slots] at X' e1 e2 h1 h2 h3 st
    subst h1; subst h2; subst h3
    exact Or.inl ⟨v, (T.setVm vm₁).calling g' mk As.toArray, t, U', L, hT, X', hL, e1, e2, hq, st⟩
  · dsimp only [Pt.U, Pt.locs, Pt.cells, Pt.slots] at X' e1 e2 h1 h2 h3 st hcl
    subst h1; subst h2; subst h3
    exact Or.inr ⟨q, (T.setVm vm₁).calling g' mk As.toArray, t, U', L, E, ce, hT, X', hL, e1, e2, hq, hce, hcv, vx_cls hW₁ hcl, st⟩
end Runs
section Rows
variable {p : Program} {l : Launch} {e : Env} {R : Room} {s : State} {m : MethodId} {args : Array Value} {below : List Frame} {meth : Method} {c : Code} {H : Heap} {locs : List Loc} {cells slots : Nat} {Q : State → Prop}
variable {mc ms : Nat} {free : Addr → Prop} {A0 A1 : Nat → Prop} {H0 : Heap} {a : Array Value} {pc : Nat} {ls : Array Slot} {st0 rest : List Value}
theorem vx_keep {st₀ t T' : State} {L : List Loc} (h0 : st₀.heap = H) (e1 : T'.heap = t.heap) (hS : va_S A0 H0 H locs) (hA : ∀ q, q < H.size → A1 q → A0 q) (hf : ∀ q, free q → A0 q) (hL : ∀ q ∈ L, free q.base) (hF : va_F A1 st₀ t) :
    H.size ≤ T'.heap.size ∧ (∀ q : Nat, q < H.size → ¬ A1 q → T'.heap[q]? = H[q]?) ∧ va_S A0 H0 T'.heap (locs ++ L) := by
  obtain ⟨hz, hk⟩ := hF
  rw [h0] at hz hk
  exact ⟨by rw [e1]; exact hz, fun q h1 h2 => by rw [e1]; exact hk q h1 h2,
    ⟨Nat.le_trans hS.1 (by rw [e1]; exact hz), fun q h1 h2 => by rw [e1, hk q (Nat.lt_of_lt_of_le h1 hS.1) (fun z => h2 (hA q (Nat.lt_of_lt_of_le h1 hS.1) z))]; exact hS.2.1 q h1 h2, fun q hq => by
      rcases List.mem_append.mp hq with h | h
      · exact hS.2.2 q h
      · exact hf _ (hL q h)⟩⟩
theorem vx_calli {S SX : Type} {post : Int32 → S → Prop} {px : SX → Prop} {B : S → State → Prop} {BX : String → SX → State → Prop} {AX : Nat → Prop} (hr : vx_Run p l e R s m args below meth c H locs cells slots mc ms (F0 m pc ls st0) rest (va_Qi post B A1 a) (vx_X px BX AX) free) (hS : va_S A0 H0 H locs) (hA : ∀ q, q < H.size → A1 q → A0 q) (hf : ∀ q, free q → A0 q) (hAX : ∀ q, q < H.size → AX q → A0 q)
    (kx : ∀ (E : String) (ce : Cell) (q9 : Addr) (u : SX) (t : State) (H1 : Heap) (locs1 : List Loc), t.heap = H1 → s.vm.Alike t.vm → px u → BX E u t → H.size ≤ H1.size → (∀ q : Nat, q < H.size → ¬ AX q → H1[q]? = H[q]?) → va_S A0 H0 H1 locs1 → H1[q9]? = some ce → ce.vm = .none → s.vm.findClass E = some ce.cls → vx_W p l e R s m args below meth c H1 locs1 (cells + mc) (slots + ms) Q (F0 m pc ls rest) q9)
    (kk : ∀ (r : Int32) (u : S) (t : State) (H1 : Heap) (locs1 : List Loc), t.heap = H1 → s.vm.Alike t.vm → post r u → B u t → H.size ≤ H1.size → (∀ q : Nat, q < H.size → ¬ A1 q → H1[q]? = H[q]?) → va_S A0 H0 H1 locs1 → W p l e R s m args below meth c H1 locs1 (cells + mc) (slots + ms) Q (F0 m (pc + 3) ls (.int r :: rest))) : W p l e R s m args below meth c H locs cells slots Q (F0 m pc ls st0) := by
  intro T hT X
  rcases hr T hT X with ⟨v, st₀, t, T', L, h0, X', hL, e1, e2, ⟨⟨r, u, hv, hp, hb⟩, hF⟩, st⟩ | ⟨q, st₀, t, T', L, E, ce, h0, X', hL, e1, e2, ⟨u, hp, hb, hF⟩, hce, hcv, hcl, st⟩
  · cases hv
    obtain ⟨k1, k2, k3⟩ := vx_keep h0 e1 hS hA hf hL hF
    obtain ⟨t2, a1, b1⟩ := kk r u t T'.heap (locs ++ L) e1.symm (by rw [← e2]; exact X'.warmed.alike) hp hb k1 k2 k3 T' rfl X'
    exact ⟨t2, st t2 a1, b1⟩
  · obtain ⟨k1, k2, k3⟩ := vx_keep h0 e1 hS hAX hf hL hF
    obtain ⟨t2, a1, b1⟩ := kx E ce q u t T'.heap (locs ++ L) e1.symm (by rw [← e2]; exact X'.warmed.alike) hp hb k1 k2 k3 (by rw [e1]; exact hce) hcv hcl T' rfl X'
    exact ⟨t2, st.trans a1, b1⟩
theorem vx_calll {S SX : Type} {post : Int64 → S → Prop} {px : SX → Prop} {B : S → State → Prop} {BX : String → SX → State → Prop} {AX : Nat → Prop} (hr : vx_Run p l e R s m args below meth c H locs cells slots mc ms (F0 m pc ls st0) rest (va_Ql post B A1 a) (vx_X px BX AX) free) (hS : va_S A0 H0 H locs) (hA : ∀ q, q < H.size → A1 q → A0 q) (hf : ∀ q, free q → A0 q) (hAX : ∀ q, q < H.size → AX q → A0 q)
    (kx : ∀ (E : String) (ce : Cell) (q9 : Addr) (u : SX) (t : State) (H1 : Heap) (locs1 : List Loc), t.heap = H1 → s.vm.Alike t.vm → px u → BX E u t → H.size ≤ H1.size → (∀ q : Nat, q < H.size → ¬ AX q → H1[q]? = H[q]?) → va_S A0 H0 H1 locs1 → H1[q9]? = some ce → ce.vm = .none → s.vm.findClass E = some ce.cls → vx_W p l e R s m args below meth c H1 locs1 (cells + mc) (slots + ms) Q (F0 m pc ls rest) q9)
    (kk : ∀ (r : Int64) (u : S) (t : State) (H1 : Heap) (locs1 : List Loc), t.heap = H1 → s.vm.Alike t.vm → post r u → B u t → H.size ≤ H1.size → (∀ q : Nat, q < H.size → ¬ A1 q → H1[q]? = H[q]?) → va_S A0 H0 H1 locs1 → W p l e R s m args below meth c H1 locs1 (cells + mc) (slots + ms) Q (F0 m (pc + 3) ls (.long r :: rest))) : W p l e R s m args below meth c H locs cells slots Q (F0 m pc ls st0) := by
  intro T hT X
  rcases hr T hT X with ⟨v, st₀, t, T', L, h0, X', hL, e1, e2, ⟨⟨r, u, hv, hp, hb⟩, hF⟩, st⟩ | ⟨q, st₀, t, T', L, E, ce, h0, X', hL, e1, e2, ⟨u, hp, hb, hF⟩, hce, hcv, hcl, st⟩
  · cases hv
    obtain ⟨k1, k2, k3⟩ := vx_keep h0 e1 hS hA hf hL hF
    obtain ⟨t2, a1, b1⟩ := kk r u t T'.heap (locs ++ L) e1.symm (by rw [← e2]; exact X'.warmed.alike) hp hb k1 k2 k3 T' rfl X'
    exact ⟨t2, st t2 a1, b1⟩
  · obtain ⟨k1, k2, k3⟩ := vx_keep h0 e1 hS hAX hf hL hF
    obtain ⟨t2, a1, b1⟩ := kx E ce q u t T'.heap (locs ++ L) e1.symm (by rw [← e2]; exact X'.warmed.alike) hp hb k1 k2 k3 (by rw [e1]; exact hce) hcv hcl T' rfl X'
    exact ⟨t2, st.trans a1, b1⟩
theorem vx_callf {S SX : Type} {post : UInt32 → S → Prop} {px : SX → Prop} {B : S → State → Prop} {BX : String → SX → State → Prop} {AX : Nat → Prop} (hr : vx_Run p l e R s m args below meth c H locs cells slots mc ms (F0 m pc ls st0) rest (va_Qf post B A1 a) (vx_X px BX AX) free) (hS : va_S A0 H0 H locs) (hA : ∀ q, q < H.size → A1 q → A0 q) (hf : ∀ q, free q → A0 q) (hAX : ∀ q, q < H.size → AX q → A0 q)
    (kx : ∀ (E : String) (ce : Cell) (q9 : Addr) (u : SX) (t : State) (H1 : Heap) (locs1 : List Loc), t.heap = H1 → s.vm.Alike t.vm → px u → BX E u t → H.size ≤ H1.size → (∀ q : Nat, q < H.size → ¬ AX q → H1[q]? = H[q]?) → va_S A0 H0 H1 locs1 → H1[q9]? = some ce → ce.vm = .none → s.vm.findClass E = some ce.cls → vx_W p l e R s m args below meth c H1 locs1 (cells + mc) (slots + ms) Q (F0 m pc ls rest) q9)
    (kk : ∀ (r : UInt32) (u : S) (t : State) (H1 : Heap) (locs1 : List Loc), t.heap = H1 → s.vm.Alike t.vm → post r u → B u t → H.size ≤ H1.size → (∀ q : Nat, q < H.size → ¬ A1 q → H1[q]? = H[q]?) → va_S A0 H0 H1 locs1 → W p l e R s m args below meth c H1 locs1 (cells + mc) (slots + ms) Q (F0 m (pc + 3) ls (.float r :: rest))) : W p l e R s m args below meth c H locs cells slots Q (F0 m pc ls st0) := by
  intro T hT X
  rcases hr T hT X with ⟨v, st₀, t, T', L, h0, X', hL, e1, e2, ⟨⟨r, u, hv, hp, hb⟩, hF⟩, st⟩ | ⟨q, st₀, t, T', L, E, ce, h0, X', hL, e1, e2, ⟨u, hp, hb, hF⟩, hce, hcv, hcl, st⟩
  · cases hv
    obtain ⟨k1, k2, k3⟩ := vx_keep h0 e1 hS hA hf hL hF
    obtain ⟨t2, a1, b1⟩ := kk r u t T'.heap (locs ++ L) e1.symm (by rw [← e2]; exact X'.warmed.alike) hp hb k1 k2 k3 T' rfl X'
    exact ⟨t2, st t2 a1, b1⟩
  · obtain ⟨k1, k2, k3⟩ := vx_keep h0 e1 hS hAX hf hL hF
    obtain ⟨t2, a1, b1⟩ := kx E ce q u t T'.heap (locs ++ L) e1.symm (by rw [← e2]; exact X'.warmed.alike) hp hb k1 k2 k3 (by rw [e1]; exact hce) hcv hcl T' rfl X'
    exact ⟨t2, st.trans a1, b1⟩
theorem vx_calld {S SX : Type} {post : UInt64 → S → Prop} {px : SX → Prop} {B : S → State → Prop} {BX : String → SX → State → Prop} {AX : Nat → Prop} (hr : vx_Run p l e R s m args below meth c H locs cells slots mc ms (F0 m pc ls st0) rest (va_Qd post B A1 a) (vx_X px BX AX) free) (hS : va_S A0 H0 H locs) (hA : ∀ q, q < H.size → A1 q → A0 q) (hf : ∀ q, free q → A0 q) (hAX : ∀ q, q < H.size → AX q → A0 q)
    (kx : ∀ (E : String) (ce : Cell) (q9 : Addr) (u : SX) (t : State) (H1 : Heap) (locs1 : List Loc), t.heap = H1 → s.vm.Alike t.vm → px u → BX E u t → H.size ≤ H1.size → (∀ q : Nat, q < H.size → ¬ AX q → H1[q]? = H[q]?) → va_S A0 H0 H1 locs1 → H1[q9]? = some ce → ce.vm = .none → s.vm.findClass E = some ce.cls → vx_W p l e R s m args below meth c H1 locs1 (cells + mc) (slots + ms) Q (F0 m pc ls rest) q9)
    (kk : ∀ (r : UInt64) (u : S) (t : State) (H1 : Heap) (locs1 : List Loc), t.heap = H1 → s.vm.Alike t.vm → post r u → B u t → H.size ≤ H1.size → (∀ q : Nat, q < H.size → ¬ A1 q → H1[q]? = H[q]?) → va_S A0 H0 H1 locs1 → W p l e R s m args below meth c H1 locs1 (cells + mc) (slots + ms) Q (F0 m (pc + 3) ls (.double r :: rest))) : W p l e R s m args below meth c H locs cells slots Q (F0 m pc ls st0) := by
  intro T hT X
  rcases hr T hT X with ⟨v, st₀, t, T', L, h0, X', hL, e1, e2, ⟨⟨r, u, hv, hp, hb⟩, hF⟩, st⟩ | ⟨q, st₀, t, T', L, E, ce, h0, X', hL, e1, e2, ⟨u, hp, hb, hF⟩, hce, hcv, hcl, st⟩
  · cases hv
    obtain ⟨k1, k2, k3⟩ := vx_keep h0 e1 hS hA hf hL hF
    obtain ⟨t2, a1, b1⟩ := kk r u t T'.heap (locs ++ L) e1.symm (by rw [← e2]; exact X'.warmed.alike) hp hb k1 k2 k3 T' rfl X'
    exact ⟨t2, st t2 a1, b1⟩
  · obtain ⟨k1, k2, k3⟩ := vx_keep h0 e1 hS hAX hf hL hF
    obtain ⟨t2, a1, b1⟩ := kx E ce q u t T'.heap (locs ++ L) e1.symm (by rw [← e2]; exact X'.warmed.alike) hp hb k1 k2 k3 (by rw [e1]; exact hce) hcv hcl T' rfl X'
    exact ⟨t2, st.trans a1, b1⟩
theorem vx_callv {S SX : Type} {post : S → Prop} {px : SX → Prop} {B : S → State → Prop} {BX : String → SX → State → Prop} {AX : Nat → Prop} (hr : vx_Run p l e R s m args below meth c H locs cells slots mc ms (F0 m pc ls st0) rest (va_Qv post B A1 a) (vx_X px BX AX) free) (hS : va_S A0 H0 H locs) (hA : ∀ q, q < H.size → A1 q → A0 q) (hf : ∀ q, free q → A0 q) (hAX : ∀ q, q < H.size → AX q → A0 q)
    (kx : ∀ (E : String) (ce : Cell) (q9 : Addr) (u : SX) (t : State) (H1 : Heap) (locs1 : List Loc), t.heap = H1 → s.vm.Alike t.vm → px u → BX E u t → H.size ≤ H1.size → (∀ q : Nat, q < H.size → ¬ AX q → H1[q]? = H[q]?) → va_S A0 H0 H1 locs1 → H1[q9]? = some ce → ce.vm = .none → s.vm.findClass E = some ce.cls → vx_W p l e R s m args below meth c H1 locs1 (cells + mc) (slots + ms) Q (F0 m pc ls rest) q9)
    (kk : ∀ (u : S) (t : State) (H1 : Heap) (locs1 : List Loc), t.heap = H1 → s.vm.Alike t.vm → post u → B u t → H.size ≤ H1.size → (∀ q : Nat, q < H.size → ¬ A1 q → H1[q]? = H[q]?) → va_S A0 H0 H1 locs1 → W p l e R s m args below meth c H1 locs1 (cells + mc) (slots + ms) Q (F0 m (pc + 3) ls (rest))) : W p l e R s m args below meth c H locs cells slots Q (F0 m pc ls st0) := by
  intro T hT X
  rcases hr T hT X with ⟨v, st₀, t, T', L, h0, X', hL, e1, e2, ⟨⟨u, hv, hp, hb⟩, hF⟩, st⟩ | ⟨q, st₀, t, T', L, E, ce, h0, X', hL, e1, e2, ⟨u, hp, hb, hF⟩, hce, hcv, hcl, st⟩
  · cases hv
    obtain ⟨k1, k2, k3⟩ := vx_keep h0 e1 hS hA hf hL hF
    obtain ⟨t2, a1, b1⟩ := kk u t T'.heap (locs ++ L) e1.symm (by rw [← e2]; exact X'.warmed.alike) hp hb k1 k2 k3 T' rfl X'
    exact ⟨t2, st t2 a1, b1⟩
  · obtain ⟨k1, k2, k3⟩ := vx_keep h0 e1 hS hAX hf hL hF
    obtain ⟨t2, a1, b1⟩ := kx E ce q u t T'.heap (locs ++ L) e1.symm (by rw [← e2]; exact X'.warmed.alike) hp hb k1 k2 k3 (by rw [e1]; exact hce) hcv hcl T' rfl X'
    exact ⟨t2, st.trans a1, b1⟩
/-- caught by the row x of this method's table; the rows ahead don't take it -/
theorem vx_catch {own name : String} {E : String} {ce : Cell} {q : Addr} (hown : s.vm.findClass own = some m.cls) (pre : List ExceptionTableEntry) (x : ExceptionTableEntry) (suf : List ExceptionTableEntry) (hsplit : c.exceptionTable.toList = pre ++ x :: suf)
    (hpass : ∀ z ∈ pre, covers z pc = false ∨ (z.catchType ≠ 0 ∧ ∃ nm : String, (Cond.classLink own z.catchType nm).before args s = true ∧ va_Nc E nm s)) (hx : covers x pc = true) (h0 : x.catchType ≠ 0)
    (hlink : (Cond.classLink own x.catchType name).before args s = true) (hcast : (Cond.castable E name).before args s = true) (hcell : H[q]? = some ce) (hv : ce.vm = .none) (hcl : s.vm.findClass E = some ce.cls)
    (kk : W p l e R s m args below meth c H locs cells slots Q (F0 m x.handlerPc ls [.ref q])) : vx_W p l e R s m args below meth c H locs cells slots Q (F0 m pc ls rest) q := by
  intro T hT X
  have hpl : e.platform.magicAccessors = ({} : Platform).magicAccessors := by rw [X.admits.platform]
  obtain ⟨c3, c4, hc3, hc4, hasg⟩ := Cond.castable_spec hcast
  cases Option.some.inj (hc3.symm.trans hcl)
  obtain ⟨c5, hc5, hcl5⟩ := Cond.classLink_spec hown hlink e.platform hpl
  cases Option.some.inj (hc4.symm.trans hc5)
  obtain ⟨vm', X', st⟩ := X.thenCaughtThrough q (g := F0 m pc ls rest) rfl (Steps.refl _) (by rw [hT]; exact hcell) (by rw [hv]; rfl) (by obtain ⟨k9, h9, -⟩ := Vm.findClass_spec hcl; exact ⟨k9, h9⟩) pre x suf hsplit
    (fun z hz => by
      rcases hpass z hz with h | ⟨hz0, nm, hl1, hn1⟩
      · exact Or.inl h
      · obtain ⟨c6, hc6, hcl6⟩ := Cond.classLink_spec hown hl1 e.platform hpl
        obtain ⟨a8, b8, h1, h2, h3⟩ := hn1
        cases Option.some.inj (h1.symm.trans hcl)
        cases Option.some.inj (h2.symm.trans hc6)
        exact Or.inr ⟨hz0, _, hcl6, h3⟩) hx (Or.inr ⟨h0, c4, hcl5, hasg⟩)
  obtain ⟨t, a1, b1⟩ := kk (T.setVm vm') hT X'
  exact ⟨t, st.trans a1, b1⟩
end Rows
section Ends
variable {p : Program} {l : Launch} {e : Env} {R : Room} {s : State} {m : MethodId} {args : Array Value} {below : List Frame} {meth : Method} {c : Code} {H : Heap} {locs : List Loc} {cells slots : Nat} {Q : State → Prop}
variable {mc ms : Nat} {free : Addr → Prop} {A0 A1 : Nat → Prop} {H0 : Heap} {a : Array Value} {ls : Array Slot} {st0 rest : List Value}
variable {Qc : Array Value → State → Outcome → State → Prop} {XC : String → State → State → Prop}
/-- what a body that may throw owes at its end -/
def vx_MQ (below : List Frame) (Qc : Array Value → State → Outcome → State → Prop) (XC : String → State → State → Prop) (a : Array Value) (s : State) (mc ms : Nat) (free : Addr → Prop) : State → Prop := fun t =>
  ∃ o, t.status = .running ∧ Ended t below o ∧ vx_Q Qc XC mc ms free a s o t
theorem vx_ret {g : JFrame} {mc ms : Nat} (k : W p l e R s m args below meth c H locs cells slots (MQ below Qc args s mc ms free) g) : W p l e R s m args below meth c H locs cells slots (vx_MQ below Qc XC args s mc ms free) g := by
  intro T hT X
  obtain ⟨t, a1, o, b1, b2, b3, b4⟩ := k T hT X
  exact ⟨t, a1, o, b1, b2, Or.inl ⟨b3, b4⟩⟩
/-- not caught here: it goes on to the caller -/
theorem vx_widen {g : JFrame} {q : Addr} {k n : Nat} (h1 : cells ≤ k) (h2 : slots ≤ n) (kk : vx_W p l e R s m args below meth c H locs k n Q g q) : vx_W p l e R s m args below meth c H locs cells slots Q g q := fun T hT X => kk T hT (stand_widen X h1 h2)
theorem vx_out {pc : Nat} {E : String} {ce : Cell} {q : Addr} {mc ms : Nat} (hout : ∀ x ∈ c.exceptionTable.toList, covers x pc = false) (hlocks : meth.locks = false) (hcell : H[q]? = some ce) (hv : ce.vm = .none) (hcl : s.vm.findClass E = some ce.cls)
    (hx : ∀ t : State, t.heap = H → s.vm.Alike t.vm → XC E s t) (hf : ∀ z ∈ locs, free z.base) (hc : cells ≤ mc) (hs : slots ≤ ms) :
    vx_W p l e R s m args below meth c H locs cells slots (vx_MQ below Qc XC args s mc ms free) (F0 m pc ls rest) q := by
  intro T hT X
  obtain ⟨st1, hrun, hend, hW, hsm⟩ := X.leaveThrown q (g := F0 m pc ls rest) rfl rfl rfl hout hlocks
  have hcell9 : (T.setFrames (.throwing q :: below)).heap[q]? = some ce := by
    show T.heap[q]? = some ce
    rw [hT]; exact hcell
  exact ⟨_, st1, .threw q, hrun, hend, Or.inr ⟨q, rfl, E, ce, locs, hx _ hT hW.alike, hcell9, hv, hcl, hW, hsm.mono hc hs, hf⟩⟩
theorem vx_frame {U : State} {k n : Nat} (h : s.sameButNew ({ U with vm := s.vm } : State) locs k n) : s.heap.size ≤ U.heap.size ∧ ∀ q : Nat, q < s.heap.size → (∀ z ∈ locs, z.base ≠ q) → U.heap[q]? = s.heap[q]? := by
  obtain ⟨-, h2, -, -, -, h6⟩ := h
  refine ⟨h2, fun q hq hz => ?_⟩
  obtain ⟨c9, e1, e2, e3, e4⟩ := h6 q _ (Array.getElem?_eq_getElem hq)
  have hs : c9.slots = (s.heap[q]).slots := Array.ext_getElem? fun i => e4 i fun hm => hz _ hm rfl
  have h9 : c9 = s.heap[q] := by
    rw [hs] at e2
    exact e2
  have e5 : U.heap[q]? = some c9 := e1
  rw [e5, h9, Array.getElem?_eq_getElem hq]
/-- the words of a throw but the four that speak of the heap -/
def vx_no (w : Cond) : Bool := decide (w ≠ .isRef (.static Bundle.tN "UNASSIGNED_STACK" Bundle.steD)) && decide (w ≠ .isRef (.static Bundle.tN "SUPPRESSED_SENTINEL" Bundle.listD)) && decide (w ≠ .laysStatic Bundle.tN "UNASSIGNED_STACK" Bundle.steD) && decide (w ≠ .laysStatic Bundle.tN "SUPPRESSED_SENTINEL" Bundle.listD)
def vx_at0 (own : String) (ic : Nat) (X : String) (names : List String) : List Cond := (Bundle.ownAtoms0 own ic X names).filter vx_no
def vx_atS (own : String) (ic : Nat) (X : String) (names : List String) : List Cond := (Bundle.ownAtoms own ic X names).filter vx_no
/-- a word that the tables alone decide, or a good one -/
def vx_ot (w : Cond) : Bool := w.onTables || goodWord w
theorem vx_ot_at {args a' : Array Value} {s U : State} {w : Cond} (hW : s.WarmedH U.vm) (hvm : s.vm = U.vm) (hg : vx_ot w = true) (h : w.before args s = true) : w.before a' U = true := by
  simp only [vx_ot, Bool.or_eq_true] at hg
  rcases hg with hg | hg
  · exact va_tabs hg hvm h
  · exact word_at hW (good_of_word hg) h
/-- a list's words: the good ones out of the method's own list, the others by premises of their own -/
theorem vx_hat {args : Array Value} {s : State} {L B : List Cond} (h1 : ∀ w ∈ L.filter goodWord, w.before args s = true) (h2 : ∀ w ∈ L.filter (fun w => !goodWord w), w ∈ B) (h3 : ∀ w ∈ B, w.before args s = true) : ∀ w ∈ L, w.before args s = true := by
  intro w hw
  by_cases g : goodWord w = true
  · exact h1 w (List.mem_filter.mpr ⟨hw, g⟩)
  · refine h3 w (h2 w (List.mem_filter.mpr ⟨hw, ?_⟩))
    show (!goodWord w) = true
    cases hgw : goodWord w
    · rfl
    · exact absurd hgw g
theorem vx_c {args : Array Value} {s : State} {w : Cond} {B : List Cond} (h : w.before args s = true) (t : ∀ w ∈ B, w.before args s = true) : ∀ w' ∈ w :: B, w'.before args s = true := fun w' h' => (List.mem_cons.mp h').elim (fun e => by rw [e]; exact h) (t w')
theorem vx_n {args : Array Value} {s : State} : ∀ w ∈ ([] : List Cond), w.before args s = true := fun _ h => nomatch h
theorem vx_own {args : Array Value} {s : State} {L : List Cond} (h1 : ∀ w ∈ L.filter vx_no, w.before args s = true)
    (hU : (Cond.isRef (.static Bundle.tN "UNASSIGNED_STACK" Bundle.steD)).before args s = true) (hN : (Cond.isRef (.static Bundle.tN "SUPPRESSED_SENTINEL" Bundle.listD)).before args s = true)
    (lU : (Cond.laysStatic Bundle.tN "UNASSIGNED_STACK" Bundle.steD).before args s = true) (lN : (Cond.laysStatic Bundle.tN "SUPPRESSED_SENTINEL" Bundle.listD).before args s = true) : ∀ w ∈ L, w.before args s = true := by
  intro w hw
  by_cases e1 : w = .isRef (.static Bundle.tN "UNASSIGNED_STACK" Bundle.steD)
  · rw [e1]; exact hU
  · by_cases e2 : w = .isRef (.static Bundle.tN "SUPPRESSED_SENTINEL" Bundle.listD)
    · rw [e2]; exact hN
    · by_cases e3 : w = .laysStatic Bundle.tN "UNASSIGNED_STACK" Bundle.steD
      · rw [e3]; exact lU
      · by_cases e4 : w = .laysStatic Bundle.tN "SUPPRESSED_SENTINEL" Bundle.listD
        · rw [e4]; exact lN
        · exact h1 w (List.mem_filter.mpr ⟨hw, by unfold vx_no; rw [decide_eq_true e1, decide_eq_true e2, decide_eq_true e3, decide_eq_true e4]; rfl⟩)
/-- where a static field lies, its class's statics cell in H -/
def vx_L (C n d : String) (A : Nat → Prop) (U : State) (H : Heap) : Prop := ∃ (c : ClassId) (k : Class) (i : Nat) (f : Field) (a : Nat) (cell : Cell), U.vm.findClass C = some c ∧ U.fieldFound? C n d = some (c, k, i, f) ∧ f.isStatic = true ∧ k.statics = some a ∧ H[a]? = some cell ∧ cell.vm.isStatics = true ∧ cell.cls = c ∧ f.slot < cell.slots.size ∧ k.staticTypes[f.slot]? = some f.type ∧ ¬ A a
theorem vx_L.moved {C n d : String} {A : Nat → Prop} {u U : State} {H : Heap} (hvm : u.vm.Alike U.vm) (h : vx_L C n d A u H) : vx_L C n d A U H := by
  obtain ⟨c, k, i, f, a, cell, h1, h2, h3, h4, h5, h6, h7, h8, h9, h10⟩ := h
  obtain ⟨k', hi', he⟩ := State.fieldFound?_setVm hvm h2
  exact ⟨c, k', i, f, a, cell, by rw [hvm.findClass]; exact h1, hi', h3, by rw [he]; exact h4, h5, h6, h7, h8, by rw [he]; exact h9, h10⟩
theorem vx_L.kept {C n d : String} {A : Nat → Prop} {U : State} {H H1 : Heap} (h : vx_L C n d A U H) (hq : ∀ a : Nat, a < H.size → ¬ A a → H1[a]? = H[a]?) : vx_L C n d A U H1 := by
  obtain ⟨c, k, i, f, a, cell, h1, h2, h3, h4, h5, h6, h7, h8, h9, h10⟩ := h
  exact ⟨c, k, i, f, a, cell, h1, h2, h3, h4, by rw [hq a (Array.getElem?_eq_some_iff.mp h5).1 h10]; exact h5, h6, h7, h8, h9, h10⟩
theorem vx_L.narrow {C n d : String} {A B : Nat → Prop} {U : State} {H : Heap} (h : vx_L C n d A U H) (hAB : ∀ q, B q → A q) : vx_L C n d B U H := by
  obtain ⟨c, k, i, f, a, cell, h1, h2, h3, h4, h5, h6, h7, h8, h9, h10⟩ := h
  exact ⟨c, k, i, f, a, cell, h1, h2, h3, h4, h5, h6, h7, h8, h9, fun z => h10 (hAB _ z)⟩
theorem vx_L.word {C n d : String} {A : Nat → Prop} {s : State} {args : Array Value} (h : vx_L C n d A s s.heap) : (Cond.laysStatic C n d).before args s = true := by
  obtain ⟨c, k, i, f, a, cell, h1, h2, h3, h4, h5, h6, h7, h8, h9, -⟩ := h
  show (Cond.laysStatic C n d).holds args s none s [] = true
  exact Cond.laysStatic_of h1 h2 h3 h4 h5 h6 h7 h8 h9
/-- .. and what it holds: null or some reference -/
def vx_Zq (C n d : String) (A : Nat → Prop) (U : State) (H : Heap) : Prop := va_Zq C n d A U H ∧ vx_L C n d A U H
theorem vx_Zq.moved {C n d : String} {A : Nat → Prop} {u U : State} {H : Heap} (hvm : u.vm.Alike U.vm) (h : vx_Zq C n d A u H) : vx_Zq C n d A U H := ⟨va_Zq.moved hvm h.1, vx_L.moved hvm h.2⟩
theorem vx_Zq.kept {C n d : String} {A : Nat → Prop} {U : State} {H H1 : Heap} (h : vx_Zq C n d A U H) (hq : ∀ a : Nat, a < H.size → ¬ A a → H1[a]? = H[a]?) : vx_Zq C n d A U H1 := ⟨va_Zq.kept h.1 hq, vx_L.kept h.2 hq⟩
theorem vx_Zq.narrow {C n d : String} {A B : Nat → Prop} {U : State} {H : Heap} (h : vx_Zq C n d A U H) (hAB : ∀ q, B q → A q) : vx_Zq C n d B U H := ⟨va_Zq.narrow h.1 hAB, vx_L.narrow h.2 hAB⟩
theorem vx_Zqof {args : Array Value} {s : State} {C n d : String} {A : Nat → Prop} (hl : (Cond.laysStatic C n d).before args s = true) (hini : (Cond.initialized C).before args s = true) (h : (Cond.isRef (.static C n d)).before args s = true) (hA : ∀ a : Nat, a < s.heap.size → ¬ A a) : vx_Zq C n d A s s.heap := by
  refine ⟨va_Zqof hl hini h hA, ?_⟩
  obtain ⟨c, k, i, f, a, cell, h1, h2, h3, h4, h5, h6, h7, h8, h9⟩ := Cond.laysStatic_spec hl
  exact ⟨c, k, i, f, a, cell, h1, h2, h3, h4, h5, h6, h7, h8, h9, hA a (Array.getElem?_eq_some_iff.mp h5).1⟩
theorem vx_isRef {C n d : String} {v : Value} {A : Nat → Prop} {s : State} {args : Array Value} (h : va_Z C n d v A s s.heap) (hv : v.isRef = true) : (Cond.isRef (.static C n d)).before args s = true := by
  obtain ⟨cf, kf, fi, f, a, cell, h1, h2, h3, h4, h5, h6, h7, -⟩ := h
  have he : (Term.static C n d).eval args s none [] s = some v := by
    simp [Term.eval, State.fieldNamed?, h1, h2, h4, h5, h6, h7]
  simp only [Cond.before, Cond.holds, Cond.value, he]
  cases v <;> simp_all [Value.isRef]
theorem vx_isRefq {C n d : String} {A : Nat → Prop} {s : State} {args : Array Value} (h : va_Zq C n d A s s.heap) : (Cond.isRef (.static C n d)).before args s = true := by
  rcases h with h | ⟨t, h⟩
  · exact vx_isRef h rfl
  · exact vx_isRef h rfl
/-- the same frame, seen from here: as if the method were called anew in this heap -/
theorem vx_rebase {T : State} (X : Stand p l e R s m args below meth c T locs cells slots) {R' : Room} (hf : R'.frames ≤ R.frames) (hl : R'.locals ≤ R.locals) (hc : cells + R'.cells ≤ R.cells) (hs : slots + R'.slots ≤ R.slots) :
    Stand p l e R' ((T.setVm s.vm).setFrames (.invoking m args :: below)) m args below meth c T [] 0 0 := by
  have htop : (T.setVm s.vm).topJava?.isSome := X.here.top
  have hF : ((T.setVm s.vm).setFrames (.invoking m args :: below)).frames = .invoking m args :: below := State.frames_setFrames _ (State.cur_lt_of_top htop)
  obtain ⟨g₀, hg0⟩ := Option.isSome_iff_exists.mp htop
  obtain ⟨r, hr⟩ := State.topJava?_eq_some.mp hg0
  have hl9 : e.platform.stackLimits (T.setVm s.vm).me = e.platform.stackLimits s.me := X.limits
  have hb9 : (T.setVm s.vm).me.stackBytes = s.me.stackBytes := X.bytes
  refine ⟨X.admits, X.cas, X.clock, hF, ?_, X.hears, X.method, X.code, X.here, X.tail, X.warmed, ?_, ?_, ?_⟩
  · have h := X.room
    have hU : ((T.setVm s.vm).setFrames (.invoking m args :: below)).localsInUse = s.localsInUse := by
      rw [State.localsInUse_invoking hF (meth := meth) (c := c) X.method X.code, State.localsInUse_invoking X.frames X.method X.code]
    simp only [State.hasRoom, Bool.and_eq_true, decide_eq_true_eq] at h ⊢
    obtain ⟨⟨⟨⟨h1, h2, h3, h4, h5, h6⟩, h7⟩, h8⟩, h9⟩ := h
    rw [X.frames, List.length_cons] at h2 h3
    have q1 := X.heapSize
    have q2 := X.used
    simp only [hF, hU, List.length_cons, State.stackLimits_setFrames, State.stackBytes_setFrames, hl9, hb9]
    refine ⟨⟨⟨⟨by omega, by omega, by omega, by omega, by omega, h6⟩, ?_⟩, ?_⟩, X.book⟩
    · show T.heap.size + R'.cells ≤ e.platform.maxCells
      omega
    · show T.slotsUsed + R'.slots ≤ e.platform.maxSlots
      omega
  · rw [State.stackLimits_setFrames]; rfl
  · rw [State.stackBytes_setFrames]; rfl
  · refine ⟨?_, Nat.le_refl _, Nat.le_refl _, ?_, ?_, fun a c9 h9 => ⟨c9, h9, rfl, rfl, fun _ _ => rfl⟩⟩
    · obtain ⟨t, ht, -⟩ := State.frames_cons hr
      show T.setVm s.vm = { ((T.setVm s.vm).setFrames (.invoking m args :: below)).setFrames (T.setVm s.vm).frames with heap := T.heap, slotsUsed := T.slotsUsed }
      rw [State.setFrames_setFrames, State.setFrames_self ht]
      rfl
    · show T.slotsUsed = T.slotsUsed + ((T.heap.toList.drop T.heap.size).map (·.slots.size)).sum
      rw [List.drop_eq_nil_of_le (Nat.le_of_eq Array.length_toList)]
      rfl
    · show ((T.heap.toList.drop T.heap.size).map (·.slots.size)).sum ≤ 0
      rw [List.drop_eq_nil_of_le (Nat.le_of_eq Array.length_toList)]
      exact Nat.le_refl _
/-- 'throw new E()': new; dup; invokespecial; athrow -/
theorem vx_throw0 {cc : ByteArray} {pc : Nat} (hexec : p.tables.exec = Jvm.exec) (hb : c.code = cc) (hl : l.stackTraces = false) {own cls : String} {names : List String} {ik ic mc ms : Nat} {A : Nat → Prop}
    (hown : s.vm.findClass own = some m.cls) (hcls : Bundle.fit cls = true) (hnames : ∀ n ∈ names, Bundle.fit n = true)
    (hk : (Cond.classLink own ik cls).before args s = true) (hini : (Cond.initialized cls).before args s = true) (hat : ∀ w ∈ vx_at0 own ic cls names, w.before args s = true)
    (hgood : ∀ w ∈ Cond.classLink own ik cls :: Cond.initialized cls :: vx_at0 own ic cls names, vx_ot w = true)
    (hU : vx_Zq Bundle.tN "UNASSIGNED_STACK" Bundle.steD A s s.heap) (hN : vx_Zq Bundle.tN "SUPPRESSED_SENTINEL" Bundle.listD A s s.heap) (hS : va_S A s.heap H locs) (hsize : ls.size = c.maxLocals)
    (d0 : decode cc pc = .ok (.new ik, 3)) (d3 : decode cc (pc + 3) = .ok (.dup, 1)) (d4 : decode cc (pc + 4) = .ok (.invokespecial ic, 3)) (d7 : decode cc (pc + 7) = .ok (.athrow, 1))
    (hout : ∀ x ∈ c.exceptionTable.toList, covers x (pc + 7) = false)
    (hRframes : names.length + 3 < R.frames) (hRlocals : (rest.map fun v => v.category).sum + (13 * (names.length + 1) + 42) ≤ R.locals) (hRcells : cells + 1 ≤ R.cells) (hRslots : slots + 6 ≤ R.slots) (hlocks : meth.locks = false)
    (hx : ∀ t : State, s.vm.Alike t.vm → H.size ≤ t.heap.size → (∀ q : Nat, q < H.size → t.heap[q]? = H[q]?) → XC cls s t)
    (hf : ∀ z ∈ locs, free z.base) (hc : cells + 1 ≤ mc) (hs : slots + 6 ≤ ms) :
    W p l e R s m args below meth c H locs cells slots (vx_MQ below Qc XC args s mc ms free) (F0 m pc ls rest) := by
  intro T hT X
  have htr : e.platform.stackTraces = false := (show e.platform.stackTraces = l.stackTraces by rw [X.admits.platform]).trans hl
  have Y := vx_rebase X (R' := { frames := R.frames, locals := R.locals, cells := 1, slots := 6 }) (Nat.le_refl _) (Nat.le_refl _) hRcells hRslots
  obtain ⟨s', hA⟩ : ∃ z, z = (T.setVm s.vm).setFrames (.invoking m args :: below) := ⟨_, rfl⟩
  rw [← hA] at Y
  have hvm : s'.vm = s.vm := by rw [hA]; rfl
  have hhp : s'.heap = H := by rw [hA]; exact hT
  have hW0 : s.WarmedH s'.vm := by rw [hvm]; exact State.WarmedH.refl s
  have hat' : ∀ w ∈ vx_at0 own ic cls names, w.before args s' = true := fun w hw => vx_ot_at hW0 hvm.symm (hgood w (List.mem_cons_of_mem _ (List.mem_cons_of_mem _ hw))) (hat w hw)
  have hk' : (Cond.classLink own ik cls).before args s' = true := vx_ot_at hW0 hvm.symm (hgood _ List.mem_cons_self) hk
  have hini' : (Cond.initialized cls).before args s' = true := vx_ot_at hW0 hvm.symm (hgood _ (List.mem_cons_of_mem _ List.mem_cons_self)) hini
  have hU' : vx_Zq Bundle.tN "UNASSIGNED_STACK" Bundle.steD A s' s'.heap := by rw [hhp]; exact vx_Zq.moved hW0.alike (hU.kept hS.2.1)
  have hN' : vx_Zq Bundle.tN "SUPPRESSED_SENTINEL" Bundle.listD A s' s'.heap := by rw [hhp]; exact vx_Zq.moved hW0.alike (hN.kept hS.2.1)
  have h : ∀ w ∈ Bundle.ownAtoms0 own ic cls names, w.before args s' = true := vx_own hat' (vx_isRefq hU'.1) (vx_isRefq hN'.1) hU'.2.word hN'.2.word
  have hown' : s'.vm.findClass own = some m.cls := by rw [hvm]; exact hown
  have hins : (Cond.instantiable cls 6).before args s' = true := h _ (by simp [Bundle.ownAtoms0])
  obtain ⟨vm₁, cX, kX, hfX, hkX, -, -, X₁, st1⟩ := Y.newCold hexec (own := own) (C := cls) (index := ik) (n := 6) hown' hk' hins hini'
    (g := F0 m pc ls rest) rfl (by rw [hb]; exact d0) (Nat.le_refl _) (Nat.le_refl _)
  generalize hT1 : (T.setVm vm₁).pushCell { cls := cX, slots := kX.instanceTypes.map defaultValue, vm := .none } = T1 at X₁ st1
  have hcat : (Value.ref T.heap.size).category = 1 := rfl
  have hcellA : T1.heap[T.heap.size]? = some (freshCell cX kX) := by rw [← hT1]; exact State.heap_pushCell_size _ _
  have d3' : decode c.code (pc + 3) = .ok (.dup, 1) := by rw [hb]; exact d3
  obtain ⟨U, hsteps, hrun, hend, hW, hsame, ce, hce, hO⟩ := X₁.ctorThrow0 hexec htr (own := own) (cls := cls) (names := names) (ic := ic) hown' hcls hnames h (fun x hx => nomatch hx) hfX hkX hcellA (by rw [hhp, hT]; exact Nat.le_refl _)
    (g := { method := m, pc := pc + 4, locals := ls, stack := .ref T.heap.size :: .ref T.heap.size :: rest, locked := none }) rfl hsize rfl rfl (rest := rest) rfl
    (by rw [hb]; exact d4) (by rw [hb]; exact d7) hout hRframes (by simp only [List.map_cons, List.sum_cons, hcat]; omega) hlocks
  obtain ⟨f1, f2⟩ := vx_frame hsame
  rw [hhp] at f1 f2
  have hWs : s.WarmedH U.vm := State.WarmedH.trans hW0 hW
  have hcl : s.vm.findClass cls = some ce.cls := by
    have h9 := hO.cls
    rw [hvm] at h9
    exact h9
  have hall : s.sameButNew ({ U with vm := s.vm } : State) locs mc ms := by
    subst hA
    obtain ⟨e1, e2⟩ := hsame
    rw [State.setFrames_setFrames] at e1
    have h2 : (T.setVm s.vm).sameButNew ({ U with vm := s.vm } : State) [] (0 + 1) (0 + 6) := ⟨e1, e2⟩
    have h3 := X.same.trans h2
    rw [List.append_nil] at h3
    exact h3.mono hc hs
  refine ⟨U, ?_, .threw T.heap.size, hrun, hend, Or.inr ⟨T.heap.size, rfl, cls, ce, locs, hx U hWs.alike f1 (fun q hq => f2 q hq (fun z hz => nomatch hz)), hce, hO.vm, hcl, hWs, hall, hf⟩⟩
  refine st1 _ ?_
  show Steps p.tables e below (T1.setTop { method := m, pc := pc + 3, locals := ls, stack := .ref T.heap.size :: rest, locked := none }) _
  jvm_step X₁.here [X₁.here.top, hexec, d3', Value.category]
  exact hsteps
/-- 'throw new E("text")': new; dup; ldc; invokespecial; athrow -/
theorem vx_throwS {cc : ByteArray} {pc : Nat} (hexec : p.tables.exec = Jvm.exec) (hb : c.code = cc) (hl : l.stackTraces = false) {own cls text : String} {names : List String} {ik is ic mc ms sa : Nat} {A : Nat → Prop}
    (hown : s.vm.findClass own = some m.cls) (hcls : Bundle.fit cls = true) (hnames : ∀ n ∈ names, Bundle.fit n = true)
    (hk : (Cond.classLink own ik cls).before args s = true) (hini : (Cond.initialized cls).before args s = true) (hstr : vk_R own is text sa s) (hat : ∀ w ∈ vx_atS own ic cls names, w.before args s = true)
    (hgood : ∀ w ∈ Cond.classLink own ik cls :: Cond.initialized cls :: vx_atS own ic cls names, vx_ot w = true)
    (hU : vx_Zq Bundle.tN "UNASSIGNED_STACK" Bundle.steD A s s.heap) (hN : vx_Zq Bundle.tN "SUPPRESSED_SENTINEL" Bundle.listD A s s.heap) (hS : va_S A s.heap H locs) (hsize : ls.size = c.maxLocals)
    (d0 : decode cc pc = .ok (.new ik, 3)) (d3 : decode cc (pc + 3) = .ok (.dup, 1)) (d4 : decode cc (pc + 4) = .ok (.ldc is, 2)) (d6 : decode cc (pc + 6) = .ok (.invokespecial ic, 3)) (d9 : decode cc (pc + 9) = .ok (.athrow, 1))
    (hout : ∀ x ∈ c.exceptionTable.toList, covers x (pc + 9) = false)
    (hRframes : names.length + 3 < R.frames) (hRlocals : (rest.map fun v => v.category).sum + (13 * (names.length + 1) + 43) ≤ R.locals) (hRcells : cells + 1 ≤ R.cells) (hRslots : slots + 6 ≤ R.slots) (hlocks : meth.locks = false)
    (hx : ∀ t : State, s.vm.Alike t.vm → H.size ≤ t.heap.size → (∀ q : Nat, q < H.size → t.heap[q]? = H[q]?) → XC cls s t)
    (hf : ∀ z ∈ locs, free z.base) (hc : cells + 1 ≤ mc) (hs : slots + 6 ≤ ms) :
    W p l e R s m args below meth c H locs cells slots (vx_MQ below Qc XC args s mc ms free) (F0 m pc ls rest) := by
  intro T hT X
  have htr : e.platform.stackTraces = false := (show e.platform.stackTraces = l.stackTraces by rw [X.admits.platform]).trans hl
  have Y := vx_rebase X (R' := { frames := R.frames, locals := R.locals, cells := 1, slots := 6 }) (Nat.le_refl _) (Nat.le_refl _) hRcells hRslots
  obtain ⟨s', hA⟩ : ∃ z, z = (T.setVm s.vm).setFrames (.invoking m args :: below) := ⟨_, rfl⟩
  rw [← hA] at Y
  have hvm : s'.vm = s.vm := by rw [hA]; rfl
  have hhp : s'.heap = H := by rw [hA]; exact hT
  have hW0 : s.WarmedH s'.vm := by rw [hvm]; exact State.WarmedH.refl s
  have hat' : ∀ w ∈ vx_atS own ic cls names, w.before args s' = true := fun w hw => vx_ot_at hW0 hvm.symm (hgood w (List.mem_cons_of_mem _ (List.mem_cons_of_mem _ hw))) (hat w hw)
  have hk' : (Cond.classLink own ik cls).before args s' = true := vx_ot_at hW0 hvm.symm (hgood _ List.mem_cons_self) hk
  have hini' : (Cond.initialized cls).before args s' = true := vx_ot_at hW0 hvm.symm (hgood _ (List.mem_cons_of_mem _ List.mem_cons_self)) hini
  have hU' : vx_Zq Bundle.tN "UNASSIGNED_STACK" Bundle.steD A s' s'.heap := by rw [hhp]; exact vx_Zq.moved hW0.alike (hU.kept hS.2.1)
  have hN' : vx_Zq Bundle.tN "SUPPRESSED_SENTINEL" Bundle.listD A s' s'.heap := by rw [hhp]; exact vx_Zq.moved hW0.alike (hN.kept hS.2.1)
  have h : ∀ w ∈ Bundle.ownAtoms own ic cls names, w.before args s' = true := vx_own hat' (vx_isRefq hU'.1) (vx_isRefq hN'.1) hU'.2.word hN'.2.word
  have hown' : s'.vm.findClass own = some m.cls := by rw [hvm]; exact hown
  have hins : (Cond.instantiable cls 6).before args s' = true := h _ (by simp [Bundle.ownAtoms])
  obtain ⟨vm₁, cX, kX, hfX, hkX, -, -, X₁, st1⟩ := Y.newCold hexec (own := own) (C := cls) (index := ik) (n := 6) hown' hk' hins hini'
    (g := F0 m pc ls rest) rfl (by rw [hb]; exact d0) (Nat.le_refl _) (Nat.le_refl _)
  generalize hT1 : (T.setVm vm₁).pushCell { cls := cX, slots := kX.instanceTypes.map defaultValue, vm := .none } = T1 at X₁ st1
  have hcat : (Value.ref T.heap.size).category = 1 := rfl
  have hcellA : T1.heap[T.heap.size]? = some (freshCell cX kX) := by rw [← hT1]; exact State.heap_pushCell_size _ _
  have d3' : decode c.code (pc + 3) = .ok (.dup, 1) := by rw [hb]; exact d3
  have d4' : decode c.code (pc + 4) = .ok (.ldc is, 2) := by rw [hb]; exact d4
  have hstr' : vk_R own is text sa s' := vk_R.warm hW0 hstr
  obtain ⟨U, hsteps, hrun, hend, hW, hsame, ce, hce, hO⟩ := X₁.ctorThrowS hexec htr (own := own) (cls := cls) (names := names) (ic := ic) hown' hcls hnames h (fun x hx => nomatch hx) hfX hkX hcellA (by rw [hhp, hT]; exact Nat.le_refl _) (msg := .ref sa) rfl
    (g := { method := m, pc := pc + 6, locals := ls, stack := .ref sa :: .ref T.heap.size :: .ref T.heap.size :: rest, locked := none }) rfl hsize rfl rfl (rest := rest) rfl
    (by rw [hb]; exact d6) (by rw [hb]; exact d9) hout hRframes (by simp only [List.map_cons, List.sum_cons, hcat]; omega) hlocks
  obtain ⟨f1, f2⟩ := vx_frame hsame
  rw [hhp] at f1 f2
  have hWs : s.WarmedH U.vm := State.WarmedH.trans hW0 hW
  have hcl : s.vm.findClass cls = some ce.cls := by
    have h9 := hO.cls
    rw [hvm] at h9
    exact h9
  have hall : s.sameButNew ({ U with vm := s.vm } : State) locs mc ms := by
    subst hA
    obtain ⟨e1, e2⟩ := hsame
    rw [State.setFrames_setFrames] at e1
    have h2 : (T.setVm s.vm).sameButNew ({ U with vm := s.vm } : State) [] (0 + 1) (0 + 6) := ⟨e1, e2⟩
    have h3 := X.same.trans h2
    rw [List.append_nil] at h3
    exact h3.mono hc hs
  refine ⟨U, ?_, .threw T.heap.size, hrun, hend, Or.inr ⟨T.heap.size, rfl, cls, ce, locs, hx U hWs.alike f1 (fun q hq => f2 q hq (fun z hz => nomatch hz)), hce, hO.vm, hcl, hWs, hall, hf⟩⟩
  refine st1 _ ?_
  show Steps p.tables e below (T1.setTop { method := m, pc := pc + 3, locals := ls, stack := .ref T.heap.size :: rest, locked := none }) _
  jvm_step X₁.here [X₁.here.top, hexec, d3', Value.category]
  exact X₁.ldcString hexec (own := own) (text := text) (index := is) (a := sa) hown' hstr'.1 hstr'.2
    (g := { method := m, pc := pc + 4, locals := ls, stack := .ref T.heap.size :: .ref T.heap.size :: rest, locked := none }) rfl d4' _ hsteps
/-- 'throw new E("text")', the text by a wide index -/
theorem vx_throwSW {cc : ByteArray} {pc : Nat} (hexec : p.tables.exec = Jvm.exec) (hb : c.code = cc) (hl : l.stackTraces = false) {own cls text : String} {names : List String} {ik is ic mc ms sa : Nat} {A : Nat → Prop}
    (hown : s.vm.findClass own = some m.cls) (hcls : Bundle.fit cls = true) (hnames : ∀ n ∈ names, Bundle.fit n = true)
    (hk : (Cond.classLink own ik cls).before args s = true) (hini : (Cond.initialized cls).before args s = true) (hstr : vk_R own is text sa s) (hat : ∀ w ∈ vx_atS own ic cls names, w.before args s = true)
    (hgood : ∀ w ∈ Cond.classLink own ik cls :: Cond.initialized cls :: vx_atS own ic cls names, vx_ot w = true)
    (hU : vx_Zq Bundle.tN "UNASSIGNED_STACK" Bundle.steD A s s.heap) (hN : vx_Zq Bundle.tN "SUPPRESSED_SENTINEL" Bundle.listD A s s.heap) (hS : va_S A s.heap H locs) (hsize : ls.size = c.maxLocals)
    (d0 : decode cc pc = .ok (.new ik, 3)) (d3 : decode cc (pc + 3) = .ok (.dup, 1)) (d4 : decode cc (pc + 4) = .ok (.ldc_w is, 3)) (d7 : decode cc (pc + 7) = .ok (.invokespecial ic, 3)) (d10 : decode cc (pc + 10) = .ok (.athrow, 1))
    (hout : ∀ x ∈ c.exceptionTable.toList, covers x (pc + 10) = false)
    (hRframes : names.length + 3 < R.frames) (hRlocals : (rest.map fun v => v.category).sum + (13 * (names.length + 1) + 43) ≤ R.locals) (hRcells : cells + 1 ≤ R.cells) (hRslots : slots + 6 ≤ R.slots) (hlocks : meth.locks = false)
    (hx : ∀ t : State, s.vm.Alike t.vm → H.size ≤ t.heap.size → (∀ q : Nat, q < H.size → t.heap[q]? = H[q]?) → XC cls s t)
    (hf : ∀ z ∈ locs, free z.base) (hc : cells + 1 ≤ mc) (hs : slots + 6 ≤ ms) :
    W p l e R s m args below meth c H locs cells slots (vx_MQ below Qc XC args s mc ms free) (F0 m pc ls rest) := by
  intro T hT X
  have htr : e.platform.stackTraces = false := (show e.platform.stackTraces = l.stackTraces by rw [X.admits.platform]).trans hl
  have Y := vx_rebase X (R' := { frames := R.frames, locals := R.locals, cells := 1, slots := 6 }) (Nat.le_refl _) (Nat.le_refl _) hRcells hRslots
  obtain ⟨s', hA⟩ : ∃ z, z = (T.setVm s.vm).setFrames (.invoking m args :: below) := ⟨_, rfl⟩
  rw [← hA] at Y
  have hvm : s'.vm = s.vm := by rw [hA]; rfl
  have hhp : s'.heap = H := by rw [hA]; exact hT
  have hW0 : s.WarmedH s'.vm := by rw [hvm]; exact State.WarmedH.refl s
  have hat' : ∀ w ∈ vx_atS own ic cls names, w.before args s' = true := fun w hw => vx_ot_at hW0 hvm.symm (hgood w (List.mem_cons_of_mem _ (List.mem_cons_of_mem _ hw))) (hat w hw)
  have hk' : (Cond.classLink own ik cls).before args s' = true := vx_ot_at hW0 hvm.symm (hgood _ List.mem_cons_self) hk
  have hini' : (Cond.initialized cls).before args s' = true := vx_ot_at hW0 hvm.symm (hgood _ (List.mem_cons_of_mem _ List.mem_cons_self)) hini
  have hU' : vx_Zq Bundle.tN "UNASSIGNED_STACK" Bundle.steD A s' s'.heap := by rw [hhp]; exact vx_Zq.moved hW0.alike (hU.kept hS.2.1)
  have hN' : vx_Zq Bundle.tN "SUPPRESSED_SENTINEL" Bundle.listD A s' s'.heap := by rw [hhp]; exact vx_Zq.moved hW0.alike (hN.kept hS.2.1)
  have h : ∀ w ∈ Bundle.ownAtoms own ic cls names, w.before args s' = true := vx_own hat' (vx_isRefq hU'.1) (vx_isRefq hN'.1) hU'.2.word hN'.2.word
  have hown' : s'.vm.findClass own = some m.cls := by rw [hvm]; exact hown
  have hins : (Cond.instantiable cls 6).before args s' = true := h _ (by simp [Bundle.ownAtoms])
  obtain ⟨vm₁, cX, kX, hfX, hkX, -, -, X₁, st1⟩ := Y.newCold hexec (own := own) (C := cls) (index := ik) (n := 6) hown' hk' hins hini'
    (g := F0 m pc ls rest) rfl (by rw [hb]; exact d0) (Nat.le_refl _) (Nat.le_refl _)
  generalize hT1 : (T.setVm vm₁).pushCell { cls := cX, slots := kX.instanceTypes.map defaultValue, vm := .none } = T1 at X₁ st1
  have hcat : (Value.ref T.heap.size).category = 1 := rfl
  have hcellA : T1.heap[T.heap.size]? = some (freshCell cX kX) := by rw [← hT1]; exact State.heap_pushCell_size _ _
  have d3' : decode c.code (pc + 3) = .ok (.dup, 1) := by rw [hb]; exact d3
  have d4' : decode c.code (pc + 4) = .ok (.ldc_w is, 3) := by rw [hb]; exact d4
  have hstr' : vk_R own is text sa s' := vk_R.warm hW0 hstr
  obtain ⟨U, hsteps, hrun, hend, hW, hsame, ce, hce, hO⟩ := X₁.ctorThrowS hexec htr (own := own) (cls := cls) (names := names) (ic := ic) hown' hcls hnames h (fun x hx => nomatch hx) hfX hkX hcellA (by rw [hhp, hT]; exact Nat.le_refl _) (msg := .ref sa) rfl
    (g := { method := m, pc := pc + 7, locals := ls, stack := .ref sa :: .ref T.heap.size :: .ref T.heap.size :: rest, locked := none }) rfl hsize rfl rfl (rest := rest) rfl
    (by rw [hb]; exact d7) (by rw [hb]; exact d10) hout hRframes (by simp only [List.map_cons, List.sum_cons, hcat]; omega) hlocks
  obtain ⟨f1, f2⟩ := vx_frame hsame
  rw [hhp] at f1 f2
  have hWs : s.WarmedH U.vm := State.WarmedH.trans hW0 hW
  have hcl : s.vm.findClass cls = some ce.cls := by
    have h9 := hO.cls
    rw [hvm] at h9
    exact h9
  have hall : s.sameButNew ({ U with vm := s.vm } : State) locs mc ms := by
    subst hA
    obtain ⟨e1, e2⟩ := hsame
    rw [State.setFrames_setFrames] at e1
    have h2 : (T.setVm s.vm).sameButNew ({ U with vm := s.vm } : State) [] (0 + 1) (0 + 6) := ⟨e1, e2⟩
    have h3 := X.same.trans h2
    rw [List.append_nil] at h3
    exact h3.mono hc hs
  refine ⟨U, ?_, .threw T.heap.size, hrun, hend, Or.inr ⟨T.heap.size, rfl, cls, ce, locs, hx U hWs.alike f1 (fun q hq => f2 q hq (fun z hz => nomatch hz)), hce, hO.vm, hcl, hWs, hall, hf⟩⟩
  refine st1 _ ?_
  show Steps p.tables e below (T1.setTop { method := m, pc := pc + 3, locals := ls, stack := .ref T.heap.size :: rest, locked := none }) _
  jvm_step X₁.here [X₁.here.top, hexec, d3', Value.category]
  exact X₁.ldcStringW hexec (own := own) (text := text) (index := is) (a := sa) hown' hstr'.1 hstr'.2
    (g := { method := m, pc := pc + 4, locals := ls, stack := .ref T.heap.size :: .ref T.heap.size :: rest, locked := none }) rfl d4' _ hsteps
end Ends
section Bodies
variable {l : Launch}
theorem vx_ofW {y : MethodName} {ws ws' : List Cond} {rm : Room} {Pc : Array Value → State → Prop} {Qc : Array Value → State → Outcome → State → Prop} {XC : String → State → State → Prop} {mc ms : Nat} {free : Addr → Prop} {cc : ByteArray} {maxL : Nat} {ret : Option FieldType}
    (hy : plainName y.cls = true) (hw : ws = Cond.code y cc maxL ret :: ws')
    (body : ∀ p e s m args below meth c s₁, BodyLoose p l y (headSpec ws rm) cc maxL ret e s m args below meth c s₁ → c.maxLocals = maxL → (∀ x ∈ c.exceptionTable.toList, False) → Pc args s →
      W p l e (headSpec ws rm).room s m args below meth c s.heap [] 0 0 (vx_MQ below Qc XC args s mc ms free) (entryFrame m args maxL)) : vx_Met l y ws rm Pc Qc XC mc ms free := by
  refine MetFree.of_bodyS (code := cc) (maxLocals := maxL) (ret := ret) hy ?_ ?_
  · intro args s m h hn
    obtain ⟨meth, c, h1, h2, h3, h4, h5, h6, -, -⟩ := Cond.code_spec hn (atoms_spec (ws := ws) h _ (by rw [hw]; exact List.mem_cons_self))
    exact ⟨meth, c, h1, h2, h3, h4, h5, h6⟩
  · intro p e s m args below meth c s₁ B hml hP _
    have hh0 : s₁.heap = s.heap := by rw [B.state]; rfl
    have ht : ∀ x ∈ c.exceptionTable.toList, False := by
      obtain ⟨meth9, c9, h1, h2, -, -, -, -, h7, -⟩ := Cond.code_spec B.named (atoms_spec (ws := ws) B.pre _ (by rw [hw]; exact List.mem_cons_self))
      cases Option.some.inj (h1.symm.trans B.method)
      cases Option.some.inj (h2.symm.trans (Stand.of_body B).code)
      intro x hx
      rw [Array.isEmpty_iff.mp h7] at hx
      cases hx
    obtain ⟨t, a1, o, b1, b2, b3⟩ := body p e s m args below meth c s₁ B hml ht hP s₁ hh0 (Stand.of_body B)
    exact ⟨t, o, a1, b1, b2, b3⟩
/-- the table of a body with handlers -/
theorem vx_table {p : Program} {x y : MethodName} {S : Spec} {cc bytes : ByteArray} {maxL maxL' : Nat} {ret ret' : Option FieldType} {e : Env} {s s₁ : State} {m : MethodId} {args : Array Value} {below : List Frame} {meth : Method} {c : Code} {hh : List (Nat × Nat × Nat × Nat)}
    (B : BodyLoose p l y S cc maxL ret e s m args below meth c s₁) (h : (Cond.codeWith y bytes maxL' ret' hh).before args s = true) : c.exceptionTable.toList = tableOf hh := by
  obtain ⟨m9, meth9, c9, hn9, h1, h2, -, -, h6, -⟩ := Cond.codeWith_spec h
  cases Option.some.inj (hn9.symm.trans B.named)
  cases Option.some.inj (h1.symm.trans B.method)
  cases Option.some.inj (h2.symm.trans (Stand.of_body B).code)
  rw [← h6, table_eq]
end Bodies
end VXA
/-! ===== END ===== -/
/-! ===== BEGIN a static call of a method with an exception table ===== -/
section VXS
variable {p : Program} {l : Launch} {e : Env} {R : Room} {s : State} {m : MethodId} {args : Array Value} {below : List Frame} {meth : Method} {c : Code} {T : State} {H : Heap} {locs : List Loc} {cells slots : Nat}
abbrev vx_CSW (R : Room) (s : State) (args : Array Value) (own : String) (index : Nat) (y : MethodName) (bytes : ByteArray) (maxL : Nat) (ret : Option FieldType) (hh : List (Nat × Nat × Nat × Nat)) (ws : List Cond) (rm : Room) (mc ms n : Nat) : Prop :=
  (rm.cells = mc ∧ rm.slots = ms ∧ rm.frames + 1 ≤ R.frames ∧ 8 + (maxL + 11) + rm.locals ≤ R.locals ∧ (∀ w ∈ ws, ∀ (a' : Array Value) (U : State), s.WarmedH U.vm → w.before a' U = true) ∧ Cond.codeWith y bytes maxL ret hh ∈ ws) ∧
  (Cond.codeWith y bytes maxL ret hh).before args s = true ∧ (Cond.initialized y.cls).before args s = true ∧ (y.cls ≠ "java/lang/invoke/MethodHandle" ∧ y.cls ≠ "java/lang/invoke/VarHandle") ∧
  (∀ sig, parseMethodDescriptor y.desc = some sig → n = sig.parameters.length) ∧ (Cond.methodLink own index y).before args s = true ∧ (Cond.static y).before args s = true
theorem vx_cwSW {own : String} {index maxL mc ms : Nat} {y : MethodName} {bytes : ByteArray} {ret : Option FieldType} {hh : List (Nat × Nat × Nat × Nat)} {Ts ws ws' : List Cond} {rm : Room} (n : Nat) (ht : ∀ w ∈ Ts, w.before args s = true) (hT : GoodIn Ts (va_wsS own index y ws)) (hw : ws = Cond.codeWith y bytes maxL ret hh :: ws') (hrc : rm.cells = mc) (hrs : rm.slots = ms)
    (hd : y.cls ≠ "java/lang/invoke/MethodHandle" ∧ y.cls ≠ "java/lang/invoke/VarHandle" ∧ (parseMethodDescriptor y.desc).map (fun d => d.parameters.length) = some n) (hR : rm.frames + 1 ≤ R.frames ∧ 8 + (maxL + 11) + rm.locals ≤ R.locals) :
    vx_CSW R s args own index y bytes maxL ret hh ws rm mc ms n := by
  have ok : ∀ w ∈ va_wsS own index y ws, w.before args s = true := fun w h => ht w (hT w h).1
  have hG : GoodIn Ts ws := fun w h => hT w (by unfold va_wsS; exact List.mem_append_right _ h)
  have hc : Cond.codeWith y bytes maxL ret hh ∈ ws := by rw [hw]; exact List.mem_cons_self
  refine ⟨⟨hrc, hrs, hR.1, hR.2, pay_in ht hG, hc⟩, ht _ (hG _ hc).1, ok _ (by simp [va_wsS]), ⟨hd.1, hd.2.1⟩, fun sig h => ?_, ok _ (by simp [va_wsS]), ok _ (by simp [va_wsS])⟩
  have h2 := hd.2.2
  rw [h] at h2
  exact (Option.some.inj h2).symm
theorem vx_callSW (X : Stand p l e R s m args below meth c T locs cells slots) (hexec : p.tables.exec = Jvm.exec) {own : String} {index : Nat} {y : MethodName} {bytes : ByteArray} {maxL : Nat} {ret : Option FieldType} {hh : List (Nat × Nat × Nat × Nat)}
    (hown : s.vm.findClass own = some m.cls) (hlink : (Cond.methodLink own index y).before args s = true) (hstat : (Cond.static y).before args s = true) (hinit : (Cond.initialized y.cls).before args s = true)
    (hcode : (Cond.codeWith y bytes maxL ret hh).before args s = true) (hy : y.cls ≠ "java/lang/invoke/MethodHandle" ∧ y.cls ≠ "java/lang/invoke/VarHandle")
    {W9 : Nat} {Pre : Pt → Array Value → Prop} {Post : Pt → Array Value → Option Value → Pt → Prop} (hK : Back l R p e below s args y 3 W9 Pre Post)
    {g : JFrame} (hg : g.method = m) (hsize : g.locals.size = c.maxLocals) {argsL rest : List Value} (hlen : ∀ sig, parseMethodDescriptor y.desc = some sig → argsL.length = sig.parameters.length)
    (hstack : g.stack = argsL.reverse ++ rest) (hW : 2 * g.monitorRoom + (rest.map fun v => v.category).sum ≤ W9) (hdg : decode c.code g.pc = .ok (.invokestatic index, 3))
    (hpre : ∀ vm₁, s.WarmedH vm₁ → Pre ⟨T.setVm vm₁, locs, cells, slots⟩ argsL.toArray) :
    ∃ (v : Option Value) (vm₁ : Vm) (B : Pt), s.WarmedH vm₁ ∧ Stand p l e R s m args below meth c B.U B.locs B.cells B.slots ∧ Post ⟨T.setVm vm₁, locs, cells, slots⟩ argsL.toArray v B ∧
      ∀ target, Steps p.tables e below (B.U.setTop { g with pc := g.pc + 3, stack := v.toList ++ rest }) target → Steps p.tables e below (T.setTop g) target := by
  obtain ⟨mk, methM, cM, hnamed, hmethM, -, -, -, -, -, -, hsigM⟩ := Cond.codeWith_spec hcode
  have hstatic : methM.isStatic = true := Cond.static_spec hnamed hmethM hstat
  obtain ⟨kP, hkP, -⟩ := className_of_methodNamed hnamed
  have hinitP : kP.init = .initialized := Cond.initialized_spec (findClass_of_methodNamed hnamed) hkP hinit
  obtain ⟨vm₁, X₁, hstep₁⟩ := X.invokestatic hexec hown hlink hnamed hmethM hstatic hkP hinitP hy (g := g) hg (argsL := argsL) (rest := rest) (hlen _ hsigM) hstack hdg
  obtain ⟨v, B, X', hpost, hsteps⟩ := hK m meth c ⟨T.setVm vm₁, locs, cells, slots⟩ { g with stack := rest } (.invokestatic index) mk argsL.toArray X₁ hg hsize hdg hW (X₁.named hnamed) (hpre vm₁ X₁.warmed)
  exact ⟨v, vm₁, B, X₁.warmed, X', hpost, fun target h => hstep₁ _ fun acts => by rw [doInvoke_state]; exact hsteps.trans h⟩
theorem vx_runSW {y : MethodName} {bytes cc : ByteArray} {maxL nL mc ms n index : Nat} {ret : Option FieldType} {hh : List (Nat × Nat × Nat × Nat)} {ws : List Cond} {rm : Room} {Pc : Array Value → State → Prop} {Qc : Array Value → State → Outcome → State → Prop} {free : Addr → Prop} {Ts : List Cond} {own : String} {As rest : List Value} {g : JFrame}
    (S : CallFix p m c cc nL s args Ts own) (hM : Met l y ws rm Pc Qc mc ms free) (cw : vx_CSW R s args own index y bytes maxL ret hh ws rm mc ms n) (hp : PreS s H Pc As)
    (hg : g.method = m) (hn : As.length = n) (hsize : g.locals.size = nL) (hstack : g.stack = As.reverse ++ rest) (hW : 2 * g.monitorRoom + (rest.map fun v => v.category).sum ≤ 8) (hdg : decode cc g.pc = .ok (.invokestatic index, 3)) (hf : cells + mc ≤ R.cells ∧ slots + ms ≤ R.slots) :
    va_Run p l e R s m args below meth c H locs cells slots mc ms g rest (Qc As.toArray) (free) := by
  obtain ⟨⟨hrc, hrs, hfr, hlo, hws, hcw⟩, hcode, hini, hy, hlen, hl, hstt⟩ := cw
  have hK : Back l R p e below s args y 3 8 (PreOf R mc ms Pc) (PostOf Qc mc ms free) := va_backW (hh := hh) (bytes := bytes) (maxL := maxL) (ret := ret) hM hp.1 hrc hrs hfr hlo hws hcw (fun a' U hW => word_at hW (Or.inl (by first | rfl | simp [Cond.onTables, Cond.keeps, Cond.steady])) hini)
  obtain ⟨hx, hb, hml, ho, -⟩ := S
  intro T hT X
  obtain ⟨v, vm₁, ⟨U', l2, c2, s2⟩, hW₁, X', ⟨g', mk, t, L, e1, e2, hq, h1, hL, h2, h3⟩, st⟩ := vx_callSW X hx (hh := hh) (bytes := bytes) (maxL := maxL) (ret := ret) ho hl hstt hini hcode hy hK hg (hsize.trans hml.symm) (argsL := As) (rest := rest) (fun sig h => hn.trans (hlen sig h)) hstack hW (by rw [hb]; exact hdg)
    (fun vm₁ hW₁ => ⟨hf.1, hf.2, hp.2 (T.setVm vm₁) hT hW₁⟩)
  dsimp only [Pt.U, Pt.locs, Pt.cells, Pt.slots] at X' e1 e2 h1 h2 h3 st
  subst h1; subst h2; subst h3
  exact ⟨v, (T.setVm vm₁).calling g' mk As.toArray, t, U', L, hT, X', hL, e1, e2, hq, st⟩
/-- not caught here, past rows that name other classes: it goes on to the caller -/
theorem vx_outP {p : Program} {l : Launch} {e : Env} {R : Room} {s : State} {m : MethodId} {args : Array Value} {below : List Frame} {meth : Method} {c : Code} {H : Heap} {locs : List Loc} {cells slots : Nat} {free : Addr → Prop} {ls : Array Slot} {rest : List Value} {Qc : Array Value → State → Outcome → State → Prop} {XC : String → State → State → Prop}
    {pc : Nat} {own E : String} {ce : Cell} {q : Addr} {mc ms : Nat} (hown : s.vm.findClass own = some m.cls) (hlocks : meth.locks = false)
    (hpass : ∀ z ∈ c.exceptionTable.toList, covers z pc = false ∨ (z.catchType ≠ 0 ∧ ∃ nm : String, (Cond.classLink own z.catchType nm).before args s = true ∧ va_Nc E nm s)) (hcell : H[q]? = some ce) (hv : ce.vm = .none) (hcl : s.vm.findClass E = some ce.cls)
    (hx : ∀ t : State, t.heap = H → s.vm.Alike t.vm → XC E s t) (hf : ∀ z ∈ locs, free z.base) (hc : cells ≤ mc) (hs : slots ≤ ms) :
    vx_W p l e R s m args below meth c H locs cells slots (vx_MQ below Qc XC args s mc ms free) (F0 m pc ls rest) q := by
  intro T hT X
  have hpl : e.platform.magicAccessors = ({} : Platform).magicAccessors := by rw [X.admits.platform]
  obtain ⟨vm', hW', X', st⟩ := X.outThrough hlocks q (g := F0 m pc ls rest) rfl rfl rfl (cell := ce) (by rw [hT]; exact hcell) (by rw [hv]; rfl)
    (by obtain ⟨k9, h9, -⟩ := Vm.findClass_spec hcl; exact ⟨k9, h9⟩) (fun z hz => by
      rcases hpass z hz with h | ⟨hz0, nm, hl1, hn1⟩
      · exact Or.inl h
      · obtain ⟨c6, hc6, hcl6⟩ := Cond.classLink_spec hown hl1 e.platform hpl
        obtain ⟨a8, b8, h1, h2, h3⟩ := hn1
        cases Option.some.inj (h1.symm.trans hcl)
        cases Option.some.inj (h2.symm.trans hc6)
        exact Or.inr ⟨hz0, _, hcl6, h3⟩)
  obtain ⟨g₀, hfr⟩ := X'.frames_eq
  have hcell9 : ((T.setVm vm').setFrames (.throwing q :: below)).heap[q]? = some ce := by
    show T.heap[q]? = some ce
    rw [hT]; exact hcell
  have hend : Ended ((T.setVm vm').setFrames (.throwing q :: below)) below (.threw q) := State.frames_setFrames _ (State.cur_lt_of_frames hfr)
  refine ⟨(T.setVm vm').setFrames (.throwing q :: below), ?_, .threw q, X'.here.running, hend, Or.inr ⟨q, rfl, E, ce, locs, hx _ hT (X'.ends _).1.alike, hcell9, hv, hcl, (X'.ends _).1, (X'.ends _).2.mono hc hs, hf⟩⟩
  rw [X.pushThrowing_eq]
  exact st
/-- a thing of a world lies in the heap -/
theorem vx_lt {D : va_G} {cl : List vw_C} {ws : va_W} {H1 : Heap} (h : va_P D cl ws H1) {k : Nat} {q : Nat × va_E} (hk : ws[k]? = some q) : q.1 < H1.size := (h k q hk).lt
end VXS
/-! ===== END ===== -/
/-! ===== BEGIN methods with a table of their own: called by a name, returning or throwing ===== -/
section VXH
/-! vx_backW, vx_callVX, vx_callSX, vx_callVW, vx_runVW, vx_runVX, vx_runSX, vx_ofWH follow the same proofs as their sisters above (Free/Laws.lean, Shelf42/LK1.lean); vx_outP calls Shelf42/NT130.lean (outThrough). -/
section
variable {l : Launch} {R : Room} {p : Program} {e : Env} {below : List Frame} {s : State} {sargs : Array Value} {y : MethodName} {len W9 : Nat}
theorem vx_backW {ws : List Cond} {rm : Room} {Pc : Array Value → State → Prop} {Qc : Array Value → State → Outcome → State → Prop} {XC : String → State → State → Prop} {mc ms : Nat} {free : Addr → Prop} {bytes : ByteArray} {maxL : Nat} {ret : Option FieldType} {hh : List (Nat × Nat × Nat × Nat)}
    (hM : vx_Met l y ws rm Pc Qc XC mc ms free) (hblind : FrameBlind Pc) (hrc : rm.cells = mc) (hrs : rm.slots = ms)
    (hframes : rm.frames + 1 ≤ R.frames) (hlocals : W9 + (maxL + 11) + rm.locals ≤ R.locals)
    (hws : ∀ w ∈ ws, ∀ a' U, s.WarmedH U.vm → w.before a' U = true) (hcode : Cond.codeWith y bytes maxL ret hh ∈ ws) (hinit : ∀ a' U, s.WarmedH U.vm → (Cond.initialized y.cls).before a' U = true) :
    vx_Back l R p e below s sargs y len W9 (PreOf R mc ms Pc) (PostOf Qc mc ms free) (vx_Post XC mc ms free) := by
  intro m meth c A g ig mk a X hg hsize hdg hW hn hp
  have h1 : (headSpec ws rm).pre.before a A.U = true := atoms_intro fun w hw => hws w hw _ _ X.warmed
  have h2 : (Cond.codeWith y bytes maxL ret hh).before a A.U = true := hws _ hcode _ _ X.warmed
  have h3 : (Cond.initialized y.cls).before a A.U = true := hinit _ _ X.warmed
  have h4 : A.cells + (headSpec ws rm).room.cells ≤ R.cells := by rw [show (headSpec ws rm).room.cells = mc from hrc]; exact hp.1
  have h5 : A.slots + (headSpec ws rm).room.slots ≤ R.slots := by rw [show (headSpec ws rm).room.slots = ms from hrs]; exact hp.2.1
  have hPc : Pc a (A.U.calling g mk a) := hblind _ _ _ _ hp.2.2
  obtain ⟨U, Ls, c0, s0⟩ := A
  dsimp only [Pt.U, Pt.locs, Pt.cells, Pt.slots] at h1 h2 h3 h4 h5 X hn hPc ⊢
  obtain ⟨m9, methY, cY, hn9, hmY, hcY, -, hlY, -⟩ := Cond.codeWith_spec h2
  cases Option.some.inj (hn9.symm.trans hn)
  obtain ⟨kY, hkY, -⟩ := className_of_methodNamed hn
  have hinitY : kY.init = .initialized := Cond.initialized_spec (findClass_of_methodNamed hn) hkY h3
  have h : At U g.method c below := by rw [hg]; exact X.here
  have hlocals9 : W9 + (maxL + 11) + (headSpec ws rm).room.locals ≤ R.locals := hlocals
  have happ : (headSpec ws rm).appliesLoose y e.platform (U.calling g mk a) = true :=
    Spec.appliesLoose_calling (g := g) h hdg hn hkY hinitY
      (X.room_calling (g := g) (R' := (headSpec ws rm).room) hsize hmY hcY hframes (by rw [hlY]; omega) h4 h5) h1
  obtain ⟨mid, hmid⟩ := h.above
  have hfr : (U.setTop g).frames = (.java g :: mid) ++ below := by rw [State.frames_setTop' g h.top, hmid]; rfl
  obtain ⟨o, s₂, hsteps, -, hend, hq⟩ := Steps.callFree hM p X.admits X.cas X.clock (acts := []) hfr happ hPc trivial
  have hq' : vx_Q Qc XC mc ms free a (U.calling g mk a) o s₂ := hq
  rw [State.frames_setTop' g h.top] at hend
  obtain ⟨g₀, hg0⟩ := Option.isSome_iff_exists.mp h.top
  obtain ⟨r, hr⟩ := State.topJava?_eq_some.mp hg0
  have hr' : (({ U with heap := s₂.heap, slotsUsed := s₂.slotsUsed } : State).setVm s₂.vm).frames = .java g₀ :: r := hr
  rcases hq' with ⟨hqc, L, hfe, hL⟩ | ⟨q, rfl, E, ce, L, hx, hce, hcv, hcl, hW₂, hsm, hL⟩
  · obtain ⟨⟨v, rfl⟩, hW₂, e2, q2, q3, q4, q5, q6⟩ := id hfe
    have e3 : s₂ = ({ (U.calling g mk a).setFrames s₂.frames with heap := s₂.heap, slotsUsed := s₂.slotsUsed } : State).setVm s₂.vm := by
      have : s₂ = ({ s₂ with vm := (U.calling g mk a).vm } : State).setVm s₂.vm := rfl
      rw [e2] at this
      exact this
    obtain ⟨c₂, i₂, len₂, hc₂, hd₂, hf₂⟩ := hend
    have hW' : U.WarmedH s₂.vm := hW₂
    have hcc : c₂ = c := by
      have h1 : s₂.code? g.method = U.code? g.method := by
        rw [State.code?_eq, State.code?_eq, hW'.alike.method?]
      exact Option.some.inj (hc₂.symm.trans (h1.trans h.code))
    subst hcc
    have hlen : len₂ = len := by rw [hdg] at hd₂; cases hd₂; rfl
    subst hlen
    have hs₂ : s₂ = (({ U with heap := s₂.heap, slotsUsed := s₂.slotsUsed } : State).setVm s₂.vm).setTop { g with pc := g.pc + len₂, stack := v.toList ++ g.stack } := by
      refine e3.trans ?_
      rw [hf₂, State.calling_eq h.top, State.setFrames_setFrames, State.setTop_of_frames _ hr', hr]
      rfl
    have hsame : U.sameButNew ({ U with heap := s₂.heap, slotsUsed := s₂.slotsUsed } : State) L mc ms := by
      refine ⟨?_, q2, q3, q4, q5, q6⟩
      obtain ⟨t, ht, -⟩ := State.frames_cons hr
      show ({ U with heap := s₂.heap, slotsUsed := s₂.slotsUsed } : State) = { U.setFrames U.frames with heap := s₂.heap, slotsUsed := s₂.slotsUsed }
      rw [State.setFrames_self ht]
    subst hg
    refine Or.inl ⟨v, ⟨(({ U with heap := s₂.heap, slotsUsed := s₂.slotsUsed } : State).setVm s₂.vm), Ls ++ L, c0 + mc, s0 + ms⟩,
      ⟨X.admits, X.cas, X.clock, X.frames, X.room, X.hears, X.method, X.code, (X.here.setHeapUsed s₂.heap s₂.slotsUsed).setVm hW'.alike, X.tail, State.WarmedH.trans X.warmed hW', X.limits, X.bytes, X.same.trans (hsame.setVm s.vm)⟩,
      ⟨g, mk, s₂, L, rfl, rfl, hqc, rfl, hL, rfl, rfl⟩, ?_⟩
    show Steps p.tables e below _ ((({ U with heap := s₂.heap, slotsUsed := s₂.slotsUsed } : State).setVm s₂.vm).setTop { g with pc := g.pc + len₂, stack := v.toList ++ g.stack })
    rw [← hs₂]
    exact hsteps
  · obtain ⟨e2, q2, q3, q4, q5, q6⟩ := id hsm
    have e3 : s₂ = ({ (U.calling g mk a).setFrames s₂.frames with heap := s₂.heap, slotsUsed := s₂.slotsUsed } : State).setVm s₂.vm := by
      have : s₂ = ({ s₂ with vm := (U.calling g mk a).vm } : State).setVm s₂.vm := rfl
      rw [e2] at this
      exact this
    have hf₂ : s₂.frames = .throwing q :: .java g :: U.frames.tail := hend
    have hW' : U.WarmedH s₂.vm := hW₂
    have hs₂ : s₂ = ((({ U with heap := s₂.heap, slotsUsed := s₂.slotsUsed } : State).setVm s₂.vm).setTop g).pushFrame (.throwing q) := by
      refine e3.trans ?_
      rw [hf₂, State.calling_eq h.top, State.setFrames_setFrames, State.pushFrame, State.frames_setTop _ hr', State.setTop_of_frames _ hr', State.setFrames_setFrames, hr]
      rfl
    have hsame : U.sameButNew ({ U with heap := s₂.heap, slotsUsed := s₂.slotsUsed } : State) L mc ms := by
      refine ⟨?_, q2, q3, q4, q5, q6⟩
      obtain ⟨t, ht, -⟩ := State.frames_cons hr
      show ({ U with heap := s₂.heap, slotsUsed := s₂.slotsUsed } : State) = { U.setFrames U.frames with heap := s₂.heap, slotsUsed := s₂.slotsUsed }
      rw [State.setFrames_self ht]
    subst hg
    refine Or.inr ⟨q, ⟨(({ U with heap := s₂.heap, slotsUsed := s₂.slotsUsed } : State).setVm s₂.vm), Ls ++ L, c0 + mc, s0 + ms⟩,
      ⟨X.admits, X.cas, X.clock, X.frames, X.room, X.hears, X.method, X.code, (X.here.setHeapUsed s₂.heap s₂.slotsUsed).setVm hW'.alike, X.tail, State.WarmedH.trans X.warmed hW', X.limits, X.bytes, X.same.trans (hsame.setVm s.vm)⟩,
      ⟨g, mk, s₂, L, E, ce, rfl, rfl, hx, hce, hcv, hcl, rfl, hL, rfl, rfl⟩, ?_⟩
    show Steps p.tables e below _ (((({ U with heap := s₂.heap, slotsUsed := s₂.slotsUsed } : State).setVm s₂.vm).setTop g).pushFrame (.throwing q))
    rw [← hs₂]
    exact hsteps
end
variable {p : Program} {l : Launch} {e : Env} {R : Room} {s : State} {m : MethodId} {args : Array Value} {below : List Frame} {meth : Method} {c : Code} {T : State} {H : Heap} {locs : List Loc} {cells slots : Nat}
theorem vx_callVX (X : Stand p l e R s m args below meth c T locs cells slots) (hexec : p.tables.exec = Jvm.exec) {own C : String} {index : Nat} {y : MethodName} {bytes : ByteArray} {maxL : Nat} {ret : Option FieldType} {hh : List (Nat × Nat × Nat × Nat)}
    (hown : s.vm.findClass own = some m.cls) (hlink : (Cond.methodLink own index y).before args s = true) (hinst : (Cond.instanceMethod y).before args s = true) (hsel : (Cond.selects C y y).before args s = true)
    (hcode : (Cond.codeWith y bytes maxL ret hh).before args s = true) (hy : y.cls ≠ "java/lang/invoke/MethodHandle" ∧ y.cls ≠ "java/lang/invoke/VarHandle")
    {W9 : Nat} {Pre : Pt → Array Value → Prop} {Post : Pt → Array Value → Option Value → Pt → Prop} {PostX : Pt → Array Value → Addr → Pt → Prop} (hK : vx_Back l R p e below s args y 3 W9 Pre Post PostX)
    {b : Addr} {cellB : Cell} (hcell : T.heap[b]? = some cellB) (hobj : cellB.vm.isStatics = false) (hcls : s.vm.findClass C = some cellB.cls)
    {g : JFrame} (hg : g.method = m) (hsize : g.locals.size = c.maxLocals) {argsL rest : List Value} (hlen : ∀ sig, parseMethodDescriptor y.desc = some sig → argsL.length = sig.parameters.length)
    (hstack : g.stack = argsL.reverse ++ .ref b :: rest) (hW : 2 * g.monitorRoom + (rest.map fun v => v.category).sum ≤ W9) (hdg : decode c.code g.pc = .ok (.invokevirtual index, 3))
    (hpre : ∀ vm₁, s.WarmedH vm₁ → Pre ⟨T.setVm vm₁, locs, cells, slots⟩ (Value.ref b :: argsL).toArray) :
    (∃ (v : Option Value) (vm₁ : Vm) (B : Pt), s.WarmedH vm₁ ∧ Stand p l e R s m args below meth c B.U B.locs B.cells B.slots ∧ Post ⟨T.setVm vm₁, locs, cells, slots⟩ (Value.ref b :: argsL).toArray v B ∧
      ∀ target, Steps p.tables e below (B.U.setTop { g with pc := g.pc + 3, stack := v.toList ++ rest }) target → Steps p.tables e below (T.setTop g) target) ∨
    (∃ (q : Addr) (vm₁ : Vm) (B : Pt), s.WarmedH vm₁ ∧ Stand p l e R s m args below meth c B.U B.locs B.cells B.slots ∧ PostX ⟨T.setVm vm₁, locs, cells, slots⟩ (Value.ref b :: argsL).toArray q B ∧
      Steps p.tables e below (T.setTop g) ((B.U.setTop { g with stack := rest }).pushFrame (.throwing q))) := by
  obtain ⟨mk, methM, hnamed, hmethM, hstM, habM⟩ := Cond.instanceMethod_spec hinst
  obtain ⟨m8, methM', cM, hn8, hmethM', -, -, -, -, -, -, hsigM⟩ := Cond.codeWith_spec hcode
  cases Option.some.inj (hn8.symm.trans hnamed)
  cases hmethM.symm.trans hmethM'
  obtain ⟨c2, r2, m2, q1, q2, q3, q4, kP, hkP, hkPi⟩ := Cond.selects_spec hsel
  cases hcls.symm.trans q1
  cases (State.methodFound?_of_named hnamed hy).symm.trans q2
  cases hnamed.symm.trans q3
  have hselP : selectMethod e.platform s.vm cellB.cls mk = .method mk := by rw [Launch.admits_selectMethod X.admits]; exact q4
  obtain ⟨vm₁, X₁, hstep₁⟩ := X.invokevirtual hexec hown hlink hnamed hmethM hstM hkP hkPi hy (a := b) (cell := cellB) hcell
    (fun z h => by rw [h] at hobj; cases hobj) hselP hmethM habM hkP hkPi (g := g) hg (argsL := argsL) (rest := rest) (hlen _ hsigM) hstack hdg
  rcases hK m meth c ⟨T.setVm vm₁, locs, cells, slots⟩ { g with stack := rest } (.invokevirtual index) mk (Value.ref b :: argsL).toArray X₁ hg hsize hdg hW (X₁.named hnamed) (hpre vm₁ X₁.warmed) with ⟨v, B, X', hpost, hsteps⟩ | ⟨q, B, X', hpost, hsteps⟩
  · exact Or.inl ⟨v, vm₁, B, X₁.warmed, X', hpost, fun target h => hstep₁ _ fun acts => by rw [doInvoke_state]; exact hsteps.trans h⟩
  · exact Or.inr ⟨q, vm₁, B, X₁.warmed, X', hpost, hstep₁ _ fun acts => by rw [doInvoke_state]; exact hsteps⟩
theorem vx_callSX (X : Stand p l e R s m args below meth c T locs cells slots) (hexec : p.tables.exec = Jvm.exec) {own : String} {index : Nat} {y : MethodName} {bytes : ByteArray} {maxL : Nat} {ret : Option FieldType} {hh : List (Nat × Nat × Nat × Nat)}
    (hown : s.vm.findClass own = some m.cls) (hlink : (Cond.methodLink own index y).before args s = true) (hstat : (Cond.static y).before args s = true) (hinit : (Cond.initialized y.cls).before args s = true)
    (hcode : (Cond.codeWith y bytes maxL ret hh).before args s = true) (hy : y.cls ≠ "java/lang/invoke/MethodHandle" ∧ y.cls ≠ "java/lang/invoke/VarHandle")
    {W9 : Nat} {Pre : Pt → Array Value → Prop} {Post : Pt → Array Value → Option Value → Pt → Prop} {PostX : Pt → Array Value → Addr → Pt → Prop} (hK : vx_Back l R p e below s args y 3 W9 Pre Post PostX)
    {g : JFrame} (hg : g.method = m) (hsize : g.locals.size = c.maxLocals) {argsL rest : List Value} (hlen : ∀ sig, parseMethodDescriptor y.desc = some sig → argsL.length = sig.parameters.length)
    (hstack : g.stack = argsL.reverse ++ rest) (hW : 2 * g.monitorRoom + (rest.map fun v => v.category).sum ≤ W9) (hdg : decode c.code g.pc = .ok (.invokestatic index, 3))
    (hpre : ∀ vm₁, s.WarmedH vm₁ → Pre ⟨T.setVm vm₁, locs, cells, slots⟩ argsL.toArray) :
    (∃ (v : Option Value) (vm₁ : Vm) (B : Pt), s.WarmedH vm₁ ∧ Stand p l e R s m args below meth c B.U B.locs B.cells B.slots ∧ Post ⟨T.setVm vm₁, locs, cells, slots⟩ argsL.toArray v B ∧
      ∀ target, Steps p.tables e below (B.U.setTop { g with pc := g.pc + 3, stack := v.toList ++ rest }) target → Steps p.tables e below (T.setTop g) target) ∨
    (∃ (q : Addr) (vm₁ : Vm) (B : Pt), s.WarmedH vm₁ ∧ Stand p l e R s m args below meth c B.U B.locs B.cells B.slots ∧ PostX ⟨T.setVm vm₁, locs, cells, slots⟩ argsL.toArray q B ∧
      Steps p.tables e below (T.setTop g) ((B.U.setTop { g with stack := rest }).pushFrame (.throwing q))) := by
  obtain ⟨mk, methM, cM, hnamed, hmethM, -, -, -, -, -, -, hsigM⟩ := Cond.codeWith_spec hcode
  have hstatic : methM.isStatic = true := Cond.static_spec hnamed hmethM hstat
  obtain ⟨kP, hkP, -⟩ := className_of_methodNamed hnamed
  have hinitP : kP.init = .initialized := Cond.initialized_spec (findClass_of_methodNamed hnamed) hkP hinit
  obtain ⟨vm₁, X₁, hstep₁⟩ := X.invokestatic hexec hown hlink hnamed hmethM hstatic hkP hinitP hy (g := g) hg (argsL := argsL) (rest := rest) (hlen _ hsigM) hstack hdg
  rcases hK m meth c ⟨T.setVm vm₁, locs, cells, slots⟩ { g with stack := rest } (.invokestatic index) mk argsL.toArray X₁ hg hsize hdg hW (X₁.named hnamed) (hpre vm₁ X₁.warmed) with ⟨v, B, X', hpost, hsteps⟩ | ⟨q, B, X', hpost, hsteps⟩
  · exact Or.inl ⟨v, vm₁, B, X₁.warmed, X', hpost, fun target h => hstep₁ _ fun acts => by rw [doInvoke_state]; exact hsteps.trans h⟩
  · exact Or.inr ⟨q, vm₁, B, X₁.warmed, X', hpost, hstep₁ _ fun acts => by rw [doInvoke_state]; exact hsteps⟩
theorem vx_callVW (X : Stand p l e R s m args below meth c T locs cells slots) (hexec : p.tables.exec = Jvm.exec) {own C : String} {index : Nat} {y : MethodName} {bytes : ByteArray} {maxL : Nat} {ret : Option FieldType} {hh : List (Nat × Nat × Nat × Nat)}
    (hown : s.vm.findClass own = some m.cls) (hlink : (Cond.methodLink own index y).before args s = true) (hinst : (Cond.instanceMethod y).before args s = true) (hsel : (Cond.selects C y y).before args s = true)
    (hcode : (Cond.codeWith y bytes maxL ret hh).before args s = true) (hy : y.cls ≠ "java/lang/invoke/MethodHandle" ∧ y.cls ≠ "java/lang/invoke/VarHandle")
    {W9 : Nat} {Pre : Pt → Array Value → Prop} {Post : Pt → Array Value → Option Value → Pt → Prop} (hK : Back l R p e below s args y 3 W9 Pre Post)
    {b : Addr} {cellB : Cell} (hcell : T.heap[b]? = some cellB) (hobj : cellB.vm.isStatics = false) (hcls : s.vm.findClass C = some cellB.cls)
    {g : JFrame} (hg : g.method = m) (hsize : g.locals.size = c.maxLocals) {argsL rest : List Value} (hlen : ∀ sig, parseMethodDescriptor y.desc = some sig → argsL.length = sig.parameters.length)
    (hstack : g.stack = argsL.reverse ++ .ref b :: rest) (hW : 2 * g.monitorRoom + (rest.map fun v => v.category).sum ≤ W9) (hdg : decode c.code g.pc = .ok (.invokevirtual index, 3))
    (hpre : ∀ vm₁, s.WarmedH vm₁ → Pre ⟨T.setVm vm₁, locs, cells, slots⟩ (Value.ref b :: argsL).toArray) :
    ∃ (v : Option Value) (vm₁ : Vm) (B : Pt), s.WarmedH vm₁ ∧ Stand p l e R s m args below meth c B.U B.locs B.cells B.slots ∧ Post ⟨T.setVm vm₁, locs, cells, slots⟩ (Value.ref b :: argsL).toArray v B ∧
      ∀ target, Steps p.tables e below (B.U.setTop { g with pc := g.pc + 3, stack := v.toList ++ rest }) target → Steps p.tables e below (T.setTop g) target := by
  obtain ⟨mk, methM, hnamed, hmethM, hstM, habM⟩ := Cond.instanceMethod_spec hinst
  obtain ⟨m8, methM', cM, hn8, hmethM', -, -, -, -, -, -, hsigM⟩ := Cond.codeWith_spec hcode
  cases Option.some.inj (hn8.symm.trans hnamed)
  cases hmethM.symm.trans hmethM'
  obtain ⟨c2, r2, m2, q1, q2, q3, q4, kP, hkP, hkPi⟩ := Cond.selects_spec hsel
  cases hcls.symm.trans q1
  cases (State.methodFound?_of_named hnamed hy).symm.trans q2
  cases hnamed.symm.trans q3
  have hselP : selectMethod e.platform s.vm cellB.cls mk = .method mk := by rw [Launch.admits_selectMethod X.admits]; exact q4
  obtain ⟨vm₁, X₁, hstep₁⟩ := X.invokevirtual hexec hown hlink hnamed hmethM hstM hkP hkPi hy (a := b) (cell := cellB) hcell
    (fun z h => by rw [h] at hobj; cases hobj) hselP hmethM habM hkP hkPi (g := g) hg (argsL := argsL) (rest := rest) (hlen _ hsigM) hstack hdg
  obtain ⟨v, B, X', hpost, hsteps⟩ := hK m meth c ⟨T.setVm vm₁, locs, cells, slots⟩ { g with stack := rest } (.invokevirtual index) mk (Value.ref b :: argsL).toArray X₁ hg hsize hdg hW (X₁.named hnamed) (hpre vm₁ X₁.warmed)
  exact ⟨v, vm₁, B, X₁.warmed, X', hpost, fun target h => hstep₁ _ fun acts => by rw [doInvoke_state]; exact hsteps.trans h⟩
abbrev vx_CVW (R : Room) (s : State) (args : Array Value) (own C : String) (index : Nat) (y : MethodName) (bytes : ByteArray) (maxL : Nat) (ret : Option FieldType) (hh : List (Nat × Nat × Nat × Nat)) (ws : List Cond) (rm : Room) (mc ms n : Nat) : Prop :=
  (rm.cells = mc ∧ rm.slots = ms ∧ rm.frames + 1 ≤ R.frames ∧ 8 + (maxL + 11) + rm.locals ≤ R.locals ∧ (∀ w ∈ ws, ∀ (a' : Array Value) (U : State), s.WarmedH U.vm → w.before a' U = true) ∧ Cond.codeWith y bytes maxL ret hh ∈ ws) ∧
  (Cond.codeWith y bytes maxL ret hh).before args s = true ∧ (Cond.initialized y.cls).before args s = true ∧ (y.cls ≠ "java/lang/invoke/MethodHandle" ∧ y.cls ≠ "java/lang/invoke/VarHandle") ∧
  (∀ sig, parseMethodDescriptor y.desc = some sig → n = sig.parameters.length) ∧ (Cond.methodLink own index y).before args s = true ∧ (Cond.instanceMethod y).before args s = true ∧ (Cond.selects C y y).before args s = true
theorem vx_cwVW {own C : String} {index maxL mc ms : Nat} {y : MethodName} {bytes : ByteArray} {ret : Option FieldType} {hh : List (Nat × Nat × Nat × Nat)} {Ts ws ws' : List Cond} {rm : Room} (n : Nat) (ht : ∀ w ∈ Ts, w.before args s = true) (hT : GoodIn Ts (wsV own index C y ws)) (hw : ws = Cond.codeWith y bytes maxL ret hh :: ws') (hrc : rm.cells = mc) (hrs : rm.slots = ms)
    (hd : y.cls = C ∧ y.cls ≠ "java/lang/invoke/MethodHandle" ∧ y.cls ≠ "java/lang/invoke/VarHandle" ∧ (parseMethodDescriptor y.desc).map (fun d => d.parameters.length) = some n) (hR : rm.frames + 1 ≤ R.frames ∧ 8 + (maxL + 11) + rm.locals ≤ R.locals) :
    vx_CVW R s args own C index y bytes maxL ret hh ws rm mc ms n := by
  obtain ⟨hC, hd⟩ := hd
  subst hC
  have ok : ∀ w ∈ wsV own index y.cls y ws, w.before args s = true := fun w h => ht w (hT w h).1
  have hG : GoodIn Ts ws := fun w h => hT w (by unfold wsV; exact List.mem_append_right _ h)
  have hc : Cond.codeWith y bytes maxL ret hh ∈ ws := by rw [hw]; exact List.mem_cons_self
  refine ⟨⟨hrc, hrs, hR.1, hR.2, pay_in ht hG, hc⟩, ht _ (hG _ hc).1, ok _ (by simp [wsV]), ⟨hd.1, hd.2.1⟩, fun sig h => ?_, ok _ (by simp [wsV]), ok _ (by simp [wsV]), ok _ (by simp [wsV])⟩
  have h2 := hd.2.2
  rw [h] at h2
  exact (Option.some.inj h2).symm
theorem vx_runVW {y : MethodName} {bytes cc : ByteArray} {maxL nL mc ms n index : Nat} {ret : Option FieldType} {hh : List (Nat × Nat × Nat × Nat)} {ws : List Cond} {rm : Room} {Pc : Array Value → State → Prop} {Qc : Array Value → State → Outcome → State → Prop} {free : Addr → Prop} {Ts : List Cond} {own C : String} {b : Addr} {As rest : List Value} {g : JFrame}
    (S : CallFix p m c cc nL s args Ts own) (hM : Met l y ws rm Pc Qc mc ms free) (cw : vx_CVW R s args own C index y bytes maxL ret hh ws rm mc ms n) (hp : PreV s H C b Pc As)
    (hg : g.method = m) (hn : As.length = n) (hsize : g.locals.size = nL) (hstack : g.stack = As.reverse ++ .ref b :: rest) (hW : 2 * g.monitorRoom + (rest.map fun v => v.category).sum ≤ 8) (hdg : decode cc g.pc = .ok (.invokevirtual index, 3)) (hf : cells + mc ≤ R.cells ∧ slots + ms ≤ R.slots) :
    va_Run p l e R s m args below meth c H locs cells slots mc ms g rest (Qc (Value.ref b :: As).toArray) free := by
  obtain ⟨⟨hrc, hrs, hfr, hlo, hws, hcw⟩, hcode, hini, hy, hlen, hl, hin, hse⟩ := cw
  have hK : Back l R p e below s args y 3 8 (PreOf R mc ms Pc) (PostOf Qc mc ms free) := va_backW (hh := hh) (bytes := bytes) (maxL := maxL) (ret := ret) hM hp.1 hrc hrs hfr hlo hws hcw (fun a' U hW => word_at hW (Or.inl (by first | rfl | simp [Cond.onTables, Cond.keeps, Cond.steady])) hini)
  obtain ⟨hx, hb, hml, ho, -⟩ := S
  obtain ⟨-, ⟨cellB, hcB, hoB, hclB⟩, hPc⟩ := hp
  intro T hT X
  obtain ⟨v, vm₁, ⟨U', l2, c2, s2⟩, hW₁, X', ⟨g', mk, t, L, e1, e2, hq, h1, hL, h2, h3⟩, st⟩ := vx_callVW X hx (C := C) (hh := hh) (bytes := bytes) (maxL := maxL) (ret := ret) ho hl hin hse hcode hy hK (by rw [hT]; exact hcB) hoB hclB hg (hsize.trans hml.symm) (argsL := As) (rest := rest) (fun sig h => hn.trans (hlen sig h)) hstack hW (by rw [hb]; exact hdg)
    (fun vm₁ hW₁ => ⟨hf.1, hf.2, hPc (T.setVm vm₁) hT hW₁⟩)
  dsimp only [Pt.U, Pt.locs, Pt.cells, Pt.slots] at X' e1 e2 h1 h2 h3 st
  subst h1; subst h2; subst h3
  exact ⟨v, (T.setVm vm₁).calling g' mk (Value.ref b :: As).toArray, t, U', L, hT, X', hL, e1, e2, hq, st⟩
section
variable {y : MethodName} {bytes cc : ByteArray} {maxL nL mc ms n index : Nat} {ret : Option FieldType} {ws : List Cond} {rm : Room} {Pc : Array Value → State → Prop} {Qc : Array Value → State → Outcome → State → Prop} {XC : String → State → State → Prop} {free : Addr → Prop} {Ts : List Cond} {own C : String} {b : Addr} {As rest : List Value} {g : JFrame}
theorem vx_runVX {hh : List (Nat × Nat × Nat × Nat)} (S : CallFix p m c cc nL s args Ts own) (hM : vx_Met l y ws rm Pc Qc XC mc ms free) (cw : vx_CVW R s args own C index y bytes maxL ret hh ws rm mc ms n) (hp : PreV s H C b Pc As)
    (hg : g.method = m) (hn : As.length = n) (hsize : g.locals.size = nL) (hstack : g.stack = As.reverse ++ .ref b :: rest) (hW : 2 * g.monitorRoom + (rest.map fun v => v.category).sum ≤ 8) (hdg : decode cc g.pc = .ok (.invokevirtual index, 3)) (hf : cells + mc ≤ R.cells ∧ slots + ms ≤ R.slots) :
    vx_Run p l e R s m args below meth c H locs cells slots mc ms g rest (Qc (Value.ref b :: As).toArray) XC free := by
  obtain ⟨⟨hrc, hrs, hfr, hlo, hws, hcw⟩, hcode, hini, hy, hlen, hl, hin, hse⟩ := cw
  have hK : vx_Back l R p e below s args y 3 8 (PreOf R mc ms Pc) (PostOf Qc mc ms free) (vx_Post XC mc ms free) := vx_backW (hh := hh) (bytes := bytes) (maxL := maxL) (ret := ret) hM hp.1 hrc hrs hfr hlo hws hcw (fun a' U hW => word_at hW (Or.inl (by first | rfl | simp [Cond.onTables, Cond.keeps, Cond.steady])) hini)
  obtain ⟨hx, hb, hml, ho, -⟩ := S
  obtain ⟨-, ⟨cellB, hcB, hoB, hclB⟩, hPc⟩ := hp
  intro T hT X
  rcases vx_callVX X hx (C := C) (hh := hh) (bytes := bytes) (maxL := maxL) (ret := ret) ho hl hin hse hcode hy hK (by rw [hT]; exact hcB) hoB hclB hg (hsize.trans hml.symm) (argsL := As) (rest := rest) (fun sig h => hn.trans (hlen sig h)) hstack hW (by rw [hb]; exact hdg)
    (fun vm₁ hW₁ => ⟨hf.1, hf.2, hPc (T.setVm vm₁) hT hW₁⟩) with ⟨v, vm₁, ⟨U', l2, c2, s2⟩, hW₁, X', ⟨g', mk, t, L, e1, e2, hq, h1, hL, h2, h3⟩, st⟩ | ⟨q, vm₁, ⟨U', l2, c2, s2⟩, hW₁, X', ⟨g', mk, t, L, E, ce, e1, e2, hq, hce, hcv, hcl, h1, hL, h2, h3⟩, st⟩
  · dsimp only [Pt.U, Pt.locs, Pt.cells, Pt.slots] at X' e1 e2 h1 h2 h3 st
    subst h1; subst h2; subst h3
    exact Or.inl ⟨v, (T.setVm vm₁).calling g' mk (Value.ref b :: As).toArray, t, U', L, hT, X', hL, e1, e2, hq, st⟩
  · dsimp only [Pt.U, Pt.locs, Pt.cells, Pt.slots] at X' e1 e2 h1 h2 h3 st hcl
    subst h1; subst h2; subst h3
    exact Or.inr ⟨q, (T.setVm vm₁).calling g' mk (Value.ref b :: As).toArray, t, U', L, E, ce, hT, X', hL, e1, e2, hq, hce, hcv, vx_cls hW₁ hcl, st⟩
theorem vx_runSX {hh : List (Nat × Nat × Nat × Nat)} (S : CallFix p m c cc nL s args Ts own) (hM : vx_Met l y ws rm Pc Qc XC mc ms free) (cw : vx_CSW R s args own index y bytes maxL ret hh ws rm mc ms n) (hp : PreS s H Pc As)
    (hg : g.method = m) (hn : As.length = n) (hsize : g.locals.size = nL) (hstack : g.stack = As.reverse ++ rest) (hW : 2 * g.monitorRoom + (rest.map fun v => v.category).sum ≤ 8) (hdg : decode cc g.pc = .ok (.invokestatic index, 3)) (hf : cells + mc ≤ R.cells ∧ slots + ms ≤ R.slots) :
    vx_Run p l e R s m args below meth c H locs cells slots mc ms g rest (Qc As.toArray) XC free := by
  obtain ⟨⟨hrc, hrs, hfr, hlo, hws, hcw⟩, hcode, hini, hy, hlen, hl, hstt⟩ := cw
  have hK : vx_Back l R p e below s args y 3 8 (PreOf R mc ms Pc) (PostOf Qc mc ms free) (vx_Post XC mc ms free) := vx_backW (hh := hh) (bytes := bytes) (maxL := maxL) (ret := ret) hM hp.1 hrc hrs hfr hlo hws hcw (fun a' U hW => word_at hW (Or.inl (by first | rfl | simp [Cond.onTables, Cond.keeps, Cond.steady])) hini)
  obtain ⟨hx, hb, hml, ho, -⟩ := S
  intro T hT X
  rcases vx_callSX X hx (hh := hh) (bytes := bytes) (maxL := maxL) (ret := ret) ho hl hstt hini hcode hy hK hg (hsize.trans hml.symm) (argsL := As) (rest := rest) (fun sig h => hn.trans (hlen sig h)) hstack hW (by rw [hb]; exact hdg)
    (fun vm₁ hW₁ => ⟨hf.1, hf.2, hp.2 (T.setVm vm₁) hT hW₁⟩) with ⟨v, vm₁, ⟨U', l2, c2, s2⟩, hW₁, X', ⟨g', mk, t, L, e1, e2, hq, h1, hL, h2, h3⟩, st⟩ | ⟨q, vm₁, ⟨U', l2, c2, s2⟩, hW₁, X', ⟨g', mk, t, L, E, ce, e1, e2, hq, hce, hcv, hcl, h1, hL, h2, h3⟩, st⟩
  · dsimp only [Pt.U, Pt.locs, Pt.cells, Pt.slots] at X' e1 e2 h1 h2 h3 st
    subst h1; subst h2; subst h3
    exact Or.inl ⟨v, (T.setVm vm₁).calling g' mk As.toArray, t, U', L, hT, X', hL, e1, e2, hq, st⟩
  · dsimp only [Pt.U, Pt.locs, Pt.cells, Pt.slots] at X' e1 e2 h1 h2 h3 st hcl
    subst h1; subst h2; subst h3
    exact Or.inr ⟨q, (T.setVm vm₁).calling g' mk As.toArray, t, U', L, E, ce, hT, X', hL, e1, e2, hq, hce, hcv, vx_cls hW₁ hcl, st⟩
end
end VXH
theorem vx_ofWH {l : Launch} {y : MethodName} {ws ws' : List Cond} {rm : Room} {Pc : Array Value → State → Prop} {Qc : Array Value → State → Outcome → State → Prop} {XC : String → State → State → Prop} {mc ms : Nat} {free : Addr → Prop} {cc : ByteArray} {maxL : Nat} {ret : Option FieldType} {hh : List (Nat × Nat × Nat × Nat)}
    (hy : plainName y.cls = true) (hw : ws = Cond.codeWith y cc maxL ret hh :: ws')
    (body : ∀ p e s m args below meth c s₁, BodyLoose p l y (headSpec ws rm) cc maxL ret e s m args below meth c s₁ → c.maxLocals = maxL → Pc args s →
      W p l e (headSpec ws rm).room s m args below meth c s.heap [] 0 0 (vx_MQ below Qc XC args s mc ms free) (entryFrame m args maxL)) : vx_Met l y ws rm Pc Qc XC mc ms free := by
  refine MetFree.of_bodyS (code := cc) (maxLocals := maxL) (ret := ret) hy ?_ ?_
  · intro args s m h hn
    obtain ⟨m9, meth, c, hn9, h1, h2, h3, h4, -, h5, h6, -⟩ := Cond.codeWith_spec (atoms_spec (ws := ws) h _ (by rw [hw]; exact List.mem_cons_self))
    cases hn.symm.trans hn9
    exact ⟨meth, c, h1, h2, h3, h4, h5, h6⟩
  · intro p e s m args below meth c s₁ B hml hP _
    have hh0 : s₁.heap = s.heap := by rw [B.state]; rfl
    obtain ⟨t, a1, o, b1, b2, b3⟩ := body p e s m args below meth c s₁ B hml hP s₁ hh0 (Stand.of_body B)
    exact ⟨t, o, a1, b1, b2, b3⟩
/-! ===== END ===== -/
/-! ===== BEGIN what the machine throws by itself, no traces kept ===== -/
section VXM
set_option maxHeartbeats 1000000 in
/-- the machine throws cls with the message text, no traces kept: from its note over the frame g to 'throwing' over the same frame (follows the proofs of Stand.vmThrowsMessage, Shelf/KitTracedVmS.lean, and Stand.throwsMessageColdBareV, StandMessageColdV.lean, without the step out of the frame) -/
theorem vx_vmAt {p : Program} {l : Launch} {e : Env} {R : Room} {s : State} {m₀ : MethodId} {args : Array Value} {below : List Frame} {meth : Method} {c : Code} {W : State} {locs : List Loc} {cells slots : Nat}
    (X : Stand p l e R s m₀ args below meth c W locs cells slots) (hexec : p.tables.exec = Jvm.exec) (htr : e.platform.stackTraces = false) {cls : String} {names : List String} {text : String}
    (hcls : Bundle.fit cls = true) (hnames : ∀ n ∈ names, Bundle.fit n = true) (hsoe : (cls == "java/lang/StackOverflowError") = false) (hoom : (cls == "java/lang/OutOfMemoryError") = false)
    (h : ∀ a ∈ Bundle.messageArmAtoms cls names, a.before args s = true)
    (hlocs : ∀ x ∈ locs, ∀ cell, s.heap[x.base]? = some cell → cell.vm.isStatics = false)
    (htext : (text == notModelled) = false) (hlimit : ¬ (stringBytes (stringToUtf16 text)).size > e.platform.arrayLengthLimit) (hheap : ¬ (stringBytes (stringToUtf16 text)).size * componentBytes .byte > e.platform.maxHeapBytes)
    {g : JFrame} (hg : g.method = m₀) (hsize : g.locals.size = c.maxLocals)
    (hRframes : names.length + 4 < R.frames) (hRlocals : 2 * g.monitorRoom + (g.stack.map fun v => v.category).sum + 10240 ≤ R.locals) (hshort : 13 * names.length + 55 ≤ 10240)
    (hRcells : cells + 3 ≤ R.cells) (hRslots : slots + ((stringBytes (stringToUtf16 text)).size + 4 + 6) ≤ R.slots) (hlocks : meth.locks = false) :
    ∃ (S : State) (q : Addr) (ce : Cell), (∀ target, Steps p.tables e below ((S.setTop g).pushFrame (.throwing q)) target → Steps p.tables e below ((W.setTop g).pushFrame (.throwNew cls (some text) none)) target) ∧
      Stand p l e R s m₀ args below meth c S locs (cells + 3) (slots + ((stringBytes (stringToUtf16 text)).size + 4 + 6)) ∧ S.heap[q]? = some ce ∧ s.vm.findClass cls = some ce.cls ∧ ce.vm = .none := by
  have howns : e.platform.frameOwnsMonitors = true := by rw [X.admits.platform]
  have hfin : e.platform.finalization = false := by rw [X.admits.platform]
  have hpl : e.platform.magicAccessors = ({} : Platform).magicAccessors := by rw [X.admits.platform]
  have a : ∀ x, x ∈ Bundle.messageArmAtoms cls names → x.holds args s none s [] = true := fun x hx => h x hx
  obtain ⟨T, Z0, L, -, Y⟩ := ThrowableC.of_atoms (args := args) howns hfin hpl (fun x hx => h x (by simp [Bundle.messageArmAtoms, hx]))
  obtain ⟨Z, M, LZ, LM, hnZ⟩ := Init0T.ofS_atoms (args := args) hpl L Y (fun x hx => h x (by simp [Bundle.messageArmAtoms, hx]))
  obtain ⟨P1, Ps, hlen, L1, hL, hP1m, hlink1, hlink⟩ := Bundle.chainS (args := args) hpl hnZ names cls hcls hnames (fun x hx => h x (by simp [Bundle.messageArmAtoms, hx]))
  obtain ⟨Zs, LZs, hn4, hfitv, hfitc⟩ := StringT.of_atoms (args := args) (fun x hx => h x (by simp [Bundle.messageArmAtoms, hx]))
  have hfound : s.vm.findClass cls = some P1.m.cls := findClass_of_methodNamed hP1m
  obtain ⟨c1, kX, hc1, hk, hord, -, -, hn6⟩ := Cond.instantiable_spec (a (.instantiable cls 6) (by simp [Bundle.messageArmAtoms]))
  cases Option.some.inj (hc1.symm.trans hfound)
  have hinit := Cond.initialized_spec hfound hk (a (.initialized cls) (by simp [Bundle.messageArmAtoms]))
  have hctor : kX.findMethod "<init>" "(Ljava/lang/String;)V" = some P1.m.idx := findMethod_of_methodNamed hP1m hk
  have hsel0 : selectMethod e.platform s.vm P1.m.cls T.fill0 = .method T.fill0 := by
    obtain ⟨c2, r2, m2, q1, q2, q3, q4, -⟩ := Cond.selects_spec (a (.selects cls Bundle.tFill0 Bundle.tFill0) (by simp [Bundle.messageArmAtoms]))
    cases Option.some.inj (q1.symm.trans hfound)
    cases Option.some.inj (q2.symm.trans (State.methodFound?_of_named Y.fill0 (by decide)))
    cases Option.some.inj (q3.symm.trans Y.fill0)
    rw [Launch.admits_selectMethod X.admits]; exact q4
  have hselF : selectMethod e.platform s.vm P1.m.cls T.fill = .method T.fill := by
    obtain ⟨c2, r2, m2, q1, q2, q3, q4, -⟩ := Cond.selects_spec (a (.selects cls Bundle.tFill Bundle.tFill) (by simp [Bundle.messageArmAtoms]))
    cases Option.some.inj (q1.symm.trans hfound)
    cases Option.some.inj (q2.symm.trans (State.methodFound?_of_named Y.fill (by decide)))
    cases Option.some.inj (q3.symm.trans Y.fill)
    rw [Launch.admits_selectMethod X.admits]; exact q4
  obtain ⟨cellS0, hcS0, hiss⟩ := Y.statics
  obtain ⟨u0, hu0⟩ := Cond.staticRefV Y.unassigned L.unassignedStatic L.statics hcS0 hiss (a (.isRef (.static Bundle.tN "UNASSIGNED_STACK" Bundle.steD)) (by simp [Bundle.messageArmAtoms]))
  obtain ⟨sen, hsen⟩ := Cond.staticRefV Y.sentinel L.sentinelStatic L.statics hcS0 hiss (a (.isRef (.static Bundle.tN "SUPPRESSED_SENTINEL" Bundle.listD)) (by simp [Bundle.messageArmAtoms]))
  obtain ⟨ci198, i198, fB, hk198, hg198, ha198, hsB, -, hnB, htB, hffB⟩ := Cond.ownField (t := .object "java/lang/Object") Y.found L.cls (by decide +kernel) (a (.fieldLink Bundle.tN 198 Bundle.tN "backtrace" "Ljava/lang/Object;") (by simp [Bundle.messageArmAtoms])) (a (.lays Bundle.tN Bundle.tN "backtrace" "Ljava/lang/Object;") (by simp [Bundle.messageArmAtoms])) e.platform hpl
  obtain ⟨cellS, hcS', heS, -, hkeep⟩ := X.same.2.2.2.2.2 T.aS cellS0 hcS0
  have hcellS : W.heap[T.aS]? = some cellS := hcS'
  have hout' : ∀ i, (⟨T.aS, i⟩ : Loc) ∉ locs := fun i hmem => by
    have := hlocs _ hmem cellS0 hcS0
    rw [hiss] at this; cases this
  have hknownS : cellS.vm ≠ .unknown := by
    rw [heS]; intro hu
    rw [show cellS0.vm = .unknown from hu] at hiss
    cases hiss
  have hvU : cellS.slots[T.fUnassigned.slot]? = some u0.v := by rw [hkeep _ (hout' _)]; exact hu0
  have hvSen : cellS.slots[T.fSentinel.slot]? = some sen.v := by rw [hkeep _ (hout' _)]; exact hsen
  obtain ⟨iM, hffM⟩ := Y.msg
  obtain ⟨tyC, dC, hdC, hdnC⟩ := Cond.laysAt hfound hk Y.cause (a (.lays cls Bundle.tN "cause" "Ljava/lang/Throwable;") (by simp [Bundle.messageArmAtoms]))
  obtain ⟨tyS, dS, hdS, hdnS⟩ := Cond.laysAt hfound hk Y.stack (a (.lays cls Bundle.tN "stackTrace" Bundle.steD) (by simp [Bundle.messageArmAtoms]))
  obtain ⟨tyP, dP, hdP, hdnP⟩ := Cond.laysAt hfound hk Y.supp (a (.lays cls Bundle.tN "suppressedExceptions" Bundle.listD) (by simp [Bundle.messageArmAtoms]))
  obtain ⟨tyM, dM, hdM, hdnM⟩ := Cond.laysAt hfound hk hffM (a (.lays cls Bundle.tN "detailMessage" "Ljava/lang/String;") (by simp [Bundle.messageArmAtoms]))
  obtain ⟨tyB, dB, hdB, hdnB⟩ := Cond.laysAt hfound hk hffB (a (.lays cls Bundle.tN "backtrace" "Ljava/lang/Object;") (by simp [Bundle.messageArmAtoms]))
  have bC := Cond.laysApart hdB hdC hdnB hdnC (by rw [hnB, Y.causeName]; decide)
  have bS := Cond.laysApart hdB hdS hdnB hdnS (by rw [hnB, Y.stackName]; decide)
  have bP := Cond.laysApart hdB hdP hdnB hdnP (by rw [hnB, Y.suppName]; decide)
  have hbk : ((preparedCellV T.toThrowableT (freshCell P1.m.cls kX) (W.heap.size + 2) u0 sen).withEntry W.cur).slots[fB.slot]? = some .null := by
    have := fresh_default (c := P1.m.cls) tyB
    rw [htB] at this
    simpa [preparedCellV, Cell.setSlot, Cell.withEntry, Array.getElem?_setIfInBounds, bC, bS, bP, bC.symm, bS.symm, bP.symm, defaultValue] using this
  have tkC := Takes.of_laid (v := .ref (W.heap.size + 2)) hk hord tyC (by rw [Y.causeType]; rfl)
  have tkS := Takes.of_laid (v := u0.v) hk hord tyS (by rw [Y.stackType]; exact fits_refV_array _ u0)
  have tkP := Takes.of_laid (v := sen.v) hk hord tyP (by rw [Y.suppType]; exact fits_refV_object _ sen)
  have tkM := Takes.of_laid (v := .ref (W.heap.size + 1)) hk hord tyM (by rw [Y.msgType]; rfl)
  have hskip : SkipFacts T e.platform s (fun u => u) u0 ((preparedCellV T.toThrowableT (freshCell P1.m.cls kX) (W.heap.size + 2) u0 sen).withEntry W.cur) := ⟨{ ci198 := ci198, i198 := i198, fBack := fB }, ⟨hk198, hg198, ha198, hsB⟩, hbk, fun _ _ => rfl⟩
  have h0 : At W g.method c below := by rw [hg]; exact X.here
  obtain ⟨hbeyond, hfreeW⟩ := X.vmMayThrow hsize (.throwNew cls (some text) none) (fun f hf => by cases hf) rfl hRlocals
  have hfr' : W.frames.length + Ps.length + 4 < (e.platform.stackLimits W.me).1 := by have := X.framesAbove hRframes; omega
  have hwd' : (stackUse (.java g :: W.frames.tail)).2 + 13 * Ps.length + 55 ≤ (e.platform.stackLimits W.me).2 := by have := X.stackAbove hsize (K := 13 * Ps.length + 55) (by omega); omega
  have hslots : W.slotsUsed + (stringBytes (stringToUtf16 text)).size + Zs.kS.instanceTypes.size + kX.instanceTypes.size ≤ e.platform.maxSlots := by
    have := X.slotsAbove hRslots
    rw [hn4, hn6]
    omega
  obtain ⟨vm', hW', st⟩ := Steps.vmThrowsMessageColdByV p (s₀ := s) (S := W) (g := g) h0 hexec T L Z LZ M LM X.warmed (t := W.cur) rfl Zs LZs P1 L1 Ps hL hlink1 hlink hsoe hoom hfound hk hinit hord hctor
    (Launch.admits_hotImplicitExceptions X.admits) hbeyond hfreeW htext hlimit hheap (X.cellsAbove hRcells) hslots (hfitv _) (hfitc _)
    (Nn := fun u => u) heapOnly_id (fun _ _ => rfl) (fun _ => rfl) (fun u x y => setCell_twice _ _ _ _) (fun _ => Nat.le_refl _) (cN := ((preparedCellV T.toThrowableT (freshCell P1.m.cls kX) (W.heap.size + 2) u0 sen).withEntry W.cur))
    hsel0 hcellS hknownS hvU tkS (fun _ hu => hu) (fun _ hu => hu) rfl rfl rfl (by simp [preparedCellV, Cell.setSlot, Cell.withEntry]) hskip (fun _ _ hA hW _ hroom _ hrest => L.nativeOff p htr hA hW hroom hrest) hselF hvSen tkC tkP tkM Y.objLocals rfl hfr' hwd'
  rw [plainBareV_eq T.toThrowableT (W.heap.size + 2) u0 sen (.ref (W.heap.size + 1)) W.cur rfl rfl] at st
  obtain ⟨-, -, w3, w4, -, -, -⟩ := withThrown_facts e.platform W Zs text P1.m.cls kX
  have X3 := ((X.pushed (bytesOf Zs.cB (stringToUtf16 text))).pushed (stringAt Zs.cS Zs.kS Zs.fv Zs.fc (stringToUtf16 text) W.heap.size)).pushed (freshCell P1.m.cls kX)
  rw [← withString_eq] at X3
  have X4 := X3.noted hW'
  have ha : (W.heap.size + 2) < ((withThrown W Zs text P1.m.cls kX).setVm vm').heap.size := by show _ < (withThrown W Zs text P1.m.cls kX).heap.size; rw [w3]; omega
  have hcell : ((withThrown W Zs text P1.m.cls kX).setVm vm').heap[(W.heap.size + 2)]? = some (freshCell P1.m.cls kX) := w4
  have X5 := ((((X4.stored hcell T.fCause.slot (.ref (W.heap.size + 2))).storedAgain ha T.fStack.slot u0.v).storedAgain ha T.fSupp.slot sen.v).storedAgain ha T.fStack.slot u0.v).storedAgain ha T.fMsg.slot (.ref (W.heap.size + 1))
  obtain ⟨g₁, hfrM⟩ := X5.frames_eq
  have hU : ((((withThrown W Zs text P1.m.cls kX).setVm vm').setCell (W.heap.size + 2) (plainBareV T.toThrowableT (freshCell P1.m.cls kX) (W.heap.size + 2) u0 sen (.ref (W.heap.size + 1)))).setTop g).pushFrame (.throwing (W.heap.size + 2)) = (((withThrown W Zs text P1.m.cls kX).setVm vm').setCell (W.heap.size + 2) (plainBareV T.toThrowableT (freshCell P1.m.cls kX) (W.heap.size + 2) u0 sen (.ref (W.heap.size + 1)))).setFrames (.throwing (W.heap.size + 2) :: .java g :: below) := by
    rw [State.pushFrame, State.frames_setTop _ hfrM, State.setTop_of_frames _ hfrM, State.setFrames_setFrames]
  have b1 : (bytesOf Zs.cB (stringToUtf16 text)).slots.size = (stringBytes (stringToUtf16 text)).size := by
    rw [(Cell.writeAll_facts _ _).2.2]; simp [bytes0]
  have b2 : (stringAt Zs.cS Zs.kS Zs.fv Zs.fc (stringToUtf16 text) W.heap.size).slots.size = 4 := by simp [string0, Cell.setSlot, hn4]
  have b3 : (freshCell P1.m.cls kX).slots.size = 6 := by simp [hn6]
  rw [b1, b2, b3] at X5
  have e9 : slots + (stringBytes (stringToUtf16 text)).size + 4 + 6 = slots + ((stringBytes (stringToUtf16 text)).size + 4 + 6) := by omega
  rw [e9] at X5
  simp only [List.append_assoc, List.cons_append, List.nil_append] at X5
  refine ⟨((withThrown W Zs text P1.m.cls kX).setVm vm').setCell (W.heap.size + 2) (plainBareV T.toThrowableT (freshCell P1.m.cls kX) (W.heap.size + 2) u0 sen (.ref (W.heap.size + 1))), W.heap.size + 2, _, fun target ht => st _ (by rw [X.tail, ← hU]; exact ht),
    X5.forget (fun y hy => ?_), heapAt_setCell_self _ ha, hfound, rfl⟩
  simp only [List.mem_cons, List.not_mem_nil, or_false] at hy
  have hge : s.heap.size ≤ W.heap.size := X.same.2.1
  rcases hy with rfl | rfl | rfl | rfl | rfl <;> exact Nat.le_trans hge (Nat.le_add_right _ 2)
set_option maxHeartbeats 1000000 in
/-- the machine throws NullPointerException, no traces kept: from its note over the frame g to 'throwing' over the same frame (follows the proof of Stand.vmThrowsNpe, Shelf42/KT2.lean; throwsNpeColdBareVAt, Shelf42/NT91.lean, called) -/
theorem vx_npeAt {p : Program} {l : Launch} {e : Env} {R : Room} {s : State} {m₀ : MethodId} {args : Array Value} {below : List Frame} {meth : Method} {c : Code} {W : State} {locs : List Loc} {cells slots : Nat}
    (X : Stand p l e R s m₀ args below meth c W locs cells slots) (hexec : p.tables.exec = Jvm.exec) (htr : e.platform.stackTraces = false) {n : Nat}
    (h : ∀ a ∈ Bundle.npeArmAtoms n, a.before args s = true)
    (hlocs : ∀ x ∈ locs, ∀ cell, s.heap[x.base]? = some cell → cell.vm.isStatics = false)
    {g : JFrame} (hg : g.method = m₀) (hsize : g.locals.size = c.maxLocals)
    (hRframes : 7 < R.frames) (hRlocals : 2 * g.monitorRoom + (g.stack.map fun v => v.category).sum + 10240 ≤ R.locals)
    (hRcells : cells + 1 ≤ R.cells) (hRslots : slots + n ≤ R.slots) (hlocks : meth.locks = false) :
    ∃ (S : State) (q : Addr) (ce : Cell), (∀ target, Steps p.tables e below ((S.setTop g).pushFrame (.throwing q)) target → Steps p.tables e below ((W.setTop g).pushFrame (.throwNew "java/lang/NullPointerException" none none)) target) ∧
      Stand p l e R s m₀ args below meth c S locs (cells + 1) (slots + n) ∧ S.heap[q]? = some ce ∧ s.vm.findClass "java/lang/NullPointerException" = some ce.cls ∧ ce.vm = .none := by
  have howns : e.platform.frameOwnsMonitors = true := by rw [X.admits.platform]
  have hfin : e.platform.finalization = false := by rw [X.admits.platform]
  have hpl : e.platform.magicAccessors = ({} : Platform).magicAccessors := by rw [X.admits.platform]
  have hpl2 : e.platform.arrayCloneIsPublic = true := by rw [X.admits.platform]
  have a' : ∀ x, x ∈ Bundle.npeArmAtoms n → x.holds args s none s [] = true := fun x hx => h x hx
  obtain ⟨T, Z, L, LZ, Y⟩ := ThrowableC.of_atoms (args := args) howns hfin hpl (fun x hx => h x (by simp [Bundle.npeArmAtoms, hx]))
  obtain ⟨N, LN, hcN, hnNF, hordN, hffS⟩ := NpeC.of_atoms (args := args) hpl hpl2 L Y (fun x hx => h x (by simp [Bundle.npeArmAtoms, hx]))
  obtain ⟨P1, L1, hP1m, hP1s⟩ := PassC.of_atoms (args := args) (s := s) hpl (X := Bundle.nN) (Y := Bundle.rN) (by decide) (by decide) LibCode.NullPointerException.Init0.at_0 LibCode.NullPointerException.Init0.at_1 LibCode.NullPointerException.Init0.at_4 (fun x hx => h x (by simp [Bundle.npeArmAtoms, hx]))
  obtain ⟨PR, LR, hPRm, hPRs⟩ := PassC.of_atoms (args := args) (s := s) hpl (X := Bundle.rN) (Y := Bundle.eN) (by decide) (by decide) LibCode.RuntimeException.Init0.at_0 LibCode.RuntimeException.Init0.at_1 LibCode.RuntimeException.Init0.at_4 (fun x hx => h x (by simp [Bundle.npeArmAtoms, hx]))
  obtain ⟨PE, LEx, hPEm, hPEs⟩ := PassC.of_atoms (args := args) (s := s) hpl (X := Bundle.eN) (Y := Bundle.tN) (by decide) (by decide) LibCode.Exception.Init0.at_0 LibCode.Exception.Init0.at_1 LibCode.Exception.Init0.at_4 (fun x hx => h x (by simp [Bundle.npeArmAtoms, hx]))
  have hfound : s.vm.findClass Bundle.nN = some P1.m.cls := findClass_of_methodNamed hP1m
  have ecls : N.cN = P1.m.cls := Option.some.inj (hcN.symm.trans hfound)
  have hk : s.vm.classes[P1.m.cls]? = some N.kN := by rw [← ecls]; exact LN.cls
  have hinit := Cond.initialized_spec hfound hk (a' (.initialized Bundle.nN) (by simp [Bundle.npeArmAtoms]))
  have hctor : N.kN.findMethod "<init>" "()V" = some P1.m.idx := findMethod_of_methodNamed hP1m hk
  obtain ⟨c1, k1, hc1, hk1, -, -, -, hn⟩ := Cond.instantiable_spec (a' (.instantiable Bundle.nN n) (by simp [Bundle.npeArmAtoms]))
  cases Option.some.inj (hc1.symm.trans hfound)
  cases Option.some.inj (hk1.symm.trans hk)
  have hfsz : (freshCell P1.m.cls N.kN).slots.size = n := by simp [hn]
  have hlink1 : P1.sup = PR.m := Option.some.inj (hP1s.symm.trans hPRm)
  have hlinkR : PR.sup = PE.m := Option.some.inj (hPRs.symm.trans hPEm)
  have hlinkE : PE.sup = Z.m T.toThrowableT := Option.some.inj (hPEs.symm.trans Y.init0)
  have hLs : ∀ P, P ∈ [PR, PE] → P.Links0 e.platform s := fun P hP => by
    simp only [List.mem_cons, List.not_mem_nil, or_false] at hP
    rcases hP with rfl | rfl
    · exact LR
    · exact LEx
  have hsel0 : selectMethod e.platform s.vm P1.m.cls T.fill0 = .method T.fill0 := by
    obtain ⟨c2, r2, m2, q1, q2, q3, q4, -⟩ := Cond.selects_spec (a' (.selects Bundle.nN Bundle.tFill0 Bundle.tFill0) (by simp [Bundle.npeArmAtoms]))
    cases Option.some.inj (q1.symm.trans hfound)
    cases Option.some.inj (q2.symm.trans (State.methodFound?_of_named Y.fill0 (by decide)))
    cases Option.some.inj (q3.symm.trans Y.fill0)
    rw [Launch.admits_selectMethod X.admits]; exact q4
  have hselF : selectMethod e.platform s.vm P1.m.cls T.fill = .method N.fill := by
    obtain ⟨c2, r2, m2, q1, q2, q3, q4, -⟩ := Cond.selects_spec (a' (.selects Bundle.nN Bundle.tFill Bundle.nFill) (by simp [Bundle.npeArmAtoms]))
    cases Option.some.inj (q1.symm.trans hfound)
    cases Option.some.inj (q2.symm.trans (State.methodFound?_of_named Y.fill (by decide)))
    cases Option.some.inj (q3.symm.trans hnNF)
    rw [Launch.admits_selectMethod X.admits]; exact q4
  obtain ⟨cellS0, hcS0, hiss⟩ := Y.statics
  obtain ⟨u0, hu0⟩ := Cond.staticRefV Y.unassigned L.unassignedStatic L.statics hcS0 hiss (a' (.isRef (.static Bundle.tN "UNASSIGNED_STACK" Bundle.steD)) (by simp [Bundle.npeArmAtoms]))
  obtain ⟨sen, hsen⟩ := Cond.staticRefV Y.sentinel L.sentinelStatic L.statics hcS0 hiss (a' (.isRef (.static Bundle.tN "SUPPRESSED_SENTINEL" Bundle.listD)) (by simp [Bundle.npeArmAtoms]))
  obtain ⟨ci198, i198, fB, hk198, hg198, ha198, hsB, -, hnB, htB, hffB⟩ := Cond.ownField (t := .object "java/lang/Object") Y.found L.cls (by decide +kernel) (a' (.fieldLink Bundle.tN 198 Bundle.tN "backtrace" Bundle.objD) (by simp [Bundle.npeArmAtoms])) (a' (.lays Bundle.tN Bundle.tN "backtrace" Bundle.objD) (by simp [Bundle.npeArmAtoms])) e.platform hpl
  obtain ⟨cellS, hcS', heS, -, hkeep⟩ := X.same.2.2.2.2.2 T.aS cellS0 hcS0
  have hcellS : W.heap[T.aS]? = some cellS := hcS'
  have hout' : ∀ i, (⟨T.aS, i⟩ : Loc) ∉ locs := fun i hmem => by
    have := hlocs _ hmem cellS0 hcS0
    rw [hiss] at this; cases this
  have hknownS : cellS.vm ≠ .unknown := by
    rw [heS]; intro hu
    rw [show cellS0.vm = .unknown from hu] at hiss
    cases hiss
  have hvU : cellS.slots[T.fUnassigned.slot]? = some u0.v := by rw [hkeep _ (hout' _)]; exact hu0
  have hvSen : cellS.slots[T.fSentinel.slot]? = some sen.v := by rw [hkeep _ (hout' _)]; exact hsen
  obtain ⟨tyC, dC, hdC, hdnC⟩ := Cond.laysAt hfound hk Y.cause (a' (.lays Bundle.nN Bundle.tN "cause" "Ljava/lang/Throwable;") (by simp [Bundle.npeArmAtoms]))
  obtain ⟨tyS, dS, hdS, hdnS⟩ := Cond.laysAt hfound hk Y.stack (a' (.lays Bundle.nN Bundle.tN "stackTrace" Bundle.steD) (by simp [Bundle.npeArmAtoms]))
  obtain ⟨tyP, dP, hdP, hdnP⟩ := Cond.laysAt hfound hk Y.supp (a' (.lays Bundle.nN Bundle.tN "suppressedExceptions" Bundle.listD) (by simp [Bundle.npeArmAtoms]))
  obtain ⟨tyX, dX, hdX, hdnX⟩ := Cond.laysAt hfound hk hffS (a' (.lays Bundle.nN Bundle.nN "extendedMessageState" "I") (by simp [Bundle.npeArmAtoms, Bundle.npeAtoms]))
  obtain ⟨hnX, htX⟩ := State.fieldFound?_type hffS (t := .int) (by decide +kernel)
  have xC := Cond.laysApart hdC hdX hdnC hdnX (by rw [hnX, Y.causeName]; decide)
  have xS := Cond.laysApart hdS hdX hdnS hdnX (by rw [hnX, Y.stackName]; decide)
  have xP := Cond.laysApart hdP hdX hdnP hdnX (by rw [hnX, Y.suppName]; decide)
  have hv0 : (freshCell P1.m.cls N.kN).slots[N.fState.slot]? = some (.int 0) := by
    have := fresh_default (c := P1.m.cls) tyX
    rw [htX] at this; exact this
  obtain ⟨tyB, dB, hdB, hdnB⟩ := Cond.laysAt hfound hk hffB (a' (.lays Bundle.nN Bundle.tN "backtrace" Bundle.objD) (by simp [Bundle.npeArmAtoms]))
  have bC := Cond.laysApart hdB hdC hdnB hdnC (by rw [hnB, Y.causeName]; decide)
  have bS := Cond.laysApart hdB hdS hdnB hdnS (by rw [hnB, Y.stackName]; decide)
  have bP := Cond.laysApart hdB hdP hdnB hdnP (by rw [hnB, Y.suppName]; decide)
  have bX := Cond.laysApart hdB hdX hdnB hdnX (by rw [hnB, hnX]; decide)
  have hbk : ((npeCell N.toNpeT (preparedCellV T.toThrowableT (freshCell P1.m.cls N.kN) W.heap.size u0 sen) W.cur).withEntry W.cur).slots[fB.slot]? = some .null := by
    have := fresh_default (c := P1.m.cls) tyB
    rw [htB] at this
    simpa [npeCell, preparedCellV, Cell.setSlot, Cell.withEntry, Array.getElem?_setIfInBounds, bC, bS, bP, bX, bC.symm, bS.symm, bP.symm, bX.symm, defaultValue] using this
  have tkC := Takes.of_laid (v := .ref W.heap.size) hk hordN tyC (by rw [Y.causeType]; rfl)
  have tkS := Takes.of_laid (v := u0.v) hk hordN tyS (by rw [Y.stackType]; exact fits_refV_array _ u0)
  have tkP := Takes.of_laid (v := sen.v) hk hordN tyP (by rw [Y.suppType]; exact fits_refV_object _ sen)
  have tkX := Takes.of_laid (v := .int 1) hk hordN tyX (by rw [htX]; rfl)
  have hskip : SkipFacts T e.platform s (fun u => u) u0 ((npeCell N.toNpeT (preparedCellV T.toThrowableT (freshCell P1.m.cls N.kN) W.heap.size u0 sen) W.cur).withEntry W.cur) := ⟨{ ci198 := ci198, i198 := i198, fBack := fB }, ⟨hk198, hg198, ha198, hsB⟩, hbk, fun _ _ => rfl⟩
  obtain ⟨vm', X3, st, -⟩ := X.throwsNpeColdBareVAt hexec hg hsize T L Z LZ N LN P1 L1 [PR, PE] hLs hlink1 ⟨hlinkR, hlinkE, trivial⟩ hfound hk hinit hordN hctor hsel0 hselF hcellS hknownS hvU hvSen
    hv0 xC xS xP tkC tkS tkP tkX Y.objLocals hskip (fun _ _ hA hW _ hroom _ hrest => L.nativeOff p htr hA hW hroom hrest) (by simpa using hRframes) hRlocals (by simp) hRcells (by rw [hn]; exact hRslots)
  have hlt : W.heap.size < ((W.pushCell (freshCell P1.m.cls N.kN)).setVm vm').heap.size := by
    show W.heap.size < (W.pushCell (freshCell P1.m.cls N.kN)).heap.size
    rw [State.heap_size_pushCell]; omega
  rw [hfsz] at X3
  obtain ⟨g₁, hfrM⟩ := X3.frames_eq
  have hU : ((((W.pushCell (freshCell P1.m.cls N.kN)).setVm vm').setCell W.heap.size (npeBareV T.toThrowableT N.toNpeT (freshCell P1.m.cls N.kN) W.heap.size u0 sen)).setTop g).pushFrame (.throwing W.heap.size) = (((W.pushCell (freshCell P1.m.cls N.kN)).setVm vm').setCell W.heap.size (npeBareV T.toThrowableT N.toNpeT (freshCell P1.m.cls N.kN) W.heap.size u0 sen)).setFrames (.throwing W.heap.size :: .java g :: below) := by
    rw [State.pushFrame, State.frames_setTop _ hfrM, State.setTop_of_frames _ hfrM, State.setFrames_setFrames]
  refine ⟨_, W.heap.size, _, fun target ht => st.trans (by rw [← hU]; exact ht), X3.forget (fun y hy => ?_), heapAt_setCell_self _ hlt, hfound, rfl⟩
  simp only [List.mem_cons, List.not_mem_nil, or_false] at hy
  have hge : s.heap.size ≤ W.heap.size := X.same.2.1
  rcases hy with rfl | rfl | rfl | rfl | rfl <;> exact hge
/-- the words of a machine's NullPointerException, but the four that speak of the heap -/
def vx_atN (n : Nat) : List Cond := (Bundle.npeArmAtoms n).filter vx_no
/-- the words of a machine's throw with a message, but the four that speak of the heap -/
def vx_atM (X : String) (names : List String) : List Cond := (Bundle.messageArmAtoms X names).filter vx_no
section
variable {p : Program} {l : Launch} {e : Env} {R : Room} {s : State} {m : MethodId} {args : Array Value} {below : List Frame} {meth : Method} {c : Code} {H : Heap} {locs : List Loc} {cells slots : Nat}
/-- a frame seen from a rebased start, seen from the first start again -/
theorem vx_back9 {T S : State} {R' : Room} {k n : Nat} (X : Stand p l e R s m args below meth c T locs cells slots) (Y : Stand p l e R' ((T.setVm s.vm).setFrames (.invoking m args :: below)) m args below meth c T [] 0 0) (Z : Stand p l e R' ((T.setVm s.vm).setFrames (.invoking m args :: below)) m args below meth c S [] k n) :
    Stand p l e R s m args below meth c S locs (cells + k) (slots + n) := by
  have hW0 : s.WarmedH ((T.setVm s.vm).setFrames (.invoking m args :: below)).vm := State.WarmedH.refl s
  refine { admits := X.admits, cas := X.cas, clock := X.clock, frames := X.frames, room := X.room, hears := X.hears, method := X.method, code := X.code, here := Z.here, tail := Z.tail, warmed := State.WarmedH.trans hW0 Z.warmed, limits := Z.limits.trans (Y.limits.symm.trans X.limits), bytes := Z.bytes.trans (Y.bytes.symm.trans X.bytes), same := ?_ }
  obtain ⟨e1, e2⟩ := Z.same
  rw [State.setFrames_setFrames] at e1
  have h2 : (T.setVm s.vm).sameButNew (S.setVm s.vm) [] k n := ⟨e1, e2⟩
  have h3 := X.same.trans h2
  rw [List.append_nil] at h3
  exact h3
/-- from the machine's note that E is thrown here with this text -/
def vx_Note (p : Program) (l : Launch) (e : Env) (R : Room) (s : State) (m : MethodId) (args : Array Value) (below : List Frame) (meth : Method) (c : Code) (H : Heap) (locs : List Loc) (cells slots : Nat) (Q : State → Prop) (g : JFrame) (E text : String) : Prop :=
  ∀ T : State, T.heap = H → Stand p l e R s m args below meth c T locs cells slots → ∃ t, Steps p.tables e below ((T.setTop g).pushFrame (.throwNew E (some text) none)) t ∧ Q t
theorem vx_vm {pc : Nat} {ls : Array Slot} {rest : List Value} {Q : State → Prop} (hexec : p.tables.exec = Jvm.exec) (hl : l.stackTraces = false) {cls text : String} {names : List String} {nb : Nat} {A : Nat → Prop}
    (hcls : Bundle.fit cls = true) (hnames : ∀ n ∈ names, Bundle.fit n = true) (hsoe : (cls == "java/lang/StackOverflowError") = false) (hoom : (cls == "java/lang/OutOfMemoryError") = false)
    (hat : ∀ w ∈ vx_atM cls names, w.before args s = true) (hgood : ∀ w ∈ vx_atM cls names, vx_ot w = true)
    (hU : vx_Zq Bundle.tN "UNASSIGNED_STACK" Bundle.steD A s s.heap) (hN : vx_Zq Bundle.tN "SUPPRESSED_SENTINEL" Bundle.listD A s s.heap) (hS : va_S A s.heap H locs) (hsize : ls.size = c.maxLocals)
    (htext : (text == notModelled) = false) (hnb : (stringBytes (stringToUtf16 text)).size ≤ nb) (hnb1 : nb ≤ 1000)
    (hRframes : names.length + 4 < R.frames) (hRlocals : (rest.map fun v => v.category).sum + 10240 ≤ R.locals) (hshort : 13 * names.length + 55 ≤ 10240) (hRcells : cells + 3 ≤ R.cells) (hRslots : slots + (nb + 10) ≤ R.slots) (hlocks : meth.locks = false)
    (k : ∀ (H1 : Heap) (q9 : Addr) (ce : Cell), H.size ≤ H1.size → (∀ q : Nat, q < H.size → H1[q]? = H[q]?) → va_S A s.heap H1 locs → H1[q9]? = some ce → ce.vm = .none → s.vm.findClass cls = some ce.cls → vx_W p l e R s m args below meth c H1 locs (cells + 3) (slots + (nb + 10)) Q (F0 m pc ls rest) q9) :
    vx_Note p l e R s m args below meth c H locs cells slots Q (F0 m pc ls rest) cls text := by
  intro T hT X
  have htr : e.platform.stackTraces = false := (show e.platform.stackTraces = l.stackTraces by rw [X.admits.platform]).trans hl
  have Y := vx_rebase X (R' := { frames := R.frames, locals := R.locals, cells := 3, slots := nb + 10 }) (Nat.le_refl _) (Nat.le_refl _) hRcells hRslots
  have hhp : ((T.setVm s.vm).setFrames (.invoking m args :: below)).heap = H := hT
  have hW0 : s.WarmedH ((T.setVm s.vm).setFrames (.invoking m args :: below)).vm := State.WarmedH.refl s
  have hat' : ∀ w ∈ vx_atM cls names, w.before args ((T.setVm s.vm).setFrames (.invoking m args :: below)) = true := fun w hw => vx_ot_at hW0 rfl (hgood w hw) (hat w hw)
  have hU' : vx_Zq Bundle.tN "UNASSIGNED_STACK" Bundle.steD A ((T.setVm s.vm).setFrames (.invoking m args :: below)) ((T.setVm s.vm).setFrames (.invoking m args :: below)).heap := by rw [hhp]; exact vx_Zq.moved hW0.alike (hU.kept hS.2.1)
  have hN' : vx_Zq Bundle.tN "SUPPRESSED_SENTINEL" Bundle.listD A ((T.setVm s.vm).setFrames (.invoking m args :: below)) ((T.setVm s.vm).setFrames (.invoking m args :: below)).heap := by rw [hhp]; exact vx_Zq.moved hW0.alike (hN.kept hS.2.1)
  obtain ⟨S, q, ce, st, Z, hce, hcl', hv⟩ := vx_vmAt Y hexec htr (cls := cls) (names := names) (text := text) hcls hnames hsoe hoom (vx_own hat' (vx_isRefq hU'.1) (vx_isRefq hN'.1) hU'.2.word hN'.2.word) (fun x hx => nomatch hx) htext
    (by rw [Launch.admits_arrayLengthLimit X.admits]; omega) (by rw [Launch.admits_maxHeapBytes X.admits]; simp only [componentBytes]; omega)
    (g := F0 m pc ls rest) rfl hsize hRframes (by show 2 * 0 + (rest.map fun v => v.category).sum + 10240 ≤ R.locals; omega) hshort (by show 0 + 3 ≤ 3; omega) (by show 0 + (_ + 4 + 6) ≤ nb + 10; omega) hlocks
  obtain ⟨f1, f2⟩ := vx_frame Z.same
  have f1' : H.size ≤ S.heap.size := by rw [← hT]; exact f1
  have f2' : ∀ q : Nat, q < H.size → S.heap[q]? = H[q]? := fun q hq => by
    rw [← hT]
    exact f2 q (by rw [← hT] at hq; exact hq) (fun z hz => nomatch hz)
  have X5 := vx_back9 X Y Z
  have X6 : Stand p l e R s m args below meth c S locs (cells + 3) (slots + (nb + 10)) := { X5 with same := X5.same.mono (by omega) (by omega) }
  obtain ⟨t, a1, b1⟩ := k S.heap q ce f1' f2' ⟨Nat.le_trans hS.1 f1', fun q h1 h2 => (f2' q (Nat.lt_of_lt_of_le h1 hS.1)).trans (hS.2.1 q h1 h2), hS.2.2⟩ hce hv hcl' S rfl X6
  exact ⟨t, st t a1, b1⟩
/-- from the machine's note that NullPointerException is thrown here -/
def vx_NoteN (p : Program) (l : Launch) (e : Env) (R : Room) (s : State) (m : MethodId) (args : Array Value) (below : List Frame) (meth : Method) (c : Code) (H : Heap) (locs : List Loc) (cells slots : Nat) (Q : State → Prop) (g : JFrame) : Prop :=
  ∀ T : State, T.heap = H → Stand p l e R s m args below meth c T locs cells slots → ∃ t, Steps p.tables e below ((T.setTop g).pushFrame (.throwNew "java/lang/NullPointerException" none none)) t ∧ Q t
theorem vx_npe {pc : Nat} {ls : Array Slot} {rest : List Value} {Q : State → Prop} (hexec : p.tables.exec = Jvm.exec) (hl : l.stackTraces = false) {nb : Nat} {A : Nat → Prop}
    (hat : ∀ w ∈ vx_atN nb, w.before args s = true) (hgood : ∀ w ∈ vx_atN nb, vx_ot w = true)
    (hU : vx_Zq Bundle.tN "UNASSIGNED_STACK" Bundle.steD A s s.heap) (hN : vx_Zq Bundle.tN "SUPPRESSED_SENTINEL" Bundle.listD A s s.heap) (hS : va_S A s.heap H locs) (hsize : ls.size = c.maxLocals)
    (hRframes : 7 < R.frames) (hRlocals : (rest.map fun v => v.category).sum + 10240 ≤ R.locals) (hRcells : cells + 1 ≤ R.cells) (hRslots : slots + nb ≤ R.slots) (hlocks : meth.locks = false)
    (k : ∀ (H1 : Heap) (q9 : Addr) (ce : Cell), H.size ≤ H1.size → (∀ q : Nat, q < H.size → H1[q]? = H[q]?) → va_S A s.heap H1 locs → H1[q9]? = some ce → ce.vm = .none → s.vm.findClass "java/lang/NullPointerException" = some ce.cls → vx_W p l e R s m args below meth c H1 locs (cells + 1) (slots + nb) Q (F0 m pc ls rest) q9) :
    vx_NoteN p l e R s m args below meth c H locs cells slots Q (F0 m pc ls rest) := by
  intro T hT X
  have htr : e.platform.stackTraces = false := (show e.platform.stackTraces = l.stackTraces by rw [X.admits.platform]).trans hl
  have Y := vx_rebase X (R' := { frames := R.frames, locals := R.locals, cells := 1, slots := nb }) (Nat.le_refl _) (Nat.le_refl _) hRcells hRslots
  have hhp : ((T.setVm s.vm).setFrames (.invoking m args :: below)).heap = H := hT
  have hW0 : s.WarmedH ((T.setVm s.vm).setFrames (.invoking m args :: below)).vm := State.WarmedH.refl s
  have hat' : ∀ w ∈ vx_atN nb, w.before args ((T.setVm s.vm).setFrames (.invoking m args :: below)) = true := fun w hw => vx_ot_at hW0 rfl (hgood w hw) (hat w hw)
  have hU' : vx_Zq Bundle.tN "UNASSIGNED_STACK" Bundle.steD A ((T.setVm s.vm).setFrames (.invoking m args :: below)) ((T.setVm s.vm).setFrames (.invoking m args :: below)).heap := by rw [hhp]; exact vx_Zq.moved hW0.alike (hU.kept hS.2.1)
  have hN' : vx_Zq Bundle.tN "SUPPRESSED_SENTINEL" Bundle.listD A ((T.setVm s.vm).setFrames (.invoking m args :: below)) ((T.setVm s.vm).setFrames (.invoking m args :: below)).heap := by rw [hhp]; exact vx_Zq.moved hW0.alike (hN.kept hS.2.1)
  obtain ⟨S, q, ce, st, Z, hce, hcl', hv⟩ := vx_npeAt Y hexec htr (n := nb) (vx_own hat' (vx_isRefq hU'.1) (vx_isRefq hN'.1) hU'.2.word hN'.2.word) (fun x hx => nomatch hx)
    (g := F0 m pc ls rest) rfl hsize hRframes (by show 2 * 0 + (rest.map fun v => v.category).sum + 10240 ≤ R.locals; omega) (by show 0 + 1 ≤ 1; omega) (by show 0 + nb ≤ nb; omega) hlocks
  obtain ⟨f1, f2⟩ := vx_frame Z.same
  have f1' : H.size ≤ S.heap.size := by rw [← hT]; exact f1
  have f2' : ∀ q : Nat, q < H.size → S.heap[q]? = H[q]? := fun q hq => by
    rw [← hT]
    exact f2 q (by rw [← hT] at hq; exact hq) (fun z hz => nomatch hz)
  have X5 := vx_back9 X Y Z
  have X6 : Stand p l e R s m args below meth c S locs (cells + 1) (slots + nb) := { X5 with same := X5.same.mono (by omega) (by omega) }
  obtain ⟨t, a1, b1⟩ := k S.heap q ce f1' f2' ⟨Nat.le_trans hS.1 f1', fun q h1 h2 => (f2' q (Nat.lt_of_lt_of_le h1 hS.1)).trans (hS.2.1 q h1 h2), hS.2.2⟩ hce hv hcl' S rfl X6
  exact ⟨t, st t a1, b1⟩
variable {Q : State → Prop} {cc : ByteArray} {pc : Nat} {ls : Array Slot} {rest : List Value}
theorem vx_idivZ (hexec : p.tables.exec = Jvm.exec) (hb : c.code = cc) {a b : Int32} (h0 : b = 0) (d : decode cc pc = .ok (.idiv, 1)) (k : vx_Note p l e R s m args below meth c H locs cells slots Q (F0 m pc ls rest) "java/lang/ArithmeticException" "/ by zero") :
    W p l e R s m args below meth c H locs cells slots Q (F0 m pc ls (.int b :: .int a :: rest)) := by
  intro T hT X
  obtain ⟨t, st, q⟩ := k T hT X
  exact ⟨t, X.idivZero hexec (g := F0 m pc ls (.int b :: .int a :: rest)) rfl (a := a) (rest := rest) (by rw [h0]) (by rw [hb]; exact d) t st, q⟩
theorem vx_iremZ (hexec : p.tables.exec = Jvm.exec) (hb : c.code = cc) {a b : Int32} (h0 : b = 0) (d : decode cc pc = .ok (.irem, 1)) (k : vx_Note p l e R s m args below meth c H locs cells slots Q (F0 m pc ls rest) "java/lang/ArithmeticException" "/ by zero") :
    W p l e R s m args below meth c H locs cells slots Q (F0 m pc ls (.int b :: .int a :: rest)) := by
  intro T hT X
  obtain ⟨t, st, q⟩ := k T hT X
  exact ⟨t, X.iremZero hexec (g := F0 m pc ls (.int b :: .int a :: rest)) rfl (a := a) (rest := rest) (by rw [h0]) (by rw [hb]; exact d) t st, q⟩
theorem vx_ldivZ (hexec : p.tables.exec = Jvm.exec) (hb : c.code = cc) {a b : Int64} (h0 : b = 0) (d : decode cc pc = .ok (.ldiv, 1)) (k : vx_Note p l e R s m args below meth c H locs cells slots Q (F0 m pc ls rest) "java/lang/ArithmeticException" "/ by zero") :
    W p l e R s m args below meth c H locs cells slots Q (F0 m pc ls (.long b :: .long a :: rest)) := by
  intro T hT X
  obtain ⟨t, st, q⟩ := k T hT X
  exact ⟨t, X.ldivZero hexec (g := F0 m pc ls (.long b :: .long a :: rest)) rfl (a := a) (rest := rest) (by rw [h0]) (by rw [hb]; exact d) t st, q⟩
theorem vx_lremZ (hexec : p.tables.exec = Jvm.exec) (hb : c.code = cc) {a b : Int64} (h0 : b = 0) (d : decode cc pc = .ok (.lrem, 1)) (k : vx_Note p l e R s m args below meth c H locs cells slots Q (F0 m pc ls rest) "java/lang/ArithmeticException" "/ by zero") :
    W p l e R s m args below meth c H locs cells slots Q (F0 m pc ls (.long b :: .long a :: rest)) := by
  intro T hT X
  obtain ⟨t, st, q⟩ := k T hT X
  exact ⟨t, X.lremZero hexec (g := F0 m pc ls (.long b :: .long a :: rest)) rfl (a := a) (rest := rest) (by rw [h0]) (by rw [hb]; exact d) t st, q⟩
theorem vx_ialdZ {D : va_G} {cl : List vw_C} {ws : va_W} {tys : List (ClassId × FieldType)} {a : Nat} (hexec : p.tables.exec = Jvm.exec) (hb : c.code = cc) (hK : va_K D cl tys s) (hP : va_P D cl ws H) (q0 t0 : Nat) {cA : ClassId} {n : Nat} {f : Nat → Int32} (ha : ws[q0]? = some (a, .inl (cA, n, .inl f))) (ht : tys[t0]? = some (cA, .int)) {i : Int32} (hout : ¬ vp_in i n) (hdg : decode cc pc = .ok (.iaload, 1))
    (k : ∀ tx : String, tx = (toString "Index " ++ toString i ++ toString " out of bounds for length " ++ toString n : String) → vx_Note p l e R s m args below meth c H locs cells slots Q (F0 m pc ls rest) "java/lang/ArrayIndexOutOfBoundsException" tx) : W p l e R s m args below meth c H locs cells slots Q (F0 m pc ls (.int i :: .ref a :: rest)) := by
  intro T hT X
  obtain ⟨t, st, q⟩ := k _ rfl T hT X
  refine ⟨t, ?_, q⟩
  have h1 := X.ialoadOut hexec (by rw [hT]; exact hP q0 _ ha) ((hK.2 t0 _ ht).1 n (fun j => .int (f j))) (j := i) (by show (i < 0 ∨ (arrV _ _ _).slots.size ≤ _); rw [arrV_size]; exact Classical.byContradiction hout) (g := F0 m pc ls (.int i :: .ref a :: rest)) rfl (rest := rest) rfl (by rw [hb]; exact hdg) t
  simp only [arrV_size] at h1
  exact h1 st
theorem vx_iastZ {D : va_G} {cl : List vw_C} {ws : va_W} {tys : List (ClassId × FieldType)} {a : Nat} (hexec : p.tables.exec = Jvm.exec) (hb : c.code = cc) (hK : va_K D cl tys s) (hP : va_P D cl ws H) (q0 t0 : Nat) {cA : ClassId} {n : Nat} {f : Nat → Int32} (ha : ws[q0]? = some (a, .inl (cA, n, .inl f))) (ht : tys[t0]? = some (cA, .int)) {i : Int32} {x : Int32} (hout : ¬ vp_in i n) (hdg : decode cc pc = .ok (.iastore, 1))
    (k : ∀ tx : String, tx = (toString "Index " ++ toString i ++ toString " out of bounds for length " ++ toString n : String) → vx_Note p l e R s m args below meth c H locs cells slots Q (F0 m pc ls rest) "java/lang/ArrayIndexOutOfBoundsException" tx) : W p l e R s m args below meth c H locs cells slots Q (F0 m pc ls (.int x :: .int i :: .ref a :: rest)) := by
  intro T hT X
  obtain ⟨t, st, q⟩ := k _ rfl T hT X
  refine ⟨t, ?_, q⟩
  have h1 := X.iastoreOut hexec (by rw [hT]; exact hP q0 _ ha) ((hK.2 t0 _ ht).1 n (fun j => .int (f j))) (j := i) (by show (i < 0 ∨ (arrV _ _ _).slots.size ≤ _); rw [arrV_size]; exact Classical.byContradiction hout) (g := F0 m pc ls (.int x :: .int i :: .ref a :: rest)) rfl (rest := rest) rfl (by rw [hb]; exact hdg) t
  simp only [arrV_size] at h1
  exact h1 st
theorem vx_baldZ {D : va_G} {cl : List vw_C} {ws : va_W} {tys : List (ClassId × FieldType)} {a : Nat} (hexec : p.tables.exec = Jvm.exec) (hb : c.code = cc) (hK : va_K D cl tys s) (hP : va_P D cl ws H) (q0 t0 : Nat) {cA : ClassId} {n : Nat} {f : Nat → Int32} (ha : ws[q0]? = some (a, .inl (cA, n, .inl f))) (ht : tys[t0]? = some (cA, .byte)) {i : Int32} (hout : ¬ vp_in i n) (hdg : decode cc pc = .ok (.baload, 1))
    (k : ∀ tx : String, tx = (toString "Index " ++ toString i ++ toString " out of bounds for length " ++ toString n : String) → vx_Note p l e R s m args below meth c H locs cells slots Q (F0 m pc ls rest) "java/lang/ArrayIndexOutOfBoundsException" tx) : W p l e R s m args below meth c H locs cells slots Q (F0 m pc ls (.int i :: .ref a :: rest)) := by
  intro T hT X
  obtain ⟨t, st, q⟩ := k _ rfl T hT X
  refine ⟨t, ?_, q⟩
  have h1 := X.baloadOut hexec (by rw [hT]; exact hP q0 _ ha) ((hK.2 t0 _ ht).1 n (fun j => .int (f j))) (j := i) (by show (i < 0 ∨ (arrV _ _ _).slots.size ≤ _); rw [arrV_size]; exact Classical.byContradiction hout) (g := F0 m pc ls (.int i :: .ref a :: rest)) rfl (rest := rest) rfl (by rw [hb]; exact hdg) t
  simp only [arrV_size] at h1
  exact h1 st
theorem vx_bastZ {D : va_G} {cl : List vw_C} {ws : va_W} {tys : List (ClassId × FieldType)} {a : Nat} (hexec : p.tables.exec = Jvm.exec) (hb : c.code = cc) (hK : va_K D cl tys s) (hP : va_P D cl ws H) (q0 t0 : Nat) {cA : ClassId} {n : Nat} {f : Nat → Int32} (ha : ws[q0]? = some (a, .inl (cA, n, .inl f))) (ht : tys[t0]? = some (cA, .byte)) {i : Int32} {x : Int32} (hout : ¬ vp_in i n) (hdg : decode cc pc = .ok (.bastore, 1))
    (k : ∀ tx : String, tx = (toString "Index " ++ toString i ++ toString " out of bounds for length " ++ toString n : String) → vx_Note p l e R s m args below meth c H locs cells slots Q (F0 m pc ls rest) "java/lang/ArrayIndexOutOfBoundsException" tx) : W p l e R s m args below meth c H locs cells slots Q (F0 m pc ls (.int x :: .int i :: .ref a :: rest)) := by
  intro T hT X
  obtain ⟨t, st, q⟩ := k _ rfl T hT X
  refine ⟨t, ?_, q⟩
  have h1 := X.bastoreOut hexec (by rw [hT]; exact hP q0 _ ha) ((hK.2 t0 _ ht).1 n (fun j => .int (f j))) (j := i) (by show (i < 0 ∨ (arrV _ _ _).slots.size ≤ _); rw [arrV_size]; exact Classical.byContradiction hout) (g := F0 m pc ls (.int x :: .int i :: .ref a :: rest)) rfl (rest := rest) rfl (by rw [hb]; exact hdg) t
  simp only [arrV_size] at h1
  exact h1 st
theorem vx_zaldZ {D : va_G} {cl : List vw_C} {ws : va_W} {tys : List (ClassId × FieldType)} {a : Nat} (hexec : p.tables.exec = Jvm.exec) (hb : c.code = cc) (hK : va_K D cl tys s) (hP : va_P D cl ws H) (q0 t0 : Nat) {cA : ClassId} {n : Nat} {f : Nat → Int32} (ha : ws[q0]? = some (a, .inl (cA, n, .inl f))) (ht : tys[t0]? = some (cA, .boolean)) {i : Int32} (hout : ¬ vp_in i n) (hdg : decode cc pc = .ok (.baload, 1))
    (k : ∀ tx : String, tx = (toString "Index " ++ toString i ++ toString " out of bounds for length " ++ toString n : String) → vx_Note p l e R s m args below meth c H locs cells slots Q (F0 m pc ls rest) "java/lang/ArrayIndexOutOfBoundsException" tx) : W p l e R s m args below meth c H locs cells slots Q (F0 m pc ls (.int i :: .ref a :: rest)) := by
  intro T hT X
  obtain ⟨t, st, q⟩ := k _ rfl T hT X
  refine ⟨t, ?_, q⟩
  have h1 := X.baloadOut hexec (by rw [hT]; exact hP q0 _ ha) ((hK.2 t0 _ ht).1 n (fun j => .int (f j))) (j := i) (by show (i < 0 ∨ (arrV _ _ _).slots.size ≤ _); rw [arrV_size]; exact Classical.byContradiction hout) (g := F0 m pc ls (.int i :: .ref a :: rest)) rfl (rest := rest) rfl (by rw [hb]; exact hdg) t
  simp only [arrV_size] at h1
  exact h1 st
theorem vx_zastZ {D : va_G} {cl : List vw_C} {ws : va_W} {tys : List (ClassId × FieldType)} {a : Nat} (hexec : p.tables.exec = Jvm.exec) (hb : c.code = cc) (hK : va_K D cl tys s) (hP : va_P D cl ws H) (q0 t0 : Nat) {cA : ClassId} {n : Nat} {f : Nat → Int32} (ha : ws[q0]? = some (a, .inl (cA, n, .inl f))) (ht : tys[t0]? = some (cA, .boolean)) {i : Int32} {x : Int32} (hout : ¬ vp_in i n) (hdg : decode cc pc = .ok (.bastore, 1))
    (k : ∀ tx : String, tx = (toString "Index " ++ toString i ++ toString " out of bounds for length " ++ toString n : String) → vx_Note p l e R s m args below meth c H locs cells slots Q (F0 m pc ls rest) "java/lang/ArrayIndexOutOfBoundsException" tx) : W p l e R s m args below meth c H locs cells slots Q (F0 m pc ls (.int x :: .int i :: .ref a :: rest)) := by
  intro T hT X
  obtain ⟨t, st, q⟩ := k _ rfl T hT X
  refine ⟨t, ?_, q⟩
  have h1 := X.bastoreOut hexec (by rw [hT]; exact hP q0 _ ha) ((hK.2 t0 _ ht).1 n (fun j => .int (f j))) (j := i) (by show (i < 0 ∨ (arrV _ _ _).slots.size ≤ _); rw [arrV_size]; exact Classical.byContradiction hout) (g := F0 m pc ls (.int x :: .int i :: .ref a :: rest)) rfl (rest := rest) rfl (by rw [hb]; exact hdg) t
  simp only [arrV_size] at h1
  exact h1 st
theorem vx_caldZ {D : va_G} {cl : List vw_C} {ws : va_W} {tys : List (ClassId × FieldType)} {a : Nat} (hexec : p.tables.exec = Jvm.exec) (hb : c.code = cc) (hK : va_K D cl tys s) (hP : va_P D cl ws H) (q0 t0 : Nat) {cA : ClassId} {n : Nat} {f : Nat → Int32} (ha : ws[q0]? = some (a, .inl (cA, n, .inl f))) (ht : tys[t0]? = some (cA, .char)) {i : Int32} (hout : ¬ vp_in i n) (hdg : decode cc pc = .ok (.caload, 1))
    (k : ∀ tx : String, tx = (toString "Index " ++ toString i ++ toString " out of bounds for length " ++ toString n : String) → vx_Note p l e R s m args below meth c H locs cells slots Q (F0 m pc ls rest) "java/lang/ArrayIndexOutOfBoundsException" tx) : W p l e R s m args below meth c H locs cells slots Q (F0 m pc ls (.int i :: .ref a :: rest)) := by
  intro T hT X
  obtain ⟨t, st, q⟩ := k _ rfl T hT X
  refine ⟨t, ?_, q⟩
  have h1 := X.caloadOut hexec (by rw [hT]; exact hP q0 _ ha) ((hK.2 t0 _ ht).1 n (fun j => .int (f j))) (j := i) (by show (i < 0 ∨ (arrV _ _ _).slots.size ≤ _); rw [arrV_size]; exact Classical.byContradiction hout) (g := F0 m pc ls (.int i :: .ref a :: rest)) rfl (rest := rest) rfl (by rw [hb]; exact hdg) t
  simp only [arrV_size] at h1
  exact h1 st
theorem vx_castZ {D : va_G} {cl : List vw_C} {ws : va_W} {tys : List (ClassId × FieldType)} {a : Nat} (hexec : p.tables.exec = Jvm.exec) (hb : c.code = cc) (hK : va_K D cl tys s) (hP : va_P D cl ws H) (q0 t0 : Nat) {cA : ClassId} {n : Nat} {f : Nat → Int32} (ha : ws[q0]? = some (a, .inl (cA, n, .inl f))) (ht : tys[t0]? = some (cA, .char)) {i : Int32} {x : Int32} (hout : ¬ vp_in i n) (hdg : decode cc pc = .ok (.castore, 1))
    (k : ∀ tx : String, tx = (toString "Index " ++ toString i ++ toString " out of bounds for length " ++ toString n : String) → vx_Note p l e R s m args below meth c H locs cells slots Q (F0 m pc ls rest) "java/lang/ArrayIndexOutOfBoundsException" tx) : W p l e R s m args below meth c H locs cells slots Q (F0 m pc ls (.int x :: .int i :: .ref a :: rest)) := by
  intro T hT X
  obtain ⟨t, st, q⟩ := k _ rfl T hT X
  refine ⟨t, ?_, q⟩
  have h1 := X.castoreOut hexec (by rw [hT]; exact hP q0 _ ha) ((hK.2 t0 _ ht).1 n (fun j => .int (f j))) (j := i) (by show (i < 0 ∨ (arrV _ _ _).slots.size ≤ _); rw [arrV_size]; exact Classical.byContradiction hout) (g := F0 m pc ls (.int x :: .int i :: .ref a :: rest)) rfl (rest := rest) rfl (by rw [hb]; exact hdg) t
  simp only [arrV_size] at h1
  exact h1 st
theorem vx_saldZ {D : va_G} {cl : List vw_C} {ws : va_W} {tys : List (ClassId × FieldType)} {a : Nat} (hexec : p.tables.exec = Jvm.exec) (hb : c.code = cc) (hK : va_K D cl tys s) (hP : va_P D cl ws H) (q0 t0 : Nat) {cA : ClassId} {n : Nat} {f : Nat → Int32} (ha : ws[q0]? = some (a, .inl (cA, n, .inl f))) (ht : tys[t0]? = some (cA, .short)) {i : Int32} (hout : ¬ vp_in i n) (hdg : decode cc pc = .ok (.saload, 1))
    (k : ∀ tx : String, tx = (toString "Index " ++ toString i ++ toString " out of bounds for length " ++ toString n : String) → vx_Note p l e R s m args below meth c H locs cells slots Q (F0 m pc ls rest) "java/lang/ArrayIndexOutOfBoundsException" tx) : W p l e R s m args below meth c H locs cells slots Q (F0 m pc ls (.int i :: .ref a :: rest)) := by
  intro T hT X
  obtain ⟨t, st, q⟩ := k _ rfl T hT X
  refine ⟨t, ?_, q⟩
  have h1 := X.saloadOut hexec (by rw [hT]; exact hP q0 _ ha) ((hK.2 t0 _ ht).1 n (fun j => .int (f j))) (j := i) (by show (i < 0 ∨ (arrV _ _ _).slots.size ≤ _); rw [arrV_size]; exact Classical.byContradiction hout) (g := F0 m pc ls (.int i :: .ref a :: rest)) rfl (rest := rest) rfl (by rw [hb]; exact hdg) t
  simp only [arrV_size] at h1
  exact h1 st
theorem vx_sastZ {D : va_G} {cl : List vw_C} {ws : va_W} {tys : List (ClassId × FieldType)} {a : Nat} (hexec : p.tables.exec = Jvm.exec) (hb : c.code = cc) (hK : va_K D cl tys s) (hP : va_P D cl ws H) (q0 t0 : Nat) {cA : ClassId} {n : Nat} {f : Nat → Int32} (ha : ws[q0]? = some (a, .inl (cA, n, .inl f))) (ht : tys[t0]? = some (cA, .short)) {i : Int32} {x : Int32} (hout : ¬ vp_in i n) (hdg : decode cc pc = .ok (.sastore, 1))
    (k : ∀ tx : String, tx = (toString "Index " ++ toString i ++ toString " out of bounds for length " ++ toString n : String) → vx_Note p l e R s m args below meth c H locs cells slots Q (F0 m pc ls rest) "java/lang/ArrayIndexOutOfBoundsException" tx) : W p l e R s m args below meth c H locs cells slots Q (F0 m pc ls (.int x :: .int i :: .ref a :: rest)) := by
  intro T hT X
  obtain ⟨t, st, q⟩ := k _ rfl T hT X
  refine ⟨t, ?_, q⟩
  have h1 := X.sastoreOut hexec (by rw [hT]; exact hP q0 _ ha) ((hK.2 t0 _ ht).1 n (fun j => .int (f j))) (j := i) (by show (i < 0 ∨ (arrV _ _ _).slots.size ≤ _); rw [arrV_size]; exact Classical.byContradiction hout) (g := F0 m pc ls (.int x :: .int i :: .ref a :: rest)) rfl (rest := rest) rfl (by rw [hb]; exact hdg) t
  simp only [arrV_size] at h1
  exact h1 st
theorem vx_laldZ {D : va_G} {cl : List vw_C} {ws : va_W} {tys : List (ClassId × FieldType)} {a : Nat} (hexec : p.tables.exec = Jvm.exec) (hb : c.code = cc) (hK : va_K D cl tys s) (hP : va_P D cl ws H) (q0 t0 : Nat) {cA : ClassId} {n : Nat} {f : Nat → Int64} (ha : ws[q0]? = some (a, .inl (cA, n, .inr (.inl f)))) (ht : tys[t0]? = some (cA, .long)) {i : Int32} (hout : ¬ vp_in i n) (hdg : decode cc pc = .ok (.laload, 1))
    (k : ∀ tx : String, tx = (toString "Index " ++ toString i ++ toString " out of bounds for length " ++ toString n : String) → vx_Note p l e R s m args below meth c H locs cells slots Q (F0 m pc ls rest) "java/lang/ArrayIndexOutOfBoundsException" tx) : W p l e R s m args below meth c H locs cells slots Q (F0 m pc ls (.int i :: .ref a :: rest)) := by
  intro T hT X
  obtain ⟨t, st, q⟩ := k _ rfl T hT X
  refine ⟨t, ?_, q⟩
  have h1 := X.laloadOut hexec (by rw [hT]; exact hP q0 _ ha) ((hK.2 t0 _ ht).1 n (fun j => .long (f j))) (j := i) (by show (i < 0 ∨ (arrV _ _ _).slots.size ≤ _); rw [arrV_size]; exact Classical.byContradiction hout) (g := F0 m pc ls (.int i :: .ref a :: rest)) rfl (rest := rest) rfl (by rw [hb]; exact hdg) t
  simp only [arrV_size] at h1
  exact h1 st
theorem vx_lastZ {D : va_G} {cl : List vw_C} {ws : va_W} {tys : List (ClassId × FieldType)} {a : Nat} (hexec : p.tables.exec = Jvm.exec) (hb : c.code = cc) (hK : va_K D cl tys s) (hP : va_P D cl ws H) (q0 t0 : Nat) {cA : ClassId} {n : Nat} {f : Nat → Int64} (ha : ws[q0]? = some (a, .inl (cA, n, .inr (.inl f)))) (ht : tys[t0]? = some (cA, .long)) {i : Int32} {x : Int64} (hout : ¬ vp_in i n) (hdg : decode cc pc = .ok (.lastore, 1))
    (k : ∀ tx : String, tx = (toString "Index " ++ toString i ++ toString " out of bounds for length " ++ toString n : String) → vx_Note p l e R s m args below meth c H locs cells slots Q (F0 m pc ls rest) "java/lang/ArrayIndexOutOfBoundsException" tx) : W p l e R s m args below meth c H locs cells slots Q (F0 m pc ls (.long x :: .int i :: .ref a :: rest)) := by
  intro T hT X
  obtain ⟨t, st, q⟩ := k _ rfl T hT X
  refine ⟨t, ?_, q⟩
  have h1 := X.lastoreOut hexec (by rw [hT]; exact hP q0 _ ha) ((hK.2 t0 _ ht).1 n (fun j => .long (f j))) (j := i) (by show (i < 0 ∨ (arrV _ _ _).slots.size ≤ _); rw [arrV_size]; exact Classical.byContradiction hout) (g := F0 m pc ls (.long x :: .int i :: .ref a :: rest)) rfl (rest := rest) rfl (by rw [hb]; exact hdg) t
  simp only [arrV_size] at h1
  exact h1 st
theorem vx_faldZ {D : va_G} {cl : List vw_C} {ws : va_W} {tys : List (ClassId × FieldType)} {a : Nat} (hexec : p.tables.exec = Jvm.exec) (hb : c.code = cc) (hK : va_K D cl tys s) (hP : va_P D cl ws H) (q0 t0 : Nat) {cA : ClassId} {n : Nat} {f : Nat → UInt32} (ha : ws[q0]? = some (a, .inl (cA, n, .inr (.inr (.inl f))))) (ht : tys[t0]? = some (cA, .float)) {i : Int32} (hout : ¬ vp_in i n) (hdg : decode cc pc = .ok (.faload, 1))
    (k : ∀ tx : String, tx = (toString "Index " ++ toString i ++ toString " out of bounds for length " ++ toString n : String) → vx_Note p l e R s m args below meth c H locs cells slots Q (F0 m pc ls rest) "java/lang/ArrayIndexOutOfBoundsException" tx) : W p l e R s m args below meth c H locs cells slots Q (F0 m pc ls (.int i :: .ref a :: rest)) := by
  intro T hT X
  obtain ⟨t, st, q⟩ := k _ rfl T hT X
  refine ⟨t, ?_, q⟩
  have h1 := X.faloadOut hexec (by rw [hT]; exact hP q0 _ ha) ((hK.2 t0 _ ht).1 n (fun j => .float (f j))) (j := i) (by show (i < 0 ∨ (arrV _ _ _).slots.size ≤ _); rw [arrV_size]; exact Classical.byContradiction hout) (g := F0 m pc ls (.int i :: .ref a :: rest)) rfl (rest := rest) rfl (by rw [hb]; exact hdg) t
  simp only [arrV_size] at h1
  exact h1 st
theorem vx_fastZ {D : va_G} {cl : List vw_C} {ws : va_W} {tys : List (ClassId × FieldType)} {a : Nat} (hexec : p.tables.exec = Jvm.exec) (hb : c.code = cc) (hK : va_K D cl tys s) (hP : va_P D cl ws H) (q0 t0 : Nat) {cA : ClassId} {n : Nat} {f : Nat → UInt32} (ha : ws[q0]? = some (a, .inl (cA, n, .inr (.inr (.inl f))))) (ht : tys[t0]? = some (cA, .float)) {i : Int32} {x : UInt32} (hout : ¬ vp_in i n) (hdg : decode cc pc = .ok (.fastore, 1))
    (k : ∀ tx : String, tx = (toString "Index " ++ toString i ++ toString " out of bounds for length " ++ toString n : String) → vx_Note p l e R s m args below meth c H locs cells slots Q (F0 m pc ls rest) "java/lang/ArrayIndexOutOfBoundsException" tx) : W p l e R s m args below meth c H locs cells slots Q (F0 m pc ls (.float x :: .int i :: .ref a :: rest)) := by
  intro T hT X
  obtain ⟨t, st, q⟩ := k _ rfl T hT X
  refine ⟨t, ?_, q⟩
  have h1 := X.fastoreOut hexec (by rw [hT]; exact hP q0 _ ha) ((hK.2 t0 _ ht).1 n (fun j => .float (f j))) (j := i) (by show (i < 0 ∨ (arrV _ _ _).slots.size ≤ _); rw [arrV_size]; exact Classical.byContradiction hout) (g := F0 m pc ls (.float x :: .int i :: .ref a :: rest)) rfl (rest := rest) rfl (by rw [hb]; exact hdg) t
  simp only [arrV_size] at h1
  exact h1 st
theorem vx_daldZ {D : va_G} {cl : List vw_C} {ws : va_W} {tys : List (ClassId × FieldType)} {a : Nat} (hexec : p.tables.exec = Jvm.exec) (hb : c.code = cc) (hK : va_K D cl tys s) (hP : va_P D cl ws H) (q0 t0 : Nat) {cA : ClassId} {n : Nat} {f : Nat → UInt64} (ha : ws[q0]? = some (a, .inl (cA, n, .inr (.inr (.inr (.inl f)))))) (ht : tys[t0]? = some (cA, .double)) {i : Int32} (hout : ¬ vp_in i n) (hdg : decode cc pc = .ok (.daload, 1))
    (k : ∀ tx : String, tx = (toString "Index " ++ toString i ++ toString " out of bounds for length " ++ toString n : String) → vx_Note p l e R s m args below meth c H locs cells slots Q (F0 m pc ls rest) "java/lang/ArrayIndexOutOfBoundsException" tx) : W p l e R s m args below meth c H locs cells slots Q (F0 m pc ls (.int i :: .ref a :: rest)) := by
  intro T hT X
  obtain ⟨t, st, q⟩ := k _ rfl T hT X
  refine ⟨t, ?_, q⟩
  have h1 := X.daloadOut hexec (by rw [hT]; exact hP q0 _ ha) ((hK.2 t0 _ ht).1 n (fun j => .double (f j))) (j := i) (by show (i < 0 ∨ (arrV _ _ _).slots.size ≤ _); rw [arrV_size]; exact Classical.byContradiction hout) (g := F0 m pc ls (.int i :: .ref a :: rest)) rfl (rest := rest) rfl (by rw [hb]; exact hdg) t
  simp only [arrV_size] at h1
  exact h1 st
theorem vx_dastZ {D : va_G} {cl : List vw_C} {ws : va_W} {tys : List (ClassId × FieldType)} {a : Nat} (hexec : p.tables.exec = Jvm.exec) (hb : c.code = cc) (hK : va_K D cl tys s) (hP : va_P D cl ws H) (q0 t0 : Nat) {cA : ClassId} {n : Nat} {f : Nat → UInt64} (ha : ws[q0]? = some (a, .inl (cA, n, .inr (.inr (.inr (.inl f)))))) (ht : tys[t0]? = some (cA, .double)) {i : Int32} {x : UInt64} (hout : ¬ vp_in i n) (hdg : decode cc pc = .ok (.dastore, 1))
    (k : ∀ tx : String, tx = (toString "Index " ++ toString i ++ toString " out of bounds for length " ++ toString n : String) → vx_Note p l e R s m args below meth c H locs cells slots Q (F0 m pc ls rest) "java/lang/ArrayIndexOutOfBoundsException" tx) : W p l e R s m args below meth c H locs cells slots Q (F0 m pc ls (.double x :: .int i :: .ref a :: rest)) := by
  intro T hT X
  obtain ⟨t, st, q⟩ := k _ rfl T hT X
  refine ⟨t, ?_, q⟩
  have h1 := X.dastoreOut hexec (by rw [hT]; exact hP q0 _ ha) ((hK.2 t0 _ ht).1 n (fun j => .double (f j))) (j := i) (by show (i < 0 ∨ (arrV _ _ _).slots.size ≤ _); rw [arrV_size]; exact Classical.byContradiction hout) (g := F0 m pc ls (.double x :: .int i :: .ref a :: rest)) rfl (rest := rest) rfl (by rw [hb]; exact hdg) t
  simp only [arrV_size] at h1
  exact h1 st
theorem vx_arraylengthN (hexec : p.tables.exec = Jvm.exec) (hb : c.code = cc) (hdg : decode cc pc = .ok (.arraylength, 1)) (k : vx_NoteN p l e R s m args below meth c H locs cells slots Q (F0 m pc ls rest)) : W p l e R s m args below meth c H locs cells slots Q (F0 m pc ls (.null :: rest)) := by
  intro T hT X
  obtain ⟨t, st, q⟩ := k T hT X
  exact ⟨t, X.arraylengthNull hexec (g := F0 m pc ls (.null :: rest)) rfl (rest := rest) rfl (by rw [hb]; exact hdg) t st, q⟩
theorem vx_ialoadN (hexec : p.tables.exec = Jvm.exec) (hb : c.code = cc) {i : Int32} (hdg : decode cc pc = .ok (.iaload, 1)) (k : vx_NoteN p l e R s m args below meth c H locs cells slots Q (F0 m pc ls rest)) : W p l e R s m args below meth c H locs cells slots Q (F0 m pc ls (.int i :: .null :: rest)) := by
  intro T hT X
  obtain ⟨t, st, q⟩ := k T hT X
  exact ⟨t, X.ialoadNull hexec (g := F0 m pc ls (.int i :: .null :: rest)) rfl (rest := rest) rfl (by rw [hb]; exact hdg) t st, q⟩
theorem vx_laloadN (hexec : p.tables.exec = Jvm.exec) (hb : c.code = cc) {i : Int32} (hdg : decode cc pc = .ok (.laload, 1)) (k : vx_NoteN p l e R s m args below meth c H locs cells slots Q (F0 m pc ls rest)) : W p l e R s m args below meth c H locs cells slots Q (F0 m pc ls (.int i :: .null :: rest)) := by
  intro T hT X
  obtain ⟨t, st, q⟩ := k T hT X
  exact ⟨t, X.laloadNull hexec (g := F0 m pc ls (.int i :: .null :: rest)) rfl (rest := rest) rfl (by rw [hb]; exact hdg) t st, q⟩
theorem vx_faloadN (hexec : p.tables.exec = Jvm.exec) (hb : c.code = cc) {i : Int32} (hdg : decode cc pc = .ok (.faload, 1)) (k : vx_NoteN p l e R s m args below meth c H locs cells slots Q (F0 m pc ls rest)) : W p l e R s m args below meth c H locs cells slots Q (F0 m pc ls (.int i :: .null :: rest)) := by
  intro T hT X
  obtain ⟨t, st, q⟩ := k T hT X
  exact ⟨t, X.faloadNull hexec (g := F0 m pc ls (.int i :: .null :: rest)) rfl (rest := rest) rfl (by rw [hb]; exact hdg) t st, q⟩
theorem vx_daloadN (hexec : p.tables.exec = Jvm.exec) (hb : c.code = cc) {i : Int32} (hdg : decode cc pc = .ok (.daload, 1)) (k : vx_NoteN p l e R s m args below meth c H locs cells slots Q (F0 m pc ls rest)) : W p l e R s m args below meth c H locs cells slots Q (F0 m pc ls (.int i :: .null :: rest)) := by
  intro T hT X
  obtain ⟨t, st, q⟩ := k T hT X
  exact ⟨t, X.daloadNull hexec (g := F0 m pc ls (.int i :: .null :: rest)) rfl (rest := rest) rfl (by rw [hb]; exact hdg) t st, q⟩
theorem vx_aaloadN (hexec : p.tables.exec = Jvm.exec) (hb : c.code = cc) {i : Int32} (hdg : decode cc pc = .ok (.aaload, 1)) (k : vx_NoteN p l e R s m args below meth c H locs cells slots Q (F0 m pc ls rest)) : W p l e R s m args below meth c H locs cells slots Q (F0 m pc ls (.int i :: .null :: rest)) := by
  intro T hT X
  obtain ⟨t, st, q⟩ := k T hT X
  exact ⟨t, X.aaloadNull hexec (g := F0 m pc ls (.int i :: .null :: rest)) rfl (rest := rest) rfl (by rw [hb]; exact hdg) t st, q⟩
theorem vx_baloadN (hexec : p.tables.exec = Jvm.exec) (hb : c.code = cc) {i : Int32} (hdg : decode cc pc = .ok (.baload, 1)) (k : vx_NoteN p l e R s m args below meth c H locs cells slots Q (F0 m pc ls rest)) : W p l e R s m args below meth c H locs cells slots Q (F0 m pc ls (.int i :: .null :: rest)) := by
  intro T hT X
  obtain ⟨t, st, q⟩ := k T hT X
  exact ⟨t, X.baloadNull hexec (g := F0 m pc ls (.int i :: .null :: rest)) rfl (rest := rest) rfl (by rw [hb]; exact hdg) t st, q⟩
theorem vx_caloadN (hexec : p.tables.exec = Jvm.exec) (hb : c.code = cc) {i : Int32} (hdg : decode cc pc = .ok (.caload, 1)) (k : vx_NoteN p l e R s m args below meth c H locs cells slots Q (F0 m pc ls rest)) : W p l e R s m args below meth c H locs cells slots Q (F0 m pc ls (.int i :: .null :: rest)) := by
  intro T hT X
  obtain ⟨t, st, q⟩ := k T hT X
  exact ⟨t, X.caloadNull hexec (g := F0 m pc ls (.int i :: .null :: rest)) rfl (rest := rest) rfl (by rw [hb]; exact hdg) t st, q⟩
theorem vx_saloadN (hexec : p.tables.exec = Jvm.exec) (hb : c.code = cc) {i : Int32} (hdg : decode cc pc = .ok (.saload, 1)) (k : vx_NoteN p l e R s m args below meth c H locs cells slots Q (F0 m pc ls rest)) : W p l e R s m args below meth c H locs cells slots Q (F0 m pc ls (.int i :: .null :: rest)) := by
  intro T hT X
  obtain ⟨t, st, q⟩ := k T hT X
  exact ⟨t, X.saloadNull hexec (g := F0 m pc ls (.int i :: .null :: rest)) rfl (rest := rest) rfl (by rw [hb]; exact hdg) t st, q⟩
theorem vx_iastoreN (hexec : p.tables.exec = Jvm.exec) (hb : c.code = cc) {x : Int32} {i : Int32} (hdg : decode cc pc = .ok (.iastore, 1)) (k : vx_NoteN p l e R s m args below meth c H locs cells slots Q (F0 m pc ls rest)) : W p l e R s m args below meth c H locs cells slots Q (F0 m pc ls (.int x :: .int i :: .null :: rest)) := by
  intro T hT X
  obtain ⟨t, st, q⟩ := k T hT X
  exact ⟨t, X.iastoreNull hexec (g := F0 m pc ls (.int x :: .int i :: .null :: rest)) rfl (rest := rest) rfl (by rw [hb]; exact hdg) t st, q⟩
theorem vx_lastoreN (hexec : p.tables.exec = Jvm.exec) (hb : c.code = cc) {x : Int64} {i : Int32} (hdg : decode cc pc = .ok (.lastore, 1)) (k : vx_NoteN p l e R s m args below meth c H locs cells slots Q (F0 m pc ls rest)) : W p l e R s m args below meth c H locs cells slots Q (F0 m pc ls (.long x :: .int i :: .null :: rest)) := by
  intro T hT X
  obtain ⟨t, st, q⟩ := k T hT X
  exact ⟨t, X.lastoreNull hexec (g := F0 m pc ls (.long x :: .int i :: .null :: rest)) rfl (rest := rest) rfl (by rw [hb]; exact hdg) t st, q⟩
theorem vx_fastoreN (hexec : p.tables.exec = Jvm.exec) (hb : c.code = cc) {x : UInt32} {i : Int32} (hdg : decode cc pc = .ok (.fastore, 1)) (k : vx_NoteN p l e R s m args below meth c H locs cells slots Q (F0 m pc ls rest)) : W p l e R s m args below meth c H locs cells slots Q (F0 m pc ls (.float x :: .int i :: .null :: rest)) := by
  intro T hT X
  obtain ⟨t, st, q⟩ := k T hT X
  exact ⟨t, X.fastoreNull hexec (g := F0 m pc ls (.float x :: .int i :: .null :: rest)) rfl (rest := rest) rfl (by rw [hb]; exact hdg) t st, q⟩
theorem vx_dastoreN (hexec : p.tables.exec = Jvm.exec) (hb : c.code = cc) {x : UInt64} {i : Int32} (hdg : decode cc pc = .ok (.dastore, 1)) (k : vx_NoteN p l e R s m args below meth c H locs cells slots Q (F0 m pc ls rest)) : W p l e R s m args below meth c H locs cells slots Q (F0 m pc ls (.double x :: .int i :: .null :: rest)) := by
  intro T hT X
  obtain ⟨t, st, q⟩ := k T hT X
  exact ⟨t, X.dastoreNull hexec (g := F0 m pc ls (.double x :: .int i :: .null :: rest)) rfl (rest := rest) rfl (by rw [hb]; exact hdg) t st, q⟩
theorem vx_bastoreN (hexec : p.tables.exec = Jvm.exec) (hb : c.code = cc) {x : Int32} {i : Int32} (hdg : decode cc pc = .ok (.bastore, 1)) (k : vx_NoteN p l e R s m args below meth c H locs cells slots Q (F0 m pc ls rest)) : W p l e R s m args below meth c H locs cells slots Q (F0 m pc ls (.int x :: .int i :: .null :: rest)) := by
  intro T hT X
  obtain ⟨t, st, q⟩ := k T hT X
  exact ⟨t, X.bastoreNull hexec (g := F0 m pc ls (.int x :: .int i :: .null :: rest)) rfl (rest := rest) rfl (by rw [hb]; exact hdg) t st, q⟩
theorem vx_castoreN (hexec : p.tables.exec = Jvm.exec) (hb : c.code = cc) {x : Int32} {i : Int32} (hdg : decode cc pc = .ok (.castore, 1)) (k : vx_NoteN p l e R s m args below meth c H locs cells slots Q (F0 m pc ls rest)) : W p l e R s m args below meth c H locs cells slots Q (F0 m pc ls (.int x :: .int i :: .null :: rest)) := by
  intro T hT X
  obtain ⟨t, st, q⟩ := k T hT X
  exact ⟨t, X.castoreNull hexec (g := F0 m pc ls (.int x :: .int i :: .null :: rest)) rfl (rest := rest) rfl (by rw [hb]; exact hdg) t st, q⟩
theorem vx_sastoreN (hexec : p.tables.exec = Jvm.exec) (hb : c.code = cc) {x : Int32} {i : Int32} (hdg : decode cc pc = .ok (.sastore, 1)) (k : vx_NoteN p l e R s m args below meth c H locs cells slots Q (F0 m pc ls rest)) : W p l e R s m args below meth c H locs cells slots Q (F0 m pc ls (.int x :: .int i :: .null :: rest)) := by
  intro T hT X
  obtain ⟨t, st, q⟩ := k T hT X
  exact ⟨t, X.sastoreNull hexec (g := F0 m pc ls (.int x :: .int i :: .null :: rest)) rfl (rest := rest) rfl (by rw [hb]; exact hdg) t st, q⟩
theorem vx_invokeN {own C : String} {index maxL : Nat} {y : MethodName} {bytes : ByteArray} {ret : Option FieldType} (hexec : p.tables.exec = Jvm.exec) (hb : c.code = cc) (hown : s.vm.findClass own = some m.cls) (hlink : (Cond.methodLink own index y).before args s = true) (hinst : (Cond.instanceMethod y).before args s = true) (hcode : (Cond.code y bytes maxL ret).before args s = true) (hsel : (Cond.selects C y y).before args s = true)
    (hx : y.cls ≠ "java/lang/invoke/MethodHandle" ∧ y.cls ≠ "java/lang/invoke/VarHandle") {As : List Value} (hlen : (parseMethodDescriptor y.desc).map (fun d => d.parameters.length) = some As.length) (hdg : decode cc pc = .ok (.invokevirtual index, 3))
    (k : vx_NoteN p l e R s m args below meth c H locs cells slots Q (F0 m pc ls rest)) {st0 : List Value} (hst : st0 = As.reverse ++ .null :: rest) : W p l e R s m args below meth c H locs cells slots Q (F0 m pc ls st0) := by
  intro T hT X
  obtain ⟨r0, r, hn, hrm, hstR, hsigR⟩ := va_Decl.of hinst hcode
  obtain ⟨c2, r2, m2, q1, q2, q3, q4, kP, hkP, hkPi⟩ := Cond.selects_spec hsel
  cases hn.symm.trans q3
  have hl9 : As.length = r.sig.parameters.length := by
    rw [hsigR] at hlen
    exact (Option.some.inj hlen).symm
  obtain ⟨vm', X1, st1⟩ := X.invokevirtualNull hexec hown hlink hn hrm hstR hkP hkPi hx (g := F0 m pc ls st0) rfl (argsL := As) (rest := rest) hl9 hst (by rw [hb]; exact hdg)
  obtain ⟨t, st, q⟩ := k (T.setVm vm') hT X1
  exact ⟨t, st1 t st, q⟩
theorem vx_newarrayZ {atype : ArrayType} (hexec : p.tables.exec = Jvm.exec) (hb : c.code = cc) {n : Int32} (h0 : n < 0) (hdg : decode cc pc = .ok (.newarray atype, 2)) (k : ∀ tx : String, tx = toString n → vx_Note p l e R s m args below meth c H locs cells slots Q (F0 m pc ls rest) "java/lang/NegativeArraySizeException" tx) : W p l e R s m args below meth c H locs cells slots Q (F0 m pc ls (.int n :: rest)) := by
  intro T hT X
  obtain ⟨t, st, q⟩ := k _ rfl T hT X
  exact ⟨t, X.newarrayNegative hexec (g := F0 m pc ls (.int n :: rest)) rfl h0 (rest := rest) rfl (by rw [hb]; exact hdg) t st, q⟩
end
end VXM
/-! ===== END ===== -/
/-! ===== BEGIN an exception as an object: made, kept, thrown later (no traces kept) ===== -/
section VXK
variable {p : Program} {l : Launch} {e : Env} {R : Room} {s : State} {m₀ : MethodId} {args : Array Value} {below : List Frame} {meth : Method} {c : Code} {W : State} {locs : List Loc} {cells slots : Nat}
set_option maxHeartbeats 1000000 in
theorem vx_ctorMadeS (X : Stand p l e R s m₀ args below meth c W locs cells slots) (hexec : p.tables.exec = Jvm.exec) (htr : e.platform.stackTraces = false) {own cls : String} {names : List String} {ic : Nat}
    (hown : s.vm.findClass own = some m₀.cls) (hcls : Bundle.fit cls = true) (hnames : ∀ n ∈ names, Bundle.fit n = true)
    (h : ∀ a ∈ Bundle.ownAtoms own ic cls names, a.before args s = true)
    (hlocs : ∀ x ∈ locs, ∀ cell, s.heap[x.base]? = some cell → cell.vm.isStatics = false)
    {a : Addr} {cX : ClassId} {kX : Class} (hfoundX : s.vm.findClass cls = some cX) (hkX : s.vm.classes[cX]? = some kX) (hcell : W.heap[a]? = some (freshCell cX kX)) (hnew : s.heap.size ≤ a)
    {msg : Value} (hmsg : msg.isRef = true)
    {g : JFrame} (hg : g.method = m₀) (hsize : g.locals.size = c.maxLocals) {rest : List Value} (hstack : g.stack = msg :: .ref a :: .ref a :: rest)
    (hd6 : decode c.code g.pc = .ok (.invokespecial ic, 3))
    (hRframes : names.length + 3 < R.frames) (hRlocals : 2 * g.monitorRoom + ((Value.ref a :: rest).map fun v => v.category).sum + (13 * (names.length + 1) + 42) ≤ R.locals) :
    ∃ (V : State) (ce : Cell) (L : List Loc), Stand p l e R s m₀ args below meth c (V.setCell a ce) (locs ++ L) cells slots ∧ (∀ y ∈ L, y.base = a) ∧ a < V.heap.size ∧ ce.cls = cX ∧ ce.vm = .none ∧
      ∀ target, Steps p.tables e below ((V.setCell a ce).setTop { g with stack := .ref a :: rest, pc := g.pc + 3 }) target → Steps p.tables e below (W.setTop g) target := by
  have howns : e.platform.frameOwnsMonitors = true := by rw [X.admits.platform]
  have hfin : e.platform.finalization = false := by rw [X.admits.platform]
  have hpl : e.platform.magicAccessors = ({} : Platform).magicAccessors := by rw [X.admits.platform]
  have a' : ∀ x, x ∈ Bundle.ownAtoms own ic cls names → x.holds args s none s [] = true := fun x hx => h x hx
  obtain ⟨T, Z0, L, -, Y⟩ := ThrowableC.of_atoms (args := args) howns hfin hpl (fun x hx => h x (by simp [Bundle.ownAtoms, hx]))
  obtain ⟨Z, M, LZ, LM, hnZ⟩ := Init0T.ofS_atoms (args := args) hpl L Y (fun x hx => h x (by simp [Bundle.ownAtoms, hx]))
  obtain ⟨P1, Ps, hlen, L1, hL, hP1m, hlink1, hlink⟩ := Bundle.chainS (args := args) hpl hnZ names cls hcls hnames (fun x hx => h x (by simp [Bundle.ownAtoms, hx]))
  have hfound : s.vm.findClass cls = some P1.m.cls := findClass_of_methodNamed hP1m
  cases Option.some.inj (hfoundX.symm.trans hfound)
  obtain ⟨c1, kX', hc1, hk, hord, -, -, hn6⟩ := Cond.instantiable_spec (a' (.instantiable cls 6) (by simp [Bundle.ownAtoms]))
  cases Option.some.inj (hc1.symm.trans hfound)
  cases Option.some.inj (hkX.symm.trans hk)
  have hsel0 : selectMethod e.platform s.vm P1.m.cls T.fill0 = .method T.fill0 := by
    obtain ⟨c2, r2, m2, q1, q2, q3, q4, -⟩ := Cond.selects_spec (a' (.selects cls Bundle.tFill0 Bundle.tFill0) (by simp [Bundle.ownAtoms]))
    cases Option.some.inj (q1.symm.trans hfound)
    cases Option.some.inj (q2.symm.trans (State.methodFound?_of_named Y.fill0 (by decide)))
    cases Option.some.inj (q3.symm.trans Y.fill0)
    rw [Launch.admits_selectMethod X.admits]; exact q4
  have hselF : selectMethod e.platform s.vm P1.m.cls T.fill = .method T.fill := by
    obtain ⟨c2, r2, m2, q1, q2, q3, q4, -⟩ := Cond.selects_spec (a' (.selects cls Bundle.tFill Bundle.tFill) (by simp [Bundle.ownAtoms]))
    cases Option.some.inj (q1.symm.trans hfound)
    cases Option.some.inj (q2.symm.trans (State.methodFound?_of_named Y.fill (by decide)))
    cases Option.some.inj (q3.symm.trans Y.fill)
    rw [Launch.admits_selectMethod X.admits]; exact q4
  obtain ⟨cellS0, hcS0, hiss⟩ := Y.statics
  obtain ⟨u0, hu0⟩ := Cond.staticRefV Y.unassigned L.unassignedStatic L.statics hcS0 hiss (a' (.isRef (.static Bundle.tN "UNASSIGNED_STACK" Bundle.steD)) (by simp [Bundle.ownAtoms]))
  obtain ⟨sen, hsen⟩ := Cond.staticRefV Y.sentinel L.sentinelStatic L.statics hcS0 hiss (a' (.isRef (.static Bundle.tN "SUPPRESSED_SENTINEL" Bundle.listD)) (by simp [Bundle.ownAtoms]))
  obtain ⟨ci198, i198, fB, hk198, hg198, ha198, hsB, -, hnB, htB, hffB⟩ := Cond.ownField (t := .object "java/lang/Object") Y.found L.cls (by decide +kernel) (a' (.fieldLink Bundle.tN 198 Bundle.tN "backtrace" "Ljava/lang/Object;") (by simp [Bundle.ownAtoms])) (a' (.lays Bundle.tN Bundle.tN "backtrace" "Ljava/lang/Object;") (by simp [Bundle.ownAtoms])) e.platform hpl
  obtain ⟨cellS, hcS', heS, -, hkeep⟩ := X.same.2.2.2.2.2 T.aS cellS0 hcS0
  have hcellS : W.heap[T.aS]? = some cellS := hcS'
  have hout' : ∀ i, (⟨T.aS, i⟩ : Loc) ∉ locs := fun i hmem => by
    have := hlocs _ hmem cellS0 hcS0
    rw [hiss] at this; cases this
  have hknownS : cellS.vm ≠ .unknown := by
    rw [heS]; intro hu
    rw [show cellS0.vm = .unknown from hu] at hiss
    cases hiss
  have hneS : T.aS ≠ a := Nat.ne_of_lt (Nat.lt_of_lt_of_le (Array.getElem?_eq_some_iff.mp hcS0).1 hnew)
  obtain ⟨iM, hffM⟩ := Y.msg
  obtain ⟨tyC, dC, hdC, hdnC⟩ := Cond.laysAt hfound hk Y.cause (a' (.lays cls Bundle.tN "cause" "Ljava/lang/Throwable;") (by simp [Bundle.ownAtoms]))
  obtain ⟨tyS, dS, hdS, hdnS⟩ := Cond.laysAt hfound hk Y.stack (a' (.lays cls Bundle.tN "stackTrace" Bundle.steD) (by simp [Bundle.ownAtoms]))
  obtain ⟨tyP, dP, hdP, hdnP⟩ := Cond.laysAt hfound hk Y.supp (a' (.lays cls Bundle.tN "suppressedExceptions" Bundle.listD) (by simp [Bundle.ownAtoms]))
  obtain ⟨tyM, dM, hdM, hdnM⟩ := Cond.laysAt hfound hk hffM (a' (.lays cls Bundle.tN "detailMessage" "Ljava/lang/String;") (by simp [Bundle.ownAtoms]))
  obtain ⟨tyB, dB, hdB, hdnB⟩ := Cond.laysAt hfound hk hffB (a' (.lays cls Bundle.tN "backtrace" "Ljava/lang/Object;") (by simp [Bundle.ownAtoms]))
  have bC := Cond.laysApart hdB hdC hdnB hdnC (by rw [hnB, Y.causeName]; decide)
  have bS := Cond.laysApart hdB hdS hdnB hdnS (by rw [hnB, Y.stackName]; decide)
  have bP := Cond.laysApart hdB hdP hdnB hdnP (by rw [hnB, Y.suppName]; decide)
  have hskip : SkipFacts T e.platform s (fun u => u) u0 ((preparedCellV T.toThrowableT (freshCell P1.m.cls kX) a u0 sen).withEntry W.cur) :=
    ⟨{ ci198 := ci198, i198 := i198, fBack := fB }, ⟨hk198, hg198, ha198, hsB⟩, by
      have := fresh_default (c := P1.m.cls) tyB
      rw [htB] at this
      simpa [preparedCellV, Cell.setSlot, Cell.withEntry, Array.getElem?_setIfInBounds, bC, bS, bP, bC.symm, bS.symm, bP.symm, defaultValue] using this, fun _ _ => rfl⟩
  obtain ⟨tm, methC, cdC, kC, vm₁, hnC, -, -, -, -, -, -, -, hW₁, st1⟩ := Steps.initColdS (tb := p.tables) (e := e) (below := below) (s := s) (U := W) X.here hexec X.warmed hpl hown (t := Bundle.initS cls) rfl rfl (Bundle.fit_spec hcls).2
    (a' (.methodLink own ic (Bundle.initS cls)) (by simp [Bundle.ownAtoms])) (h (.instanceMethod (Bundle.initS cls)) (by cases names <;> simp [Bundle.ownAtoms, Bundle.chainSAtoms, Bundle.passSAtoms])) (bytes := Bundle.six) (maxL := 2) (h (.code (Bundle.initS cls) Bundle.six 2 none) (by cases names <;> simp [Bundle.ownAtoms, Bundle.chainSAtoms, Bundle.passSAtoms]))
    (f := g) hg (a := a) (msg := msg) (rest := .ref a :: rest) hstack hd6
  cases Option.some.inj (hnC.symm.trans hP1m)
  have X₁ := X.noted hW₁
  obtain ⟨vm₂, X₂, st2⟩ := X₁.ctorMessageOffV hexec (g := { g with stack := .ref a :: rest }) hg hsize T L Z LZ M LM (P1 :: Ps)
    (fun P hP => by rcases List.mem_cons.mp hP with rfl | hP; exact L1; exact hL P hP) ⟨hlink1, hlink⟩ (u0 := u0) (sen := sen) (self := a) hmsg (cell := freshCell P1.m.cls kX) (cellS := cellS)
    hcell (fun _ => by simp) (by simp) rfl rfl hsel0 hselF hcellS hneS hknownS (by rw [hkeep _ (hout' _)]; exact hu0) (by rw [hkeep _ (hout' _)]; exact hsen)
    (Takes.of_laid hk hord tyC (by rw [Y.causeType]; rfl)) (Takes.of_laid hk hord tyS (by rw [Y.stackType]; exact fits_refV_array _ u0)) (Takes.of_laid hk hord tyP (by rw [Y.suppType]; exact fits_refV_object _ sen))
    (Takes.of_laid hk hord tyM (by rw [Y.msgType]; exact fits_refV_object _ ⟨msg, hmsg⟩)) Y.objLocals hskip htr [] hd6
    (by simp only [List.length_cons, hlen]; omega) (by simp only [List.length_cons, hlen]; exact hRlocals)
  have hlt : a < ((W.setVm vm₁).setVm vm₂).heap.size := (Array.getElem?_eq_some_iff.mp hcell).1
  refine ⟨(W.setVm vm₁).setVm vm₂, _, _, X₂, fun y hy => ?_, hlt, rfl, rfl, fun target hwalk => st1 _ (fun acts => ?_)⟩
  · simp only [List.mem_cons, List.not_mem_nil, or_false] at hy
    rcases hy with rfl | rfl | rfl | rfl | rfl <;> rfl
  · rw [doInvoke_state]
    exact st2 _ hwalk
set_option maxHeartbeats 1000000 in
theorem vx_ctorMade0 (X : Stand p l e R s m₀ args below meth c W locs cells slots) (hexec : p.tables.exec = Jvm.exec) (htr : e.platform.stackTraces = false) {own cls : String} {names : List String} {ic : Nat}
    (hown : s.vm.findClass own = some m₀.cls) (hcls : Bundle.fit cls = true) (hnames : ∀ n ∈ names, Bundle.fit n = true)
    (h : ∀ a ∈ Bundle.ownAtoms0 own ic cls names, a.before args s = true)
    (hlocs : ∀ x ∈ locs, ∀ cell, s.heap[x.base]? = some cell → cell.vm.isStatics = false)
    {a : Addr} {cX : ClassId} {kX : Class} (hfoundX : s.vm.findClass cls = some cX) (hkX : s.vm.classes[cX]? = some kX) (hcell : W.heap[a]? = some (freshCell cX kX)) (hnew : s.heap.size ≤ a)
    {g : JFrame} (hg : g.method = m₀) (hsize : g.locals.size = c.maxLocals) {rest : List Value} (hstack : g.stack = .ref a :: .ref a :: rest)
    (hd6 : decode c.code g.pc = .ok (.invokespecial ic, 3))
    (hRframes : names.length + 3 < R.frames) (hRlocals : 2 * g.monitorRoom + ((Value.ref a :: rest).map fun v => v.category).sum + (13 * (names.length + 1) + 41) ≤ R.locals) :
    ∃ (V : State) (ce : Cell) (L : List Loc), Stand p l e R s m₀ args below meth c (V.setCell a ce) (locs ++ L) cells slots ∧ (∀ y ∈ L, y.base = a) ∧ a < V.heap.size ∧ ce.cls = cX ∧ ce.vm = .none ∧
      ∀ target, Steps p.tables e below ((V.setCell a ce).setTop { g with stack := .ref a :: rest, pc := g.pc + 3 }) target → Steps p.tables e below (W.setTop g) target := by
  have howns : e.platform.frameOwnsMonitors = true := by rw [X.admits.platform]
  have hfin : e.platform.finalization = false := by rw [X.admits.platform]
  have hpl : e.platform.magicAccessors = ({} : Platform).magicAccessors := by rw [X.admits.platform]
  have a' : ∀ x, x ∈ Bundle.ownAtoms0 own ic cls names → x.holds args s none s [] = true := fun x hx => h x hx
  obtain ⟨T, Z, L, LZ, Y⟩ := ThrowableC.of_atoms (args := args) howns hfin hpl (fun x hx => h x (by simp [Bundle.ownAtoms0, hx]))
  obtain ⟨P1, Ps, hlen, L1, hL, hP1m, hlink1, hlink⟩ := Bundle.chain0 (args := args) hpl Y.init0 names cls hcls hnames (fun x hx => h x (by simp [Bundle.ownAtoms0, hx]))
  have hfound : s.vm.findClass cls = some P1.m.cls := findClass_of_methodNamed hP1m
  cases Option.some.inj (hfoundX.symm.trans hfound)
  obtain ⟨c1, kX', hc1, hk, hord, -, -, hn6⟩ := Cond.instantiable_spec (a' (.instantiable cls 6) (by simp [Bundle.ownAtoms0]))
  cases Option.some.inj (hc1.symm.trans hfound)
  cases Option.some.inj (hkX.symm.trans hk)
  have hsel0 : selectMethod e.platform s.vm P1.m.cls T.fill0 = .method T.fill0 := by
    obtain ⟨c2, r2, m2, q1, q2, q3, q4, -⟩ := Cond.selects_spec (a' (.selects cls Bundle.tFill0 Bundle.tFill0) (by simp [Bundle.ownAtoms0]))
    cases Option.some.inj (q1.symm.trans hfound)
    cases Option.some.inj (q2.symm.trans (State.methodFound?_of_named Y.fill0 (by decide)))
    cases Option.some.inj (q3.symm.trans Y.fill0)
    rw [Launch.admits_selectMethod X.admits]; exact q4
  have hselF : selectMethod e.platform s.vm P1.m.cls T.fill = .method T.fill := by
    obtain ⟨c2, r2, m2, q1, q2, q3, q4, -⟩ := Cond.selects_spec (a' (.selects cls Bundle.tFill Bundle.tFill) (by simp [Bundle.ownAtoms0]))
    cases Option.some.inj (q1.symm.trans hfound)
    cases Option.some.inj (q2.symm.trans (State.methodFound?_of_named Y.fill (by decide)))
    cases Option.some.inj (q3.symm.trans Y.fill)
    rw [Launch.admits_selectMethod X.admits]; exact q4
  obtain ⟨cellS0, hcS0, hiss⟩ := Y.statics
  obtain ⟨u0, hu0⟩ := Cond.staticRefV Y.unassigned L.unassignedStatic L.statics hcS0 hiss (a' (.isRef (.static Bundle.tN "UNASSIGNED_STACK" Bundle.steD)) (by simp [Bundle.ownAtoms0]))
  obtain ⟨sen, hsen⟩ := Cond.staticRefV Y.sentinel L.sentinelStatic L.statics hcS0 hiss (a' (.isRef (.static Bundle.tN "SUPPRESSED_SENTINEL" Bundle.listD)) (by simp [Bundle.ownAtoms0]))
  obtain ⟨ci198, i198, fB, hk198, hg198, ha198, hsB, -, hnB, htB, hffB⟩ := Cond.ownField (t := .object "java/lang/Object") Y.found L.cls (by decide +kernel) (a' (.fieldLink Bundle.tN 198 Bundle.tN "backtrace" "Ljava/lang/Object;") (by simp [Bundle.ownAtoms0])) (a' (.lays Bundle.tN Bundle.tN "backtrace" "Ljava/lang/Object;") (by simp [Bundle.ownAtoms0])) e.platform hpl
  obtain ⟨cellS, hcS', heS, -, hkeep⟩ := X.same.2.2.2.2.2 T.aS cellS0 hcS0
  have hcellS : W.heap[T.aS]? = some cellS := hcS'
  have hout' : ∀ i, (⟨T.aS, i⟩ : Loc) ∉ locs := fun i hmem => by
    have := hlocs _ hmem cellS0 hcS0
    rw [hiss] at this; cases this
  have hknownS : cellS.vm ≠ .unknown := by
    rw [heS]; intro hu
    rw [show cellS0.vm = .unknown from hu] at hiss
    cases hiss
  have hneS : T.aS ≠ a := Nat.ne_of_lt (Nat.lt_of_lt_of_le (Array.getElem?_eq_some_iff.mp hcS0).1 hnew)
  obtain ⟨iM, hffM⟩ := Y.msg
  obtain ⟨tyC, dC, hdC, hdnC⟩ := Cond.laysAt hfound hk Y.cause (a' (.lays cls Bundle.tN "cause" "Ljava/lang/Throwable;") (by simp [Bundle.ownAtoms0]))
  obtain ⟨tyS, dS, hdS, hdnS⟩ := Cond.laysAt hfound hk Y.stack (a' (.lays cls Bundle.tN "stackTrace" Bundle.steD) (by simp [Bundle.ownAtoms0]))
  obtain ⟨tyP, dP, hdP, hdnP⟩ := Cond.laysAt hfound hk Y.supp (a' (.lays cls Bundle.tN "suppressedExceptions" Bundle.listD) (by simp [Bundle.ownAtoms0]))
  obtain ⟨tyM, dM, hdM, hdnM⟩ := Cond.laysAt hfound hk hffM (a' (.lays cls Bundle.tN "detailMessage" "Ljava/lang/String;") (by simp [Bundle.ownAtoms0]))
  obtain ⟨tyB, dB, hdB, hdnB⟩ := Cond.laysAt hfound hk hffB (a' (.lays cls Bundle.tN "backtrace" "Ljava/lang/Object;") (by simp [Bundle.ownAtoms0]))
  have bC := Cond.laysApart hdB hdC hdnB hdnC (by rw [hnB, Y.causeName]; decide)
  have bS := Cond.laysApart hdB hdS hdnB hdnS (by rw [hnB, Y.stackName]; decide)
  have bP := Cond.laysApart hdB hdP hdnB hdnP (by rw [hnB, Y.suppName]; decide)
  have hskip : SkipFacts T e.platform s (fun u => u) u0 ((preparedCellV T.toThrowableT (freshCell P1.m.cls kX) a u0 sen).withEntry W.cur) :=
    ⟨{ ci198 := ci198, i198 := i198, fBack := fB }, ⟨hk198, hg198, ha198, hsB⟩, by
      have := fresh_default (c := P1.m.cls) tyB
      rw [htB] at this
      simpa [preparedCellV, Cell.setSlot, Cell.withEntry, Array.getElem?_setIfInBounds, bC, bS, bP, bC.symm, bS.symm, bP.symm, defaultValue] using this, fun _ _ => rfl⟩
  obtain ⟨tm, methC, cdC, kC, vm₁, hnC, -, -, -, -, -, -, -, hW₁, st1⟩ := Steps.initCold (tb := p.tables) (e := e) (below := below) (s := s) (U := W) X.here hexec X.warmed hpl hown (t := Bundle.init0 cls) rfl rfl (Bundle.fit_spec hcls).2
    (a' (.methodLink own ic (Bundle.init0 cls)) (by simp [Bundle.ownAtoms0])) (h (.instanceMethod (Bundle.init0 cls)) (by cases names <;> simp [Bundle.ownAtoms0, Bundle.chain0Atoms, Bundle.passAtoms])) (bytes := Bundle.five) (maxL := 1) (h (.code (Bundle.init0 cls) Bundle.five 1 none) (by cases names <;> simp [Bundle.ownAtoms0, Bundle.chain0Atoms, Bundle.passAtoms]))
    (f := g) hg (a := a) (rest := .ref a :: rest) hstack hd6
  cases Option.some.inj (hnC.symm.trans hP1m)
  have X₁ := X.noted hW₁
  obtain ⟨vm₂, X₂, st2⟩ := X₁.ctorPlainOffV hexec (g := { g with stack := .ref a :: rest }) hg hsize T L Z LZ (P1 :: Ps)
    (fun P hP => by rcases List.mem_cons.mp hP with rfl | hP; exact L1; exact hL P hP) ⟨hlink1, hlink⟩ (u0 := u0) (sen := sen) (self := a) (cell := freshCell P1.m.cls kX) (cellS := cellS)
    hcell (fun _ => by simp) (by simp) rfl rfl hsel0 hselF hcellS hneS hknownS (by rw [hkeep _ (hout' _)]; exact hu0) (by rw [hkeep _ (hout' _)]; exact hsen)
    (Takes.of_laid hk hord tyC (by rw [Y.causeType]; rfl)) (Takes.of_laid hk hord tyS (by rw [Y.stackType]; exact fits_refV_array _ u0)) (Takes.of_laid hk hord tyP (by rw [Y.suppType]; exact fits_refV_object _ sen)) Y.objLocals hskip htr [] hd6
    (by simp only [List.length_cons, hlen]; omega) (by simp only [List.length_cons, hlen]; exact hRlocals)
  have hlt : a < ((W.setVm vm₁).setVm vm₂).heap.size := (Array.getElem?_eq_some_iff.mp hcell).1
  refine ⟨(W.setVm vm₁).setVm vm₂, _, _, X₂, fun y hy => ?_, hlt, rfl, rfl, fun target hwalk => st1 _ (fun acts => ?_)⟩
  · simp only [List.mem_cons, List.not_mem_nil, or_false] at hy
    rcases hy with rfl | rfl | rfl | rfl <;> rfl
  · rw [doInvoke_state]
    exact st2 _ hwalk
end VXK
section VXK2
variable {p : Program} {l : Launch} {e : Env} {R : Room} {s : State} {m : MethodId} {args : Array Value} {below : List Frame} {meth : Method} {c : Code} {H : Heap} {locs : List Loc} {cells slots : Nat} {Q : State → Prop}
variable {ls : Array Slot} {rest : List Value} {D : va_G} {cl : List vw_C} {tys : List (ClassId × FieldType)} {ws : va_W}
/-- 'new E("text")' that isn't thrown at once: the object goes on the stack -/
theorem vx_makeS {cc : ByteArray} {pc : Nat} (hexec : p.tables.exec = Jvm.exec) (hb : c.code = cc) (hl : l.stackTraces = false) {own cls text : String} {names : List String} {ik is ic sa ci : Nat} {A : Nat → Prop} {T0 : u_T}
    (hown : s.vm.findClass own = some m.cls) (hcls : Bundle.fit cls = true) (hnames : ∀ n ∈ names, Bundle.fit n = true)
    (hk : (Cond.classLink own ik cls).before args s = true) (hini : (Cond.initialized cls).before args s = true) (hstr : vk_R own is text sa s) (hat : ∀ w ∈ vx_atS own ic cls names, w.before args s = true)
    (hgood : ∀ w ∈ Cond.classLink own ik cls :: Cond.initialized cls :: vx_atS own ic cls names, vx_ot w = true)
    (hU : vx_Zq Bundle.tN "UNASSIGNED_STACK" Bundle.steD A s s.heap) (hN : vx_Zq Bundle.tN "SUPPRESSED_SENTINEL" Bundle.listD A s s.heap) (hS : va_S A s.heap H locs) (hsize : ls.size = c.maxLocals)
    (d0 : decode cc pc = .ok (.new ik, 3)) (d3 : decode cc (pc + 3) = .ok (.dup, 1)) (d4 : decode cc (pc + 4) = .ok (.ldc is, 2)) (d6 : decode cc (pc + 6) = .ok (.invokespecial ic, 3))
    (hK : va_K D cl tys s) (hP : va_P D cl ws H) (hD : va_D A ws) (hA : ∀ q, s.heap.size ≤ q → A q) (hc : cl[ci]? = some (cls, T0, 0))
    (hRframes : names.length + 3 < R.frames) (hRlocals : (rest.map fun v => v.category).sum + (13 * (names.length + 1) + 43) ≤ R.locals) (hRcells : cells + 1 ≤ R.cells) (hRslots : slots + 6 ≤ R.slots)
    (kk : ∀ (q : Nat) (H1 : Heap), va_P D cl (ws ++ [(q, .inr (ci, []))]) H1 → va_D A (ws ++ [(q, .inr (ci, []))]) → va_S A s.heap H1 locs → W p l e R s m args below meth c H1 locs (cells + 1) (slots + 6) Q (F0 m (pc + 9) ls (.ref q :: rest))) :
    W p l e R s m args below meth c H locs cells slots Q (F0 m pc ls rest) := by
  intro T hT X
  subst hT
  have htr : e.platform.stackTraces = false := (show e.platform.stackTraces = l.stackTraces by rw [X.admits.platform]).trans hl
  have Y := vx_rebase X (R' := { frames := R.frames, locals := R.locals, cells := 1, slots := 6 }) (Nat.le_refl _) (Nat.le_refl _) hRcells hRslots
  obtain ⟨s', hA'⟩ : ∃ z, z = (T.setVm s.vm).setFrames (.invoking m args :: below) := ⟨_, rfl⟩
  rw [← hA'] at Y
  have hvm : s'.vm = s.vm := by rw [hA']; rfl
  have hhp : s'.heap = T.heap := by rw [hA']; rfl
  have hW0 : s.WarmedH s'.vm := by rw [hvm]; exact State.WarmedH.refl s
  have hat' : ∀ w ∈ vx_atS own ic cls names, w.before args s' = true := fun w hw => vx_ot_at hW0 hvm.symm (hgood w (List.mem_cons_of_mem _ (List.mem_cons_of_mem _ hw))) (hat w hw)
  have hk' : (Cond.classLink own ik cls).before args s' = true := vx_ot_at hW0 hvm.symm (hgood _ List.mem_cons_self) hk
  have hini' : (Cond.initialized cls).before args s' = true := vx_ot_at hW0 hvm.symm (hgood _ (List.mem_cons_of_mem _ List.mem_cons_self)) hini
  have hU' : vx_Zq Bundle.tN "UNASSIGNED_STACK" Bundle.steD A s' s'.heap := by rw [hhp]; exact vx_Zq.moved hW0.alike (hU.kept hS.2.1)
  have hN' : vx_Zq Bundle.tN "SUPPRESSED_SENTINEL" Bundle.listD A s' s'.heap := by rw [hhp]; exact vx_Zq.moved hW0.alike (hN.kept hS.2.1)
  have h : ∀ w ∈ Bundle.ownAtoms own ic cls names, w.before args s' = true := vx_own hat' (vx_isRefq hU'.1) (vx_isRefq hN'.1) hU'.2.word hN'.2.word
  have hown' : s'.vm.findClass own = some m.cls := by rw [hvm]; exact hown
  have hins : (Cond.instantiable cls 6).before args s' = true := h _ (by simp [Bundle.ownAtoms])
  obtain ⟨vm₁, cX, kX, hfX, hkX, -, -, X₁, st1⟩ := Y.newCold hexec (own := own) (C := cls) (index := ik) (n := 6) hown' hk' hins hini'
    (g := F0 m pc ls rest) rfl (by rw [hb]; exact d0) (Nat.le_refl _) (Nat.le_refl _)
  generalize hT1 : (T.setVm vm₁).pushCell { cls := cX, slots := kX.instanceTypes.map defaultValue, vm := .none } = T1 at X₁ st1
  have hcat : (Value.ref T.heap.size).category = 1 := rfl
  have hcellA : T1.heap[T.heap.size]? = some (freshCell cX kX) := by rw [← hT1]; exact State.heap_pushCell_size _ _
  have d3' : decode c.code (pc + 3) = .ok (.dup, 1) := by rw [hb]; exact d3
  have d4' : decode c.code (pc + 4) = .ok (.ldc is, 2) := by rw [hb]; exact d4
  have hstr' : vk_R own is text sa s' := vk_R.warm hW0 hstr
  obtain ⟨V, ce, L, Z, hL, hlt, hcl9, hvm9, st⟩ := vx_ctorMadeS X₁ hexec htr (own := own) (cls := cls) (names := names) (ic := ic) hown' hcls hnames h (fun x hx => nomatch hx) hfX hkX hcellA (by rw [hhp]; exact Nat.le_refl _) (msg := .ref sa) rfl
    (g := { method := m, pc := pc + 6, locals := ls, stack := .ref sa :: .ref T.heap.size :: .ref T.heap.size :: rest, locked := none }) rfl hsize (rest := rest) rfl
    (by rw [hb]; exact d6) hRframes (by simp only [List.map_cons, List.sum_cons, hcat]; omega)
  have Z0 := Stand.forget (locs := []) Z (fun y hy => by rw [hL y hy, hhp]; exact Nat.le_refl _)
  obtain ⟨f1, f2⟩ := vx_frame Z0.same
  rw [hhp] at f1 f2
  have hcid : ce.cls = D.1 ci := by
    rw [hcl9]
    have h1 := (hK.1 ci _ hc).2.1
    rw [hvm] at hfX
    exact Option.some.inj (hfX.symm.trans h1)
  have hh : (V.setCell T.heap.size ce).heap[T.heap.size]? = some ce := heapAt_setCell_self (s := V) ce hlt
  subst hA'
  have X5 := vx_back9 X Y Z0
  have X6 : Stand p l e R s m args below meth c (V.setCell T.heap.size ce) locs (cells + 1) (slots + 6) := { X5 with same := X5.same.mono (by omega) (by omega) }
  have hk9 : ∀ (k : Nat) (x : Nat × va_E), ws[k]? = some x → (V.setCell T.heap.size ce).heap[x.1]? = T.heap[x.1]? := fun k x hx => f2 x.1 ((hP k x hx).lt) (fun z hz => nomatch hz)
  obtain ⟨t, a1, b1⟩ := kk T.heap.size (V.setCell T.heap.size ce).heap ((hP.kept hk9).app (fun k x hx => by
      have hz : k < 1 := (List.getElem?_eq_some_iff.mp hx).1
      rw [show k = 0 by omega] at hx
      cases hx
      exact ⟨_, hc, ce, hh, hcid, hvm9, fun k hk => absurd hk (Nat.not_lt_zero k)⟩)) (hD.push hP rfl (hA _ hS.1)) ⟨Nat.le_trans hS.1 f1, fun q h1 h2 => (f2 q (Nat.lt_of_lt_of_le h1 hS.1) (fun z hz => nomatch hz)).trans (hS.2.1 q h1 h2), hS.2.2⟩ _ rfl X6
  refine ⟨t, st1 _ ?_, b1⟩
  show Steps p.tables e below (T1.setTop { method := m, pc := pc + 3, locals := ls, stack := .ref T.heap.size :: rest, locked := none }) _
  jvm_step X₁.here [X₁.here.top, hexec, d3', Value.category]
  exact X₁.ldcString hexec (own := own) (text := text) (index := is) (a := sa) hown' hstr'.1 hstr'.2
    (g := { method := m, pc := pc + 4, locals := ls, stack := .ref T.heap.size :: .ref T.heap.size :: rest, locked := none }) rfl d4' _ (st _ a1)
/-- 'new E()' that isn't thrown at once: the object goes on the stack -/
theorem vx_make0 {cc : ByteArray} {pc : Nat} (hexec : p.tables.exec = Jvm.exec) (hb : c.code = cc) (hl : l.stackTraces = false) {own cls : String} {names : List String} {ik ic ci : Nat} {A : Nat → Prop} {T0 : u_T}
    (hown : s.vm.findClass own = some m.cls) (hcls : Bundle.fit cls = true) (hnames : ∀ n ∈ names, Bundle.fit n = true)
    (hk : (Cond.classLink own ik cls).before args s = true) (hini : (Cond.initialized cls).before args s = true) (hat : ∀ w ∈ vx_at0 own ic cls names, w.before args s = true)
    (hgood : ∀ w ∈ Cond.classLink own ik cls :: Cond.initialized cls :: vx_at0 own ic cls names, vx_ot w = true)
    (hU : vx_Zq Bundle.tN "UNASSIGNED_STACK" Bundle.steD A s s.heap) (hN : vx_Zq Bundle.tN "SUPPRESSED_SENTINEL" Bundle.listD A s s.heap) (hS : va_S A s.heap H locs) (hsize : ls.size = c.maxLocals)
    (d0 : decode cc pc = .ok (.new ik, 3)) (d3 : decode cc (pc + 3) = .ok (.dup, 1)) (d4 : decode cc (pc + 4) = .ok (.invokespecial ic, 3))
    (hK : va_K D cl tys s) (hP : va_P D cl ws H) (hD : va_D A ws) (hA : ∀ q, s.heap.size ≤ q → A q) (hc : cl[ci]? = some (cls, T0, 0))
    (hRframes : names.length + 3 < R.frames) (hRlocals : (rest.map fun v => v.category).sum + (13 * (names.length + 1) + 42) ≤ R.locals) (hRcells : cells + 1 ≤ R.cells) (hRslots : slots + 6 ≤ R.slots)
    (kk : ∀ (q : Nat) (H1 : Heap), va_P D cl (ws ++ [(q, .inr (ci, []))]) H1 → va_D A (ws ++ [(q, .inr (ci, []))]) → va_S A s.heap H1 locs → W p l e R s m args below meth c H1 locs (cells + 1) (slots + 6) Q (F0 m (pc + 7) ls (.ref q :: rest))) :
    W p l e R s m args below meth c H locs cells slots Q (F0 m pc ls rest) := by
  intro T hT X
  subst hT
  have htr : e.platform.stackTraces = false := (show e.platform.stackTraces = l.stackTraces by rw [X.admits.platform]).trans hl
  have Y := vx_rebase X (R' := { frames := R.frames, locals := R.locals, cells := 1, slots := 6 }) (Nat.le_refl _) (Nat.le_refl _) hRcells hRslots
  obtain ⟨s', hA'⟩ : ∃ z, z = (T.setVm s.vm).setFrames (.invoking m args :: below) := ⟨_, rfl⟩
  rw [← hA'] at Y
  have hvm : s'.vm = s.vm := by rw [hA']; rfl
  have hhp : s'.heap = T.heap := by rw [hA']; rfl
  have hW0 : s.WarmedH s'.vm := by rw [hvm]; exact State.WarmedH.refl s
  have hat' : ∀ w ∈ vx_at0 own ic cls names, w.before args s' = true := fun w hw => vx_ot_at hW0 hvm.symm (hgood w (List.mem_cons_of_mem _ (List.mem_cons_of_mem _ hw))) (hat w hw)
  have hk' : (Cond.classLink own ik cls).before args s' = true := vx_ot_at hW0 hvm.symm (hgood _ List.mem_cons_self) hk
  have hini' : (Cond.initialized cls).before args s' = true := vx_ot_at hW0 hvm.symm (hgood _ (List.mem_cons_of_mem _ List.mem_cons_self)) hini
  have hU' : vx_Zq Bundle.tN "UNASSIGNED_STACK" Bundle.steD A s' s'.heap := by rw [hhp]; exact vx_Zq.moved hW0.alike (hU.kept hS.2.1)
  have hN' : vx_Zq Bundle.tN "SUPPRESSED_SENTINEL" Bundle.listD A s' s'.heap := by rw [hhp]; exact vx_Zq.moved hW0.alike (hN.kept hS.2.1)
  have h : ∀ w ∈ Bundle.ownAtoms0 own ic cls names, w.before args s' = true := vx_own hat' (vx_isRefq hU'.1) (vx_isRefq hN'.1) hU'.2.word hN'.2.word
  have hown' : s'.vm.findClass own = some m.cls := by rw [hvm]; exact hown
  have hins : (Cond.instantiable cls 6).before args s' = true := h _ (by simp [Bundle.ownAtoms0])
  obtain ⟨vm₁, cX, kX, hfX, hkX, -, -, X₁, st1⟩ := Y.newCold hexec (own := own) (C := cls) (index := ik) (n := 6) hown' hk' hins hini'
    (g := F0 m pc ls rest) rfl (by rw [hb]; exact d0) (Nat.le_refl _) (Nat.le_refl _)
  generalize hT1 : (T.setVm vm₁).pushCell { cls := cX, slots := kX.instanceTypes.map defaultValue, vm := .none } = T1 at X₁ st1
  have hcat : (Value.ref T.heap.size).category = 1 := rfl
  have hcellA : T1.heap[T.heap.size]? = some (freshCell cX kX) := by rw [← hT1]; exact State.heap_pushCell_size _ _
  have d3' : decode c.code (pc + 3) = .ok (.dup, 1) := by rw [hb]; exact d3
  obtain ⟨V, ce, L, Z, hL, hlt, hcl9, hvm9, st⟩ := vx_ctorMade0 X₁ hexec htr (own := own) (cls := cls) (names := names) (ic := ic) hown' hcls hnames h (fun x hx => nomatch hx) hfX hkX hcellA (by rw [hhp]; exact Nat.le_refl _)
    (g := { method := m, pc := pc + 4, locals := ls, stack := .ref T.heap.size :: .ref T.heap.size :: rest, locked := none }) rfl hsize (rest := rest) rfl
    (by rw [hb]; exact d4) hRframes (by simp only [List.map_cons, List.sum_cons, hcat]; omega)
  have Z0 := Stand.forget (locs := []) Z (fun y hy => by rw [hL y hy, hhp]; exact Nat.le_refl _)
  obtain ⟨f1, f2⟩ := vx_frame Z0.same
  rw [hhp] at f1 f2
  have hcid : ce.cls = D.1 ci := by
    rw [hcl9]
    have h1 := (hK.1 ci _ hc).2.1
    rw [hvm] at hfX
    exact Option.some.inj (hfX.symm.trans h1)
  have hh : (V.setCell T.heap.size ce).heap[T.heap.size]? = some ce := heapAt_setCell_self (s := V) ce hlt
  subst hA'
  have X5 := vx_back9 X Y Z0
  have X6 : Stand p l e R s m args below meth c (V.setCell T.heap.size ce) locs (cells + 1) (slots + 6) := { X5 with same := X5.same.mono (by omega) (by omega) }
  have hk9 : ∀ (k : Nat) (x : Nat × va_E), ws[k]? = some x → (V.setCell T.heap.size ce).heap[x.1]? = T.heap[x.1]? := fun k x hx => f2 x.1 ((hP k x hx).lt) (fun z hz => nomatch hz)
  obtain ⟨t, a1, b1⟩ := kk T.heap.size (V.setCell T.heap.size ce).heap ((hP.kept hk9).app (fun k x hx => by
      have hz : k < 1 := (List.getElem?_eq_some_iff.mp hx).1
      rw [show k = 0 by omega] at hx
      cases hx
      exact ⟨_, hc, ce, hh, hcid, hvm9, fun k hk => absurd hk (Nat.not_lt_zero k)⟩)) (hD.push hP rfl (hA _ hS.1)) ⟨Nat.le_trans hS.1 f1, fun q h1 h2 => (f2 q (Nat.lt_of_lt_of_le h1 hS.1) (fun z hz => nomatch hz)).trans (hS.2.1 q h1 h2), hS.2.2⟩ _ rfl X6
  refine ⟨t, st1 _ ?_, b1⟩
  show Steps p.tables e below (T1.setTop { method := m, pc := pc + 3, locals := ls, stack := .ref T.heap.size :: rest, locked := none }) _
  jvm_step X₁.here [X₁.here.top, hexec, d3', Value.category]
  exact st _ a1
/-- 'throw x' of an object that was made before -/
theorem vx_athrow {cc : ByteArray} {pc : Nat} (hexec : p.tables.exec = Jvm.exec) (hb : c.code = cc) {q : Addr} (hdg : decode cc pc = .ok (.athrow, 1)) (k : vx_W p l e R s m args below meth c H locs cells slots Q (F0 m pc ls rest) q) : W p l e R s m args below meth c H locs cells slots Q (F0 m pc ls (.ref q :: rest)) := by
  intro T hT X
  obtain ⟨t, st, hq⟩ := k T hT X
  refine ⟨t, ?_, hq⟩
  have hdg' : decode c.code pc = .ok (.athrow, 1) := by rw [hb]; exact hdg
  jvm_step X.here [X.here.top, hexec, hdg', athrow.wp_sem]
  exact st
end VXK2
/-! ===== END ===== -/
/-! ===== BEGIN a constructor that throws (launches without stack traces) ===== -/
section VXIA
variable {p : Program} {l : Launch} {e : Env} {R : Room} {s : State} {m : MethodId} {args : Array Value} {below : List Frame} {meth : Method} {c : Code} {T : State} {locs : List Loc} {cells slots : Nat}
theorem vx_callI (X : Stand p l e R s m args below meth c T locs cells slots) (hexec : p.tables.exec = Jvm.exec) {own : String} {index : Nat} {y : MethodName} {bytes : ByteArray} {maxL : Nat}
    (hown : s.vm.findClass own = some m.cls) (hy1 : y.name = "<init>") (hlink : (Cond.methodLink own index y).before args s = true) (hinst : (Cond.instanceMethod y).before args s = true)
    (hcode : (Cond.code y bytes maxL none).before args s = true) (hy : y.cls ≠ "java/lang/invoke/MethodHandle" ∧ y.cls ≠ "java/lang/invoke/VarHandle")
    {W9 : Nat} {Pre : Pt → Array Value → Prop} {Post : Pt → Array Value → Option Value → Pt → Prop} {PostX : Pt → Array Value → Addr → Pt → Prop} (hK : vx_Back l R p e below s args y 3 W9 Pre Post PostX)
    {g : JFrame} (hg : g.method = m) (hsize : g.locals.size = c.maxLocals) {a : Addr} {argsL rest : List Value} (hlen : ∀ sig, parseMethodDescriptor y.desc = some sig → argsL.length = sig.parameters.length)
    (hstack : g.stack = argsL.reverse ++ .ref a :: rest) (hW : 2 * g.monitorRoom + (rest.map fun v => v.category).sum ≤ W9) (hdg : decode c.code g.pc = .ok (.invokespecial index, 3))
    (hpre : ∀ vm₁, s.WarmedH vm₁ → Pre ⟨T.setVm vm₁, locs, cells, slots⟩ (Value.ref a :: argsL).toArray) :
    (∃ (v : Option Value) (vm₁ : Vm) (B : Pt), s.WarmedH vm₁ ∧ Stand p l e R s m args below meth c B.U B.locs B.cells B.slots ∧ Post ⟨T.setVm vm₁, locs, cells, slots⟩ (Value.ref a :: argsL).toArray v B ∧
      ∀ target, Steps p.tables e below (B.U.setTop { g with pc := g.pc + 3, stack := v.toList ++ rest }) target → Steps p.tables e below (T.setTop g) target) ∨
    (∃ (q : Addr) (vm₁ : Vm) (B : Pt), s.WarmedH vm₁ ∧ Stand p l e R s m args below meth c B.U B.locs B.cells B.slots ∧ PostX ⟨T.setVm vm₁, locs, cells, slots⟩ (Value.ref a :: argsL).toArray q B ∧
      Steps p.tables e below (T.setTop g) ((B.U.setTop { g with stack := rest }).pushFrame (.throwing q))) := by
  subst hg
  have hpl : e.platform.magicAccessors = ({} : Platform).magicAccessors := by rw [X.admits.platform]
  obtain ⟨mk, methM, cM, kP, vm₁, hnamed, hmethM, hcodeM, -, hlocalsM, -, hkP, -, hW₁, hstep₁⟩ := Steps.initColdArgs (e := e) X.here hexec X.warmed hpl hown hy1 hy hlink hinst hcode (f := g) rfl hlen hstack hdg
  have X₁ := X.noted hW₁
  rcases hK g.method meth c ⟨T.setVm vm₁, locs, cells, slots⟩ { g with stack := rest } (.invokespecial index) mk (Value.ref a :: argsL).toArray X₁ rfl hsize hdg hW (X₁.named hnamed) (hpre vm₁ X₁.warmed) with ⟨v, B, X', hpost, hsteps⟩ | ⟨q, B, X', hpost, hsteps⟩
  · exact Or.inl ⟨v, vm₁, B, X₁.warmed, X', hpost, fun target h => hstep₁ _ fun acts => by rw [doInvoke_state]; exact hsteps.trans h⟩
  · exact Or.inr ⟨q, vm₁, B, X₁.warmed, X', hpost, hstep₁ _ fun acts => by rw [doInvoke_state]; exact hsteps⟩
end VXIA
section VXIB
variable {p : Program} {l : Launch} {e : Env} {R : Room} {s : State} {m : MethodId} {args : Array Value} {below : List Frame} {meth : Method} {c : Code} {H : Heap} {locs : List Loc} {cells slots : Nat}
variable {y : MethodName} {bytes cc : ByteArray} {maxL nL mc ms n index : Nat} {ret : Option FieldType} {ws : List Cond} {rm : Room} {Pc : Array Value → State → Prop} {Qc : Array Value → State → Outcome → State → Prop} {XC : String → State → State → Prop} {free : Addr → Prop} {Ts : List Cond} {own C : String} {b : Addr} {As rest : List Value} {g : JFrame}
theorem vx_runI (S : CallFix p m c cc nL s args Ts own) (hM : vx_Met l y ws rm Pc Qc XC mc ms free) (cw : CallB R s args own index y bytes maxL none ws rm mc ms n ∧ y.name = "<init>" ∧ (Cond.instanceMethod y).before args s = true) (hp : PreS s H Pc (.ref b :: As))
    (hg : g.method = m) (hn : As.length = n) (hsize : g.locals.size = nL) (hstack : g.stack = As.reverse ++ .ref b :: rest) (hW : 2 * g.monitorRoom + (rest.map fun v => v.category).sum ≤ 8) (hdg : decode cc g.pc = .ok (.invokespecial index, 3)) (hf : cells + mc ≤ R.cells ∧ slots + ms ≤ R.slots) :
    vx_Run p l e R s m args below meth c H locs cells slots mc ms g rest (Qc (Value.ref b :: As).toArray) XC free := by
  have hK : vx_Back l R p e below s args y 3 8 (PreOf R mc ms Pc) (PostOf Qc mc ms free) (vx_Post XC mc ms free) := vx_callBack cw.1 hM hp.1
  obtain ⟨⟨-, -, -, -, -, -, hcode, -, hy, hlen, hl⟩, hy1, hin⟩ := cw
  obtain ⟨hx, hb, hml, ho, -⟩ := S
  have hPc := hp.2
  intro T hT X
  rcases vx_callI X hx (bytes := bytes) (maxL := maxL) ho hy1 hl hin hcode hy hK hg (hsize.trans hml.symm) (a := b) (argsL := As) (rest := rest) (fun sig h => hn.trans (hlen sig h)) hstack hW (by rw [hb]; exact hdg)
    (fun vm₁ hW₁ => ⟨hf.1, hf.2, hPc (T.setVm vm₁) hT hW₁⟩) with ⟨v, vm₁, ⟨U', l2, c2, s2⟩, hW₁, X', ⟨g', mk, t, L, e1, e2, hq, h1, hL, h2, h3⟩, st⟩ | ⟨q, vm₁, ⟨U', l2, c2, s2⟩, hW₁, X', ⟨g', mk, t, L, E, ce, e1, e2, hq, hce, hcv, hcl, h1, hL, h2, h3⟩, st⟩
  · dsimp only [Pt.U, Pt.locs, Pt.cells, Pt.slots] at X' e1 e2 h1 h2 h3 st
    subst h1; subst h2; subst h3
    exact Or.inl ⟨v, (T.setVm vm₁).calling g' mk (Value.ref b :: As).toArray, t, U', L, hT, X', hL, e1, e2, hq, st⟩
  · dsimp only [Pt.U, Pt.locs, Pt.cells, Pt.slots] at X' e1 e2 h1 h2 h3 st hcl
    subst h1; subst h2; subst h3
    exact Or.inr ⟨q, (T.setVm vm₁).calling g' mk (Value.ref b :: As).toArray, t, U', L, E, ce, hT, X', hL, e1, e2, hq, hce, hcv, vx_cls hW₁ hcl, st⟩
end VXIB
/-! ===== END ===== -/
/-! ===== BEGIN a private constructor of a nest mate that throws ===== -/
section VXIC
variable {p : Program} {l : Launch} {e : Env} {R : Room} {s : State} {m : MethodId} {args : Array Value} {below : List Frame} {meth : Method} {c : Code} {T : State} {locs : List Loc} {cells slots : Nat}
theorem vx_callIN (X : Stand p l e R s m args below meth c T locs cells slots) (hexec : p.tables.exec = Jvm.exec) {own : String} {index : Nat} {host : String} {y : MethodName} {bytes : ByteArray} {maxL : Nat}
    (hown : s.vm.findClass own = some m.cls) (hy1 : y.name = "<init>") (hlink : (Cond.methodLinkNest own index y host).before args s = true) (hinst : (Cond.instanceMethod y).before args s = true)
    (hcode : (Cond.code y bytes maxL none).before args s = true) (hy : y.cls ≠ "java/lang/invoke/MethodHandle" ∧ y.cls ≠ "java/lang/invoke/VarHandle")
    {W9 : Nat} {Pre : Pt → Array Value → Prop} {Post : Pt → Array Value → Option Value → Pt → Prop} {PostX : Pt → Array Value → Addr → Pt → Prop} (hK : vx_Back l R p e below s args y 3 W9 Pre Post PostX)
    {g : JFrame} (hg : g.method = m) (hsize : g.locals.size = c.maxLocals) {a : Addr} {argsL rest : List Value} (hlen : ∀ sig, parseMethodDescriptor y.desc = some sig → argsL.length = sig.parameters.length)
    (hstack : g.stack = argsL.reverse ++ .ref a :: rest) (hW : 2 * g.monitorRoom + (rest.map fun v => v.category).sum ≤ W9) (hdg : decode c.code g.pc = .ok (.invokespecial index, 3))
    (hpre : ∀ vm₁, s.WarmedH vm₁ → Pre ⟨T.setVm vm₁, locs, cells, slots⟩ (Value.ref a :: argsL).toArray) :
    (∃ (v : Option Value) (vm₁ : Vm) (B : Pt), s.WarmedH vm₁ ∧ Stand p l e R s m args below meth c B.U B.locs B.cells B.slots ∧ Post ⟨T.setVm vm₁, locs, cells, slots⟩ (Value.ref a :: argsL).toArray v B ∧
      ∀ target, Steps p.tables e below (B.U.setTop { g with pc := g.pc + 3, stack := v.toList ++ rest }) target → Steps p.tables e below (T.setTop g) target) ∨
    (∃ (q : Addr) (vm₁ : Vm) (B : Pt), s.WarmedH vm₁ ∧ Stand p l e R s m args below meth c B.U B.locs B.cells B.slots ∧ PostX ⟨T.setVm vm₁, locs, cells, slots⟩ (Value.ref a :: argsL).toArray q B ∧
      Steps p.tables e below (T.setTop g) ((B.U.setTop { g with stack := rest }).pushFrame (.throwing q))) := by
  subst hg
  have hpl : e.platform.magicAccessors = ({} : Platform).magicAccessors := by rw [X.admits.platform]
  obtain ⟨mk, methM, cM, kP, vm₁, hnamed, hmethM, hcodeM, -, hlocalsM, -, hkP, -, hW₁, hstep₁⟩ := Steps.initColdArgsNest (e := e) X.here hexec X.warmed hpl hown hy1 hy hlink hinst hcode (f := g) rfl hlen hstack hdg
  have X₁ := X.noted hW₁
  rcases hK g.method meth c ⟨T.setVm vm₁, locs, cells, slots⟩ { g with stack := rest } (.invokespecial index) mk (Value.ref a :: argsL).toArray X₁ rfl hsize hdg hW (X₁.named hnamed) (hpre vm₁ X₁.warmed) with ⟨v, B, X', hpost, hsteps⟩ | ⟨q, B, X', hpost, hsteps⟩
  · exact Or.inl ⟨v, vm₁, B, X₁.warmed, X', hpost, fun target h => hstep₁ _ fun acts => by rw [doInvoke_state]; exact hsteps.trans h⟩
  · exact Or.inr ⟨q, vm₁, B, X₁.warmed, X', hpost, hstep₁ _ fun acts => by rw [doInvoke_state]; exact hsteps⟩
end VXIC
section VXID
variable {p : Program} {l : Launch} {e : Env} {R : Room} {s : State} {m : MethodId} {args : Array Value} {below : List Frame} {meth : Method} {c : Code} {H : Heap} {locs : List Loc} {cells slots : Nat}
theorem vx_runIN {y : MethodName} {bytes cc : ByteArray} {maxL nL mc ms n index : Nat} {ws : List Cond} {rm : Room} {Pc : Array Value → State → Prop} {Qc : Array Value → State → Outcome → State → Prop} {XC : String → State → State → Prop} {free : Addr → Prop} {Ts : List Cond} {own host : String} {b : Addr} {As rest : List Value} {g : JFrame}
    (S : CallFix p m c cc nL s args Ts own) (hM : vx_Met l y ws rm Pc Qc XC mc ms free) (cw : va_CN R s args own index y host bytes maxL none ws rm mc ms n ∧ y.name = "<init>" ∧ (Cond.instanceMethod y).before args s = true) (hp : PreS s H Pc (.ref b :: As))
    (hg : g.method = m) (hn : As.length = n) (hsize : g.locals.size = nL) (hstack : g.stack = As.reverse ++ .ref b :: rest) (hW : 2 * g.monitorRoom + (rest.map fun v => v.category).sum ≤ 8) (hdg : decode cc g.pc = .ok (.invokespecial index, 3)) (hf : cells + mc ≤ R.cells ∧ slots + ms ≤ R.slots) :
    vx_Run p l e R s m args below meth c H locs cells slots mc ms g rest (Qc (Value.ref b :: As).toArray) XC free := by
  obtain ⟨⟨⟨hrc, hrs, hfr, hlo, hws, hcw⟩, hcode, hini, hy, hlen, hl⟩, hx1, hx2⟩ := cw
  have hK : vx_Back l R p e below s args y 3 8 (PreOf R mc ms Pc) (PostOf Qc mc ms free) (vx_Post XC mc ms free) := vx_back (bytes := bytes) (maxL := maxL) (ret := none) hM hp.1 hrc hrs hfr hlo hws hcw (fun a' U hW => word_at hW (Or.inl (by first | rfl | simp [Cond.onTables, Cond.keeps, Cond.steady])) hini)
  obtain ⟨hx, hb, hml, ho, -⟩ := S
  have hPc := hp.2
  intro T hT X
  rcases vx_callIN X hx (bytes := bytes) (maxL := maxL) ho hx1 hl hx2 hcode hy hK hg (hsize.trans hml.symm) (a := b) (argsL := As) (rest := rest) (fun sig h => hn.trans (hlen sig h)) hstack hW (by rw [hb]; exact hdg)
    (fun vm₁ hW₁ => ⟨hf.1, hf.2, hPc (T.setVm vm₁) hT hW₁⟩) with ⟨v, vm₁, ⟨U', l2, c2, s2⟩, hW₁, X', ⟨g', mk, t, L, e1, e2, hq, h1, hL, h2, h3⟩, st⟩ | ⟨q, vm₁, ⟨U', l2, c2, s2⟩, hW₁, X', ⟨g', mk, t, L, E, ce, e1, e2, hq, hce, hcv, hcl, h1, hL, h2, h3⟩, st⟩
  · dsimp only [Pt.U, Pt.locs, Pt.cells, Pt.slots] at X' e1 e2 h1 h2 h3 st
    subst h1; subst h2; subst h3
    exact Or.inl ⟨v, (T.setVm vm₁).calling g' mk (Value.ref b :: As).toArray, t, U', L, hT, X', hL, e1, e2, hq, st⟩
  · dsimp only [Pt.U, Pt.locs, Pt.cells, Pt.slots] at X' e1 e2 h1 h2 h3 st hcl
    subst h1; subst h2; subst h3
    exact Or.inr ⟨q, (T.setVm vm₁).calling g' mk (Value.ref b :: As).toArray, t, U', L, E, ce, hT, X', hL, e1, e2, hq, hce, hcv, vx_cls hW₁ hcl, st⟩
end VXID
/-! ===== END ===== -/
/-! ===== BEGIN a method of a class above, found by the receiver, that may throw (follows va_callVU, va_runU of this kit) ===== -/
section
variable {p : Program} {l : Launch} {e : Env} {R : Room} {s : State} {m : MethodId} {args : Array Value} {below : List Frame} {meth : Method} {c : Code} {H : Heap} {locs : List Loc} {cells slots : Nat}
theorem vx_callVU {T : State} {locs : List Loc} {cells slots : Nat} (X : Stand p l e R s m args below meth c T locs cells slots) (hexec : p.tables.exec = Jvm.exec) {own C owner : String} {index : Nat} {x y : MethodName} {bytes : ByteArray} {maxL : Nat} {ret : Option FieldType}
    (hown : s.vm.findClass own = some m.cls) (hlink : (Cond.methodLink own index x).before args s = true) (hsame : (Cond.sameMethod x.cls owner x.name x.desc).before args s = true)
    (hd0 : va_Decl s ⟨owner, x.name, x.desc⟩) (howner : owner ≠ "java/lang/invoke/MethodHandle" ∧ owner ≠ "java/lang/invoke/VarHandle")
    (hsel : (Cond.selects C x y).before args s = true) (hinst : (Cond.instanceMethod y).before args s = true) (hcode : (Cond.code y bytes maxL ret).before args s = true)
    {W : Nat} {Pre : Pt → Array Value → Prop} {Post : Pt → Array Value → Option Value → Pt → Prop} {PostX : Pt → Array Value → Addr → Pt → Prop} (hK : vx_Back l R p e below s args y 3 W Pre Post PostX)
    {b : Addr} {cellB : Cell} (hcell : T.heap[b]? = some cellB) (hobj : cellB.vm.isStatics = false) (hcls : s.vm.findClass C = some cellB.cls)
    {g : JFrame} (hg : g.method = m) (hsize : g.locals.size = c.maxLocals) {argsL rest : List Value} (hlen : ∀ sig, parseMethodDescriptor x.desc = some sig → argsL.length = sig.parameters.length)
    (hstack : g.stack = argsL.reverse ++ .ref b :: rest) (hW : 2 * g.monitorRoom + (rest.map fun v => v.category).sum ≤ W) (hdg : decode c.code g.pc = .ok (.invokevirtual index, 3))
    (hpre : ∀ vm₁, s.WarmedH vm₁ → Pre ⟨T.setVm vm₁, locs, cells, slots⟩ (Value.ref b :: argsL).toArray) :
    (∃ (v : Option Value) (vm₁ : Vm) (B : Pt), s.WarmedH vm₁ ∧ Stand p l e R s m args below meth c B.U B.locs B.cells B.slots ∧ Post ⟨T.setVm vm₁, locs, cells, slots⟩ (Value.ref b :: argsL).toArray v B ∧
      ∀ target, Steps p.tables e below (B.U.setTop { g with pc := g.pc + 3, stack := v.toList ++ rest }) target → Steps p.tables e below (T.setTop g) target) ∨
    (∃ (q : Addr) (vm₁ : Vm) (B : Pt), s.WarmedH vm₁ ∧ Stand p l e R s m args below meth c B.U B.locs B.cells B.slots ∧ PostX ⟨T.setVm vm₁, locs, cells, slots⟩ (Value.ref b :: argsL).toArray q B ∧
      Steps p.tables e below (T.setTop g) ((B.U.setTop { g with stack := rest }).pushFrame (.throwing q))) := by
  obtain ⟨r0, r, hn, hrm, hstR, hsigR⟩ := hd0
  obtain ⟨cn, ck, r1, hcn, hck, hni, hf, hn1⟩ := Cond.sameMethod_found hsame
  cases hn.symm.trans hn1
  obtain ⟨mk, methM, hnamed, hmethM, -, habM⟩ := Cond.instanceMethod_spec hinst
  obtain ⟨c2, r2, m2, q1, q2, q3, q4, kP, hkP, hkPi⟩ := Cond.selects_spec hsel
  cases hcls.symm.trans q1
  cases hf.symm.trans q2
  cases hnamed.symm.trans q3
  have hselP : selectMethod e.platform s.vm cellB.cls r0 = .method mk := by rw [Launch.admits_selectMethod X.admits]; exact q4
  obtain ⟨vm₁, X₁, hstep₁⟩ := X.invokevirtualUp hexec hown hlink hsame howner hn hrm hstR (a := b) (cell := cellB) hcell
    (fun z h => by rw [h] at hobj; cases hobj) hselP hmethM habM hkP hkPi (g := g) hg (argsL := argsL) (rest := rest) (hlen _ hsigR) hstack hdg
  rcases hK m meth c ⟨T.setVm vm₁, locs, cells, slots⟩ { g with stack := rest } (.invokevirtual index) mk (Value.ref b :: argsL).toArray X₁ hg hsize hdg hW (X₁.named hnamed) (hpre vm₁ X₁.warmed) with ⟨v, B, X', hpost, hsteps⟩ | ⟨q, B, X', hpost, hsteps⟩
  · exact Or.inl ⟨v, vm₁, B, X₁.warmed, X', hpost, fun target h => hstep₁ _ fun acts => by rw [doInvoke_state]; exact hsteps.trans h⟩
  · exact Or.inr ⟨q, vm₁, B, X₁.warmed, X', hpost, hstep₁ _ fun acts => by rw [doInvoke_state]; exact hsteps⟩
theorem vx_runU {x y : MethodName} {bytes cc : ByteArray} {maxL nL mc ms n index : Nat} {ret : Option FieldType} {ws : List Cond} {rm : Room} {Pc : Array Value → State → Prop} {Qc : Array Value → State → Outcome → State → Prop} {XC : String → State → State → Prop} {free : Addr → Prop} {Ts : List Cond} {own C owner : String} {b : Addr} {As rest : List Value} {g : JFrame}
    (S : CallFix p m c cc nL s args Ts own) (hM : vx_Met l y ws rm Pc Qc XC mc ms free) (cw : va_CU R s args own C owner index x y bytes maxL ret ws rm mc ms n) (hp : PreV s H C b Pc As)
    (hg : g.method = m) (hn : As.length = n) (hsize : g.locals.size = nL) (hstack : g.stack = As.reverse ++ .ref b :: rest) (hW : 2 * g.monitorRoom + (rest.map fun v => v.category).sum ≤ 8) (hdg : decode cc g.pc = .ok (.invokevirtual index, 3)) (hf : cells + mc ≤ R.cells ∧ slots + ms ≤ R.slots) :
    vx_Run p l e R s m args below meth c H locs cells slots mc ms g rest (Qc (Value.ref b :: As).toArray) XC free := by
  obtain ⟨hrc, hrs, hfr, hlo, hws, hcw⟩ := cw.back
  have hini := cw.init
  have hK : vx_Back l R p e below s args y 3 8 (PreOf R mc ms Pc) (PostOf Qc mc ms free) (vx_Post XC mc ms free) := vx_back (bytes := bytes) (maxL := maxL) (ret := ret) hM hp.1 hrc hrs hfr hlo hws hcw (fun a' U hW => word_at hW (Or.inl (by first | rfl | simp [Cond.onTables, Cond.keeps, Cond.steady])) hini)
  obtain ⟨hx, hb, hml, ho, -⟩ := S
  obtain ⟨-, ⟨cellB, hcB, hoB, hclB⟩, hPc⟩ := hp
  intro T hT X
  rcases vx_callVU X hx (C := C) (owner := owner) (bytes := bytes) (maxL := maxL) (ret := ret) ho cw.link cw.same cw.decl cw.notMH cw.sel cw.inst cw.code hK (by rw [hT]; exact hcB) hoB hclB hg (hsize.trans hml.symm) (argsL := As) (rest := rest) (fun sig h => hn.trans (cw.len sig h)) hstack hW (by rw [hb]; exact hdg)
    (fun vm₁ hW₁ => ⟨hf.1, hf.2, hPc (T.setVm vm₁) hT hW₁⟩) with ⟨v, vm₁, ⟨U', l2, c2, s2⟩, hW₁, X', ⟨g', mk, t, L, e1, e2, hq, h1, hL, h2, h3⟩, st⟩ | ⟨q, vm₁, ⟨U', l2, c2, s2⟩, hW₁, X', ⟨g', mk, t, L, E, ce, e1, e2, hq, hce, hcv, hcl, h1, hL, h2, h3⟩, st⟩
  · dsimp only [Pt.U, Pt.locs, Pt.cells, Pt.slots] at X' e1 e2 h1 h2 h3 st
    subst h1; subst h2; subst h3
    exact Or.inl ⟨v, (T.setVm vm₁).calling g' mk (Value.ref b :: As).toArray, t, U', L, hT, X', hL, e1, e2, hq, st⟩
  · dsimp only [Pt.U, Pt.locs, Pt.cells, Pt.slots] at X' e1 e2 h1 h2 h3 st hcl
    subst h1; subst h2; subst h3
    exact Or.inr ⟨q, (T.setVm vm₁).calling g' mk (Value.ref b :: As).toArray, t, U', L, E, ce, hT, X', hL, e1, e2, hq, hce, hcv, vx_cls hW₁ hcl, st⟩
end
/-! ===== END ===== -/
/-! ===== BEGIN super.m(..) that may throw (follows va_callSU, va_runSU) ===== -/
section
variable {p : Program} {l : Launch} {e : Env} {R : Room} {s : State} {m : MethodId} {args : Array Value} {below : List Frame} {meth : Method} {c : Code} {H : Heap} {locs : List Loc} {cells slots : Nat}
theorem vx_callSU {T : State} {locs : List Loc} {cells slots : Nat} (X : Stand p l e R s m args below meth c T locs cells slots) (hexec : p.tables.exec = Jvm.exec) {own : String} {index : Nat} {y : MethodName} {bytes : ByteArray} {maxL : Nat} {ret : Option FieldType}
    (hown : s.vm.findClass own = some m.cls) (hlink : (Cond.methodLink own index y).before args s = true) (hsame : (Cond.sameMethod y.cls y.cls y.name y.desc).before args s = true) (hsup : (Cond.superclass own y.cls).before args s = true)
    (hinst : (Cond.instanceMethod y).before args s = true) (hcode : (Cond.code y bytes maxL ret).before args s = true) (hno : y.name ≠ "<init>")
    {W : Nat} {Pre : Pt → Array Value → Prop} {Post : Pt → Array Value → Option Value → Pt → Prop} {PostX : Pt → Array Value → Addr → Pt → Prop} (hK : vx_Back l R p e below s args y 3 W Pre Post PostX)
    {b : Addr} {cellB : Cell} {kB : Class} (hcell : T.heap[b]? = some cellB) (hobj : cellB.vm.isStatics = false) (hkB : s.vm.classes[cellB.cls]? = some kB)
    {g : JFrame} (hg : g.method = m) (hsize : g.locals.size = c.maxLocals) {argsL rest : List Value} (hlen : ∀ sig, parseMethodDescriptor y.desc = some sig → argsL.length = sig.parameters.length)
    (hstack : g.stack = argsL.reverse ++ .ref b :: rest) (hW : 2 * g.monitorRoom + (rest.map fun v => v.category).sum ≤ W) (hdg : decode c.code g.pc = .ok (.invokespecial index, 3))
    (hpre : ∀ vm₁, s.WarmedH vm₁ → Pre ⟨T.setVm vm₁, locs, cells, slots⟩ (Value.ref b :: argsL).toArray) :
    (∃ (v : Option Value) (vm₁ : Vm) (B : Pt), s.WarmedH vm₁ ∧ Stand p l e R s m args below meth c B.U B.locs B.cells B.slots ∧ Post ⟨T.setVm vm₁, locs, cells, slots⟩ (Value.ref b :: argsL).toArray v B ∧
      ∀ target, Steps p.tables e below (B.U.setTop { g with pc := g.pc + 3, stack := v.toList ++ rest }) target → Steps p.tables e below (T.setTop g) target) ∨
    (∃ (q : Addr) (vm₁ : Vm) (B : Pt), s.WarmedH vm₁ ∧ Stand p l e R s m args below meth c B.U B.locs B.cells B.slots ∧ PostX ⟨T.setVm vm₁, locs, cells, slots⟩ (Value.ref b :: argsL).toArray q B ∧
      Steps p.tables e below (T.setTop g) ((B.U.setTop { g with stack := rest }).pushFrame (.throwing q))) := by
  obtain ⟨mk, methM, hnamed, hmethM, hstM, habM⟩ := Cond.instanceMethod_spec hinst
  obtain ⟨methM', cM, hmethM', -, -, -, -, -, -, hsigM⟩ := Cond.code_spec hnamed hcode
  cases hmethM.symm.trans hmethM'
  obtain ⟨ps, dk, kp, hps, hdk, hkp, hsuper, -, -, hnid⟩ := Cond.superclass_spec hown hsup
  have hn : s.methodNamed? ⟨y.cls, y.name, y.desc⟩ = some mk := hnamed
  have hpm : ps = mk.cls := Option.some.inj (hps.symm.trans (findClass_of_methodNamed hnamed))
  have hsub : s.vm.isSubclass ps mk.cls = true := by rw [hpm]; simp [Vm.isSubclass, Vm.isSubclassAux]
  obtain ⟨vm₁, X₁, hstep₁⟩ := X.invokespecialUp hexec hown hlink hsame hn hmethM hstM habM hno hdk hnid hps hsuper hsub (a := b) (cell := cellB) hcell
    (fun z h => by rw [h] at hobj; cases hobj) hkB (g := g) hg (argsL := argsL) (rest := rest) (hlen _ hsigM) hstack hdg
  rcases hK m meth c ⟨T.setVm vm₁, locs, cells, slots⟩ { g with stack := rest } (.invokespecial index) mk (Value.ref b :: argsL).toArray X₁ hg hsize hdg hW (X₁.named hnamed) (hpre vm₁ X₁.warmed) with ⟨v, B, X', hpost, hsteps⟩ | ⟨q, B, X', hpost, hsteps⟩
  · exact Or.inl ⟨v, vm₁, B, X₁.warmed, X', hpost, fun target h => hstep₁ _ (by rw [doInvoke_state]; exact hsteps.trans h)⟩
  · exact Or.inr ⟨q, vm₁, B, X₁.warmed, X', hpost, hstep₁ _ (by rw [doInvoke_state]; exact hsteps)⟩
theorem vx_runSU {y : MethodName} {bytes cc : ByteArray} {maxL nL mc ms n index : Nat} {ret : Option FieldType} {ws : List Cond} {rm : Room} {Pc : Array Value → State → Prop} {Qc : Array Value → State → Outcome → State → Prop} {XC : String → State → State → Prop} {free : Addr → Prop} {Ts : List Cond} {own C : String} {cC : ClassId} {b : Addr} {As rest : List Value} {g : JFrame}
    (hat : ClassAt s C cC) (S : CallFix p m c cc nL s args Ts own) (hM : vx_Met l y ws rm Pc Qc XC mc ms free) (cw : va_CS R s args own index y bytes maxL ret ws rm mc ms n) (hp : PreV s H C b Pc As)
    (hg : g.method = m) (hn : As.length = n) (hsize : g.locals.size = nL) (hstack : g.stack = As.reverse ++ .ref b :: rest) (hW : 2 * g.monitorRoom + (rest.map fun v => v.category).sum ≤ 8) (hdg : decode cc g.pc = .ok (.invokespecial index, 3)) (hf : cells + mc ≤ R.cells ∧ slots + ms ≤ R.slots) :
    vx_Run p l e R s m args below meth c H locs cells slots mc ms g rest (Qc (Value.ref b :: As).toArray) XC free := by
  obtain ⟨⟨hrc, hrs, hfr, hlo, hws, hcw⟩, hl1, hl2, hl3, hl4, hini, hcode, hno, hlen⟩ := cw
  have hK : vx_Back l R p e below s args y 3 8 (PreOf R mc ms Pc) (PostOf Qc mc ms free) (vx_Post XC mc ms free) := vx_back (bytes := bytes) (maxL := maxL) (ret := ret) hM hp.1 hrc hrs hfr hlo hws hcw (fun a' U hW => word_at hW (Or.inl (by first | rfl | simp [Cond.onTables, Cond.keeps, Cond.steady])) hini)
  obtain ⟨hx, hb, hml, ho, -⟩ := S
  obtain ⟨-, ⟨cellB, hcB, hoB, hclB⟩, hPc⟩ := hp
  obtain ⟨hfc, kB, hkB, -⟩ := hat
  cases hfc.symm.trans hclB
  intro T hT X
  rcases vx_callSU X hx (bytes := bytes) (maxL := maxL) (ret := ret) ho hl1 hl2 hl3 hl4 hcode hno hK (by rw [hT]; exact hcB) hoB hkB hg (hsize.trans hml.symm) (argsL := As) (rest := rest) (fun sig h => hn.trans (hlen sig h)) hstack hW (by rw [hb]; exact hdg)
    (fun vm₁ hW₁ => ⟨hf.1, hf.2, hPc (T.setVm vm₁) hT hW₁⟩) with ⟨v, vm₁, ⟨U', l2, c2, s2⟩, hW₁, X', ⟨g', mk, t, L, e1, e2, hq, h1, hL, h2, h3⟩, st⟩ | ⟨q, vm₁, ⟨U', l2, c2, s2⟩, hW₁, X', ⟨g', mk, t, L, E, ce, e1, e2, hq, hce, hcv, hcl, h1, hL, h2, h3⟩, st⟩
  · dsimp only [Pt.U, Pt.locs, Pt.cells, Pt.slots] at X' e1 e2 h1 h2 h3 st
    subst h1; subst h2; subst h3
    exact Or.inl ⟨v, (T.setVm vm₁).calling g' mk (Value.ref b :: As).toArray, t, U', L, hT, X', hL, e1, e2, hq, st⟩
  · dsimp only [Pt.U, Pt.locs, Pt.cells, Pt.slots] at X' e1 e2 h1 h2 h3 st hcl
    subst h1; subst h2; subst h3
    exact Or.inr ⟨q, (T.setVm vm₁).calling g' mk (Value.ref b :: As).toArray, t, U', L, E, ce, hT, X', hL, e1, e2, hq, hce, hcv, vx_cls hW₁ hcl, st⟩
end
/-! ===== END ===== -/
/-! ===== BEGIN a private method of a nest mate that may throw (follows va_callVN, va_callSN, va_runVN, va_runSN) ===== -/
section
variable {p : Program} {l : Launch} {e : Env} {R : Room} {s : State} {m : MethodId} {args : Array Value} {below : List Frame} {meth : Method} {c : Code} {H : Heap} {locs : List Loc} {cells slots : Nat}
variable {T : State}
theorem vx_callVN (X : Stand p l e R s m args below meth c T locs cells slots) (hexec : p.tables.exec = Jvm.exec) {own C : String} {index : Nat} {host : String} {y : MethodName} {bytes : ByteArray} {maxL : Nat} {ret : Option FieldType}
    (hown : s.vm.findClass own = some m.cls) (hlink : (Cond.methodLinkNest own index y host).before args s = true) (hinst : (Cond.instanceMethod y).before args s = true) (hsel : (Cond.selects C y y).before args s = true)
    (hcode : (Cond.code y bytes maxL ret).before args s = true) (hy : y.cls ≠ "java/lang/invoke/MethodHandle" ∧ y.cls ≠ "java/lang/invoke/VarHandle")
    {W : Nat} {Pre : Pt → Array Value → Prop} {Post : Pt → Array Value → Option Value → Pt → Prop} {PostX : Pt → Array Value → Addr → Pt → Prop} (hK : vx_Back l R p e below s args y 3 W Pre Post PostX)
    {b : Addr} {cellB : Cell} (hcell : T.heap[b]? = some cellB) (hobj : cellB.vm.isStatics = false) (hcls : s.vm.findClass C = some cellB.cls)
    {g : JFrame} (hg : g.method = m) (hsize : g.locals.size = c.maxLocals) {argsL rest : List Value} (hlen : ∀ sig, parseMethodDescriptor y.desc = some sig → argsL.length = sig.parameters.length)
    (hstack : g.stack = argsL.reverse ++ .ref b :: rest) (hW : 2 * g.monitorRoom + (rest.map fun v => v.category).sum ≤ W) (hdg : decode c.code g.pc = .ok (.invokevirtual index, 3))
    (hpre : ∀ vm₁, s.WarmedH vm₁ → Pre ⟨T.setVm vm₁, locs, cells, slots⟩ (Value.ref b :: argsL).toArray) :
    (∃ (v : Option Value) (vm₁ : Vm) (B : Pt), s.WarmedH vm₁ ∧ Stand p l e R s m args below meth c B.U B.locs B.cells B.slots ∧ Post ⟨T.setVm vm₁, locs, cells, slots⟩ (Value.ref b :: argsL).toArray v B ∧
      ∀ target, Steps p.tables e below (B.U.setTop { g with pc := g.pc + 3, stack := v.toList ++ rest }) target → Steps p.tables e below (T.setTop g) target) ∨
    (∃ (q : Addr) (vm₁ : Vm) (B : Pt), s.WarmedH vm₁ ∧ Stand p l e R s m args below meth c B.U B.locs B.cells B.slots ∧ PostX ⟨T.setVm vm₁, locs, cells, slots⟩ (Value.ref b :: argsL).toArray q B ∧
      Steps p.tables e below (T.setTop g) ((B.U.setTop { g with stack := rest }).pushFrame (.throwing q))) := by
  obtain ⟨mk, methM, hnamed, hmethM, hstM, habM⟩ := Cond.instanceMethod_spec hinst
  obtain ⟨methM', cM, hmethM', -, -, -, -, -, -, hsigM⟩ := Cond.code_spec hnamed hcode
  cases hmethM.symm.trans hmethM'
  obtain ⟨c2, r2, m2, q1, q2, q3, q4, kP, hkP, hkPi⟩ := Cond.selects_spec hsel
  cases hcls.symm.trans q1
  cases (State.methodFound?_of_named hnamed hy).symm.trans q2
  cases hnamed.symm.trans q3
  have hselP : selectMethod e.platform s.vm cellB.cls mk = .method mk := by rw [Launch.admits_selectMethod X.admits]; exact q4
  obtain ⟨vm₁, X₁, hstep₁⟩ := X.invokevirtualNest hexec hown hlink hnamed hmethM hstM hkP hkPi hy (a := b) (cell := cellB) hcell
    (fun z h => by rw [h] at hobj; cases hobj) hselP hmethM habM hkP hkPi (g := g) hg (argsL := argsL) (rest := rest) (hlen _ hsigM) hstack hdg
  rcases hK m meth c ⟨T.setVm vm₁, locs, cells, slots⟩ { g with stack := rest } (.invokevirtual index) mk (Value.ref b :: argsL).toArray X₁ hg hsize hdg hW (X₁.named hnamed) (hpre vm₁ X₁.warmed) with ⟨v, B, X', hpost, hsteps⟩ | ⟨q, B, X', hpost, hsteps⟩
  · exact Or.inl ⟨v, vm₁, B, X₁.warmed, X', hpost, fun target h => hstep₁ _ fun acts => by rw [doInvoke_state]; exact hsteps.trans h⟩
  · exact Or.inr ⟨q, vm₁, B, X₁.warmed, X', hpost, hstep₁ _ fun acts => by rw [doInvoke_state]; exact hsteps⟩
theorem vx_callSN (X : Stand p l e R s m args below meth c T locs cells slots) (hexec : p.tables.exec = Jvm.exec) {own : String} {index : Nat} {host : String} {y : MethodName} {bytes : ByteArray} {maxL : Nat} {ret : Option FieldType}
    (hown : s.vm.findClass own = some m.cls) (hlink : (Cond.methodLinkNest own index y host).before args s = true) (hstat : (Cond.static y).before args s = true) (hinit : (Cond.initialized y.cls).before args s = true)
    (hcode : (Cond.code y bytes maxL ret).before args s = true) (hy : y.cls ≠ "java/lang/invoke/MethodHandle" ∧ y.cls ≠ "java/lang/invoke/VarHandle")
    {W : Nat} {Pre : Pt → Array Value → Prop} {Post : Pt → Array Value → Option Value → Pt → Prop} {PostX : Pt → Array Value → Addr → Pt → Prop} (hK : vx_Back l R p e below s args y 3 W Pre Post PostX)
    {g : JFrame} (hg : g.method = m) (hsize : g.locals.size = c.maxLocals) {argsL rest : List Value} (hlen : ∀ sig, parseMethodDescriptor y.desc = some sig → argsL.length = sig.parameters.length)
    (hstack : g.stack = argsL.reverse ++ rest) (hW : 2 * g.monitorRoom + (rest.map fun v => v.category).sum ≤ W) (hdg : decode c.code g.pc = .ok (.invokestatic index, 3))
    (hpre : ∀ vm₁, s.WarmedH vm₁ → Pre ⟨T.setVm vm₁, locs, cells, slots⟩ argsL.toArray) :
    (∃ (v : Option Value) (vm₁ : Vm) (B : Pt), s.WarmedH vm₁ ∧ Stand p l e R s m args below meth c B.U B.locs B.cells B.slots ∧ Post ⟨T.setVm vm₁, locs, cells, slots⟩ argsL.toArray v B ∧
      ∀ target, Steps p.tables e below (B.U.setTop { g with pc := g.pc + 3, stack := v.toList ++ rest }) target → Steps p.tables e below (T.setTop g) target) ∨
    (∃ (q : Addr) (vm₁ : Vm) (B : Pt), s.WarmedH vm₁ ∧ Stand p l e R s m args below meth c B.U B.locs B.cells B.slots ∧ PostX ⟨T.setVm vm₁, locs, cells, slots⟩ argsL.toArray q B ∧
      Steps p.tables e below (T.setTop g) ((B.U.setTop { g with stack := rest }).pushFrame (.throwing q))) := by
  obtain ⟨mk, hnamed⟩ := Cond.code_named hcode
  obtain ⟨methM, cM, hmethM, -, -, -, -, -, -, hsigM⟩ := Cond.code_spec hnamed hcode
  have hstatic : methM.isStatic = true := Cond.static_spec hnamed hmethM hstat
  obtain ⟨kP, hkP, -⟩ := className_of_methodNamed hnamed
  have hinitP : kP.init = .initialized := Cond.initialized_spec (findClass_of_methodNamed hnamed) hkP hinit
  obtain ⟨vm₁, X₁, hstep₁⟩ := X.invokestaticNest hexec hown hlink hnamed hmethM hstatic hkP hinitP hy (g := g) hg (argsL := argsL) (rest := rest) (hlen _ hsigM) hstack hdg
  rcases hK m meth c ⟨T.setVm vm₁, locs, cells, slots⟩ { g with stack := rest } (.invokestatic index) mk argsL.toArray X₁ hg hsize hdg hW (X₁.named hnamed) (hpre vm₁ X₁.warmed) with ⟨v, B, X', hpost, hsteps⟩ | ⟨q, B, X', hpost, hsteps⟩
  · exact Or.inl ⟨v, vm₁, B, X₁.warmed, X', hpost, fun target h => hstep₁ _ fun acts => by rw [doInvoke_state]; exact hsteps.trans h⟩
  · exact Or.inr ⟨q, vm₁, B, X₁.warmed, X', hpost, hstep₁ _ fun acts => by rw [doInvoke_state]; exact hsteps⟩
theorem vx_runVN {y : MethodName} {bytes cc : ByteArray} {maxL nL mc ms n index : Nat} {ret : Option FieldType} {ws : List Cond} {rm : Room} {Pc : Array Value → State → Prop} {Qc : Array Value → State → Outcome → State → Prop} {XC : String → State → State → Prop} {free : Addr → Prop} {Ts : List Cond} {own C host : String} {b : Addr} {As rest : List Value} {g : JFrame}
    (S : CallFix p m c cc nL s args Ts own) (hM : vx_Met l y ws rm Pc Qc XC mc ms free) (cw : va_CN R s args own index y host bytes maxL ret ws rm mc ms n ∧ (Cond.instanceMethod y).before args s = true ∧ (Cond.selects C y y).before args s = true) (hp : PreV s H C b Pc As)
    (hg : g.method = m) (hn : As.length = n) (hsize : g.locals.size = nL) (hstack : g.stack = As.reverse ++ .ref b :: rest) (hW : 2 * g.monitorRoom + (rest.map fun v => v.category).sum ≤ 8) (hdg : decode cc g.pc = .ok (.invokevirtual index, 3)) (hf : cells + mc ≤ R.cells ∧ slots + ms ≤ R.slots) :
    vx_Run p l e R s m args below meth c H locs cells slots mc ms g rest (Qc (Value.ref b :: As).toArray) XC free := by
  obtain ⟨⟨⟨hrc, hrs, hfr, hlo, hws, hcw⟩, hcode, hini, hy, hlen, hl⟩, hx1, hx2⟩ := cw
  have hK : vx_Back l R p e below s args y 3 8 (PreOf R mc ms Pc) (PostOf Qc mc ms free) (vx_Post XC mc ms free) := vx_back (bytes := bytes) (maxL := maxL) (ret := ret) hM hp.1 hrc hrs hfr hlo hws hcw (fun a' U hW => word_at hW (Or.inl (by first | rfl | simp [Cond.onTables, Cond.keeps, Cond.steady])) hini)
  obtain ⟨hx, hb, hml, ho, -⟩ := S
  obtain ⟨-, ⟨cellB, hcB, hoB, hclB⟩, hPc⟩ := hp
  intro T hT X
  rcases vx_callVN X hx (C := C) (bytes := bytes) (maxL := maxL) (ret := ret) ho hl hx1 hx2 hcode hy hK (by rw [hT]; exact hcB) hoB hclB hg (hsize.trans hml.symm) (argsL := As) (rest := rest) (fun sig h => hn.trans (hlen sig h)) hstack hW (by rw [hb]; exact hdg)
    (fun vm₁ hW₁ => ⟨hf.1, hf.2, hPc (T.setVm vm₁) hT hW₁⟩) with ⟨v, vm₁, ⟨U', l2, c2, s2⟩, hW₁, X', ⟨g', mk, t, L, e1, e2, hq, h1, hL, h2, h3⟩, st⟩ | ⟨q, vm₁, ⟨U', l2, c2, s2⟩, hW₁, X', ⟨g', mk, t, L, E, ce, e1, e2, hq, hce, hcv, hcl, h1, hL, h2, h3⟩, st⟩
  · dsimp only [Pt.U, Pt.locs, Pt.cells, Pt.slots] at X' e1 e2 h1 h2 h3 st
    subst h1; subst h2; subst h3
    exact Or.inl ⟨v, (T.setVm vm₁).calling g' mk (Value.ref b :: As).toArray, t, U', L, hT, X', hL, e1, e2, hq, st⟩
  · dsimp only [Pt.U, Pt.locs, Pt.cells, Pt.slots] at X' e1 e2 h1 h2 h3 st hcl
    subst h1; subst h2; subst h3
    exact Or.inr ⟨q, (T.setVm vm₁).calling g' mk (Value.ref b :: As).toArray, t, U', L, E, ce, hT, X', hL, e1, e2, hq, hce, hcv, vx_cls hW₁ hcl, st⟩
theorem vx_runSN {y : MethodName} {bytes cc : ByteArray} {maxL nL mc ms n index : Nat} {ret : Option FieldType} {ws : List Cond} {rm : Room} {Pc : Array Value → State → Prop} {Qc : Array Value → State → Outcome → State → Prop} {XC : String → State → State → Prop} {free : Addr → Prop} {Ts : List Cond} {own host : String} {As rest : List Value} {g : JFrame}
    (S : CallFix p m c cc nL s args Ts own) (hM : vx_Met l y ws rm Pc Qc XC mc ms free) (cw : va_CN R s args own index y host bytes maxL ret ws rm mc ms n ∧ (Cond.static y).before args s = true ∧ True) (hp : PreS s H Pc As)
    (hg : g.method = m) (hn : As.length = n) (hsize : g.locals.size = nL) (hstack : g.stack = As.reverse ++ rest) (hW : 2 * g.monitorRoom + (rest.map fun v => v.category).sum ≤ 8) (hdg : decode cc g.pc = .ok (.invokestatic index, 3)) (hf : cells + mc ≤ R.cells ∧ slots + ms ≤ R.slots) :
    vx_Run p l e R s m args below meth c H locs cells slots mc ms g rest (Qc As.toArray) XC free := by
  obtain ⟨⟨⟨hrc, hrs, hfr, hlo, hws, hcw⟩, hcode, hini, hy, hlen, hl⟩, hx1, hx2⟩ := cw
  have hK : vx_Back l R p e below s args y 3 8 (PreOf R mc ms Pc) (PostOf Qc mc ms free) (vx_Post XC mc ms free) := vx_back (bytes := bytes) (maxL := maxL) (ret := ret) hM hp.1 hrc hrs hfr hlo hws hcw (fun a' U hW => word_at hW (Or.inl (by first | rfl | simp [Cond.onTables, Cond.keeps, Cond.steady])) hini)
  obtain ⟨hx, hb, hml, ho, -⟩ := S
  have hPc := hp.2
  intro T hT X
  rcases vx_callSN X hx (bytes := bytes) (maxL := maxL) (ret := ret) ho hl hx1 hini hcode hy hK hg (hsize.trans hml.symm) (argsL := As) (rest := rest) (fun sig h => hn.trans (hlen sig h)) hstack hW (by rw [hb]; exact hdg)
    (fun vm₁ hW₁ => ⟨hf.1, hf.2, hPc (T.setVm vm₁) hT hW₁⟩) with ⟨v, vm₁, ⟨U', l2, c2, s2⟩, hW₁, X', ⟨g', mk, t, L, e1, e2, hq, h1, hL, h2, h3⟩, st⟩ | ⟨q, vm₁, ⟨U', l2, c2, s2⟩, hW₁, X', ⟨g', mk, t, L, E, ce, e1, e2, hq, hce, hcv, hcl, h1, hL, h2, h3⟩, st⟩
  · dsimp only [Pt.U, Pt.locs, Pt.cells, Pt.slots] at X' e1 e2 h1 h2 h3 st
    subst h1; subst h2; subst h3
    exact Or.inl ⟨v, (T.setVm vm₁).calling g' mk As.toArray, t, U', L, hT, X', hL, e1, e2, hq, st⟩
  · dsimp only [Pt.U, Pt.locs, Pt.cells, Pt.slots] at X' e1 e2 h1 h2 h3 st hcl
    subst h1; subst h2; subst h3
    exact Or.inr ⟨q, (T.setVm vm₁).calling g' mk As.toArray, t, U', L, E, ce, hT, X', hL, e1, e2, hq, hce, hcv, vx_cls hW₁ hcl, st⟩
end
/-! ===== END ===== -/
/-! ===== BEGIN calls by an interface of methods that may throw (vx_callIF, vx_runF follow va_callIF, va_runF of this kit) ===== -/
section
variable {p : Program} {l : Launch} {e : Env} {R : Room} {s : State} {m : MethodId} {args : Array Value} {below : List Frame} {meth : Method} {c : Code} {H : Heap} {locs : List Loc} {cells slots : Nat} {Q : State → Prop}
variable {mc ms : Nat} {free : Addr → Prop} {A0 A1 : Nat → Prop} {H0 : Heap} {a : Array Value} {pc : Nat} {ls : Array Slot} {st0 rest : List Value}
def vx_Run5 (p : Program) (l : Launch) (e : Env) (R : Room) (s : State) (m : MethodId) (args : Array Value) (below : List Frame) (meth : Method) (c : Code) (H : Heap) (locs : List Loc) (cells slots mc ms : Nat) (g : JFrame) (rest : List Value) (Qa : State → Outcome → State → Prop) (XC : String → State → State → Prop) (free : Addr → Prop) : Prop :=
  ∀ T : State, T.heap = H → Stand p l e R s m args below meth c T locs cells slots →
    (∃ (v : Option Value) (st₀ t T' : State) (L : List Loc), st₀.heap = H ∧ Stand p l e R s m args below meth c T' (locs ++ L) (cells + mc) (slots + ms) ∧ (∀ q ∈ L, free q.base) ∧ T'.heap = t.heap ∧ T'.vm = t.vm ∧ Qa st₀ (.returned v) t ∧
      Goes p e below T g T' { g with pc := g.pc + 5, stack := v.toList ++ rest }) ∨
    (∃ (q : Addr) (st₀ t T' : State) (L : List Loc) (E : String) (ce : Cell), st₀.heap = H ∧ Stand p l e R s m args below meth c T' (locs ++ L) (cells + mc) (slots + ms) ∧ (∀ z ∈ L, free z.base) ∧ T'.heap = t.heap ∧ T'.vm = t.vm ∧ XC E st₀ t ∧ t.heap[q]? = some ce ∧ ce.vm = .none ∧ s.vm.findClass E = some ce.cls ∧
      Steps p.tables e below (T.setTop g) ((T'.setTop { g with stack := rest }).pushFrame (.throwing q)))
theorem vx_callIF {T : State} (X : Stand p l e R s m args below meth c T locs cells slots) (hexec : p.tables.exec = Jvm.exec) {own C : String} {index count : Nat} {x y : MethodName} {bytes : ByteArray} {maxL : Nat} {ret : Option FieldType}
    (hown : s.vm.findClass own = some m.cls) (hlink : (Cond.methodLink own index x).before args s = true) (hdecl : (Cond.declares x).before args s = true) (hface : (Cond.interfaceMethod x.cls x.cls x.name x.desc).before args s = true)
    (hsel : (Cond.selects C x y).before args s = true) (hinst : (Cond.instanceMethod y).before args s = true) (hpub : (Cond.publicMethod y).before args s = true) (hunh : (Cond.unhidden C x.name x.desc).before args s = true)
    (hcast : (Cond.castable C x.cls).before args s = true) (hcode : (Cond.code y bytes maxL ret).before args s = true) (hx : x.cls ≠ "java/lang/invoke/MethodHandle" ∧ x.cls ≠ "java/lang/invoke/VarHandle")
    {W9 : Nat} {Pre : Pt → Array Value → Prop} {Post : Pt → Array Value → Option Value → Pt → Prop} {PostX : Pt → Array Value → Addr → Pt → Prop} (hK : vx_Back l R p e below s args y 5 W9 Pre Post PostX)
    {b : Addr} {cellB : Cell} {kB : Class} (hcell : T.heap[b]? = some cellB) (hobj : cellB.vm.isStatics = false) (hcls : s.vm.findClass C = some cellB.cls) (hkB : s.vm.classes[cellB.cls]? = some kB)
    {g : JFrame} (hg : g.method = m) (hsize : g.locals.size = c.maxLocals) {argsL rest : List Value} (hlen : ∀ sig, parseMethodDescriptor x.desc = some sig → argsL.length = sig.parameters.length)
    (hstack : g.stack = argsL.reverse ++ .ref b :: rest) (hW : 2 * g.monitorRoom + (rest.map fun v => v.category).sum ≤ W9) (hdg : decode c.code g.pc = .ok (.invokeinterface index count, 5))
    (hpre : ∀ vm₁, s.WarmedH vm₁ → Pre ⟨T.setVm vm₁, locs, cells, slots⟩ (Value.ref b :: argsL).toArray) :
    (∃ (v : Option Value) (vm₁ : Vm) (B : Pt), s.WarmedH vm₁ ∧ Stand p l e R s m args below meth c B.U B.locs B.cells B.slots ∧ Post ⟨T.setVm vm₁, locs, cells, slots⟩ (Value.ref b :: argsL).toArray v B ∧
      ∀ target, Steps p.tables e below (B.U.setTop { g with pc := g.pc + 5, stack := v.toList ++ rest }) target → Steps p.tables e below (T.setTop g) target) ∨
    (∃ (q : Addr) (vm₁ : Vm) (B : Pt), s.WarmedH vm₁ ∧ Stand p l e R s m args below meth c B.U B.locs B.cells B.slots ∧ PostX ⟨T.setVm vm₁, locs, cells, slots⟩ (Value.ref b :: argsL).toArray q B ∧
      Steps p.tables e below (T.setTop g) ((B.U.setTop { g with stack := rest }).pushFrame (.throwing q))) := by
  obtain ⟨r0, r, hn, hrm, hstR, hsigR⟩ := Cond.declares_spec hdecl
  obtain ⟨cL, kL, r1, hcL, hkL, hiL, hfoundL, hn1⟩ := Cond.interfaceMethod_spec hface
  cases hn.symm.trans hn1
  have hr0cls : r0.cls = cL := Option.some.inj ((findClass_of_methodNamed hn).symm.trans hcL)
  obtain ⟨hnameR, hdescR⟩ := name_of_methodNamed hn hrm
  obtain ⟨mk, methM, hnamed, hmethM, -, habM⟩ := Cond.instanceMethod_spec hinst
  obtain ⟨c2, r2, m2, q1, q2, q3, q4, -⟩ := Cond.selects_spec hsel
  cases hcls.symm.trans q1
  cases hfoundL.symm.trans q2
  cases hnamed.symm.trans q3
  have hselP : selectMethod e.platform s.vm cellB.cls r0 = .method mk := by rw [Launch.admits_selectMethod X.admits]; exact q4
  have hpubM : hasFlag methM.accessFlags Acc.public_ = true := Cond.publicMethod_spec hnamed hmethM hpub
  have hway : ((cellB.cls :: s.vm.superclasses cellB.cls).any fun k => (declaredIn s.vm r.name r.desc k).any fun (_, z) => z.isPrivate || z.isStatic) = false := by
    rw [hnameR, hdescR]; exact Cond.unhidden_spec hcls hunh
  obtain ⟨c3, t3, w1, w2, w3⟩ := Cond.castable_spec hcast
  cases hcls.symm.trans w1
  cases hcL.symm.trans w2
  obtain ⟨vm₁, X₁, hstep₁⟩ := X.invokeinterface hexec hown hlink hn hrm hstR (by rw [hr0cls]; exact hkL) hiL hx (a := b) (cell := cellB) (kcell := kB) hcell
    (fun z h => by rw [h] at hobj; cases hobj) hkB (by rw [hr0cls]; exact w3) hselP hmethM hway hpubM habM (g := g) hg (argsL := argsL) (rest := rest) (hlen _ hsigR) hstack hdg
  rcases hK m meth c ⟨T.setVm vm₁, locs, cells, slots⟩ { g with stack := rest } (.invokeinterface index count) mk (Value.ref b :: argsL).toArray X₁ hg hsize hdg hW (X₁.named hnamed) (hpre vm₁ X₁.warmed) with ⟨v, B, X', hpost, hsteps⟩ | ⟨q, B, X', hpost, hsteps⟩
  · exact Or.inl ⟨v, vm₁, B, X₁.warmed, X', hpost, fun target h => hstep₁ _ fun acts => by rw [doInvoke_state]; exact hsteps.trans h⟩
  · exact Or.inr ⟨q, vm₁, B, X₁.warmed, X', hpost, hstep₁ _ fun acts => by rw [doInvoke_state]; exact hsteps⟩
theorem vx_runF {x y : MethodName} {bytes cc : ByteArray} {maxL nL mc ms n index count : Nat} {ret : Option FieldType} {ws : List Cond} {rm : Room} {Pc : Array Value → State → Prop} {Qc : Array Value → State → Outcome → State → Prop} {XC : String → State → State → Prop} {free : Addr → Prop} {Ts : List Cond} {own C : String} {cC : ClassId} {b : Addr} {As rest : List Value} {g : JFrame}
    (hat : ClassAt s C cC) (S : CallFix p m c cc nL s args Ts own) (hM : vx_Met l y ws rm Pc Qc XC mc ms free) (cw : va_CI R s args own C index x y bytes maxL ret ws rm mc ms n) (hp : PreV s H C b Pc As)
    (hg : g.method = m) (hn : As.length = n) (hsize : g.locals.size = nL) (hstack : g.stack = As.reverse ++ .ref b :: rest) (hW : 2 * g.monitorRoom + (rest.map fun v => v.category).sum ≤ 8) (hdg : decode cc g.pc = .ok (.invokeinterface index count, 5)) (hf : cells + mc ≤ R.cells ∧ slots + ms ≤ R.slots) :
    vx_Run5 p l e R s m args below meth c H locs cells slots mc ms g rest (Qc (Value.ref b :: As).toArray) XC free := by
  obtain ⟨hrc, hrs, hfr, hlo, hws, hcw⟩ := cw.back
  have hini := cw.init
  have hK : vx_Back l R p e below s args y 5 8 (PreOf R mc ms Pc) (PostOf Qc mc ms free) (vx_Post XC mc ms free) := vx_back (bytes := bytes) (maxL := maxL) (ret := ret) hM hp.1 hrc hrs hfr hlo hws hcw (fun a' U hW => word_at hW (Or.inl (by first | rfl | simp [Cond.onTables, Cond.keeps, Cond.steady])) hini)
  obtain ⟨hx, hb, hml, ho, -⟩ := S
  obtain ⟨-, ⟨cellB, hcB, hoB, hclB⟩, hPc⟩ := hp
  obtain ⟨hfc, kB, hkB, -⟩ := hat
  cases hfc.symm.trans hclB
  intro T hT X
  rcases vx_callIF X hx (C := C) (bytes := bytes) (maxL := maxL) (ret := ret) ho cw.link cw.decl cw.face cw.sel cw.inst cw.pub cw.unh cw.cast cw.code cw.notMH hK (by rw [hT]; exact hcB) hoB hclB hkB hg (hsize.trans hml.symm) (argsL := As) (rest := rest) (fun sig h => hn.trans (cw.len sig h)) hstack hW (by rw [hb]; exact hdg)
    (fun vm₁ hW₁ => ⟨hf.1, hf.2, hPc (T.setVm vm₁) hT hW₁⟩) with ⟨v, vm₁, ⟨U', l2, c2, s2⟩, hW₁, X', ⟨g', mk, t, L, e1, e2, hq, h1, hL, h2, h3⟩, st⟩ | ⟨q, vm₁, ⟨U', l2, c2, s2⟩, hW₁, X', ⟨g', mk, t, L, E, ce, e1, e2, hq, hce, hcv, hcl, h1, hL, h2, h3⟩, st⟩
  · dsimp only [Pt.U, Pt.locs, Pt.cells, Pt.slots] at X' e1 e2 h1 h2 h3 st
    subst h1; subst h2; subst h3
    exact Or.inl ⟨v, (T.setVm vm₁).calling g' mk (Value.ref b :: As).toArray, t, U', L, hT, X', hL, e1, e2, hq, st⟩
  · dsimp only [Pt.U, Pt.locs, Pt.cells, Pt.slots] at X' e1 e2 h1 h2 h3 st hcl
    subst h1; subst h2; subst h3
    exact Or.inr ⟨q, (T.setVm vm₁).calling g' mk (Value.ref b :: As).toArray, t, U', L, E, ce, hT, X', hL, e1, e2, hq, hce, hcv, vx_cls hW₁ hcl, st⟩
theorem vx_callFv {S SX : Type} {post : S → Prop} {px : SX → Prop} {B : S → State → Prop} {BX : String → SX → State → Prop} {AX : Nat → Prop} (hr : vx_Run5 p l e R s m args below meth c H locs cells slots mc ms (F0 m pc ls st0) rest (va_Qv post B A1 a) (vx_X px BX AX) free) (hS : va_S A0 H0 H locs) (hA : ∀ q, q < H.size → A1 q → A0 q) (hf : ∀ q, free q → A0 q) (hAX : ∀ q, q < H.size → AX q → A0 q)
    (kx : ∀ (E : String) (ce : Cell) (q9 : Addr) (u : SX) (t : State) (H1 : Heap) (locs1 : List Loc), t.heap = H1 → s.vm.Alike t.vm → px u → BX E u t → H.size ≤ H1.size → (∀ q : Nat, q < H.size → ¬ AX q → H1[q]? = H[q]?) → va_S A0 H0 H1 locs1 → H1[q9]? = some ce → ce.vm = .none → s.vm.findClass E = some ce.cls → vx_W p l e R s m args below meth c H1 locs1 (cells + mc) (slots + ms) Q (F0 m pc ls rest) q9)
    (kk : ∀ (u : S) (t : State) (H1 : Heap) (locs1 : List Loc), t.heap = H1 → s.vm.Alike t.vm → post u → B u t → H.size ≤ H1.size → (∀ q : Nat, q < H.size → ¬ A1 q → H1[q]? = H[q]?) → va_S A0 H0 H1 locs1 → W p l e R s m args below meth c H1 locs1 (cells + mc) (slots + ms) Q (F0 m (pc + 5) ls (rest))) : W p l e R s m args below meth c H locs cells slots Q (F0 m pc ls st0) := by
  intro T hT X
  rcases hr T hT X with ⟨v, st₀, t, T', L, h0, X', hL, e1, e2, ⟨⟨u, hv, hp, hb⟩, hF⟩, st⟩ | ⟨q, st₀, t, T', L, E, ce, h0, X', hL, e1, e2, ⟨u, hp, hb, hF⟩, hce, hcv, hcl, st⟩
  · cases hv
    obtain ⟨k1, k2, k3⟩ := vx_keep h0 e1 hS hA hf hL hF
    obtain ⟨t2, a1, b1⟩ := kk u t T'.heap (locs ++ L) e1.symm (by rw [← e2]; exact X'.warmed.alike) hp hb k1 k2 k3 T' rfl X'
    exact ⟨t2, st t2 a1, b1⟩
  · obtain ⟨k1, k2, k3⟩ := vx_keep h0 e1 hS hAX hf hL hF
    obtain ⟨t2, a1, b1⟩ := kx E ce q u t T'.heap (locs ++ L) e1.symm (by rw [← e2]; exact X'.warmed.alike) hp hb k1 k2 k3 (by rw [e1]; exact hce) hcv hcl T' rfl X'
    exact ⟨t2, st.trans a1, b1⟩
theorem vx_callFi {S SX : Type} {post : Int32 → S → Prop} {px : SX → Prop} {B : S → State → Prop} {BX : String → SX → State → Prop} {AX : Nat → Prop} (hr : vx_Run5 p l e R s m args below meth c H locs cells slots mc ms (F0 m pc ls st0) rest (va_Qi post B A1 a) (vx_X px BX AX) free) (hS : va_S A0 H0 H locs) (hA : ∀ q, q < H.size → A1 q → A0 q) (hf : ∀ q, free q → A0 q) (hAX : ∀ q, q < H.size → AX q → A0 q)
    (kx : ∀ (E : String) (ce : Cell) (q9 : Addr) (u : SX) (t : State) (H1 : Heap) (locs1 : List Loc), t.heap = H1 → s.vm.Alike t.vm → px u → BX E u t → H.size ≤ H1.size → (∀ q : Nat, q < H.size → ¬ AX q → H1[q]? = H[q]?) → va_S A0 H0 H1 locs1 → H1[q9]? = some ce → ce.vm = .none → s.vm.findClass E = some ce.cls → vx_W p l e R s m args below meth c H1 locs1 (cells + mc) (slots + ms) Q (F0 m pc ls rest) q9)
    (kk : ∀ (r : Int32) (u : S) (t : State) (H1 : Heap) (locs1 : List Loc), t.heap = H1 → s.vm.Alike t.vm → post r u → B u t → H.size ≤ H1.size → (∀ q : Nat, q < H.size → ¬ A1 q → H1[q]? = H[q]?) → va_S A0 H0 H1 locs1 → W p l e R s m args below meth c H1 locs1 (cells + mc) (slots + ms) Q (F0 m (pc + 5) ls (.int r :: rest))) : W p l e R s m args below meth c H locs cells slots Q (F0 m pc ls st0) := by
  intro T hT X
  rcases hr T hT X with ⟨v, st₀, t, T', L, h0, X', hL, e1, e2, ⟨⟨r, u, hv, hp, hb⟩, hF⟩, st⟩ | ⟨q, st₀, t, T', L, E, ce, h0, X', hL, e1, e2, ⟨u, hp, hb, hF⟩, hce, hcv, hcl, st⟩
  · cases hv
    obtain ⟨k1, k2, k3⟩ := vx_keep h0 e1 hS hA hf hL hF
    obtain ⟨t2, a1, b1⟩ := kk r u t T'.heap (locs ++ L) e1.symm (by rw [← e2]; exact X'.warmed.alike) hp hb k1 k2 k3 T' rfl X'
    exact ⟨t2, st t2 a1, b1⟩
  · obtain ⟨k1, k2, k3⟩ := vx_keep h0 e1 hS hAX hf hL hF
    obtain ⟨t2, a1, b1⟩ := kx E ce q u t T'.heap (locs ++ L) e1.symm (by rw [← e2]; exact X'.warmed.alike) hp hb k1 k2 k3 (by rw [e1]; exact hce) hcv hcl T' rfl X'
    exact ⟨t2, st.trans a1, b1⟩
theorem vx_callFl {S SX : Type} {post : Int64 → S → Prop} {px : SX → Prop} {B : S → State → Prop} {BX : String → SX → State → Prop} {AX : Nat → Prop} (hr : vx_Run5 p l e R s m args below meth c H locs cells slots mc ms (F0 m pc ls st0) rest (va_Ql post B A1 a) (vx_X px BX AX) free) (hS : va_S A0 H0 H locs) (hA : ∀ q, q < H.size → A1 q → A0 q) (hf : ∀ q, free q → A0 q) (hAX : ∀ q, q < H.size → AX q → A0 q)
    (kx : ∀ (E : String) (ce : Cell) (q9 : Addr) (u : SX) (t : State) (H1 : Heap) (locs1 : List Loc), t.heap = H1 → s.vm.Alike t.vm → px u → BX E u t → H.size ≤ H1.size → (∀ q : Nat, q < H.size → ¬ AX q → H1[q]? = H[q]?) → va_S A0 H0 H1 locs1 → H1[q9]? = some ce → ce.vm = .none → s.vm.findClass E = some ce.cls → vx_W p l e R s m args below meth c H1 locs1 (cells + mc) (slots + ms) Q (F0 m pc ls rest) q9)
    (kk : ∀ (r : Int64) (u : S) (t : State) (H1 : Heap) (locs1 : List Loc), t.heap = H1 → s.vm.Alike t.vm → post r u → B u t → H.size ≤ H1.size → (∀ q : Nat, q < H.size → ¬ A1 q → H1[q]? = H[q]?) → va_S A0 H0 H1 locs1 → W p l e R s m args below meth c H1 locs1 (cells + mc) (slots + ms) Q (F0 m (pc + 5) ls (.long r :: rest))) : W p l e R s m args below meth c H locs cells slots Q (F0 m pc ls st0) := by
  intro T hT X
  rcases hr T hT X with ⟨v, st₀, t, T', L, h0, X', hL, e1, e2, ⟨⟨r, u, hv, hp, hb⟩, hF⟩, st⟩ | ⟨q, st₀, t, T', L, E, ce, h0, X', hL, e1, e2, ⟨u, hp, hb, hF⟩, hce, hcv, hcl, st⟩
  · cases hv
    obtain ⟨k1, k2, k3⟩ := vx_keep h0 e1 hS hA hf hL hF
    obtain ⟨t2, a1, b1⟩ := kk r u t T'.heap (locs ++ L) e1.symm (by rw [← e2]; exact X'.warmed.alike) hp hb k1 k2 k3 T' rfl X'
    exact ⟨t2, st t2 a1, b1⟩
  · obtain ⟨k1, k2, k3⟩ := vx_keep h0 e1 hS hAX hf hL hF
    obtain ⟨t2, a1, b1⟩ := kx E ce q u t T'.heap (locs ++ L) e1.symm (by rw [← e2]; exact X'.warmed.alike) hp hb k1 k2 k3 (by rw [e1]; exact hce) hcv hcl T' rfl X'
    exact ⟨t2, st.trans a1, b1⟩
theorem vx_callFf {S SX : Type} {post : UInt32 → S → Prop} {px : SX → Prop} {B : S → State → Prop} {BX : String → SX → State → Prop} {AX : Nat → Prop} (hr : vx_Run5 p l e R s m args below meth c H locs cells slots mc ms (F0 m pc ls st0) rest (va_Qf post B A1 a) (vx_X px BX AX) free) (hS : va_S A0 H0 H locs) (hA : ∀ q, q < H.size → A1 q → A0 q) (hf : ∀ q, free q → A0 q) (hAX : ∀ q, q < H.size → AX q → A0 q)
    (kx : ∀ (E : String) (ce : Cell) (q9 : Addr) (u : SX) (t : State) (H1 : Heap) (locs1 : List Loc), t.heap = H1 → s.vm.Alike t.vm → px u → BX E u t → H.size ≤ H1.size → (∀ q : Nat, q < H.size → ¬ AX q → H1[q]? = H[q]?) → va_S A0 H0 H1 locs1 → H1[q9]? = some ce → ce.vm = .none → s.vm.findClass E = some ce.cls → vx_W p l e R s m args below meth c H1 locs1 (cells + mc) (slots + ms) Q (F0 m pc ls rest) q9)
    (kk : ∀ (r : UInt32) (u : S) (t : State) (H1 : Heap) (locs1 : List Loc), t.heap = H1 → s.vm.Alike t.vm → post r u → B u t → H.size ≤ H1.size → (∀ q : Nat, q < H.size → ¬ A1 q → H1[q]? = H[q]?) → va_S A0 H0 H1 locs1 → W p l e R s m args below meth c H1 locs1 (cells + mc) (slots + ms) Q (F0 m (pc + 5) ls (.float r :: rest))) : W p l e R s m args below meth c H locs cells slots Q (F0 m pc ls st0) := by
  intro T hT X
  rcases hr T hT X with ⟨v, st₀, t, T', L, h0, X', hL, e1, e2, ⟨⟨r, u, hv, hp, hb⟩, hF⟩, st⟩ | ⟨q, st₀, t, T', L, E, ce, h0, X', hL, e1, e2, ⟨u, hp, hb, hF⟩, hce, hcv, hcl, st⟩
  · cases hv
    obtain ⟨k1, k2, k3⟩ := vx_keep h0 e1 hS hA hf hL hF
    obtain ⟨t2, a1, b1⟩ := kk r u t T'.heap (locs ++ L) e1.symm (by rw [← e2]; exact X'.warmed.alike) hp hb k1 k2 k3 T' rfl X'
    exact ⟨t2, st t2 a1, b1⟩
  · obtain ⟨k1, k2, k3⟩ := vx_keep h0 e1 hS hAX hf hL hF
    obtain ⟨t2, a1, b1⟩ := kx E ce q u t T'.heap (locs ++ L) e1.symm (by rw [← e2]; exact X'.warmed.alike) hp hb k1 k2 k3 (by rw [e1]; exact hce) hcv hcl T' rfl X'
    exact ⟨t2, st.trans a1, b1⟩
theorem vx_callFd {S SX : Type} {post : UInt64 → S → Prop} {px : SX → Prop} {B : S → State → Prop} {BX : String → SX → State → Prop} {AX : Nat → Prop} (hr : vx_Run5 p l e R s m args below meth c H locs cells slots mc ms (F0 m pc ls st0) rest (va_Qd post B A1 a) (vx_X px BX AX) free) (hS : va_S A0 H0 H locs) (hA : ∀ q, q < H.size → A1 q → A0 q) (hf : ∀ q, free q → A0 q) (hAX : ∀ q, q < H.size → AX q → A0 q)
    (kx : ∀ (E : String) (ce : Cell) (q9 : Addr) (u : SX) (t : State) (H1 : Heap) (locs1 : List Loc), t.heap = H1 → s.vm.Alike t.vm → px u → BX E u t → H.size ≤ H1.size → (∀ q : Nat, q < H.size → ¬ AX q → H1[q]? = H[q]?) → va_S A0 H0 H1 locs1 → H1[q9]? = some ce → ce.vm = .none → s.vm.findClass E = some ce.cls → vx_W p l e R s m args below meth c H1 locs1 (cells + mc) (slots + ms) Q (F0 m pc ls rest) q9)
    (kk : ∀ (r : UInt64) (u : S) (t : State) (H1 : Heap) (locs1 : List Loc), t.heap = H1 → s.vm.Alike t.vm → post r u → B u t → H.size ≤ H1.size → (∀ q : Nat, q < H.size → ¬ A1 q → H1[q]? = H[q]?) → va_S A0 H0 H1 locs1 → W p l e R s m args below meth c H1 locs1 (cells + mc) (slots + ms) Q (F0 m (pc + 5) ls (.double r :: rest))) : W p l e R s m args below meth c H locs cells slots Q (F0 m pc ls st0) := by
  intro T hT X
  rcases hr T hT X with ⟨v, st₀, t, T', L, h0, X', hL, e1, e2, ⟨⟨r, u, hv, hp, hb⟩, hF⟩, st⟩ | ⟨q, st₀, t, T', L, E, ce, h0, X', hL, e1, e2, ⟨u, hp, hb, hF⟩, hce, hcv, hcl, st⟩
  · cases hv
    obtain ⟨k1, k2, k3⟩ := vx_keep h0 e1 hS hA hf hL hF
    obtain ⟨t2, a1, b1⟩ := kk r u t T'.heap (locs ++ L) e1.symm (by rw [← e2]; exact X'.warmed.alike) hp hb k1 k2 k3 T' rfl X'
    exact ⟨t2, st t2 a1, b1⟩
  · obtain ⟨k1, k2, k3⟩ := vx_keep h0 e1 hS hAX hf hL hF
    obtain ⟨t2, a1, b1⟩ := kx E ce q u t T'.heap (locs ++ L) e1.symm (by rw [← e2]; exact X'.warmed.alike) hp hb k1 k2 k3 (by rw [e1]; exact hce) hcv hcl T' rfl X'
    exact ⟨t2, st.trans a1, b1⟩
end
/-! ===== END ===== -/
/-! ===== BEGIN by an interface, a method with a table of its own that may throw (follows va_callIFW, va_runFW) ===== -/
section
variable {p : Program} {l : Launch} {e : Env} {R : Room} {s : State} {m : MethodId} {args : Array Value} {below : List Frame} {meth : Method} {c : Code} {H : Heap} {locs : List Loc} {cells slots : Nat}
theorem vx_callIFW {T : State} (X : Stand p l e R s m args below meth c T locs cells slots) (hexec : p.tables.exec = Jvm.exec) {own C : String} {index count : Nat} {x y : MethodName} {bytes : ByteArray} {maxL : Nat} {ret : Option FieldType} {hh : List (Nat × Nat × Nat × Nat)}
    (hown : s.vm.findClass own = some m.cls) (hlink : (Cond.methodLink own index x).before args s = true) (hdecl : (Cond.declares x).before args s = true) (hface : (Cond.interfaceMethod x.cls x.cls x.name x.desc).before args s = true)
    (hsel : (Cond.selects C x y).before args s = true) (hinst : (Cond.instanceMethod y).before args s = true) (hpub : (Cond.publicMethod y).before args s = true) (hunh : (Cond.unhidden C x.name x.desc).before args s = true)
    (hcast : (Cond.castable C x.cls).before args s = true) (hcode : (Cond.codeWith y bytes maxL ret hh).before args s = true) (hx : x.cls ≠ "java/lang/invoke/MethodHandle" ∧ x.cls ≠ "java/lang/invoke/VarHandle")
    {W : Nat} {Pre : Pt → Array Value → Prop} {Post : Pt → Array Value → Option Value → Pt → Prop} {PostX : Pt → Array Value → Addr → Pt → Prop} (hK : vx_Back l R p e below s args y 5 W Pre Post PostX)
    {b : Addr} {cellB : Cell} {kB : Class} (hcell : T.heap[b]? = some cellB) (hobj : cellB.vm.isStatics = false) (hcls : s.vm.findClass C = some cellB.cls) (hkB : s.vm.classes[cellB.cls]? = some kB)
    {g : JFrame} (hg : g.method = m) (hsize : g.locals.size = c.maxLocals) {argsL rest : List Value} (hlen : ∀ sig, parseMethodDescriptor x.desc = some sig → argsL.length = sig.parameters.length)
    (hstack : g.stack = argsL.reverse ++ .ref b :: rest) (hW : 2 * g.monitorRoom + (rest.map fun v => v.category).sum ≤ W) (hdg : decode c.code g.pc = .ok (.invokeinterface index count, 5))
    (hpre : ∀ vm₁, s.WarmedH vm₁ → Pre ⟨T.setVm vm₁, locs, cells, slots⟩ (Value.ref b :: argsL).toArray) :
    (∃ (v : Option Value) (vm₁ : Vm) (B : Pt), s.WarmedH vm₁ ∧ Stand p l e R s m args below meth c B.U B.locs B.cells B.slots ∧ Post ⟨T.setVm vm₁, locs, cells, slots⟩ (Value.ref b :: argsL).toArray v B ∧
      ∀ target, Steps p.tables e below (B.U.setTop { g with pc := g.pc + 5, stack := v.toList ++ rest }) target → Steps p.tables e below (T.setTop g) target) ∨
    (∃ (q : Addr) (vm₁ : Vm) (B : Pt), s.WarmedH vm₁ ∧ Stand p l e R s m args below meth c B.U B.locs B.cells B.slots ∧ PostX ⟨T.setVm vm₁, locs, cells, slots⟩ (Value.ref b :: argsL).toArray q B ∧
      Steps p.tables e below (T.setTop g) ((B.U.setTop { g with stack := rest }).pushFrame (.throwing q))) := by
  obtain ⟨r0, r, hn, hrm, hstR, hsigR⟩ := Cond.declares_spec hdecl
  obtain ⟨cL, kL, r1, hcL, hkL, hiL, hfoundL, hn1⟩ := Cond.interfaceMethod_spec hface
  cases hn.symm.trans hn1
  have hr0cls : r0.cls = cL := Option.some.inj ((findClass_of_methodNamed hn).symm.trans hcL)
  obtain ⟨hnameR, hdescR⟩ := name_of_methodNamed hn hrm
  obtain ⟨mk, methM, hnamed, hmethM, -, habM⟩ := Cond.instanceMethod_spec hinst
  obtain ⟨c2, r2, m2, q1, q2, q3, q4, -⟩ := Cond.selects_spec hsel
  cases hcls.symm.trans q1
  cases hfoundL.symm.trans q2
  cases hnamed.symm.trans q3
  have hselP : selectMethod e.platform s.vm cellB.cls r0 = .method mk := by rw [Launch.admits_selectMethod X.admits]; exact q4
  have hpubM : hasFlag methM.accessFlags Acc.public_ = true := Cond.publicMethod_spec hnamed hmethM hpub
  have hway : ((cellB.cls :: s.vm.superclasses cellB.cls).any fun k => (declaredIn s.vm r.name r.desc k).any fun (_, z) => z.isPrivate || z.isStatic) = false := by
    rw [hnameR, hdescR]; exact Cond.unhidden_spec hcls hunh
  obtain ⟨c3, t3, w1, w2, w3⟩ := Cond.castable_spec hcast
  cases hcls.symm.trans w1
  cases hcL.symm.trans w2
  obtain ⟨vm₁, X₁, hstep₁⟩ := X.invokeinterface hexec hown hlink hn hrm hstR (by rw [hr0cls]; exact hkL) hiL hx (a := b) (cell := cellB) (kcell := kB) hcell
    (fun z h => by rw [h] at hobj; cases hobj) hkB (by rw [hr0cls]; exact w3) hselP hmethM hway hpubM habM (g := g) hg (argsL := argsL) (rest := rest) (hlen _ hsigR) hstack hdg
  rcases hK m meth c ⟨T.setVm vm₁, locs, cells, slots⟩ { g with stack := rest } (.invokeinterface index count) mk (Value.ref b :: argsL).toArray X₁ hg hsize hdg hW (X₁.named hnamed) (hpre vm₁ X₁.warmed) with ⟨v, B, X', hpost, hsteps⟩ | ⟨q, B, X', hpost, hsteps⟩
  · exact Or.inl ⟨v, vm₁, B, X₁.warmed, X', hpost, fun target h => hstep₁ _ fun acts => by rw [doInvoke_state]; exact hsteps.trans h⟩
  · exact Or.inr ⟨q, vm₁, B, X₁.warmed, X', hpost, hstep₁ _ fun acts => by rw [doInvoke_state]; exact hsteps⟩
theorem vx_runFW {x y : MethodName} {bytes cc : ByteArray} {maxL nL mc ms n index count : Nat} {ret : Option FieldType} {hh : List (Nat × Nat × Nat × Nat)} {ws : List Cond} {rm : Room} {Pc : Array Value → State → Prop} {Qc : Array Value → State → Outcome → State → Prop} {XC : String → State → State → Prop} {free : Addr → Prop} {Ts : List Cond} {own C : String} {cC : ClassId} {b : Addr} {As rest : List Value} {g : JFrame}
    (hat : ClassAt s C cC) (S : CallFix p m c cc nL s args Ts own) (hM : vx_Met l y ws rm Pc Qc XC mc ms free) (cw : va_CIW R s args own C index x y bytes maxL ret hh ws rm mc ms n) (hp : PreV s H C b Pc As)
    (hg : g.method = m) (hn : As.length = n) (hsize : g.locals.size = nL) (hstack : g.stack = As.reverse ++ .ref b :: rest) (hW : 2 * g.monitorRoom + (rest.map fun v => v.category).sum ≤ 8) (hdg : decode cc g.pc = .ok (.invokeinterface index count, 5)) (hf : cells + mc ≤ R.cells ∧ slots + ms ≤ R.slots) :
    vx_Run5 p l e R s m args below meth c H locs cells slots mc ms g rest (Qc (Value.ref b :: As).toArray) XC free := by
  obtain ⟨hrc, hrs, hfr, hlo, hws, hcw⟩ := cw.back
  have hini := cw.init
  have hK : vx_Back l R p e below s args y 5 8 (PreOf R mc ms Pc) (PostOf Qc mc ms free) (vx_Post XC mc ms free) := vx_backW (hh := hh) (bytes := bytes) (maxL := maxL) (ret := ret) hM hp.1 hrc hrs hfr hlo hws hcw (fun a' U hW => word_at hW (Or.inl (by first | rfl | simp [Cond.onTables, Cond.keeps, Cond.steady])) hini)
  obtain ⟨hx, hb, hml, ho, -⟩ := S
  obtain ⟨-, ⟨cellB, hcB, hoB, hclB⟩, hPc⟩ := hp
  obtain ⟨hfc, kB, hkB, -⟩ := hat
  cases hfc.symm.trans hclB
  intro T hT X
  rcases vx_callIFW X hx (C := C) (hh := hh) (bytes := bytes) (maxL := maxL) (ret := ret) ho cw.link cw.decl cw.face cw.sel cw.inst cw.pub cw.unh cw.cast cw.code cw.notMH hK (by rw [hT]; exact hcB) hoB hclB hkB hg (hsize.trans hml.symm) (argsL := As) (rest := rest) (fun sig h => hn.trans (cw.len sig h)) hstack hW (by rw [hb]; exact hdg)
    (fun vm₁ hW₁ => ⟨hf.1, hf.2, hPc (T.setVm vm₁) hT hW₁⟩) with ⟨v, vm₁, ⟨U', l2, c2, s2⟩, hW₁, X', ⟨g', mk, t, L, e1, e2, hq, h1, hL, h2, h3⟩, st⟩ | ⟨q, vm₁, ⟨U', l2, c2, s2⟩, hW₁, X', ⟨g', mk, t, L, E, ce, e1, e2, hq, hce, hcv, hcl, h1, hL, h2, h3⟩, st⟩
  · dsimp only [Pt.U, Pt.locs, Pt.cells, Pt.slots] at X' e1 e2 h1 h2 h3 st
    subst h1; subst h2; subst h3
    exact Or.inl ⟨v, (T.setVm vm₁).calling g' mk (Value.ref b :: As).toArray, t, U', L, hT, X', hL, e1, e2, hq, st⟩
  · dsimp only [Pt.U, Pt.locs, Pt.cells, Pt.slots] at X' e1 e2 h1 h2 h3 st hcl
    subst h1; subst h2; subst h3
    exact Or.inr ⟨q, (T.setVm vm₁).calling g' mk (Value.ref b :: As).toArray, t, U', L, E, ce, hT, X', hL, e1, e2, hq, hce, hcv, vx_cls hW₁ hcl, st⟩
end
/-! ===== END ===== -/
/-! ===== BEGIN .. of methods that hand back an object of the pool ===== -/
section
variable {p : Program} {l : Launch} {e : Env} {R : Room} {s : State} {m : MethodId} {args : Array Value} {below : List Frame} {meth : Method} {c : Code} {H : Heap} {locs : List Loc} {cells slots : Nat} {Q : State → Prop}
variable {mc ms : Nat} {free : Addr → Prop} {A0 A1 : Nat → Prop} {H0 : Heap} {a : Array Value} {pc : Nat} {ls : Array Slot} {st0 rest : List Value}
theorem vx_callq {S SX : Type} {post : Option Nat → S → Prop} {px : SX → Prop} {B : S → State → Prop} {BX : String → SX → State → Prop} {AX : Nat → Prop} (hr : vx_Run p l e R s m args below meth c H locs cells slots mc ms (F0 m pc ls st0) rest (va_Qq post B A1 a) (vx_X px BX AX) free) (hS : va_S A0 H0 H locs) (hA : ∀ q, q < H.size → A1 q → A0 q) (hf : ∀ q, free q → A0 q) (hAX : ∀ q, q < H.size → AX q → A0 q)
    (kx : ∀ (E : String) (ce : Cell) (q9 : Addr) (u : SX) (t : State) (H1 : Heap) (locs1 : List Loc), t.heap = H1 → s.vm.Alike t.vm → px u → BX E u t → H.size ≤ H1.size → (∀ q : Nat, q < H.size → ¬ AX q → H1[q]? = H[q]?) → va_S A0 H0 H1 locs1 → H1[q9]? = some ce → ce.vm = .none → s.vm.findClass E = some ce.cls → vx_W p l e R s m args below meth c H1 locs1 (cells + mc) (slots + ms) Q (F0 m pc ls rest) q9)
    (kk : ∀ (r : Option Nat) (u : S) (t : State) (H1 : Heap) (locs1 : List Loc), t.heap = H1 → s.vm.Alike t.vm → post r u → B u t → H.size ≤ H1.size → (∀ q : Nat, q < H.size → ¬ A1 q → H1[q]? = H[q]?) → va_S A0 H0 H1 locs1 → W p l e R s m args below meth c H1 locs1 (cells + mc) (slots + ms) Q (F0 m (pc + 3) ls (va_rf r :: rest))) : W p l e R s m args below meth c H locs cells slots Q (F0 m pc ls st0) := by
  intro T hT X
  rcases hr T hT X with ⟨v, st₀, t, T', L, h0, X', hL, e1, e2, ⟨⟨r, u, hv, hp, hb⟩, hF⟩, st⟩ | ⟨q, st₀, t, T', L, E, ce, h0, X', hL, e1, e2, ⟨u, hp, hb, hF⟩, hce, hcv, hcl, st⟩
  · cases hv
    obtain ⟨k1, k2, k3⟩ := vx_keep h0 e1 hS hA hf hL hF
    obtain ⟨t2, a1, b1⟩ := kk r u t T'.heap (locs ++ L) e1.symm (by rw [← e2]; exact X'.warmed.alike) hp hb k1 k2 k3 T' rfl X'
    exact ⟨t2, st t2 a1, b1⟩
  · obtain ⟨k1, k2, k3⟩ := vx_keep h0 e1 hS hAX hf hL hF
    obtain ⟨t2, a1, b1⟩ := kx E ce q u t T'.heap (locs ++ L) e1.symm (by rw [← e2]; exact X'.warmed.alike) hp hb k1 k2 k3 (by rw [e1]; exact hce) hcv hcl T' rfl X'
    exact ⟨t2, st.trans a1, b1⟩
end
/-! ===== END ===== -/
/-! ===== BEGIN .. a constant ===== -/
section
variable {p : Program} {l : Launch} {e : Env} {R : Room} {s : State} {m : MethodId} {args : Array Value} {below : List Frame} {meth : Method} {c : Code} {H : Heap} {locs : List Loc} {cells slots : Nat} {Q : State → Prop}
variable {mc ms : Nat} {free : Addr → Prop} {A0 A1 : Nat → Prop} {H0 : Heap} {a : Array Value} {pc : Nat} {ls : Array Slot} {st0 rest : List Value}
theorem vx_calle {ad : Nat → Nat} {S SX : Type} {post : Option Nat → S → Prop} {px : SX → Prop} {B : S → State → Prop} {BX : String → SX → State → Prop} {AX : Nat → Prop} (hr : vx_Run p l e R s m args below meth c H locs cells slots mc ms (F0 m pc ls st0) rest (va_Qe ad post B A1 a) (vx_X px BX AX) free) (hS : va_S A0 H0 H locs) (hA : ∀ q, q < H.size → A1 q → A0 q) (hf : ∀ q, free q → A0 q) (hAX : ∀ q, q < H.size → AX q → A0 q)
    (kx : ∀ (E : String) (ce : Cell) (q9 : Addr) (u : SX) (t : State) (H1 : Heap) (locs1 : List Loc), t.heap = H1 → s.vm.Alike t.vm → px u → BX E u t → H.size ≤ H1.size → (∀ q : Nat, q < H.size → ¬ AX q → H1[q]? = H[q]?) → va_S A0 H0 H1 locs1 → H1[q9]? = some ce → ce.vm = .none → s.vm.findClass E = some ce.cls → vx_W p l e R s m args below meth c H1 locs1 (cells + mc) (slots + ms) Q (F0 m pc ls rest) q9)
    (kk : ∀ (r : Option Nat) (u : S) (t : State) (H1 : Heap) (locs1 : List Loc), t.heap = H1 → s.vm.Alike t.vm → post r u → B u t → H.size ≤ H1.size → (∀ q : Nat, q < H.size → ¬ A1 q → H1[q]? = H[q]?) → va_S A0 H0 H1 locs1 → W p l e R s m args below meth c H1 locs1 (cells + mc) (slots + ms) Q (F0 m (pc + 3) ls (va_re ad r :: rest))) : W p l e R s m args below meth c H locs cells slots Q (F0 m pc ls st0) := by
  intro T hT X
  rcases hr T hT X with ⟨v, st₀, t, T', L, h0, X', hL, e1, e2, ⟨⟨r, u, hv, hp, hb⟩, hF⟩, st⟩ | ⟨q, st₀, t, T', L, E, ce, h0, X', hL, e1, e2, ⟨u, hp, hb, hF⟩, hce, hcv, hcl, st⟩
  · cases hv
    obtain ⟨k1, k2, k3⟩ := vx_keep h0 e1 hS hA hf hL hF
    obtain ⟨t2, a1, b1⟩ := kk r u t T'.heap (locs ++ L) e1.symm (by rw [← e2]; exact X'.warmed.alike) hp hb k1 k2 k3 T' rfl X'
    exact ⟨t2, st t2 a1, b1⟩
  · obtain ⟨k1, k2, k3⟩ := vx_keep h0 e1 hS hAX hf hL hF
    obtain ⟨t2, a1, b1⟩ := kx E ce q u t T'.heap (locs ++ L) e1.symm (by rw [← e2]; exact X'.warmed.alike) hp hb k1 k2 k3 (by rw [e1]; exact hce) hcv hcl T' rfl X'
    exact ⟨t2, st.trans a1, b1⟩
end
/-! ===== END ===== -/
/-! ===== BEGIN .. by an interface, an object ===== -/
section
variable {p : Program} {l : Launch} {e : Env} {R : Room} {s : State} {m : MethodId} {args : Array Value} {below : List Frame} {meth : Method} {c : Code} {H : Heap} {locs : List Loc} {cells slots : Nat} {Q : State → Prop}
variable {mc ms : Nat} {free : Addr → Prop} {A0 A1 : Nat → Prop} {H0 : Heap} {a : Array Value} {pc : Nat} {ls : Array Slot} {st0 rest : List Value}
theorem vx_callFq {S SX : Type} {post : Option Nat → S → Prop} {px : SX → Prop} {B : S → State → Prop} {BX : String → SX → State → Prop} {AX : Nat → Prop} (hr : vx_Run5 p l e R s m args below meth c H locs cells slots mc ms (F0 m pc ls st0) rest (va_Qq post B A1 a) (vx_X px BX AX) free) (hS : va_S A0 H0 H locs) (hA : ∀ q, q < H.size → A1 q → A0 q) (hf : ∀ q, free q → A0 q) (hAX : ∀ q, q < H.size → AX q → A0 q)
    (kx : ∀ (E : String) (ce : Cell) (q9 : Addr) (u : SX) (t : State) (H1 : Heap) (locs1 : List Loc), t.heap = H1 → s.vm.Alike t.vm → px u → BX E u t → H.size ≤ H1.size → (∀ q : Nat, q < H.size → ¬ AX q → H1[q]? = H[q]?) → va_S A0 H0 H1 locs1 → H1[q9]? = some ce → ce.vm = .none → s.vm.findClass E = some ce.cls → vx_W p l e R s m args below meth c H1 locs1 (cells + mc) (slots + ms) Q (F0 m pc ls rest) q9)
    (kk : ∀ (r : Option Nat) (u : S) (t : State) (H1 : Heap) (locs1 : List Loc), t.heap = H1 → s.vm.Alike t.vm → post r u → B u t → H.size ≤ H1.size → (∀ q : Nat, q < H.size → ¬ A1 q → H1[q]? = H[q]?) → va_S A0 H0 H1 locs1 → W p l e R s m args below meth c H1 locs1 (cells + mc) (slots + ms) Q (F0 m (pc + 5) ls (va_rf r :: rest))) : W p l e R s m args below meth c H locs cells slots Q (F0 m pc ls st0) := by
  intro T hT X
  rcases hr T hT X with ⟨v, st₀, t, T', L, h0, X', hL, e1, e2, ⟨⟨r, u, hv, hp, hb⟩, hF⟩, st⟩ | ⟨q, st₀, t, T', L, E, ce, h0, X', hL, e1, e2, ⟨u, hp, hb, hF⟩, hce, hcv, hcl, st⟩
  · cases hv
    obtain ⟨k1, k2, k3⟩ := vx_keep h0 e1 hS hA hf hL hF
    obtain ⟨t2, a1, b1⟩ := kk r u t T'.heap (locs ++ L) e1.symm (by rw [← e2]; exact X'.warmed.alike) hp hb k1 k2 k3 T' rfl X'
    exact ⟨t2, st t2 a1, b1⟩
  · obtain ⟨k1, k2, k3⟩ := vx_keep h0 e1 hS hAX hf hL hF
    obtain ⟨t2, a1, b1⟩ := kx E ce q u t T'.heap (locs ++ L) e1.symm (by rw [← e2]; exact X'.warmed.alike) hp hb k1 k2 k3 (by rw [e1]; exact hce) hcv hcl T' rfl X'
    exact ⟨t2, st.trans a1, b1⟩
end
/-! ===== END ===== -/
/-! ===== BEGIN .. by an interface, a constant ===== -/
section
variable {p : Program} {l : Launch} {e : Env} {R : Room} {s : State} {m : MethodId} {args : Array Value} {below : List Frame} {meth : Method} {c : Code} {H : Heap} {locs : List Loc} {cells slots : Nat} {Q : State → Prop}
variable {mc ms : Nat} {free : Addr → Prop} {A0 A1 : Nat → Prop} {H0 : Heap} {a : Array Value} {pc : Nat} {ls : Array Slot} {st0 rest : List Value}
theorem vx_callFe {ad : Nat → Nat} {S SX : Type} {post : Option Nat → S → Prop} {px : SX → Prop} {B : S → State → Prop} {BX : String → SX → State → Prop} {AX : Nat → Prop} (hr : vx_Run5 p l e R s m args below meth c H locs cells slots mc ms (F0 m pc ls st0) rest (va_Qe ad post B A1 a) (vx_X px BX AX) free) (hS : va_S A0 H0 H locs) (hA : ∀ q, q < H.size → A1 q → A0 q) (hf : ∀ q, free q → A0 q) (hAX : ∀ q, q < H.size → AX q → A0 q)
    (kx : ∀ (E : String) (ce : Cell) (q9 : Addr) (u : SX) (t : State) (H1 : Heap) (locs1 : List Loc), t.heap = H1 → s.vm.Alike t.vm → px u → BX E u t → H.size ≤ H1.size → (∀ q : Nat, q < H.size → ¬ AX q → H1[q]? = H[q]?) → va_S A0 H0 H1 locs1 → H1[q9]? = some ce → ce.vm = .none → s.vm.findClass E = some ce.cls → vx_W p l e R s m args below meth c H1 locs1 (cells + mc) (slots + ms) Q (F0 m pc ls rest) q9)
    (kk : ∀ (r : Option Nat) (u : S) (t : State) (H1 : Heap) (locs1 : List Loc), t.heap = H1 → s.vm.Alike t.vm → post r u → B u t → H.size ≤ H1.size → (∀ q : Nat, q < H.size → ¬ A1 q → H1[q]? = H[q]?) → va_S A0 H0 H1 locs1 → W p l e R s m args below meth c H1 locs1 (cells + mc) (slots + ms) Q (F0 m (pc + 5) ls (va_re ad r :: rest))) : W p l e R s m args below meth c H locs cells slots Q (F0 m pc ls st0) := by
  intro T hT X
  rcases hr T hT X with ⟨v, st₀, t, T', L, h0, X', hL, e1, e2, ⟨⟨r, u, hv, hp, hb⟩, hF⟩, st⟩ | ⟨q, st₀, t, T', L, E, ce, h0, X', hL, e1, e2, ⟨u, hp, hb, hF⟩, hce, hcv, hcl, st⟩
  · cases hv
    obtain ⟨k1, k2, k3⟩ := vx_keep h0 e1 hS hA hf hL hF
    obtain ⟨t2, a1, b1⟩ := kk r u t T'.heap (locs ++ L) e1.symm (by rw [← e2]; exact X'.warmed.alike) hp hb k1 k2 k3 T' rfl X'
    exact ⟨t2, st t2 a1, b1⟩
  · obtain ⟨k1, k2, k3⟩ := vx_keep h0 e1 hS hAX hf hL hF
    obtain ⟨t2, a1, b1⟩ := kx E ce q u t T'.heap (locs ++ L) e1.symm (by rw [← e2]; exact X'.warmed.alike) hp hb k1 k2 k3 (by rw [e1]; exact hce) hcv hcl T' rfl X'
    exact ⟨t2, st.trans a1, b1⟩
end
/-! ===== END ===== -/
/-! ===== BEGIN what the machine throws by itself: null at a field, at athrow ===== -/
section VXM2
variable {p : Program} {l : Launch} {e : Env} {R : Room} {s : State} {m : MethodId} {args : Array Value} {below : List Frame} {meth : Method} {c : Code} {H : Heap} {locs : List Loc} {cells slots : Nat}
variable {Q : State → Prop} {cc : ByteArray} {pc : Nat} {ls : Array Slot} {rest : List Value}
theorem vx_getfN {D cl tys} {own ref C : String} {T : u_T} {N ci index : Nat} {Ts : List Cond} (hexec : p.tables.exec = Jvm.exec) (hb : c.code = cc) (hts : ∀ w ∈ Ts, w.before args s = true) (hin : ∀ w ∈ u_ws C T N, w ∈ Ts) (hown : s.vm.findClass own = some m.cls) (hK : va_K D cl tys s) (hc : cl[ci]? = some (C, T, N)) (k : Nat) (hk : k < N) (hlink : (Cond.fieldLink own index ref (T k).2.1 (T k).2.2.1).before args s = true) (hsame : ∀ x, s.fieldFound? (T k).1 (T k).2.1 (T k).2.2.1 = some x → s.fieldFound? ref (T k).2.1 (T k).2.2.1 = some x) (hdg : decode cc pc = .ok (.getfield index, 3)) (kk : vx_NoteN p l e R s m args below meth c H locs cells slots Q (F0 m pc ls rest)) : W p l e R s m args below meth c H locs cells slots Q (F0 m pc ls (.null :: rest)) := by
  obtain ⟨hS, hfc, kC, hkC, -⟩ := hK.1 ci _ hc
  obtain ⟨cf, kf, fi, f, hi, -⟩ := hS k hk
  intro U hU X
  obtain ⟨vm', X1, st1⟩ := X.getfieldNull hexec hown hlink (hsame _ hi) (u_facts hfc hkC (u_lays hts hin hk) hi).1 (g := F0 m pc ls (.null :: rest)) rfl (rest := rest) rfl (by rw [hb]; exact hdg)
  obtain ⟨t, st, q⟩ := kk (U.setVm vm') hU X1
  exact ⟨t, st1 t st, q⟩
theorem vx_getfNN {D cl tys} {own ref C host : String} {T : u_T} {N ci index : Nat} {Ts : List Cond} (hexec : p.tables.exec = Jvm.exec) (hb : c.code = cc) (hts : ∀ w ∈ Ts, w.before args s = true) (hin : ∀ w ∈ u_ws C T N, w ∈ Ts) (hown : s.vm.findClass own = some m.cls) (hK : va_K D cl tys s) (hc : cl[ci]? = some (C, T, N)) (k : Nat) (hk : k < N) (hlink : (Cond.fieldLinkNest own index ref (T k).2.1 (T k).2.2.1 host).before args s = true) (hsame : ∀ x, s.fieldFound? (T k).1 (T k).2.1 (T k).2.2.1 = some x → s.fieldFound? ref (T k).2.1 (T k).2.2.1 = some x) (hdg : decode cc pc = .ok (.getfield index, 3)) (kk : vx_NoteN p l e R s m args below meth c H locs cells slots Q (F0 m pc ls rest)) : W p l e R s m args below meth c H locs cells slots Q (F0 m pc ls (.null :: rest)) := by
  obtain ⟨hS, hfc, kC, hkC, -⟩ := hK.1 ci _ hc
  obtain ⟨cf, kf, fi, f, hi, -⟩ := hS k hk
  intro U hU X
  obtain ⟨vm', X1, st1⟩ := X.getfieldNullNest hexec hown hlink (hsame _ hi) (u_facts hfc hkC (u_lays hts hin hk) hi).1 (g := F0 m pc ls (.null :: rest)) rfl (rest := rest) rfl (by rw [hb]; exact hdg)
  obtain ⟨t, st, q⟩ := kk (U.setVm vm') hU X1
  exact ⟨t, st1 t st, q⟩
theorem vx_putfN {D cl tys} {own ref C : String} {T : u_T} {N ci index : Nat} {Ts : List Cond} (hexec : p.tables.exec = Jvm.exec) (hb : c.code = cc) (hts : ∀ w ∈ Ts, w.before args s = true) (hin : ∀ w ∈ u_ws C T N, w ∈ Ts) (hown : s.vm.findClass own = some m.cls) (hK : va_K D cl tys s) (hc : cl[ci]? = some (C, T, N)) (k : Nat) (hk : k < N) (hlink : (Cond.fieldLink own index ref (T k).2.1 (T k).2.2.1).before args s = true) (hsame : ∀ x, s.fieldFound? (T k).1 (T k).2.1 (T k).2.2.1 = some x → s.fieldFound? ref (T k).2.1 (T k).2.2.1 = some x) (hfin : (T k).2.2.2 = false) {v : Value} (hdg : decode cc pc = .ok (.putfield index, 3)) (kk : vx_NoteN p l e R s m args below meth c H locs cells slots Q (F0 m pc ls rest)) : W p l e R s m args below meth c H locs cells slots Q (F0 m pc ls (v :: .null :: rest)) := by
  obtain ⟨hS, hfc, kC, hkC, -⟩ := hK.1 ci _ hc
  obtain ⟨cf, kf, fi, f, hi, -⟩ := hS k hk
  have hlay := hts _ (hin _ (u_in_lay hk))
  unfold u_lay at hlay
  rw [if_neg (by rw [hfin]; decide)] at hlay
  obtain ⟨c9, k9, cf9, kf9, fi9, f9, -, -, hi9, hst9, hnf9, -⟩ := Cond.lays_spec hlay
  cases hi.symm.trans hi9
  intro U hU X
  obtain ⟨vm', X1, st1⟩ := X.putfieldNull hexec hown hlink (hsame _ hi) hst9 hnf9 (g := F0 m pc ls (v :: .null :: rest)) rfl (v := v) (rest := rest) rfl (by rw [hb]; exact hdg)
  obtain ⟨t, st, q⟩ := kk (U.setVm vm') hU X1
  exact ⟨t, st1 t st, q⟩
theorem vx_putfNN {D cl tys} {own ref C host : String} {T : u_T} {N ci index : Nat} {Ts : List Cond} (hexec : p.tables.exec = Jvm.exec) (hb : c.code = cc) (hts : ∀ w ∈ Ts, w.before args s = true) (hin : ∀ w ∈ u_ws C T N, w ∈ Ts) (hown : s.vm.findClass own = some m.cls) (hK : va_K D cl tys s) (hc : cl[ci]? = some (C, T, N)) (k : Nat) (hk : k < N) (hlink : (Cond.fieldLinkNest own index ref (T k).2.1 (T k).2.2.1 host).before args s = true) (hsame : ∀ x, s.fieldFound? (T k).1 (T k).2.1 (T k).2.2.1 = some x → s.fieldFound? ref (T k).2.1 (T k).2.2.1 = some x) (hfin : (T k).2.2.2 = false) {v : Value} (hdg : decode cc pc = .ok (.putfield index, 3)) (kk : vx_NoteN p l e R s m args below meth c H locs cells slots Q (F0 m pc ls rest)) : W p l e R s m args below meth c H locs cells slots Q (F0 m pc ls (v :: .null :: rest)) := by
  obtain ⟨hS, hfc, kC, hkC, -⟩ := hK.1 ci _ hc
  obtain ⟨cf, kf, fi, f, hi, -⟩ := hS k hk
  have hlay := hts _ (hin _ (u_in_lay hk))
  unfold u_lay at hlay
  rw [if_neg (by rw [hfin]; decide)] at hlay
  obtain ⟨c9, k9, cf9, kf9, fi9, f9, -, -, hi9, hst9, hnf9, -⟩ := Cond.lays_spec hlay
  cases hi.symm.trans hi9
  intro U hU X
  obtain ⟨vm', X1, st1⟩ := X.putfieldNullNest hexec hown hlink (hsame _ hi) hst9 hnf9 (g := F0 m pc ls (v :: .null :: rest)) rfl (v := v) (rest := rest) rfl (by rw [hb]; exact hdg)
  obtain ⟨t, st, q⟩ := kk (U.setVm vm') hU X1
  exact ⟨t, st1 t st, q⟩
theorem vx_athrowN (hexec : p.tables.exec = Jvm.exec) (hb : c.code = cc) (hdg : decode cc pc = .ok (.athrow, 1)) (k : vx_NoteN p l e R s m args below meth c H locs cells slots Q (F0 m pc ls rest)) : W p l e R s m args below meth c H locs cells slots Q (F0 m pc ls (.null :: rest)) := by
  intro T hT X
  obtain ⟨t, st, q⟩ := k T hT X
  exact ⟨t, X.athrowNull hexec (g := F0 m pc ls (.null :: rest)) rfl (rest := rest) rfl (by rw [hb]; exact hdg) t st, q⟩
end VXM2
/-! ===== END ===== -/
end
section
theorem dX0_init_0 : decode cX0_init 0 = .ok (.aload_n 0, 1) := by decide +kernel
theorem dX0_init_1 : decode cX0_init 1 = .ok (.invokespecial 3, 3) := by decide +kernel
theorem dX0_init_4 : decode cX0_init 4 = .ok (.aload_n 0, 1) := by decide +kernel
theorem dX0_init_5 : decode cX0_init 5 = .ok (.new 9, 3) := by decide +kernel
theorem dX0_init_8 : decode cX0_init 8 = .ok (.dup, 1) := by decide +kernel
theorem dX0_init_9 : decode cX0_init 9 = .ok (.sipush 200, 3) := by decide +kernel
theorem dX0_init_12 : decode cX0_init 12 = .ok (.invokespecial 11, 3) := by decide +kernel
theorem dX0_init_15 : decode cX0_init 15 = .ok (.putfield 14, 3) := by decide +kernel
theorem dX0_init_18 : decode cX0_init 18 = .ok (.aload_n 0, 1) := by decide +kernel
theorem dX0_init_19 : decode cX0_init 19 = .ok (.new 9, 3) := by decide +kernel
theorem dX0_init_22 : decode cX0_init 22 = .ok (.dup, 1) := by decide +kernel
theorem dX0_init_23 : decode cX0_init 23 = .ok (.sipush 200, 3) := by decide +kernel
theorem dX0_init_26 : decode cX0_init 26 = .ok (.invokespecial 11, 3) := by decide +kernel
theorem dX0_init_29 : decode cX0_init 29 = .ok (.putfield 20, 3) := by decide +kernel
theorem dX0_init_32 : decode cX0_init 32 = .ok (.return_, 1) := by decide +kernel
theorem dX0_empty_0 : decode cX0_empty 0 = .ok (.aload_n 0, 1) := by decide +kernel
theorem dX0_empty_1 : decode cX0_empty 1 = .ok (.getfield 14, 3) := by decide +kernel
theorem dX0_empty_4 : decode cX0_empty 4 = .ok (.invokevirtual 23, 3) := by decide +kernel
theorem dX0_empty_7 : decode cX0_empty 7 = .ok (.aload_n 0, 1) := by decide +kernel
theorem dX0_empty_8 : decode cX0_empty 8 = .ok (.getfield 20, 3) := by decide +kernel
theorem dX0_empty_11 : decode cX0_empty 11 = .ok (.invokevirtual 23, 3) := by decide +kernel
theorem dX0_empty_14 : decode cX0_empty 14 = .ok (.return_, 1) := by decide +kernel
theorem dX0_addDate_0 : decode cX0_addDate 0 = .ok (.iload_n 2, 1) := by decide +kernel
theorem dX0_addDate_1 : decode cX0_addDate 1 = .ok (.bipush 110, 2) := by decide +kernel
theorem dX0_addDate_3 : decode cX0_addDate 3 = .ok (.if_icmp .ne 11, 3) := by decide +kernel
theorem dX0_addDate_6 : decode cX0_addDate 6 = .ok (.aload_n 0, 1) := by decide +kernel
theorem dX0_addDate_7 : decode cX0_addDate 7 = .ok (.iload_n 1, 1) := by decide +kernel
theorem dX0_addDate_8 : decode cX0_addDate 8 = .ok (.invokevirtual 26, 3) := by decide +kernel
theorem dX0_addDate_11 : decode cX0_addDate 11 = .ok (.goto 54, 3) := by decide +kernel
theorem dX0_addDate_14 : decode cX0_addDate 14 = .ok (.iload_n 2, 1) := by decide +kernel
theorem dX0_addDate_15 : decode cX0_addDate 15 = .ok (.bipush 119, 2) := by decide +kernel
theorem dX0_addDate_17 : decode cX0_addDate 17 = .ok (.if_icmp .ne 16, 3) := by decide +kernel
theorem dX0_addDate_20 : decode cX0_addDate 20 = .ok (.aload_n 0, 1) := by decide +kernel
theorem dX0_addDate_21 : decode cX0_addDate 21 = .ok (.iload_n 1, 1) := by decide +kernel
theorem dX0_addDate_22 : decode cX0_addDate 22 = .ok (.bipush 7, 2) := by decide +kernel
theorem dX0_addDate_24 : decode cX0_addDate 24 = .ok (.invokestatic 29, 3) := by decide +kernel
theorem dX0_addDate_27 : decode cX0_addDate 27 = .ok (.invokevirtual 35, 3) := by decide +kernel
theorem dX0_addDate_30 : decode cX0_addDate 30 = .ok (.goto 35, 3) := by decide +kernel
theorem dX0_addDate_33 : decode cX0_addDate 33 = .ok (.aload_n 0, 1) := by decide +kernel
theorem dX0_addDate_34 : decode cX0_addDate 34 = .ok (.iload_n 1, 1) := by decide +kernel
theorem dX0_addDate_35 : decode cX0_addDate 35 = .ok (.bipush 30, 2) := by decide +kernel
theorem dX0_addDate_37 : decode cX0_addDate 37 = .ok (.idiv, 1) := by decide +kernel
theorem dX0_addDate_38 : decode cX0_addDate 38 = .ok (.bipush 12, 2) := by decide +kernel
theorem dX0_addDate_40 : decode cX0_addDate 40 = .ok (.irem, 1) := by decide +kernel
theorem dX0_addDate_41 : decode cX0_addDate 41 = .ok (.iconst 1, 1) := by decide +kernel
theorem dX0_addDate_42 : decode cX0_addDate 42 = .ok (.iadd, 1) := by decide +kernel
theorem dX0_addDate_43 : decode cX0_addDate 43 = .ok (.invokevirtual 26, 3) := by decide +kernel
theorem dX0_addDate_46 : decode cX0_addDate 46 = .ok (.aload_n 0, 1) := by decide +kernel
theorem dX0_addDate_47 : decode cX0_addDate 47 = .ok (.getfield 14, 3) := by decide +kernel
theorem dX0_addDate_50 : decode cX0_addDate 50 = .ok (.bipush 46, 2) := by decide +kernel
theorem dX0_addDate_52 : decode cX0_addDate 52 = .ok (.invokevirtual 38, 3) := by decide +kernel
theorem dX0_addDate_55 : decode cX0_addDate 55 = .ok (.aload_n 0, 1) := by decide +kernel
theorem dX0_addDate_56 : decode cX0_addDate 56 = .ok (.iload_n 1, 1) := by decide +kernel
theorem dX0_addDate_57 : decode cX0_addDate 57 = .ok (.bipush 30, 2) := by decide +kernel
theorem dX0_addDate_59 : decode cX0_addDate 59 = .ok (.irem, 1) := by decide +kernel
theorem dX0_addDate_60 : decode cX0_addDate 60 = .ok (.iconst 1, 1) := by decide +kernel
theorem dX0_addDate_61 : decode cX0_addDate 61 = .ok (.iadd, 1) := by decide +kernel
theorem dX0_addDate_62 : decode cX0_addDate 62 = .ok (.invokevirtual 26, 3) := by decide +kernel
theorem dX0_addDate_65 : decode cX0_addDate 65 = .ok (.return_, 1) := by decide +kernel
theorem dX0_addWeekday_0 : decode cX0_addWeekday 0 = .ok (.iconst 2, 1) := by decide +kernel
theorem dX0_addWeekday_1 : decode cX0_addWeekday 1 = .ok (.iload_n 1, 1) := by decide +kernel
theorem dX0_addWeekday_2 : decode cX0_addWeekday 2 = .ok (.imul, 1) := by decide +kernel
theorem dX0_addWeekday_3 : decode cX0_addWeekday 3 = .ok (.istore_n 2, 1) := by decide +kernel
theorem dX0_addWeekday_4 : decode cX0_addWeekday 4 = .ok (.iload_n 2, 1) := by decide +kernel
theorem dX0_addWeekday_5 : decode cX0_addWeekday 5 = .ok (.ifCond .lt 42, 3) := by decide +kernel
theorem dX0_addWeekday_8 : decode cX0_addWeekday 8 = .ok (.iload_n 2, 1) := by decide +kernel
theorem dX0_addWeekday_9 : decode cX0_addWeekday 9 = .ok (.iconst 1, 1) := by decide +kernel
theorem dX0_addWeekday_10 : decode cX0_addWeekday 10 = .ok (.iadd, 1) := by decide +kernel
theorem dX0_addWeekday_11 : decode cX0_addWeekday 11 = .ok (.ldc 41, 2) := by decide +kernel
theorem dX0_addWeekday_13 : decode cX0_addWeekday 13 = .ok (.invokevirtual 43, 3) := by decide +kernel
theorem dX0_addWeekday_16 : decode cX0_addWeekday 16 = .ok (.if_icmp .ge 31, 3) := by decide +kernel
theorem dX0_addWeekday_19 : decode cX0_addWeekday 19 = .ok (.aload_n 0, 1) := by decide +kernel
theorem dX0_addWeekday_20 : decode cX0_addWeekday 20 = .ok (.getfield 14, 3) := by decide +kernel
theorem dX0_addWeekday_23 : decode cX0_addWeekday 23 = .ok (.ldc 41, 2) := by decide +kernel
theorem dX0_addWeekday_25 : decode cX0_addWeekday 25 = .ok (.iload_n 2, 1) := by decide +kernel
theorem dX0_addWeekday_26 : decode cX0_addWeekday 26 = .ok (.invokevirtual 49, 3) := by decide +kernel
theorem dX0_addWeekday_29 : decode cX0_addWeekday 29 = .ok (.invokevirtual 38, 3) := by decide +kernel
theorem dX0_addWeekday_32 : decode cX0_addWeekday 32 = .ok (.aload_n 0, 1) := by decide +kernel
theorem dX0_addWeekday_33 : decode cX0_addWeekday 33 = .ok (.getfield 14, 3) := by decide +kernel
theorem dX0_addWeekday_36 : decode cX0_addWeekday 36 = .ok (.ldc 41, 2) := by decide +kernel
theorem dX0_addWeekday_38 : decode cX0_addWeekday 38 = .ok (.iload_n 2, 1) := by decide +kernel
theorem dX0_addWeekday_39 : decode cX0_addWeekday 39 = .ok (.iconst 1, 1) := by decide +kernel
theorem dX0_addWeekday_40 : decode cX0_addWeekday 40 = .ok (.iadd, 1) := by decide +kernel
theorem dX0_addWeekday_41 : decode cX0_addWeekday 41 = .ok (.invokevirtual 49, 3) := by decide +kernel
theorem dX0_addWeekday_44 : decode cX0_addWeekday 44 = .ok (.invokevirtual 38, 3) := by decide +kernel
theorem dX0_addWeekday_47 : decode cX0_addWeekday 47 = .ok (.return_, 1) := by decide +kernel
theorem dX0_addNumber_0 : decode cX0_addNumber 0 = .ok (.sipush 10000, 3) := by decide +kernel
theorem dX0_addNumber_3 : decode cX0_addNumber 3 = .ok (.istore_n 2, 1) := by decide +kernel
theorem dX0_addNumber_4 : decode cX0_addNumber 4 = .ok (.iload_n 2, 1) := by decide +kernel
theorem dX0_addNumber_5 : decode cX0_addNumber 5 = .ok (.iconst 1, 1) := by decide +kernel
theorem dX0_addNumber_6 : decode cX0_addNumber 6 = .ok (.if_icmp .lt 37, 3) := by decide +kernel
theorem dX0_addNumber_9 : decode cX0_addNumber 9 = .ok (.iload_n 1, 1) := by decide +kernel
theorem dX0_addNumber_10 : decode cX0_addNumber 10 = .ok (.iload_n 2, 1) := by decide +kernel
theorem dX0_addNumber_11 : decode cX0_addNumber 11 = .ok (.if_icmp .ge 8, 3) := by decide +kernel
theorem dX0_addNumber_14 : decode cX0_addNumber 14 = .ok (.iload_n 2, 1) := by decide +kernel
theorem dX0_addNumber_15 : decode cX0_addNumber 15 = .ok (.iconst 1, 1) := by decide +kernel
theorem dX0_addNumber_16 : decode cX0_addNumber 16 = .ok (.if_icmp .ne 19, 3) := by decide +kernel
theorem dX0_addNumber_19 : decode cX0_addNumber 19 = .ok (.aload_n 0, 1) := by decide +kernel
theorem dX0_addNumber_20 : decode cX0_addNumber 20 = .ok (.getfield 14, 3) := by decide +kernel
theorem dX0_addNumber_23 : decode cX0_addNumber 23 = .ok (.bipush 48, 2) := by decide +kernel
theorem dX0_addNumber_25 : decode cX0_addNumber 25 = .ok (.iload_n 1, 1) := by decide +kernel
theorem dX0_addNumber_26 : decode cX0_addNumber 26 = .ok (.iload_n 2, 1) := by decide +kernel
theorem dX0_addNumber_27 : decode cX0_addNumber 27 = .ok (.idiv, 1) := by decide +kernel
theorem dX0_addNumber_28 : decode cX0_addNumber 28 = .ok (.bipush 10, 2) := by decide +kernel
theorem dX0_addNumber_30 : decode cX0_addNumber 30 = .ok (.irem, 1) := by decide +kernel
theorem dX0_addNumber_31 : decode cX0_addNumber 31 = .ok (.iadd, 1) := by decide +kernel
theorem dX0_addNumber_32 : decode cX0_addNumber 32 = .ok (.invokevirtual 38, 3) := by decide +kernel
theorem dX0_addNumber_35 : decode cX0_addNumber 35 = .ok (.iload_n 2, 1) := by decide +kernel
theorem dX0_addNumber_36 : decode cX0_addNumber 36 = .ok (.bipush 10, 2) := by decide +kernel
theorem dX0_addNumber_38 : decode cX0_addNumber 38 = .ok (.idiv, 1) := by decide +kernel
theorem dX0_addNumber_39 : decode cX0_addNumber 39 = .ok (.istore_n 2, 1) := by decide +kernel
theorem dX0_addNumber_40 : decode cX0_addNumber 40 = .ok (.goto (-36), 3) := by decide +kernel
theorem dX0_addNumber_43 : decode cX0_addNumber 43 = .ok (.return_, 1) := by decide +kernel
theorem dX2_init_0 : decode cX2_init 0 = .ok (.aload_n 0, 1) := by decide +kernel
theorem dX2_init_1 : decode cX2_init 1 = .ok (.invokespecial 1, 3) := by decide +kernel
theorem dX2_init_4 : decode cX2_init 4 = .ok (.aload_n 0, 1) := by decide +kernel
theorem dX2_init_5 : decode cX2_init 5 = .ok (.aload_n 1, 1) := by decide +kernel
theorem dX2_init_6 : decode cX2_init 6 = .ok (.putfield 7, 3) := by decide +kernel
theorem dX2_init_9 : decode cX2_init 9 = .ok (.aload_n 0, 1) := by decide +kernel
theorem dX2_init_10 : decode cX2_init 10 = .ok (.iload_n 2, 1) := by decide +kernel
theorem dX2_init_11 : decode cX2_init 11 = .ok (.putfield 13, 3) := by decide +kernel
theorem dX2_init_14 : decode cX2_init 14 = .ok (.aload_n 0, 1) := by decide +kernel
theorem dX2_init_15 : decode cX2_init 15 = .ok (.iload_n 3, 1) := by decide +kernel
theorem dX2_init_16 : decode cX2_init 16 = .ok (.putfield 17, 3) := by decide +kernel
theorem dX2_init_19 : decode cX2_init 19 = .ok (.return_, 1) := by decide +kernel
theorem dX3_init_0 : decode cX3_init 0 = .ok (.aload_n 0, 1) := by decide +kernel
theorem dX3_init_1 : decode cX3_init 1 = .ok (.invokespecial 1, 3) := by decide +kernel
theorem dX3_init_4 : decode cX3_init 4 = .ok (.aload_n 0, 1) := by decide +kernel
theorem dX3_init_5 : decode cX3_init 5 = .ok (.iconst 0, 1) := by decide +kernel
theorem dX3_init_6 : decode cX3_init 6 = .ok (.putfield 7, 3) := by decide +kernel
theorem dX3_init_9 : decode cX3_init 9 = .ok (.aload_n 0, 1) := by decide +kernel
theorem dX3_init_10 : decode cX3_init 10 = .ok (.iload_n 1, 1) := by decide +kernel
theorem dX3_init_11 : decode cX3_init 11 = .ok (.iconst 0, 1) := by decide +kernel
theorem dX3_init_12 : decode cX3_init 12 = .ok (.invokestatic 13, 3) := by decide +kernel
theorem dX3_init_15 : decode cX3_init 15 = .ok (.newarray .int, 2) := by decide +kernel
theorem dX3_init_17 : decode cX3_init 17 = .ok (.putfield 19, 3) := by decide +kernel
theorem dX3_init_20 : decode cX3_init 20 = .ok (.return_, 1) := by decide +kernel
theorem dX3_count_0 : decode cX3_count 0 = .ok (.aload_n 0, 1) := by decide +kernel
theorem dX3_count_1 : decode cX3_count 1 = .ok (.getfield 7, 3) := by decide +kernel
theorem dX3_count_4 : decode cX3_count 4 = .ok (.ireturn, 1) := by decide +kernel
theorem dX3_isEmpty_0 : decode cX3_isEmpty 0 = .ok (.aload_n 0, 1) := by decide +kernel
theorem dX3_isEmpty_1 : decode cX3_isEmpty 1 = .ok (.getfield 7, 3) := by decide +kernel
theorem dX3_isEmpty_4 : decode cX3_isEmpty 4 = .ok (.ifCond .gt 7, 3) := by decide +kernel
theorem dX3_isEmpty_7 : decode cX3_isEmpty 7 = .ok (.iconst 1, 1) := by decide +kernel
theorem dX3_isEmpty_8 : decode cX3_isEmpty 8 = .ok (.goto 4, 3) := by decide +kernel
theorem dX3_isEmpty_11 : decode cX3_isEmpty 11 = .ok (.iconst 0, 1) := by decide +kernel
theorem dX3_isEmpty_12 : decode cX3_isEmpty 12 = .ok (.ireturn, 1) := by decide +kernel
theorem dX3_isFull_0 : decode cX3_isFull 0 = .ok (.aload_n 0, 1) := by decide +kernel
theorem dX3_isFull_1 : decode cX3_isFull 1 = .ok (.getfield 7, 3) := by decide +kernel
theorem dX3_isFull_4 : decode cX3_isFull 4 = .ok (.aload_n 0, 1) := by decide +kernel
theorem dX3_isFull_5 : decode cX3_isFull 5 = .ok (.getfield 19, 3) := by decide +kernel
theorem dX3_isFull_8 : decode cX3_isFull 8 = .ok (.arraylength, 1) := by decide +kernel
theorem dX3_isFull_9 : decode cX3_isFull 9 = .ok (.if_icmp .lt 7, 3) := by decide +kernel
theorem dX3_isFull_12 : decode cX3_isFull 12 = .ok (.iconst 1, 1) := by decide +kernel
theorem dX3_isFull_13 : decode cX3_isFull 13 = .ok (.goto 4, 3) := by decide +kernel
theorem dX3_isFull_16 : decode cX3_isFull 16 = .ok (.iconst 0, 1) := by decide +kernel
theorem dX3_isFull_17 : decode cX3_isFull 17 = .ok (.ireturn, 1) := by decide +kernel
theorem dX3_has_0 : decode cX3_has 0 = .ok (.iload_n 1, 1) := by decide +kernel
theorem dX3_has_1 : decode cX3_has 1 = .ok (.ifCond .lt 24, 3) := by decide +kernel
theorem dX3_has_4 : decode cX3_has 4 = .ok (.iload_n 1, 1) := by decide +kernel
theorem dX3_has_5 : decode cX3_has 5 = .ok (.aload_n 0, 1) := by decide +kernel
theorem dX3_has_6 : decode cX3_has 6 = .ok (.getfield 7, 3) := by decide +kernel
theorem dX3_has_9 : decode cX3_has 9 = .ok (.if_icmp .ge 16, 3) := by decide +kernel
theorem dX3_has_12 : decode cX3_has 12 = .ok (.iload_n 1, 1) := by decide +kernel
theorem dX3_has_13 : decode cX3_has 13 = .ok (.aload_n 0, 1) := by decide +kernel
theorem dX3_has_14 : decode cX3_has 14 = .ok (.getfield 19, 3) := by decide +kernel
theorem dX3_has_17 : decode cX3_has 17 = .ok (.arraylength, 1) := by decide +kernel
theorem dX3_has_18 : decode cX3_has 18 = .ok (.if_icmp .ge 7, 3) := by decide +kernel
theorem dX3_has_21 : decode cX3_has 21 = .ok (.iconst 1, 1) := by decide +kernel
theorem dX3_has_22 : decode cX3_has 22 = .ok (.goto 4, 3) := by decide +kernel
theorem dX3_has_25 : decode cX3_has 25 = .ok (.iconst 0, 1) := by decide +kernel
theorem dX3_has_26 : decode cX3_has 26 = .ok (.ireturn, 1) := by decide +kernel
theorem dX3_at_0 : decode cX3_at 0 = .ok (.aload_n 0, 1) := by decide +kernel
theorem dX3_at_1 : decode cX3_at 1 = .ok (.iload_n 1, 1) := by decide +kernel
theorem dX3_at_2 : decode cX3_at 2 = .ok (.invokevirtual 23, 3) := by decide +kernel
theorem dX3_at_5 : decode cX3_at 5 = .ok (.ifCond .eq 12, 3) := by decide +kernel
theorem dX3_at_8 : decode cX3_at 8 = .ok (.aload_n 0, 1) := by decide +kernel
theorem dX3_at_9 : decode cX3_at 9 = .ok (.getfield 19, 3) := by decide +kernel
theorem dX3_at_12 : decode cX3_at 12 = .ok (.iload_n 1, 1) := by decide +kernel
theorem dX3_at_13 : decode cX3_at 13 = .ok (.iaload, 1) := by decide +kernel
theorem dX3_at_14 : decode cX3_at 14 = .ok (.goto 4, 3) := by decide +kernel
theorem dX3_at_17 : decode cX3_at 17 = .ok (.iconst 0, 1) := by decide +kernel
theorem dX3_at_18 : decode cX3_at 18 = .ok (.ireturn, 1) := by decide +kernel
theorem dX3_set_0 : decode cX3_set 0 = .ok (.aload_n 0, 1) := by decide +kernel
theorem dX3_set_1 : decode cX3_set 1 = .ok (.iload_n 1, 1) := by decide +kernel
theorem dX3_set_2 : decode cX3_set 2 = .ok (.invokevirtual 23, 3) := by decide +kernel
theorem dX3_set_5 : decode cX3_set 5 = .ok (.ifCond .eq 10, 3) := by decide +kernel
theorem dX3_set_8 : decode cX3_set 8 = .ok (.aload_n 0, 1) := by decide +kernel
theorem dX3_set_9 : decode cX3_set 9 = .ok (.getfield 19, 3) := by decide +kernel
theorem dX3_set_12 : decode cX3_set 12 = .ok (.iload_n 1, 1) := by decide +kernel
theorem dX3_set_13 : decode cX3_set 13 = .ok (.iload_n 2, 1) := by decide +kernel
theorem dX3_set_14 : decode cX3_set 14 = .ok (.iastore, 1) := by decide +kernel
theorem dX3_set_15 : decode cX3_set 15 = .ok (.return_, 1) := by decide +kernel
theorem dX3_add_0 : decode cX3_add 0 = .ok (.aload_n 0, 1) := by decide +kernel
theorem dX3_add_1 : decode cX3_add 1 = .ok (.getfield 7, 3) := by decide +kernel
theorem dX3_add_4 : decode cX3_add 4 = .ok (.ifCond .lt 35, 3) := by decide +kernel
theorem dX3_add_7 : decode cX3_add 7 = .ok (.aload_n 0, 1) := by decide +kernel
theorem dX3_add_8 : decode cX3_add 8 = .ok (.getfield 7, 3) := by decide +kernel
theorem dX3_add_11 : decode cX3_add 11 = .ok (.aload_n 0, 1) := by decide +kernel
theorem dX3_add_12 : decode cX3_add 12 = .ok (.getfield 19, 3) := by decide +kernel
theorem dX3_add_15 : decode cX3_add 15 = .ok (.arraylength, 1) := by decide +kernel
theorem dX3_add_16 : decode cX3_add 16 = .ok (.if_icmp .ge 23, 3) := by decide +kernel
theorem dX3_add_19 : decode cX3_add 19 = .ok (.aload_n 0, 1) := by decide +kernel
theorem dX3_add_20 : decode cX3_add 20 = .ok (.getfield 19, 3) := by decide +kernel
theorem dX3_add_23 : decode cX3_add 23 = .ok (.aload_n 0, 1) := by decide +kernel
theorem dX3_add_24 : decode cX3_add 24 = .ok (.getfield 7, 3) := by decide +kernel
theorem dX3_add_27 : decode cX3_add 27 = .ok (.iload_n 1, 1) := by decide +kernel
theorem dX3_add_28 : decode cX3_add 28 = .ok (.iastore, 1) := by decide +kernel
theorem dX3_add_29 : decode cX3_add 29 = .ok (.aload_n 0, 1) := by decide +kernel
theorem dX3_add_30 : decode cX3_add 30 = .ok (.dup, 1) := by decide +kernel
theorem dX3_add_31 : decode cX3_add 31 = .ok (.getfield 7, 3) := by decide +kernel
theorem dX3_add_34 : decode cX3_add 34 = .ok (.iconst 1, 1) := by decide +kernel
theorem dX3_add_35 : decode cX3_add 35 = .ok (.iadd, 1) := by decide +kernel
theorem dX3_add_36 : decode cX3_add 36 = .ok (.putfield 7, 3) := by decide +kernel
theorem dX3_add_39 : decode cX3_add 39 = .ok (.return_, 1) := by decide +kernel
theorem dX3_insert_0 : decode cX3_insert 0 = .ok (.iload_n 1, 1) := by decide +kernel
theorem dX3_insert_1 : decode cX3_insert 1 = .ok (.ifCond .lt 23, 3) := by decide +kernel
theorem dX3_insert_4 : decode cX3_insert 4 = .ok (.iload_n 1, 1) := by decide +kernel
theorem dX3_insert_5 : decode cX3_insert 5 = .ok (.aload_n 0, 1) := by decide +kernel
theorem dX3_insert_6 : decode cX3_insert 6 = .ok (.getfield 7, 3) := by decide +kernel
theorem dX3_insert_9 : decode cX3_insert 9 = .ok (.if_icmp .gt 15, 3) := by decide +kernel
theorem dX3_insert_12 : decode cX3_insert 12 = .ok (.aload_n 0, 1) := by decide +kernel
theorem dX3_insert_13 : decode cX3_insert 13 = .ok (.getfield 7, 3) := by decide +kernel
theorem dX3_insert_16 : decode cX3_insert 16 = .ok (.aload_n 0, 1) := by decide +kernel
theorem dX3_insert_17 : decode cX3_insert 17 = .ok (.getfield 19, 3) := by decide +kernel
theorem dX3_insert_20 : decode cX3_insert 20 = .ok (.arraylength, 1) := by decide +kernel
theorem dX3_insert_21 : decode cX3_insert 21 = .ok (.if_icmp .lt 4, 3) := by decide +kernel
theorem dX3_insert_24 : decode cX3_insert 24 = .ok (.return_, 1) := by decide +kernel
theorem dX3_insert_25 : decode cX3_insert 25 = .ok (.aload_n 0, 1) := by decide +kernel
theorem dX3_insert_26 : decode cX3_insert 26 = .ok (.getfield 7, 3) := by decide +kernel
theorem dX3_insert_29 : decode cX3_insert 29 = .ok (.istore_n 3, 1) := by decide +kernel
theorem dX3_insert_30 : decode cX3_insert 30 = .ok (.iload_n 3, 1) := by decide +kernel
theorem dX3_insert_31 : decode cX3_insert 31 = .ok (.iload_n 1, 1) := by decide +kernel
theorem dX3_insert_32 : decode cX3_insert 32 = .ok (.if_icmp .le 23, 3) := by decide +kernel
theorem dX3_insert_35 : decode cX3_insert 35 = .ok (.aload_n 0, 1) := by decide +kernel
theorem dX3_insert_36 : decode cX3_insert 36 = .ok (.getfield 19, 3) := by decide +kernel
theorem dX3_insert_39 : decode cX3_insert 39 = .ok (.iload_n 3, 1) := by decide +kernel
theorem dX3_insert_40 : decode cX3_insert 40 = .ok (.aload_n 0, 1) := by decide +kernel
theorem dX3_insert_41 : decode cX3_insert 41 = .ok (.getfield 19, 3) := by decide +kernel
theorem dX3_insert_44 : decode cX3_insert 44 = .ok (.iload_n 3, 1) := by decide +kernel
theorem dX3_insert_45 : decode cX3_insert 45 = .ok (.iconst 1, 1) := by decide +kernel
theorem dX3_insert_46 : decode cX3_insert 46 = .ok (.isub, 1) := by decide +kernel
theorem dX3_insert_47 : decode cX3_insert 47 = .ok (.iaload, 1) := by decide +kernel
theorem dX3_insert_48 : decode cX3_insert 48 = .ok (.iastore, 1) := by decide +kernel
theorem dX3_insert_49 : decode cX3_insert 49 = .ok (.iinc 3 (-1), 3) := by decide +kernel
theorem dX3_insert_52 : decode cX3_insert 52 = .ok (.goto (-22), 3) := by decide +kernel
theorem dX3_insert_55 : decode cX3_insert 55 = .ok (.aload_n 0, 1) := by decide +kernel
theorem dX3_insert_56 : decode cX3_insert 56 = .ok (.getfield 19, 3) := by decide +kernel
theorem dX3_insert_59 : decode cX3_insert 59 = .ok (.iload_n 1, 1) := by decide +kernel
theorem dX3_insert_60 : decode cX3_insert 60 = .ok (.iload_n 2, 1) := by decide +kernel
theorem dX3_insert_61 : decode cX3_insert 61 = .ok (.iastore, 1) := by decide +kernel
theorem dX3_insert_62 : decode cX3_insert 62 = .ok (.aload_n 0, 1) := by decide +kernel
theorem dX3_insert_63 : decode cX3_insert 63 = .ok (.dup, 1) := by decide +kernel
theorem dX3_insert_64 : decode cX3_insert 64 = .ok (.getfield 7, 3) := by decide +kernel
theorem dX3_insert_67 : decode cX3_insert 67 = .ok (.iconst 1, 1) := by decide +kernel
theorem dX3_insert_68 : decode cX3_insert 68 = .ok (.iadd, 1) := by decide +kernel
theorem dX3_insert_69 : decode cX3_insert 69 = .ok (.putfield 7, 3) := by decide +kernel
theorem dX3_insert_72 : decode cX3_insert 72 = .ok (.return_, 1) := by decide +kernel
theorem dX3_removeAt_0 : decode cX3_removeAt 0 = .ok (.aload_n 0, 1) := by decide +kernel
theorem dX3_removeAt_1 : decode cX3_removeAt 1 = .ok (.iload_n 1, 1) := by decide +kernel
theorem dX3_removeAt_2 : decode cX3_removeAt 2 = .ok (.invokevirtual 23, 3) := by decide +kernel
theorem dX3_removeAt_5 : decode cX3_removeAt 5 = .ok (.ifCond .ne 5, 3) := by decide +kernel
theorem dX3_removeAt_8 : decode cX3_removeAt 8 = .ok (.iconst 0, 1) := by decide +kernel
theorem dX3_removeAt_9 : decode cX3_removeAt 9 = .ok (.ireturn, 1) := by decide +kernel
theorem dX3_removeAt_10 : decode cX3_removeAt 10 = .ok (.aload_n 0, 1) := by decide +kernel
theorem dX3_removeAt_11 : decode cX3_removeAt 11 = .ok (.getfield 19, 3) := by decide +kernel
theorem dX3_removeAt_14 : decode cX3_removeAt 14 = .ok (.iload_n 1, 1) := by decide +kernel
theorem dX3_removeAt_15 : decode cX3_removeAt 15 = .ok (.iaload, 1) := by decide +kernel
theorem dX3_removeAt_16 : decode cX3_removeAt 16 = .ok (.istore_n 2, 1) := by decide +kernel
theorem dX3_removeAt_17 : decode cX3_removeAt 17 = .ok (.iload_n 1, 1) := by decide +kernel
theorem dX3_removeAt_18 : decode cX3_removeAt 18 = .ok (.istore_n 3, 1) := by decide +kernel
theorem dX3_removeAt_19 : decode cX3_removeAt 19 = .ok (.iload_n 3, 1) := by decide +kernel
theorem dX3_removeAt_20 : decode cX3_removeAt 20 = .ok (.iconst 1, 1) := by decide +kernel
theorem dX3_removeAt_21 : decode cX3_removeAt 21 = .ok (.iadd, 1) := by decide +kernel
theorem dX3_removeAt_22 : decode cX3_removeAt 22 = .ok (.aload_n 0, 1) := by decide +kernel
theorem dX3_removeAt_23 : decode cX3_removeAt 23 = .ok (.getfield 7, 3) := by decide +kernel
theorem dX3_removeAt_26 : decode cX3_removeAt 26 = .ok (.if_icmp .ge 23, 3) := by decide +kernel
theorem dX3_removeAt_29 : decode cX3_removeAt 29 = .ok (.aload_n 0, 1) := by decide +kernel
theorem dX3_removeAt_30 : decode cX3_removeAt 30 = .ok (.getfield 19, 3) := by decide +kernel
theorem dX3_removeAt_33 : decode cX3_removeAt 33 = .ok (.iload_n 3, 1) := by decide +kernel
theorem dX3_removeAt_34 : decode cX3_removeAt 34 = .ok (.aload_n 0, 1) := by decide +kernel
theorem dX3_removeAt_35 : decode cX3_removeAt 35 = .ok (.getfield 19, 3) := by decide +kernel
theorem dX3_removeAt_38 : decode cX3_removeAt 38 = .ok (.iload_n 3, 1) := by decide +kernel
theorem dX3_removeAt_39 : decode cX3_removeAt 39 = .ok (.iconst 1, 1) := by decide +kernel
theorem dX3_removeAt_40 : decode cX3_removeAt 40 = .ok (.iadd, 1) := by decide +kernel
theorem dX3_removeAt_41 : decode cX3_removeAt 41 = .ok (.iaload, 1) := by decide +kernel
theorem dX3_removeAt_42 : decode cX3_removeAt 42 = .ok (.iastore, 1) := by decide +kernel
theorem dX3_removeAt_43 : decode cX3_removeAt 43 = .ok (.iinc 3 1, 3) := by decide +kernel
theorem dX3_removeAt_46 : decode cX3_removeAt 46 = .ok (.goto (-27), 3) := by decide +kernel
theorem dX3_removeAt_49 : decode cX3_removeAt 49 = .ok (.aload_n 0, 1) := by decide +kernel
theorem dX3_removeAt_50 : decode cX3_removeAt 50 = .ok (.dup, 1) := by decide +kernel
theorem dX3_removeAt_51 : decode cX3_removeAt 51 = .ok (.getfield 7, 3) := by decide +kernel
theorem dX3_removeAt_54 : decode cX3_removeAt 54 = .ok (.iconst 1, 1) := by decide +kernel
theorem dX3_removeAt_55 : decode cX3_removeAt 55 = .ok (.isub, 1) := by decide +kernel
theorem dX3_removeAt_56 : decode cX3_removeAt 56 = .ok (.putfield 7, 3) := by decide +kernel
theorem dX3_removeAt_59 : decode cX3_removeAt 59 = .ok (.iload_n 2, 1) := by decide +kernel
theorem dX3_removeAt_60 : decode cX3_removeAt 60 = .ok (.ireturn, 1) := by decide +kernel
theorem dX3_empty_0 : decode cX3_empty 0 = .ok (.aload_n 0, 1) := by decide +kernel
theorem dX3_empty_1 : decode cX3_empty 1 = .ok (.iconst 0, 1) := by decide +kernel
theorem dX3_empty_2 : decode cX3_empty 2 = .ok (.putfield 7, 3) := by decide +kernel
theorem dX3_empty_5 : decode cX3_empty 5 = .ok (.return_, 1) := by decide +kernel
theorem dX3_copyFrom_0 : decode cX3_copyFrom 0 = .ok (.aload_n 0, 1) := by decide +kernel
theorem dX3_copyFrom_1 : decode cX3_copyFrom 1 = .ok (.invokevirtual 27, 3) := by decide +kernel
theorem dX3_copyFrom_4 : decode cX3_copyFrom 4 = .ok (.iconst 0, 1) := by decide +kernel
theorem dX3_copyFrom_5 : decode cX3_copyFrom 5 = .ok (.istore_n 2, 1) := by decide +kernel
theorem dX3_copyFrom_6 : decode cX3_copyFrom 6 = .ok (.iload_n 2, 1) := by decide +kernel
theorem dX3_copyFrom_7 : decode cX3_copyFrom 7 = .ok (.aload_n 1, 1) := by decide +kernel
theorem dX3_copyFrom_8 : decode cX3_copyFrom 8 = .ok (.getfield 7, 3) := by decide +kernel
theorem dX3_copyFrom_11 : decode cX3_copyFrom 11 = .ok (.if_icmp .ge 18, 3) := by decide +kernel
theorem dX3_copyFrom_14 : decode cX3_copyFrom 14 = .ok (.aload_n 0, 1) := by decide +kernel
theorem dX3_copyFrom_15 : decode cX3_copyFrom 15 = .ok (.aload_n 1, 1) := by decide +kernel
theorem dX3_copyFrom_16 : decode cX3_copyFrom 16 = .ok (.iload_n 2, 1) := by decide +kernel
theorem dX3_copyFrom_17 : decode cX3_copyFrom 17 = .ok (.invokevirtual 30, 3) := by decide +kernel
theorem dX3_copyFrom_20 : decode cX3_copyFrom 20 = .ok (.invokevirtual 34, 3) := by decide +kernel
theorem dX3_copyFrom_23 : decode cX3_copyFrom 23 = .ok (.iinc 2 1, 3) := by decide +kernel
theorem dX3_copyFrom_26 : decode cX3_copyFrom 26 = .ok (.goto (-20), 3) := by decide +kernel
theorem dX3_copyFrom_29 : decode cX3_copyFrom 29 = .ok (.return_, 1) := by decide +kernel
theorem dX3_isSameAs_0 : decode cX3_isSameAs 0 = .ok (.aload_n 0, 1) := by decide +kernel
theorem dX3_isSameAs_1 : decode cX3_isSameAs 1 = .ok (.getfield 7, 3) := by decide +kernel
theorem dX3_isSameAs_4 : decode cX3_isSameAs 4 = .ok (.aload_n 1, 1) := by decide +kernel
theorem dX3_isSameAs_5 : decode cX3_isSameAs 5 = .ok (.getfield 7, 3) := by decide +kernel
theorem dX3_isSameAs_8 : decode cX3_isSameAs 8 = .ok (.if_icmp .ne 19, 3) := by decide +kernel
theorem dX3_isSameAs_11 : decode cX3_isSameAs 11 = .ok (.aload_n 0, 1) := by decide +kernel
theorem dX3_isSameAs_12 : decode cX3_isSameAs 12 = .ok (.aload_n 1, 1) := by decide +kernel
theorem dX3_isSameAs_13 : decode cX3_isSameAs 13 = .ok (.aload_n 0, 1) := by decide +kernel
theorem dX3_isSameAs_14 : decode cX3_isSameAs 14 = .ok (.getfield 7, 3) := by decide +kernel
theorem dX3_isSameAs_17 : decode cX3_isSameAs 17 = .ok (.invokevirtual 38, 3) := by decide +kernel
theorem dX3_isSameAs_20 : decode cX3_isSameAs 20 = .ok (.ifCond .eq 7, 3) := by decide +kernel
theorem dX3_isSameAs_23 : decode cX3_isSameAs 23 = .ok (.iconst 1, 1) := by decide +kernel
theorem dX3_isSameAs_24 : decode cX3_isSameAs 24 = .ok (.goto 4, 3) := by decide +kernel
theorem dX3_isSameAs_27 : decode cX3_isSameAs 27 = .ok (.iconst 0, 1) := by decide +kernel
theorem dX3_isSameAs_28 : decode cX3_isSameAs 28 = .ok (.ireturn, 1) := by decide +kernel
theorem dX3_endsWith_0 : decode cX3_endsWith 0 = .ok (.iload_n 2, 1) := by decide +kernel
theorem dX3_endsWith_1 : decode cX3_endsWith 1 = .ok (.aload_n 1, 1) := by decide +kernel
theorem dX3_endsWith_2 : decode cX3_endsWith 2 = .ok (.getfield 7, 3) := by decide +kernel
theorem dX3_endsWith_5 : decode cX3_endsWith 5 = .ok (.isub, 1) := by decide +kernel
theorem dX3_endsWith_6 : decode cX3_endsWith 6 = .ok (.istore_n 3, 1) := by decide +kernel
theorem dX3_endsWith_7 : decode cX3_endsWith 7 = .ok (.iload_n 3, 1) := by decide +kernel
theorem dX3_endsWith_8 : decode cX3_endsWith 8 = .ok (.ifCond .lt 11, 3) := by decide +kernel
theorem dX3_endsWith_11 : decode cX3_endsWith 11 = .ok (.iload_n 2, 1) := by decide +kernel
theorem dX3_endsWith_12 : decode cX3_endsWith 12 = .ok (.aload_n 0, 1) := by decide +kernel
theorem dX3_endsWith_13 : decode cX3_endsWith 13 = .ok (.getfield 7, 3) := by decide +kernel
theorem dX3_endsWith_16 : decode cX3_endsWith 16 = .ok (.if_icmp .le 5, 3) := by decide +kernel
theorem dX3_endsWith_19 : decode cX3_endsWith 19 = .ok (.iconst 0, 1) := by decide +kernel
theorem dX3_endsWith_20 : decode cX3_endsWith 20 = .ok (.ireturn, 1) := by decide +kernel
theorem dX3_endsWith_21 : decode cX3_endsWith 21 = .ok (.iconst 0, 1) := by decide +kernel
theorem dX3_endsWith_22 : decode cX3_endsWith 22 = .ok (.istore 4, 2) := by decide +kernel
theorem dX3_endsWith_24 : decode cX3_endsWith 24 = .ok (.iload 4, 2) := by decide +kernel
theorem dX3_endsWith_26 : decode cX3_endsWith 26 = .ok (.aload_n 1, 1) := by decide +kernel
theorem dX3_endsWith_27 : decode cX3_endsWith 27 = .ok (.getfield 7, 3) := by decide +kernel
theorem dX3_endsWith_30 : decode cX3_endsWith 30 = .ok (.if_icmp .ge 28, 3) := by decide +kernel
theorem dX3_endsWith_33 : decode cX3_endsWith 33 = .ok (.aload_n 0, 1) := by decide +kernel
theorem dX3_endsWith_34 : decode cX3_endsWith 34 = .ok (.iload_n 3, 1) := by decide +kernel
theorem dX3_endsWith_35 : decode cX3_endsWith 35 = .ok (.iload 4, 2) := by decide +kernel
theorem dX3_endsWith_37 : decode cX3_endsWith 37 = .ok (.iadd, 1) := by decide +kernel
theorem dX3_endsWith_38 : decode cX3_endsWith 38 = .ok (.invokevirtual 30, 3) := by decide +kernel
theorem dX3_endsWith_41 : decode cX3_endsWith 41 = .ok (.aload_n 1, 1) := by decide +kernel
theorem dX3_endsWith_42 : decode cX3_endsWith 42 = .ok (.iload 4, 2) := by decide +kernel
theorem dX3_endsWith_44 : decode cX3_endsWith 44 = .ok (.invokevirtual 30, 3) := by decide +kernel
theorem dX3_endsWith_47 : decode cX3_endsWith 47 = .ok (.if_icmp .eq 5, 3) := by decide +kernel
theorem dX3_endsWith_50 : decode cX3_endsWith 50 = .ok (.iconst 0, 1) := by decide +kernel
theorem dX3_endsWith_51 : decode cX3_endsWith 51 = .ok (.ireturn, 1) := by decide +kernel
theorem dX3_endsWith_52 : decode cX3_endsWith 52 = .ok (.iinc 4 1, 3) := by decide +kernel
theorem dX3_endsWith_55 : decode cX3_endsWith 55 = .ok (.goto (-31), 3) := by decide +kernel
theorem dX3_endsWith_58 : decode cX3_endsWith 58 = .ok (.iconst 1, 1) := by decide +kernel
theorem dX3_endsWith_59 : decode cX3_endsWith 59 = .ok (.ireturn, 1) := by decide +kernel
theorem dX4_init_0 : decode cX4_init 0 = .ok (.aload_n 0, 1) := by decide +kernel
theorem dX4_init_1 : decode cX4_init 1 = .ok (.invokespecial 3, 3) := by decide +kernel
theorem dX4_init_4 : decode cX4_init 4 = .ok (.aload_n 0, 1) := by decide +kernel
theorem dX4_init_5 : decode cX4_init 5 = .ok (.new 9, 3) := by decide +kernel
theorem dX4_init_8 : decode cX4_init 8 = .ok (.dup, 1) := by decide +kernel
theorem dX4_init_9 : decode cX4_init 9 = .ok (.bipush 6, 2) := by decide +kernel
theorem dX4_init_11 : decode cX4_init 11 = .ok (.invokespecial 11, 3) := by decide +kernel
theorem dX4_init_14 : decode cX4_init 14 = .ok (.putfield 14, 3) := by decide +kernel
theorem dX4_init_17 : decode cX4_init 17 = .ok (.aload_n 0, 1) := by decide +kernel
theorem dX4_init_18 : decode cX4_init 18 = .ok (.new 20, 3) := by decide +kernel
theorem dX4_init_21 : decode cX4_init 21 = .ok (.dup, 1) := by decide +kernel
theorem dX4_init_22 : decode cX4_init 22 = .ok (.invokespecial 22, 3) := by decide +kernel
theorem dX4_init_25 : decode cX4_init 25 = .ok (.putfield 23, 3) := by decide +kernel
theorem dX4_init_28 : decode cX4_init 28 = .ok (.aload_n 0, 1) := by decide +kernel
theorem dX4_init_29 : decode cX4_init 29 = .ok (.iconst 1, 1) := by decide +kernel
theorem dX4_init_30 : decode cX4_init 30 = .ok (.putfield 27, 3) := by decide +kernel
theorem dX4_init_33 : decode cX4_init 33 = .ok (.aload_n 0, 1) := by decide +kernel
theorem dX4_init_34 : decode cX4_init 34 = .ok (.iconst 0, 1) := by decide +kernel
theorem dX4_init_35 : decode cX4_init 35 = .ok (.putfield 31, 3) := by decide +kernel
theorem dX4_init_38 : decode cX4_init 38 = .ok (.aload_n 0, 1) := by decide +kernel
theorem dX4_init_39 : decode cX4_init 39 = .ok (.iconst 0, 1) := by decide +kernel
theorem dX4_init_40 : decode cX4_init 40 = .ok (.putfield 34, 3) := by decide +kernel
theorem dX4_init_43 : decode cX4_init 43 = .ok (.aload_n 0, 1) := by decide +kernel
theorem dX4_init_44 : decode cX4_init 44 = .ok (.iconst 1, 1) := by decide +kernel
theorem dX4_init_45 : decode cX4_init 45 = .ok (.putfield 38, 3) := by decide +kernel
theorem dX4_init_48 : decode cX4_init 48 = .ok (.aload_n 0, 1) := by decide +kernel
theorem dX4_init_49 : decode cX4_init 49 = .ok (.iconst 0, 1) := by decide +kernel
theorem dX4_init_50 : decode cX4_init 50 = .ok (.putfield 41, 3) := by decide +kernel
theorem dX4_init_53 : decode cX4_init 53 = .ok (.aload_n 0, 1) := by decide +kernel
theorem dX4_init_54 : decode cX4_init 54 = .ok (.iload_n 1, 1) := by decide +kernel
theorem dX4_init_55 : decode cX4_init 55 = .ok (.putfield 44, 3) := by decide +kernel
theorem dX4_init_58 : decode cX4_init 58 = .ok (.return_, 1) := by decide +kernel
theorem dX4_reaches_0 : decode cX4_reaches 0 = .ok (.aload_n 0, 1) := by decide +kernel
theorem dX4_reaches_1 : decode cX4_reaches 1 = .ok (.getfield 41, 3) := by decide +kernel
theorem dX4_reaches_4 : decode cX4_reaches 4 = .ok (.iload_n 1, 1) := by decide +kernel
theorem dX4_reaches_5 : decode cX4_reaches 5 = .ok (.ishr, 1) := by decide +kernel
theorem dX4_reaches_6 : decode cX4_reaches 6 = .ok (.iconst 1, 1) := by decide +kernel
theorem dX4_reaches_7 : decode cX4_reaches 7 = .ok (.iand, 1) := by decide +kernel
theorem dX4_reaches_8 : decode cX4_reaches 8 = .ok (.iconst 1, 1) := by decide +kernel
theorem dX4_reaches_9 : decode cX4_reaches 9 = .ok (.if_icmp .ne 7, 3) := by decide +kernel
theorem dX4_reaches_12 : decode cX4_reaches 12 = .ok (.iconst 1, 1) := by decide +kernel
theorem dX4_reaches_13 : decode cX4_reaches 13 = .ok (.goto 4, 3) := by decide +kernel
theorem dX4_reaches_16 : decode cX4_reaches 16 = .ok (.iconst 0, 1) := by decide +kernel
theorem dX4_reaches_17 : decode cX4_reaches 17 = .ok (.ireturn, 1) := by decide +kernel
theorem dX4_grow_0 : decode cX4_grow 0 = .ok (.aload_n 0, 1) := by decide +kernel
theorem dX4_grow_1 : decode cX4_grow 1 = .ok (.aload_n 0, 1) := by decide +kernel
theorem dX4_grow_2 : decode cX4_grow 2 = .ok (.getfield 34, 3) := by decide +kernel
theorem dX4_grow_5 : decode cX4_grow 5 = .ok (.iload_n 1, 1) := by decide +kernel
theorem dX4_grow_6 : decode cX4_grow 6 = .ok (.iadd, 1) := by decide +kernel
theorem dX4_grow_7 : decode cX4_grow 7 = .ok (.sipush 201, 3) := by decide +kernel
theorem dX4_grow_10 : decode cX4_grow 10 = .ok (.invokestatic 47, 3) := by decide +kernel
theorem dX4_grow_13 : decode cX4_grow 13 = .ok (.putfield 34, 3) := by decide +kernel
theorem dX4_grow_16 : decode cX4_grow 16 = .ok (.return_, 1) := by decide +kernel
theorem dX5_init_0 : decode cX5_init 0 = .ok (.aload_n 0, 1) := by decide +kernel
theorem dX5_init_1 : decode cX5_init 1 = .ok (.invokespecial 3, 3) := by decide +kernel
theorem dX5_init_4 : decode cX5_init 4 = .ok (.aload_n 0, 1) := by decide +kernel
theorem dX5_init_5 : decode cX5_init 5 = .ok (.new 9, 3) := by decide +kernel
theorem dX5_init_8 : decode cX5_init 8 = .ok (.dup, 1) := by decide +kernel
theorem dX5_init_9 : decode cX5_init 9 = .ok (.bipush 80, 2) := by decide +kernel
theorem dX5_init_11 : decode cX5_init 11 = .ok (.invokespecial 11, 3) := by decide +kernel
theorem dX5_init_14 : decode cX5_init 14 = .ok (.putfield 14, 3) := by decide +kernel
theorem dX5_init_17 : decode cX5_init 17 = .ok (.aload_n 0, 1) := by decide +kernel
theorem dX5_init_18 : decode cX5_init 18 = .ok (.new 9, 3) := by decide +kernel
theorem dX5_init_21 : decode cX5_init 21 = .ok (.dup, 1) := by decide +kernel
theorem dX5_init_22 : decode cX5_init 22 = .ok (.sipush 200, 3) := by decide +kernel
theorem dX5_init_25 : decode cX5_init 25 = .ok (.invokespecial 11, 3) := by decide +kernel
theorem dX5_init_28 : decode cX5_init 28 = .ok (.putfield 20, 3) := by decide +kernel
theorem dX5_init_31 : decode cX5_init 31 = .ok (.aload_n 0, 1) := by decide +kernel
theorem dX5_init_32 : decode cX5_init 32 = .ok (.iconst 0, 1) := by decide +kernel
theorem dX5_init_33 : decode cX5_init 33 = .ok (.putfield 23, 3) := by decide +kernel
theorem dX5_init_36 : decode cX5_init 36 = .ok (.return_, 1) := by decide +kernel
theorem dX5_type_0 : decode cX5_type 0 = .ok (.aload_n 0, 1) := by decide +kernel
theorem dX5_type_1 : decode cX5_type 1 = .ok (.getfield 14, 3) := by decide +kernel
theorem dX5_type_4 : decode cX5_type 4 = .ok (.aload_n 0, 1) := by decide +kernel
theorem dX5_type_5 : decode cX5_type 5 = .ok (.getfield 23, 3) := by decide +kernel
theorem dX5_type_8 : decode cX5_type 8 = .ok (.iload_n 1, 1) := by decide +kernel
theorem dX5_type_9 : decode cX5_type 9 = .ok (.invokevirtual 27, 3) := by decide +kernel
theorem dX5_type_12 : decode cX5_type 12 = .ok (.aload_n 0, 1) := by decide +kernel
theorem dX5_type_13 : decode cX5_type 13 = .ok (.iconst 1, 1) := by decide +kernel
theorem dX5_type_14 : decode cX5_type 14 = .ok (.invokevirtual 31, 3) := by decide +kernel
theorem dX5_type_17 : decode cX5_type 17 = .ok (.aload_n 0, 1) := by decide +kernel
theorem dX5_type_18 : decode cX5_type 18 = .ok (.dup, 1) := by decide +kernel
theorem dX5_type_19 : decode cX5_type 19 = .ok (.getfield 23, 3) := by decide +kernel
theorem dX5_type_22 : decode cX5_type 22 = .ok (.iconst 1, 1) := by decide +kernel
theorem dX5_type_23 : decode cX5_type 23 = .ok (.iadd, 1) := by decide +kernel
theorem dX5_type_24 : decode cX5_type 24 = .ok (.putfield 23, 3) := by decide +kernel
theorem dX5_type_27 : decode cX5_type 27 = .ok (.return_, 1) := by decide +kernel
theorem dX5_takeOut_0 : decode cX5_takeOut 0 = .ok (.aload_n 0, 1) := by decide +kernel
theorem dX5_takeOut_1 : decode cX5_takeOut 1 = .ok (.iconst (-1), 1) := by decide +kernel
theorem dX5_takeOut_2 : decode cX5_takeOut 2 = .ok (.invokevirtual 31, 3) := by decide +kernel
theorem dX5_takeOut_5 : decode cX5_takeOut 5 = .ok (.aload_n 0, 1) := by decide +kernel
theorem dX5_takeOut_6 : decode cX5_takeOut 6 = .ok (.dup, 1) := by decide +kernel
theorem dX5_takeOut_7 : decode cX5_takeOut 7 = .ok (.getfield 23, 3) := by decide +kernel
theorem dX5_takeOut_10 : decode cX5_takeOut 10 = .ok (.iconst 1, 1) := by decide +kernel
theorem dX5_takeOut_11 : decode cX5_takeOut 11 = .ok (.isub, 1) := by decide +kernel
theorem dX5_takeOut_12 : decode cX5_takeOut 12 = .ok (.putfield 23, 3) := by decide +kernel
theorem dX5_takeOut_15 : decode cX5_takeOut 15 = .ok (.aload_n 0, 1) := by decide +kernel
theorem dX5_takeOut_16 : decode cX5_takeOut 16 = .ok (.getfield 14, 3) := by decide +kernel
theorem dX5_takeOut_19 : decode cX5_takeOut 19 = .ok (.aload_n 0, 1) := by decide +kernel
theorem dX5_takeOut_20 : decode cX5_takeOut 20 = .ok (.getfield 23, 3) := by decide +kernel
theorem dX5_takeOut_23 : decode cX5_takeOut 23 = .ok (.invokevirtual 34, 3) := by decide +kernel
theorem dX5_takeOut_26 : decode cX5_takeOut 26 = .ok (.ireturn, 1) := by decide +kernel
theorem dX5_shiftStops_0 : decode cX5_shiftStops 0 = .ok (.iconst 0, 1) := by decide +kernel
theorem dX5_shiftStops_1 : decode cX5_shiftStops 1 = .ok (.istore_n 2, 1) := by decide +kernel
theorem dX5_shiftStops_2 : decode cX5_shiftStops 2 = .ok (.iload_n 2, 1) := by decide +kernel
theorem dX5_shiftStops_3 : decode cX5_shiftStops 3 = .ok (.aload_n 0, 1) := by decide +kernel
theorem dX5_shiftStops_4 : decode cX5_shiftStops 4 = .ok (.getfield 20, 3) := by decide +kernel
theorem dX5_shiftStops_7 : decode cX5_shiftStops 7 = .ok (.invokevirtual 38, 3) := by decide +kernel
theorem dX5_shiftStops_10 : decode cX5_shiftStops 10 = .ok (.if_icmp .ge 42, 3) := by decide +kernel
theorem dX5_shiftStops_13 : decode cX5_shiftStops 13 = .ok (.aload_n 0, 1) := by decide +kernel
theorem dX5_shiftStops_14 : decode cX5_shiftStops 14 = .ok (.getfield 20, 3) := by decide +kernel
theorem dX5_shiftStops_17 : decode cX5_shiftStops 17 = .ok (.iload_n 2, 1) := by decide +kernel
theorem dX5_shiftStops_18 : decode cX5_shiftStops 18 = .ok (.invokevirtual 42, 3) := by decide +kernel
theorem dX5_shiftStops_21 : decode cX5_shiftStops 21 = .ok (.aload_n 0, 1) := by decide +kernel
theorem dX5_shiftStops_22 : decode cX5_shiftStops 22 = .ok (.getfield 23, 3) := by decide +kernel
theorem dX5_shiftStops_25 : decode cX5_shiftStops 25 = .ok (.if_icmp .lt 21, 3) := by decide +kernel
theorem dX5_shiftStops_28 : decode cX5_shiftStops 28 = .ok (.aload_n 0, 1) := by decide +kernel
theorem dX5_shiftStops_29 : decode cX5_shiftStops 29 = .ok (.getfield 20, 3) := by decide +kernel
theorem dX5_shiftStops_32 : decode cX5_shiftStops 32 = .ok (.iload_n 2, 1) := by decide +kernel
theorem dX5_shiftStops_33 : decode cX5_shiftStops 33 = .ok (.aload_n 0, 1) := by decide +kernel
theorem dX5_shiftStops_34 : decode cX5_shiftStops 34 = .ok (.getfield 20, 3) := by decide +kernel
theorem dX5_shiftStops_37 : decode cX5_shiftStops 37 = .ok (.iload_n 2, 1) := by decide +kernel
theorem dX5_shiftStops_38 : decode cX5_shiftStops 38 = .ok (.invokevirtual 42, 3) := by decide +kernel
theorem dX5_shiftStops_41 : decode cX5_shiftStops 41 = .ok (.iload_n 1, 1) := by decide +kernel
theorem dX5_shiftStops_42 : decode cX5_shiftStops 42 = .ok (.iadd, 1) := by decide +kernel
theorem dX5_shiftStops_43 : decode cX5_shiftStops 43 = .ok (.invokevirtual 45, 3) := by decide +kernel
theorem dX5_shiftStops_46 : decode cX5_shiftStops 46 = .ok (.iinc 2 1, 3) := by decide +kernel
theorem dX5_shiftStops_49 : decode cX5_shiftStops 49 = .ok (.goto (-47), 3) := by decide +kernel
theorem dX5_shiftStops_52 : decode cX5_shiftStops 52 = .ok (.return_, 1) := by decide +kernel
theorem dX5_replace_0 : decode cX5_replace 0 = .ok (.iconst 0, 1) := by decide +kernel
theorem dX5_replace_1 : decode cX5_replace 1 = .ok (.istore_n 3, 1) := by decide +kernel
theorem dX5_replace_2 : decode cX5_replace 2 = .ok (.iload_n 3, 1) := by decide +kernel
theorem dX5_replace_3 : decode cX5_replace 3 = .ok (.iload_n 1, 1) := by decide +kernel
theorem dX5_replace_4 : decode cX5_replace 4 = .ok (.if_icmp .ge 31, 3) := by decide +kernel
theorem dX5_replace_7 : decode cX5_replace 7 = .ok (.aload_n 0, 1) := by decide +kernel
theorem dX5_replace_8 : decode cX5_replace 8 = .ok (.dup, 1) := by decide +kernel
theorem dX5_replace_9 : decode cX5_replace 9 = .ok (.getfield 23, 3) := by decide +kernel
theorem dX5_replace_12 : decode cX5_replace 12 = .ok (.iconst 1, 1) := by decide +kernel
theorem dX5_replace_13 : decode cX5_replace 13 = .ok (.isub, 1) := by decide +kernel
theorem dX5_replace_14 : decode cX5_replace 14 = .ok (.putfield 23, 3) := by decide +kernel
theorem dX5_replace_17 : decode cX5_replace 17 = .ok (.aload_n 0, 1) := by decide +kernel
theorem dX5_replace_18 : decode cX5_replace 18 = .ok (.getfield 14, 3) := by decide +kernel
theorem dX5_replace_21 : decode cX5_replace 21 = .ok (.aload_n 0, 1) := by decide +kernel
theorem dX5_replace_22 : decode cX5_replace 22 = .ok (.getfield 23, 3) := by decide +kernel
theorem dX5_replace_25 : decode cX5_replace 25 = .ok (.invokevirtual 34, 3) := by decide +kernel
theorem dX5_replace_28 : decode cX5_replace 28 = .ok (.pop, 1) := by decide +kernel
theorem dX5_replace_29 : decode cX5_replace 29 = .ok (.iinc 3 1, 3) := by decide +kernel
theorem dX5_replace_32 : decode cX5_replace 32 = .ok (.goto (-30), 3) := by decide +kernel
theorem dX5_replace_35 : decode cX5_replace 35 = .ok (.iconst 0, 1) := by decide +kernel
theorem dX5_replace_36 : decode cX5_replace 36 = .ok (.istore_n 3, 1) := by decide +kernel
theorem dX5_replace_37 : decode cX5_replace 37 = .ok (.iload_n 3, 1) := by decide +kernel
theorem dX5_replace_38 : decode cX5_replace 38 = .ok (.aload_n 2, 1) := by decide +kernel
theorem dX5_replace_39 : decode cX5_replace 39 = .ok (.getfield 48, 3) := by decide +kernel
theorem dX5_replace_42 : decode cX5_replace 42 = .ok (.invokevirtual 38, 3) := by decide +kernel
theorem dX5_replace_45 : decode cX5_replace 45 = .ok (.if_icmp .ge 30, 3) := by decide +kernel
theorem dX5_replace_48 : decode cX5_replace 48 = .ok (.aload_n 0, 1) := by decide +kernel
theorem dX5_replace_49 : decode cX5_replace 49 = .ok (.getfield 14, 3) := by decide +kernel
theorem dX5_replace_52 : decode cX5_replace 52 = .ok (.aload_n 0, 1) := by decide +kernel
theorem dX5_replace_53 : decode cX5_replace 53 = .ok (.getfield 23, 3) := by decide +kernel
theorem dX5_replace_56 : decode cX5_replace 56 = .ok (.iload_n 3, 1) := by decide +kernel
theorem dX5_replace_57 : decode cX5_replace 57 = .ok (.iadd, 1) := by decide +kernel
theorem dX5_replace_58 : decode cX5_replace 58 = .ok (.aload_n 2, 1) := by decide +kernel
theorem dX5_replace_59 : decode cX5_replace 59 = .ok (.getfield 48, 3) := by decide +kernel
theorem dX5_replace_62 : decode cX5_replace 62 = .ok (.iload_n 3, 1) := by decide +kernel
theorem dX5_replace_63 : decode cX5_replace 63 = .ok (.invokevirtual 42, 3) := by decide +kernel
theorem dX5_replace_66 : decode cX5_replace 66 = .ok (.invokevirtual 27, 3) := by decide +kernel
theorem dX5_replace_69 : decode cX5_replace 69 = .ok (.iinc 3 1, 3) := by decide +kernel
theorem dX5_replace_72 : decode cX5_replace 72 = .ok (.goto (-35), 3) := by decide +kernel
theorem dX5_replace_75 : decode cX5_replace 75 = .ok (.aload_n 0, 1) := by decide +kernel
theorem dX5_replace_76 : decode cX5_replace 76 = .ok (.getfield 20, 3) := by decide +kernel
theorem dX5_replace_79 : decode cX5_replace 79 = .ok (.invokevirtual 51, 3) := by decide +kernel
theorem dX5_replace_82 : decode cX5_replace 82 = .ok (.iconst 1, 1) := by decide +kernel
theorem dX5_replace_83 : decode cX5_replace 83 = .ok (.istore_n 3, 1) := by decide +kernel
theorem dX5_replace_84 : decode cX5_replace 84 = .ok (.iload_n 3, 1) := by decide +kernel
theorem dX5_replace_85 : decode cX5_replace 85 = .ok (.aload_n 2, 1) := by decide +kernel
theorem dX5_replace_86 : decode cX5_replace 86 = .ok (.getfield 54, 3) := by decide +kernel
theorem dX5_replace_89 : decode cX5_replace 89 = .ok (.invokevirtual 38, 3) := by decide +kernel
theorem dX5_replace_92 : decode cX5_replace 92 = .ok (.if_icmp .ge 29, 3) := by decide +kernel
theorem dX5_replace_95 : decode cX5_replace 95 = .ok (.aload_n 0, 1) := by decide +kernel
theorem dX5_replace_96 : decode cX5_replace 96 = .ok (.getfield 20, 3) := by decide +kernel
theorem dX5_replace_99 : decode cX5_replace 99 = .ok (.aload_n 0, 1) := by decide +kernel
theorem dX5_replace_100 : decode cX5_replace 100 = .ok (.getfield 23, 3) := by decide +kernel
theorem dX5_replace_103 : decode cX5_replace 103 = .ok (.aload_n 2, 1) := by decide +kernel
theorem dX5_replace_104 : decode cX5_replace 104 = .ok (.getfield 54, 3) := by decide +kernel
theorem dX5_replace_107 : decode cX5_replace 107 = .ok (.iload_n 3, 1) := by decide +kernel
theorem dX5_replace_108 : decode cX5_replace 108 = .ok (.invokevirtual 42, 3) := by decide +kernel
theorem dX5_replace_111 : decode cX5_replace 111 = .ok (.iadd, 1) := by decide +kernel
theorem dX5_replace_112 : decode cX5_replace 112 = .ok (.invokevirtual 55, 3) := by decide +kernel
theorem dX5_replace_115 : decode cX5_replace 115 = .ok (.iinc 3 1, 3) := by decide +kernel
theorem dX5_replace_118 : decode cX5_replace 118 = .ok (.goto (-34), 3) := by decide +kernel
theorem dX5_replace_121 : decode cX5_replace 121 = .ok (.aload_n 0, 1) := by decide +kernel
theorem dX5_replace_122 : decode cX5_replace 122 = .ok (.dup, 1) := by decide +kernel
theorem dX5_replace_123 : decode cX5_replace 123 = .ok (.getfield 23, 3) := by decide +kernel
theorem dX5_replace_126 : decode cX5_replace 126 = .ok (.aload_n 2, 1) := by decide +kernel
theorem dX5_replace_127 : decode cX5_replace 127 = .ok (.getfield 54, 3) := by decide +kernel
theorem dX5_replace_130 : decode cX5_replace 130 = .ok (.iconst 0, 1) := by decide +kernel
theorem dX5_replace_131 : decode cX5_replace 131 = .ok (.invokevirtual 58, 3) := by decide +kernel
theorem dX5_replace_134 : decode cX5_replace 134 = .ok (.ifCond .eq 14, 3) := by decide +kernel
theorem dX5_replace_137 : decode cX5_replace 137 = .ok (.aload_n 2, 1) := by decide +kernel
theorem dX5_replace_138 : decode cX5_replace 138 = .ok (.getfield 54, 3) := by decide +kernel
theorem dX5_replace_141 : decode cX5_replace 141 = .ok (.iconst 0, 1) := by decide +kernel
theorem dX5_replace_142 : decode cX5_replace 142 = .ok (.invokevirtual 42, 3) := by decide +kernel
theorem dX5_replace_145 : decode cX5_replace 145 = .ok (.goto 10, 3) := by decide +kernel
theorem dX5_replace_148 : decode cX5_replace 148 = .ok (.aload_n 2, 1) := by decide +kernel
theorem dX5_replace_149 : decode cX5_replace 149 = .ok (.getfield 48, 3) := by decide +kernel
theorem dX5_replace_152 : decode cX5_replace 152 = .ok (.invokevirtual 38, 3) := by decide +kernel
theorem dX5_replace_155 : decode cX5_replace 155 = .ok (.iadd, 1) := by decide +kernel
theorem dX5_replace_156 : decode cX5_replace 156 = .ok (.putfield 23, 3) := by decide +kernel
theorem dX5_replace_159 : decode cX5_replace 159 = .ok (.return_, 1) := by decide +kernel
theorem dX5_copyFrom_0 : decode cX5_copyFrom 0 = .ok (.aload_n 0, 1) := by decide +kernel
theorem dX5_copyFrom_1 : decode cX5_copyFrom 1 = .ok (.getfield 14, 3) := by decide +kernel
theorem dX5_copyFrom_4 : decode cX5_copyFrom 4 = .ok (.aload_n 1, 1) := by decide +kernel
theorem dX5_copyFrom_5 : decode cX5_copyFrom 5 = .ok (.getfield 14, 3) := by decide +kernel
theorem dX5_copyFrom_8 : decode cX5_copyFrom 8 = .ok (.invokevirtual 62, 3) := by decide +kernel
theorem dX5_copyFrom_11 : decode cX5_copyFrom 11 = .ok (.aload_n 0, 1) := by decide +kernel
theorem dX5_copyFrom_12 : decode cX5_copyFrom 12 = .ok (.getfield 20, 3) := by decide +kernel
theorem dX5_copyFrom_15 : decode cX5_copyFrom 15 = .ok (.aload_n 1, 1) := by decide +kernel
theorem dX5_copyFrom_16 : decode cX5_copyFrom 16 = .ok (.getfield 20, 3) := by decide +kernel
theorem dX5_copyFrom_19 : decode cX5_copyFrom 19 = .ok (.invokevirtual 62, 3) := by decide +kernel
theorem dX5_copyFrom_22 : decode cX5_copyFrom 22 = .ok (.aload_n 0, 1) := by decide +kernel
theorem dX5_copyFrom_23 : decode cX5_copyFrom 23 = .ok (.aload_n 1, 1) := by decide +kernel
theorem dX5_copyFrom_24 : decode cX5_copyFrom 24 = .ok (.getfield 23, 3) := by decide +kernel
theorem dX5_copyFrom_27 : decode cX5_copyFrom 27 = .ok (.putfield 23, 3) := by decide +kernel
theorem dX5_copyFrom_30 : decode cX5_copyFrom 30 = .ok (.return_, 1) := by decide +kernel
theorem dX6_init_0 : decode cX6_init 0 = .ok (.aload_n 0, 1) := by decide +kernel
theorem dX6_init_1 : decode cX6_init 1 = .ok (.invokespecial 3, 3) := by decide +kernel
theorem dX6_init_4 : decode cX6_init 4 = .ok (.aload_n 0, 1) := by decide +kernel
theorem dX6_init_5 : decode cX6_init 5 = .ok (.new 9, 3) := by decide +kernel
theorem dX6_init_8 : decode cX6_init 8 = .ok (.dup, 1) := by decide +kernel
theorem dX6_init_9 : decode cX6_init 9 = .ok (.bipush 49, 2) := by decide +kernel
theorem dX6_init_11 : decode cX6_init 11 = .ok (.invokespecial 11, 3) := by decide +kernel
theorem dX6_init_14 : decode cX6_init 14 = .ok (.putfield 14, 3) := by decide +kernel
theorem dX6_init_17 : decode cX6_init 17 = .ok (.aload_n 0, 1) := by decide +kernel
theorem dX6_init_18 : decode cX6_init 18 = .ok (.new 9, 3) := by decide +kernel
theorem dX6_init_21 : decode cX6_init 21 = .ok (.dup, 1) := by decide +kernel
theorem dX6_init_22 : decode cX6_init 22 = .ok (.bipush 49, 2) := by decide +kernel
theorem dX6_init_24 : decode cX6_init 24 = .ok (.invokespecial 11, 3) := by decide +kernel
theorem dX6_init_27 : decode cX6_init 27 = .ok (.putfield 20, 3) := by decide +kernel
theorem dX6_init_30 : decode cX6_init 30 = .ok (.aload_n 0, 1) := by decide +kernel
theorem dX6_init_31 : decode cX6_init 31 = .ok (.new 9, 3) := by decide +kernel
theorem dX6_init_34 : decode cX6_init 34 = .ok (.dup, 1) := by decide +kernel
theorem dX6_init_35 : decode cX6_init 35 = .ok (.bipush 49, 2) := by decide +kernel
theorem dX6_init_37 : decode cX6_init 37 = .ok (.invokespecial 11, 3) := by decide +kernel
theorem dX6_init_40 : decode cX6_init 40 = .ok (.putfield 23, 3) := by decide +kernel
theorem dX6_init_43 : decode cX6_init 43 = .ok (.aload_n 0, 1) := by decide +kernel
theorem dX6_init_44 : decode cX6_init 44 = .ok (.iconst (-1), 1) := by decide +kernel
theorem dX6_init_45 : decode cX6_init 45 = .ok (.iconst 0, 1) := by decide +kernel
theorem dX6_init_46 : decode cX6_init 46 = .ok (.invokevirtual 26, 3) := by decide +kernel
theorem dX6_init_49 : decode cX6_init 49 = .ok (.pop, 1) := by decide +kernel
theorem dX6_init_50 : decode cX6_init 50 = .ok (.return_, 1) := by decide +kernel
theorem dX6_empty_0 : decode cX6_empty 0 = .ok (.aload_n 0, 1) := by decide +kernel
theorem dX6_empty_1 : decode cX6_empty 1 = .ok (.getfield 14, 3) := by decide +kernel
theorem dX6_empty_4 : decode cX6_empty 4 = .ok (.invokevirtual 30, 3) := by decide +kernel
theorem dX6_empty_7 : decode cX6_empty 7 = .ok (.aload_n 0, 1) := by decide +kernel
theorem dX6_empty_8 : decode cX6_empty 8 = .ok (.getfield 20, 3) := by decide +kernel
theorem dX6_empty_11 : decode cX6_empty 11 = .ok (.invokevirtual 30, 3) := by decide +kernel
theorem dX6_empty_14 : decode cX6_empty 14 = .ok (.aload_n 0, 1) := by decide +kernel
theorem dX6_empty_15 : decode cX6_empty 15 = .ok (.getfield 23, 3) := by decide +kernel
theorem dX6_empty_18 : decode cX6_empty 18 = .ok (.invokevirtual 30, 3) := by decide +kernel
theorem dX6_empty_21 : decode cX6_empty 21 = .ok (.aload_n 0, 1) := by decide +kernel
theorem dX6_empty_22 : decode cX6_empty 22 = .ok (.iconst (-1), 1) := by decide +kernel
theorem dX6_empty_23 : decode cX6_empty 23 = .ok (.iconst 0, 1) := by decide +kernel
theorem dX6_empty_24 : decode cX6_empty 24 = .ok (.invokevirtual 26, 3) := by decide +kernel
theorem dX6_empty_27 : decode cX6_empty 27 = .ok (.pop, 1) := by decide +kernel
theorem dX6_empty_28 : decode cX6_empty 28 = .ok (.return_, 1) := by decide +kernel
theorem dX6_add_0 : decode cX6_add 0 = .ok (.iconst 0, 1) := by decide +kernel
theorem dX6_add_1 : decode cX6_add 1 = .ok (.istore_n 3, 1) := by decide +kernel
theorem dX6_add_2 : decode cX6_add 2 = .ok (.aload_n 1, 1) := by decide +kernel
theorem dX6_add_3 : decode cX6_add 3 = .ok (.invokevirtual 33, 3) := by decide +kernel
theorem dX6_add_6 : decode cX6_add 6 = .ok (.iconst 1, 1) := by decide +kernel
theorem dX6_add_7 : decode cX6_add 7 = .ok (.isub, 1) := by decide +kernel
theorem dX6_add_8 : decode cX6_add 8 = .ok (.istore 4, 2) := by decide +kernel
theorem dX6_add_10 : decode cX6_add 10 = .ok (.iload 4, 2) := by decide +kernel
theorem dX6_add_12 : decode cX6_add 12 = .ok (.ifCond .lt 45, 3) := by decide +kernel
theorem dX6_add_15 : decode cX6_add 15 = .ok (.aload_n 0, 1) := by decide +kernel
theorem dX6_add_16 : decode cX6_add 16 = .ok (.iload_n 3, 1) := by decide +kernel
theorem dX6_add_17 : decode cX6_add 17 = .ok (.aload_n 1, 1) := by decide +kernel
theorem dX6_add_18 : decode cX6_add 18 = .ok (.iload 4, 2) := by decide +kernel
theorem dX6_add_20 : decode cX6_add 20 = .ok (.invokevirtual 37, 3) := by decide +kernel
theorem dX6_add_23 : decode cX6_add 23 = .ok (.invokevirtual 41, 3) := by decide +kernel
theorem dX6_add_26 : decode cX6_add 26 = .ok (.istore 5, 2) := by decide +kernel
theorem dX6_add_28 : decode cX6_add 28 = .ok (.iload 5, 2) := by decide +kernel
theorem dX6_add_30 : decode cX6_add 30 = .ok (.iconst (-1), 1) := by decide +kernel
theorem dX6_add_31 : decode cX6_add 31 = .ok (.if_icmp .ne 17, 3) := by decide +kernel
theorem dX6_add_34 : decode cX6_add 34 = .ok (.aload_n 0, 1) := by decide +kernel
theorem dX6_add_35 : decode cX6_add 35 = .ok (.iload_n 3, 1) := by decide +kernel
theorem dX6_add_36 : decode cX6_add 36 = .ok (.aload_n 1, 1) := by decide +kernel
theorem dX6_add_37 : decode cX6_add 37 = .ok (.iload 4, 2) := by decide +kernel
theorem dX6_add_39 : decode cX6_add 39 = .ok (.invokevirtual 37, 3) := by decide +kernel
theorem dX6_add_42 : decode cX6_add 42 = .ok (.invokevirtual 26, 3) := by decide +kernel
theorem dX6_add_45 : decode cX6_add 45 = .ok (.goto 5, 3) := by decide +kernel
theorem dX6_add_48 : decode cX6_add 48 = .ok (.iload 5, 2) := by decide +kernel
theorem dX6_add_50 : decode cX6_add 50 = .ok (.istore_n 3, 1) := by decide +kernel
theorem dX6_add_51 : decode cX6_add 51 = .ok (.iinc 4 (-1), 3) := by decide +kernel
theorem dX6_add_54 : decode cX6_add 54 = .ok (.goto (-44), 3) := by decide +kernel
theorem dX6_add_57 : decode cX6_add 57 = .ok (.aload_n 0, 1) := by decide +kernel
theorem dX6_add_58 : decode cX6_add 58 = .ok (.getfield 23, 3) := by decide +kernel
theorem dX6_add_61 : decode cX6_add 61 = .ok (.iload_n 3, 1) := by decide +kernel
theorem dX6_add_62 : decode cX6_add 62 = .ok (.aload_n 0, 1) := by decide +kernel
theorem dX6_add_63 : decode cX6_add 63 = .ok (.getfield 23, 3) := by decide +kernel
theorem dX6_add_66 : decode cX6_add 66 = .ok (.iload_n 3, 1) := by decide +kernel
theorem dX6_add_67 : decode cX6_add 67 = .ok (.invokevirtual 37, 3) := by decide +kernel
theorem dX6_add_70 : decode cX6_add 70 = .ok (.iconst 1, 1) := by decide +kernel
theorem dX6_add_71 : decode cX6_add 71 = .ok (.iload_n 2, 1) := by decide +kernel
theorem dX6_add_72 : decode cX6_add 72 = .ok (.ishl, 1) := by decide +kernel
theorem dX6_add_73 : decode cX6_add 73 = .ok (.ior, 1) := by decide +kernel
theorem dX6_add_74 : decode cX6_add 74 = .ok (.invokevirtual 44, 3) := by decide +kernel
theorem dX6_add_77 : decode cX6_add 77 = .ok (.return_, 1) := by decide +kernel
theorem dX6_childOf_0 : decode cX6_childOf 0 = .ok (.iconst 1, 1) := by decide +kernel
theorem dX6_childOf_1 : decode cX6_childOf 1 = .ok (.istore_n 3, 1) := by decide +kernel
theorem dX6_childOf_2 : decode cX6_childOf 2 = .ok (.iload_n 3, 1) := by decide +kernel
theorem dX6_childOf_3 : decode cX6_childOf 3 = .ok (.aload_n 0, 1) := by decide +kernel
theorem dX6_childOf_4 : decode cX6_childOf 4 = .ok (.getfield 14, 3) := by decide +kernel
theorem dX6_childOf_7 : decode cX6_childOf 7 = .ok (.invokevirtual 33, 3) := by decide +kernel
theorem dX6_childOf_10 : decode cX6_childOf 10 = .ok (.if_icmp .ge 35, 3) := by decide +kernel
theorem dX6_childOf_13 : decode cX6_childOf 13 = .ok (.aload_n 0, 1) := by decide +kernel
theorem dX6_childOf_14 : decode cX6_childOf 14 = .ok (.getfield 14, 3) := by decide +kernel
theorem dX6_childOf_17 : decode cX6_childOf 17 = .ok (.iload_n 3, 1) := by decide +kernel
theorem dX6_childOf_18 : decode cX6_childOf 18 = .ok (.invokevirtual 37, 3) := by decide +kernel
theorem dX6_childOf_21 : decode cX6_childOf 21 = .ok (.iload_n 1, 1) := by decide +kernel
theorem dX6_childOf_22 : decode cX6_childOf 22 = .ok (.if_icmp .ne 17, 3) := by decide +kernel
theorem dX6_childOf_25 : decode cX6_childOf 25 = .ok (.aload_n 0, 1) := by decide +kernel
theorem dX6_childOf_26 : decode cX6_childOf 26 = .ok (.getfield 20, 3) := by decide +kernel
theorem dX6_childOf_29 : decode cX6_childOf 29 = .ok (.iload_n 3, 1) := by decide +kernel
theorem dX6_childOf_30 : decode cX6_childOf 30 = .ok (.invokevirtual 37, 3) := by decide +kernel
theorem dX6_childOf_33 : decode cX6_childOf 33 = .ok (.iload_n 2, 1) := by decide +kernel
theorem dX6_childOf_34 : decode cX6_childOf 34 = .ok (.if_icmp .ne 5, 3) := by decide +kernel
theorem dX6_childOf_37 : decode cX6_childOf 37 = .ok (.iload_n 3, 1) := by decide +kernel
theorem dX6_childOf_38 : decode cX6_childOf 38 = .ok (.ireturn, 1) := by decide +kernel
theorem dX6_childOf_39 : decode cX6_childOf 39 = .ok (.iinc 3 1, 3) := by decide +kernel
theorem dX6_childOf_42 : decode cX6_childOf 42 = .ok (.goto (-40), 3) := by decide +kernel
theorem dX6_childOf_45 : decode cX6_childOf 45 = .ok (.iconst (-1), 1) := by decide +kernel
theorem dX6_childOf_46 : decode cX6_childOf 46 = .ok (.ireturn, 1) := by decide +kernel
theorem dX6_endingsAt_0 : decode cX6_endingsAt 0 = .ok (.aload_n 0, 1) := by decide +kernel
theorem dX6_endingsAt_1 : decode cX6_endingsAt 1 = .ok (.getfield 23, 3) := by decide +kernel
theorem dX6_endingsAt_4 : decode cX6_endingsAt 4 = .ok (.iload_n 1, 1) := by decide +kernel
theorem dX6_endingsAt_5 : decode cX6_endingsAt 5 = .ok (.invokevirtual 37, 3) := by decide +kernel
theorem dX6_endingsAt_8 : decode cX6_endingsAt 8 = .ok (.ireturn, 1) := by decide +kernel
theorem dX6_addNode_0 : decode cX6_addNode 0 = .ok (.aload_n 0, 1) := by decide +kernel
theorem dX6_addNode_1 : decode cX6_addNode 1 = .ok (.getfield 14, 3) := by decide +kernel
theorem dX6_addNode_4 : decode cX6_addNode 4 = .ok (.iload_n 1, 1) := by decide +kernel
theorem dX6_addNode_5 : decode cX6_addNode 5 = .ok (.invokevirtual 48, 3) := by decide +kernel
theorem dX6_addNode_8 : decode cX6_addNode 8 = .ok (.aload_n 0, 1) := by decide +kernel
theorem dX6_addNode_9 : decode cX6_addNode 9 = .ok (.getfield 20, 3) := by decide +kernel
theorem dX6_addNode_12 : decode cX6_addNode 12 = .ok (.iload_n 2, 1) := by decide +kernel
theorem dX6_addNode_13 : decode cX6_addNode 13 = .ok (.invokevirtual 48, 3) := by decide +kernel
theorem dX6_addNode_16 : decode cX6_addNode 16 = .ok (.aload_n 0, 1) := by decide +kernel
theorem dX6_addNode_17 : decode cX6_addNode 17 = .ok (.getfield 23, 3) := by decide +kernel
theorem dX6_addNode_20 : decode cX6_addNode 20 = .ok (.iconst 0, 1) := by decide +kernel
theorem dX6_addNode_21 : decode cX6_addNode 21 = .ok (.invokevirtual 48, 3) := by decide +kernel
theorem dX6_addNode_24 : decode cX6_addNode 24 = .ok (.aload_n 0, 1) := by decide +kernel
theorem dX6_addNode_25 : decode cX6_addNode 25 = .ok (.getfield 14, 3) := by decide +kernel
theorem dX6_addNode_28 : decode cX6_addNode 28 = .ok (.invokevirtual 33, 3) := by decide +kernel
theorem dX6_addNode_31 : decode cX6_addNode 31 = .ok (.iconst 1, 1) := by decide +kernel
theorem dX6_addNode_32 : decode cX6_addNode 32 = .ok (.isub, 1) := by decide +kernel
theorem dX6_addNode_33 : decode cX6_addNode 33 = .ok (.ireturn, 1) := by decide +kernel
theorem dJ9_floorMod_7cf53_0 : decode cJ9_floorMod_7cf53 0 = .ok (.iload_n 0, 1) := by decide +kernel
theorem dJ9_floorMod_7cf53_1 : decode cJ9_floorMod_7cf53 1 = .ok (.iload_n 1, 1) := by decide +kernel
theorem dJ9_floorMod_7cf53_2 : decode cJ9_floorMod_7cf53 2 = .ok (.irem, 1) := by decide +kernel
theorem dJ9_floorMod_7cf53_3 : decode cJ9_floorMod_7cf53 3 = .ok (.istore_n 2, 1) := by decide +kernel
theorem dJ9_floorMod_7cf53_4 : decode cJ9_floorMod_7cf53 4 = .ok (.iload_n 0, 1) := by decide +kernel
theorem dJ9_floorMod_7cf53_5 : decode cJ9_floorMod_7cf53 5 = .ok (.iload_n 1, 1) := by decide +kernel
theorem dJ9_floorMod_7cf53_6 : decode cJ9_floorMod_7cf53 6 = .ok (.ixor, 1) := by decide +kernel
theorem dJ9_floorMod_7cf53_7 : decode cJ9_floorMod_7cf53 7 = .ok (.ifCond .ge 11, 3) := by decide +kernel
theorem dJ9_floorMod_7cf53_10 : decode cJ9_floorMod_7cf53 10 = .ok (.iload_n 2, 1) := by decide +kernel
theorem dJ9_floorMod_7cf53_11 : decode cJ9_floorMod_7cf53 11 = .ok (.ifCond .eq 7, 3) := by decide +kernel
theorem dJ9_floorMod_7cf53_14 : decode cJ9_floorMod_7cf53 14 = .ok (.iload_n 2, 1) := by decide +kernel
theorem dJ9_floorMod_7cf53_15 : decode cJ9_floorMod_7cf53 15 = .ok (.iload_n 1, 1) := by decide +kernel
theorem dJ9_floorMod_7cf53_16 : decode cJ9_floorMod_7cf53 16 = .ok (.iadd, 1) := by decide +kernel
theorem dJ9_floorMod_7cf53_17 : decode cJ9_floorMod_7cf53 17 = .ok (.ireturn, 1) := by decide +kernel
theorem dJ9_floorMod_7cf53_18 : decode cJ9_floorMod_7cf53 18 = .ok (.iload_n 2, 1) := by decide +kernel
theorem dJ9_floorMod_7cf53_19 : decode cJ9_floorMod_7cf53 19 = .ok (.ireturn, 1) := by decide +kernel
theorem dJ9_max_7cf53_0 : decode cJ9_max_7cf53 0 = .ok (.iload_n 0, 1) := by decide +kernel
theorem dJ9_max_7cf53_1 : decode cJ9_max_7cf53 1 = .ok (.iload_n 1, 1) := by decide +kernel
theorem dJ9_max_7cf53_2 : decode cJ9_max_7cf53 2 = .ok (.if_icmp .lt 7, 3) := by decide +kernel
theorem dJ9_max_7cf53_5 : decode cJ9_max_7cf53 5 = .ok (.iload_n 0, 1) := by decide +kernel
theorem dJ9_max_7cf53_6 : decode cJ9_max_7cf53 6 = .ok (.goto 4, 3) := by decide +kernel
theorem dJ9_max_7cf53_9 : decode cJ9_max_7cf53 9 = .ok (.iload_n 1, 1) := by decide +kernel
theorem dJ9_max_7cf53_10 : decode cJ9_max_7cf53 10 = .ok (.ireturn, 1) := by decide +kernel
theorem dJ9_min_7cf53_0 : decode cJ9_min_7cf53 0 = .ok (.iload_n 0, 1) := by decide +kernel
theorem dJ9_min_7cf53_1 : decode cJ9_min_7cf53 1 = .ok (.iload_n 1, 1) := by decide +kernel
theorem dJ9_min_7cf53_2 : decode cJ9_min_7cf53 2 = .ok (.if_icmp .gt 7, 3) := by decide +kernel
theorem dJ9_min_7cf53_5 : decode cJ9_min_7cf53 5 = .ok (.iload_n 0, 1) := by decide +kernel
theorem dJ9_min_7cf53_6 : decode cJ9_min_7cf53 6 = .ok (.goto 4, 3) := by decide +kernel
theorem dJ9_min_7cf53_9 : decode cJ9_min_7cf53 9 = .ok (.iload_n 1, 1) := by decide +kernel
theorem dJ9_min_7cf53_10 : decode cJ9_min_7cf53 10 = .ok (.ireturn, 1) := by decide +kernel
theorem dJ0_length_8abf5_0 : decode cJ0_length_8abf5 0 = .ok (.aload_n 0, 1) := by decide +kernel
theorem dJ0_length_8abf5_1 : decode cJ0_length_8abf5 1 = .ok (.getfield 9, 3) := by decide +kernel
theorem dJ0_length_8abf5_4 : decode cJ0_length_8abf5 4 = .ok (.arraylength, 1) := by decide +kernel
theorem dJ0_length_8abf5_5 : decode cJ0_length_8abf5 5 = .ok (.aload_n 0, 1) := by decide +kernel
theorem dJ0_length_8abf5_6 : decode cJ0_length_8abf5 6 = .ok (.invokevirtual 335, 3) := by decide +kernel
theorem dJ0_length_8abf5_9 : decode cJ0_length_8abf5 9 = .ok (.ishr, 1) := by decide +kernel
theorem dJ0_length_8abf5_10 : decode cJ0_length_8abf5 10 = .ok (.ireturn, 1) := by decide +kernel
theorem dJ0_charAt_5068e_0 : decode cJ0_charAt_5068e 0 = .ok (.aload_n 0, 1) := by decide +kernel
theorem dJ0_charAt_5068e_1 : decode cJ0_charAt_5068e 1 = .ok (.invokevirtual 492, 3) := by decide +kernel
theorem dJ0_charAt_5068e_4 : decode cJ0_charAt_5068e 4 = .ok (.ifCond .eq 12, 3) := by decide +kernel
theorem dJ0_charAt_5068e_7 : decode cJ0_charAt_5068e 7 = .ok (.aload_n 0, 1) := by decide +kernel
theorem dJ0_charAt_5068e_8 : decode cJ0_charAt_5068e 8 = .ok (.getfield 9, 3) := by decide +kernel
theorem dJ0_charAt_5068e_11 : decode cJ0_charAt_5068e 11 = .ok (.iload_n 1, 1) := by decide +kernel
theorem dJ0_charAt_5068e_12 : decode cJ0_charAt_5068e 12 = .ok (.invokestatic 495, 3) := by decide +kernel
theorem dJ0_charAt_5068e_15 : decode cJ0_charAt_5068e 15 = .ok (.ireturn, 1) := by decide +kernel
theorem dJ0_charAt_5068e_16 : decode cJ0_charAt_5068e 16 = .ok (.aload_n 0, 1) := by decide +kernel
theorem dJ0_charAt_5068e_17 : decode cJ0_charAt_5068e 17 = .ok (.getfield 9, 3) := by decide +kernel
theorem dJ0_charAt_5068e_20 : decode cJ0_charAt_5068e 20 = .ok (.iload_n 1, 1) := by decide +kernel
theorem dJ0_charAt_5068e_21 : decode cJ0_charAt_5068e 21 = .ok (.invokestatic 498, 3) := by decide +kernel
theorem dJ0_charAt_5068e_24 : decode cJ0_charAt_5068e 24 = .ok (.ireturn, 1) := by decide +kernel
theorem dJ0_coder_7d493_0 : decode cJ0_coder_7d493 0 = .ok (.getstatic 38, 3) := by decide +kernel
theorem dJ0_coder_7d493_3 : decode cJ0_coder_7d493 3 = .ok (.ifCond .eq 10, 3) := by decide +kernel
theorem dJ0_coder_7d493_6 : decode cJ0_coder_7d493 6 = .ok (.aload_n 0, 1) := by decide +kernel
theorem dJ0_coder_7d493_7 : decode cJ0_coder_7d493 7 = .ok (.getfield 15, 3) := by decide +kernel
theorem dJ0_coder_7d493_10 : decode cJ0_coder_7d493 10 = .ok (.goto 4, 3) := by decide +kernel
theorem dJ0_coder_7d493_13 : decode cJ0_coder_7d493 13 = .ok (.iconst 1, 1) := by decide +kernel
theorem dJ0_coder_7d493_14 : decode cJ0_coder_7d493 14 = .ok (.ireturn, 1) := by decide +kernel
theorem dJ0_isLatin1_aae02_0 : decode cJ0_isLatin1_aae02 0 = .ok (.getstatic 38, 3) := by decide +kernel
theorem dJ0_isLatin1_aae02_3 : decode cJ0_isLatin1_aae02 3 = .ok (.ifCond .eq 14, 3) := by decide +kernel
theorem dJ0_isLatin1_aae02_6 : decode cJ0_isLatin1_aae02 6 = .ok (.aload_n 0, 1) := by decide +kernel
theorem dJ0_isLatin1_aae02_7 : decode cJ0_isLatin1_aae02 7 = .ok (.getfield 15, 3) := by decide +kernel
theorem dJ0_isLatin1_aae02_10 : decode cJ0_isLatin1_aae02 10 = .ok (.ifCond .ne 7, 3) := by decide +kernel
theorem dJ0_isLatin1_aae02_13 : decode cJ0_isLatin1_aae02 13 = .ok (.iconst 1, 1) := by decide +kernel
theorem dJ0_isLatin1_aae02_14 : decode cJ0_isLatin1_aae02 14 = .ok (.goto 4, 3) := by decide +kernel
theorem dJ0_isLatin1_aae02_17 : decode cJ0_isLatin1_aae02 17 = .ok (.iconst 0, 1) := by decide +kernel
theorem dJ0_isLatin1_aae02_18 : decode cJ0_isLatin1_aae02 18 = .ok (.ireturn, 1) := by decide +kernel
theorem dJ0_checkIndex_df160_0 : decode cJ0_checkIndex_df160 0 = .ok (.iload_n 0, 1) := by decide +kernel
theorem dJ0_checkIndex_df160_1 : decode cJ0_checkIndex_df160 1 = .ok (.iload_n 1, 1) := by decide +kernel
theorem dJ0_checkIndex_df160_2 : decode cJ0_checkIndex_df160 2 = .ok (.getstatic 1053, 3) := by decide +kernel
theorem dJ0_checkIndex_df160_5 : decode cJ0_checkIndex_df160 5 = .ok (.invokestatic 1059, 3) := by decide +kernel
theorem dJ0_checkIndex_df160_8 : decode cJ0_checkIndex_df160 8 = .ok (.pop, 1) := by decide +kernel
theorem dJ0_checkIndex_df160_9 : decode cJ0_checkIndex_df160 9 = .ok (.return_, 1) := by decide +kernel
theorem dJ1_charAt_3b067_0 : decode cJ1_charAt_3b067 0 = .ok (.iload_n 1, 1) := by decide +kernel
theorem dJ1_charAt_3b067_1 : decode cJ1_charAt_3b067 1 = .ok (.aload_n 0, 1) := by decide +kernel
theorem dJ1_charAt_3b067_2 : decode cJ1_charAt_3b067 2 = .ok (.arraylength, 1) := by decide +kernel
theorem dJ1_charAt_3b067_3 : decode cJ1_charAt_3b067 3 = .ok (.invokestatic 9, 3) := by decide +kernel
theorem dJ1_charAt_3b067_6 : decode cJ1_charAt_3b067 6 = .ok (.aload_n 0, 1) := by decide +kernel
theorem dJ1_charAt_3b067_7 : decode cJ1_charAt_3b067 7 = .ok (.iload_n 1, 1) := by decide +kernel
theorem dJ1_charAt_3b067_8 : decode cJ1_charAt_3b067 8 = .ok (.baload, 1) := by decide +kernel
theorem dJ1_charAt_3b067_9 : decode cJ1_charAt_3b067 9 = .ok (.sipush 255, 3) := by decide +kernel
theorem dJ1_charAt_3b067_12 : decode cJ1_charAt_3b067 12 = .ok (.iand, 1) := by decide +kernel
theorem dJ1_charAt_3b067_13 : decode cJ1_charAt_3b067 13 = .ok (.i2c, 1) := by decide +kernel
theorem dJ1_charAt_3b067_14 : decode cJ1_charAt_3b067 14 = .ok (.ireturn, 1) := by decide +kernel
theorem dJ2_getChar_3b067_0 : decode cJ2_getChar_3b067 0 = .ok (.getstatic 44, 3) := by decide +kernel
theorem dJ2_getChar_3b067_3 : decode cJ2_getChar_3b067 3 = .ok (.ifCond .ne 25, 3) := by decide +kernel
theorem dJ2_getChar_3b067_6 : decode cJ2_getChar_3b067 6 = .ok (.iload_n 1, 1) := by decide +kernel
theorem dJ2_getChar_3b067_7 : decode cJ2_getChar_3b067 7 = .ok (.ifCond .lt 11, 3) := by decide +kernel
theorem dJ2_getChar_3b067_10 : decode cJ2_getChar_3b067 10 = .ok (.iload_n 1, 1) := by decide +kernel
theorem dJ2_getChar_3b067_11 : decode cJ2_getChar_3b067 11 = .ok (.aload_n 0, 1) := by decide +kernel
theorem dJ2_getChar_3b067_12 : decode cJ2_getChar_3b067 12 = .ok (.invokestatic 48, 3) := by decide +kernel
theorem dJ2_getChar_3b067_15 : decode cJ2_getChar_3b067 15 = .ok (.if_icmp .lt 13, 3) := by decide +kernel
theorem dJ2_getChar_3b067_18 : decode cJ2_getChar_3b067 18 = .ok (.new 52, 3) := by decide +kernel
theorem dJ2_getChar_3b067_21 : decode cJ2_getChar_3b067 21 = .ok (.dup, 1) := by decide +kernel
theorem dJ2_getChar_3b067_22 : decode cJ2_getChar_3b067 22 = .ok (.ldc 54, 2) := by decide +kernel
theorem dJ2_getChar_3b067_24 : decode cJ2_getChar_3b067 24 = .ok (.invokespecial 56, 3) := by decide +kernel
theorem dJ2_getChar_3b067_27 : decode cJ2_getChar_3b067 27 = .ok (.athrow, 1) := by decide +kernel
theorem dJ2_getChar_3b067_28 : decode cJ2_getChar_3b067 28 = .ok (.iload_n 1, 1) := by decide +kernel
theorem dJ2_getChar_3b067_29 : decode cJ2_getChar_3b067 29 = .ok (.iconst 1, 1) := by decide +kernel
theorem dJ2_getChar_3b067_30 : decode cJ2_getChar_3b067 30 = .ok (.ishl, 1) := by decide +kernel
theorem dJ2_getChar_3b067_31 : decode cJ2_getChar_3b067 31 = .ok (.istore_n 1, 1) := by decide +kernel
theorem dJ2_getChar_3b067_32 : decode cJ2_getChar_3b067 32 = .ok (.aload_n 0, 1) := by decide +kernel
theorem dJ2_getChar_3b067_33 : decode cJ2_getChar_3b067 33 = .ok (.iload_n 1, 1) := by decide +kernel
theorem dJ2_getChar_3b067_34 : decode cJ2_getChar_3b067 34 = .ok (.iinc 1 1, 3) := by decide +kernel
theorem dJ2_getChar_3b067_37 : decode cJ2_getChar_3b067 37 = .ok (.baload, 1) := by decide +kernel
theorem dJ2_getChar_3b067_38 : decode cJ2_getChar_3b067 38 = .ok (.sipush 255, 3) := by decide +kernel
theorem dJ2_getChar_3b067_41 : decode cJ2_getChar_3b067 41 = .ok (.iand, 1) := by decide +kernel
theorem dJ2_getChar_3b067_42 : decode cJ2_getChar_3b067 42 = .ok (.getstatic 59, 3) := by decide +kernel
theorem dJ2_getChar_3b067_45 : decode cJ2_getChar_3b067 45 = .ok (.ishl, 1) := by decide +kernel
theorem dJ2_getChar_3b067_46 : decode cJ2_getChar_3b067 46 = .ok (.aload_n 0, 1) := by decide +kernel
theorem dJ2_getChar_3b067_47 : decode cJ2_getChar_3b067 47 = .ok (.iload_n 1, 1) := by decide +kernel
theorem dJ2_getChar_3b067_48 : decode cJ2_getChar_3b067 48 = .ok (.baload, 1) := by decide +kernel
theorem dJ2_getChar_3b067_49 : decode cJ2_getChar_3b067 49 = .ok (.sipush 255, 3) := by decide +kernel
theorem dJ2_getChar_3b067_52 : decode cJ2_getChar_3b067 52 = .ok (.iand, 1) := by decide +kernel
theorem dJ2_getChar_3b067_53 : decode cJ2_getChar_3b067 53 = .ok (.getstatic 63, 3) := by decide +kernel
theorem dJ2_getChar_3b067_56 : decode cJ2_getChar_3b067 56 = .ok (.ishl, 1) := by decide +kernel
theorem dJ2_getChar_3b067_57 : decode cJ2_getChar_3b067 57 = .ok (.ior, 1) := by decide +kernel
theorem dJ2_getChar_3b067_58 : decode cJ2_getChar_3b067 58 = .ok (.i2c, 1) := by decide +kernel
theorem dJ2_getChar_3b067_59 : decode cJ2_getChar_3b067 59 = .ok (.ireturn, 1) := by decide +kernel
theorem dJ2_length_9d52b_0 : decode cJ2_length_9d52b 0 = .ok (.aload_n 0, 1) := by decide +kernel
theorem dJ2_length_9d52b_1 : decode cJ2_length_9d52b 1 = .ok (.arraylength, 1) := by decide +kernel
theorem dJ2_length_9d52b_2 : decode cJ2_length_9d52b 2 = .ok (.iconst 1, 1) := by decide +kernel
theorem dJ2_length_9d52b_3 : decode cJ2_length_9d52b 3 = .ok (.ishr, 1) := by decide +kernel
theorem dJ2_length_9d52b_4 : decode cJ2_length_9d52b 4 = .ok (.ireturn, 1) := by decide +kernel
theorem dJ2_charAt_3b067_0 : decode cJ2_charAt_3b067 0 = .ok (.iload_n 1, 1) := by decide +kernel
theorem dJ2_charAt_3b067_1 : decode cJ2_charAt_3b067 1 = .ok (.aload_n 0, 1) := by decide +kernel
theorem dJ2_charAt_3b067_2 : decode cJ2_charAt_3b067 2 = .ok (.invokestatic 67, 3) := by decide +kernel
theorem dJ2_charAt_3b067_5 : decode cJ2_charAt_3b067 5 = .ok (.aload_n 0, 1) := by decide +kernel
theorem dJ2_charAt_3b067_6 : decode cJ2_charAt_3b067 6 = .ok (.iload_n 1, 1) := by decide +kernel
theorem dJ2_charAt_3b067_7 : decode cJ2_charAt_3b067 7 = .ok (.invokestatic 71, 3) := by decide +kernel
theorem dJ2_charAt_3b067_10 : decode cJ2_charAt_3b067 10 = .ok (.ireturn, 1) := by decide +kernel
theorem dJ2_checkIndex_2214a_0 : decode cJ2_checkIndex_2214a 0 = .ok (.iload_n 0, 1) := by decide +kernel
theorem dJ2_checkIndex_2214a_1 : decode cJ2_checkIndex_2214a 1 = .ok (.aload_n 1, 1) := by decide +kernel
theorem dJ2_checkIndex_2214a_2 : decode cJ2_checkIndex_2214a 2 = .ok (.invokestatic 48, 3) := by decide +kernel
theorem dJ2_checkIndex_2214a_5 : decode cJ2_checkIndex_2214a 5 = .ok (.invokestatic 414, 3) := by decide +kernel
theorem dJ2_checkIndex_2214a_8 : decode cJ2_checkIndex_2214a 8 = .ok (.return_, 1) := by decide +kernel
theorem dJxa1e45_init_da8c8_0 : decode cJxa1e45_init_da8c8 0 = .ok (.aload_n 0, 1) := by decide +kernel
theorem dJxa1e45_init_da8c8_1 : decode cJxa1e45_init_da8c8 1 = .ok (.invokespecial 1, 3) := by decide +kernel
theorem dJxa1e45_init_da8c8_4 : decode cJxa1e45_init_da8c8 4 = .ok (.return_, 1) := by decide +kernel
theorem dJxc12de_init_da8c8_0 : decode cJxc12de_init_da8c8 0 = .ok (.aload_n 0, 1) := by decide +kernel
theorem dJxc12de_init_da8c8_1 : decode cJxc12de_init_da8c8 1 = .ok (.invokespecial 1, 3) := by decide +kernel
theorem dJxc12de_init_da8c8_4 : decode cJxc12de_init_da8c8 4 = .ok (.aload_n 0, 1) := by decide +kernel
theorem dJxc12de_init_da8c8_5 : decode cJxc12de_init_da8c8 5 = .ok (.iconst 0, 1) := by decide +kernel
theorem dJxc12de_init_da8c8_6 : decode cJxc12de_init_da8c8 6 = .ok (.putfield 7, 3) := by decide +kernel
theorem dJxc12de_init_da8c8_9 : decode cJxc12de_init_da8c8 9 = .ok (.return_, 1) := by decide +kernel
theorem dJx4a65c_init_da8c8_0 : decode cJx4a65c_init_da8c8 0 = .ok (.aload_n 0, 1) := by decide +kernel
theorem dJx4a65c_init_da8c8_1 : decode cJx4a65c_init_da8c8 1 = .ok (.invokespecial 1, 3) := by decide +kernel
theorem dJx4a65c_init_da8c8_4 : decode cJx4a65c_init_da8c8 4 = .ok (.aload_n 0, 1) := by decide +kernel
theorem dJx4a65c_init_da8c8_5 : decode cJx4a65c_init_da8c8 5 = .ok (.getstatic 39, 3) := by decide +kernel
theorem dJx4a65c_init_da8c8_8 : decode cJx4a65c_init_da8c8 8 = .ok (.putfield 9, 3) := by decide +kernel
theorem dJx4a65c_init_da8c8_11 : decode cJx4a65c_init_da8c8 11 = .ok (.return_, 1) := by decide +kernel
theorem dJx4a65c_grow_92f84_0 : decode cJx4a65c_grow_92f84 0 = .ok (.aload_n 0, 1) := by decide +kernel
theorem dJx4a65c_grow_92f84_1 : decode cJx4a65c_grow_92f84 1 = .ok (.getfield 9, 3) := by decide +kernel
theorem dJx4a65c_grow_92f84_4 : decode cJx4a65c_grow_92f84 4 = .ok (.arraylength, 1) := by decide +kernel
theorem dJx4a65c_grow_92f84_5 : decode cJx4a65c_grow_92f84 5 = .ok (.istore_n 2, 1) := by decide +kernel
theorem dJx4a65c_grow_92f84_6 : decode cJx4a65c_grow_92f84 6 = .ok (.iload_n 2, 1) := by decide +kernel
theorem dJx4a65c_grow_92f84_7 : decode cJx4a65c_grow_92f84 7 = .ok (.ifCond .gt 13, 3) := by decide +kernel
theorem dJx4a65c_grow_92f84_10 : decode cJx4a65c_grow_92f84 10 = .ok (.aload_n 0, 1) := by decide +kernel
theorem dJx4a65c_grow_92f84_11 : decode cJx4a65c_grow_92f84 11 = .ok (.getfield 9, 3) := by decide +kernel
theorem dJx4a65c_grow_92f84_14 : decode cJx4a65c_grow_92f84 14 = .ok (.getstatic 39, 3) := by decide +kernel
theorem dJx4a65c_grow_92f84_17 : decode cJx4a65c_grow_92f84 17 = .ok (.if_acmp .eq 28, 3) := by decide +kernel
theorem dJx4a65c_grow_92f84_20 : decode cJx4a65c_grow_92f84 20 = .ok (.iload_n 2, 1) := by decide +kernel
theorem dJx4a65c_grow_92f84_21 : decode cJx4a65c_grow_92f84 21 = .ok (.iload_n 1, 1) := by decide +kernel
theorem dJx4a65c_grow_92f84_22 : decode cJx4a65c_grow_92f84 22 = .ok (.iload_n 2, 1) := by decide +kernel
theorem dJx4a65c_grow_92f84_23 : decode cJx4a65c_grow_92f84 23 = .ok (.isub, 1) := by decide +kernel
theorem dJx4a65c_grow_92f84_24 : decode cJx4a65c_grow_92f84 24 = .ok (.iload_n 2, 1) := by decide +kernel
theorem dJx4a65c_grow_92f84_25 : decode cJx4a65c_grow_92f84 25 = .ok (.iconst 1, 1) := by decide +kernel
theorem dJx4a65c_grow_92f84_26 : decode cJx4a65c_grow_92f84 26 = .ok (.ishr, 1) := by decide +kernel
theorem dJx4a65c_grow_92f84_27 : decode cJx4a65c_grow_92f84 27 = .ok (.invokestatic 73, 3) := by decide +kernel
theorem dJx4a65c_grow_92f84_30 : decode cJx4a65c_grow_92f84 30 = .ok (.istore_n 3, 1) := by decide +kernel
theorem dJx4a65c_grow_92f84_31 : decode cJx4a65c_grow_92f84 31 = .ok (.aload_n 0, 1) := by decide +kernel
theorem dJx4a65c_grow_92f84_32 : decode cJx4a65c_grow_92f84 32 = .ok (.aload_n 0, 1) := by decide +kernel
theorem dJx4a65c_grow_92f84_33 : decode cJx4a65c_grow_92f84 33 = .ok (.getfield 9, 3) := by decide +kernel
theorem dJx4a65c_grow_92f84_36 : decode cJx4a65c_grow_92f84 36 = .ok (.iload_n 3, 1) := by decide +kernel
theorem dJx4a65c_grow_92f84_37 : decode cJx4a65c_grow_92f84 37 = .ok (.invokestatic 66, 3) := by decide +kernel
theorem dJx4a65c_grow_92f84_40 : decode cJx4a65c_grow_92f84 40 = .ok (.dup_x1, 1) := by decide +kernel
theorem dJx4a65c_grow_92f84_41 : decode cJx4a65c_grow_92f84 41 = .ok (.putfield 9, 3) := by decide +kernel
theorem dJx4a65c_grow_92f84_44 : decode cJx4a65c_grow_92f84 44 = .ok (.areturn, 1) := by decide +kernel
theorem dJx4a65c_grow_92f84_45 : decode cJx4a65c_grow_92f84 45 = .ok (.aload_n 0, 1) := by decide +kernel
theorem dJx4a65c_grow_92f84_46 : decode cJx4a65c_grow_92f84 46 = .ok (.bipush 10, 2) := by decide +kernel
theorem dJx4a65c_grow_92f84_48 : decode cJx4a65c_grow_92f84 48 = .ok (.iload_n 1, 1) := by decide +kernel
theorem dJx4a65c_grow_92f84_49 : decode cJx4a65c_grow_92f84 49 = .ok (.invokestatic 79, 3) := by decide +kernel
theorem dJx4a65c_grow_92f84_52 : decode cJx4a65c_grow_92f84 52 = .ok (.anewarray 7, 3) := by decide +kernel
theorem dJx4a65c_grow_92f84_55 : decode cJx4a65c_grow_92f84 55 = .ok (.dup_x1, 1) := by decide +kernel
theorem dJx4a65c_grow_92f84_56 : decode cJx4a65c_grow_92f84 56 = .ok (.putfield 9, 3) := by decide +kernel
theorem dJx4a65c_grow_92f84_59 : decode cJx4a65c_grow_92f84 59 = .ok (.areturn, 1) := by decide +kernel
theorem dJx4a65c_grow_d5877_0 : decode cJx4a65c_grow_d5877 0 = .ok (.aload_n 0, 1) := by decide +kernel
theorem dJx4a65c_grow_d5877_1 : decode cJx4a65c_grow_d5877 1 = .ok (.aload_n 0, 1) := by decide +kernel
theorem dJx4a65c_grow_d5877_2 : decode cJx4a65c_grow_d5877 2 = .ok (.getfield 48, 3) := by decide +kernel
theorem dJx4a65c_grow_d5877_5 : decode cJx4a65c_grow_d5877 5 = .ok (.iconst 1, 1) := by decide +kernel
theorem dJx4a65c_grow_d5877_6 : decode cJx4a65c_grow_d5877 6 = .ok (.iadd, 1) := by decide +kernel
theorem dJx4a65c_grow_d5877_7 : decode cJx4a65c_grow_d5877 7 = .ok (.invokevirtual 69, 3) := by decide +kernel
theorem dJx4a65c_grow_d5877_10 : decode cJx4a65c_grow_d5877 10 = .ok (.areturn, 1) := by decide +kernel
theorem dJx4a65c_size_8abf5_0 : decode cJx4a65c_size_8abf5 0 = .ok (.aload_n 0, 1) := by decide +kernel
theorem dJx4a65c_size_8abf5_1 : decode cJx4a65c_size_8abf5 1 = .ok (.getfield 48, 3) := by decide +kernel
theorem dJx4a65c_size_8abf5_4 : decode cJx4a65c_size_8abf5 4 = .ok (.ireturn, 1) := by decide +kernel
theorem dJx4a65c_elementData_915e3_0 : decode cJx4a65c_elementData_915e3 0 = .ok (.aload_n 0, 1) := by decide +kernel
theorem dJx4a65c_elementData_915e3_1 : decode cJx4a65c_elementData_915e3 1 = .ok (.getfield 9, 3) := by decide +kernel
theorem dJx4a65c_elementData_915e3_4 : decode cJx4a65c_elementData_915e3 4 = .ok (.iload_n 1, 1) := by decide +kernel
theorem dJx4a65c_elementData_915e3_5 : decode cJx4a65c_elementData_915e3 5 = .ok (.aaload, 1) := by decide +kernel
theorem dJx4a65c_elementData_915e3_6 : decode cJx4a65c_elementData_915e3 6 = .ok (.areturn, 1) := by decide +kernel
theorem dJx4a65c_get_915e3_0 : decode cJx4a65c_get_915e3 0 = .ok (.iload_n 1, 1) := by decide +kernel
theorem dJx4a65c_get_915e3_1 : decode cJx4a65c_get_915e3 1 = .ok (.aload_n 0, 1) := by decide +kernel
theorem dJx4a65c_get_915e3_2 : decode cJx4a65c_get_915e3 2 = .ok (.getfield 48, 3) := by decide +kernel
theorem dJx4a65c_get_915e3_5 : decode cJx4a65c_get_915e3 5 = .ok (.invokestatic 118, 3) := by decide +kernel
theorem dJx4a65c_get_915e3_8 : decode cJx4a65c_get_915e3 8 = .ok (.pop, 1) := by decide +kernel
theorem dJx4a65c_get_915e3_9 : decode cJx4a65c_get_915e3 9 = .ok (.aload_n 0, 1) := by decide +kernel
theorem dJx4a65c_get_915e3_10 : decode cJx4a65c_get_915e3 10 = .ok (.iload_n 1, 1) := by decide +kernel
theorem dJx4a65c_get_915e3_11 : decode cJx4a65c_get_915e3 11 = .ok (.invokevirtual 123, 3) := by decide +kernel
theorem dJx4a65c_get_915e3_14 : decode cJx4a65c_get_915e3 14 = .ok (.areturn, 1) := by decide +kernel
theorem dJx4a65c_add_72be8_0 : decode cJx4a65c_add_72be8 0 = .ok (.iload_n 3, 1) := by decide +kernel
theorem dJx4a65c_add_72be8_1 : decode cJx4a65c_add_72be8 1 = .ok (.aload_n 2, 1) := by decide +kernel
theorem dJx4a65c_add_72be8_2 : decode cJx4a65c_add_72be8 2 = .ok (.arraylength, 1) := by decide +kernel
theorem dJx4a65c_add_72be8_3 : decode cJx4a65c_add_72be8 3 = .ok (.if_icmp .ne 8, 3) := by decide +kernel
theorem dJx4a65c_add_72be8_6 : decode cJx4a65c_add_72be8 6 = .ok (.aload_n 0, 1) := by decide +kernel
theorem dJx4a65c_add_72be8_7 : decode cJx4a65c_add_72be8 7 = .ok (.invokevirtual 129, 3) := by decide +kernel
theorem dJx4a65c_add_72be8_10 : decode cJx4a65c_add_72be8 10 = .ok (.astore_n 2, 1) := by decide +kernel
theorem dJx4a65c_add_72be8_11 : decode cJx4a65c_add_72be8 11 = .ok (.aload_n 2, 1) := by decide +kernel
theorem dJx4a65c_add_72be8_12 : decode cJx4a65c_add_72be8 12 = .ok (.iload_n 3, 1) := by decide +kernel
theorem dJx4a65c_add_72be8_13 : decode cJx4a65c_add_72be8 13 = .ok (.aload_n 1, 1) := by decide +kernel
theorem dJx4a65c_add_72be8_14 : decode cJx4a65c_add_72be8 14 = .ok (.aastore, 1) := by decide +kernel
theorem dJx4a65c_add_72be8_15 : decode cJx4a65c_add_72be8 15 = .ok (.aload_n 0, 1) := by decide +kernel
theorem dJx4a65c_add_72be8_16 : decode cJx4a65c_add_72be8 16 = .ok (.iload_n 3, 1) := by decide +kernel
theorem dJx4a65c_add_72be8_17 : decode cJx4a65c_add_72be8 17 = .ok (.iconst 1, 1) := by decide +kernel
theorem dJx4a65c_add_72be8_18 : decode cJx4a65c_add_72be8 18 = .ok (.iadd, 1) := by decide +kernel
theorem dJx4a65c_add_72be8_19 : decode cJx4a65c_add_72be8 19 = .ok (.putfield 48, 3) := by decide +kernel
theorem dJx4a65c_add_72be8_22 : decode cJx4a65c_add_72be8 22 = .ok (.return_, 1) := by decide +kernel
theorem dJx4a65c_add_9ea2d_0 : decode cJx4a65c_add_9ea2d 0 = .ok (.aload_n 0, 1) := by decide +kernel
theorem dJx4a65c_add_9ea2d_1 : decode cJx4a65c_add_9ea2d 1 = .ok (.dup, 1) := by decide +kernel
theorem dJx4a65c_add_9ea2d_2 : decode cJx4a65c_add_9ea2d 2 = .ok (.getfield 63, 3) := by decide +kernel
theorem dJx4a65c_add_9ea2d_5 : decode cJx4a65c_add_9ea2d 5 = .ok (.iconst 1, 1) := by decide +kernel
theorem dJx4a65c_add_9ea2d_6 : decode cJx4a65c_add_9ea2d 6 = .ok (.iadd, 1) := by decide +kernel
theorem dJx4a65c_add_9ea2d_7 : decode cJx4a65c_add_9ea2d 7 = .ok (.putfield 63, 3) := by decide +kernel
theorem dJx4a65c_add_9ea2d_10 : decode cJx4a65c_add_9ea2d 10 = .ok (.aload_n 0, 1) := by decide +kernel
theorem dJx4a65c_add_9ea2d_11 : decode cJx4a65c_add_9ea2d 11 = .ok (.aload_n 1, 1) := by decide +kernel
theorem dJx4a65c_add_9ea2d_12 : decode cJx4a65c_add_9ea2d 12 = .ok (.aload_n 0, 1) := by decide +kernel
theorem dJx4a65c_add_9ea2d_13 : decode cJx4a65c_add_9ea2d 13 = .ok (.getfield 9, 3) := by decide +kernel
theorem dJx4a65c_add_9ea2d_16 : decode cJx4a65c_add_9ea2d 16 = .ok (.aload_n 0, 1) := by decide +kernel
theorem dJx4a65c_add_9ea2d_17 : decode cJx4a65c_add_9ea2d 17 = .ok (.getfield 48, 3) := by decide +kernel
theorem dJx4a65c_add_9ea2d_20 : decode cJx4a65c_add_9ea2d 20 = .ok (.invokevirtual 131, 3) := by decide +kernel
theorem dJx4a65c_add_9ea2d_23 : decode cJx4a65c_add_9ea2d 23 = .ok (.iconst 1, 1) := by decide +kernel
theorem dJx4a65c_add_9ea2d_24 : decode cJx4a65c_add_9ea2d 24 = .ok (.ireturn, 1) := by decide +kernel
theorem dJx4a65c_remove_915e3_0 : decode cJx4a65c_remove_915e3 0 = .ok (.iload_n 1, 1) := by decide +kernel
theorem dJx4a65c_remove_915e3_1 : decode cJx4a65c_remove_915e3 1 = .ok (.aload_n 0, 1) := by decide +kernel
theorem dJx4a65c_remove_915e3_2 : decode cJx4a65c_remove_915e3 2 = .ok (.getfield 48, 3) := by decide +kernel
theorem dJx4a65c_remove_915e3_5 : decode cJx4a65c_remove_915e3 5 = .ok (.invokestatic 118, 3) := by decide +kernel
theorem dJx4a65c_remove_915e3_8 : decode cJx4a65c_remove_915e3 8 = .ok (.pop, 1) := by decide +kernel
theorem dJx4a65c_remove_915e3_9 : decode cJx4a65c_remove_915e3 9 = .ok (.aload_n 0, 1) := by decide +kernel
theorem dJx4a65c_remove_915e3_10 : decode cJx4a65c_remove_915e3 10 = .ok (.getfield 9, 3) := by decide +kernel
theorem dJx4a65c_remove_915e3_13 : decode cJx4a65c_remove_915e3 13 = .ok (.astore_n 2, 1) := by decide +kernel
theorem dJx4a65c_remove_915e3_14 : decode cJx4a65c_remove_915e3 14 = .ok (.aload_n 2, 1) := by decide +kernel
theorem dJx4a65c_remove_915e3_15 : decode cJx4a65c_remove_915e3 15 = .ok (.iload_n 1, 1) := by decide +kernel
theorem dJx4a65c_remove_915e3_16 : decode cJx4a65c_remove_915e3 16 = .ok (.aaload, 1) := by decide +kernel
theorem dJx4a65c_remove_915e3_17 : decode cJx4a65c_remove_915e3 17 = .ok (.astore_n 3, 1) := by decide +kernel
theorem dJx4a65c_remove_915e3_18 : decode cJx4a65c_remove_915e3 18 = .ok (.aload_n 0, 1) := by decide +kernel
theorem dJx4a65c_remove_915e3_19 : decode cJx4a65c_remove_915e3 19 = .ok (.aload_n 2, 1) := by decide +kernel
theorem dJx4a65c_remove_915e3_20 : decode cJx4a65c_remove_915e3 20 = .ok (.iload_n 1, 1) := by decide +kernel
theorem dJx4a65c_remove_915e3_21 : decode cJx4a65c_remove_915e3 21 = .ok (.invokevirtual 144, 3) := by decide +kernel
theorem dJx4a65c_remove_915e3_24 : decode cJx4a65c_remove_915e3 24 = .ok (.aload_n 3, 1) := by decide +kernel
theorem dJx4a65c_remove_915e3_25 : decode cJx4a65c_remove_915e3 25 = .ok (.areturn, 1) := by decide +kernel
theorem dJx4a65c_fastRemove_b59b0_0 : decode cJx4a65c_fastRemove_b59b0 0 = .ok (.aload_n 0, 1) := by decide +kernel
theorem dJx4a65c_fastRemove_b59b0_1 : decode cJx4a65c_fastRemove_b59b0 1 = .ok (.dup, 1) := by decide +kernel
theorem dJx4a65c_fastRemove_b59b0_2 : decode cJx4a65c_fastRemove_b59b0 2 = .ok (.getfield 63, 3) := by decide +kernel
theorem dJx4a65c_fastRemove_b59b0_5 : decode cJx4a65c_fastRemove_b59b0 5 = .ok (.iconst 1, 1) := by decide +kernel
theorem dJx4a65c_fastRemove_b59b0_6 : decode cJx4a65c_fastRemove_b59b0 6 = .ok (.iadd, 1) := by decide +kernel
theorem dJx4a65c_fastRemove_b59b0_7 : decode cJx4a65c_fastRemove_b59b0 7 = .ok (.putfield 63, 3) := by decide +kernel
theorem dJx4a65c_fastRemove_b59b0_10 : decode cJx4a65c_fastRemove_b59b0 10 = .ok (.aload_n 0, 1) := by decide +kernel
theorem dJx4a65c_fastRemove_b59b0_11 : decode cJx4a65c_fastRemove_b59b0 11 = .ok (.getfield 48, 3) := by decide +kernel
theorem dJx4a65c_fastRemove_b59b0_14 : decode cJx4a65c_fastRemove_b59b0 14 = .ok (.iconst 1, 1) := by decide +kernel
theorem dJx4a65c_fastRemove_b59b0_15 : decode cJx4a65c_fastRemove_b59b0 15 = .ok (.isub, 1) := by decide +kernel
theorem dJx4a65c_fastRemove_b59b0_16 : decode cJx4a65c_fastRemove_b59b0 16 = .ok (.dup, 1) := by decide +kernel
theorem dJx4a65c_fastRemove_b59b0_17 : decode cJx4a65c_fastRemove_b59b0 17 = .ok (.istore_n 3, 1) := by decide +kernel
theorem dJx4a65c_fastRemove_b59b0_18 : decode cJx4a65c_fastRemove_b59b0 18 = .ok (.iload_n 2, 1) := by decide +kernel
theorem dJx4a65c_fastRemove_b59b0_19 : decode cJx4a65c_fastRemove_b59b0 19 = .ok (.if_icmp .le 15, 3) := by decide +kernel
theorem dJx4a65c_fastRemove_b59b0_22 : decode cJx4a65c_fastRemove_b59b0 22 = .ok (.aload_n 1, 1) := by decide +kernel
theorem dJx4a65c_fastRemove_b59b0_23 : decode cJx4a65c_fastRemove_b59b0 23 = .ok (.iload_n 2, 1) := by decide +kernel
theorem dJx4a65c_fastRemove_b59b0_24 : decode cJx4a65c_fastRemove_b59b0 24 = .ok (.iconst 1, 1) := by decide +kernel
theorem dJx4a65c_fastRemove_b59b0_25 : decode cJx4a65c_fastRemove_b59b0 25 = .ok (.iadd, 1) := by decide +kernel
theorem dJx4a65c_fastRemove_b59b0_26 : decode cJx4a65c_fastRemove_b59b0 26 = .ok (.aload_n 1, 1) := by decide +kernel
theorem dJx4a65c_fastRemove_b59b0_27 : decode cJx4a65c_fastRemove_b59b0 27 = .ok (.iload_n 2, 1) := by decide +kernel
theorem dJx4a65c_fastRemove_b59b0_28 : decode cJx4a65c_fastRemove_b59b0 28 = .ok (.iload_n 3, 1) := by decide +kernel
theorem dJx4a65c_fastRemove_b59b0_29 : decode cJx4a65c_fastRemove_b59b0 29 = .ok (.iload_n 2, 1) := by decide +kernel
theorem dJx4a65c_fastRemove_b59b0_30 : decode cJx4a65c_fastRemove_b59b0 30 = .ok (.isub, 1) := by decide +kernel
theorem dJx4a65c_fastRemove_b59b0_31 : decode cJx4a65c_fastRemove_b59b0 31 = .ok (.invokestatic 112, 3) := by decide +kernel
theorem dJx4a65c_fastRemove_b59b0_34 : decode cJx4a65c_fastRemove_b59b0 34 = .ok (.aload_n 1, 1) := by decide +kernel
theorem dJx4a65c_fastRemove_b59b0_35 : decode cJx4a65c_fastRemove_b59b0 35 = .ok (.aload_n 0, 1) := by decide +kernel
theorem dJx4a65c_fastRemove_b59b0_36 : decode cJx4a65c_fastRemove_b59b0 36 = .ok (.iload_n 3, 1) := by decide +kernel
theorem dJx4a65c_fastRemove_b59b0_37 : decode cJx4a65c_fastRemove_b59b0 37 = .ok (.dup_x1, 1) := by decide +kernel
theorem dJx4a65c_fastRemove_b59b0_38 : decode cJx4a65c_fastRemove_b59b0 38 = .ok (.putfield 48, 3) := by decide +kernel
theorem dJx4a65c_fastRemove_b59b0_41 : decode cJx4a65c_fastRemove_b59b0 41 = .ok (.aconst_null, 1) := by decide +kernel
theorem dJx4a65c_fastRemove_b59b0_42 : decode cJx4a65c_fastRemove_b59b0 42 = .ok (.aastore, 1) := by decide +kernel
theorem dJx4a65c_fastRemove_b59b0_43 : decode cJx4a65c_fastRemove_b59b0 43 = .ok (.return_, 1) := by decide +kernel
theorem dJx4a65c_clear_da8c8_0 : decode cJx4a65c_clear_da8c8 0 = .ok (.aload_n 0, 1) := by decide +kernel
theorem dJx4a65c_clear_da8c8_1 : decode cJx4a65c_clear_da8c8 1 = .ok (.dup, 1) := by decide +kernel
theorem dJx4a65c_clear_da8c8_2 : decode cJx4a65c_clear_da8c8 2 = .ok (.getfield 63, 3) := by decide +kernel
theorem dJx4a65c_clear_da8c8_5 : decode cJx4a65c_clear_da8c8 5 = .ok (.iconst 1, 1) := by decide +kernel
theorem dJx4a65c_clear_da8c8_6 : decode cJx4a65c_clear_da8c8 6 = .ok (.iadd, 1) := by decide +kernel
theorem dJx4a65c_clear_da8c8_7 : decode cJx4a65c_clear_da8c8 7 = .ok (.putfield 63, 3) := by decide +kernel
theorem dJx4a65c_clear_da8c8_10 : decode cJx4a65c_clear_da8c8 10 = .ok (.aload_n 0, 1) := by decide +kernel
theorem dJx4a65c_clear_da8c8_11 : decode cJx4a65c_clear_da8c8 11 = .ok (.getfield 9, 3) := by decide +kernel
theorem dJx4a65c_clear_da8c8_14 : decode cJx4a65c_clear_da8c8 14 = .ok (.astore_n 1, 1) := by decide +kernel
theorem dJx4a65c_clear_da8c8_15 : decode cJx4a65c_clear_da8c8 15 = .ok (.aload_n 0, 1) := by decide +kernel
theorem dJx4a65c_clear_da8c8_16 : decode cJx4a65c_clear_da8c8 16 = .ok (.getfield 48, 3) := by decide +kernel
theorem dJx4a65c_clear_da8c8_19 : decode cJx4a65c_clear_da8c8 19 = .ok (.istore_n 2, 1) := by decide +kernel
theorem dJx4a65c_clear_da8c8_20 : decode cJx4a65c_clear_da8c8 20 = .ok (.aload_n 0, 1) := by decide +kernel
theorem dJx4a65c_clear_da8c8_21 : decode cJx4a65c_clear_da8c8 21 = .ok (.iconst 0, 1) := by decide +kernel
theorem dJx4a65c_clear_da8c8_22 : decode cJx4a65c_clear_da8c8 22 = .ok (.dup_x1, 1) := by decide +kernel
theorem dJx4a65c_clear_da8c8_23 : decode cJx4a65c_clear_da8c8 23 = .ok (.putfield 48, 3) := by decide +kernel
theorem dJx4a65c_clear_da8c8_26 : decode cJx4a65c_clear_da8c8 26 = .ok (.istore_n 3, 1) := by decide +kernel
theorem dJx4a65c_clear_da8c8_27 : decode cJx4a65c_clear_da8c8 27 = .ok (.iload_n 3, 1) := by decide +kernel
theorem dJx4a65c_clear_da8c8_28 : decode cJx4a65c_clear_da8c8 28 = .ok (.iload_n 2, 1) := by decide +kernel
theorem dJx4a65c_clear_da8c8_29 : decode cJx4a65c_clear_da8c8 29 = .ok (.if_icmp .ge 13, 3) := by decide +kernel
theorem dJx4a65c_clear_da8c8_32 : decode cJx4a65c_clear_da8c8 32 = .ok (.aload_n 1, 1) := by decide +kernel
theorem dJx4a65c_clear_da8c8_33 : decode cJx4a65c_clear_da8c8 33 = .ok (.iload_n 3, 1) := by decide +kernel
theorem dJx4a65c_clear_da8c8_34 : decode cJx4a65c_clear_da8c8 34 = .ok (.aconst_null, 1) := by decide +kernel
theorem dJx4a65c_clear_da8c8_35 : decode cJx4a65c_clear_da8c8 35 = .ok (.aastore, 1) := by decide +kernel
theorem dJx4a65c_clear_da8c8_36 : decode cJx4a65c_clear_da8c8 36 = .ok (.iinc 3 1, 3) := by decide +kernel
theorem dJx4a65c_clear_da8c8_39 : decode cJx4a65c_clear_da8c8 39 = .ok (.goto (-12), 3) := by decide +kernel
theorem dJx4a65c_clear_da8c8_42 : decode cJx4a65c_clear_da8c8 42 = .ok (.return_, 1) := by decide +kernel
theorem dJ7_copyOf_1904c_0 : decode cJ7_copyOf_1904c 0 = .ok (.aload_n 0, 1) := by decide +kernel
theorem dJ7_copyOf_1904c_1 : decode cJ7_copyOf_1904c 1 = .ok (.iload_n 1, 1) := by decide +kernel
theorem dJ7_copyOf_1904c_2 : decode cJ7_copyOf_1904c 2 = .ok (.aload_n 0, 1) := by decide +kernel
theorem dJ7_copyOf_1904c_3 : decode cJ7_copyOf_1904c 3 = .ok (.invokevirtual 86, 3) := by decide +kernel
theorem dJ7_copyOf_1904c_6 : decode cJ7_copyOf_1904c 6 = .ok (.invokestatic 300, 3) := by decide +kernel
theorem dJ7_copyOf_1904c_9 : decode cJ7_copyOf_1904c 9 = .ok (.areturn, 1) := by decide +kernel
theorem dJ7_copyOf_6403c_0 : decode cJ7_copyOf_6403c 0 = .ok (.aload_n 2, 1) := by decide +kernel
theorem dJ7_copyOf_6403c_1 : decode cJ7_copyOf_6403c 1 = .ok (.ldc 110, 2) := by decide +kernel
theorem dJ7_copyOf_6403c_3 : decode cJ7_copyOf_6403c 3 = .ok (.if_acmp .ne 10, 3) := by decide +kernel
theorem dJ7_copyOf_6403c_6 : decode cJ7_copyOf_6403c 6 = .ok (.iload_n 1, 1) := by decide +kernel
theorem dJ7_copyOf_6403c_7 : decode cJ7_copyOf_6403c 7 = .ok (.anewarray 2, 3) := by decide +kernel
theorem dJ7_copyOf_6403c_10 : decode cJ7_copyOf_6403c 10 = .ok (.goto 14, 3) := by decide +kernel
theorem dJ7_copyOf_6403c_13 : decode cJ7_copyOf_6403c 13 = .ok (.aload_n 2, 1) := by decide +kernel
theorem dJ7_copyOf_6403c_14 : decode cJ7_copyOf_6403c 14 = .ok (.invokevirtual 90, 3) := by decide +kernel
theorem dJ7_copyOf_6403c_17 : decode cJ7_copyOf_6403c 17 = .ok (.iload_n 1, 1) := by decide +kernel
theorem dJ7_copyOf_6403c_18 : decode cJ7_copyOf_6403c 18 = .ok (.invokestatic 95, 3) := by decide +kernel
theorem dJ7_copyOf_6403c_21 : decode cJ7_copyOf_6403c 21 = .ok (.checkcast 110, 3) := by decide +kernel
theorem dJ7_copyOf_6403c_24 : decode cJ7_copyOf_6403c 24 = .ok (.astore_n 3, 1) := by decide +kernel
theorem dJ7_copyOf_6403c_25 : decode cJ7_copyOf_6403c 25 = .ok (.aload_n 0, 1) := by decide +kernel
theorem dJ7_copyOf_6403c_26 : decode cJ7_copyOf_6403c 26 = .ok (.iconst 0, 1) := by decide +kernel
theorem dJ7_copyOf_6403c_27 : decode cJ7_copyOf_6403c 27 = .ok (.aload_n 3, 1) := by decide +kernel
theorem dJ7_copyOf_6403c_28 : decode cJ7_copyOf_6403c 28 = .ok (.iconst 0, 1) := by decide +kernel
theorem dJ7_copyOf_6403c_29 : decode cJ7_copyOf_6403c 29 = .ok (.aload_n 0, 1) := by decide +kernel
theorem dJ7_copyOf_6403c_30 : decode cJ7_copyOf_6403c 30 = .ok (.arraylength, 1) := by decide +kernel
theorem dJ7_copyOf_6403c_31 : decode cJ7_copyOf_6403c 31 = .ok (.iload_n 1, 1) := by decide +kernel
theorem dJ7_copyOf_6403c_32 : decode cJ7_copyOf_6403c 32 = .ok (.invokestatic 304, 3) := by decide +kernel
theorem dJ7_copyOf_6403c_35 : decode cJ7_copyOf_6403c 35 = .ok (.invokestatic 150, 3) := by decide +kernel
theorem dJ7_copyOf_6403c_38 : decode cJ7_copyOf_6403c 38 = .ok (.aload_n 3, 1) := by decide +kernel
theorem dJ7_copyOf_6403c_39 : decode cJ7_copyOf_6403c 39 = .ok (.areturn, 1) := by decide +kernel
theorem dJ15_checkIndex_7cf53_0 : decode cJ15_checkIndex_7cf53 0 = .ok (.iload_n 0, 1) := by decide +kernel
theorem dJ15_checkIndex_7cf53_1 : decode cJ15_checkIndex_7cf53 1 = .ok (.iload_n 1, 1) := by decide +kernel
theorem dJ15_checkIndex_7cf53_2 : decode cJ15_checkIndex_7cf53 2 = .ok (.aconst_null, 1) := by decide +kernel
theorem dJ15_checkIndex_7cf53_3 : decode cJ15_checkIndex_7cf53 3 = .ok (.invokestatic 105, 3) := by decide +kernel
theorem dJ15_checkIndex_7cf53_6 : decode cJ15_checkIndex_7cf53 6 = .ok (.ireturn, 1) := by decide +kernel
theorem dJ8_newLength_cabcc_0 : decode cJ8_newLength_cabcc 0 = .ok (.iload_n 0, 1) := by decide +kernel
theorem dJ8_newLength_cabcc_1 : decode cJ8_newLength_cabcc 1 = .ok (.iload_n 1, 1) := by decide +kernel
theorem dJ8_newLength_cabcc_2 : decode cJ8_newLength_cabcc 2 = .ok (.iload_n 2, 1) := by decide +kernel
theorem dJ8_newLength_cabcc_3 : decode cJ8_newLength_cabcc 3 = .ok (.invokestatic 194, 3) := by decide +kernel
theorem dJ8_newLength_cabcc_6 : decode cJ8_newLength_cabcc 6 = .ok (.iadd, 1) := by decide +kernel
theorem dJ8_newLength_cabcc_7 : decode cJ8_newLength_cabcc 7 = .ok (.istore_n 3, 1) := by decide +kernel
theorem dJ8_newLength_cabcc_8 : decode cJ8_newLength_cabcc 8 = .ok (.iconst 0, 1) := by decide +kernel
theorem dJ8_newLength_cabcc_9 : decode cJ8_newLength_cabcc 9 = .ok (.iload_n 3, 1) := by decide +kernel
theorem dJ8_newLength_cabcc_10 : decode cJ8_newLength_cabcc 10 = .ok (.if_icmp .ge 11, 3) := by decide +kernel
theorem dJ8_newLength_cabcc_13 : decode cJ8_newLength_cabcc 13 = .ok (.iload_n 3, 1) := by decide +kernel
theorem dJ8_newLength_cabcc_14 : decode cJ8_newLength_cabcc 14 = .ok (.ldc 200, 2) := by decide +kernel
theorem dJ8_newLength_cabcc_16 : decode cJ8_newLength_cabcc 16 = .ok (.if_icmp .gt 5, 3) := by decide +kernel
theorem dJ8_newLength_cabcc_19 : decode cJ8_newLength_cabcc 19 = .ok (.iload_n 3, 1) := by decide +kernel
theorem dJ8_newLength_cabcc_20 : decode cJ8_newLength_cabcc 20 = .ok (.ireturn, 1) := by decide +kernel
theorem dJ8_newLength_cabcc_21 : decode cJ8_newLength_cabcc 21 = .ok (.iload_n 0, 1) := by decide +kernel
theorem dJ8_newLength_cabcc_22 : decode cJ8_newLength_cabcc 22 = .ok (.iload_n 1, 1) := by decide +kernel
theorem dJ8_newLength_cabcc_23 : decode cJ8_newLength_cabcc 23 = .ok (.invokestatic 201, 3) := by decide +kernel
theorem dJ8_newLength_cabcc_26 : decode cJ8_newLength_cabcc 26 = .ok (.ireturn, 1) := by decide +kernel
theorem dJ8_hugeLength_7cf53_0 : decode cJ8_hugeLength_7cf53 0 = .ok (.iload_n 0, 1) := by decide +kernel
theorem dJ8_hugeLength_7cf53_1 : decode cJ8_hugeLength_7cf53 1 = .ok (.iload_n 1, 1) := by decide +kernel
theorem dJ8_hugeLength_7cf53_2 : decode cJ8_hugeLength_7cf53 2 = .ok (.iadd, 1) := by decide +kernel
theorem dJ8_hugeLength_7cf53_3 : decode cJ8_hugeLength_7cf53 3 = .ok (.istore_n 2, 1) := by decide +kernel
theorem dJ8_hugeLength_7cf53_4 : decode cJ8_hugeLength_7cf53 4 = .ok (.iload_n 2, 1) := by decide +kernel
theorem dJ8_hugeLength_7cf53_5 : decode cJ8_hugeLength_7cf53 5 = .ok (.ifCond .ge 44, 3) := by decide +kernel
theorem dJ8_hugeLength_7cf53_8 : decode cJ8_hugeLength_7cf53 8 = .ok (.new 204, 3) := by decide +kernel
theorem dJ8_hugeLength_7cf53_11 : decode cJ8_hugeLength_7cf53 11 = .ok (.dup, 1) := by decide +kernel
theorem dJ8_hugeLength_7cf53_12 : decode cJ8_hugeLength_7cf53 12 = .ok (.new 89, 3) := by decide +kernel
theorem dJ8_hugeLength_7cf53_15 : decode cJ8_hugeLength_7cf53 15 = .ok (.dup, 1) := by decide +kernel
theorem dJ8_hugeLength_7cf53_16 : decode cJ8_hugeLength_7cf53 16 = .ok (.invokespecial 91, 3) := by decide +kernel
theorem dJ8_hugeLength_7cf53_19 : decode cJ8_hugeLength_7cf53 19 = .ok (.ldc 206, 2) := by decide +kernel
theorem dJ8_hugeLength_7cf53_21 : decode cJ8_hugeLength_7cf53 21 = .ok (.invokevirtual 94, 3) := by decide +kernel
theorem dJ8_hugeLength_7cf53_24 : decode cJ8_hugeLength_7cf53 24 = .ok (.iload_n 0, 1) := by decide +kernel
theorem dJ8_hugeLength_7cf53_25 : decode cJ8_hugeLength_7cf53 25 = .ok (.invokevirtual 98, 3) := by decide +kernel
theorem dJ8_hugeLength_7cf53_28 : decode cJ8_hugeLength_7cf53 28 = .ok (.ldc 208, 2) := by decide +kernel
theorem dJ8_hugeLength_7cf53_30 : decode cJ8_hugeLength_7cf53 30 = .ok (.invokevirtual 94, 3) := by decide +kernel
theorem dJ8_hugeLength_7cf53_33 : decode cJ8_hugeLength_7cf53 33 = .ok (.iload_n 1, 1) := by decide +kernel
theorem dJ8_hugeLength_7cf53_34 : decode cJ8_hugeLength_7cf53 34 = .ok (.invokevirtual 98, 3) := by decide +kernel
theorem dJ8_hugeLength_7cf53_37 : decode cJ8_hugeLength_7cf53 37 = .ok (.ldc 210, 2) := by decide +kernel
theorem dJ8_hugeLength_7cf53_39 : decode cJ8_hugeLength_7cf53 39 = .ok (.invokevirtual 94, 3) := by decide +kernel
theorem dJ8_hugeLength_7cf53_42 : decode cJ8_hugeLength_7cf53 42 = .ok (.invokevirtual 101, 3) := by decide +kernel
theorem dJ8_hugeLength_7cf53_45 : decode cJ8_hugeLength_7cf53 45 = .ok (.invokespecial 212, 3) := by decide +kernel
theorem dJ8_hugeLength_7cf53_48 : decode cJ8_hugeLength_7cf53 48 = .ok (.athrow, 1) := by decide +kernel
theorem dJ8_hugeLength_7cf53_49 : decode cJ8_hugeLength_7cf53 49 = .ok (.iload_n 2, 1) := by decide +kernel
theorem dJ8_hugeLength_7cf53_50 : decode cJ8_hugeLength_7cf53 50 = .ok (.ldc 200, 2) := by decide +kernel
theorem dJ8_hugeLength_7cf53_52 : decode cJ8_hugeLength_7cf53 52 = .ok (.if_icmp .gt 6, 3) := by decide +kernel
theorem dJ8_hugeLength_7cf53_55 : decode cJ8_hugeLength_7cf53 55 = .ok (.ldc 200, 2) := by decide +kernel
theorem dJ8_hugeLength_7cf53_57 : decode cJ8_hugeLength_7cf53 57 = .ok (.ireturn, 1) := by decide +kernel
theorem dJ8_hugeLength_7cf53_58 : decode cJ8_hugeLength_7cf53 58 = .ok (.iload_n 2, 1) := by decide +kernel
theorem dJ8_hugeLength_7cf53_59 : decode cJ8_hugeLength_7cf53 59 = .ok (.ireturn, 1) := by decide +kernel
theorem dJ3_checkIndex_8e157_0 : decode cJ3_checkIndex_8e157 0 = .ok (.iload_n 0, 1) := by decide +kernel
theorem dJ3_checkIndex_8e157_1 : decode cJ3_checkIndex_8e157 1 = .ok (.ifCond .lt 8, 3) := by decide +kernel
theorem dJ3_checkIndex_8e157_4 : decode cJ3_checkIndex_8e157 4 = .ok (.iload_n 0, 1) := by decide +kernel
theorem dJ3_checkIndex_8e157_5 : decode cJ3_checkIndex_8e157 5 = .ok (.iload_n 1, 1) := by decide +kernel
theorem dJ3_checkIndex_8e157_6 : decode cJ3_checkIndex_8e157 6 = .ok (.if_icmp .lt 10, 3) := by decide +kernel
theorem dJ3_checkIndex_8e157_9 : decode cJ3_checkIndex_8e157 9 = .ok (.aload_n 2, 1) := by decide +kernel
theorem dJ3_checkIndex_8e157_10 : decode cJ3_checkIndex_8e157 10 = .ok (.iload_n 0, 1) := by decide +kernel
theorem dJ3_checkIndex_8e157_11 : decode cJ3_checkIndex_8e157 11 = .ok (.iload_n 1, 1) := by decide +kernel
theorem dJ3_checkIndex_8e157_12 : decode cJ3_checkIndex_8e157 12 = .ok (.invokestatic 95, 3) := by decide +kernel
theorem dJ3_checkIndex_8e157_15 : decode cJ3_checkIndex_8e157 15 = .ok (.athrow, 1) := by decide +kernel
theorem dJ3_checkIndex_8e157_16 : decode cJ3_checkIndex_8e157 16 = .ok (.iload_n 0, 1) := by decide +kernel
theorem dJ3_checkIndex_8e157_17 : decode cJ3_checkIndex_8e157 17 = .ok (.ireturn, 1) := by decide +kernel
end
section
theorem dX7_init_0 : decode cX7_init 0 = .ok (.aload_n 0, 1) := by decide +kernel
theorem dX7_init_1 : decode cX7_init 1 = .ok (.invokespecial 3, 3) := by decide +kernel
theorem dX7_init_4 : decode cX7_init 4 = .ok (.aload_n 0, 1) := by decide +kernel
theorem dX7_init_5 : decode cX7_init 5 = .ok (.new 9, 3) := by decide +kernel
theorem dX7_init_8 : decode cX7_init 8 = .ok (.dup, 1) := by decide +kernel
theorem dX7_init_9 : decode cX7_init 9 = .ok (.invokespecial 11, 3) := by decide +kernel
theorem dX7_init_12 : decode cX7_init 12 = .ok (.putfield 12, 3) := by decide +kernel
theorem dX7_init_15 : decode cX7_init 15 = .ok (.aload_n 0, 1) := by decide +kernel
theorem dX7_init_16 : decode cX7_init 16 = .ok (.new 16, 3) := by decide +kernel
theorem dX7_init_19 : decode cX7_init 19 = .ok (.dup, 1) := by decide +kernel
theorem dX7_init_20 : decode cX7_init 20 = .ok (.invokespecial 18, 3) := by decide +kernel
theorem dX7_init_23 : decode cX7_init 23 = .ok (.putfield 19, 3) := by decide +kernel
theorem dX7_init_26 : decode cX7_init 26 = .ok (.aload_n 0, 1) := by decide +kernel
theorem dX7_init_27 : decode cX7_init 27 = .ok (.new 23, 3) := by decide +kernel
theorem dX7_init_30 : decode cX7_init 30 = .ok (.dup, 1) := by decide +kernel
theorem dX7_init_31 : decode cX7_init 31 = .ok (.invokespecial 25, 3) := by decide +kernel
theorem dX7_init_34 : decode cX7_init 34 = .ok (.putfield 26, 3) := by decide +kernel
theorem dX7_init_37 : decode cX7_init 37 = .ok (.aload_n 0, 1) := by decide +kernel
theorem dX7_init_38 : decode cX7_init 38 = .ok (.new 30, 3) := by decide +kernel
theorem dX7_init_41 : decode cX7_init 41 = .ok (.dup, 1) := by decide +kernel
theorem dX7_init_42 : decode cX7_init 42 = .ok (.invokespecial 32, 3) := by decide +kernel
theorem dX7_init_45 : decode cX7_init 45 = .ok (.putfield 33, 3) := by decide +kernel
theorem dX7_init_48 : decode cX7_init 48 = .ok (.aload_n 0, 1) := by decide +kernel
theorem dX7_init_49 : decode cX7_init 49 = .ok (.new 30, 3) := by decide +kernel
theorem dX7_init_52 : decode cX7_init 52 = .ok (.dup, 1) := by decide +kernel
theorem dX7_init_53 : decode cX7_init 53 = .ok (.invokespecial 32, 3) := by decide +kernel
theorem dX7_init_56 : decode cX7_init 56 = .ok (.putfield 37, 3) := by decide +kernel
theorem dX7_init_59 : decode cX7_init 59 = .ok (.aload_n 0, 1) := by decide +kernel
theorem dX7_init_60 : decode cX7_init 60 = .ok (.bipush 99, 2) := by decide +kernel
theorem dX7_init_62 : decode cX7_init 62 = .ok (.putfield 40, 3) := by decide +kernel
theorem dX7_init_65 : decode cX7_init 65 = .ok (.aload_n 0, 1) := by decide +kernel
theorem dX7_init_66 : decode cX7_init 66 = .ok (.iconst 0, 1) := by decide +kernel
theorem dX7_init_67 : decode cX7_init 67 = .ok (.putfield 44, 3) := by decide +kernel
theorem dX7_init_70 : decode cX7_init 70 = .ok (.aload_n 0, 1) := by decide +kernel
theorem dX7_init_71 : decode cX7_init 71 = .ok (.iconst 0, 1) := by decide +kernel
theorem dX7_init_72 : decode cX7_init 72 = .ok (.putfield 48, 3) := by decide +kernel
theorem dX7_init_75 : decode cX7_init 75 = .ok (.aload_n 0, 1) := by decide +kernel
theorem dX7_init_76 : decode cX7_init 76 = .ok (.lconst 0, 1) := by decide +kernel
theorem dX7_init_77 : decode cX7_init 77 = .ok (.putfield 51, 3) := by decide +kernel
theorem dX7_init_80 : decode cX7_init 80 = .ok (.aload_n 0, 1) := by decide +kernel
theorem dX7_init_81 : decode cX7_init 81 = .ok (.iconst 0, 1) := by decide +kernel
theorem dX7_init_82 : decode cX7_init 82 = .ok (.putfield 55, 3) := by decide +kernel
theorem dX7_init_85 : decode cX7_init 85 = .ok (.aload_n 0, 1) := by decide +kernel
theorem dX7_init_86 : decode cX7_init 86 = .ok (.iconst 0, 1) := by decide +kernel
theorem dX7_init_87 : decode cX7_init 87 = .ok (.putfield 58, 3) := by decide +kernel
theorem dX7_init_90 : decode cX7_init 90 = .ok (.return_, 1) := by decide +kernel
theorem dX7_addSnippet_0 : decode cX7_addSnippet 0 = .ok (.aload_n 0, 1) := by decide +kernel
theorem dX7_addSnippet_1 : decode cX7_addSnippet 1 = .ok (.getfield 12, 3) := by decide +kernel
theorem dX7_addSnippet_4 : decode cX7_addSnippet 4 = .ok (.invokevirtual 61, 3) := by decide +kernel
theorem dX7_addSnippet_7 : decode cX7_addSnippet 7 = .ok (.bipush 8, 2) := by decide +kernel
theorem dX7_addSnippet_9 : decode cX7_addSnippet 9 = .ok (.if_icmp .lt 13, 3) := by decide +kernel
theorem dX7_addSnippet_12 : decode cX7_addSnippet 12 = .ok (.new 65, 3) := by decide +kernel
theorem dX7_addSnippet_15 : decode cX7_addSnippet 15 = .ok (.dup, 1) := by decide +kernel
theorem dX7_addSnippet_16 : decode cX7_addSnippet 16 = .ok (.ldc 67, 2) := by decide +kernel
theorem dX7_addSnippet_18 : decode cX7_addSnippet 18 = .ok (.invokespecial 69, 3) := by decide +kernel
theorem dX7_addSnippet_21 : decode cX7_addSnippet 21 = .ok (.athrow, 1) := by decide +kernel
theorem dX7_addSnippet_22 : decode cX7_addSnippet 22 = .ok (.aload_n 0, 1) := by decide +kernel
theorem dX7_addSnippet_23 : decode cX7_addSnippet 23 = .ok (.getfield 12, 3) := by decide +kernel
theorem dX7_addSnippet_26 : decode cX7_addSnippet 26 = .ok (.new 72, 3) := by decide +kernel
theorem dX7_addSnippet_29 : decode cX7_addSnippet 29 = .ok (.dup, 1) := by decide +kernel
theorem dX7_addSnippet_30 : decode cX7_addSnippet 30 = .ok (.iload_n 1, 1) := by decide +kernel
theorem dX7_addSnippet_31 : decode cX7_addSnippet 31 = .ok (.invokespecial 74, 3) := by decide +kernel
theorem dX7_addSnippet_34 : decode cX7_addSnippet 34 = .ok (.invokevirtual 77, 3) := by decide +kernel
theorem dX7_addSnippet_37 : decode cX7_addSnippet 37 = .ok (.pop, 1) := by decide +kernel
theorem dX7_addSnippet_38 : decode cX7_addSnippet 38 = .ok (.aload_n 0, 1) := by decide +kernel
theorem dX7_addSnippet_39 : decode cX7_addSnippet 39 = .ok (.getfield 12, 3) := by decide +kernel
theorem dX7_addSnippet_42 : decode cX7_addSnippet 42 = .ok (.invokevirtual 61, 3) := by decide +kernel
theorem dX7_addSnippet_45 : decode cX7_addSnippet 45 = .ok (.iconst 1, 1) := by decide +kernel
theorem dX7_addSnippet_46 : decode cX7_addSnippet 46 = .ok (.isub, 1) := by decide +kernel
theorem dX7_addSnippet_47 : decode cX7_addSnippet 47 = .ok (.ireturn, 1) := by decide +kernel
theorem dX7_addToTrigger_0 : decode cX7_addToTrigger 0 = .ok (.aload_n 0, 1) := by decide +kernel
theorem dX7_addToTrigger_1 : decode cX7_addToTrigger 1 = .ok (.iload_n 1, 1) := by decide +kernel
theorem dX7_addToTrigger_2 : decode cX7_addToTrigger 2 = .ok (.invokevirtual 81, 3) := by decide +kernel
theorem dX7_addToTrigger_5 : decode cX7_addToTrigger 5 = .ok (.astore_n 3, 1) := by decide +kernel
theorem dX7_addToTrigger_6 : decode cX7_addToTrigger 6 = .ok (.iload_n 2, 1) := by decide +kernel
theorem dX7_addToTrigger_7 : decode cX7_addToTrigger 7 = .ok (.invokestatic 85, 3) := by decide +kernel
theorem dX7_addToTrigger_10 : decode cX7_addToTrigger 10 = .ok (.aload_n 3, 1) := by decide +kernel
theorem dX7_addToTrigger_11 : decode cX7_addToTrigger 11 = .ok (.getfield 89, 3) := by decide +kernel
theorem dX7_addToTrigger_14 : decode cX7_addToTrigger 14 = .ok (.invokevirtual 93, 3) := by decide +kernel
theorem dX7_addToTrigger_17 : decode cX7_addToTrigger 17 = .ok (.ifCond .eq 13, 3) := by decide +kernel
theorem dX7_addToTrigger_20 : decode cX7_addToTrigger 20 = .ok (.new 65, 3) := by decide +kernel
theorem dX7_addToTrigger_23 : decode cX7_addToTrigger 23 = .ok (.dup, 1) := by decide +kernel
theorem dX7_addToTrigger_24 : decode cX7_addToTrigger 24 = .ok (.ldc 99, 2) := by decide +kernel
theorem dX7_addToTrigger_26 : decode cX7_addToTrigger 26 = .ok (.invokespecial 69, 3) := by decide +kernel
theorem dX7_addToTrigger_29 : decode cX7_addToTrigger 29 = .ok (.athrow, 1) := by decide +kernel
theorem dX7_addToTrigger_30 : decode cX7_addToTrigger 30 = .ok (.aload_n 3, 1) := by decide +kernel
theorem dX7_addToTrigger_31 : decode cX7_addToTrigger 31 = .ok (.getfield 89, 3) := by decide +kernel
theorem dX7_addToTrigger_34 : decode cX7_addToTrigger 34 = .ok (.iload_n 2, 1) := by decide +kernel
theorem dX7_addToTrigger_35 : decode cX7_addToTrigger 35 = .ok (.invokevirtual 101, 3) := by decide +kernel
theorem dX7_addToTrigger_38 : decode cX7_addToTrigger 38 = .ok (.aload_n 0, 1) := by decide +kernel
theorem dX7_addToTrigger_39 : decode cX7_addToTrigger 39 = .ok (.invokevirtual 104, 3) := by decide +kernel
theorem dX7_addToTrigger_42 : decode cX7_addToTrigger 42 = .ok (.aload_n 3, 1) := by decide +kernel
theorem dX7_addToTrigger_43 : decode cX7_addToTrigger 43 = .ok (.getfield 89, 3) := by decide +kernel
theorem dX7_addToTrigger_46 : decode cX7_addToTrigger 46 = .ok (.invokevirtual 107, 3) := by decide +kernel
theorem dX7_addToTrigger_49 : decode cX7_addToTrigger 49 = .ok (.ireturn, 1) := by decide +kernel
theorem dX7_clearTrigger_0 : decode cX7_clearTrigger 0 = .ok (.aload_n 0, 1) := by decide +kernel
theorem dX7_clearTrigger_1 : decode cX7_clearTrigger 1 = .ok (.iload_n 1, 1) := by decide +kernel
theorem dX7_clearTrigger_2 : decode cX7_clearTrigger 2 = .ok (.invokevirtual 81, 3) := by decide +kernel
theorem dX7_clearTrigger_5 : decode cX7_clearTrigger 5 = .ok (.astore_n 2, 1) := by decide +kernel
theorem dX7_clearTrigger_6 : decode cX7_clearTrigger 6 = .ok (.aload_n 2, 1) := by decide +kernel
theorem dX7_clearTrigger_7 : decode cX7_clearTrigger 7 = .ok (.getfield 89, 3) := by decide +kernel
theorem dX7_clearTrigger_10 : decode cX7_clearTrigger 10 = .ok (.invokevirtual 107, 3) := by decide +kernel
theorem dX7_clearTrigger_13 : decode cX7_clearTrigger 13 = .ok (.istore_n 3, 1) := by decide +kernel
theorem dX7_clearTrigger_14 : decode cX7_clearTrigger 14 = .ok (.aload_n 2, 1) := by decide +kernel
theorem dX7_clearTrigger_15 : decode cX7_clearTrigger 15 = .ok (.getfield 89, 3) := by decide +kernel
theorem dX7_clearTrigger_18 : decode cX7_clearTrigger 18 = .ok (.invokevirtual 110, 3) := by decide +kernel
theorem dX7_clearTrigger_21 : decode cX7_clearTrigger 21 = .ok (.aload_n 0, 1) := by decide +kernel
theorem dX7_clearTrigger_22 : decode cX7_clearTrigger 22 = .ok (.invokevirtual 104, 3) := by decide +kernel
theorem dX7_clearTrigger_25 : decode cX7_clearTrigger 25 = .ok (.iload_n 3, 1) := by decide +kernel
theorem dX7_clearTrigger_26 : decode cX7_clearTrigger 26 = .ok (.ireturn, 1) := by decide +kernel
theorem dX7_setOn_0 : decode cX7_setOn 0 = .ok (.aload_n 0, 1) := by decide +kernel
theorem dX7_setOn_1 : decode cX7_setOn 1 = .ok (.iload_n 1, 1) := by decide +kernel
theorem dX7_setOn_2 : decode cX7_setOn 2 = .ok (.invokevirtual 81, 3) := by decide +kernel
theorem dX7_setOn_5 : decode cX7_setOn 5 = .ok (.astore_n 3, 1) := by decide +kernel
theorem dX7_setOn_6 : decode cX7_setOn 6 = .ok (.aload_n 3, 1) := by decide +kernel
theorem dX7_setOn_7 : decode cX7_setOn 7 = .ok (.getfield 113, 3) := by decide +kernel
theorem dX7_setOn_10 : decode cX7_setOn 10 = .ok (.istore 4, 2) := by decide +kernel
theorem dX7_setOn_12 : decode cX7_setOn 12 = .ok (.aload_n 3, 1) := by decide +kernel
theorem dX7_setOn_13 : decode cX7_setOn 13 = .ok (.iload_n 2, 1) := by decide +kernel
theorem dX7_setOn_14 : decode cX7_setOn 14 = .ok (.putfield 113, 3) := by decide +kernel
theorem dX7_setOn_17 : decode cX7_setOn 17 = .ok (.iload 4, 2) := by decide +kernel
theorem dX7_setOn_19 : decode cX7_setOn 19 = .ok (.ireturn, 1) := by decide +kernel
theorem dX7_putCharacter_0 : decode cX7_putCharacter 0 = .ok (.aload_n 0, 1) := by decide +kernel
theorem dX7_putCharacter_1 : decode cX7_putCharacter 1 = .ok (.iload_n 1, 1) := by decide +kernel
theorem dX7_putCharacter_2 : decode cX7_putCharacter 2 = .ok (.invokevirtual 81, 3) := by decide +kernel
theorem dX7_putCharacter_5 : decode cX7_putCharacter 5 = .ok (.astore_n 3, 1) := by decide +kernel
theorem dX7_putCharacter_6 : decode cX7_putCharacter 6 = .ok (.iload_n 2, 1) := by decide +kernel
theorem dX7_putCharacter_7 : decode cX7_putCharacter 7 = .ok (.invokestatic 85, 3) := by decide +kernel
theorem dX7_putCharacter_10 : decode cX7_putCharacter 10 = .ok (.aload_n 0, 1) := by decide +kernel
theorem dX7_putCharacter_11 : decode cX7_putCharacter 11 = .ok (.aload_n 3, 1) := by decide +kernel
theorem dX7_putCharacter_12 : decode cX7_putCharacter 12 = .ok (.new 116, 3) := by decide +kernel
theorem dX7_putCharacter_15 : decode cX7_putCharacter 15 = .ok (.dup, 1) := by decide +kernel
theorem dX7_putCharacter_16 : decode cX7_putCharacter 16 = .ok (.getstatic 118, 3) := by decide +kernel
theorem dX7_putCharacter_19 : decode cX7_putCharacter 19 = .ok (.iload_n 2, 1) := by decide +kernel
theorem dX7_putCharacter_20 : decode cX7_putCharacter 20 = .ok (.iconst 0, 1) := by decide +kernel
theorem dX7_putCharacter_21 : decode cX7_putCharacter 21 = .ok (.invokespecial 124, 3) := by decide +kernel
theorem dX7_putCharacter_24 : decode cX7_putCharacter 24 = .ok (.invokevirtual 127, 3) := by decide +kernel
theorem dX7_putCharacter_27 : decode cX7_putCharacter 27 = .ok (.ireturn, 1) := by decide +kernel
theorem dX7_putSnippet_0 : decode cX7_putSnippet 0 = .ok (.aload_n 0, 1) := by decide +kernel
theorem dX7_putSnippet_1 : decode cX7_putSnippet 1 = .ok (.aload_n 0, 1) := by decide +kernel
theorem dX7_putSnippet_2 : decode cX7_putSnippet 2 = .ok (.iload_n 1, 1) := by decide +kernel
theorem dX7_putSnippet_3 : decode cX7_putSnippet 3 = .ok (.invokevirtual 81, 3) := by decide +kernel
theorem dX7_putSnippet_6 : decode cX7_putSnippet 6 = .ok (.aload_n 0, 1) := by decide +kernel
theorem dX7_putSnippet_7 : decode cX7_putSnippet 7 = .ok (.iload_n 1, 1) := by decide +kernel
theorem dX7_putSnippet_8 : decode cX7_putSnippet 8 = .ok (.iload_n 2, 1) := by decide +kernel
theorem dX7_putSnippet_9 : decode cX7_putSnippet 9 = .ok (.iload_n 2, 1) := by decide +kernel
theorem dX7_putSnippet_10 : decode cX7_putSnippet 10 = .ok (.invokevirtual 131, 3) := by decide +kernel
theorem dX7_putSnippet_13 : decode cX7_putSnippet 13 = .ok (.invokevirtual 127, 3) := by decide +kernel
theorem dX7_putSnippet_16 : decode cX7_putSnippet 16 = .ok (.ireturn, 1) := by decide +kernel
theorem dX7_putChoice_0 : decode cX7_putChoice 0 = .ok (.aload_n 0, 1) := by decide +kernel
theorem dX7_putChoice_1 : decode cX7_putChoice 1 = .ok (.aload_n 0, 1) := by decide +kernel
theorem dX7_putChoice_2 : decode cX7_putChoice 2 = .ok (.iload_n 1, 1) := by decide +kernel
theorem dX7_putChoice_3 : decode cX7_putChoice 3 = .ok (.invokevirtual 81, 3) := by decide +kernel
theorem dX7_putChoice_6 : decode cX7_putChoice 6 = .ok (.aload_n 0, 1) := by decide +kernel
theorem dX7_putChoice_7 : decode cX7_putChoice 7 = .ok (.iload_n 1, 1) := by decide +kernel
theorem dX7_putChoice_8 : decode cX7_putChoice 8 = .ok (.iload_n 2, 1) := by decide +kernel
theorem dX7_putChoice_9 : decode cX7_putChoice 9 = .ok (.iload_n 3, 1) := by decide +kernel
theorem dX7_putChoice_10 : decode cX7_putChoice 10 = .ok (.invokevirtual 131, 3) := by decide +kernel
theorem dX7_putChoice_13 : decode cX7_putChoice 13 = .ok (.invokevirtual 127, 3) := by decide +kernel
theorem dX7_putChoice_16 : decode cX7_putChoice 16 = .ok (.ireturn, 1) := by decide +kernel
theorem dX7_putDate_0 : decode cX7_putDate 0 = .ok (.aload_n 0, 1) := by decide +kernel
theorem dX7_putDate_1 : decode cX7_putDate 1 = .ok (.iload_n 1, 1) := by decide +kernel
theorem dX7_putDate_2 : decode cX7_putDate 2 = .ok (.invokevirtual 81, 3) := by decide +kernel
theorem dX7_putDate_5 : decode cX7_putDate 5 = .ok (.astore 4, 2) := by decide +kernel
theorem dX7_putDate_7 : decode cX7_putDate 7 = .ok (.iload_n 2, 1) := by decide +kernel
theorem dX7_putDate_8 : decode cX7_putDate 8 = .ok (.bipush (-99), 2) := by decide +kernel
theorem dX7_putDate_10 : decode cX7_putDate 10 = .ok (.if_icmp .lt 9, 3) := by decide +kernel
theorem dX7_putDate_13 : decode cX7_putDate 13 = .ok (.iload_n 2, 1) := by decide +kernel
theorem dX7_putDate_14 : decode cX7_putDate 14 = .ok (.bipush 99, 2) := by decide +kernel
theorem dX7_putDate_16 : decode cX7_putDate 16 = .ok (.if_icmp .le 13, 3) := by decide +kernel
theorem dX7_putDate_19 : decode cX7_putDate 19 = .ok (.new 135, 3) := by decide +kernel
theorem dX7_putDate_22 : decode cX7_putDate 22 = .ok (.dup, 1) := by decide +kernel
theorem dX7_putDate_23 : decode cX7_putDate 23 = .ok (.ldc 137, 2) := by decide +kernel
theorem dX7_putDate_25 : decode cX7_putDate 25 = .ok (.invokespecial 139, 3) := by decide +kernel
theorem dX7_putDate_28 : decode cX7_putDate 28 = .ok (.athrow, 1) := by decide +kernel
theorem dX7_putDate_29 : decode cX7_putDate 29 = .ok (.iload_n 3, 1) := by decide +kernel
theorem dX7_putDate_30 : decode cX7_putDate 30 = .ok (.bipush 110, 2) := by decide +kernel
theorem dX7_putDate_32 : decode cX7_putDate 32 = .ok (.if_icmp .eq 25, 3) := by decide +kernel
theorem dX7_putDate_35 : decode cX7_putDate 35 = .ok (.iload_n 3, 1) := by decide +kernel
theorem dX7_putDate_36 : decode cX7_putDate 36 = .ok (.bipush 119, 2) := by decide +kernel
theorem dX7_putDate_38 : decode cX7_putDate 38 = .ok (.if_icmp .eq 19, 3) := by decide +kernel
theorem dX7_putDate_41 : decode cX7_putDate 41 = .ok (.iload_n 3, 1) := by decide +kernel
theorem dX7_putDate_42 : decode cX7_putDate 42 = .ok (.bipush 109, 2) := by decide +kernel
theorem dX7_putDate_44 : decode cX7_putDate 44 = .ok (.if_icmp .eq 13, 3) := by decide +kernel
theorem dX7_putDate_47 : decode cX7_putDate 47 = .ok (.new 135, 3) := by decide +kernel
theorem dX7_putDate_50 : decode cX7_putDate 50 = .ok (.dup, 1) := by decide +kernel
theorem dX7_putDate_51 : decode cX7_putDate 51 = .ok (.ldc 140, 2) := by decide +kernel
theorem dX7_putDate_53 : decode cX7_putDate 53 = .ok (.invokespecial 139, 3) := by decide +kernel
theorem dX7_putDate_56 : decode cX7_putDate 56 = .ok (.athrow, 1) := by decide +kernel
theorem dX7_putDate_57 : decode cX7_putDate 57 = .ok (.aload_n 0, 1) := by decide +kernel
theorem dX7_putDate_58 : decode cX7_putDate 58 = .ok (.aload 4, 2) := by decide +kernel
theorem dX7_putDate_60 : decode cX7_putDate 60 = .ok (.new 116, 3) := by decide +kernel
theorem dX7_putDate_63 : decode cX7_putDate 63 = .ok (.dup, 1) := by decide +kernel
theorem dX7_putDate_64 : decode cX7_putDate 64 = .ok (.getstatic 142, 3) := by decide +kernel
theorem dX7_putDate_67 : decode cX7_putDate 67 = .ok (.iload_n 2, 1) := by decide +kernel
theorem dX7_putDate_68 : decode cX7_putDate 68 = .ok (.iload_n 3, 1) := by decide +kernel
theorem dX7_putDate_69 : decode cX7_putDate 69 = .ok (.invokespecial 124, 3) := by decide +kernel
theorem dX7_putDate_72 : decode cX7_putDate 72 = .ok (.invokevirtual 127, 3) := by decide +kernel
theorem dX7_putDate_75 : decode cX7_putDate 75 = .ok (.ireturn, 1) := by decide +kernel
theorem dX7_putStop_0 : decode cX7_putStop 0 = .ok (.aload_n 0, 1) := by decide +kernel
theorem dX7_putStop_1 : decode cX7_putStop 1 = .ok (.aload_n 0, 1) := by decide +kernel
theorem dX7_putStop_2 : decode cX7_putStop 2 = .ok (.iload_n 1, 1) := by decide +kernel
theorem dX7_putStop_3 : decode cX7_putStop 3 = .ok (.invokevirtual 81, 3) := by decide +kernel
theorem dX7_putStop_6 : decode cX7_putStop 6 = .ok (.new 116, 3) := by decide +kernel
theorem dX7_putStop_9 : decode cX7_putStop 9 = .ok (.dup, 1) := by decide +kernel
theorem dX7_putStop_10 : decode cX7_putStop 10 = .ok (.getstatic 145, 3) := by decide +kernel
theorem dX7_putStop_13 : decode cX7_putStop 13 = .ok (.iconst 0, 1) := by decide +kernel
theorem dX7_putStop_14 : decode cX7_putStop 14 = .ok (.iconst 0, 1) := by decide +kernel
theorem dX7_putStop_15 : decode cX7_putStop 15 = .ok (.invokespecial 124, 3) := by decide +kernel
theorem dX7_putStop_18 : decode cX7_putStop 18 = .ok (.invokevirtual 127, 3) := by decide +kernel
theorem dX7_putStop_21 : decode cX7_putStop 21 = .ok (.ireturn, 1) := by decide +kernel
theorem dX7_clearBody_0 : decode cX7_clearBody 0 = .ok (.aload_n 0, 1) := by decide +kernel
theorem dX7_clearBody_1 : decode cX7_clearBody 1 = .ok (.iload_n 1, 1) := by decide +kernel
theorem dX7_clearBody_2 : decode cX7_clearBody 2 = .ok (.invokevirtual 81, 3) := by decide +kernel
theorem dX7_clearBody_5 : decode cX7_clearBody 5 = .ok (.astore_n 2, 1) := by decide +kernel
theorem dX7_clearBody_6 : decode cX7_clearBody 6 = .ok (.aload_n 2, 1) := by decide +kernel
theorem dX7_clearBody_7 : decode cX7_clearBody 7 = .ok (.getfield 148, 3) := by decide +kernel
theorem dX7_clearBody_10 : decode cX7_clearBody 10 = .ok (.invokevirtual 61, 3) := by decide +kernel
theorem dX7_clearBody_13 : decode cX7_clearBody 13 = .ok (.istore_n 3, 1) := by decide +kernel
theorem dX7_clearBody_14 : decode cX7_clearBody 14 = .ok (.aload_n 2, 1) := by decide +kernel
theorem dX7_clearBody_15 : decode cX7_clearBody 15 = .ok (.getfield 148, 3) := by decide +kernel
theorem dX7_clearBody_18 : decode cX7_clearBody 18 = .ok (.invokevirtual 151, 3) := by decide +kernel
theorem dX7_clearBody_21 : decode cX7_clearBody 21 = .ok (.aload_n 0, 1) := by decide +kernel
theorem dX7_clearBody_22 : decode cX7_clearBody 22 = .ok (.invokevirtual 154, 3) := by decide +kernel
theorem dX7_clearBody_25 : decode cX7_clearBody 25 = .ok (.iload_n 3, 1) := by decide +kernel
theorem dX7_clearBody_26 : decode cX7_clearBody 26 = .ok (.ireturn, 1) := by decide +kernel
theorem dX7_choose_0 : decode cX7_choose 0 = .ok (.aload_n 0, 1) := by decide +kernel
theorem dX7_choose_1 : decode cX7_choose 1 = .ok (.iload_n 1, 1) := by decide +kernel
theorem dX7_choose_2 : decode cX7_choose 2 = .ok (.invokevirtual 81, 3) := by decide +kernel
theorem dX7_choose_5 : decode cX7_choose 5 = .ok (.astore_n 3, 1) := by decide +kernel
theorem dX7_choose_6 : decode cX7_choose 6 = .ok (.aload_n 3, 1) := by decide +kernel
theorem dX7_choose_7 : decode cX7_choose 7 = .ok (.getfield 157, 3) := by decide +kernel
theorem dX7_choose_10 : decode cX7_choose 10 = .ok (.istore 4, 2) := by decide +kernel
theorem dX7_choose_12 : decode cX7_choose 12 = .ok (.aload_n 3, 1) := by decide +kernel
theorem dX7_choose_13 : decode cX7_choose 13 = .ok (.iload_n 2, 1) := by decide +kernel
theorem dX7_choose_14 : decode cX7_choose 14 = .ok (.putfield 157, 3) := by decide +kernel
theorem dX7_choose_17 : decode cX7_choose 17 = .ok (.iload 4, 2) := by decide +kernel
theorem dX7_choose_19 : decode cX7_choose 19 = .ok (.ireturn, 1) := by decide +kernel
theorem dX7_setToday_0 : decode cX7_setToday 0 = .ok (.iload_n 1, 1) := by decide +kernel
theorem dX7_setToday_1 : decode cX7_setToday 1 = .ok (.bipush 99, 2) := by decide +kernel
theorem dX7_setToday_3 : decode cX7_setToday 3 = .ok (.if_icmp .lt 10, 3) := by decide +kernel
theorem dX7_setToday_6 : decode cX7_setToday 6 = .ok (.iload_n 1, 1) := by decide +kernel
theorem dX7_setToday_7 : decode cX7_setToday 7 = .ok (.sipush 9999, 3) := by decide +kernel
theorem dX7_setToday_10 : decode cX7_setToday 10 = .ok (.if_icmp .le 13, 3) := by decide +kernel
theorem dX7_setToday_13 : decode cX7_setToday 13 = .ok (.new 135, 3) := by decide +kernel
theorem dX7_setToday_16 : decode cX7_setToday 16 = .ok (.dup, 1) := by decide +kernel
theorem dX7_setToday_17 : decode cX7_setToday 17 = .ok (.ldc 160, 2) := by decide +kernel
theorem dX7_setToday_19 : decode cX7_setToday 19 = .ok (.invokespecial 139, 3) := by decide +kernel
theorem dX7_setToday_22 : decode cX7_setToday 22 = .ok (.athrow, 1) := by decide +kernel
theorem dX7_setToday_23 : decode cX7_setToday 23 = .ok (.aload_n 0, 1) := by decide +kernel
theorem dX7_setToday_24 : decode cX7_setToday 24 = .ok (.getfield 40, 3) := by decide +kernel
theorem dX7_setToday_27 : decode cX7_setToday 27 = .ok (.istore_n 2, 1) := by decide +kernel
theorem dX7_setToday_28 : decode cX7_setToday 28 = .ok (.aload_n 0, 1) := by decide +kernel
theorem dX7_setToday_29 : decode cX7_setToday 29 = .ok (.iload_n 1, 1) := by decide +kernel
theorem dX7_setToday_30 : decode cX7_setToday 30 = .ok (.putfield 40, 3) := by decide +kernel
theorem dX7_setToday_33 : decode cX7_setToday 33 = .ok (.iload_n 2, 1) := by decide +kernel
theorem dX7_setToday_34 : decode cX7_setToday 34 = .ok (.ireturn, 1) := by decide +kernel
theorem dX7_lengthOf_0 : decode cX7_lengthOf 0 = .ok (.aload_n 0, 1) := by decide +kernel
theorem dX7_lengthOf_1 : decode cX7_lengthOf 1 = .ok (.aload_n 0, 1) := by decide +kernel
theorem dX7_lengthOf_2 : decode cX7_lengthOf 2 = .ok (.iload_n 1, 1) := by decide +kernel
theorem dX7_lengthOf_3 : decode cX7_lengthOf 3 = .ok (.invokevirtual 81, 3) := by decide +kernel
theorem dX7_lengthOf_6 : decode cX7_lengthOf 6 = .ok (.invokevirtual 162, 3) := by decide +kernel
theorem dX7_lengthOf_9 : decode cX7_lengthOf 9 = .ok (.aload_n 0, 1) := by decide +kernel
theorem dX7_lengthOf_10 : decode cX7_lengthOf 10 = .ok (.getfield 26, 3) := by decide +kernel
theorem dX7_lengthOf_13 : decode cX7_lengthOf 13 = .ok (.getfield 166, 3) := by decide +kernel
theorem dX7_lengthOf_16 : decode cX7_lengthOf 16 = .ok (.invokevirtual 107, 3) := by decide +kernel
theorem dX7_lengthOf_19 : decode cX7_lengthOf 19 = .ok (.ireturn, 1) := by decide +kernel
theorem dX7_characterOf_0 : decode cX7_characterOf 0 = .ok (.aload_n 0, 1) := by decide +kernel
theorem dX7_characterOf_1 : decode cX7_characterOf 1 = .ok (.aload_n 0, 1) := by decide +kernel
theorem dX7_characterOf_2 : decode cX7_characterOf 2 = .ok (.iload_n 1, 1) := by decide +kernel
theorem dX7_characterOf_3 : decode cX7_characterOf 3 = .ok (.invokevirtual 81, 3) := by decide +kernel
theorem dX7_characterOf_6 : decode cX7_characterOf 6 = .ok (.invokevirtual 162, 3) := by decide +kernel
theorem dX7_characterOf_9 : decode cX7_characterOf 9 = .ok (.aload_n 0, 1) := by decide +kernel
theorem dX7_characterOf_10 : decode cX7_characterOf 10 = .ok (.getfield 26, 3) := by decide +kernel
theorem dX7_characterOf_13 : decode cX7_characterOf 13 = .ok (.getfield 166, 3) := by decide +kernel
theorem dX7_characterOf_16 : decode cX7_characterOf 16 = .ok (.iload_n 2, 1) := by decide +kernel
theorem dX7_characterOf_17 : decode cX7_characterOf 17 = .ok (.invokevirtual 169, 3) := by decide +kernel
theorem dX7_characterOf_20 : decode cX7_characterOf 20 = .ok (.ifCond .ne 13, 3) := by decide +kernel
theorem dX7_characterOf_23 : decode cX7_characterOf 23 = .ok (.new 173, 3) := by decide +kernel
theorem dX7_characterOf_26 : decode cX7_characterOf 26 = .ok (.dup, 1) := by decide +kernel
theorem dX7_characterOf_27 : decode cX7_characterOf 27 = .ok (.ldc 175, 2) := by decide +kernel
theorem dX7_characterOf_29 : decode cX7_characterOf 29 = .ok (.invokespecial 177, 3) := by decide +kernel
theorem dX7_characterOf_32 : decode cX7_characterOf 32 = .ok (.athrow, 1) := by decide +kernel
theorem dX7_characterOf_33 : decode cX7_characterOf 33 = .ok (.aload_n 0, 1) := by decide +kernel
theorem dX7_characterOf_34 : decode cX7_characterOf 34 = .ok (.getfield 26, 3) := by decide +kernel
theorem dX7_characterOf_37 : decode cX7_characterOf 37 = .ok (.getfield 166, 3) := by decide +kernel
theorem dX7_characterOf_40 : decode cX7_characterOf 40 = .ok (.iload_n 2, 1) := by decide +kernel
theorem dX7_characterOf_41 : decode cX7_characterOf 41 = .ok (.invokevirtual 178, 3) := by decide +kernel
theorem dX7_characterOf_44 : decode cX7_characterOf 44 = .ok (.i2c, 1) := by decide +kernel
theorem dX7_characterOf_45 : decode cX7_characterOf 45 = .ok (.ireturn, 1) := by decide +kernel
theorem dX7_stopsOf_0 : decode cX7_stopsOf 0 = .ok (.aload_n 0, 1) := by decide +kernel
theorem dX7_stopsOf_1 : decode cX7_stopsOf 1 = .ok (.aload_n 0, 1) := by decide +kernel
theorem dX7_stopsOf_2 : decode cX7_stopsOf 2 = .ok (.iload_n 1, 1) := by decide +kernel
theorem dX7_stopsOf_3 : decode cX7_stopsOf 3 = .ok (.invokevirtual 81, 3) := by decide +kernel
theorem dX7_stopsOf_6 : decode cX7_stopsOf 6 = .ok (.invokevirtual 162, 3) := by decide +kernel
theorem dX7_stopsOf_9 : decode cX7_stopsOf 9 = .ok (.aload_n 0, 1) := by decide +kernel
theorem dX7_stopsOf_10 : decode cX7_stopsOf 10 = .ok (.getfield 26, 3) := by decide +kernel
theorem dX7_stopsOf_13 : decode cX7_stopsOf 13 = .ok (.getfield 182, 3) := by decide +kernel
theorem dX7_stopsOf_16 : decode cX7_stopsOf 16 = .ok (.invokevirtual 107, 3) := by decide +kernel
theorem dX7_stopsOf_19 : decode cX7_stopsOf 19 = .ok (.ireturn, 1) := by decide +kernel
theorem dX7_stopOf_0 : decode cX7_stopOf 0 = .ok (.aload_n 0, 1) := by decide +kernel
theorem dX7_stopOf_1 : decode cX7_stopOf 1 = .ok (.aload_n 0, 1) := by decide +kernel
theorem dX7_stopOf_2 : decode cX7_stopOf 2 = .ok (.iload_n 1, 1) := by decide +kernel
theorem dX7_stopOf_3 : decode cX7_stopOf 3 = .ok (.invokevirtual 81, 3) := by decide +kernel
theorem dX7_stopOf_6 : decode cX7_stopOf 6 = .ok (.invokevirtual 162, 3) := by decide +kernel
theorem dX7_stopOf_9 : decode cX7_stopOf 9 = .ok (.aload_n 0, 1) := by decide +kernel
theorem dX7_stopOf_10 : decode cX7_stopOf 10 = .ok (.getfield 26, 3) := by decide +kernel
theorem dX7_stopOf_13 : decode cX7_stopOf 13 = .ok (.getfield 182, 3) := by decide +kernel
theorem dX7_stopOf_16 : decode cX7_stopOf 16 = .ok (.iload_n 2, 1) := by decide +kernel
theorem dX7_stopOf_17 : decode cX7_stopOf 17 = .ok (.invokevirtual 169, 3) := by decide +kernel
theorem dX7_stopOf_20 : decode cX7_stopOf 20 = .ok (.ifCond .ne 13, 3) := by decide +kernel
theorem dX7_stopOf_23 : decode cX7_stopOf 23 = .ok (.new 173, 3) := by decide +kernel
theorem dX7_stopOf_26 : decode cX7_stopOf 26 = .ok (.dup, 1) := by decide +kernel
theorem dX7_stopOf_27 : decode cX7_stopOf 27 = .ok (.ldc 185, 2) := by decide +kernel
theorem dX7_stopOf_29 : decode cX7_stopOf 29 = .ok (.invokespecial 177, 3) := by decide +kernel
theorem dX7_stopOf_32 : decode cX7_stopOf 32 = .ok (.athrow, 1) := by decide +kernel
theorem dX7_stopOf_33 : decode cX7_stopOf 33 = .ok (.aload_n 0, 1) := by decide +kernel
theorem dX7_stopOf_34 : decode cX7_stopOf 34 = .ok (.getfield 26, 3) := by decide +kernel
theorem dX7_stopOf_37 : decode cX7_stopOf 37 = .ok (.getfield 182, 3) := by decide +kernel
theorem dX7_stopOf_40 : decode cX7_stopOf 40 = .ok (.iload_n 2, 1) := by decide +kernel
theorem dX7_stopOf_41 : decode cX7_stopOf 41 = .ok (.invokevirtual 178, 3) := by decide +kernel
theorem dX7_stopOf_44 : decode cX7_stopOf 44 = .ok (.ireturn, 1) := by decide +kernel
theorem dX7_comesTo_0 : decode cX7_comesTo 0 = .ok (.aload_n 0, 1) := by decide +kernel
theorem dX7_comesTo_1 : decode cX7_comesTo 1 = .ok (.iload_n 1, 1) := by decide +kernel
theorem dX7_comesTo_2 : decode cX7_comesTo 2 = .ok (.invokevirtual 81, 3) := by decide +kernel
theorem dX7_comesTo_5 : decode cX7_comesTo 5 = .ok (.astore_n 3, 1) := by decide +kernel
theorem dX7_comesTo_6 : decode cX7_comesTo 6 = .ok (.aload_n 0, 1) := by decide +kernel
theorem dX7_comesTo_7 : decode cX7_comesTo 7 = .ok (.iload_n 2, 1) := by decide +kernel
theorem dX7_comesTo_8 : decode cX7_comesTo 8 = .ok (.invokevirtual 187, 3) := by decide +kernel
theorem dX7_comesTo_11 : decode cX7_comesTo 11 = .ok (.aload_n 3, 1) := by decide +kernel
theorem dX7_comesTo_12 : decode cX7_comesTo 12 = .ok (.iload_n 2, 1) := by decide +kernel
theorem dX7_comesTo_13 : decode cX7_comesTo 13 = .ok (.invokevirtual 190, 3) := by decide +kernel
theorem dX7_comesTo_16 : decode cX7_comesTo 16 = .ok (.ireturn, 1) := by decide +kernel
theorem dX7_depth_0 : decode cX7_depth 0 = .ok (.aload_n 0, 1) := by decide +kernel
theorem dX7_depth_1 : decode cX7_depth 1 = .ok (.iload_n 1, 1) := by decide +kernel
theorem dX7_depth_2 : decode cX7_depth 2 = .ok (.invokevirtual 81, 3) := by decide +kernel
theorem dX7_depth_5 : decode cX7_depth 5 = .ok (.getfield 193, 3) := by decide +kernel
theorem dX7_depth_8 : decode cX7_depth 8 = .ok (.ireturn, 1) := by decide +kernel
theorem dX7_isShadowedBy_0 : decode cX7_isShadowedBy 0 = .ok (.aload_n 0, 1) := by decide +kernel
theorem dX7_isShadowedBy_1 : decode cX7_isShadowedBy 1 = .ok (.iload_n 1, 1) := by decide +kernel
theorem dX7_isShadowedBy_2 : decode cX7_isShadowedBy 2 = .ok (.iload_n 2, 1) := by decide +kernel
theorem dX7_isShadowedBy_3 : decode cX7_isShadowedBy 3 = .ok (.invokevirtual 196, 3) := by decide +kernel
theorem dX7_isShadowedBy_6 : decode cX7_isShadowedBy 6 = .ok (.ireturn, 1) := by decide +kernel
theorem dX7_shadower_0 : decode cX7_shadower 0 = .ok (.aload_n 0, 1) := by decide +kernel
theorem dX7_shadower_1 : decode cX7_shadower 1 = .ok (.iload_n 1, 1) := by decide +kernel
theorem dX7_shadower_2 : decode cX7_shadower 2 = .ok (.invokevirtual 187, 3) := by decide +kernel
theorem dX7_shadower_5 : decode cX7_shadower 5 = .ok (.aload_n 0, 1) := by decide +kernel
theorem dX7_shadower_6 : decode cX7_shadower 6 = .ok (.iload_n 1, 1) := by decide +kernel
theorem dX7_shadower_7 : decode cX7_shadower 7 = .ok (.invokevirtual 200, 3) := by decide +kernel
theorem dX7_shadower_10 : decode cX7_shadower 10 = .ok (.istore_n 2, 1) := by decide +kernel
theorem dX7_shadower_11 : decode cX7_shadower 11 = .ok (.iload_n 2, 1) := by decide +kernel
theorem dX7_shadower_12 : decode cX7_shadower 12 = .ok (.iconst (-1), 1) := by decide +kernel
theorem dX7_shadower_13 : decode cX7_shadower 13 = .ok (.if_icmp .ne 13, 3) := by decide +kernel
theorem dX7_shadower_16 : decode cX7_shadower 16 = .ok (.new 173, 3) := by decide +kernel
theorem dX7_shadower_19 : decode cX7_shadower 19 = .ok (.dup, 1) := by decide +kernel
theorem dX7_shadower_20 : decode cX7_shadower 20 = .ok (.ldc 203, 2) := by decide +kernel
theorem dX7_shadower_22 : decode cX7_shadower 22 = .ok (.invokespecial 177, 3) := by decide +kernel
theorem dX7_shadower_25 : decode cX7_shadower 25 = .ok (.athrow, 1) := by decide +kernel
theorem dX7_shadower_26 : decode cX7_shadower 26 = .ok (.iload_n 2, 1) := by decide +kernel
theorem dX7_shadower_27 : decode cX7_shadower 27 = .ok (.ireturn, 1) := by decide +kernel
theorem dX7_clashes_0 : decode cX7_clashes 0 = .ok (.iconst 0, 1) := by decide +kernel
theorem dX7_clashes_1 : decode cX7_clashes 1 = .ok (.istore_n 1, 1) := by decide +kernel
theorem dX7_clashes_2 : decode cX7_clashes 2 = .ok (.iconst 0, 1) := by decide +kernel
theorem dX7_clashes_3 : decode cX7_clashes 3 = .ok (.istore_n 2, 1) := by decide +kernel
theorem dX7_clashes_4 : decode cX7_clashes 4 = .ok (.iload_n 2, 1) := by decide +kernel
theorem dX7_clashes_5 : decode cX7_clashes 5 = .ok (.aload_n 0, 1) := by decide +kernel
theorem dX7_clashes_6 : decode cX7_clashes 6 = .ok (.getfield 12, 3) := by decide +kernel
theorem dX7_clashes_9 : decode cX7_clashes 9 = .ok (.invokevirtual 61, 3) := by decide +kernel
theorem dX7_clashes_12 : decode cX7_clashes 12 = .ok (.if_icmp .ge 21, 3) := by decide +kernel
theorem dX7_clashes_15 : decode cX7_clashes 15 = .ok (.aload_n 0, 1) := by decide +kernel
theorem dX7_clashes_16 : decode cX7_clashes 16 = .ok (.iload_n 2, 1) := by decide +kernel
theorem dX7_clashes_17 : decode cX7_clashes 17 = .ok (.invokevirtual 200, 3) := by decide +kernel
theorem dX7_clashes_20 : decode cX7_clashes 20 = .ok (.iconst (-1), 1) := by decide +kernel
theorem dX7_clashes_21 : decode cX7_clashes 21 = .ok (.if_icmp .eq 6, 3) := by decide +kernel
theorem dX7_clashes_24 : decode cX7_clashes 24 = .ok (.iinc 1 1, 3) := by decide +kernel
theorem dX7_clashes_27 : decode cX7_clashes 27 = .ok (.iinc 2 1, 3) := by decide +kernel
theorem dX7_clashes_30 : decode cX7_clashes 30 = .ok (.goto (-26), 3) := by decide +kernel
theorem dX7_clashes_33 : decode cX7_clashes 33 = .ok (.iload_n 1, 1) := by decide +kernel
theorem dX7_clashes_34 : decode cX7_clashes 34 = .ok (.ireturn, 1) := by decide +kernel
theorem dX7_key_0 : decode cX7_key 0 = .ok (.iload_n 1, 1) := by decide +kernel
theorem dX7_key_1 : decode cX7_key 1 = .ok (.invokestatic 85, 3) := by decide +kernel
theorem dX7_key_4 : decode cX7_key 4 = .ok (.aload_n 0, 1) := by decide +kernel
theorem dX7_key_5 : decode cX7_key 5 = .ok (.getfield 33, 3) := by decide +kernel
theorem dX7_key_8 : decode cX7_key 8 = .ok (.getfield 205, 3) := by decide +kernel
theorem dX7_key_11 : decode cX7_key 11 = .ok (.invokevirtual 93, 3) := by decide +kernel
theorem dX7_key_14 : decode cX7_key 14 = .ok (.ifCond .eq 13, 3) := by decide +kernel
theorem dX7_key_17 : decode cX7_key 17 = .ok (.new 65, 3) := by decide +kernel
theorem dX7_key_20 : decode cX7_key 20 = .ok (.dup, 1) := by decide +kernel
theorem dX7_key_21 : decode cX7_key 21 = .ok (.ldc 206, 2) := by decide +kernel
theorem dX7_key_23 : decode cX7_key 23 = .ok (.invokespecial 69, 3) := by decide +kernel
theorem dX7_key_26 : decode cX7_key 26 = .ok (.athrow, 1) := by decide +kernel
theorem dX7_key_27 : decode cX7_key 27 = .ok (.aload_n 0, 1) := by decide +kernel
theorem dX7_key_28 : decode cX7_key 28 = .ok (.iconst 0, 1) := by decide +kernel
theorem dX7_key_29 : decode cX7_key 29 = .ok (.putfield 44, 3) := by decide +kernel
theorem dX7_key_32 : decode cX7_key 32 = .ok (.aload_n 0, 1) := by decide +kernel
theorem dX7_key_33 : decode cX7_key 33 = .ok (.getfield 33, 3) := by decide +kernel
theorem dX7_key_36 : decode cX7_key 36 = .ok (.iload_n 1, 1) := by decide +kernel
theorem dX7_key_37 : decode cX7_key 37 = .ok (.invokevirtual 208, 3) := by decide +kernel
theorem dX7_key_40 : decode cX7_key 40 = .ok (.aload_n 0, 1) := by decide +kernel
theorem dX7_key_41 : decode cX7_key 41 = .ok (.invokevirtual 211, 3) := by decide +kernel
theorem dX7_key_44 : decode cX7_key 44 = .ok (.istore_n 2, 1) := by decide +kernel
theorem dX7_key_45 : decode cX7_key 45 = .ok (.iload_n 2, 1) := by decide +kernel
theorem dX7_key_46 : decode cX7_key 46 = .ok (.iconst (-1), 1) := by decide +kernel
theorem dX7_key_47 : decode cX7_key 47 = .ok (.if_icmp .ne 5, 3) := by decide +kernel
theorem dX7_key_50 : decode cX7_key 50 = .ok (.iconst (-1), 1) := by decide +kernel
theorem dX7_key_51 : decode cX7_key 51 = .ok (.ireturn, 1) := by decide +kernel
theorem dX7_key_52 : decode cX7_key 52 = .ok (.aload_n 0, 1) := by decide +kernel
theorem dX7_key_53 : decode cX7_key 53 = .ok (.aload_n 0, 1) := by decide +kernel
theorem dX7_key_54 : decode cX7_key 54 = .ok (.iload_n 2, 1) := by decide +kernel
theorem dX7_key_55 : decode cX7_key 55 = .ok (.invokevirtual 81, 3) := by decide +kernel
theorem dX7_key_58 : decode cX7_key 58 = .ok (.invokevirtual 214, 3) := by decide +kernel
theorem dX7_key_61 : decode cX7_key 61 = .ok (.ifCond .eq 7, 3) := by decide +kernel
theorem dX7_key_64 : decode cX7_key 64 = .ok (.iload_n 2, 1) := by decide +kernel
theorem dX7_key_65 : decode cX7_key 65 = .ok (.goto 4, 3) := by decide +kernel
theorem dX7_key_68 : decode cX7_key 68 = .ok (.iconst (-1), 1) := by decide +kernel
theorem dX7_key_69 : decode cX7_key 69 = .ok (.ireturn, 1) := by decide +kernel
theorem dX7_erase_0 : decode cX7_erase 0 = .ok (.aload_n 0, 1) := by decide +kernel
theorem dX7_erase_1 : decode cX7_erase 1 = .ok (.getfield 33, 3) := by decide +kernel
theorem dX7_erase_4 : decode cX7_erase 4 = .ok (.getfield 218, 3) := by decide +kernel
theorem dX7_erase_7 : decode cX7_erase 7 = .ok (.ifCond .gt 13, 3) := by decide +kernel
theorem dX7_erase_10 : decode cX7_erase 10 = .ok (.new 173, 3) := by decide +kernel
theorem dX7_erase_13 : decode cX7_erase 13 = .ok (.dup, 1) := by decide +kernel
theorem dX7_erase_14 : decode cX7_erase 14 = .ok (.ldc 221, 2) := by decide +kernel
theorem dX7_erase_16 : decode cX7_erase 16 = .ok (.invokespecial 177, 3) := by decide +kernel
theorem dX7_erase_19 : decode cX7_erase 19 = .ok (.athrow, 1) := by decide +kernel
theorem dX7_erase_20 : decode cX7_erase 20 = .ok (.aload_n 0, 1) := by decide +kernel
theorem dX7_erase_21 : decode cX7_erase 21 = .ok (.iconst 0, 1) := by decide +kernel
theorem dX7_erase_22 : decode cX7_erase 22 = .ok (.putfield 44, 3) := by decide +kernel
theorem dX7_erase_25 : decode cX7_erase 25 = .ok (.aload_n 0, 1) := by decide +kernel
theorem dX7_erase_26 : decode cX7_erase 26 = .ok (.getfield 33, 3) := by decide +kernel
theorem dX7_erase_29 : decode cX7_erase 29 = .ok (.invokevirtual 223, 3) := by decide +kernel
theorem dX7_erase_32 : decode cX7_erase 32 = .ok (.i2c, 1) := by decide +kernel
theorem dX7_erase_33 : decode cX7_erase 33 = .ok (.ireturn, 1) := by decide +kernel
theorem dX7_moveCaret_0 : decode cX7_moveCaret 0 = .ok (.iload_n 1, 1) := by decide +kernel
theorem dX7_moveCaret_1 : decode cX7_moveCaret 1 = .ok (.aload_n 0, 1) := by decide +kernel
theorem dX7_moveCaret_2 : decode cX7_moveCaret 2 = .ok (.getfield 33, 3) := by decide +kernel
theorem dX7_moveCaret_5 : decode cX7_moveCaret 5 = .ok (.getfield 218, 3) := by decide +kernel
theorem dX7_moveCaret_8 : decode cX7_moveCaret 8 = .ok (.ineg, 1) := by decide +kernel
theorem dX7_moveCaret_9 : decode cX7_moveCaret 9 = .ok (.if_icmp .lt 25, 3) := by decide +kernel
theorem dX7_moveCaret_12 : decode cX7_moveCaret 12 = .ok (.iload_n 1, 1) := by decide +kernel
theorem dX7_moveCaret_13 : decode cX7_moveCaret 13 = .ok (.aload_n 0, 1) := by decide +kernel
theorem dX7_moveCaret_14 : decode cX7_moveCaret 14 = .ok (.getfield 33, 3) := by decide +kernel
theorem dX7_moveCaret_17 : decode cX7_moveCaret 17 = .ok (.getfield 205, 3) := by decide +kernel
theorem dX7_moveCaret_20 : decode cX7_moveCaret 20 = .ok (.invokevirtual 107, 3) := by decide +kernel
theorem dX7_moveCaret_23 : decode cX7_moveCaret 23 = .ok (.aload_n 0, 1) := by decide +kernel
theorem dX7_moveCaret_24 : decode cX7_moveCaret 24 = .ok (.getfield 33, 3) := by decide +kernel
theorem dX7_moveCaret_27 : decode cX7_moveCaret 27 = .ok (.getfield 218, 3) := by decide +kernel
theorem dX7_moveCaret_30 : decode cX7_moveCaret 30 = .ok (.isub, 1) := by decide +kernel
theorem dX7_moveCaret_31 : decode cX7_moveCaret 31 = .ok (.if_icmp .le 13, 3) := by decide +kernel
theorem dX7_moveCaret_34 : decode cX7_moveCaret 34 = .ok (.new 135, 3) := by decide +kernel
theorem dX7_moveCaret_37 : decode cX7_moveCaret 37 = .ok (.dup, 1) := by decide +kernel
theorem dX7_moveCaret_38 : decode cX7_moveCaret 38 = .ok (.ldc 226, 2) := by decide +kernel
theorem dX7_moveCaret_40 : decode cX7_moveCaret 40 = .ok (.invokespecial 139, 3) := by decide +kernel
theorem dX7_moveCaret_43 : decode cX7_moveCaret 43 = .ok (.athrow, 1) := by decide +kernel
theorem dX7_moveCaret_44 : decode cX7_moveCaret 44 = .ok (.aload_n 0, 1) := by decide +kernel
theorem dX7_moveCaret_45 : decode cX7_moveCaret 45 = .ok (.iconst 0, 1) := by decide +kernel
theorem dX7_moveCaret_46 : decode cX7_moveCaret 46 = .ok (.putfield 44, 3) := by decide +kernel
theorem dX7_moveCaret_49 : decode cX7_moveCaret 49 = .ok (.aload_n 0, 1) := by decide +kernel
theorem dX7_moveCaret_50 : decode cX7_moveCaret 50 = .ok (.getfield 33, 3) := by decide +kernel
theorem dX7_moveCaret_53 : decode cX7_moveCaret 53 = .ok (.dup, 1) := by decide +kernel
theorem dX7_moveCaret_54 : decode cX7_moveCaret 54 = .ok (.getfield 218, 3) := by decide +kernel
theorem dX7_moveCaret_57 : decode cX7_moveCaret 57 = .ok (.iload_n 1, 1) := by decide +kernel
theorem dX7_moveCaret_58 : decode cX7_moveCaret 58 = .ok (.iadd, 1) := by decide +kernel
theorem dX7_moveCaret_59 : decode cX7_moveCaret 59 = .ok (.putfield 218, 3) := by decide +kernel
theorem dX7_moveCaret_62 : decode cX7_moveCaret 62 = .ok (.aload_n 0, 1) := by decide +kernel
theorem dX7_moveCaret_63 : decode cX7_moveCaret 63 = .ok (.getfield 33, 3) := by decide +kernel
theorem dX7_moveCaret_66 : decode cX7_moveCaret 66 = .ok (.getfield 218, 3) := by decide +kernel
theorem dX7_moveCaret_69 : decode cX7_moveCaret 69 = .ok (.ireturn, 1) := by decide +kernel
theorem dX7_nextStop_0 : decode cX7_nextStop 0 = .ok (.aload_n 0, 1) := by decide +kernel
theorem dX7_nextStop_1 : decode cX7_nextStop 1 = .ok (.getfield 33, 3) := by decide +kernel
theorem dX7_nextStop_4 : decode cX7_nextStop 4 = .ok (.getfield 228, 3) := by decide +kernel
theorem dX7_nextStop_7 : decode cX7_nextStop 7 = .ok (.iconst 0, 1) := by decide +kernel
theorem dX7_nextStop_8 : decode cX7_nextStop 8 = .ok (.invokevirtual 169, 3) := by decide +kernel
theorem dX7_nextStop_11 : decode cX7_nextStop 11 = .ok (.ifCond .ne 13, 3) := by decide +kernel
theorem dX7_nextStop_14 : decode cX7_nextStop 14 = .ok (.new 173, 3) := by decide +kernel
theorem dX7_nextStop_17 : decode cX7_nextStop 17 = .ok (.dup, 1) := by decide +kernel
theorem dX7_nextStop_18 : decode cX7_nextStop 18 = .ok (.ldc 229, 2) := by decide +kernel
theorem dX7_nextStop_20 : decode cX7_nextStop 20 = .ok (.invokespecial 177, 3) := by decide +kernel
theorem dX7_nextStop_23 : decode cX7_nextStop 23 = .ok (.athrow, 1) := by decide +kernel
theorem dX7_nextStop_24 : decode cX7_nextStop 24 = .ok (.aload_n 0, 1) := by decide +kernel
theorem dX7_nextStop_25 : decode cX7_nextStop 25 = .ok (.iconst 0, 1) := by decide +kernel
theorem dX7_nextStop_26 : decode cX7_nextStop 26 = .ok (.putfield 44, 3) := by decide +kernel
theorem dX7_nextStop_29 : decode cX7_nextStop 29 = .ok (.aload_n 0, 1) := by decide +kernel
theorem dX7_nextStop_30 : decode cX7_nextStop 30 = .ok (.getfield 33, 3) := by decide +kernel
theorem dX7_nextStop_33 : decode cX7_nextStop 33 = .ok (.aload_n 0, 1) := by decide +kernel
theorem dX7_nextStop_34 : decode cX7_nextStop 34 = .ok (.getfield 33, 3) := by decide +kernel
theorem dX7_nextStop_37 : decode cX7_nextStop 37 = .ok (.getfield 228, 3) := by decide +kernel
theorem dX7_nextStop_40 : decode cX7_nextStop 40 = .ok (.iconst 0, 1) := by decide +kernel
theorem dX7_nextStop_41 : decode cX7_nextStop 41 = .ok (.invokevirtual 231, 3) := by decide +kernel
theorem dX7_nextStop_44 : decode cX7_nextStop 44 = .ok (.putfield 218, 3) := by decide +kernel
theorem dX7_nextStop_47 : decode cX7_nextStop 47 = .ok (.aload_n 0, 1) := by decide +kernel
theorem dX7_nextStop_48 : decode cX7_nextStop 48 = .ok (.getfield 33, 3) := by decide +kernel
theorem dX7_nextStop_51 : decode cX7_nextStop 51 = .ok (.getfield 218, 3) := by decide +kernel
theorem dX7_nextStop_54 : decode cX7_nextStop 54 = .ok (.ireturn, 1) := by decide +kernel
theorem dX7_undo_0 : decode cX7_undo 0 = .ok (.aload_n 0, 1) := by decide +kernel
theorem dX7_undo_1 : decode cX7_undo 1 = .ok (.getfield 44, 3) := by decide +kernel
theorem dX7_undo_4 : decode cX7_undo 4 = .ok (.ifCond .ne 13, 3) := by decide +kernel
theorem dX7_undo_7 : decode cX7_undo 7 = .ok (.new 65, 3) := by decide +kernel
theorem dX7_undo_10 : decode cX7_undo 10 = .ok (.dup, 1) := by decide +kernel
theorem dX7_undo_11 : decode cX7_undo 11 = .ok (.ldc 234, 2) := by decide +kernel
theorem dX7_undo_13 : decode cX7_undo 13 = .ok (.invokespecial 69, 3) := by decide +kernel
theorem dX7_undo_16 : decode cX7_undo 16 = .ok (.athrow, 1) := by decide +kernel
theorem dX7_undo_17 : decode cX7_undo 17 = .ok (.aload_n 0, 1) := by decide +kernel
theorem dX7_undo_18 : decode cX7_undo 18 = .ok (.iconst 0, 1) := by decide +kernel
theorem dX7_undo_19 : decode cX7_undo 19 = .ok (.putfield 44, 3) := by decide +kernel
theorem dX7_undo_22 : decode cX7_undo 22 = .ok (.aload_n 0, 1) := by decide +kernel
theorem dX7_undo_23 : decode cX7_undo 23 = .ok (.getfield 33, 3) := by decide +kernel
theorem dX7_undo_26 : decode cX7_undo 26 = .ok (.aload_n 0, 1) := by decide +kernel
theorem dX7_undo_27 : decode cX7_undo 27 = .ok (.getfield 37, 3) := by decide +kernel
theorem dX7_undo_30 : decode cX7_undo 30 = .ok (.invokevirtual 236, 3) := by decide +kernel
theorem dX7_undo_33 : decode cX7_undo 33 = .ok (.aload_n 0, 1) := by decide +kernel
theorem dX7_undo_34 : decode cX7_undo 34 = .ok (.dup, 1) := by decide +kernel
theorem dX7_undo_35 : decode cX7_undo 35 = .ok (.getfield 51, 3) := by decide +kernel
theorem dX7_undo_38 : decode cX7_undo 38 = .ok (.aload_n 0, 1) := by decide +kernel
theorem dX7_undo_39 : decode cX7_undo 39 = .ok (.getfield 48, 3) := by decide +kernel
theorem dX7_undo_42 : decode cX7_undo 42 = .ok (.i2l, 1) := by decide +kernel
theorem dX7_undo_43 : decode cX7_undo 43 = .ok (.lsub, 1) := by decide +kernel
theorem dX7_undo_44 : decode cX7_undo 44 = .ok (.putfield 51, 3) := by decide +kernel
theorem dX7_undo_47 : decode cX7_undo 47 = .ok (.aload_n 0, 1) := by decide +kernel
theorem dX7_undo_48 : decode cX7_undo 48 = .ok (.dup, 1) := by decide +kernel
theorem dX7_undo_49 : decode cX7_undo 49 = .ok (.getfield 58, 3) := by decide +kernel
theorem dX7_undo_52 : decode cX7_undo 52 = .ok (.iconst 1, 1) := by decide +kernel
theorem dX7_undo_53 : decode cX7_undo 53 = .ok (.iadd, 1) := by decide +kernel
theorem dX7_undo_54 : decode cX7_undo 54 = .ok (.putfield 58, 3) := by decide +kernel
theorem dX7_undo_57 : decode cX7_undo 57 = .ok (.aload_n 0, 1) := by decide +kernel
theorem dX7_undo_58 : decode cX7_undo 58 = .ok (.getfield 33, 3) := by decide +kernel
theorem dX7_undo_61 : decode cX7_undo 61 = .ok (.getfield 205, 3) := by decide +kernel
theorem dX7_undo_64 : decode cX7_undo 64 = .ok (.invokevirtual 107, 3) := by decide +kernel
theorem dX7_undo_67 : decode cX7_undo 67 = .ok (.ireturn, 1) := by decide +kernel
theorem dX7_length_0 : decode cX7_length 0 = .ok (.aload_n 0, 1) := by decide +kernel
theorem dX7_length_1 : decode cX7_length 1 = .ok (.getfield 33, 3) := by decide +kernel
theorem dX7_length_4 : decode cX7_length 4 = .ok (.getfield 205, 3) := by decide +kernel
theorem dX7_length_7 : decode cX7_length 7 = .ok (.invokevirtual 107, 3) := by decide +kernel
theorem dX7_length_10 : decode cX7_length 10 = .ok (.ireturn, 1) := by decide +kernel
theorem dX7_characterAt_0 : decode cX7_characterAt 0 = .ok (.aload_n 0, 1) := by decide +kernel
theorem dX7_characterAt_1 : decode cX7_characterAt 1 = .ok (.getfield 33, 3) := by decide +kernel
theorem dX7_characterAt_4 : decode cX7_characterAt 4 = .ok (.getfield 205, 3) := by decide +kernel
theorem dX7_characterAt_7 : decode cX7_characterAt 7 = .ok (.iload_n 1, 1) := by decide +kernel
theorem dX7_characterAt_8 : decode cX7_characterAt 8 = .ok (.invokevirtual 169, 3) := by decide +kernel
theorem dX7_characterAt_11 : decode cX7_characterAt 11 = .ok (.ifCond .ne 13, 3) := by decide +kernel
theorem dX7_characterAt_14 : decode cX7_characterAt 14 = .ok (.new 240, 3) := by decide +kernel
theorem dX7_characterAt_17 : decode cX7_characterAt 17 = .ok (.dup, 1) := by decide +kernel
theorem dX7_characterAt_18 : decode cX7_characterAt 18 = .ok (.ldc 175, 2) := by decide +kernel
theorem dX7_characterAt_20 : decode cX7_characterAt 20 = .ok (.invokespecial 242, 3) := by decide +kernel
theorem dX7_characterAt_23 : decode cX7_characterAt 23 = .ok (.athrow, 1) := by decide +kernel
theorem dX7_characterAt_24 : decode cX7_characterAt 24 = .ok (.aload_n 0, 1) := by decide +kernel
theorem dX7_characterAt_25 : decode cX7_characterAt 25 = .ok (.getfield 33, 3) := by decide +kernel
theorem dX7_characterAt_28 : decode cX7_characterAt 28 = .ok (.getfield 205, 3) := by decide +kernel
theorem dX7_characterAt_31 : decode cX7_characterAt 31 = .ok (.iload_n 1, 1) := by decide +kernel
theorem dX7_characterAt_32 : decode cX7_characterAt 32 = .ok (.invokevirtual 178, 3) := by decide +kernel
theorem dX7_characterAt_35 : decode cX7_characterAt 35 = .ok (.i2c, 1) := by decide +kernel
theorem dX7_characterAt_36 : decode cX7_characterAt 36 = .ok (.ireturn, 1) := by decide +kernel
theorem dX7_caret_0 : decode cX7_caret 0 = .ok (.aload_n 0, 1) := by decide +kernel
theorem dX7_caret_1 : decode cX7_caret 1 = .ok (.getfield 33, 3) := by decide +kernel
theorem dX7_caret_4 : decode cX7_caret 4 = .ok (.getfield 218, 3) := by decide +kernel
theorem dX7_caret_7 : decode cX7_caret 7 = .ok (.ireturn, 1) := by decide +kernel
theorem dX7_stops_0 : decode cX7_stops 0 = .ok (.aload_n 0, 1) := by decide +kernel
theorem dX7_stops_1 : decode cX7_stops 1 = .ok (.getfield 33, 3) := by decide +kernel
theorem dX7_stops_4 : decode cX7_stops 4 = .ok (.getfield 228, 3) := by decide +kernel
theorem dX7_stops_7 : decode cX7_stops 7 = .ok (.invokevirtual 107, 3) := by decide +kernel
theorem dX7_stops_10 : decode cX7_stops 10 = .ok (.ireturn, 1) := by decide +kernel
theorem dX7_stopAt_0 : decode cX7_stopAt 0 = .ok (.aload_n 0, 1) := by decide +kernel
theorem dX7_stopAt_1 : decode cX7_stopAt 1 = .ok (.getfield 33, 3) := by decide +kernel
theorem dX7_stopAt_4 : decode cX7_stopAt 4 = .ok (.getfield 228, 3) := by decide +kernel
theorem dX7_stopAt_7 : decode cX7_stopAt 7 = .ok (.iload_n 1, 1) := by decide +kernel
theorem dX7_stopAt_8 : decode cX7_stopAt 8 = .ok (.invokevirtual 169, 3) := by decide +kernel
theorem dX7_stopAt_11 : decode cX7_stopAt 11 = .ok (.ifCond .ne 13, 3) := by decide +kernel
theorem dX7_stopAt_14 : decode cX7_stopAt 14 = .ok (.new 240, 3) := by decide +kernel
theorem dX7_stopAt_17 : decode cX7_stopAt 17 = .ok (.dup, 1) := by decide +kernel
theorem dX7_stopAt_18 : decode cX7_stopAt 18 = .ok (.ldc 185, 2) := by decide +kernel
theorem dX7_stopAt_20 : decode cX7_stopAt 20 = .ok (.invokespecial 242, 3) := by decide +kernel
theorem dX7_stopAt_23 : decode cX7_stopAt 23 = .ok (.athrow, 1) := by decide +kernel
theorem dX7_stopAt_24 : decode cX7_stopAt 24 = .ok (.aload_n 0, 1) := by decide +kernel
theorem dX7_stopAt_25 : decode cX7_stopAt 25 = .ok (.getfield 33, 3) := by decide +kernel
theorem dX7_stopAt_28 : decode cX7_stopAt 28 = .ok (.getfield 228, 3) := by decide +kernel
theorem dX7_stopAt_31 : decode cX7_stopAt 31 = .ok (.iload_n 1, 1) := by decide +kernel
theorem dX7_stopAt_32 : decode cX7_stopAt 32 = .ok (.invokevirtual 178, 3) := by decide +kernel
theorem dX7_stopAt_35 : decode cX7_stopAt 35 = .ok (.ireturn, 1) := by decide +kernel
theorem dX7_matching_0 : decode cX7_matching 0 = .ok (.aload_n 0, 1) := by decide +kernel
theorem dX7_matching_1 : decode cX7_matching 1 = .ok (.invokevirtual 211, 3) := by decide +kernel
theorem dX7_matching_4 : decode cX7_matching 4 = .ok (.ireturn, 1) := by decide +kernel
theorem dX7_matchingByLooking_0 : decode cX7_matchingByLooking 0 = .ok (.aload_n 0, 1) := by decide +kernel
theorem dX7_matchingByLooking_1 : decode cX7_matchingByLooking 1 = .ok (.invokevirtual 243, 3) := by decide +kernel
theorem dX7_matchingByLooking_4 : decode cX7_matchingByLooking 4 = .ok (.ireturn, 1) := by decide +kernel
theorem dX7_saved_0 : decode cX7_saved 0 = .ok (.aload_n 0, 1) := by decide +kernel
theorem dX7_saved_1 : decode cX7_saved 1 = .ok (.getfield 51, 3) := by decide +kernel
theorem dX7_saved_4 : decode cX7_saved 4 = .ok (.lreturn, 1) := by decide +kernel
theorem dX7_keptShare_0 : decode cX7_keptShare 0 = .ok (.aload_n 0, 1) := by decide +kernel
theorem dX7_keptShare_1 : decode cX7_keptShare 1 = .ok (.getfield 55, 3) := by decide +kernel
theorem dX7_keptShare_4 : decode cX7_keptShare 4 = .ok (.ifCond .gt 13, 3) := by decide +kernel
theorem dX7_keptShare_7 : decode cX7_keptShare 7 = .ok (.new 173, 3) := by decide +kernel
theorem dX7_keptShare_10 : decode cX7_keptShare 10 = .ok (.dup, 1) := by decide +kernel
theorem dX7_keptShare_11 : decode cX7_keptShare 11 = .ok (.ldc 246, 2) := by decide +kernel
theorem dX7_keptShare_13 : decode cX7_keptShare 13 = .ok (.invokespecial 177, 3) := by decide +kernel
theorem dX7_keptShare_16 : decode cX7_keptShare 16 = .ok (.athrow, 1) := by decide +kernel
theorem dX7_keptShare_17 : decode cX7_keptShare 17 = .ok (.aload_n 0, 1) := by decide +kernel
theorem dX7_keptShare_18 : decode cX7_keptShare 18 = .ok (.getfield 55, 3) := by decide +kernel
theorem dX7_keptShare_21 : decode cX7_keptShare 21 = .ok (.aload_n 0, 1) := by decide +kernel
theorem dX7_keptShare_22 : decode cX7_keptShare 22 = .ok (.getfield 58, 3) := by decide +kernel
theorem dX7_keptShare_25 : decode cX7_keptShare 25 = .ok (.isub, 1) := by decide +kernel
theorem dX7_keptShare_26 : decode cX7_keptShare 26 = .ok (.i2f, 1) := by decide +kernel
theorem dX7_keptShare_27 : decode cX7_keptShare 27 = .ok (.aload_n 0, 1) := by decide +kernel
theorem dX7_keptShare_28 : decode cX7_keptShare 28 = .ok (.getfield 55, 3) := by decide +kernel
theorem dX7_keptShare_31 : decode cX7_keptShare 31 = .ok (.i2f, 1) := by decide +kernel
theorem dX7_keptShare_32 : decode cX7_keptShare 32 = .ok (.fdiv, 1) := by decide +kernel
theorem dX7_keptShare_33 : decode cX7_keptShare 33 = .ok (.freturn, 1) := by decide +kernel
theorem dX7_requireSnippet_0 : decode cX7_requireSnippet 0 = .ok (.iload_n 1, 1) := by decide +kernel
theorem dX7_requireSnippet_1 : decode cX7_requireSnippet 1 = .ok (.ifCond .lt 14, 3) := by decide +kernel
theorem dX7_requireSnippet_4 : decode cX7_requireSnippet 4 = .ok (.iload_n 1, 1) := by decide +kernel
theorem dX7_requireSnippet_5 : decode cX7_requireSnippet 5 = .ok (.aload_n 0, 1) := by decide +kernel
theorem dX7_requireSnippet_6 : decode cX7_requireSnippet 6 = .ok (.getfield 12, 3) := by decide +kernel
theorem dX7_requireSnippet_9 : decode cX7_requireSnippet 9 = .ok (.invokevirtual 61, 3) := by decide +kernel
theorem dX7_requireSnippet_12 : decode cX7_requireSnippet 12 = .ok (.if_icmp .lt 13, 3) := by decide +kernel
theorem dX7_requireSnippet_15 : decode cX7_requireSnippet 15 = .ok (.new 240, 3) := by decide +kernel
theorem dX7_requireSnippet_18 : decode cX7_requireSnippet 18 = .ok (.dup, 1) := by decide +kernel
theorem dX7_requireSnippet_19 : decode cX7_requireSnippet 19 = .ok (.ldc 248, 2) := by decide +kernel
theorem dX7_requireSnippet_21 : decode cX7_requireSnippet 21 = .ok (.invokespecial 242, 3) := by decide +kernel
theorem dX7_requireSnippet_24 : decode cX7_requireSnippet 24 = .ok (.athrow, 1) := by decide +kernel
theorem dX7_requireSnippet_25 : decode cX7_requireSnippet 25 = .ok (.return_, 1) := by decide +kernel
theorem dX7_snippetAt_0 : decode cX7_snippetAt 0 = .ok (.aload_n 0, 1) := by decide +kernel
theorem dX7_snippetAt_1 : decode cX7_snippetAt 1 = .ok (.iload_n 1, 1) := by decide +kernel
theorem dX7_snippetAt_2 : decode cX7_snippetAt 2 = .ok (.invokevirtual 187, 3) := by decide +kernel
theorem dX7_snippetAt_5 : decode cX7_snippetAt 5 = .ok (.aload_n 0, 1) := by decide +kernel
theorem dX7_snippetAt_6 : decode cX7_snippetAt 6 = .ok (.getfield 12, 3) := by decide +kernel
theorem dX7_snippetAt_9 : decode cX7_snippetAt 9 = .ok (.iload_n 1, 1) := by decide +kernel
theorem dX7_snippetAt_10 : decode cX7_snippetAt 10 = .ok (.invokevirtual 250, 3) := by decide +kernel
theorem dX7_snippetAt_13 : decode cX7_snippetAt 13 = .ok (.checkcast 72, 3) := by decide +kernel
theorem dX7_snippetAt_16 : decode cX7_snippetAt 16 = .ok (.areturn, 1) := by decide +kernel
theorem dX7_requireTypeable_0 : decode cX7_requireTypeable 0 = .ok (.iload_n 0, 1) := by decide +kernel
theorem dX7_requireTypeable_1 : decode cX7_requireTypeable 1 = .ok (.bipush 32, 2) := by decide +kernel
theorem dX7_requireTypeable_3 : decode cX7_requireTypeable 3 = .ok (.if_icmp .eq 15, 3) := by decide +kernel
theorem dX7_requireTypeable_6 : decode cX7_requireTypeable 6 = .ok (.iload_n 0, 1) := by decide +kernel
theorem dX7_requireTypeable_7 : decode cX7_requireTypeable 7 = .ok (.bipush 59, 2) := by decide +kernel
theorem dX7_requireTypeable_9 : decode cX7_requireTypeable 9 = .ok (.if_icmp .eq 9, 3) := by decide +kernel
theorem dX7_requireTypeable_12 : decode cX7_requireTypeable 12 = .ok (.iload_n 0, 1) := by decide +kernel
theorem dX7_requireTypeable_13 : decode cX7_requireTypeable 13 = .ok (.bipush 46, 2) := by decide +kernel
theorem dX7_requireTypeable_15 : decode cX7_requireTypeable 15 = .ok (.if_icmp .ne 7, 3) := by decide +kernel
theorem dX7_requireTypeable_18 : decode cX7_requireTypeable 18 = .ok (.iconst 1, 1) := by decide +kernel
theorem dX7_requireTypeable_19 : decode cX7_requireTypeable 19 = .ok (.goto 4, 3) := by decide +kernel
theorem dX7_requireTypeable_22 : decode cX7_requireTypeable 22 = .ok (.iconst 0, 1) := by decide +kernel
theorem dX7_requireTypeable_23 : decode cX7_requireTypeable 23 = .ok (.istore_n 1, 1) := by decide +kernel
theorem dX7_requireTypeable_24 : decode cX7_requireTypeable 24 = .ok (.iload_n 1, 1) := by decide +kernel
theorem dX7_requireTypeable_25 : decode cX7_requireTypeable 25 = .ok (.ifCond .ne 21, 3) := by decide +kernel
theorem dX7_requireTypeable_28 : decode cX7_requireTypeable 28 = .ok (.iload_n 0, 1) := by decide +kernel
theorem dX7_requireTypeable_29 : decode cX7_requireTypeable 29 = .ok (.invokestatic 254, 3) := by decide +kernel
theorem dX7_requireTypeable_32 : decode cX7_requireTypeable 32 = .ok (.ifCond .ne 14, 3) := by decide +kernel
theorem dX7_requireTypeable_35 : decode cX7_requireTypeable 35 = .ok (.new 135, 3) := by decide +kernel
theorem dX7_requireTypeable_38 : decode cX7_requireTypeable 38 = .ok (.dup, 1) := by decide +kernel
theorem dX7_requireTypeable_39 : decode cX7_requireTypeable 39 = .ok (.ldc_w 257, 3) := by decide +kernel
theorem dX7_requireTypeable_42 : decode cX7_requireTypeable 42 = .ok (.invokespecial 139, 3) := by decide +kernel
theorem dX7_requireTypeable_45 : decode cX7_requireTypeable 45 = .ok (.athrow, 1) := by decide +kernel
theorem dX7_requireTypeable_46 : decode cX7_requireTypeable 46 = .ok (.return_, 1) := by decide +kernel
theorem dX7_isLetterOrDigit_0 : decode cX7_isLetterOrDigit 0 = .ok (.iload_n 0, 1) := by decide +kernel
theorem dX7_isLetterOrDigit_1 : decode cX7_isLetterOrDigit 1 = .ok (.bipush 97, 2) := by decide +kernel
theorem dX7_isLetterOrDigit_3 : decode cX7_isLetterOrDigit 3 = .ok (.if_icmp .lt 9, 3) := by decide +kernel
theorem dX7_isLetterOrDigit_6 : decode cX7_isLetterOrDigit 6 = .ok (.iload_n 0, 1) := by decide +kernel
theorem dX7_isLetterOrDigit_7 : decode cX7_isLetterOrDigit 7 = .ok (.bipush 122, 2) := by decide +kernel
theorem dX7_isLetterOrDigit_9 : decode cX7_isLetterOrDigit 9 = .ok (.if_icmp .le 15, 3) := by decide +kernel
theorem dX7_isLetterOrDigit_12 : decode cX7_isLetterOrDigit 12 = .ok (.iload_n 0, 1) := by decide +kernel
theorem dX7_isLetterOrDigit_13 : decode cX7_isLetterOrDigit 13 = .ok (.bipush 48, 2) := by decide +kernel
theorem dX7_isLetterOrDigit_15 : decode cX7_isLetterOrDigit 15 = .ok (.if_icmp .lt 13, 3) := by decide +kernel
theorem dX7_isLetterOrDigit_18 : decode cX7_isLetterOrDigit 18 = .ok (.iload_n 0, 1) := by decide +kernel
theorem dX7_isLetterOrDigit_19 : decode cX7_isLetterOrDigit 19 = .ok (.bipush 57, 2) := by decide +kernel
theorem dX7_isLetterOrDigit_21 : decode cX7_isLetterOrDigit 21 = .ok (.if_icmp .gt 7, 3) := by decide +kernel
theorem dX7_isLetterOrDigit_24 : decode cX7_isLetterOrDigit 24 = .ok (.iconst 1, 1) := by decide +kernel
theorem dX7_isLetterOrDigit_25 : decode cX7_isLetterOrDigit 25 = .ok (.goto 4, 3) := by decide +kernel
theorem dX7_isLetterOrDigit_28 : decode cX7_isLetterOrDigit 28 = .ok (.iconst 0, 1) := by decide +kernel
theorem dX7_isLetterOrDigit_29 : decode cX7_isLetterOrDigit 29 = .ok (.ireturn, 1) := by decide +kernel
theorem dX7_innerPart_0 : decode cX7_innerPart 0 = .ok (.aload_n 0, 1) := by decide +kernel
theorem dX7_innerPart_1 : decode cX7_innerPart 1 = .ok (.iload_n 2, 1) := by decide +kernel
theorem dX7_innerPart_2 : decode cX7_innerPart 2 = .ok (.invokevirtual 81, 3) := by decide +kernel
theorem dX7_innerPart_5 : decode cX7_innerPart 5 = .ok (.astore 4, 2) := by decide +kernel
theorem dX7_innerPart_7 : decode cX7_innerPart 7 = .ok (.aload_n 0, 1) := by decide +kernel
theorem dX7_innerPart_8 : decode cX7_innerPart 8 = .ok (.iload_n 3, 1) := by decide +kernel
theorem dX7_innerPart_9 : decode cX7_innerPart 9 = .ok (.invokevirtual 81, 3) := by decide +kernel
theorem dX7_innerPart_12 : decode cX7_innerPart 12 = .ok (.astore 5, 2) := by decide +kernel
theorem dX7_innerPart_14 : decode cX7_innerPart 14 = .ok (.iload_n 2, 1) := by decide +kernel
theorem dX7_innerPart_15 : decode cX7_innerPart 15 = .ok (.iload_n 1, 1) := by decide +kernel
theorem dX7_innerPart_16 : decode cX7_innerPart 16 = .ok (.if_icmp .eq 26, 3) := by decide +kernel
theorem dX7_innerPart_19 : decode cX7_innerPart 19 = .ok (.aload 4, 2) := by decide +kernel
theorem dX7_innerPart_21 : decode cX7_innerPart 21 = .ok (.iload_n 1, 1) := by decide +kernel
theorem dX7_innerPart_22 : decode cX7_innerPart 22 = .ok (.invokevirtual 190, 3) := by decide +kernel
theorem dX7_innerPart_25 : decode cX7_innerPart 25 = .ok (.ifCond .ne 17, 3) := by decide +kernel
theorem dX7_innerPart_28 : decode cX7_innerPart 28 = .ok (.iload_n 3, 1) := by decide +kernel
theorem dX7_innerPart_29 : decode cX7_innerPart 29 = .ok (.iload_n 1, 1) := by decide +kernel
theorem dX7_innerPart_30 : decode cX7_innerPart 30 = .ok (.if_icmp .eq 12, 3) := by decide +kernel
theorem dX7_innerPart_33 : decode cX7_innerPart 33 = .ok (.aload 5, 2) := by decide +kernel
theorem dX7_innerPart_35 : decode cX7_innerPart 35 = .ok (.iload_n 1, 1) := by decide +kernel
theorem dX7_innerPart_36 : decode cX7_innerPart 36 = .ok (.invokevirtual 190, 3) := by decide +kernel
theorem dX7_innerPart_39 : decode cX7_innerPart 39 = .ok (.ifCond .eq 14, 3) := by decide +kernel
theorem dX7_innerPart_42 : decode cX7_innerPart 42 = .ok (.new 259, 3) := by decide +kernel
theorem dX7_innerPart_45 : decode cX7_innerPart 45 = .ok (.dup, 1) := by decide +kernel
theorem dX7_innerPart_46 : decode cX7_innerPart 46 = .ok (.ldc_w 261, 3) := by decide +kernel
theorem dX7_innerPart_49 : decode cX7_innerPart 49 = .ok (.invokespecial 263, 3) := by decide +kernel
theorem dX7_innerPart_52 : decode cX7_innerPart 52 = .ok (.athrow, 1) := by decide +kernel
theorem dX7_innerPart_53 : decode cX7_innerPart 53 = .ok (.new 116, 3) := by decide +kernel
theorem dX7_innerPart_56 : decode cX7_innerPart 56 = .ok (.dup, 1) := by decide +kernel
theorem dX7_innerPart_57 : decode cX7_innerPart 57 = .ok (.getstatic 264, 3) := by decide +kernel
theorem dX7_innerPart_60 : decode cX7_innerPart 60 = .ok (.iload_n 2, 1) := by decide +kernel
theorem dX7_innerPart_61 : decode cX7_innerPart 61 = .ok (.iload_n 3, 1) := by decide +kernel
theorem dX7_innerPart_62 : decode cX7_innerPart 62 = .ok (.invokespecial 124, 3) := by decide +kernel
theorem dX7_innerPart_65 : decode cX7_innerPart 65 = .ok (.areturn, 1) := by decide +kernel
theorem dX7_addPart_0 : decode cX7_addPart 0 = .ok (.aload_n 1, 1) := by decide +kernel
theorem dX7_addPart_1 : decode cX7_addPart 1 = .ok (.getfield 148, 3) := by decide +kernel
theorem dX7_addPart_4 : decode cX7_addPart 4 = .ok (.invokevirtual 61, 3) := by decide +kernel
theorem dX7_addPart_7 : decode cX7_addPart 7 = .ok (.bipush 12, 2) := by decide +kernel
theorem dX7_addPart_9 : decode cX7_addPart 9 = .ok (.if_icmp .lt 14, 3) := by decide +kernel
theorem dX7_addPart_12 : decode cX7_addPart 12 = .ok (.new 65, 3) := by decide +kernel
theorem dX7_addPart_15 : decode cX7_addPart 15 = .ok (.dup, 1) := by decide +kernel
theorem dX7_addPart_16 : decode cX7_addPart 16 = .ok (.ldc_w 267, 3) := by decide +kernel
theorem dX7_addPart_19 : decode cX7_addPart 19 = .ok (.invokespecial 69, 3) := by decide +kernel
theorem dX7_addPart_22 : decode cX7_addPart 22 = .ok (.athrow, 1) := by decide +kernel
theorem dX7_addPart_23 : decode cX7_addPart 23 = .ok (.aload_n 1, 1) := by decide +kernel
theorem dX7_addPart_24 : decode cX7_addPart 24 = .ok (.getfield 148, 3) := by decide +kernel
theorem dX7_addPart_27 : decode cX7_addPart 27 = .ok (.aload_n 2, 1) := by decide +kernel
theorem dX7_addPart_28 : decode cX7_addPart 28 = .ok (.invokevirtual 77, 3) := by decide +kernel
theorem dX7_addPart_31 : decode cX7_addPart 31 = .ok (.pop, 1) := by decide +kernel
theorem dX7_addPart_32 : decode cX7_addPart 32 = .ok (.aload_n 0, 1) := by decide +kernel
theorem dX7_addPart_33 : decode cX7_addPart 33 = .ok (.invokevirtual 154, 3) := by decide +kernel
theorem dX7_addPart_36 : decode cX7_addPart 36 = .ok (.aload_n 0, 1) := by decide +kernel
theorem dX7_addPart_37 : decode cX7_addPart 37 = .ok (.invokevirtual 269, 3) := by decide +kernel
theorem dX7_addPart_40 : decode cX7_addPart 40 = .ok (.ifCond .eq 35, 3) := by decide +kernel
theorem dX7_addPart_43 : decode cX7_addPart 43 = .ok (.aload_n 1, 1) := by decide +kernel
theorem dX7_addPart_44 : decode cX7_addPart 44 = .ok (.getfield 148, 3) := by decide +kernel
theorem dX7_addPart_47 : decode cX7_addPart 47 = .ok (.aload_n 1, 1) := by decide +kernel
theorem dX7_addPart_48 : decode cX7_addPart 48 = .ok (.getfield 148, 3) := by decide +kernel
theorem dX7_addPart_51 : decode cX7_addPart 51 = .ok (.invokevirtual 61, 3) := by decide +kernel
theorem dX7_addPart_54 : decode cX7_addPart 54 = .ok (.iconst 1, 1) := by decide +kernel
theorem dX7_addPart_55 : decode cX7_addPart 55 = .ok (.isub, 1) := by decide +kernel
theorem dX7_addPart_56 : decode cX7_addPart 56 = .ok (.invokevirtual 272, 3) := by decide +kernel
theorem dX7_addPart_59 : decode cX7_addPart 59 = .ok (.pop, 1) := by decide +kernel
theorem dX7_addPart_60 : decode cX7_addPart 60 = .ok (.aload_n 0, 1) := by decide +kernel
theorem dX7_addPart_61 : decode cX7_addPart 61 = .ok (.invokevirtual 154, 3) := by decide +kernel
theorem dX7_addPart_64 : decode cX7_addPart 64 = .ok (.new 65, 3) := by decide +kernel
theorem dX7_addPart_67 : decode cX7_addPart 67 = .ok (.dup, 1) := by decide +kernel
theorem dX7_addPart_68 : decode cX7_addPart 68 = .ok (.ldc_w 275, 3) := by decide +kernel
theorem dX7_addPart_71 : decode cX7_addPart 71 = .ok (.invokespecial 69, 3) := by decide +kernel
theorem dX7_addPart_74 : decode cX7_addPart 74 = .ok (.athrow, 1) := by decide +kernel
theorem dX7_addPart_75 : decode cX7_addPart 75 = .ok (.aload_n 1, 1) := by decide +kernel
theorem dX7_addPart_76 : decode cX7_addPart 76 = .ok (.getfield 148, 3) := by decide +kernel
theorem dX7_addPart_79 : decode cX7_addPart 79 = .ok (.invokevirtual 61, 3) := by decide +kernel
theorem dX7_addPart_82 : decode cX7_addPart 82 = .ok (.ireturn, 1) := by decide +kernel
theorem dX7_isSomeTooLarge_0 : decode cX7_isSomeTooLarge 0 = .ok (.iconst 0, 1) := by decide +kernel
theorem dX7_isSomeTooLarge_1 : decode cX7_isSomeTooLarge 1 = .ok (.istore_n 1, 1) := by decide +kernel
theorem dX7_isSomeTooLarge_2 : decode cX7_isSomeTooLarge 2 = .ok (.iload_n 1, 1) := by decide +kernel
theorem dX7_isSomeTooLarge_3 : decode cX7_isSomeTooLarge 3 = .ok (.aload_n 0, 1) := by decide +kernel
theorem dX7_isSomeTooLarge_4 : decode cX7_isSomeTooLarge 4 = .ok (.getfield 12, 3) := by decide +kernel
theorem dX7_isSomeTooLarge_7 : decode cX7_isSomeTooLarge 7 = .ok (.invokevirtual 61, 3) := by decide +kernel
theorem dX7_isSomeTooLarge_10 : decode cX7_isSomeTooLarge 10 = .ok (.if_icmp .ge 25, 3) := by decide +kernel
theorem dX7_isSomeTooLarge_13 : decode cX7_isSomeTooLarge 13 = .ok (.aload_n 0, 1) := by decide +kernel
theorem dX7_isSomeTooLarge_14 : decode cX7_isSomeTooLarge 14 = .ok (.iload_n 1, 1) := by decide +kernel
theorem dX7_isSomeTooLarge_15 : decode cX7_isSomeTooLarge 15 = .ok (.invokevirtual 81, 3) := by decide +kernel
theorem dX7_isSomeTooLarge_18 : decode cX7_isSomeTooLarge 18 = .ok (.getfield 277, 3) := by decide +kernel
theorem dX7_isSomeTooLarge_21 : decode cX7_isSomeTooLarge 21 = .ok (.sipush 200, 3) := by decide +kernel
theorem dX7_isSomeTooLarge_24 : decode cX7_isSomeTooLarge 24 = .ok (.if_icmp .le 5, 3) := by decide +kernel
theorem dX7_isSomeTooLarge_27 : decode cX7_isSomeTooLarge 27 = .ok (.iconst 1, 1) := by decide +kernel
theorem dX7_isSomeTooLarge_28 : decode cX7_isSomeTooLarge 28 = .ok (.ireturn, 1) := by decide +kernel
theorem dX7_isSomeTooLarge_29 : decode cX7_isSomeTooLarge 29 = .ok (.iinc 1 1, 3) := by decide +kernel
theorem dX7_isSomeTooLarge_32 : decode cX7_isSomeTooLarge 32 = .ok (.goto (-30), 3) := by decide +kernel
theorem dX7_isSomeTooLarge_35 : decode cX7_isSomeTooLarge 35 = .ok (.iconst 0, 1) := by decide +kernel
theorem dX7_isSomeTooLarge_36 : decode cX7_isSomeTooLarge 36 = .ok (.ireturn, 1) := by decide +kernel
theorem dX7_measureAll_0 : decode cX7_measureAll 0 = .ok (.iconst 0, 1) := by decide +kernel
theorem dX7_measureAll_1 : decode cX7_measureAll 1 = .ok (.istore_n 1, 1) := by decide +kernel
theorem dX7_measureAll_2 : decode cX7_measureAll 2 = .ok (.iload_n 1, 1) := by decide +kernel
theorem dX7_measureAll_3 : decode cX7_measureAll 3 = .ok (.bipush 8, 2) := by decide +kernel
theorem dX7_measureAll_5 : decode cX7_measureAll 5 = .ok (.if_icmp .ge 37, 3) := by decide +kernel
theorem dX7_measureAll_8 : decode cX7_measureAll 8 = .ok (.iconst 0, 1) := by decide +kernel
theorem dX7_measureAll_9 : decode cX7_measureAll 9 = .ok (.istore_n 2, 1) := by decide +kernel
theorem dX7_measureAll_10 : decode cX7_measureAll 10 = .ok (.iload_n 2, 1) := by decide +kernel
theorem dX7_measureAll_11 : decode cX7_measureAll 11 = .ok (.aload_n 0, 1) := by decide +kernel
theorem dX7_measureAll_12 : decode cX7_measureAll 12 = .ok (.getfield 12, 3) := by decide +kernel
theorem dX7_measureAll_15 : decode cX7_measureAll 15 = .ok (.invokevirtual 61, 3) := by decide +kernel
theorem dX7_measureAll_18 : decode cX7_measureAll 18 = .ok (.if_icmp .ge 18, 3) := by decide +kernel
theorem dX7_measureAll_21 : decode cX7_measureAll 21 = .ok (.aload_n 0, 1) := by decide +kernel
theorem dX7_measureAll_22 : decode cX7_measureAll 22 = .ok (.aload_n 0, 1) := by decide +kernel
theorem dX7_measureAll_23 : decode cX7_measureAll 23 = .ok (.iload_n 2, 1) := by decide +kernel
theorem dX7_measureAll_24 : decode cX7_measureAll 24 = .ok (.invokevirtual 81, 3) := by decide +kernel
theorem dX7_measureAll_27 : decode cX7_measureAll 27 = .ok (.invokevirtual 279, 3) := by decide +kernel
theorem dX7_measureAll_30 : decode cX7_measureAll 30 = .ok (.iinc 2 1, 3) := by decide +kernel
theorem dX7_measureAll_33 : decode cX7_measureAll 33 = .ok (.goto (-23), 3) := by decide +kernel
theorem dX7_measureAll_36 : decode cX7_measureAll 36 = .ok (.iinc 1 1, 3) := by decide +kernel
theorem dX7_measureAll_39 : decode cX7_measureAll 39 = .ok (.goto (-37), 3) := by decide +kernel
theorem dX7_measureAll_42 : decode cX7_measureAll 42 = .ok (.return_, 1) := by decide +kernel
theorem dX7_measure_0 : decode cX7_measure 0 = .ok (.aload_n 1, 1) := by decide +kernel
theorem dX7_measure_1 : decode cX7_measure 1 = .ok (.iconst 0, 1) := by decide +kernel
theorem dX7_measure_2 : decode cX7_measure 2 = .ok (.putfield 277, 3) := by decide +kernel
theorem dX7_measure_5 : decode cX7_measure 5 = .ok (.aload_n 1, 1) := by decide +kernel
theorem dX7_measure_6 : decode cX7_measure 6 = .ok (.iconst 1, 1) := by decide +kernel
theorem dX7_measure_7 : decode cX7_measure 7 = .ok (.putfield 193, 3) := by decide +kernel
theorem dX7_measure_10 : decode cX7_measure 10 = .ok (.aload_n 1, 1) := by decide +kernel
theorem dX7_measure_11 : decode cX7_measure 11 = .ok (.iconst 0, 1) := by decide +kernel
theorem dX7_measure_12 : decode cX7_measure 12 = .ok (.putfield 282, 3) := by decide +kernel
theorem dX7_measure_15 : decode cX7_measure 15 = .ok (.iconst 0, 1) := by decide +kernel
theorem dX7_measure_16 : decode cX7_measure 16 = .ok (.istore_n 2, 1) := by decide +kernel
theorem dX7_measure_17 : decode cX7_measure 17 = .ok (.iload_n 2, 1) := by decide +kernel
theorem dX7_measure_18 : decode cX7_measure 18 = .ok (.aload_n 1, 1) := by decide +kernel
theorem dX7_measure_19 : decode cX7_measure 19 = .ok (.getfield 148, 3) := by decide +kernel
theorem dX7_measure_22 : decode cX7_measure 22 = .ok (.invokevirtual 61, 3) := by decide +kernel
theorem dX7_measure_25 : decode cX7_measure 25 = .ok (.if_icmp .ge 66, 3) := by decide +kernel
theorem dX7_measure_28 : decode cX7_measure 28 = .ok (.aload_n 1, 1) := by decide +kernel
theorem dX7_measure_29 : decode cX7_measure 29 = .ok (.getfield 148, 3) := by decide +kernel
theorem dX7_measure_32 : decode cX7_measure 32 = .ok (.iload_n 2, 1) := by decide +kernel
theorem dX7_measure_33 : decode cX7_measure 33 = .ok (.invokevirtual 250, 3) := by decide +kernel
theorem dX7_measure_36 : decode cX7_measure 36 = .ok (.checkcast 116, 3) := by decide +kernel
theorem dX7_measure_39 : decode cX7_measure 39 = .ok (.astore_n 3, 1) := by decide +kernel
theorem dX7_measure_40 : decode cX7_measure 40 = .ok (.aload_n 3, 1) := by decide +kernel
theorem dX7_measure_41 : decode cX7_measure 41 = .ok (.getfield 285, 3) := by decide +kernel
theorem dX7_measure_44 : decode cX7_measure 44 = .ok (.getstatic 264, 3) := by decide +kernel
theorem dX7_measure_47 : decode cX7_measure 47 = .ok (.if_acmp .ne 19, 3) := by decide +kernel
theorem dX7_measure_50 : decode cX7_measure 50 = .ok (.aload_n 0, 1) := by decide +kernel
theorem dX7_measure_51 : decode cX7_measure 51 = .ok (.aload_n 1, 1) := by decide +kernel
theorem dX7_measure_52 : decode cX7_measure 52 = .ok (.aload_n 3, 1) := by decide +kernel
theorem dX7_measure_53 : decode cX7_measure 53 = .ok (.getfield 288, 3) := by decide +kernel
theorem dX7_measure_56 : decode cX7_measure 56 = .ok (.aload_n 3, 1) := by decide +kernel
theorem dX7_measure_57 : decode cX7_measure 57 = .ok (.getfield 291, 3) := by decide +kernel
theorem dX7_measure_60 : decode cX7_measure 60 = .ok (.invokevirtual 294, 3) := by decide +kernel
theorem dX7_measure_63 : decode cX7_measure 63 = .ok (.goto 22, 3) := by decide +kernel
theorem dX7_measure_66 : decode cX7_measure 66 = .ok (.aload_n 1, 1) := by decide +kernel
theorem dX7_measure_67 : decode cX7_measure 67 = .ok (.aload_n 3, 1) := by decide +kernel
theorem dX7_measure_68 : decode cX7_measure 68 = .ok (.getfield 285, 3) := by decide +kernel
theorem dX7_measure_71 : decode cX7_measure 71 = .ok (.getstatic 142, 3) := by decide +kernel
theorem dX7_measure_74 : decode cX7_measure 74 = .ok (.if_acmp .ne 7, 3) := by decide +kernel
theorem dX7_measure_77 : decode cX7_measure 77 = .ok (.iconst 5, 1) := by decide +kernel
theorem dX7_measure_78 : decode cX7_measure 78 = .ok (.goto 4, 3) := by decide +kernel
theorem dX7_measure_81 : decode cX7_measure 81 = .ok (.iconst 1, 1) := by decide +kernel
theorem dX7_measure_82 : decode cX7_measure 82 = .ok (.invokevirtual 298, 3) := by decide +kernel
theorem dX7_measure_85 : decode cX7_measure 85 = .ok (.iinc 2 1, 3) := by decide +kernel
theorem dX7_measure_88 : decode cX7_measure 88 = .ok (.goto (-71), 3) := by decide +kernel
theorem dX7_measure_91 : decode cX7_measure 91 = .ok (.return_, 1) := by decide +kernel
theorem dX7_measureInner_0 : decode cX7_measureInner 0 = .ok (.aload_n 0, 1) := by decide +kernel
theorem dX7_measureInner_1 : decode cX7_measureInner 1 = .ok (.iload_n 2, 1) := by decide +kernel
theorem dX7_measureInner_2 : decode cX7_measureInner 2 = .ok (.invokevirtual 81, 3) := by decide +kernel
theorem dX7_measureInner_5 : decode cX7_measureInner 5 = .ok (.astore 4, 2) := by decide +kernel
theorem dX7_measureInner_7 : decode cX7_measureInner 7 = .ok (.aload_n 0, 1) := by decide +kernel
theorem dX7_measureInner_8 : decode cX7_measureInner 8 = .ok (.iload_n 3, 1) := by decide +kernel
theorem dX7_measureInner_9 : decode cX7_measureInner 9 = .ok (.invokevirtual 81, 3) := by decide +kernel
theorem dX7_measureInner_12 : decode cX7_measureInner 12 = .ok (.astore 5, 2) := by decide +kernel
theorem dX7_measureInner_14 : decode cX7_measureInner 14 = .ok (.aload_n 1, 1) := by decide +kernel
theorem dX7_measureInner_15 : decode cX7_measureInner 15 = .ok (.iconst 1, 1) := by decide +kernel
theorem dX7_measureInner_16 : decode cX7_measureInner 16 = .ok (.aload 4, 2) := by decide +kernel
theorem dX7_measureInner_18 : decode cX7_measureInner 18 = .ok (.getfield 277, 3) := by decide +kernel
theorem dX7_measureInner_21 : decode cX7_measureInner 21 = .ok (.aload 5, 2) := by decide +kernel
theorem dX7_measureInner_23 : decode cX7_measureInner 23 = .ok (.getfield 277, 3) := by decide +kernel
theorem dX7_measureInner_26 : decode cX7_measureInner 26 = .ok (.invokestatic 301, 3) := by decide +kernel
theorem dX7_measureInner_29 : decode cX7_measureInner 29 = .ok (.iadd, 1) := by decide +kernel
theorem dX7_measureInner_30 : decode cX7_measureInner 30 = .ok (.invokevirtual 298, 3) := by decide +kernel
theorem dX7_measureInner_33 : decode cX7_measureInner 33 = .ok (.aload 4, 2) := by decide +kernel
theorem dX7_measureInner_35 : decode cX7_measureInner 35 = .ok (.getfield 193, 3) := by decide +kernel
theorem dX7_measureInner_38 : decode cX7_measureInner 38 = .ok (.aload 5, 2) := by decide +kernel
theorem dX7_measureInner_40 : decode cX7_measureInner 40 = .ok (.getfield 193, 3) := by decide +kernel
theorem dX7_measureInner_43 : decode cX7_measureInner 43 = .ok (.invokestatic 301, 3) := by decide +kernel
theorem dX7_measureInner_46 : decode cX7_measureInner 46 = .ok (.istore 6, 2) := by decide +kernel
theorem dX7_measureInner_48 : decode cX7_measureInner 48 = .ok (.aload_n 1, 1) := by decide +kernel
theorem dX7_measureInner_49 : decode cX7_measureInner 49 = .ok (.aload_n 1, 1) := by decide +kernel
theorem dX7_measureInner_50 : decode cX7_measureInner 50 = .ok (.getfield 193, 3) := by decide +kernel
theorem dX7_measureInner_53 : decode cX7_measureInner 53 = .ok (.iconst 1, 1) := by decide +kernel
theorem dX7_measureInner_54 : decode cX7_measureInner 54 = .ok (.iload 6, 2) := by decide +kernel
theorem dX7_measureInner_56 : decode cX7_measureInner 56 = .ok (.iadd, 1) := by decide +kernel
theorem dX7_measureInner_57 : decode cX7_measureInner 57 = .ok (.invokestatic 301, 3) := by decide +kernel
theorem dX7_measureInner_60 : decode cX7_measureInner 60 = .ok (.putfield 193, 3) := by decide +kernel
theorem dX7_measureInner_63 : decode cX7_measureInner 63 = .ok (.aload_n 1, 1) := by decide +kernel
theorem dX7_measureInner_64 : decode cX7_measureInner 64 = .ok (.dup, 1) := by decide +kernel
theorem dX7_measureInner_65 : decode cX7_measureInner 65 = .ok (.getfield 282, 3) := by decide +kernel
theorem dX7_measureInner_68 : decode cX7_measureInner 68 = .ok (.aload 4, 2) := by decide +kernel
theorem dX7_measureInner_70 : decode cX7_measureInner 70 = .ok (.getfield 282, 3) := by decide +kernel
theorem dX7_measureInner_73 : decode cX7_measureInner 73 = .ok (.aload 5, 2) := by decide +kernel
theorem dX7_measureInner_75 : decode cX7_measureInner 75 = .ok (.getfield 282, 3) := by decide +kernel
theorem dX7_measureInner_78 : decode cX7_measureInner 78 = .ok (.ior, 1) := by decide +kernel
theorem dX7_measureInner_79 : decode cX7_measureInner 79 = .ok (.iconst 1, 1) := by decide +kernel
theorem dX7_measureInner_80 : decode cX7_measureInner 80 = .ok (.iload_n 2, 1) := by decide +kernel
theorem dX7_measureInner_81 : decode cX7_measureInner 81 = .ok (.ishl, 1) := by decide +kernel
theorem dX7_measureInner_82 : decode cX7_measureInner 82 = .ok (.ior, 1) := by decide +kernel
theorem dX7_measureInner_83 : decode cX7_measureInner 83 = .ok (.iconst 1, 1) := by decide +kernel
theorem dX7_measureInner_84 : decode cX7_measureInner 84 = .ok (.iload_n 3, 1) := by decide +kernel
theorem dX7_measureInner_85 : decode cX7_measureInner 85 = .ok (.ishl, 1) := by decide +kernel
theorem dX7_measureInner_86 : decode cX7_measureInner 86 = .ok (.ior, 1) := by decide +kernel
theorem dX7_measureInner_87 : decode cX7_measureInner 87 = .ok (.ior, 1) := by decide +kernel
theorem dX7_measureInner_88 : decode cX7_measureInner 88 = .ok (.putfield 282, 3) := by decide +kernel
theorem dX7_measureInner_91 : decode cX7_measureInner 91 = .ok (.return_, 1) := by decide +kernel
theorem dX7_gather_0 : decode cX7_gather 0 = .ok (.aload_n 0, 1) := by decide +kernel
theorem dX7_gather_1 : decode cX7_gather 1 = .ok (.getfield 26, 3) := by decide +kernel
theorem dX7_gather_4 : decode cX7_gather 4 = .ok (.invokevirtual 307, 3) := by decide +kernel
theorem dX7_gather_7 : decode cX7_gather 7 = .ok (.aload_n 0, 1) := by decide +kernel
theorem dX7_gather_8 : decode cX7_gather 8 = .ok (.aload_n 1, 1) := by decide +kernel
theorem dX7_gather_9 : decode cX7_gather 9 = .ok (.iconst 1, 1) := by decide +kernel
theorem dX7_gather_10 : decode cX7_gather 10 = .ok (.invokevirtual 308, 3) := by decide +kernel
theorem dX7_gather_13 : decode cX7_gather 13 = .ok (.return_, 1) := by decide +kernel
theorem dX7_give_0 : decode cX7_give 0 = .ok (.iload_n 2, 1) := by decide +kernel
theorem dX7_give_1 : decode cX7_give 1 = .ok (.bipush 8, 2) := by decide +kernel
theorem dX7_give_3 : decode cX7_give 3 = .ok (.if_icmp .le 4, 3) := by decide +kernel
theorem dX7_give_6 : decode cX7_give 6 = .ok (.return_, 1) := by decide +kernel
theorem dX7_give_7 : decode cX7_give 7 = .ok (.iconst 0, 1) := by decide +kernel
theorem dX7_give_8 : decode cX7_give 8 = .ok (.istore_n 3, 1) := by decide +kernel
theorem dX7_give_9 : decode cX7_give 9 = .ok (.iload_n 3, 1) := by decide +kernel
theorem dX7_give_10 : decode cX7_give 10 = .ok (.aload_n 1, 1) := by decide +kernel
theorem dX7_give_11 : decode cX7_give 11 = .ok (.getfield 148, 3) := by decide +kernel
theorem dX7_give_14 : decode cX7_give 14 = .ok (.invokevirtual 61, 3) := by decide +kernel
theorem dX7_give_17 : decode cX7_give 17 = .ok (.if_icmp .ge 26, 3) := by decide +kernel
theorem dX7_give_20 : decode cX7_give 20 = .ok (.aload_n 0, 1) := by decide +kernel
theorem dX7_give_21 : decode cX7_give 21 = .ok (.aload_n 1, 1) := by decide +kernel
theorem dX7_give_22 : decode cX7_give 22 = .ok (.aload_n 1, 1) := by decide +kernel
theorem dX7_give_23 : decode cX7_give 23 = .ok (.getfield 148, 3) := by decide +kernel
theorem dX7_give_26 : decode cX7_give 26 = .ok (.iload_n 3, 1) := by decide +kernel
theorem dX7_give_27 : decode cX7_give 27 = .ok (.invokevirtual 250, 3) := by decide +kernel
theorem dX7_give_30 : decode cX7_give 30 = .ok (.checkcast 116, 3) := by decide +kernel
theorem dX7_give_33 : decode cX7_give 33 = .ok (.iload_n 2, 1) := by decide +kernel
theorem dX7_give_34 : decode cX7_give 34 = .ok (.invokevirtual 312, 3) := by decide +kernel
theorem dX7_give_37 : decode cX7_give 37 = .ok (.iinc 3 1, 3) := by decide +kernel
theorem dX7_give_40 : decode cX7_give 40 = .ok (.goto (-31), 3) := by decide +kernel
theorem dX7_give_43 : decode cX7_give 43 = .ok (.return_, 1) := by decide +kernel
theorem dX7_givePart_0 : decode cX7_givePart 0 = .ok (.aload_n 2, 1) := by decide +kernel
theorem dX7_givePart_1 : decode cX7_givePart 1 = .ok (.getfield 285, 3) := by decide +kernel
theorem dX7_givePart_4 : decode cX7_givePart 4 = .ok (.getstatic 118, 3) := by decide +kernel
theorem dX7_givePart_7 : decode cX7_givePart 7 = .ok (.if_acmp .ne 20, 3) := by decide +kernel
theorem dX7_givePart_10 : decode cX7_givePart 10 = .ok (.aload_n 0, 1) := by decide +kernel
theorem dX7_givePart_11 : decode cX7_givePart 11 = .ok (.getfield 26, 3) := by decide +kernel
theorem dX7_givePart_14 : decode cX7_givePart 14 = .ok (.getfield 166, 3) := by decide +kernel
theorem dX7_givePart_17 : decode cX7_givePart 17 = .ok (.aload_n 2, 1) := by decide +kernel
theorem dX7_givePart_18 : decode cX7_givePart 18 = .ok (.getfield 288, 3) := by decide +kernel
theorem dX7_givePart_21 : decode cX7_givePart 21 = .ok (.invokevirtual 101, 3) := by decide +kernel
theorem dX7_givePart_24 : decode cX7_givePart 24 = .ok (.goto 98, 3) := by decide +kernel
theorem dX7_givePart_27 : decode cX7_givePart 27 = .ok (.aload_n 2, 1) := by decide +kernel
theorem dX7_givePart_28 : decode cX7_givePart 28 = .ok (.getfield 285, 3) := by decide +kernel
theorem dX7_givePart_31 : decode cX7_givePart 31 = .ok (.getstatic 145, 3) := by decide +kernel
theorem dX7_givePart_34 : decode cX7_givePart 34 = .ok (.if_acmp .ne 26, 3) := by decide +kernel
theorem dX7_givePart_37 : decode cX7_givePart 37 = .ok (.aload_n 0, 1) := by decide +kernel
theorem dX7_givePart_38 : decode cX7_givePart 38 = .ok (.getfield 26, 3) := by decide +kernel
theorem dX7_givePart_41 : decode cX7_givePart 41 = .ok (.getfield 182, 3) := by decide +kernel
theorem dX7_givePart_44 : decode cX7_givePart 44 = .ok (.aload_n 0, 1) := by decide +kernel
theorem dX7_givePart_45 : decode cX7_givePart 45 = .ok (.getfield 26, 3) := by decide +kernel
theorem dX7_givePart_48 : decode cX7_givePart 48 = .ok (.getfield 166, 3) := by decide +kernel
theorem dX7_givePart_51 : decode cX7_givePart 51 = .ok (.invokevirtual 107, 3) := by decide +kernel
theorem dX7_givePart_54 : decode cX7_givePart 54 = .ok (.invokevirtual 101, 3) := by decide +kernel
theorem dX7_givePart_57 : decode cX7_givePart 57 = .ok (.goto 65, 3) := by decide +kernel
theorem dX7_givePart_60 : decode cX7_givePart 60 = .ok (.aload_n 2, 1) := by decide +kernel
theorem dX7_givePart_61 : decode cX7_givePart 61 = .ok (.getfield 285, 3) := by decide +kernel
theorem dX7_givePart_64 : decode cX7_givePart 64 = .ok (.getstatic 142, 3) := by decide +kernel
theorem dX7_givePart_67 : decode cX7_givePart 67 = .ok (.if_acmp .ne 26, 3) := by decide +kernel
theorem dX7_givePart_70 : decode cX7_givePart 70 = .ok (.aload_n 0, 1) := by decide +kernel
theorem dX7_givePart_71 : decode cX7_givePart 71 = .ok (.getfield 26, 3) := by decide +kernel
theorem dX7_givePart_74 : decode cX7_givePart 74 = .ok (.aload_n 0, 1) := by decide +kernel
theorem dX7_givePart_75 : decode cX7_givePart 75 = .ok (.getfield 40, 3) := by decide +kernel
theorem dX7_givePart_78 : decode cX7_givePart 78 = .ok (.aload_n 2, 1) := by decide +kernel
theorem dX7_givePart_79 : decode cX7_givePart 79 = .ok (.getfield 288, 3) := by decide +kernel
theorem dX7_givePart_82 : decode cX7_givePart 82 = .ok (.iadd, 1) := by decide +kernel
theorem dX7_givePart_83 : decode cX7_givePart 83 = .ok (.aload_n 2, 1) := by decide +kernel
theorem dX7_givePart_84 : decode cX7_givePart 84 = .ok (.getfield 291, 3) := by decide +kernel
theorem dX7_givePart_87 : decode cX7_givePart 87 = .ok (.invokevirtual 316, 3) := by decide +kernel
theorem dX7_givePart_90 : decode cX7_givePart 90 = .ok (.goto 32, 3) := by decide +kernel
theorem dX7_givePart_93 : decode cX7_givePart 93 = .ok (.aload_n 0, 1) := by decide +kernel
theorem dX7_givePart_94 : decode cX7_givePart 94 = .ok (.aload_n 0, 1) := by decide +kernel
theorem dX7_givePart_95 : decode cX7_givePart 95 = .ok (.aload_n 1, 1) := by decide +kernel
theorem dX7_givePart_96 : decode cX7_givePart 96 = .ok (.getfield 157, 3) := by decide +kernel
theorem dX7_givePart_99 : decode cX7_givePart 99 = .ok (.ifCond .eq 10, 3) := by decide +kernel
theorem dX7_givePart_102 : decode cX7_givePart 102 = .ok (.aload_n 2, 1) := by decide +kernel
theorem dX7_givePart_103 : decode cX7_givePart 103 = .ok (.getfield 291, 3) := by decide +kernel
theorem dX7_givePart_106 : decode cX7_givePart 106 = .ok (.goto 7, 3) := by decide +kernel
theorem dX7_givePart_109 : decode cX7_givePart 109 = .ok (.aload_n 2, 1) := by decide +kernel
theorem dX7_givePart_110 : decode cX7_givePart 110 = .ok (.getfield 288, 3) := by decide +kernel
theorem dX7_givePart_113 : decode cX7_givePart 113 = .ok (.invokevirtual 81, 3) := by decide +kernel
theorem dX7_givePart_116 : decode cX7_givePart 116 = .ok (.iload_n 3, 1) := by decide +kernel
theorem dX7_givePart_117 : decode cX7_givePart 117 = .ok (.iconst 1, 1) := by decide +kernel
theorem dX7_givePart_118 : decode cX7_givePart 118 = .ok (.iadd, 1) := by decide +kernel
theorem dX7_givePart_119 : decode cX7_givePart 119 = .ok (.invokevirtual 308, 3) := by decide +kernel
theorem dX7_givePart_122 : decode cX7_givePart 122 = .ok (.return_, 1) := by decide +kernel
theorem dX7_isInShadow_0 : decode cX7_isInShadow 0 = .ok (.aload_n 0, 1) := by decide +kernel
theorem dX7_isInShadow_1 : decode cX7_isInShadow 1 = .ok (.iload_n 1, 1) := by decide +kernel
theorem dX7_isInShadow_2 : decode cX7_isInShadow 2 = .ok (.invokevirtual 81, 3) := by decide +kernel
theorem dX7_isInShadow_5 : decode cX7_isInShadow 5 = .ok (.astore_n 3, 1) := by decide +kernel
theorem dX7_isInShadow_6 : decode cX7_isInShadow 6 = .ok (.aload_n 0, 1) := by decide +kernel
theorem dX7_isInShadow_7 : decode cX7_isInShadow 7 = .ok (.iload_n 2, 1) := by decide +kernel
theorem dX7_isInShadow_8 : decode cX7_isInShadow 8 = .ok (.invokevirtual 81, 3) := by decide +kernel
theorem dX7_isInShadow_11 : decode cX7_isInShadow 11 = .ok (.astore 4, 2) := by decide +kernel
theorem dX7_isInShadow_13 : decode cX7_isInShadow 13 = .ok (.aload_n 3, 1) := by decide +kernel
theorem dX7_isInShadow_14 : decode cX7_isInShadow 14 = .ok (.getfield 113, 3) := by decide +kernel
theorem dX7_isInShadow_17 : decode cX7_isInShadow 17 = .ok (.ifCond .eq 32, 3) := by decide +kernel
theorem dX7_isInShadow_20 : decode cX7_isInShadow 20 = .ok (.aload 4, 2) := by decide +kernel
theorem dX7_isInShadow_22 : decode cX7_isInShadow 22 = .ok (.getfield 113, 3) := by decide +kernel
theorem dX7_isInShadow_25 : decode cX7_isInShadow 25 = .ok (.ifCond .eq 24, 3) := by decide +kernel
theorem dX7_isInShadow_28 : decode cX7_isInShadow 28 = .ok (.aload_n 3, 1) := by decide +kernel
theorem dX7_isInShadow_29 : decode cX7_isInShadow 29 = .ok (.getfield 89, 3) := by decide +kernel
theorem dX7_isInShadow_32 : decode cX7_isInShadow 32 = .ok (.invokevirtual 320, 3) := by decide +kernel
theorem dX7_isInShadow_35 : decode cX7_isInShadow 35 = .ok (.ifCond .ne 14, 3) := by decide +kernel
theorem dX7_isInShadow_38 : decode cX7_isInShadow 38 = .ok (.aload 4, 2) := by decide +kernel
theorem dX7_isInShadow_40 : decode cX7_isInShadow 40 = .ok (.getfield 89, 3) := by decide +kernel
theorem dX7_isInShadow_43 : decode cX7_isInShadow 43 = .ok (.invokevirtual 320, 3) := by decide +kernel
theorem dX7_isInShadow_46 : decode cX7_isInShadow 46 = .ok (.ifCond .eq 5, 3) := by decide +kernel
theorem dX7_isInShadow_49 : decode cX7_isInShadow 49 = .ok (.iconst 0, 1) := by decide +kernel
theorem dX7_isInShadow_50 : decode cX7_isInShadow 50 = .ok (.ireturn, 1) := by decide +kernel
theorem dX7_isInShadow_51 : decode cX7_isInShadow 51 = .ok (.iload_n 2, 1) := by decide +kernel
theorem dX7_isInShadow_52 : decode cX7_isInShadow 52 = .ok (.iload_n 1, 1) := by decide +kernel
theorem dX7_isInShadow_53 : decode cX7_isInShadow 53 = .ok (.if_icmp .ge 18, 3) := by decide +kernel
theorem dX7_isInShadow_56 : decode cX7_isInShadow 56 = .ok (.aload_n 3, 1) := by decide +kernel
theorem dX7_isInShadow_57 : decode cX7_isInShadow 57 = .ok (.getfield 89, 3) := by decide +kernel
theorem dX7_isInShadow_60 : decode cX7_isInShadow 60 = .ok (.aload 4, 2) := by decide +kernel
theorem dX7_isInShadow_62 : decode cX7_isInShadow 62 = .ok (.getfield 89, 3) := by decide +kernel
theorem dX7_isInShadow_65 : decode cX7_isInShadow 65 = .ok (.invokevirtual 323, 3) := by decide +kernel
theorem dX7_isInShadow_68 : decode cX7_isInShadow 68 = .ok (.ifCond .ne 18, 3) := by decide +kernel
theorem dX7_isInShadow_71 : decode cX7_isInShadow 71 = .ok (.aload 4, 2) := by decide +kernel
theorem dX7_isInShadow_73 : decode cX7_isInShadow 73 = .ok (.getfield 89, 3) := by decide +kernel
theorem dX7_isInShadow_76 : decode cX7_isInShadow 76 = .ok (.aload_n 3, 1) := by decide +kernel
theorem dX7_isInShadow_77 : decode cX7_isInShadow 77 = .ok (.getfield 89, 3) := by decide +kernel
theorem dX7_isInShadow_80 : decode cX7_isInShadow 80 = .ok (.invokestatic 327, 3) := by decide +kernel
theorem dX7_isInShadow_83 : decode cX7_isInShadow 83 = .ok (.ifCond .eq 7, 3) := by decide +kernel
theorem dX7_isInShadow_86 : decode cX7_isInShadow 86 = .ok (.iconst 1, 1) := by decide +kernel
theorem dX7_isInShadow_87 : decode cX7_isInShadow 87 = .ok (.goto 4, 3) := by decide +kernel
theorem dX7_isInShadow_90 : decode cX7_isInShadow 90 = .ok (.iconst 0, 1) := by decide +kernel
theorem dX7_isInShadow_91 : decode cX7_isInShadow 91 = .ok (.ireturn, 1) := by decide +kernel
theorem dX7_isTypedEarlier_0 : decode cX7_isTypedEarlier 0 = .ok (.iconst 1, 1) := by decide +kernel
theorem dX7_isTypedEarlier_1 : decode cX7_isTypedEarlier 1 = .ok (.istore_n 2, 1) := by decide +kernel
theorem dX7_isTypedEarlier_2 : decode cX7_isTypedEarlier 2 = .ok (.iload_n 2, 1) := by decide +kernel
theorem dX7_isTypedEarlier_3 : decode cX7_isTypedEarlier 3 = .ok (.aload_n 1, 1) := by decide +kernel
theorem dX7_isTypedEarlier_4 : decode cX7_isTypedEarlier 4 = .ok (.invokevirtual 107, 3) := by decide +kernel
theorem dX7_isTypedEarlier_7 : decode cX7_isTypedEarlier 7 = .ok (.if_icmp .ge 20, 3) := by decide +kernel
theorem dX7_isTypedEarlier_10 : decode cX7_isTypedEarlier 10 = .ok (.aload_n 1, 1) := by decide +kernel
theorem dX7_isTypedEarlier_11 : decode cX7_isTypedEarlier 11 = .ok (.aload_n 0, 1) := by decide +kernel
theorem dX7_isTypedEarlier_12 : decode cX7_isTypedEarlier 12 = .ok (.iload_n 2, 1) := by decide +kernel
theorem dX7_isTypedEarlier_13 : decode cX7_isTypedEarlier 13 = .ok (.invokevirtual 331, 3) := by decide +kernel
theorem dX7_isTypedEarlier_16 : decode cX7_isTypedEarlier 16 = .ok (.ifCond .eq 5, 3) := by decide +kernel
theorem dX7_isTypedEarlier_19 : decode cX7_isTypedEarlier 19 = .ok (.iconst 1, 1) := by decide +kernel
theorem dX7_isTypedEarlier_20 : decode cX7_isTypedEarlier 20 = .ok (.ireturn, 1) := by decide +kernel
theorem dX7_isTypedEarlier_21 : decode cX7_isTypedEarlier 21 = .ok (.iinc 2 1, 3) := by decide +kernel
theorem dX7_isTypedEarlier_24 : decode cX7_isTypedEarlier 24 = .ok (.goto (-22), 3) := by decide +kernel
theorem dX7_isTypedEarlier_27 : decode cX7_isTypedEarlier 27 = .ok (.iconst 0, 1) := by decide +kernel
theorem dX7_isTypedEarlier_28 : decode cX7_isTypedEarlier 28 = .ok (.ireturn, 1) := by decide +kernel
theorem dX7_lowestShadower_0 : decode cX7_lowestShadower 0 = .ok (.iconst 0, 1) := by decide +kernel
theorem dX7_lowestShadower_1 : decode cX7_lowestShadower 1 = .ok (.istore_n 2, 1) := by decide +kernel
theorem dX7_lowestShadower_2 : decode cX7_lowestShadower 2 = .ok (.iload_n 2, 1) := by decide +kernel
theorem dX7_lowestShadower_3 : decode cX7_lowestShadower 3 = .ok (.aload_n 0, 1) := by decide +kernel
theorem dX7_lowestShadower_4 : decode cX7_lowestShadower 4 = .ok (.getfield 12, 3) := by decide +kernel
theorem dX7_lowestShadower_7 : decode cX7_lowestShadower 7 = .ok (.invokevirtual 61, 3) := by decide +kernel
theorem dX7_lowestShadower_10 : decode cX7_lowestShadower 10 = .ok (.if_icmp .ge 20, 3) := by decide +kernel
theorem dX7_lowestShadower_13 : decode cX7_lowestShadower 13 = .ok (.aload_n 0, 1) := by decide +kernel
theorem dX7_lowestShadower_14 : decode cX7_lowestShadower 14 = .ok (.iload_n 1, 1) := by decide +kernel
theorem dX7_lowestShadower_15 : decode cX7_lowestShadower 15 = .ok (.iload_n 2, 1) := by decide +kernel
theorem dX7_lowestShadower_16 : decode cX7_lowestShadower 16 = .ok (.invokevirtual 196, 3) := by decide +kernel
theorem dX7_lowestShadower_19 : decode cX7_lowestShadower 19 = .ok (.ifCond .eq 5, 3) := by decide +kernel
theorem dX7_lowestShadower_22 : decode cX7_lowestShadower 22 = .ok (.iload_n 2, 1) := by decide +kernel
theorem dX7_lowestShadower_23 : decode cX7_lowestShadower 23 = .ok (.ireturn, 1) := by decide +kernel
theorem dX7_lowestShadower_24 : decode cX7_lowestShadower 24 = .ok (.iinc 2 1, 3) := by decide +kernel
theorem dX7_lowestShadower_27 : decode cX7_lowestShadower 27 = .ok (.goto (-25), 3) := by decide +kernel
theorem dX7_lowestShadower_30 : decode cX7_lowestShadower 30 = .ok (.iconst (-1), 1) := by decide +kernel
theorem dX7_lowestShadower_31 : decode cX7_lowestShadower 31 = .ok (.ireturn, 1) := by decide +kernel
theorem dX7_growTree_0 : decode cX7_growTree 0 = .ok (.aload_n 0, 1) := by decide +kernel
theorem dX7_growTree_1 : decode cX7_growTree 1 = .ok (.getfield 19, 3) := by decide +kernel
theorem dX7_growTree_4 : decode cX7_growTree 4 = .ok (.invokevirtual 335, 3) := by decide +kernel
theorem dX7_growTree_7 : decode cX7_growTree 7 = .ok (.iconst 0, 1) := by decide +kernel
theorem dX7_growTree_8 : decode cX7_growTree 8 = .ok (.istore_n 1, 1) := by decide +kernel
theorem dX7_growTree_9 : decode cX7_growTree 9 = .ok (.iload_n 1, 1) := by decide +kernel
theorem dX7_growTree_10 : decode cX7_growTree 10 = .ok (.aload_n 0, 1) := by decide +kernel
theorem dX7_growTree_11 : decode cX7_growTree 11 = .ok (.getfield 12, 3) := by decide +kernel
theorem dX7_growTree_14 : decode cX7_growTree 14 = .ok (.invokevirtual 61, 3) := by decide +kernel
theorem dX7_growTree_17 : decode cX7_growTree 17 = .ok (.if_icmp .ge 34, 3) := by decide +kernel
theorem dX7_growTree_20 : decode cX7_growTree 20 = .ok (.aload_n 0, 1) := by decide +kernel
theorem dX7_growTree_21 : decode cX7_growTree 21 = .ok (.iload_n 1, 1) := by decide +kernel
theorem dX7_growTree_22 : decode cX7_growTree 22 = .ok (.invokevirtual 81, 3) := by decide +kernel
theorem dX7_growTree_25 : decode cX7_growTree 25 = .ok (.getfield 89, 3) := by decide +kernel
theorem dX7_growTree_28 : decode cX7_growTree 28 = .ok (.astore_n 2, 1) := by decide +kernel
theorem dX7_growTree_29 : decode cX7_growTree 29 = .ok (.aload_n 2, 1) := by decide +kernel
theorem dX7_growTree_30 : decode cX7_growTree 30 = .ok (.invokevirtual 320, 3) := by decide +kernel
theorem dX7_growTree_33 : decode cX7_growTree 33 = .ok (.ifCond .ne 12, 3) := by decide +kernel
theorem dX7_growTree_36 : decode cX7_growTree 36 = .ok (.aload_n 0, 1) := by decide +kernel
theorem dX7_growTree_37 : decode cX7_growTree 37 = .ok (.getfield 19, 3) := by decide +kernel
theorem dX7_growTree_40 : decode cX7_growTree 40 = .ok (.aload_n 2, 1) := by decide +kernel
theorem dX7_growTree_41 : decode cX7_growTree 41 = .ok (.iload_n 1, 1) := by decide +kernel
theorem dX7_growTree_42 : decode cX7_growTree 42 = .ok (.invokevirtual 336, 3) := by decide +kernel
theorem dX7_growTree_45 : decode cX7_growTree 45 = .ok (.iinc 1 1, 3) := by decide +kernel
theorem dX7_growTree_48 : decode cX7_growTree 48 = .ok (.goto (-39), 3) := by decide +kernel
theorem dX7_growTree_51 : decode cX7_growTree 51 = .ok (.return_, 1) := by decide +kernel
theorem dX7_findInTree_0 : decode cX7_findInTree 0 = .ok (.iconst (-1), 1) := by decide +kernel
theorem dX7_findInTree_1 : decode cX7_findInTree 1 = .ok (.istore_n 1, 1) := by decide +kernel
theorem dX7_findInTree_2 : decode cX7_findInTree 2 = .ok (.iconst 0, 1) := by decide +kernel
theorem dX7_findInTree_3 : decode cX7_findInTree 3 = .ok (.istore_n 2, 1) := by decide +kernel
theorem dX7_findInTree_4 : decode cX7_findInTree 4 = .ok (.iconst 1, 1) := by decide +kernel
theorem dX7_findInTree_5 : decode cX7_findInTree 5 = .ok (.istore_n 3, 1) := by decide +kernel
theorem dX7_findInTree_6 : decode cX7_findInTree 6 = .ok (.iload_n 3, 1) := by decide +kernel
theorem dX7_findInTree_7 : decode cX7_findInTree 7 = .ok (.bipush 6, 2) := by decide +kernel
theorem dX7_findInTree_9 : decode cX7_findInTree 9 = .ok (.if_icmp .gt 88, 3) := by decide +kernel
theorem dX7_findInTree_12 : decode cX7_findInTree 12 = .ok (.iload_n 3, 1) := by decide +kernel
theorem dX7_findInTree_13 : decode cX7_findInTree 13 = .ok (.aload_n 0, 1) := by decide +kernel
theorem dX7_findInTree_14 : decode cX7_findInTree 14 = .ok (.getfield 33, 3) := by decide +kernel
theorem dX7_findInTree_17 : decode cX7_findInTree 17 = .ok (.getfield 218, 3) := by decide +kernel
theorem dX7_findInTree_20 : decode cX7_findInTree 20 = .ok (.if_icmp .gt 77, 3) := by decide +kernel
theorem dX7_findInTree_23 : decode cX7_findInTree 23 = .ok (.aload_n 0, 1) := by decide +kernel
theorem dX7_findInTree_24 : decode cX7_findInTree 24 = .ok (.getfield 33, 3) := by decide +kernel
theorem dX7_findInTree_27 : decode cX7_findInTree 27 = .ok (.getfield 218, 3) := by decide +kernel
theorem dX7_findInTree_30 : decode cX7_findInTree 30 = .ok (.iload_n 3, 1) := by decide +kernel
theorem dX7_findInTree_31 : decode cX7_findInTree 31 = .ok (.isub, 1) := by decide +kernel
theorem dX7_findInTree_32 : decode cX7_findInTree 32 = .ok (.istore 4, 2) := by decide +kernel
theorem dX7_findInTree_34 : decode cX7_findInTree 34 = .ok (.aload_n 0, 1) := by decide +kernel
theorem dX7_findInTree_35 : decode cX7_findInTree 35 = .ok (.getfield 19, 3) := by decide +kernel
theorem dX7_findInTree_38 : decode cX7_findInTree 38 = .ok (.iload_n 2, 1) := by decide +kernel
theorem dX7_findInTree_39 : decode cX7_findInTree 39 = .ok (.aload_n 0, 1) := by decide +kernel
theorem dX7_findInTree_40 : decode cX7_findInTree 40 = .ok (.getfield 33, 3) := by decide +kernel
theorem dX7_findInTree_43 : decode cX7_findInTree 43 = .ok (.getfield 205, 3) := by decide +kernel
theorem dX7_findInTree_46 : decode cX7_findInTree 46 = .ok (.iload 4, 2) := by decide +kernel
theorem dX7_findInTree_48 : decode cX7_findInTree 48 = .ok (.invokevirtual 178, 3) := by decide +kernel
theorem dX7_findInTree_51 : decode cX7_findInTree 51 = .ok (.invokevirtual 339, 3) := by decide +kernel
theorem dX7_findInTree_54 : decode cX7_findInTree 54 = .ok (.istore_n 2, 1) := by decide +kernel
theorem dX7_findInTree_55 : decode cX7_findInTree 55 = .ok (.iload_n 2, 1) := by decide +kernel
theorem dX7_findInTree_56 : decode cX7_findInTree 56 = .ok (.iconst (-1), 1) := by decide +kernel
theorem dX7_findInTree_57 : decode cX7_findInTree 57 = .ok (.if_icmp .ne 5, 3) := by decide +kernel
theorem dX7_findInTree_60 : decode cX7_findInTree 60 = .ok (.iload_n 1, 1) := by decide +kernel
theorem dX7_findInTree_61 : decode cX7_findInTree 61 = .ok (.ireturn, 1) := by decide +kernel
theorem dX7_findInTree_62 : decode cX7_findInTree 62 = .ok (.aload_n 0, 1) := by decide +kernel
theorem dX7_findInTree_63 : decode cX7_findInTree 63 = .ok (.aload_n 0, 1) := by decide +kernel
theorem dX7_findInTree_64 : decode cX7_findInTree 64 = .ok (.getfield 19, 3) := by decide +kernel
theorem dX7_findInTree_67 : decode cX7_findInTree 67 = .ok (.iload_n 2, 1) := by decide +kernel
theorem dX7_findInTree_68 : decode cX7_findInTree 68 = .ok (.invokevirtual 342, 3) := by decide +kernel
theorem dX7_findInTree_71 : decode cX7_findInTree 71 = .ok (.iload 4, 2) := by decide +kernel
theorem dX7_findInTree_73 : decode cX7_findInTree 73 = .ok (.invokevirtual 345, 3) := by decide +kernel
theorem dX7_findInTree_76 : decode cX7_findInTree 76 = .ok (.istore 5, 2) := by decide +kernel
theorem dX7_findInTree_78 : decode cX7_findInTree 78 = .ok (.iload 5, 2) := by decide +kernel
theorem dX7_findInTree_80 : decode cX7_findInTree 80 = .ok (.iconst (-1), 1) := by decide +kernel
theorem dX7_findInTree_81 : decode cX7_findInTree 81 = .ok (.if_icmp .ne 7, 3) := by decide +kernel
theorem dX7_findInTree_84 : decode cX7_findInTree 84 = .ok (.iload_n 1, 1) := by decide +kernel
theorem dX7_findInTree_85 : decode cX7_findInTree 85 = .ok (.goto 5, 3) := by decide +kernel
theorem dX7_findInTree_88 : decode cX7_findInTree 88 = .ok (.iload 5, 2) := by decide +kernel
theorem dX7_findInTree_90 : decode cX7_findInTree 90 = .ok (.istore_n 1, 1) := by decide +kernel
theorem dX7_findInTree_91 : decode cX7_findInTree 91 = .ok (.iinc 3 1, 3) := by decide +kernel
theorem dX7_findInTree_94 : decode cX7_findInTree 94 = .ok (.goto (-88), 3) := by decide +kernel
theorem dX7_findInTree_97 : decode cX7_findInTree 97 = .ok (.iload_n 1, 1) := by decide +kernel
theorem dX7_findInTree_98 : decode cX7_findInTree 98 = .ok (.ireturn, 1) := by decide +kernel
theorem dX7_lowestReady_0 : decode cX7_lowestReady 0 = .ok (.iconst 0, 1) := by decide +kernel
theorem dX7_lowestReady_1 : decode cX7_lowestReady 1 = .ok (.istore_n 3, 1) := by decide +kernel
theorem dX7_lowestReady_2 : decode cX7_lowestReady 2 = .ok (.iload_n 3, 1) := by decide +kernel
theorem dX7_lowestReady_3 : decode cX7_lowestReady 3 = .ok (.aload_n 0, 1) := by decide +kernel
theorem dX7_lowestReady_4 : decode cX7_lowestReady 4 = .ok (.getfield 12, 3) := by decide +kernel
theorem dX7_lowestReady_7 : decode cX7_lowestReady 7 = .ok (.invokevirtual 61, 3) := by decide +kernel
theorem dX7_lowestReady_10 : decode cX7_lowestReady 10 = .ok (.if_icmp .ge 33, 3) := by decide +kernel
theorem dX7_lowestReady_13 : decode cX7_lowestReady 13 = .ok (.iload_n 1, 1) := by decide +kernel
theorem dX7_lowestReady_14 : decode cX7_lowestReady 14 = .ok (.iload_n 3, 1) := by decide +kernel
theorem dX7_lowestReady_15 : decode cX7_lowestReady 15 = .ok (.ishr, 1) := by decide +kernel
theorem dX7_lowestReady_16 : decode cX7_lowestReady 16 = .ok (.iconst 1, 1) := by decide +kernel
theorem dX7_lowestReady_17 : decode cX7_lowestReady 17 = .ok (.iand, 1) := by decide +kernel
theorem dX7_lowestReady_18 : decode cX7_lowestReady 18 = .ok (.iconst 1, 1) := by decide +kernel
theorem dX7_lowestReady_19 : decode cX7_lowestReady 19 = .ok (.if_icmp .ne 18, 3) := by decide +kernel
theorem dX7_lowestReady_22 : decode cX7_lowestReady 22 = .ok (.aload_n 0, 1) := by decide +kernel
theorem dX7_lowestReady_23 : decode cX7_lowestReady 23 = .ok (.aload_n 0, 1) := by decide +kernel
theorem dX7_lowestReady_24 : decode cX7_lowestReady 24 = .ok (.iload_n 3, 1) := by decide +kernel
theorem dX7_lowestReady_25 : decode cX7_lowestReady 25 = .ok (.invokevirtual 81, 3) := by decide +kernel
theorem dX7_lowestReady_28 : decode cX7_lowestReady 28 = .ok (.iload_n 2, 1) := by decide +kernel
theorem dX7_lowestReady_29 : decode cX7_lowestReady 29 = .ok (.invokevirtual 348, 3) := by decide +kernel
theorem dX7_lowestReady_32 : decode cX7_lowestReady 32 = .ok (.ifCond .eq 5, 3) := by decide +kernel
theorem dX7_lowestReady_35 : decode cX7_lowestReady 35 = .ok (.iload_n 3, 1) := by decide +kernel
theorem dX7_lowestReady_36 : decode cX7_lowestReady 36 = .ok (.ireturn, 1) := by decide +kernel
theorem dX7_lowestReady_37 : decode cX7_lowestReady 37 = .ok (.iinc 3 1, 3) := by decide +kernel
theorem dX7_lowestReady_40 : decode cX7_lowestReady 40 = .ok (.goto (-38), 3) := by decide +kernel
theorem dX7_lowestReady_43 : decode cX7_lowestReady 43 = .ok (.iconst (-1), 1) := by decide +kernel
theorem dX7_lowestReady_44 : decode cX7_lowestReady 44 = .ok (.ireturn, 1) := by decide +kernel
theorem dX7_findByLooking_0 : decode cX7_findByLooking 0 = .ok (.iconst (-1), 1) := by decide +kernel
theorem dX7_findByLooking_1 : decode cX7_findByLooking 1 = .ok (.istore_n 1, 1) := by decide +kernel
theorem dX7_findByLooking_2 : decode cX7_findByLooking 2 = .ok (.iconst 0, 1) := by decide +kernel
theorem dX7_findByLooking_3 : decode cX7_findByLooking 3 = .ok (.istore_n 2, 1) := by decide +kernel
theorem dX7_findByLooking_4 : decode cX7_findByLooking 4 = .ok (.iconst 0, 1) := by decide +kernel
theorem dX7_findByLooking_5 : decode cX7_findByLooking 5 = .ok (.istore_n 3, 1) := by decide +kernel
theorem dX7_findByLooking_6 : decode cX7_findByLooking 6 = .ok (.iload_n 3, 1) := by decide +kernel
theorem dX7_findByLooking_7 : decode cX7_findByLooking 7 = .ok (.aload_n 0, 1) := by decide +kernel
theorem dX7_findByLooking_8 : decode cX7_findByLooking 8 = .ok (.getfield 12, 3) := by decide +kernel
theorem dX7_findByLooking_11 : decode cX7_findByLooking 11 = .ok (.invokevirtual 61, 3) := by decide +kernel
theorem dX7_findByLooking_14 : decode cX7_findByLooking 14 = .ok (.if_icmp .ge 81, 3) := by decide +kernel
theorem dX7_findByLooking_17 : decode cX7_findByLooking 17 = .ok (.aload_n 0, 1) := by decide +kernel
theorem dX7_findByLooking_18 : decode cX7_findByLooking 18 = .ok (.iload_n 3, 1) := by decide +kernel
theorem dX7_findByLooking_19 : decode cX7_findByLooking 19 = .ok (.invokevirtual 81, 3) := by decide +kernel
theorem dX7_findByLooking_22 : decode cX7_findByLooking 22 = .ok (.astore 4, 2) := by decide +kernel
theorem dX7_findByLooking_24 : decode cX7_findByLooking 24 = .ok (.aload 4, 2) := by decide +kernel
theorem dX7_findByLooking_26 : decode cX7_findByLooking 26 = .ok (.getfield 89, 3) := by decide +kernel
theorem dX7_findByLooking_29 : decode cX7_findByLooking 29 = .ok (.invokevirtual 107, 3) := by decide +kernel
theorem dX7_findByLooking_32 : decode cX7_findByLooking 32 = .ok (.istore 5, 2) := by decide +kernel
theorem dX7_findByLooking_34 : decode cX7_findByLooking 34 = .ok (.iload 5, 2) := by decide +kernel
theorem dX7_findByLooking_36 : decode cX7_findByLooking 36 = .ok (.iload_n 2, 1) := by decide +kernel
theorem dX7_findByLooking_37 : decode cX7_findByLooking 37 = .ok (.if_icmp .le 52, 3) := by decide +kernel
theorem dX7_findByLooking_40 : decode cX7_findByLooking 40 = .ok (.aload_n 0, 1) := by decide +kernel
theorem dX7_findByLooking_41 : decode cX7_findByLooking 41 = .ok (.getfield 33, 3) := by decide +kernel
theorem dX7_findByLooking_44 : decode cX7_findByLooking 44 = .ok (.getfield 205, 3) := by decide +kernel
theorem dX7_findByLooking_47 : decode cX7_findByLooking 47 = .ok (.aload 4, 2) := by decide +kernel
theorem dX7_findByLooking_49 : decode cX7_findByLooking 49 = .ok (.getfield 89, 3) := by decide +kernel
theorem dX7_findByLooking_52 : decode cX7_findByLooking 52 = .ok (.aload_n 0, 1) := by decide +kernel
theorem dX7_findByLooking_53 : decode cX7_findByLooking 53 = .ok (.getfield 33, 3) := by decide +kernel
theorem dX7_findByLooking_56 : decode cX7_findByLooking 56 = .ok (.getfield 218, 3) := by decide +kernel
theorem dX7_findByLooking_59 : decode cX7_findByLooking 59 = .ok (.invokevirtual 331, 3) := by decide +kernel
theorem dX7_findByLooking_62 : decode cX7_findByLooking 62 = .ok (.ifCond .eq 27, 3) := by decide +kernel
theorem dX7_findByLooking_65 : decode cX7_findByLooking 65 = .ok (.aload_n 0, 1) := by decide +kernel
theorem dX7_findByLooking_66 : decode cX7_findByLooking 66 = .ok (.aload 4, 2) := by decide +kernel
theorem dX7_findByLooking_68 : decode cX7_findByLooking 68 = .ok (.aload_n 0, 1) := by decide +kernel
theorem dX7_findByLooking_69 : decode cX7_findByLooking 69 = .ok (.getfield 33, 3) := by decide +kernel
theorem dX7_findByLooking_72 : decode cX7_findByLooking 72 = .ok (.getfield 218, 3) := by decide +kernel
theorem dX7_findByLooking_75 : decode cX7_findByLooking 75 = .ok (.iload 5, 2) := by decide +kernel
theorem dX7_findByLooking_77 : decode cX7_findByLooking 77 = .ok (.isub, 1) := by decide +kernel
theorem dX7_findByLooking_78 : decode cX7_findByLooking 78 = .ok (.invokevirtual 348, 3) := by decide +kernel
theorem dX7_findByLooking_81 : decode cX7_findByLooking 81 = .ok (.ifCond .eq 8, 3) := by decide +kernel
theorem dX7_findByLooking_84 : decode cX7_findByLooking 84 = .ok (.iload_n 3, 1) := by decide +kernel
theorem dX7_findByLooking_85 : decode cX7_findByLooking 85 = .ok (.istore_n 1, 1) := by decide +kernel
theorem dX7_findByLooking_86 : decode cX7_findByLooking 86 = .ok (.iload 5, 2) := by decide +kernel
theorem dX7_findByLooking_88 : decode cX7_findByLooking 88 = .ok (.istore_n 2, 1) := by decide +kernel
theorem dX7_findByLooking_89 : decode cX7_findByLooking 89 = .ok (.iinc 3 1, 3) := by decide +kernel
theorem dX7_findByLooking_92 : decode cX7_findByLooking 92 = .ok (.goto (-86), 3) := by decide +kernel
theorem dX7_findByLooking_95 : decode cX7_findByLooking 95 = .ok (.iload_n 1, 1) := by decide +kernel
theorem dX7_findByLooking_96 : decode cX7_findByLooking 96 = .ok (.ireturn, 1) := by decide +kernel
theorem dX7_isReady_0 : decode cX7_isReady 0 = .ok (.aload_n 1, 1) := by decide +kernel
theorem dX7_isReady_1 : decode cX7_isReady 1 = .ok (.getfield 113, 3) := by decide +kernel
theorem dX7_isReady_4 : decode cX7_isReady 4 = .ok (.ifCond .eq 22, 3) := by decide +kernel
theorem dX7_isReady_7 : decode cX7_isReady 7 = .ok (.aload_n 1, 1) := by decide +kernel
theorem dX7_isReady_8 : decode cX7_isReady 8 = .ok (.getfield 352, 3) := by decide +kernel
theorem dX7_isReady_11 : decode cX7_isReady 11 = .ok (.ifCond .eq 11, 3) := by decide +kernel
theorem dX7_isReady_14 : decode cX7_isReady 14 = .ok (.aload_n 0, 1) := by decide +kernel
theorem dX7_isReady_15 : decode cX7_isReady 15 = .ok (.iload_n 2, 1) := by decide +kernel
theorem dX7_isReady_16 : decode cX7_isReady 16 = .ok (.invokevirtual 355, 3) := by decide +kernel
theorem dX7_isReady_19 : decode cX7_isReady 19 = .ok (.ifCond .eq 7, 3) := by decide +kernel
theorem dX7_isReady_22 : decode cX7_isReady 22 = .ok (.iconst 1, 1) := by decide +kernel
theorem dX7_isReady_23 : decode cX7_isReady 23 = .ok (.goto 4, 3) := by decide +kernel
theorem dX7_isReady_26 : decode cX7_isReady 26 = .ok (.iconst 0, 1) := by decide +kernel
theorem dX7_isReady_27 : decode cX7_isReady 27 = .ok (.ireturn, 1) := by decide +kernel
theorem dX7_isWordStart_0 : decode cX7_isWordStart 0 = .ok (.iload_n 1, 1) := by decide +kernel
theorem dX7_isWordStart_1 : decode cX7_isWordStart 1 = .ok (.ifCond .le 22, 3) := by decide +kernel
theorem dX7_isWordStart_4 : decode cX7_isWordStart 4 = .ok (.aload_n 0, 1) := by decide +kernel
theorem dX7_isWordStart_5 : decode cX7_isWordStart 5 = .ok (.getfield 33, 3) := by decide +kernel
theorem dX7_isWordStart_8 : decode cX7_isWordStart 8 = .ok (.getfield 205, 3) := by decide +kernel
theorem dX7_isWordStart_11 : decode cX7_isWordStart 11 = .ok (.iload_n 1, 1) := by decide +kernel
theorem dX7_isWordStart_12 : decode cX7_isWordStart 12 = .ok (.iconst 1, 1) := by decide +kernel
theorem dX7_isWordStart_13 : decode cX7_isWordStart 13 = .ok (.isub, 1) := by decide +kernel
theorem dX7_isWordStart_14 : decode cX7_isWordStart 14 = .ok (.invokevirtual 178, 3) := by decide +kernel
theorem dX7_isWordStart_17 : decode cX7_isWordStart 17 = .ok (.invokestatic 254, 3) := by decide +kernel
theorem dX7_isWordStart_20 : decode cX7_isWordStart 20 = .ok (.ifCond .ne 7, 3) := by decide +kernel
theorem dX7_isWordStart_23 : decode cX7_isWordStart 23 = .ok (.iconst 1, 1) := by decide +kernel
theorem dX7_isWordStart_24 : decode cX7_isWordStart 24 = .ok (.goto 4, 3) := by decide +kernel
theorem dX7_isWordStart_27 : decode cX7_isWordStart 27 = .ok (.iconst 0, 1) := by decide +kernel
theorem dX7_isWordStart_28 : decode cX7_isWordStart 28 = .ok (.ireturn, 1) := by decide +kernel
theorem dX7_expand_0 : decode cX7_expand 0 = .ok (.aload_n 0, 1) := by decide +kernel
theorem dX7_expand_1 : decode cX7_expand 1 = .ok (.aload_n 1, 1) := by decide +kernel
theorem dX7_expand_2 : decode cX7_expand 2 = .ok (.invokevirtual 162, 3) := by decide +kernel
theorem dX7_expand_5 : decode cX7_expand 5 = .ok (.aload_n 1, 1) := by decide +kernel
theorem dX7_expand_6 : decode cX7_expand 6 = .ok (.getfield 89, 3) := by decide +kernel
theorem dX7_expand_9 : decode cX7_expand 9 = .ok (.invokevirtual 107, 3) := by decide +kernel
theorem dX7_expand_12 : decode cX7_expand 12 = .ok (.istore_n 2, 1) := by decide +kernel
theorem dX7_expand_13 : decode cX7_expand 13 = .ok (.aload_n 0, 1) := by decide +kernel
theorem dX7_expand_14 : decode cX7_expand 14 = .ok (.getfield 26, 3) := by decide +kernel
theorem dX7_expand_17 : decode cX7_expand 17 = .ok (.getfield 166, 3) := by decide +kernel
theorem dX7_expand_20 : decode cX7_expand 20 = .ok (.invokevirtual 107, 3) := by decide +kernel
theorem dX7_expand_23 : decode cX7_expand 23 = .ok (.iload_n 2, 1) := by decide +kernel
theorem dX7_expand_24 : decode cX7_expand 24 = .ok (.isub, 1) := by decide +kernel
theorem dX7_expand_25 : decode cX7_expand 25 = .ok (.istore_n 3, 1) := by decide +kernel
theorem dX7_expand_26 : decode cX7_expand 26 = .ok (.aload_n 0, 1) := by decide +kernel
theorem dX7_expand_27 : decode cX7_expand 27 = .ok (.getfield 33, 3) := by decide +kernel
theorem dX7_expand_30 : decode cX7_expand 30 = .ok (.getfield 205, 3) := by decide +kernel
theorem dX7_expand_33 : decode cX7_expand 33 = .ok (.invokevirtual 107, 3) := by decide +kernel
theorem dX7_expand_36 : decode cX7_expand 36 = .ok (.iload_n 3, 1) := by decide +kernel
theorem dX7_expand_37 : decode cX7_expand 37 = .ok (.iadd, 1) := by decide +kernel
theorem dX7_expand_38 : decode cX7_expand 38 = .ok (.bipush 80, 2) := by decide +kernel
theorem dX7_expand_40 : decode cX7_expand 40 = .ok (.if_icmp .le 5, 3) := by decide +kernel
theorem dX7_expand_43 : decode cX7_expand 43 = .ok (.iconst 0, 1) := by decide +kernel
theorem dX7_expand_44 : decode cX7_expand 44 = .ok (.ireturn, 1) := by decide +kernel
theorem dX7_expand_45 : decode cX7_expand 45 = .ok (.aload_n 0, 1) := by decide +kernel
theorem dX7_expand_46 : decode cX7_expand 46 = .ok (.getfield 37, 3) := by decide +kernel
theorem dX7_expand_49 : decode cX7_expand 49 = .ok (.aload_n 0, 1) := by decide +kernel
theorem dX7_expand_50 : decode cX7_expand 50 = .ok (.getfield 33, 3) := by decide +kernel
theorem dX7_expand_53 : decode cX7_expand 53 = .ok (.invokevirtual 236, 3) := by decide +kernel
theorem dX7_expand_56 : decode cX7_expand 56 = .ok (.aload_n 0, 1) := by decide +kernel
theorem dX7_expand_57 : decode cX7_expand 57 = .ok (.getfield 33, 3) := by decide +kernel
theorem dX7_expand_60 : decode cX7_expand 60 = .ok (.iload_n 2, 1) := by decide +kernel
theorem dX7_expand_61 : decode cX7_expand 61 = .ok (.aload_n 0, 1) := by decide +kernel
theorem dX7_expand_62 : decode cX7_expand 62 = .ok (.getfield 26, 3) := by decide +kernel
theorem dX7_expand_65 : decode cX7_expand 65 = .ok (.invokevirtual 358, 3) := by decide +kernel
theorem dX7_expand_68 : decode cX7_expand 68 = .ok (.aload_n 0, 1) := by decide +kernel
theorem dX7_expand_69 : decode cX7_expand 69 = .ok (.iconst 1, 1) := by decide +kernel
theorem dX7_expand_70 : decode cX7_expand 70 = .ok (.putfield 44, 3) := by decide +kernel
theorem dX7_expand_73 : decode cX7_expand 73 = .ok (.aload_n 0, 1) := by decide +kernel
theorem dX7_expand_74 : decode cX7_expand 74 = .ok (.dup, 1) := by decide +kernel
theorem dX7_expand_75 : decode cX7_expand 75 = .ok (.getfield 55, 3) := by decide +kernel
theorem dX7_expand_78 : decode cX7_expand 78 = .ok (.iconst 1, 1) := by decide +kernel
theorem dX7_expand_79 : decode cX7_expand 79 = .ok (.iadd, 1) := by decide +kernel
theorem dX7_expand_80 : decode cX7_expand 80 = .ok (.putfield 55, 3) := by decide +kernel
theorem dX7_expand_83 : decode cX7_expand 83 = .ok (.aload_n 0, 1) := by decide +kernel
theorem dX7_expand_84 : decode cX7_expand 84 = .ok (.iload_n 3, 1) := by decide +kernel
theorem dX7_expand_85 : decode cX7_expand 85 = .ok (.putfield 48, 3) := by decide +kernel
theorem dX7_expand_88 : decode cX7_expand 88 = .ok (.aload_n 0, 1) := by decide +kernel
theorem dX7_expand_89 : decode cX7_expand 89 = .ok (.dup, 1) := by decide +kernel
theorem dX7_expand_90 : decode cX7_expand 90 = .ok (.getfield 51, 3) := by decide +kernel
theorem dX7_expand_93 : decode cX7_expand 93 = .ok (.iload_n 3, 1) := by decide +kernel
theorem dX7_expand_94 : decode cX7_expand 94 = .ok (.i2l, 1) := by decide +kernel
theorem dX7_expand_95 : decode cX7_expand 95 = .ok (.ladd, 1) := by decide +kernel
theorem dX7_expand_96 : decode cX7_expand 96 = .ok (.putfield 51, 3) := by decide +kernel
theorem dX7_expand_99 : decode cX7_expand 99 = .ok (.iconst 1, 1) := by decide +kernel
theorem dX7_expand_100 : decode cX7_expand 100 = .ok (.ireturn, 1) := by decide +kernel
end
section
theorem dX8_init_0 : decode cX8_init 0 = .ok (.aload_n 0, 1) := by decide +kernel
theorem dX8_init_1 : decode cX8_init 1 = .ok (.invokespecial 1, 3) := by decide +kernel
theorem dX8_init_4 : decode cX8_init 4 = .ok (.aload_n 0, 1) := by decide +kernel
theorem dX8_init_5 : decode cX8_init 5 = .ok (.bipush 99, 2) := by decide +kernel
theorem dX8_init_7 : decode cX8_init 7 = .ok (.putfield 7, 3) := by decide +kernel
theorem dX8_init_10 : decode cX8_init 10 = .ok (.aload_n 0, 1) := by decide +kernel
theorem dX8_init_11 : decode cX8_init 11 = .ok (.bipush 48, 2) := by decide +kernel
theorem dX8_init_13 : decode cX8_init 13 = .ok (.newarray .char, 2) := by decide +kernel
theorem dX8_init_15 : decode cX8_init 15 = .ok (.putfield 13, 3) := by decide +kernel
theorem dX8_init_18 : decode cX8_init 18 = .ok (.aload_n 0, 1) := by decide +kernel
theorem dX8_init_19 : decode cX8_init 19 = .ok (.bipush 96, 2) := by decide +kernel
theorem dX8_init_21 : decode cX8_init 21 = .ok (.newarray .char, 2) := by decide +kernel
theorem dX8_init_23 : decode cX8_init 23 = .ok (.putfield 17, 3) := by decide +kernel
theorem dX8_init_26 : decode cX8_init 26 = .ok (.aload_n 0, 1) := by decide +kernel
theorem dX8_init_27 : decode cX8_init 27 = .ok (.bipush 81, 2) := by decide +kernel
theorem dX8_init_29 : decode cX8_init 29 = .ok (.newarray .char, 2) := by decide +kernel
theorem dX8_init_31 : decode cX8_init 31 = .ok (.putfield 20, 3) := by decide +kernel
theorem dX8_init_34 : decode cX8_init 34 = .ok (.aload_n 0, 1) := by decide +kernel
theorem dX8_init_35 : decode cX8_init 35 = .ok (.bipush 81, 2) := by decide +kernel
theorem dX8_init_37 : decode cX8_init 37 = .ok (.newarray .char, 2) := by decide +kernel
theorem dX8_init_39 : decode cX8_init 39 = .ok (.putfield 23, 3) := by decide +kernel
theorem dX8_init_42 : decode cX8_init 42 = .ok (.aload_n 0, 1) := by decide +kernel
theorem dX8_init_43 : decode cX8_init 43 = .ok (.sipush 400, 3) := by decide +kernel
theorem dX8_init_46 : decode cX8_init 46 = .ok (.newarray .char, 2) := by decide +kernel
theorem dX8_init_48 : decode cX8_init 48 = .ok (.putfield 26, 3) := by decide +kernel
theorem dX8_init_51 : decode cX8_init 51 = .ok (.aload_n 0, 1) := by decide +kernel
theorem dX8_init_52 : decode cX8_init 52 = .ok (.bipush 8, 2) := by decide +kernel
theorem dX8_init_54 : decode cX8_init 54 = .ok (.newarray .int, 2) := by decide +kernel
theorem dX8_init_56 : decode cX8_init 56 = .ok (.putfield 29, 3) := by decide +kernel
theorem dX8_init_59 : decode cX8_init 59 = .ok (.aload_n 0, 1) := by decide +kernel
theorem dX8_init_60 : decode cX8_init 60 = .ok (.bipush 8, 2) := by decide +kernel
theorem dX8_init_62 : decode cX8_init 62 = .ok (.newarray .int, 2) := by decide +kernel
theorem dX8_init_64 : decode cX8_init 64 = .ok (.putfield 33, 3) := by decide +kernel
theorem dX8_init_67 : decode cX8_init 67 = .ok (.aload_n 0, 1) := by decide +kernel
theorem dX8_init_68 : decode cX8_init 68 = .ok (.bipush 96, 2) := by decide +kernel
theorem dX8_init_70 : decode cX8_init 70 = .ok (.newarray .int, 2) := by decide +kernel
theorem dX8_init_72 : decode cX8_init 72 = .ok (.putfield 36, 3) := by decide +kernel
theorem dX8_init_75 : decode cX8_init 75 = .ok (.aload_n 0, 1) := by decide +kernel
theorem dX8_init_76 : decode cX8_init 76 = .ok (.bipush 96, 2) := by decide +kernel
theorem dX8_init_78 : decode cX8_init 78 = .ok (.newarray .int, 2) := by decide +kernel
theorem dX8_init_80 : decode cX8_init 80 = .ok (.putfield 39, 3) := by decide +kernel
theorem dX8_init_83 : decode cX8_init 83 = .ok (.aload_n 0, 1) := by decide +kernel
theorem dX8_init_84 : decode cX8_init 84 = .ok (.sipush 400, 3) := by decide +kernel
theorem dX8_init_87 : decode cX8_init 87 = .ok (.newarray .int, 2) := by decide +kernel
theorem dX8_init_89 : decode cX8_init 89 = .ok (.putfield 42, 3) := by decide +kernel
theorem dX8_init_92 : decode cX8_init 92 = .ok (.aload_n 0, 1) := by decide +kernel
theorem dX8_init_93 : decode cX8_init 93 = .ok (.sipush 400, 3) := by decide +kernel
theorem dX8_init_96 : decode cX8_init 96 = .ok (.newarray .int, 2) := by decide +kernel
theorem dX8_init_98 : decode cX8_init 98 = .ok (.putfield 45, 3) := by decide +kernel
theorem dX8_init_101 : decode cX8_init 101 = .ok (.aload_n 0, 1) := by decide +kernel
theorem dX8_init_102 : decode cX8_init 102 = .ok (.sipush 400, 3) := by decide +kernel
theorem dX8_init_105 : decode cX8_init 105 = .ok (.newarray .int, 2) := by decide +kernel
theorem dX8_init_107 : decode cX8_init 107 = .ok (.putfield 48, 3) := by decide +kernel
theorem dX8_init_110 : decode cX8_init 110 = .ok (.aload_n 0, 1) := by decide +kernel
theorem dX8_init_111 : decode cX8_init 111 = .ok (.bipush 8, 2) := by decide +kernel
theorem dX8_init_113 : decode cX8_init 113 = .ok (.newarray .boolean, 2) := by decide +kernel
theorem dX8_init_115 : decode cX8_init 115 = .ok (.putfield 51, 3) := by decide +kernel
theorem dX8_init_118 : decode cX8_init 118 = .ok (.aload_n 0, 1) := by decide +kernel
theorem dX8_init_119 : decode cX8_init 119 = .ok (.bipush 8, 2) := by decide +kernel
theorem dX8_init_121 : decode cX8_init 121 = .ok (.newarray .boolean, 2) := by decide +kernel
theorem dX8_init_123 : decode cX8_init 123 = .ok (.putfield 55, 3) := by decide +kernel
theorem dX8_init_126 : decode cX8_init 126 = .ok (.aload_n 0, 1) := by decide +kernel
theorem dX8_init_127 : decode cX8_init 127 = .ok (.bipush 8, 2) := by decide +kernel
theorem dX8_init_129 : decode cX8_init 129 = .ok (.newarray .boolean, 2) := by decide +kernel
theorem dX8_init_131 : decode cX8_init 131 = .ok (.putfield 58, 3) := by decide +kernel
theorem dX8_init_134 : decode cX8_init 134 = .ok (.return_, 1) := by decide +kernel
theorem dX8_thrown_0 : decode cX8_thrown 0 = .ok (.aload_n 0, 1) := by decide +kernel
theorem dX8_thrown_1 : decode cX8_thrown 1 = .ok (.getfield 61, 3) := by decide +kernel
theorem dX8_thrown_4 : decode cX8_thrown 4 = .ok (.ireturn, 1) := by decide +kernel
theorem dX8_fail_0 : decode cX8_fail 0 = .ok (.aload_n 0, 1) := by decide +kernel
theorem dX8_fail_1 : decode cX8_fail 1 = .ok (.iload_n 1, 1) := by decide +kernel
theorem dX8_fail_2 : decode cX8_fail 2 = .ok (.putfield 61, 3) := by decide +kernel
theorem dX8_fail_5 : decode cX8_fail 5 = .ok (.iconst 0, 1) := by decide +kernel
theorem dX8_fail_6 : decode cX8_fail 6 = .ok (.ireturn, 1) := by decide +kernel
theorem dX8_isIn_0 : decode cX8_isIn 0 = .ok (.iload_n 0, 1) := by decide +kernel
theorem dX8_isIn_1 : decode cX8_isIn 1 = .ok (.iload_n 1, 1) := by decide +kernel
theorem dX8_isIn_2 : decode cX8_isIn 2 = .ok (.if_icmp .lt 12, 3) := by decide +kernel
theorem dX8_isIn_5 : decode cX8_isIn 5 = .ok (.iload_n 0, 1) := by decide +kernel
theorem dX8_isIn_6 : decode cX8_isIn 6 = .ok (.iload_n 2, 1) := by decide +kernel
theorem dX8_isIn_7 : decode cX8_isIn 7 = .ok (.if_icmp .gt 7, 3) := by decide +kernel
theorem dX8_isIn_10 : decode cX8_isIn 10 = .ok (.iconst 1, 1) := by decide +kernel
theorem dX8_isIn_11 : decode cX8_isIn 11 = .ok (.goto 4, 3) := by decide +kernel
theorem dX8_isIn_14 : decode cX8_isIn 14 = .ok (.iconst 0, 1) := by decide +kernel
theorem dX8_isIn_15 : decode cX8_isIn 15 = .ok (.ireturn, 1) := by decide +kernel
theorem dX8_noSnippet_0 : decode cX8_noSnippet 0 = .ok (.aload_n 0, 1) := by decide +kernel
theorem dX8_noSnippet_1 : decode cX8_noSnippet 1 = .ok (.iload_n 1, 1) := by decide +kernel
theorem dX8_noSnippet_2 : decode cX8_noSnippet 2 = .ok (.iconst 0, 1) := by decide +kernel
theorem dX8_noSnippet_3 : decode cX8_noSnippet 3 = .ok (.aload_n 0, 1) := by decide +kernel
theorem dX8_noSnippet_4 : decode cX8_noSnippet 4 = .ok (.getfield 64, 3) := by decide +kernel
theorem dX8_noSnippet_7 : decode cX8_noSnippet 7 = .ok (.iconst 1, 1) := by decide +kernel
theorem dX8_noSnippet_8 : decode cX8_noSnippet 8 = .ok (.isub, 1) := by decide +kernel
theorem dX8_noSnippet_9 : decode cX8_noSnippet 9 = .ok (.invokestatic 67, 3) := by decide +kernel
theorem dX8_noSnippet_12 : decode cX8_noSnippet 12 = .ok (.ifCond .eq 7, 3) := by decide +kernel
theorem dX8_noSnippet_15 : decode cX8_noSnippet 15 = .ok (.iconst 0, 1) := by decide +kernel
theorem dX8_noSnippet_16 : decode cX8_noSnippet 16 = .ok (.goto 4, 3) := by decide +kernel
theorem dX8_noSnippet_19 : decode cX8_noSnippet 19 = .ok (.iconst 1, 1) := by decide +kernel
theorem dX8_noSnippet_20 : decode cX8_noSnippet 20 = .ok (.putfield 61, 3) := by decide +kernel
theorem dX8_noSnippet_23 : decode cX8_noSnippet 23 = .ok (.aload_n 0, 1) := by decide +kernel
theorem dX8_noSnippet_24 : decode cX8_noSnippet 24 = .ok (.getfield 61, 3) := by decide +kernel
theorem dX8_noSnippet_27 : decode cX8_noSnippet 27 = .ok (.ifCond .eq 7, 3) := by decide +kernel
theorem dX8_noSnippet_30 : decode cX8_noSnippet 30 = .ok (.iconst 1, 1) := by decide +kernel
theorem dX8_noSnippet_31 : decode cX8_noSnippet 31 = .ok (.goto 4, 3) := by decide +kernel
theorem dX8_noSnippet_34 : decode cX8_noSnippet 34 = .ok (.iconst 0, 1) := by decide +kernel
theorem dX8_noSnippet_35 : decode cX8_noSnippet 35 = .ok (.ireturn, 1) := by decide +kernel
theorem dX8_isWord_0 : decode cX8_isWord 0 = .ok (.iload_n 0, 1) := by decide +kernel
theorem dX8_isWord_1 : decode cX8_isWord 1 = .ok (.bipush 97, 2) := by decide +kernel
theorem dX8_isWord_3 : decode cX8_isWord 3 = .ok (.if_icmp .lt 9, 3) := by decide +kernel
theorem dX8_isWord_6 : decode cX8_isWord 6 = .ok (.iload_n 0, 1) := by decide +kernel
theorem dX8_isWord_7 : decode cX8_isWord 7 = .ok (.bipush 122, 2) := by decide +kernel
theorem dX8_isWord_9 : decode cX8_isWord 9 = .ok (.if_icmp .le 15, 3) := by decide +kernel
theorem dX8_isWord_12 : decode cX8_isWord 12 = .ok (.iload_n 0, 1) := by decide +kernel
theorem dX8_isWord_13 : decode cX8_isWord 13 = .ok (.bipush 48, 2) := by decide +kernel
theorem dX8_isWord_15 : decode cX8_isWord 15 = .ok (.if_icmp .lt 13, 3) := by decide +kernel
theorem dX8_isWord_18 : decode cX8_isWord 18 = .ok (.iload_n 0, 1) := by decide +kernel
theorem dX8_isWord_19 : decode cX8_isWord 19 = .ok (.bipush 57, 2) := by decide +kernel
theorem dX8_isWord_21 : decode cX8_isWord 21 = .ok (.if_icmp .gt 7, 3) := by decide +kernel
theorem dX8_isWord_24 : decode cX8_isWord 24 = .ok (.iconst 1, 1) := by decide +kernel
theorem dX8_isWord_25 : decode cX8_isWord 25 = .ok (.goto 4, 3) := by decide +kernel
theorem dX8_isWord_28 : decode cX8_isWord 28 = .ok (.iconst 0, 1) := by decide +kernel
theorem dX8_isWord_29 : decode cX8_isWord 29 = .ok (.ireturn, 1) := by decide +kernel
theorem dX8_canType_0 : decode cX8_canType 0 = .ok (.iload_n 0, 1) := by decide +kernel
theorem dX8_canType_1 : decode cX8_canType 1 = .ok (.invokestatic 71, 3) := by decide +kernel
theorem dX8_canType_4 : decode cX8_canType 4 = .ok (.ifCond .ne 21, 3) := by decide +kernel
theorem dX8_canType_7 : decode cX8_canType 7 = .ok (.iload_n 0, 1) := by decide +kernel
theorem dX8_canType_8 : decode cX8_canType 8 = .ok (.bipush 32, 2) := by decide +kernel
theorem dX8_canType_10 : decode cX8_canType 10 = .ok (.if_icmp .eq 15, 3) := by decide +kernel
theorem dX8_canType_13 : decode cX8_canType 13 = .ok (.iload_n 0, 1) := by decide +kernel
theorem dX8_canType_14 : decode cX8_canType 14 = .ok (.bipush 59, 2) := by decide +kernel
theorem dX8_canType_16 : decode cX8_canType 16 = .ok (.if_icmp .eq 9, 3) := by decide +kernel
theorem dX8_canType_19 : decode cX8_canType 19 = .ok (.iload_n 0, 1) := by decide +kernel
theorem dX8_canType_20 : decode cX8_canType 20 = .ok (.bipush 46, 2) := by decide +kernel
theorem dX8_canType_22 : decode cX8_canType 22 = .ok (.if_icmp .ne 7, 3) := by decide +kernel
theorem dX8_canType_25 : decode cX8_canType 25 = .ok (.iconst 1, 1) := by decide +kernel
theorem dX8_canType_26 : decode cX8_canType 26 = .ok (.goto 4, 3) := by decide +kernel
theorem dX8_canType_29 : decode cX8_canType 29 = .ok (.iconst 0, 1) := by decide +kernel
theorem dX8_canType_30 : decode cX8_canType 30 = .ok (.ireturn, 1) := by decide +kernel
theorem dX8_addSnippet_0 : decode cX8_addSnippet 0 = .ok (.aload_n 0, 1) := by decide +kernel
theorem dX8_addSnippet_1 : decode cX8_addSnippet 1 = .ok (.getfield 64, 3) := by decide +kernel
theorem dX8_addSnippet_4 : decode cX8_addSnippet 4 = .ok (.bipush 8, 2) := by decide +kernel
theorem dX8_addSnippet_6 : decode cX8_addSnippet 6 = .ok (.if_icmp .ne 9, 3) := by decide +kernel
theorem dX8_addSnippet_9 : decode cX8_addSnippet 9 = .ok (.aload_n 0, 1) := by decide +kernel
theorem dX8_addSnippet_10 : decode cX8_addSnippet 10 = .ok (.iconst 1, 1) := by decide +kernel
theorem dX8_addSnippet_11 : decode cX8_addSnippet 11 = .ok (.invokevirtual 75, 3) := by decide +kernel
theorem dX8_addSnippet_14 : decode cX8_addSnippet 14 = .ok (.ireturn, 1) := by decide +kernel
theorem dX8_addSnippet_15 : decode cX8_addSnippet 15 = .ok (.aload_n 0, 1) := by decide +kernel
theorem dX8_addSnippet_16 : decode cX8_addSnippet 16 = .ok (.iconst 0, 1) := by decide +kernel
theorem dX8_addSnippet_17 : decode cX8_addSnippet 17 = .ok (.putfield 61, 3) := by decide +kernel
theorem dX8_addSnippet_20 : decode cX8_addSnippet 20 = .ok (.aload_n 0, 1) := by decide +kernel
theorem dX8_addSnippet_21 : decode cX8_addSnippet 21 = .ok (.getfield 51, 3) := by decide +kernel
theorem dX8_addSnippet_24 : decode cX8_addSnippet 24 = .ok (.aload_n 0, 1) := by decide +kernel
theorem dX8_addSnippet_25 : decode cX8_addSnippet 25 = .ok (.getfield 64, 3) := by decide +kernel
theorem dX8_addSnippet_28 : decode cX8_addSnippet 28 = .ok (.iload_n 1, 1) := by decide +kernel
theorem dX8_addSnippet_29 : decode cX8_addSnippet 29 = .ok (.bastore, 1) := by decide +kernel
theorem dX8_addSnippet_30 : decode cX8_addSnippet 30 = .ok (.aload_n 0, 1) := by decide +kernel
theorem dX8_addSnippet_31 : decode cX8_addSnippet 31 = .ok (.dup, 1) := by decide +kernel
theorem dX8_addSnippet_32 : decode cX8_addSnippet 32 = .ok (.getfield 64, 3) := by decide +kernel
theorem dX8_addSnippet_35 : decode cX8_addSnippet 35 = .ok (.dup_x1, 1) := by decide +kernel
theorem dX8_addSnippet_36 : decode cX8_addSnippet 36 = .ok (.iconst 1, 1) := by decide +kernel
theorem dX8_addSnippet_37 : decode cX8_addSnippet 37 = .ok (.iadd, 1) := by decide +kernel
theorem dX8_addSnippet_38 : decode cX8_addSnippet 38 = .ok (.putfield 64, 3) := by decide +kernel
theorem dX8_addSnippet_41 : decode cX8_addSnippet 41 = .ok (.ireturn, 1) := by decide +kernel
theorem dX8_addToTrigger_0 : decode cX8_addToTrigger 0 = .ok (.aload_n 0, 1) := by decide +kernel
theorem dX8_addToTrigger_1 : decode cX8_addToTrigger 1 = .ok (.iload_n 1, 1) := by decide +kernel
theorem dX8_addToTrigger_2 : decode cX8_addToTrigger 2 = .ok (.invokevirtual 79, 3) := by decide +kernel
theorem dX8_addToTrigger_5 : decode cX8_addToTrigger 5 = .ok (.ifCond .eq 5, 3) := by decide +kernel
theorem dX8_addToTrigger_8 : decode cX8_addToTrigger 8 = .ok (.iconst 0, 1) := by decide +kernel
theorem dX8_addToTrigger_9 : decode cX8_addToTrigger 9 = .ok (.ireturn, 1) := by decide +kernel
theorem dX8_addToTrigger_10 : decode cX8_addToTrigger 10 = .ok (.iload_n 2, 1) := by decide +kernel
theorem dX8_addToTrigger_11 : decode cX8_addToTrigger 11 = .ok (.invokestatic 83, 3) := by decide +kernel
theorem dX8_addToTrigger_14 : decode cX8_addToTrigger 14 = .ok (.ifCond .ne 9, 3) := by decide +kernel
theorem dX8_addToTrigger_17 : decode cX8_addToTrigger 17 = .ok (.aload_n 0, 1) := by decide +kernel
theorem dX8_addToTrigger_18 : decode cX8_addToTrigger 18 = .ok (.iconst 2, 1) := by decide +kernel
theorem dX8_addToTrigger_19 : decode cX8_addToTrigger 19 = .ok (.invokevirtual 75, 3) := by decide +kernel
theorem dX8_addToTrigger_22 : decode cX8_addToTrigger 22 = .ok (.ireturn, 1) := by decide +kernel
theorem dX8_addToTrigger_23 : decode cX8_addToTrigger 23 = .ok (.aload_n 0, 1) := by decide +kernel
theorem dX8_addToTrigger_24 : decode cX8_addToTrigger 24 = .ok (.getfield 29, 3) := by decide +kernel
theorem dX8_addToTrigger_27 : decode cX8_addToTrigger 27 = .ok (.iload_n 1, 1) := by decide +kernel
theorem dX8_addToTrigger_28 : decode cX8_addToTrigger 28 = .ok (.iaload, 1) := by decide +kernel
theorem dX8_addToTrigger_29 : decode cX8_addToTrigger 29 = .ok (.bipush 6, 2) := by decide +kernel
theorem dX8_addToTrigger_31 : decode cX8_addToTrigger 31 = .ok (.if_icmp .ne 9, 3) := by decide +kernel
theorem dX8_addToTrigger_34 : decode cX8_addToTrigger 34 = .ok (.aload_n 0, 1) := by decide +kernel
theorem dX8_addToTrigger_35 : decode cX8_addToTrigger 35 = .ok (.iconst 3, 1) := by decide +kernel
theorem dX8_addToTrigger_36 : decode cX8_addToTrigger 36 = .ok (.invokevirtual 75, 3) := by decide +kernel
theorem dX8_addToTrigger_39 : decode cX8_addToTrigger 39 = .ok (.ireturn, 1) := by decide +kernel
theorem dX8_addToTrigger_40 : decode cX8_addToTrigger 40 = .ok (.aload_n 0, 1) := by decide +kernel
theorem dX8_addToTrigger_41 : decode cX8_addToTrigger 41 = .ok (.getfield 13, 3) := by decide +kernel
theorem dX8_addToTrigger_44 : decode cX8_addToTrigger 44 = .ok (.bipush 6, 2) := by decide +kernel
theorem dX8_addToTrigger_46 : decode cX8_addToTrigger 46 = .ok (.iload_n 1, 1) := by decide +kernel
theorem dX8_addToTrigger_47 : decode cX8_addToTrigger 47 = .ok (.imul, 1) := by decide +kernel
theorem dX8_addToTrigger_48 : decode cX8_addToTrigger 48 = .ok (.aload_n 0, 1) := by decide +kernel
theorem dX8_addToTrigger_49 : decode cX8_addToTrigger 49 = .ok (.getfield 29, 3) := by decide +kernel
theorem dX8_addToTrigger_52 : decode cX8_addToTrigger 52 = .ok (.iload_n 1, 1) := by decide +kernel
theorem dX8_addToTrigger_53 : decode cX8_addToTrigger 53 = .ok (.iaload, 1) := by decide +kernel
theorem dX8_addToTrigger_54 : decode cX8_addToTrigger 54 = .ok (.iadd, 1) := by decide +kernel
theorem dX8_addToTrigger_55 : decode cX8_addToTrigger 55 = .ok (.iload_n 2, 1) := by decide +kernel
theorem dX8_addToTrigger_56 : decode cX8_addToTrigger 56 = .ok (.castore, 1) := by decide +kernel
theorem dX8_addToTrigger_57 : decode cX8_addToTrigger 57 = .ok (.aload_n 0, 1) := by decide +kernel
theorem dX8_addToTrigger_58 : decode cX8_addToTrigger 58 = .ok (.getfield 29, 3) := by decide +kernel
theorem dX8_addToTrigger_61 : decode cX8_addToTrigger 61 = .ok (.iload_n 1, 1) := by decide +kernel
theorem dX8_addToTrigger_62 : decode cX8_addToTrigger 62 = .ok (.dup2, 1) := by decide +kernel
theorem dX8_addToTrigger_63 : decode cX8_addToTrigger 63 = .ok (.iaload, 1) := by decide +kernel
theorem dX8_addToTrigger_64 : decode cX8_addToTrigger 64 = .ok (.iconst 1, 1) := by decide +kernel
theorem dX8_addToTrigger_65 : decode cX8_addToTrigger 65 = .ok (.iadd, 1) := by decide +kernel
theorem dX8_addToTrigger_66 : decode cX8_addToTrigger 66 = .ok (.dup_x2, 1) := by decide +kernel
theorem dX8_addToTrigger_67 : decode cX8_addToTrigger 67 = .ok (.iastore, 1) := by decide +kernel
theorem dX8_addToTrigger_68 : decode cX8_addToTrigger 68 = .ok (.ireturn, 1) := by decide +kernel
theorem dX8_clearTrigger_0 : decode cX8_clearTrigger 0 = .ok (.aload_n 0, 1) := by decide +kernel
theorem dX8_clearTrigger_1 : decode cX8_clearTrigger 1 = .ok (.iload_n 1, 1) := by decide +kernel
theorem dX8_clearTrigger_2 : decode cX8_clearTrigger 2 = .ok (.invokevirtual 79, 3) := by decide +kernel
theorem dX8_clearTrigger_5 : decode cX8_clearTrigger 5 = .ok (.ifCond .eq 5, 3) := by decide +kernel
theorem dX8_clearTrigger_8 : decode cX8_clearTrigger 8 = .ok (.iconst 0, 1) := by decide +kernel
theorem dX8_clearTrigger_9 : decode cX8_clearTrigger 9 = .ok (.ireturn, 1) := by decide +kernel
theorem dX8_clearTrigger_10 : decode cX8_clearTrigger 10 = .ok (.aload_n 0, 1) := by decide +kernel
theorem dX8_clearTrigger_11 : decode cX8_clearTrigger 11 = .ok (.getfield 29, 3) := by decide +kernel
theorem dX8_clearTrigger_14 : decode cX8_clearTrigger 14 = .ok (.iload_n 1, 1) := by decide +kernel
theorem dX8_clearTrigger_15 : decode cX8_clearTrigger 15 = .ok (.iaload, 1) := by decide +kernel
theorem dX8_clearTrigger_16 : decode cX8_clearTrigger 16 = .ok (.istore_n 2, 1) := by decide +kernel
theorem dX8_clearTrigger_17 : decode cX8_clearTrigger 17 = .ok (.aload_n 0, 1) := by decide +kernel
theorem dX8_clearTrigger_18 : decode cX8_clearTrigger 18 = .ok (.getfield 29, 3) := by decide +kernel
theorem dX8_clearTrigger_21 : decode cX8_clearTrigger 21 = .ok (.iload_n 1, 1) := by decide +kernel
theorem dX8_clearTrigger_22 : decode cX8_clearTrigger 22 = .ok (.iconst 0, 1) := by decide +kernel
theorem dX8_clearTrigger_23 : decode cX8_clearTrigger 23 = .ok (.iastore, 1) := by decide +kernel
theorem dX8_clearTrigger_24 : decode cX8_clearTrigger 24 = .ok (.iload_n 2, 1) := by decide +kernel
theorem dX8_clearTrigger_25 : decode cX8_clearTrigger 25 = .ok (.ireturn, 1) := by decide +kernel
theorem dX8_setOn_0 : decode cX8_setOn 0 = .ok (.aload_n 0, 1) := by decide +kernel
theorem dX8_setOn_1 : decode cX8_setOn 1 = .ok (.iload_n 1, 1) := by decide +kernel
theorem dX8_setOn_2 : decode cX8_setOn 2 = .ok (.invokevirtual 79, 3) := by decide +kernel
theorem dX8_setOn_5 : decode cX8_setOn 5 = .ok (.ifCond .eq 5, 3) := by decide +kernel
theorem dX8_setOn_8 : decode cX8_setOn 8 = .ok (.iconst 0, 1) := by decide +kernel
theorem dX8_setOn_9 : decode cX8_setOn 9 = .ok (.ireturn, 1) := by decide +kernel
theorem dX8_setOn_10 : decode cX8_setOn 10 = .ok (.aload_n 0, 1) := by decide +kernel
theorem dX8_setOn_11 : decode cX8_setOn 11 = .ok (.getfield 55, 3) := by decide +kernel
theorem dX8_setOn_14 : decode cX8_setOn 14 = .ok (.iload_n 1, 1) := by decide +kernel
theorem dX8_setOn_15 : decode cX8_setOn 15 = .ok (.baload, 1) := by decide +kernel
theorem dX8_setOn_16 : decode cX8_setOn 16 = .ok (.ifCond .ne 7, 3) := by decide +kernel
theorem dX8_setOn_19 : decode cX8_setOn 19 = .ok (.iconst 1, 1) := by decide +kernel
theorem dX8_setOn_20 : decode cX8_setOn 20 = .ok (.goto 4, 3) := by decide +kernel
theorem dX8_setOn_23 : decode cX8_setOn 23 = .ok (.iconst 0, 1) := by decide +kernel
theorem dX8_setOn_24 : decode cX8_setOn 24 = .ok (.istore_n 3, 1) := by decide +kernel
theorem dX8_setOn_25 : decode cX8_setOn 25 = .ok (.aload_n 0, 1) := by decide +kernel
theorem dX8_setOn_26 : decode cX8_setOn 26 = .ok (.getfield 55, 3) := by decide +kernel
theorem dX8_setOn_29 : decode cX8_setOn 29 = .ok (.iload_n 1, 1) := by decide +kernel
theorem dX8_setOn_30 : decode cX8_setOn 30 = .ok (.iload_n 2, 1) := by decide +kernel
theorem dX8_setOn_31 : decode cX8_setOn 31 = .ok (.ifCond .ne 7, 3) := by decide +kernel
theorem dX8_setOn_34 : decode cX8_setOn 34 = .ok (.iconst 1, 1) := by decide +kernel
theorem dX8_setOn_35 : decode cX8_setOn 35 = .ok (.goto 4, 3) := by decide +kernel
theorem dX8_setOn_38 : decode cX8_setOn 38 = .ok (.iconst 0, 1) := by decide +kernel
theorem dX8_setOn_39 : decode cX8_setOn 39 = .ok (.bastore, 1) := by decide +kernel
theorem dX8_setOn_40 : decode cX8_setOn 40 = .ok (.iload_n 3, 1) := by decide +kernel
theorem dX8_setOn_41 : decode cX8_setOn 41 = .ok (.ireturn, 1) := by decide +kernel
theorem dX8_size_0 : decode cX8_size 0 = .ok (.iconst 0, 1) := by decide +kernel
theorem dX8_size_1 : decode cX8_size 1 = .ok (.istore_n 2, 1) := by decide +kernel
theorem dX8_size_2 : decode cX8_size 2 = .ok (.bipush 12, 2) := by decide +kernel
theorem dX8_size_4 : decode cX8_size 4 = .ok (.iload_n 1, 1) := by decide +kernel
theorem dX8_size_5 : decode cX8_size 5 = .ok (.imul, 1) := by decide +kernel
theorem dX8_size_6 : decode cX8_size 6 = .ok (.istore_n 3, 1) := by decide +kernel
theorem dX8_size_7 : decode cX8_size 7 = .ok (.iload_n 3, 1) := by decide +kernel
theorem dX8_size_8 : decode cX8_size 8 = .ok (.bipush 12, 2) := by decide +kernel
theorem dX8_size_10 : decode cX8_size 10 = .ok (.iload_n 1, 1) := by decide +kernel
theorem dX8_size_11 : decode cX8_size 11 = .ok (.imul, 1) := by decide +kernel
theorem dX8_size_12 : decode cX8_size 12 = .ok (.aload_n 0, 1) := by decide +kernel
theorem dX8_size_13 : decode cX8_size 13 = .ok (.getfield 33, 3) := by decide +kernel
theorem dX8_size_16 : decode cX8_size 16 = .ok (.iload_n 1, 1) := by decide +kernel
theorem dX8_size_17 : decode cX8_size 17 = .ok (.iaload, 1) := by decide +kernel
theorem dX8_size_18 : decode cX8_size 18 = .ok (.iadd, 1) := by decide +kernel
theorem dX8_size_19 : decode cX8_size 19 = .ok (.if_icmp .ge 114, 3) := by decide +kernel
theorem dX8_size_22 : decode cX8_size 22 = .ok (.aload_n 0, 1) := by decide +kernel
theorem dX8_size_23 : decode cX8_size 23 = .ok (.getfield 17, 3) := by decide +kernel
theorem dX8_size_26 : decode cX8_size 26 = .ok (.iload_n 3, 1) := by decide +kernel
theorem dX8_size_27 : decode cX8_size 27 = .ok (.caload, 1) := by decide +kernel
theorem dX8_size_28 : decode cX8_size 28 = .ok (.bipush 115, 2) := by decide +kernel
theorem dX8_size_30 : decode cX8_size 30 = .ok (.if_icmp .ne 21, 3) := by decide +kernel
theorem dX8_size_33 : decode cX8_size 33 = .ok (.iload_n 2, 1) := by decide +kernel
theorem dX8_size_34 : decode cX8_size 34 = .ok (.iconst 1, 1) := by decide +kernel
theorem dX8_size_35 : decode cX8_size 35 = .ok (.aload_n 0, 1) := by decide +kernel
theorem dX8_size_36 : decode cX8_size 36 = .ok (.aload_n 0, 1) := by decide +kernel
theorem dX8_size_37 : decode cX8_size 37 = .ok (.getfield 36, 3) := by decide +kernel
theorem dX8_size_40 : decode cX8_size 40 = .ok (.iload_n 3, 1) := by decide +kernel
theorem dX8_size_41 : decode cX8_size 41 = .ok (.iaload, 1) := by decide +kernel
theorem dX8_size_42 : decode cX8_size 42 = .ok (.invokevirtual 86, 3) := by decide +kernel
theorem dX8_size_45 : decode cX8_size 45 = .ok (.iadd, 1) := by decide +kernel
theorem dX8_size_46 : decode cX8_size 46 = .ok (.iadd, 1) := by decide +kernel
theorem dX8_size_47 : decode cX8_size 47 = .ok (.istore_n 2, 1) := by decide +kernel
theorem dX8_size_48 : decode cX8_size 48 = .ok (.goto 79, 3) := by decide +kernel
theorem dX8_size_51 : decode cX8_size 51 = .ok (.aload_n 0, 1) := by decide +kernel
theorem dX8_size_52 : decode cX8_size 52 = .ok (.getfield 17, 3) := by decide +kernel
theorem dX8_size_55 : decode cX8_size 55 = .ok (.iload_n 3, 1) := by decide +kernel
theorem dX8_size_56 : decode cX8_size 56 = .ok (.caload, 1) := by decide +kernel
theorem dX8_size_57 : decode cX8_size 57 = .ok (.bipush 111, 2) := by decide +kernel
theorem dX8_size_59 : decode cX8_size 59 = .ok (.if_icmp .ne 49, 3) := by decide +kernel
theorem dX8_size_62 : decode cX8_size 62 = .ok (.aload_n 0, 1) := by decide +kernel
theorem dX8_size_63 : decode cX8_size 63 = .ok (.aload_n 0, 1) := by decide +kernel
theorem dX8_size_64 : decode cX8_size 64 = .ok (.getfield 36, 3) := by decide +kernel
theorem dX8_size_67 : decode cX8_size 67 = .ok (.iload_n 3, 1) := by decide +kernel
theorem dX8_size_68 : decode cX8_size 68 = .ok (.iaload, 1) := by decide +kernel
theorem dX8_size_69 : decode cX8_size 69 = .ok (.invokevirtual 86, 3) := by decide +kernel
theorem dX8_size_72 : decode cX8_size 72 = .ok (.istore 4, 2) := by decide +kernel
theorem dX8_size_74 : decode cX8_size 74 = .ok (.aload_n 0, 1) := by decide +kernel
theorem dX8_size_75 : decode cX8_size 75 = .ok (.aload_n 0, 1) := by decide +kernel
theorem dX8_size_76 : decode cX8_size 76 = .ok (.getfield 39, 3) := by decide +kernel
theorem dX8_size_79 : decode cX8_size 79 = .ok (.iload_n 3, 1) := by decide +kernel
theorem dX8_size_80 : decode cX8_size 80 = .ok (.iaload, 1) := by decide +kernel
theorem dX8_size_81 : decode cX8_size 81 = .ok (.invokevirtual 86, 3) := by decide +kernel
theorem dX8_size_84 : decode cX8_size 84 = .ok (.istore 5, 2) := by decide +kernel
theorem dX8_size_86 : decode cX8_size 86 = .ok (.iload_n 2, 1) := by decide +kernel
theorem dX8_size_87 : decode cX8_size 87 = .ok (.iconst 1, 1) := by decide +kernel
theorem dX8_size_88 : decode cX8_size 88 = .ok (.iload 4, 2) := by decide +kernel
theorem dX8_size_90 : decode cX8_size 90 = .ok (.iload 5, 2) := by decide +kernel
theorem dX8_size_92 : decode cX8_size 92 = .ok (.if_icmp .le 8, 3) := by decide +kernel
theorem dX8_size_95 : decode cX8_size 95 = .ok (.iload 4, 2) := by decide +kernel
theorem dX8_size_97 : decode cX8_size 97 = .ok (.goto 5, 3) := by decide +kernel
theorem dX8_size_100 : decode cX8_size 100 = .ok (.iload 5, 2) := by decide +kernel
theorem dX8_size_102 : decode cX8_size 102 = .ok (.iadd, 1) := by decide +kernel
theorem dX8_size_103 : decode cX8_size 103 = .ok (.iadd, 1) := by decide +kernel
theorem dX8_size_104 : decode cX8_size 104 = .ok (.istore_n 2, 1) := by decide +kernel
theorem dX8_size_105 : decode cX8_size 105 = .ok (.goto 22, 3) := by decide +kernel
theorem dX8_size_108 : decode cX8_size 108 = .ok (.iload_n 2, 1) := by decide +kernel
theorem dX8_size_109 : decode cX8_size 109 = .ok (.aload_n 0, 1) := by decide +kernel
theorem dX8_size_110 : decode cX8_size 110 = .ok (.getfield 17, 3) := by decide +kernel
theorem dX8_size_113 : decode cX8_size 113 = .ok (.iload_n 3, 1) := by decide +kernel
theorem dX8_size_114 : decode cX8_size 114 = .ok (.caload, 1) := by decide +kernel
theorem dX8_size_115 : decode cX8_size 115 = .ok (.bipush 100, 2) := by decide +kernel
theorem dX8_size_117 : decode cX8_size 117 = .ok (.if_icmp .ne 7, 3) := by decide +kernel
theorem dX8_size_120 : decode cX8_size 120 = .ok (.iconst 5, 1) := by decide +kernel
theorem dX8_size_121 : decode cX8_size 121 = .ok (.goto 4, 3) := by decide +kernel
theorem dX8_size_124 : decode cX8_size 124 = .ok (.iconst 1, 1) := by decide +kernel
theorem dX8_size_125 : decode cX8_size 125 = .ok (.iadd, 1) := by decide +kernel
theorem dX8_size_126 : decode cX8_size 126 = .ok (.istore_n 2, 1) := by decide +kernel
theorem dX8_size_127 : decode cX8_size 127 = .ok (.iinc 3 1, 3) := by decide +kernel
theorem dX8_size_130 : decode cX8_size 130 = .ok (.goto (-123), 3) := by decide +kernel
theorem dX8_size_133 : decode cX8_size 133 = .ok (.iload_n 2, 1) := by decide +kernel
theorem dX8_size_134 : decode cX8_size 134 = .ok (.ireturn, 1) := by decide +kernel
theorem dX8_puts_0 : decode cX8_puts 0 = .ok (.aload_n 0, 1) := by decide +kernel
theorem dX8_puts_1 : decode cX8_puts 1 = .ok (.getfield 33, 3) := by decide +kernel
theorem dX8_puts_4 : decode cX8_puts 4 = .ok (.iload_n 1, 1) := by decide +kernel
theorem dX8_puts_5 : decode cX8_puts 5 = .ok (.iaload, 1) := by decide +kernel
theorem dX8_puts_6 : decode cX8_puts 6 = .ok (.bipush 12, 2) := by decide +kernel
theorem dX8_puts_8 : decode cX8_puts 8 = .ok (.if_icmp .ne 10, 3) := by decide +kernel
theorem dX8_puts_11 : decode cX8_puts 11 = .ok (.aload_n 0, 1) := by decide +kernel
theorem dX8_puts_12 : decode cX8_puts 12 = .ok (.iload 5, 2) := by decide +kernel
theorem dX8_puts_14 : decode cX8_puts 14 = .ok (.invokevirtual 75, 3) := by decide +kernel
theorem dX8_puts_17 : decode cX8_puts 17 = .ok (.ireturn, 1) := by decide +kernel
theorem dX8_puts_18 : decode cX8_puts 18 = .ok (.bipush 12, 2) := by decide +kernel
theorem dX8_puts_20 : decode cX8_puts 20 = .ok (.iload_n 1, 1) := by decide +kernel
theorem dX8_puts_21 : decode cX8_puts 21 = .ok (.imul, 1) := by decide +kernel
theorem dX8_puts_22 : decode cX8_puts 22 = .ok (.aload_n 0, 1) := by decide +kernel
theorem dX8_puts_23 : decode cX8_puts 23 = .ok (.getfield 33, 3) := by decide +kernel
theorem dX8_puts_26 : decode cX8_puts 26 = .ok (.iload_n 1, 1) := by decide +kernel
theorem dX8_puts_27 : decode cX8_puts 27 = .ok (.iaload, 1) := by decide +kernel
theorem dX8_puts_28 : decode cX8_puts 28 = .ok (.iadd, 1) := by decide +kernel
theorem dX8_puts_29 : decode cX8_puts 29 = .ok (.istore 6, 2) := by decide +kernel
theorem dX8_puts_31 : decode cX8_puts 31 = .ok (.aload_n 0, 1) := by decide +kernel
theorem dX8_puts_32 : decode cX8_puts 32 = .ok (.getfield 17, 3) := by decide +kernel
theorem dX8_puts_35 : decode cX8_puts 35 = .ok (.iload 6, 2) := by decide +kernel
theorem dX8_puts_37 : decode cX8_puts 37 = .ok (.iload_n 2, 1) := by decide +kernel
theorem dX8_puts_38 : decode cX8_puts 38 = .ok (.castore, 1) := by decide +kernel
theorem dX8_puts_39 : decode cX8_puts 39 = .ok (.aload_n 0, 1) := by decide +kernel
theorem dX8_puts_40 : decode cX8_puts 40 = .ok (.getfield 36, 3) := by decide +kernel
theorem dX8_puts_43 : decode cX8_puts 43 = .ok (.iload 6, 2) := by decide +kernel
theorem dX8_puts_45 : decode cX8_puts 45 = .ok (.iload_n 3, 1) := by decide +kernel
theorem dX8_puts_46 : decode cX8_puts 46 = .ok (.iastore, 1) := by decide +kernel
theorem dX8_puts_47 : decode cX8_puts 47 = .ok (.aload_n 0, 1) := by decide +kernel
theorem dX8_puts_48 : decode cX8_puts 48 = .ok (.getfield 39, 3) := by decide +kernel
theorem dX8_puts_51 : decode cX8_puts 51 = .ok (.iload 6, 2) := by decide +kernel
theorem dX8_puts_53 : decode cX8_puts 53 = .ok (.iload 4, 2) := by decide +kernel
theorem dX8_puts_55 : decode cX8_puts 55 = .ok (.iastore, 1) := by decide +kernel
theorem dX8_puts_56 : decode cX8_puts 56 = .ok (.aload_n 0, 1) := by decide +kernel
theorem dX8_puts_57 : decode cX8_puts 57 = .ok (.getfield 33, 3) := by decide +kernel
theorem dX8_puts_60 : decode cX8_puts 60 = .ok (.iload_n 1, 1) := by decide +kernel
theorem dX8_puts_61 : decode cX8_puts 61 = .ok (.dup2, 1) := by decide +kernel
theorem dX8_puts_62 : decode cX8_puts 62 = .ok (.iaload, 1) := by decide +kernel
theorem dX8_puts_63 : decode cX8_puts 63 = .ok (.iconst 1, 1) := by decide +kernel
theorem dX8_puts_64 : decode cX8_puts 64 = .ok (.iadd, 1) := by decide +kernel
theorem dX8_puts_65 : decode cX8_puts 65 = .ok (.iastore, 1) := by decide +kernel
theorem dX8_puts_66 : decode cX8_puts 66 = .ok (.iconst 0, 1) := by decide +kernel
theorem dX8_puts_67 : decode cX8_puts 67 = .ok (.istore 7, 2) := by decide +kernel
theorem dX8_puts_69 : decode cX8_puts 69 = .ok (.iload 7, 2) := by decide +kernel
theorem dX8_puts_71 : decode cX8_puts 71 = .ok (.aload_n 0, 1) := by decide +kernel
theorem dX8_puts_72 : decode cX8_puts 72 = .ok (.getfield 64, 3) := by decide +kernel
theorem dX8_puts_75 : decode cX8_puts 75 = .ok (.if_icmp .ge 41, 3) := by decide +kernel
theorem dX8_puts_78 : decode cX8_puts 78 = .ok (.aload_n 0, 1) := by decide +kernel
theorem dX8_puts_79 : decode cX8_puts 79 = .ok (.iload 7, 2) := by decide +kernel
theorem dX8_puts_81 : decode cX8_puts 81 = .ok (.invokevirtual 86, 3) := by decide +kernel
theorem dX8_puts_84 : decode cX8_puts 84 = .ok (.sipush 200, 3) := by decide +kernel
theorem dX8_puts_87 : decode cX8_puts 87 = .ok (.if_icmp .gt 6, 3) := by decide +kernel
theorem dX8_puts_90 : decode cX8_puts 90 = .ok (.goto 20, 3) := by decide +kernel
theorem dX8_puts_93 : decode cX8_puts 93 = .ok (.aload_n 0, 1) := by decide +kernel
theorem dX8_puts_94 : decode cX8_puts 94 = .ok (.getfield 33, 3) := by decide +kernel
theorem dX8_puts_97 : decode cX8_puts 97 = .ok (.iload_n 1, 1) := by decide +kernel
theorem dX8_puts_98 : decode cX8_puts 98 = .ok (.dup2, 1) := by decide +kernel
theorem dX8_puts_99 : decode cX8_puts 99 = .ok (.iaload, 1) := by decide +kernel
theorem dX8_puts_100 : decode cX8_puts 100 = .ok (.iconst 1, 1) := by decide +kernel
theorem dX8_puts_101 : decode cX8_puts 101 = .ok (.isub, 1) := by decide +kernel
theorem dX8_puts_102 : decode cX8_puts 102 = .ok (.iastore, 1) := by decide +kernel
theorem dX8_puts_103 : decode cX8_puts 103 = .ok (.aload_n 0, 1) := by decide +kernel
theorem dX8_puts_104 : decode cX8_puts 104 = .ok (.iload 5, 2) := by decide +kernel
theorem dX8_puts_106 : decode cX8_puts 106 = .ok (.invokevirtual 75, 3) := by decide +kernel
theorem dX8_puts_109 : decode cX8_puts 109 = .ok (.ireturn, 1) := by decide +kernel
theorem dX8_puts_110 : decode cX8_puts 110 = .ok (.iinc 7 1, 3) := by decide +kernel
theorem dX8_puts_113 : decode cX8_puts 113 = .ok (.goto (-44), 3) := by decide +kernel
theorem dX8_puts_116 : decode cX8_puts 116 = .ok (.aload_n 0, 1) := by decide +kernel
theorem dX8_puts_117 : decode cX8_puts 117 = .ok (.iconst 0, 1) := by decide +kernel
theorem dX8_puts_118 : decode cX8_puts 118 = .ok (.putfield 61, 3) := by decide +kernel
theorem dX8_puts_121 : decode cX8_puts 121 = .ok (.aload_n 0, 1) := by decide +kernel
theorem dX8_puts_122 : decode cX8_puts 122 = .ok (.getfield 33, 3) := by decide +kernel
theorem dX8_puts_125 : decode cX8_puts 125 = .ok (.iload_n 1, 1) := by decide +kernel
theorem dX8_puts_126 : decode cX8_puts 126 = .ok (.iaload, 1) := by decide +kernel
theorem dX8_puts_127 : decode cX8_puts 127 = .ok (.ireturn, 1) := by decide +kernel
theorem dX8_putCharacter_0 : decode cX8_putCharacter 0 = .ok (.aload_n 0, 1) := by decide +kernel
theorem dX8_putCharacter_1 : decode cX8_putCharacter 1 = .ok (.iload_n 1, 1) := by decide +kernel
theorem dX8_putCharacter_2 : decode cX8_putCharacter 2 = .ok (.invokevirtual 79, 3) := by decide +kernel
theorem dX8_putCharacter_5 : decode cX8_putCharacter 5 = .ok (.ifCond .eq 5, 3) := by decide +kernel
theorem dX8_putCharacter_8 : decode cX8_putCharacter 8 = .ok (.iconst 0, 1) := by decide +kernel
theorem dX8_putCharacter_9 : decode cX8_putCharacter 9 = .ok (.ireturn, 1) := by decide +kernel
theorem dX8_putCharacter_10 : decode cX8_putCharacter 10 = .ok (.iload_n 2, 1) := by decide +kernel
theorem dX8_putCharacter_11 : decode cX8_putCharacter 11 = .ok (.invokestatic 83, 3) := by decide +kernel
theorem dX8_putCharacter_14 : decode cX8_putCharacter 14 = .ok (.ifCond .ne 9, 3) := by decide +kernel
theorem dX8_putCharacter_17 : decode cX8_putCharacter 17 = .ok (.aload_n 0, 1) := by decide +kernel
theorem dX8_putCharacter_18 : decode cX8_putCharacter 18 = .ok (.iconst 2, 1) := by decide +kernel
theorem dX8_putCharacter_19 : decode cX8_putCharacter 19 = .ok (.invokevirtual 75, 3) := by decide +kernel
theorem dX8_putCharacter_22 : decode cX8_putCharacter 22 = .ok (.ireturn, 1) := by decide +kernel
theorem dX8_putCharacter_23 : decode cX8_putCharacter 23 = .ok (.aload_n 0, 1) := by decide +kernel
theorem dX8_putCharacter_24 : decode cX8_putCharacter 24 = .ok (.iload_n 1, 1) := by decide +kernel
theorem dX8_putCharacter_25 : decode cX8_putCharacter 25 = .ok (.bipush 99, 2) := by decide +kernel
theorem dX8_putCharacter_27 : decode cX8_putCharacter 27 = .ok (.iload_n 2, 1) := by decide +kernel
theorem dX8_putCharacter_28 : decode cX8_putCharacter 28 = .ok (.iconst 0, 1) := by decide +kernel
theorem dX8_putCharacter_29 : decode cX8_putCharacter 29 = .ok (.iconst 3, 1) := by decide +kernel
theorem dX8_putCharacter_30 : decode cX8_putCharacter 30 = .ok (.invokevirtual 89, 3) := by decide +kernel
theorem dX8_putCharacter_33 : decode cX8_putCharacter 33 = .ok (.ireturn, 1) := by decide +kernel
theorem dX8_goesTo_0 : decode cX8_goesTo 0 = .ok (.bipush 12, 2) := by decide +kernel
theorem dX8_goesTo_2 : decode cX8_goesTo 2 = .ok (.iload_n 1, 1) := by decide +kernel
theorem dX8_goesTo_3 : decode cX8_goesTo 3 = .ok (.imul, 1) := by decide +kernel
theorem dX8_goesTo_4 : decode cX8_goesTo 4 = .ok (.istore_n 3, 1) := by decide +kernel
theorem dX8_goesTo_5 : decode cX8_goesTo 5 = .ok (.iload_n 3, 1) := by decide +kernel
theorem dX8_goesTo_6 : decode cX8_goesTo 6 = .ok (.bipush 12, 2) := by decide +kernel
theorem dX8_goesTo_8 : decode cX8_goesTo 8 = .ok (.iload_n 1, 1) := by decide +kernel
theorem dX8_goesTo_9 : decode cX8_goesTo 9 = .ok (.imul, 1) := by decide +kernel
theorem dX8_goesTo_10 : decode cX8_goesTo 10 = .ok (.aload_n 0, 1) := by decide +kernel
theorem dX8_goesTo_11 : decode cX8_goesTo 11 = .ok (.getfield 33, 3) := by decide +kernel
theorem dX8_goesTo_14 : decode cX8_goesTo 14 = .ok (.iload_n 1, 1) := by decide +kernel
theorem dX8_goesTo_15 : decode cX8_goesTo 15 = .ok (.iaload, 1) := by decide +kernel
theorem dX8_goesTo_16 : decode cX8_goesTo 16 = .ok (.iadd, 1) := by decide +kernel
theorem dX8_goesTo_17 : decode cX8_goesTo 17 = .ok (.if_icmp .ge 94, 3) := by decide +kernel
theorem dX8_goesTo_20 : decode cX8_goesTo 20 = .ok (.aload_n 0, 1) := by decide +kernel
theorem dX8_goesTo_21 : decode cX8_goesTo 21 = .ok (.getfield 17, 3) := by decide +kernel
theorem dX8_goesTo_24 : decode cX8_goesTo 24 = .ok (.iload_n 3, 1) := by decide +kernel
theorem dX8_goesTo_25 : decode cX8_goesTo 25 = .ok (.caload, 1) := by decide +kernel
theorem dX8_goesTo_26 : decode cX8_goesTo 26 = .ok (.bipush 115, 2) := by decide +kernel
theorem dX8_goesTo_28 : decode cX8_goesTo 28 = .ok (.if_icmp .eq 14, 3) := by decide +kernel
theorem dX8_goesTo_31 : decode cX8_goesTo 31 = .ok (.aload_n 0, 1) := by decide +kernel
theorem dX8_goesTo_32 : decode cX8_goesTo 32 = .ok (.getfield 17, 3) := by decide +kernel
theorem dX8_goesTo_35 : decode cX8_goesTo 35 = .ok (.iload_n 3, 1) := by decide +kernel
theorem dX8_goesTo_36 : decode cX8_goesTo 36 = .ok (.caload, 1) := by decide +kernel
theorem dX8_goesTo_37 : decode cX8_goesTo 37 = .ok (.bipush 111, 2) := by decide +kernel
theorem dX8_goesTo_39 : decode cX8_goesTo 39 = .ok (.if_icmp .ne 29, 3) := by decide +kernel
theorem dX8_goesTo_42 : decode cX8_goesTo 42 = .ok (.aload_n 0, 1) := by decide +kernel
theorem dX8_goesTo_43 : decode cX8_goesTo 43 = .ok (.getfield 36, 3) := by decide +kernel
theorem dX8_goesTo_46 : decode cX8_goesTo 46 = .ok (.iload_n 3, 1) := by decide +kernel
theorem dX8_goesTo_47 : decode cX8_goesTo 47 = .ok (.iaload, 1) := by decide +kernel
theorem dX8_goesTo_48 : decode cX8_goesTo 48 = .ok (.iload_n 2, 1) := by decide +kernel
theorem dX8_goesTo_49 : decode cX8_goesTo 49 = .ok (.if_icmp .eq 17, 3) := by decide +kernel
theorem dX8_goesTo_52 : decode cX8_goesTo 52 = .ok (.aload_n 0, 1) := by decide +kernel
theorem dX8_goesTo_53 : decode cX8_goesTo 53 = .ok (.aload_n 0, 1) := by decide +kernel
theorem dX8_goesTo_54 : decode cX8_goesTo 54 = .ok (.getfield 36, 3) := by decide +kernel
theorem dX8_goesTo_57 : decode cX8_goesTo 57 = .ok (.iload_n 3, 1) := by decide +kernel
theorem dX8_goesTo_58 : decode cX8_goesTo 58 = .ok (.iaload, 1) := by decide +kernel
theorem dX8_goesTo_59 : decode cX8_goesTo 59 = .ok (.iload_n 2, 1) := by decide +kernel
theorem dX8_goesTo_60 : decode cX8_goesTo 60 = .ok (.invokevirtual 93, 3) := by decide +kernel
theorem dX8_goesTo_63 : decode cX8_goesTo 63 = .ok (.ifCond .eq 5, 3) := by decide +kernel
theorem dX8_goesTo_66 : decode cX8_goesTo 66 = .ok (.iconst 1, 1) := by decide +kernel
theorem dX8_goesTo_67 : decode cX8_goesTo 67 = .ok (.ireturn, 1) := by decide +kernel
theorem dX8_goesTo_68 : decode cX8_goesTo 68 = .ok (.aload_n 0, 1) := by decide +kernel
theorem dX8_goesTo_69 : decode cX8_goesTo 69 = .ok (.getfield 17, 3) := by decide +kernel
theorem dX8_goesTo_72 : decode cX8_goesTo 72 = .ok (.iload_n 3, 1) := by decide +kernel
theorem dX8_goesTo_73 : decode cX8_goesTo 73 = .ok (.caload, 1) := by decide +kernel
theorem dX8_goesTo_74 : decode cX8_goesTo 74 = .ok (.bipush 111, 2) := by decide +kernel
theorem dX8_goesTo_76 : decode cX8_goesTo 76 = .ok (.if_icmp .ne 29, 3) := by decide +kernel
theorem dX8_goesTo_79 : decode cX8_goesTo 79 = .ok (.aload_n 0, 1) := by decide +kernel
theorem dX8_goesTo_80 : decode cX8_goesTo 80 = .ok (.getfield 39, 3) := by decide +kernel
theorem dX8_goesTo_83 : decode cX8_goesTo 83 = .ok (.iload_n 3, 1) := by decide +kernel
theorem dX8_goesTo_84 : decode cX8_goesTo 84 = .ok (.iaload, 1) := by decide +kernel
theorem dX8_goesTo_85 : decode cX8_goesTo 85 = .ok (.iload_n 2, 1) := by decide +kernel
theorem dX8_goesTo_86 : decode cX8_goesTo 86 = .ok (.if_icmp .eq 17, 3) := by decide +kernel
theorem dX8_goesTo_89 : decode cX8_goesTo 89 = .ok (.aload_n 0, 1) := by decide +kernel
theorem dX8_goesTo_90 : decode cX8_goesTo 90 = .ok (.aload_n 0, 1) := by decide +kernel
theorem dX8_goesTo_91 : decode cX8_goesTo 91 = .ok (.getfield 39, 3) := by decide +kernel
theorem dX8_goesTo_94 : decode cX8_goesTo 94 = .ok (.iload_n 3, 1) := by decide +kernel
theorem dX8_goesTo_95 : decode cX8_goesTo 95 = .ok (.iaload, 1) := by decide +kernel
theorem dX8_goesTo_96 : decode cX8_goesTo 96 = .ok (.iload_n 2, 1) := by decide +kernel
theorem dX8_goesTo_97 : decode cX8_goesTo 97 = .ok (.invokevirtual 93, 3) := by decide +kernel
theorem dX8_goesTo_100 : decode cX8_goesTo 100 = .ok (.ifCond .eq 5, 3) := by decide +kernel
theorem dX8_goesTo_103 : decode cX8_goesTo 103 = .ok (.iconst 1, 1) := by decide +kernel
theorem dX8_goesTo_104 : decode cX8_goesTo 104 = .ok (.ireturn, 1) := by decide +kernel
theorem dX8_goesTo_105 : decode cX8_goesTo 105 = .ok (.iinc 3 1, 3) := by decide +kernel
theorem dX8_goesTo_108 : decode cX8_goesTo 108 = .ok (.goto (-103), 3) := by decide +kernel
theorem dX8_goesTo_111 : decode cX8_goesTo 111 = .ok (.iconst 0, 1) := by decide +kernel
theorem dX8_goesTo_112 : decode cX8_goesTo 112 = .ok (.ireturn, 1) := by decide +kernel
theorem dX8_putSnippet_0 : decode cX8_putSnippet 0 = .ok (.aload_n 0, 1) := by decide +kernel
theorem dX8_putSnippet_1 : decode cX8_putSnippet 1 = .ok (.iload_n 1, 1) := by decide +kernel
theorem dX8_putSnippet_2 : decode cX8_putSnippet 2 = .ok (.invokevirtual 79, 3) := by decide +kernel
theorem dX8_putSnippet_5 : decode cX8_putSnippet 5 = .ok (.ifCond .ne 11, 3) := by decide +kernel
theorem dX8_putSnippet_8 : decode cX8_putSnippet 8 = .ok (.aload_n 0, 1) := by decide +kernel
theorem dX8_putSnippet_9 : decode cX8_putSnippet 9 = .ok (.iload_n 2, 1) := by decide +kernel
theorem dX8_putSnippet_10 : decode cX8_putSnippet 10 = .ok (.invokevirtual 79, 3) := by decide +kernel
theorem dX8_putSnippet_13 : decode cX8_putSnippet 13 = .ok (.ifCond .eq 5, 3) := by decide +kernel
theorem dX8_putSnippet_16 : decode cX8_putSnippet 16 = .ok (.iconst 0, 1) := by decide +kernel
theorem dX8_putSnippet_17 : decode cX8_putSnippet 17 = .ok (.ireturn, 1) := by decide +kernel
theorem dX8_putSnippet_18 : decode cX8_putSnippet 18 = .ok (.iload_n 2, 1) := by decide +kernel
theorem dX8_putSnippet_19 : decode cX8_putSnippet 19 = .ok (.iload_n 1, 1) := by decide +kernel
theorem dX8_putSnippet_20 : decode cX8_putSnippet 20 = .ok (.if_icmp .eq 12, 3) := by decide +kernel
theorem dX8_putSnippet_23 : decode cX8_putSnippet 23 = .ok (.aload_n 0, 1) := by decide +kernel
theorem dX8_putSnippet_24 : decode cX8_putSnippet 24 = .ok (.iload_n 2, 1) := by decide +kernel
theorem dX8_putSnippet_25 : decode cX8_putSnippet 25 = .ok (.iload_n 1, 1) := by decide +kernel
theorem dX8_putSnippet_26 : decode cX8_putSnippet 26 = .ok (.invokevirtual 93, 3) := by decide +kernel
theorem dX8_putSnippet_29 : decode cX8_putSnippet 29 = .ok (.ifCond .eq 9, 3) := by decide +kernel
theorem dX8_putSnippet_32 : decode cX8_putSnippet 32 = .ok (.aload_n 0, 1) := by decide +kernel
theorem dX8_putSnippet_33 : decode cX8_putSnippet 33 = .ok (.iconst 2, 1) := by decide +kernel
theorem dX8_putSnippet_34 : decode cX8_putSnippet 34 = .ok (.invokevirtual 75, 3) := by decide +kernel
theorem dX8_putSnippet_37 : decode cX8_putSnippet 37 = .ok (.ireturn, 1) := by decide +kernel
theorem dX8_putSnippet_38 : decode cX8_putSnippet 38 = .ok (.aload_n 0, 1) := by decide +kernel
theorem dX8_putSnippet_39 : decode cX8_putSnippet 39 = .ok (.iload_n 1, 1) := by decide +kernel
theorem dX8_putSnippet_40 : decode cX8_putSnippet 40 = .ok (.bipush 115, 2) := by decide +kernel
theorem dX8_putSnippet_42 : decode cX8_putSnippet 42 = .ok (.iload_n 2, 1) := by decide +kernel
theorem dX8_putSnippet_43 : decode cX8_putSnippet 43 = .ok (.iconst 0, 1) := by decide +kernel
theorem dX8_putSnippet_44 : decode cX8_putSnippet 44 = .ok (.iconst 3, 1) := by decide +kernel
theorem dX8_putSnippet_45 : decode cX8_putSnippet 45 = .ok (.invokevirtual 89, 3) := by decide +kernel
theorem dX8_putSnippet_48 : decode cX8_putSnippet 48 = .ok (.ireturn, 1) := by decide +kernel
theorem dX8_putChoice_0 : decode cX8_putChoice 0 = .ok (.aload_n 0, 1) := by decide +kernel
theorem dX8_putChoice_1 : decode cX8_putChoice 1 = .ok (.iload_n 1, 1) := by decide +kernel
theorem dX8_putChoice_2 : decode cX8_putChoice 2 = .ok (.invokevirtual 79, 3) := by decide +kernel
theorem dX8_putChoice_5 : decode cX8_putChoice 5 = .ok (.ifCond .ne 19, 3) := by decide +kernel
theorem dX8_putChoice_8 : decode cX8_putChoice 8 = .ok (.aload_n 0, 1) := by decide +kernel
theorem dX8_putChoice_9 : decode cX8_putChoice 9 = .ok (.iload_n 2, 1) := by decide +kernel
theorem dX8_putChoice_10 : decode cX8_putChoice 10 = .ok (.invokevirtual 79, 3) := by decide +kernel
theorem dX8_putChoice_13 : decode cX8_putChoice 13 = .ok (.ifCond .ne 11, 3) := by decide +kernel
theorem dX8_putChoice_16 : decode cX8_putChoice 16 = .ok (.aload_n 0, 1) := by decide +kernel
theorem dX8_putChoice_17 : decode cX8_putChoice 17 = .ok (.iload_n 3, 1) := by decide +kernel
theorem dX8_putChoice_18 : decode cX8_putChoice 18 = .ok (.invokevirtual 79, 3) := by decide +kernel
theorem dX8_putChoice_21 : decode cX8_putChoice 21 = .ok (.ifCond .eq 5, 3) := by decide +kernel
theorem dX8_putChoice_24 : decode cX8_putChoice 24 = .ok (.iconst 0, 1) := by decide +kernel
theorem dX8_putChoice_25 : decode cX8_putChoice 25 = .ok (.ireturn, 1) := by decide +kernel
theorem dX8_putChoice_26 : decode cX8_putChoice 26 = .ok (.iload_n 2, 1) := by decide +kernel
theorem dX8_putChoice_27 : decode cX8_putChoice 27 = .ok (.iload_n 1, 1) := by decide +kernel
theorem dX8_putChoice_28 : decode cX8_putChoice 28 = .ok (.if_icmp .eq 26, 3) := by decide +kernel
theorem dX8_putChoice_31 : decode cX8_putChoice 31 = .ok (.iload_n 3, 1) := by decide +kernel
theorem dX8_putChoice_32 : decode cX8_putChoice 32 = .ok (.iload_n 1, 1) := by decide +kernel
theorem dX8_putChoice_33 : decode cX8_putChoice 33 = .ok (.if_icmp .eq 21, 3) := by decide +kernel
theorem dX8_putChoice_36 : decode cX8_putChoice 36 = .ok (.aload_n 0, 1) := by decide +kernel
theorem dX8_putChoice_37 : decode cX8_putChoice 37 = .ok (.iload_n 2, 1) := by decide +kernel
theorem dX8_putChoice_38 : decode cX8_putChoice 38 = .ok (.iload_n 1, 1) := by decide +kernel
theorem dX8_putChoice_39 : decode cX8_putChoice 39 = .ok (.invokevirtual 93, 3) := by decide +kernel
theorem dX8_putChoice_42 : decode cX8_putChoice 42 = .ok (.ifCond .ne 12, 3) := by decide +kernel
theorem dX8_putChoice_45 : decode cX8_putChoice 45 = .ok (.aload_n 0, 1) := by decide +kernel
theorem dX8_putChoice_46 : decode cX8_putChoice 46 = .ok (.iload_n 3, 1) := by decide +kernel
theorem dX8_putChoice_47 : decode cX8_putChoice 47 = .ok (.iload_n 1, 1) := by decide +kernel
theorem dX8_putChoice_48 : decode cX8_putChoice 48 = .ok (.invokevirtual 93, 3) := by decide +kernel
theorem dX8_putChoice_51 : decode cX8_putChoice 51 = .ok (.ifCond .eq 9, 3) := by decide +kernel
theorem dX8_putChoice_54 : decode cX8_putChoice 54 = .ok (.aload_n 0, 1) := by decide +kernel
theorem dX8_putChoice_55 : decode cX8_putChoice 55 = .ok (.iconst 2, 1) := by decide +kernel
theorem dX8_putChoice_56 : decode cX8_putChoice 56 = .ok (.invokevirtual 75, 3) := by decide +kernel
theorem dX8_putChoice_59 : decode cX8_putChoice 59 = .ok (.ireturn, 1) := by decide +kernel
theorem dX8_putChoice_60 : decode cX8_putChoice 60 = .ok (.aload_n 0, 1) := by decide +kernel
theorem dX8_putChoice_61 : decode cX8_putChoice 61 = .ok (.iload_n 1, 1) := by decide +kernel
theorem dX8_putChoice_62 : decode cX8_putChoice 62 = .ok (.bipush 111, 2) := by decide +kernel
theorem dX8_putChoice_64 : decode cX8_putChoice 64 = .ok (.iload_n 2, 1) := by decide +kernel
theorem dX8_putChoice_65 : decode cX8_putChoice 65 = .ok (.iload_n 3, 1) := by decide +kernel
theorem dX8_putChoice_66 : decode cX8_putChoice 66 = .ok (.iconst 3, 1) := by decide +kernel
theorem dX8_putChoice_67 : decode cX8_putChoice 67 = .ok (.invokevirtual 89, 3) := by decide +kernel
theorem dX8_putChoice_70 : decode cX8_putChoice 70 = .ok (.ireturn, 1) := by decide +kernel
theorem dX8_putDate_0 : decode cX8_putDate 0 = .ok (.aload_n 0, 1) := by decide +kernel
theorem dX8_putDate_1 : decode cX8_putDate 1 = .ok (.iload_n 1, 1) := by decide +kernel
theorem dX8_putDate_2 : decode cX8_putDate 2 = .ok (.invokevirtual 79, 3) := by decide +kernel
theorem dX8_putDate_5 : decode cX8_putDate 5 = .ok (.ifCond .eq 5, 3) := by decide +kernel
theorem dX8_putDate_8 : decode cX8_putDate 8 = .ok (.iconst 0, 1) := by decide +kernel
theorem dX8_putDate_9 : decode cX8_putDate 9 = .ok (.ireturn, 1) := by decide +kernel
theorem dX8_putDate_10 : decode cX8_putDate 10 = .ok (.iload_n 2, 1) := by decide +kernel
theorem dX8_putDate_11 : decode cX8_putDate 11 = .ok (.bipush (-99), 2) := by decide +kernel
theorem dX8_putDate_13 : decode cX8_putDate 13 = .ok (.bipush 99, 2) := by decide +kernel
theorem dX8_putDate_15 : decode cX8_putDate 15 = .ok (.invokestatic 67, 3) := by decide +kernel
theorem dX8_putDate_18 : decode cX8_putDate 18 = .ok (.ifCond .eq 21, 3) := by decide +kernel
theorem dX8_putDate_21 : decode cX8_putDate 21 = .ok (.iload_n 3, 1) := by decide +kernel
theorem dX8_putDate_22 : decode cX8_putDate 22 = .ok (.bipush 110, 2) := by decide +kernel
theorem dX8_putDate_24 : decode cX8_putDate 24 = .ok (.if_icmp .eq 21, 3) := by decide +kernel
theorem dX8_putDate_27 : decode cX8_putDate 27 = .ok (.iload_n 3, 1) := by decide +kernel
theorem dX8_putDate_28 : decode cX8_putDate 28 = .ok (.bipush 119, 2) := by decide +kernel
theorem dX8_putDate_30 : decode cX8_putDate 30 = .ok (.if_icmp .eq 15, 3) := by decide +kernel
theorem dX8_putDate_33 : decode cX8_putDate 33 = .ok (.iload_n 3, 1) := by decide +kernel
theorem dX8_putDate_34 : decode cX8_putDate 34 = .ok (.bipush 109, 2) := by decide +kernel
theorem dX8_putDate_36 : decode cX8_putDate 36 = .ok (.if_icmp .eq 9, 3) := by decide +kernel
theorem dX8_putDate_39 : decode cX8_putDate 39 = .ok (.aload_n 0, 1) := by decide +kernel
theorem dX8_putDate_40 : decode cX8_putDate 40 = .ok (.iconst 2, 1) := by decide +kernel
theorem dX8_putDate_41 : decode cX8_putDate 41 = .ok (.invokevirtual 75, 3) := by decide +kernel
theorem dX8_putDate_44 : decode cX8_putDate 44 = .ok (.ireturn, 1) := by decide +kernel
theorem dX8_putDate_45 : decode cX8_putDate 45 = .ok (.aload_n 0, 1) := by decide +kernel
theorem dX8_putDate_46 : decode cX8_putDate 46 = .ok (.iload_n 1, 1) := by decide +kernel
theorem dX8_putDate_47 : decode cX8_putDate 47 = .ok (.bipush 100, 2) := by decide +kernel
theorem dX8_putDate_49 : decode cX8_putDate 49 = .ok (.iload_n 2, 1) := by decide +kernel
theorem dX8_putDate_50 : decode cX8_putDate 50 = .ok (.iload_n 3, 1) := by decide +kernel
theorem dX8_putDate_51 : decode cX8_putDate 51 = .ok (.iconst 3, 1) := by decide +kernel
theorem dX8_putDate_52 : decode cX8_putDate 52 = .ok (.invokevirtual 89, 3) := by decide +kernel
theorem dX8_putDate_55 : decode cX8_putDate 55 = .ok (.ireturn, 1) := by decide +kernel
theorem dX8_putStop_0 : decode cX8_putStop 0 = .ok (.aload_n 0, 1) := by decide +kernel
theorem dX8_putStop_1 : decode cX8_putStop 1 = .ok (.iload_n 1, 1) := by decide +kernel
theorem dX8_putStop_2 : decode cX8_putStop 2 = .ok (.invokevirtual 79, 3) := by decide +kernel
theorem dX8_putStop_5 : decode cX8_putStop 5 = .ok (.ifCond .eq 7, 3) := by decide +kernel
theorem dX8_putStop_8 : decode cX8_putStop 8 = .ok (.iconst 0, 1) := by decide +kernel
theorem dX8_putStop_9 : decode cX8_putStop 9 = .ok (.goto 13, 3) := by decide +kernel
theorem dX8_putStop_12 : decode cX8_putStop 12 = .ok (.aload_n 0, 1) := by decide +kernel
theorem dX8_putStop_13 : decode cX8_putStop 13 = .ok (.iload_n 1, 1) := by decide +kernel
theorem dX8_putStop_14 : decode cX8_putStop 14 = .ok (.bipush 112, 2) := by decide +kernel
theorem dX8_putStop_16 : decode cX8_putStop 16 = .ok (.iconst 0, 1) := by decide +kernel
theorem dX8_putStop_17 : decode cX8_putStop 17 = .ok (.iconst 0, 1) := by decide +kernel
theorem dX8_putStop_18 : decode cX8_putStop 18 = .ok (.iconst 2, 1) := by decide +kernel
theorem dX8_putStop_19 : decode cX8_putStop 19 = .ok (.invokevirtual 89, 3) := by decide +kernel
theorem dX8_putStop_22 : decode cX8_putStop 22 = .ok (.ireturn, 1) := by decide +kernel
theorem dX8_clearBody_0 : decode cX8_clearBody 0 = .ok (.aload_n 0, 1) := by decide +kernel
theorem dX8_clearBody_1 : decode cX8_clearBody 1 = .ok (.iload_n 1, 1) := by decide +kernel
theorem dX8_clearBody_2 : decode cX8_clearBody 2 = .ok (.invokevirtual 79, 3) := by decide +kernel
theorem dX8_clearBody_5 : decode cX8_clearBody 5 = .ok (.ifCond .eq 5, 3) := by decide +kernel
theorem dX8_clearBody_8 : decode cX8_clearBody 8 = .ok (.iconst 0, 1) := by decide +kernel
theorem dX8_clearBody_9 : decode cX8_clearBody 9 = .ok (.ireturn, 1) := by decide +kernel
theorem dX8_clearBody_10 : decode cX8_clearBody 10 = .ok (.aload_n 0, 1) := by decide +kernel
theorem dX8_clearBody_11 : decode cX8_clearBody 11 = .ok (.getfield 33, 3) := by decide +kernel
theorem dX8_clearBody_14 : decode cX8_clearBody 14 = .ok (.iload_n 1, 1) := by decide +kernel
theorem dX8_clearBody_15 : decode cX8_clearBody 15 = .ok (.iaload, 1) := by decide +kernel
theorem dX8_clearBody_16 : decode cX8_clearBody 16 = .ok (.istore_n 2, 1) := by decide +kernel
theorem dX8_clearBody_17 : decode cX8_clearBody 17 = .ok (.aload_n 0, 1) := by decide +kernel
theorem dX8_clearBody_18 : decode cX8_clearBody 18 = .ok (.getfield 33, 3) := by decide +kernel
theorem dX8_clearBody_21 : decode cX8_clearBody 21 = .ok (.iload_n 1, 1) := by decide +kernel
theorem dX8_clearBody_22 : decode cX8_clearBody 22 = .ok (.iconst 0, 1) := by decide +kernel
theorem dX8_clearBody_23 : decode cX8_clearBody 23 = .ok (.iastore, 1) := by decide +kernel
theorem dX8_clearBody_24 : decode cX8_clearBody 24 = .ok (.iload_n 2, 1) := by decide +kernel
theorem dX8_clearBody_25 : decode cX8_clearBody 25 = .ok (.ireturn, 1) := by decide +kernel
theorem dX8_choose_0 : decode cX8_choose 0 = .ok (.aload_n 0, 1) := by decide +kernel
theorem dX8_choose_1 : decode cX8_choose 1 = .ok (.iload_n 1, 1) := by decide +kernel
theorem dX8_choose_2 : decode cX8_choose 2 = .ok (.invokevirtual 79, 3) := by decide +kernel
theorem dX8_choose_5 : decode cX8_choose 5 = .ok (.ifCond .eq 5, 3) := by decide +kernel
theorem dX8_choose_8 : decode cX8_choose 8 = .ok (.iconst 0, 1) := by decide +kernel
theorem dX8_choose_9 : decode cX8_choose 9 = .ok (.ireturn, 1) := by decide +kernel
theorem dX8_choose_10 : decode cX8_choose 10 = .ok (.aload_n 0, 1) := by decide +kernel
theorem dX8_choose_11 : decode cX8_choose 11 = .ok (.getfield 58, 3) := by decide +kernel
theorem dX8_choose_14 : decode cX8_choose 14 = .ok (.iload_n 1, 1) := by decide +kernel
theorem dX8_choose_15 : decode cX8_choose 15 = .ok (.baload, 1) := by decide +kernel
theorem dX8_choose_16 : decode cX8_choose 16 = .ok (.istore_n 3, 1) := by decide +kernel
theorem dX8_choose_17 : decode cX8_choose 17 = .ok (.aload_n 0, 1) := by decide +kernel
theorem dX8_choose_18 : decode cX8_choose 18 = .ok (.getfield 58, 3) := by decide +kernel
theorem dX8_choose_21 : decode cX8_choose 21 = .ok (.iload_n 1, 1) := by decide +kernel
theorem dX8_choose_22 : decode cX8_choose 22 = .ok (.iload_n 2, 1) := by decide +kernel
theorem dX8_choose_23 : decode cX8_choose 23 = .ok (.bastore, 1) := by decide +kernel
theorem dX8_choose_24 : decode cX8_choose 24 = .ok (.iload_n 3, 1) := by decide +kernel
theorem dX8_choose_25 : decode cX8_choose 25 = .ok (.ireturn, 1) := by decide +kernel
theorem dX8_setToday_0 : decode cX8_setToday 0 = .ok (.iload_n 1, 1) := by decide +kernel
theorem dX8_setToday_1 : decode cX8_setToday 1 = .ok (.bipush 99, 2) := by decide +kernel
theorem dX8_setToday_3 : decode cX8_setToday 3 = .ok (.sipush 9999, 3) := by decide +kernel
theorem dX8_setToday_6 : decode cX8_setToday 6 = .ok (.invokestatic 67, 3) := by decide +kernel
theorem dX8_setToday_9 : decode cX8_setToday 9 = .ok (.ifCond .ne 9, 3) := by decide +kernel
theorem dX8_setToday_12 : decode cX8_setToday 12 = .ok (.aload_n 0, 1) := by decide +kernel
theorem dX8_setToday_13 : decode cX8_setToday 13 = .ok (.iconst 1, 1) := by decide +kernel
theorem dX8_setToday_14 : decode cX8_setToday 14 = .ok (.invokevirtual 75, 3) := by decide +kernel
theorem dX8_setToday_17 : decode cX8_setToday 17 = .ok (.ireturn, 1) := by decide +kernel
theorem dX8_setToday_18 : decode cX8_setToday 18 = .ok (.aload_n 0, 1) := by decide +kernel
theorem dX8_setToday_19 : decode cX8_setToday 19 = .ok (.iconst 0, 1) := by decide +kernel
theorem dX8_setToday_20 : decode cX8_setToday 20 = .ok (.putfield 61, 3) := by decide +kernel
theorem dX8_setToday_23 : decode cX8_setToday 23 = .ok (.aload_n 0, 1) := by decide +kernel
theorem dX8_setToday_24 : decode cX8_setToday 24 = .ok (.getfield 7, 3) := by decide +kernel
theorem dX8_setToday_27 : decode cX8_setToday 27 = .ok (.istore_n 2, 1) := by decide +kernel
theorem dX8_setToday_28 : decode cX8_setToday 28 = .ok (.aload_n 0, 1) := by decide +kernel
theorem dX8_setToday_29 : decode cX8_setToday 29 = .ok (.iload_n 1, 1) := by decide +kernel
theorem dX8_setToday_30 : decode cX8_setToday 30 = .ok (.putfield 7, 3) := by decide +kernel
theorem dX8_setToday_33 : decode cX8_setToday 33 = .ok (.iload_n 2, 1) := by decide +kernel
theorem dX8_setToday_34 : decode cX8_setToday 34 = .ok (.ireturn, 1) := by decide +kernel
theorem dX8_lay_0 : decode cX8_lay 0 = .ok (.aload_n 0, 1) := by decide +kernel
theorem dX8_lay_1 : decode cX8_lay 1 = .ok (.getfield 26, 3) := by decide +kernel
theorem dX8_lay_4 : decode cX8_lay 4 = .ok (.aload_n 0, 1) := by decide +kernel
theorem dX8_lay_5 : decode cX8_lay 5 = .ok (.getfield 97, 3) := by decide +kernel
theorem dX8_lay_8 : decode cX8_lay 8 = .ok (.iload_n 1, 1) := by decide +kernel
theorem dX8_lay_9 : decode cX8_lay 9 = .ok (.castore, 1) := by decide +kernel
theorem dX8_lay_10 : decode cX8_lay 10 = .ok (.aload_n 0, 1) := by decide +kernel
theorem dX8_lay_11 : decode cX8_lay 11 = .ok (.dup, 1) := by decide +kernel
theorem dX8_lay_12 : decode cX8_lay 12 = .ok (.getfield 97, 3) := by decide +kernel
theorem dX8_lay_15 : decode cX8_lay 15 = .ok (.iconst 1, 1) := by decide +kernel
theorem dX8_lay_16 : decode cX8_lay 16 = .ok (.iadd, 1) := by decide +kernel
theorem dX8_lay_17 : decode cX8_lay 17 = .ok (.putfield 97, 3) := by decide +kernel
theorem dX8_lay_20 : decode cX8_lay 20 = .ok (.return_, 1) := by decide +kernel
theorem dX8_layNumber_0 : decode cX8_layNumber 0 = .ok (.iload_n 1, 1) := by decide +kernel
theorem dX8_layNumber_1 : decode cX8_layNumber 1 = .ok (.bipush 9, 2) := by decide +kernel
theorem dX8_layNumber_3 : decode cX8_layNumber 3 = .ok (.if_icmp .le 11, 3) := by decide +kernel
theorem dX8_layNumber_6 : decode cX8_layNumber 6 = .ok (.aload_n 0, 1) := by decide +kernel
theorem dX8_layNumber_7 : decode cX8_layNumber 7 = .ok (.iload_n 1, 1) := by decide +kernel
theorem dX8_layNumber_8 : decode cX8_layNumber 8 = .ok (.bipush 10, 2) := by decide +kernel
theorem dX8_layNumber_10 : decode cX8_layNumber 10 = .ok (.idiv, 1) := by decide +kernel
theorem dX8_layNumber_11 : decode cX8_layNumber 11 = .ok (.invokevirtual 100, 3) := by decide +kernel
theorem dX8_layNumber_14 : decode cX8_layNumber 14 = .ok (.aload_n 0, 1) := by decide +kernel
theorem dX8_layNumber_15 : decode cX8_layNumber 15 = .ok (.bipush 48, 2) := by decide +kernel
theorem dX8_layNumber_17 : decode cX8_layNumber 17 = .ok (.iload_n 1, 1) := by decide +kernel
theorem dX8_layNumber_18 : decode cX8_layNumber 18 = .ok (.bipush 10, 2) := by decide +kernel
theorem dX8_layNumber_20 : decode cX8_layNumber 20 = .ok (.irem, 1) := by decide +kernel
theorem dX8_layNumber_21 : decode cX8_layNumber 21 = .ok (.iadd, 1) := by decide +kernel
theorem dX8_layNumber_22 : decode cX8_layNumber 22 = .ok (.i2c, 1) := by decide +kernel
theorem dX8_layNumber_23 : decode cX8_layNumber 23 = .ok (.invokevirtual 104, 3) := by decide +kernel
theorem dX8_layNumber_26 : decode cX8_layNumber 26 = .ok (.return_, 1) := by decide +kernel
theorem dX8_layDay_0 : decode cX8_layDay 0 = .ok (.iload_n 2, 1) := by decide +kernel
theorem dX8_layDay_1 : decode cX8_layDay 1 = .ok (.bipush 110, 2) := by decide +kernel
theorem dX8_layDay_3 : decode cX8_layDay 3 = .ok (.if_icmp .ne 11, 3) := by decide +kernel
theorem dX8_layDay_6 : decode cX8_layDay 6 = .ok (.aload_n 0, 1) := by decide +kernel
theorem dX8_layDay_7 : decode cX8_layDay 7 = .ok (.iload_n 1, 1) := by decide +kernel
theorem dX8_layDay_8 : decode cX8_layDay 8 = .ok (.invokevirtual 100, 3) := by decide +kernel
theorem dX8_layDay_11 : decode cX8_layDay 11 = .ok (.goto 152, 3) := by decide +kernel
theorem dX8_layDay_14 : decode cX8_layDay 14 = .ok (.iload_n 2, 1) := by decide +kernel
theorem dX8_layDay_15 : decode cX8_layDay 15 = .ok (.bipush 109, 2) := by decide +kernel
theorem dX8_layDay_17 : decode cX8_layDay 17 = .ok (.if_icmp .ne 35, 3) := by decide +kernel
theorem dX8_layDay_20 : decode cX8_layDay 20 = .ok (.aload_n 0, 1) := by decide +kernel
theorem dX8_layDay_21 : decode cX8_layDay 21 = .ok (.iload_n 1, 1) := by decide +kernel
theorem dX8_layDay_22 : decode cX8_layDay 22 = .ok (.bipush 30, 2) := by decide +kernel
theorem dX8_layDay_24 : decode cX8_layDay 24 = .ok (.idiv, 1) := by decide +kernel
theorem dX8_layDay_25 : decode cX8_layDay 25 = .ok (.bipush 12, 2) := by decide +kernel
theorem dX8_layDay_27 : decode cX8_layDay 27 = .ok (.irem, 1) := by decide +kernel
theorem dX8_layDay_28 : decode cX8_layDay 28 = .ok (.iconst 1, 1) := by decide +kernel
theorem dX8_layDay_29 : decode cX8_layDay 29 = .ok (.iadd, 1) := by decide +kernel
theorem dX8_layDay_30 : decode cX8_layDay 30 = .ok (.invokevirtual 100, 3) := by decide +kernel
theorem dX8_layDay_33 : decode cX8_layDay 33 = .ok (.aload_n 0, 1) := by decide +kernel
theorem dX8_layDay_34 : decode cX8_layDay 34 = .ok (.bipush 46, 2) := by decide +kernel
theorem dX8_layDay_36 : decode cX8_layDay 36 = .ok (.invokevirtual 104, 3) := by decide +kernel
theorem dX8_layDay_39 : decode cX8_layDay 39 = .ok (.aload_n 0, 1) := by decide +kernel
theorem dX8_layDay_40 : decode cX8_layDay 40 = .ok (.iload_n 1, 1) := by decide +kernel
theorem dX8_layDay_41 : decode cX8_layDay 41 = .ok (.bipush 30, 2) := by decide +kernel
theorem dX8_layDay_43 : decode cX8_layDay 43 = .ok (.irem, 1) := by decide +kernel
theorem dX8_layDay_44 : decode cX8_layDay 44 = .ok (.iconst 1, 1) := by decide +kernel
theorem dX8_layDay_45 : decode cX8_layDay 45 = .ok (.iadd, 1) := by decide +kernel
theorem dX8_layDay_46 : decode cX8_layDay 46 = .ok (.invokevirtual 100, 3) := by decide +kernel
theorem dX8_layDay_49 : decode cX8_layDay 49 = .ok (.goto 114, 3) := by decide +kernel
theorem dX8_layDay_52 : decode cX8_layDay 52 = .ok (.iload_n 1, 1) := by decide +kernel
theorem dX8_layDay_53 : decode cX8_layDay 53 = .ok (.bipush 7, 2) := by decide +kernel
theorem dX8_layDay_55 : decode cX8_layDay 55 = .ok (.irem, 1) := by decide +kernel
theorem dX8_layDay_56 : decode cX8_layDay 56 = .ok (.istore_n 3, 1) := by decide +kernel
theorem dX8_layDay_57 : decode cX8_layDay 57 = .ok (.aload_n 0, 1) := by decide +kernel
theorem dX8_layDay_58 : decode cX8_layDay 58 = .ok (.iload_n 3, 1) := by decide +kernel
theorem dX8_layDay_59 : decode cX8_layDay 59 = .ok (.ifCond .ne 8, 3) := by decide +kernel
theorem dX8_layDay_62 : decode cX8_layDay 62 = .ok (.bipush 109, 2) := by decide +kernel
theorem dX8_layDay_64 : decode cX8_layDay 64 = .ok (.goto 35, 3) := by decide +kernel
theorem dX8_layDay_67 : decode cX8_layDay 67 = .ok (.iload_n 3, 1) := by decide +kernel
theorem dX8_layDay_68 : decode cX8_layDay 68 = .ok (.iconst 2, 1) := by decide +kernel
theorem dX8_layDay_69 : decode cX8_layDay 69 = .ok (.if_icmp .ne 8, 3) := by decide +kernel
theorem dX8_layDay_72 : decode cX8_layDay 72 = .ok (.bipush 119, 2) := by decide +kernel
theorem dX8_layDay_74 : decode cX8_layDay 74 = .ok (.goto 25, 3) := by decide +kernel
theorem dX8_layDay_77 : decode cX8_layDay 77 = .ok (.iload_n 3, 1) := by decide +kernel
theorem dX8_layDay_78 : decode cX8_layDay 78 = .ok (.iconst 4, 1) := by decide +kernel
theorem dX8_layDay_79 : decode cX8_layDay 79 = .ok (.if_icmp .ne 8, 3) := by decide +kernel
theorem dX8_layDay_82 : decode cX8_layDay 82 = .ok (.bipush 102, 2) := by decide +kernel
theorem dX8_layDay_84 : decode cX8_layDay 84 = .ok (.goto 15, 3) := by decide +kernel
theorem dX8_layDay_87 : decode cX8_layDay 87 = .ok (.iload_n 3, 1) := by decide +kernel
theorem dX8_layDay_88 : decode cX8_layDay 88 = .ok (.iconst 4, 1) := by decide +kernel
theorem dX8_layDay_89 : decode cX8_layDay 89 = .ok (.if_icmp .le 8, 3) := by decide +kernel
theorem dX8_layDay_92 : decode cX8_layDay 92 = .ok (.bipush 115, 2) := by decide +kernel
theorem dX8_layDay_94 : decode cX8_layDay 94 = .ok (.goto 5, 3) := by decide +kernel
theorem dX8_layDay_97 : decode cX8_layDay 97 = .ok (.bipush 116, 2) := by decide +kernel
theorem dX8_layDay_99 : decode cX8_layDay 99 = .ok (.invokevirtual 104, 3) := by decide +kernel
theorem dX8_layDay_102 : decode cX8_layDay 102 = .ok (.aload_n 0, 1) := by decide +kernel
theorem dX8_layDay_103 : decode cX8_layDay 103 = .ok (.iload_n 3, 1) := by decide +kernel
theorem dX8_layDay_104 : decode cX8_layDay 104 = .ok (.ifCond .ne 8, 3) := by decide +kernel
theorem dX8_layDay_107 : decode cX8_layDay 107 = .ok (.bipush 111, 2) := by decide +kernel
theorem dX8_layDay_109 : decode cX8_layDay 109 = .ok (.goto 51, 3) := by decide +kernel
theorem dX8_layDay_112 : decode cX8_layDay 112 = .ok (.iload_n 3, 1) := by decide +kernel
theorem dX8_layDay_113 : decode cX8_layDay 113 = .ok (.iconst 1, 1) := by decide +kernel
theorem dX8_layDay_114 : decode cX8_layDay 114 = .ok (.if_icmp .eq 9, 3) := by decide +kernel
theorem dX8_layDay_117 : decode cX8_layDay 117 = .ok (.iload_n 3, 1) := by decide +kernel
theorem dX8_layDay_118 : decode cX8_layDay 118 = .ok (.bipush 6, 2) := by decide +kernel
theorem dX8_layDay_120 : decode cX8_layDay 120 = .ok (.if_icmp .ne 8, 3) := by decide +kernel
theorem dX8_layDay_123 : decode cX8_layDay 123 = .ok (.bipush 117, 2) := by decide +kernel
theorem dX8_layDay_125 : decode cX8_layDay 125 = .ok (.goto 35, 3) := by decide +kernel
theorem dX8_layDay_128 : decode cX8_layDay 128 = .ok (.iload_n 3, 1) := by decide +kernel
theorem dX8_layDay_129 : decode cX8_layDay 129 = .ok (.iconst 2, 1) := by decide +kernel
theorem dX8_layDay_130 : decode cX8_layDay 130 = .ok (.if_icmp .ne 8, 3) := by decide +kernel
theorem dX8_layDay_133 : decode cX8_layDay 133 = .ok (.bipush 101, 2) := by decide +kernel
theorem dX8_layDay_135 : decode cX8_layDay 135 = .ok (.goto 25, 3) := by decide +kernel
theorem dX8_layDay_138 : decode cX8_layDay 138 = .ok (.iload_n 3, 1) := by decide +kernel
theorem dX8_layDay_139 : decode cX8_layDay 139 = .ok (.iconst 3, 1) := by decide +kernel
theorem dX8_layDay_140 : decode cX8_layDay 140 = .ok (.if_icmp .ne 8, 3) := by decide +kernel
theorem dX8_layDay_143 : decode cX8_layDay 143 = .ok (.bipush 104, 2) := by decide +kernel
theorem dX8_layDay_145 : decode cX8_layDay 145 = .ok (.goto 15, 3) := by decide +kernel
theorem dX8_layDay_148 : decode cX8_layDay 148 = .ok (.iload_n 3, 1) := by decide +kernel
theorem dX8_layDay_149 : decode cX8_layDay 149 = .ok (.iconst 4, 1) := by decide +kernel
theorem dX8_layDay_150 : decode cX8_layDay 150 = .ok (.if_icmp .ne 8, 3) := by decide +kernel
theorem dX8_layDay_153 : decode cX8_layDay 153 = .ok (.bipush 114, 2) := by decide +kernel
theorem dX8_layDay_155 : decode cX8_layDay 155 = .ok (.goto 5, 3) := by decide +kernel
theorem dX8_layDay_158 : decode cX8_layDay 158 = .ok (.bipush 97, 2) := by decide +kernel
theorem dX8_layDay_160 : decode cX8_layDay 160 = .ok (.invokevirtual 104, 3) := by decide +kernel
theorem dX8_layDay_163 : decode cX8_layDay 163 = .ok (.return_, 1) := by decide +kernel
theorem dX8_layAll_0 : decode cX8_layAll 0 = .ok (.bipush 12, 2) := by decide +kernel
theorem dX8_layAll_2 : decode cX8_layAll 2 = .ok (.iload_n 1, 1) := by decide +kernel
theorem dX8_layAll_3 : decode cX8_layAll 3 = .ok (.imul, 1) := by decide +kernel
theorem dX8_layAll_4 : decode cX8_layAll 4 = .ok (.istore_n 2, 1) := by decide +kernel
theorem dX8_layAll_5 : decode cX8_layAll 5 = .ok (.iload_n 2, 1) := by decide +kernel
theorem dX8_layAll_6 : decode cX8_layAll 6 = .ok (.bipush 12, 2) := by decide +kernel
theorem dX8_layAll_8 : decode cX8_layAll 8 = .ok (.iload_n 1, 1) := by decide +kernel
theorem dX8_layAll_9 : decode cX8_layAll 9 = .ok (.imul, 1) := by decide +kernel
theorem dX8_layAll_10 : decode cX8_layAll 10 = .ok (.aload_n 0, 1) := by decide +kernel
theorem dX8_layAll_11 : decode cX8_layAll 11 = .ok (.getfield 33, 3) := by decide +kernel
theorem dX8_layAll_14 : decode cX8_layAll 14 = .ok (.iload_n 1, 1) := by decide +kernel
theorem dX8_layAll_15 : decode cX8_layAll 15 = .ok (.iaload, 1) := by decide +kernel
theorem dX8_layAll_16 : decode cX8_layAll 16 = .ok (.iadd, 1) := by decide +kernel
theorem dX8_layAll_17 : decode cX8_layAll 17 = .ok (.if_icmp .ge 159, 3) := by decide +kernel
theorem dX8_layAll_20 : decode cX8_layAll 20 = .ok (.aload_n 0, 1) := by decide +kernel
theorem dX8_layAll_21 : decode cX8_layAll 21 = .ok (.getfield 17, 3) := by decide +kernel
theorem dX8_layAll_24 : decode cX8_layAll 24 = .ok (.iload_n 2, 1) := by decide +kernel
theorem dX8_layAll_25 : decode cX8_layAll 25 = .ok (.caload, 1) := by decide +kernel
theorem dX8_layAll_26 : decode cX8_layAll 26 = .ok (.bipush 99, 2) := by decide +kernel
theorem dX8_layAll_28 : decode cX8_layAll 28 = .ok (.if_icmp .ne 17, 3) := by decide +kernel
theorem dX8_layAll_31 : decode cX8_layAll 31 = .ok (.aload_n 0, 1) := by decide +kernel
theorem dX8_layAll_32 : decode cX8_layAll 32 = .ok (.aload_n 0, 1) := by decide +kernel
theorem dX8_layAll_33 : decode cX8_layAll 33 = .ok (.getfield 36, 3) := by decide +kernel
theorem dX8_layAll_36 : decode cX8_layAll 36 = .ok (.iload_n 2, 1) := by decide +kernel
theorem dX8_layAll_37 : decode cX8_layAll 37 = .ok (.iaload, 1) := by decide +kernel
theorem dX8_layAll_38 : decode cX8_layAll 38 = .ok (.i2c, 1) := by decide +kernel
theorem dX8_layAll_39 : decode cX8_layAll 39 = .ok (.invokevirtual 104, 3) := by decide +kernel
theorem dX8_layAll_42 : decode cX8_layAll 42 = .ok (.goto 128, 3) := by decide +kernel
theorem dX8_layAll_45 : decode cX8_layAll 45 = .ok (.aload_n 0, 1) := by decide +kernel
theorem dX8_layAll_46 : decode cX8_layAll 46 = .ok (.getfield 17, 3) := by decide +kernel
theorem dX8_layAll_49 : decode cX8_layAll 49 = .ok (.iload_n 2, 1) := by decide +kernel
theorem dX8_layAll_50 : decode cX8_layAll 50 = .ok (.caload, 1) := by decide +kernel
theorem dX8_layAll_51 : decode cX8_layAll 51 = .ok (.bipush 115, 2) := by decide +kernel
theorem dX8_layAll_53 : decode cX8_layAll 53 = .ok (.if_icmp .ne 16, 3) := by decide +kernel
theorem dX8_layAll_56 : decode cX8_layAll 56 = .ok (.aload_n 0, 1) := by decide +kernel
theorem dX8_layAll_57 : decode cX8_layAll 57 = .ok (.aload_n 0, 1) := by decide +kernel
theorem dX8_layAll_58 : decode cX8_layAll 58 = .ok (.getfield 36, 3) := by decide +kernel
theorem dX8_layAll_61 : decode cX8_layAll 61 = .ok (.iload_n 2, 1) := by decide +kernel
theorem dX8_layAll_62 : decode cX8_layAll 62 = .ok (.iaload, 1) := by decide +kernel
theorem dX8_layAll_63 : decode cX8_layAll 63 = .ok (.invokevirtual 108, 3) := by decide +kernel
theorem dX8_layAll_66 : decode cX8_layAll 66 = .ok (.goto 104, 3) := by decide +kernel
theorem dX8_layAll_69 : decode cX8_layAll 69 = .ok (.aload_n 0, 1) := by decide +kernel
theorem dX8_layAll_70 : decode cX8_layAll 70 = .ok (.getfield 17, 3) := by decide +kernel
theorem dX8_layAll_73 : decode cX8_layAll 73 = .ok (.iload_n 2, 1) := by decide +kernel
theorem dX8_layAll_74 : decode cX8_layAll 74 = .ok (.caload, 1) := by decide +kernel
theorem dX8_layAll_75 : decode cX8_layAll 75 = .ok (.bipush 111, 2) := by decide +kernel
theorem dX8_layAll_77 : decode cX8_layAll 77 = .ok (.if_icmp .ne 34, 3) := by decide +kernel
theorem dX8_layAll_80 : decode cX8_layAll 80 = .ok (.aload_n 0, 1) := by decide +kernel
theorem dX8_layAll_81 : decode cX8_layAll 81 = .ok (.aload_n 0, 1) := by decide +kernel
theorem dX8_layAll_82 : decode cX8_layAll 82 = .ok (.getfield 58, 3) := by decide +kernel
theorem dX8_layAll_85 : decode cX8_layAll 85 = .ok (.iload_n 1, 1) := by decide +kernel
theorem dX8_layAll_86 : decode cX8_layAll 86 = .ok (.baload, 1) := by decide +kernel
theorem dX8_layAll_87 : decode cX8_layAll 87 = .ok (.ifCond .eq 12, 3) := by decide +kernel
theorem dX8_layAll_90 : decode cX8_layAll 90 = .ok (.aload_n 0, 1) := by decide +kernel
theorem dX8_layAll_91 : decode cX8_layAll 91 = .ok (.getfield 39, 3) := by decide +kernel
theorem dX8_layAll_94 : decode cX8_layAll 94 = .ok (.iload_n 2, 1) := by decide +kernel
theorem dX8_layAll_95 : decode cX8_layAll 95 = .ok (.iaload, 1) := by decide +kernel
theorem dX8_layAll_96 : decode cX8_layAll 96 = .ok (.goto 9, 3) := by decide +kernel
theorem dX8_layAll_99 : decode cX8_layAll 99 = .ok (.aload_n 0, 1) := by decide +kernel
theorem dX8_layAll_100 : decode cX8_layAll 100 = .ok (.getfield 36, 3) := by decide +kernel
theorem dX8_layAll_103 : decode cX8_layAll 103 = .ok (.iload_n 2, 1) := by decide +kernel
theorem dX8_layAll_104 : decode cX8_layAll 104 = .ok (.iaload, 1) := by decide +kernel
theorem dX8_layAll_105 : decode cX8_layAll 105 = .ok (.invokevirtual 108, 3) := by decide +kernel
theorem dX8_layAll_108 : decode cX8_layAll 108 = .ok (.goto 62, 3) := by decide +kernel
theorem dX8_layAll_111 : decode cX8_layAll 111 = .ok (.aload_n 0, 1) := by decide +kernel
theorem dX8_layAll_112 : decode cX8_layAll 112 = .ok (.getfield 17, 3) := by decide +kernel
theorem dX8_layAll_115 : decode cX8_layAll 115 = .ok (.iload_n 2, 1) := by decide +kernel
theorem dX8_layAll_116 : decode cX8_layAll 116 = .ok (.caload, 1) := by decide +kernel
theorem dX8_layAll_117 : decode cX8_layAll 117 = .ok (.bipush 100, 2) := by decide +kernel
theorem dX8_layAll_119 : decode cX8_layAll 119 = .ok (.if_icmp .ne 28, 3) := by decide +kernel
theorem dX8_layAll_122 : decode cX8_layAll 122 = .ok (.aload_n 0, 1) := by decide +kernel
theorem dX8_layAll_123 : decode cX8_layAll 123 = .ok (.aload_n 0, 1) := by decide +kernel
theorem dX8_layAll_124 : decode cX8_layAll 124 = .ok (.getfield 7, 3) := by decide +kernel
theorem dX8_layAll_127 : decode cX8_layAll 127 = .ok (.aload_n 0, 1) := by decide +kernel
theorem dX8_layAll_128 : decode cX8_layAll 128 = .ok (.getfield 36, 3) := by decide +kernel
theorem dX8_layAll_131 : decode cX8_layAll 131 = .ok (.iload_n 2, 1) := by decide +kernel
theorem dX8_layAll_132 : decode cX8_layAll 132 = .ok (.iaload, 1) := by decide +kernel
theorem dX8_layAll_133 : decode cX8_layAll 133 = .ok (.iadd, 1) := by decide +kernel
theorem dX8_layAll_134 : decode cX8_layAll 134 = .ok (.aload_n 0, 1) := by decide +kernel
theorem dX8_layAll_135 : decode cX8_layAll 135 = .ok (.getfield 39, 3) := by decide +kernel
theorem dX8_layAll_138 : decode cX8_layAll 138 = .ok (.iload_n 2, 1) := by decide +kernel
theorem dX8_layAll_139 : decode cX8_layAll 139 = .ok (.iaload, 1) := by decide +kernel
theorem dX8_layAll_140 : decode cX8_layAll 140 = .ok (.i2c, 1) := by decide +kernel
theorem dX8_layAll_141 : decode cX8_layAll 141 = .ok (.invokevirtual 111, 3) := by decide +kernel
theorem dX8_layAll_144 : decode cX8_layAll 144 = .ok (.goto 26, 3) := by decide +kernel
theorem dX8_layAll_147 : decode cX8_layAll 147 = .ok (.aload_n 0, 1) := by decide +kernel
theorem dX8_layAll_148 : decode cX8_layAll 148 = .ok (.getfield 48, 3) := by decide +kernel
theorem dX8_layAll_151 : decode cX8_layAll 151 = .ok (.aload_n 0, 1) := by decide +kernel
theorem dX8_layAll_152 : decode cX8_layAll 152 = .ok (.getfield 115, 3) := by decide +kernel
theorem dX8_layAll_155 : decode cX8_layAll 155 = .ok (.aload_n 0, 1) := by decide +kernel
theorem dX8_layAll_156 : decode cX8_layAll 156 = .ok (.getfield 97, 3) := by decide +kernel
theorem dX8_layAll_159 : decode cX8_layAll 159 = .ok (.iastore, 1) := by decide +kernel
theorem dX8_layAll_160 : decode cX8_layAll 160 = .ok (.aload_n 0, 1) := by decide +kernel
theorem dX8_layAll_161 : decode cX8_layAll 161 = .ok (.dup, 1) := by decide +kernel
theorem dX8_layAll_162 : decode cX8_layAll 162 = .ok (.getfield 115, 3) := by decide +kernel
theorem dX8_layAll_165 : decode cX8_layAll 165 = .ok (.iconst 1, 1) := by decide +kernel
theorem dX8_layAll_166 : decode cX8_layAll 166 = .ok (.iadd, 1) := by decide +kernel
theorem dX8_layAll_167 : decode cX8_layAll 167 = .ok (.putfield 115, 3) := by decide +kernel
theorem dX8_layAll_170 : decode cX8_layAll 170 = .ok (.iinc 2 1, 3) := by decide +kernel
theorem dX8_layAll_173 : decode cX8_layAll 173 = .ok (.goto (-168), 3) := by decide +kernel
theorem dX8_layAll_176 : decode cX8_layAll 176 = .ok (.return_, 1) := by decide +kernel
theorem dX8_gives_0 : decode cX8_gives 0 = .ok (.aload_n 0, 1) := by decide +kernel
theorem dX8_gives_1 : decode cX8_gives 1 = .ok (.iconst 0, 1) := by decide +kernel
theorem dX8_gives_2 : decode cX8_gives 2 = .ok (.putfield 97, 3) := by decide +kernel
theorem dX8_gives_5 : decode cX8_gives 5 = .ok (.aload_n 0, 1) := by decide +kernel
theorem dX8_gives_6 : decode cX8_gives 6 = .ok (.iconst 0, 1) := by decide +kernel
theorem dX8_gives_7 : decode cX8_gives 7 = .ok (.putfield 115, 3) := by decide +kernel
theorem dX8_gives_10 : decode cX8_gives 10 = .ok (.aload_n 0, 1) := by decide +kernel
theorem dX8_gives_11 : decode cX8_gives 11 = .ok (.iload_n 1, 1) := by decide +kernel
theorem dX8_gives_12 : decode cX8_gives 12 = .ok (.invokevirtual 108, 3) := by decide +kernel
theorem dX8_gives_15 : decode cX8_gives 15 = .ok (.return_, 1) := by decide +kernel
theorem dX8_lengthOf_0 : decode cX8_lengthOf 0 = .ok (.aload_n 0, 1) := by decide +kernel
theorem dX8_lengthOf_1 : decode cX8_lengthOf 1 = .ok (.iload_n 1, 1) := by decide +kernel
theorem dX8_lengthOf_2 : decode cX8_lengthOf 2 = .ok (.invokevirtual 79, 3) := by decide +kernel
theorem dX8_lengthOf_5 : decode cX8_lengthOf 5 = .ok (.ifCond .eq 5, 3) := by decide +kernel
theorem dX8_lengthOf_8 : decode cX8_lengthOf 8 = .ok (.iconst 0, 1) := by decide +kernel
theorem dX8_lengthOf_9 : decode cX8_lengthOf 9 = .ok (.ireturn, 1) := by decide +kernel
theorem dX8_lengthOf_10 : decode cX8_lengthOf 10 = .ok (.aload_n 0, 1) := by decide +kernel
theorem dX8_lengthOf_11 : decode cX8_lengthOf 11 = .ok (.iload_n 1, 1) := by decide +kernel
theorem dX8_lengthOf_12 : decode cX8_lengthOf 12 = .ok (.invokevirtual 118, 3) := by decide +kernel
theorem dX8_lengthOf_15 : decode cX8_lengthOf 15 = .ok (.aload_n 0, 1) := by decide +kernel
theorem dX8_lengthOf_16 : decode cX8_lengthOf 16 = .ok (.getfield 97, 3) := by decide +kernel
theorem dX8_lengthOf_19 : decode cX8_lengthOf 19 = .ok (.ireturn, 1) := by decide +kernel
theorem dX8_characterOf_0 : decode cX8_characterOf 0 = .ok (.aload_n 0, 1) := by decide +kernel
theorem dX8_characterOf_1 : decode cX8_characterOf 1 = .ok (.iload_n 1, 1) := by decide +kernel
theorem dX8_characterOf_2 : decode cX8_characterOf 2 = .ok (.invokevirtual 79, 3) := by decide +kernel
theorem dX8_characterOf_5 : decode cX8_characterOf 5 = .ok (.ifCond .eq 6, 3) := by decide +kernel
theorem dX8_characterOf_8 : decode cX8_characterOf 8 = .ok (.bipush 32, 2) := by decide +kernel
theorem dX8_characterOf_10 : decode cX8_characterOf 10 = .ok (.ireturn, 1) := by decide +kernel
theorem dX8_characterOf_11 : decode cX8_characterOf 11 = .ok (.aload_n 0, 1) := by decide +kernel
theorem dX8_characterOf_12 : decode cX8_characterOf 12 = .ok (.iload_n 1, 1) := by decide +kernel
theorem dX8_characterOf_13 : decode cX8_characterOf 13 = .ok (.invokevirtual 118, 3) := by decide +kernel
theorem dX8_characterOf_16 : decode cX8_characterOf 16 = .ok (.aload_n 0, 1) := by decide +kernel
theorem dX8_characterOf_17 : decode cX8_characterOf 17 = .ok (.iload_n 2, 1) := by decide +kernel
theorem dX8_characterOf_18 : decode cX8_characterOf 18 = .ok (.iconst 0, 1) := by decide +kernel
theorem dX8_characterOf_19 : decode cX8_characterOf 19 = .ok (.aload_n 0, 1) := by decide +kernel
theorem dX8_characterOf_20 : decode cX8_characterOf 20 = .ok (.getfield 97, 3) := by decide +kernel
theorem dX8_characterOf_23 : decode cX8_characterOf 23 = .ok (.iconst 1, 1) := by decide +kernel
theorem dX8_characterOf_24 : decode cX8_characterOf 24 = .ok (.isub, 1) := by decide +kernel
theorem dX8_characterOf_25 : decode cX8_characterOf 25 = .ok (.invokestatic 67, 3) := by decide +kernel
theorem dX8_characterOf_28 : decode cX8_characterOf 28 = .ok (.ifCond .eq 7, 3) := by decide +kernel
theorem dX8_characterOf_31 : decode cX8_characterOf 31 = .ok (.iconst 0, 1) := by decide +kernel
theorem dX8_characterOf_32 : decode cX8_characterOf 32 = .ok (.goto 4, 3) := by decide +kernel
theorem dX8_characterOf_35 : decode cX8_characterOf 35 = .ok (.iconst 2, 1) := by decide +kernel
theorem dX8_characterOf_36 : decode cX8_characterOf 36 = .ok (.putfield 61, 3) := by decide +kernel
theorem dX8_characterOf_39 : decode cX8_characterOf 39 = .ok (.aload_n 0, 1) := by decide +kernel
theorem dX8_characterOf_40 : decode cX8_characterOf 40 = .ok (.getfield 61, 3) := by decide +kernel
theorem dX8_characterOf_43 : decode cX8_characterOf 43 = .ok (.ifCond .ne 12, 3) := by decide +kernel
theorem dX8_characterOf_46 : decode cX8_characterOf 46 = .ok (.aload_n 0, 1) := by decide +kernel
theorem dX8_characterOf_47 : decode cX8_characterOf 47 = .ok (.getfield 26, 3) := by decide +kernel
theorem dX8_characterOf_50 : decode cX8_characterOf 50 = .ok (.iload_n 2, 1) := by decide +kernel
theorem dX8_characterOf_51 : decode cX8_characterOf 51 = .ok (.caload, 1) := by decide +kernel
theorem dX8_characterOf_52 : decode cX8_characterOf 52 = .ok (.goto 5, 3) := by decide +kernel
theorem dX8_characterOf_55 : decode cX8_characterOf 55 = .ok (.bipush 32, 2) := by decide +kernel
theorem dX8_characterOf_57 : decode cX8_characterOf 57 = .ok (.ireturn, 1) := by decide +kernel
theorem dX8_stopsOf_0 : decode cX8_stopsOf 0 = .ok (.aload_n 0, 1) := by decide +kernel
theorem dX8_stopsOf_1 : decode cX8_stopsOf 1 = .ok (.iload_n 1, 1) := by decide +kernel
theorem dX8_stopsOf_2 : decode cX8_stopsOf 2 = .ok (.invokevirtual 79, 3) := by decide +kernel
theorem dX8_stopsOf_5 : decode cX8_stopsOf 5 = .ok (.ifCond .eq 5, 3) := by decide +kernel
theorem dX8_stopsOf_8 : decode cX8_stopsOf 8 = .ok (.iconst 0, 1) := by decide +kernel
theorem dX8_stopsOf_9 : decode cX8_stopsOf 9 = .ok (.ireturn, 1) := by decide +kernel
theorem dX8_stopsOf_10 : decode cX8_stopsOf 10 = .ok (.aload_n 0, 1) := by decide +kernel
theorem dX8_stopsOf_11 : decode cX8_stopsOf 11 = .ok (.iload_n 1, 1) := by decide +kernel
theorem dX8_stopsOf_12 : decode cX8_stopsOf 12 = .ok (.invokevirtual 118, 3) := by decide +kernel
theorem dX8_stopsOf_15 : decode cX8_stopsOf 15 = .ok (.aload_n 0, 1) := by decide +kernel
theorem dX8_stopsOf_16 : decode cX8_stopsOf 16 = .ok (.getfield 115, 3) := by decide +kernel
theorem dX8_stopsOf_19 : decode cX8_stopsOf 19 = .ok (.ireturn, 1) := by decide +kernel
theorem dX8_stopOf_0 : decode cX8_stopOf 0 = .ok (.aload_n 0, 1) := by decide +kernel
theorem dX8_stopOf_1 : decode cX8_stopOf 1 = .ok (.iload_n 1, 1) := by decide +kernel
theorem dX8_stopOf_2 : decode cX8_stopOf 2 = .ok (.invokevirtual 79, 3) := by decide +kernel
theorem dX8_stopOf_5 : decode cX8_stopOf 5 = .ok (.ifCond .eq 5, 3) := by decide +kernel
theorem dX8_stopOf_8 : decode cX8_stopOf 8 = .ok (.iconst 0, 1) := by decide +kernel
theorem dX8_stopOf_9 : decode cX8_stopOf 9 = .ok (.ireturn, 1) := by decide +kernel
theorem dX8_stopOf_10 : decode cX8_stopOf 10 = .ok (.aload_n 0, 1) := by decide +kernel
theorem dX8_stopOf_11 : decode cX8_stopOf 11 = .ok (.iload_n 1, 1) := by decide +kernel
theorem dX8_stopOf_12 : decode cX8_stopOf 12 = .ok (.invokevirtual 118, 3) := by decide +kernel
theorem dX8_stopOf_15 : decode cX8_stopOf 15 = .ok (.iload_n 2, 1) := by decide +kernel
theorem dX8_stopOf_16 : decode cX8_stopOf 16 = .ok (.iconst 0, 1) := by decide +kernel
theorem dX8_stopOf_17 : decode cX8_stopOf 17 = .ok (.aload_n 0, 1) := by decide +kernel
theorem dX8_stopOf_18 : decode cX8_stopOf 18 = .ok (.getfield 115, 3) := by decide +kernel
theorem dX8_stopOf_21 : decode cX8_stopOf 21 = .ok (.iconst 1, 1) := by decide +kernel
theorem dX8_stopOf_22 : decode cX8_stopOf 22 = .ok (.isub, 1) := by decide +kernel
theorem dX8_stopOf_23 : decode cX8_stopOf 23 = .ok (.invokestatic 67, 3) := by decide +kernel
theorem dX8_stopOf_26 : decode cX8_stopOf 26 = .ok (.ifCond .ne 9, 3) := by decide +kernel
theorem dX8_stopOf_29 : decode cX8_stopOf 29 = .ok (.aload_n 0, 1) := by decide +kernel
theorem dX8_stopOf_30 : decode cX8_stopOf 30 = .ok (.iconst 2, 1) := by decide +kernel
theorem dX8_stopOf_31 : decode cX8_stopOf 31 = .ok (.invokevirtual 75, 3) := by decide +kernel
theorem dX8_stopOf_34 : decode cX8_stopOf 34 = .ok (.ireturn, 1) := by decide +kernel
theorem dX8_stopOf_35 : decode cX8_stopOf 35 = .ok (.aload_n 0, 1) := by decide +kernel
theorem dX8_stopOf_36 : decode cX8_stopOf 36 = .ok (.getfield 48, 3) := by decide +kernel
theorem dX8_stopOf_39 : decode cX8_stopOf 39 = .ok (.iload_n 2, 1) := by decide +kernel
theorem dX8_stopOf_40 : decode cX8_stopOf 40 = .ok (.iaload, 1) := by decide +kernel
theorem dX8_stopOf_41 : decode cX8_stopOf 41 = .ok (.ireturn, 1) := by decide +kernel
theorem dX8_comesTo_0 : decode cX8_comesTo 0 = .ok (.aload_n 0, 1) := by decide +kernel
theorem dX8_comesTo_1 : decode cX8_comesTo 1 = .ok (.iload_n 1, 1) := by decide +kernel
theorem dX8_comesTo_2 : decode cX8_comesTo 2 = .ok (.invokevirtual 79, 3) := by decide +kernel
theorem dX8_comesTo_5 : decode cX8_comesTo 5 = .ok (.ifCond .ne 24, 3) := by decide +kernel
theorem dX8_comesTo_8 : decode cX8_comesTo 8 = .ok (.aload_n 0, 1) := by decide +kernel
theorem dX8_comesTo_9 : decode cX8_comesTo 9 = .ok (.iload_n 2, 1) := by decide +kernel
theorem dX8_comesTo_10 : decode cX8_comesTo 10 = .ok (.invokevirtual 79, 3) := by decide +kernel
theorem dX8_comesTo_13 : decode cX8_comesTo 13 = .ok (.ifCond .ne 16, 3) := by decide +kernel
theorem dX8_comesTo_16 : decode cX8_comesTo 16 = .ok (.aload_n 0, 1) := by decide +kernel
theorem dX8_comesTo_17 : decode cX8_comesTo 17 = .ok (.iload_n 1, 1) := by decide +kernel
theorem dX8_comesTo_18 : decode cX8_comesTo 18 = .ok (.iload_n 2, 1) := by decide +kernel
theorem dX8_comesTo_19 : decode cX8_comesTo 19 = .ok (.invokevirtual 93, 3) := by decide +kernel
theorem dX8_comesTo_22 : decode cX8_comesTo 22 = .ok (.ifCond .eq 7, 3) := by decide +kernel
theorem dX8_comesTo_25 : decode cX8_comesTo 25 = .ok (.iconst 1, 1) := by decide +kernel
theorem dX8_comesTo_26 : decode cX8_comesTo 26 = .ok (.goto 4, 3) := by decide +kernel
theorem dX8_comesTo_29 : decode cX8_comesTo 29 = .ok (.iconst 0, 1) := by decide +kernel
theorem dX8_comesTo_30 : decode cX8_comesTo 30 = .ok (.ireturn, 1) := by decide +kernel
theorem dX8_deep_0 : decode cX8_deep 0 = .ok (.iconst 0, 1) := by decide +kernel
theorem dX8_deep_1 : decode cX8_deep 1 = .ok (.istore_n 2, 1) := by decide +kernel
theorem dX8_deep_2 : decode cX8_deep 2 = .ok (.bipush 12, 2) := by decide +kernel
theorem dX8_deep_4 : decode cX8_deep 4 = .ok (.iload_n 1, 1) := by decide +kernel
theorem dX8_deep_5 : decode cX8_deep 5 = .ok (.imul, 1) := by decide +kernel
theorem dX8_deep_6 : decode cX8_deep 6 = .ok (.istore_n 3, 1) := by decide +kernel
theorem dX8_deep_7 : decode cX8_deep 7 = .ok (.iload_n 3, 1) := by decide +kernel
theorem dX8_deep_8 : decode cX8_deep 8 = .ok (.bipush 12, 2) := by decide +kernel
theorem dX8_deep_10 : decode cX8_deep 10 = .ok (.iload_n 1, 1) := by decide +kernel
theorem dX8_deep_11 : decode cX8_deep 11 = .ok (.imul, 1) := by decide +kernel
theorem dX8_deep_12 : decode cX8_deep 12 = .ok (.aload_n 0, 1) := by decide +kernel
theorem dX8_deep_13 : decode cX8_deep 13 = .ok (.getfield 33, 3) := by decide +kernel
theorem dX8_deep_16 : decode cX8_deep 16 = .ok (.iload_n 1, 1) := by decide +kernel
theorem dX8_deep_17 : decode cX8_deep 17 = .ok (.iaload, 1) := by decide +kernel
theorem dX8_deep_18 : decode cX8_deep 18 = .ok (.iadd, 1) := by decide +kernel
theorem dX8_deep_19 : decode cX8_deep 19 = .ok (.if_icmp .ge 91, 3) := by decide +kernel
theorem dX8_deep_22 : decode cX8_deep 22 = .ok (.aload_n 0, 1) := by decide +kernel
theorem dX8_deep_23 : decode cX8_deep 23 = .ok (.getfield 17, 3) := by decide +kernel
theorem dX8_deep_26 : decode cX8_deep 26 = .ok (.iload_n 3, 1) := by decide +kernel
theorem dX8_deep_27 : decode cX8_deep 27 = .ok (.caload, 1) := by decide +kernel
theorem dX8_deep_28 : decode cX8_deep 28 = .ok (.bipush 115, 2) := by decide +kernel
theorem dX8_deep_30 : decode cX8_deep 30 = .ok (.if_icmp .eq 17, 3) := by decide +kernel
theorem dX8_deep_33 : decode cX8_deep 33 = .ok (.aload_n 0, 1) := by decide +kernel
theorem dX8_deep_34 : decode cX8_deep 34 = .ok (.getfield 17, 3) := by decide +kernel
theorem dX8_deep_37 : decode cX8_deep 37 = .ok (.iload_n 3, 1) := by decide +kernel
theorem dX8_deep_38 : decode cX8_deep 38 = .ok (.caload, 1) := by decide +kernel
theorem dX8_deep_39 : decode cX8_deep 39 = .ok (.bipush 111, 2) := by decide +kernel
theorem dX8_deep_41 : decode cX8_deep 41 = .ok (.if_icmp .eq 6, 3) := by decide +kernel
theorem dX8_deep_44 : decode cX8_deep 44 = .ok (.goto 60, 3) := by decide +kernel
theorem dX8_deep_47 : decode cX8_deep 47 = .ok (.aload_n 0, 1) := by decide +kernel
theorem dX8_deep_48 : decode cX8_deep 48 = .ok (.aload_n 0, 1) := by decide +kernel
theorem dX8_deep_49 : decode cX8_deep 49 = .ok (.getfield 36, 3) := by decide +kernel
theorem dX8_deep_52 : decode cX8_deep 52 = .ok (.iload_n 3, 1) := by decide +kernel
theorem dX8_deep_53 : decode cX8_deep 53 = .ok (.iaload, 1) := by decide +kernel
theorem dX8_deep_54 : decode cX8_deep 54 = .ok (.invokevirtual 121, 3) := by decide +kernel
theorem dX8_deep_57 : decode cX8_deep 57 = .ok (.istore 4, 2) := by decide +kernel
theorem dX8_deep_59 : decode cX8_deep 59 = .ok (.aload_n 0, 1) := by decide +kernel
theorem dX8_deep_60 : decode cX8_deep 60 = .ok (.getfield 17, 3) := by decide +kernel
theorem dX8_deep_63 : decode cX8_deep 63 = .ok (.iload_n 3, 1) := by decide +kernel
theorem dX8_deep_64 : decode cX8_deep 64 = .ok (.caload, 1) := by decide +kernel
theorem dX8_deep_65 : decode cX8_deep 65 = .ok (.bipush 111, 2) := by decide +kernel
theorem dX8_deep_67 : decode cX8_deep 67 = .ok (.if_icmp .ne 16, 3) := by decide +kernel
theorem dX8_deep_70 : decode cX8_deep 70 = .ok (.aload_n 0, 1) := by decide +kernel
theorem dX8_deep_71 : decode cX8_deep 71 = .ok (.aload_n 0, 1) := by decide +kernel
theorem dX8_deep_72 : decode cX8_deep 72 = .ok (.getfield 39, 3) := by decide +kernel
theorem dX8_deep_75 : decode cX8_deep 75 = .ok (.iload_n 3, 1) := by decide +kernel
theorem dX8_deep_76 : decode cX8_deep 76 = .ok (.iaload, 1) := by decide +kernel
theorem dX8_deep_77 : decode cX8_deep 77 = .ok (.invokevirtual 121, 3) := by decide +kernel
theorem dX8_deep_80 : decode cX8_deep 80 = .ok (.goto 4, 3) := by decide +kernel
theorem dX8_deep_83 : decode cX8_deep 83 = .ok (.iconst 0, 1) := by decide +kernel
theorem dX8_deep_84 : decode cX8_deep 84 = .ok (.istore 5, 2) := by decide +kernel
theorem dX8_deep_86 : decode cX8_deep 86 = .ok (.iload 4, 2) := by decide +kernel
theorem dX8_deep_88 : decode cX8_deep 88 = .ok (.iload_n 2, 1) := by decide +kernel
theorem dX8_deep_89 : decode cX8_deep 89 = .ok (.if_icmp .le 6, 3) := by decide +kernel
theorem dX8_deep_92 : decode cX8_deep 92 = .ok (.iload 4, 2) := by decide +kernel
theorem dX8_deep_94 : decode cX8_deep 94 = .ok (.istore_n 2, 1) := by decide +kernel
theorem dX8_deep_95 : decode cX8_deep 95 = .ok (.iload 5, 2) := by decide +kernel
theorem dX8_deep_97 : decode cX8_deep 97 = .ok (.iload_n 2, 1) := by decide +kernel
theorem dX8_deep_98 : decode cX8_deep 98 = .ok (.if_icmp .le 6, 3) := by decide +kernel
theorem dX8_deep_101 : decode cX8_deep 101 = .ok (.iload 5, 2) := by decide +kernel
theorem dX8_deep_103 : decode cX8_deep 103 = .ok (.istore_n 2, 1) := by decide +kernel
theorem dX8_deep_104 : decode cX8_deep 104 = .ok (.iinc 3 1, 3) := by decide +kernel
theorem dX8_deep_107 : decode cX8_deep 107 = .ok (.goto (-100), 3) := by decide +kernel
theorem dX8_deep_110 : decode cX8_deep 110 = .ok (.iload_n 2, 1) := by decide +kernel
theorem dX8_deep_111 : decode cX8_deep 111 = .ok (.iconst 1, 1) := by decide +kernel
theorem dX8_deep_112 : decode cX8_deep 112 = .ok (.iadd, 1) := by decide +kernel
theorem dX8_deep_113 : decode cX8_deep 113 = .ok (.ireturn, 1) := by decide +kernel
theorem dX8_depth_0 : decode cX8_depth 0 = .ok (.aload_n 0, 1) := by decide +kernel
theorem dX8_depth_1 : decode cX8_depth 1 = .ok (.iload_n 1, 1) := by decide +kernel
theorem dX8_depth_2 : decode cX8_depth 2 = .ok (.invokevirtual 79, 3) := by decide +kernel
theorem dX8_depth_5 : decode cX8_depth 5 = .ok (.ifCond .eq 7, 3) := by decide +kernel
theorem dX8_depth_8 : decode cX8_depth 8 = .ok (.iconst 0, 1) := by decide +kernel
theorem dX8_depth_9 : decode cX8_depth 9 = .ok (.goto 8, 3) := by decide +kernel
theorem dX8_depth_12 : decode cX8_depth 12 = .ok (.aload_n 0, 1) := by decide +kernel
theorem dX8_depth_13 : decode cX8_depth 13 = .ok (.iload_n 1, 1) := by decide +kernel
theorem dX8_depth_14 : decode cX8_depth 14 = .ok (.invokevirtual 121, 3) := by decide +kernel
theorem dX8_depth_17 : decode cX8_depth 17 = .ok (.ireturn, 1) := by decide +kernel
theorem dX8_endsAt_0 : decode cX8_endsAt 0 = .ok (.aload_n 0, 1) := by decide +kernel
theorem dX8_endsAt_1 : decode cX8_endsAt 1 = .ok (.getfield 29, 3) := by decide +kernel
theorem dX8_endsAt_4 : decode cX8_endsAt 4 = .ok (.iload_n 2, 1) := by decide +kernel
theorem dX8_endsAt_5 : decode cX8_endsAt 5 = .ok (.iaload, 1) := by decide +kernel
theorem dX8_endsAt_6 : decode cX8_endsAt 6 = .ok (.iload_n 3, 1) := by decide +kernel
theorem dX8_endsAt_7 : decode cX8_endsAt 7 = .ok (.if_icmp .le 5, 3) := by decide +kernel
theorem dX8_endsAt_10 : decode cX8_endsAt 10 = .ok (.iconst 0, 1) := by decide +kernel
theorem dX8_endsAt_11 : decode cX8_endsAt 11 = .ok (.ireturn, 1) := by decide +kernel
theorem dX8_endsAt_12 : decode cX8_endsAt 12 = .ok (.iconst 0, 1) := by decide +kernel
theorem dX8_endsAt_13 : decode cX8_endsAt 13 = .ok (.istore 4, 2) := by decide +kernel
theorem dX8_endsAt_15 : decode cX8_endsAt 15 = .ok (.iload 4, 2) := by decide +kernel
theorem dX8_endsAt_17 : decode cX8_endsAt 17 = .ok (.aload_n 0, 1) := by decide +kernel
theorem dX8_endsAt_18 : decode cX8_endsAt 18 = .ok (.getfield 29, 3) := by decide +kernel
theorem dX8_endsAt_21 : decode cX8_endsAt 21 = .ok (.iload_n 2, 1) := by decide +kernel
theorem dX8_endsAt_22 : decode cX8_endsAt 22 = .ok (.iaload, 1) := by decide +kernel
theorem dX8_endsAt_23 : decode cX8_endsAt 23 = .ok (.if_icmp .ge 47, 3) := by decide +kernel
theorem dX8_endsAt_26 : decode cX8_endsAt 26 = .ok (.aload_n 0, 1) := by decide +kernel
theorem dX8_endsAt_27 : decode cX8_endsAt 27 = .ok (.getfield 13, 3) := by decide +kernel
theorem dX8_endsAt_30 : decode cX8_endsAt 30 = .ok (.bipush 6, 2) := by decide +kernel
theorem dX8_endsAt_32 : decode cX8_endsAt 32 = .ok (.iload_n 2, 1) := by decide +kernel
theorem dX8_endsAt_33 : decode cX8_endsAt 33 = .ok (.imul, 1) := by decide +kernel
theorem dX8_endsAt_34 : decode cX8_endsAt 34 = .ok (.iload 4, 2) := by decide +kernel
theorem dX8_endsAt_36 : decode cX8_endsAt 36 = .ok (.iadd, 1) := by decide +kernel
theorem dX8_endsAt_37 : decode cX8_endsAt 37 = .ok (.caload, 1) := by decide +kernel
theorem dX8_endsAt_38 : decode cX8_endsAt 38 = .ok (.aload_n 0, 1) := by decide +kernel
theorem dX8_endsAt_39 : decode cX8_endsAt 39 = .ok (.getfield 13, 3) := by decide +kernel
theorem dX8_endsAt_42 : decode cX8_endsAt 42 = .ok (.bipush 6, 2) := by decide +kernel
theorem dX8_endsAt_44 : decode cX8_endsAt 44 = .ok (.iload_n 1, 1) := by decide +kernel
theorem dX8_endsAt_45 : decode cX8_endsAt 45 = .ok (.imul, 1) := by decide +kernel
theorem dX8_endsAt_46 : decode cX8_endsAt 46 = .ok (.iload_n 3, 1) := by decide +kernel
theorem dX8_endsAt_47 : decode cX8_endsAt 47 = .ok (.iadd, 1) := by decide +kernel
theorem dX8_endsAt_48 : decode cX8_endsAt 48 = .ok (.aload_n 0, 1) := by decide +kernel
theorem dX8_endsAt_49 : decode cX8_endsAt 49 = .ok (.getfield 29, 3) := by decide +kernel
theorem dX8_endsAt_52 : decode cX8_endsAt 52 = .ok (.iload_n 2, 1) := by decide +kernel
theorem dX8_endsAt_53 : decode cX8_endsAt 53 = .ok (.iaload, 1) := by decide +kernel
theorem dX8_endsAt_54 : decode cX8_endsAt 54 = .ok (.isub, 1) := by decide +kernel
theorem dX8_endsAt_55 : decode cX8_endsAt 55 = .ok (.iload 4, 2) := by decide +kernel
theorem dX8_endsAt_57 : decode cX8_endsAt 57 = .ok (.iadd, 1) := by decide +kernel
theorem dX8_endsAt_58 : decode cX8_endsAt 58 = .ok (.caload, 1) := by decide +kernel
theorem dX8_endsAt_59 : decode cX8_endsAt 59 = .ok (.if_icmp .eq 5, 3) := by decide +kernel
theorem dX8_endsAt_62 : decode cX8_endsAt 62 = .ok (.iconst 0, 1) := by decide +kernel
theorem dX8_endsAt_63 : decode cX8_endsAt 63 = .ok (.ireturn, 1) := by decide +kernel
theorem dX8_endsAt_64 : decode cX8_endsAt 64 = .ok (.iinc 4 1, 3) := by decide +kernel
theorem dX8_endsAt_67 : decode cX8_endsAt 67 = .ok (.goto (-52), 3) := by decide +kernel
theorem dX8_endsAt_70 : decode cX8_endsAt 70 = .ok (.iconst 1, 1) := by decide +kernel
theorem dX8_endsAt_71 : decode cX8_endsAt 71 = .ok (.ireturn, 1) := by decide +kernel
theorem dX8_isUsed_0 : decode cX8_isUsed 0 = .ok (.aload_n 0, 1) := by decide +kernel
theorem dX8_isUsed_1 : decode cX8_isUsed 1 = .ok (.getfield 55, 3) := by decide +kernel
theorem dX8_isUsed_4 : decode cX8_isUsed 4 = .ok (.iload_n 1, 1) := by decide +kernel
theorem dX8_isUsed_5 : decode cX8_isUsed 5 = .ok (.baload, 1) := by decide +kernel
theorem dX8_isUsed_6 : decode cX8_isUsed 6 = .ok (.ifCond .ne 16, 3) := by decide +kernel
theorem dX8_isUsed_9 : decode cX8_isUsed 9 = .ok (.aload_n 0, 1) := by decide +kernel
theorem dX8_isUsed_10 : decode cX8_isUsed 10 = .ok (.getfield 29, 3) := by decide +kernel
theorem dX8_isUsed_13 : decode cX8_isUsed 13 = .ok (.iload_n 1, 1) := by decide +kernel
theorem dX8_isUsed_14 : decode cX8_isUsed 14 = .ok (.iaload, 1) := by decide +kernel
theorem dX8_isUsed_15 : decode cX8_isUsed 15 = .ok (.ifCond .le 7, 3) := by decide +kernel
theorem dX8_isUsed_18 : decode cX8_isUsed 18 = .ok (.iconst 1, 1) := by decide +kernel
theorem dX8_isUsed_19 : decode cX8_isUsed 19 = .ok (.goto 4, 3) := by decide +kernel
theorem dX8_isUsed_22 : decode cX8_isUsed 22 = .ok (.iconst 0, 1) := by decide +kernel
theorem dX8_isUsed_23 : decode cX8_isUsed 23 = .ok (.ireturn, 1) := by decide +kernel
theorem dX8_shadows_0 : decode cX8_shadows 0 = .ok (.aload_n 0, 1) := by decide +kernel
theorem dX8_shadows_1 : decode cX8_shadows 1 = .ok (.iload_n 1, 1) := by decide +kernel
theorem dX8_shadows_2 : decode cX8_shadows 2 = .ok (.invokevirtual 124, 3) := by decide +kernel
theorem dX8_shadows_5 : decode cX8_shadows 5 = .ok (.ifCond .eq 11, 3) := by decide +kernel
theorem dX8_shadows_8 : decode cX8_shadows 8 = .ok (.aload_n 0, 1) := by decide +kernel
theorem dX8_shadows_9 : decode cX8_shadows 9 = .ok (.iload_n 2, 1) := by decide +kernel
theorem dX8_shadows_10 : decode cX8_shadows 10 = .ok (.invokevirtual 124, 3) := by decide +kernel
theorem dX8_shadows_13 : decode cX8_shadows 13 = .ok (.ifCond .ne 5, 3) := by decide +kernel
theorem dX8_shadows_16 : decode cX8_shadows 16 = .ok (.iconst 0, 1) := by decide +kernel
theorem dX8_shadows_17 : decode cX8_shadows 17 = .ok (.ireturn, 1) := by decide +kernel
theorem dX8_shadows_18 : decode cX8_shadows 18 = .ok (.iload_n 2, 1) := by decide +kernel
theorem dX8_shadows_19 : decode cX8_shadows 19 = .ok (.iload_n 1, 1) := by decide +kernel
theorem dX8_shadows_20 : decode cX8_shadows 20 = .ok (.if_icmp .ge 35, 3) := by decide +kernel
theorem dX8_shadows_23 : decode cX8_shadows 23 = .ok (.aload_n 0, 1) := by decide +kernel
theorem dX8_shadows_24 : decode cX8_shadows 24 = .ok (.getfield 29, 3) := by decide +kernel
theorem dX8_shadows_27 : decode cX8_shadows 27 = .ok (.iload_n 2, 1) := by decide +kernel
theorem dX8_shadows_28 : decode cX8_shadows 28 = .ok (.iaload, 1) := by decide +kernel
theorem dX8_shadows_29 : decode cX8_shadows 29 = .ok (.aload_n 0, 1) := by decide +kernel
theorem dX8_shadows_30 : decode cX8_shadows 30 = .ok (.getfield 29, 3) := by decide +kernel
theorem dX8_shadows_33 : decode cX8_shadows 33 = .ok (.iload_n 1, 1) := by decide +kernel
theorem dX8_shadows_34 : decode cX8_shadows 34 = .ok (.iaload, 1) := by decide +kernel
theorem dX8_shadows_35 : decode cX8_shadows 35 = .ok (.if_icmp .ne 20, 3) := by decide +kernel
theorem dX8_shadows_38 : decode cX8_shadows 38 = .ok (.aload_n 0, 1) := by decide +kernel
theorem dX8_shadows_39 : decode cX8_shadows 39 = .ok (.iload_n 1, 1) := by decide +kernel
theorem dX8_shadows_40 : decode cX8_shadows 40 = .ok (.iload_n 2, 1) := by decide +kernel
theorem dX8_shadows_41 : decode cX8_shadows 41 = .ok (.aload_n 0, 1) := by decide +kernel
theorem dX8_shadows_42 : decode cX8_shadows 42 = .ok (.getfield 29, 3) := by decide +kernel
theorem dX8_shadows_45 : decode cX8_shadows 45 = .ok (.iload_n 1, 1) := by decide +kernel
theorem dX8_shadows_46 : decode cX8_shadows 46 = .ok (.iaload, 1) := by decide +kernel
theorem dX8_shadows_47 : decode cX8_shadows 47 = .ok (.invokevirtual 127, 3) := by decide +kernel
theorem dX8_shadows_50 : decode cX8_shadows 50 = .ok (.ifCond .eq 5, 3) := by decide +kernel
theorem dX8_shadows_53 : decode cX8_shadows 53 = .ok (.iconst 1, 1) := by decide +kernel
theorem dX8_shadows_54 : decode cX8_shadows 54 = .ok (.ireturn, 1) := by decide +kernel
theorem dX8_shadows_55 : decode cX8_shadows 55 = .ok (.iconst 1, 1) := by decide +kernel
theorem dX8_shadows_56 : decode cX8_shadows 56 = .ok (.istore_n 3, 1) := by decide +kernel
theorem dX8_shadows_57 : decode cX8_shadows 57 = .ok (.iload_n 3, 1) := by decide +kernel
theorem dX8_shadows_58 : decode cX8_shadows 58 = .ok (.aload_n 0, 1) := by decide +kernel
theorem dX8_shadows_59 : decode cX8_shadows 59 = .ok (.getfield 29, 3) := by decide +kernel
theorem dX8_shadows_62 : decode cX8_shadows 62 = .ok (.iload_n 1, 1) := by decide +kernel
theorem dX8_shadows_63 : decode cX8_shadows 63 = .ok (.iaload, 1) := by decide +kernel
theorem dX8_shadows_64 : decode cX8_shadows 64 = .ok (.if_icmp .ge 21, 3) := by decide +kernel
theorem dX8_shadows_67 : decode cX8_shadows 67 = .ok (.aload_n 0, 1) := by decide +kernel
theorem dX8_shadows_68 : decode cX8_shadows 68 = .ok (.iload_n 1, 1) := by decide +kernel
theorem dX8_shadows_69 : decode cX8_shadows 69 = .ok (.iload_n 2, 1) := by decide +kernel
theorem dX8_shadows_70 : decode cX8_shadows 70 = .ok (.iload_n 3, 1) := by decide +kernel
theorem dX8_shadows_71 : decode cX8_shadows 71 = .ok (.invokevirtual 127, 3) := by decide +kernel
theorem dX8_shadows_74 : decode cX8_shadows 74 = .ok (.ifCond .eq 5, 3) := by decide +kernel
theorem dX8_shadows_77 : decode cX8_shadows 77 = .ok (.iconst 1, 1) := by decide +kernel
theorem dX8_shadows_78 : decode cX8_shadows 78 = .ok (.ireturn, 1) := by decide +kernel
theorem dX8_shadows_79 : decode cX8_shadows 79 = .ok (.iinc 3 1, 3) := by decide +kernel
theorem dX8_shadows_82 : decode cX8_shadows 82 = .ok (.goto (-25), 3) := by decide +kernel
theorem dX8_shadows_85 : decode cX8_shadows 85 = .ok (.iconst 0, 1) := by decide +kernel
theorem dX8_shadows_86 : decode cX8_shadows 86 = .ok (.ireturn, 1) := by decide +kernel
theorem dX8_isShadowedBy_0 : decode cX8_isShadowedBy 0 = .ok (.aload_n 0, 1) := by decide +kernel
theorem dX8_isShadowedBy_1 : decode cX8_isShadowedBy 1 = .ok (.iload_n 1, 1) := by decide +kernel
theorem dX8_isShadowedBy_2 : decode cX8_isShadowedBy 2 = .ok (.invokevirtual 79, 3) := by decide +kernel
theorem dX8_isShadowedBy_5 : decode cX8_isShadowedBy 5 = .ok (.ifCond .ne 24, 3) := by decide +kernel
theorem dX8_isShadowedBy_8 : decode cX8_isShadowedBy 8 = .ok (.aload_n 0, 1) := by decide +kernel
theorem dX8_isShadowedBy_9 : decode cX8_isShadowedBy 9 = .ok (.iload_n 2, 1) := by decide +kernel
theorem dX8_isShadowedBy_10 : decode cX8_isShadowedBy 10 = .ok (.invokevirtual 79, 3) := by decide +kernel
theorem dX8_isShadowedBy_13 : decode cX8_isShadowedBy 13 = .ok (.ifCond .ne 16, 3) := by decide +kernel
theorem dX8_isShadowedBy_16 : decode cX8_isShadowedBy 16 = .ok (.aload_n 0, 1) := by decide +kernel
theorem dX8_isShadowedBy_17 : decode cX8_isShadowedBy 17 = .ok (.iload_n 1, 1) := by decide +kernel
theorem dX8_isShadowedBy_18 : decode cX8_isShadowedBy 18 = .ok (.iload_n 2, 1) := by decide +kernel
theorem dX8_isShadowedBy_19 : decode cX8_isShadowedBy 19 = .ok (.invokevirtual 130, 3) := by decide +kernel
theorem dX8_isShadowedBy_22 : decode cX8_isShadowedBy 22 = .ok (.ifCond .eq 7, 3) := by decide +kernel
theorem dX8_isShadowedBy_25 : decode cX8_isShadowedBy 25 = .ok (.iconst 1, 1) := by decide +kernel
theorem dX8_isShadowedBy_26 : decode cX8_isShadowedBy 26 = .ok (.goto 4, 3) := by decide +kernel
theorem dX8_isShadowedBy_29 : decode cX8_isShadowedBy 29 = .ok (.iconst 0, 1) := by decide +kernel
theorem dX8_isShadowedBy_30 : decode cX8_isShadowedBy 30 = .ok (.ireturn, 1) := by decide +kernel
theorem dX8_firstShadow_0 : decode cX8_firstShadow 0 = .ok (.iconst 0, 1) := by decide +kernel
theorem dX8_firstShadow_1 : decode cX8_firstShadow 1 = .ok (.istore_n 2, 1) := by decide +kernel
theorem dX8_firstShadow_2 : decode cX8_firstShadow 2 = .ok (.iload_n 2, 1) := by decide +kernel
theorem dX8_firstShadow_3 : decode cX8_firstShadow 3 = .ok (.aload_n 0, 1) := by decide +kernel
theorem dX8_firstShadow_4 : decode cX8_firstShadow 4 = .ok (.getfield 64, 3) := by decide +kernel
theorem dX8_firstShadow_7 : decode cX8_firstShadow 7 = .ok (.if_icmp .ge 20, 3) := by decide +kernel
theorem dX8_firstShadow_10 : decode cX8_firstShadow 10 = .ok (.aload_n 0, 1) := by decide +kernel
theorem dX8_firstShadow_11 : decode cX8_firstShadow 11 = .ok (.iload_n 1, 1) := by decide +kernel
theorem dX8_firstShadow_12 : decode cX8_firstShadow 12 = .ok (.iload_n 2, 1) := by decide +kernel
theorem dX8_firstShadow_13 : decode cX8_firstShadow 13 = .ok (.invokevirtual 130, 3) := by decide +kernel
theorem dX8_firstShadow_16 : decode cX8_firstShadow 16 = .ok (.ifCond .eq 5, 3) := by decide +kernel
theorem dX8_firstShadow_19 : decode cX8_firstShadow 19 = .ok (.iload_n 2, 1) := by decide +kernel
theorem dX8_firstShadow_20 : decode cX8_firstShadow 20 = .ok (.ireturn, 1) := by decide +kernel
theorem dX8_firstShadow_21 : decode cX8_firstShadow 21 = .ok (.iinc 2 1, 3) := by decide +kernel
theorem dX8_firstShadow_24 : decode cX8_firstShadow 24 = .ok (.goto (-22), 3) := by decide +kernel
theorem dX8_firstShadow_27 : decode cX8_firstShadow 27 = .ok (.iconst (-1), 1) := by decide +kernel
theorem dX8_firstShadow_28 : decode cX8_firstShadow 28 = .ok (.ireturn, 1) := by decide +kernel
theorem dX8_shadower_0 : decode cX8_shadower 0 = .ok (.aload_n 0, 1) := by decide +kernel
theorem dX8_shadower_1 : decode cX8_shadower 1 = .ok (.iload_n 1, 1) := by decide +kernel
theorem dX8_shadower_2 : decode cX8_shadower 2 = .ok (.invokevirtual 79, 3) := by decide +kernel
theorem dX8_shadower_5 : decode cX8_shadower 5 = .ok (.ifCond .eq 5, 3) := by decide +kernel
theorem dX8_shadower_8 : decode cX8_shadower 8 = .ok (.iconst 0, 1) := by decide +kernel
theorem dX8_shadower_9 : decode cX8_shadower 9 = .ok (.ireturn, 1) := by decide +kernel
theorem dX8_shadower_10 : decode cX8_shadower 10 = .ok (.aload_n 0, 1) := by decide +kernel
theorem dX8_shadower_11 : decode cX8_shadower 11 = .ok (.iload_n 1, 1) := by decide +kernel
theorem dX8_shadower_12 : decode cX8_shadower 12 = .ok (.invokevirtual 133, 3) := by decide +kernel
theorem dX8_shadower_15 : decode cX8_shadower 15 = .ok (.istore_n 2, 1) := by decide +kernel
theorem dX8_shadower_16 : decode cX8_shadower 16 = .ok (.iload_n 2, 1) := by decide +kernel
theorem dX8_shadower_17 : decode cX8_shadower 17 = .ok (.ifCond .ge 9, 3) := by decide +kernel
theorem dX8_shadower_20 : decode cX8_shadower 20 = .ok (.aload_n 0, 1) := by decide +kernel
theorem dX8_shadower_21 : decode cX8_shadower 21 = .ok (.iconst 2, 1) := by decide +kernel
theorem dX8_shadower_22 : decode cX8_shadower 22 = .ok (.invokevirtual 75, 3) := by decide +kernel
theorem dX8_shadower_25 : decode cX8_shadower 25 = .ok (.ireturn, 1) := by decide +kernel
theorem dX8_shadower_26 : decode cX8_shadower 26 = .ok (.iload_n 2, 1) := by decide +kernel
theorem dX8_shadower_27 : decode cX8_shadower 27 = .ok (.ireturn, 1) := by decide +kernel
theorem dX8_clashes_0 : decode cX8_clashes 0 = .ok (.iconst 0, 1) := by decide +kernel
theorem dX8_clashes_1 : decode cX8_clashes 1 = .ok (.istore_n 1, 1) := by decide +kernel
theorem dX8_clashes_2 : decode cX8_clashes 2 = .ok (.iconst 0, 1) := by decide +kernel
theorem dX8_clashes_3 : decode cX8_clashes 3 = .ok (.istore_n 2, 1) := by decide +kernel
theorem dX8_clashes_4 : decode cX8_clashes 4 = .ok (.iload_n 2, 1) := by decide +kernel
theorem dX8_clashes_5 : decode cX8_clashes 5 = .ok (.aload_n 0, 1) := by decide +kernel
theorem dX8_clashes_6 : decode cX8_clashes 6 = .ok (.getfield 64, 3) := by decide +kernel
theorem dX8_clashes_9 : decode cX8_clashes 9 = .ok (.if_icmp .ge 25, 3) := by decide +kernel
theorem dX8_clashes_12 : decode cX8_clashes 12 = .ok (.iload_n 1, 1) := by decide +kernel
theorem dX8_clashes_13 : decode cX8_clashes 13 = .ok (.aload_n 0, 1) := by decide +kernel
theorem dX8_clashes_14 : decode cX8_clashes 14 = .ok (.iload_n 2, 1) := by decide +kernel
theorem dX8_clashes_15 : decode cX8_clashes 15 = .ok (.invokevirtual 133, 3) := by decide +kernel
theorem dX8_clashes_18 : decode cX8_clashes 18 = .ok (.ifCond .lt 7, 3) := by decide +kernel
theorem dX8_clashes_21 : decode cX8_clashes 21 = .ok (.iconst 1, 1) := by decide +kernel
theorem dX8_clashes_22 : decode cX8_clashes 22 = .ok (.goto 4, 3) := by decide +kernel
theorem dX8_clashes_25 : decode cX8_clashes 25 = .ok (.iconst 0, 1) := by decide +kernel
theorem dX8_clashes_26 : decode cX8_clashes 26 = .ok (.iadd, 1) := by decide +kernel
theorem dX8_clashes_27 : decode cX8_clashes 27 = .ok (.istore_n 1, 1) := by decide +kernel
theorem dX8_clashes_28 : decode cX8_clashes 28 = .ok (.iinc 2 1, 3) := by decide +kernel
theorem dX8_clashes_31 : decode cX8_clashes 31 = .ok (.goto (-27), 3) := by decide +kernel
theorem dX8_clashes_34 : decode cX8_clashes 34 = .ok (.iload_n 1, 1) := by decide +kernel
theorem dX8_clashes_35 : decode cX8_clashes 35 = .ok (.ireturn, 1) := by decide +kernel
theorem dX8_matches_0 : decode cX8_matches 0 = .ok (.aload_n 0, 1) := by decide +kernel
theorem dX8_matches_1 : decode cX8_matches 1 = .ok (.iload_n 1, 1) := by decide +kernel
theorem dX8_matches_2 : decode cX8_matches 2 = .ok (.invokevirtual 124, 3) := by decide +kernel
theorem dX8_matches_5 : decode cX8_matches 5 = .ok (.ifCond .eq 16, 3) := by decide +kernel
theorem dX8_matches_8 : decode cX8_matches 8 = .ok (.aload_n 0, 1) := by decide +kernel
theorem dX8_matches_9 : decode cX8_matches 9 = .ok (.getfield 29, 3) := by decide +kernel
theorem dX8_matches_12 : decode cX8_matches 12 = .ok (.iload_n 1, 1) := by decide +kernel
theorem dX8_matches_13 : decode cX8_matches 13 = .ok (.iaload, 1) := by decide +kernel
theorem dX8_matches_14 : decode cX8_matches 14 = .ok (.aload_n 0, 1) := by decide +kernel
theorem dX8_matches_15 : decode cX8_matches 15 = .ok (.getfield 136, 3) := by decide +kernel
theorem dX8_matches_18 : decode cX8_matches 18 = .ok (.if_icmp .le 5, 3) := by decide +kernel
theorem dX8_matches_21 : decode cX8_matches 21 = .ok (.iconst 0, 1) := by decide +kernel
theorem dX8_matches_22 : decode cX8_matches 22 = .ok (.ireturn, 1) := by decide +kernel
theorem dX8_matches_23 : decode cX8_matches 23 = .ok (.aload_n 0, 1) := by decide +kernel
theorem dX8_matches_24 : decode cX8_matches 24 = .ok (.getfield 136, 3) := by decide +kernel
theorem dX8_matches_27 : decode cX8_matches 27 = .ok (.aload_n 0, 1) := by decide +kernel
theorem dX8_matches_28 : decode cX8_matches 28 = .ok (.getfield 29, 3) := by decide +kernel
theorem dX8_matches_31 : decode cX8_matches 31 = .ok (.iload_n 1, 1) := by decide +kernel
theorem dX8_matches_32 : decode cX8_matches 32 = .ok (.iaload, 1) := by decide +kernel
theorem dX8_matches_33 : decode cX8_matches 33 = .ok (.isub, 1) := by decide +kernel
theorem dX8_matches_34 : decode cX8_matches 34 = .ok (.istore_n 2, 1) := by decide +kernel
theorem dX8_matches_35 : decode cX8_matches 35 = .ok (.iconst 0, 1) := by decide +kernel
theorem dX8_matches_36 : decode cX8_matches 36 = .ok (.istore_n 3, 1) := by decide +kernel
theorem dX8_matches_37 : decode cX8_matches 37 = .ok (.iload_n 3, 1) := by decide +kernel
theorem dX8_matches_38 : decode cX8_matches 38 = .ok (.aload_n 0, 1) := by decide +kernel
theorem dX8_matches_39 : decode cX8_matches 39 = .ok (.getfield 29, 3) := by decide +kernel
theorem dX8_matches_42 : decode cX8_matches 42 = .ok (.iload_n 1, 1) := by decide +kernel
theorem dX8_matches_43 : decode cX8_matches 43 = .ok (.iaload, 1) := by decide +kernel
theorem dX8_matches_44 : decode cX8_matches 44 = .ok (.if_icmp .ge 33, 3) := by decide +kernel
theorem dX8_matches_47 : decode cX8_matches 47 = .ok (.aload_n 0, 1) := by decide +kernel
theorem dX8_matches_48 : decode cX8_matches 48 = .ok (.getfield 20, 3) := by decide +kernel
theorem dX8_matches_51 : decode cX8_matches 51 = .ok (.iload_n 2, 1) := by decide +kernel
theorem dX8_matches_52 : decode cX8_matches 52 = .ok (.iload_n 3, 1) := by decide +kernel
theorem dX8_matches_53 : decode cX8_matches 53 = .ok (.iadd, 1) := by decide +kernel
theorem dX8_matches_54 : decode cX8_matches 54 = .ok (.caload, 1) := by decide +kernel
theorem dX8_matches_55 : decode cX8_matches 55 = .ok (.aload_n 0, 1) := by decide +kernel
theorem dX8_matches_56 : decode cX8_matches 56 = .ok (.getfield 13, 3) := by decide +kernel
theorem dX8_matches_59 : decode cX8_matches 59 = .ok (.bipush 6, 2) := by decide +kernel
theorem dX8_matches_61 : decode cX8_matches 61 = .ok (.iload_n 1, 1) := by decide +kernel
theorem dX8_matches_62 : decode cX8_matches 62 = .ok (.imul, 1) := by decide +kernel
theorem dX8_matches_63 : decode cX8_matches 63 = .ok (.iload_n 3, 1) := by decide +kernel
theorem dX8_matches_64 : decode cX8_matches 64 = .ok (.iadd, 1) := by decide +kernel
theorem dX8_matches_65 : decode cX8_matches 65 = .ok (.caload, 1) := by decide +kernel
theorem dX8_matches_66 : decode cX8_matches 66 = .ok (.if_icmp .eq 5, 3) := by decide +kernel
theorem dX8_matches_69 : decode cX8_matches 69 = .ok (.iconst 0, 1) := by decide +kernel
theorem dX8_matches_70 : decode cX8_matches 70 = .ok (.ireturn, 1) := by decide +kernel
theorem dX8_matches_71 : decode cX8_matches 71 = .ok (.iinc 3 1, 3) := by decide +kernel
theorem dX8_matches_74 : decode cX8_matches 74 = .ok (.goto (-37), 3) := by decide +kernel
theorem dX8_matches_77 : decode cX8_matches 77 = .ok (.aload_n 0, 1) := by decide +kernel
theorem dX8_matches_78 : decode cX8_matches 78 = .ok (.getfield 51, 3) := by decide +kernel
theorem dX8_matches_81 : decode cX8_matches 81 = .ok (.iload_n 1, 1) := by decide +kernel
theorem dX8_matches_82 : decode cX8_matches 82 = .ok (.baload, 1) := by decide +kernel
theorem dX8_matches_83 : decode cX8_matches 83 = .ok (.ifCond .eq 21, 3) := by decide +kernel
theorem dX8_matches_86 : decode cX8_matches 86 = .ok (.iload_n 2, 1) := by decide +kernel
theorem dX8_matches_87 : decode cX8_matches 87 = .ok (.ifCond .eq 17, 3) := by decide +kernel
theorem dX8_matches_90 : decode cX8_matches 90 = .ok (.aload_n 0, 1) := by decide +kernel
theorem dX8_matches_91 : decode cX8_matches 91 = .ok (.getfield 20, 3) := by decide +kernel
theorem dX8_matches_94 : decode cX8_matches 94 = .ok (.iload_n 2, 1) := by decide +kernel
theorem dX8_matches_95 : decode cX8_matches 95 = .ok (.iconst 1, 1) := by decide +kernel
theorem dX8_matches_96 : decode cX8_matches 96 = .ok (.isub, 1) := by decide +kernel
theorem dX8_matches_97 : decode cX8_matches 97 = .ok (.caload, 1) := by decide +kernel
theorem dX8_matches_98 : decode cX8_matches 98 = .ok (.invokestatic 71, 3) := by decide +kernel
theorem dX8_matches_101 : decode cX8_matches 101 = .ok (.ifCond .ne 7, 3) := by decide +kernel
theorem dX8_matches_104 : decode cX8_matches 104 = .ok (.iconst 1, 1) := by decide +kernel
theorem dX8_matches_105 : decode cX8_matches 105 = .ok (.goto 4, 3) := by decide +kernel
theorem dX8_matches_108 : decode cX8_matches 108 = .ok (.iconst 0, 1) := by decide +kernel
theorem dX8_matches_109 : decode cX8_matches 109 = .ok (.ireturn, 1) := by decide +kernel
theorem dX8_matching_0 : decode cX8_matching 0 = .ok (.iconst (-1), 1) := by decide +kernel
theorem dX8_matching_1 : decode cX8_matching 1 = .ok (.istore_n 1, 1) := by decide +kernel
theorem dX8_matching_2 : decode cX8_matching 2 = .ok (.iconst 0, 1) := by decide +kernel
theorem dX8_matching_3 : decode cX8_matching 3 = .ok (.istore_n 2, 1) := by decide +kernel
theorem dX8_matching_4 : decode cX8_matching 4 = .ok (.iload_n 2, 1) := by decide +kernel
theorem dX8_matching_5 : decode cX8_matching 5 = .ok (.aload_n 0, 1) := by decide +kernel
theorem dX8_matching_6 : decode cX8_matching 6 = .ok (.getfield 64, 3) := by decide +kernel
theorem dX8_matching_9 : decode cX8_matching 9 = .ok (.if_icmp .ge 38, 3) := by decide +kernel
theorem dX8_matching_12 : decode cX8_matching 12 = .ok (.aload_n 0, 1) := by decide +kernel
theorem dX8_matching_13 : decode cX8_matching 13 = .ok (.iload_n 2, 1) := by decide +kernel
theorem dX8_matching_14 : decode cX8_matching 14 = .ok (.invokevirtual 139, 3) := by decide +kernel
theorem dX8_matching_17 : decode cX8_matching 17 = .ok (.ifCond .eq 24, 3) := by decide +kernel
theorem dX8_matching_20 : decode cX8_matching 20 = .ok (.iload_n 1, 1) := by decide +kernel
theorem dX8_matching_21 : decode cX8_matching 21 = .ok (.ifCond .lt 18, 3) := by decide +kernel
theorem dX8_matching_24 : decode cX8_matching 24 = .ok (.aload_n 0, 1) := by decide +kernel
theorem dX8_matching_25 : decode cX8_matching 25 = .ok (.getfield 29, 3) := by decide +kernel
theorem dX8_matching_28 : decode cX8_matching 28 = .ok (.iload_n 2, 1) := by decide +kernel
theorem dX8_matching_29 : decode cX8_matching 29 = .ok (.iaload, 1) := by decide +kernel
theorem dX8_matching_30 : decode cX8_matching 30 = .ok (.aload_n 0, 1) := by decide +kernel
theorem dX8_matching_31 : decode cX8_matching 31 = .ok (.getfield 29, 3) := by decide +kernel
theorem dX8_matching_34 : decode cX8_matching 34 = .ok (.iload_n 1, 1) := by decide +kernel
theorem dX8_matching_35 : decode cX8_matching 35 = .ok (.iaload, 1) := by decide +kernel
theorem dX8_matching_36 : decode cX8_matching 36 = .ok (.if_icmp .le 5, 3) := by decide +kernel
theorem dX8_matching_39 : decode cX8_matching 39 = .ok (.iload_n 2, 1) := by decide +kernel
theorem dX8_matching_40 : decode cX8_matching 40 = .ok (.istore_n 1, 1) := by decide +kernel
theorem dX8_matching_41 : decode cX8_matching 41 = .ok (.iinc 2 1, 3) := by decide +kernel
theorem dX8_matching_44 : decode cX8_matching 44 = .ok (.goto (-40), 3) := by decide +kernel
theorem dX8_matching_47 : decode cX8_matching 47 = .ok (.iload_n 1, 1) := by decide +kernel
theorem dX8_matching_48 : decode cX8_matching 48 = .ok (.ireturn, 1) := by decide +kernel
theorem dX8_matchingByLooking_0 : decode cX8_matchingByLooking 0 = .ok (.aload_n 0, 1) := by decide +kernel
theorem dX8_matchingByLooking_1 : decode cX8_matchingByLooking 1 = .ok (.invokevirtual 142, 3) := by decide +kernel
theorem dX8_matchingByLooking_4 : decode cX8_matchingByLooking 4 = .ok (.ireturn, 1) := by decide +kernel
theorem dX8_insert_0 : decode cX8_insert 0 = .ok (.aload_n 0, 1) := by decide +kernel
theorem dX8_insert_1 : decode cX8_insert 1 = .ok (.getfield 146, 3) := by decide +kernel
theorem dX8_insert_4 : decode cX8_insert 4 = .ok (.istore_n 2, 1) := by decide +kernel
theorem dX8_insert_5 : decode cX8_insert 5 = .ok (.iload_n 2, 1) := by decide +kernel
theorem dX8_insert_6 : decode cX8_insert 6 = .ok (.aload_n 0, 1) := by decide +kernel
theorem dX8_insert_7 : decode cX8_insert 7 = .ok (.getfield 136, 3) := by decide +kernel
theorem dX8_insert_10 : decode cX8_insert 10 = .ok (.if_icmp .le 23, 3) := by decide +kernel
theorem dX8_insert_13 : decode cX8_insert 13 = .ok (.aload_n 0, 1) := by decide +kernel
theorem dX8_insert_14 : decode cX8_insert 14 = .ok (.getfield 20, 3) := by decide +kernel
theorem dX8_insert_17 : decode cX8_insert 17 = .ok (.iload_n 2, 1) := by decide +kernel
theorem dX8_insert_18 : decode cX8_insert 18 = .ok (.aload_n 0, 1) := by decide +kernel
theorem dX8_insert_19 : decode cX8_insert 19 = .ok (.getfield 20, 3) := by decide +kernel
theorem dX8_insert_22 : decode cX8_insert 22 = .ok (.iload_n 2, 1) := by decide +kernel
theorem dX8_insert_23 : decode cX8_insert 23 = .ok (.iconst 1, 1) := by decide +kernel
theorem dX8_insert_24 : decode cX8_insert 24 = .ok (.isub, 1) := by decide +kernel
theorem dX8_insert_25 : decode cX8_insert 25 = .ok (.caload, 1) := by decide +kernel
theorem dX8_insert_26 : decode cX8_insert 26 = .ok (.castore, 1) := by decide +kernel
theorem dX8_insert_27 : decode cX8_insert 27 = .ok (.iinc 2 (-1), 3) := by decide +kernel
theorem dX8_insert_30 : decode cX8_insert 30 = .ok (.goto (-25), 3) := by decide +kernel
theorem dX8_insert_33 : decode cX8_insert 33 = .ok (.aload_n 0, 1) := by decide +kernel
theorem dX8_insert_34 : decode cX8_insert 34 = .ok (.getfield 20, 3) := by decide +kernel
theorem dX8_insert_37 : decode cX8_insert 37 = .ok (.aload_n 0, 1) := by decide +kernel
theorem dX8_insert_38 : decode cX8_insert 38 = .ok (.getfield 136, 3) := by decide +kernel
theorem dX8_insert_41 : decode cX8_insert 41 = .ok (.iload_n 1, 1) := by decide +kernel
theorem dX8_insert_42 : decode cX8_insert 42 = .ok (.castore, 1) := by decide +kernel
theorem dX8_insert_43 : decode cX8_insert 43 = .ok (.aload_n 0, 1) := by decide +kernel
theorem dX8_insert_44 : decode cX8_insert 44 = .ok (.dup, 1) := by decide +kernel
theorem dX8_insert_45 : decode cX8_insert 45 = .ok (.getfield 146, 3) := by decide +kernel
theorem dX8_insert_48 : decode cX8_insert 48 = .ok (.iconst 1, 1) := by decide +kernel
theorem dX8_insert_49 : decode cX8_insert 49 = .ok (.iadd, 1) := by decide +kernel
theorem dX8_insert_50 : decode cX8_insert 50 = .ok (.putfield 146, 3) := by decide +kernel
theorem dX8_insert_53 : decode cX8_insert 53 = .ok (.aload_n 0, 1) := by decide +kernel
theorem dX8_insert_54 : decode cX8_insert 54 = .ok (.dup, 1) := by decide +kernel
theorem dX8_insert_55 : decode cX8_insert 55 = .ok (.getfield 136, 3) := by decide +kernel
theorem dX8_insert_58 : decode cX8_insert 58 = .ok (.iconst 1, 1) := by decide +kernel
theorem dX8_insert_59 : decode cX8_insert 59 = .ok (.iadd, 1) := by decide +kernel
theorem dX8_insert_60 : decode cX8_insert 60 = .ok (.putfield 136, 3) := by decide +kernel
theorem dX8_insert_63 : decode cX8_insert 63 = .ok (.return_, 1) := by decide +kernel
theorem dX8_takeOut_0 : decode cX8_takeOut 0 = .ok (.aload_n 0, 1) := by decide +kernel
theorem dX8_takeOut_1 : decode cX8_takeOut 1 = .ok (.dup, 1) := by decide +kernel
theorem dX8_takeOut_2 : decode cX8_takeOut 2 = .ok (.getfield 136, 3) := by decide +kernel
theorem dX8_takeOut_5 : decode cX8_takeOut 5 = .ok (.iconst 1, 1) := by decide +kernel
theorem dX8_takeOut_6 : decode cX8_takeOut 6 = .ok (.isub, 1) := by decide +kernel
theorem dX8_takeOut_7 : decode cX8_takeOut 7 = .ok (.putfield 136, 3) := by decide +kernel
theorem dX8_takeOut_10 : decode cX8_takeOut 10 = .ok (.aload_n 0, 1) := by decide +kernel
theorem dX8_takeOut_11 : decode cX8_takeOut 11 = .ok (.dup, 1) := by decide +kernel
theorem dX8_takeOut_12 : decode cX8_takeOut 12 = .ok (.getfield 146, 3) := by decide +kernel
theorem dX8_takeOut_15 : decode cX8_takeOut 15 = .ok (.iconst 1, 1) := by decide +kernel
theorem dX8_takeOut_16 : decode cX8_takeOut 16 = .ok (.isub, 1) := by decide +kernel
theorem dX8_takeOut_17 : decode cX8_takeOut 17 = .ok (.putfield 146, 3) := by decide +kernel
theorem dX8_takeOut_20 : decode cX8_takeOut 20 = .ok (.aload_n 0, 1) := by decide +kernel
theorem dX8_takeOut_21 : decode cX8_takeOut 21 = .ok (.getfield 136, 3) := by decide +kernel
theorem dX8_takeOut_24 : decode cX8_takeOut 24 = .ok (.istore_n 1, 1) := by decide +kernel
theorem dX8_takeOut_25 : decode cX8_takeOut 25 = .ok (.iload_n 1, 1) := by decide +kernel
theorem dX8_takeOut_26 : decode cX8_takeOut 26 = .ok (.aload_n 0, 1) := by decide +kernel
theorem dX8_takeOut_27 : decode cX8_takeOut 27 = .ok (.getfield 146, 3) := by decide +kernel
theorem dX8_takeOut_30 : decode cX8_takeOut 30 = .ok (.if_icmp .ge 23, 3) := by decide +kernel
theorem dX8_takeOut_33 : decode cX8_takeOut 33 = .ok (.aload_n 0, 1) := by decide +kernel
theorem dX8_takeOut_34 : decode cX8_takeOut 34 = .ok (.getfield 20, 3) := by decide +kernel
theorem dX8_takeOut_37 : decode cX8_takeOut 37 = .ok (.iload_n 1, 1) := by decide +kernel
theorem dX8_takeOut_38 : decode cX8_takeOut 38 = .ok (.aload_n 0, 1) := by decide +kernel
theorem dX8_takeOut_39 : decode cX8_takeOut 39 = .ok (.getfield 20, 3) := by decide +kernel
theorem dX8_takeOut_42 : decode cX8_takeOut 42 = .ok (.iload_n 1, 1) := by decide +kernel
theorem dX8_takeOut_43 : decode cX8_takeOut 43 = .ok (.iconst 1, 1) := by decide +kernel
theorem dX8_takeOut_44 : decode cX8_takeOut 44 = .ok (.iadd, 1) := by decide +kernel
theorem dX8_takeOut_45 : decode cX8_takeOut 45 = .ok (.caload, 1) := by decide +kernel
theorem dX8_takeOut_46 : decode cX8_takeOut 46 = .ok (.castore, 1) := by decide +kernel
theorem dX8_takeOut_47 : decode cX8_takeOut 47 = .ok (.iinc 1 1, 3) := by decide +kernel
theorem dX8_takeOut_50 : decode cX8_takeOut 50 = .ok (.goto (-25), 3) := by decide +kernel
theorem dX8_takeOut_53 : decode cX8_takeOut 53 = .ok (.return_, 1) := by decide +kernel
theorem dX8_keeps_0 : decode cX8_keeps 0 = .ok (.iconst 0, 1) := by decide +kernel
theorem dX8_keeps_1 : decode cX8_keeps 1 = .ok (.istore_n 1, 1) := by decide +kernel
theorem dX8_keeps_2 : decode cX8_keeps 2 = .ok (.iload_n 1, 1) := by decide +kernel
theorem dX8_keeps_3 : decode cX8_keeps 3 = .ok (.aload_n 0, 1) := by decide +kernel
theorem dX8_keeps_4 : decode cX8_keeps 4 = .ok (.getfield 146, 3) := by decide +kernel
theorem dX8_keeps_7 : decode cX8_keeps 7 = .ok (.if_icmp .ge 21, 3) := by decide +kernel
theorem dX8_keeps_10 : decode cX8_keeps 10 = .ok (.aload_n 0, 1) := by decide +kernel
theorem dX8_keeps_11 : decode cX8_keeps 11 = .ok (.getfield 23, 3) := by decide +kernel
theorem dX8_keeps_14 : decode cX8_keeps 14 = .ok (.iload_n 1, 1) := by decide +kernel
theorem dX8_keeps_15 : decode cX8_keeps 15 = .ok (.aload_n 0, 1) := by decide +kernel
theorem dX8_keeps_16 : decode cX8_keeps 16 = .ok (.getfield 20, 3) := by decide +kernel
theorem dX8_keeps_19 : decode cX8_keeps 19 = .ok (.iload_n 1, 1) := by decide +kernel
theorem dX8_keeps_20 : decode cX8_keeps 20 = .ok (.caload, 1) := by decide +kernel
theorem dX8_keeps_21 : decode cX8_keeps 21 = .ok (.castore, 1) := by decide +kernel
theorem dX8_keeps_22 : decode cX8_keeps 22 = .ok (.iinc 1 1, 3) := by decide +kernel
theorem dX8_keeps_25 : decode cX8_keeps 25 = .ok (.goto (-23), 3) := by decide +kernel
theorem dX8_keeps_28 : decode cX8_keeps 28 = .ok (.iconst 0, 1) := by decide +kernel
theorem dX8_keeps_29 : decode cX8_keeps 29 = .ok (.istore_n 1, 1) := by decide +kernel
theorem dX8_keeps_30 : decode cX8_keeps 30 = .ok (.iload_n 1, 1) := by decide +kernel
theorem dX8_keeps_31 : decode cX8_keeps 31 = .ok (.aload_n 0, 1) := by decide +kernel
theorem dX8_keeps_32 : decode cX8_keeps 32 = .ok (.getfield 149, 3) := by decide +kernel
theorem dX8_keeps_35 : decode cX8_keeps 35 = .ok (.if_icmp .ge 21, 3) := by decide +kernel
theorem dX8_keeps_38 : decode cX8_keeps 38 = .ok (.aload_n 0, 1) := by decide +kernel
theorem dX8_keeps_39 : decode cX8_keeps 39 = .ok (.getfield 45, 3) := by decide +kernel
theorem dX8_keeps_42 : decode cX8_keeps 42 = .ok (.iload_n 1, 1) := by decide +kernel
theorem dX8_keeps_43 : decode cX8_keeps 43 = .ok (.aload_n 0, 1) := by decide +kernel
theorem dX8_keeps_44 : decode cX8_keeps 44 = .ok (.getfield 42, 3) := by decide +kernel
theorem dX8_keeps_47 : decode cX8_keeps 47 = .ok (.iload_n 1, 1) := by decide +kernel
theorem dX8_keeps_48 : decode cX8_keeps 48 = .ok (.iaload, 1) := by decide +kernel
theorem dX8_keeps_49 : decode cX8_keeps 49 = .ok (.iastore, 1) := by decide +kernel
theorem dX8_keeps_50 : decode cX8_keeps 50 = .ok (.iinc 1 1, 3) := by decide +kernel
theorem dX8_keeps_53 : decode cX8_keeps 53 = .ok (.goto (-23), 3) := by decide +kernel
theorem dX8_keeps_56 : decode cX8_keeps 56 = .ok (.aload_n 0, 1) := by decide +kernel
theorem dX8_keeps_57 : decode cX8_keeps 57 = .ok (.aload_n 0, 1) := by decide +kernel
theorem dX8_keeps_58 : decode cX8_keeps 58 = .ok (.getfield 146, 3) := by decide +kernel
theorem dX8_keeps_61 : decode cX8_keeps 61 = .ok (.putfield 152, 3) := by decide +kernel
theorem dX8_keeps_64 : decode cX8_keeps 64 = .ok (.aload_n 0, 1) := by decide +kernel
theorem dX8_keeps_65 : decode cX8_keeps 65 = .ok (.aload_n 0, 1) := by decide +kernel
theorem dX8_keeps_66 : decode cX8_keeps 66 = .ok (.getfield 136, 3) := by decide +kernel
theorem dX8_keeps_69 : decode cX8_keeps 69 = .ok (.putfield 155, 3) := by decide +kernel
theorem dX8_keeps_72 : decode cX8_keeps 72 = .ok (.aload_n 0, 1) := by decide +kernel
theorem dX8_keeps_73 : decode cX8_keeps 73 = .ok (.aload_n 0, 1) := by decide +kernel
theorem dX8_keeps_74 : decode cX8_keeps 74 = .ok (.getfield 149, 3) := by decide +kernel
theorem dX8_keeps_77 : decode cX8_keeps 77 = .ok (.putfield 158, 3) := by decide +kernel
theorem dX8_keeps_80 : decode cX8_keeps 80 = .ok (.return_, 1) := by decide +kernel
theorem dX8_expands_0 : decode cX8_expands 0 = .ok (.aload_n 0, 1) := by decide +kernel
theorem dX8_expands_1 : decode cX8_expands 1 = .ok (.invokevirtual 161, 3) := by decide +kernel
theorem dX8_expands_4 : decode cX8_expands 4 = .ok (.aload_n 0, 1) := by decide +kernel
theorem dX8_expands_5 : decode cX8_expands 5 = .ok (.aload_n 0, 1) := by decide +kernel
theorem dX8_expands_6 : decode cX8_expands 6 = .ok (.getfield 97, 3) := by decide +kernel
theorem dX8_expands_9 : decode cX8_expands 9 = .ok (.aload_n 0, 1) := by decide +kernel
theorem dX8_expands_10 : decode cX8_expands 10 = .ok (.getfield 29, 3) := by decide +kernel
theorem dX8_expands_13 : decode cX8_expands 13 = .ok (.iload_n 1, 1) := by decide +kernel
theorem dX8_expands_14 : decode cX8_expands 14 = .ok (.iaload, 1) := by decide +kernel
theorem dX8_expands_15 : decode cX8_expands 15 = .ok (.isub, 1) := by decide +kernel
theorem dX8_expands_16 : decode cX8_expands 16 = .ok (.putfield 164, 3) := by decide +kernel
theorem dX8_expands_19 : decode cX8_expands 19 = .ok (.iconst 0, 1) := by decide +kernel
theorem dX8_expands_20 : decode cX8_expands 20 = .ok (.istore_n 2, 1) := by decide +kernel
theorem dX8_expands_21 : decode cX8_expands 21 = .ok (.iload_n 2, 1) := by decide +kernel
theorem dX8_expands_22 : decode cX8_expands 22 = .ok (.aload_n 0, 1) := by decide +kernel
theorem dX8_expands_23 : decode cX8_expands 23 = .ok (.getfield 29, 3) := by decide +kernel
theorem dX8_expands_26 : decode cX8_expands 26 = .ok (.iload_n 1, 1) := by decide +kernel
theorem dX8_expands_27 : decode cX8_expands 27 = .ok (.iaload, 1) := by decide +kernel
theorem dX8_expands_28 : decode cX8_expands 28 = .ok (.if_icmp .ge 13, 3) := by decide +kernel
theorem dX8_expands_31 : decode cX8_expands 31 = .ok (.aload_n 0, 1) := by decide +kernel
theorem dX8_expands_32 : decode cX8_expands 32 = .ok (.invokevirtual 167, 3) := by decide +kernel
theorem dX8_expands_35 : decode cX8_expands 35 = .ok (.iinc 2 1, 3) := by decide +kernel
theorem dX8_expands_38 : decode cX8_expands 38 = .ok (.goto (-17), 3) := by decide +kernel
theorem dX8_expands_41 : decode cX8_expands 41 = .ok (.aload_n 0, 1) := by decide +kernel
theorem dX8_expands_42 : decode cX8_expands 42 = .ok (.getfield 136, 3) := by decide +kernel
theorem dX8_expands_45 : decode cX8_expands 45 = .ok (.istore_n 2, 1) := by decide +kernel
theorem dX8_expands_46 : decode cX8_expands 46 = .ok (.iconst 0, 1) := by decide +kernel
theorem dX8_expands_47 : decode cX8_expands 47 = .ok (.istore_n 3, 1) := by decide +kernel
theorem dX8_expands_48 : decode cX8_expands 48 = .ok (.iload_n 3, 1) := by decide +kernel
theorem dX8_expands_49 : decode cX8_expands 49 = .ok (.aload_n 0, 1) := by decide +kernel
theorem dX8_expands_50 : decode cX8_expands 50 = .ok (.getfield 97, 3) := by decide +kernel
theorem dX8_expands_53 : decode cX8_expands 53 = .ok (.if_icmp .ge 19, 3) := by decide +kernel
theorem dX8_expands_56 : decode cX8_expands 56 = .ok (.aload_n 0, 1) := by decide +kernel
theorem dX8_expands_57 : decode cX8_expands 57 = .ok (.aload_n 0, 1) := by decide +kernel
theorem dX8_expands_58 : decode cX8_expands 58 = .ok (.getfield 26, 3) := by decide +kernel
theorem dX8_expands_61 : decode cX8_expands 61 = .ok (.iload_n 3, 1) := by decide +kernel
theorem dX8_expands_62 : decode cX8_expands 62 = .ok (.caload, 1) := by decide +kernel
theorem dX8_expands_63 : decode cX8_expands 63 = .ok (.invokevirtual 170, 3) := by decide +kernel
theorem dX8_expands_66 : decode cX8_expands 66 = .ok (.iinc 3 1, 3) := by decide +kernel
theorem dX8_expands_69 : decode cX8_expands 69 = .ok (.goto (-21), 3) := by decide +kernel
theorem dX8_expands_72 : decode cX8_expands 72 = .ok (.aload_n 0, 1) := by decide +kernel
theorem dX8_expands_73 : decode cX8_expands 73 = .ok (.iconst 0, 1) := by decide +kernel
theorem dX8_expands_74 : decode cX8_expands 74 = .ok (.putfield 149, 3) := by decide +kernel
theorem dX8_expands_77 : decode cX8_expands 77 = .ok (.iconst 1, 1) := by decide +kernel
theorem dX8_expands_78 : decode cX8_expands 78 = .ok (.istore_n 3, 1) := by decide +kernel
theorem dX8_expands_79 : decode cX8_expands 79 = .ok (.iload_n 3, 1) := by decide +kernel
theorem dX8_expands_80 : decode cX8_expands 80 = .ok (.aload_n 0, 1) := by decide +kernel
theorem dX8_expands_81 : decode cX8_expands 81 = .ok (.getfield 115, 3) := by decide +kernel
theorem dX8_expands_84 : decode cX8_expands 84 = .ok (.if_icmp .ge 36, 3) := by decide +kernel
theorem dX8_expands_87 : decode cX8_expands 87 = .ok (.aload_n 0, 1) := by decide +kernel
theorem dX8_expands_88 : decode cX8_expands 88 = .ok (.getfield 42, 3) := by decide +kernel
theorem dX8_expands_91 : decode cX8_expands 91 = .ok (.aload_n 0, 1) := by decide +kernel
theorem dX8_expands_92 : decode cX8_expands 92 = .ok (.getfield 149, 3) := by decide +kernel
theorem dX8_expands_95 : decode cX8_expands 95 = .ok (.iload_n 2, 1) := by decide +kernel
theorem dX8_expands_96 : decode cX8_expands 96 = .ok (.aload_n 0, 1) := by decide +kernel
theorem dX8_expands_97 : decode cX8_expands 97 = .ok (.getfield 48, 3) := by decide +kernel
theorem dX8_expands_100 : decode cX8_expands 100 = .ok (.iload_n 3, 1) := by decide +kernel
theorem dX8_expands_101 : decode cX8_expands 101 = .ok (.iaload, 1) := by decide +kernel
theorem dX8_expands_102 : decode cX8_expands 102 = .ok (.iadd, 1) := by decide +kernel
theorem dX8_expands_103 : decode cX8_expands 103 = .ok (.iastore, 1) := by decide +kernel
theorem dX8_expands_104 : decode cX8_expands 104 = .ok (.aload_n 0, 1) := by decide +kernel
theorem dX8_expands_105 : decode cX8_expands 105 = .ok (.dup, 1) := by decide +kernel
theorem dX8_expands_106 : decode cX8_expands 106 = .ok (.getfield 149, 3) := by decide +kernel
theorem dX8_expands_109 : decode cX8_expands 109 = .ok (.iconst 1, 1) := by decide +kernel
theorem dX8_expands_110 : decode cX8_expands 110 = .ok (.iadd, 1) := by decide +kernel
theorem dX8_expands_111 : decode cX8_expands 111 = .ok (.putfield 149, 3) := by decide +kernel
theorem dX8_expands_114 : decode cX8_expands 114 = .ok (.iinc 3 1, 3) := by decide +kernel
theorem dX8_expands_117 : decode cX8_expands 117 = .ok (.goto (-38), 3) := by decide +kernel
theorem dX8_expands_120 : decode cX8_expands 120 = .ok (.aload_n 0, 1) := by decide +kernel
theorem dX8_expands_121 : decode cX8_expands 121 = .ok (.getfield 115, 3) := by decide +kernel
theorem dX8_expands_124 : decode cX8_expands 124 = .ok (.ifCond .le 15, 3) := by decide +kernel
theorem dX8_expands_127 : decode cX8_expands 127 = .ok (.aload_n 0, 1) := by decide +kernel
theorem dX8_expands_128 : decode cX8_expands 128 = .ok (.iload_n 2, 1) := by decide +kernel
theorem dX8_expands_129 : decode cX8_expands 129 = .ok (.aload_n 0, 1) := by decide +kernel
theorem dX8_expands_130 : decode cX8_expands 130 = .ok (.getfield 48, 3) := by decide +kernel
theorem dX8_expands_133 : decode cX8_expands 133 = .ok (.iconst 0, 1) := by decide +kernel
theorem dX8_expands_134 : decode cX8_expands 134 = .ok (.iaload, 1) := by decide +kernel
theorem dX8_expands_135 : decode cX8_expands 135 = .ok (.iadd, 1) := by decide +kernel
theorem dX8_expands_136 : decode cX8_expands 136 = .ok (.putfield 136, 3) := by decide +kernel
theorem dX8_expands_139 : decode cX8_expands 139 = .ok (.aload_n 0, 1) := by decide +kernel
theorem dX8_expands_140 : decode cX8_expands 140 = .ok (.dup, 1) := by decide +kernel
theorem dX8_expands_141 : decode cX8_expands 141 = .ok (.getfield 173, 3) := by decide +kernel
theorem dX8_expands_144 : decode cX8_expands 144 = .ok (.iconst 1, 1) := by decide +kernel
theorem dX8_expands_145 : decode cX8_expands 145 = .ok (.iadd, 1) := by decide +kernel
theorem dX8_expands_146 : decode cX8_expands 146 = .ok (.putfield 173, 3) := by decide +kernel
theorem dX8_expands_149 : decode cX8_expands 149 = .ok (.aload_n 0, 1) := by decide +kernel
theorem dX8_expands_150 : decode cX8_expands 150 = .ok (.dup, 1) := by decide +kernel
theorem dX8_expands_151 : decode cX8_expands 151 = .ok (.getfield 176, 3) := by decide +kernel
theorem dX8_expands_154 : decode cX8_expands 154 = .ok (.iconst 1, 1) := by decide +kernel
theorem dX8_expands_155 : decode cX8_expands 155 = .ok (.iadd, 1) := by decide +kernel
theorem dX8_expands_156 : decode cX8_expands 156 = .ok (.putfield 176, 3) := by decide +kernel
theorem dX8_expands_159 : decode cX8_expands 159 = .ok (.aload_n 0, 1) := by decide +kernel
theorem dX8_expands_160 : decode cX8_expands 160 = .ok (.dup, 1) := by decide +kernel
theorem dX8_expands_161 : decode cX8_expands 161 = .ok (.getfield 179, 3) := by decide +kernel
theorem dX8_expands_164 : decode cX8_expands 164 = .ok (.aload_n 0, 1) := by decide +kernel
theorem dX8_expands_165 : decode cX8_expands 165 = .ok (.getfield 164, 3) := by decide +kernel
theorem dX8_expands_168 : decode cX8_expands 168 = .ok (.i2l, 1) := by decide +kernel
theorem dX8_expands_169 : decode cX8_expands 169 = .ok (.ladd, 1) := by decide +kernel
theorem dX8_expands_170 : decode cX8_expands 170 = .ok (.putfield 179, 3) := by decide +kernel
theorem dX8_expands_173 : decode cX8_expands 173 = .ok (.return_, 1) := by decide +kernel
theorem dX8_key_0 : decode cX8_key 0 = .ok (.iload_n 1, 1) := by decide +kernel
theorem dX8_key_1 : decode cX8_key 1 = .ok (.invokestatic 83, 3) := by decide +kernel
theorem dX8_key_4 : decode cX8_key 4 = .ok (.ifCond .ne 9, 3) := by decide +kernel
theorem dX8_key_7 : decode cX8_key 7 = .ok (.aload_n 0, 1) := by decide +kernel
theorem dX8_key_8 : decode cX8_key 8 = .ok (.iconst 1, 1) := by decide +kernel
theorem dX8_key_9 : decode cX8_key 9 = .ok (.invokevirtual 75, 3) := by decide +kernel
theorem dX8_key_12 : decode cX8_key 12 = .ok (.ireturn, 1) := by decide +kernel
theorem dX8_key_13 : decode cX8_key 13 = .ok (.aload_n 0, 1) := by decide +kernel
theorem dX8_key_14 : decode cX8_key 14 = .ok (.getfield 146, 3) := by decide +kernel
theorem dX8_key_17 : decode cX8_key 17 = .ok (.bipush 80, 2) := by decide +kernel
theorem dX8_key_19 : decode cX8_key 19 = .ok (.if_icmp .ne 9, 3) := by decide +kernel
theorem dX8_key_22 : decode cX8_key 22 = .ok (.aload_n 0, 1) := by decide +kernel
theorem dX8_key_23 : decode cX8_key 23 = .ok (.iconst 2, 1) := by decide +kernel
theorem dX8_key_24 : decode cX8_key 24 = .ok (.invokevirtual 75, 3) := by decide +kernel
theorem dX8_key_27 : decode cX8_key 27 = .ok (.ireturn, 1) := by decide +kernel
theorem dX8_key_28 : decode cX8_key 28 = .ok (.aload_n 0, 1) := by decide +kernel
theorem dX8_key_29 : decode cX8_key 29 = .ok (.iconst 0, 1) := by decide +kernel
theorem dX8_key_30 : decode cX8_key 30 = .ok (.putfield 61, 3) := by decide +kernel
theorem dX8_key_33 : decode cX8_key 33 = .ok (.iconst 0, 1) := by decide +kernel
theorem dX8_key_34 : decode cX8_key 34 = .ok (.istore_n 2, 1) := by decide +kernel
theorem dX8_key_35 : decode cX8_key 35 = .ok (.iload_n 2, 1) := by decide +kernel
theorem dX8_key_36 : decode cX8_key 36 = .ok (.aload_n 0, 1) := by decide +kernel
theorem dX8_key_37 : decode cX8_key 37 = .ok (.getfield 149, 3) := by decide +kernel
theorem dX8_key_40 : decode cX8_key 40 = .ok (.if_icmp .ge 32, 3) := by decide +kernel
theorem dX8_key_43 : decode cX8_key 43 = .ok (.aload_n 0, 1) := by decide +kernel
theorem dX8_key_44 : decode cX8_key 44 = .ok (.getfield 42, 3) := by decide +kernel
theorem dX8_key_47 : decode cX8_key 47 = .ok (.iload_n 2, 1) := by decide +kernel
theorem dX8_key_48 : decode cX8_key 48 = .ok (.iaload, 1) := by decide +kernel
theorem dX8_key_49 : decode cX8_key 49 = .ok (.aload_n 0, 1) := by decide +kernel
theorem dX8_key_50 : decode cX8_key 50 = .ok (.getfield 136, 3) := by decide +kernel
theorem dX8_key_53 : decode cX8_key 53 = .ok (.if_icmp .lt 13, 3) := by decide +kernel
theorem dX8_key_56 : decode cX8_key 56 = .ok (.aload_n 0, 1) := by decide +kernel
theorem dX8_key_57 : decode cX8_key 57 = .ok (.getfield 42, 3) := by decide +kernel
theorem dX8_key_60 : decode cX8_key 60 = .ok (.iload_n 2, 1) := by decide +kernel
theorem dX8_key_61 : decode cX8_key 61 = .ok (.dup2, 1) := by decide +kernel
theorem dX8_key_62 : decode cX8_key 62 = .ok (.iaload, 1) := by decide +kernel
theorem dX8_key_63 : decode cX8_key 63 = .ok (.iconst 1, 1) := by decide +kernel
theorem dX8_key_64 : decode cX8_key 64 = .ok (.iadd, 1) := by decide +kernel
theorem dX8_key_65 : decode cX8_key 65 = .ok (.iastore, 1) := by decide +kernel
theorem dX8_key_66 : decode cX8_key 66 = .ok (.iinc 2 1, 3) := by decide +kernel
theorem dX8_key_69 : decode cX8_key 69 = .ok (.goto (-34), 3) := by decide +kernel
theorem dX8_key_72 : decode cX8_key 72 = .ok (.aload_n 0, 1) := by decide +kernel
theorem dX8_key_73 : decode cX8_key 73 = .ok (.iload_n 1, 1) := by decide +kernel
theorem dX8_key_74 : decode cX8_key 74 = .ok (.invokevirtual 170, 3) := by decide +kernel
theorem dX8_key_77 : decode cX8_key 77 = .ok (.aload_n 0, 1) := by decide +kernel
theorem dX8_key_78 : decode cX8_key 78 = .ok (.iconst 0, 1) := by decide +kernel
theorem dX8_key_79 : decode cX8_key 79 = .ok (.putfield 183, 3) := by decide +kernel
theorem dX8_key_82 : decode cX8_key 82 = .ok (.aload_n 0, 1) := by decide +kernel
theorem dX8_key_83 : decode cX8_key 83 = .ok (.invokevirtual 142, 3) := by decide +kernel
theorem dX8_key_86 : decode cX8_key 86 = .ok (.istore_n 2, 1) := by decide +kernel
theorem dX8_key_87 : decode cX8_key 87 = .ok (.iload_n 2, 1) := by decide +kernel
theorem dX8_key_88 : decode cX8_key 88 = .ok (.ifCond .ge 5, 3) := by decide +kernel
theorem dX8_key_91 : decode cX8_key 91 = .ok (.iconst (-1), 1) := by decide +kernel
theorem dX8_key_92 : decode cX8_key 92 = .ok (.ireturn, 1) := by decide +kernel
theorem dX8_key_93 : decode cX8_key 93 = .ok (.aload_n 0, 1) := by decide +kernel
theorem dX8_key_94 : decode cX8_key 94 = .ok (.iload_n 2, 1) := by decide +kernel
theorem dX8_key_95 : decode cX8_key 95 = .ok (.invokevirtual 118, 3) := by decide +kernel
theorem dX8_key_98 : decode cX8_key 98 = .ok (.aload_n 0, 1) := by decide +kernel
theorem dX8_key_99 : decode cX8_key 99 = .ok (.getfield 146, 3) := by decide +kernel
theorem dX8_key_102 : decode cX8_key 102 = .ok (.aload_n 0, 1) := by decide +kernel
theorem dX8_key_103 : decode cX8_key 103 = .ok (.getfield 29, 3) := by decide +kernel
theorem dX8_key_106 : decode cX8_key 106 = .ok (.iload_n 2, 1) := by decide +kernel
theorem dX8_key_107 : decode cX8_key 107 = .ok (.iaload, 1) := by decide +kernel
theorem dX8_key_108 : decode cX8_key 108 = .ok (.isub, 1) := by decide +kernel
theorem dX8_key_109 : decode cX8_key 109 = .ok (.aload_n 0, 1) := by decide +kernel
theorem dX8_key_110 : decode cX8_key 110 = .ok (.getfield 97, 3) := by decide +kernel
theorem dX8_key_113 : decode cX8_key 113 = .ok (.iadd, 1) := by decide +kernel
theorem dX8_key_114 : decode cX8_key 114 = .ok (.bipush 80, 2) := by decide +kernel
theorem dX8_key_116 : decode cX8_key 116 = .ok (.if_icmp .le 5, 3) := by decide +kernel
theorem dX8_key_119 : decode cX8_key 119 = .ok (.iconst (-1), 1) := by decide +kernel
theorem dX8_key_120 : decode cX8_key 120 = .ok (.ireturn, 1) := by decide +kernel
theorem dX8_key_121 : decode cX8_key 121 = .ok (.aload_n 0, 1) := by decide +kernel
theorem dX8_key_122 : decode cX8_key 122 = .ok (.iload_n 2, 1) := by decide +kernel
theorem dX8_key_123 : decode cX8_key 123 = .ok (.invokevirtual 187, 3) := by decide +kernel
theorem dX8_key_126 : decode cX8_key 126 = .ok (.aload_n 0, 1) := by decide +kernel
theorem dX8_key_127 : decode cX8_key 127 = .ok (.iconst 1, 1) := by decide +kernel
theorem dX8_key_128 : decode cX8_key 128 = .ok (.putfield 183, 3) := by decide +kernel
theorem dX8_key_131 : decode cX8_key 131 = .ok (.iload_n 2, 1) := by decide +kernel
theorem dX8_key_132 : decode cX8_key 132 = .ok (.ireturn, 1) := by decide +kernel
theorem dX8_erase_0 : decode cX8_erase 0 = .ok (.aload_n 0, 1) := by decide +kernel
theorem dX8_erase_1 : decode cX8_erase 1 = .ok (.aload_n 0, 1) := by decide +kernel
theorem dX8_erase_2 : decode cX8_erase 2 = .ok (.getfield 136, 3) := by decide +kernel
theorem dX8_erase_5 : decode cX8_erase 5 = .ok (.ifCond .ne 7, 3) := by decide +kernel
theorem dX8_erase_8 : decode cX8_erase 8 = .ok (.iconst 1, 1) := by decide +kernel
theorem dX8_erase_9 : decode cX8_erase 9 = .ok (.goto 4, 3) := by decide +kernel
theorem dX8_erase_12 : decode cX8_erase 12 = .ok (.iconst 0, 1) := by decide +kernel
theorem dX8_erase_13 : decode cX8_erase 13 = .ok (.putfield 61, 3) := by decide +kernel
theorem dX8_erase_16 : decode cX8_erase 16 = .ok (.aload_n 0, 1) := by decide +kernel
theorem dX8_erase_17 : decode cX8_erase 17 = .ok (.getfield 136, 3) := by decide +kernel
theorem dX8_erase_20 : decode cX8_erase 20 = .ok (.ifCond .ne 6, 3) := by decide +kernel
theorem dX8_erase_23 : decode cX8_erase 23 = .ok (.bipush 32, 2) := by decide +kernel
theorem dX8_erase_25 : decode cX8_erase 25 = .ok (.ireturn, 1) := by decide +kernel
theorem dX8_erase_26 : decode cX8_erase 26 = .ok (.aload_n 0, 1) := by decide +kernel
theorem dX8_erase_27 : decode cX8_erase 27 = .ok (.getfield 20, 3) := by decide +kernel
theorem dX8_erase_30 : decode cX8_erase 30 = .ok (.aload_n 0, 1) := by decide +kernel
theorem dX8_erase_31 : decode cX8_erase 31 = .ok (.getfield 136, 3) := by decide +kernel
theorem dX8_erase_34 : decode cX8_erase 34 = .ok (.iconst 1, 1) := by decide +kernel
theorem dX8_erase_35 : decode cX8_erase 35 = .ok (.isub, 1) := by decide +kernel
theorem dX8_erase_36 : decode cX8_erase 36 = .ok (.caload, 1) := by decide +kernel
theorem dX8_erase_37 : decode cX8_erase 37 = .ok (.istore_n 1, 1) := by decide +kernel
theorem dX8_erase_38 : decode cX8_erase 38 = .ok (.iconst 0, 1) := by decide +kernel
theorem dX8_erase_39 : decode cX8_erase 39 = .ok (.istore_n 2, 1) := by decide +kernel
theorem dX8_erase_40 : decode cX8_erase 40 = .ok (.iload_n 2, 1) := by decide +kernel
theorem dX8_erase_41 : decode cX8_erase 41 = .ok (.aload_n 0, 1) := by decide +kernel
theorem dX8_erase_42 : decode cX8_erase 42 = .ok (.getfield 149, 3) := by decide +kernel
theorem dX8_erase_45 : decode cX8_erase 45 = .ok (.if_icmp .ge 32, 3) := by decide +kernel
theorem dX8_erase_48 : decode cX8_erase 48 = .ok (.aload_n 0, 1) := by decide +kernel
theorem dX8_erase_49 : decode cX8_erase 49 = .ok (.getfield 42, 3) := by decide +kernel
theorem dX8_erase_52 : decode cX8_erase 52 = .ok (.iload_n 2, 1) := by decide +kernel
theorem dX8_erase_53 : decode cX8_erase 53 = .ok (.iaload, 1) := by decide +kernel
theorem dX8_erase_54 : decode cX8_erase 54 = .ok (.aload_n 0, 1) := by decide +kernel
theorem dX8_erase_55 : decode cX8_erase 55 = .ok (.getfield 136, 3) := by decide +kernel
theorem dX8_erase_58 : decode cX8_erase 58 = .ok (.if_icmp .lt 13, 3) := by decide +kernel
theorem dX8_erase_61 : decode cX8_erase 61 = .ok (.aload_n 0, 1) := by decide +kernel
theorem dX8_erase_62 : decode cX8_erase 62 = .ok (.getfield 42, 3) := by decide +kernel
theorem dX8_erase_65 : decode cX8_erase 65 = .ok (.iload_n 2, 1) := by decide +kernel
theorem dX8_erase_66 : decode cX8_erase 66 = .ok (.dup2, 1) := by decide +kernel
theorem dX8_erase_67 : decode cX8_erase 67 = .ok (.iaload, 1) := by decide +kernel
theorem dX8_erase_68 : decode cX8_erase 68 = .ok (.iconst 1, 1) := by decide +kernel
theorem dX8_erase_69 : decode cX8_erase 69 = .ok (.isub, 1) := by decide +kernel
theorem dX8_erase_70 : decode cX8_erase 70 = .ok (.iastore, 1) := by decide +kernel
theorem dX8_erase_71 : decode cX8_erase 71 = .ok (.iinc 2 1, 3) := by decide +kernel
theorem dX8_erase_74 : decode cX8_erase 74 = .ok (.goto (-34), 3) := by decide +kernel
theorem dX8_erase_77 : decode cX8_erase 77 = .ok (.aload_n 0, 1) := by decide +kernel
theorem dX8_erase_78 : decode cX8_erase 78 = .ok (.invokevirtual 167, 3) := by decide +kernel
theorem dX8_erase_81 : decode cX8_erase 81 = .ok (.aload_n 0, 1) := by decide +kernel
theorem dX8_erase_82 : decode cX8_erase 82 = .ok (.iconst 0, 1) := by decide +kernel
theorem dX8_erase_83 : decode cX8_erase 83 = .ok (.putfield 183, 3) := by decide +kernel
theorem dX8_erase_86 : decode cX8_erase 86 = .ok (.iload_n 1, 1) := by decide +kernel
theorem dX8_erase_87 : decode cX8_erase 87 = .ok (.ireturn, 1) := by decide +kernel
theorem dX8_moveCaret_0 : decode cX8_moveCaret 0 = .ok (.iload_n 1, 1) := by decide +kernel
theorem dX8_moveCaret_1 : decode cX8_moveCaret 1 = .ok (.aload_n 0, 1) := by decide +kernel
theorem dX8_moveCaret_2 : decode cX8_moveCaret 2 = .ok (.getfield 136, 3) := by decide +kernel
theorem dX8_moveCaret_5 : decode cX8_moveCaret 5 = .ok (.ineg, 1) := by decide +kernel
theorem dX8_moveCaret_6 : decode cX8_moveCaret 6 = .ok (.aload_n 0, 1) := by decide +kernel
theorem dX8_moveCaret_7 : decode cX8_moveCaret 7 = .ok (.getfield 146, 3) := by decide +kernel
theorem dX8_moveCaret_10 : decode cX8_moveCaret 10 = .ok (.aload_n 0, 1) := by decide +kernel
theorem dX8_moveCaret_11 : decode cX8_moveCaret 11 = .ok (.getfield 136, 3) := by decide +kernel
theorem dX8_moveCaret_14 : decode cX8_moveCaret 14 = .ok (.isub, 1) := by decide +kernel
theorem dX8_moveCaret_15 : decode cX8_moveCaret 15 = .ok (.invokestatic 67, 3) := by decide +kernel
theorem dX8_moveCaret_18 : decode cX8_moveCaret 18 = .ok (.ifCond .ne 9, 3) := by decide +kernel
theorem dX8_moveCaret_21 : decode cX8_moveCaret 21 = .ok (.aload_n 0, 1) := by decide +kernel
theorem dX8_moveCaret_22 : decode cX8_moveCaret 22 = .ok (.iconst 1, 1) := by decide +kernel
theorem dX8_moveCaret_23 : decode cX8_moveCaret 23 = .ok (.invokevirtual 75, 3) := by decide +kernel
theorem dX8_moveCaret_26 : decode cX8_moveCaret 26 = .ok (.ireturn, 1) := by decide +kernel
theorem dX8_moveCaret_27 : decode cX8_moveCaret 27 = .ok (.aload_n 0, 1) := by decide +kernel
theorem dX8_moveCaret_28 : decode cX8_moveCaret 28 = .ok (.iconst 0, 1) := by decide +kernel
theorem dX8_moveCaret_29 : decode cX8_moveCaret 29 = .ok (.putfield 61, 3) := by decide +kernel
theorem dX8_moveCaret_32 : decode cX8_moveCaret 32 = .ok (.aload_n 0, 1) := by decide +kernel
theorem dX8_moveCaret_33 : decode cX8_moveCaret 33 = .ok (.dup, 1) := by decide +kernel
theorem dX8_moveCaret_34 : decode cX8_moveCaret 34 = .ok (.getfield 136, 3) := by decide +kernel
theorem dX8_moveCaret_37 : decode cX8_moveCaret 37 = .ok (.iload_n 1, 1) := by decide +kernel
theorem dX8_moveCaret_38 : decode cX8_moveCaret 38 = .ok (.iadd, 1) := by decide +kernel
theorem dX8_moveCaret_39 : decode cX8_moveCaret 39 = .ok (.putfield 136, 3) := by decide +kernel
theorem dX8_moveCaret_42 : decode cX8_moveCaret 42 = .ok (.aload_n 0, 1) := by decide +kernel
theorem dX8_moveCaret_43 : decode cX8_moveCaret 43 = .ok (.iconst 0, 1) := by decide +kernel
theorem dX8_moveCaret_44 : decode cX8_moveCaret 44 = .ok (.putfield 183, 3) := by decide +kernel
theorem dX8_moveCaret_47 : decode cX8_moveCaret 47 = .ok (.aload_n 0, 1) := by decide +kernel
theorem dX8_moveCaret_48 : decode cX8_moveCaret 48 = .ok (.getfield 136, 3) := by decide +kernel
theorem dX8_moveCaret_51 : decode cX8_moveCaret 51 = .ok (.ireturn, 1) := by decide +kernel
theorem dX8_nextStop_0 : decode cX8_nextStop 0 = .ok (.aload_n 0, 1) := by decide +kernel
theorem dX8_nextStop_1 : decode cX8_nextStop 1 = .ok (.getfield 149, 3) := by decide +kernel
theorem dX8_nextStop_4 : decode cX8_nextStop 4 = .ok (.ifCond .ne 9, 3) := by decide +kernel
theorem dX8_nextStop_7 : decode cX8_nextStop 7 = .ok (.aload_n 0, 1) := by decide +kernel
theorem dX8_nextStop_8 : decode cX8_nextStop 8 = .ok (.iconst 1, 1) := by decide +kernel
theorem dX8_nextStop_9 : decode cX8_nextStop 9 = .ok (.invokevirtual 75, 3) := by decide +kernel
theorem dX8_nextStop_12 : decode cX8_nextStop 12 = .ok (.ireturn, 1) := by decide +kernel
theorem dX8_nextStop_13 : decode cX8_nextStop 13 = .ok (.aload_n 0, 1) := by decide +kernel
theorem dX8_nextStop_14 : decode cX8_nextStop 14 = .ok (.iconst 0, 1) := by decide +kernel
theorem dX8_nextStop_15 : decode cX8_nextStop 15 = .ok (.putfield 61, 3) := by decide +kernel
theorem dX8_nextStop_18 : decode cX8_nextStop 18 = .ok (.aload_n 0, 1) := by decide +kernel
theorem dX8_nextStop_19 : decode cX8_nextStop 19 = .ok (.aload_n 0, 1) := by decide +kernel
theorem dX8_nextStop_20 : decode cX8_nextStop 20 = .ok (.getfield 42, 3) := by decide +kernel
theorem dX8_nextStop_23 : decode cX8_nextStop 23 = .ok (.iconst 0, 1) := by decide +kernel
theorem dX8_nextStop_24 : decode cX8_nextStop 24 = .ok (.iaload, 1) := by decide +kernel
theorem dX8_nextStop_25 : decode cX8_nextStop 25 = .ok (.putfield 136, 3) := by decide +kernel
theorem dX8_nextStop_28 : decode cX8_nextStop 28 = .ok (.aload_n 0, 1) := by decide +kernel
theorem dX8_nextStop_29 : decode cX8_nextStop 29 = .ok (.dup, 1) := by decide +kernel
theorem dX8_nextStop_30 : decode cX8_nextStop 30 = .ok (.getfield 149, 3) := by decide +kernel
theorem dX8_nextStop_33 : decode cX8_nextStop 33 = .ok (.iconst 1, 1) := by decide +kernel
theorem dX8_nextStop_34 : decode cX8_nextStop 34 = .ok (.isub, 1) := by decide +kernel
theorem dX8_nextStop_35 : decode cX8_nextStop 35 = .ok (.putfield 149, 3) := by decide +kernel
theorem dX8_nextStop_38 : decode cX8_nextStop 38 = .ok (.iconst 0, 1) := by decide +kernel
theorem dX8_nextStop_39 : decode cX8_nextStop 39 = .ok (.istore_n 1, 1) := by decide +kernel
theorem dX8_nextStop_40 : decode cX8_nextStop 40 = .ok (.iload_n 1, 1) := by decide +kernel
theorem dX8_nextStop_41 : decode cX8_nextStop 41 = .ok (.aload_n 0, 1) := by decide +kernel
theorem dX8_nextStop_42 : decode cX8_nextStop 42 = .ok (.getfield 149, 3) := by decide +kernel
theorem dX8_nextStop_45 : decode cX8_nextStop 45 = .ok (.if_icmp .ge 23, 3) := by decide +kernel
theorem dX8_nextStop_48 : decode cX8_nextStop 48 = .ok (.aload_n 0, 1) := by decide +kernel
theorem dX8_nextStop_49 : decode cX8_nextStop 49 = .ok (.getfield 42, 3) := by decide +kernel
theorem dX8_nextStop_52 : decode cX8_nextStop 52 = .ok (.iload_n 1, 1) := by decide +kernel
theorem dX8_nextStop_53 : decode cX8_nextStop 53 = .ok (.aload_n 0, 1) := by decide +kernel
theorem dX8_nextStop_54 : decode cX8_nextStop 54 = .ok (.getfield 42, 3) := by decide +kernel
theorem dX8_nextStop_57 : decode cX8_nextStop 57 = .ok (.iload_n 1, 1) := by decide +kernel
theorem dX8_nextStop_58 : decode cX8_nextStop 58 = .ok (.iconst 1, 1) := by decide +kernel
theorem dX8_nextStop_59 : decode cX8_nextStop 59 = .ok (.iadd, 1) := by decide +kernel
theorem dX8_nextStop_60 : decode cX8_nextStop 60 = .ok (.iaload, 1) := by decide +kernel
theorem dX8_nextStop_61 : decode cX8_nextStop 61 = .ok (.iastore, 1) := by decide +kernel
theorem dX8_nextStop_62 : decode cX8_nextStop 62 = .ok (.iinc 1 1, 3) := by decide +kernel
theorem dX8_nextStop_65 : decode cX8_nextStop 65 = .ok (.goto (-25), 3) := by decide +kernel
theorem dX8_nextStop_68 : decode cX8_nextStop 68 = .ok (.aload_n 0, 1) := by decide +kernel
theorem dX8_nextStop_69 : decode cX8_nextStop 69 = .ok (.iconst 0, 1) := by decide +kernel
theorem dX8_nextStop_70 : decode cX8_nextStop 70 = .ok (.putfield 183, 3) := by decide +kernel
theorem dX8_nextStop_73 : decode cX8_nextStop 73 = .ok (.aload_n 0, 1) := by decide +kernel
theorem dX8_nextStop_74 : decode cX8_nextStop 74 = .ok (.getfield 136, 3) := by decide +kernel
theorem dX8_nextStop_77 : decode cX8_nextStop 77 = .ok (.ireturn, 1) := by decide +kernel
theorem dX8_undo_0 : decode cX8_undo 0 = .ok (.aload_n 0, 1) := by decide +kernel
theorem dX8_undo_1 : decode cX8_undo 1 = .ok (.getfield 183, 3) := by decide +kernel
theorem dX8_undo_4 : decode cX8_undo 4 = .ok (.ifCond .ne 9, 3) := by decide +kernel
theorem dX8_undo_7 : decode cX8_undo 7 = .ok (.aload_n 0, 1) := by decide +kernel
theorem dX8_undo_8 : decode cX8_undo 8 = .ok (.iconst 1, 1) := by decide +kernel
theorem dX8_undo_9 : decode cX8_undo 9 = .ok (.invokevirtual 75, 3) := by decide +kernel
theorem dX8_undo_12 : decode cX8_undo 12 = .ok (.ireturn, 1) := by decide +kernel
theorem dX8_undo_13 : decode cX8_undo 13 = .ok (.aload_n 0, 1) := by decide +kernel
theorem dX8_undo_14 : decode cX8_undo 14 = .ok (.iconst 0, 1) := by decide +kernel
theorem dX8_undo_15 : decode cX8_undo 15 = .ok (.putfield 61, 3) := by decide +kernel
theorem dX8_undo_18 : decode cX8_undo 18 = .ok (.iconst 0, 1) := by decide +kernel
theorem dX8_undo_19 : decode cX8_undo 19 = .ok (.istore_n 1, 1) := by decide +kernel
theorem dX8_undo_20 : decode cX8_undo 20 = .ok (.iload_n 1, 1) := by decide +kernel
theorem dX8_undo_21 : decode cX8_undo 21 = .ok (.aload_n 0, 1) := by decide +kernel
theorem dX8_undo_22 : decode cX8_undo 22 = .ok (.getfield 152, 3) := by decide +kernel
theorem dX8_undo_25 : decode cX8_undo 25 = .ok (.if_icmp .ge 21, 3) := by decide +kernel
theorem dX8_undo_28 : decode cX8_undo 28 = .ok (.aload_n 0, 1) := by decide +kernel
theorem dX8_undo_29 : decode cX8_undo 29 = .ok (.getfield 20, 3) := by decide +kernel
theorem dX8_undo_32 : decode cX8_undo 32 = .ok (.iload_n 1, 1) := by decide +kernel
theorem dX8_undo_33 : decode cX8_undo 33 = .ok (.aload_n 0, 1) := by decide +kernel
theorem dX8_undo_34 : decode cX8_undo 34 = .ok (.getfield 23, 3) := by decide +kernel
theorem dX8_undo_37 : decode cX8_undo 37 = .ok (.iload_n 1, 1) := by decide +kernel
theorem dX8_undo_38 : decode cX8_undo 38 = .ok (.caload, 1) := by decide +kernel
theorem dX8_undo_39 : decode cX8_undo 39 = .ok (.castore, 1) := by decide +kernel
theorem dX8_undo_40 : decode cX8_undo 40 = .ok (.iinc 1 1, 3) := by decide +kernel
theorem dX8_undo_43 : decode cX8_undo 43 = .ok (.goto (-23), 3) := by decide +kernel
theorem dX8_undo_46 : decode cX8_undo 46 = .ok (.iconst 0, 1) := by decide +kernel
theorem dX8_undo_47 : decode cX8_undo 47 = .ok (.istore_n 1, 1) := by decide +kernel
theorem dX8_undo_48 : decode cX8_undo 48 = .ok (.iload_n 1, 1) := by decide +kernel
theorem dX8_undo_49 : decode cX8_undo 49 = .ok (.aload_n 0, 1) := by decide +kernel
theorem dX8_undo_50 : decode cX8_undo 50 = .ok (.getfield 158, 3) := by decide +kernel
theorem dX8_undo_53 : decode cX8_undo 53 = .ok (.if_icmp .ge 21, 3) := by decide +kernel
theorem dX8_undo_56 : decode cX8_undo 56 = .ok (.aload_n 0, 1) := by decide +kernel
theorem dX8_undo_57 : decode cX8_undo 57 = .ok (.getfield 42, 3) := by decide +kernel
theorem dX8_undo_60 : decode cX8_undo 60 = .ok (.iload_n 1, 1) := by decide +kernel
theorem dX8_undo_61 : decode cX8_undo 61 = .ok (.aload_n 0, 1) := by decide +kernel
theorem dX8_undo_62 : decode cX8_undo 62 = .ok (.getfield 45, 3) := by decide +kernel
theorem dX8_undo_65 : decode cX8_undo 65 = .ok (.iload_n 1, 1) := by decide +kernel
theorem dX8_undo_66 : decode cX8_undo 66 = .ok (.iaload, 1) := by decide +kernel
theorem dX8_undo_67 : decode cX8_undo 67 = .ok (.iastore, 1) := by decide +kernel
theorem dX8_undo_68 : decode cX8_undo 68 = .ok (.iinc 1 1, 3) := by decide +kernel
theorem dX8_undo_71 : decode cX8_undo 71 = .ok (.goto (-23), 3) := by decide +kernel
theorem dX8_undo_74 : decode cX8_undo 74 = .ok (.aload_n 0, 1) := by decide +kernel
theorem dX8_undo_75 : decode cX8_undo 75 = .ok (.aload_n 0, 1) := by decide +kernel
theorem dX8_undo_76 : decode cX8_undo 76 = .ok (.getfield 152, 3) := by decide +kernel
theorem dX8_undo_79 : decode cX8_undo 79 = .ok (.putfield 146, 3) := by decide +kernel
theorem dX8_undo_82 : decode cX8_undo 82 = .ok (.aload_n 0, 1) := by decide +kernel
theorem dX8_undo_83 : decode cX8_undo 83 = .ok (.aload_n 0, 1) := by decide +kernel
theorem dX8_undo_84 : decode cX8_undo 84 = .ok (.getfield 155, 3) := by decide +kernel
theorem dX8_undo_87 : decode cX8_undo 87 = .ok (.putfield 136, 3) := by decide +kernel
theorem dX8_undo_90 : decode cX8_undo 90 = .ok (.aload_n 0, 1) := by decide +kernel
theorem dX8_undo_91 : decode cX8_undo 91 = .ok (.aload_n 0, 1) := by decide +kernel
theorem dX8_undo_92 : decode cX8_undo 92 = .ok (.getfield 158, 3) := by decide +kernel
theorem dX8_undo_95 : decode cX8_undo 95 = .ok (.putfield 149, 3) := by decide +kernel
theorem dX8_undo_98 : decode cX8_undo 98 = .ok (.aload_n 0, 1) := by decide +kernel
theorem dX8_undo_99 : decode cX8_undo 99 = .ok (.iconst 0, 1) := by decide +kernel
theorem dX8_undo_100 : decode cX8_undo 100 = .ok (.putfield 183, 3) := by decide +kernel
theorem dX8_undo_103 : decode cX8_undo 103 = .ok (.aload_n 0, 1) := by decide +kernel
theorem dX8_undo_104 : decode cX8_undo 104 = .ok (.dup, 1) := by decide +kernel
theorem dX8_undo_105 : decode cX8_undo 105 = .ok (.getfield 176, 3) := by decide +kernel
theorem dX8_undo_108 : decode cX8_undo 108 = .ok (.iconst 1, 1) := by decide +kernel
theorem dX8_undo_109 : decode cX8_undo 109 = .ok (.isub, 1) := by decide +kernel
theorem dX8_undo_110 : decode cX8_undo 110 = .ok (.putfield 176, 3) := by decide +kernel
theorem dX8_undo_113 : decode cX8_undo 113 = .ok (.aload_n 0, 1) := by decide +kernel
theorem dX8_undo_114 : decode cX8_undo 114 = .ok (.dup, 1) := by decide +kernel
theorem dX8_undo_115 : decode cX8_undo 115 = .ok (.getfield 179, 3) := by decide +kernel
theorem dX8_undo_118 : decode cX8_undo 118 = .ok (.aload_n 0, 1) := by decide +kernel
theorem dX8_undo_119 : decode cX8_undo 119 = .ok (.getfield 164, 3) := by decide +kernel
theorem dX8_undo_122 : decode cX8_undo 122 = .ok (.i2l, 1) := by decide +kernel
theorem dX8_undo_123 : decode cX8_undo 123 = .ok (.lsub, 1) := by decide +kernel
theorem dX8_undo_124 : decode cX8_undo 124 = .ok (.putfield 179, 3) := by decide +kernel
theorem dX8_undo_127 : decode cX8_undo 127 = .ok (.aload_n 0, 1) := by decide +kernel
theorem dX8_undo_128 : decode cX8_undo 128 = .ok (.getfield 146, 3) := by decide +kernel
theorem dX8_undo_131 : decode cX8_undo 131 = .ok (.ireturn, 1) := by decide +kernel
theorem dX8_length_0 : decode cX8_length 0 = .ok (.aload_n 0, 1) := by decide +kernel
theorem dX8_length_1 : decode cX8_length 1 = .ok (.getfield 146, 3) := by decide +kernel
theorem dX8_length_4 : decode cX8_length 4 = .ok (.ireturn, 1) := by decide +kernel
theorem dX8_characterAt_0 : decode cX8_characterAt 0 = .ok (.aload_n 0, 1) := by decide +kernel
theorem dX8_characterAt_1 : decode cX8_characterAt 1 = .ok (.iload_n 1, 1) := by decide +kernel
theorem dX8_characterAt_2 : decode cX8_characterAt 2 = .ok (.iconst 0, 1) := by decide +kernel
theorem dX8_characterAt_3 : decode cX8_characterAt 3 = .ok (.aload_n 0, 1) := by decide +kernel
theorem dX8_characterAt_4 : decode cX8_characterAt 4 = .ok (.getfield 146, 3) := by decide +kernel
theorem dX8_characterAt_7 : decode cX8_characterAt 7 = .ok (.iconst 1, 1) := by decide +kernel
theorem dX8_characterAt_8 : decode cX8_characterAt 8 = .ok (.isub, 1) := by decide +kernel
theorem dX8_characterAt_9 : decode cX8_characterAt 9 = .ok (.invokestatic 67, 3) := by decide +kernel
theorem dX8_characterAt_12 : decode cX8_characterAt 12 = .ok (.ifCond .eq 7, 3) := by decide +kernel
theorem dX8_characterAt_15 : decode cX8_characterAt 15 = .ok (.iconst 0, 1) := by decide +kernel
theorem dX8_characterAt_16 : decode cX8_characterAt 16 = .ok (.goto 4, 3) := by decide +kernel
theorem dX8_characterAt_19 : decode cX8_characterAt 19 = .ok (.iconst 1, 1) := by decide +kernel
theorem dX8_characterAt_20 : decode cX8_characterAt 20 = .ok (.putfield 61, 3) := by decide +kernel
theorem dX8_characterAt_23 : decode cX8_characterAt 23 = .ok (.aload_n 0, 1) := by decide +kernel
theorem dX8_characterAt_24 : decode cX8_characterAt 24 = .ok (.getfield 61, 3) := by decide +kernel
theorem dX8_characterAt_27 : decode cX8_characterAt 27 = .ok (.ifCond .ne 12, 3) := by decide +kernel
theorem dX8_characterAt_30 : decode cX8_characterAt 30 = .ok (.aload_n 0, 1) := by decide +kernel
theorem dX8_characterAt_31 : decode cX8_characterAt 31 = .ok (.getfield 20, 3) := by decide +kernel
theorem dX8_characterAt_34 : decode cX8_characterAt 34 = .ok (.iload_n 1, 1) := by decide +kernel
theorem dX8_characterAt_35 : decode cX8_characterAt 35 = .ok (.caload, 1) := by decide +kernel
theorem dX8_characterAt_36 : decode cX8_characterAt 36 = .ok (.goto 5, 3) := by decide +kernel
theorem dX8_characterAt_39 : decode cX8_characterAt 39 = .ok (.bipush 32, 2) := by decide +kernel
theorem dX8_characterAt_41 : decode cX8_characterAt 41 = .ok (.ireturn, 1) := by decide +kernel
theorem dX8_caret_0 : decode cX8_caret 0 = .ok (.aload_n 0, 1) := by decide +kernel
theorem dX8_caret_1 : decode cX8_caret 1 = .ok (.getfield 136, 3) := by decide +kernel
theorem dX8_caret_4 : decode cX8_caret 4 = .ok (.ireturn, 1) := by decide +kernel
theorem dX8_stops_0 : decode cX8_stops 0 = .ok (.aload_n 0, 1) := by decide +kernel
theorem dX8_stops_1 : decode cX8_stops 1 = .ok (.getfield 149, 3) := by decide +kernel
theorem dX8_stops_4 : decode cX8_stops 4 = .ok (.ireturn, 1) := by decide +kernel
theorem dX8_stopAt_0 : decode cX8_stopAt 0 = .ok (.iload_n 1, 1) := by decide +kernel
theorem dX8_stopAt_1 : decode cX8_stopAt 1 = .ok (.iconst 0, 1) := by decide +kernel
theorem dX8_stopAt_2 : decode cX8_stopAt 2 = .ok (.aload_n 0, 1) := by decide +kernel
theorem dX8_stopAt_3 : decode cX8_stopAt 3 = .ok (.getfield 149, 3) := by decide +kernel
theorem dX8_stopAt_6 : decode cX8_stopAt 6 = .ok (.iconst 1, 1) := by decide +kernel
theorem dX8_stopAt_7 : decode cX8_stopAt 7 = .ok (.isub, 1) := by decide +kernel
theorem dX8_stopAt_8 : decode cX8_stopAt 8 = .ok (.invokestatic 67, 3) := by decide +kernel
theorem dX8_stopAt_11 : decode cX8_stopAt 11 = .ok (.ifCond .ne 9, 3) := by decide +kernel
theorem dX8_stopAt_14 : decode cX8_stopAt 14 = .ok (.aload_n 0, 1) := by decide +kernel
theorem dX8_stopAt_15 : decode cX8_stopAt 15 = .ok (.iconst 1, 1) := by decide +kernel
theorem dX8_stopAt_16 : decode cX8_stopAt 16 = .ok (.invokevirtual 75, 3) := by decide +kernel
theorem dX8_stopAt_19 : decode cX8_stopAt 19 = .ok (.ireturn, 1) := by decide +kernel
theorem dX8_stopAt_20 : decode cX8_stopAt 20 = .ok (.aload_n 0, 1) := by decide +kernel
theorem dX8_stopAt_21 : decode cX8_stopAt 21 = .ok (.iconst 0, 1) := by decide +kernel
theorem dX8_stopAt_22 : decode cX8_stopAt 22 = .ok (.putfield 61, 3) := by decide +kernel
theorem dX8_stopAt_25 : decode cX8_stopAt 25 = .ok (.aload_n 0, 1) := by decide +kernel
theorem dX8_stopAt_26 : decode cX8_stopAt 26 = .ok (.getfield 42, 3) := by decide +kernel
theorem dX8_stopAt_29 : decode cX8_stopAt 29 = .ok (.iload_n 1, 1) := by decide +kernel
theorem dX8_stopAt_30 : decode cX8_stopAt 30 = .ok (.iaload, 1) := by decide +kernel
theorem dX8_stopAt_31 : decode cX8_stopAt 31 = .ok (.ireturn, 1) := by decide +kernel
theorem dX8_saved_0 : decode cX8_saved 0 = .ok (.aload_n 0, 1) := by decide +kernel
theorem dX8_saved_1 : decode cX8_saved 1 = .ok (.getfield 179, 3) := by decide +kernel
theorem dX8_saved_4 : decode cX8_saved 4 = .ok (.lreturn, 1) := by decide +kernel
theorem dX8_keptShare_0 : decode cX8_keptShare 0 = .ok (.aload_n 0, 1) := by decide +kernel
theorem dX8_keptShare_1 : decode cX8_keptShare 1 = .ok (.aload_n 0, 1) := by decide +kernel
theorem dX8_keptShare_2 : decode cX8_keptShare 2 = .ok (.getfield 173, 3) := by decide +kernel
theorem dX8_keptShare_5 : decode cX8_keptShare 5 = .ok (.ifCond .ne 7, 3) := by decide +kernel
theorem dX8_keptShare_8 : decode cX8_keptShare 8 = .ok (.iconst 1, 1) := by decide +kernel
theorem dX8_keptShare_9 : decode cX8_keptShare 9 = .ok (.goto 4, 3) := by decide +kernel
theorem dX8_keptShare_12 : decode cX8_keptShare 12 = .ok (.iconst 0, 1) := by decide +kernel
theorem dX8_keptShare_13 : decode cX8_keptShare 13 = .ok (.putfield 61, 3) := by decide +kernel
theorem dX8_keptShare_16 : decode cX8_keptShare 16 = .ok (.aload_n 0, 1) := by decide +kernel
theorem dX8_keptShare_17 : decode cX8_keptShare 17 = .ok (.getfield 173, 3) := by decide +kernel
theorem dX8_keptShare_20 : decode cX8_keptShare 20 = .ok (.ifCond .ne 7, 3) := by decide +kernel
theorem dX8_keptShare_23 : decode cX8_keptShare 23 = .ok (.fconst 0, 1) := by decide +kernel
theorem dX8_keptShare_24 : decode cX8_keptShare 24 = .ok (.goto 14, 3) := by decide +kernel
theorem dX8_keptShare_27 : decode cX8_keptShare 27 = .ok (.aload_n 0, 1) := by decide +kernel
theorem dX8_keptShare_28 : decode cX8_keptShare 28 = .ok (.getfield 176, 3) := by decide +kernel
theorem dX8_keptShare_31 : decode cX8_keptShare 31 = .ok (.i2f, 1) := by decide +kernel
theorem dX8_keptShare_32 : decode cX8_keptShare 32 = .ok (.aload_n 0, 1) := by decide +kernel
theorem dX8_keptShare_33 : decode cX8_keptShare 33 = .ok (.getfield 173, 3) := by decide +kernel
theorem dX8_keptShare_36 : decode cX8_keptShare 36 = .ok (.i2f, 1) := by decide +kernel
theorem dX8_keptShare_37 : decode cX8_keptShare 37 = .ok (.fdiv, 1) := by decide +kernel
theorem dX8_keptShare_38 : decode cX8_keptShare 38 = .ok (.freturn, 1) := by decide +kernel
end
section
theorem dL_addSnippet_0 : decode cL_addSnippet 0 = .ok (.aload_n 2, 1) := by decide +kernel
theorem dL_addSnippet_1 : decode cL_addSnippet 1 = .ok (.iconst 0, 1) := by decide +kernel
theorem dL_addSnippet_2 : decode cL_addSnippet 2 = .ok (.aload_n 0, 1) := by decide +kernel
theorem dL_addSnippet_3 : decode cL_addSnippet 3 = .ok (.iload_n 1, 1) := by decide +kernel
theorem dL_addSnippet_4 : decode cL_addSnippet 4 = .ok (.invokevirtual 7, 3) := by decide +kernel
theorem dL_addSnippet_7 : decode cL_addSnippet 7 = .ok (.i2l, 1) := by decide +kernel
theorem dL_addSnippet_8 : decode cL_addSnippet 8 = .ok (.lastore, 1) := by decide +kernel
theorem dL_addSnippet_9 : decode cL_addSnippet 9 = .ok (.goto 6, 3) := by decide +kernel
theorem dL_addSnippet_12 : decode cL_addSnippet 12 = .ok (.astore_n 3, 1) := by decide +kernel
theorem dL_addSnippet_13 : decode cL_addSnippet 13 = .ok (.iconst 1, 1) := by decide +kernel
theorem dL_addSnippet_14 : decode cL_addSnippet 14 = .ok (.ireturn, 1) := by decide +kernel
theorem dL_addSnippet_15 : decode cL_addSnippet 15 = .ok (.iconst 0, 1) := by decide +kernel
theorem dL_addSnippet_16 : decode cL_addSnippet 16 = .ok (.ireturn, 1) := by decide +kernel
theorem dL_addToTrigger_0 : decode cL_addToTrigger 0 = .ok (.aload_n 3, 1) := by decide +kernel
theorem dL_addToTrigger_1 : decode cL_addToTrigger 1 = .ok (.iconst 0, 1) := by decide +kernel
theorem dL_addToTrigger_2 : decode cL_addToTrigger 2 = .ok (.aload_n 0, 1) := by decide +kernel
theorem dL_addToTrigger_3 : decode cL_addToTrigger 3 = .ok (.iload_n 1, 1) := by decide +kernel
theorem dL_addToTrigger_4 : decode cL_addToTrigger 4 = .ok (.iload_n 2, 1) := by decide +kernel
theorem dL_addToTrigger_5 : decode cL_addToTrigger 5 = .ok (.invokevirtual 15, 3) := by decide +kernel
theorem dL_addToTrigger_8 : decode cL_addToTrigger 8 = .ok (.i2l, 1) := by decide +kernel
theorem dL_addToTrigger_9 : decode cL_addToTrigger 9 = .ok (.lastore, 1) := by decide +kernel
theorem dL_addToTrigger_10 : decode cL_addToTrigger 10 = .ok (.goto 15, 3) := by decide +kernel
theorem dL_addToTrigger_13 : decode cL_addToTrigger 13 = .ok (.astore 4, 2) := by decide +kernel
theorem dL_addToTrigger_15 : decode cL_addToTrigger 15 = .ok (.iconst 1, 1) := by decide +kernel
theorem dL_addToTrigger_16 : decode cL_addToTrigger 16 = .ok (.ireturn, 1) := by decide +kernel
theorem dL_addToTrigger_17 : decode cL_addToTrigger 17 = .ok (.astore 4, 2) := by decide +kernel
theorem dL_addToTrigger_19 : decode cL_addToTrigger 19 = .ok (.iconst 2, 1) := by decide +kernel
theorem dL_addToTrigger_20 : decode cL_addToTrigger 20 = .ok (.ireturn, 1) := by decide +kernel
theorem dL_addToTrigger_21 : decode cL_addToTrigger 21 = .ok (.astore 4, 2) := by decide +kernel
theorem dL_addToTrigger_23 : decode cL_addToTrigger 23 = .ok (.iconst 3, 1) := by decide +kernel
theorem dL_addToTrigger_24 : decode cL_addToTrigger 24 = .ok (.ireturn, 1) := by decide +kernel
theorem dL_addToTrigger_25 : decode cL_addToTrigger 25 = .ok (.iconst 0, 1) := by decide +kernel
theorem dL_addToTrigger_26 : decode cL_addToTrigger 26 = .ok (.ireturn, 1) := by decide +kernel
theorem dL_clearTrigger_0 : decode cL_clearTrigger 0 = .ok (.aload_n 2, 1) := by decide +kernel
theorem dL_clearTrigger_1 : decode cL_clearTrigger 1 = .ok (.iconst 0, 1) := by decide +kernel
theorem dL_clearTrigger_2 : decode cL_clearTrigger 2 = .ok (.aload_n 0, 1) := by decide +kernel
theorem dL_clearTrigger_3 : decode cL_clearTrigger 3 = .ok (.iload_n 1, 1) := by decide +kernel
theorem dL_clearTrigger_4 : decode cL_clearTrigger 4 = .ok (.invokevirtual 23, 3) := by decide +kernel
theorem dL_clearTrigger_7 : decode cL_clearTrigger 7 = .ok (.i2l, 1) := by decide +kernel
theorem dL_clearTrigger_8 : decode cL_clearTrigger 8 = .ok (.lastore, 1) := by decide +kernel
theorem dL_clearTrigger_9 : decode cL_clearTrigger 9 = .ok (.goto 6, 3) := by decide +kernel
theorem dL_clearTrigger_12 : decode cL_clearTrigger 12 = .ok (.astore_n 3, 1) := by decide +kernel
theorem dL_clearTrigger_13 : decode cL_clearTrigger 13 = .ok (.iconst 1, 1) := by decide +kernel
theorem dL_clearTrigger_14 : decode cL_clearTrigger 14 = .ok (.ireturn, 1) := by decide +kernel
theorem dL_clearTrigger_15 : decode cL_clearTrigger 15 = .ok (.iconst 0, 1) := by decide +kernel
theorem dL_clearTrigger_16 : decode cL_clearTrigger 16 = .ok (.ireturn, 1) := by decide +kernel
theorem dL_setOn_0 : decode cL_setOn 0 = .ok (.aload_n 3, 1) := by decide +kernel
theorem dL_setOn_1 : decode cL_setOn 1 = .ok (.iconst 0, 1) := by decide +kernel
theorem dL_setOn_2 : decode cL_setOn 2 = .ok (.aload_n 0, 1) := by decide +kernel
theorem dL_setOn_3 : decode cL_setOn 3 = .ok (.iload_n 1, 1) := by decide +kernel
theorem dL_setOn_4 : decode cL_setOn 4 = .ok (.iload_n 2, 1) := by decide +kernel
theorem dL_setOn_5 : decode cL_setOn 5 = .ok (.invokevirtual 27, 3) := by decide +kernel
theorem dL_setOn_8 : decode cL_setOn 8 = .ok (.ifCond .eq 7, 3) := by decide +kernel
theorem dL_setOn_11 : decode cL_setOn 11 = .ok (.lconst 1, 1) := by decide +kernel
theorem dL_setOn_12 : decode cL_setOn 12 = .ok (.goto 4, 3) := by decide +kernel
theorem dL_setOn_15 : decode cL_setOn 15 = .ok (.lconst 0, 1) := by decide +kernel
theorem dL_setOn_16 : decode cL_setOn 16 = .ok (.lastore, 1) := by decide +kernel
theorem dL_setOn_17 : decode cL_setOn 17 = .ok (.goto 7, 3) := by decide +kernel
theorem dL_setOn_20 : decode cL_setOn 20 = .ok (.astore 4, 2) := by decide +kernel
theorem dL_setOn_22 : decode cL_setOn 22 = .ok (.iconst 1, 1) := by decide +kernel
theorem dL_setOn_23 : decode cL_setOn 23 = .ok (.ireturn, 1) := by decide +kernel
theorem dL_setOn_24 : decode cL_setOn 24 = .ok (.iconst 0, 1) := by decide +kernel
theorem dL_setOn_25 : decode cL_setOn 25 = .ok (.ireturn, 1) := by decide +kernel
theorem dL_putCharacter_0 : decode cL_putCharacter 0 = .ok (.aload_n 3, 1) := by decide +kernel
theorem dL_putCharacter_1 : decode cL_putCharacter 1 = .ok (.iconst 0, 1) := by decide +kernel
theorem dL_putCharacter_2 : decode cL_putCharacter 2 = .ok (.aload_n 0, 1) := by decide +kernel
theorem dL_putCharacter_3 : decode cL_putCharacter 3 = .ok (.iload_n 1, 1) := by decide +kernel
theorem dL_putCharacter_4 : decode cL_putCharacter 4 = .ok (.iload_n 2, 1) := by decide +kernel
theorem dL_putCharacter_5 : decode cL_putCharacter 5 = .ok (.invokevirtual 31, 3) := by decide +kernel
theorem dL_putCharacter_8 : decode cL_putCharacter 8 = .ok (.i2l, 1) := by decide +kernel
theorem dL_putCharacter_9 : decode cL_putCharacter 9 = .ok (.lastore, 1) := by decide +kernel
theorem dL_putCharacter_10 : decode cL_putCharacter 10 = .ok (.goto 15, 3) := by decide +kernel
theorem dL_putCharacter_13 : decode cL_putCharacter 13 = .ok (.astore 4, 2) := by decide +kernel
theorem dL_putCharacter_15 : decode cL_putCharacter 15 = .ok (.iconst 1, 1) := by decide +kernel
theorem dL_putCharacter_16 : decode cL_putCharacter 16 = .ok (.ireturn, 1) := by decide +kernel
theorem dL_putCharacter_17 : decode cL_putCharacter 17 = .ok (.astore 4, 2) := by decide +kernel
theorem dL_putCharacter_19 : decode cL_putCharacter 19 = .ok (.iconst 2, 1) := by decide +kernel
theorem dL_putCharacter_20 : decode cL_putCharacter 20 = .ok (.ireturn, 1) := by decide +kernel
theorem dL_putCharacter_21 : decode cL_putCharacter 21 = .ok (.astore 4, 2) := by decide +kernel
theorem dL_putCharacter_23 : decode cL_putCharacter 23 = .ok (.iconst 3, 1) := by decide +kernel
theorem dL_putCharacter_24 : decode cL_putCharacter 24 = .ok (.ireturn, 1) := by decide +kernel
theorem dL_putCharacter_25 : decode cL_putCharacter 25 = .ok (.iconst 0, 1) := by decide +kernel
theorem dL_putCharacter_26 : decode cL_putCharacter 26 = .ok (.ireturn, 1) := by decide +kernel
theorem dL_putSnippet_0 : decode cL_putSnippet 0 = .ok (.aload_n 3, 1) := by decide +kernel
theorem dL_putSnippet_1 : decode cL_putSnippet 1 = .ok (.iconst 0, 1) := by decide +kernel
theorem dL_putSnippet_2 : decode cL_putSnippet 2 = .ok (.aload_n 0, 1) := by decide +kernel
theorem dL_putSnippet_3 : decode cL_putSnippet 3 = .ok (.iload_n 1, 1) := by decide +kernel
theorem dL_putSnippet_4 : decode cL_putSnippet 4 = .ok (.iload_n 2, 1) := by decide +kernel
theorem dL_putSnippet_5 : decode cL_putSnippet 5 = .ok (.invokevirtual 34, 3) := by decide +kernel
theorem dL_putSnippet_8 : decode cL_putSnippet 8 = .ok (.i2l, 1) := by decide +kernel
theorem dL_putSnippet_9 : decode cL_putSnippet 9 = .ok (.lastore, 1) := by decide +kernel
theorem dL_putSnippet_10 : decode cL_putSnippet 10 = .ok (.goto 15, 3) := by decide +kernel
theorem dL_putSnippet_13 : decode cL_putSnippet 13 = .ok (.astore 4, 2) := by decide +kernel
theorem dL_putSnippet_15 : decode cL_putSnippet 15 = .ok (.iconst 1, 1) := by decide +kernel
theorem dL_putSnippet_16 : decode cL_putSnippet 16 = .ok (.ireturn, 1) := by decide +kernel
theorem dL_putSnippet_17 : decode cL_putSnippet 17 = .ok (.astore 4, 2) := by decide +kernel
theorem dL_putSnippet_19 : decode cL_putSnippet 19 = .ok (.iconst 2, 1) := by decide +kernel
theorem dL_putSnippet_20 : decode cL_putSnippet 20 = .ok (.ireturn, 1) := by decide +kernel
theorem dL_putSnippet_21 : decode cL_putSnippet 21 = .ok (.astore 4, 2) := by decide +kernel
theorem dL_putSnippet_23 : decode cL_putSnippet 23 = .ok (.iconst 3, 1) := by decide +kernel
theorem dL_putSnippet_24 : decode cL_putSnippet 24 = .ok (.ireturn, 1) := by decide +kernel
theorem dL_putSnippet_25 : decode cL_putSnippet 25 = .ok (.iconst 0, 1) := by decide +kernel
theorem dL_putSnippet_26 : decode cL_putSnippet 26 = .ok (.ireturn, 1) := by decide +kernel
theorem dL_putChoice_0 : decode cL_putChoice 0 = .ok (.aload 4, 2) := by decide +kernel
theorem dL_putChoice_2 : decode cL_putChoice 2 = .ok (.iconst 0, 1) := by decide +kernel
theorem dL_putChoice_3 : decode cL_putChoice 3 = .ok (.aload_n 0, 1) := by decide +kernel
theorem dL_putChoice_4 : decode cL_putChoice 4 = .ok (.iload_n 1, 1) := by decide +kernel
theorem dL_putChoice_5 : decode cL_putChoice 5 = .ok (.iload_n 2, 1) := by decide +kernel
theorem dL_putChoice_6 : decode cL_putChoice 6 = .ok (.iload_n 3, 1) := by decide +kernel
theorem dL_putChoice_7 : decode cL_putChoice 7 = .ok (.invokevirtual 40, 3) := by decide +kernel
theorem dL_putChoice_10 : decode cL_putChoice 10 = .ok (.i2l, 1) := by decide +kernel
theorem dL_putChoice_11 : decode cL_putChoice 11 = .ok (.lastore, 1) := by decide +kernel
theorem dL_putChoice_12 : decode cL_putChoice 12 = .ok (.goto 15, 3) := by decide +kernel
theorem dL_putChoice_15 : decode cL_putChoice 15 = .ok (.astore 5, 2) := by decide +kernel
theorem dL_putChoice_17 : decode cL_putChoice 17 = .ok (.iconst 1, 1) := by decide +kernel
theorem dL_putChoice_18 : decode cL_putChoice 18 = .ok (.ireturn, 1) := by decide +kernel
theorem dL_putChoice_19 : decode cL_putChoice 19 = .ok (.astore 5, 2) := by decide +kernel
theorem dL_putChoice_21 : decode cL_putChoice 21 = .ok (.iconst 2, 1) := by decide +kernel
theorem dL_putChoice_22 : decode cL_putChoice 22 = .ok (.ireturn, 1) := by decide +kernel
theorem dL_putChoice_23 : decode cL_putChoice 23 = .ok (.astore 5, 2) := by decide +kernel
theorem dL_putChoice_25 : decode cL_putChoice 25 = .ok (.iconst 3, 1) := by decide +kernel
theorem dL_putChoice_26 : decode cL_putChoice 26 = .ok (.ireturn, 1) := by decide +kernel
theorem dL_putChoice_27 : decode cL_putChoice 27 = .ok (.iconst 0, 1) := by decide +kernel
theorem dL_putChoice_28 : decode cL_putChoice 28 = .ok (.ireturn, 1) := by decide +kernel
theorem dL_putDate_0 : decode cL_putDate 0 = .ok (.aload 4, 2) := by decide +kernel
theorem dL_putDate_2 : decode cL_putDate 2 = .ok (.iconst 0, 1) := by decide +kernel
theorem dL_putDate_3 : decode cL_putDate 3 = .ok (.aload_n 0, 1) := by decide +kernel
theorem dL_putDate_4 : decode cL_putDate 4 = .ok (.iload_n 1, 1) := by decide +kernel
theorem dL_putDate_5 : decode cL_putDate 5 = .ok (.iload_n 2, 1) := by decide +kernel
theorem dL_putDate_6 : decode cL_putDate 6 = .ok (.iload_n 3, 1) := by decide +kernel
theorem dL_putDate_7 : decode cL_putDate 7 = .ok (.invokevirtual 44, 3) := by decide +kernel
theorem dL_putDate_10 : decode cL_putDate 10 = .ok (.i2l, 1) := by decide +kernel
theorem dL_putDate_11 : decode cL_putDate 11 = .ok (.lastore, 1) := by decide +kernel
theorem dL_putDate_12 : decode cL_putDate 12 = .ok (.goto 15, 3) := by decide +kernel
theorem dL_putDate_15 : decode cL_putDate 15 = .ok (.astore 5, 2) := by decide +kernel
theorem dL_putDate_17 : decode cL_putDate 17 = .ok (.iconst 1, 1) := by decide +kernel
theorem dL_putDate_18 : decode cL_putDate 18 = .ok (.ireturn, 1) := by decide +kernel
theorem dL_putDate_19 : decode cL_putDate 19 = .ok (.astore 5, 2) := by decide +kernel
theorem dL_putDate_21 : decode cL_putDate 21 = .ok (.iconst 2, 1) := by decide +kernel
theorem dL_putDate_22 : decode cL_putDate 22 = .ok (.ireturn, 1) := by decide +kernel
theorem dL_putDate_23 : decode cL_putDate 23 = .ok (.astore 5, 2) := by decide +kernel
theorem dL_putDate_25 : decode cL_putDate 25 = .ok (.iconst 3, 1) := by decide +kernel
theorem dL_putDate_26 : decode cL_putDate 26 = .ok (.ireturn, 1) := by decide +kernel
theorem dL_putDate_27 : decode cL_putDate 27 = .ok (.iconst 0, 1) := by decide +kernel
theorem dL_putDate_28 : decode cL_putDate 28 = .ok (.ireturn, 1) := by decide +kernel
theorem dL_putStop_0 : decode cL_putStop 0 = .ok (.aload_n 2, 1) := by decide +kernel
theorem dL_putStop_1 : decode cL_putStop 1 = .ok (.iconst 0, 1) := by decide +kernel
theorem dL_putStop_2 : decode cL_putStop 2 = .ok (.aload_n 0, 1) := by decide +kernel
theorem dL_putStop_3 : decode cL_putStop 3 = .ok (.iload_n 1, 1) := by decide +kernel
theorem dL_putStop_4 : decode cL_putStop 4 = .ok (.invokevirtual 48, 3) := by decide +kernel
theorem dL_putStop_7 : decode cL_putStop 7 = .ok (.i2l, 1) := by decide +kernel
theorem dL_putStop_8 : decode cL_putStop 8 = .ok (.lastore, 1) := by decide +kernel
theorem dL_putStop_9 : decode cL_putStop 9 = .ok (.goto 9, 3) := by decide +kernel
theorem dL_putStop_12 : decode cL_putStop 12 = .ok (.astore_n 3, 1) := by decide +kernel
theorem dL_putStop_13 : decode cL_putStop 13 = .ok (.iconst 1, 1) := by decide +kernel
theorem dL_putStop_14 : decode cL_putStop 14 = .ok (.ireturn, 1) := by decide +kernel
theorem dL_putStop_15 : decode cL_putStop 15 = .ok (.astore_n 3, 1) := by decide +kernel
theorem dL_putStop_16 : decode cL_putStop 16 = .ok (.iconst 2, 1) := by decide +kernel
theorem dL_putStop_17 : decode cL_putStop 17 = .ok (.ireturn, 1) := by decide +kernel
theorem dL_putStop_18 : decode cL_putStop 18 = .ok (.iconst 0, 1) := by decide +kernel
theorem dL_putStop_19 : decode cL_putStop 19 = .ok (.ireturn, 1) := by decide +kernel
theorem dL_clearBody_0 : decode cL_clearBody 0 = .ok (.aload_n 2, 1) := by decide +kernel
theorem dL_clearBody_1 : decode cL_clearBody 1 = .ok (.iconst 0, 1) := by decide +kernel
theorem dL_clearBody_2 : decode cL_clearBody 2 = .ok (.aload_n 0, 1) := by decide +kernel
theorem dL_clearBody_3 : decode cL_clearBody 3 = .ok (.iload_n 1, 1) := by decide +kernel
theorem dL_clearBody_4 : decode cL_clearBody 4 = .ok (.invokevirtual 51, 3) := by decide +kernel
theorem dL_clearBody_7 : decode cL_clearBody 7 = .ok (.i2l, 1) := by decide +kernel
theorem dL_clearBody_8 : decode cL_clearBody 8 = .ok (.lastore, 1) := by decide +kernel
theorem dL_clearBody_9 : decode cL_clearBody 9 = .ok (.goto 6, 3) := by decide +kernel
theorem dL_clearBody_12 : decode cL_clearBody 12 = .ok (.astore_n 3, 1) := by decide +kernel
theorem dL_clearBody_13 : decode cL_clearBody 13 = .ok (.iconst 1, 1) := by decide +kernel
theorem dL_clearBody_14 : decode cL_clearBody 14 = .ok (.ireturn, 1) := by decide +kernel
theorem dL_clearBody_15 : decode cL_clearBody 15 = .ok (.iconst 0, 1) := by decide +kernel
theorem dL_clearBody_16 : decode cL_clearBody 16 = .ok (.ireturn, 1) := by decide +kernel
theorem dL_choose_0 : decode cL_choose 0 = .ok (.aload_n 3, 1) := by decide +kernel
theorem dL_choose_1 : decode cL_choose 1 = .ok (.iconst 0, 1) := by decide +kernel
theorem dL_choose_2 : decode cL_choose 2 = .ok (.aload_n 0, 1) := by decide +kernel
theorem dL_choose_3 : decode cL_choose 3 = .ok (.iload_n 1, 1) := by decide +kernel
theorem dL_choose_4 : decode cL_choose 4 = .ok (.iload_n 2, 1) := by decide +kernel
theorem dL_choose_5 : decode cL_choose 5 = .ok (.invokevirtual 54, 3) := by decide +kernel
theorem dL_choose_8 : decode cL_choose 8 = .ok (.ifCond .eq 7, 3) := by decide +kernel
theorem dL_choose_11 : decode cL_choose 11 = .ok (.lconst 1, 1) := by decide +kernel
theorem dL_choose_12 : decode cL_choose 12 = .ok (.goto 4, 3) := by decide +kernel
theorem dL_choose_15 : decode cL_choose 15 = .ok (.lconst 0, 1) := by decide +kernel
theorem dL_choose_16 : decode cL_choose 16 = .ok (.lastore, 1) := by decide +kernel
theorem dL_choose_17 : decode cL_choose 17 = .ok (.goto 7, 3) := by decide +kernel
theorem dL_choose_20 : decode cL_choose 20 = .ok (.astore 4, 2) := by decide +kernel
theorem dL_choose_22 : decode cL_choose 22 = .ok (.iconst 1, 1) := by decide +kernel
theorem dL_choose_23 : decode cL_choose 23 = .ok (.ireturn, 1) := by decide +kernel
theorem dL_choose_24 : decode cL_choose 24 = .ok (.iconst 0, 1) := by decide +kernel
theorem dL_choose_25 : decode cL_choose 25 = .ok (.ireturn, 1) := by decide +kernel
theorem dL_setToday_0 : decode cL_setToday 0 = .ok (.aload_n 2, 1) := by decide +kernel
theorem dL_setToday_1 : decode cL_setToday 1 = .ok (.iconst 0, 1) := by decide +kernel
theorem dL_setToday_2 : decode cL_setToday 2 = .ok (.aload_n 0, 1) := by decide +kernel
theorem dL_setToday_3 : decode cL_setToday 3 = .ok (.iload_n 1, 1) := by decide +kernel
theorem dL_setToday_4 : decode cL_setToday 4 = .ok (.invokevirtual 57, 3) := by decide +kernel
theorem dL_setToday_7 : decode cL_setToday 7 = .ok (.i2l, 1) := by decide +kernel
theorem dL_setToday_8 : decode cL_setToday 8 = .ok (.lastore, 1) := by decide +kernel
theorem dL_setToday_9 : decode cL_setToday 9 = .ok (.goto 6, 3) := by decide +kernel
theorem dL_setToday_12 : decode cL_setToday 12 = .ok (.astore_n 3, 1) := by decide +kernel
theorem dL_setToday_13 : decode cL_setToday 13 = .ok (.iconst 1, 1) := by decide +kernel
theorem dL_setToday_14 : decode cL_setToday 14 = .ok (.ireturn, 1) := by decide +kernel
theorem dL_setToday_15 : decode cL_setToday 15 = .ok (.iconst 0, 1) := by decide +kernel
theorem dL_setToday_16 : decode cL_setToday 16 = .ok (.ireturn, 1) := by decide +kernel
theorem dL_lengthOf_0 : decode cL_lengthOf 0 = .ok (.aload_n 2, 1) := by decide +kernel
theorem dL_lengthOf_1 : decode cL_lengthOf 1 = .ok (.iconst 0, 1) := by decide +kernel
theorem dL_lengthOf_2 : decode cL_lengthOf 2 = .ok (.aload_n 0, 1) := by decide +kernel
theorem dL_lengthOf_3 : decode cL_lengthOf 3 = .ok (.iload_n 1, 1) := by decide +kernel
theorem dL_lengthOf_4 : decode cL_lengthOf 4 = .ok (.invokevirtual 60, 3) := by decide +kernel
theorem dL_lengthOf_7 : decode cL_lengthOf 7 = .ok (.i2l, 1) := by decide +kernel
theorem dL_lengthOf_8 : decode cL_lengthOf 8 = .ok (.lastore, 1) := by decide +kernel
theorem dL_lengthOf_9 : decode cL_lengthOf 9 = .ok (.goto 6, 3) := by decide +kernel
theorem dL_lengthOf_12 : decode cL_lengthOf 12 = .ok (.astore_n 3, 1) := by decide +kernel
theorem dL_lengthOf_13 : decode cL_lengthOf 13 = .ok (.iconst 1, 1) := by decide +kernel
theorem dL_lengthOf_14 : decode cL_lengthOf 14 = .ok (.ireturn, 1) := by decide +kernel
theorem dL_lengthOf_15 : decode cL_lengthOf 15 = .ok (.iconst 0, 1) := by decide +kernel
theorem dL_lengthOf_16 : decode cL_lengthOf 16 = .ok (.ireturn, 1) := by decide +kernel
theorem dL_characterOf_0 : decode cL_characterOf 0 = .ok (.aload_n 3, 1) := by decide +kernel
theorem dL_characterOf_1 : decode cL_characterOf 1 = .ok (.iconst 0, 1) := by decide +kernel
theorem dL_characterOf_2 : decode cL_characterOf 2 = .ok (.aload_n 0, 1) := by decide +kernel
theorem dL_characterOf_3 : decode cL_characterOf 3 = .ok (.iload_n 1, 1) := by decide +kernel
theorem dL_characterOf_4 : decode cL_characterOf 4 = .ok (.iload_n 2, 1) := by decide +kernel
theorem dL_characterOf_5 : decode cL_characterOf 5 = .ok (.invokevirtual 63, 3) := by decide +kernel
theorem dL_characterOf_8 : decode cL_characterOf 8 = .ok (.i2l, 1) := by decide +kernel
theorem dL_characterOf_9 : decode cL_characterOf 9 = .ok (.lastore, 1) := by decide +kernel
theorem dL_characterOf_10 : decode cL_characterOf 10 = .ok (.goto 11, 3) := by decide +kernel
theorem dL_characterOf_13 : decode cL_characterOf 13 = .ok (.astore 4, 2) := by decide +kernel
theorem dL_characterOf_15 : decode cL_characterOf 15 = .ok (.iconst 1, 1) := by decide +kernel
theorem dL_characterOf_16 : decode cL_characterOf 16 = .ok (.ireturn, 1) := by decide +kernel
theorem dL_characterOf_17 : decode cL_characterOf 17 = .ok (.astore 4, 2) := by decide +kernel
theorem dL_characterOf_19 : decode cL_characterOf 19 = .ok (.iconst 2, 1) := by decide +kernel
theorem dL_characterOf_20 : decode cL_characterOf 20 = .ok (.ireturn, 1) := by decide +kernel
theorem dL_characterOf_21 : decode cL_characterOf 21 = .ok (.iconst 0, 1) := by decide +kernel
theorem dL_characterOf_22 : decode cL_characterOf 22 = .ok (.ireturn, 1) := by decide +kernel
theorem dL_stopsOf_0 : decode cL_stopsOf 0 = .ok (.aload_n 2, 1) := by decide +kernel
theorem dL_stopsOf_1 : decode cL_stopsOf 1 = .ok (.iconst 0, 1) := by decide +kernel
theorem dL_stopsOf_2 : decode cL_stopsOf 2 = .ok (.aload_n 0, 1) := by decide +kernel
theorem dL_stopsOf_3 : decode cL_stopsOf 3 = .ok (.iload_n 1, 1) := by decide +kernel
theorem dL_stopsOf_4 : decode cL_stopsOf 4 = .ok (.invokevirtual 69, 3) := by decide +kernel
theorem dL_stopsOf_7 : decode cL_stopsOf 7 = .ok (.i2l, 1) := by decide +kernel
theorem dL_stopsOf_8 : decode cL_stopsOf 8 = .ok (.lastore, 1) := by decide +kernel
theorem dL_stopsOf_9 : decode cL_stopsOf 9 = .ok (.goto 6, 3) := by decide +kernel
theorem dL_stopsOf_12 : decode cL_stopsOf 12 = .ok (.astore_n 3, 1) := by decide +kernel
theorem dL_stopsOf_13 : decode cL_stopsOf 13 = .ok (.iconst 1, 1) := by decide +kernel
theorem dL_stopsOf_14 : decode cL_stopsOf 14 = .ok (.ireturn, 1) := by decide +kernel
theorem dL_stopsOf_15 : decode cL_stopsOf 15 = .ok (.iconst 0, 1) := by decide +kernel
theorem dL_stopsOf_16 : decode cL_stopsOf 16 = .ok (.ireturn, 1) := by decide +kernel
theorem dL_stopOf_0 : decode cL_stopOf 0 = .ok (.aload_n 3, 1) := by decide +kernel
theorem dL_stopOf_1 : decode cL_stopOf 1 = .ok (.iconst 0, 1) := by decide +kernel
theorem dL_stopOf_2 : decode cL_stopOf 2 = .ok (.aload_n 0, 1) := by decide +kernel
theorem dL_stopOf_3 : decode cL_stopOf 3 = .ok (.iload_n 1, 1) := by decide +kernel
theorem dL_stopOf_4 : decode cL_stopOf 4 = .ok (.iload_n 2, 1) := by decide +kernel
theorem dL_stopOf_5 : decode cL_stopOf 5 = .ok (.invokevirtual 72, 3) := by decide +kernel
theorem dL_stopOf_8 : decode cL_stopOf 8 = .ok (.i2l, 1) := by decide +kernel
theorem dL_stopOf_9 : decode cL_stopOf 9 = .ok (.lastore, 1) := by decide +kernel
theorem dL_stopOf_10 : decode cL_stopOf 10 = .ok (.goto 11, 3) := by decide +kernel
theorem dL_stopOf_13 : decode cL_stopOf 13 = .ok (.astore 4, 2) := by decide +kernel
theorem dL_stopOf_15 : decode cL_stopOf 15 = .ok (.iconst 1, 1) := by decide +kernel
theorem dL_stopOf_16 : decode cL_stopOf 16 = .ok (.ireturn, 1) := by decide +kernel
theorem dL_stopOf_17 : decode cL_stopOf 17 = .ok (.astore 4, 2) := by decide +kernel
theorem dL_stopOf_19 : decode cL_stopOf 19 = .ok (.iconst 2, 1) := by decide +kernel
theorem dL_stopOf_20 : decode cL_stopOf 20 = .ok (.ireturn, 1) := by decide +kernel
theorem dL_stopOf_21 : decode cL_stopOf 21 = .ok (.iconst 0, 1) := by decide +kernel
theorem dL_stopOf_22 : decode cL_stopOf 22 = .ok (.ireturn, 1) := by decide +kernel
theorem dL_comesTo_0 : decode cL_comesTo 0 = .ok (.aload_n 3, 1) := by decide +kernel
theorem dL_comesTo_1 : decode cL_comesTo 1 = .ok (.iconst 0, 1) := by decide +kernel
theorem dL_comesTo_2 : decode cL_comesTo 2 = .ok (.aload_n 0, 1) := by decide +kernel
theorem dL_comesTo_3 : decode cL_comesTo 3 = .ok (.iload_n 1, 1) := by decide +kernel
theorem dL_comesTo_4 : decode cL_comesTo 4 = .ok (.iload_n 2, 1) := by decide +kernel
theorem dL_comesTo_5 : decode cL_comesTo 5 = .ok (.invokevirtual 75, 3) := by decide +kernel
theorem dL_comesTo_8 : decode cL_comesTo 8 = .ok (.ifCond .eq 7, 3) := by decide +kernel
theorem dL_comesTo_11 : decode cL_comesTo 11 = .ok (.lconst 1, 1) := by decide +kernel
theorem dL_comesTo_12 : decode cL_comesTo 12 = .ok (.goto 4, 3) := by decide +kernel
theorem dL_comesTo_15 : decode cL_comesTo 15 = .ok (.lconst 0, 1) := by decide +kernel
theorem dL_comesTo_16 : decode cL_comesTo 16 = .ok (.lastore, 1) := by decide +kernel
theorem dL_comesTo_17 : decode cL_comesTo 17 = .ok (.goto 7, 3) := by decide +kernel
theorem dL_comesTo_20 : decode cL_comesTo 20 = .ok (.astore 4, 2) := by decide +kernel
theorem dL_comesTo_22 : decode cL_comesTo 22 = .ok (.iconst 1, 1) := by decide +kernel
theorem dL_comesTo_23 : decode cL_comesTo 23 = .ok (.ireturn, 1) := by decide +kernel
theorem dL_comesTo_24 : decode cL_comesTo 24 = .ok (.iconst 0, 1) := by decide +kernel
theorem dL_comesTo_25 : decode cL_comesTo 25 = .ok (.ireturn, 1) := by decide +kernel
theorem dL_depth_0 : decode cL_depth 0 = .ok (.aload_n 2, 1) := by decide +kernel
theorem dL_depth_1 : decode cL_depth 1 = .ok (.iconst 0, 1) := by decide +kernel
theorem dL_depth_2 : decode cL_depth 2 = .ok (.aload_n 0, 1) := by decide +kernel
theorem dL_depth_3 : decode cL_depth 3 = .ok (.iload_n 1, 1) := by decide +kernel
theorem dL_depth_4 : decode cL_depth 4 = .ok (.invokevirtual 79, 3) := by decide +kernel
theorem dL_depth_7 : decode cL_depth 7 = .ok (.i2l, 1) := by decide +kernel
theorem dL_depth_8 : decode cL_depth 8 = .ok (.lastore, 1) := by decide +kernel
theorem dL_depth_9 : decode cL_depth 9 = .ok (.goto 6, 3) := by decide +kernel
theorem dL_depth_12 : decode cL_depth 12 = .ok (.astore_n 3, 1) := by decide +kernel
theorem dL_depth_13 : decode cL_depth 13 = .ok (.iconst 1, 1) := by decide +kernel
theorem dL_depth_14 : decode cL_depth 14 = .ok (.ireturn, 1) := by decide +kernel
theorem dL_depth_15 : decode cL_depth 15 = .ok (.iconst 0, 1) := by decide +kernel
theorem dL_depth_16 : decode cL_depth 16 = .ok (.ireturn, 1) := by decide +kernel
theorem dL_isShadowedBy_0 : decode cL_isShadowedBy 0 = .ok (.aload_n 3, 1) := by decide +kernel
theorem dL_isShadowedBy_1 : decode cL_isShadowedBy 1 = .ok (.iconst 0, 1) := by decide +kernel
theorem dL_isShadowedBy_2 : decode cL_isShadowedBy 2 = .ok (.aload_n 0, 1) := by decide +kernel
theorem dL_isShadowedBy_3 : decode cL_isShadowedBy 3 = .ok (.iload_n 1, 1) := by decide +kernel
theorem dL_isShadowedBy_4 : decode cL_isShadowedBy 4 = .ok (.iload_n 2, 1) := by decide +kernel
theorem dL_isShadowedBy_5 : decode cL_isShadowedBy 5 = .ok (.invokevirtual 82, 3) := by decide +kernel
theorem dL_isShadowedBy_8 : decode cL_isShadowedBy 8 = .ok (.ifCond .eq 7, 3) := by decide +kernel
theorem dL_isShadowedBy_11 : decode cL_isShadowedBy 11 = .ok (.lconst 1, 1) := by decide +kernel
theorem dL_isShadowedBy_12 : decode cL_isShadowedBy 12 = .ok (.goto 4, 3) := by decide +kernel
theorem dL_isShadowedBy_15 : decode cL_isShadowedBy 15 = .ok (.lconst 0, 1) := by decide +kernel
theorem dL_isShadowedBy_16 : decode cL_isShadowedBy 16 = .ok (.lastore, 1) := by decide +kernel
theorem dL_isShadowedBy_17 : decode cL_isShadowedBy 17 = .ok (.goto 7, 3) := by decide +kernel
theorem dL_isShadowedBy_20 : decode cL_isShadowedBy 20 = .ok (.astore 4, 2) := by decide +kernel
theorem dL_isShadowedBy_22 : decode cL_isShadowedBy 22 = .ok (.iconst 1, 1) := by decide +kernel
theorem dL_isShadowedBy_23 : decode cL_isShadowedBy 23 = .ok (.ireturn, 1) := by decide +kernel
theorem dL_isShadowedBy_24 : decode cL_isShadowedBy 24 = .ok (.iconst 0, 1) := by decide +kernel
theorem dL_isShadowedBy_25 : decode cL_isShadowedBy 25 = .ok (.ireturn, 1) := by decide +kernel
theorem dL_shadower_0 : decode cL_shadower 0 = .ok (.aload_n 2, 1) := by decide +kernel
theorem dL_shadower_1 : decode cL_shadower 1 = .ok (.iconst 0, 1) := by decide +kernel
theorem dL_shadower_2 : decode cL_shadower 2 = .ok (.aload_n 0, 1) := by decide +kernel
theorem dL_shadower_3 : decode cL_shadower 3 = .ok (.iload_n 1, 1) := by decide +kernel
theorem dL_shadower_4 : decode cL_shadower 4 = .ok (.invokevirtual 85, 3) := by decide +kernel
theorem dL_shadower_7 : decode cL_shadower 7 = .ok (.i2l, 1) := by decide +kernel
theorem dL_shadower_8 : decode cL_shadower 8 = .ok (.lastore, 1) := by decide +kernel
theorem dL_shadower_9 : decode cL_shadower 9 = .ok (.goto 9, 3) := by decide +kernel
theorem dL_shadower_12 : decode cL_shadower 12 = .ok (.astore_n 3, 1) := by decide +kernel
theorem dL_shadower_13 : decode cL_shadower 13 = .ok (.iconst 1, 1) := by decide +kernel
theorem dL_shadower_14 : decode cL_shadower 14 = .ok (.ireturn, 1) := by decide +kernel
theorem dL_shadower_15 : decode cL_shadower 15 = .ok (.astore_n 3, 1) := by decide +kernel
theorem dL_shadower_16 : decode cL_shadower 16 = .ok (.iconst 2, 1) := by decide +kernel
theorem dL_shadower_17 : decode cL_shadower 17 = .ok (.ireturn, 1) := by decide +kernel
theorem dL_shadower_18 : decode cL_shadower 18 = .ok (.iconst 0, 1) := by decide +kernel
theorem dL_shadower_19 : decode cL_shadower 19 = .ok (.ireturn, 1) := by decide +kernel
theorem dL_key_0 : decode cL_key 0 = .ok (.aload_n 2, 1) := by decide +kernel
theorem dL_key_1 : decode cL_key 1 = .ok (.iconst 0, 1) := by decide +kernel
theorem dL_key_2 : decode cL_key 2 = .ok (.aload_n 0, 1) := by decide +kernel
theorem dL_key_3 : decode cL_key 3 = .ok (.iload_n 1, 1) := by decide +kernel
theorem dL_key_4 : decode cL_key 4 = .ok (.invokevirtual 88, 3) := by decide +kernel
theorem dL_key_7 : decode cL_key 7 = .ok (.i2l, 1) := by decide +kernel
theorem dL_key_8 : decode cL_key 8 = .ok (.lastore, 1) := by decide +kernel
theorem dL_key_9 : decode cL_key 9 = .ok (.goto 9, 3) := by decide +kernel
theorem dL_key_12 : decode cL_key 12 = .ok (.astore_n 3, 1) := by decide +kernel
theorem dL_key_13 : decode cL_key 13 = .ok (.iconst 1, 1) := by decide +kernel
theorem dL_key_14 : decode cL_key 14 = .ok (.ireturn, 1) := by decide +kernel
theorem dL_key_15 : decode cL_key 15 = .ok (.astore_n 3, 1) := by decide +kernel
theorem dL_key_16 : decode cL_key 16 = .ok (.iconst 2, 1) := by decide +kernel
theorem dL_key_17 : decode cL_key 17 = .ok (.ireturn, 1) := by decide +kernel
theorem dL_key_18 : decode cL_key 18 = .ok (.iconst 0, 1) := by decide +kernel
theorem dL_key_19 : decode cL_key 19 = .ok (.ireturn, 1) := by decide +kernel
theorem dL_erase_0 : decode cL_erase 0 = .ok (.aload_n 1, 1) := by decide +kernel
theorem dL_erase_1 : decode cL_erase 1 = .ok (.iconst 0, 1) := by decide +kernel
theorem dL_erase_2 : decode cL_erase 2 = .ok (.aload_n 0, 1) := by decide +kernel
theorem dL_erase_3 : decode cL_erase 3 = .ok (.invokevirtual 92, 3) := by decide +kernel
theorem dL_erase_6 : decode cL_erase 6 = .ok (.i2l, 1) := by decide +kernel
theorem dL_erase_7 : decode cL_erase 7 = .ok (.lastore, 1) := by decide +kernel
theorem dL_erase_8 : decode cL_erase 8 = .ok (.goto 6, 3) := by decide +kernel
theorem dL_erase_11 : decode cL_erase 11 = .ok (.astore_n 2, 1) := by decide +kernel
theorem dL_erase_12 : decode cL_erase 12 = .ok (.iconst 1, 1) := by decide +kernel
theorem dL_erase_13 : decode cL_erase 13 = .ok (.ireturn, 1) := by decide +kernel
theorem dL_erase_14 : decode cL_erase 14 = .ok (.iconst 0, 1) := by decide +kernel
theorem dL_erase_15 : decode cL_erase 15 = .ok (.ireturn, 1) := by decide +kernel
theorem dL_moveCaret_0 : decode cL_moveCaret 0 = .ok (.aload_n 2, 1) := by decide +kernel
theorem dL_moveCaret_1 : decode cL_moveCaret 1 = .ok (.iconst 0, 1) := by decide +kernel
theorem dL_moveCaret_2 : decode cL_moveCaret 2 = .ok (.aload_n 0, 1) := by decide +kernel
theorem dL_moveCaret_3 : decode cL_moveCaret 3 = .ok (.iload_n 1, 1) := by decide +kernel
theorem dL_moveCaret_4 : decode cL_moveCaret 4 = .ok (.invokevirtual 96, 3) := by decide +kernel
theorem dL_moveCaret_7 : decode cL_moveCaret 7 = .ok (.i2l, 1) := by decide +kernel
theorem dL_moveCaret_8 : decode cL_moveCaret 8 = .ok (.lastore, 1) := by decide +kernel
theorem dL_moveCaret_9 : decode cL_moveCaret 9 = .ok (.goto 6, 3) := by decide +kernel
theorem dL_moveCaret_12 : decode cL_moveCaret 12 = .ok (.astore_n 3, 1) := by decide +kernel
theorem dL_moveCaret_13 : decode cL_moveCaret 13 = .ok (.iconst 1, 1) := by decide +kernel
theorem dL_moveCaret_14 : decode cL_moveCaret 14 = .ok (.ireturn, 1) := by decide +kernel
theorem dL_moveCaret_15 : decode cL_moveCaret 15 = .ok (.iconst 0, 1) := by decide +kernel
theorem dL_moveCaret_16 : decode cL_moveCaret 16 = .ok (.ireturn, 1) := by decide +kernel
theorem dL_nextStop_0 : decode cL_nextStop 0 = .ok (.aload_n 1, 1) := by decide +kernel
theorem dL_nextStop_1 : decode cL_nextStop 1 = .ok (.iconst 0, 1) := by decide +kernel
theorem dL_nextStop_2 : decode cL_nextStop 2 = .ok (.aload_n 0, 1) := by decide +kernel
theorem dL_nextStop_3 : decode cL_nextStop 3 = .ok (.invokevirtual 99, 3) := by decide +kernel
theorem dL_nextStop_6 : decode cL_nextStop 6 = .ok (.i2l, 1) := by decide +kernel
theorem dL_nextStop_7 : decode cL_nextStop 7 = .ok (.lastore, 1) := by decide +kernel
theorem dL_nextStop_8 : decode cL_nextStop 8 = .ok (.goto 6, 3) := by decide +kernel
theorem dL_nextStop_11 : decode cL_nextStop 11 = .ok (.astore_n 2, 1) := by decide +kernel
theorem dL_nextStop_12 : decode cL_nextStop 12 = .ok (.iconst 1, 1) := by decide +kernel
theorem dL_nextStop_13 : decode cL_nextStop 13 = .ok (.ireturn, 1) := by decide +kernel
theorem dL_nextStop_14 : decode cL_nextStop 14 = .ok (.iconst 0, 1) := by decide +kernel
theorem dL_nextStop_15 : decode cL_nextStop 15 = .ok (.ireturn, 1) := by decide +kernel
theorem dL_undo_0 : decode cL_undo 0 = .ok (.aload_n 1, 1) := by decide +kernel
theorem dL_undo_1 : decode cL_undo 1 = .ok (.iconst 0, 1) := by decide +kernel
theorem dL_undo_2 : decode cL_undo 2 = .ok (.aload_n 0, 1) := by decide +kernel
theorem dL_undo_3 : decode cL_undo 3 = .ok (.invokevirtual 103, 3) := by decide +kernel
theorem dL_undo_6 : decode cL_undo 6 = .ok (.i2l, 1) := by decide +kernel
theorem dL_undo_7 : decode cL_undo 7 = .ok (.lastore, 1) := by decide +kernel
theorem dL_undo_8 : decode cL_undo 8 = .ok (.goto 6, 3) := by decide +kernel
theorem dL_undo_11 : decode cL_undo 11 = .ok (.astore_n 2, 1) := by decide +kernel
theorem dL_undo_12 : decode cL_undo 12 = .ok (.iconst 1, 1) := by decide +kernel
theorem dL_undo_13 : decode cL_undo 13 = .ok (.ireturn, 1) := by decide +kernel
theorem dL_undo_14 : decode cL_undo 14 = .ok (.iconst 0, 1) := by decide +kernel
theorem dL_undo_15 : decode cL_undo 15 = .ok (.ireturn, 1) := by decide +kernel
theorem dL_characterAt_0 : decode cL_characterAt 0 = .ok (.aload_n 2, 1) := by decide +kernel
theorem dL_characterAt_1 : decode cL_characterAt 1 = .ok (.iconst 0, 1) := by decide +kernel
theorem dL_characterAt_2 : decode cL_characterAt 2 = .ok (.aload_n 0, 1) := by decide +kernel
theorem dL_characterAt_3 : decode cL_characterAt 3 = .ok (.iload_n 1, 1) := by decide +kernel
theorem dL_characterAt_4 : decode cL_characterAt 4 = .ok (.invokevirtual 106, 3) := by decide +kernel
theorem dL_characterAt_7 : decode cL_characterAt 7 = .ok (.i2l, 1) := by decide +kernel
theorem dL_characterAt_8 : decode cL_characterAt 8 = .ok (.lastore, 1) := by decide +kernel
theorem dL_characterAt_9 : decode cL_characterAt 9 = .ok (.goto 6, 3) := by decide +kernel
theorem dL_characterAt_12 : decode cL_characterAt 12 = .ok (.astore_n 3, 1) := by decide +kernel
theorem dL_characterAt_13 : decode cL_characterAt 13 = .ok (.iconst 1, 1) := by decide +kernel
theorem dL_characterAt_14 : decode cL_characterAt 14 = .ok (.ireturn, 1) := by decide +kernel
theorem dL_characterAt_15 : decode cL_characterAt 15 = .ok (.iconst 0, 1) := by decide +kernel
theorem dL_characterAt_16 : decode cL_characterAt 16 = .ok (.ireturn, 1) := by decide +kernel
theorem dL_stopAt_0 : decode cL_stopAt 0 = .ok (.aload_n 2, 1) := by decide +kernel
theorem dL_stopAt_1 : decode cL_stopAt 1 = .ok (.iconst 0, 1) := by decide +kernel
theorem dL_stopAt_2 : decode cL_stopAt 2 = .ok (.aload_n 0, 1) := by decide +kernel
theorem dL_stopAt_3 : decode cL_stopAt 3 = .ok (.iload_n 1, 1) := by decide +kernel
theorem dL_stopAt_4 : decode cL_stopAt 4 = .ok (.invokevirtual 110, 3) := by decide +kernel
theorem dL_stopAt_7 : decode cL_stopAt 7 = .ok (.i2l, 1) := by decide +kernel
theorem dL_stopAt_8 : decode cL_stopAt 8 = .ok (.lastore, 1) := by decide +kernel
theorem dL_stopAt_9 : decode cL_stopAt 9 = .ok (.goto 6, 3) := by decide +kernel
theorem dL_stopAt_12 : decode cL_stopAt 12 = .ok (.astore_n 3, 1) := by decide +kernel
theorem dL_stopAt_13 : decode cL_stopAt 13 = .ok (.iconst 1, 1) := by decide +kernel
theorem dL_stopAt_14 : decode cL_stopAt 14 = .ok (.ireturn, 1) := by decide +kernel
theorem dL_stopAt_15 : decode cL_stopAt 15 = .ok (.iconst 0, 1) := by decide +kernel
theorem dL_stopAt_16 : decode cL_stopAt 16 = .ok (.ireturn, 1) := by decide +kernel
theorem dL_keptShare_0 : decode cL_keptShare 0 = .ok (.aload_n 1, 1) := by decide +kernel
theorem dL_keptShare_1 : decode cL_keptShare 1 = .ok (.iconst 0, 1) := by decide +kernel
theorem dL_keptShare_2 : decode cL_keptShare 2 = .ok (.aload_n 0, 1) := by decide +kernel
theorem dL_keptShare_3 : decode cL_keptShare 3 = .ok (.invokevirtual 113, 3) := by decide +kernel
theorem dL_keptShare_6 : decode cL_keptShare 6 = .ok (.f2d, 1) := by decide +kernel
theorem dL_keptShare_7 : decode cL_keptShare 7 = .ok (.dastore, 1) := by decide +kernel
theorem dL_keptShare_8 : decode cL_keptShare 8 = .ok (.goto 6, 3) := by decide +kernel
theorem dL_keptShare_11 : decode cL_keptShare 11 = .ok (.astore_n 2, 1) := by decide +kernel
theorem dL_keptShare_12 : decode cL_keptShare 12 = .ok (.iconst 1, 1) := by decide +kernel
theorem dL_keptShare_13 : decode cL_keptShare 13 = .ok (.ireturn, 1) := by decide +kernel
theorem dL_keptShare_14 : decode cL_keptShare 14 = .ok (.iconst 0, 1) := by decide +kernel
theorem dL_keptShare_15 : decode cL_keptShare 15 = .ok (.ireturn, 1) := by decide +kernel
theorem dL_law_0 : decode cL_law 0 = .ok (.new 8, 3) := by decide +kernel
theorem dL_law_3 : decode cL_law 3 = .ok (.dup, 1) := by decide +kernel
theorem dL_law_4 : decode cL_law 4 = .ok (.invokespecial 117, 3) := by decide +kernel
theorem dL_law_7 : decode cL_law 7 = .ok (.astore_n 1, 1) := by decide +kernel
theorem dL_law_8 : decode cL_law 8 = .ok (.new 118, 3) := by decide +kernel
theorem dL_law_11 : decode cL_law 11 = .ok (.dup, 1) := by decide +kernel
theorem dL_law_12 : decode cL_law 12 = .ok (.invokespecial 120, 3) := by decide +kernel
theorem dL_law_15 : decode cL_law 15 = .ok (.astore_n 2, 1) := by decide +kernel
theorem dL_law_16 : decode cL_law 16 = .ok (.iconst 1, 1) := by decide +kernel
theorem dL_law_17 : decode cL_law 17 = .ok (.newarray .long, 2) := by decide +kernel
theorem dL_law_19 : decode cL_law 19 = .ok (.astore_n 3, 1) := by decide +kernel
theorem dL_law_20 : decode cL_law 20 = .ok (.iconst 1, 1) := by decide +kernel
theorem dL_law_21 : decode cL_law 21 = .ok (.newarray .double, 2) := by decide +kernel
theorem dL_law_23 : decode cL_law 23 = .ok (.astore 4, 2) := by decide +kernel
theorem dL_law_25 : decode cL_law 25 = .ok (.iconst 0, 1) := by decide +kernel
theorem dL_law_26 : decode cL_law 26 = .ok (.istore 5, 2) := by decide +kernel
theorem dL_law_28 : decode cL_law 28 = .ok (.iload 5, 2) := by decide +kernel
theorem dL_law_30 : decode cL_law 30 = .ok (.aload_n 0, 1) := by decide +kernel
theorem dL_law_31 : decode cL_law 31 = .ok (.arraylength, 1) := by decide +kernel
theorem dL_law_32 : decode cL_law 32 = .ok (.iconst 4, 1) := by decide +kernel
theorem dL_law_33 : decode cL_law 33 = .ok (.isub, 1) := by decide +kernel
theorem dL_law_34 : decode cL_law 34 = .ok (.if_icmp .gt 2046, 3) := by decide +kernel
theorem dL_law_37 : decode cL_law 37 = .ok (.aload_n 0, 1) := by decide +kernel
theorem dL_law_38 : decode cL_law 38 = .ok (.iload 5, 2) := by decide +kernel
theorem dL_law_40 : decode cL_law 40 = .ok (.iaload, 1) := by decide +kernel
theorem dL_law_41 : decode cL_law 41 = .ok (.bipush 63, 2) := by decide +kernel
theorem dL_law_43 : decode cL_law 43 = .ok (.iand, 1) := by decide +kernel
theorem dL_law_44 : decode cL_law 44 = .ok (.tableswitch 2030 0 34 #[156, 228, 298, 354, 445, 515, 583, 663, 745, 801, 857, 948, 1004, 1060, 1128, 1184, 1252, 1327, 1383, 1458, 1514, 1527, 1585, 1629, 1685, 1729, 1773, 1786, 1842, 1855, 1868, 1924, 1937, 1950, 1964], 156) := by decide +kernel
theorem dL_law_200 : decode cL_law 200 = .ok (.aload_n 1, 1) := by decide +kernel
theorem dL_law_201 : decode cL_law 201 = .ok (.aload_n 0, 1) := by decide +kernel
theorem dL_law_202 : decode cL_law 202 = .ok (.iload 5, 2) := by decide +kernel
theorem dL_law_204 : decode cL_law 204 = .ok (.iconst 1, 1) := by decide +kernel
theorem dL_law_205 : decode cL_law 205 = .ok (.iadd, 1) := by decide +kernel
theorem dL_law_206 : decode cL_law 206 = .ok (.iaload, 1) := by decide +kernel
theorem dL_law_207 : decode cL_law 207 = .ok (.ifCond .eq 7, 3) := by decide +kernel
theorem dL_law_210 : decode cL_law 210 = .ok (.iconst 1, 1) := by decide +kernel
theorem dL_law_211 : decode cL_law 211 = .ok (.goto 4, 3) := by decide +kernel
theorem dL_law_214 : decode cL_law 214 = .ok (.iconst 0, 1) := by decide +kernel
theorem dL_law_215 : decode cL_law 215 = .ok (.aload_n 3, 1) := by decide +kernel
theorem dL_law_216 : decode cL_law 216 = .ok (.invokestatic 121, 3) := by decide +kernel
theorem dL_law_219 : decode cL_law 219 = .ok (.istore 6, 2) := by decide +kernel
theorem dL_law_221 : decode cL_law 221 = .ok (.aload_n 2, 1) := by decide +kernel
theorem dL_law_222 : decode cL_law 222 = .ok (.aload_n 0, 1) := by decide +kernel
theorem dL_law_223 : decode cL_law 223 = .ok (.iload 5, 2) := by decide +kernel
theorem dL_law_225 : decode cL_law 225 = .ok (.iconst 1, 1) := by decide +kernel
theorem dL_law_226 : decode cL_law 226 = .ok (.iadd, 1) := by decide +kernel
theorem dL_law_227 : decode cL_law 227 = .ok (.iaload, 1) := by decide +kernel
theorem dL_law_228 : decode cL_law 228 = .ok (.ifCond .eq 7, 3) := by decide +kernel
theorem dL_law_231 : decode cL_law 231 = .ok (.iconst 1, 1) := by decide +kernel
theorem dL_law_232 : decode cL_law 232 = .ok (.goto 4, 3) := by decide +kernel
theorem dL_law_235 : decode cL_law 235 = .ok (.iconst 0, 1) := by decide +kernel
theorem dL_law_236 : decode cL_law 236 = .ok (.invokevirtual 126, 3) := by decide +kernel
theorem dL_law_239 : decode cL_law 239 = .ok (.istore 7, 2) := by decide +kernel
theorem dL_law_241 : decode cL_law 241 = .ok (.aload_n 2, 1) := by decide +kernel
theorem dL_law_242 : decode cL_law 242 = .ok (.invokevirtual 127, 3) := by decide +kernel
theorem dL_law_245 : decode cL_law 245 = .ok (.iload 6, 2) := by decide +kernel
theorem dL_law_247 : decode cL_law 247 = .ok (.if_icmp .eq 5, 3) := by decide +kernel
theorem dL_law_250 : decode cL_law 250 = .ok (.iconst 0, 1) := by decide +kernel
theorem dL_law_251 : decode cL_law 251 = .ok (.ireturn, 1) := by decide +kernel
theorem dL_law_252 : decode cL_law 252 = .ok (.iload 6, 2) := by decide +kernel
theorem dL_law_254 : decode cL_law 254 = .ok (.ifCond .ne 15, 3) := by decide +kernel
theorem dL_law_257 : decode cL_law 257 = .ok (.aload_n 3, 1) := by decide +kernel
theorem dL_law_258 : decode cL_law 258 = .ok (.iconst 0, 1) := by decide +kernel
theorem dL_law_259 : decode cL_law 259 = .ok (.laload, 1) := by decide +kernel
theorem dL_law_260 : decode cL_law 260 = .ok (.iload 7, 2) := by decide +kernel
theorem dL_law_262 : decode cL_law 262 = .ok (.i2l, 1) := by decide +kernel
theorem dL_law_263 : decode cL_law 263 = .ok (.lcmp, 1) := by decide +kernel
theorem dL_law_264 : decode cL_law 264 = .ok (.ifCond .eq 5, 3) := by decide +kernel
theorem dL_law_267 : decode cL_law 267 = .ok (.iconst 0, 1) := by decide +kernel
theorem dL_law_268 : decode cL_law 268 = .ok (.ireturn, 1) := by decide +kernel
theorem dL_law_269 : decode cL_law 269 = .ok (.goto 1805, 3) := by decide +kernel
theorem dL_law_272 : decode cL_law 272 = .ok (.aload_n 1, 1) := by decide +kernel
theorem dL_law_273 : decode cL_law 273 = .ok (.aload_n 0, 1) := by decide +kernel
theorem dL_law_274 : decode cL_law 274 = .ok (.iload 5, 2) := by decide +kernel
theorem dL_law_276 : decode cL_law 276 = .ok (.iconst 1, 1) := by decide +kernel
theorem dL_law_277 : decode cL_law 277 = .ok (.iadd, 1) := by decide +kernel
theorem dL_law_278 : decode cL_law 278 = .ok (.iaload, 1) := by decide +kernel
theorem dL_law_279 : decode cL_law 279 = .ok (.aload_n 0, 1) := by decide +kernel
theorem dL_law_280 : decode cL_law 280 = .ok (.iload 5, 2) := by decide +kernel
theorem dL_law_282 : decode cL_law 282 = .ok (.iconst 2, 1) := by decide +kernel
theorem dL_law_283 : decode cL_law 283 = .ok (.iadd, 1) := by decide +kernel
theorem dL_law_284 : decode cL_law 284 = .ok (.iaload, 1) := by decide +kernel
theorem dL_law_285 : decode cL_law 285 = .ok (.i2c, 1) := by decide +kernel
theorem dL_law_286 : decode cL_law 286 = .ok (.aload_n 3, 1) := by decide +kernel
theorem dL_law_287 : decode cL_law 287 = .ok (.invokestatic 130, 3) := by decide +kernel
theorem dL_law_290 : decode cL_law 290 = .ok (.istore 6, 2) := by decide +kernel
theorem dL_law_292 : decode cL_law 292 = .ok (.aload_n 2, 1) := by decide +kernel
theorem dL_law_293 : decode cL_law 293 = .ok (.aload_n 0, 1) := by decide +kernel
theorem dL_law_294 : decode cL_law 294 = .ok (.iload 5, 2) := by decide +kernel
theorem dL_law_296 : decode cL_law 296 = .ok (.iconst 1, 1) := by decide +kernel
theorem dL_law_297 : decode cL_law 297 = .ok (.iadd, 1) := by decide +kernel
theorem dL_law_298 : decode cL_law 298 = .ok (.iaload, 1) := by decide +kernel
theorem dL_law_299 : decode cL_law 299 = .ok (.aload_n 0, 1) := by decide +kernel
theorem dL_law_300 : decode cL_law 300 = .ok (.iload 5, 2) := by decide +kernel
theorem dL_law_302 : decode cL_law 302 = .ok (.iconst 2, 1) := by decide +kernel
theorem dL_law_303 : decode cL_law 303 = .ok (.iadd, 1) := by decide +kernel
theorem dL_law_304 : decode cL_law 304 = .ok (.iaload, 1) := by decide +kernel
theorem dL_law_305 : decode cL_law 305 = .ok (.i2c, 1) := by decide +kernel
theorem dL_law_306 : decode cL_law 306 = .ok (.invokevirtual 133, 3) := by decide +kernel
theorem dL_law_309 : decode cL_law 309 = .ok (.istore 7, 2) := by decide +kernel
theorem dL_law_311 : decode cL_law 311 = .ok (.aload_n 2, 1) := by decide +kernel
theorem dL_law_312 : decode cL_law 312 = .ok (.invokevirtual 127, 3) := by decide +kernel
theorem dL_law_315 : decode cL_law 315 = .ok (.iload 6, 2) := by decide +kernel
theorem dL_law_317 : decode cL_law 317 = .ok (.if_icmp .eq 5, 3) := by decide +kernel
theorem dL_law_320 : decode cL_law 320 = .ok (.iconst 0, 1) := by decide +kernel
theorem dL_law_321 : decode cL_law 321 = .ok (.ireturn, 1) := by decide +kernel
theorem dL_law_322 : decode cL_law 322 = .ok (.iload 6, 2) := by decide +kernel
theorem dL_law_324 : decode cL_law 324 = .ok (.ifCond .ne 15, 3) := by decide +kernel
theorem dL_law_327 : decode cL_law 327 = .ok (.aload_n 3, 1) := by decide +kernel
theorem dL_law_328 : decode cL_law 328 = .ok (.iconst 0, 1) := by decide +kernel
theorem dL_law_329 : decode cL_law 329 = .ok (.laload, 1) := by decide +kernel
theorem dL_law_330 : decode cL_law 330 = .ok (.iload 7, 2) := by decide +kernel
theorem dL_law_332 : decode cL_law 332 = .ok (.i2l, 1) := by decide +kernel
theorem dL_law_333 : decode cL_law 333 = .ok (.lcmp, 1) := by decide +kernel
theorem dL_law_334 : decode cL_law 334 = .ok (.ifCond .eq 5, 3) := by decide +kernel
theorem dL_law_337 : decode cL_law 337 = .ok (.iconst 0, 1) := by decide +kernel
theorem dL_law_338 : decode cL_law 338 = .ok (.ireturn, 1) := by decide +kernel
theorem dL_law_339 : decode cL_law 339 = .ok (.goto 1735, 3) := by decide +kernel
theorem dL_law_342 : decode cL_law 342 = .ok (.aload_n 1, 1) := by decide +kernel
theorem dL_law_343 : decode cL_law 343 = .ok (.aload_n 0, 1) := by decide +kernel
theorem dL_law_344 : decode cL_law 344 = .ok (.iload 5, 2) := by decide +kernel
theorem dL_law_346 : decode cL_law 346 = .ok (.iconst 1, 1) := by decide +kernel
theorem dL_law_347 : decode cL_law 347 = .ok (.iadd, 1) := by decide +kernel
theorem dL_law_348 : decode cL_law 348 = .ok (.iaload, 1) := by decide +kernel
theorem dL_law_349 : decode cL_law 349 = .ok (.aload_n 3, 1) := by decide +kernel
theorem dL_law_350 : decode cL_law 350 = .ok (.invokestatic 134, 3) := by decide +kernel
theorem dL_law_353 : decode cL_law 353 = .ok (.istore 6, 2) := by decide +kernel
theorem dL_law_355 : decode cL_law 355 = .ok (.aload_n 2, 1) := by decide +kernel
theorem dL_law_356 : decode cL_law 356 = .ok (.aload_n 0, 1) := by decide +kernel
theorem dL_law_357 : decode cL_law 357 = .ok (.iload 5, 2) := by decide +kernel
theorem dL_law_359 : decode cL_law 359 = .ok (.iconst 1, 1) := by decide +kernel
theorem dL_law_360 : decode cL_law 360 = .ok (.iadd, 1) := by decide +kernel
theorem dL_law_361 : decode cL_law 361 = .ok (.iaload, 1) := by decide +kernel
theorem dL_law_362 : decode cL_law 362 = .ok (.invokevirtual 137, 3) := by decide +kernel
theorem dL_law_365 : decode cL_law 365 = .ok (.istore 7, 2) := by decide +kernel
theorem dL_law_367 : decode cL_law 367 = .ok (.aload_n 2, 1) := by decide +kernel
theorem dL_law_368 : decode cL_law 368 = .ok (.invokevirtual 127, 3) := by decide +kernel
theorem dL_law_371 : decode cL_law 371 = .ok (.iload 6, 2) := by decide +kernel
theorem dL_law_373 : decode cL_law 373 = .ok (.if_icmp .eq 5, 3) := by decide +kernel
theorem dL_law_376 : decode cL_law 376 = .ok (.iconst 0, 1) := by decide +kernel
theorem dL_law_377 : decode cL_law 377 = .ok (.ireturn, 1) := by decide +kernel
theorem dL_law_378 : decode cL_law 378 = .ok (.iload 6, 2) := by decide +kernel
theorem dL_law_380 : decode cL_law 380 = .ok (.ifCond .ne 15, 3) := by decide +kernel
theorem dL_law_383 : decode cL_law 383 = .ok (.aload_n 3, 1) := by decide +kernel
theorem dL_law_384 : decode cL_law 384 = .ok (.iconst 0, 1) := by decide +kernel
theorem dL_law_385 : decode cL_law 385 = .ok (.laload, 1) := by decide +kernel
theorem dL_law_386 : decode cL_law 386 = .ok (.iload 7, 2) := by decide +kernel
theorem dL_law_388 : decode cL_law 388 = .ok (.i2l, 1) := by decide +kernel
theorem dL_law_389 : decode cL_law 389 = .ok (.lcmp, 1) := by decide +kernel
theorem dL_law_390 : decode cL_law 390 = .ok (.ifCond .eq 5, 3) := by decide +kernel
theorem dL_law_393 : decode cL_law 393 = .ok (.iconst 0, 1) := by decide +kernel
theorem dL_law_394 : decode cL_law 394 = .ok (.ireturn, 1) := by decide +kernel
theorem dL_law_395 : decode cL_law 395 = .ok (.goto 1679, 3) := by decide +kernel
theorem dL_law_398 : decode cL_law 398 = .ok (.aload_n 1, 1) := by decide +kernel
theorem dL_law_399 : decode cL_law 399 = .ok (.aload_n 0, 1) := by decide +kernel
theorem dL_law_400 : decode cL_law 400 = .ok (.iload 5, 2) := by decide +kernel
theorem dL_law_402 : decode cL_law 402 = .ok (.iconst 1, 1) := by decide +kernel
theorem dL_law_403 : decode cL_law 403 = .ok (.iadd, 1) := by decide +kernel
theorem dL_law_404 : decode cL_law 404 = .ok (.iaload, 1) := by decide +kernel
theorem dL_law_405 : decode cL_law 405 = .ok (.aload_n 0, 1) := by decide +kernel
theorem dL_law_406 : decode cL_law 406 = .ok (.iload 5, 2) := by decide +kernel
theorem dL_law_408 : decode cL_law 408 = .ok (.iconst 2, 1) := by decide +kernel
theorem dL_law_409 : decode cL_law 409 = .ok (.iadd, 1) := by decide +kernel
theorem dL_law_410 : decode cL_law 410 = .ok (.iaload, 1) := by decide +kernel
theorem dL_law_411 : decode cL_law 411 = .ok (.ifCond .eq 7, 3) := by decide +kernel
theorem dL_law_414 : decode cL_law 414 = .ok (.iconst 1, 1) := by decide +kernel
theorem dL_law_415 : decode cL_law 415 = .ok (.goto 4, 3) := by decide +kernel
theorem dL_law_418 : decode cL_law 418 = .ok (.iconst 0, 1) := by decide +kernel
theorem dL_law_419 : decode cL_law 419 = .ok (.aload_n 3, 1) := by decide +kernel
theorem dL_law_420 : decode cL_law 420 = .ok (.invokestatic 138, 3) := by decide +kernel
theorem dL_law_423 : decode cL_law 423 = .ok (.istore 6, 2) := by decide +kernel
theorem dL_law_425 : decode cL_law 425 = .ok (.aload_n 2, 1) := by decide +kernel
theorem dL_law_426 : decode cL_law 426 = .ok (.aload_n 0, 1) := by decide +kernel
theorem dL_law_427 : decode cL_law 427 = .ok (.iload 5, 2) := by decide +kernel
theorem dL_law_429 : decode cL_law 429 = .ok (.iconst 1, 1) := by decide +kernel
theorem dL_law_430 : decode cL_law 430 = .ok (.iadd, 1) := by decide +kernel
theorem dL_law_431 : decode cL_law 431 = .ok (.iaload, 1) := by decide +kernel
theorem dL_law_432 : decode cL_law 432 = .ok (.aload_n 0, 1) := by decide +kernel
theorem dL_law_433 : decode cL_law 433 = .ok (.iload 5, 2) := by decide +kernel
theorem dL_law_435 : decode cL_law 435 = .ok (.iconst 2, 1) := by decide +kernel
theorem dL_law_436 : decode cL_law 436 = .ok (.iadd, 1) := by decide +kernel
theorem dL_law_437 : decode cL_law 437 = .ok (.iaload, 1) := by decide +kernel
theorem dL_law_438 : decode cL_law 438 = .ok (.ifCond .eq 7, 3) := by decide +kernel
theorem dL_law_441 : decode cL_law 441 = .ok (.iconst 1, 1) := by decide +kernel
theorem dL_law_442 : decode cL_law 442 = .ok (.goto 4, 3) := by decide +kernel
theorem dL_law_445 : decode cL_law 445 = .ok (.iconst 0, 1) := by decide +kernel
theorem dL_law_446 : decode cL_law 446 = .ok (.invokevirtual 141, 3) := by decide +kernel
theorem dL_law_449 : decode cL_law 449 = .ok (.istore 7, 2) := by decide +kernel
theorem dL_law_451 : decode cL_law 451 = .ok (.aload_n 2, 1) := by decide +kernel
theorem dL_law_452 : decode cL_law 452 = .ok (.invokevirtual 127, 3) := by decide +kernel
theorem dL_law_455 : decode cL_law 455 = .ok (.iload 6, 2) := by decide +kernel
theorem dL_law_457 : decode cL_law 457 = .ok (.if_icmp .eq 5, 3) := by decide +kernel
theorem dL_law_460 : decode cL_law 460 = .ok (.iconst 0, 1) := by decide +kernel
theorem dL_law_461 : decode cL_law 461 = .ok (.ireturn, 1) := by decide +kernel
theorem dL_law_462 : decode cL_law 462 = .ok (.iload 6, 2) := by decide +kernel
theorem dL_law_464 : decode cL_law 464 = .ok (.ifCond .ne 22, 3) := by decide +kernel
theorem dL_law_467 : decode cL_law 467 = .ok (.aload_n 3, 1) := by decide +kernel
theorem dL_law_468 : decode cL_law 468 = .ok (.iconst 0, 1) := by decide +kernel
theorem dL_law_469 : decode cL_law 469 = .ok (.laload, 1) := by decide +kernel
theorem dL_law_470 : decode cL_law 470 = .ok (.iload 7, 2) := by decide +kernel
theorem dL_law_472 : decode cL_law 472 = .ok (.ifCond .eq 7, 3) := by decide +kernel
theorem dL_law_475 : decode cL_law 475 = .ok (.lconst 1, 1) := by decide +kernel
theorem dL_law_476 : decode cL_law 476 = .ok (.goto 4, 3) := by decide +kernel
theorem dL_law_479 : decode cL_law 479 = .ok (.lconst 0, 1) := by decide +kernel
theorem dL_law_480 : decode cL_law 480 = .ok (.lcmp, 1) := by decide +kernel
theorem dL_law_481 : decode cL_law 481 = .ok (.ifCond .eq 5, 3) := by decide +kernel
theorem dL_law_484 : decode cL_law 484 = .ok (.iconst 0, 1) := by decide +kernel
theorem dL_law_485 : decode cL_law 485 = .ok (.ireturn, 1) := by decide +kernel
theorem dL_law_486 : decode cL_law 486 = .ok (.goto 1588, 3) := by decide +kernel
theorem dL_law_489 : decode cL_law 489 = .ok (.aload_n 1, 1) := by decide +kernel
theorem dL_law_490 : decode cL_law 490 = .ok (.aload_n 0, 1) := by decide +kernel
theorem dL_law_491 : decode cL_law 491 = .ok (.iload 5, 2) := by decide +kernel
theorem dL_law_493 : decode cL_law 493 = .ok (.iconst 1, 1) := by decide +kernel
theorem dL_law_494 : decode cL_law 494 = .ok (.iadd, 1) := by decide +kernel
theorem dL_law_495 : decode cL_law 495 = .ok (.iaload, 1) := by decide +kernel
theorem dL_law_496 : decode cL_law 496 = .ok (.aload_n 0, 1) := by decide +kernel
theorem dL_law_497 : decode cL_law 497 = .ok (.iload 5, 2) := by decide +kernel
theorem dL_law_499 : decode cL_law 499 = .ok (.iconst 2, 1) := by decide +kernel
theorem dL_law_500 : decode cL_law 500 = .ok (.iadd, 1) := by decide +kernel
theorem dL_law_501 : decode cL_law 501 = .ok (.iaload, 1) := by decide +kernel
theorem dL_law_502 : decode cL_law 502 = .ok (.i2c, 1) := by decide +kernel
theorem dL_law_503 : decode cL_law 503 = .ok (.aload_n 3, 1) := by decide +kernel
theorem dL_law_504 : decode cL_law 504 = .ok (.invokestatic 142, 3) := by decide +kernel
theorem dL_law_507 : decode cL_law 507 = .ok (.istore 6, 2) := by decide +kernel
theorem dL_law_509 : decode cL_law 509 = .ok (.aload_n 2, 1) := by decide +kernel
theorem dL_law_510 : decode cL_law 510 = .ok (.aload_n 0, 1) := by decide +kernel
theorem dL_law_511 : decode cL_law 511 = .ok (.iload 5, 2) := by decide +kernel
theorem dL_law_513 : decode cL_law 513 = .ok (.iconst 1, 1) := by decide +kernel
theorem dL_law_514 : decode cL_law 514 = .ok (.iadd, 1) := by decide +kernel
theorem dL_law_515 : decode cL_law 515 = .ok (.iaload, 1) := by decide +kernel
theorem dL_law_516 : decode cL_law 516 = .ok (.aload_n 0, 1) := by decide +kernel
theorem dL_law_517 : decode cL_law 517 = .ok (.iload 5, 2) := by decide +kernel
theorem dL_law_519 : decode cL_law 519 = .ok (.iconst 2, 1) := by decide +kernel
theorem dL_law_520 : decode cL_law 520 = .ok (.iadd, 1) := by decide +kernel
theorem dL_law_521 : decode cL_law 521 = .ok (.iaload, 1) := by decide +kernel
theorem dL_law_522 : decode cL_law 522 = .ok (.i2c, 1) := by decide +kernel
theorem dL_law_523 : decode cL_law 523 = .ok (.invokevirtual 144, 3) := by decide +kernel
theorem dL_law_526 : decode cL_law 526 = .ok (.istore 7, 2) := by decide +kernel
theorem dL_law_528 : decode cL_law 528 = .ok (.aload_n 2, 1) := by decide +kernel
theorem dL_law_529 : decode cL_law 529 = .ok (.invokevirtual 127, 3) := by decide +kernel
theorem dL_law_532 : decode cL_law 532 = .ok (.iload 6, 2) := by decide +kernel
theorem dL_law_534 : decode cL_law 534 = .ok (.if_icmp .eq 5, 3) := by decide +kernel
theorem dL_law_537 : decode cL_law 537 = .ok (.iconst 0, 1) := by decide +kernel
theorem dL_law_538 : decode cL_law 538 = .ok (.ireturn, 1) := by decide +kernel
theorem dL_law_539 : decode cL_law 539 = .ok (.iload 6, 2) := by decide +kernel
theorem dL_law_541 : decode cL_law 541 = .ok (.ifCond .ne 15, 3) := by decide +kernel
theorem dL_law_544 : decode cL_law 544 = .ok (.aload_n 3, 1) := by decide +kernel
theorem dL_law_545 : decode cL_law 545 = .ok (.iconst 0, 1) := by decide +kernel
theorem dL_law_546 : decode cL_law 546 = .ok (.laload, 1) := by decide +kernel
theorem dL_law_547 : decode cL_law 547 = .ok (.iload 7, 2) := by decide +kernel
theorem dL_law_549 : decode cL_law 549 = .ok (.i2l, 1) := by decide +kernel
theorem dL_law_550 : decode cL_law 550 = .ok (.lcmp, 1) := by decide +kernel
theorem dL_law_551 : decode cL_law 551 = .ok (.ifCond .eq 5, 3) := by decide +kernel
theorem dL_law_554 : decode cL_law 554 = .ok (.iconst 0, 1) := by decide +kernel
theorem dL_law_555 : decode cL_law 555 = .ok (.ireturn, 1) := by decide +kernel
theorem dL_law_556 : decode cL_law 556 = .ok (.goto 1518, 3) := by decide +kernel
theorem dL_law_559 : decode cL_law 559 = .ok (.aload_n 1, 1) := by decide +kernel
theorem dL_law_560 : decode cL_law 560 = .ok (.aload_n 0, 1) := by decide +kernel
theorem dL_law_561 : decode cL_law 561 = .ok (.iload 5, 2) := by decide +kernel
theorem dL_law_563 : decode cL_law 563 = .ok (.iconst 1, 1) := by decide +kernel
theorem dL_law_564 : decode cL_law 564 = .ok (.iadd, 1) := by decide +kernel
theorem dL_law_565 : decode cL_law 565 = .ok (.iaload, 1) := by decide +kernel
theorem dL_law_566 : decode cL_law 566 = .ok (.aload_n 0, 1) := by decide +kernel
theorem dL_law_567 : decode cL_law 567 = .ok (.iload 5, 2) := by decide +kernel
theorem dL_law_569 : decode cL_law 569 = .ok (.iconst 2, 1) := by decide +kernel
theorem dL_law_570 : decode cL_law 570 = .ok (.iadd, 1) := by decide +kernel
theorem dL_law_571 : decode cL_law 571 = .ok (.iaload, 1) := by decide +kernel
theorem dL_law_572 : decode cL_law 572 = .ok (.aload_n 3, 1) := by decide +kernel
theorem dL_law_573 : decode cL_law 573 = .ok (.invokestatic 145, 3) := by decide +kernel
theorem dL_law_576 : decode cL_law 576 = .ok (.istore 6, 2) := by decide +kernel
theorem dL_law_578 : decode cL_law 578 = .ok (.aload_n 2, 1) := by decide +kernel
theorem dL_law_579 : decode cL_law 579 = .ok (.aload_n 0, 1) := by decide +kernel
theorem dL_law_580 : decode cL_law 580 = .ok (.iload 5, 2) := by decide +kernel
theorem dL_law_582 : decode cL_law 582 = .ok (.iconst 1, 1) := by decide +kernel
theorem dL_law_583 : decode cL_law 583 = .ok (.iadd, 1) := by decide +kernel
theorem dL_law_584 : decode cL_law 584 = .ok (.iaload, 1) := by decide +kernel
theorem dL_law_585 : decode cL_law 585 = .ok (.aload_n 0, 1) := by decide +kernel
theorem dL_law_586 : decode cL_law 586 = .ok (.iload 5, 2) := by decide +kernel
theorem dL_law_588 : decode cL_law 588 = .ok (.iconst 2, 1) := by decide +kernel
theorem dL_law_589 : decode cL_law 589 = .ok (.iadd, 1) := by decide +kernel
theorem dL_law_590 : decode cL_law 590 = .ok (.iaload, 1) := by decide +kernel
theorem dL_law_591 : decode cL_law 591 = .ok (.invokevirtual 148, 3) := by decide +kernel
theorem dL_law_594 : decode cL_law 594 = .ok (.istore 7, 2) := by decide +kernel
theorem dL_law_596 : decode cL_law 596 = .ok (.aload_n 2, 1) := by decide +kernel
theorem dL_law_597 : decode cL_law 597 = .ok (.invokevirtual 127, 3) := by decide +kernel
theorem dL_law_600 : decode cL_law 600 = .ok (.iload 6, 2) := by decide +kernel
theorem dL_law_602 : decode cL_law 602 = .ok (.if_icmp .eq 5, 3) := by decide +kernel
theorem dL_law_605 : decode cL_law 605 = .ok (.iconst 0, 1) := by decide +kernel
theorem dL_law_606 : decode cL_law 606 = .ok (.ireturn, 1) := by decide +kernel
theorem dL_law_607 : decode cL_law 607 = .ok (.iload 6, 2) := by decide +kernel
theorem dL_law_609 : decode cL_law 609 = .ok (.ifCond .ne 15, 3) := by decide +kernel
theorem dL_law_612 : decode cL_law 612 = .ok (.aload_n 3, 1) := by decide +kernel
theorem dL_law_613 : decode cL_law 613 = .ok (.iconst 0, 1) := by decide +kernel
theorem dL_law_614 : decode cL_law 614 = .ok (.laload, 1) := by decide +kernel
theorem dL_law_615 : decode cL_law 615 = .ok (.iload 7, 2) := by decide +kernel
theorem dL_law_617 : decode cL_law 617 = .ok (.i2l, 1) := by decide +kernel
theorem dL_law_618 : decode cL_law 618 = .ok (.lcmp, 1) := by decide +kernel
theorem dL_law_619 : decode cL_law 619 = .ok (.ifCond .eq 5, 3) := by decide +kernel
theorem dL_law_622 : decode cL_law 622 = .ok (.iconst 0, 1) := by decide +kernel
theorem dL_law_623 : decode cL_law 623 = .ok (.ireturn, 1) := by decide +kernel
theorem dL_law_624 : decode cL_law 624 = .ok (.goto 1450, 3) := by decide +kernel
theorem dL_law_627 : decode cL_law 627 = .ok (.aload_n 1, 1) := by decide +kernel
theorem dL_law_628 : decode cL_law 628 = .ok (.aload_n 0, 1) := by decide +kernel
theorem dL_law_629 : decode cL_law 629 = .ok (.iload 5, 2) := by decide +kernel
theorem dL_law_631 : decode cL_law 631 = .ok (.iconst 1, 1) := by decide +kernel
theorem dL_law_632 : decode cL_law 632 = .ok (.iadd, 1) := by decide +kernel
theorem dL_law_633 : decode cL_law 633 = .ok (.iaload, 1) := by decide +kernel
theorem dL_law_634 : decode cL_law 634 = .ok (.aload_n 0, 1) := by decide +kernel
theorem dL_law_635 : decode cL_law 635 = .ok (.iload 5, 2) := by decide +kernel
theorem dL_law_637 : decode cL_law 637 = .ok (.iconst 2, 1) := by decide +kernel
theorem dL_law_638 : decode cL_law 638 = .ok (.iadd, 1) := by decide +kernel
theorem dL_law_639 : decode cL_law 639 = .ok (.iaload, 1) := by decide +kernel
theorem dL_law_640 : decode cL_law 640 = .ok (.aload_n 0, 1) := by decide +kernel
theorem dL_law_641 : decode cL_law 641 = .ok (.iload 5, 2) := by decide +kernel
theorem dL_law_643 : decode cL_law 643 = .ok (.iconst 3, 1) := by decide +kernel
theorem dL_law_644 : decode cL_law 644 = .ok (.iadd, 1) := by decide +kernel
theorem dL_law_645 : decode cL_law 645 = .ok (.iaload, 1) := by decide +kernel
theorem dL_law_646 : decode cL_law 646 = .ok (.aload_n 3, 1) := by decide +kernel
theorem dL_law_647 : decode cL_law 647 = .ok (.invokestatic 149, 3) := by decide +kernel
theorem dL_law_650 : decode cL_law 650 = .ok (.istore 6, 2) := by decide +kernel
theorem dL_law_652 : decode cL_law 652 = .ok (.aload_n 2, 1) := by decide +kernel
theorem dL_law_653 : decode cL_law 653 = .ok (.aload_n 0, 1) := by decide +kernel
theorem dL_law_654 : decode cL_law 654 = .ok (.iload 5, 2) := by decide +kernel
theorem dL_law_656 : decode cL_law 656 = .ok (.iconst 1, 1) := by decide +kernel
theorem dL_law_657 : decode cL_law 657 = .ok (.iadd, 1) := by decide +kernel
theorem dL_law_658 : decode cL_law 658 = .ok (.iaload, 1) := by decide +kernel
theorem dL_law_659 : decode cL_law 659 = .ok (.aload_n 0, 1) := by decide +kernel
theorem dL_law_660 : decode cL_law 660 = .ok (.iload 5, 2) := by decide +kernel
theorem dL_law_662 : decode cL_law 662 = .ok (.iconst 2, 1) := by decide +kernel
theorem dL_law_663 : decode cL_law 663 = .ok (.iadd, 1) := by decide +kernel
theorem dL_law_664 : decode cL_law 664 = .ok (.iaload, 1) := by decide +kernel
theorem dL_law_665 : decode cL_law 665 = .ok (.aload_n 0, 1) := by decide +kernel
theorem dL_law_666 : decode cL_law 666 = .ok (.iload 5, 2) := by decide +kernel
theorem dL_law_668 : decode cL_law 668 = .ok (.iconst 3, 1) := by decide +kernel
theorem dL_law_669 : decode cL_law 669 = .ok (.iadd, 1) := by decide +kernel
theorem dL_law_670 : decode cL_law 670 = .ok (.iaload, 1) := by decide +kernel
theorem dL_law_671 : decode cL_law 671 = .ok (.invokevirtual 152, 3) := by decide +kernel
theorem dL_law_674 : decode cL_law 674 = .ok (.istore 7, 2) := by decide +kernel
theorem dL_law_676 : decode cL_law 676 = .ok (.aload_n 2, 1) := by decide +kernel
theorem dL_law_677 : decode cL_law 677 = .ok (.invokevirtual 127, 3) := by decide +kernel
theorem dL_law_680 : decode cL_law 680 = .ok (.iload 6, 2) := by decide +kernel
theorem dL_law_682 : decode cL_law 682 = .ok (.if_icmp .eq 5, 3) := by decide +kernel
theorem dL_law_685 : decode cL_law 685 = .ok (.iconst 0, 1) := by decide +kernel
theorem dL_law_686 : decode cL_law 686 = .ok (.ireturn, 1) := by decide +kernel
theorem dL_law_687 : decode cL_law 687 = .ok (.iload 6, 2) := by decide +kernel
theorem dL_law_689 : decode cL_law 689 = .ok (.ifCond .ne 15, 3) := by decide +kernel
theorem dL_law_692 : decode cL_law 692 = .ok (.aload_n 3, 1) := by decide +kernel
theorem dL_law_693 : decode cL_law 693 = .ok (.iconst 0, 1) := by decide +kernel
theorem dL_law_694 : decode cL_law 694 = .ok (.laload, 1) := by decide +kernel
theorem dL_law_695 : decode cL_law 695 = .ok (.iload 7, 2) := by decide +kernel
theorem dL_law_697 : decode cL_law 697 = .ok (.i2l, 1) := by decide +kernel
theorem dL_law_698 : decode cL_law 698 = .ok (.lcmp, 1) := by decide +kernel
theorem dL_law_699 : decode cL_law 699 = .ok (.ifCond .eq 5, 3) := by decide +kernel
theorem dL_law_702 : decode cL_law 702 = .ok (.iconst 0, 1) := by decide +kernel
theorem dL_law_703 : decode cL_law 703 = .ok (.ireturn, 1) := by decide +kernel
theorem dL_law_704 : decode cL_law 704 = .ok (.goto 1370, 3) := by decide +kernel
theorem dL_law_707 : decode cL_law 707 = .ok (.aload_n 1, 1) := by decide +kernel
theorem dL_law_708 : decode cL_law 708 = .ok (.aload_n 0, 1) := by decide +kernel
theorem dL_law_709 : decode cL_law 709 = .ok (.iload 5, 2) := by decide +kernel
theorem dL_law_711 : decode cL_law 711 = .ok (.iconst 1, 1) := by decide +kernel
theorem dL_law_712 : decode cL_law 712 = .ok (.iadd, 1) := by decide +kernel
theorem dL_law_713 : decode cL_law 713 = .ok (.iaload, 1) := by decide +kernel
theorem dL_law_714 : decode cL_law 714 = .ok (.aload_n 0, 1) := by decide +kernel
theorem dL_law_715 : decode cL_law 715 = .ok (.iload 5, 2) := by decide +kernel
theorem dL_law_717 : decode cL_law 717 = .ok (.iconst 2, 1) := by decide +kernel
theorem dL_law_718 : decode cL_law 718 = .ok (.iadd, 1) := by decide +kernel
theorem dL_law_719 : decode cL_law 719 = .ok (.iaload, 1) := by decide +kernel
theorem dL_law_720 : decode cL_law 720 = .ok (.aload_n 0, 1) := by decide +kernel
theorem dL_law_721 : decode cL_law 721 = .ok (.iload 5, 2) := by decide +kernel
theorem dL_law_723 : decode cL_law 723 = .ok (.iconst 3, 1) := by decide +kernel
theorem dL_law_724 : decode cL_law 724 = .ok (.iadd, 1) := by decide +kernel
theorem dL_law_725 : decode cL_law 725 = .ok (.iaload, 1) := by decide +kernel
theorem dL_law_726 : decode cL_law 726 = .ok (.i2c, 1) := by decide +kernel
theorem dL_law_727 : decode cL_law 727 = .ok (.aload_n 3, 1) := by decide +kernel
theorem dL_law_728 : decode cL_law 728 = .ok (.invokestatic 153, 3) := by decide +kernel
theorem dL_law_731 : decode cL_law 731 = .ok (.istore 6, 2) := by decide +kernel
theorem dL_law_733 : decode cL_law 733 = .ok (.aload_n 2, 1) := by decide +kernel
theorem dL_law_734 : decode cL_law 734 = .ok (.aload_n 0, 1) := by decide +kernel
theorem dL_law_735 : decode cL_law 735 = .ok (.iload 5, 2) := by decide +kernel
theorem dL_law_737 : decode cL_law 737 = .ok (.iconst 1, 1) := by decide +kernel
theorem dL_law_738 : decode cL_law 738 = .ok (.iadd, 1) := by decide +kernel
theorem dL_law_739 : decode cL_law 739 = .ok (.iaload, 1) := by decide +kernel
theorem dL_law_740 : decode cL_law 740 = .ok (.aload_n 0, 1) := by decide +kernel
theorem dL_law_741 : decode cL_law 741 = .ok (.iload 5, 2) := by decide +kernel
theorem dL_law_743 : decode cL_law 743 = .ok (.iconst 2, 1) := by decide +kernel
theorem dL_law_744 : decode cL_law 744 = .ok (.iadd, 1) := by decide +kernel
theorem dL_law_745 : decode cL_law 745 = .ok (.iaload, 1) := by decide +kernel
theorem dL_law_746 : decode cL_law 746 = .ok (.aload_n 0, 1) := by decide +kernel
theorem dL_law_747 : decode cL_law 747 = .ok (.iload 5, 2) := by decide +kernel
theorem dL_law_749 : decode cL_law 749 = .ok (.iconst 3, 1) := by decide +kernel
end
section
theorem dL_law_750 : decode cL_law 750 = .ok (.iadd, 1) := by decide +kernel
theorem dL_law_751 : decode cL_law 751 = .ok (.iaload, 1) := by decide +kernel
theorem dL_law_752 : decode cL_law 752 = .ok (.i2c, 1) := by decide +kernel
theorem dL_law_753 : decode cL_law 753 = .ok (.invokevirtual 156, 3) := by decide +kernel
theorem dL_law_756 : decode cL_law 756 = .ok (.istore 7, 2) := by decide +kernel
theorem dL_law_758 : decode cL_law 758 = .ok (.aload_n 2, 1) := by decide +kernel
theorem dL_law_759 : decode cL_law 759 = .ok (.invokevirtual 127, 3) := by decide +kernel
theorem dL_law_762 : decode cL_law 762 = .ok (.iload 6, 2) := by decide +kernel
theorem dL_law_764 : decode cL_law 764 = .ok (.if_icmp .eq 5, 3) := by decide +kernel
theorem dL_law_767 : decode cL_law 767 = .ok (.iconst 0, 1) := by decide +kernel
theorem dL_law_768 : decode cL_law 768 = .ok (.ireturn, 1) := by decide +kernel
theorem dL_law_769 : decode cL_law 769 = .ok (.iload 6, 2) := by decide +kernel
theorem dL_law_771 : decode cL_law 771 = .ok (.ifCond .ne 15, 3) := by decide +kernel
theorem dL_law_774 : decode cL_law 774 = .ok (.aload_n 3, 1) := by decide +kernel
theorem dL_law_775 : decode cL_law 775 = .ok (.iconst 0, 1) := by decide +kernel
theorem dL_law_776 : decode cL_law 776 = .ok (.laload, 1) := by decide +kernel
theorem dL_law_777 : decode cL_law 777 = .ok (.iload 7, 2) := by decide +kernel
theorem dL_law_779 : decode cL_law 779 = .ok (.i2l, 1) := by decide +kernel
theorem dL_law_780 : decode cL_law 780 = .ok (.lcmp, 1) := by decide +kernel
theorem dL_law_781 : decode cL_law 781 = .ok (.ifCond .eq 5, 3) := by decide +kernel
theorem dL_law_784 : decode cL_law 784 = .ok (.iconst 0, 1) := by decide +kernel
theorem dL_law_785 : decode cL_law 785 = .ok (.ireturn, 1) := by decide +kernel
theorem dL_law_786 : decode cL_law 786 = .ok (.goto 1288, 3) := by decide +kernel
theorem dL_law_789 : decode cL_law 789 = .ok (.aload_n 1, 1) := by decide +kernel
theorem dL_law_790 : decode cL_law 790 = .ok (.aload_n 0, 1) := by decide +kernel
theorem dL_law_791 : decode cL_law 791 = .ok (.iload 5, 2) := by decide +kernel
theorem dL_law_793 : decode cL_law 793 = .ok (.iconst 1, 1) := by decide +kernel
theorem dL_law_794 : decode cL_law 794 = .ok (.iadd, 1) := by decide +kernel
theorem dL_law_795 : decode cL_law 795 = .ok (.iaload, 1) := by decide +kernel
theorem dL_law_796 : decode cL_law 796 = .ok (.aload_n 3, 1) := by decide +kernel
theorem dL_law_797 : decode cL_law 797 = .ok (.invokestatic 157, 3) := by decide +kernel
theorem dL_law_800 : decode cL_law 800 = .ok (.istore 6, 2) := by decide +kernel
theorem dL_law_802 : decode cL_law 802 = .ok (.aload_n 2, 1) := by decide +kernel
theorem dL_law_803 : decode cL_law 803 = .ok (.aload_n 0, 1) := by decide +kernel
theorem dL_law_804 : decode cL_law 804 = .ok (.iload 5, 2) := by decide +kernel
theorem dL_law_806 : decode cL_law 806 = .ok (.iconst 1, 1) := by decide +kernel
theorem dL_law_807 : decode cL_law 807 = .ok (.iadd, 1) := by decide +kernel
theorem dL_law_808 : decode cL_law 808 = .ok (.iaload, 1) := by decide +kernel
theorem dL_law_809 : decode cL_law 809 = .ok (.invokevirtual 159, 3) := by decide +kernel
theorem dL_law_812 : decode cL_law 812 = .ok (.istore 7, 2) := by decide +kernel
theorem dL_law_814 : decode cL_law 814 = .ok (.aload_n 2, 1) := by decide +kernel
theorem dL_law_815 : decode cL_law 815 = .ok (.invokevirtual 127, 3) := by decide +kernel
theorem dL_law_818 : decode cL_law 818 = .ok (.iload 6, 2) := by decide +kernel
theorem dL_law_820 : decode cL_law 820 = .ok (.if_icmp .eq 5, 3) := by decide +kernel
theorem dL_law_823 : decode cL_law 823 = .ok (.iconst 0, 1) := by decide +kernel
theorem dL_law_824 : decode cL_law 824 = .ok (.ireturn, 1) := by decide +kernel
theorem dL_law_825 : decode cL_law 825 = .ok (.iload 6, 2) := by decide +kernel
theorem dL_law_827 : decode cL_law 827 = .ok (.ifCond .ne 15, 3) := by decide +kernel
theorem dL_law_830 : decode cL_law 830 = .ok (.aload_n 3, 1) := by decide +kernel
theorem dL_law_831 : decode cL_law 831 = .ok (.iconst 0, 1) := by decide +kernel
theorem dL_law_832 : decode cL_law 832 = .ok (.laload, 1) := by decide +kernel
theorem dL_law_833 : decode cL_law 833 = .ok (.iload 7, 2) := by decide +kernel
theorem dL_law_835 : decode cL_law 835 = .ok (.i2l, 1) := by decide +kernel
theorem dL_law_836 : decode cL_law 836 = .ok (.lcmp, 1) := by decide +kernel
theorem dL_law_837 : decode cL_law 837 = .ok (.ifCond .eq 5, 3) := by decide +kernel
theorem dL_law_840 : decode cL_law 840 = .ok (.iconst 0, 1) := by decide +kernel
theorem dL_law_841 : decode cL_law 841 = .ok (.ireturn, 1) := by decide +kernel
theorem dL_law_842 : decode cL_law 842 = .ok (.goto 1232, 3) := by decide +kernel
theorem dL_law_845 : decode cL_law 845 = .ok (.aload_n 1, 1) := by decide +kernel
theorem dL_law_846 : decode cL_law 846 = .ok (.aload_n 0, 1) := by decide +kernel
theorem dL_law_847 : decode cL_law 847 = .ok (.iload 5, 2) := by decide +kernel
theorem dL_law_849 : decode cL_law 849 = .ok (.iconst 1, 1) := by decide +kernel
theorem dL_law_850 : decode cL_law 850 = .ok (.iadd, 1) := by decide +kernel
theorem dL_law_851 : decode cL_law 851 = .ok (.iaload, 1) := by decide +kernel
theorem dL_law_852 : decode cL_law 852 = .ok (.aload_n 3, 1) := by decide +kernel
theorem dL_law_853 : decode cL_law 853 = .ok (.invokestatic 160, 3) := by decide +kernel
theorem dL_law_856 : decode cL_law 856 = .ok (.istore 6, 2) := by decide +kernel
theorem dL_law_858 : decode cL_law 858 = .ok (.aload_n 2, 1) := by decide +kernel
theorem dL_law_859 : decode cL_law 859 = .ok (.aload_n 0, 1) := by decide +kernel
theorem dL_law_860 : decode cL_law 860 = .ok (.iload 5, 2) := by decide +kernel
theorem dL_law_862 : decode cL_law 862 = .ok (.iconst 1, 1) := by decide +kernel
theorem dL_law_863 : decode cL_law 863 = .ok (.iadd, 1) := by decide +kernel
theorem dL_law_864 : decode cL_law 864 = .ok (.iaload, 1) := by decide +kernel
theorem dL_law_865 : decode cL_law 865 = .ok (.invokevirtual 162, 3) := by decide +kernel
theorem dL_law_868 : decode cL_law 868 = .ok (.istore 7, 2) := by decide +kernel
theorem dL_law_870 : decode cL_law 870 = .ok (.aload_n 2, 1) := by decide +kernel
theorem dL_law_871 : decode cL_law 871 = .ok (.invokevirtual 127, 3) := by decide +kernel
theorem dL_law_874 : decode cL_law 874 = .ok (.iload 6, 2) := by decide +kernel
theorem dL_law_876 : decode cL_law 876 = .ok (.if_icmp .eq 5, 3) := by decide +kernel
theorem dL_law_879 : decode cL_law 879 = .ok (.iconst 0, 1) := by decide +kernel
theorem dL_law_880 : decode cL_law 880 = .ok (.ireturn, 1) := by decide +kernel
theorem dL_law_881 : decode cL_law 881 = .ok (.iload 6, 2) := by decide +kernel
theorem dL_law_883 : decode cL_law 883 = .ok (.ifCond .ne 15, 3) := by decide +kernel
theorem dL_law_886 : decode cL_law 886 = .ok (.aload_n 3, 1) := by decide +kernel
theorem dL_law_887 : decode cL_law 887 = .ok (.iconst 0, 1) := by decide +kernel
theorem dL_law_888 : decode cL_law 888 = .ok (.laload, 1) := by decide +kernel
theorem dL_law_889 : decode cL_law 889 = .ok (.iload 7, 2) := by decide +kernel
theorem dL_law_891 : decode cL_law 891 = .ok (.i2l, 1) := by decide +kernel
theorem dL_law_892 : decode cL_law 892 = .ok (.lcmp, 1) := by decide +kernel
theorem dL_law_893 : decode cL_law 893 = .ok (.ifCond .eq 5, 3) := by decide +kernel
theorem dL_law_896 : decode cL_law 896 = .ok (.iconst 0, 1) := by decide +kernel
theorem dL_law_897 : decode cL_law 897 = .ok (.ireturn, 1) := by decide +kernel
theorem dL_law_898 : decode cL_law 898 = .ok (.goto 1176, 3) := by decide +kernel
theorem dL_law_901 : decode cL_law 901 = .ok (.aload_n 1, 1) := by decide +kernel
theorem dL_law_902 : decode cL_law 902 = .ok (.aload_n 0, 1) := by decide +kernel
theorem dL_law_903 : decode cL_law 903 = .ok (.iload 5, 2) := by decide +kernel
theorem dL_law_905 : decode cL_law 905 = .ok (.iconst 1, 1) := by decide +kernel
theorem dL_law_906 : decode cL_law 906 = .ok (.iadd, 1) := by decide +kernel
theorem dL_law_907 : decode cL_law 907 = .ok (.iaload, 1) := by decide +kernel
theorem dL_law_908 : decode cL_law 908 = .ok (.aload_n 0, 1) := by decide +kernel
theorem dL_law_909 : decode cL_law 909 = .ok (.iload 5, 2) := by decide +kernel
theorem dL_law_911 : decode cL_law 911 = .ok (.iconst 2, 1) := by decide +kernel
theorem dL_law_912 : decode cL_law 912 = .ok (.iadd, 1) := by decide +kernel
theorem dL_law_913 : decode cL_law 913 = .ok (.iaload, 1) := by decide +kernel
theorem dL_law_914 : decode cL_law 914 = .ok (.ifCond .eq 7, 3) := by decide +kernel
theorem dL_law_917 : decode cL_law 917 = .ok (.iconst 1, 1) := by decide +kernel
theorem dL_law_918 : decode cL_law 918 = .ok (.goto 4, 3) := by decide +kernel
theorem dL_law_921 : decode cL_law 921 = .ok (.iconst 0, 1) := by decide +kernel
theorem dL_law_922 : decode cL_law 922 = .ok (.aload_n 3, 1) := by decide +kernel
theorem dL_law_923 : decode cL_law 923 = .ok (.invokestatic 163, 3) := by decide +kernel
theorem dL_law_926 : decode cL_law 926 = .ok (.istore 6, 2) := by decide +kernel
theorem dL_law_928 : decode cL_law 928 = .ok (.aload_n 2, 1) := by decide +kernel
theorem dL_law_929 : decode cL_law 929 = .ok (.aload_n 0, 1) := by decide +kernel
theorem dL_law_930 : decode cL_law 930 = .ok (.iload 5, 2) := by decide +kernel
theorem dL_law_932 : decode cL_law 932 = .ok (.iconst 1, 1) := by decide +kernel
theorem dL_law_933 : decode cL_law 933 = .ok (.iadd, 1) := by decide +kernel
theorem dL_law_934 : decode cL_law 934 = .ok (.iaload, 1) := by decide +kernel
theorem dL_law_935 : decode cL_law 935 = .ok (.aload_n 0, 1) := by decide +kernel
theorem dL_law_936 : decode cL_law 936 = .ok (.iload 5, 2) := by decide +kernel
theorem dL_law_938 : decode cL_law 938 = .ok (.iconst 2, 1) := by decide +kernel
theorem dL_law_939 : decode cL_law 939 = .ok (.iadd, 1) := by decide +kernel
theorem dL_law_940 : decode cL_law 940 = .ok (.iaload, 1) := by decide +kernel
theorem dL_law_941 : decode cL_law 941 = .ok (.ifCond .eq 7, 3) := by decide +kernel
theorem dL_law_944 : decode cL_law 944 = .ok (.iconst 1, 1) := by decide +kernel
theorem dL_law_945 : decode cL_law 945 = .ok (.goto 4, 3) := by decide +kernel
theorem dL_law_948 : decode cL_law 948 = .ok (.iconst 0, 1) := by decide +kernel
theorem dL_law_949 : decode cL_law 949 = .ok (.invokevirtual 165, 3) := by decide +kernel
theorem dL_law_952 : decode cL_law 952 = .ok (.istore 7, 2) := by decide +kernel
theorem dL_law_954 : decode cL_law 954 = .ok (.aload_n 2, 1) := by decide +kernel
theorem dL_law_955 : decode cL_law 955 = .ok (.invokevirtual 127, 3) := by decide +kernel
theorem dL_law_958 : decode cL_law 958 = .ok (.iload 6, 2) := by decide +kernel
theorem dL_law_960 : decode cL_law 960 = .ok (.if_icmp .eq 5, 3) := by decide +kernel
theorem dL_law_963 : decode cL_law 963 = .ok (.iconst 0, 1) := by decide +kernel
theorem dL_law_964 : decode cL_law 964 = .ok (.ireturn, 1) := by decide +kernel
theorem dL_law_965 : decode cL_law 965 = .ok (.iload 6, 2) := by decide +kernel
theorem dL_law_967 : decode cL_law 967 = .ok (.ifCond .ne 22, 3) := by decide +kernel
theorem dL_law_970 : decode cL_law 970 = .ok (.aload_n 3, 1) := by decide +kernel
theorem dL_law_971 : decode cL_law 971 = .ok (.iconst 0, 1) := by decide +kernel
theorem dL_law_972 : decode cL_law 972 = .ok (.laload, 1) := by decide +kernel
theorem dL_law_973 : decode cL_law 973 = .ok (.iload 7, 2) := by decide +kernel
theorem dL_law_975 : decode cL_law 975 = .ok (.ifCond .eq 7, 3) := by decide +kernel
theorem dL_law_978 : decode cL_law 978 = .ok (.lconst 1, 1) := by decide +kernel
theorem dL_law_979 : decode cL_law 979 = .ok (.goto 4, 3) := by decide +kernel
theorem dL_law_982 : decode cL_law 982 = .ok (.lconst 0, 1) := by decide +kernel
theorem dL_law_983 : decode cL_law 983 = .ok (.lcmp, 1) := by decide +kernel
theorem dL_law_984 : decode cL_law 984 = .ok (.ifCond .eq 5, 3) := by decide +kernel
theorem dL_law_987 : decode cL_law 987 = .ok (.iconst 0, 1) := by decide +kernel
theorem dL_law_988 : decode cL_law 988 = .ok (.ireturn, 1) := by decide +kernel
theorem dL_law_989 : decode cL_law 989 = .ok (.goto 1085, 3) := by decide +kernel
theorem dL_law_992 : decode cL_law 992 = .ok (.aload_n 1, 1) := by decide +kernel
theorem dL_law_993 : decode cL_law 993 = .ok (.aload_n 0, 1) := by decide +kernel
theorem dL_law_994 : decode cL_law 994 = .ok (.iload 5, 2) := by decide +kernel
theorem dL_law_996 : decode cL_law 996 = .ok (.iconst 1, 1) := by decide +kernel
theorem dL_law_997 : decode cL_law 997 = .ok (.iadd, 1) := by decide +kernel
theorem dL_law_998 : decode cL_law 998 = .ok (.iaload, 1) := by decide +kernel
theorem dL_law_999 : decode cL_law 999 = .ok (.aload_n 3, 1) := by decide +kernel
theorem dL_law_1000 : decode cL_law 1000 = .ok (.invokestatic 166, 3) := by decide +kernel
theorem dL_law_1003 : decode cL_law 1003 = .ok (.istore 6, 2) := by decide +kernel
theorem dL_law_1005 : decode cL_law 1005 = .ok (.aload_n 2, 1) := by decide +kernel
theorem dL_law_1006 : decode cL_law 1006 = .ok (.aload_n 0, 1) := by decide +kernel
theorem dL_law_1007 : decode cL_law 1007 = .ok (.iload 5, 2) := by decide +kernel
theorem dL_law_1009 : decode cL_law 1009 = .ok (.iconst 1, 1) := by decide +kernel
theorem dL_law_1010 : decode cL_law 1010 = .ok (.iadd, 1) := by decide +kernel
theorem dL_law_1011 : decode cL_law 1011 = .ok (.iaload, 1) := by decide +kernel
theorem dL_law_1012 : decode cL_law 1012 = .ok (.invokevirtual 168, 3) := by decide +kernel
theorem dL_law_1015 : decode cL_law 1015 = .ok (.istore 7, 2) := by decide +kernel
theorem dL_law_1017 : decode cL_law 1017 = .ok (.aload_n 2, 1) := by decide +kernel
theorem dL_law_1018 : decode cL_law 1018 = .ok (.invokevirtual 127, 3) := by decide +kernel
theorem dL_law_1021 : decode cL_law 1021 = .ok (.iload 6, 2) := by decide +kernel
theorem dL_law_1023 : decode cL_law 1023 = .ok (.if_icmp .eq 5, 3) := by decide +kernel
theorem dL_law_1026 : decode cL_law 1026 = .ok (.iconst 0, 1) := by decide +kernel
theorem dL_law_1027 : decode cL_law 1027 = .ok (.ireturn, 1) := by decide +kernel
theorem dL_law_1028 : decode cL_law 1028 = .ok (.iload 6, 2) := by decide +kernel
theorem dL_law_1030 : decode cL_law 1030 = .ok (.ifCond .ne 15, 3) := by decide +kernel
theorem dL_law_1033 : decode cL_law 1033 = .ok (.aload_n 3, 1) := by decide +kernel
theorem dL_law_1034 : decode cL_law 1034 = .ok (.iconst 0, 1) := by decide +kernel
theorem dL_law_1035 : decode cL_law 1035 = .ok (.laload, 1) := by decide +kernel
theorem dL_law_1036 : decode cL_law 1036 = .ok (.iload 7, 2) := by decide +kernel
theorem dL_law_1038 : decode cL_law 1038 = .ok (.i2l, 1) := by decide +kernel
theorem dL_law_1039 : decode cL_law 1039 = .ok (.lcmp, 1) := by decide +kernel
theorem dL_law_1040 : decode cL_law 1040 = .ok (.ifCond .eq 5, 3) := by decide +kernel
theorem dL_law_1043 : decode cL_law 1043 = .ok (.iconst 0, 1) := by decide +kernel
theorem dL_law_1044 : decode cL_law 1044 = .ok (.ireturn, 1) := by decide +kernel
theorem dL_law_1045 : decode cL_law 1045 = .ok (.goto 1029, 3) := by decide +kernel
theorem dL_law_1048 : decode cL_law 1048 = .ok (.aload_n 1, 1) := by decide +kernel
theorem dL_law_1049 : decode cL_law 1049 = .ok (.aload_n 0, 1) := by decide +kernel
theorem dL_law_1050 : decode cL_law 1050 = .ok (.iload 5, 2) := by decide +kernel
theorem dL_law_1052 : decode cL_law 1052 = .ok (.iconst 1, 1) := by decide +kernel
theorem dL_law_1053 : decode cL_law 1053 = .ok (.iadd, 1) := by decide +kernel
theorem dL_law_1054 : decode cL_law 1054 = .ok (.iaload, 1) := by decide +kernel
theorem dL_law_1055 : decode cL_law 1055 = .ok (.aload_n 3, 1) := by decide +kernel
theorem dL_law_1056 : decode cL_law 1056 = .ok (.invokestatic 169, 3) := by decide +kernel
theorem dL_law_1059 : decode cL_law 1059 = .ok (.istore 6, 2) := by decide +kernel
theorem dL_law_1061 : decode cL_law 1061 = .ok (.aload_n 2, 1) := by decide +kernel
theorem dL_law_1062 : decode cL_law 1062 = .ok (.aload_n 0, 1) := by decide +kernel
theorem dL_law_1063 : decode cL_law 1063 = .ok (.iload 5, 2) := by decide +kernel
theorem dL_law_1065 : decode cL_law 1065 = .ok (.iconst 1, 1) := by decide +kernel
theorem dL_law_1066 : decode cL_law 1066 = .ok (.iadd, 1) := by decide +kernel
theorem dL_law_1067 : decode cL_law 1067 = .ok (.iaload, 1) := by decide +kernel
theorem dL_law_1068 : decode cL_law 1068 = .ok (.invokevirtual 171, 3) := by decide +kernel
theorem dL_law_1071 : decode cL_law 1071 = .ok (.istore 7, 2) := by decide +kernel
theorem dL_law_1073 : decode cL_law 1073 = .ok (.aload_n 2, 1) := by decide +kernel
theorem dL_law_1074 : decode cL_law 1074 = .ok (.invokevirtual 127, 3) := by decide +kernel
theorem dL_law_1077 : decode cL_law 1077 = .ok (.iload 6, 2) := by decide +kernel
theorem dL_law_1079 : decode cL_law 1079 = .ok (.if_icmp .eq 5, 3) := by decide +kernel
theorem dL_law_1082 : decode cL_law 1082 = .ok (.iconst 0, 1) := by decide +kernel
theorem dL_law_1083 : decode cL_law 1083 = .ok (.ireturn, 1) := by decide +kernel
theorem dL_law_1084 : decode cL_law 1084 = .ok (.iload 6, 2) := by decide +kernel
theorem dL_law_1086 : decode cL_law 1086 = .ok (.ifCond .ne 15, 3) := by decide +kernel
theorem dL_law_1089 : decode cL_law 1089 = .ok (.aload_n 3, 1) := by decide +kernel
theorem dL_law_1090 : decode cL_law 1090 = .ok (.iconst 0, 1) := by decide +kernel
theorem dL_law_1091 : decode cL_law 1091 = .ok (.laload, 1) := by decide +kernel
theorem dL_law_1092 : decode cL_law 1092 = .ok (.iload 7, 2) := by decide +kernel
theorem dL_law_1094 : decode cL_law 1094 = .ok (.i2l, 1) := by decide +kernel
theorem dL_law_1095 : decode cL_law 1095 = .ok (.lcmp, 1) := by decide +kernel
theorem dL_law_1096 : decode cL_law 1096 = .ok (.ifCond .eq 5, 3) := by decide +kernel
theorem dL_law_1099 : decode cL_law 1099 = .ok (.iconst 0, 1) := by decide +kernel
theorem dL_law_1100 : decode cL_law 1100 = .ok (.ireturn, 1) := by decide +kernel
theorem dL_law_1101 : decode cL_law 1101 = .ok (.goto 973, 3) := by decide +kernel
theorem dL_law_1104 : decode cL_law 1104 = .ok (.aload_n 1, 1) := by decide +kernel
theorem dL_law_1105 : decode cL_law 1105 = .ok (.aload_n 0, 1) := by decide +kernel
theorem dL_law_1106 : decode cL_law 1106 = .ok (.iload 5, 2) := by decide +kernel
theorem dL_law_1108 : decode cL_law 1108 = .ok (.iconst 1, 1) := by decide +kernel
theorem dL_law_1109 : decode cL_law 1109 = .ok (.iadd, 1) := by decide +kernel
theorem dL_law_1110 : decode cL_law 1110 = .ok (.iaload, 1) := by decide +kernel
theorem dL_law_1111 : decode cL_law 1111 = .ok (.aload_n 0, 1) := by decide +kernel
theorem dL_law_1112 : decode cL_law 1112 = .ok (.iload 5, 2) := by decide +kernel
theorem dL_law_1114 : decode cL_law 1114 = .ok (.iconst 2, 1) := by decide +kernel
theorem dL_law_1115 : decode cL_law 1115 = .ok (.iadd, 1) := by decide +kernel
theorem dL_law_1116 : decode cL_law 1116 = .ok (.iaload, 1) := by decide +kernel
theorem dL_law_1117 : decode cL_law 1117 = .ok (.aload_n 3, 1) := by decide +kernel
theorem dL_law_1118 : decode cL_law 1118 = .ok (.invokestatic 172, 3) := by decide +kernel
theorem dL_law_1121 : decode cL_law 1121 = .ok (.istore 6, 2) := by decide +kernel
theorem dL_law_1123 : decode cL_law 1123 = .ok (.aload_n 2, 1) := by decide +kernel
theorem dL_law_1124 : decode cL_law 1124 = .ok (.aload_n 0, 1) := by decide +kernel
theorem dL_law_1125 : decode cL_law 1125 = .ok (.iload 5, 2) := by decide +kernel
theorem dL_law_1127 : decode cL_law 1127 = .ok (.iconst 1, 1) := by decide +kernel
theorem dL_law_1128 : decode cL_law 1128 = .ok (.iadd, 1) := by decide +kernel
theorem dL_law_1129 : decode cL_law 1129 = .ok (.iaload, 1) := by decide +kernel
theorem dL_law_1130 : decode cL_law 1130 = .ok (.aload_n 0, 1) := by decide +kernel
theorem dL_law_1131 : decode cL_law 1131 = .ok (.iload 5, 2) := by decide +kernel
theorem dL_law_1133 : decode cL_law 1133 = .ok (.iconst 2, 1) := by decide +kernel
theorem dL_law_1134 : decode cL_law 1134 = .ok (.iadd, 1) := by decide +kernel
theorem dL_law_1135 : decode cL_law 1135 = .ok (.iaload, 1) := by decide +kernel
theorem dL_law_1136 : decode cL_law 1136 = .ok (.invokevirtual 174, 3) := by decide +kernel
theorem dL_law_1139 : decode cL_law 1139 = .ok (.istore 7, 2) := by decide +kernel
theorem dL_law_1141 : decode cL_law 1141 = .ok (.aload_n 2, 1) := by decide +kernel
theorem dL_law_1142 : decode cL_law 1142 = .ok (.invokevirtual 127, 3) := by decide +kernel
theorem dL_law_1145 : decode cL_law 1145 = .ok (.iload 6, 2) := by decide +kernel
theorem dL_law_1147 : decode cL_law 1147 = .ok (.if_icmp .eq 5, 3) := by decide +kernel
theorem dL_law_1150 : decode cL_law 1150 = .ok (.iconst 0, 1) := by decide +kernel
theorem dL_law_1151 : decode cL_law 1151 = .ok (.ireturn, 1) := by decide +kernel
theorem dL_law_1152 : decode cL_law 1152 = .ok (.iload 6, 2) := by decide +kernel
theorem dL_law_1154 : decode cL_law 1154 = .ok (.ifCond .ne 15, 3) := by decide +kernel
theorem dL_law_1157 : decode cL_law 1157 = .ok (.aload_n 3, 1) := by decide +kernel
theorem dL_law_1158 : decode cL_law 1158 = .ok (.iconst 0, 1) := by decide +kernel
theorem dL_law_1159 : decode cL_law 1159 = .ok (.laload, 1) := by decide +kernel
theorem dL_law_1160 : decode cL_law 1160 = .ok (.iload 7, 2) := by decide +kernel
theorem dL_law_1162 : decode cL_law 1162 = .ok (.i2l, 1) := by decide +kernel
theorem dL_law_1163 : decode cL_law 1163 = .ok (.lcmp, 1) := by decide +kernel
theorem dL_law_1164 : decode cL_law 1164 = .ok (.ifCond .eq 5, 3) := by decide +kernel
theorem dL_law_1167 : decode cL_law 1167 = .ok (.iconst 0, 1) := by decide +kernel
theorem dL_law_1168 : decode cL_law 1168 = .ok (.ireturn, 1) := by decide +kernel
theorem dL_law_1169 : decode cL_law 1169 = .ok (.goto 905, 3) := by decide +kernel
theorem dL_law_1172 : decode cL_law 1172 = .ok (.aload_n 1, 1) := by decide +kernel
theorem dL_law_1173 : decode cL_law 1173 = .ok (.aload_n 0, 1) := by decide +kernel
theorem dL_law_1174 : decode cL_law 1174 = .ok (.iload 5, 2) := by decide +kernel
theorem dL_law_1176 : decode cL_law 1176 = .ok (.iconst 1, 1) := by decide +kernel
theorem dL_law_1177 : decode cL_law 1177 = .ok (.iadd, 1) := by decide +kernel
theorem dL_law_1178 : decode cL_law 1178 = .ok (.iaload, 1) := by decide +kernel
theorem dL_law_1179 : decode cL_law 1179 = .ok (.aload_n 3, 1) := by decide +kernel
theorem dL_law_1180 : decode cL_law 1180 = .ok (.invokestatic 175, 3) := by decide +kernel
theorem dL_law_1183 : decode cL_law 1183 = .ok (.istore 6, 2) := by decide +kernel
theorem dL_law_1185 : decode cL_law 1185 = .ok (.aload_n 2, 1) := by decide +kernel
theorem dL_law_1186 : decode cL_law 1186 = .ok (.aload_n 0, 1) := by decide +kernel
theorem dL_law_1187 : decode cL_law 1187 = .ok (.iload 5, 2) := by decide +kernel
theorem dL_law_1189 : decode cL_law 1189 = .ok (.iconst 1, 1) := by decide +kernel
theorem dL_law_1190 : decode cL_law 1190 = .ok (.iadd, 1) := by decide +kernel
theorem dL_law_1191 : decode cL_law 1191 = .ok (.iaload, 1) := by decide +kernel
theorem dL_law_1192 : decode cL_law 1192 = .ok (.invokevirtual 177, 3) := by decide +kernel
theorem dL_law_1195 : decode cL_law 1195 = .ok (.istore 7, 2) := by decide +kernel
theorem dL_law_1197 : decode cL_law 1197 = .ok (.aload_n 2, 1) := by decide +kernel
theorem dL_law_1198 : decode cL_law 1198 = .ok (.invokevirtual 127, 3) := by decide +kernel
theorem dL_law_1201 : decode cL_law 1201 = .ok (.iload 6, 2) := by decide +kernel
theorem dL_law_1203 : decode cL_law 1203 = .ok (.if_icmp .eq 5, 3) := by decide +kernel
theorem dL_law_1206 : decode cL_law 1206 = .ok (.iconst 0, 1) := by decide +kernel
theorem dL_law_1207 : decode cL_law 1207 = .ok (.ireturn, 1) := by decide +kernel
theorem dL_law_1208 : decode cL_law 1208 = .ok (.iload 6, 2) := by decide +kernel
theorem dL_law_1210 : decode cL_law 1210 = .ok (.ifCond .ne 15, 3) := by decide +kernel
theorem dL_law_1213 : decode cL_law 1213 = .ok (.aload_n 3, 1) := by decide +kernel
theorem dL_law_1214 : decode cL_law 1214 = .ok (.iconst 0, 1) := by decide +kernel
theorem dL_law_1215 : decode cL_law 1215 = .ok (.laload, 1) := by decide +kernel
theorem dL_law_1216 : decode cL_law 1216 = .ok (.iload 7, 2) := by decide +kernel
theorem dL_law_1218 : decode cL_law 1218 = .ok (.i2l, 1) := by decide +kernel
theorem dL_law_1219 : decode cL_law 1219 = .ok (.lcmp, 1) := by decide +kernel
theorem dL_law_1220 : decode cL_law 1220 = .ok (.ifCond .eq 5, 3) := by decide +kernel
theorem dL_law_1223 : decode cL_law 1223 = .ok (.iconst 0, 1) := by decide +kernel
theorem dL_law_1224 : decode cL_law 1224 = .ok (.ireturn, 1) := by decide +kernel
theorem dL_law_1225 : decode cL_law 1225 = .ok (.goto 849, 3) := by decide +kernel
theorem dL_law_1228 : decode cL_law 1228 = .ok (.aload_n 1, 1) := by decide +kernel
theorem dL_law_1229 : decode cL_law 1229 = .ok (.aload_n 0, 1) := by decide +kernel
theorem dL_law_1230 : decode cL_law 1230 = .ok (.iload 5, 2) := by decide +kernel
theorem dL_law_1232 : decode cL_law 1232 = .ok (.iconst 1, 1) := by decide +kernel
theorem dL_law_1233 : decode cL_law 1233 = .ok (.iadd, 1) := by decide +kernel
theorem dL_law_1234 : decode cL_law 1234 = .ok (.iaload, 1) := by decide +kernel
theorem dL_law_1235 : decode cL_law 1235 = .ok (.aload_n 0, 1) := by decide +kernel
theorem dL_law_1236 : decode cL_law 1236 = .ok (.iload 5, 2) := by decide +kernel
theorem dL_law_1238 : decode cL_law 1238 = .ok (.iconst 2, 1) := by decide +kernel
theorem dL_law_1239 : decode cL_law 1239 = .ok (.iadd, 1) := by decide +kernel
theorem dL_law_1240 : decode cL_law 1240 = .ok (.iaload, 1) := by decide +kernel
theorem dL_law_1241 : decode cL_law 1241 = .ok (.aload_n 3, 1) := by decide +kernel
theorem dL_law_1242 : decode cL_law 1242 = .ok (.invokestatic 178, 3) := by decide +kernel
theorem dL_law_1245 : decode cL_law 1245 = .ok (.istore 6, 2) := by decide +kernel
theorem dL_law_1247 : decode cL_law 1247 = .ok (.aload_n 2, 1) := by decide +kernel
theorem dL_law_1248 : decode cL_law 1248 = .ok (.aload_n 0, 1) := by decide +kernel
theorem dL_law_1249 : decode cL_law 1249 = .ok (.iload 5, 2) := by decide +kernel
theorem dL_law_1251 : decode cL_law 1251 = .ok (.iconst 1, 1) := by decide +kernel
theorem dL_law_1252 : decode cL_law 1252 = .ok (.iadd, 1) := by decide +kernel
theorem dL_law_1253 : decode cL_law 1253 = .ok (.iaload, 1) := by decide +kernel
theorem dL_law_1254 : decode cL_law 1254 = .ok (.aload_n 0, 1) := by decide +kernel
theorem dL_law_1255 : decode cL_law 1255 = .ok (.iload 5, 2) := by decide +kernel
theorem dL_law_1257 : decode cL_law 1257 = .ok (.iconst 2, 1) := by decide +kernel
theorem dL_law_1258 : decode cL_law 1258 = .ok (.iadd, 1) := by decide +kernel
theorem dL_law_1259 : decode cL_law 1259 = .ok (.iaload, 1) := by decide +kernel
theorem dL_law_1260 : decode cL_law 1260 = .ok (.invokevirtual 180, 3) := by decide +kernel
theorem dL_law_1263 : decode cL_law 1263 = .ok (.istore 7, 2) := by decide +kernel
theorem dL_law_1265 : decode cL_law 1265 = .ok (.aload_n 2, 1) := by decide +kernel
theorem dL_law_1266 : decode cL_law 1266 = .ok (.invokevirtual 127, 3) := by decide +kernel
theorem dL_law_1269 : decode cL_law 1269 = .ok (.iload 6, 2) := by decide +kernel
theorem dL_law_1271 : decode cL_law 1271 = .ok (.if_icmp .eq 5, 3) := by decide +kernel
theorem dL_law_1274 : decode cL_law 1274 = .ok (.iconst 0, 1) := by decide +kernel
theorem dL_law_1275 : decode cL_law 1275 = .ok (.ireturn, 1) := by decide +kernel
theorem dL_law_1276 : decode cL_law 1276 = .ok (.iload 6, 2) := by decide +kernel
theorem dL_law_1278 : decode cL_law 1278 = .ok (.ifCond .ne 15, 3) := by decide +kernel
theorem dL_law_1281 : decode cL_law 1281 = .ok (.aload_n 3, 1) := by decide +kernel
theorem dL_law_1282 : decode cL_law 1282 = .ok (.iconst 0, 1) := by decide +kernel
theorem dL_law_1283 : decode cL_law 1283 = .ok (.laload, 1) := by decide +kernel
theorem dL_law_1284 : decode cL_law 1284 = .ok (.iload 7, 2) := by decide +kernel
theorem dL_law_1286 : decode cL_law 1286 = .ok (.i2l, 1) := by decide +kernel
theorem dL_law_1287 : decode cL_law 1287 = .ok (.lcmp, 1) := by decide +kernel
theorem dL_law_1288 : decode cL_law 1288 = .ok (.ifCond .eq 5, 3) := by decide +kernel
theorem dL_law_1291 : decode cL_law 1291 = .ok (.iconst 0, 1) := by decide +kernel
theorem dL_law_1292 : decode cL_law 1292 = .ok (.ireturn, 1) := by decide +kernel
theorem dL_law_1293 : decode cL_law 1293 = .ok (.goto 781, 3) := by decide +kernel
theorem dL_law_1296 : decode cL_law 1296 = .ok (.aload_n 1, 1) := by decide +kernel
theorem dL_law_1297 : decode cL_law 1297 = .ok (.aload_n 0, 1) := by decide +kernel
theorem dL_law_1298 : decode cL_law 1298 = .ok (.iload 5, 2) := by decide +kernel
theorem dL_law_1300 : decode cL_law 1300 = .ok (.iconst 1, 1) := by decide +kernel
theorem dL_law_1301 : decode cL_law 1301 = .ok (.iadd, 1) := by decide +kernel
theorem dL_law_1302 : decode cL_law 1302 = .ok (.iaload, 1) := by decide +kernel
theorem dL_law_1303 : decode cL_law 1303 = .ok (.aload_n 0, 1) := by decide +kernel
theorem dL_law_1304 : decode cL_law 1304 = .ok (.iload 5, 2) := by decide +kernel
theorem dL_law_1306 : decode cL_law 1306 = .ok (.iconst 2, 1) := by decide +kernel
theorem dL_law_1307 : decode cL_law 1307 = .ok (.iadd, 1) := by decide +kernel
theorem dL_law_1308 : decode cL_law 1308 = .ok (.iaload, 1) := by decide +kernel
theorem dL_law_1309 : decode cL_law 1309 = .ok (.aload_n 3, 1) := by decide +kernel
theorem dL_law_1310 : decode cL_law 1310 = .ok (.invokestatic 181, 3) := by decide +kernel
theorem dL_law_1313 : decode cL_law 1313 = .ok (.istore 6, 2) := by decide +kernel
theorem dL_law_1315 : decode cL_law 1315 = .ok (.aload_n 2, 1) := by decide +kernel
theorem dL_law_1316 : decode cL_law 1316 = .ok (.aload_n 0, 1) := by decide +kernel
theorem dL_law_1317 : decode cL_law 1317 = .ok (.iload 5, 2) := by decide +kernel
theorem dL_law_1319 : decode cL_law 1319 = .ok (.iconst 1, 1) := by decide +kernel
theorem dL_law_1320 : decode cL_law 1320 = .ok (.iadd, 1) := by decide +kernel
theorem dL_law_1321 : decode cL_law 1321 = .ok (.iaload, 1) := by decide +kernel
theorem dL_law_1322 : decode cL_law 1322 = .ok (.aload_n 0, 1) := by decide +kernel
theorem dL_law_1323 : decode cL_law 1323 = .ok (.iload 5, 2) := by decide +kernel
theorem dL_law_1325 : decode cL_law 1325 = .ok (.iconst 2, 1) := by decide +kernel
theorem dL_law_1326 : decode cL_law 1326 = .ok (.iadd, 1) := by decide +kernel
theorem dL_law_1327 : decode cL_law 1327 = .ok (.iaload, 1) := by decide +kernel
theorem dL_law_1328 : decode cL_law 1328 = .ok (.invokevirtual 183, 3) := by decide +kernel
theorem dL_law_1331 : decode cL_law 1331 = .ok (.istore 7, 2) := by decide +kernel
theorem dL_law_1333 : decode cL_law 1333 = .ok (.aload_n 2, 1) := by decide +kernel
theorem dL_law_1334 : decode cL_law 1334 = .ok (.invokevirtual 127, 3) := by decide +kernel
theorem dL_law_1337 : decode cL_law 1337 = .ok (.iload 6, 2) := by decide +kernel
theorem dL_law_1339 : decode cL_law 1339 = .ok (.if_icmp .eq 5, 3) := by decide +kernel
theorem dL_law_1342 : decode cL_law 1342 = .ok (.iconst 0, 1) := by decide +kernel
theorem dL_law_1343 : decode cL_law 1343 = .ok (.ireturn, 1) := by decide +kernel
theorem dL_law_1344 : decode cL_law 1344 = .ok (.iload 6, 2) := by decide +kernel
theorem dL_law_1346 : decode cL_law 1346 = .ok (.ifCond .ne 22, 3) := by decide +kernel
theorem dL_law_1349 : decode cL_law 1349 = .ok (.aload_n 3, 1) := by decide +kernel
theorem dL_law_1350 : decode cL_law 1350 = .ok (.iconst 0, 1) := by decide +kernel
theorem dL_law_1351 : decode cL_law 1351 = .ok (.laload, 1) := by decide +kernel
theorem dL_law_1352 : decode cL_law 1352 = .ok (.iload 7, 2) := by decide +kernel
theorem dL_law_1354 : decode cL_law 1354 = .ok (.ifCond .eq 7, 3) := by decide +kernel
theorem dL_law_1357 : decode cL_law 1357 = .ok (.lconst 1, 1) := by decide +kernel
theorem dL_law_1358 : decode cL_law 1358 = .ok (.goto 4, 3) := by decide +kernel
theorem dL_law_1361 : decode cL_law 1361 = .ok (.lconst 0, 1) := by decide +kernel
theorem dL_law_1362 : decode cL_law 1362 = .ok (.lcmp, 1) := by decide +kernel
theorem dL_law_1363 : decode cL_law 1363 = .ok (.ifCond .eq 5, 3) := by decide +kernel
theorem dL_law_1366 : decode cL_law 1366 = .ok (.iconst 0, 1) := by decide +kernel
theorem dL_law_1367 : decode cL_law 1367 = .ok (.ireturn, 1) := by decide +kernel
theorem dL_law_1368 : decode cL_law 1368 = .ok (.goto 706, 3) := by decide +kernel
theorem dL_law_1371 : decode cL_law 1371 = .ok (.aload_n 1, 1) := by decide +kernel
theorem dL_law_1372 : decode cL_law 1372 = .ok (.aload_n 0, 1) := by decide +kernel
theorem dL_law_1373 : decode cL_law 1373 = .ok (.iload 5, 2) := by decide +kernel
theorem dL_law_1375 : decode cL_law 1375 = .ok (.iconst 1, 1) := by decide +kernel
theorem dL_law_1376 : decode cL_law 1376 = .ok (.iadd, 1) := by decide +kernel
theorem dL_law_1377 : decode cL_law 1377 = .ok (.iaload, 1) := by decide +kernel
theorem dL_law_1378 : decode cL_law 1378 = .ok (.aload_n 3, 1) := by decide +kernel
theorem dL_law_1379 : decode cL_law 1379 = .ok (.invokestatic 184, 3) := by decide +kernel
theorem dL_law_1382 : decode cL_law 1382 = .ok (.istore 6, 2) := by decide +kernel
theorem dL_law_1384 : decode cL_law 1384 = .ok (.aload_n 2, 1) := by decide +kernel
theorem dL_law_1385 : decode cL_law 1385 = .ok (.aload_n 0, 1) := by decide +kernel
theorem dL_law_1386 : decode cL_law 1386 = .ok (.iload 5, 2) := by decide +kernel
theorem dL_law_1388 : decode cL_law 1388 = .ok (.iconst 1, 1) := by decide +kernel
theorem dL_law_1389 : decode cL_law 1389 = .ok (.iadd, 1) := by decide +kernel
theorem dL_law_1390 : decode cL_law 1390 = .ok (.iaload, 1) := by decide +kernel
theorem dL_law_1391 : decode cL_law 1391 = .ok (.invokevirtual 186, 3) := by decide +kernel
theorem dL_law_1394 : decode cL_law 1394 = .ok (.istore 7, 2) := by decide +kernel
theorem dL_law_1396 : decode cL_law 1396 = .ok (.aload_n 2, 1) := by decide +kernel
theorem dL_law_1397 : decode cL_law 1397 = .ok (.invokevirtual 127, 3) := by decide +kernel
theorem dL_law_1400 : decode cL_law 1400 = .ok (.iload 6, 2) := by decide +kernel
theorem dL_law_1402 : decode cL_law 1402 = .ok (.if_icmp .eq 5, 3) := by decide +kernel
theorem dL_law_1405 : decode cL_law 1405 = .ok (.iconst 0, 1) := by decide +kernel
theorem dL_law_1406 : decode cL_law 1406 = .ok (.ireturn, 1) := by decide +kernel
theorem dL_law_1407 : decode cL_law 1407 = .ok (.iload 6, 2) := by decide +kernel
theorem dL_law_1409 : decode cL_law 1409 = .ok (.ifCond .ne 15, 3) := by decide +kernel
theorem dL_law_1412 : decode cL_law 1412 = .ok (.aload_n 3, 1) := by decide +kernel
theorem dL_law_1413 : decode cL_law 1413 = .ok (.iconst 0, 1) := by decide +kernel
theorem dL_law_1414 : decode cL_law 1414 = .ok (.laload, 1) := by decide +kernel
theorem dL_law_1415 : decode cL_law 1415 = .ok (.iload 7, 2) := by decide +kernel
theorem dL_law_1417 : decode cL_law 1417 = .ok (.i2l, 1) := by decide +kernel
theorem dL_law_1418 : decode cL_law 1418 = .ok (.lcmp, 1) := by decide +kernel
theorem dL_law_1419 : decode cL_law 1419 = .ok (.ifCond .eq 5, 3) := by decide +kernel
theorem dL_law_1422 : decode cL_law 1422 = .ok (.iconst 0, 1) := by decide +kernel
theorem dL_law_1423 : decode cL_law 1423 = .ok (.ireturn, 1) := by decide +kernel
theorem dL_law_1424 : decode cL_law 1424 = .ok (.goto 650, 3) := by decide +kernel
theorem dL_law_1427 : decode cL_law 1427 = .ok (.aload_n 1, 1) := by decide +kernel
theorem dL_law_1428 : decode cL_law 1428 = .ok (.aload_n 0, 1) := by decide +kernel
theorem dL_law_1429 : decode cL_law 1429 = .ok (.iload 5, 2) := by decide +kernel
theorem dL_law_1431 : decode cL_law 1431 = .ok (.iconst 1, 1) := by decide +kernel
theorem dL_law_1432 : decode cL_law 1432 = .ok (.iadd, 1) := by decide +kernel
theorem dL_law_1433 : decode cL_law 1433 = .ok (.iaload, 1) := by decide +kernel
theorem dL_law_1434 : decode cL_law 1434 = .ok (.aload_n 0, 1) := by decide +kernel
theorem dL_law_1435 : decode cL_law 1435 = .ok (.iload 5, 2) := by decide +kernel
theorem dL_law_1437 : decode cL_law 1437 = .ok (.iconst 2, 1) := by decide +kernel
theorem dL_law_1438 : decode cL_law 1438 = .ok (.iadd, 1) := by decide +kernel
theorem dL_law_1439 : decode cL_law 1439 = .ok (.iaload, 1) := by decide +kernel
theorem dL_law_1440 : decode cL_law 1440 = .ok (.aload_n 3, 1) := by decide +kernel
theorem dL_law_1441 : decode cL_law 1441 = .ok (.invokestatic 187, 3) := by decide +kernel
theorem dL_law_1444 : decode cL_law 1444 = .ok (.istore 6, 2) := by decide +kernel
theorem dL_law_1446 : decode cL_law 1446 = .ok (.aload_n 2, 1) := by decide +kernel
theorem dL_law_1447 : decode cL_law 1447 = .ok (.aload_n 0, 1) := by decide +kernel
theorem dL_law_1448 : decode cL_law 1448 = .ok (.iload 5, 2) := by decide +kernel
theorem dL_law_1450 : decode cL_law 1450 = .ok (.iconst 1, 1) := by decide +kernel
theorem dL_law_1451 : decode cL_law 1451 = .ok (.iadd, 1) := by decide +kernel
theorem dL_law_1452 : decode cL_law 1452 = .ok (.iaload, 1) := by decide +kernel
theorem dL_law_1453 : decode cL_law 1453 = .ok (.aload_n 0, 1) := by decide +kernel
theorem dL_law_1454 : decode cL_law 1454 = .ok (.iload 5, 2) := by decide +kernel
theorem dL_law_1456 : decode cL_law 1456 = .ok (.iconst 2, 1) := by decide +kernel
theorem dL_law_1457 : decode cL_law 1457 = .ok (.iadd, 1) := by decide +kernel
theorem dL_law_1458 : decode cL_law 1458 = .ok (.iaload, 1) := by decide +kernel
theorem dL_law_1459 : decode cL_law 1459 = .ok (.invokevirtual 189, 3) := by decide +kernel
theorem dL_law_1462 : decode cL_law 1462 = .ok (.istore 7, 2) := by decide +kernel
theorem dL_law_1464 : decode cL_law 1464 = .ok (.aload_n 2, 1) := by decide +kernel
theorem dL_law_1465 : decode cL_law 1465 = .ok (.invokevirtual 127, 3) := by decide +kernel
theorem dL_law_1468 : decode cL_law 1468 = .ok (.iload 6, 2) := by decide +kernel
theorem dL_law_1470 : decode cL_law 1470 = .ok (.if_icmp .eq 5, 3) := by decide +kernel
theorem dL_law_1473 : decode cL_law 1473 = .ok (.iconst 0, 1) := by decide +kernel
theorem dL_law_1474 : decode cL_law 1474 = .ok (.ireturn, 1) := by decide +kernel
theorem dL_law_1475 : decode cL_law 1475 = .ok (.iload 6, 2) := by decide +kernel
theorem dL_law_1477 : decode cL_law 1477 = .ok (.ifCond .ne 22, 3) := by decide +kernel
theorem dL_law_1480 : decode cL_law 1480 = .ok (.aload_n 3, 1) := by decide +kernel
theorem dL_law_1481 : decode cL_law 1481 = .ok (.iconst 0, 1) := by decide +kernel
theorem dL_law_1482 : decode cL_law 1482 = .ok (.laload, 1) := by decide +kernel
theorem dL_law_1483 : decode cL_law 1483 = .ok (.iload 7, 2) := by decide +kernel
theorem dL_law_1485 : decode cL_law 1485 = .ok (.ifCond .eq 7, 3) := by decide +kernel
theorem dL_law_1488 : decode cL_law 1488 = .ok (.lconst 1, 1) := by decide +kernel
theorem dL_law_1489 : decode cL_law 1489 = .ok (.goto 4, 3) := by decide +kernel
theorem dL_law_1492 : decode cL_law 1492 = .ok (.lconst 0, 1) := by decide +kernel
theorem dL_law_1493 : decode cL_law 1493 = .ok (.lcmp, 1) := by decide +kernel
theorem dL_law_1494 : decode cL_law 1494 = .ok (.ifCond .eq 5, 3) := by decide +kernel
theorem dL_law_1497 : decode cL_law 1497 = .ok (.iconst 0, 1) := by decide +kernel
theorem dL_law_1498 : decode cL_law 1498 = .ok (.ireturn, 1) := by decide +kernel
theorem dL_law_1499 : decode cL_law 1499 = .ok (.goto 575, 3) := by decide +kernel
theorem dL_law_1502 : decode cL_law 1502 = .ok (.aload_n 1, 1) := by decide +kernel
theorem dL_law_1503 : decode cL_law 1503 = .ok (.aload_n 0, 1) := by decide +kernel
theorem dL_law_1504 : decode cL_law 1504 = .ok (.iload 5, 2) := by decide +kernel
theorem dL_law_1506 : decode cL_law 1506 = .ok (.iconst 1, 1) := by decide +kernel
theorem dL_law_1507 : decode cL_law 1507 = .ok (.iadd, 1) := by decide +kernel
theorem dL_law_1508 : decode cL_law 1508 = .ok (.iaload, 1) := by decide +kernel
theorem dL_law_1509 : decode cL_law 1509 = .ok (.aload_n 3, 1) := by decide +kernel
theorem dL_law_1510 : decode cL_law 1510 = .ok (.invokestatic 190, 3) := by decide +kernel
theorem dL_law_1513 : decode cL_law 1513 = .ok (.istore 6, 2) := by decide +kernel
theorem dL_law_1515 : decode cL_law 1515 = .ok (.aload_n 2, 1) := by decide +kernel
theorem dL_law_1516 : decode cL_law 1516 = .ok (.aload_n 0, 1) := by decide +kernel
theorem dL_law_1517 : decode cL_law 1517 = .ok (.iload 5, 2) := by decide +kernel
theorem dL_law_1519 : decode cL_law 1519 = .ok (.iconst 1, 1) := by decide +kernel
theorem dL_law_1520 : decode cL_law 1520 = .ok (.iadd, 1) := by decide +kernel
theorem dL_law_1521 : decode cL_law 1521 = .ok (.iaload, 1) := by decide +kernel
theorem dL_law_1522 : decode cL_law 1522 = .ok (.invokevirtual 192, 3) := by decide +kernel
theorem dL_law_1525 : decode cL_law 1525 = .ok (.istore 7, 2) := by decide +kernel
theorem dL_law_1527 : decode cL_law 1527 = .ok (.aload_n 2, 1) := by decide +kernel
theorem dL_law_1528 : decode cL_law 1528 = .ok (.invokevirtual 127, 3) := by decide +kernel
theorem dL_law_1531 : decode cL_law 1531 = .ok (.iload 6, 2) := by decide +kernel
theorem dL_law_1533 : decode cL_law 1533 = .ok (.if_icmp .eq 5, 3) := by decide +kernel
theorem dL_law_1536 : decode cL_law 1536 = .ok (.iconst 0, 1) := by decide +kernel
theorem dL_law_1537 : decode cL_law 1537 = .ok (.ireturn, 1) := by decide +kernel
theorem dL_law_1538 : decode cL_law 1538 = .ok (.iload 6, 2) := by decide +kernel
theorem dL_law_1540 : decode cL_law 1540 = .ok (.ifCond .ne 15, 3) := by decide +kernel
theorem dL_law_1543 : decode cL_law 1543 = .ok (.aload_n 3, 1) := by decide +kernel
theorem dL_law_1544 : decode cL_law 1544 = .ok (.iconst 0, 1) := by decide +kernel
theorem dL_law_1545 : decode cL_law 1545 = .ok (.laload, 1) := by decide +kernel
theorem dL_law_1546 : decode cL_law 1546 = .ok (.iload 7, 2) := by decide +kernel
theorem dL_law_1548 : decode cL_law 1548 = .ok (.i2l, 1) := by decide +kernel
theorem dL_law_1549 : decode cL_law 1549 = .ok (.lcmp, 1) := by decide +kernel
theorem dL_law_1550 : decode cL_law 1550 = .ok (.ifCond .eq 5, 3) := by decide +kernel
theorem dL_law_1553 : decode cL_law 1553 = .ok (.iconst 0, 1) := by decide +kernel
theorem dL_law_1554 : decode cL_law 1554 = .ok (.ireturn, 1) := by decide +kernel
theorem dL_law_1555 : decode cL_law 1555 = .ok (.goto 519, 3) := by decide +kernel
theorem dL_law_1558 : decode cL_law 1558 = .ok (.aload_n 1, 1) := by decide +kernel
theorem dL_law_1559 : decode cL_law 1559 = .ok (.invokevirtual 193, 3) := by decide +kernel
theorem dL_law_1562 : decode cL_law 1562 = .ok (.aload_n 2, 1) := by decide +kernel
theorem dL_law_1563 : decode cL_law 1563 = .ok (.invokevirtual 196, 3) := by decide +kernel
theorem dL_law_1566 : decode cL_law 1566 = .ok (.if_icmp .eq 508, 3) := by decide +kernel
theorem dL_law_1569 : decode cL_law 1569 = .ok (.iconst 0, 1) := by decide +kernel
theorem dL_law_1570 : decode cL_law 1570 = .ok (.ireturn, 1) := by decide +kernel
theorem dL_law_1571 : decode cL_law 1571 = .ok (.aload_n 1, 1) := by decide +kernel
theorem dL_law_1572 : decode cL_law 1572 = .ok (.aload_n 0, 1) := by decide +kernel
theorem dL_law_1573 : decode cL_law 1573 = .ok (.iload 5, 2) := by decide +kernel
theorem dL_law_1575 : decode cL_law 1575 = .ok (.iconst 1, 1) := by decide +kernel
theorem dL_law_1576 : decode cL_law 1576 = .ok (.iadd, 1) := by decide +kernel
theorem dL_law_1577 : decode cL_law 1577 = .ok (.iaload, 1) := by decide +kernel
theorem dL_law_1578 : decode cL_law 1578 = .ok (.i2c, 1) := by decide +kernel
theorem dL_law_1579 : decode cL_law 1579 = .ok (.aload_n 3, 1) := by decide +kernel
theorem dL_law_1580 : decode cL_law 1580 = .ok (.invokestatic 197, 3) := by decide +kernel
theorem dL_law_1583 : decode cL_law 1583 = .ok (.istore 6, 2) := by decide +kernel
theorem dL_law_1585 : decode cL_law 1585 = .ok (.aload_n 2, 1) := by decide +kernel
theorem dL_law_1586 : decode cL_law 1586 = .ok (.aload_n 0, 1) := by decide +kernel
theorem dL_law_1587 : decode cL_law 1587 = .ok (.iload 5, 2) := by decide +kernel
theorem dL_law_1589 : decode cL_law 1589 = .ok (.iconst 1, 1) := by decide +kernel
theorem dL_law_1590 : decode cL_law 1590 = .ok (.iadd, 1) := by decide +kernel
theorem dL_law_1591 : decode cL_law 1591 = .ok (.iaload, 1) := by decide +kernel
theorem dL_law_1592 : decode cL_law 1592 = .ok (.i2c, 1) := by decide +kernel
theorem dL_law_1593 : decode cL_law 1593 = .ok (.invokevirtual 200, 3) := by decide +kernel
theorem dL_law_1596 : decode cL_law 1596 = .ok (.istore 7, 2) := by decide +kernel
theorem dL_law_1598 : decode cL_law 1598 = .ok (.aload_n 2, 1) := by decide +kernel
theorem dL_law_1599 : decode cL_law 1599 = .ok (.invokevirtual 127, 3) := by decide +kernel
theorem dL_law_1602 : decode cL_law 1602 = .ok (.iload 6, 2) := by decide +kernel
theorem dL_law_1604 : decode cL_law 1604 = .ok (.if_icmp .eq 5, 3) := by decide +kernel
theorem dL_law_1607 : decode cL_law 1607 = .ok (.iconst 0, 1) := by decide +kernel
theorem dL_law_1608 : decode cL_law 1608 = .ok (.ireturn, 1) := by decide +kernel
theorem dL_law_1609 : decode cL_law 1609 = .ok (.iload 6, 2) := by decide +kernel
theorem dL_law_1611 : decode cL_law 1611 = .ok (.ifCond .ne 15, 3) := by decide +kernel
theorem dL_law_1614 : decode cL_law 1614 = .ok (.aload_n 3, 1) := by decide +kernel
theorem dL_law_1615 : decode cL_law 1615 = .ok (.iconst 0, 1) := by decide +kernel
theorem dL_law_1616 : decode cL_law 1616 = .ok (.laload, 1) := by decide +kernel
theorem dL_law_1617 : decode cL_law 1617 = .ok (.iload 7, 2) := by decide +kernel
theorem dL_law_1619 : decode cL_law 1619 = .ok (.i2l, 1) := by decide +kernel
theorem dL_law_1620 : decode cL_law 1620 = .ok (.lcmp, 1) := by decide +kernel
theorem dL_law_1621 : decode cL_law 1621 = .ok (.ifCond .eq 5, 3) := by decide +kernel
theorem dL_law_1624 : decode cL_law 1624 = .ok (.iconst 0, 1) := by decide +kernel
theorem dL_law_1625 : decode cL_law 1625 = .ok (.ireturn, 1) := by decide +kernel
theorem dL_law_1626 : decode cL_law 1626 = .ok (.goto 448, 3) := by decide +kernel
theorem dL_law_1629 : decode cL_law 1629 = .ok (.aload_n 1, 1) := by decide +kernel
theorem dL_law_1630 : decode cL_law 1630 = .ok (.aload_n 3, 1) := by decide +kernel
theorem dL_law_1631 : decode cL_law 1631 = .ok (.invokestatic 201, 3) := by decide +kernel
theorem dL_law_1634 : decode cL_law 1634 = .ok (.istore 6, 2) := by decide +kernel
theorem dL_law_1636 : decode cL_law 1636 = .ok (.aload_n 2, 1) := by decide +kernel
theorem dL_law_1637 : decode cL_law 1637 = .ok (.invokevirtual 204, 3) := by decide +kernel
theorem dL_law_1640 : decode cL_law 1640 = .ok (.istore 7, 2) := by decide +kernel
theorem dL_law_1642 : decode cL_law 1642 = .ok (.aload_n 2, 1) := by decide +kernel
theorem dL_law_1643 : decode cL_law 1643 = .ok (.invokevirtual 127, 3) := by decide +kernel
theorem dL_law_1646 : decode cL_law 1646 = .ok (.iload 6, 2) := by decide +kernel
theorem dL_law_1648 : decode cL_law 1648 = .ok (.if_icmp .eq 5, 3) := by decide +kernel
theorem dL_law_1651 : decode cL_law 1651 = .ok (.iconst 0, 1) := by decide +kernel
theorem dL_law_1652 : decode cL_law 1652 = .ok (.ireturn, 1) := by decide +kernel
theorem dL_law_1653 : decode cL_law 1653 = .ok (.iload 6, 2) := by decide +kernel
theorem dL_law_1655 : decode cL_law 1655 = .ok (.ifCond .ne 15, 3) := by decide +kernel
theorem dL_law_1658 : decode cL_law 1658 = .ok (.aload_n 3, 1) := by decide +kernel
theorem dL_law_1659 : decode cL_law 1659 = .ok (.iconst 0, 1) := by decide +kernel
theorem dL_law_1660 : decode cL_law 1660 = .ok (.laload, 1) := by decide +kernel
theorem dL_law_1661 : decode cL_law 1661 = .ok (.iload 7, 2) := by decide +kernel
theorem dL_law_1663 : decode cL_law 1663 = .ok (.i2l, 1) := by decide +kernel
theorem dL_law_1664 : decode cL_law 1664 = .ok (.lcmp, 1) := by decide +kernel
theorem dL_law_1665 : decode cL_law 1665 = .ok (.ifCond .eq 5, 3) := by decide +kernel
theorem dL_law_1668 : decode cL_law 1668 = .ok (.iconst 0, 1) := by decide +kernel
theorem dL_law_1669 : decode cL_law 1669 = .ok (.ireturn, 1) := by decide +kernel
theorem dL_law_1670 : decode cL_law 1670 = .ok (.goto 404, 3) := by decide +kernel
theorem dL_law_1673 : decode cL_law 1673 = .ok (.aload_n 1, 1) := by decide +kernel
theorem dL_law_1674 : decode cL_law 1674 = .ok (.aload_n 0, 1) := by decide +kernel
theorem dL_law_1675 : decode cL_law 1675 = .ok (.iload 5, 2) := by decide +kernel
theorem dL_law_1677 : decode cL_law 1677 = .ok (.iconst 1, 1) := by decide +kernel
theorem dL_law_1678 : decode cL_law 1678 = .ok (.iadd, 1) := by decide +kernel
theorem dL_law_1679 : decode cL_law 1679 = .ok (.iaload, 1) := by decide +kernel
theorem dL_law_1680 : decode cL_law 1680 = .ok (.aload_n 3, 1) := by decide +kernel
theorem dL_law_1681 : decode cL_law 1681 = .ok (.invokestatic 205, 3) := by decide +kernel
theorem dL_law_1684 : decode cL_law 1684 = .ok (.istore 6, 2) := by decide +kernel
theorem dL_law_1686 : decode cL_law 1686 = .ok (.aload_n 2, 1) := by decide +kernel
theorem dL_law_1687 : decode cL_law 1687 = .ok (.aload_n 0, 1) := by decide +kernel
theorem dL_law_1688 : decode cL_law 1688 = .ok (.iload 5, 2) := by decide +kernel
theorem dL_law_1690 : decode cL_law 1690 = .ok (.iconst 1, 1) := by decide +kernel
theorem dL_law_1691 : decode cL_law 1691 = .ok (.iadd, 1) := by decide +kernel
theorem dL_law_1692 : decode cL_law 1692 = .ok (.iaload, 1) := by decide +kernel
theorem dL_law_1693 : decode cL_law 1693 = .ok (.invokevirtual 207, 3) := by decide +kernel
theorem dL_law_1696 : decode cL_law 1696 = .ok (.istore 7, 2) := by decide +kernel
theorem dL_law_1698 : decode cL_law 1698 = .ok (.aload_n 2, 1) := by decide +kernel
theorem dL_law_1699 : decode cL_law 1699 = .ok (.invokevirtual 127, 3) := by decide +kernel
theorem dL_law_1702 : decode cL_law 1702 = .ok (.iload 6, 2) := by decide +kernel
theorem dL_law_1704 : decode cL_law 1704 = .ok (.if_icmp .eq 5, 3) := by decide +kernel
theorem dL_law_1707 : decode cL_law 1707 = .ok (.iconst 0, 1) := by decide +kernel
theorem dL_law_1708 : decode cL_law 1708 = .ok (.ireturn, 1) := by decide +kernel
theorem dL_law_1709 : decode cL_law 1709 = .ok (.iload 6, 2) := by decide +kernel
theorem dL_law_1711 : decode cL_law 1711 = .ok (.ifCond .ne 15, 3) := by decide +kernel
theorem dL_law_1714 : decode cL_law 1714 = .ok (.aload_n 3, 1) := by decide +kernel
theorem dL_law_1715 : decode cL_law 1715 = .ok (.iconst 0, 1) := by decide +kernel
theorem dL_law_1716 : decode cL_law 1716 = .ok (.laload, 1) := by decide +kernel
theorem dL_law_1717 : decode cL_law 1717 = .ok (.iload 7, 2) := by decide +kernel
theorem dL_law_1719 : decode cL_law 1719 = .ok (.i2l, 1) := by decide +kernel
theorem dL_law_1720 : decode cL_law 1720 = .ok (.lcmp, 1) := by decide +kernel
theorem dL_law_1721 : decode cL_law 1721 = .ok (.ifCond .eq 5, 3) := by decide +kernel
theorem dL_law_1724 : decode cL_law 1724 = .ok (.iconst 0, 1) := by decide +kernel
theorem dL_law_1725 : decode cL_law 1725 = .ok (.ireturn, 1) := by decide +kernel
theorem dL_law_1726 : decode cL_law 1726 = .ok (.goto 348, 3) := by decide +kernel
theorem dL_law_1729 : decode cL_law 1729 = .ok (.aload_n 1, 1) := by decide +kernel
theorem dL_law_1730 : decode cL_law 1730 = .ok (.aload_n 3, 1) := by decide +kernel
theorem dL_law_1731 : decode cL_law 1731 = .ok (.invokestatic 208, 3) := by decide +kernel
theorem dL_law_1734 : decode cL_law 1734 = .ok (.istore 6, 2) := by decide +kernel
theorem dL_law_1736 : decode cL_law 1736 = .ok (.aload_n 2, 1) := by decide +kernel
theorem dL_law_1737 : decode cL_law 1737 = .ok (.invokevirtual 210, 3) := by decide +kernel
theorem dL_law_1740 : decode cL_law 1740 = .ok (.istore 7, 2) := by decide +kernel
theorem dL_law_1742 : decode cL_law 1742 = .ok (.aload_n 2, 1) := by decide +kernel
theorem dL_law_1743 : decode cL_law 1743 = .ok (.invokevirtual 127, 3) := by decide +kernel
theorem dL_law_1746 : decode cL_law 1746 = .ok (.iload 6, 2) := by decide +kernel
theorem dL_law_1748 : decode cL_law 1748 = .ok (.if_icmp .eq 5, 3) := by decide +kernel
theorem dL_law_1751 : decode cL_law 1751 = .ok (.iconst 0, 1) := by decide +kernel
theorem dL_law_1752 : decode cL_law 1752 = .ok (.ireturn, 1) := by decide +kernel
theorem dL_law_1753 : decode cL_law 1753 = .ok (.iload 6, 2) := by decide +kernel
theorem dL_law_1755 : decode cL_law 1755 = .ok (.ifCond .ne 15, 3) := by decide +kernel
theorem dL_law_1758 : decode cL_law 1758 = .ok (.aload_n 3, 1) := by decide +kernel
theorem dL_law_1759 : decode cL_law 1759 = .ok (.iconst 0, 1) := by decide +kernel
theorem dL_law_1760 : decode cL_law 1760 = .ok (.laload, 1) := by decide +kernel
theorem dL_law_1761 : decode cL_law 1761 = .ok (.iload 7, 2) := by decide +kernel
theorem dL_law_1763 : decode cL_law 1763 = .ok (.i2l, 1) := by decide +kernel
theorem dL_law_1764 : decode cL_law 1764 = .ok (.lcmp, 1) := by decide +kernel
theorem dL_law_1765 : decode cL_law 1765 = .ok (.ifCond .eq 5, 3) := by decide +kernel
theorem dL_law_1768 : decode cL_law 1768 = .ok (.iconst 0, 1) := by decide +kernel
theorem dL_law_1769 : decode cL_law 1769 = .ok (.ireturn, 1) := by decide +kernel
theorem dL_law_1770 : decode cL_law 1770 = .ok (.goto 304, 3) := by decide +kernel
theorem dL_law_1773 : decode cL_law 1773 = .ok (.aload_n 1, 1) := by decide +kernel
theorem dL_law_1774 : decode cL_law 1774 = .ok (.aload_n 3, 1) := by decide +kernel
theorem dL_law_1775 : decode cL_law 1775 = .ok (.invokestatic 211, 3) := by decide +kernel
theorem dL_law_1778 : decode cL_law 1778 = .ok (.istore 6, 2) := by decide +kernel
theorem dL_law_1780 : decode cL_law 1780 = .ok (.aload_n 2, 1) := by decide +kernel
theorem dL_law_1781 : decode cL_law 1781 = .ok (.invokevirtual 213, 3) := by decide +kernel
theorem dL_law_1784 : decode cL_law 1784 = .ok (.istore 7, 2) := by decide +kernel
theorem dL_law_1786 : decode cL_law 1786 = .ok (.aload_n 2, 1) := by decide +kernel
theorem dL_law_1787 : decode cL_law 1787 = .ok (.invokevirtual 127, 3) := by decide +kernel
theorem dL_law_1790 : decode cL_law 1790 = .ok (.iload 6, 2) := by decide +kernel
theorem dL_law_1792 : decode cL_law 1792 = .ok (.if_icmp .eq 5, 3) := by decide +kernel
theorem dL_law_1795 : decode cL_law 1795 = .ok (.iconst 0, 1) := by decide +kernel
theorem dL_law_1796 : decode cL_law 1796 = .ok (.ireturn, 1) := by decide +kernel
theorem dL_law_1797 : decode cL_law 1797 = .ok (.iload 6, 2) := by decide +kernel
theorem dL_law_1799 : decode cL_law 1799 = .ok (.ifCond .ne 15, 3) := by decide +kernel
theorem dL_law_1802 : decode cL_law 1802 = .ok (.aload_n 3, 1) := by decide +kernel
theorem dL_law_1803 : decode cL_law 1803 = .ok (.iconst 0, 1) := by decide +kernel
theorem dL_law_1804 : decode cL_law 1804 = .ok (.laload, 1) := by decide +kernel
theorem dL_law_1805 : decode cL_law 1805 = .ok (.iload 7, 2) := by decide +kernel
theorem dL_law_1807 : decode cL_law 1807 = .ok (.i2l, 1) := by decide +kernel
theorem dL_law_1808 : decode cL_law 1808 = .ok (.lcmp, 1) := by decide +kernel
theorem dL_law_1809 : decode cL_law 1809 = .ok (.ifCond .eq 5, 3) := by decide +kernel
theorem dL_law_1812 : decode cL_law 1812 = .ok (.iconst 0, 1) := by decide +kernel
theorem dL_law_1813 : decode cL_law 1813 = .ok (.ireturn, 1) := by decide +kernel
theorem dL_law_1814 : decode cL_law 1814 = .ok (.goto 260, 3) := by decide +kernel
theorem dL_law_1817 : decode cL_law 1817 = .ok (.aload_n 1, 1) := by decide +kernel
theorem dL_law_1818 : decode cL_law 1818 = .ok (.invokevirtual 214, 3) := by decide +kernel
theorem dL_law_1821 : decode cL_law 1821 = .ok (.aload_n 2, 1) := by decide +kernel
theorem dL_law_1822 : decode cL_law 1822 = .ok (.invokevirtual 217, 3) := by decide +kernel
theorem dL_law_1825 : decode cL_law 1825 = .ok (.if_icmp .eq 249, 3) := by decide +kernel
theorem dL_law_1828 : decode cL_law 1828 = .ok (.iconst 0, 1) := by decide +kernel
theorem dL_law_1829 : decode cL_law 1829 = .ok (.ireturn, 1) := by decide +kernel
theorem dL_law_1830 : decode cL_law 1830 = .ok (.aload_n 1, 1) := by decide +kernel
theorem dL_law_1831 : decode cL_law 1831 = .ok (.aload_n 0, 1) := by decide +kernel
theorem dL_law_1832 : decode cL_law 1832 = .ok (.iload 5, 2) := by decide +kernel
theorem dL_law_1834 : decode cL_law 1834 = .ok (.iconst 1, 1) := by decide +kernel
theorem dL_law_1835 : decode cL_law 1835 = .ok (.iadd, 1) := by decide +kernel
theorem dL_law_1836 : decode cL_law 1836 = .ok (.iaload, 1) := by decide +kernel
theorem dL_law_1837 : decode cL_law 1837 = .ok (.aload_n 3, 1) := by decide +kernel
theorem dL_law_1838 : decode cL_law 1838 = .ok (.invokestatic 218, 3) := by decide +kernel
theorem dL_law_1841 : decode cL_law 1841 = .ok (.istore 6, 2) := by decide +kernel
theorem dL_law_1843 : decode cL_law 1843 = .ok (.aload_n 2, 1) := by decide +kernel
theorem dL_law_1844 : decode cL_law 1844 = .ok (.aload_n 0, 1) := by decide +kernel
theorem dL_law_1845 : decode cL_law 1845 = .ok (.iload 5, 2) := by decide +kernel
theorem dL_law_1847 : decode cL_law 1847 = .ok (.iconst 1, 1) := by decide +kernel
theorem dL_law_1848 : decode cL_law 1848 = .ok (.iadd, 1) := by decide +kernel
theorem dL_law_1849 : decode cL_law 1849 = .ok (.iaload, 1) := by decide +kernel
theorem dL_law_1850 : decode cL_law 1850 = .ok (.invokevirtual 220, 3) := by decide +kernel
theorem dL_law_1853 : decode cL_law 1853 = .ok (.istore 7, 2) := by decide +kernel
theorem dL_law_1855 : decode cL_law 1855 = .ok (.aload_n 2, 1) := by decide +kernel
theorem dL_law_1856 : decode cL_law 1856 = .ok (.invokevirtual 127, 3) := by decide +kernel
theorem dL_law_1859 : decode cL_law 1859 = .ok (.iload 6, 2) := by decide +kernel
theorem dL_law_1861 : decode cL_law 1861 = .ok (.if_icmp .eq 5, 3) := by decide +kernel
theorem dL_law_1864 : decode cL_law 1864 = .ok (.iconst 0, 1) := by decide +kernel
theorem dL_law_1865 : decode cL_law 1865 = .ok (.ireturn, 1) := by decide +kernel
theorem dL_law_1866 : decode cL_law 1866 = .ok (.iload 6, 2) := by decide +kernel
theorem dL_law_1868 : decode cL_law 1868 = .ok (.ifCond .ne 15, 3) := by decide +kernel
theorem dL_law_1871 : decode cL_law 1871 = .ok (.aload_n 3, 1) := by decide +kernel
theorem dL_law_1872 : decode cL_law 1872 = .ok (.iconst 0, 1) := by decide +kernel
theorem dL_law_1873 : decode cL_law 1873 = .ok (.laload, 1) := by decide +kernel
theorem dL_law_1874 : decode cL_law 1874 = .ok (.iload 7, 2) := by decide +kernel
theorem dL_law_1876 : decode cL_law 1876 = .ok (.i2l, 1) := by decide +kernel
theorem dL_law_1877 : decode cL_law 1877 = .ok (.lcmp, 1) := by decide +kernel
theorem dL_law_1878 : decode cL_law 1878 = .ok (.ifCond .eq 5, 3) := by decide +kernel
theorem dL_law_1881 : decode cL_law 1881 = .ok (.iconst 0, 1) := by decide +kernel
theorem dL_law_1882 : decode cL_law 1882 = .ok (.ireturn, 1) := by decide +kernel
theorem dL_law_1883 : decode cL_law 1883 = .ok (.goto 191, 3) := by decide +kernel
theorem dL_law_1886 : decode cL_law 1886 = .ok (.aload_n 1, 1) := by decide +kernel
theorem dL_law_1887 : decode cL_law 1887 = .ok (.invokevirtual 221, 3) := by decide +kernel
theorem dL_law_1890 : decode cL_law 1890 = .ok (.aload_n 2, 1) := by decide +kernel
theorem dL_law_1891 : decode cL_law 1891 = .ok (.invokevirtual 224, 3) := by decide +kernel
theorem dL_law_1894 : decode cL_law 1894 = .ok (.if_icmp .eq 180, 3) := by decide +kernel
theorem dL_law_1897 : decode cL_law 1897 = .ok (.iconst 0, 1) := by decide +kernel
theorem dL_law_1898 : decode cL_law 1898 = .ok (.ireturn, 1) := by decide +kernel
theorem dL_law_1899 : decode cL_law 1899 = .ok (.aload_n 1, 1) := by decide +kernel
theorem dL_law_1900 : decode cL_law 1900 = .ok (.invokevirtual 225, 3) := by decide +kernel
theorem dL_law_1903 : decode cL_law 1903 = .ok (.aload_n 2, 1) := by decide +kernel
theorem dL_law_1904 : decode cL_law 1904 = .ok (.invokevirtual 228, 3) := by decide +kernel
theorem dL_law_1907 : decode cL_law 1907 = .ok (.if_icmp .eq 167, 3) := by decide +kernel
theorem dL_law_1910 : decode cL_law 1910 = .ok (.iconst 0, 1) := by decide +kernel
theorem dL_law_1911 : decode cL_law 1911 = .ok (.ireturn, 1) := by decide +kernel
theorem dL_law_1912 : decode cL_law 1912 = .ok (.aload_n 1, 1) := by decide +kernel
theorem dL_law_1913 : decode cL_law 1913 = .ok (.aload_n 0, 1) := by decide +kernel
theorem dL_law_1914 : decode cL_law 1914 = .ok (.iload 5, 2) := by decide +kernel
theorem dL_law_1916 : decode cL_law 1916 = .ok (.iconst 1, 1) := by decide +kernel
theorem dL_law_1917 : decode cL_law 1917 = .ok (.iadd, 1) := by decide +kernel
theorem dL_law_1918 : decode cL_law 1918 = .ok (.iaload, 1) := by decide +kernel
theorem dL_law_1919 : decode cL_law 1919 = .ok (.aload_n 3, 1) := by decide +kernel
theorem dL_law_1920 : decode cL_law 1920 = .ok (.invokestatic 229, 3) := by decide +kernel
theorem dL_law_1923 : decode cL_law 1923 = .ok (.istore 6, 2) := by decide +kernel
theorem dL_law_1925 : decode cL_law 1925 = .ok (.aload_n 2, 1) := by decide +kernel
theorem dL_law_1926 : decode cL_law 1926 = .ok (.aload_n 0, 1) := by decide +kernel
theorem dL_law_1927 : decode cL_law 1927 = .ok (.iload 5, 2) := by decide +kernel
theorem dL_law_1929 : decode cL_law 1929 = .ok (.iconst 1, 1) := by decide +kernel
theorem dL_law_1930 : decode cL_law 1930 = .ok (.iadd, 1) := by decide +kernel
theorem dL_law_1931 : decode cL_law 1931 = .ok (.iaload, 1) := by decide +kernel
theorem dL_law_1932 : decode cL_law 1932 = .ok (.invokevirtual 231, 3) := by decide +kernel
theorem dL_law_1935 : decode cL_law 1935 = .ok (.istore 7, 2) := by decide +kernel
theorem dL_law_1937 : decode cL_law 1937 = .ok (.aload_n 2, 1) := by decide +kernel
theorem dL_law_1938 : decode cL_law 1938 = .ok (.invokevirtual 127, 3) := by decide +kernel
theorem dL_law_1941 : decode cL_law 1941 = .ok (.iload 6, 2) := by decide +kernel
theorem dL_law_1943 : decode cL_law 1943 = .ok (.if_icmp .eq 5, 3) := by decide +kernel
theorem dL_law_1946 : decode cL_law 1946 = .ok (.iconst 0, 1) := by decide +kernel
theorem dL_law_1947 : decode cL_law 1947 = .ok (.ireturn, 1) := by decide +kernel
theorem dL_law_1948 : decode cL_law 1948 = .ok (.iload 6, 2) := by decide +kernel
theorem dL_law_1950 : decode cL_law 1950 = .ok (.ifCond .ne 15, 3) := by decide +kernel
theorem dL_law_1953 : decode cL_law 1953 = .ok (.aload_n 3, 1) := by decide +kernel
theorem dL_law_1954 : decode cL_law 1954 = .ok (.iconst 0, 1) := by decide +kernel
theorem dL_law_1955 : decode cL_law 1955 = .ok (.laload, 1) := by decide +kernel
theorem dL_law_1956 : decode cL_law 1956 = .ok (.iload 7, 2) := by decide +kernel
theorem dL_law_1958 : decode cL_law 1958 = .ok (.i2l, 1) := by decide +kernel
theorem dL_law_1959 : decode cL_law 1959 = .ok (.lcmp, 1) := by decide +kernel
theorem dL_law_1960 : decode cL_law 1960 = .ok (.ifCond .eq 5, 3) := by decide +kernel
theorem dL_law_1963 : decode cL_law 1963 = .ok (.iconst 0, 1) := by decide +kernel
theorem dL_law_1964 : decode cL_law 1964 = .ok (.ireturn, 1) := by decide +kernel
theorem dL_law_1965 : decode cL_law 1965 = .ok (.goto 109, 3) := by decide +kernel
theorem dL_law_1968 : decode cL_law 1968 = .ok (.aload_n 1, 1) := by decide +kernel
theorem dL_law_1969 : decode cL_law 1969 = .ok (.invokevirtual 232, 3) := by decide +kernel
theorem dL_law_1972 : decode cL_law 1972 = .ok (.aload_n 2, 1) := by decide +kernel
theorem dL_law_1973 : decode cL_law 1973 = .ok (.invokevirtual 235, 3) := by decide +kernel
theorem dL_law_1976 : decode cL_law 1976 = .ok (.if_icmp .eq 98, 3) := by decide +kernel
theorem dL_law_1979 : decode cL_law 1979 = .ok (.iconst 0, 1) := by decide +kernel
theorem dL_law_1980 : decode cL_law 1980 = .ok (.ireturn, 1) := by decide +kernel
theorem dL_law_1981 : decode cL_law 1981 = .ok (.aload_n 1, 1) := by decide +kernel
theorem dL_law_1982 : decode cL_law 1982 = .ok (.invokevirtual 236, 3) := by decide +kernel
theorem dL_law_1985 : decode cL_law 1985 = .ok (.aload_n 2, 1) := by decide +kernel
theorem dL_law_1986 : decode cL_law 1986 = .ok (.invokevirtual 239, 3) := by decide +kernel
theorem dL_law_1989 : decode cL_law 1989 = .ok (.if_icmp .eq 85, 3) := by decide +kernel
theorem dL_law_1992 : decode cL_law 1992 = .ok (.iconst 0, 1) := by decide +kernel
theorem dL_law_1993 : decode cL_law 1993 = .ok (.ireturn, 1) := by decide +kernel
theorem dL_law_1994 : decode cL_law 1994 = .ok (.aload_n 1, 1) := by decide +kernel
theorem dL_law_1995 : decode cL_law 1995 = .ok (.invokevirtual 240, 3) := by decide +kernel
theorem dL_law_1998 : decode cL_law 1998 = .ok (.aload_n 2, 1) := by decide +kernel
theorem dL_law_1999 : decode cL_law 1999 = .ok (.invokevirtual 244, 3) := by decide +kernel
theorem dL_law_2002 : decode cL_law 2002 = .ok (.lcmp, 1) := by decide +kernel
theorem dL_law_2003 : decode cL_law 2003 = .ok (.ifCond .eq 71, 3) := by decide +kernel
theorem dL_law_2006 : decode cL_law 2006 = .ok (.iconst 0, 1) := by decide +kernel
theorem dL_law_2007 : decode cL_law 2007 = .ok (.ireturn, 1) := by decide +kernel
theorem dL_law_2008 : decode cL_law 2008 = .ok (.aload_n 1, 1) := by decide +kernel
theorem dL_law_2009 : decode cL_law 2009 = .ok (.aload 4, 2) := by decide +kernel
theorem dL_law_2011 : decode cL_law 2011 = .ok (.invokestatic 245, 3) := by decide +kernel
theorem dL_law_2014 : decode cL_law 2014 = .ok (.istore 6, 2) := by decide +kernel
theorem dL_law_2016 : decode cL_law 2016 = .ok (.aload_n 2, 1) := by decide +kernel
theorem dL_law_2017 : decode cL_law 2017 = .ok (.invokevirtual 248, 3) := by decide +kernel
theorem dL_law_2020 : decode cL_law 2020 = .ok (.fstore 7, 2) := by decide +kernel
theorem dL_law_2022 : decode cL_law 2022 = .ok (.aload_n 2, 1) := by decide +kernel
theorem dL_law_2023 : decode cL_law 2023 = .ok (.invokevirtual 127, 3) := by decide +kernel
theorem dL_law_2026 : decode cL_law 2026 = .ok (.iload 6, 2) := by decide +kernel
theorem dL_law_2028 : decode cL_law 2028 = .ok (.if_icmp .eq 5, 3) := by decide +kernel
theorem dL_law_2031 : decode cL_law 2031 = .ok (.iconst 0, 1) := by decide +kernel
theorem dL_law_2032 : decode cL_law 2032 = .ok (.ireturn, 1) := by decide +kernel
theorem dL_law_2033 : decode cL_law 2033 = .ok (.iload 6, 2) := by decide +kernel
theorem dL_law_2035 : decode cL_law 2035 = .ok (.ifCond .ne 36, 3) := by decide +kernel
theorem dL_law_2038 : decode cL_law 2038 = .ok (.aload 4, 2) := by decide +kernel
theorem dL_law_2040 : decode cL_law 2040 = .ok (.iconst 0, 1) := by decide +kernel
theorem dL_law_2041 : decode cL_law 2041 = .ok (.daload, 1) := by decide +kernel
theorem dL_law_2042 : decode cL_law 2042 = .ok (.fload 7, 2) := by decide +kernel
theorem dL_law_2044 : decode cL_law 2044 = .ok (.f2d, 1) := by decide +kernel
theorem dL_law_2045 : decode cL_law 2045 = .ok (.dcmp .l, 1) := by decide +kernel
theorem dL_law_2046 : decode cL_law 2046 = .ok (.ifCond .eq 25, 3) := by decide +kernel
theorem dL_law_2049 : decode cL_law 2049 = .ok (.aload 4, 2) := by decide +kernel
theorem dL_law_2051 : decode cL_law 2051 = .ok (.iconst 0, 1) := by decide +kernel
theorem dL_law_2052 : decode cL_law 2052 = .ok (.daload, 1) := by decide +kernel
theorem dL_law_2053 : decode cL_law 2053 = .ok (.aload 4, 2) := by decide +kernel
theorem dL_law_2055 : decode cL_law 2055 = .ok (.iconst 0, 1) := by decide +kernel
theorem dL_law_2056 : decode cL_law 2056 = .ok (.daload, 1) := by decide +kernel
theorem dL_law_2057 : decode cL_law 2057 = .ok (.dcmp .l, 1) := by decide +kernel
theorem dL_law_2058 : decode cL_law 2058 = .ok (.ifCond .eq 11, 3) := by decide +kernel
theorem dL_law_2061 : decode cL_law 2061 = .ok (.fload 7, 2) := by decide +kernel
theorem dL_law_2063 : decode cL_law 2063 = .ok (.fload 7, 2) := by decide +kernel
theorem dL_law_2065 : decode cL_law 2065 = .ok (.fcmp .l, 1) := by decide +kernel
theorem dL_law_2066 : decode cL_law 2066 = .ok (.ifCond .ne 5, 3) := by decide +kernel
theorem dL_law_2069 : decode cL_law 2069 = .ok (.iconst 0, 1) := by decide +kernel
theorem dL_law_2070 : decode cL_law 2070 = .ok (.ireturn, 1) := by decide +kernel
theorem dL_law_2071 : decode cL_law 2071 = .ok (.goto 3, 3) := by decide +kernel
theorem dL_law_2074 : decode cL_law 2074 = .ok (.iinc 5 4, 3) := by decide +kernel
theorem dL_law_2077 : decode cL_law 2077 = .ok (.goto (-2049), 3) := by decide +kernel
theorem dL_law_2080 : decode cL_law 2080 = .ok (.iconst 1, 1) := by decide +kernel
theorem dL_law_2081 : decode cL_law 2081 = .ok (.ireturn, 1) := by decide +kernel
end
section
/-! ghost values and heaps: whole numbers for the machine's; addresses as they are -/
abbrev GV : Type := Int ⊕ (Int ⊕ (UInt32 ⊕ (UInt64 ⊕ Option Nat)))
abbrev gI (x : Int) : GV := Sum.inl x
abbrev gL (x : Int) : GV := Sum.inr (Sum.inl x)
abbrev gF (x : UInt32) : GV := Sum.inr (Sum.inr (Sum.inl x))
abbrev gD (x : UInt64) : GV := Sum.inr (Sum.inr (Sum.inr (Sum.inl x)))
abbrev gR (x : Option Nat) : GV := Sum.inr (Sum.inr (Sum.inr (Sum.inr x)))
def tv : GV → Value
  | .inl x => .int (Int32.ofInt x)
  | .inr (.inl x) => .long (Int64.ofInt x)
  | .inr (.inr (.inl x)) => .float x
  | .inr (.inr (.inr (.inl x))) => .double x
  | .inr (.inr (.inr (.inr x))) => va_rf x
def gcat : GV → Nat
  | .inl _ => 1
  | .inr (.inl _) => 2
  | .inr (.inr (.inl _)) => 1
  | .inr (.inr (.inr (.inl _))) => 2
  | .inr (.inr (.inr (.inr _))) => 1
theorem tv_cat (v : GV) : (tv v).category = gcat v := by
  rcases v with x | x | x | x | x
  · rfl
  · rfl
  · rfl
  · rfl
  · cases x <;> rfl
theorem tv_cats (st : List GV) : ((st.map tv).map fun v => v.category) = st.map gcat := by
  induction st with
  | nil => rfl
  | cons a l ih => rw [List.map_cons, List.map_cons, List.map_cons, tv_cat, ih]
abbrev gA : Type := (Nat → Int) ⊕ ((Nat → Int) ⊕ ((Nat → UInt64) ⊕ (Nat → Option Nat)))
abbrev gE : Type := (Nat × (Nat × gA)) ⊕ (Nat × List GV)
abbrev GH : Type := Nat → Option gE
abbrev gArr (t n : Nat) (f : Nat → Int) : gE := Sum.inl (t, n, Sum.inl f)
abbrev gArrL (t n : Nat) (f : Nat → Int) : gE := Sum.inl (t, n, Sum.inr (Sum.inl f))
abbrev gArrD (t n : Nat) (f : Nat → UInt64) : gE := Sum.inl (t, n, Sum.inr (Sum.inr (Sum.inl f)))
abbrev gArrR (t n : Nat) (f : Nat → Option Nat) : gE := Sum.inl (t, n, Sum.inr (Sum.inr (Sum.inr f)))
abbrev gObj (c : Nat) (fs : List GV) : gE := Sum.inr (c, fs)
def te (dA : Nat → ClassId) : gE → va_E
  | .inl (t, n, .inl f) => .inl (dA t, n, .inl (fun j => Int32.ofInt (f j)))
  | .inl (t, n, .inr (.inl f)) => .inl (dA t, n, .inr (.inl (fun j => Int64.ofInt (f j))))
  | .inl (t, n, .inr (.inr (.inl f))) => .inl (dA t, n, .inr (.inr (.inr (.inl f))))
  | .inl (t, n, .inr (.inr (.inr f))) => .inl (dA t, n, .inr (.inr (.inr (.inr f))))
  | .inr (c, fs) => .inr (c, fs.map tv)
def hput (h : GH) (a : Nat) (g : gE) : GH := fun b => if b = a then some g else h b
theorem hput_s (h : GH) (a : Nat) (g : gE) : hput h a g a = some g := if_pos rfl
theorem hput_n (h : GH) {a b : Nat} (g : gE) (e : b ≠ a) : hput h a g b = h b := if_neg e
/-! the worlds' classes and arrays -/
abbrev gcl : List vw_C := [(RX0, TX0, 2), (RX1, TX1, 0), (RX2, TX2, 3), (RX3, TX3, 2), (RX4, TX4, 8), (RX5, TX5, 3), (RX6, TX6, 3), (RX7, TX7, 11), (RX8, TX8, 31), (RJx4a65c, TJx4a65c, 3)]
abbrev gtys (dA : Nat → ClassId) : List (ClassId × FieldType) := [(dA 0, .int), (dA 1, .char), (dA 2, .boolean), (dA 3, .long), (dA 4, .double), (dA 5, .object "java/lang/Object")]
/-- the launch, the classes' numbers and slots, the arrays' classes, the constants' addresses, where the new begins -/
abbrev DD : Type := Launch × ((Nat → ClassId) × ((Nat → Nat → Nat) × ((Nat → ClassId) × ((Nat → Nat) × Nat))))
abbrev dG (D : DD) : va_G := (D.2.1, D.2.2.1)
abbrev dAr (D : DD) : Nat → ClassId := D.2.2.2.1
abbrev cad (D : DD) : Nat → Nat := D.2.2.2.2.1
abbrev dLo (D : DD) : Nat := D.2.2.2.2.2
abbrev dS (D : DD) : Nat → Prop := fun q => dLo D ≤ q
def Rel (D : DD) (h : GH) (H : Heap) : Prop := ∃ ws : va_W, va_P (dG D) gcl ws H ∧ va_D (dS D) ws ∧ ∀ (a : Nat) (g : gE), h a = some g → (a, te (dAr D) g) ∈ ws
theorem Rel.get {D : DD} {h : GH} {H : Heap} {a : Nat} {g : gE} (hR : Rel D h H) (hg : h a = some g) : ∃ (ws : va_W) (k : Nat), va_P (dG D) gcl ws H ∧ va_D (dS D) ws ∧ (∀ (a : Nat) (g : gE), h a = some g → (a, te (dAr D) g) ∈ ws) ∧ ws[k]? = some (a, te (dAr D) g) := by
  obtain ⟨ws, h1, h2, h3⟩ := hR
  obtain ⟨k, hk⟩ := List.getElem?_of_mem (h3 a g hg)
  exact ⟨ws, k, h1, h2, h3, hk⟩
theorem Rel.set {D : DD} {h : GH} {H1 : Heap} {ws : va_W} {k a : Nat} {e0 : va_E} {g : gE} (hall : ∀ (a : Nat) (g : gE), h a = some g → (a, te (dAr D) g) ∈ ws) (hk : ws[k]? = some (a, e0)) (hP : va_P (dG D) gcl (ws.set k (a, te (dAr D) g)) H1) (hD : va_D (dS D) (ws.set k (a, te (dAr D) g))) : Rel D (hput h a g) H1 := by
  have hl := (List.getElem?_eq_some_iff.mp hk).1
  refine ⟨_, hP, hD, fun b gb hb => ?_⟩
  by_cases e : b = a
  · subst e
    rw [hput_s] at hb
    cases hb
    exact List.mem_of_getElem? (List.getElem?_set_self hl)
  · rw [hput_n h g e] at hb
    obtain ⟨j, hj⟩ := List.getElem?_of_mem (hall b gb hb)
    have hjk : k ≠ j := fun e' => by
      subst e'
      rw [hk] at hj
      cases hj
      exact e rfl
    exact List.mem_of_getElem? (i := j) (by rw [List.getElem?_set_ne hjk]; exact hj)
theorem Rel.push {D : DD} {h : GH} {H1 : Heap} {ws : va_W} {q : Nat} {g : gE} (hall : ∀ (a : Nat) (g : gE), h a = some g → (a, te (dAr D) g) ∈ ws) (hP : va_P (dG D) gcl (ws ++ [(q, te (dAr D) g)]) H1) (hD : va_D (dS D) (ws ++ [(q, te (dAr D) g)])) : Rel D (hput h q g) H1 ∧ h q = none ∧ dLo D ≤ q := by
  have hlast : (ws ++ [(q, te (dAr D) g)])[ws.length]? = some (q, te (dAr D) g) := by simp
  refine ⟨⟨_, hP, hD, fun b gb hb => ?_⟩, ?_, hD.2 _ _ hlast⟩
  · by_cases e : b = q
    · subst e
      rw [hput_s] at hb
      cases hb
      simp
    · rw [hput_n h g e] at hb
      exact List.mem_append_left _ (hall b gb hb)
  · cases hq : h q with
    | none => rfl
    | some g0 =>
      obtain ⟨j, hj⟩ := List.getElem?_of_mem (hall q g0 hq)
      have hjl := (List.getElem?_eq_some_iff.mp hj).1
      have h9 : (ws ++ [(q, te (dAr D) g)])[j]? = some (q, te (dAr D) g0) := by rw [List.getElem?_append_left hjl]; exact hj
      have := hD.1 _ _ _ _ h9 hlast rfl
      omega
/-! words that go with the method -/
def kwOK : Cond → Bool
  | .arrayClass _ => true
  | .fieldLinkNest .. => true
  | .methodLinkNest .. => true
  | .declares _ => true
  | .castable .. => true
  | .arrayOver (.object _) => true
  | w => w.onTables && w.keeps
theorem kw_warm {w : Cond} (hk : kwOK w = true) {A A' : Array Value} {s U : State} (hW : s.WarmedH U.vm) (h : w.before A s = true) : w.before A' U = true := by
  cases w with
  | arrayClass ty => exact word_at hW (Or.inr ⟨_, rfl⟩) h
  | fieldLinkNest a i b n d hh => exact va_Nw.use rfl (va_Nw.warmF hW (va_Nw.of rfl h))
  | methodLinkNest a i x hh => exact va_Nw.use rfl (va_Nw.warmM hW (va_Nw.of rfl h))
  | declares x => exact va_Nw.use rfl (va_Nw.warmD hW (va_Nw.of rfl h))
  | castable C T => exact va_Nw.use rfl (va_Nw.warmC hW (va_Nw.of rfl h))
  | arrayOver ty =>
    cases ty with
    | object C => exact va_AO.use (va_AO.moved hW.alike (va_AO.of h))
    | _ => exact word_at hW (Or.inl hk) h
  | _ => exact word_at hW (Or.inl hk) h
def kwl : List Cond := lw_tbl.filter kwOK
theorem kw_in {w : Cond} (i : Nat) (h : lw_tbl[i]? = some w) (g : kwOK w = true) : w ∈ kwl := List.mem_filter.mpr ⟨List.mem_of_getElem? h, g⟩
theorem kw_tb {w : Cond} (i : Nat) (h : tables_1[i]? = some w) (g : kwOK w = true) : w ∈ kwl := List.mem_filter.mpr ⟨List.mem_append_right _ (List.mem_of_getElem? h), g⟩
theorem kw_pv {w : Cond} (i : Nat) (h : (k2_sels lw_privs)[i]? = some w) (g : kwOK w = true) : w ∈ kwl := List.mem_filter.mpr ⟨List.mem_append_left _ (List.mem_of_getElem? h), g⟩
theorem kw_ok {w : Cond} (h : w ∈ kwl) : kwOK w = true := (List.mem_filter.mp h).2
/-! what is known of every state: tables, constants -/
abbrev kdD : String := "LShorthandRules$Kind;"
def kdN : Nat → String | 0 => "CHARACTER" | 1 => "CHOICE" | 2 => "DATE" | _ => "STOP"
def gstr : List (String × (Nat × (String × Nat))) := [(RX7, 137, "the days are not between -99 and 99", 10), (RX7, 140, "there is no such form", 11), (RX7, 160, "the day is not between 99 and 9999", 12), (RX7, 175, "there is no such character", 13), (RX7, 185, "there is no such stop", 14), (RX7, 203, "the snippet is not shadowed", 15), (RX7, 206, "the text has 80 characters", 16), (RX7, 221, "no character is ahead of the caret", 17), (RX7, 226, "the caret would be outside the text", 18), (RX7, 229, "there is no stop", 19), (RX7, 234, "no expansion can be undone", 20), (RX7, 246, "there was no expansion", 21), (RX7, 248, "there is no such snippet", 22), (RX7, 257, "the character cannot be typed", 23), (RX7, 261, "the snippet would come to itself", 24), (RX7, 267, "the body has 12 parts", 25), (RX7, 275, "the size of some snippet would be greater than 200", 26), (RX7, 67, "there are 8 snippets", 27), (RX7, 99, "the trigger has 6 characters", 28), (RX0, 41, "motuwethfrsasu", 5)]
def wkB : List Int32 := [109, 111, 116, 117, 119, 101, 116, 104, 102, 114, 115, 97, 115, 117]
def KC (D : DD) (U : State) (H : Heap) : Prop :=
  (∀ i : Nat, i < 4 → va_Z RX1 (kdN i) kdD (.ref (cad D i)) (dS D) U H) ∧
  va_Z RJx4a65c "DEFAULTCAPACITY_EMPTY_ELEMENTDATA" "[Ljava/lang/Object;" (.ref (cad D 4)) (dS D) U H ∧
  va_T (.object "java/lang/Object") (cad D 4) 0 (fun _ => .null) (dS D) U H ∧
  vx_Zq Bundle.tN "UNASSIGNED_STACK" Bundle.steD (dS D) U H ∧ vx_Zq Bundle.tN "SUPPRESSED_SENTINEL" Bundle.listD (dS D) U H ∧
  (∀ q ∈ gstr, vk_R q.1 q.2.1 q.2.2.1 (cad D q.2.2.2) U) ∧
  (va_O "java/lang/String" (cad D 5) (dS D) U H ∧ va_OF "java/lang/String" "coder" "B" (.int 0) (cad D 5) (dS D) U H ∧ va_OF "java/lang/String" "value" "[B" (.ref (cad D 6)) (cad D 5) (dS D) U H ∧ va_T .byte (cad D 6) 14 (fun j => .int (wkB.getD j 0)) (dS D) U H) ∧
  va_Z "java/lang/String" "COMPACT_STRINGS" "Z" (.int 1) (dS D) U H ∧
  va_Mi "[Ljava/lang/Object;" (cad D 7) U ∧
  (∀ i j : Nat, i < 4 → j < 4 → cad D i = cad D j → i = j)
theorem KC.go {D : DD} {s T : State} {H0 H : Heap} (h : KC D s H0) (hW : s.WarmedH T.vm) (hq : ∀ a : Nat, a < H0.size → ¬ dS D a → H[a]? = H0[a]?) : KC D T H := by
  obtain ⟨h1, h2, h3, h4, h5, h6, ⟨h7, h8, h9, h10⟩, h11, h12, h13⟩ := h
  refine ⟨fun i hi => va_Z.moved hW.alike ((h1 i hi).kept hq), va_Z.moved hW.alike (h2.kept hq), va_T.moved hW.alike (h3.kept hq), vx_Zq.moved hW.alike (h4.kept hq), vx_Zq.moved hW.alike (h5.kept hq), fun q hq' => vk_R.warm hW (h6 q hq'), ⟨va_O.moved hW.alike (h7.kept hq), va_OF.moved hW.alike (h8.kept hq), va_OF.moved hW.alike (h9.kept hq), va_T.moved hW.alike (h10.kept hq)⟩, va_Z.moved hW.alike (h11.kept hq), va_Mi.moved hW.alike h12, h13⟩
def Kn (D : DD) (U : State) : Prop := va_K (dG D) gcl (gtys (dAr D)) U ∧ (∀ w ∈ kwl, ∀ A : Array Value, w.before A U = true) ∧ KC D U U.heap ∧ dLo D ≤ U.heap.size
theorem Kn.go {D : DD} {s T : State} {H : Heap} {locs : List Loc} (h : Kn D s) (hT : T.heap = H) (hW : s.WarmedH T.vm) (hS : va_S (dS D) s.heap H locs) : Kn D T := by
  obtain ⟨h1, h2, h3, h4⟩ := h
  subst hT
  exact ⟨va_K.moved hW.alike h1, fun w hw A => kw_warm (kw_ok hw) (A := #[]) hW (h2 w hw _), h3.go hW hS.2.1, Nat.le_trans h4 hS.1⟩
end
section
/-! locals -/
def lvs (ls : List (Option GV)) (LS : Array Slot) (n : Nat) : Prop := LS.size = n ∧ lv_wf LS ∧ ∀ (i : Nat) (v : GV), ls[i]? = some (some v) → LS[i]? = some (.val (tv v)) ∧ gcat v = 1
def lvL (ls : List (Option GV)) : List (Nat × Value) := (List.range ls.length).filterMap fun i => match ls[i]? with
  | some (some v) => some (i, tv v)
  | _ => none
theorem lvL_mem {ls : List (Option GV)} {i : Nat} {v : GV} (h : ls[i]? = some (some v)) : (i, tv v) ∈ lvL ls :=
  List.mem_filterMap.mpr ⟨i, List.mem_range.mpr (List.getElem?_eq_some_iff.mp h).1, by simp only [h]⟩
theorem lvs.has {ls : List (Option GV)} {LS : Array Slot} {n : Nat} (h : lvs ls LS n) : lv_has LS n (lvL ls) := by
  refine ⟨h.1, h.2.1, fun q hq => ?_⟩
  obtain ⟨i, -, hi⟩ := List.mem_filterMap.mp hq
  split at hi
  · next v hv =>
    cases hi
    exact (h.2.2 i v hv).1
  · cases hi
theorem lvs.set {ls : List (Option GV)} {LS LS' : Array Slot} {n i : Nat} {v : GV} (h : lvs ls LS n) (hc : gcat v = 1) (h' : lv_has LS' n ((i, tv v) :: (lvL ls).filter (fun q => !(q.1 == i) && !(q.1 + 1 == i && q.2.category == 2)))) : lvs (ls.set i (some v)) LS' n := by
  refine ⟨h'.1, h'.2.1, fun j w hj => ?_⟩
  by_cases e : i = j
  · subst e
    have hl : i < (ls.set i (some v)).length := (List.getElem?_eq_some_iff.mp hj).1
    rw [List.length_set] at hl
    rw [List.getElem?_set_self hl] at hj
    cases hj
    exact ⟨h'.2.2 _ List.mem_cons_self, hc⟩
  · rw [List.getElem?_set_ne e] at hj
    have h1 := (h.2.2 j w hj).2
    refine ⟨h'.2.2 (j, tv w) (List.mem_cons_of_mem _ (List.mem_filter.mpr ⟨lvL_mem hj, ?_⟩)), h1⟩
    have e2 : (j == i) = false := by simpa using fun z => e z.symm
    simp [e2, tv_cat, h1]
theorem lg_sl1 (vs : List GV) (h : ∀ v ∈ vs, gcat v = 1) : (lg_sl (vs.map tv)).length = vs.length := by
  induction vs with
  | nil => rfl
  | cons a l ih =>
    have h1 : (tv a).category = 1 := by rw [tv_cat]; exact h a List.mem_cons_self
    have := ih fun v hv => h v (List.mem_cons_of_mem _ hv)
    simp only [lg_sl, List.map_cons, List.flatMap_cons, List.length_append] at this ⊢
    rw [this]
    simp [h1]
    omega
theorem lv_args1 (vs : List GV) : ∀ (k : Nat), (∀ v ∈ vs, gcat v = 1) → ∀ (i : Nat) (v : GV), vs[i]? = some v → (k + i, tv v) ∈ lv_args k (vs.map tv) := by
  induction vs with
  | nil => intro k _ i v h; simp at h
  | cons a l ih =>
    intro k h i v hi
    have h1 : (tv a).category = 1 := by rw [tv_cat]; exact h a List.mem_cons_self
    rw [List.map_cons]
    simp only [lv_args, h1]
    cases i with
    | zero => simp at hi; subst hi; exact List.mem_cons_self
    | succ i =>
      have := ih (k + 1) (fun v hv => h v (List.mem_cons_of_mem _ hv)) i v (by simpa using hi)
      rw [show k + (i + 1) = k + 1 + i by omega]
      exact List.mem_cons_of_mem _ (by simpa using this)
/-! the walk over ghost states -/
def KP (p : Program) (l : Launch) (e : Env) (R : Room) (s : State) (m : MethodId) (args : Array Value) (below : List Frame) (meth : Method) (c : Code) (Q : State → Prop) (D : DD) : Nat → List (Option GV) → List GV → GH → Nat → Nat → Prop := fun pc ls st h a b =>
  ∀ (H : Heap) (locs : List Loc) (LS : Array Slot), Rel D h H → va_S (dS D) s.heap H locs → lvs ls LS c.maxLocals → W p l e R s m args below meth c H locs a b Q (F0 m pc LS (st.map tv))
def KXP (p : Program) (l : Launch) (e : Env) (R : Room) (s : State) (m : MethodId) (args : Array Value) (below : List Frame) (meth : Method) (c : Code) (Q : State → Prop) (D : DD) : Nat → List (Option GV) → GH → Nat → Nat → String → Prop := fun pc ls h a b E =>
  ∀ (H : Heap) (locs : List Loc) (LS : Array Slot) (q : Addr) (ce : Cell) (rest : List Value), Rel D h H → va_S (dS D) s.heap H locs → lvs ls LS c.maxLocals → H[q]? = some ce → ce.vm = .none → s.vm.findClass E = some ce.cls → vx_W p l e R s m args below meth c H locs a b Q (F0 m pc LS rest) q
abbrev GO : Type := Option GV ⊕ String
def gPc (D : DD) (args : List GV) (h : GH) : Array Value → State → Prop := fun v U => v = (args.map tv).toArray ∧ Rel D h U.heap ∧ Kn D U
def gQc (D : DD) (post : GO → GH → Prop) : Array Value → State → Outcome → State → Prop := fun _ st o t => ∃ (r : Option GV) (h' : GH), o = .returned (r.map tv) ∧ post (.inl r) h' ∧ Rel D h' t.heap ∧ va_F (dS D) st t
def gXc (D : DD) (post : GO → GH → Prop) : String → State → State → Prop := fun E st t => ∃ h' : GH, post (.inr E) h' ∧ Rel D h' t.heap ∧ va_F (dS D) st t
def gWs (y : MethodName) (cc : ByteArray) (maxL : Nat) (ret : Option FieldType) (hh : List (Nat × Nat × Nat × Nat)) : Cond := match hh with
  | [] => .code y cc maxL ret
  | hh => .codeWith y cc maxL ret hh
def GMet (D : DD) (y : MethodName) (cc : ByteArray) (maxL : Nat) (ret : Option FieldType) (hh : List (Nat × Nat × Nat × Nat)) (dep mc ms : Nat) (args : List GV) (h : GH) (post : GO → GH → Prop) : Prop :=
  D.1.stackTraces = false → vx_Met D.1 y [gWs y cc maxL ret hh] { frames := dep, cells := mc, slots := ms, locals := 40 * dep } (gPc D args h) (gQc D post) (gXc D post) mc ms (dS D)
def Cx (D : DD) (own mn : String) (cc : ByteArray) (p : Program) (l : Launch) (s : State) (m : MethodId) (meth : Method) (c : Code) : Prop :=
  p.tables.exec = Jvm.exec ∧ c.code = cc ∧ s.vm.findClass own = some m.cls ∧ meth.locks = false ∧ l = D.1 ∧ l.stackTraces = false ∧ Kn D s ∧ (mn = "" ∨ meth.name = mn)
/-- K and KX are the walk of a method of the class own with the code cc; rp: what it returns, and what must hold behind it -/
def Mach (K : Nat → List (Option GV) → List GV → GH → Nat → Nat → Prop) (KX : Nat → List (Option GV) → GH → Nat → Nat → String → Prop) (D : DD) (own mn : String) (cc : ByteArray) (nL dep mc ms : Nat) (hh : List (Nat × Nat × Nat × Nat)) (rp : Option (Option FieldType × (GO → GH → Prop))) : Prop :=
  ∃ (p : Program) (l : Launch) (e : Env) (R : Room) (s : State) (m : MethodId) (args : Array Value) (below : List Frame) (meth : Method) (c : Code) (Q : State → Prop), Cx D own mn cc p l s m meth c ∧ c.maxLocals = nL ∧ (R.frames = dep ∧ 40 * dep ≤ R.locals ∧ R.cells = mc ∧ R.slots = ms) ∧ c.exceptionTable.toList = tableOf hh ∧ K = KP p l e R s m args below meth c Q D ∧ KX = KXP p l e R s m args below meth c Q D ∧
    ∀ q, rp = some q → meth.sig.returnType = q.1 ∧ Q = vx_MQ below (gQc D q.2) (gXc D q.2) args s mc ms (dS D)
theorem GMet.intro {D : DD} {y : MethodName} {cc : ByteArray} {maxL : Nat} {ret : Option FieldType} {dep mc ms : Nat} {args : List GV} {h : GH} {post : GO → GH → Prop} (own : String) (hown : y.cls = own) (hy : plainName y.cls = true) (hcat : ∀ v ∈ args, gcat v = 1) (hlen : args.length ≤ maxL)
    (body : ∀ (K : Nat → List (Option GV) → List GV → GH → Nat → Nat → Prop) (KX : Nat → List (Option GV) → GH → Nat → Nat → String → Prop), Mach K KX D own y.name cc maxL dep mc ms [] (some (ret, post)) → K 0 (args.map some ++ List.replicate (maxL - args.length) none) [] h 0 0) : GMet D y cc maxL ret [] dep mc ms args h post := by
  intro hl
  refine vx_ofW (cc := cc) (maxL := maxL) (ret := ret) hy rfl ?_
  intro p e s m args' below meth c s₁ B hml htab hPc
  obtain ⟨rfl, hR, hKn⟩ := hPc
  have hz : (lg_sl (args.map tv)).length ≤ maxL := by rw [lg_sl1 args hcat]; exact hlen
  have hle := lv_entry (args.map tv) (n := maxL) hz
  have S : Mach (KP p D.1 e (headSpec [gWs y cc maxL ret []] { frames := dep, cells := mc, slots := ms, locals := 40 * dep }).room s m (args.map tv).toArray below meth c (vx_MQ below (gQc D post) (gXc D post) (args.map tv).toArray s mc ms (dS D)) D) (KXP p D.1 e (headSpec [gWs y cc maxL ret []] { frames := dep, cells := mc, slots := ms, locals := 40 * dep }).room s m (args.map tv).toArray below meth c (vx_MQ below (gQc D post) (gXc D post) (args.map tv).toArray s mc ms (dS D)) D) D own y.name cc maxL dep mc ms [] (some (ret, post)) := by
    refine ⟨p, D.1, e, _, s, m, _, below, meth, c, _, ⟨B.exec, B.bytes, by rw [← hown]; exact findClass_of_methodNamed B.named, B.notSynchronized, rfl, hl, hKn, Or.inr (name_of_methodNamed B.named B.method).1⟩, hml, ⟨rfl, Nat.le_refl _, rfl, rfl⟩, ?_, rfl, rfl, fun q hq => by cases hq; exact ⟨B.returns, rfl⟩⟩
    show c.exceptionTable.toList = []
    exact List.eq_nil_iff_forall_not_mem.mpr fun x hx => htab x hx
  have := body _ _ S s.heap [] (lg_sl (args.map tv) ++ List.replicate (maxL - (lg_sl (args.map tv)).length) Slot.unset).toArray hR va_S.rf ⟨by rw [hml]; exact hle.1, hle.2.1, fun i v hv => ?_⟩
  · rw [lg_entry_eq]
    exact this
  · by_cases hi : i < args.length
    · rw [List.getElem?_append_left (by simpa using hi), List.getElem?_map] at hv
      have hv' : args[i]? = some v := by
        cases ha : args[i]? with
        | none => simp [ha] at hv
        | some w => simp [ha] at hv; rw [hv]
      refine ⟨?_, hcat v (List.mem_of_getElem? hv')⟩
      have := hle.2.2 _ (lv_args1 args 0 hcat i v hv')
      simpa using this
    · rw [List.getElem?_append_right (by simpa using hi)] at hv
      have := List.eq_of_mem_replicate (List.mem_of_getElem? hv)
      cases this
theorem GMet.introH {D : DD} {y : MethodName} {cc : ByteArray} {maxL : Nat} {ret : Option FieldType} {hd : Nat × Nat × Nat × Nat} {tl : List (Nat × Nat × Nat × Nat)} {dep mc ms : Nat} {args : List GV} {h : GH} {post : GO → GH → Prop} (own : String) (hown : y.cls = own) (hy : plainName y.cls = true) (hcat : ∀ v ∈ args, gcat v = 1) (hlen : args.length ≤ maxL)
    (body : ∀ (K : Nat → List (Option GV) → List GV → GH → Nat → Nat → Prop) (KX : Nat → List (Option GV) → GH → Nat → Nat → String → Prop), Mach K KX D own y.name cc maxL dep mc ms (hd :: tl) (some (ret, post)) → K 0 (args.map some ++ List.replicate (maxL - args.length) none) [] h 0 0) : GMet D y cc maxL ret (hd :: tl) dep mc ms args h post := by
  intro hl
  refine vx_ofWH (cc := cc) (maxL := maxL) (ret := ret) (hh := hd :: tl) hy rfl ?_
  intro p e s m args' below meth c s₁ B hml hPc
  obtain ⟨rfl, hR, hKn⟩ := hPc
  have hz : (lg_sl (args.map tv)).length ≤ maxL := by rw [lg_sl1 args hcat]; exact hlen
  have hle := lv_entry (args.map tv) (n := maxL) hz
  have hts := atoms_spec (ws := [gWs y cc maxL ret (hd :: tl)]) B.pre
  have S : Mach (KP p D.1 e (headSpec [gWs y cc maxL ret (hd :: tl)] { frames := dep, cells := mc, slots := ms, locals := 40 * dep }).room s m (args.map tv).toArray below meth c (vx_MQ below (gQc D post) (gXc D post) (args.map tv).toArray s mc ms (dS D)) D) (KXP p D.1 e (headSpec [gWs y cc maxL ret (hd :: tl)] { frames := dep, cells := mc, slots := ms, locals := 40 * dep }).room s m (args.map tv).toArray below meth c (vx_MQ below (gQc D post) (gXc D post) (args.map tv).toArray s mc ms (dS D)) D) D own y.name cc maxL dep mc ms (hd :: tl) (some (ret, post)) := by
    refine ⟨p, D.1, e, _, s, m, _, below, meth, c, _, ⟨B.exec, B.bytes, by rw [← hown]; exact findClass_of_methodNamed B.named, B.notSynchronized, rfl, hl, hKn, Or.inr (name_of_methodNamed B.named B.method).1⟩, hml, ⟨rfl, Nat.le_refl _, rfl, rfl⟩, vx_table (x := y) B (hts _ List.mem_cons_self), rfl, rfl, fun q hq => by cases hq; exact ⟨B.returns, rfl⟩⟩
  have := body _ _ S s.heap [] (lg_sl (args.map tv) ++ List.replicate (maxL - (lg_sl (args.map tv)).length) Slot.unset).toArray hR va_S.rf ⟨by rw [hml]; exact hle.1, hle.2.1, fun i v hv => ?_⟩
  · rw [lg_entry_eq]
    exact this
  · by_cases hi : i < args.length
    · rw [List.getElem?_append_left (by simpa using hi), List.getElem?_map] at hv
      have hv' : args[i]? = some v := by
        cases ha : args[i]? with
        | none => simp [ha] at hv
        | some w => simp [ha] at hv; rw [hv]
      refine ⟨?_, hcat v (List.mem_of_getElem? hv')⟩
      have := hle.2.2 _ (lv_args1 args 0 hcat i v hv')
      simpa using this
    · rw [List.getElem?_append_right (by simpa using hi)] at hv
      have := List.eq_of_mem_replicate (List.mem_of_getElem? hv)
      cases this
end
section
section RW1
theorem i32 {x : Int} (hx : -2147483648 ≤ x ∧ x < 2147483648) : (Int32.ofInt x).toInt = x := Int32.toInt_ofInt_of_le (by simpa using hx.1) (by simpa using hx.2)
theorem i32_back (x : Int32) : Int32.ofInt x.toInt = x := Int32.ofInt_toInt x
theorem i32_rng (x : Int32) : -2147483648 ≤ x.toInt ∧ x.toInt < 2147483648 := ⟨by have := Int32.le_toInt x; omega, by have := Int32.toInt_lt x; omega⟩
theorem i32_lt {x y : Int} (hx : -2147483648 ≤ x ∧ x < 2147483648) (hy : -2147483648 ≤ y ∧ y < 2147483648) : Int32.ofInt x < Int32.ofInt y ↔ x < y := by rw [Int32.lt_iff_toInt_lt, i32 hx, i32 hy]
theorem i32_le {x y : Int} (hx : -2147483648 ≤ x ∧ x < 2147483648) (hy : -2147483648 ≤ y ∧ y < 2147483648) : Int32.ofInt x ≤ Int32.ofInt y ↔ x ≤ y := by rw [Int32.le_iff_toInt_le, i32 hx, i32 hy]
theorem i32_eq {x y : Int} (hx : -2147483648 ≤ x ∧ x < 2147483648) (hy : -2147483648 ≤ y ∧ y < 2147483648) : Int32.ofInt x = Int32.ofInt y ↔ x = y := by rw [← Int32.toInt_inj, i32 hx, i32 hy]
theorem i32_clamp {x : Int} (h0 : 0 ≤ x) (h1 : x < 2147483648) : (Int32.ofInt x).toNatClampNeg = x.toNat := by
  show (Int32.ofInt x).toInt.toNat = x.toNat
  rw [i32 ⟨by omega, h1⟩]
theorem i32_in {x : Int} {n : Nat} (h0 : 0 ≤ x) (h1 : x < 2147483648) (h2 : x.toNat < n) : vp_in (Int32.ofInt x) n := by
  intro h
  rcases h with h | h
  · rw [show (0 : Int32) = Int32.ofInt 0 from rfl, i32_lt ⟨by omega, h1⟩ (by omega)] at h
    omega
  · rw [i32_clamp h0 h1] at h
    omega
theorem i64 {x : Int} (hx : -9223372036854775808 ≤ x ∧ x < 9223372036854775808) : (Int64.ofInt x).toInt = x := Int64.toInt_ofInt_of_le (by simpa using hx.1) (by simpa using hx.2)
def bAnd (x y : Int) : Int := (Int32.ofInt x &&& Int32.ofInt y).toInt
def bOr (x y : Int) : Int := (Int32.ofInt x ||| Int32.ofInt y).toInt
def bXor (x y : Int) : Int := (Int32.ofInt x ^^^ Int32.ofInt y).toInt
def bShl (x y : Int) : Int := (Int32.ofInt x <<< (Int32.ofInt y &&& 31)).toInt
def bShr (x y : Int) : Int := (Int32.ofInt x >>> (Int32.ofInt y &&& 31)).toInt
variable {K : Nat → List (Option GV) → List GV → GH → Nat → Nat → Prop} {KX : Nat → List (Option GV) → GH → Nat → Nat → String → Prop} {D : DD} {own mn : String} {cc : ByteArray} {nL dep mc ms : Nat} {hh : List (Nat × Nat × Nat × Nat)} {rp : Option (Option FieldType × (GO → GH → Prop))} {pc : Nat} {ls : List (Option GV)} {st : List GV} {h : GH} {a b : Nat}
theorem k_iconst (S : Mach K KX D own mn cc nL dep mc ms hh rp) {n : Int} (d : decode cc pc = .ok (.iconst n, 1)) (k : K (pc + 1) ls (gI n :: st) h a b) : K pc ls st h a b := by
  obtain ⟨p, l, e, R, s, m, args, below, meth, c, Q, ⟨hx, hb, hown, hlk, hlD, hst, hKn, hmn⟩, hml, ⟨hRf, hRl, hRc, hRs⟩, htab, rfl, rfl, hrp⟩ := S
  intro H locs LS hR hS hL
  exact lv_iconst hx hb d rfl (k H locs LS hR hS hL)
theorem k_bipush (S : Mach K KX D own mn cc nL dep mc ms hh rp) {n : Int} (d : decode cc pc = .ok (.bipush n, 2)) (k : K (pc + 2) ls (gI n :: st) h a b) (hn : (Int8.ofInt n).toInt32 = Int32.ofInt n := by decide) : K pc ls st h a b := by
  obtain ⟨p, l, e, R, s, m, args, below, meth, c, Q, ⟨hx, hb, hown, hlk, hlD, hst, hKn, hmn⟩, hml, ⟨hRf, hRl, hRc, hRs⟩, htab, rfl, rfl, hrp⟩ := S
  intro H locs LS hR hS hL
  exact lv_bipush hx hb d hn (k H locs LS hR hS hL)
theorem k_sipush (S : Mach K KX D own mn cc nL dep mc ms hh rp) {n : Int} (d : decode cc pc = .ok (.sipush n, 3)) (k : K (pc + 3) ls (gI n :: st) h a b) (hn : (Int16.ofInt n).toInt32 = Int32.ofInt n := by decide) : K pc ls st h a b := by
  obtain ⟨p, l, e, R, s, m, args, below, meth, c, Q, ⟨hx, hb, hown, hlk, hlD, hst, hKn, hmn⟩, hml, ⟨hRf, hRl, hRc, hRs⟩, htab, rfl, rfl, hrp⟩ := S
  intro H locs LS hR hS hL
  exact lv_sipush hx hb d hn (k H locs LS hR hS hL)
theorem k_lconst (S : Mach K KX D own mn cc nL dep mc ms hh rp) {n : Fin 2} {v : Int} (hv : v = (n : Nat)) (d : decode cc pc = .ok (.lconst n, 1)) (k : K (pc + 1) ls (gL v :: st) h a b) : K pc ls st h a b := by
  obtain ⟨p, l, e, R, s, m, args, below, meth, c, Q, ⟨hx, hb, hown, hlk, hlD, hst, hKn, hmn⟩, hml, ⟨hRf, hRl, hRc, hRs⟩, htab, rfl, rfl, hrp⟩ := S
  intro H locs LS hR hS hL
  subst hv
  exact lv_lconst hx hb d (v := Int64.ofInt ((n : Nat) : Int)) (by rw [Int64.ofInt_eq_ofNat]) (k H locs LS hR hS hL)
theorem k_fconst0 (S : Mach K KX D own mn cc nL dep mc ms hh rp) (d : decode cc pc = .ok (.fconst 0, 1)) (k : K (pc + 1) ls (gF FP.fconst0 :: st) h a b) : K pc ls st h a b := by
  obtain ⟨p, l, e, R, s, m, args, below, meth, c, Q, ⟨hx, hb, hown, hlk, hlD, hst, hKn, hmn⟩, hml, ⟨hRf, hRl, hRc, hRs⟩, htab, rfl, rfl, hrp⟩ := S
  intro H locs LS hR hS hL
  exact lv_fconst0 hx hb d (k H locs LS hR hS hL)
theorem k_null (S : Mach K KX D own mn cc nL dep mc ms hh rp) (d : decode cc pc = .ok (.aconst_null, 1)) (k : K (pc + 1) ls (gR none :: st) h a b) : K pc ls st h a b := by
  obtain ⟨p, l, e, R, s, m, args, below, meth, c, Q, ⟨hx, hb, hown, hlk, hlD, hst, hKn, hmn⟩, hml, ⟨hRf, hRl, hRc, hRs⟩, htab, rfl, rfl, hrp⟩ := S
  intro H locs LS hR hS hL
  exact lv_null hx hb d (k H locs LS hR hS hL)
theorem k_iload (S : Mach K KX D own mn cc nL dep mc ms hh rp) {i : Nat} {x : Int} (d : decode cc pc = .ok (.iload i, 2)) (hl : ls[i]? = some (some (gI x))) (k : K (pc + 2) ls (gI x :: st) h a b) : K pc ls st h a b := by
  obtain ⟨p, l, e, R, s, m, args, below, meth, c, Q, ⟨hx, hb, hown, hlk, hlD, hst, hKn, hmn⟩, hml, ⟨hRf, hRl, hRc, hRs⟩, htab, rfl, rfl, hrp⟩ := S
  intro H locs LS hR hS hL
  exact lv_iload hx hb d (hL.2.2 _ _ hl).1 (k H locs LS hR hS hL)
theorem k_iload_n (S : Mach K KX D own mn cc nL dep mc ms hh rp) {i : Fin 4} {x : Int} (d : decode cc pc = .ok (.iload_n i, 1)) (hl : ls[(i : Nat)]? = some (some (gI x))) (k : K (pc + 1) ls (gI x :: st) h a b) : K pc ls st h a b := by
  obtain ⟨p, l, e, R, s, m, args, below, meth, c, Q, ⟨hx, hb, hown, hlk, hlD, hst, hKn, hmn⟩, hml, ⟨hRf, hRl, hRc, hRs⟩, htab, rfl, rfl, hrp⟩ := S
  intro H locs LS hR hS hL
  exact lv_iload_n hx hb d rfl (hL.2.2 _ _ hl).1 (k H locs LS hR hS hL)
theorem k_fload (S : Mach K KX D own mn cc nL dep mc ms hh rp) {i : Nat} {x : UInt32} (d : decode cc pc = .ok (.fload i, 2)) (hl : ls[i]? = some (some (gF x))) (k : K (pc + 2) ls (gF x :: st) h a b) : K pc ls st h a b := by
  obtain ⟨p, l, e, R, s, m, args, below, meth, c, Q, ⟨hx, hb, hown, hlk, hlD, hst, hKn, hmn⟩, hml, ⟨hRf, hRl, hRc, hRs⟩, htab, rfl, rfl, hrp⟩ := S
  intro H locs LS hR hS hL
  exact lv_fload hx hb d (hL.2.2 _ _ hl).1 (k H locs LS hR hS hL)
theorem k_fload_n (S : Mach K KX D own mn cc nL dep mc ms hh rp) {i : Fin 4} {x : UInt32} (d : decode cc pc = .ok (.fload_n i, 1)) (hl : ls[(i : Nat)]? = some (some (gF x))) (k : K (pc + 1) ls (gF x :: st) h a b) : K pc ls st h a b := by
  obtain ⟨p, l, e, R, s, m, args, below, meth, c, Q, ⟨hx, hb, hown, hlk, hlD, hst, hKn, hmn⟩, hml, ⟨hRf, hRl, hRc, hRs⟩, htab, rfl, rfl, hrp⟩ := S
  intro H locs LS hR hS hL
  exact lv_fload_n hx hb d rfl (hL.2.2 _ _ hl).1 (k H locs LS hR hS hL)
theorem k_aload (S : Mach K KX D own mn cc nL dep mc ms hh rp) {i : Nat} {x : Option Nat} (d : decode cc pc = .ok (.aload i, 2)) (hl : ls[i]? = some (some (gR x))) (k : K (pc + 2) ls (gR x :: st) h a b) : K pc ls st h a b := by
  obtain ⟨p, l, e, R, s, m, args, below, meth, c, Q, ⟨hx, hb, hown, hlk, hlD, hst, hKn, hmn⟩, hml, ⟨hRf, hRl, hRc, hRs⟩, htab, rfl, rfl, hrp⟩ := S
  intro H locs LS hR hS hL
  cases x with
  | none => exact lv_aloadN hx hb d (hL.2.2 _ _ hl).1 (k H locs LS hR hS hL)
  | some x => exact lv_aload hx hb d (hL.2.2 _ _ hl).1 (k H locs LS hR hS hL)
theorem k_aload_n (S : Mach K KX D own mn cc nL dep mc ms hh rp) {i : Fin 4} {x : Option Nat} (d : decode cc pc = .ok (.aload_n i, 1)) (hl : ls[(i : Nat)]? = some (some (gR x))) (k : K (pc + 1) ls (gR x :: st) h a b) : K pc ls st h a b := by
  obtain ⟨p, l, e, R, s, m, args, below, meth, c, Q, ⟨hx, hb, hown, hlk, hlD, hst, hKn, hmn⟩, hml, ⟨hRf, hRl, hRc, hRs⟩, htab, rfl, rfl, hrp⟩ := S
  intro H locs LS hR hS hL
  cases x with
  | none => exact lv_aload_nN hx hb d rfl (hL.2.2 _ _ hl).1 (k H locs LS hR hS hL)
  | some x => exact lv_aload_n hx hb d rfl (hL.2.2 _ _ hl).1 (k H locs LS hR hS hL)
theorem k_istore (S : Mach K KX D own mn cc nL dep mc ms hh rp) {i : Nat} {x : Int} (d : decode cc pc = .ok (.istore i, 2)) (hi : i < nL) (k : K (pc + 2) (ls.set i (some (gI x))) st h a b) : K pc ls (gI x :: st) h a b := by
  obtain ⟨p, l, e, R, s, m, args, below, meth, c, Q, ⟨hx, hb, hown, hlk, hlD, hst, hKn, hmn⟩, hml, ⟨hRf, hRl, hRc, hRs⟩, htab, rfl, rfl, hrp⟩ := S
  intro H locs LS hR hS hL
  exact lv_istore hx hb d hL.has (by omega) rfl fun LS2 h2 => k H locs LS2 hR hS (hL.set rfl h2)
theorem k_istore_n (S : Mach K KX D own mn cc nL dep mc ms hh rp) {i : Fin 4} {x : Int} (d : decode cc pc = .ok (.istore_n i, 1)) (hi : (i : Nat) < nL) (k : K (pc + 1) (ls.set (i : Nat) (some (gI x))) st h a b) : K pc ls (gI x :: st) h a b := by
  obtain ⟨p, l, e, R, s, m, args, below, meth, c, Q, ⟨hx, hb, hown, hlk, hlD, hst, hKn, hmn⟩, hml, ⟨hRf, hRl, hRc, hRs⟩, htab, rfl, rfl, hrp⟩ := S
  intro H locs LS hR hS hL
  exact lv_istore_n hx hb d rfl hL.has (by omega) rfl fun LS2 h2 => k H locs LS2 hR hS (hL.set rfl h2)
theorem k_fstore (S : Mach K KX D own mn cc nL dep mc ms hh rp) {i : Nat} {x : UInt32} (d : decode cc pc = .ok (.fstore i, 2)) (hi : i < nL) (k : K (pc + 2) (ls.set i (some (gF x))) st h a b) : K pc ls (gF x :: st) h a b := by
  obtain ⟨p, l, e, R, s, m, args, below, meth, c, Q, ⟨hx, hb, hown, hlk, hlD, hst, hKn, hmn⟩, hml, ⟨hRf, hRl, hRc, hRs⟩, htab, rfl, rfl, hrp⟩ := S
  intro H locs LS hR hS hL
  exact lv_fstore hx hb d hL.has (by omega) rfl fun LS2 h2 => k H locs LS2 hR hS (hL.set rfl h2)
theorem k_fstore_n (S : Mach K KX D own mn cc nL dep mc ms hh rp) {i : Fin 4} {x : UInt32} (d : decode cc pc = .ok (.fstore_n i, 1)) (hi : (i : Nat) < nL) (k : K (pc + 1) (ls.set (i : Nat) (some (gF x))) st h a b) : K pc ls (gF x :: st) h a b := by
  obtain ⟨p, l, e, R, s, m, args, below, meth, c, Q, ⟨hx, hb, hown, hlk, hlD, hst, hKn, hmn⟩, hml, ⟨hRf, hRl, hRc, hRs⟩, htab, rfl, rfl, hrp⟩ := S
  intro H locs LS hR hS hL
  exact lv_fstore_n hx hb d rfl hL.has (by omega) rfl fun LS2 h2 => k H locs LS2 hR hS (hL.set rfl h2)
theorem k_astore (S : Mach K KX D own mn cc nL dep mc ms hh rp) {i : Nat} {x : Option Nat} (d : decode cc pc = .ok (.astore i, 2)) (hi : i < nL) (k : K (pc + 2) (ls.set i (some (gR x))) st h a b) : K pc ls (gR x :: st) h a b := by
  obtain ⟨p, l, e, R, s, m, args, below, meth, c, Q, ⟨hx, hb, hown, hlk, hlD, hst, hKn, hmn⟩, hml, ⟨hRf, hRl, hRc, hRs⟩, htab, rfl, rfl, hrp⟩ := S
  intro H locs LS hR hS hL
  cases x with
  | none => exact lv_astoreN hx hb d hL.has (by omega) rfl fun LS2 h2 => k H locs LS2 hR hS (hL.set rfl h2)
  | some x => exact lv_astore hx hb d hL.has (by omega) rfl fun LS2 h2 => k H locs LS2 hR hS (hL.set rfl h2)
theorem k_astore_n (S : Mach K KX D own mn cc nL dep mc ms hh rp) {i : Fin 4} {x : Option Nat} (d : decode cc pc = .ok (.astore_n i, 1)) (hi : (i : Nat) < nL) (k : K (pc + 1) (ls.set (i : Nat) (some (gR x))) st h a b) : K pc ls (gR x :: st) h a b := by
  obtain ⟨p, l, e, R, s, m, args, below, meth, c, Q, ⟨hx, hb, hown, hlk, hlD, hst, hKn, hmn⟩, hml, ⟨hRf, hRl, hRc, hRs⟩, htab, rfl, rfl, hrp⟩ := S
  intro H locs LS hR hS hL
  cases x with
  | none => exact lv_astore_nN hx hb d rfl hL.has (by omega) rfl fun LS2 h2 => k H locs LS2 hR hS (hL.set rfl h2)
  | some x => exact lv_astore_n hx hb d rfl hL.has (by omega) rfl fun LS2 h2 => k H locs LS2 hR hS (hL.set rfl h2)
theorem k_iinc (S : Mach K KX D own mn cc nL dep mc ms hh rp) {i : Nat} {n x : Int} (d : decode cc pc = .ok (.iinc i n, 3)) (hl : ls[i]? = some (some (gI x))) (hi : i < nL) (k : K (pc + 3) (ls.set i (some (gI (x + n)))) st h a b) : K pc ls st h a b := by
  obtain ⟨p, l, e, R, s, m, args, below, meth, c, Q, ⟨hx, hb, hown, hlk, hlD, hst, hKn, hmn⟩, hml, ⟨hRf, hRl, hRc, hRs⟩, htab, rfl, rfl, hrp⟩ := S
  intro H locs LS hR hS hL
  obtain ⟨k0, hk0⟩ := List.getElem?_of_mem (lvL_mem hl)
  exact lv_iinc hx hb d hL.has hk0 (v := Int32.ofInt (x + n)) (Int32.ofInt_add x n).symm (by omega) rfl fun LS2 h2 => k H locs LS2 hR hS (hL.set (v := gI (x + n)) rfl h2)
theorem k_iadd (S : Mach K KX D own mn cc nL dep mc ms hh rp) {x y : Int} (d : decode cc pc = .ok (.iadd, 1)) (k : K (pc + 1) ls (gI (x + y) :: st) h a b) : K pc ls (gI y :: gI x :: st) h a b := by
  obtain ⟨p, l, e, R, s, m, args, below, meth, c, Q, ⟨hx, hb, hown, hlk, hlD, hst, hKn, hmn⟩, hml, ⟨hRf, hRl, hRc, hRs⟩, htab, rfl, rfl, hrp⟩ := S
  intro H locs LS hR hS hL
  refine lv_iadd hx hb d ?_
  rw [← Int32.ofInt_add]
  exact k H locs LS hR hS hL
theorem k_isub (S : Mach K KX D own mn cc nL dep mc ms hh rp) {x y : Int} (d : decode cc pc = .ok (.isub, 1)) (k : K (pc + 1) ls (gI (x - y) :: st) h a b) : K pc ls (gI y :: gI x :: st) h a b := by
  obtain ⟨p, l, e, R, s, m, args, below, meth, c, Q, ⟨hx, hb, hown, hlk, hlD, hst, hKn, hmn⟩, hml, ⟨hRf, hRl, hRc, hRs⟩, htab, rfl, rfl, hrp⟩ := S
  intro H locs LS hR hS hL
  refine lv_isub hx hb d ?_
  rw [← Int32.ofInt_sub]
  exact k H locs LS hR hS hL
theorem k_imul (S : Mach K KX D own mn cc nL dep mc ms hh rp) {x y : Int} (d : decode cc pc = .ok (.imul, 1)) (k : K (pc + 1) ls (gI (x * y) :: st) h a b) : K pc ls (gI y :: gI x :: st) h a b := by
  obtain ⟨p, l, e, R, s, m, args, below, meth, c, Q, ⟨hx, hb, hown, hlk, hlD, hst, hKn, hmn⟩, hml, ⟨hRf, hRl, hRc, hRs⟩, htab, rfl, rfl, hrp⟩ := S
  intro H locs LS hR hS hL
  refine lv_imul hx hb d ?_
  rw [← Int32.ofInt_mul]
  exact k H locs LS hR hS hL
theorem k_iand (S : Mach K KX D own mn cc nL dep mc ms hh rp) {x y : Int} (d : decode cc pc = .ok (.iand, 1)) (k : K (pc + 1) ls (gI (bAnd x y) :: st) h a b) : K pc ls (gI y :: gI x :: st) h a b := by
  obtain ⟨p, l, e, R, s, m, args, below, meth, c, Q, ⟨hx, hb, hown, hlk, hlD, hst, hKn, hmn⟩, hml, ⟨hRf, hRl, hRc, hRs⟩, htab, rfl, rfl, hrp⟩ := S
  intro H locs LS hR hS hL
  refine lv_iand hx hb d ?_
  have hk := k H locs LS hR hS hL
  simp only [List.map_cons, tv, bAnd, Int32.ofInt_toInt] at hk
  exact hk
theorem k_ior (S : Mach K KX D own mn cc nL dep mc ms hh rp) {x y : Int} (d : decode cc pc = .ok (.ior, 1)) (k : K (pc + 1) ls (gI (bOr x y) :: st) h a b) : K pc ls (gI y :: gI x :: st) h a b := by
  obtain ⟨p, l, e, R, s, m, args, below, meth, c, Q, ⟨hx, hb, hown, hlk, hlD, hst, hKn, hmn⟩, hml, ⟨hRf, hRl, hRc, hRs⟩, htab, rfl, rfl, hrp⟩ := S
  intro H locs LS hR hS hL
  refine lv_ior hx hb d ?_
  have hk := k H locs LS hR hS hL
  simp only [List.map_cons, tv, bOr, Int32.ofInt_toInt] at hk
  exact hk
theorem k_ixor (S : Mach K KX D own mn cc nL dep mc ms hh rp) {x y : Int} (d : decode cc pc = .ok (.ixor, 1)) (k : K (pc + 1) ls (gI (bXor x y) :: st) h a b) : K pc ls (gI y :: gI x :: st) h a b := by
  obtain ⟨p, l, e, R, s, m, args, below, meth, c, Q, ⟨hx, hb, hown, hlk, hlD, hst, hKn, hmn⟩, hml, ⟨hRf, hRl, hRc, hRs⟩, htab, rfl, rfl, hrp⟩ := S
  intro H locs LS hR hS hL
  refine lv_ixor hx hb d ?_
  have hk := k H locs LS hR hS hL
  simp only [List.map_cons, tv, bXor, Int32.ofInt_toInt] at hk
  exact hk
theorem k_ishl (S : Mach K KX D own mn cc nL dep mc ms hh rp) {x y : Int} (d : decode cc pc = .ok (.ishl, 1)) (k : K (pc + 1) ls (gI (bShl x y) :: st) h a b) : K pc ls (gI y :: gI x :: st) h a b := by
  obtain ⟨p, l, e, R, s, m, args, below, meth, c, Q, ⟨hx, hb, hown, hlk, hlD, hst, hKn, hmn⟩, hml, ⟨hRf, hRl, hRc, hRs⟩, htab, rfl, rfl, hrp⟩ := S
  intro H locs LS hR hS hL
  refine lv_ishl hx hb d ?_
  have hk := k H locs LS hR hS hL
  simp only [List.map_cons, tv, bShl, Int32.ofInt_toInt] at hk
  exact hk
theorem k_ishr (S : Mach K KX D own mn cc nL dep mc ms hh rp) {x y : Int} (d : decode cc pc = .ok (.ishr, 1)) (k : K (pc + 1) ls (gI (bShr x y) :: st) h a b) : K pc ls (gI y :: gI x :: st) h a b := by
  obtain ⟨p, l, e, R, s, m, args, below, meth, c, Q, ⟨hx, hb, hown, hlk, hlD, hst, hKn, hmn⟩, hml, ⟨hRf, hRl, hRc, hRs⟩, htab, rfl, rfl, hrp⟩ := S
  intro H locs LS hR hS hL
  refine lv_ishr hx hb d ?_
  have hk := k H locs LS hR hS hL
  simp only [List.map_cons, tv, bShr, Int32.ofInt_toInt] at hk
  exact hk
theorem k_ineg (S : Mach K KX D own mn cc nL dep mc ms hh rp) {x : Int} (d : decode cc pc = .ok (.ineg, 1)) (k : K (pc + 1) ls (gI (-x) :: st) h a b) : K pc ls (gI x :: st) h a b := by
  obtain ⟨p, l, e, R, s, m, args, below, meth, c, Q, ⟨hx, hb, hown, hlk, hlD, hst, hKn, hmn⟩, hml, ⟨hRf, hRl, hRc, hRs⟩, htab, rfl, rfl, hrp⟩ := S
  intro H locs LS hR hS hL
  refine lv_ineg hx hb d ?_
  rw [← Int32.ofInt_neg]
  exact k H locs LS hR hS hL
theorem i32_nI {x : Int} (h0 : 0 ≤ x) : Int32.ofInt x = nI x.toNat := by
  obtain ⟨n, rfl⟩ := Int.eq_ofNat_of_zero_le h0
  show Int32.ofInt (n : Int) = Int32.ofNat n
  rw [Int32.ofInt_eq_ofNat]
theorem k_idiv (S : Mach K KX D own mn cc nL dep mc ms hh rp) {x y : Int} (d : decode cc pc = .ok (.idiv, 1)) (h1 : 0 ≤ x ∧ x < 2147483648) (h2 : 0 < y ∧ y < 2147483648) (k : K (pc + 1) ls (gI (x / y) :: st) h a b) : K pc ls (gI y :: gI x :: st) h a b := by
  obtain ⟨p, l, e, R, s, m, args, below, meth, c, Q, ⟨hx, hb, hown, hlk, hlD, hst, hKn, hmn⟩, hml, ⟨hRf, hRl, hRc, hRs⟩, htab, rfl, rfl, hrp⟩ := S
  intro H locs LS hR hS hL
  refine lv_idiv hx hb d (fun z => ?_) ?_
  · rw [show (0 : Int32) = Int32.ofInt 0 from rfl, i32_eq (by omega) (by omega)] at z
    omega
  · have e1 : Int32.ofInt x / Int32.ofInt y = Int32.ofInt (x / y) := by
      obtain ⟨n, rfl⟩ := Int.eq_ofNat_of_zero_le h1.1
      obtain ⟨u, rfl⟩ := Int.eq_ofNat_of_zero_le (Int.le_of_lt h2.1)
      rw [i32_nI h1.1, i32_nI (Int.le_of_lt h2.1), Int.toNat_natCast, Int.toNat_natCast, pk_div (by omega) (by omega) (by omega), show ((n : Int) / (u : Int)) = ((n / u : Nat) : Int) by simp, i32_nI (Int.natCast_nonneg _), Int.toNat_natCast]
    rw [e1]
    exact k H locs LS hR hS hL
theorem k_irem (S : Mach K KX D own mn cc nL dep mc ms hh rp) {x y : Int} (d : decode cc pc = .ok (.irem, 1)) (h1 : 0 ≤ x ∧ x < 2147483648) (h2 : 0 < y ∧ y < 2147483648) (k : K (pc + 1) ls (gI (x % y) :: st) h a b) : K pc ls (gI y :: gI x :: st) h a b := by
  obtain ⟨p, l, e, R, s, m, args, below, meth, c, Q, ⟨hx, hb, hown, hlk, hlD, hst, hKn, hmn⟩, hml, ⟨hRf, hRl, hRc, hRs⟩, htab, rfl, rfl, hrp⟩ := S
  intro H locs LS hR hS hL
  refine lv_irem hx hb d (fun z => ?_) ?_
  · rw [show (0 : Int32) = Int32.ofInt 0 from rfl, i32_eq (by omega) (by omega)] at z
    omega
  · have e1 : Int32.ofInt x - Int32.ofInt x / Int32.ofInt y * Int32.ofInt y = Int32.ofInt (x % y) := by
      obtain ⟨n, rfl⟩ := Int.eq_ofNat_of_zero_le h1.1
      obtain ⟨u, rfl⟩ := Int.eq_ofNat_of_zero_le (Int.le_of_lt h2.1)
      rw [i32_nI (by omega), i32_nI (by omega), Int.toNat_natCast, Int.toNat_natCast, pk_rem (by omega) (by omega) (by omega), ← Int.natCast_emod, i32_nI (by omega), Int.toNat_natCast]
    first | rw [e1]; exact k H locs LS hR hS hL | (have hk := k H locs LS hR hS hL; simp only [List.map_cons, tv] at hk; rw [← e1] at hk; exact hk)
theorem i32_c (x : Int) : ((Int32.ofInt x).toUInt32 % 65536).toInt32 = Int32.ofInt (x % 65536) := by
  rw [pk_char, i32_nI (Int.emod_nonneg _ (by omega))]
  congr 1
  have h1 : (Int32.ofInt x).toBitVec.toNat = (x % 4294967296).toNat := by
    show (BitVec.ofInt 32 x).toNat = _
    rw [BitVec.toNat_ofInt]
    rfl
  rw [h1]
  omega
theorem k_i2c (S : Mach K KX D own mn cc nL dep mc ms hh rp) {x : Int} (d : decode cc pc = .ok (.i2c, 1)) (k : K (pc + 1) ls (gI (x % 65536) :: st) h a b) : K pc ls (gI x :: st) h a b := by
  obtain ⟨p, l, e, R, s, m, args, below, meth, c, Q, ⟨hx, hb, hown, hlk, hlD, hst, hKn, hmn⟩, hml, ⟨hRf, hRl, hRc, hRs⟩, htab, rfl, rfl, hrp⟩ := S
  intro H locs LS hR hS hL
  exact lv_i2c hx hb d (i32_c x) (k H locs LS hR hS hL)
theorem k_i2l (S : Mach K KX D own mn cc nL dep mc ms hh rp) {x : Int} (d : decode cc pc = .ok (.i2l, 1)) (h1 : -2147483648 ≤ x ∧ x < 2147483648) (k : K (pc + 1) ls (gL x :: st) h a b) : K pc ls (gI x :: st) h a b := by
  obtain ⟨p, l, e, R, s, m, args, below, meth, c, Q, ⟨hx, hb, hown, hlk, hlD, hst, hKn, hmn⟩, hml, ⟨hRf, hRl, hRc, hRs⟩, htab, rfl, rfl, hrp⟩ := S
  intro H locs LS hR hS hL
  refine lv_i2l hx hb d (v := Int64.ofInt x) ?_ (k H locs LS hR hS hL)
  apply Int64.toInt_inj.mp
  rw [Int32.toInt_toInt64, i32 h1, i64 (by omega)]
theorem k_ladd (S : Mach K KX D own mn cc nL dep mc ms hh rp) {x y : Int} (d : decode cc pc = .ok (.ladd, 1)) (k : K (pc + 1) ls (gL (x + y) :: st) h a b) : K pc ls (gL y :: gL x :: st) h a b := by
  obtain ⟨p, l, e, R, s, m, args, below, meth, c, Q, ⟨hx, hb, hown, hlk, hlD, hst, hKn, hmn⟩, hml, ⟨hRf, hRl, hRc, hRs⟩, htab, rfl, rfl, hrp⟩ := S
  intro H locs LS hR hS hL
  refine lv_ladd hx hb d ?_
  rw [← Int64.ofInt_add]
  exact k H locs LS hR hS hL
theorem k_lsub (S : Mach K KX D own mn cc nL dep mc ms hh rp) {x y : Int} (d : decode cc pc = .ok (.lsub, 1)) (k : K (pc + 1) ls (gL (x - y) :: st) h a b) : K pc ls (gL y :: gL x :: st) h a b := by
  obtain ⟨p, l, e, R, s, m, args, below, meth, c, Q, ⟨hx, hb, hown, hlk, hlD, hst, hKn, hmn⟩, hml, ⟨hRf, hRl, hRc, hRs⟩, htab, rfl, rfl, hrp⟩ := S
  intro H locs LS hR hS hL
  refine lv_lsub hx hb d ?_
  rw [← Int64.ofInt_sub]
  exact k H locs LS hR hS hL
theorem k_i2f (S : Mach K KX D own mn cc nL dep mc ms hh rp) {x : Int} (d : decode cc pc = .ok (.i2f, 1)) (k : K (pc + 1) ls (gF (FP.i2f (Int32.ofInt x)) :: st) h a b) : K pc ls (gI x :: st) h a b := by
  obtain ⟨p, l, e, R, s, m, args, below, meth, c, Q, ⟨hx, hb, hown, hlk, hlD, hst, hKn, hmn⟩, hml, ⟨hRf, hRl, hRc, hRs⟩, htab, rfl, rfl, hrp⟩ := S
  intro H locs LS hR hS hL
  exact lv_i2f hx hb d (k H locs LS hR hS hL)
theorem k_fdiv (S : Mach K KX D own mn cc nL dep mc ms hh rp) {x y : UInt32} (d : decode cc pc = .ok (.fdiv, 1)) (hne : vf_n32 (FP.fdiv x y)) (k : K (pc + 1) ls (gF (FP.fdiv x y) :: st) h a b) : K pc ls (gF y :: gF x :: st) h a b := by
  obtain ⟨p, l, e, R, s, m, args, below, meth, c, Q, ⟨hx, hb, hown, hlk, hlD, hst, hKn, hmn⟩, hml, ⟨hRf, hRl, hRc, hRs⟩, htab, rfl, rfl, hrp⟩ := S
  intro H locs LS hR hS hL
  exact lv_fdiv hx hb d hne (k H locs LS hR hS hL)
theorem k_f2d (S : Mach K KX D own mn cc nL dep mc ms hh rp) {x : UInt32} (d : decode cc pc = .ok (.f2d, 1)) (hne : vf_n64 (FP.f2d x)) (k : K (pc + 1) ls (gD (FP.f2d x) :: st) h a b) : K pc ls (gF x :: st) h a b := by
  obtain ⟨p, l, e, R, s, m, args, below, meth, c, Q, ⟨hx, hb, hown, hlk, hlD, hst, hKn, hmn⟩, hml, ⟨hRf, hRl, hRc, hRs⟩, htab, rfl, rfl, hrp⟩ := S
  intro H locs LS hR hS hL
  exact lv_f2d hx hb d hne (k H locs LS hR hS hL)
theorem k_fcmp (S : Mach K KX D own mn cc nL dep mc ms hh rp) {x y : UInt32} {op : CmpOp} (d : decode cc pc = .ok (.fcmp op, 1)) (k : K (pc + 1) ls (gI (Op.cmpValue (FP.fcmp x y) op).toInt :: st) h a b) : K pc ls (gF y :: gF x :: st) h a b := by
  obtain ⟨p, l, e, R, s, m, args, below, meth, c, Q, ⟨hx, hb, hown, hlk, hlD, hst, hKn, hmn⟩, hml, ⟨hRf, hRl, hRc, hRs⟩, htab, rfl, rfl, hrp⟩ := S
  intro H locs LS hR hS hL
  refine lv_fcmp hx hb d ?_
  have hk := k H locs LS hR hS hL
  simp only [List.map_cons, tv, Int32.ofInt_toInt] at hk
  exact hk
theorem k_dcmp (S : Mach K KX D own mn cc nL dep mc ms hh rp) {x y : UInt64} {op : CmpOp} (d : decode cc pc = .ok (.dcmp op, 1)) (k : K (pc + 1) ls (gI (Op.cmpValue (FP.dcmp x y) op).toInt :: st) h a b) : K pc ls (gD y :: gD x :: st) h a b := by
  obtain ⟨p, l, e, R, s, m, args, below, meth, c, Q, ⟨hx, hb, hown, hlk, hlD, hst, hKn, hmn⟩, hml, ⟨hRf, hRl, hRc, hRs⟩, htab, rfl, rfl, hrp⟩ := S
  intro H locs LS hR hS hL
  refine lv_dcmp hx hb d ?_
  have hk := k H locs LS hR hS hL
  simp only [List.map_cons, tv, Int32.ofInt_toInt] at hk
  exact hk
theorem k_lcmp (S : Mach K KX D own mn cc nL dep mc ms hh rp) {x y : Int} (d : decode cc pc = .ok (.lcmp, 1)) (h1 : -9223372036854775808 ≤ x ∧ x < 9223372036854775808) (h2 : -9223372036854775808 ≤ y ∧ y < 9223372036854775808) (k : K (pc + 1) ls (gI (if x < y then -1 else if x = y then 0 else 1) :: st) h a b) : K pc ls (gL y :: gL x :: st) h a b := by
  obtain ⟨p, l, e, R, s, m, args, below, meth, c, Q, ⟨hx, hb, hown, hlk, hlD, hst, hKn, hmn⟩, hml, ⟨hRf, hRl, hRc, hRs⟩, htab, rfl, rfl, hrp⟩ := S
  intro H locs LS hR hS hL
  refine W.lcmp hx hb d ?_
  have e1 : lg_cmp (Int64.ofInt x) (Int64.ofInt y) = Int32.ofInt (if x < y then -1 else if x = y then 0 else 1) := by
    unfold lg_cmp
    simp only [Int64.lt_iff_toInt_lt, ← Int64.toInt_inj, i64 h1, i64 h2]
    repeat' split
    all_goals first | rfl | omega
  rw [e1]
  exact k H locs LS hR hS hL
theorem k_dup (S : Mach K KX D own mn cc nL dep mc ms hh rp) {v : GV} (d : decode cc pc = .ok (.dup, 1)) (k : K (pc + 1) ls (v :: v :: st) h a b) (hc : gcat v = 1 := by rfl) : K pc ls (v :: st) h a b := by
  obtain ⟨p, l, e, R, s, m, args, below, meth, c, Q, ⟨hx, hb, hown, hlk, hlD, hst, hKn, hmn⟩, hml, ⟨hRf, hRl, hRc, hRs⟩, htab, rfl, rfl, hrp⟩ := S
  intro H locs LS hR hS hL
  exact lv_dup hx hb d ((tv_cat v).trans hc) (k H locs LS hR hS hL)
theorem k_pop (S : Mach K KX D own mn cc nL dep mc ms hh rp) {v : GV} (d : decode cc pc = .ok (.pop, 1)) (k : K (pc + 1) ls st h a b) (hc : gcat v = 1 := by rfl) : K pc ls (v :: st) h a b := by
  obtain ⟨p, l, e, R, s, m, args, below, meth, c, Q, ⟨hx, hb, hown, hlk, hlD, hst, hKn, hmn⟩, hml, ⟨hRf, hRl, hRc, hRs⟩, htab, rfl, rfl, hrp⟩ := S
  intro H locs LS hR hS hL
  exact lv_pop hx hb d ((tv_cat v).trans hc) (k H locs LS hR hS hL)
theorem k_dup_x1 (S : Mach K KX D own mn cc nL dep mc ms hh rp) {v u : GV} (d : decode cc pc = .ok (.dup_x1, 1)) (k : K (pc + 1) ls (v :: u :: v :: st) h a b) (hc : gcat v = 1 := by rfl) (hc2 : gcat u = 1 := by rfl) : K pc ls (v :: u :: st) h a b := by
  obtain ⟨p, l, e, R, s, m, args, below, meth, c, Q, ⟨hx, hb, hown, hlk, hlD, hst, hKn, hmn⟩, hml, ⟨hRf, hRl, hRc, hRs⟩, htab, rfl, rfl, hrp⟩ := S
  intro H locs LS hR hS hL
  exact lv_dup_x1 hx hb d ((tv_cat v).trans hc) ((tv_cat u).trans hc2) (k H locs LS hR hS hL)
theorem k_dup_x2 (S : Mach K KX D own mn cc nL dep mc ms hh rp) {v u z : GV} (d : decode cc pc = .ok (.dup_x2, 1)) (k : K (pc + 1) ls (v :: u :: z :: v :: st) h a b) (hc : gcat v = 1 := by rfl) (hc2 : gcat u = 1 := by rfl) (hc3 : gcat z = 1 := by rfl) : K pc ls (v :: u :: z :: st) h a b := by
  obtain ⟨p, l, e, R, s, m, args, below, meth, c, Q, ⟨hx, hb, hown, hlk, hlD, hst, hKn, hmn⟩, hml, ⟨hRf, hRl, hRc, hRs⟩, htab, rfl, rfl, hrp⟩ := S
  intro H locs LS hR hS hL
  exact lv_dup_x2 hx hb d ((tv_cat v).trans hc) ((tv_cat u).trans hc2) ((tv_cat z).trans hc3) (k H locs LS hR hS hL)
theorem k_dup2 (S : Mach K KX D own mn cc nL dep mc ms hh rp) {v u : GV} (d : decode cc pc = .ok (.dup2, 1)) (k : K (pc + 1) ls (v :: u :: v :: u :: st) h a b) (hc : gcat v = 1 := by rfl) (hc2 : gcat u = 1 := by rfl) : K pc ls (v :: u :: st) h a b := by
  obtain ⟨p, l, e, R, s, m, args, below, meth, c, Q, ⟨hx, hb, hown, hlk, hlD, hst, hKn, hmn⟩, hml, ⟨hRf, hRl, hRc, hRs⟩, htab, rfl, rfl, hrp⟩ := S
  intro H locs LS hR hS hL
  exact lv_dup2_11 hx hb d ((tv_cat v).trans hc) ((tv_cat u).trans hc2) (k H locs LS hR hS hL)
theorem k_icmp_eq (S : Mach K KX D own mn cc nL dep mc ms hh rp) {x y : Int} {off : Int} {tgt : Nat} (d : decode cc pc = .ok (.if_icmp .eq off, 3)) (ht : (pc : Int) + off = (tgt : Int)) (h1 : -2147483648 ≤ x ∧ x < 2147483648) (h2 : -2147483648 ≤ y ∧ y < 2147483648) (kt : x = y → K tgt ls st h a b) (kf : ¬ x = y → K (pc + 3) ls st h a b) : K pc ls (gI y :: gI x :: st) h a b := by
  obtain ⟨p, l, e, R, s, m, args, below, meth, c, Q, ⟨hx, hb, hown, hlk, hlD, hst, hKn, hmn⟩, hml, ⟨hRf, hRl, hRc, hRs⟩, htab, rfl, rfl, hrp⟩ := S
  intro H locs LS hR hS hL
  exact lv_icmp_eq hx hb d ht (fun z => kt ((i32_eq h1 h2).mp z) H locs LS hR hS hL) (fun z => kf (fun q => z ((i32_eq h1 h2).mpr q)) H locs LS hR hS hL)
theorem k_if_eq (S : Mach K KX D own mn cc nL dep mc ms hh rp) {x : Int} {off : Int} {tgt : Nat} (d : decode cc pc = .ok (.ifCond .eq off, 3)) (ht : (pc : Int) + off = (tgt : Int)) (h1 : -2147483648 ≤ x ∧ x < 2147483648) (kt : x = 0 → K tgt ls st h a b) (kf : ¬ x = 0 → K (pc + 3) ls st h a b) : K pc ls (gI x :: st) h a b := by
  obtain ⟨p, l, e, R, s, m, args, below, meth, c, Q, ⟨hx, hb, hown, hlk, hlD, hst, hKn, hmn⟩, hml, ⟨hRf, hRl, hRc, hRs⟩, htab, rfl, rfl, hrp⟩ := S
  intro H locs LS hR hS hL
  exact lv_if_eq hx hb d ht (fun z => kt ((i32_eq h1 (show -2147483648 ≤ (0 : Int) ∧ (0 : Int) < 2147483648 by omega)).mp z) H locs LS hR hS hL) (fun z => kf (fun q => z ((i32_eq h1 (show -2147483648 ≤ (0 : Int) ∧ (0 : Int) < 2147483648 by omega)).mpr q)) H locs LS hR hS hL)
theorem k_icmp_ne (S : Mach K KX D own mn cc nL dep mc ms hh rp) {x y : Int} {off : Int} {tgt : Nat} (d : decode cc pc = .ok (.if_icmp .ne off, 3)) (ht : (pc : Int) + off = (tgt : Int)) (h1 : -2147483648 ≤ x ∧ x < 2147483648) (h2 : -2147483648 ≤ y ∧ y < 2147483648) (kt : ¬ x = y → K tgt ls st h a b) (kf : x = y → K (pc + 3) ls st h a b) : K pc ls (gI y :: gI x :: st) h a b := by
  obtain ⟨p, l, e, R, s, m, args, below, meth, c, Q, ⟨hx, hb, hown, hlk, hlD, hst, hKn, hmn⟩, hml, ⟨hRf, hRl, hRc, hRs⟩, htab, rfl, rfl, hrp⟩ := S
  intro H locs LS hR hS hL
  exact lv_icmp_ne hx hb d ht (fun z => kt (fun q => z ((i32_eq h1 h2).mpr q)) H locs LS hR hS hL) (fun z => kf ((i32_eq h1 h2).mp z) H locs LS hR hS hL)
theorem k_if_ne (S : Mach K KX D own mn cc nL dep mc ms hh rp) {x : Int} {off : Int} {tgt : Nat} (d : decode cc pc = .ok (.ifCond .ne off, 3)) (ht : (pc : Int) + off = (tgt : Int)) (h1 : -2147483648 ≤ x ∧ x < 2147483648) (kt : ¬ x = 0 → K tgt ls st h a b) (kf : x = 0 → K (pc + 3) ls st h a b) : K pc ls (gI x :: st) h a b := by
  obtain ⟨p, l, e, R, s, m, args, below, meth, c, Q, ⟨hx, hb, hown, hlk, hlD, hst, hKn, hmn⟩, hml, ⟨hRf, hRl, hRc, hRs⟩, htab, rfl, rfl, hrp⟩ := S
  intro H locs LS hR hS hL
  exact lv_if_ne hx hb d ht (fun z => kt (fun q => z ((i32_eq h1 (show -2147483648 ≤ (0 : Int) ∧ (0 : Int) < 2147483648 by omega)).mpr q)) H locs LS hR hS hL) (fun z => kf ((i32_eq h1 (show -2147483648 ≤ (0 : Int) ∧ (0 : Int) < 2147483648 by omega)).mp z) H locs LS hR hS hL)
theorem k_icmp_lt (S : Mach K KX D own mn cc nL dep mc ms hh rp) {x y : Int} {off : Int} {tgt : Nat} (d : decode cc pc = .ok (.if_icmp .lt off, 3)) (ht : (pc : Int) + off = (tgt : Int)) (h1 : -2147483648 ≤ x ∧ x < 2147483648) (h2 : -2147483648 ≤ y ∧ y < 2147483648) (kt : x < y → K tgt ls st h a b) (kf : ¬ x < y → K (pc + 3) ls st h a b) : K pc ls (gI y :: gI x :: st) h a b := by
  obtain ⟨p, l, e, R, s, m, args, below, meth, c, Q, ⟨hx, hb, hown, hlk, hlD, hst, hKn, hmn⟩, hml, ⟨hRf, hRl, hRc, hRs⟩, htab, rfl, rfl, hrp⟩ := S
  intro H locs LS hR hS hL
  exact lv_icmp_lt hx hb d ht (fun z => kt ((i32_lt h1 h2).mp z) H locs LS hR hS hL) (fun z => kf (fun q => z ((i32_lt h1 h2).mpr q)) H locs LS hR hS hL)
theorem k_if_lt (S : Mach K KX D own mn cc nL dep mc ms hh rp) {x : Int} {off : Int} {tgt : Nat} (d : decode cc pc = .ok (.ifCond .lt off, 3)) (ht : (pc : Int) + off = (tgt : Int)) (h1 : -2147483648 ≤ x ∧ x < 2147483648) (kt : x < 0 → K tgt ls st h a b) (kf : ¬ x < 0 → K (pc + 3) ls st h a b) : K pc ls (gI x :: st) h a b := by
  obtain ⟨p, l, e, R, s, m, args, below, meth, c, Q, ⟨hx, hb, hown, hlk, hlD, hst, hKn, hmn⟩, hml, ⟨hRf, hRl, hRc, hRs⟩, htab, rfl, rfl, hrp⟩ := S
  intro H locs LS hR hS hL
  exact lv_if_lt hx hb d ht (fun z => kt ((i32_lt h1 (show -2147483648 ≤ (0 : Int) ∧ (0 : Int) < 2147483648 by omega)).mp z) H locs LS hR hS hL) (fun z => kf (fun q => z ((i32_lt h1 (show -2147483648 ≤ (0 : Int) ∧ (0 : Int) < 2147483648 by omega)).mpr q)) H locs LS hR hS hL)
theorem k_icmp_ge (S : Mach K KX D own mn cc nL dep mc ms hh rp) {x y : Int} {off : Int} {tgt : Nat} (d : decode cc pc = .ok (.if_icmp .ge off, 3)) (ht : (pc : Int) + off = (tgt : Int)) (h1 : -2147483648 ≤ x ∧ x < 2147483648) (h2 : -2147483648 ≤ y ∧ y < 2147483648) (kt : y ≤ x → K tgt ls st h a b) (kf : ¬ y ≤ x → K (pc + 3) ls st h a b) : K pc ls (gI y :: gI x :: st) h a b := by
  obtain ⟨p, l, e, R, s, m, args, below, meth, c, Q, ⟨hx, hb, hown, hlk, hlD, hst, hKn, hmn⟩, hml, ⟨hRf, hRl, hRc, hRs⟩, htab, rfl, rfl, hrp⟩ := S
  intro H locs LS hR hS hL
  exact lv_icmp_ge hx hb d ht (fun z => kt ((i32_le h2 h1).mp z) H locs LS hR hS hL) (fun z => kf (fun q => z ((i32_le h2 h1).mpr q)) H locs LS hR hS hL)
theorem k_if_ge (S : Mach K KX D own mn cc nL dep mc ms hh rp) {x : Int} {off : Int} {tgt : Nat} (d : decode cc pc = .ok (.ifCond .ge off, 3)) (ht : (pc : Int) + off = (tgt : Int)) (h1 : -2147483648 ≤ x ∧ x < 2147483648) (kt : 0 ≤ x → K tgt ls st h a b) (kf : ¬ 0 ≤ x → K (pc + 3) ls st h a b) : K pc ls (gI x :: st) h a b := by
  obtain ⟨p, l, e, R, s, m, args, below, meth, c, Q, ⟨hx, hb, hown, hlk, hlD, hst, hKn, hmn⟩, hml, ⟨hRf, hRl, hRc, hRs⟩, htab, rfl, rfl, hrp⟩ := S
  intro H locs LS hR hS hL
  exact lv_if_ge hx hb d ht (fun z => kt ((i32_le (show -2147483648 ≤ (0 : Int) ∧ (0 : Int) < 2147483648 by omega) h1).mp z) H locs LS hR hS hL) (fun z => kf (fun q => z ((i32_le (show -2147483648 ≤ (0 : Int) ∧ (0 : Int) < 2147483648 by omega) h1).mpr q)) H locs LS hR hS hL)
theorem k_icmp_gt (S : Mach K KX D own mn cc nL dep mc ms hh rp) {x y : Int} {off : Int} {tgt : Nat} (d : decode cc pc = .ok (.if_icmp .gt off, 3)) (ht : (pc : Int) + off = (tgt : Int)) (h1 : -2147483648 ≤ x ∧ x < 2147483648) (h2 : -2147483648 ≤ y ∧ y < 2147483648) (kt : y < x → K tgt ls st h a b) (kf : ¬ y < x → K (pc + 3) ls st h a b) : K pc ls (gI y :: gI x :: st) h a b := by
  obtain ⟨p, l, e, R, s, m, args, below, meth, c, Q, ⟨hx, hb, hown, hlk, hlD, hst, hKn, hmn⟩, hml, ⟨hRf, hRl, hRc, hRs⟩, htab, rfl, rfl, hrp⟩ := S
  intro H locs LS hR hS hL
  exact lv_icmp_gt hx hb d ht (fun z => kt ((i32_lt h2 h1).mp z) H locs LS hR hS hL) (fun z => kf (fun q => z ((i32_lt h2 h1).mpr q)) H locs LS hR hS hL)
theorem k_if_gt (S : Mach K KX D own mn cc nL dep mc ms hh rp) {x : Int} {off : Int} {tgt : Nat} (d : decode cc pc = .ok (.ifCond .gt off, 3)) (ht : (pc : Int) + off = (tgt : Int)) (h1 : -2147483648 ≤ x ∧ x < 2147483648) (kt : 0 < x → K tgt ls st h a b) (kf : ¬ 0 < x → K (pc + 3) ls st h a b) : K pc ls (gI x :: st) h a b := by
  obtain ⟨p, l, e, R, s, m, args, below, meth, c, Q, ⟨hx, hb, hown, hlk, hlD, hst, hKn, hmn⟩, hml, ⟨hRf, hRl, hRc, hRs⟩, htab, rfl, rfl, hrp⟩ := S
  intro H locs LS hR hS hL
  exact lv_if_gt hx hb d ht (fun z => kt ((i32_lt (show -2147483648 ≤ (0 : Int) ∧ (0 : Int) < 2147483648 by omega) h1).mp z) H locs LS hR hS hL) (fun z => kf (fun q => z ((i32_lt (show -2147483648 ≤ (0 : Int) ∧ (0 : Int) < 2147483648 by omega) h1).mpr q)) H locs LS hR hS hL)
theorem k_icmp_le (S : Mach K KX D own mn cc nL dep mc ms hh rp) {x y : Int} {off : Int} {tgt : Nat} (d : decode cc pc = .ok (.if_icmp .le off, 3)) (ht : (pc : Int) + off = (tgt : Int)) (h1 : -2147483648 ≤ x ∧ x < 2147483648) (h2 : -2147483648 ≤ y ∧ y < 2147483648) (kt : x ≤ y → K tgt ls st h a b) (kf : ¬ x ≤ y → K (pc + 3) ls st h a b) : K pc ls (gI y :: gI x :: st) h a b := by
  obtain ⟨p, l, e, R, s, m, args, below, meth, c, Q, ⟨hx, hb, hown, hlk, hlD, hst, hKn, hmn⟩, hml, ⟨hRf, hRl, hRc, hRs⟩, htab, rfl, rfl, hrp⟩ := S
  intro H locs LS hR hS hL
  exact lv_icmp_le hx hb d ht (fun z => kt ((i32_le h1 h2).mp z) H locs LS hR hS hL) (fun z => kf (fun q => z ((i32_le h1 h2).mpr q)) H locs LS hR hS hL)
theorem k_if_le (S : Mach K KX D own mn cc nL dep mc ms hh rp) {x : Int} {off : Int} {tgt : Nat} (d : decode cc pc = .ok (.ifCond .le off, 3)) (ht : (pc : Int) + off = (tgt : Int)) (h1 : -2147483648 ≤ x ∧ x < 2147483648) (kt : x ≤ 0 → K tgt ls st h a b) (kf : ¬ x ≤ 0 → K (pc + 3) ls st h a b) : K pc ls (gI x :: st) h a b := by
  obtain ⟨p, l, e, R, s, m, args, below, meth, c, Q, ⟨hx, hb, hown, hlk, hlD, hst, hKn, hmn⟩, hml, ⟨hRf, hRl, hRc, hRs⟩, htab, rfl, rfl, hrp⟩ := S
  intro H locs LS hR hS hL
  exact lv_if_le hx hb d ht (fun z => kt ((i32_le h1 (show -2147483648 ≤ (0 : Int) ∧ (0 : Int) < 2147483648 by omega)).mp z) H locs LS hR hS hL) (fun z => kf (fun q => z ((i32_le h1 (show -2147483648 ≤ (0 : Int) ∧ (0 : Int) < 2147483648 by omega)).mpr q)) H locs LS hR hS hL)
theorem k_acmp_eq (S : Mach K KX D own mn cc nL dep mc ms hh rp) {x y : Option Nat} {off : Int} {tgt : Nat} (d : decode cc pc = .ok (.if_acmp .eq off, 3)) (ht : (pc : Int) + off = (tgt : Int)) (kt : x = y → K tgt ls st h a b) (kf : ¬ x = y → K (pc + 3) ls st h a b) : K pc ls (gR y :: gR x :: st) h a b := by
  obtain ⟨p, l, e, R, s, m, args, below, meth, c, Q, ⟨hx, hb, hown, hlk, hlD, hst, hKn, hmn⟩, hml, ⟨hRf, hRl, hRc, hRs⟩, htab, rfl, rfl, hrp⟩ := S
  intro H locs LS hR hS hL
  exact lv_acmp_eq hx hb d ht (fun z => kt z H locs LS hR hS hL) (fun z => kf z H locs LS hR hS hL)
theorem k_acmp_ne (S : Mach K KX D own mn cc nL dep mc ms hh rp) {x y : Option Nat} {off : Int} {tgt : Nat} (d : decode cc pc = .ok (.if_acmp .ne off, 3)) (ht : (pc : Int) + off = (tgt : Int)) (kt : ¬ x = y → K tgt ls st h a b) (kf : x = y → K (pc + 3) ls st h a b) : K pc ls (gR y :: gR x :: st) h a b := by
  obtain ⟨p, l, e, R, s, m, args, below, meth, c, Q, ⟨hx, hb, hown, hlk, hlD, hst, hKn, hmn⟩, hml, ⟨hRf, hRl, hRc, hRs⟩, htab, rfl, rfl, hrp⟩ := S
  intro H locs LS hR hS hL
  exact lv_acmp_ne hx hb d ht (fun z => kt z H locs LS hR hS hL) (fun z => kf z H locs LS hR hS hL)
theorem k_goto (S : Mach K KX D own mn cc nL dep mc ms hh rp) {off : Int} {tgt : Nat} (d : decode cc pc = .ok (.goto off, 3)) (ht : (pc : Int) + off = (tgt : Int)) (k : K tgt ls st h a b) : K pc ls st h a b := by
  obtain ⟨p, l, e, R, s, m, args, below, meth, c, Q, ⟨hx, hb, hown, hlk, hlD, hst, hKn, hmn⟩, hml, ⟨hRf, hRl, hRc, hRs⟩, htab, rfl, rfl, hrp⟩ := S
  intro H locs LS hR hS hL
  exact lv_goto hx hb d ht (k H locs LS hR hS hL)
theorem k_tblIn (S : Mach K KX D own mn cc nL dep mc ms hh rp) {dflt lo hi : Int} {offs : Array Int} {len : Nat} {x : Int} {off : Int} {tgt : Nat} (d : decode cc pc = .ok (.tableswitch dflt lo hi offs, len)) (h1 : -2147483648 ≤ x ∧ x < 2147483648) (hlo : ¬ x < lo) (hhi : ¬ hi < x) (ho : offs[(x - lo).toNat]? = some off) (ht : (pc : Int) + off = (tgt : Int)) (k : K tgt ls st h a b) : K pc ls (gI x :: st) h a b := by
  obtain ⟨p, l, e, R, s, m, args, below, meth, c, Q, ⟨hx, hb, hown, hlk, hlD, hst, hKn, hmn⟩, hml, ⟨hRf, hRl, hRc, hRs⟩, htab, rfl, rfl, hrp⟩ := S
  intro H locs LS hR hS hL
  exact lv_tableIn hx hb d (by rw [i32 h1]; exact hlo) (by rw [i32 h1]; exact hhi) (by rw [i32 h1]; exact ho) ht (k H locs LS hR hS hL)
theorem k_tblOut (S : Mach K KX D own mn cc nL dep mc ms hh rp) {dflt lo hi : Int} {offs : Array Int} {len : Nat} {x : Int} {tgt : Nat} (d : decode cc pc = .ok (.tableswitch dflt lo hi offs, len)) (h1 : -2147483648 ≤ x ∧ x < 2147483648) (ho : x < lo ∨ hi < x) (ht : (pc : Int) + dflt = (tgt : Int)) (k : K tgt ls st h a b) : K pc ls (gI x :: st) h a b := by
  obtain ⟨p, l, e, R, s, m, args, below, meth, c, Q, ⟨hx, hb, hown, hlk, hlD, hst, hKn, hmn⟩, hml, ⟨hRf, hRl, hRc, hRs⟩, htab, rfl, rfl, hrp⟩ := S
  intro H locs LS hR hS hL
  exact lv_tableOut hx hb d (by rw [i32 h1]; exact ho) ht (k H locs LS hR hS hL)
theorem k_widen (S : Mach K KX D own mn cc nL dep mc ms hh rp) {a1 b1 : Nat} (h1 : a ≤ a1) (h2 : b ≤ b1) (k : K pc ls st h a1 b1) : K pc ls st h a b := by
  obtain ⟨p, l, e, R, s, m, args, below, meth, c, Q, ⟨hx, hb, hown, hlk, hlD, hst, hKn, hmn⟩, hml, ⟨hRf, hRl, hRc, hRs⟩, htab, rfl, rfl, hrp⟩ := S
  intro H locs LS hR hS hL
  exact W.widen h1 h2 (k H locs LS hR hS hL)
end RW1
end
section
section RW2
/-- a class of the worlds, by its number -/
def CK (ci : Nat) (C : String) (T : u_T) (N : Nat) (ty : Nat → FieldType) : Prop := gcl[ci]? = some (C, T, N) ∧ (∀ w ∈ u_ws C T N, w ∈ kwl) ∧ (∀ k, k < N → parseFieldDescriptor (T k).2.2.1 = some (ty k)) ∧ ∀ a, a < N → ∀ b, b < N → a ≠ b → (T a).2.1 ≠ (T b).2.1
/-- what a field's entry in the pool of own says -/
def FL (own : String) (idx ci k : Nat) (fty : FieldType) (fin : Bool) : Prop := ∃ (C : String) (T : u_T) (N : Nat) (ty : Nat → FieldType) (ref : String), CK ci C T N ty ∧ k < N ∧ parseFieldDescriptor (T k).2.2.1 = some fty ∧ (T k).2.2.2 = fin ∧ (Cond.fieldLink own idx ref (T k).2.1 (T k).2.2.1 ∈ kwl ∨ ∃ host, Cond.fieldLinkNest own idx ref (T k).2.1 (T k).2.2.1 host ∈ kwl) ∧ (ref = (T k).1 ∨ Cond.sameField ref (T k).1 (T k).2.1 (T k).2.2.1 ∈ kwl)
/-- a final field, in the constructor -/
def FLF (own : String) (idx ci k : Nat) (fty : FieldType) : Prop := ∃ (C : String) (T : u_T) (N : Nat) (ty : Nat → FieldType), CK ci C T N ty ∧ k < N ∧ parseFieldDescriptor (T k).2.2.1 = some fty ∧ (T k).2.2.2 = true ∧ Cond.fieldLink own idx (T k).1 (T k).2.1 (T k).2.2.1 ∈ kwl ∧ (T k).1 = own
def gfit (ty : FieldType) (v : GV) : Prop := narrow ty (tv v) = tv v ∧ fits ty (tv v) = true
theorem gfit_int (x : Int) : gfit .int (gI x) := ⟨rfl, rfl⟩
theorem gfit_long (x : Int) : gfit .long (gL x) := ⟨rfl, rfl⟩
theorem gfit_bool {x : Int} (h : x = 0 ∨ x = 1) : gfit .boolean (gI x) := by
  rcases h with rfl | rfl
  · exact ⟨by decide, by decide⟩
  · exact ⟨by decide, by decide⟩
theorem gfit_ref (C : String) (x : Option Nat) : gfit (.object C) (gR x) := by cases x <;> exact ⟨rfl, rfl⟩
theorem gfit_arr (t : FieldType) (x : Option Nat) : gfit (.array t) (gR x) := by cases x <;> exact ⟨rfl, rfl⟩
def NW (own : String) (idx ci N : Nat) (fs : List GV) : Prop := ∃ (C : String) (T : u_T) (ty : Nat → FieldType), CK ci C T N ty ∧ Cond.classLink own idx C ∈ kwl ∧ Cond.instantiable C N ∈ kwl ∧ Cond.initialized C ∈ kwl ∧ ∀ j, j < N → defaultValue (ty j) = vp_V (fs.map tv) j
def gupd {α : Type} (f : Nat → α) (k : Nat) (x : α) : Nat → α := fun i => if i = k then x else f i
theorem gupd_s {α : Type} (f : Nat → α) (k : Nat) (x : α) : gupd f k x k = x := if_pos rfl
theorem gupd_n {α : Type} (f : Nat → α) {k i : Nat} (x : α) (e : i ≠ k) : gupd f k x i = f i := if_neg e
theorem te_i (dA : Nat → ClassId) (t n : Nat) (f : Nat → Int) (k : Nat) (x : Int) {y : Int32} (hy : y = Int32.ofInt x) : te dA (gArr t n (gupd f k x)) = .inl (dA t, n, .inl (upd (fun j => Int32.ofInt (f j)) k y)) := by
  subst hy
  simp only [te]
  congr 4
  funext j
  by_cases e : j = k
  · subst e; simp [gupd, upd]
  · simp [gupd, upd, e]
theorem te_l (dA : Nat → ClassId) (t n : Nat) (f : Nat → Int) (k : Nat) (x : Int) : te dA (gArrL t n (gupd f k x)) = .inl (dA t, n, .inr (.inl (vp_updL (fun j => Int64.ofInt (f j)) k (Int64.ofInt x)))) := by
  simp only [te]
  congr 5
  funext j
  by_cases e : j = k
  · subst e; simp [gupd, vp_updL]
  · simp [gupd, vp_updL, e]
theorem te_d (dA : Nat → ClassId) (t n : Nat) (f : Nat → UInt64) (k : Nat) (x : UInt64) : te dA (gArrD t n (gupd f k x)) = .inl (dA t, n, .inr (.inr (.inr (.inl (vf_upd f k x))))) := by
  simp only [te]
  congr 7
theorem te_r (dA : Nat → ClassId) (t n : Nat) (f : Nat → Option Nat) (k : Nat) (x : Option Nat) : te dA (gArrR t n (gupd f k x)) = .inl (dA t, n, .inr (.inr (.inr (.inr (va_up f k x))))) := by
  simp only [te]
  congr 7
theorem ra_eq {D : DD} {s : State} {t : Nat} {ty : FieldType} {cA : ClassId} (hK : va_K (dG D) gcl (gtys (dAr D)) s) (ht : (gtys (dAr D))[t]? = some (dAr D t, ty)) (h2 : va_RA s cA ty) : cA = dAr D t := by
  have h1 := (hK.2 t _ ht).2
  cases ty with
  | object C =>
    obtain ⟨_, _, -, -, -, e1⟩ := h1
    obtain ⟨_, _, -, -, -, e2⟩ := h2
    exact Option.some.inj (e2.symm.trans e1)
  | _ => exact Option.some.inj (Eq.trans (Eq.symm h2) h1)
variable {K : Nat → List (Option GV) → List GV → GH → Nat → Nat → Prop} {KX : Nat → List (Option GV) → GH → Nat → Nat → String → Prop} {D : DD} {own mn : String} {cc : ByteArray} {nL dep mc ms : Nat} {hh : List (Nat × Nat × Nat × Nat)} {rp : Option (Option FieldType × (GO → GH → Prop))} {pc : Nat} {ls : List (Option GV)} {st : List GV} {h : GH} {a b : Nat}
theorem k_getf (S : Mach K KX D own mn cc nL dep mc ms hh rp) {idx ci k : Nat} {fty : FieldType} {fin : Bool} {q : Nat} {fs : List GV} {v : GV} (d : decode cc pc = .ok (.getfield idx, 3)) (hf : FL own idx ci k fty fin) (hh : h q = some (gObj ci fs)) (hv : fs[k]? = some v) (kk : K (pc + 3) ls (v :: st) h a b) : K pc ls (gR (some q) :: st) h a b := by
  obtain ⟨p, l, e, R, s, m, args, below, meth, c, Q, ⟨hx, hb, hown, hlk, hlD, hst, hKn, hmn⟩, hml, ⟨hRf, hRl, hRc, hRs⟩, htab, rfl, rfl, hrp⟩ := S
  intro H locs LS hR hS hL
  obtain ⟨C, T, N, ty, ref, ⟨c1, c2, c3, c4⟩, hk, hp, hfi, hlink, hsm⟩ := hf
  obtain ⟨ws, k0, hP, hD, hall, hk0⟩ := hR.get hh
  have hsame : ∀ x, s.fieldFound? (T k).1 (T k).2.1 (T k).2.2.1 = some x → s.fieldFound? ref (T k).2.1 (T k).2.2.1 = some x := by
    intro x hx9
    rcases hsm with rfl | hsm
    · exact hx9
    · exact u_same (args := args) (hKn.2.1 _ hsm _) x hx9
  have hv' : (fs.map tv)[k]? = some (tv v) := by rw [List.getElem?_map, hv]; rfl
  rcases hlink with hl | ⟨host, hl⟩
  · exact va_get (Ts := u_ws C T N) hx hb (fun w hw => hKn.2.1 w (c2 w hw) args) (fun _ h => h) hown hKn.1 hP k0 hk0 c1 k hk (hKn.2.1 _ hl _) hsame hv' d (kk H locs LS hR hS hL)
  · exact va_getN (Ts := u_ws C T N) hx hb (fun w hw => hKn.2.1 w (c2 w hw) args) (fun _ h => h) hown hKn.1 hP k0 hk0 c1 k hk (hKn.2.1 _ hl _) hsame hv' d (kk H locs LS hR hS hL)
theorem k_putf (S : Mach K KX D own mn cc nL dep mc ms hh rp) {idx ci k : Nat} {fty : FieldType} {q : Nat} {fs : List GV} {v : GV} (d : decode cc pc = .ok (.putfield idx, 3)) (hf : FL own idx ci k fty false) (hh : h q = some (gObj ci fs)) (hv : gfit fty v) (hl9 : k < fs.length) (kk : K (pc + 3) ls st (hput h q (gObj ci (fs.set k v))) a b) : K pc ls (v :: gR (some q) :: st) h a b := by
  obtain ⟨p, l, e, R, s, m, args, below, meth, c, Q, ⟨hx, hb, hown, hlk, hlD, hst, hKn, hmn⟩, hml, ⟨hRf, hRl, hRc, hRs⟩, htab, rfl, rfl, hrp⟩ := S
  intro H locs LS hR hS hL
  obtain ⟨C, T, N, ty, ref, ⟨c1, c2, c3, c4⟩, hk, hp, hfi, hlink, hsm⟩ := hf
  obtain ⟨ws, k0, hP, hD, hall, hk0⟩ := hR.get hh
  have hsame : ∀ x, s.fieldFound? (T k).1 (T k).2.1 (T k).2.2.1 = some x → s.fieldFound? ref (T k).2.1 (T k).2.2.1 = some x := by
    intro x hx9
    rcases hsm with rfl | hsm
    · exact hx9
    · exact u_same (args := args) (hKn.2.1 _ hsm _) x hx9
  have e9 : (fs.map tv).set k (tv v) = (fs.set k v).map tv := by rw [List.map_set]
  rcases hlink with hl | ⟨host, hl⟩
  · refine va_put (Ts := u_ws C T N) hx hb (fun w hw => hKn.2.1 w (c2 w hw) args) (fun _ h => h) ty c3 c4 hown hKn.1 hP hD hS k0 hk0 c1 k hk (hKn.2.1 _ hl _) hsame hfi hp hv.1 hv.2 (by simpa using hl9) d fun H1 locs1 hP1 hD1 hS1 => ?_
    rw [e9] at hP1 hD1
    exact kk H1 locs1 LS (Rel.set (g := gObj ci (fs.set k v)) hall hk0 hP1 hD1) hS1 hL
  · refine va_putN (Ts := u_ws C T N) hx hb (fun w hw => hKn.2.1 w (c2 w hw) args) (fun _ h => h) ty c3 c4 hown hKn.1 hP hD hS k0 hk0 c1 k hk (hKn.2.1 _ hl _) hsame hfi hp hv.1 hv.2 (by simpa using hl9) d fun H1 locs1 hP1 hD1 hS1 => ?_
    rw [e9] at hP1 hD1
    exact kk H1 locs1 LS (Rel.set (g := gObj ci (fs.set k v)) hall hk0 hP1 hD1) hS1 hL
theorem k_putF (S : Mach K KX D own mn cc nL dep mc ms hh rp) {idx ci k : Nat} {fty : FieldType} {q : Nat} {fs : List GV} {v : GV} (hm9 : mn = "<init>") (d : decode cc pc = .ok (.putfield idx, 3)) (hf : FLF own idx ci k fty) (hh : h q = some (gObj ci fs)) (hv : gfit fty v) (hl9 : k < fs.length) (kk : K (pc + 3) ls st (hput h q (gObj ci (fs.set k v))) a b) : K pc ls (v :: gR (some q) :: st) h a b := by
  obtain ⟨p, l, e, R, s, m, args, below, meth, c, Q, ⟨hx, hb, hown, hlk, hlD, hst, hKn, hmn⟩, hml, ⟨hRf, hRl, hRc, hRs⟩, htab, rfl, rfl, hrp⟩ := S
  intro H locs LS hR hS hL
  obtain ⟨C, T, N, ty, ⟨c1, c2, c3, c4⟩, hk, hp, hfi, hl, hdc⟩ := hf
  obtain ⟨ws, k0, hP, hD, hall, hk0⟩ := hR.get hh
  have hin2 : meth.name = "<init>" := by
    rcases hmn with h9 | h9
    · rw [hm9] at h9; exact absurd h9 (by decide)
    · rw [h9, hm9]
  have e9 : (fs.map tv).set k (tv v) = (fs.set k v).map tv := by rw [List.map_set]
  refine va_putF (Ts := u_ws C T N) hx hb (fun w hw => hKn.2.1 w (c2 w hw) args) (fun _ h => h) ty c3 c4 hown hKn.1 hP hD hS k0 hk0 c1 k hk (hKn.2.1 _ hl _) (fun _ h => h) hfi hin2 hdc hp hv.1 hv.2 (by simpa using hl9) d fun H1 locs1 hP1 hD1 hS1 => ?_
  rw [e9] at hP1 hD1
  exact kk H1 locs1 LS (Rel.set (g := gObj ci (fs.set k v)) hall hk0 hP1 hD1) hS1 hL
theorem k_iaload (S : Mach K KX D own mn cc nL dep mc ms hh rp) {q n : Nat} {f : Nat → Int} {j : Int} (d : decode cc pc = .ok (.iaload, 1)) (hh : h q = some (gArr 0 n f)) (hj : 0 ≤ j ∧ j < 2147483648 ∧ j < (n : Int)) (kk : K (pc + 1) ls (gI (f j.toNat) :: st) h a b) : K pc ls (gI j :: gR (some q) :: st) h a b := by
  obtain ⟨p, l, e, R, s, m, args, below, meth, c, Q, ⟨hx, hb, hown, hlk, hlD, hst, hKn, hmn⟩, hml, ⟨hRf, hRl, hRc, hRs⟩, htab, rfl, rfl, hrp⟩ := S
  intro H locs LS hR hS hL
  obtain ⟨ws, k0, hP, hD, hall, hk0⟩ := hR.get hh
  refine va_iald hx hb hKn.1 hP k0 0 hk0 rfl (i32_in hj.1 hj.2.1 (by omega)) d ?_
  rw [i32_clamp hj.1 hj.2.1]
  exact kk H locs LS hR hS hL
theorem k_caload (S : Mach K KX D own mn cc nL dep mc ms hh rp) {q n : Nat} {f : Nat → Int} {j : Int} (d : decode cc pc = .ok (.caload, 1)) (hh : h q = some (gArr 1 n f)) (hj : 0 ≤ j ∧ j < 2147483648 ∧ j < (n : Int)) (kk : K (pc + 1) ls (gI (f j.toNat) :: st) h a b) : K pc ls (gI j :: gR (some q) :: st) h a b := by
  obtain ⟨p, l, e, R, s, m, args, below, meth, c, Q, ⟨hx, hb, hown, hlk, hlD, hst, hKn, hmn⟩, hml, ⟨hRf, hRl, hRc, hRs⟩, htab, rfl, rfl, hrp⟩ := S
  intro H locs LS hR hS hL
  obtain ⟨ws, k0, hP, hD, hall, hk0⟩ := hR.get hh
  refine va_cald hx hb hKn.1 hP k0 1 hk0 rfl (i32_in hj.1 hj.2.1 (by omega)) d ?_
  rw [i32_clamp hj.1 hj.2.1]
  exact kk H locs LS hR hS hL
theorem k_baloadz (S : Mach K KX D own mn cc nL dep mc ms hh rp) {q n : Nat} {f : Nat → Int} {j : Int} (d : decode cc pc = .ok (.baload, 1)) (hh : h q = some (gArr 2 n f)) (hj : 0 ≤ j ∧ j < 2147483648 ∧ j < (n : Int)) (kk : K (pc + 1) ls (gI (f j.toNat) :: st) h a b) : K pc ls (gI j :: gR (some q) :: st) h a b := by
  obtain ⟨p, l, e, R, s, m, args, below, meth, c, Q, ⟨hx, hb, hown, hlk, hlD, hst, hKn, hmn⟩, hml, ⟨hRf, hRl, hRc, hRs⟩, htab, rfl, rfl, hrp⟩ := S
  intro H locs LS hR hS hL
  obtain ⟨ws, k0, hP, hD, hall, hk0⟩ := hR.get hh
  refine va_zald hx hb hKn.1 hP k0 2 hk0 rfl (i32_in hj.1 hj.2.1 (by omega)) d ?_
  rw [i32_clamp hj.1 hj.2.1]
  exact kk H locs LS hR hS hL
theorem k_laload (S : Mach K KX D own mn cc nL dep mc ms hh rp) {q n : Nat} {f : Nat → Int} {j : Int} (d : decode cc pc = .ok (.laload, 1)) (hh : h q = some (gArrL 3 n f)) (hj : 0 ≤ j ∧ j < 2147483648 ∧ j < (n : Int)) (kk : K (pc + 1) ls (gL (f j.toNat) :: st) h a b) : K pc ls (gI j :: gR (some q) :: st) h a b := by
  obtain ⟨p, l, e, R, s, m, args, below, meth, c, Q, ⟨hx, hb, hown, hlk, hlD, hst, hKn, hmn⟩, hml, ⟨hRf, hRl, hRc, hRs⟩, htab, rfl, rfl, hrp⟩ := S
  intro H locs LS hR hS hL
  obtain ⟨ws, k0, hP, hD, hall, hk0⟩ := hR.get hh
  refine va_lald hx hb hKn.1 hP k0 3 hk0 rfl (i32_in hj.1 hj.2.1 (by omega)) d ?_
  rw [i32_clamp hj.1 hj.2.1]
  exact kk H locs LS hR hS hL
theorem k_daload (S : Mach K KX D own mn cc nL dep mc ms hh rp) {q n : Nat} {f : Nat → UInt64} {j : Int} (d : decode cc pc = .ok (.daload, 1)) (hh : h q = some (gArrD 4 n f)) (hj : 0 ≤ j ∧ j < 2147483648 ∧ j < (n : Int)) (kk : K (pc + 1) ls (gD (f j.toNat) :: st) h a b) : K pc ls (gI j :: gR (some q) :: st) h a b := by
  obtain ⟨p, l, e, R, s, m, args, below, meth, c, Q, ⟨hx, hb, hown, hlk, hlD, hst, hKn, hmn⟩, hml, ⟨hRf, hRl, hRc, hRs⟩, htab, rfl, rfl, hrp⟩ := S
  intro H locs LS hR hS hL
  obtain ⟨ws, k0, hP, hD, hall, hk0⟩ := hR.get hh
  refine va_dald hx hb hKn.1 hP k0 4 hk0 rfl (i32_in hj.1 hj.2.1 (by omega)) d ?_
  rw [i32_clamp hj.1 hj.2.1]
  exact kk H locs LS hR hS hL
theorem k_aaload (S : Mach K KX D own mn cc nL dep mc ms hh rp) {q n : Nat} {f : Nat → Option Nat} {j : Int} (d : decode cc pc = .ok (.aaload, 1)) (hh : h q = some (gArrR 5 n f)) (hj : 0 ≤ j ∧ j < 2147483648 ∧ j < (n : Int)) (kk : K (pc + 1) ls (gR (f j.toNat) :: st) h a b) : K pc ls (gI j :: gR (some q) :: st) h a b := by
  obtain ⟨p, l, e, R, s, m, args, below, meth, c, Q, ⟨hx, hb, hown, hlk, hlD, hst, hKn, hmn⟩, hml, ⟨hRf, hRl, hRc, hRs⟩, htab, rfl, rfl, hrp⟩ := S
  intro H locs LS hR hS hL
  obtain ⟨ws, k0, hP, hD, hall, hk0⟩ := hR.get hh
  refine va_aldq hx hb hKn.1 hP k0 5 hk0 rfl (i32_in hj.1 hj.2.1 (by omega)) d ?_
  rw [i32_clamp hj.1 hj.2.1]
  exact kk H locs LS hR hS hL
theorem k_iastore (S : Mach K KX D own mn cc nL dep mc ms hh rp) {q n : Nat} {f : Nat → Int} {j : Int} {x : Int} (d : decode cc pc = .ok (.iastore, 1)) (hh : h q = some (gArr 0 n f)) (hj : 0 ≤ j ∧ j < 2147483648 ∧ j < (n : Int)) (kk : K (pc + 1) ls st (hput h q (gArr 0 n (gupd f j.toNat x))) a b) : K pc ls (gI x :: gI j :: gR (some q) :: st) h a b := by
  obtain ⟨p, l, e, R, s, m, args, below, meth, c, Q, ⟨hx, hb, hown, hlk, hlD, hst, hKn, hmn⟩, hml, ⟨hRf, hRl, hRc, hRs⟩, htab, rfl, rfl, hrp⟩ := S
  intro H locs LS hR hS hL
  obtain ⟨ws, k0, hP, hD, hall, hk0⟩ := hR.get hh
  refine va_iast hx hb hKn.1 hP hD hS k0 0 hk0 rfl (i32_in hj.1 hj.2.1 (by omega)) d fun H1 locs1 hP1 hD1 hS1 => ?_
  rw [i32_clamp hj.1 hj.2.1, ← te_i (dAr D) 0 n f j.toNat x rfl] at hP1 hD1
  exact kk H1 locs1 LS (Rel.set hall hk0 hP1 hD1) hS1 hL
theorem k_castore (S : Mach K KX D own mn cc nL dep mc ms hh rp) {q n : Nat} {f : Nat → Int} {j : Int} {x : Int} (d : decode cc pc = .ok (.castore, 1)) (hh : h q = some (gArr 1 n f)) (hj : 0 ≤ j ∧ j < 2147483648 ∧ j < (n : Int)) (hx9 : 0 ≤ x ∧ x < 65536) (kk : K (pc + 1) ls st (hput h q (gArr 1 n (gupd f j.toNat x))) a b) : K pc ls (gI x :: gI j :: gR (some q) :: st) h a b := by
  obtain ⟨p, l, e, R, s, m, args, below, meth, c, Q, ⟨hx, hb, hown, hlk, hlD, hst, hKn, hmn⟩, hml, ⟨hRf, hRl, hRc, hRs⟩, htab, rfl, rfl, hrp⟩ := S
  intro H locs LS hR hS hL
  obtain ⟨ws, k0, hP, hD, hall, hk0⟩ := hR.get hh
  have ec : vp_nar .char (Int32.ofInt x) = Int32.ofInt x := by
    have h9 := pk_vc (Int32.ofInt x)
    rw [i32_c, Int.emod_eq_of_lt hx9.1 hx9.2] at h9
    exact h9
  refine va_cast hx hb hKn.1 hP hD hS k0 1 hk0 rfl (i32_in hj.1 hj.2.1 (by omega)) d fun H1 locs1 hP1 hD1 hS1 => ?_
  rw [i32_clamp hj.1 hj.2.1, ← te_i (dAr D) 1 n f j.toNat x ec] at hP1 hD1
  exact kk H1 locs1 LS (Rel.set hall hk0 hP1 hD1) hS1 hL
theorem k_bastorez (S : Mach K KX D own mn cc nL dep mc ms hh rp) {q n : Nat} {f : Nat → Int} {j : Int} {x : Int} (d : decode cc pc = .ok (.bastore, 1)) (hh : h q = some (gArr 2 n f)) (hj : 0 ≤ j ∧ j < 2147483648 ∧ j < (n : Int)) (hx9 : x = 0 ∨ x = 1) (kk : K (pc + 1) ls st (hput h q (gArr 2 n (gupd f j.toNat x))) a b) : K pc ls (gI x :: gI j :: gR (some q) :: st) h a b := by
  obtain ⟨p, l, e, R, s, m, args, below, meth, c, Q, ⟨hx, hb, hown, hlk, hlD, hst, hKn, hmn⟩, hml, ⟨hRf, hRl, hRc, hRs⟩, htab, rfl, rfl, hrp⟩ := S
  intro H locs LS hR hS hL
  obtain ⟨ws, k0, hP, hD, hall, hk0⟩ := hR.get hh
  have ec : vp_nar .boolean (Int32.ofInt x) = Int32.ofInt x := by
    rcases hx9 with rfl | rfl <;> decide
  refine va_zast hx hb hKn.1 hP hD hS k0 2 hk0 rfl (i32_in hj.1 hj.2.1 (by omega)) d fun H1 locs1 hP1 hD1 hS1 => ?_
  rw [i32_clamp hj.1 hj.2.1, ← te_i (dAr D) 2 n f j.toNat x ec] at hP1 hD1
  exact kk H1 locs1 LS (Rel.set hall hk0 hP1 hD1) hS1 hL
theorem k_lastore (S : Mach K KX D own mn cc nL dep mc ms hh rp) {q n : Nat} {f : Nat → Int} {j : Int} {x : Int} (d : decode cc pc = .ok (.lastore, 1)) (hh : h q = some (gArrL 3 n f)) (hj : 0 ≤ j ∧ j < 2147483648 ∧ j < (n : Int)) (kk : K (pc + 1) ls st (hput h q (gArrL 3 n (gupd f j.toNat x))) a b) : K pc ls (gL x :: gI j :: gR (some q) :: st) h a b := by
  obtain ⟨p, l, e, R, s, m, args, below, meth, c, Q, ⟨hx, hb, hown, hlk, hlD, hst, hKn, hmn⟩, hml, ⟨hRf, hRl, hRc, hRs⟩, htab, rfl, rfl, hrp⟩ := S
  intro H locs LS hR hS hL
  obtain ⟨ws, k0, hP, hD, hall, hk0⟩ := hR.get hh
  refine va_last hx hb hKn.1 hP hD hS k0 3 hk0 rfl (i32_in hj.1 hj.2.1 (by omega)) d fun H1 locs1 hP1 hD1 hS1 => ?_
  rw [i32_clamp hj.1 hj.2.1, ← te_l (dAr D) 3 n f j.toNat x] at hP1 hD1
  exact kk H1 locs1 LS (Rel.set hall hk0 hP1 hD1) hS1 hL
theorem k_dastore (S : Mach K KX D own mn cc nL dep mc ms hh rp) {q n : Nat} {f : Nat → UInt64} {j : Int} {x : UInt64} (d : decode cc pc = .ok (.dastore, 1)) (hh : h q = some (gArrD 4 n f)) (hj : 0 ≤ j ∧ j < 2147483648 ∧ j < (n : Int)) (kk : K (pc + 1) ls st (hput h q (gArrD 4 n (gupd f j.toNat x))) a b) : K pc ls (gD x :: gI j :: gR (some q) :: st) h a b := by
  obtain ⟨p, l, e, R, s, m, args, below, meth, c, Q, ⟨hx, hb, hown, hlk, hlD, hst, hKn, hmn⟩, hml, ⟨hRf, hRl, hRc, hRs⟩, htab, rfl, rfl, hrp⟩ := S
  intro H locs LS hR hS hL
  obtain ⟨ws, k0, hP, hD, hall, hk0⟩ := hR.get hh
  refine va_dast hx hb hKn.1 hP hD hS k0 4 hk0 rfl (i32_in hj.1 hj.2.1 (by omega)) d fun H1 locs1 hP1 hD1 hS1 => ?_
  rw [i32_clamp hj.1 hj.2.1, ← te_d (dAr D) 4 n f j.toNat x] at hP1 hD1
  exact kk H1 locs1 LS (Rel.set hall hk0 hP1 hD1) hS1 hL
theorem k_aastore (S : Mach K KX D own mn cc nL dep mc ms hh rp) {q n v ci : Nat} {f : Nat → Option Nat} {j : Int} {C : String} {T : u_T} {N : Nat} {fs : List GV} (d : decode cc pc = .ok (.aastore, 1)) (hh : h q = some (gArrR 5 n f)) (hj : 0 ≤ j ∧ j < 2147483648 ∧ j < (n : Int)) (hv : h v = some (gObj ci fs)) (hc : gcl[ci]? = some (C, T, N)) (hca : Cond.castable C "java/lang/Object" ∈ kwl) (kk : K (pc + 1) ls st (hput h q (gArrR 5 n (gupd f j.toNat (some v)))) a b) : K pc ls (gR (some v) :: gI j :: gR (some q) :: st) h a b := by
  obtain ⟨p, l, e, R, s, m, args, below, meth, c, Q, ⟨hx, hb, hown, hlk, hlD, hst, hKn, hmn⟩, hml, ⟨hRf, hRl, hRc, hRs⟩, htab, rfl, rfl, hrp⟩ := S
  intro H locs LS hR hS hL
  obtain ⟨ws, k0, hP, hD, hall, hk0⟩ := hR.get hh
  obtain ⟨kv, hkv⟩ := List.getElem?_of_mem (hall v _ hv)
  refine va_astqO (r := (C, T, N)) hx hb hKn.1 hP hD hS k0 5 kv ci hk0 rfl (va_Nw.of rfl (hKn.2.1 _ hca #[])) hkv hc (i32_in hj.1 hj.2.1 (by omega)) d fun H1 locs1 hP1 hD1 hS1 => ?_
  rw [i32_clamp hj.1 hj.2.1, ← te_r (dAr D) 5 n f j.toNat (some v)] at hP1 hD1
  exact kk H1 locs1 LS (Rel.set hall hk0 hP1 hD1) hS1 hL
theorem k_aastoreN (S : Mach K KX D own mn cc nL dep mc ms hh rp) {q n : Nat} {f : Nat → Option Nat} {j : Int} (d : decode cc pc = .ok (.aastore, 1)) (hh : h q = some (gArrR 5 n f)) (hj : 0 ≤ j ∧ j < 2147483648 ∧ j < (n : Int)) (kk : K (pc + 1) ls st (hput h q (gArrR 5 n (gupd f j.toNat none))) a b) : K pc ls (gR none :: gI j :: gR (some q) :: st) h a b := by
  obtain ⟨p, l, e, R, s, m, args, below, meth, c, Q, ⟨hx, hb, hown, hlk, hlD, hst, hKn, hmn⟩, hml, ⟨hRf, hRl, hRc, hRs⟩, htab, rfl, rfl, hrp⟩ := S
  intro H locs LS hR hS hL
  obtain ⟨ws, k0, hP, hD, hall, hk0⟩ := hR.get hh
  refine va_astqN hx hb hKn.1 hP hD hS k0 5 hk0 rfl (i32_in hj.1 hj.2.1 (by omega)) d fun H1 locs1 hP1 hD1 hS1 => ?_
  rw [i32_clamp hj.1 hj.2.1, ← te_r (dAr D) 5 n f j.toNat none] at hP1 hD1
  exact kk H1 locs1 LS (Rel.set hall hk0 hP1 hD1) hS1 hL
theorem k_alen (S : Mach K KX D own mn cc nL dep mc ms hh rp) {q t n : Nat} {x : gA} (d : decode cc pc = .ok (.arraylength, 1)) (hh : h q = some (.inl (t, n, x))) (ht : t < 6) (kk : K (pc + 1) ls (gI n :: st) h a b) : K pc ls (gR (some q) :: st) h a b := by
  obtain ⟨p, l, e, R, s, m, args, below, meth, c, Q, ⟨hx, hb, hown, hlk, hlD, hst, hKn, hmn⟩, hml, ⟨hRf, hRl, hRc, hRs⟩, htab, rfl, rfl, hrp⟩ := S
  intro H locs LS hR hS hL
  obtain ⟨ws, k0, hP, hD, hall, hk0⟩ := hR.get hh
  obtain ⟨ty, hty⟩ : ∃ ty, (gtys (dAr D))[t]? = some (dAr D t, ty) := by
    match t, ht with
    | 0, _ => exact ⟨_, rfl⟩
    | 1, _ => exact ⟨_, rfl⟩
    | 2, _ => exact ⟨_, rfl⟩
    | 3, _ => exact ⟨_, rfl⟩
    | 4, _ => exact ⟨_, rfl⟩
    | 5, _ => exact ⟨_, rfl⟩
  rcases x with f | f | f | f
  · exact va_alen hx hb hKn.1 hP k0 t hk0 hty (v := Int32.ofInt n) Int32.ofInt_eq_ofNat.symm d (kk H locs LS hR hS hL)
  · exact va_alen hx hb hKn.1 hP k0 t hk0 hty (v := Int32.ofInt n) Int32.ofInt_eq_ofNat.symm d (kk H locs LS hR hS hL)
  · exact va_alen hx hb hKn.1 hP k0 t hk0 hty (v := Int32.ofInt n) Int32.ofInt_eq_ofNat.symm d (kk H locs LS hR hS hL)
  · exact va_alen hx hb hKn.1 hP k0 t hk0 hty (v := Int32.ofInt n) Int32.ofInt_eq_ofNat.symm d (kk H locs LS hR hS hL)
theorem k_alenE (S : Mach K KX D own mn cc nL dep mc ms hh rp) (d : decode cc pc = .ok (.arraylength, 1)) (kk : K (pc + 1) ls (gI 0 :: st) h a b) : K pc ls (gR (some (cad D 4)) :: st) h a b := by
  obtain ⟨p, l, e, R, s, m, args, below, meth, c, Q, ⟨hx, hb, hown, hlk, hlD, hst, hKn, hmn⟩, hml, ⟨hRf, hRl, hRc, hRs⟩, htab, rfl, rfl, hrp⟩ := S
  intro H locs LS hR hS hL
  exact va_tlen hx hb hKn.2.2.1.2.2.1 hS (v := Int32.ofInt 0) rfl d (kk H locs LS hR hS hL)
theorem k_newa_i (S : Mach K KX D own mn cc nL dep mc ms hh rp) {n : Int} (d : decode cc pc = .ok (.newarray .int, 2)) (hn : 0 ≤ n ∧ n ≤ 65536) (hw : Cond.arrayClass .int ∈ kwl) (hc : a + 1 ≤ mc) (hs : b + n.toNat ≤ ms) (kk : ∀ q : Nat, h q = none → dLo D ≤ q → K (pc + 2) ls (gR (some q) :: st) (hput h q (gArr 0 n.toNat (fun _ => 0))) (a + 1) (b + n.toNat)) : K pc ls (gI n :: st) h a b := by
  obtain ⟨p, l, e, R, s, m, args, below, meth, c, Q, ⟨hx, hb, hown, hlk, hlD, hst, hKn, hmn⟩, hml, ⟨hRf, hRl, hRc, hRs⟩, htab, rfl, rfl, hrp⟩ := S
  intro H locs LS hR hS hL
  obtain ⟨ws, hP, hD, hall⟩ := hR
  refine va_newa (atype := .int) (ty := .int) (N' := n.toNat) (a0 := (n.toNat, .inl (fun _ => 0))) hx hb (hKn.2.1 _ hw _) rfl hKn.1 hP hD hS (fun q hq => Nat.le_trans hKn.2.2.2 hq) (fun cA => rfl) (fun z => ?_) (i32_clamp hn.1 (by omega)) ?_ (by omega) (by omega) d fun q cA H1 hK1 hP1 hD1 hS1 => ?_
  · rw [show (0 : Int32) = Int32.ofInt 0 from rfl, i32_lt (by omega) (by omega)] at z
    omega
  · have : n.toNat ≤ 65536 := by omega
    exact Nat.le_trans (Nat.mul_le_mul this (show componentBytes .int ≤ 8 by decide)) (by decide)
  · have ec : cA = dAr D 0 := ra_eq hKn.1 rfl (hK1.2 6 (cA, .int) rfl).2
    subst ec
    obtain ⟨r1, r2, r3⟩ := Rel.push (g := gArr 0 n.toNat (fun _ => 0)) hall hP1 hD1
    exact kk q r2 r3 H1 locs LS r1 hS1 hL
theorem k_newa_c (S : Mach K KX D own mn cc nL dep mc ms hh rp) {n : Int} (d : decode cc pc = .ok (.newarray .char, 2)) (hn : 0 ≤ n ∧ n ≤ 65536) (hw : Cond.arrayClass .char ∈ kwl) (hc : a + 1 ≤ mc) (hs : b + n.toNat ≤ ms) (kk : ∀ q : Nat, h q = none → dLo D ≤ q → K (pc + 2) ls (gR (some q) :: st) (hput h q (gArr 1 n.toNat (fun _ => 0))) (a + 1) (b + n.toNat)) : K pc ls (gI n :: st) h a b := by
  obtain ⟨p, l, e, R, s, m, args, below, meth, c, Q, ⟨hx, hb, hown, hlk, hlD, hst, hKn, hmn⟩, hml, ⟨hRf, hRl, hRc, hRs⟩, htab, rfl, rfl, hrp⟩ := S
  intro H locs LS hR hS hL
  obtain ⟨ws, hP, hD, hall⟩ := hR
  refine va_newa (atype := .char) (ty := .char) (N' := n.toNat) (a0 := (n.toNat, .inl (fun _ => 0))) hx hb (hKn.2.1 _ hw _) rfl hKn.1 hP hD hS (fun q hq => Nat.le_trans hKn.2.2.2 hq) (fun cA => rfl) (fun z => ?_) (i32_clamp hn.1 (by omega)) ?_ (by omega) (by omega) d fun q cA H1 hK1 hP1 hD1 hS1 => ?_
  · rw [show (0 : Int32) = Int32.ofInt 0 from rfl, i32_lt (by omega) (by omega)] at z
    omega
  · have : n.toNat ≤ 65536 := by omega
    exact Nat.le_trans (Nat.mul_le_mul this (show componentBytes .char ≤ 8 by decide)) (by decide)
  · have ec : cA = dAr D 1 := ra_eq hKn.1 rfl (hK1.2 6 (cA, .char) rfl).2
    subst ec
    obtain ⟨r1, r2, r3⟩ := Rel.push (g := gArr 1 n.toNat (fun _ => 0)) hall hP1 hD1
    exact kk q r2 r3 H1 locs LS r1 hS1 hL
theorem k_newa_z (S : Mach K KX D own mn cc nL dep mc ms hh rp) {n : Int} (d : decode cc pc = .ok (.newarray .boolean, 2)) (hn : 0 ≤ n ∧ n ≤ 65536) (hw : Cond.arrayClass .boolean ∈ kwl) (hc : a + 1 ≤ mc) (hs : b + n.toNat ≤ ms) (kk : ∀ q : Nat, h q = none → dLo D ≤ q → K (pc + 2) ls (gR (some q) :: st) (hput h q (gArr 2 n.toNat (fun _ => 0))) (a + 1) (b + n.toNat)) : K pc ls (gI n :: st) h a b := by
  obtain ⟨p, l, e, R, s, m, args, below, meth, c, Q, ⟨hx, hb, hown, hlk, hlD, hst, hKn, hmn⟩, hml, ⟨hRf, hRl, hRc, hRs⟩, htab, rfl, rfl, hrp⟩ := S
  intro H locs LS hR hS hL
  obtain ⟨ws, hP, hD, hall⟩ := hR
  refine va_newa (atype := .boolean) (ty := .boolean) (N' := n.toNat) (a0 := (n.toNat, .inl (fun _ => 0))) hx hb (hKn.2.1 _ hw _) rfl hKn.1 hP hD hS (fun q hq => Nat.le_trans hKn.2.2.2 hq) (fun cA => rfl) (fun z => ?_) (i32_clamp hn.1 (by omega)) ?_ (by omega) (by omega) d fun q cA H1 hK1 hP1 hD1 hS1 => ?_
  · rw [show (0 : Int32) = Int32.ofInt 0 from rfl, i32_lt (by omega) (by omega)] at z
    omega
  · have : n.toNat ≤ 65536 := by omega
    exact Nat.le_trans (Nat.mul_le_mul this (show componentBytes .boolean ≤ 8 by decide)) (by decide)
  · have ec : cA = dAr D 2 := ra_eq hKn.1 rfl (hK1.2 6 (cA, .boolean) rfl).2
    subst ec
    obtain ⟨r1, r2, r3⟩ := Rel.push (g := gArr 2 n.toNat (fun _ => 0)) hall hP1 hD1
    exact kk q r2 r3 H1 locs LS r1 hS1 hL
theorem k_newa_l (S : Mach K KX D own mn cc nL dep mc ms hh rp) {n : Int} (d : decode cc pc = .ok (.newarray .long, 2)) (hn : 0 ≤ n ∧ n ≤ 65536) (hw : Cond.arrayClass .long ∈ kwl) (hc : a + 1 ≤ mc) (hs : b + n.toNat ≤ ms) (kk : ∀ q : Nat, h q = none → dLo D ≤ q → K (pc + 2) ls (gR (some q) :: st) (hput h q (gArrL 3 n.toNat (fun _ => 0))) (a + 1) (b + n.toNat)) : K pc ls (gI n :: st) h a b := by
  obtain ⟨p, l, e, R, s, m, args, below, meth, c, Q, ⟨hx, hb, hown, hlk, hlD, hst, hKn, hmn⟩, hml, ⟨hRf, hRl, hRc, hRs⟩, htab, rfl, rfl, hrp⟩ := S
  intro H locs LS hR hS hL
  obtain ⟨ws, hP, hD, hall⟩ := hR
  refine va_newa (atype := .long) (ty := .long) (N' := n.toNat) (a0 := (n.toNat, .inr (.inl (fun _ => 0)))) hx hb (hKn.2.1 _ hw _) rfl hKn.1 hP hD hS (fun q hq => Nat.le_trans hKn.2.2.2 hq) (fun cA => rfl) (fun z => ?_) (i32_clamp hn.1 (by omega)) ?_ (by omega) (by omega) d fun q cA H1 hK1 hP1 hD1 hS1 => ?_
  · rw [show (0 : Int32) = Int32.ofInt 0 from rfl, i32_lt (by omega) (by omega)] at z
    omega
  · have : n.toNat ≤ 65536 := by omega
    exact Nat.le_trans (Nat.mul_le_mul this (show componentBytes .long ≤ 8 by decide)) (by decide)
  · have ec : cA = dAr D 3 := ra_eq hKn.1 rfl (hK1.2 6 (cA, .long) rfl).2
    subst ec
    obtain ⟨r1, r2, r3⟩ := Rel.push (g := gArrL 3 n.toNat (fun _ => 0)) hall hP1 hD1
    exact kk q r2 r3 H1 locs LS r1 hS1 hL
theorem k_newa_d (S : Mach K KX D own mn cc nL dep mc ms hh rp) {n : Int} (d : decode cc pc = .ok (.newarray .double, 2)) (hn : 0 ≤ n ∧ n ≤ 65536) (hw : Cond.arrayClass .double ∈ kwl) (hc : a + 1 ≤ mc) (hs : b + n.toNat ≤ ms) (kk : ∀ q : Nat, h q = none → dLo D ≤ q → K (pc + 2) ls (gR (some q) :: st) (hput h q (gArrD 4 n.toNat (fun _ => 0))) (a + 1) (b + n.toNat)) : K pc ls (gI n :: st) h a b := by
  obtain ⟨p, l, e, R, s, m, args, below, meth, c, Q, ⟨hx, hb, hown, hlk, hlD, hst, hKn, hmn⟩, hml, ⟨hRf, hRl, hRc, hRs⟩, htab, rfl, rfl, hrp⟩ := S
  intro H locs LS hR hS hL
  obtain ⟨ws, hP, hD, hall⟩ := hR
  refine va_newa (atype := .double) (ty := .double) (N' := n.toNat) (a0 := (n.toNat, .inr (.inr (.inr (.inl (fun _ => 0)))))) hx hb (hKn.2.1 _ hw _) rfl hKn.1 hP hD hS (fun q hq => Nat.le_trans hKn.2.2.2 hq) (fun cA => rfl) (fun z => ?_) (i32_clamp hn.1 (by omega)) ?_ (by omega) (by omega) d fun q cA H1 hK1 hP1 hD1 hS1 => ?_
  · rw [show (0 : Int32) = Int32.ofInt 0 from rfl, i32_lt (by omega) (by omega)] at z
    omega
  · have : n.toNat ≤ 65536 := by omega
    exact Nat.le_trans (Nat.mul_le_mul this (show componentBytes .double ≤ 8 by decide)) (by decide)
  · have ec : cA = dAr D 4 := ra_eq hKn.1 rfl (hK1.2 6 (cA, .double) rfl).2
    subst ec
    obtain ⟨r1, r2, r3⟩ := Rel.push (g := gArrD 4 n.toNat (fun _ => 0)) hall hP1 hD1
    exact kk q r2 r3 H1 locs LS r1 hS1 hL
theorem k_newq (S : Mach K KX D own mn cc nL dep mc ms hh rp) {n : Int} {idx : Nat} (d : decode cc pc = .ok (.anewarray idx, 3)) (hn : 0 ≤ n ∧ n ≤ 65536) (hw : Cond.classLink own idx "java/lang/Object" ∈ kwl) (hw2 : Cond.arrayOver (.object "java/lang/Object") ∈ kwl) (hc : a + 1 ≤ mc) (hs : b + n.toNat ≤ ms) (kk : ∀ q : Nat, h q = none → dLo D ≤ q → K (pc + 3) ls (gR (some q) :: st) (hput h q (gArrR 5 n.toNat (fun _ => none))) (a + 1) (b + n.toNat)) : K pc ls (gI n :: st) h a b := by
  obtain ⟨p, l, e, R, s, m, args, below, meth, c, Q, ⟨hx, hb, hown, hlk, hlD, hst, hKn, hmn⟩, hml, ⟨hRf, hRl, hRc, hRs⟩, htab, rfl, rfl, hrp⟩ := S
  intro H locs LS hR hS hL
  obtain ⟨ws, hP, hD, hall⟩ := hR
  refine va_newq (N' := n.toNat) hx hb hown (hKn.2.1 _ hw _) (va_AO.of (hKn.2.1 _ hw2 #[])) hKn.1 hP hD hS (fun q hq => Nat.le_trans hKn.2.2.2 hq) (fun z => ?_) (i32_clamp hn.1 (by omega)) (by omega) (by omega) (by omega) d fun q cA H1 hK1 hP1 hD1 hS1 => ?_
  · rw [show (0 : Int32) = Int32.ofInt 0 from rfl, i32_lt (by omega) (by omega)] at z
    omega
  · have ec : cA = dAr D 5 := ra_eq hKn.1 rfl (hK1.2 6 (cA, .object "java/lang/Object") rfl).2
    subst ec
    obtain ⟨r1, r2, r3⟩ := Rel.push (g := gArrR 5 n.toNat (fun _ => none)) hall hP1 hD1
    exact kk q r2 r3 H1 locs LS r1 hS1 hL
theorem k_new (S : Mach K KX D own mn cc nL dep mc ms hh rp) {idx ci N : Nat} {fs : List GV} (d : decode cc pc = .ok (.new idx, 3)) (hw : NW own idx ci N fs) (hc : a + 1 ≤ mc) (hs : b + N ≤ ms) (kk : ∀ q : Nat, h q = none → dLo D ≤ q → K (pc + 3) ls (gR (some q) :: st) (hput h q (gObj ci fs)) (a + 1) (b + N)) : K pc ls st h a b := by
  obtain ⟨p, l, e, R, s, m, args, below, meth, c, Q, ⟨hx, hb, hown, hlk, hlD, hst, hKn, hmn⟩, hml, ⟨hRf, hRl, hRc, hRs⟩, htab, rfl, rfl, hrp⟩ := S
  intro H locs LS hR hS hL
  obtain ⟨ws, hP, hD, hall⟩ := hR
  obtain ⟨C, T, ty, ⟨c1, c2, c3, c4⟩, w1, w2, w3, hfs⟩ := hw
  refine va_new (Ts := u_ws C T N) (fs := fs.map tv) hx hb (fun w hw => hKn.2.1 w (c2 w hw) args) (fun _ h => h) ty c3 hown (hKn.2.1 _ w1 _) (hKn.2.1 _ w2 _) (hKn.2.1 _ w3 _) hKn.1 hP hD hS (fun q hq => Nat.le_trans hKn.2.2.2 hq) c1 hfs (by omega) (by omega) d fun q H1 hP1 hD1 hS1 => ?_
  obtain ⟨r1, r2, r3⟩ := Rel.push (g := gObj ci fs) hall hP1 hD1
  exact kk q r2 r3 H1 locs LS r1 hS1 hL
theorem cats_le {R : Room} {dep : Nat} (hRl : 40 * dep ≤ R.locals) {st : List GV} (hst : (st.map gcat).sum ≤ 8) (hd : 1 ≤ dep) {k : Nat} (hk : k ≤ 32) : ((st.map tv).map fun v => v.category).sum + k ≤ R.locals := by
  rw [tv_cats]
  omega
theorem k_objInit (S : Mach K KX D own mn cc nL dep mc ms hh rp) {idx : Nat} {q : Nat} (d : decode cc pc = .ok (.invokespecial idx, 3)) (w1 : Cond.methodLink own idx Lib.objectInit ∈ kwl) (w2 : Cond.instanceMethod Lib.objectInit ∈ kwl) (w3 : Cond.code Lib.objectInit ⟨#[0xb1]⟩ 1 none ∈ kwl) (hd : 1 ≤ dep) (kk : K (pc + 3) ls st h a b) (hs9 : (st.map gcat).sum ≤ 8 := by decide) : K pc ls (gR (some q) :: st) h a b := by
  obtain ⟨p, l, e, R, s, m, args, below, meth, c, Q, ⟨hx, hb, hown, hlk, hlD, hst, hKn, hmn⟩, hml, ⟨hRf, hRl, hRc, hRs⟩, htab, rfl, rfl, hrp⟩ := S
  intro H locs LS hR hS hL
  refine W.objInit hx hb hown (hKn.2.1 _ w1 _) (hKn.2.1 _ w2 _) (hKn.2.1 _ w3 _) rfl (by rw [← hL.1]) rfl d (by omega) ?_ (kk H locs LS hR hS hL)
  have := cats_le hRl hs9 hd (k := 12) (by omega)
  simpa [JFrame.monitorRoom] using this
end RW2
end
section
theorem zz_1 : 1 = 1 := rfl
end
