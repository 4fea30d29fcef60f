section
-- ===== PART A: goes FIRST, ahead of the names: the tables' words, and 'selects' of the private methods out of them =====
/-- a private method of a class that the tables say can be made, by its rows of tables_1 -/
def lw_okq (q : MethodName × Nat) : Prop := (q.1.cls ≠ "java/lang/invoke/MethodHandle" ∧ q.1.cls ≠ "java/lang/invoke/VarHandle") ∧ Cond.instantiable q.1.cls q.2 ∈ tables_1 ∧ Cond.privateMethod q.1 ∈ tables_1 ∧ Cond.instanceMethod q.1 ∈ tables_1
theorem lw_p0 : lw_okq (⟨"HyphenPatterns", "startsWord", "(I)Z"⟩, 6) := ⟨⟨by decide +kernel, by decide +kernel⟩, List.mem_of_getElem? (i := 24) (by decide +kernel), List.mem_of_getElem? (i := 211) (by decide +kernel), List.mem_of_getElem? (i := 212) (by decide +kernel)⟩
theorem lw_p1 : lw_okq (⟨"HyphenPatterns", "isLetterAt", "(I)Z"⟩, 6) := ⟨⟨by decide +kernel, by decide +kernel⟩, List.mem_of_getElem? (i := 24) (by decide +kernel), List.mem_of_getElem? (i := 215) (by decide +kernel), List.mem_of_getElem? (i := 216) (by decide +kernel)⟩
theorem lw_p2 : lw_okq (⟨"HyphenPatterns", "wordEnd", "(I)I"⟩, 6) := ⟨⟨by decide +kernel, by decide +kernel⟩, List.mem_of_getElem? (i := 24) (by decide +kernel), List.mem_of_getElem? (i := 223) (by decide +kernel), List.mem_of_getElem? (i := 224) (by decide +kernel)⟩
theorem lw_p3 : lw_okq (⟨"HyphenPatterns", "countWords", "()I"⟩, 6) := ⟨⟨by decide +kernel, by decide +kernel⟩, List.mem_of_getElem? (i := 24) (by decide +kernel), List.mem_of_getElem? (i := 231) (by decide +kernel), List.mem_of_getElem? (i := 232) (by decide +kernel)⟩
theorem lw_p4 : lw_okq (⟨"HyphenPatterns", "countBreaks", "()I"⟩, 6) := ⟨⟨by decide +kernel, by decide +kernel⟩, List.mem_of_getElem? (i := 24) (by decide +kernel), List.mem_of_getElem? (i := 235) (by decide +kernel), List.mem_of_getElem? (i := 236) (by decide +kernel)⟩
theorem lw_p5 : lw_okq (⟨"HyphenPatterns", "readWord", "(I)V"⟩, 6) := ⟨⟨by decide +kernel, by decide +kernel⟩, List.mem_of_getElem? (i := 24) (by decide +kernel), List.mem_of_getElem? (i := 239) (by decide +kernel), List.mem_of_getElem? (i := 240) (by decide +kernel)⟩
theorem lw_p6 : lw_okq (⟨"HyphenPatterns$Reading", "lay", "(LHyphenPatterns$Rule;I)V"⟩, 5) := ⟨⟨by decide +kernel, by decide +kernel⟩, List.mem_of_getElem? (i := 76) (by decide +kernel), List.mem_of_getElem? (i := 279) (by decide +kernel), List.mem_of_getElem? (i := 280) (by decide +kernel)⟩
theorem lw_p7 : lw_okq (⟨"HyphenPatterns$Reading", "layEverywhere", "(LHyphenPatterns$Rule;)V"⟩, 5) := ⟨⟨by decide +kernel, by decide +kernel⟩, List.mem_of_getElem? (i := 76) (by decide +kernel), List.mem_of_getElem? (i := 287) (by decide +kernel), List.mem_of_getElem? (i := 288) (by decide +kernel)⟩
theorem lw_p8 : lw_okq (⟨"HyphenPatterns", "countMatches", "()I"⟩, 6) := ⟨⟨by decide +kernel, by decide +kernel⟩, List.mem_of_getElem? (i := 24) (by decide +kernel), List.mem_of_getElem? (i := 304) (by decide +kernel), List.mem_of_getElem? (i := 305) (by decide +kernel)⟩
theorem lw_p9 : lw_okq (⟨"java/lang/Throwable", "fillInStackTrace", "(I)Ljava/lang/Throwable;"⟩, 6) := ⟨⟨by decide +kernel, by decide +kernel⟩, List.mem_of_getElem? (i := 354) (by decide +kernel), List.mem_of_getElem? (i := 352) (by decide +kernel), List.mem_of_getElem? (i := 353) (by decide +kernel)⟩
theorem lw_p10 : lw_okq (⟨"HyphenPatterns$Numbers", "offer", "(IIIII)I"⟩, 4) := ⟨⟨by decide +kernel, by decide +kernel⟩, List.mem_of_getElem? (i := 34) (by decide +kernel), List.mem_of_getElem? (i := 453) (by decide +kernel), List.mem_of_getElem? (i := 454) (by decide +kernel)⟩
theorem lw_p11 : lw_okq (⟨"HyphenPatterns$Draft", "start", "()V"⟩, 3) := ⟨⟨by decide +kernel, by decide +kernel⟩, List.mem_of_getElem? (i := 58) (by decide +kernel), List.mem_of_getElem? (i := 478) (by decide +kernel), List.mem_of_getElem? (i := 479) (by decide +kernel)⟩
theorem lw_p12 : lw_okq (⟨"HyphenPatterns$Draft", "takeLetter", "(I)Z"⟩, 3) := ⟨⟨by decide +kernel, by decide +kernel⟩, List.mem_of_getElem? (i := 58) (by decide +kernel), List.mem_of_getElem? (i := 482) (by decide +kernel), List.mem_of_getElem? (i := 483) (by decide +kernel)⟩
theorem lw_p13 : lw_okq (⟨"HyphenPatterns$Draft", "takeValue", "(I)Z"⟩, 3) := ⟨⟨by decide +kernel, by decide +kernel⟩, List.mem_of_getElem? (i := 58) (by decide +kernel), List.mem_of_getElem? (i := 486) (by decide +kernel), List.mem_of_getElem? (i := 487) (by decide +kernel)⟩
theorem lw_p14 : lw_okq (⟨"HyphenPatterns$Draft", "hasLetter", "()Z"⟩, 3) := ⟨⟨by decide +kernel, by decide +kernel⟩, List.mem_of_getElem? (i := 58) (by decide +kernel), List.mem_of_getElem? (i := 490) (by decide +kernel), List.mem_of_getElem? (i := 491) (by decide +kernel)⟩
theorem lw_p15 : lw_okq (⟨"HyphenPatterns$Draft", "hasEdgeWithin", "()Z"⟩, 3) := ⟨⟨by decide +kernel, by decide +kernel⟩, List.mem_of_getElem? (i := 58) (by decide +kernel), List.mem_of_getElem? (i := 494) (by decide +kernel), List.mem_of_getElem? (i := 495) (by decide +kernel)⟩
def lw_privs_1 : List (MethodName × Nat) := [(⟨"HyphenPatterns", "startsWord", "(I)Z"⟩, 6), (⟨"HyphenPatterns", "isLetterAt", "(I)Z"⟩, 6), (⟨"HyphenPatterns", "wordEnd", "(I)I"⟩, 6), (⟨"HyphenPatterns", "countWords", "()I"⟩, 6), (⟨"HyphenPatterns", "countBreaks", "()I"⟩, 6), (⟨"HyphenPatterns", "readWord", "(I)V"⟩, 6), (⟨"HyphenPatterns$Reading", "lay", "(LHyphenPatterns$Rule;I)V"⟩, 5), (⟨"HyphenPatterns$Reading", "layEverywhere", "(LHyphenPatterns$Rule;)V"⟩, 5), (⟨"HyphenPatterns", "countMatches", "()I"⟩, 6), (⟨"java/lang/Throwable", "fillInStackTrace", "(I)Ljava/lang/Throwable;"⟩, 6), (⟨"HyphenPatterns$Numbers", "offer", "(IIIII)I"⟩, 4), (⟨"HyphenPatterns$Draft", "start", "()V"⟩, 3), (⟨"HyphenPatterns$Draft", "takeLetter", "(I)Z"⟩, 3), (⟨"HyphenPatterns$Draft", "takeValue", "(I)Z"⟩, 3), (⟨"HyphenPatterns$Draft", "hasLetter", "()Z"⟩, 3), (⟨"HyphenPatterns$Draft", "hasEdgeWithin", "()Z"⟩, 3)]
theorem lw_r1 : ∀ q ∈ lw_privs_1, lw_okq q := List.forall_mem_cons.mpr ⟨lw_p0, List.forall_mem_cons.mpr ⟨lw_p1, List.forall_mem_cons.mpr ⟨lw_p2, List.forall_mem_cons.mpr ⟨lw_p3, List.forall_mem_cons.mpr ⟨lw_p4, List.forall_mem_cons.mpr ⟨lw_p5, List.forall_mem_cons.mpr ⟨lw_p6, List.forall_mem_cons.mpr ⟨lw_p7, List.forall_mem_cons.mpr ⟨lw_p8, List.forall_mem_cons.mpr ⟨lw_p9, List.forall_mem_cons.mpr ⟨lw_p10, List.forall_mem_cons.mpr ⟨lw_p11, List.forall_mem_cons.mpr ⟨lw_p12, List.forall_mem_cons.mpr ⟨lw_p13, List.forall_mem_cons.mpr ⟨lw_p14, List.forall_mem_cons.mpr ⟨lw_p15, fun _ h => absurd h List.not_mem_nil⟩⟩⟩⟩⟩⟩⟩⟩⟩⟩⟩⟩⟩⟩⟩⟩
theorem lw_p16 : lw_okq (⟨"HyphenPatterns", "patternsInAll", "()I"⟩, 6) := ⟨⟨by decide +kernel, by decide +kernel⟩, List.mem_of_getElem? (i := 24) (by decide +kernel), List.mem_of_getElem? (i := 499) (by decide +kernel), List.mem_of_getElem? (i := 500) (by decide +kernel)⟩
theorem lw_p17 : lw_okq (⟨"HyphenPatterns", "keepDraft", "(Ljava/util/ArrayList;Z)I"⟩, 6) := ⟨⟨by decide +kernel, by decide +kernel⟩, List.mem_of_getElem? (i := 24) (by decide +kernel), List.mem_of_getElem? (i := 503) (by decide +kernel), List.mem_of_getElem? (i := 504) (by decide +kernel)⟩
theorem lw_p18 : lw_okq (⟨"java/util/ArrayList", "add", "(Ljava/lang/Object;[Ljava/lang/Object;I)V"⟩, 3) := ⟨⟨by decide +kernel, by decide +kernel⟩, List.mem_of_getElem? (i := 104) (by decide +kernel), List.mem_of_getElem? (i := 547) (by decide +kernel), List.mem_of_getElem? (i := 548) (by decide +kernel)⟩
theorem lw_p19 : lw_okq (⟨"java/util/ArrayList", "grow", "()[Ljava/lang/Object;"⟩, 3) := ⟨⟨by decide +kernel, by decide +kernel⟩, List.mem_of_getElem? (i := 104) (by decide +kernel), List.mem_of_getElem? (i := 551) (by decide +kernel), List.mem_of_getElem? (i := 552) (by decide +kernel)⟩
theorem lw_p20 : lw_okq (⟨"java/util/ArrayList", "grow", "(I)[Ljava/lang/Object;"⟩, 3) := ⟨⟨by decide +kernel, by decide +kernel⟩, List.mem_of_getElem? (i := 104) (by decide +kernel), List.mem_of_getElem? (i := 555) (by decide +kernel), List.mem_of_getElem? (i := 556) (by decide +kernel)⟩
theorem lw_p21 : lw_okq (⟨"HyphenPatterns", "exceptionsInAll", "()I"⟩, 6) := ⟨⟨by decide +kernel, by decide +kernel⟩, List.mem_of_getElem? (i := 24) (by decide +kernel), List.mem_of_getElem? (i := 609) (by decide +kernel), List.mem_of_getElem? (i := 610) (by decide +kernel)⟩
theorem lw_p22 : lw_okq (⟨"HyphenPatterns", "isWithinWord", "(I)Z"⟩, 6) := ⟨⟨by decide +kernel, by decide +kernel⟩, List.mem_of_getElem? (i := 24) (by decide +kernel), List.mem_of_getElem? (i := 628) (by decide +kernel), List.mem_of_getElem? (i := 629) (by decide +kernel)⟩
theorem lw_p23 : lw_okq (⟨"HyphenPatterns", "wordStart", "(I)I"⟩, 6) := ⟨⟨by decide +kernel, by decide +kernel⟩, List.mem_of_getElem? (i := 24) (by decide +kernel), List.mem_of_getElem? (i := 632) (by decide +kernel), List.mem_of_getElem? (i := 633) (by decide +kernel)⟩
theorem lw_p24 : lw_okq (⟨"HyphenPatternsModel", "refused", "(I)Z"⟩, 26) := ⟨⟨by decide +kernel, by decide +kernel⟩, List.mem_of_getElem? (i := 645) (by decide +kernel), List.mem_of_getElem? (i := 738) (by decide +kernel), List.mem_of_getElem? (i := 739) (by decide +kernel)⟩
theorem lw_p25 : lw_okq (⟨"HyphenPatternsModel", "keep", "(IIIII)V"⟩, 26) := ⟨⟨by decide +kernel, by decide +kernel⟩, List.mem_of_getElem? (i := 645) (by decide +kernel), List.mem_of_getElem? (i := 759) (by decide +kernel), List.mem_of_getElem? (i := 760) (by decide +kernel)⟩
theorem lw_p26 : lw_okq (⟨"HyphenPatternsModel", "given", "()I"⟩, 26) := ⟨⟨by decide +kernel, by decide +kernel⟩, List.mem_of_getElem? (i := 645) (by decide +kernel), List.mem_of_getElem? (i := 763) (by decide +kernel), List.mem_of_getElem? (i := 764) (by decide +kernel)⟩
theorem lw_p27 : lw_okq (⟨"HyphenPatternsModel", "isSound", "(II)Z"⟩, 26) := ⟨⟨by decide +kernel, by decide +kernel⟩, List.mem_of_getElem? (i := 645) (by decide +kernel), List.mem_of_getElem? (i := 767) (by decide +kernel), List.mem_of_getElem? (i := 768) (by decide +kernel)⟩
theorem lw_p28 : lw_okq (⟨"HyphenPatternsModel", "isPattern", "()Z"⟩, 26) := ⟨⟨by decide +kernel, by decide +kernel⟩, List.mem_of_getElem? (i := 645) (by decide +kernel), List.mem_of_getElem? (i := 779) (by decide +kernel), List.mem_of_getElem? (i := 780) (by decide +kernel)⟩
theorem lw_p29 : lw_okq (⟨"HyphenPatternsModel", "readRow", "()Z"⟩, 26) := ⟨⟨by decide +kernel, by decide +kernel⟩, List.mem_of_getElem? (i := 645) (by decide +kernel), List.mem_of_getElem? (i := 783) (by decide +kernel), List.mem_of_getElem? (i := 784) (by decide +kernel)⟩
theorem lw_p30 : lw_okq (⟨"HyphenPatternsModel", "findPattern", "()I"⟩, 26) := ⟨⟨by decide +kernel, by decide +kernel⟩, List.mem_of_getElem? (i := 645) (by decide +kernel), List.mem_of_getElem? (i := 787) (by decide +kernel), List.mem_of_getElem? (i := 788) (by decide +kernel)⟩
theorem lw_p31 : lw_okq (⟨"HyphenPatternsModel", "isException", "()Z"⟩, 26) := ⟨⟨by decide +kernel, by decide +kernel⟩, List.mem_of_getElem? (i := 645) (by decide +kernel), List.mem_of_getElem? (i := 795) (by decide +kernel), List.mem_of_getElem? (i := 796) (by decide +kernel)⟩
def lw_privs_2 : List (MethodName × Nat) := [(⟨"HyphenPatterns", "patternsInAll", "()I"⟩, 6), (⟨"HyphenPatterns", "keepDraft", "(Ljava/util/ArrayList;Z)I"⟩, 6), (⟨"java/util/ArrayList", "add", "(Ljava/lang/Object;[Ljava/lang/Object;I)V"⟩, 3), (⟨"java/util/ArrayList", "grow", "()[Ljava/lang/Object;"⟩, 3), (⟨"java/util/ArrayList", "grow", "(I)[Ljava/lang/Object;"⟩, 3), (⟨"HyphenPatterns", "exceptionsInAll", "()I"⟩, 6), (⟨"HyphenPatterns", "isWithinWord", "(I)Z"⟩, 6), (⟨"HyphenPatterns", "wordStart", "(I)I"⟩, 6), (⟨"HyphenPatternsModel", "refused", "(I)Z"⟩, 26), (⟨"HyphenPatternsModel", "keep", "(IIIII)V"⟩, 26), (⟨"HyphenPatternsModel", "given", "()I"⟩, 26), (⟨"HyphenPatternsModel", "isSound", "(II)Z"⟩, 26), (⟨"HyphenPatternsModel", "isPattern", "()Z"⟩, 26), (⟨"HyphenPatternsModel", "readRow", "()Z"⟩, 26), (⟨"HyphenPatternsModel", "findPattern", "()I"⟩, 26), (⟨"HyphenPatternsModel", "isException", "()Z"⟩, 26)]
theorem lw_r2 : ∀ q ∈ lw_privs_2, lw_okq q := List.forall_mem_cons.mpr ⟨lw_p16, List.forall_mem_cons.mpr ⟨lw_p17, List.forall_mem_cons.mpr ⟨lw_p18, List.forall_mem_cons.mpr ⟨lw_p19, List.forall_mem_cons.mpr ⟨lw_p20, List.forall_mem_cons.mpr ⟨lw_p21, List.forall_mem_cons.mpr ⟨lw_p22, List.forall_mem_cons.mpr ⟨lw_p23, List.forall_mem_cons.mpr ⟨lw_p24, List.forall_mem_cons.mpr ⟨lw_p25, List.forall_mem_cons.mpr ⟨lw_p26, List.forall_mem_cons.mpr ⟨lw_p27, List.forall_mem_cons.mpr ⟨lw_p28, List.forall_mem_cons.mpr ⟨lw_p29, List.forall_mem_cons.mpr ⟨lw_p30, List.forall_mem_cons.mpr ⟨lw_p31, fun _ h => absurd h List.not_mem_nil⟩⟩⟩⟩⟩⟩⟩⟩⟩⟩⟩⟩⟩⟩⟩⟩
theorem lw_p32 : lw_okq (⟨"HyphenPatternsModel", "findException", "()I"⟩, 26) := ⟨⟨by decide +kernel, by decide +kernel⟩, List.mem_of_getElem? (i := 645) (by decide +kernel), List.mem_of_getElem? (i := 799) (by decide +kernel), List.mem_of_getElem? (i := 800) (by decide +kernel)⟩
theorem lw_p33 : lw_okq (⟨"HyphenPatternsModel", "movePattern", "(II)V"⟩, 26) := ⟨⟨by decide +kernel, by decide +kernel⟩, List.mem_of_getElem? (i := 645) (by decide +kernel), List.mem_of_getElem? (i := 807) (by decide +kernel), List.mem_of_getElem? (i := 808) (by decide +kernel)⟩
theorem lw_p34 : lw_okq (⟨"HyphenPatternsModel", "moveException", "(II)V"⟩, 26) := ⟨⟨by decide +kernel, by decide +kernel⟩, List.mem_of_getElem? (i := 645) (by decide +kernel), List.mem_of_getElem? (i := 811) (by decide +kernel), List.mem_of_getElem? (i := 812) (by decide +kernel)⟩
theorem lw_p35 : lw_okq (⟨"HyphenPatternsModel", "isPlace", "(I)Z"⟩, 26) := ⟨⟨by decide +kernel, by decide +kernel⟩, List.mem_of_getElem? (i := 645) (by decide +kernel), List.mem_of_getElem? (i := 827) (by decide +kernel), List.mem_of_getElem? (i := 828) (by decide +kernel)⟩
theorem lw_p36 : lw_okq (⟨"HyphenPatternsModel", "valueOf", "(I)I"⟩, 26) := ⟨⟨by decide +kernel, by decide +kernel⟩, List.mem_of_getElem? (i := 645) (by decide +kernel), List.mem_of_getElem? (i := 831) (by decide +kernel), List.mem_of_getElem? (i := 832) (by decide +kernel)⟩
theorem lw_p37 : lw_okq (⟨"HyphenPatternsModel", "isWithin", "(I)Z"⟩, 26) := ⟨⟨by decide +kernel, by decide +kernel⟩, List.mem_of_getElem? (i := 645) (by decide +kernel), List.mem_of_getElem? (i := 835) (by decide +kernel), List.mem_of_getElem? (i := 836) (by decide +kernel)⟩
theorem lw_p38 : lw_okq (⟨"HyphenPatternsModel", "isLetter", "(I)Z"⟩, 26) := ⟨⟨by decide +kernel, by decide +kernel⟩, List.mem_of_getElem? (i := 645) (by decide +kernel), List.mem_of_getElem? (i := 839) (by decide +kernel), List.mem_of_getElem? (i := 840) (by decide +kernel)⟩
theorem lw_p39 : lw_okq (⟨"HyphenPatternsModel", "letterOf", "(I)I"⟩, 26) := ⟨⟨by decide +kernel, by decide +kernel⟩, List.mem_of_getElem? (i := 645) (by decide +kernel), List.mem_of_getElem? (i := 843) (by decide +kernel), List.mem_of_getElem? (i := 844) (by decide +kernel)⟩
theorem lw_p40 : lw_okq (⟨"HyphenPatternsModel", "begin", "(I)I"⟩, 26) := ⟨⟨by decide +kernel, by decide +kernel⟩, List.mem_of_getElem? (i := 645) (by decide +kernel), List.mem_of_getElem? (i := 847) (by decide +kernel), List.mem_of_getElem? (i := 848) (by decide +kernel)⟩
theorem lw_p41 : lw_okq (⟨"HyphenPatternsModel", "end", "(I)I"⟩, 26) := ⟨⟨by decide +kernel, by decide +kernel⟩, List.mem_of_getElem? (i := 645) (by decide +kernel), List.mem_of_getElem? (i := 851) (by decide +kernel), List.mem_of_getElem? (i := 852) (by decide +kernel)⟩
theorem lw_p42 : lw_okq (⟨"HyphenPatternsModel", "wordValue", "(III)I"⟩, 26) := ⟨⟨by decide +kernel, by decide +kernel⟩, List.mem_of_getElem? (i := 645) (by decide +kernel), List.mem_of_getElem? (i := 855) (by decide +kernel), List.mem_of_getElem? (i := 856) (by decide +kernel)⟩
theorem lw_p43 : lw_okq (⟨"HyphenPatternsModel", "exceptionFor", "(II)I"⟩, 26) := ⟨⟨by decide +kernel, by decide +kernel⟩, List.mem_of_getElem? (i := 645) (by decide +kernel), List.mem_of_getElem? (i := 859) (by decide +kernel), List.mem_of_getElem? (i := 860) (by decide +kernel)⟩
theorem lw_p44 : lw_okq (⟨"HyphenPatternsModel", "letterAt", "(I)I"⟩, 26) := ⟨⟨by decide +kernel, by decide +kernel⟩, List.mem_of_getElem? (i := 645) (by decide +kernel), List.mem_of_getElem? (i := 863) (by decide +kernel), List.mem_of_getElem? (i := 864) (by decide +kernel)⟩
theorem lw_p45 : lw_okq (⟨"HyphenPatternsModel", "isAt", "(IIII)Z"⟩, 26) := ⟨⟨by decide +kernel, by decide +kernel⟩, List.mem_of_getElem? (i := 645) (by decide +kernel), List.mem_of_getElem? (i := 867) (by decide +kernel), List.mem_of_getElem? (i := 868) (by decide +kernel)⟩
theorem lw_p46 : lw_okq (⟨"HyphenPatternsModel", "isBroken", "(I)Z"⟩, 26) := ⟨⟨by decide +kernel, by decide +kernel⟩, List.mem_of_getElem? (i := 645) (by decide +kernel), List.mem_of_getElem? (i := 875) (by decide +kernel), List.mem_of_getElem? (i := 876) (by decide +kernel)⟩
theorem lw_p47 : lw_okq (⟨"HyphenPatternsModel", "words", "()I"⟩, 26) := ⟨⟨by decide +kernel, by decide +kernel⟩, List.mem_of_getElem? (i := 645) (by decide +kernel), List.mem_of_getElem? (i := 887) (by decide +kernel), List.mem_of_getElem? (i := 888) (by decide +kernel)⟩
def lw_privs_3 : List (MethodName × Nat) := [(⟨"HyphenPatternsModel", "findException", "()I"⟩, 26), (⟨"HyphenPatternsModel", "movePattern", "(II)V"⟩, 26), (⟨"HyphenPatternsModel", "moveException", "(II)V"⟩, 26), (⟨"HyphenPatternsModel", "isPlace", "(I)Z"⟩, 26), (⟨"HyphenPatternsModel", "valueOf", "(I)I"⟩, 26), (⟨"HyphenPatternsModel", "isWithin", "(I)Z"⟩, 26), (⟨"HyphenPatternsModel", "isLetter", "(I)Z"⟩, 26), (⟨"HyphenPatternsModel", "letterOf", "(I)I"⟩, 26), (⟨"HyphenPatternsModel", "begin", "(I)I"⟩, 26), (⟨"HyphenPatternsModel", "end", "(I)I"⟩, 26), (⟨"HyphenPatternsModel", "wordValue", "(III)I"⟩, 26), (⟨"HyphenPatternsModel", "exceptionFor", "(II)I"⟩, 26), (⟨"HyphenPatternsModel", "letterAt", "(I)I"⟩, 26), (⟨"HyphenPatternsModel", "isAt", "(IIII)Z"⟩, 26), (⟨"HyphenPatternsModel", "isBroken", "(I)Z"⟩, 26), (⟨"HyphenPatternsModel", "words", "()I"⟩, 26)]
theorem lw_r3 : ∀ q ∈ lw_privs_3, lw_okq q := List.forall_mem_cons.mpr ⟨lw_p32, List.forall_mem_cons.mpr ⟨lw_p33, List.forall_mem_cons.mpr ⟨lw_p34, List.forall_mem_cons.mpr ⟨lw_p35, List.forall_mem_cons.mpr ⟨lw_p36, List.forall_mem_cons.mpr ⟨lw_p37, List.forall_mem_cons.mpr ⟨lw_p38, List.forall_mem_cons.mpr ⟨lw_p39, List.forall_mem_cons.mpr ⟨lw_p40, List.forall_mem_cons.mpr ⟨lw_p41, List.forall_mem_cons.mpr ⟨lw_p42, List.forall_mem_cons.mpr ⟨lw_p43, List.forall_mem_cons.mpr ⟨lw_p44, List.forall_mem_cons.mpr ⟨lw_p45, List.forall_mem_cons.mpr ⟨lw_p46, List.forall_mem_cons.mpr ⟨lw_p47, fun _ h => absurd h List.not_mem_nil⟩⟩⟩⟩⟩⟩⟩⟩⟩⟩⟩⟩⟩⟩⟩⟩
theorem lw_p48 : lw_okq (⟨"HyphenPatternsModel", "brokenPlaces", "()I"⟩, 26) := ⟨⟨by decide +kernel, by decide +kernel⟩, List.mem_of_getElem? (i := 645) (by decide +kernel), List.mem_of_getElem? (i := 891) (by decide +kernel), List.mem_of_getElem? (i := 892) (by decide +kernel)⟩
theorem lw_p49 : lw_okq (⟨"HyphenPatternsModel", "times", "()I"⟩, 26) := ⟨⟨by decide +kernel, by decide +kernel⟩, List.mem_of_getElem? (i := 645) (by decide +kernel), List.mem_of_getElem? (i := 895) (by decide +kernel), List.mem_of_getElem? (i := 896) (by decide +kernel)⟩
theorem lw_p50 : lw_okq (⟨"HyphenPatternsModel", "timesIn", "(II)I"⟩, 26) := ⟨⟨by decide +kernel, by decide +kernel⟩, List.mem_of_getElem? (i := 645) (by decide +kernel), List.mem_of_getElem? (i := 899) (by decide +kernel), List.mem_of_getElem? (i := 900) (by decide +kernel)⟩
theorem lw_p51 : lw_okq (⟨"HyphenPatternsModel", "rowsOf", "(Z)I"⟩, 26) := ⟨⟨by decide +kernel, by decide +kernel⟩, List.mem_of_getElem? (i := 645) (by decide +kernel), List.mem_of_getElem? (i := 903) (by decide +kernel), List.mem_of_getElem? (i := 904) (by decide +kernel)⟩
def lw_privs_4 : List (MethodName × Nat) := [(⟨"HyphenPatternsModel", "brokenPlaces", "()I"⟩, 26), (⟨"HyphenPatternsModel", "times", "()I"⟩, 26), (⟨"HyphenPatternsModel", "timesIn", "(II)I"⟩, 26), (⟨"HyphenPatternsModel", "rowsOf", "(Z)I"⟩, 26)]
theorem lw_r4 : ∀ q ∈ lw_privs_4, lw_okq q := List.forall_mem_cons.mpr ⟨lw_p48, List.forall_mem_cons.mpr ⟨lw_p49, List.forall_mem_cons.mpr ⟨lw_p50, List.forall_mem_cons.mpr ⟨lw_p51, fun _ h => absurd h List.not_mem_nil⟩⟩⟩⟩
def lw_privs : List (MethodName × Nat) := lw_privs_1 ++ (lw_privs_2 ++ (lw_privs_3 ++ (lw_privs_4)))
def lw_tbl : List Cond := k2_sels lw_privs ++ tables_1
theorem lw_privs_ok : ∀ q ∈ lw_privs, lw_okq q := by
  show ∀ q ∈ lw_privs_1 ++ (lw_privs_2 ++ (lw_privs_3 ++ (lw_privs_4))), lw_okq q
  exact List.forall_mem_append.mpr ⟨lw_r1, List.forall_mem_append.mpr ⟨lw_r2, List.forall_mem_append.mpr ⟨lw_r3, lw_r4⟩⟩⟩
-- ===== end of PART A; then your names; then what follows =====
end
section
/-! THE PLAIN MACHINE: worlds as lists, references as places in them; a method is a function from points to next points; how a world lies in the heap. -/
/-- a cell: an object (class number, fields) or an array (kind number, places); a reference in it is a place in the list -/
abbrev hy_C : Type := (Nat × List Value) ⊕ (Nat × List Value)
/-- a world: its cells (place 0 is the JDK's own empty array), how many cells and slots may still be made -/
abbrev hy_W : Type := List hy_C × Nat × Nat
/-- how a method ends: with an answer, or with a thrown object of that class -/
abbrev hy_R : Type := Option Value ⊕ String
abbrev hy_O : Type := hy_R × hy_W
/-- a point: the pc, the values of the locals and of the stack (top first), the world -/
abbrev hy_P : Type := Nat × List Value × hy_W
abbrev hy_N : Type := hy_P ⊕ hy_O
def hy_it (f : hy_P → Option hy_N) : Nat → hy_P → Option hy_O
  | 0, _ => none
  | n + 1, q => match f q with
    | none => none
    | some (.inl q') => hy_it f n q'
    | some (.inr o) => some o
theorem hy_it_succ {f : hy_P → Option hy_N} {o : hy_O} : ∀ {n : Nat} {q : hy_P}, hy_it f n q = some o → hy_it f (n + 1) q = some o
  | 0, q, h => by cases h
  | n + 1, q, h => by
    rw [hy_it] at h ⊢
    cases hf : f q with
    | none => rw [hf] at h; cases h
    | some x =>
      rw [hf] at h
      cases x with
      | inl q' => exact hy_it_succ (n := n) h
      | inr o' => exact h
theorem hy_it_le {f : hy_P → Option hy_N} {o : hy_O} {n m : Nat} {q : hy_P} (h : hy_it f n q = some o) (hm : n ≤ m) : hy_it f m q = some o := by
  induction hm with
  | refl => exact h
  | step _ ih => exact hy_it_succ ih
theorem hy_it_det {f : hy_P → Option hy_N} {o o' : hy_O} {n m : Nat} {q : hy_P} (h : hy_it f n q = some o) (h' : hy_it f m q = some o') : o = o' :=
  Option.some.inj ((hy_it_le h (Nat.le_max_left n m)).symm.trans (hy_it_le h' (Nat.le_max_right n m)))
/-- where the points lead in the end -/
noncomputable def hy_fx (f : hy_P → Option hy_N) (q : hy_P) : Option hy_O :=
  @dite _ (∃ o n, hy_it f n q = some o) (Classical.propDecidable _) (fun h => some h.choose) (fun _ => none)
theorem hy_fx_iff {f : hy_P → Option hy_N} {q : hy_P} {o : hy_O} : hy_fx f q = some o ↔ ∃ n, hy_it f n q = some o := by
  unfold hy_fx
  constructor
  · intro h
    split at h
    · rename_i hq
      obtain ⟨n, hn⟩ := hq.choose_spec
      exact ⟨n, by rw [hn]; exact h⟩
    · cases h
  · rintro ⟨n, hn⟩
    have hq : ∃ o n, hy_it f n q = some o := ⟨o, n, hn⟩
    rw [dif_pos hq]
    obtain ⟨n', hn'⟩ := hq.choose_spec
    rw [hy_it_det hn' hn]
theorem hy_fx_to {f : hy_P → Option hy_N} {q q' : hy_P} (h : f q = some (.inl q')) : hy_fx f q = hy_fx f q' := by
  apply Option.ext
  intro o
  rw [hy_fx_iff, hy_fx_iff]
  constructor
  · rintro ⟨n, hn⟩
    cases n with
    | zero => cases hn
    | succ n =>
      rw [hy_it, h] at hn
      exact ⟨n, hn⟩
  · rintro ⟨n, hn⟩
    refine ⟨n + 1, ?_⟩
    rw [hy_it, h]
    exact hn
theorem hy_fx_end {f : hy_P → Option hy_N} {q : hy_P} {o : hy_O} (h : f q = some (.inr o)) : hy_fx f q = some o :=
  hy_fx_iff.mpr ⟨1, by rw [hy_it, h]⟩
-- reading and writing
def hy_gi (w : hy_W) (k ci j : Nat) : Option Int32 := match w.1[k]? with
  | some (.inl (c, fs)) => if c = ci then (match fs[j]? with
    | some (.int x) => some x
    | _ => none) else none
  | _ => none
def hy_gr (w : hy_W) (k ci j : Nat) : Option Nat := match w.1[k]? with
  | some (.inl (c, fs)) => if c = ci then (match fs[j]? with
    | some (.ref x) => some x
    | _ => none) else none
  | _ => none
/-- a field is written: an int, or a reference to a cell of the world -/
def hy_pf (w : hy_W) (k ci j : Nat) (v : Value) : Option hy_W := match w.1[k]? with
  | some (.inl (c, fs)) => if c = ci ∧ j < fs.length ∧ 0 < k then some (w.1.set k (.inl (c, fs.set j v)), w.2) else none
  | _ => none
/-- an index into n places -/
def hy_ix (i : Int32) (n : Nat) : Bool := decide (0 ≤ i) && decide (i.toNatClampNeg < n)
def hy_ai (w : hy_W) (k : Nat) (i : Int32) : Option Int32 := match w.1[k]? with
  | some (.inr (0, es)) => if hy_ix i es.length = true ∧ 0 < k then (match es[i.toNatClampNeg]? with
    | some (.int x) => some x
    | _ => none) else none
  | _ => none
def hy_al (w : hy_W) (k : Nat) (i : Int32) : Option Int64 := match w.1[k]? with
  | some (.inr (1, es)) => if hy_ix i es.length = true ∧ 0 < k then (match es[i.toNatClampNeg]? with
    | some (.long x) => some x
    | _ => none) else none
  | _ => none
/-- a reference out of an array of references (kinds 2 and 3) -/
def hy_ar (w : hy_W) (t k : Nat) (i : Int32) : Option Nat := match w.1[k]? with
  | some (.inr (u, es)) => if u = t ∧ hy_ix i es.length = true ∧ 0 < k then (match es[i.toNatClampNeg]? with
    | some (.ref x) => some x
    | _ => none) else none
  | _ => none
/-- a place of an array of kind t is written -/
def hy_pa (w : hy_W) (t k : Nat) (i : Int32) (v : Value) : Option hy_W := match w.1[k]? with
  | some (.inr (u, es)) => if u = t ∧ hy_ix i es.length = true ∧ 0 < k then some (w.1.set k (.inr (u, es.set i.toNatClampNeg v)), w.2) else none
  | _ => none
def hy_ln (w : hy_W) (t k : Nat) : Option Nat := match w.1[k]? with
  | some (.inr (u, es)) => if u = t then some es.length else none
  | _ => none
/-- a new cell of n slots -/
def hy_nw (w : hy_W) (c : hy_C) (n : Nat) : Option hy_W := if 1 ≤ w.2.1 ∧ n ≤ w.2.2 then some (w.1 ++ [c], w.2.1 - 1, w.2.2 - n) else none
/-- a thrown object -/
def hy_th (w : hy_W) : Option hy_W := if 1 ≤ w.2.1 ∧ 6 ≤ w.2.2 then some (w.1, w.2.1 - 1, w.2.2 - 6) else none
-- how a world lies in the heap
def hy_v (ad : Nat → Nat) (v : Value) : Value := match v with
  | .ref k => .ref (ad k)
  | u => u
theorem hy_v_int (ad : Nat → Nat) (x : Int32) : hy_v ad (.int x) = .int x := rfl
theorem hy_v_ref (ad : Nat → Nat) (k : Nat) : hy_v ad (.ref k) = .ref (ad k) := rfl
theorem hy_v_long (ad : Nat → Nat) (x : Int64) : hy_v ad (.long x) = .long x := rfl
def hy_oi (v : Value) : Int32 := match v with
  | .int x => x
  | _ => 0
def hy_ol (v : Value) : Int64 := match v with
  | .long x => x
  | _ => 0
def hy_or (ad : Nat → Nat) (v : Value) : Option Nat := match v with
  | .ref k => some (ad k)
  | _ => none
def hy_a (ad : Nat → Nat) (t : Nat) (es : List Value) : (Nat → Int32) ⊕ (Nat → Int64) ⊕ (Nat → UInt32) ⊕ (Nat → UInt64) ⊕ (Nat → Option Nat) := match t with
  | 0 => .inl (fun j => hy_oi (es.getD j .null))
  | 1 => .inr (.inl (fun j => hy_ol (es.getD j .null)))
  | _ => .inr (.inr (.inr (.inr (fun j => hy_or ad (es.getD j .null)))))
def hy_e (dA : Nat → ClassId) (ad : Nat → Nat) (c : hy_C) : va_E := match c with
  | .inl (ci, fs) => .inr (ci, fs.map (hy_v ad))
  | .inr (t, es) => .inl (dA t, es.length, hy_a ad t es)
/-- the cells behind place 0, each at its address -/
def hy_ws (dA : Nat → ClassId) (ad : Nat → Nat) (cs : List hy_C) : va_W := (cs.mapIdx (fun k c => (ad k, hy_e dA ad c))).drop 1
theorem hy_ws_get {dA : Nat → ClassId} {ad : Nat → Nat} {cs : List hy_C} {k : Nat} {c : hy_C} (h : cs[k + 1]? = some c) : (hy_ws dA ad cs)[k]? = some (ad (k + 1), hy_e dA ad c) := by
  rw [hy_ws, List.getElem?_drop, List.getElem?_mapIdx, Nat.add_comm 1 k, h]
  rfl
theorem hy_ws_of {dA : Nat → ClassId} {ad : Nat → Nat} {cs : List hy_C} {k : Nat} {q : Nat × va_E} (h : (hy_ws dA ad cs)[k]? = some q) : ∃ c, cs[k + 1]? = some c ∧ q = (ad (k + 1), hy_e dA ad c) := by
  rw [hy_ws, List.getElem?_drop, List.getElem?_mapIdx, Nat.add_comm 1 k] at h
  cases hc : cs[k + 1]? with
  | none => rw [hc] at h; cases h
  | some c =>
    rw [hc] at h
    exact ⟨c, rfl, (Option.some.inj h).symm⟩
theorem hy_ws_ext {a b : va_W} (h : ∀ k : Nat, a[k]? = b[k]?) : a = b := List.ext_getElem? h
theorem hy_ws_none {dA : Nat → ClassId} {ad : Nat → Nat} {cs : List hy_C} {k : Nat} (h : cs[k + 1]? = none) : (hy_ws dA ad cs)[k]? = none := by
  rw [hy_ws, List.getElem?_drop, List.getElem?_mapIdx, Nat.add_comm 1 k, h]
  rfl
theorem hy_ws_set {dA : Nat → ClassId} {ad : Nat → Nat} {cs : List hy_C} {k : Nat} (c : hy_C) : hy_ws dA ad (cs.set (k + 1) c) = (hy_ws dA ad cs).set k (ad (k + 1), hy_e dA ad c) := by
  refine hy_ws_ext fun j => ?_
  rw [List.getElem?_set]
  by_cases hj : k = j
  · subst hj
    rw [if_pos rfl]
    by_cases hl : k + 1 < cs.length
    · rw [hy_ws_get (c := c) (by rw [List.getElem?_set, if_pos rfl, if_pos hl]), if_pos]
      rw [hy_ws, List.length_drop, List.length_mapIdx]
      omega
    · rw [hy_ws_none (by rw [List.getElem?_set, if_pos rfl, if_neg hl]), if_neg]
      rw [hy_ws, List.length_drop, List.length_mapIdx]
      omega
  · rw [if_neg hj]
    cases hc : cs[j + 1]? with
    | none => rw [hy_ws_none hc, hy_ws_none (by rw [List.getElem?_set, if_neg (by omega)]; exact hc)]
    | some d => rw [hy_ws_get hc, hy_ws_get (by rw [List.getElem?_set, if_neg (by omega)]; exact hc)]
theorem hy_ws_push {dA : Nat → ClassId} {ad : Nat → Nat} {cs : List hy_C} (hc : 0 < cs.length) (c : hy_C) : hy_ws dA ad (cs ++ [c]) = hy_ws dA ad cs ++ [(ad cs.length, hy_e dA ad c)] := by
  refine hy_ws_ext fun j => ?_
  have hl : (hy_ws dA ad cs).length = cs.length - 1 := by rw [hy_ws, List.length_drop, List.length_mapIdx]
  rw [List.getElem?_append]
  by_cases h1 : j < cs.length - 1
  · rw [if_pos (by omega)]
    have hj : j + 1 < cs.length := by omega
    have e1 : cs[j + 1]? = some cs[j + 1] := List.getElem?_eq_getElem hj
    rw [hy_ws_get e1, hy_ws_get (c := cs[j + 1]) (by rw [List.getElem?_append, if_pos hj]; exact e1)]
  · rw [if_neg (by omega), hl]
    by_cases h2 : j + 1 = cs.length
    · rw [hy_ws_get (c := c) (by rw [List.getElem?_append, if_neg (by omega), h2]; simp), show j - (cs.length - 1) = 0 by omega, ← h2]
      rfl
    · rw [hy_ws_none (by rw [List.getElem?_append, if_neg (by omega)]; rw [List.getElem?_eq_none]; simp; omega), List.getElem?_eq_none]
      simp; omega
/-- all references of a world lead into it -/
def hy_cv (n : Nat) (v : Value) : Prop := ∀ k, v = .ref k → k < n
def hy_cc (n : Nat) (c : hy_C) : Prop := match c with
  | .inl (_, fs) => ∀ v ∈ fs, hy_cv n v
  | .inr (_, es) => ∀ v ∈ es, hy_cv n v
def hy_cl (cs : List hy_C) : Prop := ∀ c ∈ cs, hy_cc cs.length c
theorem hy_v_eq {ad ad' : Nat → Nat} {n : Nat} (h : ∀ j, j < n → ad' j = ad j) {v : Value} (hv : hy_cv n v) : hy_v ad' v = hy_v ad v := by
  cases v with
  | ref k => rw [hy_v_ref, hy_v_ref, h k (hv k rfl)]
  | _ => rfl
theorem hy_e_eq {dA : Nat → ClassId} {ad ad' : Nat → Nat} {n : Nat} (h : ∀ j, j < n → ad' j = ad j) {c : hy_C} (hc : hy_cc n c) : hy_e dA ad' c = hy_e dA ad c := by
  cases c with
  | inl o =>
    obtain ⟨ci, fs⟩ := o
    show (Sum.inr (ci, fs.map (hy_v ad')) : va_E) = _
    rw [List.map_congr_left fun v hv => hy_v_eq h (hc v hv)]
    rfl
  | inr o =>
    obtain ⟨t, es⟩ := o
    have ho : ∀ j, hy_or ad' (es.getD j .null) = hy_or ad (es.getD j .null) := by
      intro j
      rw [List.getD_eq_getElem?_getD]
      cases hj : es[j]? with
      | none => rfl
      | some v =>
        have := hc v (List.mem_of_getElem? hj)
        cases v with
        | ref k => simp [hy_or, h k (this k rfl)]
        | _ => rfl
    match t with
    | 0 => rfl
    | 1 => rfl
    | t + 2 => simp only [hy_e, hy_a, ho]
theorem hy_ws_eq {dA : Nat → ClassId} {ad ad' : Nat → Nat} {cs : List hy_C} {n : Nat} (h : ∀ j, j < n → ad' j = ad j) (hn : cs.length ≤ n) (hc : ∀ c ∈ cs, hy_cc n c) : hy_ws dA ad' cs = hy_ws dA ad cs := by
  refine hy_ws_ext fun j => ?_
  cases hj : cs[j + 1]? with
  | none => rw [hy_ws_none hj, hy_ws_none hj]
  | some c =>
    have hl := (List.getElem?_eq_some_iff.mp hj).1
    rw [hy_ws_get hj, hy_ws_get hj, hy_e_eq h (hc c (List.mem_of_getElem? hj)), h (j + 1) (by omega)]
theorem hy_cc_le {n m : Nat} (h : n ≤ m) {c : hy_C} (hc : hy_cc n c) : hy_cc m c := by
  cases c with
  | inl o => exact fun v hv k e => Nat.lt_of_lt_of_le (hc v hv k e) h
  | inr o => exact fun v hv k e => Nat.lt_of_lt_of_le (hc v hv k e) h
end
