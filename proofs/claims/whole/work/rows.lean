section
-- ===== PART A: goes FIRST, ahead of the names: the tables' words, and 'selects' of the private methods out of them =====
/-- a private method of a class that the tables say can be made, by its rows of tables_1 -/
def lw_okq (q : MethodName × Nat) : Prop := (q.1.cls ≠ "java/lang/invoke/MethodHandle" ∧ q.1.cls ≠ "java/lang/invoke/VarHandle") ∧ Cond.instantiable q.1.cls q.2 ∈ tables_1 ∧ Cond.privateMethod q.1 ∈ tables_1 ∧ Cond.instanceMethod q.1 ∈ tables_1
theorem lw_p0 : lw_okq (⟨"HyphenPatterns", "startsWord", "(I)Z"⟩, 6) := ⟨⟨by decide +kernel, by decide +kernel⟩, List.mem_of_getElem? (i := 24) (by decide +kernel), List.mem_of_getElem? (i := 211) (by decide +kernel), List.mem_of_getElem? (i := 212) (by decide +kernel)⟩
theorem lw_p1 : lw_okq (⟨"HyphenPatterns", "isLetterAt", "(I)Z"⟩, 6) := ⟨⟨by decide +kernel, by decide +kernel⟩, List.mem_of_getElem? (i := 24) (by decide +kernel), List.mem_of_getElem? (i := 215) (by decide +kernel), List.mem_of_getElem? (i := 216) (by decide +kernel)⟩
theorem lw_p2 : lw_okq (⟨"HyphenPatterns", "wordEnd", "(I)I"⟩, 6) := ⟨⟨by decide +kernel, by decide +kernel⟩, List.mem_of_getElem? (i := 24) (by decide +kernel), List.mem_of_getElem? (i := 223) (by decide +kernel), List.mem_of_getElem? (i := 224) (by decide +kernel)⟩
theorem lw_p3 : lw_okq (⟨"HyphenPatterns", "countWords", "()I"⟩, 6) := ⟨⟨by decide +kernel, by decide +kernel⟩, List.mem_of_getElem? (i := 24) (by decide +kernel), List.mem_of_getElem? (i := 231) (by decide +kernel), List.mem_of_getElem? (i := 232) (by decide +kernel)⟩
theorem lw_p4 : lw_okq (⟨"HyphenPatterns", "countBreaks", "()I"⟩, 6) := ⟨⟨by decide +kernel, by decide +kernel⟩, List.mem_of_getElem? (i := 24) (by decide +kernel), List.mem_of_getElem? (i := 235) (by decide +kernel), List.mem_of_getElem? (i := 236) (by decide +kernel)⟩
theorem lw_p5 : lw_okq (⟨"HyphenPatterns", "readWord", "(I)V"⟩, 6) := ⟨⟨by decide +kernel, by decide +kernel⟩, List.mem_of_getElem? (i := 24) (by decide +kernel), List.mem_of_getElem? (i := 239) (by decide +kernel), List.mem_of_getElem? (i := 240) (by decide +kernel)⟩
theorem lw_p6 : lw_okq (⟨"HyphenPatterns$Reading", "lay", "(LHyphenPatterns$Rule;I)V"⟩, 5) := ⟨⟨by decide +kernel, by decide +kernel⟩, List.mem_of_getElem? (i := 76) (by decide +kernel), List.mem_of_getElem? (i := 279) (by decide +kernel), List.mem_of_getElem? (i := 280) (by decide +kernel)⟩
theorem lw_p7 : lw_okq (⟨"HyphenPatterns$Reading", "layEverywhere", "(LHyphenPatterns$Rule;)V"⟩, 5) := ⟨⟨by decide +kernel, by decide +kernel⟩, List.mem_of_getElem? (i := 76) (by decide +kernel), List.mem_of_getElem? (i := 287) (by decide +kernel), List.mem_of_getElem? (i := 288) (by decide +kernel)⟩
theorem lw_p8 : lw_okq (⟨"HyphenPatterns", "countMatches", "()I"⟩, 6) := ⟨⟨by decide +kernel, by decide +kernel⟩, List.mem_of_getElem? (i := 24) (by decide +kernel), List.mem_of_getElem? (i := 304) (by decide +kernel), List.mem_of_getElem? (i := 305) (by decide +kernel)⟩
theorem lw_p9 : lw_okq (⟨"java/lang/Throwable", "fillInStackTrace", "(I)Ljava/lang/Throwable;"⟩, 6) := ⟨⟨by decide +kernel, by decide +kernel⟩, List.mem_of_getElem? (i := 354) (by decide +kernel), List.mem_of_getElem? (i := 352) (by decide +kernel), List.mem_of_getElem? (i := 353) (by decide +kernel)⟩
theorem lw_p10 : lw_okq (⟨"HyphenPatterns$Numbers", "offer", "(IIIII)I"⟩, 4) := ⟨⟨by decide +kernel, by decide +kernel⟩, List.mem_of_getElem? (i := 34) (by decide +kernel), List.mem_of_getElem? (i := 453) (by decide +kernel), List.mem_of_getElem? (i := 454) (by decide +kernel)⟩
theorem lw_p11 : lw_okq (⟨"HyphenPatterns$Draft", "start", "()V"⟩, 3) := ⟨⟨by decide +kernel, by decide +kernel⟩, List.mem_of_getElem? (i := 58) (by decide +kernel), List.mem_of_getElem? (i := 478) (by decide +kernel), List.mem_of_getElem? (i := 479) (by decide +kernel)⟩
theorem lw_p12 : lw_okq (⟨"HyphenPatterns$Draft", "takeLetter", "(I)Z"⟩, 3) := ⟨⟨by decide +kernel, by decide +kernel⟩, List.mem_of_getElem? (i := 58) (by decide +kernel), List.mem_of_getElem? (i := 482) (by decide +kernel), List.mem_of_getElem? (i := 483) (by decide +kernel)⟩
theorem lw_p13 : lw_okq (⟨"HyphenPatterns$Draft", "takeValue", "(I)Z"⟩, 3) := ⟨⟨by decide +kernel, by decide +kernel⟩, List.mem_of_getElem? (i := 58) (by decide +kernel), List.mem_of_getElem? (i := 486) (by decide +kernel), List.mem_of_getElem? (i := 487) (by decide +kernel)⟩
theorem lw_p14 : lw_okq (⟨"HyphenPatterns$Draft", "hasLetter", "()Z"⟩, 3) := ⟨⟨by decide +kernel, by decide +kernel⟩, List.mem_of_getElem? (i := 58) (by decide +kernel), List.mem_of_getElem? (i := 490) (by decide +kernel), List.mem_of_getElem? (i := 491) (by decide +kernel)⟩
theorem lw_p15 : lw_okq (⟨"HyphenPatterns$Draft", "hasEdgeWithin", "()Z"⟩, 3) := ⟨⟨by decide +kernel, by decide +kernel⟩, List.mem_of_getElem? (i := 58) (by decide +kernel), List.mem_of_getElem? (i := 494) (by decide +kernel), List.mem_of_getElem? (i := 495) (by decide +kernel)⟩
def lw_privs_1 : List (MethodName × Nat) := [(⟨"HyphenPatterns", "startsWord", "(I)Z"⟩, 6), (⟨"HyphenPatterns", "isLetterAt", "(I)Z"⟩, 6), (⟨"HyphenPatterns", "wordEnd", "(I)I"⟩, 6), (⟨"HyphenPatterns", "countWords", "()I"⟩, 6), (⟨"HyphenPatterns", "countBreaks", "()I"⟩, 6), (⟨"HyphenPatterns", "readWord", "(I)V"⟩, 6), (⟨"HyphenPatterns$Reading", "lay", "(LHyphenPatterns$Rule;I)V"⟩, 5), (⟨"HyphenPatterns$Reading", "layEverywhere", "(LHyphenPatterns$Rule;)V"⟩, 5), (⟨"HyphenPatterns", "countMatches", "()I"⟩, 6), (⟨"java/lang/Throwable", "fillInStackTrace", "(I)Ljava/lang/Throwable;"⟩, 6), (⟨"HyphenPatterns$Numbers", "offer", "(IIIII)I"⟩, 4), (⟨"HyphenPatterns$Draft", "start", "()V"⟩, 3), (⟨"HyphenPatterns$Draft", "takeLetter", "(I)Z"⟩, 3), (⟨"HyphenPatterns$Draft", "takeValue", "(I)Z"⟩, 3), (⟨"HyphenPatterns$Draft", "hasLetter", "()Z"⟩, 3), (⟨"HyphenPatterns$Draft", "hasEdgeWithin", "()Z"⟩, 3)]
theorem lw_r1 : ∀ q ∈ lw_privs_1, lw_okq q := List.forall_mem_cons.mpr ⟨lw_p0, List.forall_mem_cons.mpr ⟨lw_p1, List.forall_mem_cons.mpr ⟨lw_p2, List.forall_mem_cons.mpr ⟨lw_p3, List.forall_mem_cons.mpr ⟨lw_p4, List.forall_mem_cons.mpr ⟨lw_p5, List.forall_mem_cons.mpr ⟨lw_p6, List.forall_mem_cons.mpr ⟨lw_p7, List.forall_mem_cons.mpr ⟨lw_p8, List.forall_mem_cons.mpr ⟨lw_p9, List.forall_mem_cons.mpr ⟨lw_p10, List.forall_mem_cons.mpr ⟨lw_p11, List.forall_mem_cons.mpr ⟨lw_p12, List.forall_mem_cons.mpr ⟨lw_p13, List.forall_mem_cons.mpr ⟨lw_p14, List.forall_mem_cons.mpr ⟨lw_p15, fun _ h => absurd h List.not_mem_nil⟩⟩⟩⟩⟩⟩⟩⟩⟩⟩⟩⟩⟩⟩⟩⟩
theorem lw_p16 : lw_okq (⟨"HyphenPatterns", "patternsInAll", "()I"⟩, 6) := ⟨⟨by decide +kernel, by decide +kernel⟩, List.mem_of_getElem? (i := 24) (by decide +kernel), List.mem_of_getElem? (i := 499) (by decide +kernel), List.mem_of_getElem? (i := 500) (by decide +kernel)⟩
theorem lw_p17 : lw_okq (⟨"HyphenPatterns", "keepDraft", "(Ljava/util/ArrayList;Z)I"⟩, 6) := ⟨⟨by decide +kernel, by decide +kernel⟩, List.mem_of_getElem? (i := 24) (by decide +kernel), List.mem_of_getElem? (i := 503) (by decide +kernel), List.mem_of_getElem? (i := 504) (by decide +kernel)⟩
theorem lw_p18 : lw_okq (⟨"java/util/ArrayList", "add", "(Ljava/lang/Object;[Ljava/lang/Object;I)V"⟩, 3) := ⟨⟨by decide +kernel, by decide +kernel⟩, List.mem_of_getElem? (i := 104) (by decide +kernel), List.mem_of_getElem? (i := 547) (by decide +kernel), List.mem_of_getElem? (i := 548) (by decide +kernel)⟩
theorem lw_p19 : lw_okq (⟨"java/util/ArrayList", "grow", "()[Ljava/lang/Object;"⟩, 3) := ⟨⟨by decide +kernel, by decide +kernel⟩, List.mem_of_getElem? (i := 104) (by decide +kernel), List.mem_of_getElem? (i := 551) (by decide +kernel), List.mem_of_getElem? (i := 552) (by decide +kernel)⟩
theorem lw_p20 : lw_okq (⟨"java/util/ArrayList", "grow", "(I)[Ljava/lang/Object;"⟩, 3) := ⟨⟨by decide +kernel, by decide +kernel⟩, List.mem_of_getElem? (i := 104) (by decide +kernel), List.mem_of_getElem? (i := 555) (by decide +kernel), List.mem_of_getElem? (i := 556) (by decide +kernel)⟩
theorem lw_p21 : lw_okq (⟨"HyphenPatterns", "exceptionsInAll", "()I"⟩, 6) := ⟨⟨by decide +kernel, by decide +kernel⟩, List.mem_of_getElem? (i := 24) (by decide +kernel), List.mem_of_getElem? (i := 609) (by decide +kernel), List.mem_of_getElem? (i := 610) (by decide +kernel)⟩
theorem lw_p22 : lw_okq (⟨"HyphenPatterns", "isWithinWord", "(I)Z"⟩, 6) := ⟨⟨by decide +kernel, by decide +kernel⟩, List.mem_of_getElem? (i := 24) (by decide +kernel), List.mem_of_getElem? (i := 628) (by decide +kernel), List.mem_of_getElem? (i := 629) (by decide +kernel)⟩
theorem lw_p23 : lw_okq (⟨"HyphenPatterns", "wordStart", "(I)I"⟩, 6) := ⟨⟨by decide +kernel, by decide +kernel⟩, List.mem_of_getElem? (i := 24) (by decide +kernel), List.mem_of_getElem? (i := 632) (by decide +kernel), List.mem_of_getElem? (i := 633) (by decide +kernel)⟩
theorem lw_p24 : lw_okq (⟨"HyphenPatternsModel", "refused", "(I)Z"⟩, 26) := ⟨⟨by decide +kernel, by decide +kernel⟩, List.mem_of_getElem? (i := 645) (by decide +kernel), List.mem_of_getElem? (i := 738) (by decide +kernel), List.mem_of_getElem? (i := 739) (by decide +kernel)⟩
theorem lw_p25 : lw_okq (⟨"HyphenPatternsModel", "keep", "(IIIII)V"⟩, 26) := ⟨⟨by decide +kernel, by decide +kernel⟩, List.mem_of_getElem? (i := 645) (by decide +kernel), List.mem_of_getElem? (i := 759) (by decide +kernel), List.mem_of_getElem? (i := 760) (by decide +kernel)⟩
theorem lw_p26 : lw_okq (⟨"HyphenPatternsModel", "given", "()I"⟩, 26) := ⟨⟨by decide +kernel, by decide +kernel⟩, List.mem_of_getElem? (i := 645) (by decide +kernel), List.mem_of_getElem? (i := 763) (by decide +kernel), List.mem_of_getElem? (i := 764) (by decide +kernel)⟩
theorem lw_p27 : lw_okq (⟨"HyphenPatternsModel", "isSound", "(II)Z"⟩, 26) := ⟨⟨by decide +kernel, by decide +kernel⟩, List.mem_of_getElem? (i := 645) (by decide +kernel), List.mem_of_getElem? (i := 767) (by decide +kernel), List.mem_of_getElem? (i := 768) (by decide +kernel)⟩
theorem lw_p28 : lw_okq (⟨"HyphenPatternsModel", "isPattern", "()Z"⟩, 26) := ⟨⟨by decide +kernel, by decide +kernel⟩, List.mem_of_getElem? (i := 645) (by decide +kernel), List.mem_of_getElem? (i := 779) (by decide +kernel), List.mem_of_getElem? (i := 780) (by decide +kernel)⟩
theorem lw_p29 : lw_okq (⟨"HyphenPatternsModel", "readRow", "()Z"⟩, 26) := ⟨⟨by decide +kernel, by decide +kernel⟩, List.mem_of_getElem? (i := 645) (by decide +kernel), List.mem_of_getElem? (i := 783) (by decide +kernel), List.mem_of_getElem? (i := 784) (by decide +kernel)⟩
theorem lw_p30 : lw_okq (⟨"HyphenPatternsModel", "findPattern", "()I"⟩, 26) := ⟨⟨by decide +kernel, by decide +kernel⟩, List.mem_of_getElem? (i := 645) (by decide +kernel), List.mem_of_getElem? (i := 787) (by decide +kernel), List.mem_of_getElem? (i := 788) (by decide +kernel)⟩
theorem lw_p31 : lw_okq (⟨"HyphenPatternsModel", "isException", "()Z"⟩, 26) := ⟨⟨by decide +kernel, by decide +kernel⟩, List.mem_of_getElem? (i := 645) (by decide +kernel), List.mem_of_getElem? (i := 795) (by decide +kernel), List.mem_of_getElem? (i := 796) (by decide +kernel)⟩
def lw_privs_2 : List (MethodName × Nat) := [(⟨"HyphenPatterns", "patternsInAll", "()I"⟩, 6), (⟨"HyphenPatterns", "keepDraft", "(Ljava/util/ArrayList;Z)I"⟩, 6), (⟨"java/util/ArrayList", "add", "(Ljava/lang/Object;[Ljava/lang/Object;I)V"⟩, 3), (⟨"java/util/ArrayList", "grow", "()[Ljava/lang/Object;"⟩, 3), (⟨"java/util/ArrayList", "grow", "(I)[Ljava/lang/Object;"⟩, 3), (⟨"HyphenPatterns", "exceptionsInAll", "()I"⟩, 6), (⟨"HyphenPatterns", "isWithinWord", "(I)Z"⟩, 6), (⟨"HyphenPatterns", "wordStart", "(I)I"⟩, 6), (⟨"HyphenPatternsModel", "refused", "(I)Z"⟩, 26), (⟨"HyphenPatternsModel", "keep", "(IIIII)V"⟩, 26), (⟨"HyphenPatternsModel", "given", "()I"⟩, 26), (⟨"HyphenPatternsModel", "isSound", "(II)Z"⟩, 26), (⟨"HyphenPatternsModel", "isPattern", "()Z"⟩, 26), (⟨"HyphenPatternsModel", "readRow", "()Z"⟩, 26), (⟨"HyphenPatternsModel", "findPattern", "()I"⟩, 26), (⟨"HyphenPatternsModel", "isException", "()Z"⟩, 26)]
theorem lw_r2 : ∀ q ∈ lw_privs_2, lw_okq q := List.forall_mem_cons.mpr ⟨lw_p16, List.forall_mem_cons.mpr ⟨lw_p17, List.forall_mem_cons.mpr ⟨lw_p18, List.forall_mem_cons.mpr ⟨lw_p19, List.forall_mem_cons.mpr ⟨lw_p20, List.forall_mem_cons.mpr ⟨lw_p21, List.forall_mem_cons.mpr ⟨lw_p22, List.forall_mem_cons.mpr ⟨lw_p23, List.forall_mem_cons.mpr ⟨lw_p24, List.forall_mem_cons.mpr ⟨lw_p25, List.forall_mem_cons.mpr ⟨lw_p26, List.forall_mem_cons.mpr ⟨lw_p27, List.forall_mem_cons.mpr ⟨lw_p28, List.forall_mem_cons.mpr ⟨lw_p29, List.forall_mem_cons.mpr ⟨lw_p30, List.forall_mem_cons.mpr ⟨lw_p31, fun _ h => absurd h List.not_mem_nil⟩⟩⟩⟩⟩⟩⟩⟩⟩⟩⟩⟩⟩⟩⟩⟩
theorem lw_p32 : lw_okq (⟨"HyphenPatternsModel", "findException", "()I"⟩, 26) := ⟨⟨by decide +kernel, by decide +kernel⟩, List.mem_of_getElem? (i := 645) (by decide +kernel), List.mem_of_getElem? (i := 799) (by decide +kernel), List.mem_of_getElem? (i := 800) (by decide +kernel)⟩
theorem lw_p33 : lw_okq (⟨"HyphenPatternsModel", "movePattern", "(II)V"⟩, 26) := ⟨⟨by decide +kernel, by decide +kernel⟩, List.mem_of_getElem? (i := 645) (by decide +kernel), List.mem_of_getElem? (i := 807) (by decide +kernel), List.mem_of_getElem? (i := 808) (by decide +kernel)⟩
theorem lw_p34 : lw_okq (⟨"HyphenPatternsModel", "moveException", "(II)V"⟩, 26) := ⟨⟨by decide +kernel, by decide +kernel⟩, List.mem_of_getElem? (i := 645) (by decide +kernel), List.mem_of_getElem? (i := 811) (by decide +kernel), List.mem_of_getElem? (i := 812) (by decide +kernel)⟩
theorem lw_p35 : lw_okq (⟨"HyphenPatternsModel", "isPlace", "(I)Z"⟩, 26) := ⟨⟨by decide +kernel, by decide +kernel⟩, List.mem_of_getElem? (i := 645) (by decide +kernel), List.mem_of_getElem? (i := 827) (by decide +kernel), List.mem_of_getElem? (i := 828) (by decide +kernel)⟩
theorem lw_p36 : lw_okq (⟨"HyphenPatternsModel", "valueOf", "(I)I"⟩, 26) := ⟨⟨by decide +kernel, by decide +kernel⟩, List.mem_of_getElem? (i := 645) (by decide +kernel), List.mem_of_getElem? (i := 831) (by decide +kernel), List.mem_of_getElem? (i := 832) (by decide +kernel)⟩
theorem lw_p37 : lw_okq (⟨"HyphenPatternsModel", "isWithin", "(I)Z"⟩, 26) := ⟨⟨by decide +kernel, by decide +kernel⟩, List.mem_of_getElem? (i := 645) (by decide +kernel), List.mem_of_getElem? (i := 835) (by decide +kernel), List.mem_of_getElem? (i := 836) (by decide +kernel)⟩
theorem lw_p38 : lw_okq (⟨"HyphenPatternsModel", "isLetter", "(I)Z"⟩, 26) := ⟨⟨by decide +kernel, by decide +kernel⟩, List.mem_of_getElem? (i := 645) (by decide +kernel), List.mem_of_getElem? (i := 839) (by decide +kernel), List.mem_of_getElem? (i := 840) (by decide +kernel)⟩
theorem lw_p39 : lw_okq (⟨"HyphenPatternsModel", "letterOf", "(I)I"⟩, 26) := ⟨⟨by decide +kernel, by decide +kernel⟩, List.mem_of_getElem? (i := 645) (by decide +kernel), List.mem_of_getElem? (i := 843) (by decide +kernel), List.mem_of_getElem? (i := 844) (by decide +kernel)⟩
theorem lw_p40 : lw_okq (⟨"HyphenPatternsModel", "begin", "(I)I"⟩, 26) := ⟨⟨by decide +kernel, by decide +kernel⟩, List.mem_of_getElem? (i := 645) (by decide +kernel), List.mem_of_getElem? (i := 847) (by decide +kernel), List.mem_of_getElem? (i := 848) (by decide +kernel)⟩
theorem lw_p41 : lw_okq (⟨"HyphenPatternsModel", "end", "(I)I"⟩, 26) := ⟨⟨by decide +kernel, by decide +kernel⟩, List.mem_of_getElem? (i := 645) (by decide +kernel), List.mem_of_getElem? (i := 851) (by decide +kernel), List.mem_of_getElem? (i := 852) (by decide +kernel)⟩
theorem lw_p42 : lw_okq (⟨"HyphenPatternsModel", "wordValue", "(III)I"⟩, 26) := ⟨⟨by decide +kernel, by decide +kernel⟩, List.mem_of_getElem? (i := 645) (by decide +kernel), List.mem_of_getElem? (i := 855) (by decide +kernel), List.mem_of_getElem? (i := 856) (by decide +kernel)⟩
theorem lw_p43 : lw_okq (⟨"HyphenPatternsModel", "exceptionFor", "(II)I"⟩, 26) := ⟨⟨by decide +kernel, by decide +kernel⟩, List.mem_of_getElem? (i := 645) (by decide +kernel), List.mem_of_getElem? (i := 859) (by decide +kernel), List.mem_of_getElem? (i := 860) (by decide +kernel)⟩
theorem lw_p44 : lw_okq (⟨"HyphenPatternsModel", "letterAt", "(I)I"⟩, 26) := ⟨⟨by decide +kernel, by decide +kernel⟩, List.mem_of_getElem? (i := 645) (by decide +kernel), List.mem_of_getElem? (i := 863) (by decide +kernel), List.mem_of_getElem? (i := 864) (by decide +kernel)⟩
theorem lw_p45 : lw_okq (⟨"HyphenPatternsModel", "isAt", "(IIII)Z"⟩, 26) := ⟨⟨by decide +kernel, by decide +kernel⟩, List.mem_of_getElem? (i := 645) (by decide +kernel), List.mem_of_getElem? (i := 867) (by decide +kernel), List.mem_of_getElem? (i := 868) (by decide +kernel)⟩
theorem lw_p46 : lw_okq (⟨"HyphenPatternsModel", "isBroken", "(I)Z"⟩, 26) := ⟨⟨by decide +kernel, by decide +kernel⟩, List.mem_of_getElem? (i := 645) (by decide +kernel), List.mem_of_getElem? (i := 875) (by decide +kernel), List.mem_of_getElem? (i := 876) (by decide +kernel)⟩
theorem lw_p47 : lw_okq (⟨"HyphenPatternsModel", "words", "()I"⟩, 26) := ⟨⟨by decide +kernel, by decide +kernel⟩, List.mem_of_getElem? (i := 645) (by decide +kernel), List.mem_of_getElem? (i := 887) (by decide +kernel), List.mem_of_getElem? (i := 888) (by decide +kernel)⟩
def lw_privs_3 : List (MethodName × Nat) := [(⟨"HyphenPatternsModel", "findException", "()I"⟩, 26), (⟨"HyphenPatternsModel", "movePattern", "(II)V"⟩, 26), (⟨"HyphenPatternsModel", "moveException", "(II)V"⟩, 26), (⟨"HyphenPatternsModel", "isPlace", "(I)Z"⟩, 26), (⟨"HyphenPatternsModel", "valueOf", "(I)I"⟩, 26), (⟨"HyphenPatternsModel", "isWithin", "(I)Z"⟩, 26), (⟨"HyphenPatternsModel", "isLetter", "(I)Z"⟩, 26), (⟨"HyphenPatternsModel", "letterOf", "(I)I"⟩, 26), (⟨"HyphenPatternsModel", "begin", "(I)I"⟩, 26), (⟨"HyphenPatternsModel", "end", "(I)I"⟩, 26), (⟨"HyphenPatternsModel", "wordValue", "(III)I"⟩, 26), (⟨"HyphenPatternsModel", "exceptionFor", "(II)I"⟩, 26), (⟨"HyphenPatternsModel", "letterAt", "(I)I"⟩, 26), (⟨"HyphenPatternsModel", "isAt", "(IIII)Z"⟩, 26), (⟨"HyphenPatternsModel", "isBroken", "(I)Z"⟩, 26), (⟨"HyphenPatternsModel", "words", "()I"⟩, 26)]
theorem lw_r3 : ∀ q ∈ lw_privs_3, lw_okq q := List.forall_mem_cons.mpr ⟨lw_p32, List.forall_mem_cons.mpr ⟨lw_p33, List.forall_mem_cons.mpr ⟨lw_p34, List.forall_mem_cons.mpr ⟨lw_p35, List.forall_mem_cons.mpr ⟨lw_p36, List.forall_mem_cons.mpr ⟨lw_p37, List.forall_mem_cons.mpr ⟨lw_p38, List.forall_mem_cons.mpr ⟨lw_p39, List.forall_mem_cons.mpr ⟨lw_p40, List.forall_mem_cons.mpr ⟨lw_p41, List.forall_mem_cons.mpr ⟨lw_p42, List.forall_mem_cons.mpr ⟨lw_p43, List.forall_mem_cons.mpr ⟨lw_p44, List.forall_mem_cons.mpr ⟨lw_p45, List.forall_mem_cons.mpr ⟨lw_p46, List.forall_mem_cons.mpr ⟨lw_p47, fun _ h => absurd h List.not_mem_nil⟩⟩⟩⟩⟩⟩⟩⟩⟩⟩⟩⟩⟩⟩⟩⟩
theorem lw_p48 : lw_okq (⟨"HyphenPatternsModel", "brokenPlaces", "()I"⟩, 26) := ⟨⟨by decide +kernel, by decide +kernel⟩, List.mem_of_getElem? (i := 645) (by decide +kernel), List.mem_of_getElem? (i := 891) (by decide +kernel), List.mem_of_getElem? (i := 892) (by decide +kernel)⟩
theorem lw_p49 : lw_okq (⟨"HyphenPatternsModel", "times", "()I"⟩, 26) := ⟨⟨by decide +kernel, by decide +kernel⟩, List.mem_of_getElem? (i := 645) (by decide +kernel), List.mem_of_getElem? (i := 895) (by decide +kernel), List.mem_of_getElem? (i := 896) (by decide +kernel)⟩
theorem lw_p50 : lw_okq (⟨"HyphenPatternsModel", "timesIn", "(II)I"⟩, 26) := ⟨⟨by decide +kernel, by decide +kernel⟩, List.mem_of_getElem? (i := 645) (by decide +kernel), List.mem_of_getElem? (i := 899) (by decide +kernel), List.mem_of_getElem? (i := 900) (by decide +kernel)⟩
theorem lw_p51 : lw_okq (⟨"HyphenPatternsModel", "rowsOf", "(Z)I"⟩, 26) := ⟨⟨by decide +kernel, by decide +kernel⟩, List.mem_of_getElem? (i := 645) (by decide +kernel), List.mem_of_getElem? (i := 903) (by decide +kernel), List.mem_of_getElem? (i := 904) (by decide +kernel)⟩
def lw_privs_4 : List (MethodName × Nat) := [(⟨"HyphenPatternsModel", "brokenPlaces", "()I"⟩, 26), (⟨"HyphenPatternsModel", "times", "()I"⟩, 26), (⟨"HyphenPatternsModel", "timesIn", "(II)I"⟩, 26), (⟨"HyphenPatternsModel", "rowsOf", "(Z)I"⟩, 26)]
theorem lw_r4 : ∀ q ∈ lw_privs_4, lw_okq q := List.forall_mem_cons.mpr ⟨lw_p48, List.forall_mem_cons.mpr ⟨lw_p49, List.forall_mem_cons.mpr ⟨lw_p50, List.forall_mem_cons.mpr ⟨lw_p51, fun _ h => absurd h List.not_mem_nil⟩⟩⟩⟩
def lw_privs : List (MethodName × Nat) := lw_privs_1 ++ (lw_privs_2 ++ (lw_privs_3 ++ (lw_privs_4)))
def lw_tbl : List Cond := k2_sels lw_privs ++ tables_1
theorem lw_privs_ok : ∀ q ∈ lw_privs, lw_okq q := by
  show ∀ q ∈ lw_privs_1 ++ (lw_privs_2 ++ (lw_privs_3 ++ (lw_privs_4))), lw_okq q
  exact List.forall_mem_append.mpr ⟨lw_r1, List.forall_mem_append.mpr ⟨lw_r2, List.forall_mem_append.mpr ⟨lw_r3, lw_r4⟩⟩⟩
-- ===== end of PART A; then your names; then what follows =====
end
section
/-! NAMES: classes and their fields, the words of the tables by their places, the methods (a program of ours wrote this part out of the tables) -/
def hy_T : List Cond := lw_tbl.filter goodWord
theorem hy_T_tab {w : Cond} (h : w ∈ tables_1) (hg : goodWord w = true) : w ∈ hy_T := List.mem_filter.mpr ⟨List.mem_append_right _ h, hg⟩
theorem hy_T_sel {w : Cond} (h : w ∈ k2_sels lw_privs) (hg : goodWord w = true) : w ∈ hy_T := List.mem_filter.mpr ⟨List.mem_append_left _ h, hg⟩
def R_0 : String := "HyphenPatterns$Draft"
def F_0 : u_T := fun k => match k with
  | 0 => ("HyphenPatterns$Draft", "spelling", "[I", true)
  | 1 => ("HyphenPatterns$Draft", "values", "[I", true)
  | _ => ("HyphenPatterns$Draft", "size", "I", false)
def t_0 : Nat → FieldType := fun k => match k with
  | 0 => .array .int
  | 1 => .array .int
  | _ => .int
theorem n_0 : ∀ a, a < 3 → ∀ b, b < 3 → a ≠ b → (F_0 a).2.1 ≠ (F_0 b).2.1 := by decide +kernel
theorem t_0_ok : ∀ k, k < 3 → parseFieldDescriptor (F_0 k).2.2.1 = some (t_0 k) := by decide +kernel
def R_1 : String := "HyphenPatterns$Language"
def F_1 : u_T := fun k => match k with
  | 0 => ("HyphenPatterns$Language", "firsts", "[I", true)
  | 1 => ("HyphenPatterns$Language", "lasts", "[I", true)
  | 2 => ("HyphenPatterns$Language", "targets", "[I", true)
  | 3 => ("HyphenPatterns$Language", "patterns", "Ljava/util/ArrayList;", true)
  | 4 => ("HyphenPatterns$Language", "exceptions", "Ljava/util/ArrayList;", true)
  | 5 => ("HyphenPatterns$Language", "ranges", "I", false)
  | 6 => ("HyphenPatterns$Language", "left", "I", false)
  | _ => ("HyphenPatterns$Language", "right", "I", false)
def t_1 : Nat → FieldType := fun k => match k with
  | 0 => .array .int
  | 1 => .array .int
  | 2 => .array .int
  | 3 => .object "java/util/ArrayList"
  | 4 => .object "java/util/ArrayList"
  | 5 => .int
  | 6 => .int
  | _ => .int
theorem n_1 : ∀ a, a < 8 → ∀ b, b < 8 → a ≠ b → (F_1 a).2.1 ≠ (F_1 b).2.1 := by decide +kernel
theorem t_1_ok : ∀ k, k < 8 → parseFieldDescriptor (F_1 k).2.2.1 = some (t_1 k) := by decide +kernel
def R_2 : String := "HyphenPatterns$Numbers"
def F_2 : u_T := fun k => match k with
  | 0 => ("HyphenPatterns$Numbers", "numbers", "[I", true)
  | 1 => ("HyphenPatterns$Numbers", "lowest", "I", true)
  | 2 => ("HyphenPatterns$Numbers", "offered", "[I", true)
  | _ => ("HyphenPatterns$Numbers", "size", "I", false)
def t_2 : Nat → FieldType := fun k => match k with
  | 0 => .array .int
  | 1 => .int
  | 2 => .array .int
  | _ => .int
theorem n_2 : ∀ a, a < 4 → ∀ b, b < 4 → a ≠ b → (F_2 a).2.1 ≠ (F_2 b).2.1 := by decide +kernel
theorem t_2_ok : ∀ k, k < 4 → parseFieldDescriptor (F_2 k).2.2.1 = some (t_2 k) := by decide +kernel
def R_3 : String := "HyphenPatterns$Reading"
def F_3 : u_T := fun k => match k with
  | 0 => ("HyphenPatterns$Reading", "spelled", "[I", true)
  | 1 => ("HyphenPatterns$Reading", "weights", "[I", true)
  | 2 => ("HyphenPatterns$Reading", "start", "I", false)
  | 3 => ("HyphenPatterns$Reading", "length", "I", false)
  | _ => ("HyphenPatterns$Reading", "matches", "I", false)
def t_3 : Nat → FieldType := fun k => match k with
  | 0 => .array .int
  | 1 => .array .int
  | 2 => .int
  | 3 => .int
  | _ => .int
theorem n_3 : ∀ a, a < 5 → ∀ b, b < 5 → a ≠ b → (F_3 a).2.1 ≠ (F_3 b).2.1 := by decide +kernel
theorem t_3_ok : ∀ k, k < 5 → parseFieldDescriptor (F_3 k).2.2.1 = some (t_3 k) := by decide +kernel
def R_4 : String := "HyphenPatterns$Rule"
def F_4 : u_T := fun k => match k with
  | 0 => ("HyphenPatterns$Rule", "spelling", "[I", true)
  | _ => ("HyphenPatterns$Rule", "values", "[I", true)
def t_4 : Nat → FieldType := fun k => match k with
  | 0 => .array .int
  | _ => .array .int
theorem n_4 : ∀ a, a < 2 → ∀ b, b < 2 → a ≠ b → (F_4 a).2.1 ≠ (F_4 b).2.1 := by decide +kernel
theorem t_4_ok : ∀ k, k < 2 → parseFieldDescriptor (F_4 k).2.2.1 = some (t_4 k) := by decide +kernel
def R_5 : String := "HyphenPatterns"
def F_5 : u_T := fun k => match k with
  | 0 => ("HyphenPatterns", "languages", "[LHyphenPatterns$Language;", true)
  | 1 => ("HyphenPatterns", "telling", "LHyphenPatterns$Numbers;", true)
  | 2 => ("HyphenPatterns", "text", "LHyphenPatterns$Numbers;", true)
  | 3 => ("HyphenPatterns", "draft", "LHyphenPatterns$Draft;", true)
  | 4 => ("HyphenPatterns", "reading", "LHyphenPatterns$Reading;", true)
  | _ => ("HyphenPatterns", "chosen", "I", false)
def t_5 : Nat → FieldType := fun k => match k with
  | 0 => .array (.object "HyphenPatterns$Language")
  | 1 => .object "HyphenPatterns$Numbers"
  | 2 => .object "HyphenPatterns$Numbers"
  | 3 => .object "HyphenPatterns$Draft"
  | 4 => .object "HyphenPatterns$Reading"
  | _ => .int
theorem n_5 : ∀ a, a < 6 → ∀ b, b < 6 → a ≠ b → (F_5 a).2.1 ≠ (F_5 b).2.1 := by decide +kernel
theorem t_5_ok : ∀ k, k < 6 → parseFieldDescriptor (F_5 k).2.2.1 = some (t_5 k) := by decide +kernel
def R_6 : String := "HyphenPatternsModel"
def F_6 : u_T := fun k => match k with
  | 0 => ("HyphenPatternsModel", "fault", "I", false)
  | 1 => ("HyphenPatternsModel", "language", "I", false)
  | 2 => ("HyphenPatternsModel", "ranges", "[I", true)
  | 3 => ("HyphenPatternsModel", "firsts", "[I", true)
  | 4 => ("HyphenPatternsModel", "lasts", "[I", true)
  | 5 => ("HyphenPatternsModel", "tos", "[I", true)
  | 6 => ("HyphenPatternsModel", "lefts", "[I", true)
  | 7 => ("HyphenPatternsModel", "rights", "[I", true)
  | 8 => ("HyphenPatternsModel", "told", "I", false)
  | 9 => ("HyphenPatternsModel", "telling", "[I", true)
  | 10 => ("HyphenPatternsModel", "fresh", "[I", true)
  | 11 => ("HyphenPatternsModel", "letterCount", "I", false)
  | 12 => ("HyphenPatternsModel", "rowLetters", "[I", true)
  | 13 => ("HyphenPatternsModel", "rowValues", "[I", true)
  | 14 => ("HyphenPatternsModel", "patterns", "I", false)
  | 15 => ("HyphenPatternsModel", "patternOf", "[I", true)
  | 16 => ("HyphenPatternsModel", "patternSize", "[I", true)
  | 17 => ("HyphenPatternsModel", "patternLetters", "[I", true)
  | 18 => ("HyphenPatternsModel", "patternValues", "[I", true)
  | 19 => ("HyphenPatternsModel", "exceptions", "I", false)
  | 20 => ("HyphenPatternsModel", "exceptionOf", "[I", true)
  | 21 => ("HyphenPatternsModel", "exceptionSize", "[I", true)
  | 22 => ("HyphenPatternsModel", "exceptionLetters", "[I", true)
  | 23 => ("HyphenPatternsModel", "exceptionHyphens", "[I", true)
  | 24 => ("HyphenPatternsModel", "size", "I", false)
  | _ => ("HyphenPatternsModel", "text", "[I", true)
def t_6 : Nat → FieldType := fun k => match k with
  | 0 => .int
  | 1 => .int
  | 2 => .array .int
  | 3 => .array .int
  | 4 => .array .int
  | 5 => .array .int
  | 6 => .array .int
  | 7 => .array .int
  | 8 => .int
  | 9 => .array .int
  | 10 => .array .int
  | 11 => .int
  | 12 => .array .int
  | 13 => .array .int
  | 14 => .int
  | 15 => .array .int
  | 16 => .array .int
  | 17 => .array .int
  | 18 => .array .int
  | 19 => .int
  | 20 => .array .int
  | 21 => .array .int
  | 22 => .array .int
  | 23 => .array .int
  | 24 => .int
  | _ => .array .int
theorem n_6 : ∀ a, a < 26 → ∀ b, b < 26 → a ≠ b → (F_6 a).2.1 ≠ (F_6 b).2.1 := by decide +kernel
theorem t_6_ok : ∀ k, k < 26 → parseFieldDescriptor (F_6 k).2.2.1 = some (t_6 k) := by decide +kernel
def R_7 : String := "java/util/ArrayList"
def F_7 : u_T := fun k => match k with
  | 0 => ("java/util/ArrayList", "elementData", "[Ljava/lang/Object;", false)
  | 1 => ("java/util/ArrayList", "size", "I", false)
  | _ => ("java/util/AbstractList", "modCount", "I", false)
def t_7 : Nat → FieldType := fun k => match k with
  | 0 => .array (.object "java/lang/Object")
  | 1 => .int
  | _ => .int
theorem n_7 : ∀ a, a < 3 → ∀ b, b < 3 → a ≠ b → (F_7 a).2.1 ≠ (F_7 b).2.1 := by decide +kernel
theorem t_7_ok : ∀ k, k < 3 → parseFieldDescriptor (F_7 k).2.2.1 = some (t_7 k) := by decide +kernel
abbrev hy_K : List vw_C := [(R_0, F_0, 3), (R_1, F_1, 8), (R_2, F_2, 4), (R_3, F_3, 5), (R_4, F_4, 2), (R_5, F_5, 6), (R_6, F_6, 26), (R_7, F_7, 3)]
abbrev b_H_init : ByteArray := prog_1_method_1_code
abbrev y_H_init : MethodName := ⟨"HyphenPatterns", "<init>", "()V"⟩
abbrev b_N_init : ByteArray := prog_4_method_1_code
abbrev y_N_init : MethodName := ⟨"HyphenPatterns$Numbers", "<init>", "(II)V"⟩
abbrev b_D_init : ByteArray := prog_2_method_1_code
abbrev y_D_init : MethodName := ⟨"HyphenPatterns$Draft", "<init>", "()V"⟩
abbrev b_G_init : ByteArray := prog_5_method_1_code
abbrev y_G_init : MethodName := ⟨"HyphenPatterns$Reading", "<init>", "()V"⟩
abbrev b_L_init : ByteArray := prog_3_method_1_code
abbrev y_L_init : MethodName := ⟨"HyphenPatterns$Language", "<init>", "()V"⟩
abbrev b_A_init : ByteArray := prog_23_method_2_code
abbrev y_A_init : MethodName := ⟨"java/util/ArrayList", "<init>", "()V"⟩
abbrev b_J_AL_init : ByteArray := prog_22_method_1_code
abbrev y_J_AL_init : MethodName := ⟨"java/util/AbstractList", "<init>", "()V"⟩
abbrev b_J_AC_init : ByteArray := prog_21_method_1_code
abbrev y_J_AC_init : MethodName := ⟨"java/util/AbstractCollection", "<init>", "()V"⟩
abbrev b_H_drop : ByteArray := prog_1_method_6_code
abbrev y_H_drop : MethodName := ⟨"HyphenPatterns", "drop", "()I"⟩
abbrev b_N_empty : ByteArray := prog_4_method_4_code
abbrev y_N_empty : MethodName := ⟨"HyphenPatterns$Numbers", "empty", "()I"⟩
abbrev b_H_forget : ByteArray := prog_1_method_9_code
abbrev y_H_forget : MethodName := ⟨"HyphenPatterns", "forget", "()I"⟩
abbrev b_A_size : ByteArray := prog_23_method_8_code
abbrev y_A_size : MethodName := ⟨"java/util/ArrayList", "size", "()I"⟩
abbrev b_A_clear : ByteArray := prog_23_method_40_code
abbrev y_A_clear : MethodName := ⟨"java/util/ArrayList", "clear", "()V"⟩
abbrev b_H_clear : ByteArray := prog_1_method_11_code
abbrev y_H_clear : MethodName := ⟨"HyphenPatterns", "clear", "()I"⟩
abbrev b_H_word : ByteArray := prog_1_method_14_code
abbrev y_H_word : MethodName := ⟨"HyphenPatterns", "word", "(IZ)I"⟩
abbrev b_H_startsWord : ByteArray := prog_1_method_22_code
abbrev y_H_startsWord : MethodName := ⟨"HyphenPatterns", "startsWord", "(I)Z"⟩
abbrev b_H_isLetterAt : ByteArray := prog_1_method_21_code
abbrev y_H_isLetterAt : MethodName := ⟨"HyphenPatterns", "isLetterAt", "(I)Z"⟩
abbrev b_L_letterOf : ByteArray := prog_3_method_3_code
abbrev y_L_letterOf : MethodName := ⟨"HyphenPatterns$Language", "letterOf", "(I)I"⟩
abbrev b_H_wordEnd : ByteArray := prog_1_method_25_code
abbrev y_H_wordEnd : MethodName := ⟨"HyphenPatterns", "wordEnd", "(I)I"⟩
abbrev b_H_count : ByteArray := prog_1_method_15_code
abbrev y_H_count : MethodName := ⟨"HyphenPatterns", "count", "(I)I"⟩
abbrev b_H_countWords : ByteArray := prog_1_method_27_code
abbrev y_H_countWords : MethodName := ⟨"HyphenPatterns", "countWords", "()I"⟩
abbrev b_H_countBreaks : ByteArray := prog_1_method_28_code
abbrev y_H_countBreaks : MethodName := ⟨"HyphenPatterns", "countBreaks", "()I"⟩
abbrev b_H_readWord : ByteArray := prog_1_method_26_code
abbrev y_H_readWord : MethodName := ⟨"HyphenPatterns", "readWord", "(I)V"⟩
abbrev b_G_spell : ByteArray := prog_5_method_2_code
abbrev y_G_spell : MethodName := ⟨"HyphenPatterns$Reading", "spell", "([IIILHyphenPatterns$Language;)V"⟩
abbrev b_G_weigh : ByteArray := prog_5_method_3_code
abbrev y_G_weigh : MethodName := ⟨"HyphenPatterns$Reading", "weigh", "(LHyphenPatterns$Language;)V"⟩
abbrev b_J_fill : ByteArray := prog_24_method_103_code
abbrev y_J_fill : MethodName := ⟨"java/util/Arrays", "fill", "([II)V"⟩
abbrev b_H_indexOfRule : ByteArray := prog_1_method_20_code
abbrev y_H_indexOfRule : MethodName := ⟨"HyphenPatterns", "indexOfRule", "(Ljava/util/ArrayList;[III)I"⟩
abbrev b_A_get : ByteArray := prog_23_method_20_code
abbrev y_A_get : MethodName := ⟨"java/util/ArrayList", "get", "(I)Ljava/lang/Object;"⟩
abbrev b_J_check2 : ByteArray := prog_27_method_17_code
abbrev y_J_check2 : MethodName := ⟨"java/util/Objects", "checkIndex", "(II)I"⟩
abbrev b_J_check3 : ByteArray := prog_31_method_11_code
abbrev y_J_check3 : MethodName := ⟨"jdk/internal/util/Preconditions", "checkIndex", "(IILjava/util/function/BiFunction;)I"⟩
abbrev b_A_elementData : ByteArray := prog_23_method_18_code
abbrev y_A_elementData : MethodName := ⟨"java/util/ArrayList", "elementData", "(I)Ljava/lang/Object;"⟩
abbrev b_U_standsAt : ByteArray := prog_6_method_2_code
abbrev y_U_standsAt : MethodName := ⟨"HyphenPatterns$Rule", "standsAt", "([II)Z"⟩
abbrev b_G_lay : ByteArray := prog_5_method_8_code
abbrev y_G_lay : MethodName := ⟨"HyphenPatterns$Reading", "lay", "(LHyphenPatterns$Rule;I)V"⟩
abbrev b_J_max : ByteArray := prog_16_method_65_code
abbrev y_J_max : MethodName := ⟨"java/lang/Math", "max", "(II)I"⟩
abbrev b_G_layEverywhere : ByteArray := prog_5_method_7_code
abbrev y_G_layEverywhere : MethodName := ⟨"HyphenPatterns$Reading", "layEverywhere", "(LHyphenPatterns$Rule;)V"⟩
abbrev b_G_breakCount : ByteArray := prog_5_method_6_code
abbrev y_G_breakCount : MethodName := ⟨"HyphenPatterns$Reading", "breakCount", "(LHyphenPatterns$Language;)I"⟩
abbrev b_G_canBreakAt : ByteArray := prog_5_method_5_code
abbrev y_G_canBreakAt : MethodName := ⟨"HyphenPatterns$Reading", "canBreakAt", "(ILHyphenPatterns$Language;)Z"⟩
abbrev b_G_weightAt : ByteArray := prog_5_method_4_code
abbrev y_G_weightAt : MethodName := ⟨"HyphenPatterns$Reading", "weightAt", "(I)I"⟩
abbrev b_H_countMatches : ByteArray := prog_1_method_29_code
abbrev y_H_countMatches : MethodName := ⟨"HyphenPatterns", "countMatches", "()I"⟩
abbrev b_X_choose : ByteArray := method_3_code
abbrev y_X_choose : MethodName := ⟨"HyphenPatternsLaw", "choose", "(LHyphenPatterns;I[J)I"⟩
abbrev b_H_choose : ByteArray := prog_1_method_2_code
abbrev y_H_choose : MethodName := ⟨"HyphenPatterns", "choose", "(I)I"⟩
abbrev b_X_letters : ByteArray := method_4_code
abbrev y_X_letters : MethodName := ⟨"HyphenPatternsLaw", "letters", "(LHyphenPatterns;III)I"⟩
abbrev b_H_letters : ByteArray := prog_1_method_3_code
abbrev y_H_letters : MethodName := ⟨"HyphenPatterns", "letters", "(III)V"⟩
abbrev b_H_isCharacter : ByteArray := prog_1_method_16_code
abbrev y_H_isCharacter : MethodName := ⟨"HyphenPatterns", "isCharacter", "(I)Z"⟩
abbrev b_L_addRange : ByteArray := prog_3_method_2_code
abbrev y_L_addRange : MethodName := ⟨"HyphenPatterns$Language", "addRange", "(III)V"⟩
abbrev b_X_least : ByteArray := method_5_code
abbrev y_X_least : MethodName := ⟨"HyphenPatternsLaw", "least", "(LHyphenPatterns;II)I"⟩
abbrev b_H_least : ByteArray := prog_1_method_4_code
abbrev y_H_least : MethodName := ⟨"HyphenPatterns", "least", "(II)V"⟩
abbrev b_X_tell : ByteArray := method_6_code
abbrev y_X_tell : MethodName := ⟨"HyphenPatternsLaw", "tell", "(LHyphenPatterns;IIIII[J)I"⟩
abbrev b_H_tell : ByteArray := prog_1_method_5_code
abbrev y_H_tell : MethodName := ⟨"HyphenPatterns", "tell", "(IIIII)I"⟩
abbrev b_N_append : ByteArray := prog_4_method_2_code
abbrev y_N_append : MethodName := ⟨"HyphenPatterns$Numbers", "append", "(IIIII)I"⟩
abbrev b_N_offer : ByteArray := prog_4_method_3_code
abbrev y_N_offer : MethodName := ⟨"HyphenPatterns$Numbers", "offer", "(IIIII)I"⟩
abbrev b_X_pattern : ByteArray := method_7_code
abbrev y_X_pattern : MethodName := ⟨"HyphenPatternsLaw", "pattern", "(LHyphenPatterns;[J)I"⟩
abbrev b_H_pattern : ByteArray := prog_1_method_7_code
abbrev y_H_pattern : MethodName := ⟨"HyphenPatterns", "pattern", "()I"⟩
abbrev b_D_readPattern : ByteArray := prog_2_method_2_code
abbrev y_D_readPattern : MethodName := ⟨"HyphenPatterns$Draft", "readPattern", "(LHyphenPatterns$Numbers;)Z"⟩
abbrev b_D_start : ByteArray := prog_2_method_5_code
abbrev y_D_start : MethodName := ⟨"HyphenPatterns$Draft", "start", "()V"⟩
abbrev b_D_takeLetter : ByteArray := prog_2_method_6_code
abbrev y_D_takeLetter : MethodName := ⟨"HyphenPatterns$Draft", "takeLetter", "(I)Z"⟩
abbrev b_D_takeValue : ByteArray := prog_2_method_7_code
abbrev y_D_takeValue : MethodName := ⟨"HyphenPatterns$Draft", "takeValue", "(I)Z"⟩
abbrev b_D_hasLetter : ByteArray := prog_2_method_8_code
abbrev y_D_hasLetter : MethodName := ⟨"HyphenPatterns$Draft", "hasLetter", "()Z"⟩
abbrev b_D_hasEdgeWithin : ByteArray := prog_2_method_9_code
abbrev y_D_hasEdgeWithin : MethodName := ⟨"HyphenPatterns$Draft", "hasEdgeWithin", "()Z"⟩
abbrev b_H_patternsInAll : ByteArray := prog_1_method_17_code
abbrev y_H_patternsInAll : MethodName := ⟨"HyphenPatterns", "patternsInAll", "()I"⟩
abbrev b_H_keepDraft : ByteArray := prog_1_method_19_code
abbrev y_H_keepDraft : MethodName := ⟨"HyphenPatterns", "keepDraft", "(Ljava/util/ArrayList;Z)I"⟩
abbrev b_D_toRule : ByteArray := prog_2_method_4_code
abbrev y_D_toRule : MethodName := ⟨"HyphenPatterns$Draft", "toRule", "()LHyphenPatterns$Rule;"⟩
abbrev b_J_copyI : ByteArray := prog_24_method_123_code
abbrev y_J_copyI : MethodName := ⟨"java/util/Arrays", "copyOf", "([II)[I"⟩
abbrev b_J_min : ByteArray := prog_16_method_69_code
abbrev y_J_min : MethodName := ⟨"java/lang/Math", "min", "(II)I"⟩
abbrev b_U_init : ByteArray := prog_6_method_1_code
abbrev y_U_init : MethodName := ⟨"HyphenPatterns$Rule", "<init>", "([I[I)V"⟩
abbrev b_A_add1 : ByteArray := prog_23_method_25_code
abbrev y_A_add1 : MethodName := ⟨"java/util/ArrayList", "add", "(Ljava/lang/Object;)Z"⟩
abbrev b_A_add3 : ByteArray := prog_23_method_24_code
abbrev y_A_add3 : MethodName := ⟨"java/util/ArrayList", "add", "(Ljava/lang/Object;[Ljava/lang/Object;I)V"⟩
abbrev b_A_grow0 : ByteArray := prog_23_method_7_code
abbrev y_A_grow0 : MethodName := ⟨"java/util/ArrayList", "grow", "()[Ljava/lang/Object;"⟩
abbrev b_A_grow1 : ByteArray := prog_23_method_6_code
abbrev y_A_grow1 : MethodName := ⟨"java/util/ArrayList", "grow", "(I)[Ljava/lang/Object;"⟩
abbrev b_J_newLength : ByteArray := prog_30_method_27_code
abbrev y_J_newLength : MethodName := ⟨"jdk/internal/util/ArraysSupport", "newLength", "(III)I"⟩
abbrev b_J_copyO2 : ByteArray := prog_24_method_119_code
abbrev y_J_copyO2 : MethodName := ⟨"java/util/Arrays", "copyOf", "([Ljava/lang/Object;I)[Ljava/lang/Object;"⟩
abbrev b_J_copyO3 : ByteArray := prog_24_method_120_code
abbrev y_J_copyO3 : MethodName := ⟨"java/util/Arrays", "copyOf", "([Ljava/lang/Object;ILjava/lang/Class;)[Ljava/lang/Object;"⟩
abbrev b_A_set : ByteArray := prog_23_method_23_code
abbrev y_A_set : MethodName := ⟨"java/util/ArrayList", "set", "(ILjava/lang/Object;)Ljava/lang/Object;"⟩
abbrev b_X_exception : ByteArray := method_8_code
abbrev y_X_exception : MethodName := ⟨"HyphenPatternsLaw", "exception", "(LHyphenPatterns;[J)I"⟩
abbrev b_H_exception : ByteArray := prog_1_method_8_code
abbrev y_H_exception : MethodName := ⟨"HyphenPatterns", "exception", "()I"⟩
abbrev b_D_readException : ByteArray := prog_2_method_3_code
abbrev y_D_readException : MethodName := ⟨"HyphenPatterns$Draft", "readException", "(LHyphenPatterns$Numbers;)Z"⟩
abbrev b_H_exceptionsInAll : ByteArray := prog_1_method_18_code
abbrev y_H_exceptionsInAll : MethodName := ⟨"HyphenPatterns", "exceptionsInAll", "()I"⟩
abbrev b_X_add : ByteArray := method_9_code
abbrev y_X_add : MethodName := ⟨"HyphenPatternsLaw", "add", "(LHyphenPatterns;IIIII[J)I"⟩
abbrev b_H_add : ByteArray := prog_1_method_10_code
abbrev y_H_add : MethodName := ⟨"HyphenPatterns", "add", "(IIIII)I"⟩
abbrev b_X_value : ByteArray := method_10_code
abbrev y_X_value : MethodName := ⟨"HyphenPatternsLaw", "value", "(LHyphenPatterns;I[J)I"⟩
abbrev b_H_value : ByteArray := prog_1_method_12_code
abbrev y_H_value : MethodName := ⟨"HyphenPatterns", "value", "(I)I"⟩
abbrev b_H_isWithinWord : ByteArray := prog_1_method_23_code
abbrev y_H_isWithinWord : MethodName := ⟨"HyphenPatterns", "isWithinWord", "(I)Z"⟩
abbrev b_H_wordStart : ByteArray := prog_1_method_24_code
abbrev y_H_wordStart : MethodName := ⟨"HyphenPatterns", "wordStart", "(I)I"⟩
abbrev b_X_breaks : ByteArray := method_11_code
abbrev y_X_breaks : MethodName := ⟨"HyphenPatternsLaw", "breaks", "(LHyphenPatterns;I[J)I"⟩
abbrev b_H_breaks : ByteArray := prog_1_method_13_code
abbrev y_H_breaks : MethodName := ⟨"HyphenPatterns", "breaks", "(I)Z"⟩
abbrev b_M_init : ByteArray := prog_8_method_1_code
abbrev y_M_init : MethodName := ⟨"HyphenPatternsModel", "<init>", "()V"⟩
abbrev b_M_thrown : ByteArray := prog_8_method_2_code
abbrev y_M_thrown : MethodName := ⟨"HyphenPatternsModel", "thrown", "()I"⟩
abbrev b_M_choose : ByteArray := prog_8_method_5_code
abbrev y_M_choose : MethodName := ⟨"HyphenPatternsModel", "choose", "(I)I"⟩
abbrev b_M_refused : ByteArray := prog_8_method_3_code
abbrev y_M_refused : MethodName := ⟨"HyphenPatternsModel", "refused", "(I)Z"⟩
abbrev b_M_letters : ByteArray := prog_8_method_6_code
abbrev y_M_letters : MethodName := ⟨"HyphenPatternsModel", "letters", "(III)V"⟩
abbrev b_M_isChar : ByteArray := prog_8_method_4_code
abbrev y_M_isChar : MethodName := ⟨"HyphenPatternsModel", "isChar", "(I)Z"⟩
abbrev b_M_least : ByteArray := prog_8_method_7_code
abbrev y_M_least : MethodName := ⟨"HyphenPatternsModel", "least", "(II)V"⟩
abbrev b_M_tell : ByteArray := prog_8_method_12_code
abbrev y_M_tell : MethodName := ⟨"HyphenPatternsModel", "tell", "(IIIII)I"⟩
abbrev b_M_keep : ByteArray := prog_8_method_9_code
abbrev y_M_keep : MethodName := ⟨"HyphenPatternsModel", "keep", "(IIIII)V"⟩
abbrev b_M_given : ByteArray := prog_8_method_10_code
abbrev y_M_given : MethodName := ⟨"HyphenPatternsModel", "given", "()I"⟩
abbrev b_M_isSound : ByteArray := prog_8_method_11_code
abbrev y_M_isSound : MethodName := ⟨"HyphenPatternsModel", "isSound", "(II)Z"⟩
abbrev b_M_drop : ByteArray := prog_8_method_13_code
abbrev y_M_drop : MethodName := ⟨"HyphenPatternsModel", "drop", "()I"⟩
abbrev b_M_pattern : ByteArray := prog_8_method_18_code
abbrev y_M_pattern : MethodName := ⟨"HyphenPatternsModel", "pattern", "()I"⟩
abbrev b_M_isPattern : ByteArray := prog_8_method_15_code
abbrev y_M_isPattern : MethodName := ⟨"HyphenPatternsModel", "isPattern", "()Z"⟩
abbrev b_M_readRow : ByteArray := prog_8_method_14_code
abbrev y_M_readRow : MethodName := ⟨"HyphenPatternsModel", "readRow", "()Z"⟩
abbrev b_M_findPattern : ByteArray := prog_8_method_17_code
abbrev y_M_findPattern : MethodName := ⟨"HyphenPatternsModel", "findPattern", "()I"⟩
abbrev b_M_exception : ByteArray := prog_8_method_20_code
abbrev y_M_exception : MethodName := ⟨"HyphenPatternsModel", "exception", "()I"⟩
abbrev b_M_isException : ByteArray := prog_8_method_16_code
abbrev y_M_isException : MethodName := ⟨"HyphenPatternsModel", "isException", "()Z"⟩
abbrev b_M_findException : ByteArray := prog_8_method_19_code
abbrev y_M_findException : MethodName := ⟨"HyphenPatternsModel", "findException", "()I"⟩
abbrev b_M_forget : ByteArray := prog_8_method_23_code
abbrev y_M_forget : MethodName := ⟨"HyphenPatternsModel", "forget", "()I"⟩
abbrev b_M_movePattern : ByteArray := prog_8_method_21_code
abbrev y_M_movePattern : MethodName := ⟨"HyphenPatternsModel", "movePattern", "(II)V"⟩
abbrev b_M_moveException : ByteArray := prog_8_method_22_code
abbrev y_M_moveException : MethodName := ⟨"HyphenPatternsModel", "moveException", "(II)V"⟩
abbrev b_M_add : ByteArray := prog_8_method_24_code
abbrev y_M_add : MethodName := ⟨"HyphenPatternsModel", "add", "(IIIII)I"⟩
abbrev b_M_clear : ByteArray := prog_8_method_25_code
abbrev y_M_clear : MethodName := ⟨"HyphenPatternsModel", "clear", "()I"⟩
abbrev b_M_value : ByteArray := prog_8_method_37_code
abbrev y_M_value : MethodName := ⟨"HyphenPatternsModel", "value", "(I)I"⟩
abbrev b_M_isPlace : ByteArray := prog_8_method_36_code
abbrev y_M_isPlace : MethodName := ⟨"HyphenPatternsModel", "isPlace", "(I)Z"⟩
abbrev b_M_valueOf : ByteArray := prog_8_method_34_code
abbrev y_M_valueOf : MethodName := ⟨"HyphenPatternsModel", "valueOf", "(I)I"⟩
abbrev b_M_isWithin : ByteArray := prog_8_method_33_code
abbrev y_M_isWithin : MethodName := ⟨"HyphenPatternsModel", "isWithin", "(I)Z"⟩
abbrev b_M_isLetter : ByteArray := prog_8_method_26_code
abbrev y_M_isLetter : MethodName := ⟨"HyphenPatternsModel", "isLetter", "(I)Z"⟩
abbrev b_M_letterOf : ByteArray := prog_8_method_8_code
abbrev y_M_letterOf : MethodName := ⟨"HyphenPatternsModel", "letterOf", "(I)I"⟩
abbrev b_M_begin : ByteArray := prog_8_method_27_code
abbrev y_M_begin : MethodName := ⟨"HyphenPatternsModel", "begin", "(I)I"⟩
abbrev b_M_end : ByteArray := prog_8_method_28_code
abbrev y_M_end : MethodName := ⟨"HyphenPatternsModel", "end", "(I)I"⟩
abbrev b_M_wordValue : ByteArray := prog_8_method_32_code
abbrev y_M_wordValue : MethodName := ⟨"HyphenPatternsModel", "wordValue", "(III)I"⟩
abbrev b_M_exceptionFor : ByteArray := prog_8_method_30_code
abbrev y_M_exceptionFor : MethodName := ⟨"HyphenPatternsModel", "exceptionFor", "(II)I"⟩
abbrev b_M_letterAt : ByteArray := prog_8_method_29_code
abbrev y_M_letterAt : MethodName := ⟨"HyphenPatternsModel", "letterAt", "(I)I"⟩
abbrev b_M_isAt : ByteArray := prog_8_method_31_code
abbrev y_M_isAt : MethodName := ⟨"HyphenPatternsModel", "isAt", "(IIII)Z"⟩
abbrev b_M_breaks : ByteArray := prog_8_method_38_code
abbrev y_M_breaks : MethodName := ⟨"HyphenPatternsModel", "breaks", "(I)Z"⟩
abbrev b_M_isBroken : ByteArray := prog_8_method_35_code
abbrev y_M_isBroken : MethodName := ⟨"HyphenPatternsModel", "isBroken", "(I)Z"⟩
abbrev b_M_word : ByteArray := prog_8_method_39_code
abbrev y_M_word : MethodName := ⟨"HyphenPatternsModel", "word", "(IZ)I"⟩
abbrev b_M_count : ByteArray := prog_8_method_45_code
abbrev y_M_count : MethodName := ⟨"HyphenPatternsModel", "count", "(I)I"⟩
abbrev b_M_words : ByteArray := prog_8_method_40_code
abbrev y_M_words : MethodName := ⟨"HyphenPatternsModel", "words", "()I"⟩
abbrev b_M_brokenPlaces : ByteArray := prog_8_method_41_code
abbrev y_M_brokenPlaces : MethodName := ⟨"HyphenPatternsModel", "brokenPlaces", "()I"⟩
abbrev b_M_times : ByteArray := prog_8_method_43_code
abbrev y_M_times : MethodName := ⟨"HyphenPatternsModel", "times", "()I"⟩
abbrev b_M_timesIn : ByteArray := prog_8_method_42_code
abbrev y_M_timesIn : MethodName := ⟨"HyphenPatternsModel", "timesIn", "(II)I"⟩
abbrev b_M_rowsOf : ByteArray := prog_8_method_44_code
abbrev y_M_rowsOf : MethodName := ⟨"HyphenPatternsModel", "rowsOf", "(Z)I"⟩
abbrev b_X_law : ByteArray := code
abbrev y_X_law : MethodName := ⟨"HyphenPatternsLaw", "law", "([I)Z"⟩
theorem tw_0 : (Jvm.Cond.initialized "HyphenPatternsLaw") ∈ hy_T := hy_T_tab (List.mem_of_getElem? (i := 0) (by decide +kernel)) rfl
theorem tw_1 : (Jvm.Cond.initialized "HyphenPatterns") ∈ hy_T := hy_T_tab (List.mem_of_getElem? (i := 1) (by decide +kernel)) rfl
theorem tw_2 : (Jvm.Cond.initialized "HyphenPatterns$Numbers") ∈ hy_T := hy_T_tab (List.mem_of_getElem? (i := 2) (by decide +kernel)) rfl
theorem tw_3 : (Jvm.Cond.initialized "HyphenPatterns$Draft") ∈ hy_T := hy_T_tab (List.mem_of_getElem? (i := 3) (by decide +kernel)) rfl
theorem tw_4 : (Jvm.Cond.initialized "HyphenPatterns$Reading") ∈ hy_T := hy_T_tab (List.mem_of_getElem? (i := 4) (by decide +kernel)) rfl
theorem tw_5 : (Jvm.Cond.initialized "HyphenPatterns$Language") ∈ hy_T := hy_T_tab (List.mem_of_getElem? (i := 5) (by decide +kernel)) rfl
theorem tw_6 : (Jvm.Cond.initialized "java/util/AbstractCollection") ∈ hy_T := hy_T_tab (List.mem_of_getElem? (i := 6) (by decide +kernel)) rfl
theorem tw_7 : (Jvm.Cond.initialized "java/util/AbstractList") ∈ hy_T := hy_T_tab (List.mem_of_getElem? (i := 7) (by decide +kernel)) rfl
theorem tw_8 : (Jvm.Cond.initialized "java/util/ArrayList") ∈ hy_T := hy_T_tab (List.mem_of_getElem? (i := 8) (by decide +kernel)) rfl
theorem tw_9 : (Jvm.Cond.initialized "HyphenPatternsModel") ∈ hy_T := hy_T_tab (List.mem_of_getElem? (i := 9) (by decide +kernel)) rfl
theorem tw_10 : (Jvm.Cond.initialized "java/lang/Throwable") ∈ hy_T := hy_T_tab (List.mem_of_getElem? (i := 10) (by decide +kernel)) rfl
theorem tw_11 : (Jvm.Cond.initialized "java/lang/Exception") ∈ hy_T := hy_T_tab (List.mem_of_getElem? (i := 11) (by decide +kernel)) rfl
theorem tw_12 : (Jvm.Cond.initialized "java/lang/RuntimeException") ∈ hy_T := hy_T_tab (List.mem_of_getElem? (i := 12) (by decide +kernel)) rfl
theorem tw_13 : (Jvm.Cond.initialized "java/lang/IndexOutOfBoundsException") ∈ hy_T := hy_T_tab (List.mem_of_getElem? (i := 13) (by decide +kernel)) rfl
theorem tw_14 : (Jvm.Cond.initialized "java/lang/IllegalArgumentException") ∈ hy_T := hy_T_tab (List.mem_of_getElem? (i := 14) (by decide +kernel)) rfl
theorem tw_15 : (Jvm.Cond.initialized "java/lang/IllegalStateException") ∈ hy_T := hy_T_tab (List.mem_of_getElem? (i := 15) (by decide +kernel)) rfl
theorem tw_16 : (Jvm.Cond.initialized "java/lang/System") ∈ hy_T := hy_T_tab (List.mem_of_getElem? (i := 16) (by decide +kernel)) rfl
theorem tw_17 : (Jvm.Cond.initialized "java/util/Objects") ∈ hy_T := hy_T_tab (List.mem_of_getElem? (i := 17) (by decide +kernel)) rfl
theorem tw_18 : (Jvm.Cond.initialized "jdk/internal/util/Preconditions") ∈ hy_T := hy_T_tab (List.mem_of_getElem? (i := 18) (by decide +kernel)) rfl
theorem tw_19 : (Jvm.Cond.initialized "HyphenPatterns$Rule") ∈ hy_T := hy_T_tab (List.mem_of_getElem? (i := 19) (by decide +kernel)) rfl
theorem tw_20 : (Jvm.Cond.initialized "java/util/Arrays") ∈ hy_T := hy_T_tab (List.mem_of_getElem? (i := 20) (by decide +kernel)) rfl
theorem tw_21 : (Jvm.Cond.initialized "java/lang/Math") ∈ hy_T := hy_T_tab (List.mem_of_getElem? (i := 21) (by decide +kernel)) rfl
theorem tw_22 : (Jvm.Cond.initialized "jdk/internal/util/ArraysSupport") ∈ hy_T := hy_T_tab (List.mem_of_getElem? (i := 22) (by decide +kernel)) rfl
theorem tw_23 : (Jvm.Cond.classLink "HyphenPatternsLaw" (8 : Nat) "HyphenPatterns") ∈ hy_T := hy_T_tab (List.mem_of_getElem? (i := 23) (by decide +kernel)) rfl
theorem tw_24 : (Jvm.Cond.instantiable "HyphenPatterns" (6 : Nat)) ∈ hy_T := hy_T_tab (List.mem_of_getElem? (i := 24) (by decide +kernel)) rfl
theorem tw_25 : (Jvm.Cond.methodLink "HyphenPatternsLaw" (48 : Nat) ({ cls := "HyphenPatterns", name := "<init>", desc := "()V" } : Jvm.MethodName)) ∈ hy_T := hy_T_tab (List.mem_of_getElem? (i := 25) (by decide +kernel)) rfl
theorem tw_26 : (Jvm.Cond.instanceMethod ({ cls := "HyphenPatterns", name := "<init>", desc := "()V" } : Jvm.MethodName)) ∈ hy_T := hy_T_tab (List.mem_of_getElem? (i := 26) (by decide +kernel)) rfl
theorem tw_27 : (Jvm.Cond.code ({ cls := "HyphenPatterns", name := "<init>", desc := "()V" } : Jvm.MethodName) prog_1_method_1_code (2 : Nat) (Option.none : Option Jvm.ClassFile.FieldType)) ∈ hy_T := hy_T_tab (List.mem_of_getElem? (i := 27) (by decide +kernel)) rfl
theorem tw_28 : (Jvm.Cond.methodLink "HyphenPatterns" (1 : Nat) ({ cls := "java/lang/Object", name := "<init>", desc := "()V" } : Jvm.MethodName)) ∈ hy_T := hy_T_tab (List.mem_of_getElem? (i := 28) (by decide +kernel)) rfl
theorem tw_29 : (Jvm.Cond.instanceMethod ({ cls := "java/lang/Object", name := "<init>", desc := "()V" } : Jvm.MethodName)) ∈ hy_T := hy_T_tab (List.mem_of_getElem? (i := 29) (by decide +kernel)) rfl
theorem tw_30 : (Jvm.Cond.code ({ cls := "java/lang/Object", name := "<init>", desc := "()V" } : Jvm.MethodName) object_method_1_code (1 : Nat) (Option.none : Option Jvm.ClassFile.FieldType)) ∈ hy_T := hy_T_tab (List.mem_of_getElem? (i := 30) (by decide +kernel)) rfl
theorem tw_31 : (Jvm.Cond.classLink "HyphenPatterns" (9 : Nat) "HyphenPatterns$Language") ∈ hy_T := hy_T_tab (List.mem_of_getElem? (i := 31) (by decide +kernel)) rfl
theorem tw_33 : (Jvm.Cond.classLink "HyphenPatterns" (15 : Nat) "HyphenPatterns$Numbers") ∈ hy_T := hy_T_tab (List.mem_of_getElem? (i := 33) (by decide +kernel)) rfl
theorem tw_34 : (Jvm.Cond.instantiable "HyphenPatterns$Numbers" (4 : Nat)) ∈ hy_T := hy_T_tab (List.mem_of_getElem? (i := 34) (by decide +kernel)) rfl
theorem tw_35 : (Jvm.Cond.methodLink "HyphenPatterns" (17 : Nat) ({ cls := "HyphenPatterns$Numbers", name := "<init>", desc := "(II)V" } : Jvm.MethodName)) ∈ hy_T := hy_T_tab (List.mem_of_getElem? (i := 35) (by decide +kernel)) rfl
theorem tw_36 : (Jvm.Cond.instanceMethod ({ cls := "HyphenPatterns$Numbers", name := "<init>", desc := "(II)V" } : Jvm.MethodName)) ∈ hy_T := hy_T_tab (List.mem_of_getElem? (i := 36) (by decide +kernel)) rfl
theorem tw_37 : (Jvm.Cond.code ({ cls := "HyphenPatterns$Numbers", name := "<init>", desc := "(II)V" } : Jvm.MethodName) prog_4_method_1_code (3 : Nat) (Option.none : Option Jvm.ClassFile.FieldType)) ∈ hy_T := hy_T_tab (List.mem_of_getElem? (i := 37) (by decide +kernel)) rfl
theorem tw_38 : (Jvm.Cond.methodLink "HyphenPatterns$Numbers" (3 : Nat) ({ cls := "java/lang/Object", name := "<init>", desc := "()V" } : Jvm.MethodName)) ∈ hy_T := hy_T_tab (List.mem_of_getElem? (i := 38) (by decide +kernel)) rfl
theorem tw_39 : (Jvm.Cond.fieldLink "HyphenPatterns$Numbers" (19 : Nat) "HyphenPatterns$Numbers" "numbers" "[I") ∈ hy_T := hy_T_tab (List.mem_of_getElem? (i := 39) (by decide +kernel)) rfl
theorem tw_40 : (Jvm.Cond.fieldLink "HyphenPatterns$Draft" (28 : Nat) "HyphenPatterns$Numbers" "numbers" "[I") ∈ hy_T := hy_T_tab (List.mem_of_getElem? (i := 40) (by decide +kernel)) rfl
theorem tw_41 : (Jvm.Cond.fieldLink "HyphenPatterns" (200 : Nat) "HyphenPatterns$Numbers" "numbers" "[I") ∈ hy_T := hy_T_tab (List.mem_of_getElem? (i := 41) (by decide +kernel)) rfl
theorem tw_42 : (Jvm.Cond.fieldLink "HyphenPatterns$Numbers" (22 : Nat) "HyphenPatterns$Numbers" "lowest" "I") ∈ hy_T := hy_T_tab (List.mem_of_getElem? (i := 42) (by decide +kernel)) rfl
theorem tw_43 : (Jvm.Cond.fieldLink "HyphenPatterns$Numbers" (9 : Nat) "HyphenPatterns$Numbers" "offered" "[I") ∈ hy_T := hy_T_tab (List.mem_of_getElem? (i := 43) (by decide +kernel)) rfl
theorem tw_44 : (Jvm.Cond.fieldLink "HyphenPatterns$Numbers" (15 : Nat) "HyphenPatterns$Numbers" "size" "I") ∈ hy_T := hy_T_tab (List.mem_of_getElem? (i := 44) (by decide +kernel)) rfl
theorem tw_45 : (Jvm.Cond.fieldLink "HyphenPatterns$Draft" (25 : Nat) "HyphenPatterns$Numbers" "size" "I") ∈ hy_T := hy_T_tab (List.mem_of_getElem? (i := 45) (by decide +kernel)) rfl
theorem tw_46 : (Jvm.Cond.fieldLink "HyphenPatterns" (129 : Nat) "HyphenPatterns$Numbers" "size" "I") ∈ hy_T := hy_T_tab (List.mem_of_getElem? (i := 46) (by decide +kernel)) rfl
theorem tw_47 : (Jvm.Cond.laysFinal "HyphenPatterns$Numbers" "HyphenPatterns$Numbers" "numbers" "[I") ∈ hy_T := hy_T_tab (List.mem_of_getElem? (i := 47) (by decide +kernel)) rfl
theorem tw_49 : (Jvm.Cond.laysFinal "HyphenPatterns$Numbers" "HyphenPatterns$Numbers" "lowest" "I") ∈ hy_T := hy_T_tab (List.mem_of_getElem? (i := 49) (by decide +kernel)) rfl
theorem tw_51 : (Jvm.Cond.laysFinal "HyphenPatterns$Numbers" "HyphenPatterns$Numbers" "offered" "[I") ∈ hy_T := hy_T_tab (List.mem_of_getElem? (i := 51) (by decide +kernel)) rfl
theorem tw_53 : (Jvm.Cond.lays "HyphenPatterns$Numbers" "HyphenPatterns$Numbers" "size" "I") ∈ hy_T := hy_T_tab (List.mem_of_getElem? (i := 53) (by decide +kernel)) rfl
theorem tw_55 : (Jvm.Cond.superclass "HyphenPatterns$Numbers" "java/lang/Object") ∈ hy_T := hy_T_tab (List.mem_of_getElem? (i := 55) (by decide +kernel)) rfl
theorem tw_56 : (Jvm.Cond.arrayClass Jvm.ClassFile.FieldType.int) ∈ hy_T := hy_T_tab (List.mem_of_getElem? (i := 56) (by decide +kernel)) rfl
theorem tw_57 : (Jvm.Cond.classLink "HyphenPatterns" (27 : Nat) "HyphenPatterns$Draft") ∈ hy_T := hy_T_tab (List.mem_of_getElem? (i := 57) (by decide +kernel)) rfl
theorem tw_58 : (Jvm.Cond.instantiable "HyphenPatterns$Draft" (3 : Nat)) ∈ hy_T := hy_T_tab (List.mem_of_getElem? (i := 58) (by decide +kernel)) rfl
theorem tw_60 : (Jvm.Cond.instanceMethod ({ cls := "HyphenPatterns$Draft", name := "<init>", desc := "()V" } : Jvm.MethodName)) ∈ hy_T := hy_T_tab (List.mem_of_getElem? (i := 60) (by decide +kernel)) rfl
theorem tw_61 : (Jvm.Cond.code ({ cls := "HyphenPatterns$Draft", name := "<init>", desc := "()V" } : Jvm.MethodName) prog_2_method_1_code (1 : Nat) (Option.none : Option Jvm.ClassFile.FieldType)) ∈ hy_T := hy_T_tab (List.mem_of_getElem? (i := 61) (by decide +kernel)) rfl
theorem tw_62 : (Jvm.Cond.methodLink "HyphenPatterns$Draft" (3 : Nat) ({ cls := "java/lang/Object", name := "<init>", desc := "()V" } : Jvm.MethodName)) ∈ hy_T := hy_T_tab (List.mem_of_getElem? (i := 62) (by decide +kernel)) rfl
theorem tw_63 : (Jvm.Cond.fieldLink "HyphenPatterns$Draft" (9 : Nat) "HyphenPatterns$Draft" "spelling" "[I") ∈ hy_T := hy_T_tab (List.mem_of_getElem? (i := 63) (by decide +kernel)) rfl
theorem tw_64 : (Jvm.Cond.fieldLink "HyphenPatterns" (166 : Nat) "HyphenPatterns$Draft" "spelling" "[I") ∈ hy_T := hy_T_tab (List.mem_of_getElem? (i := 64) (by decide +kernel)) rfl
theorem tw_65 : (Jvm.Cond.fieldLink "HyphenPatterns$Draft" (15 : Nat) "HyphenPatterns$Draft" "values" "[I") ∈ hy_T := hy_T_tab (List.mem_of_getElem? (i := 65) (by decide +kernel)) rfl
theorem tw_66 : (Jvm.Cond.fieldLink "HyphenPatterns$Draft" (18 : Nat) "HyphenPatterns$Draft" "size" "I") ∈ hy_T := hy_T_tab (List.mem_of_getElem? (i := 66) (by decide +kernel)) rfl
theorem tw_67 : (Jvm.Cond.fieldLink "HyphenPatterns" (170 : Nat) "HyphenPatterns$Draft" "size" "I") ∈ hy_T := hy_T_tab (List.mem_of_getElem? (i := 67) (by decide +kernel)) rfl
theorem tw_68 : (Jvm.Cond.laysFinal "HyphenPatterns$Draft" "HyphenPatterns$Draft" "spelling" "[I") ∈ hy_T := hy_T_tab (List.mem_of_getElem? (i := 68) (by decide +kernel)) rfl
theorem tw_70 : (Jvm.Cond.laysFinal "HyphenPatterns$Draft" "HyphenPatterns$Draft" "values" "[I") ∈ hy_T := hy_T_tab (List.mem_of_getElem? (i := 70) (by decide +kernel)) rfl
theorem tw_72 : (Jvm.Cond.lays "HyphenPatterns$Draft" "HyphenPatterns$Draft" "size" "I") ∈ hy_T := hy_T_tab (List.mem_of_getElem? (i := 72) (by decide +kernel)) rfl
theorem tw_74 : (Jvm.Cond.superclass "HyphenPatterns$Draft" "java/lang/Object") ∈ hy_T := hy_T_tab (List.mem_of_getElem? (i := 74) (by decide +kernel)) rfl
theorem tw_75 : (Jvm.Cond.classLink "HyphenPatterns" (34 : Nat) "HyphenPatterns$Reading") ∈ hy_T := hy_T_tab (List.mem_of_getElem? (i := 75) (by decide +kernel)) rfl
theorem tw_76 : (Jvm.Cond.instantiable "HyphenPatterns$Reading" (5 : Nat)) ∈ hy_T := hy_T_tab (List.mem_of_getElem? (i := 76) (by decide +kernel)) rfl
theorem tw_78 : (Jvm.Cond.instanceMethod ({ cls := "HyphenPatterns$Reading", name := "<init>", desc := "()V" } : Jvm.MethodName)) ∈ hy_T := hy_T_tab (List.mem_of_getElem? (i := 78) (by decide +kernel)) rfl
theorem tw_79 : (Jvm.Cond.code ({ cls := "HyphenPatterns$Reading", name := "<init>", desc := "()V" } : Jvm.MethodName) prog_5_method_1_code (1 : Nat) (Option.none : Option Jvm.ClassFile.FieldType)) ∈ hy_T := hy_T_tab (List.mem_of_getElem? (i := 79) (by decide +kernel)) rfl
theorem tw_80 : (Jvm.Cond.methodLink "HyphenPatterns$Reading" (3 : Nat) ({ cls := "java/lang/Object", name := "<init>", desc := "()V" } : Jvm.MethodName)) ∈ hy_T := hy_T_tab (List.mem_of_getElem? (i := 80) (by decide +kernel)) rfl
theorem tw_81 : (Jvm.Cond.fieldLink "HyphenPatterns$Reading" (9 : Nat) "HyphenPatterns$Reading" "spelled" "[I") ∈ hy_T := hy_T_tab (List.mem_of_getElem? (i := 81) (by decide +kernel)) rfl
theorem tw_82 : (Jvm.Cond.fieldLink "HyphenPatterns$Reading" (15 : Nat) "HyphenPatterns$Reading" "weights" "[I") ∈ hy_T := hy_T_tab (List.mem_of_getElem? (i := 82) (by decide +kernel)) rfl
theorem tw_83 : (Jvm.Cond.fieldLink "HyphenPatterns$Reading" (18 : Nat) "HyphenPatterns$Reading" "start" "I") ∈ hy_T := hy_T_tab (List.mem_of_getElem? (i := 83) (by decide +kernel)) rfl
theorem tw_84 : (Jvm.Cond.fieldLink "HyphenPatterns$Reading" (22 : Nat) "HyphenPatterns$Reading" "length" "I") ∈ hy_T := hy_T_tab (List.mem_of_getElem? (i := 84) (by decide +kernel)) rfl
theorem tw_85 : (Jvm.Cond.fieldLink "HyphenPatterns$Reading" (25 : Nat) "HyphenPatterns$Reading" "matches" "I") ∈ hy_T := hy_T_tab (List.mem_of_getElem? (i := 85) (by decide +kernel)) rfl
theorem tw_86 : (Jvm.Cond.fieldLink "HyphenPatterns" (221 : Nat) "HyphenPatterns$Reading" "matches" "I") ∈ hy_T := hy_T_tab (List.mem_of_getElem? (i := 86) (by decide +kernel)) rfl
theorem tw_87 : (Jvm.Cond.laysFinal "HyphenPatterns$Reading" "HyphenPatterns$Reading" "spelled" "[I") ∈ hy_T := hy_T_tab (List.mem_of_getElem? (i := 87) (by decide +kernel)) rfl
theorem tw_89 : (Jvm.Cond.laysFinal "HyphenPatterns$Reading" "HyphenPatterns$Reading" "weights" "[I") ∈ hy_T := hy_T_tab (List.mem_of_getElem? (i := 89) (by decide +kernel)) rfl
theorem tw_91 : (Jvm.Cond.lays "HyphenPatterns$Reading" "HyphenPatterns$Reading" "start" "I") ∈ hy_T := hy_T_tab (List.mem_of_getElem? (i := 91) (by decide +kernel)) rfl
theorem tw_93 : (Jvm.Cond.lays "HyphenPatterns$Reading" "HyphenPatterns$Reading" "length" "I") ∈ hy_T := hy_T_tab (List.mem_of_getElem? (i := 93) (by decide +kernel)) rfl
theorem tw_95 : (Jvm.Cond.lays "HyphenPatterns$Reading" "HyphenPatterns$Reading" "matches" "I") ∈ hy_T := hy_T_tab (List.mem_of_getElem? (i := 95) (by decide +kernel)) rfl
theorem tw_97 : (Jvm.Cond.superclass "HyphenPatterns$Reading" "java/lang/Object") ∈ hy_T := hy_T_tab (List.mem_of_getElem? (i := 97) (by decide +kernel)) rfl
theorem tw_98 : (Jvm.Cond.instantiable "HyphenPatterns$Language" (8 : Nat)) ∈ hy_T := hy_T_tab (List.mem_of_getElem? (i := 98) (by decide +kernel)) rfl
theorem tw_100 : (Jvm.Cond.instanceMethod ({ cls := "HyphenPatterns$Language", name := "<init>", desc := "()V" } : Jvm.MethodName)) ∈ hy_T := hy_T_tab (List.mem_of_getElem? (i := 100) (by decide +kernel)) rfl
theorem tw_101 : (Jvm.Cond.code ({ cls := "HyphenPatterns$Language", name := "<init>", desc := "()V" } : Jvm.MethodName) prog_3_method_1_code (1 : Nat) (Option.none : Option Jvm.ClassFile.FieldType)) ∈ hy_T := hy_T_tab (List.mem_of_getElem? (i := 101) (by decide +kernel)) rfl
theorem tw_102 : (Jvm.Cond.methodLink "HyphenPatterns$Language" (3 : Nat) ({ cls := "java/lang/Object", name := "<init>", desc := "()V" } : Jvm.MethodName)) ∈ hy_T := hy_T_tab (List.mem_of_getElem? (i := 102) (by decide +kernel)) rfl
theorem tw_103 : (Jvm.Cond.classLink "HyphenPatterns$Language" (21 : Nat) "java/util/ArrayList") ∈ hy_T := hy_T_tab (List.mem_of_getElem? (i := 103) (by decide +kernel)) rfl
theorem tw_104 : (Jvm.Cond.instantiable "java/util/ArrayList" (3 : Nat)) ∈ hy_T := hy_T_tab (List.mem_of_getElem? (i := 104) (by decide +kernel)) rfl
theorem tw_105 : (Jvm.Cond.methodLink "HyphenPatterns$Language" (23 : Nat) ({ cls := "java/util/ArrayList", name := "<init>", desc := "()V" } : Jvm.MethodName)) ∈ hy_T := hy_T_tab (List.mem_of_getElem? (i := 105) (by decide +kernel)) rfl
theorem tw_106 : (Jvm.Cond.instanceMethod ({ cls := "java/util/ArrayList", name := "<init>", desc := "()V" } : Jvm.MethodName)) ∈ hy_T := hy_T_tab (List.mem_of_getElem? (i := 106) (by decide +kernel)) rfl
theorem tw_107 : (Jvm.Cond.code ({ cls := "java/util/ArrayList", name := "<init>", desc := "()V" } : Jvm.MethodName) prog_23_method_2_code (1 : Nat) (Option.none : Option Jvm.ClassFile.FieldType)) ∈ hy_T := hy_T_tab (List.mem_of_getElem? (i := 107) (by decide +kernel)) rfl
theorem tw_108 : (Jvm.Cond.methodLink "java/util/ArrayList" (1 : Nat) ({ cls := "java/util/AbstractList", name := "<init>", desc := "()V" } : Jvm.MethodName)) ∈ hy_T := hy_T_tab (List.mem_of_getElem? (i := 108) (by decide +kernel)) rfl
theorem tw_109 : (Jvm.Cond.instanceMethod ({ cls := "java/util/AbstractList", name := "<init>", desc := "()V" } : Jvm.MethodName)) ∈ hy_T := hy_T_tab (List.mem_of_getElem? (i := 109) (by decide +kernel)) rfl
theorem tw_110 : (Jvm.Cond.code ({ cls := "java/util/AbstractList", name := "<init>", desc := "()V" } : Jvm.MethodName) prog_22_method_1_code (1 : Nat) (Option.none : Option Jvm.ClassFile.FieldType)) ∈ hy_T := hy_T_tab (List.mem_of_getElem? (i := 110) (by decide +kernel)) rfl
theorem tw_111 : (Jvm.Cond.methodLink "java/util/AbstractList" (1 : Nat) ({ cls := "java/util/AbstractCollection", name := "<init>", desc := "()V" } : Jvm.MethodName)) ∈ hy_T := hy_T_tab (List.mem_of_getElem? (i := 111) (by decide +kernel)) rfl
theorem tw_112 : (Jvm.Cond.instanceMethod ({ cls := "java/util/AbstractCollection", name := "<init>", desc := "()V" } : Jvm.MethodName)) ∈ hy_T := hy_T_tab (List.mem_of_getElem? (i := 112) (by decide +kernel)) rfl
theorem tw_113 : (Jvm.Cond.code ({ cls := "java/util/AbstractCollection", name := "<init>", desc := "()V" } : Jvm.MethodName) prog_21_method_1_code (1 : Nat) (Option.none : Option Jvm.ClassFile.FieldType)) ∈ hy_T := hy_T_tab (List.mem_of_getElem? (i := 113) (by decide +kernel)) rfl
theorem tw_114 : (Jvm.Cond.methodLink "java/util/AbstractCollection" (1 : Nat) ({ cls := "java/lang/Object", name := "<init>", desc := "()V" } : Jvm.MethodName)) ∈ hy_T := hy_T_tab (List.mem_of_getElem? (i := 114) (by decide +kernel)) rfl
theorem tw_115 : (Jvm.Cond.fieldLink "java/util/ArrayList" (39 : Nat) "java/util/ArrayList" "DEFAULTCAPACITY_EMPTY_ELEMENTDATA" "[Ljava/lang/Object;") ∈ hy_T := hy_T_tab (List.mem_of_getElem? (i := 115) (by decide +kernel)) rfl
theorem tw_117 : (Jvm.Cond.fieldLink "java/util/ArrayList" (9 : Nat) "java/util/ArrayList" "elementData" "[Ljava/lang/Object;") ∈ hy_T := hy_T_tab (List.mem_of_getElem? (i := 117) (by decide +kernel)) rfl
theorem tw_118 : (Jvm.Cond.fieldLink "java/util/ArrayList" (48 : Nat) "java/util/ArrayList" "size" "I") ∈ hy_T := hy_T_tab (List.mem_of_getElem? (i := 118) (by decide +kernel)) rfl
theorem tw_119 : (Jvm.Cond.fieldLink "java/util/AbstractList" (7 : Nat) "java/util/AbstractList" "modCount" "I") ∈ hy_T := hy_T_tab (List.mem_of_getElem? (i := 119) (by decide +kernel)) rfl
theorem tw_120 : (Jvm.Cond.fieldLink "java/util/ArrayList" (63 : Nat) "java/util/ArrayList" "modCount" "I") ∈ hy_T := hy_T_tab (List.mem_of_getElem? (i := 120) (by decide +kernel)) rfl
theorem tw_121 : (Jvm.Cond.sameField "java/util/ArrayList" "java/util/AbstractList" "modCount" "I") ∈ hy_T := hy_T_tab (List.mem_of_getElem? (i := 121) (by decide +kernel)) rfl
theorem tw_122 : (Jvm.Cond.lays "java/util/ArrayList" "java/util/ArrayList" "elementData" "[Ljava/lang/Object;") ∈ hy_T := hy_T_tab (List.mem_of_getElem? (i := 122) (by decide +kernel)) rfl
theorem tw_124 : (Jvm.Cond.lays "java/util/ArrayList" "java/util/ArrayList" "size" "I") ∈ hy_T := hy_T_tab (List.mem_of_getElem? (i := 124) (by decide +kernel)) rfl
theorem tw_126 : (Jvm.Cond.lays "java/util/ArrayList" "java/util/AbstractList" "modCount" "I") ∈ hy_T := hy_T_tab (List.mem_of_getElem? (i := 126) (by decide +kernel)) rfl
theorem tw_128 : (Jvm.Cond.superclass "java/util/ArrayList" "java/util/AbstractList") ∈ hy_T := hy_T_tab (List.mem_of_getElem? (i := 128) (by decide +kernel)) rfl
theorem tw_129 : (Jvm.Cond.fieldLink "HyphenPatterns$Language" (9 : Nat) "HyphenPatterns$Language" "firsts" "[I") ∈ hy_T := hy_T_tab (List.mem_of_getElem? (i := 129) (by decide +kernel)) rfl
theorem tw_130 : (Jvm.Cond.fieldLink "HyphenPatterns$Language" (15 : Nat) "HyphenPatterns$Language" "lasts" "[I") ∈ hy_T := hy_T_tab (List.mem_of_getElem? (i := 130) (by decide +kernel)) rfl
theorem tw_131 : (Jvm.Cond.fieldLink "HyphenPatterns$Language" (18 : Nat) "HyphenPatterns$Language" "targets" "[I") ∈ hy_T := hy_T_tab (List.mem_of_getElem? (i := 131) (by decide +kernel)) rfl
theorem tw_132 : (Jvm.Cond.fieldLink "HyphenPatterns$Language" (24 : Nat) "HyphenPatterns$Language" "patterns" "Ljava/util/ArrayList;") ∈ hy_T := hy_T_tab (List.mem_of_getElem? (i := 132) (by decide +kernel)) rfl
theorem tw_133 : (Jvm.Cond.fieldLink "HyphenPatterns$Reading" (60 : Nat) "HyphenPatterns$Language" "patterns" "Ljava/util/ArrayList;") ∈ hy_T := hy_T_tab (List.mem_of_getElem? (i := 133) (by decide +kernel)) rfl
theorem tw_134 : (Jvm.Cond.fieldLink "HyphenPatterns" (99 : Nat) "HyphenPatterns$Language" "patterns" "Ljava/util/ArrayList;") ∈ hy_T := hy_T_tab (List.mem_of_getElem? (i := 134) (by decide +kernel)) rfl
theorem tw_135 : (Jvm.Cond.fieldLink "HyphenPatterns$Language" (28 : Nat) "HyphenPatterns$Language" "exceptions" "Ljava/util/ArrayList;") ∈ hy_T := hy_T_tab (List.mem_of_getElem? (i := 135) (by decide +kernel)) rfl
theorem tw_136 : (Jvm.Cond.fieldLink "HyphenPatterns$Reading" (40 : Nat) "HyphenPatterns$Language" "exceptions" "Ljava/util/ArrayList;") ∈ hy_T := hy_T_tab (List.mem_of_getElem? (i := 136) (by decide +kernel)) rfl
theorem tw_137 : (Jvm.Cond.fieldLink "HyphenPatterns" (115 : Nat) "HyphenPatterns$Language" "exceptions" "Ljava/util/ArrayList;") ∈ hy_T := hy_T_tab (List.mem_of_getElem? (i := 137) (by decide +kernel)) rfl
theorem tw_138 : (Jvm.Cond.fieldLink "HyphenPatterns$Language" (31 : Nat) "HyphenPatterns$Language" "ranges" "I") ∈ hy_T := hy_T_tab (List.mem_of_getElem? (i := 138) (by decide +kernel)) rfl
theorem tw_139 : (Jvm.Cond.fieldLink "HyphenPatterns" (65 : Nat) "HyphenPatterns$Language" "ranges" "I") ∈ hy_T := hy_T_tab (List.mem_of_getElem? (i := 139) (by decide +kernel)) rfl
theorem tw_140 : (Jvm.Cond.fieldLink "HyphenPatterns$Language" (35 : Nat) "HyphenPatterns$Language" "left" "I") ∈ hy_T := hy_T_tab (List.mem_of_getElem? (i := 140) (by decide +kernel)) rfl
theorem tw_141 : (Jvm.Cond.fieldLink "HyphenPatterns" (79 : Nat) "HyphenPatterns$Language" "left" "I") ∈ hy_T := hy_T_tab (List.mem_of_getElem? (i := 141) (by decide +kernel)) rfl
theorem tw_142 : (Jvm.Cond.fieldLink "HyphenPatterns$Reading" (74 : Nat) "HyphenPatterns$Language" "left" "I") ∈ hy_T := hy_T_tab (List.mem_of_getElem? (i := 142) (by decide +kernel)) rfl
theorem tw_143 : (Jvm.Cond.fieldLink "HyphenPatterns$Language" (38 : Nat) "HyphenPatterns$Language" "right" "I") ∈ hy_T := hy_T_tab (List.mem_of_getElem? (i := 143) (by decide +kernel)) rfl
theorem tw_144 : (Jvm.Cond.fieldLink "HyphenPatterns" (82 : Nat) "HyphenPatterns$Language" "right" "I") ∈ hy_T := hy_T_tab (List.mem_of_getElem? (i := 144) (by decide +kernel)) rfl
theorem tw_145 : (Jvm.Cond.fieldLink "HyphenPatterns$Reading" (77 : Nat) "HyphenPatterns$Language" "right" "I") ∈ hy_T := hy_T_tab (List.mem_of_getElem? (i := 145) (by decide +kernel)) rfl
theorem tw_146 : (Jvm.Cond.laysFinal "HyphenPatterns$Language" "HyphenPatterns$Language" "firsts" "[I") ∈ hy_T := hy_T_tab (List.mem_of_getElem? (i := 146) (by decide +kernel)) rfl
theorem tw_148 : (Jvm.Cond.laysFinal "HyphenPatterns$Language" "HyphenPatterns$Language" "lasts" "[I") ∈ hy_T := hy_T_tab (List.mem_of_getElem? (i := 148) (by decide +kernel)) rfl
theorem tw_150 : (Jvm.Cond.laysFinal "HyphenPatterns$Language" "HyphenPatterns$Language" "targets" "[I") ∈ hy_T := hy_T_tab (List.mem_of_getElem? (i := 150) (by decide +kernel)) rfl
theorem tw_152 : (Jvm.Cond.laysFinal "HyphenPatterns$Language" "HyphenPatterns$Language" "patterns" "Ljava/util/ArrayList;") ∈ hy_T := hy_T_tab (List.mem_of_getElem? (i := 152) (by decide +kernel)) rfl
theorem tw_154 : (Jvm.Cond.laysFinal "HyphenPatterns$Language" "HyphenPatterns$Language" "exceptions" "Ljava/util/ArrayList;") ∈ hy_T := hy_T_tab (List.mem_of_getElem? (i := 154) (by decide +kernel)) rfl
theorem tw_156 : (Jvm.Cond.lays "HyphenPatterns$Language" "HyphenPatterns$Language" "ranges" "I") ∈ hy_T := hy_T_tab (List.mem_of_getElem? (i := 156) (by decide +kernel)) rfl
theorem tw_158 : (Jvm.Cond.lays "HyphenPatterns$Language" "HyphenPatterns$Language" "left" "I") ∈ hy_T := hy_T_tab (List.mem_of_getElem? (i := 158) (by decide +kernel)) rfl
theorem tw_160 : (Jvm.Cond.lays "HyphenPatterns$Language" "HyphenPatterns$Language" "right" "I") ∈ hy_T := hy_T_tab (List.mem_of_getElem? (i := 160) (by decide +kernel)) rfl
theorem tw_162 : (Jvm.Cond.superclass "HyphenPatterns$Language" "java/lang/Object") ∈ hy_T := hy_T_tab (List.mem_of_getElem? (i := 162) (by decide +kernel)) rfl
theorem tw_163 : (Jvm.Cond.fieldLink "HyphenPatterns" (11 : Nat) "HyphenPatterns" "languages" "[LHyphenPatterns$Language;") ∈ hy_T := hy_T_tab (List.mem_of_getElem? (i := 163) (by decide +kernel)) rfl
theorem tw_164 : (Jvm.Cond.fieldLink "HyphenPatterns" (20 : Nat) "HyphenPatterns" "telling" "LHyphenPatterns$Numbers;") ∈ hy_T := hy_T_tab (List.mem_of_getElem? (i := 164) (by decide +kernel)) rfl
theorem tw_165 : (Jvm.Cond.fieldLink "HyphenPatterns" (24 : Nat) "HyphenPatterns" "text" "LHyphenPatterns$Numbers;") ∈ hy_T := hy_T_tab (List.mem_of_getElem? (i := 165) (by decide +kernel)) rfl
theorem tw_166 : (Jvm.Cond.fieldLink "HyphenPatterns" (30 : Nat) "HyphenPatterns" "draft" "LHyphenPatterns$Draft;") ∈ hy_T := hy_T_tab (List.mem_of_getElem? (i := 166) (by decide +kernel)) rfl
theorem tw_167 : (Jvm.Cond.fieldLink "HyphenPatterns" (37 : Nat) "HyphenPatterns" "reading" "LHyphenPatterns$Reading;") ∈ hy_T := hy_T_tab (List.mem_of_getElem? (i := 167) (by decide +kernel)) rfl
theorem tw_168 : (Jvm.Cond.fieldLink "HyphenPatterns" (41 : Nat) "HyphenPatterns" "chosen" "I") ∈ hy_T := hy_T_tab (List.mem_of_getElem? (i := 168) (by decide +kernel)) rfl
theorem tw_169 : (Jvm.Cond.laysFinal "HyphenPatterns" "HyphenPatterns" "languages" "[LHyphenPatterns$Language;") ∈ hy_T := hy_T_tab (List.mem_of_getElem? (i := 169) (by decide +kernel)) rfl
theorem tw_171 : (Jvm.Cond.laysFinal "HyphenPatterns" "HyphenPatterns" "telling" "LHyphenPatterns$Numbers;") ∈ hy_T := hy_T_tab (List.mem_of_getElem? (i := 171) (by decide +kernel)) rfl
theorem tw_173 : (Jvm.Cond.laysFinal "HyphenPatterns" "HyphenPatterns" "text" "LHyphenPatterns$Numbers;") ∈ hy_T := hy_T_tab (List.mem_of_getElem? (i := 173) (by decide +kernel)) rfl
theorem tw_175 : (Jvm.Cond.laysFinal "HyphenPatterns" "HyphenPatterns" "draft" "LHyphenPatterns$Draft;") ∈ hy_T := hy_T_tab (List.mem_of_getElem? (i := 175) (by decide +kernel)) rfl
theorem tw_177 : (Jvm.Cond.laysFinal "HyphenPatterns" "HyphenPatterns" "reading" "LHyphenPatterns$Reading;") ∈ hy_T := hy_T_tab (List.mem_of_getElem? (i := 177) (by decide +kernel)) rfl
theorem tw_179 : (Jvm.Cond.lays "HyphenPatterns" "HyphenPatterns" "chosen" "I") ∈ hy_T := hy_T_tab (List.mem_of_getElem? (i := 179) (by decide +kernel)) rfl
theorem tw_181 : (Jvm.Cond.superclass "HyphenPatterns" "java/lang/Object") ∈ hy_T := hy_T_tab (List.mem_of_getElem? (i := 181) (by decide +kernel)) rfl
theorem tw_182 : (Jvm.Cond.methodLink "HyphenPatternsLaw" (73 : Nat) ({ cls := "HyphenPatterns", name := "drop", desc := "()I" } : Jvm.MethodName)) ∈ hy_T := hy_T_tab (List.mem_of_getElem? (i := 182) (by decide +kernel)) rfl
theorem tw_183 : (Jvm.Cond.instanceMethod ({ cls := "HyphenPatterns", name := "drop", desc := "()I" } : Jvm.MethodName)) ∈ hy_T := hy_T_tab (List.mem_of_getElem? (i := 183) (by decide +kernel)) rfl
theorem tw_184 : (Jvm.Cond.selects "HyphenPatterns" ({ cls := "HyphenPatterns", name := "drop", desc := "()I" } : Jvm.MethodName) ({ cls := "HyphenPatterns", name := "drop", desc := "()I" } : Jvm.MethodName)) ∈ hy_T := hy_T_tab (List.mem_of_getElem? (i := 184) (by decide +kernel)) rfl
theorem tw_185 : (Jvm.Cond.code ({ cls := "HyphenPatterns", name := "drop", desc := "()I" } : Jvm.MethodName) prog_1_method_6_code (1 : Nat) (Option.some Jvm.ClassFile.FieldType.int)) ∈ hy_T := hy_T_tab (List.mem_of_getElem? (i := 185) (by decide +kernel)) rfl
theorem tw_186 : (Jvm.Cond.methodLink "HyphenPatterns" (89 : Nat) ({ cls := "HyphenPatterns$Numbers", name := "empty", desc := "()I" } : Jvm.MethodName)) ∈ hy_T := hy_T_tab (List.mem_of_getElem? (i := 186) (by decide +kernel)) rfl
theorem tw_187 : (Jvm.Cond.instanceMethod ({ cls := "HyphenPatterns$Numbers", name := "empty", desc := "()I" } : Jvm.MethodName)) ∈ hy_T := hy_T_tab (List.mem_of_getElem? (i := 187) (by decide +kernel)) rfl
theorem tw_188 : (Jvm.Cond.selects "HyphenPatterns$Numbers" ({ cls := "HyphenPatterns$Numbers", name := "empty", desc := "()I" } : Jvm.MethodName) ({ cls := "HyphenPatterns$Numbers", name := "empty", desc := "()I" } : Jvm.MethodName)) ∈ hy_T := hy_T_tab (List.mem_of_getElem? (i := 188) (by decide +kernel)) rfl
theorem tw_189 : (Jvm.Cond.code ({ cls := "HyphenPatterns$Numbers", name := "empty", desc := "()I" } : Jvm.MethodName) prog_4_method_4_code (2 : Nat) (Option.some Jvm.ClassFile.FieldType.int)) ∈ hy_T := hy_T_tab (List.mem_of_getElem? (i := 189) (by decide +kernel)) rfl
theorem tw_190 : (Jvm.Cond.methodLink "HyphenPatternsLaw" (84 : Nat) ({ cls := "HyphenPatterns", name := "forget", desc := "()I" } : Jvm.MethodName)) ∈ hy_T := hy_T_tab (List.mem_of_getElem? (i := 190) (by decide +kernel)) rfl
theorem tw_191 : (Jvm.Cond.instanceMethod ({ cls := "HyphenPatterns", name := "forget", desc := "()I" } : Jvm.MethodName)) ∈ hy_T := hy_T_tab (List.mem_of_getElem? (i := 191) (by decide +kernel)) rfl
theorem tw_192 : (Jvm.Cond.selects "HyphenPatterns" ({ cls := "HyphenPatterns", name := "forget", desc := "()I" } : Jvm.MethodName) ({ cls := "HyphenPatterns", name := "forget", desc := "()I" } : Jvm.MethodName)) ∈ hy_T := hy_T_tab (List.mem_of_getElem? (i := 192) (by decide +kernel)) rfl
theorem tw_193 : (Jvm.Cond.code ({ cls := "HyphenPatterns", name := "forget", desc := "()I" } : Jvm.MethodName) prog_1_method_9_code (3 : Nat) (Option.some Jvm.ClassFile.FieldType.int)) ∈ hy_T := hy_T_tab (List.mem_of_getElem? (i := 193) (by decide +kernel)) rfl
theorem tw_194 : (Jvm.Cond.methodLink "HyphenPatterns" (121 : Nat) ({ cls := "java/util/ArrayList", name := "size", desc := "()I" } : Jvm.MethodName)) ∈ hy_T := hy_T_tab (List.mem_of_getElem? (i := 194) (by decide +kernel)) rfl
theorem tw_195 : (Jvm.Cond.instanceMethod ({ cls := "java/util/ArrayList", name := "size", desc := "()I" } : Jvm.MethodName)) ∈ hy_T := hy_T_tab (List.mem_of_getElem? (i := 195) (by decide +kernel)) rfl
theorem tw_196 : (Jvm.Cond.selects "java/util/ArrayList" ({ cls := "java/util/ArrayList", name := "size", desc := "()I" } : Jvm.MethodName) ({ cls := "java/util/ArrayList", name := "size", desc := "()I" } : Jvm.MethodName)) ∈ hy_T := hy_T_tab (List.mem_of_getElem? (i := 196) (by decide +kernel)) rfl
theorem tw_197 : (Jvm.Cond.code ({ cls := "java/util/ArrayList", name := "size", desc := "()I" } : Jvm.MethodName) prog_23_method_8_code (1 : Nat) (Option.some Jvm.ClassFile.FieldType.int)) ∈ hy_T := hy_T_tab (List.mem_of_getElem? (i := 197) (by decide +kernel)) rfl
theorem tw_198 : (Jvm.Cond.methodLink "HyphenPatterns" (126 : Nat) ({ cls := "java/util/ArrayList", name := "clear", desc := "()V" } : Jvm.MethodName)) ∈ hy_T := hy_T_tab (List.mem_of_getElem? (i := 198) (by decide +kernel)) rfl
theorem tw_199 : (Jvm.Cond.instanceMethod ({ cls := "java/util/ArrayList", name := "clear", desc := "()V" } : Jvm.MethodName)) ∈ hy_T := hy_T_tab (List.mem_of_getElem? (i := 199) (by decide +kernel)) rfl
theorem tw_200 : (Jvm.Cond.selects "java/util/ArrayList" ({ cls := "java/util/ArrayList", name := "clear", desc := "()V" } : Jvm.MethodName) ({ cls := "java/util/ArrayList", name := "clear", desc := "()V" } : Jvm.MethodName)) ∈ hy_T := hy_T_tab (List.mem_of_getElem? (i := 200) (by decide +kernel)) rfl
theorem tw_201 : (Jvm.Cond.code ({ cls := "java/util/ArrayList", name := "clear", desc := "()V" } : Jvm.MethodName) prog_23_method_40_code (4 : Nat) (Option.none : Option Jvm.ClassFile.FieldType)) ∈ hy_T := hy_T_tab (List.mem_of_getElem? (i := 201) (by decide +kernel)) rfl
theorem tw_202 : (Jvm.Cond.methodLink "HyphenPatternsLaw" (91 : Nat) ({ cls := "HyphenPatterns", name := "clear", desc := "()I" } : Jvm.MethodName)) ∈ hy_T := hy_T_tab (List.mem_of_getElem? (i := 202) (by decide +kernel)) rfl
theorem tw_203 : (Jvm.Cond.instanceMethod ({ cls := "HyphenPatterns", name := "clear", desc := "()I" } : Jvm.MethodName)) ∈ hy_T := hy_T_tab (List.mem_of_getElem? (i := 203) (by decide +kernel)) rfl
theorem tw_204 : (Jvm.Cond.selects "HyphenPatterns" ({ cls := "HyphenPatterns", name := "clear", desc := "()I" } : Jvm.MethodName) ({ cls := "HyphenPatterns", name := "clear", desc := "()I" } : Jvm.MethodName)) ∈ hy_T := hy_T_tab (List.mem_of_getElem? (i := 204) (by decide +kernel)) rfl
theorem tw_205 : (Jvm.Cond.code ({ cls := "HyphenPatterns", name := "clear", desc := "()I" } : Jvm.MethodName) prog_1_method_11_code (1 : Nat) (Option.some Jvm.ClassFile.FieldType.int)) ∈ hy_T := hy_T_tab (List.mem_of_getElem? (i := 205) (by decide +kernel)) rfl
theorem tw_206 : (Jvm.Cond.methodLink "HyphenPatternsLaw" (101 : Nat) ({ cls := "HyphenPatterns", name := "word", desc := "(IZ)I" } : Jvm.MethodName)) ∈ hy_T := hy_T_tab (List.mem_of_getElem? (i := 206) (by decide +kernel)) rfl
theorem tw_207 : (Jvm.Cond.instanceMethod ({ cls := "HyphenPatterns", name := "word", desc := "(IZ)I" } : Jvm.MethodName)) ∈ hy_T := hy_T_tab (List.mem_of_getElem? (i := 207) (by decide +kernel)) rfl
theorem tw_208 : (Jvm.Cond.selects "HyphenPatterns" ({ cls := "HyphenPatterns", name := "word", desc := "(IZ)I" } : Jvm.MethodName) ({ cls := "HyphenPatterns", name := "word", desc := "(IZ)I" } : Jvm.MethodName)) ∈ hy_T := hy_T_tab (List.mem_of_getElem? (i := 208) (by decide +kernel)) rfl
theorem tw_209 : (Jvm.Cond.code ({ cls := "HyphenPatterns", name := "word", desc := "(IZ)I" } : Jvm.MethodName) prog_1_method_14_code (5 : Nat) (Option.some Jvm.ClassFile.FieldType.int)) ∈ hy_T := hy_T_tab (List.mem_of_getElem? (i := 209) (by decide +kernel)) rfl
theorem tw_210 : (Jvm.Cond.methodLink "HyphenPatterns" (151 : Nat) ({ cls := "HyphenPatterns", name := "startsWord", desc := "(I)Z" } : Jvm.MethodName)) ∈ hy_T := hy_T_tab (List.mem_of_getElem? (i := 210) (by decide +kernel)) rfl
theorem tw_212 : (Jvm.Cond.instanceMethod ({ cls := "HyphenPatterns", name := "startsWord", desc := "(I)Z" } : Jvm.MethodName)) ∈ hy_T := hy_T_tab (List.mem_of_getElem? (i := 212) (by decide +kernel)) rfl
theorem tw_213 : (Jvm.Cond.code ({ cls := "HyphenPatterns", name := "startsWord", desc := "(I)Z" } : Jvm.MethodName) prog_1_method_22_code (2 : Nat) (Option.some Jvm.ClassFile.FieldType.boolean)) ∈ hy_T := hy_T_tab (List.mem_of_getElem? (i := 213) (by decide +kernel)) rfl
theorem tw_214 : (Jvm.Cond.methodLink "HyphenPatterns" (206 : Nat) ({ cls := "HyphenPatterns", name := "isLetterAt", desc := "(I)Z" } : Jvm.MethodName)) ∈ hy_T := hy_T_tab (List.mem_of_getElem? (i := 214) (by decide +kernel)) rfl
theorem tw_216 : (Jvm.Cond.instanceMethod ({ cls := "HyphenPatterns", name := "isLetterAt", desc := "(I)Z" } : Jvm.MethodName)) ∈ hy_T := hy_T_tab (List.mem_of_getElem? (i := 216) (by decide +kernel)) rfl
theorem tw_217 : (Jvm.Cond.code ({ cls := "HyphenPatterns", name := "isLetterAt", desc := "(I)Z" } : Jvm.MethodName) prog_1_method_21_code (2 : Nat) (Option.some Jvm.ClassFile.FieldType.boolean)) ∈ hy_T := hy_T_tab (List.mem_of_getElem? (i := 217) (by decide +kernel)) rfl
theorem tw_218 : (Jvm.Cond.methodLink "HyphenPatterns" (203 : Nat) ({ cls := "HyphenPatterns$Language", name := "letterOf", desc := "(I)I" } : Jvm.MethodName)) ∈ hy_T := hy_T_tab (List.mem_of_getElem? (i := 218) (by decide +kernel)) rfl
theorem tw_219 : (Jvm.Cond.instanceMethod ({ cls := "HyphenPatterns$Language", name := "letterOf", desc := "(I)I" } : Jvm.MethodName)) ∈ hy_T := hy_T_tab (List.mem_of_getElem? (i := 219) (by decide +kernel)) rfl
theorem tw_220 : (Jvm.Cond.selects "HyphenPatterns$Language" ({ cls := "HyphenPatterns$Language", name := "letterOf", desc := "(I)I" } : Jvm.MethodName) ({ cls := "HyphenPatterns$Language", name := "letterOf", desc := "(I)I" } : Jvm.MethodName)) ∈ hy_T := hy_T_tab (List.mem_of_getElem? (i := 220) (by decide +kernel)) rfl
theorem tw_221 : (Jvm.Cond.code ({ cls := "HyphenPatterns$Language", name := "letterOf", desc := "(I)I" } : Jvm.MethodName) prog_3_method_3_code (3 : Nat) (Option.some Jvm.ClassFile.FieldType.int)) ∈ hy_T := hy_T_tab (List.mem_of_getElem? (i := 221) (by decide +kernel)) rfl
theorem tw_222 : (Jvm.Cond.methodLink "HyphenPatterns" (154 : Nat) ({ cls := "HyphenPatterns", name := "wordEnd", desc := "(I)I" } : Jvm.MethodName)) ∈ hy_T := hy_T_tab (List.mem_of_getElem? (i := 222) (by decide +kernel)) rfl
theorem tw_224 : (Jvm.Cond.instanceMethod ({ cls := "HyphenPatterns", name := "wordEnd", desc := "(I)I" } : Jvm.MethodName)) ∈ hy_T := hy_T_tab (List.mem_of_getElem? (i := 224) (by decide +kernel)) rfl
theorem tw_225 : (Jvm.Cond.code ({ cls := "HyphenPatterns", name := "wordEnd", desc := "(I)I" } : Jvm.MethodName) prog_1_method_25_code (3 : Nat) (Option.some Jvm.ClassFile.FieldType.int)) ∈ hy_T := hy_T_tab (List.mem_of_getElem? (i := 225) (by decide +kernel)) rfl
theorem tw_226 : (Jvm.Cond.methodLink "HyphenPatternsLaw" (106 : Nat) ({ cls := "HyphenPatterns", name := "count", desc := "(I)I" } : Jvm.MethodName)) ∈ hy_T := hy_T_tab (List.mem_of_getElem? (i := 226) (by decide +kernel)) rfl
theorem tw_227 : (Jvm.Cond.instanceMethod ({ cls := "HyphenPatterns", name := "count", desc := "(I)I" } : Jvm.MethodName)) ∈ hy_T := hy_T_tab (List.mem_of_getElem? (i := 227) (by decide +kernel)) rfl
theorem tw_228 : (Jvm.Cond.selects "HyphenPatterns" ({ cls := "HyphenPatterns", name := "count", desc := "(I)I" } : Jvm.MethodName) ({ cls := "HyphenPatterns", name := "count", desc := "(I)I" } : Jvm.MethodName)) ∈ hy_T := hy_T_tab (List.mem_of_getElem? (i := 228) (by decide +kernel)) rfl
theorem tw_229 : (Jvm.Cond.code ({ cls := "HyphenPatterns", name := "count", desc := "(I)I" } : Jvm.MethodName) prog_1_method_15_code (2 : Nat) (Option.some Jvm.ClassFile.FieldType.int)) ∈ hy_T := hy_T_tab (List.mem_of_getElem? (i := 229) (by decide +kernel)) rfl
theorem tw_230 : (Jvm.Cond.methodLink "HyphenPatterns" (157 : Nat) ({ cls := "HyphenPatterns", name := "countWords", desc := "()I" } : Jvm.MethodName)) ∈ hy_T := hy_T_tab (List.mem_of_getElem? (i := 230) (by decide +kernel)) rfl
theorem tw_232 : (Jvm.Cond.instanceMethod ({ cls := "HyphenPatterns", name := "countWords", desc := "()I" } : Jvm.MethodName)) ∈ hy_T := hy_T_tab (List.mem_of_getElem? (i := 232) (by decide +kernel)) rfl
theorem tw_233 : (Jvm.Cond.code ({ cls := "HyphenPatterns", name := "countWords", desc := "()I" } : Jvm.MethodName) prog_1_method_27_code (3 : Nat) (Option.some Jvm.ClassFile.FieldType.int)) ∈ hy_T := hy_T_tab (List.mem_of_getElem? (i := 233) (by decide +kernel)) rfl
theorem tw_234 : (Jvm.Cond.methodLink "HyphenPatterns" (160 : Nat) ({ cls := "HyphenPatterns", name := "countBreaks", desc := "()I" } : Jvm.MethodName)) ∈ hy_T := hy_T_tab (List.mem_of_getElem? (i := 234) (by decide +kernel)) rfl
theorem tw_236 : (Jvm.Cond.instanceMethod ({ cls := "HyphenPatterns", name := "countBreaks", desc := "()I" } : Jvm.MethodName)) ∈ hy_T := hy_T_tab (List.mem_of_getElem? (i := 236) (by decide +kernel)) rfl
theorem tw_237 : (Jvm.Cond.code ({ cls := "HyphenPatterns", name := "countBreaks", desc := "()I" } : Jvm.MethodName) prog_1_method_28_code (3 : Nat) (Option.some Jvm.ClassFile.FieldType.int)) ∈ hy_T := hy_T_tab (List.mem_of_getElem? (i := 237) (by decide +kernel)) rfl
theorem tw_238 : (Jvm.Cond.methodLink "HyphenPatterns" (140 : Nat) ({ cls := "HyphenPatterns", name := "readWord", desc := "(I)V" } : Jvm.MethodName)) ∈ hy_T := hy_T_tab (List.mem_of_getElem? (i := 238) (by decide +kernel)) rfl
theorem tw_240 : (Jvm.Cond.instanceMethod ({ cls := "HyphenPatterns", name := "readWord", desc := "(I)V" } : Jvm.MethodName)) ∈ hy_T := hy_T_tab (List.mem_of_getElem? (i := 240) (by decide +kernel)) rfl
theorem tw_241 : (Jvm.Cond.code ({ cls := "HyphenPatterns", name := "readWord", desc := "(I)V" } : Jvm.MethodName) prog_1_method_26_code (2 : Nat) (Option.none : Option Jvm.ClassFile.FieldType)) ∈ hy_T := hy_T_tab (List.mem_of_getElem? (i := 241) (by decide +kernel)) rfl
theorem tw_242 : (Jvm.Cond.methodLink "HyphenPatterns" (209 : Nat) ({ cls := "HyphenPatterns$Reading", name := "spell", desc := "([IIILHyphenPatterns$Language;)V" } : Jvm.MethodName)) ∈ hy_T := hy_T_tab (List.mem_of_getElem? (i := 242) (by decide +kernel)) rfl
theorem tw_243 : (Jvm.Cond.instanceMethod ({ cls := "HyphenPatterns$Reading", name := "spell", desc := "([IIILHyphenPatterns$Language;)V" } : Jvm.MethodName)) ∈ hy_T := hy_T_tab (List.mem_of_getElem? (i := 243) (by decide +kernel)) rfl
theorem tw_244 : (Jvm.Cond.selects "HyphenPatterns$Reading" ({ cls := "HyphenPatterns$Reading", name := "spell", desc := "([IIILHyphenPatterns$Language;)V" } : Jvm.MethodName) ({ cls := "HyphenPatterns$Reading", name := "spell", desc := "([IIILHyphenPatterns$Language;)V" } : Jvm.MethodName)) ∈ hy_T := hy_T_tab (List.mem_of_getElem? (i := 244) (by decide +kernel)) rfl
theorem tw_245 : (Jvm.Cond.code ({ cls := "HyphenPatterns$Reading", name := "spell", desc := "([IIILHyphenPatterns$Language;)V" } : Jvm.MethodName) prog_5_method_2_code (6 : Nat) (Option.none : Option Jvm.ClassFile.FieldType)) ∈ hy_T := hy_T_tab (List.mem_of_getElem? (i := 245) (by decide +kernel)) rfl
theorem tw_246 : (Jvm.Cond.methodLink "HyphenPatterns$Reading" (28 : Nat) ({ cls := "HyphenPatterns$Language", name := "letterOf", desc := "(I)I" } : Jvm.MethodName)) ∈ hy_T := hy_T_tab (List.mem_of_getElem? (i := 246) (by decide +kernel)) rfl
theorem tw_247 : (Jvm.Cond.methodLink "HyphenPatterns" (213 : Nat) ({ cls := "HyphenPatterns$Reading", name := "weigh", desc := "(LHyphenPatterns$Language;)V" } : Jvm.MethodName)) ∈ hy_T := hy_T_tab (List.mem_of_getElem? (i := 247) (by decide +kernel)) rfl
theorem tw_248 : (Jvm.Cond.instanceMethod ({ cls := "HyphenPatterns$Reading", name := "weigh", desc := "(LHyphenPatterns$Language;)V" } : Jvm.MethodName)) ∈ hy_T := hy_T_tab (List.mem_of_getElem? (i := 248) (by decide +kernel)) rfl
theorem tw_249 : (Jvm.Cond.selects "HyphenPatterns$Reading" ({ cls := "HyphenPatterns$Reading", name := "weigh", desc := "(LHyphenPatterns$Language;)V" } : Jvm.MethodName) ({ cls := "HyphenPatterns$Reading", name := "weigh", desc := "(LHyphenPatterns$Language;)V" } : Jvm.MethodName)) ∈ hy_T := hy_T_tab (List.mem_of_getElem? (i := 249) (by decide +kernel)) rfl
theorem tw_250 : (Jvm.Cond.code ({ cls := "HyphenPatterns$Reading", name := "weigh", desc := "(LHyphenPatterns$Language;)V" } : Jvm.MethodName) prog_5_method_3_code (4 : Nat) (Option.none : Option Jvm.ClassFile.FieldType)) ∈ hy_T := hy_T_tab (List.mem_of_getElem? (i := 250) (by decide +kernel)) rfl
theorem tw_251 : (Jvm.Cond.methodLink "HyphenPatterns$Reading" (34 : Nat) ({ cls := "java/util/Arrays", name := "fill", desc := "([II)V" } : Jvm.MethodName)) ∈ hy_T := hy_T_tab (List.mem_of_getElem? (i := 251) (by decide +kernel)) rfl
theorem tw_252 : (Jvm.Cond.static ({ cls := "java/util/Arrays", name := "fill", desc := "([II)V" } : Jvm.MethodName)) ∈ hy_T := hy_T_tab (List.mem_of_getElem? (i := 252) (by decide +kernel)) rfl
theorem tw_253 : (Jvm.Cond.code ({ cls := "java/util/Arrays", name := "fill", desc := "([II)V" } : Jvm.MethodName) prog_24_method_103_code (4 : Nat) (Option.none : Option Jvm.ClassFile.FieldType)) ∈ hy_T := hy_T_tab (List.mem_of_getElem? (i := 253) (by decide +kernel)) rfl
theorem tw_255 : (Jvm.Cond.static ({ cls := "HyphenPatterns", name := "indexOfRule", desc := "(Ljava/util/ArrayList;[III)I" } : Jvm.MethodName)) ∈ hy_T := hy_T_tab (List.mem_of_getElem? (i := 255) (by decide +kernel)) rfl
theorem tw_256 : (Jvm.Cond.code ({ cls := "HyphenPatterns", name := "indexOfRule", desc := "(Ljava/util/ArrayList;[III)I" } : Jvm.MethodName) prog_1_method_20_code (6 : Nat) (Option.some Jvm.ClassFile.FieldType.int)) ∈ hy_T := hy_T_tab (List.mem_of_getElem? (i := 256) (by decide +kernel)) rfl
theorem tw_257 : (Jvm.Cond.methodLink "HyphenPatterns" (189 : Nat) ({ cls := "java/util/ArrayList", name := "get", desc := "(I)Ljava/lang/Object;" } : Jvm.MethodName)) ∈ hy_T := hy_T_tab (List.mem_of_getElem? (i := 257) (by decide +kernel)) rfl
theorem tw_258 : (Jvm.Cond.instanceMethod ({ cls := "java/util/ArrayList", name := "get", desc := "(I)Ljava/lang/Object;" } : Jvm.MethodName)) ∈ hy_T := hy_T_tab (List.mem_of_getElem? (i := 258) (by decide +kernel)) rfl
theorem tw_259 : (Jvm.Cond.selects "java/util/ArrayList" ({ cls := "java/util/ArrayList", name := "get", desc := "(I)Ljava/lang/Object;" } : Jvm.MethodName) ({ cls := "java/util/ArrayList", name := "get", desc := "(I)Ljava/lang/Object;" } : Jvm.MethodName)) ∈ hy_T := hy_T_tab (List.mem_of_getElem? (i := 259) (by decide +kernel)) rfl
theorem tw_260 : (Jvm.Cond.code ({ cls := "java/util/ArrayList", name := "get", desc := "(I)Ljava/lang/Object;" } : Jvm.MethodName) prog_23_method_20_code (2 : Nat) (Option.some (Jvm.ClassFile.FieldType.object "java/lang/Object"))) ∈ hy_T := hy_T_tab (List.mem_of_getElem? (i := 260) (by decide +kernel)) rfl
theorem tw_261 : (Jvm.Cond.methodLink "java/util/ArrayList" (118 : Nat) ({ cls := "java/util/Objects", name := "checkIndex", desc := "(II)I" } : Jvm.MethodName)) ∈ hy_T := hy_T_tab (List.mem_of_getElem? (i := 261) (by decide +kernel)) rfl
theorem tw_262 : (Jvm.Cond.static ({ cls := "java/util/Objects", name := "checkIndex", desc := "(II)I" } : Jvm.MethodName)) ∈ hy_T := hy_T_tab (List.mem_of_getElem? (i := 262) (by decide +kernel)) rfl
theorem tw_263 : (Jvm.Cond.code ({ cls := "java/util/Objects", name := "checkIndex", desc := "(II)I" } : Jvm.MethodName) prog_27_method_17_code (2 : Nat) (Option.some Jvm.ClassFile.FieldType.int)) ∈ hy_T := hy_T_tab (List.mem_of_getElem? (i := 263) (by decide +kernel)) rfl
theorem tw_264 : (Jvm.Cond.methodLink "java/util/Objects" (105 : Nat) ({ cls := "jdk/internal/util/Preconditions", name := "checkIndex", desc := "(IILjava/util/function/BiFunction;)I" } : Jvm.MethodName)) ∈ hy_T := hy_T_tab (List.mem_of_getElem? (i := 264) (by decide +kernel)) rfl
theorem tw_265 : (Jvm.Cond.static ({ cls := "jdk/internal/util/Preconditions", name := "checkIndex", desc := "(IILjava/util/function/BiFunction;)I" } : Jvm.MethodName)) ∈ hy_T := hy_T_tab (List.mem_of_getElem? (i := 265) (by decide +kernel)) rfl
theorem tw_266 : (Jvm.Cond.code ({ cls := "jdk/internal/util/Preconditions", name := "checkIndex", desc := "(IILjava/util/function/BiFunction;)I" } : Jvm.MethodName) prog_31_method_11_code (3 : Nat) (Option.some Jvm.ClassFile.FieldType.int)) ∈ hy_T := hy_T_tab (List.mem_of_getElem? (i := 266) (by decide +kernel)) rfl
theorem tw_267 : (Jvm.Cond.methodLink "java/util/ArrayList" (123 : Nat) ({ cls := "java/util/ArrayList", name := "elementData", desc := "(I)Ljava/lang/Object;" } : Jvm.MethodName)) ∈ hy_T := hy_T_tab (List.mem_of_getElem? (i := 267) (by decide +kernel)) rfl
theorem tw_268 : (Jvm.Cond.instanceMethod ({ cls := "java/util/ArrayList", name := "elementData", desc := "(I)Ljava/lang/Object;" } : Jvm.MethodName)) ∈ hy_T := hy_T_tab (List.mem_of_getElem? (i := 268) (by decide +kernel)) rfl
theorem tw_269 : (Jvm.Cond.selects "java/util/ArrayList" ({ cls := "java/util/ArrayList", name := "elementData", desc := "(I)Ljava/lang/Object;" } : Jvm.MethodName) ({ cls := "java/util/ArrayList", name := "elementData", desc := "(I)Ljava/lang/Object;" } : Jvm.MethodName)) ∈ hy_T := hy_T_tab (List.mem_of_getElem? (i := 269) (by decide +kernel)) rfl
theorem tw_270 : (Jvm.Cond.code ({ cls := "java/util/ArrayList", name := "elementData", desc := "(I)Ljava/lang/Object;" } : Jvm.MethodName) prog_23_method_18_code (2 : Nat) (Option.some (Jvm.ClassFile.FieldType.object "java/lang/Object"))) ∈ hy_T := hy_T_tab (List.mem_of_getElem? (i := 270) (by decide +kernel)) rfl
theorem tw_271 : (Jvm.Cond.classLink "HyphenPatterns" (193 : Nat) "HyphenPatterns$Rule") ∈ hy_T := hy_T_tab (List.mem_of_getElem? (i := 271) (by decide +kernel)) rfl
theorem tw_272 : (Jvm.Cond.methodLink "HyphenPatterns" (196 : Nat) ({ cls := "HyphenPatterns$Rule", name := "standsAt", desc := "([II)Z" } : Jvm.MethodName)) ∈ hy_T := hy_T_tab (List.mem_of_getElem? (i := 272) (by decide +kernel)) rfl
theorem tw_273 : (Jvm.Cond.instanceMethod ({ cls := "HyphenPatterns$Rule", name := "standsAt", desc := "([II)Z" } : Jvm.MethodName)) ∈ hy_T := hy_T_tab (List.mem_of_getElem? (i := 273) (by decide +kernel)) rfl
theorem tw_274 : (Jvm.Cond.selects "HyphenPatterns$Rule" ({ cls := "HyphenPatterns$Rule", name := "standsAt", desc := "([II)Z" } : Jvm.MethodName) ({ cls := "HyphenPatterns$Rule", name := "standsAt", desc := "([II)Z" } : Jvm.MethodName)) ∈ hy_T := hy_T_tab (List.mem_of_getElem? (i := 274) (by decide +kernel)) rfl
theorem tw_275 : (Jvm.Cond.code ({ cls := "HyphenPatterns$Rule", name := "standsAt", desc := "([II)Z" } : Jvm.MethodName) prog_6_method_2_code (4 : Nat) (Option.some Jvm.ClassFile.FieldType.boolean)) ∈ hy_T := hy_T_tab (List.mem_of_getElem? (i := 275) (by decide +kernel)) rfl
theorem tw_276 : (Jvm.Cond.methodLink "HyphenPatterns$Reading" (48 : Nat) ({ cls := "java/util/ArrayList", name := "get", desc := "(I)Ljava/lang/Object;" } : Jvm.MethodName)) ∈ hy_T := hy_T_tab (List.mem_of_getElem? (i := 276) (by decide +kernel)) rfl
theorem tw_277 : (Jvm.Cond.classLink "HyphenPatterns$Reading" (54 : Nat) "HyphenPatterns$Rule") ∈ hy_T := hy_T_tab (List.mem_of_getElem? (i := 277) (by decide +kernel)) rfl
theorem tw_278 : (Jvm.Cond.methodLink "HyphenPatterns$Reading" (56 : Nat) ({ cls := "HyphenPatterns$Reading", name := "lay", desc := "(LHyphenPatterns$Rule;I)V" } : Jvm.MethodName)) ∈ hy_T := hy_T_tab (List.mem_of_getElem? (i := 278) (by decide +kernel)) rfl
theorem tw_280 : (Jvm.Cond.instanceMethod ({ cls := "HyphenPatterns$Reading", name := "lay", desc := "(LHyphenPatterns$Rule;I)V" } : Jvm.MethodName)) ∈ hy_T := hy_T_tab (List.mem_of_getElem? (i := 280) (by decide +kernel)) rfl
theorem tw_281 : (Jvm.Cond.code ({ cls := "HyphenPatterns$Reading", name := "lay", desc := "(LHyphenPatterns$Rule;I)V" } : Jvm.MethodName) prog_5_method_8_code (4 : Nat) (Option.none : Option Jvm.ClassFile.FieldType)) ∈ hy_T := hy_T_tab (List.mem_of_getElem? (i := 281) (by decide +kernel)) rfl
theorem tw_282 : (Jvm.Cond.methodLink "HyphenPatterns$Reading" (94 : Nat) ({ cls := "java/lang/Math", name := "max", desc := "(II)I" } : Jvm.MethodName)) ∈ hy_T := hy_T_tab (List.mem_of_getElem? (i := 282) (by decide +kernel)) rfl
theorem tw_283 : (Jvm.Cond.static ({ cls := "java/lang/Math", name := "max", desc := "(II)I" } : Jvm.MethodName)) ∈ hy_T := hy_T_tab (List.mem_of_getElem? (i := 283) (by decide +kernel)) rfl
theorem tw_284 : (Jvm.Cond.code ({ cls := "java/lang/Math", name := "max", desc := "(II)I" } : Jvm.MethodName) prog_16_method_65_code (2 : Nat) (Option.some Jvm.ClassFile.FieldType.int)) ∈ hy_T := hy_T_tab (List.mem_of_getElem? (i := 284) (by decide +kernel)) rfl
theorem tw_285 : (Jvm.Cond.methodLink "HyphenPatterns$Reading" (63 : Nat) ({ cls := "java/util/ArrayList", name := "size", desc := "()I" } : Jvm.MethodName)) ∈ hy_T := hy_T_tab (List.mem_of_getElem? (i := 285) (by decide +kernel)) rfl
theorem tw_286 : (Jvm.Cond.methodLink "HyphenPatterns$Reading" (67 : Nat) ({ cls := "HyphenPatterns$Reading", name := "layEverywhere", desc := "(LHyphenPatterns$Rule;)V" } : Jvm.MethodName)) ∈ hy_T := hy_T_tab (List.mem_of_getElem? (i := 286) (by decide +kernel)) rfl
theorem tw_288 : (Jvm.Cond.instanceMethod ({ cls := "HyphenPatterns$Reading", name := "layEverywhere", desc := "(LHyphenPatterns$Rule;)V" } : Jvm.MethodName)) ∈ hy_T := hy_T_tab (List.mem_of_getElem? (i := 288) (by decide +kernel)) rfl
theorem tw_289 : (Jvm.Cond.code ({ cls := "HyphenPatterns$Reading", name := "layEverywhere", desc := "(LHyphenPatterns$Rule;)V" } : Jvm.MethodName) prog_5_method_7_code (4 : Nat) (Option.none : Option Jvm.ClassFile.FieldType)) ∈ hy_T := hy_T_tab (List.mem_of_getElem? (i := 289) (by decide +kernel)) rfl
theorem tw_290 : (Jvm.Cond.methodLink "HyphenPatterns$Reading" (87 : Nat) ({ cls := "HyphenPatterns$Rule", name := "standsAt", desc := "([II)Z" } : Jvm.MethodName)) ∈ hy_T := hy_T_tab (List.mem_of_getElem? (i := 290) (by decide +kernel)) rfl
theorem tw_291 : (Jvm.Cond.methodLink "HyphenPatterns" (217 : Nat) ({ cls := "HyphenPatterns$Reading", name := "breakCount", desc := "(LHyphenPatterns$Language;)I" } : Jvm.MethodName)) ∈ hy_T := hy_T_tab (List.mem_of_getElem? (i := 291) (by decide +kernel)) rfl
theorem tw_292 : (Jvm.Cond.instanceMethod ({ cls := "HyphenPatterns$Reading", name := "breakCount", desc := "(LHyphenPatterns$Language;)I" } : Jvm.MethodName)) ∈ hy_T := hy_T_tab (List.mem_of_getElem? (i := 292) (by decide +kernel)) rfl
theorem tw_293 : (Jvm.Cond.selects "HyphenPatterns$Reading" ({ cls := "HyphenPatterns$Reading", name := "breakCount", desc := "(LHyphenPatterns$Language;)I" } : Jvm.MethodName) ({ cls := "HyphenPatterns$Reading", name := "breakCount", desc := "(LHyphenPatterns$Language;)I" } : Jvm.MethodName)) ∈ hy_T := hy_T_tab (List.mem_of_getElem? (i := 293) (by decide +kernel)) rfl
theorem tw_294 : (Jvm.Cond.code ({ cls := "HyphenPatterns$Reading", name := "breakCount", desc := "(LHyphenPatterns$Language;)I" } : Jvm.MethodName) prog_5_method_6_code (4 : Nat) (Option.some Jvm.ClassFile.FieldType.int)) ∈ hy_T := hy_T_tab (List.mem_of_getElem? (i := 294) (by decide +kernel)) rfl
theorem tw_295 : (Jvm.Cond.methodLink "HyphenPatterns$Reading" (80 : Nat) ({ cls := "HyphenPatterns$Reading", name := "canBreakAt", desc := "(ILHyphenPatterns$Language;)Z" } : Jvm.MethodName)) ∈ hy_T := hy_T_tab (List.mem_of_getElem? (i := 295) (by decide +kernel)) rfl
theorem tw_296 : (Jvm.Cond.instanceMethod ({ cls := "HyphenPatterns$Reading", name := "canBreakAt", desc := "(ILHyphenPatterns$Language;)Z" } : Jvm.MethodName)) ∈ hy_T := hy_T_tab (List.mem_of_getElem? (i := 296) (by decide +kernel)) rfl
theorem tw_297 : (Jvm.Cond.selects "HyphenPatterns$Reading" ({ cls := "HyphenPatterns$Reading", name := "canBreakAt", desc := "(ILHyphenPatterns$Language;)Z" } : Jvm.MethodName) ({ cls := "HyphenPatterns$Reading", name := "canBreakAt", desc := "(ILHyphenPatterns$Language;)Z" } : Jvm.MethodName)) ∈ hy_T := hy_T_tab (List.mem_of_getElem? (i := 297) (by decide +kernel)) rfl
theorem tw_298 : (Jvm.Cond.code ({ cls := "HyphenPatterns$Reading", name := "canBreakAt", desc := "(ILHyphenPatterns$Language;)Z" } : Jvm.MethodName) prog_5_method_5_code (4 : Nat) (Option.some Jvm.ClassFile.FieldType.boolean)) ∈ hy_T := hy_T_tab (List.mem_of_getElem? (i := 298) (by decide +kernel)) rfl
theorem tw_299 : (Jvm.Cond.methodLink "HyphenPatterns$Reading" (71 : Nat) ({ cls := "HyphenPatterns$Reading", name := "weightAt", desc := "(I)I" } : Jvm.MethodName)) ∈ hy_T := hy_T_tab (List.mem_of_getElem? (i := 299) (by decide +kernel)) rfl
theorem tw_300 : (Jvm.Cond.instanceMethod ({ cls := "HyphenPatterns$Reading", name := "weightAt", desc := "(I)I" } : Jvm.MethodName)) ∈ hy_T := hy_T_tab (List.mem_of_getElem? (i := 300) (by decide +kernel)) rfl
theorem tw_301 : (Jvm.Cond.selects "HyphenPatterns$Reading" ({ cls := "HyphenPatterns$Reading", name := "weightAt", desc := "(I)I" } : Jvm.MethodName) ({ cls := "HyphenPatterns$Reading", name := "weightAt", desc := "(I)I" } : Jvm.MethodName)) ∈ hy_T := hy_T_tab (List.mem_of_getElem? (i := 301) (by decide +kernel)) rfl
theorem tw_302 : (Jvm.Cond.code ({ cls := "HyphenPatterns$Reading", name := "weightAt", desc := "(I)I" } : Jvm.MethodName) prog_5_method_4_code (3 : Nat) (Option.some Jvm.ClassFile.FieldType.int)) ∈ hy_T := hy_T_tab (List.mem_of_getElem? (i := 302) (by decide +kernel)) rfl
theorem tw_303 : (Jvm.Cond.methodLink "HyphenPatterns" (163 : Nat) ({ cls := "HyphenPatterns", name := "countMatches", desc := "()I" } : Jvm.MethodName)) ∈ hy_T := hy_T_tab (List.mem_of_getElem? (i := 303) (by decide +kernel)) rfl
theorem tw_305 : (Jvm.Cond.instanceMethod ({ cls := "HyphenPatterns", name := "countMatches", desc := "()I" } : Jvm.MethodName)) ∈ hy_T := hy_T_tab (List.mem_of_getElem? (i := 305) (by decide +kernel)) rfl
theorem tw_306 : (Jvm.Cond.code ({ cls := "HyphenPatterns", name := "countMatches", desc := "()I" } : Jvm.MethodName) prog_1_method_29_code (3 : Nat) (Option.some Jvm.ClassFile.FieldType.int)) ∈ hy_T := hy_T_tab (List.mem_of_getElem? (i := 306) (by decide +kernel)) rfl
theorem tw_307 : (Jvm.Cond.methodLink "HyphenPatternsLaw" (52 : Nat) ({ cls := "HyphenPatternsLaw", name := "choose", desc := "(LHyphenPatterns;I[J)I" } : Jvm.MethodName)) ∈ hy_T := hy_T_tab (List.mem_of_getElem? (i := 307) (by decide +kernel)) rfl
theorem tw_308 : (Jvm.Cond.static ({ cls := "HyphenPatternsLaw", name := "choose", desc := "(LHyphenPatterns;I[J)I" } : Jvm.MethodName)) ∈ hy_T := hy_T_tab (List.mem_of_getElem? (i := 308) (by decide +kernel)) rfl
theorem tw_309 : (Jvm.Cond.codeWith ({ cls := "HyphenPatternsLaw", name := "choose", desc := "(LHyphenPatterns;I[J)I" } : Jvm.MethodName) method_3_code (4 : Nat) (Option.some Jvm.ClassFile.FieldType.int) [((0 : Nat), (9 : Nat), (12 : Nat), (13 : Nat))]) ∈ hy_T := hy_T_tab (List.mem_of_getElem? (i := 309) (by decide +kernel)) rfl
theorem tw_310 : (Jvm.Cond.classLink "HyphenPatternsLaw" (13 : Nat) "java/lang/IndexOutOfBoundsException") ∈ hy_T := hy_T_tab (List.mem_of_getElem? (i := 310) (by decide +kernel)) rfl
theorem tw_311 : (Jvm.Cond.methodLink "HyphenPatternsLaw" (7 : Nat) ({ cls := "HyphenPatterns", name := "choose", desc := "(I)I" } : Jvm.MethodName)) ∈ hy_T := hy_T_tab (List.mem_of_getElem? (i := 311) (by decide +kernel)) rfl
theorem tw_312 : (Jvm.Cond.instanceMethod ({ cls := "HyphenPatterns", name := "choose", desc := "(I)I" } : Jvm.MethodName)) ∈ hy_T := hy_T_tab (List.mem_of_getElem? (i := 312) (by decide +kernel)) rfl
theorem tw_313 : (Jvm.Cond.selects "HyphenPatterns" ({ cls := "HyphenPatterns", name := "choose", desc := "(I)I" } : Jvm.MethodName) ({ cls := "HyphenPatterns", name := "choose", desc := "(I)I" } : Jvm.MethodName)) ∈ hy_T := hy_T_tab (List.mem_of_getElem? (i := 313) (by decide +kernel)) rfl
theorem tw_314 : (Jvm.Cond.code ({ cls := "HyphenPatterns", name := "choose", desc := "(I)I" } : Jvm.MethodName) prog_1_method_2_code (3 : Nat) (Option.some Jvm.ClassFile.FieldType.int)) ∈ hy_T := hy_T_tab (List.mem_of_getElem? (i := 314) (by decide +kernel)) rfl
theorem tw_315 : (Jvm.Cond.classLink "HyphenPatterns" (46 : Nat) "java/lang/IndexOutOfBoundsException") ∈ hy_T := hy_T_tab (List.mem_of_getElem? (i := 315) (by decide +kernel)) rfl
theorem tw_316 : (Jvm.Cond.instantiable "java/lang/IndexOutOfBoundsException" (6 : Nat)) ∈ hy_T := hy_T_tab (List.mem_of_getElem? (i := 316) (by decide +kernel)) rfl
theorem tw_324 : (Jvm.Cond.selects "java/lang/IndexOutOfBoundsException" ({ cls := "java/lang/Throwable", name := "fillInStackTrace", desc := "(I)Ljava/lang/Throwable;" } : Jvm.MethodName) ({ cls := "java/lang/Throwable", name := "fillInStackTrace", desc := "(I)Ljava/lang/Throwable;" } : Jvm.MethodName)) ∈ hy_T := hy_T_tab (List.mem_of_getElem? (i := 324) (by decide +kernel)) rfl
theorem tw_325 : (Jvm.Cond.selects "java/lang/IndexOutOfBoundsException" ({ cls := "java/lang/Throwable", name := "fillInStackTrace", desc := "()Ljava/lang/Throwable;" } : Jvm.MethodName) ({ cls := "java/lang/Throwable", name := "fillInStackTrace", desc := "()Ljava/lang/Throwable;" } : Jvm.MethodName)) ∈ hy_T := hy_T_tab (List.mem_of_getElem? (i := 325) (by decide +kernel)) rfl
theorem tw_326 : (Jvm.Cond.lays "java/lang/IndexOutOfBoundsException" "java/lang/Throwable" "cause" "Ljava/lang/Throwable;") ∈ hy_T := hy_T_tab (List.mem_of_getElem? (i := 326) (by decide +kernel)) rfl
theorem tw_327 : (Jvm.Cond.lays "java/lang/Throwable" "java/lang/Throwable" "cause" "Ljava/lang/Throwable;") ∈ hy_T := hy_T_tab (List.mem_of_getElem? (i := 327) (by decide +kernel)) rfl
theorem tw_328 : (Jvm.Cond.lays "java/lang/IndexOutOfBoundsException" "java/lang/Throwable" "stackTrace" "[Ljava/lang/StackTraceElement;") ∈ hy_T := hy_T_tab (List.mem_of_getElem? (i := 328) (by decide +kernel)) rfl
theorem tw_329 : (Jvm.Cond.lays "java/lang/Throwable" "java/lang/Throwable" "stackTrace" "[Ljava/lang/StackTraceElement;") ∈ hy_T := hy_T_tab (List.mem_of_getElem? (i := 329) (by decide +kernel)) rfl
theorem tw_330 : (Jvm.Cond.lays "java/lang/IndexOutOfBoundsException" "java/lang/Throwable" "suppressedExceptions" "Ljava/util/List;") ∈ hy_T := hy_T_tab (List.mem_of_getElem? (i := 330) (by decide +kernel)) rfl
theorem tw_331 : (Jvm.Cond.lays "java/lang/Throwable" "java/lang/Throwable" "suppressedExceptions" "Ljava/util/List;") ∈ hy_T := hy_T_tab (List.mem_of_getElem? (i := 331) (by decide +kernel)) rfl
theorem tw_332 : (Jvm.Cond.lays "java/lang/IndexOutOfBoundsException" "java/lang/Throwable" "detailMessage" "Ljava/lang/String;") ∈ hy_T := hy_T_tab (List.mem_of_getElem? (i := 332) (by decide +kernel)) rfl
theorem tw_333 : (Jvm.Cond.lays "java/lang/Throwable" "java/lang/Throwable" "detailMessage" "Ljava/lang/String;") ∈ hy_T := hy_T_tab (List.mem_of_getElem? (i := 333) (by decide +kernel)) rfl
theorem tw_334 : (Jvm.Cond.lays "java/lang/IndexOutOfBoundsException" "java/lang/Throwable" "backtrace" "Ljava/lang/Object;") ∈ hy_T := hy_T_tab (List.mem_of_getElem? (i := 334) (by decide +kernel)) rfl
theorem tw_335 : (Jvm.Cond.lays "java/lang/Throwable" "java/lang/Throwable" "backtrace" "Ljava/lang/Object;") ∈ hy_T := hy_T_tab (List.mem_of_getElem? (i := 335) (by decide +kernel)) rfl
theorem tw_336 : (Jvm.Cond.fieldLink "java/lang/Throwable" (198 : Nat) "java/lang/Throwable" "backtrace" "Ljava/lang/Object;") ∈ hy_T := hy_T_tab (List.mem_of_getElem? (i := 336) (by decide +kernel)) rfl
theorem tw_337 : (Jvm.Cond.superclass "java/lang/Throwable" "java/lang/Object") ∈ hy_T := hy_T_tab (List.mem_of_getElem? (i := 337) (by decide +kernel)) rfl
theorem tw_338 : (Jvm.Cond.instanceMethod ({ cls := "java/lang/Throwable", name := "<init>", desc := "()V" } : Jvm.MethodName)) ∈ hy_T := hy_T_tab (List.mem_of_getElem? (i := 338) (by decide +kernel)) rfl
theorem tw_339 : (Jvm.Cond.code ({ cls := "java/lang/Throwable", name := "<init>", desc := "()V" } : Jvm.MethodName) prog_20_method_1_code (1 : Nat) (Option.none : Option Jvm.ClassFile.FieldType)) ∈ hy_T := hy_T_tab (List.mem_of_getElem? (i := 339) (by decide +kernel)) rfl
theorem tw_340 : (Jvm.Cond.methodLink "java/lang/Throwable" (1 : Nat) ({ cls := "java/lang/Object", name := "<init>", desc := "()V" } : Jvm.MethodName)) ∈ hy_T := hy_T_tab (List.mem_of_getElem? (i := 340) (by decide +kernel)) rfl
theorem tw_341 : (Jvm.Cond.fieldLink "java/lang/Throwable" (13 : Nat) "java/lang/Throwable" "UNASSIGNED_STACK" "[Ljava/lang/StackTraceElement;") ∈ hy_T := hy_T_tab (List.mem_of_getElem? (i := 341) (by decide +kernel)) rfl
theorem tw_343 : (Jvm.Cond.fieldLink "java/lang/Throwable" (20 : Nat) "java/lang/Throwable" "SUPPRESSED_SENTINEL" "Ljava/util/List;") ∈ hy_T := hy_T_tab (List.mem_of_getElem? (i := 343) (by decide +kernel)) rfl
theorem tw_345 : (Jvm.Cond.methodLink "java/lang/Throwable" (27 : Nat) ({ cls := "java/lang/Throwable", name := "fillInStackTrace", desc := "()Ljava/lang/Throwable;" } : Jvm.MethodName)) ∈ hy_T := hy_T_tab (List.mem_of_getElem? (i := 345) (by decide +kernel)) rfl
theorem tw_346 : (Jvm.Cond.instanceMethod ({ cls := "java/lang/Throwable", name := "fillInStackTrace", desc := "()Ljava/lang/Throwable;" } : Jvm.MethodName)) ∈ hy_T := hy_T_tab (List.mem_of_getElem? (i := 346) (by decide +kernel)) rfl
theorem tw_347 : (Jvm.Cond.sameMethod "java/lang/Throwable" "java/lang/Throwable" "fillInStackTrace" "()Ljava/lang/Throwable;") ∈ hy_T := hy_T_tab (List.mem_of_getElem? (i := 347) (by decide +kernel)) rfl
theorem tw_348 : (Jvm.Cond.selects "java/lang/IllegalArgumentException" ({ cls := "java/lang/Throwable", name := "fillInStackTrace", desc := "()Ljava/lang/Throwable;" } : Jvm.MethodName) ({ cls := "java/lang/Throwable", name := "fillInStackTrace", desc := "()Ljava/lang/Throwable;" } : Jvm.MethodName)) ∈ hy_T := hy_T_tab (List.mem_of_getElem? (i := 348) (by decide +kernel)) rfl
theorem tw_349 : (Jvm.Cond.selects "java/lang/IllegalStateException" ({ cls := "java/lang/Throwable", name := "fillInStackTrace", desc := "()Ljava/lang/Throwable;" } : Jvm.MethodName) ({ cls := "java/lang/Throwable", name := "fillInStackTrace", desc := "()Ljava/lang/Throwable;" } : Jvm.MethodName)) ∈ hy_T := hy_T_tab (List.mem_of_getElem? (i := 349) (by decide +kernel)) rfl
theorem tw_350 : (Jvm.Cond.codeSync ({ cls := "java/lang/Throwable", name := "fillInStackTrace", desc := "()Ljava/lang/Throwable;" } : Jvm.MethodName) prog_20_method_18_code (1 : Nat) (Option.some (Jvm.ClassFile.FieldType.object "java/lang/Throwable"))) ∈ hy_T := hy_T_tab (List.mem_of_getElem? (i := 350) (by decide +kernel)) rfl
theorem tw_351 : (Jvm.Cond.methodLink "java/lang/Throwable" (202 : Nat) ({ cls := "java/lang/Throwable", name := "fillInStackTrace", desc := "(I)Ljava/lang/Throwable;" } : Jvm.MethodName)) ∈ hy_T := hy_T_tab (List.mem_of_getElem? (i := 351) (by decide +kernel)) rfl
theorem tw_353 : (Jvm.Cond.instanceMethod ({ cls := "java/lang/Throwable", name := "fillInStackTrace", desc := "(I)Ljava/lang/Throwable;" } : Jvm.MethodName)) ∈ hy_T := hy_T_tab (List.mem_of_getElem? (i := 353) (by decide +kernel)) rfl
theorem tw_354 : (Jvm.Cond.instantiable "java/lang/Throwable" (6 : Nat)) ∈ hy_T := hy_T_tab (List.mem_of_getElem? (i := 354) (by decide +kernel)) rfl
theorem tw_355 : (Jvm.Cond.native ({ cls := "java/lang/Throwable", name := "fillInStackTrace", desc := "(I)Ljava/lang/Throwable;" } : Jvm.MethodName)) ∈ hy_T := hy_T_tab (List.mem_of_getElem? (i := 355) (by decide +kernel)) rfl
theorem tw_357 : (Jvm.Cond.methodLink "HyphenPatterns" (50 : Nat) ({ cls := "java/lang/IndexOutOfBoundsException", name := "<init>", desc := "(Ljava/lang/String;)V" } : Jvm.MethodName)) ∈ hy_T := hy_T_tab (List.mem_of_getElem? (i := 357) (by decide +kernel)) rfl
theorem tw_358 : (Jvm.Cond.instanceMethod ({ cls := "java/lang/IndexOutOfBoundsException", name := "<init>", desc := "(Ljava/lang/String;)V" } : Jvm.MethodName)) ∈ hy_T := hy_T_tab (List.mem_of_getElem? (i := 358) (by decide +kernel)) rfl
theorem tw_359 : (Jvm.Cond.code ({ cls := "java/lang/IndexOutOfBoundsException", name := "<init>", desc := "(Ljava/lang/String;)V" } : Jvm.MethodName) prog_14_method_2_code (2 : Nat) (Option.none : Option Jvm.ClassFile.FieldType)) ∈ hy_T := hy_T_tab (List.mem_of_getElem? (i := 359) (by decide +kernel)) rfl
theorem tw_360 : (Jvm.Cond.methodLink "java/lang/IndexOutOfBoundsException" (7 : Nat) ({ cls := "java/lang/RuntimeException", name := "<init>", desc := "(Ljava/lang/String;)V" } : Jvm.MethodName)) ∈ hy_T := hy_T_tab (List.mem_of_getElem? (i := 360) (by decide +kernel)) rfl
theorem tw_361 : (Jvm.Cond.instanceMethod ({ cls := "java/lang/RuntimeException", name := "<init>", desc := "(Ljava/lang/String;)V" } : Jvm.MethodName)) ∈ hy_T := hy_T_tab (List.mem_of_getElem? (i := 361) (by decide +kernel)) rfl
theorem tw_362 : (Jvm.Cond.code ({ cls := "java/lang/RuntimeException", name := "<init>", desc := "(Ljava/lang/String;)V" } : Jvm.MethodName) prog_17_method_2_code (2 : Nat) (Option.none : Option Jvm.ClassFile.FieldType)) ∈ hy_T := hy_T_tab (List.mem_of_getElem? (i := 362) (by decide +kernel)) rfl
theorem tw_363 : (Jvm.Cond.methodLink "java/lang/RuntimeException" (7 : Nat) ({ cls := "java/lang/Exception", name := "<init>", desc := "(Ljava/lang/String;)V" } : Jvm.MethodName)) ∈ hy_T := hy_T_tab (List.mem_of_getElem? (i := 363) (by decide +kernel)) rfl
theorem tw_364 : (Jvm.Cond.instanceMethod ({ cls := "java/lang/Exception", name := "<init>", desc := "(Ljava/lang/String;)V" } : Jvm.MethodName)) ∈ hy_T := hy_T_tab (List.mem_of_getElem? (i := 364) (by decide +kernel)) rfl
theorem tw_365 : (Jvm.Cond.code ({ cls := "java/lang/Exception", name := "<init>", desc := "(Ljava/lang/String;)V" } : Jvm.MethodName) prog_11_method_2_code (2 : Nat) (Option.none : Option Jvm.ClassFile.FieldType)) ∈ hy_T := hy_T_tab (List.mem_of_getElem? (i := 365) (by decide +kernel)) rfl
theorem tw_366 : (Jvm.Cond.methodLink "java/lang/Exception" (7 : Nat) ({ cls := "java/lang/Throwable", name := "<init>", desc := "(Ljava/lang/String;)V" } : Jvm.MethodName)) ∈ hy_T := hy_T_tab (List.mem_of_getElem? (i := 366) (by decide +kernel)) rfl
theorem tw_367 : (Jvm.Cond.instanceMethod ({ cls := "java/lang/Throwable", name := "<init>", desc := "(Ljava/lang/String;)V" } : Jvm.MethodName)) ∈ hy_T := hy_T_tab (List.mem_of_getElem? (i := 367) (by decide +kernel)) rfl
theorem tw_368 : (Jvm.Cond.code ({ cls := "java/lang/Throwable", name := "<init>", desc := "(Ljava/lang/String;)V" } : Jvm.MethodName) prog_20_method_2_code (2 : Nat) (Option.none : Option Jvm.ClassFile.FieldType)) ∈ hy_T := hy_T_tab (List.mem_of_getElem? (i := 368) (by decide +kernel)) rfl
theorem tw_369 : (Jvm.Cond.fieldLink "java/lang/Throwable" (198 : Nat) "java/lang/Throwable" "backtrace" "Ljava/lang/Object;") ∈ hy_T := hy_T_tab (List.mem_of_getElem? (i := 369) (by decide +kernel)) rfl
theorem tw_370 : (Jvm.Cond.fieldLink "java/lang/Throwable" (31 : Nat) "java/lang/Throwable" "detailMessage" "Ljava/lang/String;") ∈ hy_T := hy_T_tab (List.mem_of_getElem? (i := 370) (by decide +kernel)) rfl
theorem tw_371 : (Jvm.Cond.fieldLink "java/lang/Throwable" (7 : Nat) "java/lang/Throwable" "cause" "Ljava/lang/Throwable;") ∈ hy_T := hy_T_tab (List.mem_of_getElem? (i := 371) (by decide +kernel)) rfl
theorem tw_372 : (Jvm.Cond.fieldLink "java/lang/Throwable" (17 : Nat) "java/lang/Throwable" "stackTrace" "[Ljava/lang/StackTraceElement;") ∈ hy_T := hy_T_tab (List.mem_of_getElem? (i := 372) (by decide +kernel)) rfl
theorem tw_373 : (Jvm.Cond.fieldLink "java/lang/Throwable" (24 : Nat) "java/lang/Throwable" "suppressedExceptions" "Ljava/util/List;") ∈ hy_T := hy_T_tab (List.mem_of_getElem? (i := 373) (by decide +kernel)) rfl
theorem tw_378 : (Jvm.Cond.lays "java/lang/IndexOutOfBoundsException" "java/lang/Throwable" "depth" "I") ∈ hy_T := hy_T_tab (List.mem_of_getElem? (i := 378) (by decide +kernel)) rfl
theorem tw_381 : (Jvm.Cond.superclass "java/lang/IndexOutOfBoundsException" "java/lang/RuntimeException") ∈ hy_T := hy_T_tab (List.mem_of_getElem? (i := 381) (by decide +kernel)) rfl
theorem tw_382 : (Jvm.Cond.arrayClass Jvm.ClassFile.FieldType.byte) ∈ hy_T := hy_T_tab (List.mem_of_getElem? (i := 382) (by decide +kernel)) rfl
theorem tw_383 : (Jvm.Cond.methodLink "HyphenPatternsLaw" (61 : Nat) ({ cls := "HyphenPatternsLaw", name := "letters", desc := "(LHyphenPatterns;III)I" } : Jvm.MethodName)) ∈ hy_T := hy_T_tab (List.mem_of_getElem? (i := 383) (by decide +kernel)) rfl
theorem tw_384 : (Jvm.Cond.static ({ cls := "HyphenPatternsLaw", name := "letters", desc := "(LHyphenPatterns;III)I" } : Jvm.MethodName)) ∈ hy_T := hy_T_tab (List.mem_of_getElem? (i := 384) (by decide +kernel)) rfl
theorem tw_385 : (Jvm.Cond.codeWith ({ cls := "HyphenPatternsLaw", name := "letters", desc := "(LHyphenPatterns;III)I" } : Jvm.MethodName) method_4_code (5 : Nat) (Option.some Jvm.ClassFile.FieldType.int) [((0 : Nat), (7 : Nat), (10 : Nat), (19 : Nat)), ((0 : Nat), (7 : Nat), (14 : Nat), (21 : Nat))]) ∈ hy_T := hy_T_tab (List.mem_of_getElem? (i := 385) (by decide +kernel)) rfl
theorem tw_386 : (Jvm.Cond.classLink "HyphenPatternsLaw" (19 : Nat) "java/lang/IllegalArgumentException") ∈ hy_T := hy_T_tab (List.mem_of_getElem? (i := 386) (by decide +kernel)) rfl
theorem tw_387 : (Jvm.Cond.classLink "HyphenPatternsLaw" (21 : Nat) "java/lang/IllegalStateException") ∈ hy_T := hy_T_tab (List.mem_of_getElem? (i := 387) (by decide +kernel)) rfl
theorem tw_388 : (Jvm.Cond.methodLink "HyphenPatternsLaw" (15 : Nat) ({ cls := "HyphenPatterns", name := "letters", desc := "(III)V" } : Jvm.MethodName)) ∈ hy_T := hy_T_tab (List.mem_of_getElem? (i := 388) (by decide +kernel)) rfl
theorem tw_389 : (Jvm.Cond.instanceMethod ({ cls := "HyphenPatterns", name := "letters", desc := "(III)V" } : Jvm.MethodName)) ∈ hy_T := hy_T_tab (List.mem_of_getElem? (i := 389) (by decide +kernel)) rfl
theorem tw_390 : (Jvm.Cond.selects "HyphenPatterns" ({ cls := "HyphenPatterns", name := "letters", desc := "(III)V" } : Jvm.MethodName) ({ cls := "HyphenPatterns", name := "letters", desc := "(III)V" } : Jvm.MethodName)) ∈ hy_T := hy_T_tab (List.mem_of_getElem? (i := 390) (by decide +kernel)) rfl
theorem tw_391 : (Jvm.Cond.code ({ cls := "HyphenPatterns", name := "letters", desc := "(III)V" } : Jvm.MethodName) prog_1_method_3_code (4 : Nat) (Option.none : Option Jvm.ClassFile.FieldType)) ∈ hy_T := hy_T_tab (List.mem_of_getElem? (i := 391) (by decide +kernel)) rfl
theorem tw_392 : (Jvm.Cond.methodLink "HyphenPatterns" (53 : Nat) ({ cls := "HyphenPatterns", name := "isCharacter", desc := "(I)Z" } : Jvm.MethodName)) ∈ hy_T := hy_T_tab (List.mem_of_getElem? (i := 392) (by decide +kernel)) rfl
theorem tw_393 : (Jvm.Cond.static ({ cls := "HyphenPatterns", name := "isCharacter", desc := "(I)Z" } : Jvm.MethodName)) ∈ hy_T := hy_T_tab (List.mem_of_getElem? (i := 393) (by decide +kernel)) rfl
theorem tw_394 : (Jvm.Cond.code ({ cls := "HyphenPatterns", name := "isCharacter", desc := "(I)Z" } : Jvm.MethodName) prog_1_method_16_code (1 : Nat) (Option.some Jvm.ClassFile.FieldType.boolean)) ∈ hy_T := hy_T_tab (List.mem_of_getElem? (i := 394) (by decide +kernel)) rfl
theorem tw_395 : (Jvm.Cond.constant "HyphenPatterns" (62 : Nat) (1114111 : Int32)) ∈ hy_T := hy_T_tab (List.mem_of_getElem? (i := 395) (by decide +kernel)) rfl
theorem tw_396 : (Jvm.Cond.classLink "HyphenPatterns" (57 : Nat) "java/lang/IllegalArgumentException") ∈ hy_T := hy_T_tab (List.mem_of_getElem? (i := 396) (by decide +kernel)) rfl
theorem tw_397 : (Jvm.Cond.instantiable "java/lang/IllegalArgumentException" (6 : Nat)) ∈ hy_T := hy_T_tab (List.mem_of_getElem? (i := 397) (by decide +kernel)) rfl
theorem tw_399 : (Jvm.Cond.selects "java/lang/IllegalArgumentException" ({ cls := "java/lang/Throwable", name := "fillInStackTrace", desc := "(I)Ljava/lang/Throwable;" } : Jvm.MethodName) ({ cls := "java/lang/Throwable", name := "fillInStackTrace", desc := "(I)Ljava/lang/Throwable;" } : Jvm.MethodName)) ∈ hy_T := hy_T_tab (List.mem_of_getElem? (i := 399) (by decide +kernel)) rfl
theorem tw_400 : (Jvm.Cond.lays "java/lang/IllegalArgumentException" "java/lang/Throwable" "cause" "Ljava/lang/Throwable;") ∈ hy_T := hy_T_tab (List.mem_of_getElem? (i := 400) (by decide +kernel)) rfl
theorem tw_401 : (Jvm.Cond.lays "java/lang/IllegalArgumentException" "java/lang/Throwable" "stackTrace" "[Ljava/lang/StackTraceElement;") ∈ hy_T := hy_T_tab (List.mem_of_getElem? (i := 401) (by decide +kernel)) rfl
theorem tw_402 : (Jvm.Cond.lays "java/lang/IllegalArgumentException" "java/lang/Throwable" "suppressedExceptions" "Ljava/util/List;") ∈ hy_T := hy_T_tab (List.mem_of_getElem? (i := 402) (by decide +kernel)) rfl
theorem tw_403 : (Jvm.Cond.lays "java/lang/IllegalArgumentException" "java/lang/Throwable" "detailMessage" "Ljava/lang/String;") ∈ hy_T := hy_T_tab (List.mem_of_getElem? (i := 403) (by decide +kernel)) rfl
theorem tw_404 : (Jvm.Cond.lays "java/lang/IllegalArgumentException" "java/lang/Throwable" "backtrace" "Ljava/lang/Object;") ∈ hy_T := hy_T_tab (List.mem_of_getElem? (i := 404) (by decide +kernel)) rfl
theorem tw_406 : (Jvm.Cond.methodLink "HyphenPatterns" (61 : Nat) ({ cls := "java/lang/IllegalArgumentException", name := "<init>", desc := "(Ljava/lang/String;)V" } : Jvm.MethodName)) ∈ hy_T := hy_T_tab (List.mem_of_getElem? (i := 406) (by decide +kernel)) rfl
theorem tw_407 : (Jvm.Cond.instanceMethod ({ cls := "java/lang/IllegalArgumentException", name := "<init>", desc := "(Ljava/lang/String;)V" } : Jvm.MethodName)) ∈ hy_T := hy_T_tab (List.mem_of_getElem? (i := 407) (by decide +kernel)) rfl
theorem tw_408 : (Jvm.Cond.code ({ cls := "java/lang/IllegalArgumentException", name := "<init>", desc := "(Ljava/lang/String;)V" } : Jvm.MethodName) prog_12_method_2_code (2 : Nat) (Option.none : Option Jvm.ClassFile.FieldType)) ∈ hy_T := hy_T_tab (List.mem_of_getElem? (i := 408) (by decide +kernel)) rfl
theorem tw_409 : (Jvm.Cond.methodLink "java/lang/IllegalArgumentException" (7 : Nat) ({ cls := "java/lang/RuntimeException", name := "<init>", desc := "(Ljava/lang/String;)V" } : Jvm.MethodName)) ∈ hy_T := hy_T_tab (List.mem_of_getElem? (i := 409) (by decide +kernel)) rfl
theorem tw_410 : (Jvm.Cond.lays "java/lang/IllegalArgumentException" "java/lang/Throwable" "depth" "I") ∈ hy_T := hy_T_tab (List.mem_of_getElem? (i := 410) (by decide +kernel)) rfl
theorem tw_411 : (Jvm.Cond.superclass "java/lang/IllegalArgumentException" "java/lang/RuntimeException") ∈ hy_T := hy_T_tab (List.mem_of_getElem? (i := 411) (by decide +kernel)) rfl
theorem tw_413 : (Jvm.Cond.classLink "HyphenPatterns" (68 : Nat) "java/lang/IllegalStateException") ∈ hy_T := hy_T_tab (List.mem_of_getElem? (i := 413) (by decide +kernel)) rfl
theorem tw_414 : (Jvm.Cond.instantiable "java/lang/IllegalStateException" (6 : Nat)) ∈ hy_T := hy_T_tab (List.mem_of_getElem? (i := 414) (by decide +kernel)) rfl
theorem tw_416 : (Jvm.Cond.selects "java/lang/IllegalStateException" ({ cls := "java/lang/Throwable", name := "fillInStackTrace", desc := "(I)Ljava/lang/Throwable;" } : Jvm.MethodName) ({ cls := "java/lang/Throwable", name := "fillInStackTrace", desc := "(I)Ljava/lang/Throwable;" } : Jvm.MethodName)) ∈ hy_T := hy_T_tab (List.mem_of_getElem? (i := 416) (by decide +kernel)) rfl
theorem tw_417 : (Jvm.Cond.lays "java/lang/IllegalStateException" "java/lang/Throwable" "cause" "Ljava/lang/Throwable;") ∈ hy_T := hy_T_tab (List.mem_of_getElem? (i := 417) (by decide +kernel)) rfl
theorem tw_418 : (Jvm.Cond.lays "java/lang/IllegalStateException" "java/lang/Throwable" "stackTrace" "[Ljava/lang/StackTraceElement;") ∈ hy_T := hy_T_tab (List.mem_of_getElem? (i := 418) (by decide +kernel)) rfl
theorem tw_419 : (Jvm.Cond.lays "java/lang/IllegalStateException" "java/lang/Throwable" "suppressedExceptions" "Ljava/util/List;") ∈ hy_T := hy_T_tab (List.mem_of_getElem? (i := 419) (by decide +kernel)) rfl
theorem tw_420 : (Jvm.Cond.lays "java/lang/IllegalStateException" "java/lang/Throwable" "detailMessage" "Ljava/lang/String;") ∈ hy_T := hy_T_tab (List.mem_of_getElem? (i := 420) (by decide +kernel)) rfl
theorem tw_421 : (Jvm.Cond.lays "java/lang/IllegalStateException" "java/lang/Throwable" "backtrace" "Ljava/lang/Object;") ∈ hy_T := hy_T_tab (List.mem_of_getElem? (i := 421) (by decide +kernel)) rfl
theorem tw_423 : (Jvm.Cond.methodLink "HyphenPatterns" (72 : Nat) ({ cls := "java/lang/IllegalStateException", name := "<init>", desc := "(Ljava/lang/String;)V" } : Jvm.MethodName)) ∈ hy_T := hy_T_tab (List.mem_of_getElem? (i := 423) (by decide +kernel)) rfl
theorem tw_424 : (Jvm.Cond.instanceMethod ({ cls := "java/lang/IllegalStateException", name := "<init>", desc := "(Ljava/lang/String;)V" } : Jvm.MethodName)) ∈ hy_T := hy_T_tab (List.mem_of_getElem? (i := 424) (by decide +kernel)) rfl
theorem tw_425 : (Jvm.Cond.code ({ cls := "java/lang/IllegalStateException", name := "<init>", desc := "(Ljava/lang/String;)V" } : Jvm.MethodName) prog_13_method_2_code (2 : Nat) (Option.none : Option Jvm.ClassFile.FieldType)) ∈ hy_T := hy_T_tab (List.mem_of_getElem? (i := 425) (by decide +kernel)) rfl
theorem tw_426 : (Jvm.Cond.methodLink "java/lang/IllegalStateException" (7 : Nat) ({ cls := "java/lang/RuntimeException", name := "<init>", desc := "(Ljava/lang/String;)V" } : Jvm.MethodName)) ∈ hy_T := hy_T_tab (List.mem_of_getElem? (i := 426) (by decide +kernel)) rfl
theorem tw_427 : (Jvm.Cond.lays "java/lang/IllegalStateException" "java/lang/Throwable" "depth" "I") ∈ hy_T := hy_T_tab (List.mem_of_getElem? (i := 427) (by decide +kernel)) rfl
theorem tw_428 : (Jvm.Cond.superclass "java/lang/IllegalStateException" "java/lang/RuntimeException") ∈ hy_T := hy_T_tab (List.mem_of_getElem? (i := 428) (by decide +kernel)) rfl
theorem tw_429 : (Jvm.Cond.methodLink "HyphenPatterns" (73 : Nat) ({ cls := "HyphenPatterns$Language", name := "addRange", desc := "(III)V" } : Jvm.MethodName)) ∈ hy_T := hy_T_tab (List.mem_of_getElem? (i := 429) (by decide +kernel)) rfl
theorem tw_430 : (Jvm.Cond.instanceMethod ({ cls := "HyphenPatterns$Language", name := "addRange", desc := "(III)V" } : Jvm.MethodName)) ∈ hy_T := hy_T_tab (List.mem_of_getElem? (i := 430) (by decide +kernel)) rfl
theorem tw_431 : (Jvm.Cond.selects "HyphenPatterns$Language" ({ cls := "HyphenPatterns$Language", name := "addRange", desc := "(III)V" } : Jvm.MethodName) ({ cls := "HyphenPatterns$Language", name := "addRange", desc := "(III)V" } : Jvm.MethodName)) ∈ hy_T := hy_T_tab (List.mem_of_getElem? (i := 431) (by decide +kernel)) rfl
theorem tw_432 : (Jvm.Cond.code ({ cls := "HyphenPatterns$Language", name := "addRange", desc := "(III)V" } : Jvm.MethodName) prog_3_method_2_code (4 : Nat) (Option.none : Option Jvm.ClassFile.FieldType)) ∈ hy_T := hy_T_tab (List.mem_of_getElem? (i := 432) (by decide +kernel)) rfl
theorem tw_433 : (Jvm.Cond.methodLink "HyphenPatternsLaw" (65 : Nat) ({ cls := "HyphenPatternsLaw", name := "least", desc := "(LHyphenPatterns;II)I" } : Jvm.MethodName)) ∈ hy_T := hy_T_tab (List.mem_of_getElem? (i := 433) (by decide +kernel)) rfl
theorem tw_434 : (Jvm.Cond.static ({ cls := "HyphenPatternsLaw", name := "least", desc := "(LHyphenPatterns;II)I" } : Jvm.MethodName)) ∈ hy_T := hy_T_tab (List.mem_of_getElem? (i := 434) (by decide +kernel)) rfl
theorem tw_435 : (Jvm.Cond.codeWith ({ cls := "HyphenPatternsLaw", name := "least", desc := "(LHyphenPatterns;II)I" } : Jvm.MethodName) method_5_code (4 : Nat) (Option.some Jvm.ClassFile.FieldType.int) [((0 : Nat), (6 : Nat), (9 : Nat), (19 : Nat))]) ∈ hy_T := hy_T_tab (List.mem_of_getElem? (i := 435) (by decide +kernel)) rfl
theorem tw_436 : (Jvm.Cond.methodLink "HyphenPatternsLaw" (23 : Nat) ({ cls := "HyphenPatterns", name := "least", desc := "(II)V" } : Jvm.MethodName)) ∈ hy_T := hy_T_tab (List.mem_of_getElem? (i := 436) (by decide +kernel)) rfl
theorem tw_437 : (Jvm.Cond.instanceMethod ({ cls := "HyphenPatterns", name := "least", desc := "(II)V" } : Jvm.MethodName)) ∈ hy_T := hy_T_tab (List.mem_of_getElem? (i := 437) (by decide +kernel)) rfl
theorem tw_438 : (Jvm.Cond.selects "HyphenPatterns" ({ cls := "HyphenPatterns", name := "least", desc := "(II)V" } : Jvm.MethodName) ({ cls := "HyphenPatterns", name := "least", desc := "(II)V" } : Jvm.MethodName)) ∈ hy_T := hy_T_tab (List.mem_of_getElem? (i := 438) (by decide +kernel)) rfl
theorem tw_439 : (Jvm.Cond.code ({ cls := "HyphenPatterns", name := "least", desc := "(II)V" } : Jvm.MethodName) prog_1_method_4_code (3 : Nat) (Option.none : Option Jvm.ClassFile.FieldType)) ∈ hy_T := hy_T_tab (List.mem_of_getElem? (i := 439) (by decide +kernel)) rfl
theorem tw_441 : (Jvm.Cond.methodLink "HyphenPatternsLaw" (69 : Nat) ({ cls := "HyphenPatternsLaw", name := "tell", desc := "(LHyphenPatterns;IIIII[J)I" } : Jvm.MethodName)) ∈ hy_T := hy_T_tab (List.mem_of_getElem? (i := 441) (by decide +kernel)) rfl
theorem tw_442 : (Jvm.Cond.static ({ cls := "HyphenPatternsLaw", name := "tell", desc := "(LHyphenPatterns;IIIII[J)I" } : Jvm.MethodName)) ∈ hy_T := hy_T_tab (List.mem_of_getElem? (i := 442) (by decide +kernel)) rfl
theorem tw_443 : (Jvm.Cond.codeWith ({ cls := "HyphenPatternsLaw", name := "tell", desc := "(LHyphenPatterns;IIIII[J)I" } : Jvm.MethodName) method_6_code (8 : Nat) (Option.some Jvm.ClassFile.FieldType.int) [((0 : Nat), (16 : Nat), (19 : Nat), (19 : Nat)), ((0 : Nat), (16 : Nat), (23 : Nat), (21 : Nat))]) ∈ hy_T := hy_T_tab (List.mem_of_getElem? (i := 443) (by decide +kernel)) rfl
theorem tw_444 : (Jvm.Cond.methodLink "HyphenPatternsLaw" (27 : Nat) ({ cls := "HyphenPatterns", name := "tell", desc := "(IIIII)I" } : Jvm.MethodName)) ∈ hy_T := hy_T_tab (List.mem_of_getElem? (i := 444) (by decide +kernel)) rfl
theorem tw_445 : (Jvm.Cond.instanceMethod ({ cls := "HyphenPatterns", name := "tell", desc := "(IIIII)I" } : Jvm.MethodName)) ∈ hy_T := hy_T_tab (List.mem_of_getElem? (i := 445) (by decide +kernel)) rfl
theorem tw_446 : (Jvm.Cond.selects "HyphenPatterns" ({ cls := "HyphenPatterns", name := "tell", desc := "(IIIII)I" } : Jvm.MethodName) ({ cls := "HyphenPatterns", name := "tell", desc := "(IIIII)I" } : Jvm.MethodName)) ∈ hy_T := hy_T_tab (List.mem_of_getElem? (i := 446) (by decide +kernel)) rfl
theorem tw_447 : (Jvm.Cond.code ({ cls := "HyphenPatterns", name := "tell", desc := "(IIIII)I" } : Jvm.MethodName) prog_1_method_5_code (6 : Nat) (Option.some Jvm.ClassFile.FieldType.int)) ∈ hy_T := hy_T_tab (List.mem_of_getElem? (i := 447) (by decide +kernel)) rfl
theorem tw_448 : (Jvm.Cond.methodLink "HyphenPatterns" (85 : Nat) ({ cls := "HyphenPatterns$Numbers", name := "append", desc := "(IIIII)I" } : Jvm.MethodName)) ∈ hy_T := hy_T_tab (List.mem_of_getElem? (i := 448) (by decide +kernel)) rfl
theorem tw_449 : (Jvm.Cond.instanceMethod ({ cls := "HyphenPatterns$Numbers", name := "append", desc := "(IIIII)I" } : Jvm.MethodName)) ∈ hy_T := hy_T_tab (List.mem_of_getElem? (i := 449) (by decide +kernel)) rfl
theorem tw_450 : (Jvm.Cond.selects "HyphenPatterns$Numbers" ({ cls := "HyphenPatterns$Numbers", name := "append", desc := "(IIIII)I" } : Jvm.MethodName) ({ cls := "HyphenPatterns$Numbers", name := "append", desc := "(IIIII)I" } : Jvm.MethodName)) ∈ hy_T := hy_T_tab (List.mem_of_getElem? (i := 450) (by decide +kernel)) rfl
theorem tw_451 : (Jvm.Cond.code ({ cls := "HyphenPatterns$Numbers", name := "append", desc := "(IIIII)I" } : Jvm.MethodName) prog_4_method_2_code (8 : Nat) (Option.some Jvm.ClassFile.FieldType.int)) ∈ hy_T := hy_T_tab (List.mem_of_getElem? (i := 451) (by decide +kernel)) rfl
theorem tw_452 : (Jvm.Cond.methodLink "HyphenPatterns$Numbers" (25 : Nat) ({ cls := "HyphenPatterns$Numbers", name := "offer", desc := "(IIIII)I" } : Jvm.MethodName)) ∈ hy_T := hy_T_tab (List.mem_of_getElem? (i := 452) (by decide +kernel)) rfl
theorem tw_454 : (Jvm.Cond.instanceMethod ({ cls := "HyphenPatterns$Numbers", name := "offer", desc := "(IIIII)I" } : Jvm.MethodName)) ∈ hy_T := hy_T_tab (List.mem_of_getElem? (i := 454) (by decide +kernel)) rfl
theorem tw_455 : (Jvm.Cond.code ({ cls := "HyphenPatterns$Numbers", name := "offer", desc := "(IIIII)I" } : Jvm.MethodName) prog_4_method_3_code (7 : Nat) (Option.some Jvm.ClassFile.FieldType.int)) ∈ hy_T := hy_T_tab (List.mem_of_getElem? (i := 455) (by decide +kernel)) rfl
theorem tw_456 : (Jvm.Cond.constant "HyphenPatterns$Numbers" (29 : Nat) (1114111 : Int32)) ∈ hy_T := hy_T_tab (List.mem_of_getElem? (i := 456) (by decide +kernel)) rfl
theorem tw_457 : (Jvm.Cond.classLink "HyphenPatterns$Numbers" (30 : Nat) "java/lang/IllegalArgumentException") ∈ hy_T := hy_T_tab (List.mem_of_getElem? (i := 457) (by decide +kernel)) rfl
theorem tw_459 : (Jvm.Cond.methodLink "HyphenPatterns$Numbers" (34 : Nat) ({ cls := "java/lang/IllegalArgumentException", name := "<init>", desc := "(Ljava/lang/String;)V" } : Jvm.MethodName)) ∈ hy_T := hy_T_tab (List.mem_of_getElem? (i := 459) (by decide +kernel)) rfl
theorem tw_460 : (Jvm.Cond.classLink "HyphenPatterns$Numbers" (37 : Nat) "java/lang/IllegalStateException") ∈ hy_T := hy_T_tab (List.mem_of_getElem? (i := 460) (by decide +kernel)) rfl
theorem tw_462 : (Jvm.Cond.methodLink "HyphenPatterns$Numbers" (41 : Nat) ({ cls := "java/lang/IllegalStateException", name := "<init>", desc := "(Ljava/lang/String;)V" } : Jvm.MethodName)) ∈ hy_T := hy_T_tab (List.mem_of_getElem? (i := 462) (by decide +kernel)) rfl
theorem tw_463 : (Jvm.Cond.methodLink "HyphenPatterns$Numbers" (42 : Nat) ({ cls := "java/lang/System", name := "arraycopy", desc := "(Ljava/lang/Object;ILjava/lang/Object;II)V" } : Jvm.MethodName)) ∈ hy_T := hy_T_tab (List.mem_of_getElem? (i := 463) (by decide +kernel)) rfl
theorem tw_464 : (Jvm.Cond.static ({ cls := "java/lang/System", name := "arraycopy", desc := "(Ljava/lang/Object;ILjava/lang/Object;II)V" } : Jvm.MethodName)) ∈ hy_T := hy_T_tab (List.mem_of_getElem? (i := 464) (by decide +kernel)) rfl
theorem tw_465 : (Jvm.Cond.native ({ cls := "java/lang/System", name := "arraycopy", desc := "(Ljava/lang/Object;ILjava/lang/Object;II)V" } : Jvm.MethodName)) ∈ hy_T := hy_T_tab (List.mem_of_getElem? (i := 465) (by decide +kernel)) rfl
theorem tw_466 : (Jvm.Cond.methodLink "HyphenPatternsLaw" (77 : Nat) ({ cls := "HyphenPatternsLaw", name := "pattern", desc := "(LHyphenPatterns;[J)I" } : Jvm.MethodName)) ∈ hy_T := hy_T_tab (List.mem_of_getElem? (i := 466) (by decide +kernel)) rfl
theorem tw_467 : (Jvm.Cond.static ({ cls := "HyphenPatternsLaw", name := "pattern", desc := "(LHyphenPatterns;[J)I" } : Jvm.MethodName)) ∈ hy_T := hy_T_tab (List.mem_of_getElem? (i := 467) (by decide +kernel)) rfl
theorem tw_468 : (Jvm.Cond.codeWith ({ cls := "HyphenPatternsLaw", name := "pattern", desc := "(LHyphenPatterns;[J)I" } : Jvm.MethodName) method_7_code (3 : Nat) (Option.some Jvm.ClassFile.FieldType.int) [((0 : Nat), (8 : Nat), (11 : Nat), (19 : Nat)), ((0 : Nat), (8 : Nat), (14 : Nat), (21 : Nat))]) ∈ hy_T := hy_T_tab (List.mem_of_getElem? (i := 468) (by decide +kernel)) rfl
theorem tw_469 : (Jvm.Cond.methodLink "HyphenPatternsLaw" (31 : Nat) ({ cls := "HyphenPatterns", name := "pattern", desc := "()I" } : Jvm.MethodName)) ∈ hy_T := hy_T_tab (List.mem_of_getElem? (i := 469) (by decide +kernel)) rfl
theorem tw_470 : (Jvm.Cond.instanceMethod ({ cls := "HyphenPatterns", name := "pattern", desc := "()I" } : Jvm.MethodName)) ∈ hy_T := hy_T_tab (List.mem_of_getElem? (i := 470) (by decide +kernel)) rfl
theorem tw_471 : (Jvm.Cond.selects "HyphenPatterns" ({ cls := "HyphenPatterns", name := "pattern", desc := "()I" } : Jvm.MethodName) ({ cls := "HyphenPatterns", name := "pattern", desc := "()I" } : Jvm.MethodName)) ∈ hy_T := hy_T_tab (List.mem_of_getElem? (i := 471) (by decide +kernel)) rfl
theorem tw_472 : (Jvm.Cond.code ({ cls := "HyphenPatterns", name := "pattern", desc := "()I" } : Jvm.MethodName) prog_1_method_7_code (1 : Nat) (Option.some Jvm.ClassFile.FieldType.int)) ∈ hy_T := hy_T_tab (List.mem_of_getElem? (i := 472) (by decide +kernel)) rfl
theorem tw_473 : (Jvm.Cond.methodLink "HyphenPatterns" (93 : Nat) ({ cls := "HyphenPatterns$Draft", name := "readPattern", desc := "(LHyphenPatterns$Numbers;)Z" } : Jvm.MethodName)) ∈ hy_T := hy_T_tab (List.mem_of_getElem? (i := 473) (by decide +kernel)) rfl
theorem tw_474 : (Jvm.Cond.instanceMethod ({ cls := "HyphenPatterns$Draft", name := "readPattern", desc := "(LHyphenPatterns$Numbers;)Z" } : Jvm.MethodName)) ∈ hy_T := hy_T_tab (List.mem_of_getElem? (i := 474) (by decide +kernel)) rfl
theorem tw_475 : (Jvm.Cond.selects "HyphenPatterns$Draft" ({ cls := "HyphenPatterns$Draft", name := "readPattern", desc := "(LHyphenPatterns$Numbers;)Z" } : Jvm.MethodName) ({ cls := "HyphenPatterns$Draft", name := "readPattern", desc := "(LHyphenPatterns$Numbers;)Z" } : Jvm.MethodName)) ∈ hy_T := hy_T_tab (List.mem_of_getElem? (i := 475) (by decide +kernel)) rfl
theorem tw_476 : (Jvm.Cond.code ({ cls := "HyphenPatterns$Draft", name := "readPattern", desc := "(LHyphenPatterns$Numbers;)Z" } : Jvm.MethodName) prog_2_method_2_code (5 : Nat) (Option.some Jvm.ClassFile.FieldType.boolean)) ∈ hy_T := hy_T_tab (List.mem_of_getElem? (i := 476) (by decide +kernel)) rfl
theorem tw_477 : (Jvm.Cond.methodLink "HyphenPatterns$Draft" (22 : Nat) ({ cls := "HyphenPatterns$Draft", name := "start", desc := "()V" } : Jvm.MethodName)) ∈ hy_T := hy_T_tab (List.mem_of_getElem? (i := 477) (by decide +kernel)) rfl
theorem tw_479 : (Jvm.Cond.instanceMethod ({ cls := "HyphenPatterns$Draft", name := "start", desc := "()V" } : Jvm.MethodName)) ∈ hy_T := hy_T_tab (List.mem_of_getElem? (i := 479) (by decide +kernel)) rfl
theorem tw_480 : (Jvm.Cond.code ({ cls := "HyphenPatterns$Draft", name := "start", desc := "()V" } : Jvm.MethodName) prog_2_method_5_code (1 : Nat) (Option.none : Option Jvm.ClassFile.FieldType)) ∈ hy_T := hy_T_tab (List.mem_of_getElem? (i := 480) (by decide +kernel)) rfl
theorem tw_481 : (Jvm.Cond.methodLink "HyphenPatterns$Draft" (31 : Nat) ({ cls := "HyphenPatterns$Draft", name := "takeLetter", desc := "(I)Z" } : Jvm.MethodName)) ∈ hy_T := hy_T_tab (List.mem_of_getElem? (i := 481) (by decide +kernel)) rfl
theorem tw_483 : (Jvm.Cond.instanceMethod ({ cls := "HyphenPatterns$Draft", name := "takeLetter", desc := "(I)Z" } : Jvm.MethodName)) ∈ hy_T := hy_T_tab (List.mem_of_getElem? (i := 483) (by decide +kernel)) rfl
theorem tw_484 : (Jvm.Cond.code ({ cls := "HyphenPatterns$Draft", name := "takeLetter", desc := "(I)Z" } : Jvm.MethodName) prog_2_method_6_code (2 : Nat) (Option.some Jvm.ClassFile.FieldType.boolean)) ∈ hy_T := hy_T_tab (List.mem_of_getElem? (i := 484) (by decide +kernel)) rfl
theorem tw_485 : (Jvm.Cond.methodLink "HyphenPatterns$Draft" (35 : Nat) ({ cls := "HyphenPatterns$Draft", name := "takeValue", desc := "(I)Z" } : Jvm.MethodName)) ∈ hy_T := hy_T_tab (List.mem_of_getElem? (i := 485) (by decide +kernel)) rfl
theorem tw_487 : (Jvm.Cond.instanceMethod ({ cls := "HyphenPatterns$Draft", name := "takeValue", desc := "(I)Z" } : Jvm.MethodName)) ∈ hy_T := hy_T_tab (List.mem_of_getElem? (i := 487) (by decide +kernel)) rfl
theorem tw_488 : (Jvm.Cond.code ({ cls := "HyphenPatterns$Draft", name := "takeValue", desc := "(I)Z" } : Jvm.MethodName) prog_2_method_7_code (2 : Nat) (Option.some Jvm.ClassFile.FieldType.boolean)) ∈ hy_T := hy_T_tab (List.mem_of_getElem? (i := 488) (by decide +kernel)) rfl
theorem tw_489 : (Jvm.Cond.methodLink "HyphenPatterns$Draft" (38 : Nat) ({ cls := "HyphenPatterns$Draft", name := "hasLetter", desc := "()Z" } : Jvm.MethodName)) ∈ hy_T := hy_T_tab (List.mem_of_getElem? (i := 489) (by decide +kernel)) rfl
theorem tw_491 : (Jvm.Cond.instanceMethod ({ cls := "HyphenPatterns$Draft", name := "hasLetter", desc := "()Z" } : Jvm.MethodName)) ∈ hy_T := hy_T_tab (List.mem_of_getElem? (i := 491) (by decide +kernel)) rfl
theorem tw_492 : (Jvm.Cond.code ({ cls := "HyphenPatterns$Draft", name := "hasLetter", desc := "()Z" } : Jvm.MethodName) prog_2_method_8_code (2 : Nat) (Option.some Jvm.ClassFile.FieldType.boolean)) ∈ hy_T := hy_T_tab (List.mem_of_getElem? (i := 492) (by decide +kernel)) rfl
theorem tw_493 : (Jvm.Cond.methodLink "HyphenPatterns$Draft" (42 : Nat) ({ cls := "HyphenPatterns$Draft", name := "hasEdgeWithin", desc := "()Z" } : Jvm.MethodName)) ∈ hy_T := hy_T_tab (List.mem_of_getElem? (i := 493) (by decide +kernel)) rfl
theorem tw_495 : (Jvm.Cond.instanceMethod ({ cls := "HyphenPatterns$Draft", name := "hasEdgeWithin", desc := "()Z" } : Jvm.MethodName)) ∈ hy_T := hy_T_tab (List.mem_of_getElem? (i := 495) (by decide +kernel)) rfl
theorem tw_496 : (Jvm.Cond.code ({ cls := "HyphenPatterns$Draft", name := "hasEdgeWithin", desc := "()Z" } : Jvm.MethodName) prog_2_method_9_code (2 : Nat) (Option.some Jvm.ClassFile.FieldType.boolean)) ∈ hy_T := hy_T_tab (List.mem_of_getElem? (i := 496) (by decide +kernel)) rfl
theorem tw_498 : (Jvm.Cond.methodLink "HyphenPatterns" (103 : Nat) ({ cls := "HyphenPatterns", name := "patternsInAll", desc := "()I" } : Jvm.MethodName)) ∈ hy_T := hy_T_tab (List.mem_of_getElem? (i := 498) (by decide +kernel)) rfl
theorem tw_500 : (Jvm.Cond.instanceMethod ({ cls := "HyphenPatterns", name := "patternsInAll", desc := "()I" } : Jvm.MethodName)) ∈ hy_T := hy_T_tab (List.mem_of_getElem? (i := 500) (by decide +kernel)) rfl
theorem tw_501 : (Jvm.Cond.code ({ cls := "HyphenPatterns", name := "patternsInAll", desc := "()I" } : Jvm.MethodName) prog_1_method_17_code (3 : Nat) (Option.some Jvm.ClassFile.FieldType.int)) ∈ hy_T := hy_T_tab (List.mem_of_getElem? (i := 501) (by decide +kernel)) rfl
theorem tw_502 : (Jvm.Cond.methodLink "HyphenPatterns" (106 : Nat) ({ cls := "HyphenPatterns", name := "keepDraft", desc := "(Ljava/util/ArrayList;Z)I" } : Jvm.MethodName)) ∈ hy_T := hy_T_tab (List.mem_of_getElem? (i := 502) (by decide +kernel)) rfl
theorem tw_504 : (Jvm.Cond.instanceMethod ({ cls := "HyphenPatterns", name := "keepDraft", desc := "(Ljava/util/ArrayList;Z)I" } : Jvm.MethodName)) ∈ hy_T := hy_T_tab (List.mem_of_getElem? (i := 504) (by decide +kernel)) rfl
theorem tw_505 : (Jvm.Cond.code ({ cls := "HyphenPatterns", name := "keepDraft", desc := "(Ljava/util/ArrayList;Z)I" } : Jvm.MethodName) prog_1_method_19_code (4 : Nat) (Option.some Jvm.ClassFile.FieldType.int)) ∈ hy_T := hy_T_tab (List.mem_of_getElem? (i := 505) (by decide +kernel)) rfl
theorem tw_506 : (Jvm.Cond.methodLink "HyphenPatterns" (171 : Nat) ({ cls := "HyphenPatterns", name := "indexOfRule", desc := "(Ljava/util/ArrayList;[III)I" } : Jvm.MethodName)) ∈ hy_T := hy_T_tab (List.mem_of_getElem? (i := 506) (by decide +kernel)) rfl
theorem tw_508 : (Jvm.Cond.methodLink "HyphenPatterns" (177 : Nat) ({ cls := "HyphenPatterns$Draft", name := "toRule", desc := "()LHyphenPatterns$Rule;" } : Jvm.MethodName)) ∈ hy_T := hy_T_tab (List.mem_of_getElem? (i := 508) (by decide +kernel)) rfl
theorem tw_509 : (Jvm.Cond.instanceMethod ({ cls := "HyphenPatterns$Draft", name := "toRule", desc := "()LHyphenPatterns$Rule;" } : Jvm.MethodName)) ∈ hy_T := hy_T_tab (List.mem_of_getElem? (i := 509) (by decide +kernel)) rfl
theorem tw_510 : (Jvm.Cond.selects "HyphenPatterns$Draft" ({ cls := "HyphenPatterns$Draft", name := "toRule", desc := "()LHyphenPatterns$Rule;" } : Jvm.MethodName) ({ cls := "HyphenPatterns$Draft", name := "toRule", desc := "()LHyphenPatterns$Rule;" } : Jvm.MethodName)) ∈ hy_T := hy_T_tab (List.mem_of_getElem? (i := 510) (by decide +kernel)) rfl
theorem tw_511 : (Jvm.Cond.code ({ cls := "HyphenPatterns$Draft", name := "toRule", desc := "()LHyphenPatterns$Rule;" } : Jvm.MethodName) prog_2_method_4_code (1 : Nat) (Option.some (Jvm.ClassFile.FieldType.object "HyphenPatterns$Rule"))) ∈ hy_T := hy_T_tab (List.mem_of_getElem? (i := 511) (by decide +kernel)) rfl
theorem tw_512 : (Jvm.Cond.classLink "HyphenPatterns$Draft" (45 : Nat) "HyphenPatterns$Rule") ∈ hy_T := hy_T_tab (List.mem_of_getElem? (i := 512) (by decide +kernel)) rfl
theorem tw_513 : (Jvm.Cond.instantiable "HyphenPatterns$Rule" (2 : Nat)) ∈ hy_T := hy_T_tab (List.mem_of_getElem? (i := 513) (by decide +kernel)) rfl
theorem tw_514 : (Jvm.Cond.methodLink "HyphenPatterns$Draft" (47 : Nat) ({ cls := "java/util/Arrays", name := "copyOf", desc := "([II)[I" } : Jvm.MethodName)) ∈ hy_T := hy_T_tab (List.mem_of_getElem? (i := 514) (by decide +kernel)) rfl
theorem tw_515 : (Jvm.Cond.static ({ cls := "java/util/Arrays", name := "copyOf", desc := "([II)[I" } : Jvm.MethodName)) ∈ hy_T := hy_T_tab (List.mem_of_getElem? (i := 515) (by decide +kernel)) rfl
theorem tw_516 : (Jvm.Cond.code ({ cls := "java/util/Arrays", name := "copyOf", desc := "([II)[I" } : Jvm.MethodName) prog_24_method_123_code (3 : Nat) (Option.some (Jvm.ClassFile.FieldType.array Jvm.ClassFile.FieldType.int))) ∈ hy_T := hy_T_tab (List.mem_of_getElem? (i := 516) (by decide +kernel)) rfl
theorem tw_517 : (Jvm.Cond.methodLink "java/util/Arrays" (316 : Nat) ({ cls := "[I", name := "clone", desc := "()Ljava/lang/Object;" } : Jvm.MethodName)) ∈ hy_T := hy_T_tab (List.mem_of_getElem? (i := 517) (by decide +kernel)) rfl
theorem tw_518 : (Jvm.Cond.sameMethod "[I" "java/lang/Object" "clone" "()Ljava/lang/Object;") ∈ hy_T := hy_T_tab (List.mem_of_getElem? (i := 518) (by decide +kernel)) rfl
theorem tw_519 : (Jvm.Cond.native ({ cls := "java/lang/Object", name := "clone", desc := "()Ljava/lang/Object;" } : Jvm.MethodName)) ∈ hy_T := hy_T_tab (List.mem_of_getElem? (i := 519) (by decide +kernel)) rfl
theorem tw_520 : (Jvm.Cond.instanceMethod ({ cls := "java/lang/Object", name := "clone", desc := "()Ljava/lang/Object;" } : Jvm.MethodName)) ∈ hy_T := hy_T_tab (List.mem_of_getElem? (i := 520) (by decide +kernel)) rfl
theorem tw_521 : (Jvm.Cond.selects "[I" ({ cls := "[I", name := "clone", desc := "()Ljava/lang/Object;" } : Jvm.MethodName) ({ cls := "java/lang/Object", name := "clone", desc := "()Ljava/lang/Object;" } : Jvm.MethodName)) ∈ hy_T := hy_T_tab (List.mem_of_getElem? (i := 521) (by decide +kernel)) rfl
theorem tw_523 : (Jvm.Cond.classLink "java/util/Arrays" (317 : Nat) "[I") ∈ hy_T := hy_T_tab (List.mem_of_getElem? (i := 523) (by decide +kernel)) rfl
theorem tw_524 : (Jvm.Cond.methodLink "java/util/Arrays" (304 : Nat) ({ cls := "java/lang/Math", name := "min", desc := "(II)I" } : Jvm.MethodName)) ∈ hy_T := hy_T_tab (List.mem_of_getElem? (i := 524) (by decide +kernel)) rfl
theorem tw_525 : (Jvm.Cond.static ({ cls := "java/lang/Math", name := "min", desc := "(II)I" } : Jvm.MethodName)) ∈ hy_T := hy_T_tab (List.mem_of_getElem? (i := 525) (by decide +kernel)) rfl
theorem tw_526 : (Jvm.Cond.code ({ cls := "java/lang/Math", name := "min", desc := "(II)I" } : Jvm.MethodName) prog_16_method_69_code (2 : Nat) (Option.some Jvm.ClassFile.FieldType.int)) ∈ hy_T := hy_T_tab (List.mem_of_getElem? (i := 526) (by decide +kernel)) rfl
theorem tw_527 : (Jvm.Cond.methodLink "java/util/Arrays" (150 : Nat) ({ cls := "java/lang/System", name := "arraycopy", desc := "(Ljava/lang/Object;ILjava/lang/Object;II)V" } : Jvm.MethodName)) ∈ hy_T := hy_T_tab (List.mem_of_getElem? (i := 527) (by decide +kernel)) rfl
theorem tw_528 : (Jvm.Cond.methodLink "HyphenPatterns$Draft" (53 : Nat) ({ cls := "HyphenPatterns$Rule", name := "<init>", desc := "([I[I)V" } : Jvm.MethodName)) ∈ hy_T := hy_T_tab (List.mem_of_getElem? (i := 528) (by decide +kernel)) rfl
theorem tw_529 : (Jvm.Cond.instanceMethod ({ cls := "HyphenPatterns$Rule", name := "<init>", desc := "([I[I)V" } : Jvm.MethodName)) ∈ hy_T := hy_T_tab (List.mem_of_getElem? (i := 529) (by decide +kernel)) rfl
theorem tw_530 : (Jvm.Cond.code ({ cls := "HyphenPatterns$Rule", name := "<init>", desc := "([I[I)V" } : Jvm.MethodName) prog_6_method_1_code (3 : Nat) (Option.none : Option Jvm.ClassFile.FieldType)) ∈ hy_T := hy_T_tab (List.mem_of_getElem? (i := 530) (by decide +kernel)) rfl
theorem tw_531 : (Jvm.Cond.methodLink "HyphenPatterns$Rule" (1 : Nat) ({ cls := "java/lang/Object", name := "<init>", desc := "()V" } : Jvm.MethodName)) ∈ hy_T := hy_T_tab (List.mem_of_getElem? (i := 531) (by decide +kernel)) rfl
theorem tw_532 : (Jvm.Cond.fieldLink "HyphenPatterns$Rule" (7 : Nat) "HyphenPatterns$Rule" "spelling" "[I") ∈ hy_T := hy_T_tab (List.mem_of_getElem? (i := 532) (by decide +kernel)) rfl
theorem tw_533 : (Jvm.Cond.fieldLink "HyphenPatterns$Reading" (84 : Nat) "HyphenPatterns$Rule" "spelling" "[I") ∈ hy_T := hy_T_tab (List.mem_of_getElem? (i := 533) (by decide +kernel)) rfl
theorem tw_534 : (Jvm.Cond.fieldLink "HyphenPatterns" (195 : Nat) "HyphenPatterns$Rule" "spelling" "[I") ∈ hy_T := hy_T_tab (List.mem_of_getElem? (i := 534) (by decide +kernel)) rfl
theorem tw_535 : (Jvm.Cond.fieldLink "HyphenPatterns$Rule" (13 : Nat) "HyphenPatterns$Rule" "values" "[I") ∈ hy_T := hy_T_tab (List.mem_of_getElem? (i := 535) (by decide +kernel)) rfl
theorem tw_536 : (Jvm.Cond.fieldLink "HyphenPatterns$Reading" (91 : Nat) "HyphenPatterns$Rule" "values" "[I") ∈ hy_T := hy_T_tab (List.mem_of_getElem? (i := 536) (by decide +kernel)) rfl
theorem tw_537 : (Jvm.Cond.laysFinal "HyphenPatterns$Rule" "HyphenPatterns$Rule" "spelling" "[I") ∈ hy_T := hy_T_tab (List.mem_of_getElem? (i := 537) (by decide +kernel)) rfl
theorem tw_539 : (Jvm.Cond.laysFinal "HyphenPatterns$Rule" "HyphenPatterns$Rule" "values" "[I") ∈ hy_T := hy_T_tab (List.mem_of_getElem? (i := 539) (by decide +kernel)) rfl
theorem tw_541 : (Jvm.Cond.superclass "HyphenPatterns$Rule" "java/lang/Object") ∈ hy_T := hy_T_tab (List.mem_of_getElem? (i := 541) (by decide +kernel)) rfl
theorem tw_542 : (Jvm.Cond.methodLink "HyphenPatterns" (181 : Nat) ({ cls := "java/util/ArrayList", name := "add", desc := "(Ljava/lang/Object;)Z" } : Jvm.MethodName)) ∈ hy_T := hy_T_tab (List.mem_of_getElem? (i := 542) (by decide +kernel)) rfl
theorem tw_543 : (Jvm.Cond.instanceMethod ({ cls := "java/util/ArrayList", name := "add", desc := "(Ljava/lang/Object;)Z" } : Jvm.MethodName)) ∈ hy_T := hy_T_tab (List.mem_of_getElem? (i := 543) (by decide +kernel)) rfl
theorem tw_544 : (Jvm.Cond.selects "java/util/ArrayList" ({ cls := "java/util/ArrayList", name := "add", desc := "(Ljava/lang/Object;)Z" } : Jvm.MethodName) ({ cls := "java/util/ArrayList", name := "add", desc := "(Ljava/lang/Object;)Z" } : Jvm.MethodName)) ∈ hy_T := hy_T_tab (List.mem_of_getElem? (i := 544) (by decide +kernel)) rfl
theorem tw_545 : (Jvm.Cond.code ({ cls := "java/util/ArrayList", name := "add", desc := "(Ljava/lang/Object;)Z" } : Jvm.MethodName) prog_23_method_25_code (2 : Nat) (Option.some Jvm.ClassFile.FieldType.boolean)) ∈ hy_T := hy_T_tab (List.mem_of_getElem? (i := 545) (by decide +kernel)) rfl
theorem tw_546 : (Jvm.Cond.methodLink "java/util/ArrayList" (131 : Nat) ({ cls := "java/util/ArrayList", name := "add", desc := "(Ljava/lang/Object;[Ljava/lang/Object;I)V" } : Jvm.MethodName)) ∈ hy_T := hy_T_tab (List.mem_of_getElem? (i := 546) (by decide +kernel)) rfl
theorem tw_548 : (Jvm.Cond.instanceMethod ({ cls := "java/util/ArrayList", name := "add", desc := "(Ljava/lang/Object;[Ljava/lang/Object;I)V" } : Jvm.MethodName)) ∈ hy_T := hy_T_tab (List.mem_of_getElem? (i := 548) (by decide +kernel)) rfl
theorem tw_549 : (Jvm.Cond.code ({ cls := "java/util/ArrayList", name := "add", desc := "(Ljava/lang/Object;[Ljava/lang/Object;I)V" } : Jvm.MethodName) prog_23_method_24_code (4 : Nat) (Option.none : Option Jvm.ClassFile.FieldType)) ∈ hy_T := hy_T_tab (List.mem_of_getElem? (i := 549) (by decide +kernel)) rfl
theorem tw_550 : (Jvm.Cond.methodLink "java/util/ArrayList" (129 : Nat) ({ cls := "java/util/ArrayList", name := "grow", desc := "()[Ljava/lang/Object;" } : Jvm.MethodName)) ∈ hy_T := hy_T_tab (List.mem_of_getElem? (i := 550) (by decide +kernel)) rfl
theorem tw_552 : (Jvm.Cond.instanceMethod ({ cls := "java/util/ArrayList", name := "grow", desc := "()[Ljava/lang/Object;" } : Jvm.MethodName)) ∈ hy_T := hy_T_tab (List.mem_of_getElem? (i := 552) (by decide +kernel)) rfl
theorem tw_553 : (Jvm.Cond.code ({ cls := "java/util/ArrayList", name := "grow", desc := "()[Ljava/lang/Object;" } : Jvm.MethodName) prog_23_method_7_code (1 : Nat) (Option.some (Jvm.ClassFile.FieldType.array (Jvm.ClassFile.FieldType.object "java/lang/Object")))) ∈ hy_T := hy_T_tab (List.mem_of_getElem? (i := 553) (by decide +kernel)) rfl
theorem tw_554 : (Jvm.Cond.methodLink "java/util/ArrayList" (69 : Nat) ({ cls := "java/util/ArrayList", name := "grow", desc := "(I)[Ljava/lang/Object;" } : Jvm.MethodName)) ∈ hy_T := hy_T_tab (List.mem_of_getElem? (i := 554) (by decide +kernel)) rfl
theorem tw_556 : (Jvm.Cond.instanceMethod ({ cls := "java/util/ArrayList", name := "grow", desc := "(I)[Ljava/lang/Object;" } : Jvm.MethodName)) ∈ hy_T := hy_T_tab (List.mem_of_getElem? (i := 556) (by decide +kernel)) rfl
theorem tw_557 : (Jvm.Cond.code ({ cls := "java/util/ArrayList", name := "grow", desc := "(I)[Ljava/lang/Object;" } : Jvm.MethodName) prog_23_method_6_code (4 : Nat) (Option.some (Jvm.ClassFile.FieldType.array (Jvm.ClassFile.FieldType.object "java/lang/Object")))) ∈ hy_T := hy_T_tab (List.mem_of_getElem? (i := 557) (by decide +kernel)) rfl
theorem tw_558 : (Jvm.Cond.methodLink "java/util/ArrayList" (73 : Nat) ({ cls := "jdk/internal/util/ArraysSupport", name := "newLength", desc := "(III)I" } : Jvm.MethodName)) ∈ hy_T := hy_T_tab (List.mem_of_getElem? (i := 558) (by decide +kernel)) rfl
theorem tw_559 : (Jvm.Cond.static ({ cls := "jdk/internal/util/ArraysSupport", name := "newLength", desc := "(III)I" } : Jvm.MethodName)) ∈ hy_T := hy_T_tab (List.mem_of_getElem? (i := 559) (by decide +kernel)) rfl
theorem tw_560 : (Jvm.Cond.code ({ cls := "jdk/internal/util/ArraysSupport", name := "newLength", desc := "(III)I" } : Jvm.MethodName) prog_30_method_27_code (4 : Nat) (Option.some Jvm.ClassFile.FieldType.int)) ∈ hy_T := hy_T_tab (List.mem_of_getElem? (i := 560) (by decide +kernel)) rfl
theorem tw_561 : (Jvm.Cond.methodLink "jdk/internal/util/ArraysSupport" (194 : Nat) ({ cls := "java/lang/Math", name := "max", desc := "(II)I" } : Jvm.MethodName)) ∈ hy_T := hy_T_tab (List.mem_of_getElem? (i := 561) (by decide +kernel)) rfl
theorem tw_562 : (Jvm.Cond.constant "jdk/internal/util/ArraysSupport" (200 : Nat) (2147483639 : Int32)) ∈ hy_T := hy_T_tab (List.mem_of_getElem? (i := 562) (by decide +kernel)) rfl
theorem tw_563 : (Jvm.Cond.methodLink "jdk/internal/util/ArraysSupport" (201 : Nat) ({ cls := "jdk/internal/util/ArraysSupport", name := "hugeLength", desc := "(II)I" } : Jvm.MethodName)) ∈ hy_T := hy_T_tab (List.mem_of_getElem? (i := 563) (by decide +kernel)) rfl
theorem tw_564 : (Jvm.Cond.static ({ cls := "jdk/internal/util/ArraysSupport", name := "hugeLength", desc := "(II)I" } : Jvm.MethodName)) ∈ hy_T := hy_T_tab (List.mem_of_getElem? (i := 564) (by decide +kernel)) rfl
theorem tw_565 : (Jvm.Cond.code ({ cls := "jdk/internal/util/ArraysSupport", name := "hugeLength", desc := "(II)I" } : Jvm.MethodName) prog_30_method_28_code (3 : Nat) (Option.some Jvm.ClassFile.FieldType.int)) ∈ hy_T := hy_T_tab (List.mem_of_getElem? (i := 565) (by decide +kernel)) rfl
theorem tw_566 : (Jvm.Cond.methodLink "java/util/ArrayList" (66 : Nat) ({ cls := "java/util/Arrays", name := "copyOf", desc := "([Ljava/lang/Object;I)[Ljava/lang/Object;" } : Jvm.MethodName)) ∈ hy_T := hy_T_tab (List.mem_of_getElem? (i := 566) (by decide +kernel)) rfl
theorem tw_567 : (Jvm.Cond.static ({ cls := "java/util/Arrays", name := "copyOf", desc := "([Ljava/lang/Object;I)[Ljava/lang/Object;" } : Jvm.MethodName)) ∈ hy_T := hy_T_tab (List.mem_of_getElem? (i := 567) (by decide +kernel)) rfl
theorem tw_568 : (Jvm.Cond.code ({ cls := "java/util/Arrays", name := "copyOf", desc := "([Ljava/lang/Object;I)[Ljava/lang/Object;" } : Jvm.MethodName) prog_24_method_119_code (2 : Nat) (Option.some (Jvm.ClassFile.FieldType.array (Jvm.ClassFile.FieldType.object "java/lang/Object")))) ∈ hy_T := hy_T_tab (List.mem_of_getElem? (i := 568) (by decide +kernel)) rfl
theorem tw_569 : (Jvm.Cond.methodLink "java/util/Arrays" (86 : Nat) ({ cls := "java/lang/Object", name := "getClass", desc := "()Ljava/lang/Class;" } : Jvm.MethodName)) ∈ hy_T := hy_T_tab (List.mem_of_getElem? (i := 569) (by decide +kernel)) rfl
theorem tw_570 : (Jvm.Cond.instanceMethod ({ cls := "java/lang/Object", name := "getClass", desc := "()Ljava/lang/Class;" } : Jvm.MethodName)) ∈ hy_T := hy_T_tab (List.mem_of_getElem? (i := 570) (by decide +kernel)) rfl
theorem tw_571 : (Jvm.Cond.sameMethod "java/lang/Object" "java/lang/Object" "getClass" "()Ljava/lang/Class;") ∈ hy_T := hy_T_tab (List.mem_of_getElem? (i := 571) (by decide +kernel)) rfl
theorem tw_572 : (Jvm.Cond.selects "HyphenPatterns" ({ cls := "java/lang/Object", name := "getClass", desc := "()Ljava/lang/Class;" } : Jvm.MethodName) ({ cls := "java/lang/Object", name := "getClass", desc := "()Ljava/lang/Class;" } : Jvm.MethodName)) ∈ hy_T := hy_T_tab (List.mem_of_getElem? (i := 572) (by decide +kernel)) rfl
theorem tw_573 : (Jvm.Cond.selects "HyphenPatterns$Draft" ({ cls := "java/lang/Object", name := "getClass", desc := "()Ljava/lang/Class;" } : Jvm.MethodName) ({ cls := "java/lang/Object", name := "getClass", desc := "()Ljava/lang/Class;" } : Jvm.MethodName)) ∈ hy_T := hy_T_tab (List.mem_of_getElem? (i := 573) (by decide +kernel)) rfl
theorem tw_574 : (Jvm.Cond.selects "HyphenPatterns$Language" ({ cls := "java/lang/Object", name := "getClass", desc := "()Ljava/lang/Class;" } : Jvm.MethodName) ({ cls := "java/lang/Object", name := "getClass", desc := "()Ljava/lang/Class;" } : Jvm.MethodName)) ∈ hy_T := hy_T_tab (List.mem_of_getElem? (i := 574) (by decide +kernel)) rfl
theorem tw_575 : (Jvm.Cond.selects "HyphenPatterns$Numbers" ({ cls := "java/lang/Object", name := "getClass", desc := "()Ljava/lang/Class;" } : Jvm.MethodName) ({ cls := "java/lang/Object", name := "getClass", desc := "()Ljava/lang/Class;" } : Jvm.MethodName)) ∈ hy_T := hy_T_tab (List.mem_of_getElem? (i := 575) (by decide +kernel)) rfl
theorem tw_576 : (Jvm.Cond.selects "HyphenPatterns$Reading" ({ cls := "java/lang/Object", name := "getClass", desc := "()Ljava/lang/Class;" } : Jvm.MethodName) ({ cls := "java/lang/Object", name := "getClass", desc := "()Ljava/lang/Class;" } : Jvm.MethodName)) ∈ hy_T := hy_T_tab (List.mem_of_getElem? (i := 576) (by decide +kernel)) rfl
theorem tw_577 : (Jvm.Cond.selects "HyphenPatterns$Rule" ({ cls := "java/lang/Object", name := "getClass", desc := "()Ljava/lang/Class;" } : Jvm.MethodName) ({ cls := "java/lang/Object", name := "getClass", desc := "()Ljava/lang/Class;" } : Jvm.MethodName)) ∈ hy_T := hy_T_tab (List.mem_of_getElem? (i := 577) (by decide +kernel)) rfl
theorem tw_578 : (Jvm.Cond.selects "HyphenPatternsModel" ({ cls := "java/lang/Object", name := "getClass", desc := "()Ljava/lang/Class;" } : Jvm.MethodName) ({ cls := "java/lang/Object", name := "getClass", desc := "()Ljava/lang/Class;" } : Jvm.MethodName)) ∈ hy_T := hy_T_tab (List.mem_of_getElem? (i := 578) (by decide +kernel)) rfl
theorem tw_579 : (Jvm.Cond.selects "java/lang/IllegalArgumentException" ({ cls := "java/lang/Object", name := "getClass", desc := "()Ljava/lang/Class;" } : Jvm.MethodName) ({ cls := "java/lang/Object", name := "getClass", desc := "()Ljava/lang/Class;" } : Jvm.MethodName)) ∈ hy_T := hy_T_tab (List.mem_of_getElem? (i := 579) (by decide +kernel)) rfl
theorem tw_580 : (Jvm.Cond.selects "java/lang/IllegalStateException" ({ cls := "java/lang/Object", name := "getClass", desc := "()Ljava/lang/Class;" } : Jvm.MethodName) ({ cls := "java/lang/Object", name := "getClass", desc := "()Ljava/lang/Class;" } : Jvm.MethodName)) ∈ hy_T := hy_T_tab (List.mem_of_getElem? (i := 580) (by decide +kernel)) rfl
theorem tw_581 : (Jvm.Cond.selects "java/lang/IndexOutOfBoundsException" ({ cls := "java/lang/Object", name := "getClass", desc := "()Ljava/lang/Class;" } : Jvm.MethodName) ({ cls := "java/lang/Object", name := "getClass", desc := "()Ljava/lang/Class;" } : Jvm.MethodName)) ∈ hy_T := hy_T_tab (List.mem_of_getElem? (i := 581) (by decide +kernel)) rfl
theorem tw_582 : (Jvm.Cond.selects "java/util/ArrayList" ({ cls := "java/lang/Object", name := "getClass", desc := "()Ljava/lang/Class;" } : Jvm.MethodName) ({ cls := "java/lang/Object", name := "getClass", desc := "()Ljava/lang/Class;" } : Jvm.MethodName)) ∈ hy_T := hy_T_tab (List.mem_of_getElem? (i := 582) (by decide +kernel)) rfl
theorem tw_583 : (Jvm.Cond.native ({ cls := "java/lang/Object", name := "getClass", desc := "()Ljava/lang/Class;" } : Jvm.MethodName)) ∈ hy_T := hy_T_tab (List.mem_of_getElem? (i := 583) (by decide +kernel)) rfl
theorem tw_584 : (Jvm.Cond.methodLink "java/util/Arrays" (300 : Nat) ({ cls := "java/util/Arrays", name := "copyOf", desc := "([Ljava/lang/Object;ILjava/lang/Class;)[Ljava/lang/Object;" } : Jvm.MethodName)) ∈ hy_T := hy_T_tab (List.mem_of_getElem? (i := 584) (by decide +kernel)) rfl
theorem tw_585 : (Jvm.Cond.static ({ cls := "java/util/Arrays", name := "copyOf", desc := "([Ljava/lang/Object;ILjava/lang/Class;)[Ljava/lang/Object;" } : Jvm.MethodName)) ∈ hy_T := hy_T_tab (List.mem_of_getElem? (i := 585) (by decide +kernel)) rfl
theorem tw_586 : (Jvm.Cond.code ({ cls := "java/util/Arrays", name := "copyOf", desc := "([Ljava/lang/Object;ILjava/lang/Class;)[Ljava/lang/Object;" } : Jvm.MethodName) prog_24_method_120_code (4 : Nat) (Option.some (Jvm.ClassFile.FieldType.array (Jvm.ClassFile.FieldType.object "java/lang/Object")))) ∈ hy_T := hy_T_tab (List.mem_of_getElem? (i := 586) (by decide +kernel)) rfl
theorem tw_587 : (Jvm.Cond.classLink "java/util/Arrays" (110 : Nat) "[Ljava/lang/Object;") ∈ hy_T := hy_T_tab (List.mem_of_getElem? (i := 587) (by decide +kernel)) rfl
theorem tw_589 : (Jvm.Cond.classLink "java/util/Arrays" (2 : Nat) "java/lang/Object") ∈ hy_T := hy_T_tab (List.mem_of_getElem? (i := 589) (by decide +kernel)) rfl
theorem tw_590 : (Jvm.Cond.methodLink "java/util/ArrayList" (79 : Nat) ({ cls := "java/lang/Math", name := "max", desc := "(II)I" } : Jvm.MethodName)) ∈ hy_T := hy_T_tab (List.mem_of_getElem? (i := 590) (by decide +kernel)) rfl
theorem tw_591 : (Jvm.Cond.classLink "java/util/ArrayList" (7 : Nat) "java/lang/Object") ∈ hy_T := hy_T_tab (List.mem_of_getElem? (i := 591) (by decide +kernel)) rfl
theorem tw_592 : (Jvm.Cond.methodLink "HyphenPatterns" (185 : Nat) ({ cls := "java/util/ArrayList", name := "set", desc := "(ILjava/lang/Object;)Ljava/lang/Object;" } : Jvm.MethodName)) ∈ hy_T := hy_T_tab (List.mem_of_getElem? (i := 592) (by decide +kernel)) rfl
theorem tw_593 : (Jvm.Cond.instanceMethod ({ cls := "java/util/ArrayList", name := "set", desc := "(ILjava/lang/Object;)Ljava/lang/Object;" } : Jvm.MethodName)) ∈ hy_T := hy_T_tab (List.mem_of_getElem? (i := 593) (by decide +kernel)) rfl
theorem tw_594 : (Jvm.Cond.selects "java/util/ArrayList" ({ cls := "java/util/ArrayList", name := "set", desc := "(ILjava/lang/Object;)Ljava/lang/Object;" } : Jvm.MethodName) ({ cls := "java/util/ArrayList", name := "set", desc := "(ILjava/lang/Object;)Ljava/lang/Object;" } : Jvm.MethodName)) ∈ hy_T := hy_T_tab (List.mem_of_getElem? (i := 594) (by decide +kernel)) rfl
theorem tw_595 : (Jvm.Cond.code ({ cls := "java/util/ArrayList", name := "set", desc := "(ILjava/lang/Object;)Ljava/lang/Object;" } : Jvm.MethodName) prog_23_method_23_code (4 : Nat) (Option.some (Jvm.ClassFile.FieldType.object "java/lang/Object"))) ∈ hy_T := hy_T_tab (List.mem_of_getElem? (i := 595) (by decide +kernel)) rfl
theorem tw_596 : (Jvm.Cond.methodLink "HyphenPatternsLaw" (81 : Nat) ({ cls := "HyphenPatternsLaw", name := "exception", desc := "(LHyphenPatterns;[J)I" } : Jvm.MethodName)) ∈ hy_T := hy_T_tab (List.mem_of_getElem? (i := 596) (by decide +kernel)) rfl
theorem tw_597 : (Jvm.Cond.static ({ cls := "HyphenPatternsLaw", name := "exception", desc := "(LHyphenPatterns;[J)I" } : Jvm.MethodName)) ∈ hy_T := hy_T_tab (List.mem_of_getElem? (i := 597) (by decide +kernel)) rfl
theorem tw_598 : (Jvm.Cond.codeWith ({ cls := "HyphenPatternsLaw", name := "exception", desc := "(LHyphenPatterns;[J)I" } : Jvm.MethodName) method_8_code (3 : Nat) (Option.some Jvm.ClassFile.FieldType.int) [((0 : Nat), (8 : Nat), (11 : Nat), (19 : Nat)), ((0 : Nat), (8 : Nat), (14 : Nat), (21 : Nat))]) ∈ hy_T := hy_T_tab (List.mem_of_getElem? (i := 598) (by decide +kernel)) rfl
theorem tw_599 : (Jvm.Cond.methodLink "HyphenPatternsLaw" (35 : Nat) ({ cls := "HyphenPatterns", name := "exception", desc := "()I" } : Jvm.MethodName)) ∈ hy_T := hy_T_tab (List.mem_of_getElem? (i := 599) (by decide +kernel)) rfl
theorem tw_600 : (Jvm.Cond.instanceMethod ({ cls := "HyphenPatterns", name := "exception", desc := "()I" } : Jvm.MethodName)) ∈ hy_T := hy_T_tab (List.mem_of_getElem? (i := 600) (by decide +kernel)) rfl
theorem tw_601 : (Jvm.Cond.selects "HyphenPatterns" ({ cls := "HyphenPatterns", name := "exception", desc := "()I" } : Jvm.MethodName) ({ cls := "HyphenPatterns", name := "exception", desc := "()I" } : Jvm.MethodName)) ∈ hy_T := hy_T_tab (List.mem_of_getElem? (i := 601) (by decide +kernel)) rfl
theorem tw_602 : (Jvm.Cond.code ({ cls := "HyphenPatterns", name := "exception", desc := "()I" } : Jvm.MethodName) prog_1_method_8_code (1 : Nat) (Option.some Jvm.ClassFile.FieldType.int)) ∈ hy_T := hy_T_tab (List.mem_of_getElem? (i := 602) (by decide +kernel)) rfl
theorem tw_603 : (Jvm.Cond.methodLink "HyphenPatterns" (110 : Nat) ({ cls := "HyphenPatterns$Draft", name := "readException", desc := "(LHyphenPatterns$Numbers;)Z" } : Jvm.MethodName)) ∈ hy_T := hy_T_tab (List.mem_of_getElem? (i := 603) (by decide +kernel)) rfl
theorem tw_604 : (Jvm.Cond.instanceMethod ({ cls := "HyphenPatterns$Draft", name := "readException", desc := "(LHyphenPatterns$Numbers;)Z" } : Jvm.MethodName)) ∈ hy_T := hy_T_tab (List.mem_of_getElem? (i := 604) (by decide +kernel)) rfl
theorem tw_605 : (Jvm.Cond.selects "HyphenPatterns$Draft" ({ cls := "HyphenPatterns$Draft", name := "readException", desc := "(LHyphenPatterns$Numbers;)Z" } : Jvm.MethodName) ({ cls := "HyphenPatterns$Draft", name := "readException", desc := "(LHyphenPatterns$Numbers;)Z" } : Jvm.MethodName)) ∈ hy_T := hy_T_tab (List.mem_of_getElem? (i := 605) (by decide +kernel)) rfl
theorem tw_606 : (Jvm.Cond.code ({ cls := "HyphenPatterns$Draft", name := "readException", desc := "(LHyphenPatterns$Numbers;)Z" } : Jvm.MethodName) prog_2_method_3_code (5 : Nat) (Option.some Jvm.ClassFile.FieldType.boolean)) ∈ hy_T := hy_T_tab (List.mem_of_getElem? (i := 606) (by decide +kernel)) rfl
theorem tw_608 : (Jvm.Cond.methodLink "HyphenPatterns" (118 : Nat) ({ cls := "HyphenPatterns", name := "exceptionsInAll", desc := "()I" } : Jvm.MethodName)) ∈ hy_T := hy_T_tab (List.mem_of_getElem? (i := 608) (by decide +kernel)) rfl
theorem tw_610 : (Jvm.Cond.instanceMethod ({ cls := "HyphenPatterns", name := "exceptionsInAll", desc := "()I" } : Jvm.MethodName)) ∈ hy_T := hy_T_tab (List.mem_of_getElem? (i := 610) (by decide +kernel)) rfl
theorem tw_611 : (Jvm.Cond.code ({ cls := "HyphenPatterns", name := "exceptionsInAll", desc := "()I" } : Jvm.MethodName) prog_1_method_18_code (3 : Nat) (Option.some Jvm.ClassFile.FieldType.int)) ∈ hy_T := hy_T_tab (List.mem_of_getElem? (i := 611) (by decide +kernel)) rfl
theorem tw_612 : (Jvm.Cond.methodLink "HyphenPatternsLaw" (88 : Nat) ({ cls := "HyphenPatternsLaw", name := "add", desc := "(LHyphenPatterns;IIIII[J)I" } : Jvm.MethodName)) ∈ hy_T := hy_T_tab (List.mem_of_getElem? (i := 612) (by decide +kernel)) rfl
theorem tw_613 : (Jvm.Cond.static ({ cls := "HyphenPatternsLaw", name := "add", desc := "(LHyphenPatterns;IIIII[J)I" } : Jvm.MethodName)) ∈ hy_T := hy_T_tab (List.mem_of_getElem? (i := 613) (by decide +kernel)) rfl
theorem tw_614 : (Jvm.Cond.codeWith ({ cls := "HyphenPatternsLaw", name := "add", desc := "(LHyphenPatterns;IIIII[J)I" } : Jvm.MethodName) method_9_code (8 : Nat) (Option.some Jvm.ClassFile.FieldType.int) [((0 : Nat), (16 : Nat), (19 : Nat), (19 : Nat)), ((0 : Nat), (16 : Nat), (23 : Nat), (21 : Nat))]) ∈ hy_T := hy_T_tab (List.mem_of_getElem? (i := 614) (by decide +kernel)) rfl
theorem tw_615 : (Jvm.Cond.methodLink "HyphenPatternsLaw" (38 : Nat) ({ cls := "HyphenPatterns", name := "add", desc := "(IIIII)I" } : Jvm.MethodName)) ∈ hy_T := hy_T_tab (List.mem_of_getElem? (i := 615) (by decide +kernel)) rfl
theorem tw_616 : (Jvm.Cond.instanceMethod ({ cls := "HyphenPatterns", name := "add", desc := "(IIIII)I" } : Jvm.MethodName)) ∈ hy_T := hy_T_tab (List.mem_of_getElem? (i := 616) (by decide +kernel)) rfl
theorem tw_617 : (Jvm.Cond.selects "HyphenPatterns" ({ cls := "HyphenPatterns", name := "add", desc := "(IIIII)I" } : Jvm.MethodName) ({ cls := "HyphenPatterns", name := "add", desc := "(IIIII)I" } : Jvm.MethodName)) ∈ hy_T := hy_T_tab (List.mem_of_getElem? (i := 617) (by decide +kernel)) rfl
theorem tw_618 : (Jvm.Cond.code ({ cls := "HyphenPatterns", name := "add", desc := "(IIIII)I" } : Jvm.MethodName) prog_1_method_10_code (6 : Nat) (Option.some Jvm.ClassFile.FieldType.int)) ∈ hy_T := hy_T_tab (List.mem_of_getElem? (i := 618) (by decide +kernel)) rfl
theorem tw_619 : (Jvm.Cond.methodLink "HyphenPatternsLaw" (95 : Nat) ({ cls := "HyphenPatternsLaw", name := "value", desc := "(LHyphenPatterns;I[J)I" } : Jvm.MethodName)) ∈ hy_T := hy_T_tab (List.mem_of_getElem? (i := 619) (by decide +kernel)) rfl
theorem tw_620 : (Jvm.Cond.static ({ cls := "HyphenPatternsLaw", name := "value", desc := "(LHyphenPatterns;I[J)I" } : Jvm.MethodName)) ∈ hy_T := hy_T_tab (List.mem_of_getElem? (i := 620) (by decide +kernel)) rfl
theorem tw_621 : (Jvm.Cond.codeWith ({ cls := "HyphenPatternsLaw", name := "value", desc := "(LHyphenPatterns;I[J)I" } : Jvm.MethodName) method_10_code (4 : Nat) (Option.some Jvm.ClassFile.FieldType.int) [((0 : Nat), (9 : Nat), (12 : Nat), (13 : Nat))]) ∈ hy_T := hy_T_tab (List.mem_of_getElem? (i := 621) (by decide +kernel)) rfl
theorem tw_622 : (Jvm.Cond.methodLink "HyphenPatternsLaw" (41 : Nat) ({ cls := "HyphenPatterns", name := "value", desc := "(I)I" } : Jvm.MethodName)) ∈ hy_T := hy_T_tab (List.mem_of_getElem? (i := 622) (by decide +kernel)) rfl
theorem tw_623 : (Jvm.Cond.instanceMethod ({ cls := "HyphenPatterns", name := "value", desc := "(I)I" } : Jvm.MethodName)) ∈ hy_T := hy_T_tab (List.mem_of_getElem? (i := 623) (by decide +kernel)) rfl
theorem tw_624 : (Jvm.Cond.selects "HyphenPatterns" ({ cls := "HyphenPatterns", name := "value", desc := "(I)I" } : Jvm.MethodName) ({ cls := "HyphenPatterns", name := "value", desc := "(I)I" } : Jvm.MethodName)) ∈ hy_T := hy_T_tab (List.mem_of_getElem? (i := 624) (by decide +kernel)) rfl
theorem tw_625 : (Jvm.Cond.code ({ cls := "HyphenPatterns", name := "value", desc := "(I)I" } : Jvm.MethodName) prog_1_method_12_code (2 : Nat) (Option.some Jvm.ClassFile.FieldType.int)) ∈ hy_T := hy_T_tab (List.mem_of_getElem? (i := 625) (by decide +kernel)) rfl
theorem tw_627 : (Jvm.Cond.methodLink "HyphenPatterns" (133 : Nat) ({ cls := "HyphenPatterns", name := "isWithinWord", desc := "(I)Z" } : Jvm.MethodName)) ∈ hy_T := hy_T_tab (List.mem_of_getElem? (i := 627) (by decide +kernel)) rfl
theorem tw_629 : (Jvm.Cond.instanceMethod ({ cls := "HyphenPatterns", name := "isWithinWord", desc := "(I)Z" } : Jvm.MethodName)) ∈ hy_T := hy_T_tab (List.mem_of_getElem? (i := 629) (by decide +kernel)) rfl
theorem tw_630 : (Jvm.Cond.code ({ cls := "HyphenPatterns", name := "isWithinWord", desc := "(I)Z" } : Jvm.MethodName) prog_1_method_23_code (2 : Nat) (Option.some Jvm.ClassFile.FieldType.boolean)) ∈ hy_T := hy_T_tab (List.mem_of_getElem? (i := 630) (by decide +kernel)) rfl
theorem tw_631 : (Jvm.Cond.methodLink "HyphenPatterns" (136 : Nat) ({ cls := "HyphenPatterns", name := "wordStart", desc := "(I)I" } : Jvm.MethodName)) ∈ hy_T := hy_T_tab (List.mem_of_getElem? (i := 631) (by decide +kernel)) rfl
theorem tw_633 : (Jvm.Cond.instanceMethod ({ cls := "HyphenPatterns", name := "wordStart", desc := "(I)I" } : Jvm.MethodName)) ∈ hy_T := hy_T_tab (List.mem_of_getElem? (i := 633) (by decide +kernel)) rfl
theorem tw_634 : (Jvm.Cond.code ({ cls := "HyphenPatterns", name := "wordStart", desc := "(I)I" } : Jvm.MethodName) prog_1_method_24_code (3 : Nat) (Option.some Jvm.ClassFile.FieldType.int)) ∈ hy_T := hy_T_tab (List.mem_of_getElem? (i := 634) (by decide +kernel)) rfl
theorem tw_635 : (Jvm.Cond.methodLink "HyphenPatterns" (144 : Nat) ({ cls := "HyphenPatterns$Reading", name := "weightAt", desc := "(I)I" } : Jvm.MethodName)) ∈ hy_T := hy_T_tab (List.mem_of_getElem? (i := 635) (by decide +kernel)) rfl
theorem tw_636 : (Jvm.Cond.methodLink "HyphenPatternsLaw" (98 : Nat) ({ cls := "HyphenPatternsLaw", name := "breaks", desc := "(LHyphenPatterns;I[J)I" } : Jvm.MethodName)) ∈ hy_T := hy_T_tab (List.mem_of_getElem? (i := 636) (by decide +kernel)) rfl
theorem tw_637 : (Jvm.Cond.static ({ cls := "HyphenPatternsLaw", name := "breaks", desc := "(LHyphenPatterns;I[J)I" } : Jvm.MethodName)) ∈ hy_T := hy_T_tab (List.mem_of_getElem? (i := 637) (by decide +kernel)) rfl
theorem tw_638 : (Jvm.Cond.codeWith ({ cls := "HyphenPatternsLaw", name := "breaks", desc := "(LHyphenPatterns;I[J)I" } : Jvm.MethodName) method_11_code (4 : Nat) (Option.some Jvm.ClassFile.FieldType.int) [((0 : Nat), (16 : Nat), (19 : Nat), (13 : Nat))]) ∈ hy_T := hy_T_tab (List.mem_of_getElem? (i := 638) (by decide +kernel)) rfl
theorem tw_639 : (Jvm.Cond.methodLink "HyphenPatternsLaw" (44 : Nat) ({ cls := "HyphenPatterns", name := "breaks", desc := "(I)Z" } : Jvm.MethodName)) ∈ hy_T := hy_T_tab (List.mem_of_getElem? (i := 639) (by decide +kernel)) rfl
theorem tw_640 : (Jvm.Cond.instanceMethod ({ cls := "HyphenPatterns", name := "breaks", desc := "(I)Z" } : Jvm.MethodName)) ∈ hy_T := hy_T_tab (List.mem_of_getElem? (i := 640) (by decide +kernel)) rfl
theorem tw_641 : (Jvm.Cond.selects "HyphenPatterns" ({ cls := "HyphenPatterns", name := "breaks", desc := "(I)Z" } : Jvm.MethodName) ({ cls := "HyphenPatterns", name := "breaks", desc := "(I)Z" } : Jvm.MethodName)) ∈ hy_T := hy_T_tab (List.mem_of_getElem? (i := 641) (by decide +kernel)) rfl
theorem tw_642 : (Jvm.Cond.code ({ cls := "HyphenPatterns", name := "breaks", desc := "(I)Z" } : Jvm.MethodName) prog_1_method_13_code (2 : Nat) (Option.some Jvm.ClassFile.FieldType.boolean)) ∈ hy_T := hy_T_tab (List.mem_of_getElem? (i := 642) (by decide +kernel)) rfl
theorem tw_643 : (Jvm.Cond.methodLink "HyphenPatterns" (147 : Nat) ({ cls := "HyphenPatterns$Reading", name := "canBreakAt", desc := "(ILHyphenPatterns$Language;)Z" } : Jvm.MethodName)) ∈ hy_T := hy_T_tab (List.mem_of_getElem? (i := 643) (by decide +kernel)) rfl
theorem tw_644 : (Jvm.Cond.classLink "HyphenPatternsLaw" (49 : Nat) "HyphenPatternsModel") ∈ hy_T := hy_T_tab (List.mem_of_getElem? (i := 644) (by decide +kernel)) rfl
theorem tw_645 : (Jvm.Cond.instantiable "HyphenPatternsModel" (26 : Nat)) ∈ hy_T := hy_T_tab (List.mem_of_getElem? (i := 645) (by decide +kernel)) rfl
theorem tw_646 : (Jvm.Cond.methodLink "HyphenPatternsLaw" (51 : Nat) ({ cls := "HyphenPatternsModel", name := "<init>", desc := "()V" } : Jvm.MethodName)) ∈ hy_T := hy_T_tab (List.mem_of_getElem? (i := 646) (by decide +kernel)) rfl
theorem tw_647 : (Jvm.Cond.instanceMethod ({ cls := "HyphenPatternsModel", name := "<init>", desc := "()V" } : Jvm.MethodName)) ∈ hy_T := hy_T_tab (List.mem_of_getElem? (i := 647) (by decide +kernel)) rfl
theorem tw_648 : (Jvm.Cond.code ({ cls := "HyphenPatternsModel", name := "<init>", desc := "()V" } : Jvm.MethodName) prog_8_method_1_code (2 : Nat) (Option.none : Option Jvm.ClassFile.FieldType)) ∈ hy_T := hy_T_tab (List.mem_of_getElem? (i := 648) (by decide +kernel)) rfl
theorem tw_649 : (Jvm.Cond.methodLink "HyphenPatternsModel" (1 : Nat) ({ cls := "java/lang/Object", name := "<init>", desc := "()V" } : Jvm.MethodName)) ∈ hy_T := hy_T_tab (List.mem_of_getElem? (i := 649) (by decide +kernel)) rfl
theorem tw_650 : (Jvm.Cond.fieldLink "HyphenPatternsModel" (67 : Nat) "HyphenPatternsModel" "fault" "I") ∈ hy_T := hy_T_tab (List.mem_of_getElem? (i := 650) (by decide +kernel)) rfl
theorem tw_651 : (Jvm.Cond.fieldLink "HyphenPatternsModel" (76 : Nat) "HyphenPatternsModel" "language" "I") ∈ hy_T := hy_T_tab (List.mem_of_getElem? (i := 651) (by decide +kernel)) rfl
theorem tw_652 : (Jvm.Cond.fieldLink "HyphenPatternsModel" (7 : Nat) "HyphenPatternsModel" "ranges" "[I") ∈ hy_T := hy_T_tab (List.mem_of_getElem? (i := 652) (by decide +kernel)) rfl
theorem tw_653 : (Jvm.Cond.fieldLink "HyphenPatternsModel" (13 : Nat) "HyphenPatternsModel" "firsts" "[I") ∈ hy_T := hy_T_tab (List.mem_of_getElem? (i := 653) (by decide +kernel)) rfl
theorem tw_654 : (Jvm.Cond.fieldLink "HyphenPatternsModel" (16 : Nat) "HyphenPatternsModel" "lasts" "[I") ∈ hy_T := hy_T_tab (List.mem_of_getElem? (i := 654) (by decide +kernel)) rfl
theorem tw_655 : (Jvm.Cond.fieldLink "HyphenPatternsModel" (19 : Nat) "HyphenPatternsModel" "tos" "[I") ∈ hy_T := hy_T_tab (List.mem_of_getElem? (i := 655) (by decide +kernel)) rfl
theorem tw_656 : (Jvm.Cond.fieldLink "HyphenPatternsModel" (22 : Nat) "HyphenPatternsModel" "lefts" "[I") ∈ hy_T := hy_T_tab (List.mem_of_getElem? (i := 656) (by decide +kernel)) rfl
theorem tw_657 : (Jvm.Cond.fieldLink "HyphenPatternsModel" (25 : Nat) "HyphenPatternsModel" "rights" "[I") ∈ hy_T := hy_T_tab (List.mem_of_getElem? (i := 657) (by decide +kernel)) rfl
theorem tw_658 : (Jvm.Cond.fieldLink "HyphenPatternsModel" (96 : Nat) "HyphenPatternsModel" "told" "I") ∈ hy_T := hy_T_tab (List.mem_of_getElem? (i := 658) (by decide +kernel)) rfl
theorem tw_659 : (Jvm.Cond.fieldLink "HyphenPatternsModel" (28 : Nat) "HyphenPatternsModel" "telling" "[I") ∈ hy_T := hy_T_tab (List.mem_of_getElem? (i := 659) (by decide +kernel)) rfl
theorem tw_660 : (Jvm.Cond.fieldLink "HyphenPatternsModel" (31 : Nat) "HyphenPatternsModel" "fresh" "[I") ∈ hy_T := hy_T_tab (List.mem_of_getElem? (i := 660) (by decide +kernel)) rfl
theorem tw_661 : (Jvm.Cond.fieldLink "HyphenPatternsModel" (99 : Nat) "HyphenPatternsModel" "letterCount" "I") ∈ hy_T := hy_T_tab (List.mem_of_getElem? (i := 661) (by decide +kernel)) rfl
theorem tw_662 : (Jvm.Cond.fieldLink "HyphenPatternsModel" (34 : Nat) "HyphenPatternsModel" "rowLetters" "[I") ∈ hy_T := hy_T_tab (List.mem_of_getElem? (i := 662) (by decide +kernel)) rfl
theorem tw_663 : (Jvm.Cond.fieldLink "HyphenPatternsModel" (37 : Nat) "HyphenPatternsModel" "rowValues" "[I") ∈ hy_T := hy_T_tab (List.mem_of_getElem? (i := 663) (by decide +kernel)) rfl
theorem tw_664 : (Jvm.Cond.fieldLink "HyphenPatternsModel" (106 : Nat) "HyphenPatternsModel" "patterns" "I") ∈ hy_T := hy_T_tab (List.mem_of_getElem? (i := 664) (by decide +kernel)) rfl
theorem tw_665 : (Jvm.Cond.fieldLink "HyphenPatternsModel" (40 : Nat) "HyphenPatternsModel" "patternOf" "[I") ∈ hy_T := hy_T_tab (List.mem_of_getElem? (i := 665) (by decide +kernel)) rfl
theorem tw_666 : (Jvm.Cond.fieldLink "HyphenPatternsModel" (43 : Nat) "HyphenPatternsModel" "patternSize" "[I") ∈ hy_T := hy_T_tab (List.mem_of_getElem? (i := 666) (by decide +kernel)) rfl
theorem tw_667 : (Jvm.Cond.fieldLink "HyphenPatternsModel" (46 : Nat) "HyphenPatternsModel" "patternLetters" "[I") ∈ hy_T := hy_T_tab (List.mem_of_getElem? (i := 667) (by decide +kernel)) rfl
theorem tw_668 : (Jvm.Cond.fieldLink "HyphenPatternsModel" (49 : Nat) "HyphenPatternsModel" "patternValues" "[I") ∈ hy_T := hy_T_tab (List.mem_of_getElem? (i := 668) (by decide +kernel)) rfl
theorem tw_669 : (Jvm.Cond.fieldLink "HyphenPatternsModel" (115 : Nat) "HyphenPatternsModel" "exceptions" "I") ∈ hy_T := hy_T_tab (List.mem_of_getElem? (i := 669) (by decide +kernel)) rfl
theorem tw_670 : (Jvm.Cond.fieldLink "HyphenPatternsModel" (52 : Nat) "HyphenPatternsModel" "exceptionOf" "[I") ∈ hy_T := hy_T_tab (List.mem_of_getElem? (i := 670) (by decide +kernel)) rfl
theorem tw_671 : (Jvm.Cond.fieldLink "HyphenPatternsModel" (55 : Nat) "HyphenPatternsModel" "exceptionSize" "[I") ∈ hy_T := hy_T_tab (List.mem_of_getElem? (i := 671) (by decide +kernel)) rfl
theorem tw_672 : (Jvm.Cond.fieldLink "HyphenPatternsModel" (58 : Nat) "HyphenPatternsModel" "exceptionLetters" "[I") ∈ hy_T := hy_T_tab (List.mem_of_getElem? (i := 672) (by decide +kernel)) rfl
theorem tw_673 : (Jvm.Cond.fieldLink "HyphenPatternsModel" (61 : Nat) "HyphenPatternsModel" "exceptionHyphens" "[I") ∈ hy_T := hy_T_tab (List.mem_of_getElem? (i := 673) (by decide +kernel)) rfl
theorem tw_674 : (Jvm.Cond.fieldLink "HyphenPatternsModel" (131 : Nat) "HyphenPatternsModel" "size" "I") ∈ hy_T := hy_T_tab (List.mem_of_getElem? (i := 674) (by decide +kernel)) rfl
theorem tw_675 : (Jvm.Cond.fieldLink "HyphenPatternsModel" (64 : Nat) "HyphenPatternsModel" "text" "[I") ∈ hy_T := hy_T_tab (List.mem_of_getElem? (i := 675) (by decide +kernel)) rfl
theorem tw_676 : (Jvm.Cond.lays "HyphenPatternsModel" "HyphenPatternsModel" "fault" "I") ∈ hy_T := hy_T_tab (List.mem_of_getElem? (i := 676) (by decide +kernel)) rfl
theorem tw_678 : (Jvm.Cond.lays "HyphenPatternsModel" "HyphenPatternsModel" "language" "I") ∈ hy_T := hy_T_tab (List.mem_of_getElem? (i := 678) (by decide +kernel)) rfl
theorem tw_680 : (Jvm.Cond.laysFinal "HyphenPatternsModel" "HyphenPatternsModel" "ranges" "[I") ∈ hy_T := hy_T_tab (List.mem_of_getElem? (i := 680) (by decide +kernel)) rfl
theorem tw_682 : (Jvm.Cond.laysFinal "HyphenPatternsModel" "HyphenPatternsModel" "firsts" "[I") ∈ hy_T := hy_T_tab (List.mem_of_getElem? (i := 682) (by decide +kernel)) rfl
theorem tw_684 : (Jvm.Cond.laysFinal "HyphenPatternsModel" "HyphenPatternsModel" "lasts" "[I") ∈ hy_T := hy_T_tab (List.mem_of_getElem? (i := 684) (by decide +kernel)) rfl
theorem tw_686 : (Jvm.Cond.laysFinal "HyphenPatternsModel" "HyphenPatternsModel" "tos" "[I") ∈ hy_T := hy_T_tab (List.mem_of_getElem? (i := 686) (by decide +kernel)) rfl
theorem tw_688 : (Jvm.Cond.laysFinal "HyphenPatternsModel" "HyphenPatternsModel" "lefts" "[I") ∈ hy_T := hy_T_tab (List.mem_of_getElem? (i := 688) (by decide +kernel)) rfl
theorem tw_690 : (Jvm.Cond.laysFinal "HyphenPatternsModel" "HyphenPatternsModel" "rights" "[I") ∈ hy_T := hy_T_tab (List.mem_of_getElem? (i := 690) (by decide +kernel)) rfl
theorem tw_692 : (Jvm.Cond.lays "HyphenPatternsModel" "HyphenPatternsModel" "told" "I") ∈ hy_T := hy_T_tab (List.mem_of_getElem? (i := 692) (by decide +kernel)) rfl
theorem tw_694 : (Jvm.Cond.laysFinal "HyphenPatternsModel" "HyphenPatternsModel" "telling" "[I") ∈ hy_T := hy_T_tab (List.mem_of_getElem? (i := 694) (by decide +kernel)) rfl
theorem tw_696 : (Jvm.Cond.laysFinal "HyphenPatternsModel" "HyphenPatternsModel" "fresh" "[I") ∈ hy_T := hy_T_tab (List.mem_of_getElem? (i := 696) (by decide +kernel)) rfl
theorem tw_698 : (Jvm.Cond.lays "HyphenPatternsModel" "HyphenPatternsModel" "letterCount" "I") ∈ hy_T := hy_T_tab (List.mem_of_getElem? (i := 698) (by decide +kernel)) rfl
theorem tw_700 : (Jvm.Cond.laysFinal "HyphenPatternsModel" "HyphenPatternsModel" "rowLetters" "[I") ∈ hy_T := hy_T_tab (List.mem_of_getElem? (i := 700) (by decide +kernel)) rfl
theorem tw_702 : (Jvm.Cond.laysFinal "HyphenPatternsModel" "HyphenPatternsModel" "rowValues" "[I") ∈ hy_T := hy_T_tab (List.mem_of_getElem? (i := 702) (by decide +kernel)) rfl
theorem tw_704 : (Jvm.Cond.lays "HyphenPatternsModel" "HyphenPatternsModel" "patterns" "I") ∈ hy_T := hy_T_tab (List.mem_of_getElem? (i := 704) (by decide +kernel)) rfl
theorem tw_706 : (Jvm.Cond.laysFinal "HyphenPatternsModel" "HyphenPatternsModel" "patternOf" "[I") ∈ hy_T := hy_T_tab (List.mem_of_getElem? (i := 706) (by decide +kernel)) rfl
theorem tw_708 : (Jvm.Cond.laysFinal "HyphenPatternsModel" "HyphenPatternsModel" "patternSize" "[I") ∈ hy_T := hy_T_tab (List.mem_of_getElem? (i := 708) (by decide +kernel)) rfl
theorem tw_710 : (Jvm.Cond.laysFinal "HyphenPatternsModel" "HyphenPatternsModel" "patternLetters" "[I") ∈ hy_T := hy_T_tab (List.mem_of_getElem? (i := 710) (by decide +kernel)) rfl
theorem tw_712 : (Jvm.Cond.laysFinal "HyphenPatternsModel" "HyphenPatternsModel" "patternValues" "[I") ∈ hy_T := hy_T_tab (List.mem_of_getElem? (i := 712) (by decide +kernel)) rfl
theorem tw_714 : (Jvm.Cond.lays "HyphenPatternsModel" "HyphenPatternsModel" "exceptions" "I") ∈ hy_T := hy_T_tab (List.mem_of_getElem? (i := 714) (by decide +kernel)) rfl
theorem tw_716 : (Jvm.Cond.laysFinal "HyphenPatternsModel" "HyphenPatternsModel" "exceptionOf" "[I") ∈ hy_T := hy_T_tab (List.mem_of_getElem? (i := 716) (by decide +kernel)) rfl
theorem tw_718 : (Jvm.Cond.laysFinal "HyphenPatternsModel" "HyphenPatternsModel" "exceptionSize" "[I") ∈ hy_T := hy_T_tab (List.mem_of_getElem? (i := 718) (by decide +kernel)) rfl
theorem tw_720 : (Jvm.Cond.laysFinal "HyphenPatternsModel" "HyphenPatternsModel" "exceptionLetters" "[I") ∈ hy_T := hy_T_tab (List.mem_of_getElem? (i := 720) (by decide +kernel)) rfl
theorem tw_722 : (Jvm.Cond.laysFinal "HyphenPatternsModel" "HyphenPatternsModel" "exceptionHyphens" "[I") ∈ hy_T := hy_T_tab (List.mem_of_getElem? (i := 722) (by decide +kernel)) rfl
theorem tw_724 : (Jvm.Cond.lays "HyphenPatternsModel" "HyphenPatternsModel" "size" "I") ∈ hy_T := hy_T_tab (List.mem_of_getElem? (i := 724) (by decide +kernel)) rfl
theorem tw_726 : (Jvm.Cond.laysFinal "HyphenPatternsModel" "HyphenPatternsModel" "text" "[I") ∈ hy_T := hy_T_tab (List.mem_of_getElem? (i := 726) (by decide +kernel)) rfl
theorem tw_728 : (Jvm.Cond.superclass "HyphenPatternsModel" "java/lang/Object") ∈ hy_T := hy_T_tab (List.mem_of_getElem? (i := 728) (by decide +kernel)) rfl
theorem tw_729 : (Jvm.Cond.methodLink "HyphenPatternsLaw" (58 : Nat) ({ cls := "HyphenPatternsModel", name := "thrown", desc := "()I" } : Jvm.MethodName)) ∈ hy_T := hy_T_tab (List.mem_of_getElem? (i := 729) (by decide +kernel)) rfl
theorem tw_730 : (Jvm.Cond.instanceMethod ({ cls := "HyphenPatternsModel", name := "thrown", desc := "()I" } : Jvm.MethodName)) ∈ hy_T := hy_T_tab (List.mem_of_getElem? (i := 730) (by decide +kernel)) rfl
theorem tw_731 : (Jvm.Cond.selects "HyphenPatternsModel" ({ cls := "HyphenPatternsModel", name := "thrown", desc := "()I" } : Jvm.MethodName) ({ cls := "HyphenPatternsModel", name := "thrown", desc := "()I" } : Jvm.MethodName)) ∈ hy_T := hy_T_tab (List.mem_of_getElem? (i := 731) (by decide +kernel)) rfl
theorem tw_732 : (Jvm.Cond.code ({ cls := "HyphenPatternsModel", name := "thrown", desc := "()I" } : Jvm.MethodName) prog_8_method_2_code (1 : Nat) (Option.some Jvm.ClassFile.FieldType.int)) ∈ hy_T := hy_T_tab (List.mem_of_getElem? (i := 732) (by decide +kernel)) rfl
theorem tw_733 : (Jvm.Cond.methodLink "HyphenPatternsLaw" (57 : Nat) ({ cls := "HyphenPatternsModel", name := "choose", desc := "(I)I" } : Jvm.MethodName)) ∈ hy_T := hy_T_tab (List.mem_of_getElem? (i := 733) (by decide +kernel)) rfl
theorem tw_734 : (Jvm.Cond.instanceMethod ({ cls := "HyphenPatternsModel", name := "choose", desc := "(I)I" } : Jvm.MethodName)) ∈ hy_T := hy_T_tab (List.mem_of_getElem? (i := 734) (by decide +kernel)) rfl
theorem tw_735 : (Jvm.Cond.selects "HyphenPatternsModel" ({ cls := "HyphenPatternsModel", name := "choose", desc := "(I)I" } : Jvm.MethodName) ({ cls := "HyphenPatternsModel", name := "choose", desc := "(I)I" } : Jvm.MethodName)) ∈ hy_T := hy_T_tab (List.mem_of_getElem? (i := 735) (by decide +kernel)) rfl
theorem tw_736 : (Jvm.Cond.code ({ cls := "HyphenPatternsModel", name := "choose", desc := "(I)I" } : Jvm.MethodName) prog_8_method_5_code (3 : Nat) (Option.some Jvm.ClassFile.FieldType.int)) ∈ hy_T := hy_T_tab (List.mem_of_getElem? (i := 736) (by decide +kernel)) rfl
theorem tw_737 : (Jvm.Cond.methodLink "HyphenPatternsModel" (72 : Nat) ({ cls := "HyphenPatternsModel", name := "refused", desc := "(I)Z" } : Jvm.MethodName)) ∈ hy_T := hy_T_tab (List.mem_of_getElem? (i := 737) (by decide +kernel)) rfl
theorem tw_739 : (Jvm.Cond.instanceMethod ({ cls := "HyphenPatternsModel", name := "refused", desc := "(I)Z" } : Jvm.MethodName)) ∈ hy_T := hy_T_tab (List.mem_of_getElem? (i := 739) (by decide +kernel)) rfl
theorem tw_740 : (Jvm.Cond.code ({ cls := "HyphenPatternsModel", name := "refused", desc := "(I)Z" } : Jvm.MethodName) prog_8_method_3_code (2 : Nat) (Option.some Jvm.ClassFile.FieldType.boolean)) ∈ hy_T := hy_T_tab (List.mem_of_getElem? (i := 740) (by decide +kernel)) rfl
theorem tw_741 : (Jvm.Cond.methodLink "HyphenPatternsLaw" (64 : Nat) ({ cls := "HyphenPatternsModel", name := "letters", desc := "(III)V" } : Jvm.MethodName)) ∈ hy_T := hy_T_tab (List.mem_of_getElem? (i := 741) (by decide +kernel)) rfl
theorem tw_742 : (Jvm.Cond.instanceMethod ({ cls := "HyphenPatternsModel", name := "letters", desc := "(III)V" } : Jvm.MethodName)) ∈ hy_T := hy_T_tab (List.mem_of_getElem? (i := 742) (by decide +kernel)) rfl
theorem tw_743 : (Jvm.Cond.selects "HyphenPatternsModel" ({ cls := "HyphenPatternsModel", name := "letters", desc := "(III)V" } : Jvm.MethodName) ({ cls := "HyphenPatternsModel", name := "letters", desc := "(III)V" } : Jvm.MethodName)) ∈ hy_T := hy_T_tab (List.mem_of_getElem? (i := 743) (by decide +kernel)) rfl
theorem tw_744 : (Jvm.Cond.code ({ cls := "HyphenPatternsModel", name := "letters", desc := "(III)V" } : Jvm.MethodName) prog_8_method_6_code (6 : Nat) (Option.none : Option Jvm.ClassFile.FieldType)) ∈ hy_T := hy_T_tab (List.mem_of_getElem? (i := 744) (by decide +kernel)) rfl
theorem tw_745 : (Jvm.Cond.methodLink "HyphenPatternsModel" (79 : Nat) ({ cls := "HyphenPatternsModel", name := "isChar", desc := "(I)Z" } : Jvm.MethodName)) ∈ hy_T := hy_T_tab (List.mem_of_getElem? (i := 745) (by decide +kernel)) rfl
theorem tw_746 : (Jvm.Cond.static ({ cls := "HyphenPatternsModel", name := "isChar", desc := "(I)Z" } : Jvm.MethodName)) ∈ hy_T := hy_T_tab (List.mem_of_getElem? (i := 746) (by decide +kernel)) rfl
theorem tw_747 : (Jvm.Cond.code ({ cls := "HyphenPatternsModel", name := "isChar", desc := "(I)Z" } : Jvm.MethodName) prog_8_method_4_code (1 : Nat) (Option.some Jvm.ClassFile.FieldType.boolean)) ∈ hy_T := hy_T_tab (List.mem_of_getElem? (i := 747) (by decide +kernel)) rfl
theorem tw_748 : (Jvm.Cond.constant "HyphenPatternsModel" (71 : Nat) (1114111 : Int32)) ∈ hy_T := hy_T_tab (List.mem_of_getElem? (i := 748) (by decide +kernel)) rfl
theorem tw_749 : (Jvm.Cond.constantLong "HyphenPatternsModel" (82 : Nat) (1114111 : Int64)) ∈ hy_T := hy_T_tab (List.mem_of_getElem? (i := 749) (by decide +kernel)) rfl
theorem tw_750 : (Jvm.Cond.methodLink "HyphenPatternsLaw" (68 : Nat) ({ cls := "HyphenPatternsModel", name := "least", desc := "(II)V" } : Jvm.MethodName)) ∈ hy_T := hy_T_tab (List.mem_of_getElem? (i := 750) (by decide +kernel)) rfl
theorem tw_751 : (Jvm.Cond.instanceMethod ({ cls := "HyphenPatternsModel", name := "least", desc := "(II)V" } : Jvm.MethodName)) ∈ hy_T := hy_T_tab (List.mem_of_getElem? (i := 751) (by decide +kernel)) rfl
theorem tw_752 : (Jvm.Cond.selects "HyphenPatternsModel" ({ cls := "HyphenPatternsModel", name := "least", desc := "(II)V" } : Jvm.MethodName) ({ cls := "HyphenPatternsModel", name := "least", desc := "(II)V" } : Jvm.MethodName)) ∈ hy_T := hy_T_tab (List.mem_of_getElem? (i := 752) (by decide +kernel)) rfl
theorem tw_753 : (Jvm.Cond.code ({ cls := "HyphenPatternsModel", name := "least", desc := "(II)V" } : Jvm.MethodName) prog_8_method_7_code (4 : Nat) (Option.none : Option Jvm.ClassFile.FieldType)) ∈ hy_T := hy_T_tab (List.mem_of_getElem? (i := 753) (by decide +kernel)) rfl
theorem tw_754 : (Jvm.Cond.methodLink "HyphenPatternsLaw" (72 : Nat) ({ cls := "HyphenPatternsModel", name := "tell", desc := "(IIIII)I" } : Jvm.MethodName)) ∈ hy_T := hy_T_tab (List.mem_of_getElem? (i := 754) (by decide +kernel)) rfl
theorem tw_755 : (Jvm.Cond.instanceMethod ({ cls := "HyphenPatternsModel", name := "tell", desc := "(IIIII)I" } : Jvm.MethodName)) ∈ hy_T := hy_T_tab (List.mem_of_getElem? (i := 755) (by decide +kernel)) rfl
theorem tw_756 : (Jvm.Cond.selects "HyphenPatternsModel" ({ cls := "HyphenPatternsModel", name := "tell", desc := "(IIIII)I" } : Jvm.MethodName) ({ cls := "HyphenPatternsModel", name := "tell", desc := "(IIIII)I" } : Jvm.MethodName)) ∈ hy_T := hy_T_tab (List.mem_of_getElem? (i := 756) (by decide +kernel)) rfl
theorem tw_757 : (Jvm.Cond.code ({ cls := "HyphenPatternsModel", name := "tell", desc := "(IIIII)I" } : Jvm.MethodName) prog_8_method_12_code (8 : Nat) (Option.some Jvm.ClassFile.FieldType.int)) ∈ hy_T := hy_T_tab (List.mem_of_getElem? (i := 757) (by decide +kernel)) rfl
theorem tw_758 : (Jvm.Cond.methodLink "HyphenPatternsModel" (84 : Nat) ({ cls := "HyphenPatternsModel", name := "keep", desc := "(IIIII)V" } : Jvm.MethodName)) ∈ hy_T := hy_T_tab (List.mem_of_getElem? (i := 758) (by decide +kernel)) rfl
theorem tw_760 : (Jvm.Cond.instanceMethod ({ cls := "HyphenPatternsModel", name := "keep", desc := "(IIIII)V" } : Jvm.MethodName)) ∈ hy_T := hy_T_tab (List.mem_of_getElem? (i := 760) (by decide +kernel)) rfl
theorem tw_761 : (Jvm.Cond.code ({ cls := "HyphenPatternsModel", name := "keep", desc := "(IIIII)V" } : Jvm.MethodName) prog_8_method_9_code (6 : Nat) (Option.none : Option Jvm.ClassFile.FieldType)) ∈ hy_T := hy_T_tab (List.mem_of_getElem? (i := 761) (by decide +kernel)) rfl
theorem tw_762 : (Jvm.Cond.methodLink "HyphenPatternsModel" (88 : Nat) ({ cls := "HyphenPatternsModel", name := "given", desc := "()I" } : Jvm.MethodName)) ∈ hy_T := hy_T_tab (List.mem_of_getElem? (i := 762) (by decide +kernel)) rfl
theorem tw_764 : (Jvm.Cond.instanceMethod ({ cls := "HyphenPatternsModel", name := "given", desc := "()I" } : Jvm.MethodName)) ∈ hy_T := hy_T_tab (List.mem_of_getElem? (i := 764) (by decide +kernel)) rfl
theorem tw_765 : (Jvm.Cond.code ({ cls := "HyphenPatternsModel", name := "given", desc := "()I" } : Jvm.MethodName) prog_8_method_10_code (2 : Nat) (Option.some Jvm.ClassFile.FieldType.int)) ∈ hy_T := hy_T_tab (List.mem_of_getElem? (i := 765) (by decide +kernel)) rfl
theorem tw_766 : (Jvm.Cond.methodLink "HyphenPatternsModel" (92 : Nat) ({ cls := "HyphenPatternsModel", name := "isSound", desc := "(II)Z" } : Jvm.MethodName)) ∈ hy_T := hy_T_tab (List.mem_of_getElem? (i := 766) (by decide +kernel)) rfl
theorem tw_768 : (Jvm.Cond.instanceMethod ({ cls := "HyphenPatternsModel", name := "isSound", desc := "(II)Z" } : Jvm.MethodName)) ∈ hy_T := hy_T_tab (List.mem_of_getElem? (i := 768) (by decide +kernel)) rfl
theorem tw_769 : (Jvm.Cond.code ({ cls := "HyphenPatternsModel", name := "isSound", desc := "(II)Z" } : Jvm.MethodName) prog_8_method_11_code (5 : Nat) (Option.some Jvm.ClassFile.FieldType.boolean)) ∈ hy_T := hy_T_tab (List.mem_of_getElem? (i := 769) (by decide +kernel)) rfl
theorem tw_770 : (Jvm.Cond.methodLink "HyphenPatternsLaw" (76 : Nat) ({ cls := "HyphenPatternsModel", name := "drop", desc := "()I" } : Jvm.MethodName)) ∈ hy_T := hy_T_tab (List.mem_of_getElem? (i := 770) (by decide +kernel)) rfl
theorem tw_771 : (Jvm.Cond.instanceMethod ({ cls := "HyphenPatternsModel", name := "drop", desc := "()I" } : Jvm.MethodName)) ∈ hy_T := hy_T_tab (List.mem_of_getElem? (i := 771) (by decide +kernel)) rfl
theorem tw_772 : (Jvm.Cond.selects "HyphenPatternsModel" ({ cls := "HyphenPatternsModel", name := "drop", desc := "()I" } : Jvm.MethodName) ({ cls := "HyphenPatternsModel", name := "drop", desc := "()I" } : Jvm.MethodName)) ∈ hy_T := hy_T_tab (List.mem_of_getElem? (i := 772) (by decide +kernel)) rfl
theorem tw_773 : (Jvm.Cond.code ({ cls := "HyphenPatternsModel", name := "drop", desc := "()I" } : Jvm.MethodName) prog_8_method_13_code (2 : Nat) (Option.some Jvm.ClassFile.FieldType.int)) ∈ hy_T := hy_T_tab (List.mem_of_getElem? (i := 773) (by decide +kernel)) rfl
theorem tw_774 : (Jvm.Cond.methodLink "HyphenPatternsLaw" (80 : Nat) ({ cls := "HyphenPatternsModel", name := "pattern", desc := "()I" } : Jvm.MethodName)) ∈ hy_T := hy_T_tab (List.mem_of_getElem? (i := 774) (by decide +kernel)) rfl
theorem tw_775 : (Jvm.Cond.instanceMethod ({ cls := "HyphenPatternsModel", name := "pattern", desc := "()I" } : Jvm.MethodName)) ∈ hy_T := hy_T_tab (List.mem_of_getElem? (i := 775) (by decide +kernel)) rfl
theorem tw_776 : (Jvm.Cond.selects "HyphenPatternsModel" ({ cls := "HyphenPatternsModel", name := "pattern", desc := "()I" } : Jvm.MethodName) ({ cls := "HyphenPatternsModel", name := "pattern", desc := "()I" } : Jvm.MethodName)) ∈ hy_T := hy_T_tab (List.mem_of_getElem? (i := 776) (by decide +kernel)) rfl
theorem tw_777 : (Jvm.Cond.code ({ cls := "HyphenPatternsModel", name := "pattern", desc := "()I" } : Jvm.MethodName) prog_8_method_18_code (4 : Nat) (Option.some Jvm.ClassFile.FieldType.int)) ∈ hy_T := hy_T_tab (List.mem_of_getElem? (i := 777) (by decide +kernel)) rfl
theorem tw_778 : (Jvm.Cond.methodLink "HyphenPatternsModel" (109 : Nat) ({ cls := "HyphenPatternsModel", name := "isPattern", desc := "()Z" } : Jvm.MethodName)) ∈ hy_T := hy_T_tab (List.mem_of_getElem? (i := 778) (by decide +kernel)) rfl
theorem tw_780 : (Jvm.Cond.instanceMethod ({ cls := "HyphenPatternsModel", name := "isPattern", desc := "()Z" } : Jvm.MethodName)) ∈ hy_T := hy_T_tab (List.mem_of_getElem? (i := 780) (by decide +kernel)) rfl
theorem tw_781 : (Jvm.Cond.code ({ cls := "HyphenPatternsModel", name := "isPattern", desc := "()Z" } : Jvm.MethodName) prog_8_method_15_code (4 : Nat) (Option.some Jvm.ClassFile.FieldType.boolean)) ∈ hy_T := hy_T_tab (List.mem_of_getElem? (i := 781) (by decide +kernel)) rfl
theorem tw_782 : (Jvm.Cond.methodLink "HyphenPatternsModel" (102 : Nat) ({ cls := "HyphenPatternsModel", name := "readRow", desc := "()Z" } : Jvm.MethodName)) ∈ hy_T := hy_T_tab (List.mem_of_getElem? (i := 782) (by decide +kernel)) rfl
theorem tw_784 : (Jvm.Cond.instanceMethod ({ cls := "HyphenPatternsModel", name := "readRow", desc := "()Z" } : Jvm.MethodName)) ∈ hy_T := hy_T_tab (List.mem_of_getElem? (i := 784) (by decide +kernel)) rfl
theorem tw_785 : (Jvm.Cond.code ({ cls := "HyphenPatternsModel", name := "readRow", desc := "()Z" } : Jvm.MethodName) prog_8_method_14_code (3 : Nat) (Option.some Jvm.ClassFile.FieldType.boolean)) ∈ hy_T := hy_T_tab (List.mem_of_getElem? (i := 785) (by decide +kernel)) rfl
theorem tw_786 : (Jvm.Cond.methodLink "HyphenPatternsModel" (112 : Nat) ({ cls := "HyphenPatternsModel", name := "findPattern", desc := "()I" } : Jvm.MethodName)) ∈ hy_T := hy_T_tab (List.mem_of_getElem? (i := 786) (by decide +kernel)) rfl
theorem tw_788 : (Jvm.Cond.instanceMethod ({ cls := "HyphenPatternsModel", name := "findPattern", desc := "()I" } : Jvm.MethodName)) ∈ hy_T := hy_T_tab (List.mem_of_getElem? (i := 788) (by decide +kernel)) rfl
theorem tw_789 : (Jvm.Cond.code ({ cls := "HyphenPatternsModel", name := "findPattern", desc := "()I" } : Jvm.MethodName) prog_8_method_17_code (5 : Nat) (Option.some Jvm.ClassFile.FieldType.int)) ∈ hy_T := hy_T_tab (List.mem_of_getElem? (i := 789) (by decide +kernel)) rfl
theorem tw_790 : (Jvm.Cond.methodLink "HyphenPatternsLaw" (83 : Nat) ({ cls := "HyphenPatternsModel", name := "exception", desc := "()I" } : Jvm.MethodName)) ∈ hy_T := hy_T_tab (List.mem_of_getElem? (i := 790) (by decide +kernel)) rfl
theorem tw_791 : (Jvm.Cond.instanceMethod ({ cls := "HyphenPatternsModel", name := "exception", desc := "()I" } : Jvm.MethodName)) ∈ hy_T := hy_T_tab (List.mem_of_getElem? (i := 791) (by decide +kernel)) rfl
theorem tw_792 : (Jvm.Cond.selects "HyphenPatternsModel" ({ cls := "HyphenPatternsModel", name := "exception", desc := "()I" } : Jvm.MethodName) ({ cls := "HyphenPatternsModel", name := "exception", desc := "()I" } : Jvm.MethodName)) ∈ hy_T := hy_T_tab (List.mem_of_getElem? (i := 792) (by decide +kernel)) rfl
theorem tw_793 : (Jvm.Cond.code ({ cls := "HyphenPatternsModel", name := "exception", desc := "()I" } : Jvm.MethodName) prog_8_method_20_code (4 : Nat) (Option.some Jvm.ClassFile.FieldType.int)) ∈ hy_T := hy_T_tab (List.mem_of_getElem? (i := 793) (by decide +kernel)) rfl
theorem tw_794 : (Jvm.Cond.methodLink "HyphenPatternsModel" (118 : Nat) ({ cls := "HyphenPatternsModel", name := "isException", desc := "()Z" } : Jvm.MethodName)) ∈ hy_T := hy_T_tab (List.mem_of_getElem? (i := 794) (by decide +kernel)) rfl
theorem tw_796 : (Jvm.Cond.instanceMethod ({ cls := "HyphenPatternsModel", name := "isException", desc := "()Z" } : Jvm.MethodName)) ∈ hy_T := hy_T_tab (List.mem_of_getElem? (i := 796) (by decide +kernel)) rfl
theorem tw_797 : (Jvm.Cond.code ({ cls := "HyphenPatternsModel", name := "isException", desc := "()Z" } : Jvm.MethodName) prog_8_method_16_code (3 : Nat) (Option.some Jvm.ClassFile.FieldType.boolean)) ∈ hy_T := hy_T_tab (List.mem_of_getElem? (i := 797) (by decide +kernel)) rfl
theorem tw_798 : (Jvm.Cond.methodLink "HyphenPatternsModel" (121 : Nat) ({ cls := "HyphenPatternsModel", name := "findException", desc := "()I" } : Jvm.MethodName)) ∈ hy_T := hy_T_tab (List.mem_of_getElem? (i := 798) (by decide +kernel)) rfl
theorem tw_800 : (Jvm.Cond.instanceMethod ({ cls := "HyphenPatternsModel", name := "findException", desc := "()I" } : Jvm.MethodName)) ∈ hy_T := hy_T_tab (List.mem_of_getElem? (i := 800) (by decide +kernel)) rfl
theorem tw_801 : (Jvm.Cond.code ({ cls := "HyphenPatternsModel", name := "findException", desc := "()I" } : Jvm.MethodName) prog_8_method_19_code (5 : Nat) (Option.some Jvm.ClassFile.FieldType.int)) ∈ hy_T := hy_T_tab (List.mem_of_getElem? (i := 801) (by decide +kernel)) rfl
theorem tw_802 : (Jvm.Cond.methodLink "HyphenPatternsLaw" (87 : Nat) ({ cls := "HyphenPatternsModel", name := "forget", desc := "()I" } : Jvm.MethodName)) ∈ hy_T := hy_T_tab (List.mem_of_getElem? (i := 802) (by decide +kernel)) rfl
theorem tw_803 : (Jvm.Cond.instanceMethod ({ cls := "HyphenPatternsModel", name := "forget", desc := "()I" } : Jvm.MethodName)) ∈ hy_T := hy_T_tab (List.mem_of_getElem? (i := 803) (by decide +kernel)) rfl
theorem tw_804 : (Jvm.Cond.selects "HyphenPatternsModel" ({ cls := "HyphenPatternsModel", name := "forget", desc := "()I" } : Jvm.MethodName) ({ cls := "HyphenPatternsModel", name := "forget", desc := "()I" } : Jvm.MethodName)) ∈ hy_T := hy_T_tab (List.mem_of_getElem? (i := 804) (by decide +kernel)) rfl
theorem tw_805 : (Jvm.Cond.code ({ cls := "HyphenPatternsModel", name := "forget", desc := "()I" } : Jvm.MethodName) prog_8_method_23_code (4 : Nat) (Option.some Jvm.ClassFile.FieldType.int)) ∈ hy_T := hy_T_tab (List.mem_of_getElem? (i := 805) (by decide +kernel)) rfl
theorem tw_806 : (Jvm.Cond.methodLink "HyphenPatternsModel" (124 : Nat) ({ cls := "HyphenPatternsModel", name := "movePattern", desc := "(II)V" } : Jvm.MethodName)) ∈ hy_T := hy_T_tab (List.mem_of_getElem? (i := 806) (by decide +kernel)) rfl
theorem tw_808 : (Jvm.Cond.instanceMethod ({ cls := "HyphenPatternsModel", name := "movePattern", desc := "(II)V" } : Jvm.MethodName)) ∈ hy_T := hy_T_tab (List.mem_of_getElem? (i := 808) (by decide +kernel)) rfl
theorem tw_809 : (Jvm.Cond.code ({ cls := "HyphenPatternsModel", name := "movePattern", desc := "(II)V" } : Jvm.MethodName) prog_8_method_21_code (4 : Nat) (Option.none : Option Jvm.ClassFile.FieldType)) ∈ hy_T := hy_T_tab (List.mem_of_getElem? (i := 809) (by decide +kernel)) rfl
theorem tw_810 : (Jvm.Cond.methodLink "HyphenPatternsModel" (128 : Nat) ({ cls := "HyphenPatternsModel", name := "moveException", desc := "(II)V" } : Jvm.MethodName)) ∈ hy_T := hy_T_tab (List.mem_of_getElem? (i := 810) (by decide +kernel)) rfl
theorem tw_812 : (Jvm.Cond.instanceMethod ({ cls := "HyphenPatternsModel", name := "moveException", desc := "(II)V" } : Jvm.MethodName)) ∈ hy_T := hy_T_tab (List.mem_of_getElem? (i := 812) (by decide +kernel)) rfl
theorem tw_813 : (Jvm.Cond.code ({ cls := "HyphenPatternsModel", name := "moveException", desc := "(II)V" } : Jvm.MethodName) prog_8_method_22_code (4 : Nat) (Option.none : Option Jvm.ClassFile.FieldType)) ∈ hy_T := hy_T_tab (List.mem_of_getElem? (i := 813) (by decide +kernel)) rfl
theorem tw_814 : (Jvm.Cond.methodLink "HyphenPatternsLaw" (90 : Nat) ({ cls := "HyphenPatternsModel", name := "add", desc := "(IIIII)I" } : Jvm.MethodName)) ∈ hy_T := hy_T_tab (List.mem_of_getElem? (i := 814) (by decide +kernel)) rfl
theorem tw_815 : (Jvm.Cond.instanceMethod ({ cls := "HyphenPatternsModel", name := "add", desc := "(IIIII)I" } : Jvm.MethodName)) ∈ hy_T := hy_T_tab (List.mem_of_getElem? (i := 815) (by decide +kernel)) rfl
theorem tw_816 : (Jvm.Cond.selects "HyphenPatternsModel" ({ cls := "HyphenPatternsModel", name := "add", desc := "(IIIII)I" } : Jvm.MethodName) ({ cls := "HyphenPatternsModel", name := "add", desc := "(IIIII)I" } : Jvm.MethodName)) ∈ hy_T := hy_T_tab (List.mem_of_getElem? (i := 816) (by decide +kernel)) rfl
theorem tw_817 : (Jvm.Cond.code ({ cls := "HyphenPatternsModel", name := "add", desc := "(IIIII)I" } : Jvm.MethodName) prog_8_method_24_code (8 : Nat) (Option.some Jvm.ClassFile.FieldType.int)) ∈ hy_T := hy_T_tab (List.mem_of_getElem? (i := 817) (by decide +kernel)) rfl
theorem tw_818 : (Jvm.Cond.methodLink "HyphenPatternsLaw" (94 : Nat) ({ cls := "HyphenPatternsModel", name := "clear", desc := "()I" } : Jvm.MethodName)) ∈ hy_T := hy_T_tab (List.mem_of_getElem? (i := 818) (by decide +kernel)) rfl
theorem tw_819 : (Jvm.Cond.instanceMethod ({ cls := "HyphenPatternsModel", name := "clear", desc := "()I" } : Jvm.MethodName)) ∈ hy_T := hy_T_tab (List.mem_of_getElem? (i := 819) (by decide +kernel)) rfl
theorem tw_820 : (Jvm.Cond.selects "HyphenPatternsModel" ({ cls := "HyphenPatternsModel", name := "clear", desc := "()I" } : Jvm.MethodName) ({ cls := "HyphenPatternsModel", name := "clear", desc := "()I" } : Jvm.MethodName)) ∈ hy_T := hy_T_tab (List.mem_of_getElem? (i := 820) (by decide +kernel)) rfl
theorem tw_821 : (Jvm.Cond.code ({ cls := "HyphenPatternsModel", name := "clear", desc := "()I" } : Jvm.MethodName) prog_8_method_25_code (2 : Nat) (Option.some Jvm.ClassFile.FieldType.int)) ∈ hy_T := hy_T_tab (List.mem_of_getElem? (i := 821) (by decide +kernel)) rfl
theorem tw_822 : (Jvm.Cond.methodLink "HyphenPatternsLaw" (97 : Nat) ({ cls := "HyphenPatternsModel", name := "value", desc := "(I)I" } : Jvm.MethodName)) ∈ hy_T := hy_T_tab (List.mem_of_getElem? (i := 822) (by decide +kernel)) rfl
theorem tw_823 : (Jvm.Cond.instanceMethod ({ cls := "HyphenPatternsModel", name := "value", desc := "(I)I" } : Jvm.MethodName)) ∈ hy_T := hy_T_tab (List.mem_of_getElem? (i := 823) (by decide +kernel)) rfl
theorem tw_824 : (Jvm.Cond.selects "HyphenPatternsModel" ({ cls := "HyphenPatternsModel", name := "value", desc := "(I)I" } : Jvm.MethodName) ({ cls := "HyphenPatternsModel", name := "value", desc := "(I)I" } : Jvm.MethodName)) ∈ hy_T := hy_T_tab (List.mem_of_getElem? (i := 824) (by decide +kernel)) rfl
theorem tw_825 : (Jvm.Cond.code ({ cls := "HyphenPatternsModel", name := "value", desc := "(I)I" } : Jvm.MethodName) prog_8_method_37_code (2 : Nat) (Option.some Jvm.ClassFile.FieldType.int)) ∈ hy_T := hy_T_tab (List.mem_of_getElem? (i := 825) (by decide +kernel)) rfl
theorem tw_826 : (Jvm.Cond.methodLink "HyphenPatternsModel" (168 : Nat) ({ cls := "HyphenPatternsModel", name := "isPlace", desc := "(I)Z" } : Jvm.MethodName)) ∈ hy_T := hy_T_tab (List.mem_of_getElem? (i := 826) (by decide +kernel)) rfl
theorem tw_828 : (Jvm.Cond.instanceMethod ({ cls := "HyphenPatternsModel", name := "isPlace", desc := "(I)Z" } : Jvm.MethodName)) ∈ hy_T := hy_T_tab (List.mem_of_getElem? (i := 828) (by decide +kernel)) rfl
theorem tw_829 : (Jvm.Cond.code ({ cls := "HyphenPatternsModel", name := "isPlace", desc := "(I)Z" } : Jvm.MethodName) prog_8_method_36_code (2 : Nat) (Option.some Jvm.ClassFile.FieldType.boolean)) ∈ hy_T := hy_T_tab (List.mem_of_getElem? (i := 829) (by decide +kernel)) rfl
theorem tw_830 : (Jvm.Cond.methodLink "HyphenPatternsModel" (165 : Nat) ({ cls := "HyphenPatternsModel", name := "valueOf", desc := "(I)I" } : Jvm.MethodName)) ∈ hy_T := hy_T_tab (List.mem_of_getElem? (i := 830) (by decide +kernel)) rfl
theorem tw_832 : (Jvm.Cond.instanceMethod ({ cls := "HyphenPatternsModel", name := "valueOf", desc := "(I)I" } : Jvm.MethodName)) ∈ hy_T := hy_T_tab (List.mem_of_getElem? (i := 832) (by decide +kernel)) rfl
theorem tw_833 : (Jvm.Cond.code ({ cls := "HyphenPatternsModel", name := "valueOf", desc := "(I)I" } : Jvm.MethodName) prog_8_method_34_code (2 : Nat) (Option.some Jvm.ClassFile.FieldType.int)) ∈ hy_T := hy_T_tab (List.mem_of_getElem? (i := 833) (by decide +kernel)) rfl
theorem tw_834 : (Jvm.Cond.methodLink "HyphenPatternsModel" (152 : Nat) ({ cls := "HyphenPatternsModel", name := "isWithin", desc := "(I)Z" } : Jvm.MethodName)) ∈ hy_T := hy_T_tab (List.mem_of_getElem? (i := 834) (by decide +kernel)) rfl
theorem tw_836 : (Jvm.Cond.instanceMethod ({ cls := "HyphenPatternsModel", name := "isWithin", desc := "(I)Z" } : Jvm.MethodName)) ∈ hy_T := hy_T_tab (List.mem_of_getElem? (i := 836) (by decide +kernel)) rfl
theorem tw_837 : (Jvm.Cond.code ({ cls := "HyphenPatternsModel", name := "isWithin", desc := "(I)Z" } : Jvm.MethodName) prog_8_method_33_code (2 : Nat) (Option.some Jvm.ClassFile.FieldType.boolean)) ∈ hy_T := hy_T_tab (List.mem_of_getElem? (i := 837) (by decide +kernel)) rfl
theorem tw_838 : (Jvm.Cond.methodLink "HyphenPatternsModel" (138 : Nat) ({ cls := "HyphenPatternsModel", name := "isLetter", desc := "(I)Z" } : Jvm.MethodName)) ∈ hy_T := hy_T_tab (List.mem_of_getElem? (i := 838) (by decide +kernel)) rfl
theorem tw_840 : (Jvm.Cond.instanceMethod ({ cls := "HyphenPatternsModel", name := "isLetter", desc := "(I)Z" } : Jvm.MethodName)) ∈ hy_T := hy_T_tab (List.mem_of_getElem? (i := 840) (by decide +kernel)) rfl
theorem tw_841 : (Jvm.Cond.code ({ cls := "HyphenPatternsModel", name := "isLetter", desc := "(I)Z" } : Jvm.MethodName) prog_8_method_26_code (2 : Nat) (Option.some Jvm.ClassFile.FieldType.boolean)) ∈ hy_T := hy_T_tab (List.mem_of_getElem? (i := 841) (by decide +kernel)) rfl
theorem tw_842 : (Jvm.Cond.methodLink "HyphenPatternsModel" (134 : Nat) ({ cls := "HyphenPatternsModel", name := "letterOf", desc := "(I)I" } : Jvm.MethodName)) ∈ hy_T := hy_T_tab (List.mem_of_getElem? (i := 842) (by decide +kernel)) rfl
theorem tw_844 : (Jvm.Cond.instanceMethod ({ cls := "HyphenPatternsModel", name := "letterOf", desc := "(I)I" } : Jvm.MethodName)) ∈ hy_T := hy_T_tab (List.mem_of_getElem? (i := 844) (by decide +kernel)) rfl
theorem tw_845 : (Jvm.Cond.code ({ cls := "HyphenPatternsModel", name := "letterOf", desc := "(I)I" } : Jvm.MethodName) prog_8_method_8_code (5 : Nat) (Option.some Jvm.ClassFile.FieldType.int)) ∈ hy_T := hy_T_tab (List.mem_of_getElem? (i := 845) (by decide +kernel)) rfl
theorem tw_846 : (Jvm.Cond.methodLink "HyphenPatternsModel" (155 : Nat) ({ cls := "HyphenPatternsModel", name := "begin", desc := "(I)I" } : Jvm.MethodName)) ∈ hy_T := hy_T_tab (List.mem_of_getElem? (i := 846) (by decide +kernel)) rfl
theorem tw_848 : (Jvm.Cond.instanceMethod ({ cls := "HyphenPatternsModel", name := "begin", desc := "(I)I" } : Jvm.MethodName)) ∈ hy_T := hy_T_tab (List.mem_of_getElem? (i := 848) (by decide +kernel)) rfl
theorem tw_849 : (Jvm.Cond.code ({ cls := "HyphenPatternsModel", name := "begin", desc := "(I)I" } : Jvm.MethodName) prog_8_method_27_code (3 : Nat) (Option.some Jvm.ClassFile.FieldType.int)) ∈ hy_T := hy_T_tab (List.mem_of_getElem? (i := 849) (by decide +kernel)) rfl
theorem tw_850 : (Jvm.Cond.methodLink "HyphenPatternsModel" (158 : Nat) ({ cls := "HyphenPatternsModel", name := "end", desc := "(I)I" } : Jvm.MethodName)) ∈ hy_T := hy_T_tab (List.mem_of_getElem? (i := 850) (by decide +kernel)) rfl
theorem tw_852 : (Jvm.Cond.instanceMethod ({ cls := "HyphenPatternsModel", name := "end", desc := "(I)I" } : Jvm.MethodName)) ∈ hy_T := hy_T_tab (List.mem_of_getElem? (i := 852) (by decide +kernel)) rfl
theorem tw_853 : (Jvm.Cond.code ({ cls := "HyphenPatternsModel", name := "end", desc := "(I)I" } : Jvm.MethodName) prog_8_method_28_code (3 : Nat) (Option.some Jvm.ClassFile.FieldType.int)) ∈ hy_T := hy_T_tab (List.mem_of_getElem? (i := 853) (by decide +kernel)) rfl
theorem tw_854 : (Jvm.Cond.methodLink "HyphenPatternsModel" (161 : Nat) ({ cls := "HyphenPatternsModel", name := "wordValue", desc := "(III)I" } : Jvm.MethodName)) ∈ hy_T := hy_T_tab (List.mem_of_getElem? (i := 854) (by decide +kernel)) rfl
theorem tw_856 : (Jvm.Cond.instanceMethod ({ cls := "HyphenPatternsModel", name := "wordValue", desc := "(III)I" } : Jvm.MethodName)) ∈ hy_T := hy_T_tab (List.mem_of_getElem? (i := 856) (by decide +kernel)) rfl
theorem tw_857 : (Jvm.Cond.code ({ cls := "HyphenPatternsModel", name := "wordValue", desc := "(III)I" } : Jvm.MethodName) prog_8_method_32_code (10 : Nat) (Option.some Jvm.ClassFile.FieldType.int)) ∈ hy_T := hy_T_tab (List.mem_of_getElem? (i := 857) (by decide +kernel)) rfl
theorem tw_858 : (Jvm.Cond.methodLink "HyphenPatternsModel" (144 : Nat) ({ cls := "HyphenPatternsModel", name := "exceptionFor", desc := "(II)I" } : Jvm.MethodName)) ∈ hy_T := hy_T_tab (List.mem_of_getElem? (i := 858) (by decide +kernel)) rfl
theorem tw_860 : (Jvm.Cond.instanceMethod ({ cls := "HyphenPatternsModel", name := "exceptionFor", desc := "(II)I" } : Jvm.MethodName)) ∈ hy_T := hy_T_tab (List.mem_of_getElem? (i := 860) (by decide +kernel)) rfl
theorem tw_861 : (Jvm.Cond.code ({ cls := "HyphenPatternsModel", name := "exceptionFor", desc := "(II)I" } : Jvm.MethodName) prog_8_method_30_code (7 : Nat) (Option.some Jvm.ClassFile.FieldType.int)) ∈ hy_T := hy_T_tab (List.mem_of_getElem? (i := 861) (by decide +kernel)) rfl
theorem tw_862 : (Jvm.Cond.methodLink "HyphenPatternsModel" (141 : Nat) ({ cls := "HyphenPatternsModel", name := "letterAt", desc := "(I)I" } : Jvm.MethodName)) ∈ hy_T := hy_T_tab (List.mem_of_getElem? (i := 862) (by decide +kernel)) rfl
theorem tw_864 : (Jvm.Cond.instanceMethod ({ cls := "HyphenPatternsModel", name := "letterAt", desc := "(I)I" } : Jvm.MethodName)) ∈ hy_T := hy_T_tab (List.mem_of_getElem? (i := 864) (by decide +kernel)) rfl
theorem tw_865 : (Jvm.Cond.code ({ cls := "HyphenPatternsModel", name := "letterAt", desc := "(I)I" } : Jvm.MethodName) prog_8_method_29_code (2 : Nat) (Option.some Jvm.ClassFile.FieldType.int)) ∈ hy_T := hy_T_tab (List.mem_of_getElem? (i := 865) (by decide +kernel)) rfl
theorem tw_866 : (Jvm.Cond.methodLink "HyphenPatternsModel" (148 : Nat) ({ cls := "HyphenPatternsModel", name := "isAt", desc := "(IIII)Z" } : Jvm.MethodName)) ∈ hy_T := hy_T_tab (List.mem_of_getElem? (i := 866) (by decide +kernel)) rfl
theorem tw_868 : (Jvm.Cond.instanceMethod ({ cls := "HyphenPatternsModel", name := "isAt", desc := "(IIII)Z" } : Jvm.MethodName)) ∈ hy_T := hy_T_tab (List.mem_of_getElem? (i := 868) (by decide +kernel)) rfl
theorem tw_869 : (Jvm.Cond.code ({ cls := "HyphenPatternsModel", name := "isAt", desc := "(IIII)Z" } : Jvm.MethodName) prog_8_method_31_code (9 : Nat) (Option.some Jvm.ClassFile.FieldType.boolean)) ∈ hy_T := hy_T_tab (List.mem_of_getElem? (i := 869) (by decide +kernel)) rfl
theorem tw_870 : (Jvm.Cond.methodLink "HyphenPatternsLaw" (100 : Nat) ({ cls := "HyphenPatternsModel", name := "breaks", desc := "(I)Z" } : Jvm.MethodName)) ∈ hy_T := hy_T_tab (List.mem_of_getElem? (i := 870) (by decide +kernel)) rfl
theorem tw_871 : (Jvm.Cond.instanceMethod ({ cls := "HyphenPatternsModel", name := "breaks", desc := "(I)Z" } : Jvm.MethodName)) ∈ hy_T := hy_T_tab (List.mem_of_getElem? (i := 871) (by decide +kernel)) rfl
theorem tw_872 : (Jvm.Cond.selects "HyphenPatternsModel" ({ cls := "HyphenPatternsModel", name := "breaks", desc := "(I)Z" } : Jvm.MethodName) ({ cls := "HyphenPatternsModel", name := "breaks", desc := "(I)Z" } : Jvm.MethodName)) ∈ hy_T := hy_T_tab (List.mem_of_getElem? (i := 872) (by decide +kernel)) rfl
theorem tw_873 : (Jvm.Cond.code ({ cls := "HyphenPatternsModel", name := "breaks", desc := "(I)Z" } : Jvm.MethodName) prog_8_method_38_code (2 : Nat) (Option.some Jvm.ClassFile.FieldType.boolean)) ∈ hy_T := hy_T_tab (List.mem_of_getElem? (i := 873) (by decide +kernel)) rfl
theorem tw_874 : (Jvm.Cond.methodLink "HyphenPatternsModel" (171 : Nat) ({ cls := "HyphenPatternsModel", name := "isBroken", desc := "(I)Z" } : Jvm.MethodName)) ∈ hy_T := hy_T_tab (List.mem_of_getElem? (i := 874) (by decide +kernel)) rfl
theorem tw_876 : (Jvm.Cond.instanceMethod ({ cls := "HyphenPatternsModel", name := "isBroken", desc := "(I)Z" } : Jvm.MethodName)) ∈ hy_T := hy_T_tab (List.mem_of_getElem? (i := 876) (by decide +kernel)) rfl
theorem tw_877 : (Jvm.Cond.code ({ cls := "HyphenPatternsModel", name := "isBroken", desc := "(I)Z" } : Jvm.MethodName) prog_8_method_35_code (2 : Nat) (Option.some Jvm.ClassFile.FieldType.boolean)) ∈ hy_T := hy_T_tab (List.mem_of_getElem? (i := 877) (by decide +kernel)) rfl
theorem tw_878 : (Jvm.Cond.methodLink "HyphenPatternsLaw" (105 : Nat) ({ cls := "HyphenPatternsModel", name := "word", desc := "(IZ)I" } : Jvm.MethodName)) ∈ hy_T := hy_T_tab (List.mem_of_getElem? (i := 878) (by decide +kernel)) rfl
theorem tw_879 : (Jvm.Cond.instanceMethod ({ cls := "HyphenPatternsModel", name := "word", desc := "(IZ)I" } : Jvm.MethodName)) ∈ hy_T := hy_T_tab (List.mem_of_getElem? (i := 879) (by decide +kernel)) rfl
theorem tw_880 : (Jvm.Cond.selects "HyphenPatternsModel" ({ cls := "HyphenPatternsModel", name := "word", desc := "(IZ)I" } : Jvm.MethodName) ({ cls := "HyphenPatternsModel", name := "word", desc := "(IZ)I" } : Jvm.MethodName)) ∈ hy_T := hy_T_tab (List.mem_of_getElem? (i := 880) (by decide +kernel)) rfl
theorem tw_881 : (Jvm.Cond.code ({ cls := "HyphenPatternsModel", name := "word", desc := "(IZ)I" } : Jvm.MethodName) prog_8_method_39_code (5 : Nat) (Option.some Jvm.ClassFile.FieldType.int)) ∈ hy_T := hy_T_tab (List.mem_of_getElem? (i := 881) (by decide +kernel)) rfl
theorem tw_882 : (Jvm.Cond.methodLink "HyphenPatternsLaw" (109 : Nat) ({ cls := "HyphenPatternsModel", name := "count", desc := "(I)I" } : Jvm.MethodName)) ∈ hy_T := hy_T_tab (List.mem_of_getElem? (i := 882) (by decide +kernel)) rfl
theorem tw_883 : (Jvm.Cond.instanceMethod ({ cls := "HyphenPatternsModel", name := "count", desc := "(I)I" } : Jvm.MethodName)) ∈ hy_T := hy_T_tab (List.mem_of_getElem? (i := 883) (by decide +kernel)) rfl
theorem tw_884 : (Jvm.Cond.selects "HyphenPatternsModel" ({ cls := "HyphenPatternsModel", name := "count", desc := "(I)I" } : Jvm.MethodName) ({ cls := "HyphenPatternsModel", name := "count", desc := "(I)I" } : Jvm.MethodName)) ∈ hy_T := hy_T_tab (List.mem_of_getElem? (i := 884) (by decide +kernel)) rfl
theorem tw_885 : (Jvm.Cond.code ({ cls := "HyphenPatternsModel", name := "count", desc := "(I)I" } : Jvm.MethodName) prog_8_method_45_code (2 : Nat) (Option.some Jvm.ClassFile.FieldType.int)) ∈ hy_T := hy_T_tab (List.mem_of_getElem? (i := 885) (by decide +kernel)) rfl
theorem tw_886 : (Jvm.Cond.methodLink "HyphenPatternsModel" (177 : Nat) ({ cls := "HyphenPatternsModel", name := "words", desc := "()I" } : Jvm.MethodName)) ∈ hy_T := hy_T_tab (List.mem_of_getElem? (i := 886) (by decide +kernel)) rfl
theorem tw_888 : (Jvm.Cond.instanceMethod ({ cls := "HyphenPatternsModel", name := "words", desc := "()I" } : Jvm.MethodName)) ∈ hy_T := hy_T_tab (List.mem_of_getElem? (i := 888) (by decide +kernel)) rfl
theorem tw_889 : (Jvm.Cond.code ({ cls := "HyphenPatternsModel", name := "words", desc := "()I" } : Jvm.MethodName) prog_8_method_40_code (3 : Nat) (Option.some Jvm.ClassFile.FieldType.int)) ∈ hy_T := hy_T_tab (List.mem_of_getElem? (i := 889) (by decide +kernel)) rfl
theorem tw_890 : (Jvm.Cond.methodLink "HyphenPatternsModel" (180 : Nat) ({ cls := "HyphenPatternsModel", name := "brokenPlaces", desc := "()I" } : Jvm.MethodName)) ∈ hy_T := hy_T_tab (List.mem_of_getElem? (i := 890) (by decide +kernel)) rfl
theorem tw_892 : (Jvm.Cond.instanceMethod ({ cls := "HyphenPatternsModel", name := "brokenPlaces", desc := "()I" } : Jvm.MethodName)) ∈ hy_T := hy_T_tab (List.mem_of_getElem? (i := 892) (by decide +kernel)) rfl
theorem tw_893 : (Jvm.Cond.code ({ cls := "HyphenPatternsModel", name := "brokenPlaces", desc := "()I" } : Jvm.MethodName) prog_8_method_41_code (3 : Nat) (Option.some Jvm.ClassFile.FieldType.int)) ∈ hy_T := hy_T_tab (List.mem_of_getElem? (i := 893) (by decide +kernel)) rfl
theorem tw_894 : (Jvm.Cond.methodLink "HyphenPatternsModel" (183 : Nat) ({ cls := "HyphenPatternsModel", name := "times", desc := "()I" } : Jvm.MethodName)) ∈ hy_T := hy_T_tab (List.mem_of_getElem? (i := 894) (by decide +kernel)) rfl
theorem tw_896 : (Jvm.Cond.instanceMethod ({ cls := "HyphenPatternsModel", name := "times", desc := "()I" } : Jvm.MethodName)) ∈ hy_T := hy_T_tab (List.mem_of_getElem? (i := 896) (by decide +kernel)) rfl
theorem tw_897 : (Jvm.Cond.code ({ cls := "HyphenPatternsModel", name := "times", desc := "()I" } : Jvm.MethodName) prog_8_method_43_code (3 : Nat) (Option.some Jvm.ClassFile.FieldType.int)) ∈ hy_T := hy_T_tab (List.mem_of_getElem? (i := 897) (by decide +kernel)) rfl
theorem tw_898 : (Jvm.Cond.methodLink "HyphenPatternsModel" (174 : Nat) ({ cls := "HyphenPatternsModel", name := "timesIn", desc := "(II)I" } : Jvm.MethodName)) ∈ hy_T := hy_T_tab (List.mem_of_getElem? (i := 898) (by decide +kernel)) rfl
theorem tw_900 : (Jvm.Cond.instanceMethod ({ cls := "HyphenPatternsModel", name := "timesIn", desc := "(II)I" } : Jvm.MethodName)) ∈ hy_T := hy_T_tab (List.mem_of_getElem? (i := 900) (by decide +kernel)) rfl
theorem tw_901 : (Jvm.Cond.code ({ cls := "HyphenPatternsModel", name := "timesIn", desc := "(II)I" } : Jvm.MethodName) prog_8_method_42_code (6 : Nat) (Option.some Jvm.ClassFile.FieldType.int)) ∈ hy_T := hy_T_tab (List.mem_of_getElem? (i := 901) (by decide +kernel)) rfl
theorem tw_902 : (Jvm.Cond.methodLink "HyphenPatternsModel" (186 : Nat) ({ cls := "HyphenPatternsModel", name := "rowsOf", desc := "(Z)I" } : Jvm.MethodName)) ∈ hy_T := hy_T_tab (List.mem_of_getElem? (i := 902) (by decide +kernel)) rfl
theorem tw_904 : (Jvm.Cond.instanceMethod ({ cls := "HyphenPatternsModel", name := "rowsOf", desc := "(Z)I" } : Jvm.MethodName)) ∈ hy_T := hy_T_tab (List.mem_of_getElem? (i := 904) (by decide +kernel)) rfl
theorem tw_905 : (Jvm.Cond.code ({ cls := "HyphenPatternsModel", name := "rowsOf", desc := "(Z)I" } : Jvm.MethodName) prog_8_method_44_code (4 : Nat) (Option.some Jvm.ClassFile.FieldType.int)) ∈ hy_T := hy_T_tab (List.mem_of_getElem? (i := 905) (by decide +kernel)) rfl
theorem tw_906 : (Jvm.Cond.arrayClass Jvm.ClassFile.FieldType.long) ∈ hy_T := hy_T_tab (List.mem_of_getElem? (i := 906) (by decide +kernel)) rfl
theorem tw_907 : (Jvm.Cond.sameMethod "java/lang/Throwable" "java/lang/Throwable" "fillInStackTrace" "(I)Ljava/lang/Throwable;") ∈ hy_T := hy_T_tab (List.mem_of_getElem? (i := 907) (by decide +kernel)) rfl
theorem tw_909 : (Jvm.Cond.sameMethod "[Ljava/lang/Object;" "java/lang/Object" "getClass" "()Ljava/lang/Class;") ∈ hy_T := hy_T_tab (List.mem_of_getElem? (i := 909) (by decide +kernel)) rfl
theorem tw_910 : (Jvm.Cond.selects "[Ljava/lang/Object;" ({ cls := "java/lang/Object", name := "getClass", desc := "()Ljava/lang/Class;" } : Jvm.MethodName) ({ cls := "java/lang/Object", name := "getClass", desc := "()Ljava/lang/Class;" } : Jvm.MethodName)) ∈ hy_T := hy_T_tab (List.mem_of_getElem? (i := 910) (by decide +kernel)) rfl
theorem i_0 : ∀ w ∈ u_ws R_0 F_0 3, w ∈ hy_T := by
  intro w hw
  obtain ⟨k, hk, rfl⟩ := List.mem_map.mp hw
  have hk := List.mem_range.mp hk
  match k, hk with
  | 0, _ => exact tw_68
  | 1, _ => exact tw_70
  | 2, _ => exact tw_72
  | k + 3, hk => omega
theorem i_1 : ∀ w ∈ u_ws R_1 F_1 8, w ∈ hy_T := by
  intro w hw
  obtain ⟨k, hk, rfl⟩ := List.mem_map.mp hw
  have hk := List.mem_range.mp hk
  match k, hk with
  | 0, _ => exact tw_146
  | 1, _ => exact tw_148
  | 2, _ => exact tw_150
  | 3, _ => exact tw_152
  | 4, _ => exact tw_154
  | 5, _ => exact tw_156
  | 6, _ => exact tw_158
  | 7, _ => exact tw_160
  | k + 8, hk => omega
theorem i_2 : ∀ w ∈ u_ws R_2 F_2 4, w ∈ hy_T := by
  intro w hw
  obtain ⟨k, hk, rfl⟩ := List.mem_map.mp hw
  have hk := List.mem_range.mp hk
  match k, hk with
  | 0, _ => exact tw_47
  | 1, _ => exact tw_49
  | 2, _ => exact tw_51
  | 3, _ => exact tw_53
  | k + 4, hk => omega
theorem i_3 : ∀ w ∈ u_ws R_3 F_3 5, w ∈ hy_T := by
  intro w hw
  obtain ⟨k, hk, rfl⟩ := List.mem_map.mp hw
  have hk := List.mem_range.mp hk
  match k, hk with
  | 0, _ => exact tw_87
  | 1, _ => exact tw_89
  | 2, _ => exact tw_91
  | 3, _ => exact tw_93
  | 4, _ => exact tw_95
  | k + 5, hk => omega
theorem i_4 : ∀ w ∈ u_ws R_4 F_4 2, w ∈ hy_T := by
  intro w hw
  obtain ⟨k, hk, rfl⟩ := List.mem_map.mp hw
  have hk := List.mem_range.mp hk
  match k, hk with
  | 0, _ => exact tw_537
  | 1, _ => exact tw_539
  | k + 2, hk => omega
theorem i_5 : ∀ w ∈ u_ws R_5 F_5 6, w ∈ hy_T := by
  intro w hw
  obtain ⟨k, hk, rfl⟩ := List.mem_map.mp hw
  have hk := List.mem_range.mp hk
  match k, hk with
  | 0, _ => exact tw_169
  | 1, _ => exact tw_171
  | 2, _ => exact tw_173
  | 3, _ => exact tw_175
  | 4, _ => exact tw_177
  | 5, _ => exact tw_179
  | k + 6, hk => omega
theorem i_6 : ∀ w ∈ u_ws R_6 F_6 26, w ∈ hy_T := by
  intro w hw
  obtain ⟨k, hk, rfl⟩ := List.mem_map.mp hw
  have hk := List.mem_range.mp hk
  match k, hk with
  | 0, _ => exact tw_676
  | 1, _ => exact tw_678
  | 2, _ => exact tw_680
  | 3, _ => exact tw_682
  | 4, _ => exact tw_684
  | 5, _ => exact tw_686
  | 6, _ => exact tw_688
  | 7, _ => exact tw_690
  | 8, _ => exact tw_692
  | 9, _ => exact tw_694
  | 10, _ => exact tw_696
  | 11, _ => exact tw_698
  | 12, _ => exact tw_700
  | 13, _ => exact tw_702
  | 14, _ => exact tw_704
  | 15, _ => exact tw_706
  | 16, _ => exact tw_708
  | 17, _ => exact tw_710
  | 18, _ => exact tw_712
  | 19, _ => exact tw_714
  | 20, _ => exact tw_716
  | 21, _ => exact tw_718
  | 22, _ => exact tw_720
  | 23, _ => exact tw_722
  | 24, _ => exact tw_724
  | 25, _ => exact tw_726
  | k + 26, hk => omega
theorem i_7 : ∀ w ∈ u_ws R_7 F_7 3, w ∈ hy_T := by
  intro w hw
  obtain ⟨k, hk, rfl⟩ := List.mem_map.mp hw
  have hk := List.mem_range.mp hk
  match k, hk with
  | 0, _ => exact tw_122
  | 1, _ => exact tw_124
  | 2, _ => exact tw_126
  | k + 3, hk => omega
theorem sl_H_drop : Cond.selects "HyphenPatterns" y_H_drop y_H_drop ∈ hy_T := tw_184
theorem sl_N_empty : Cond.selects "HyphenPatterns$Numbers" y_N_empty y_N_empty ∈ hy_T := tw_188
theorem sl_H_forget : Cond.selects "HyphenPatterns" y_H_forget y_H_forget ∈ hy_T := tw_192
theorem sl_A_size : Cond.selects "java/util/ArrayList" y_A_size y_A_size ∈ hy_T := tw_196
theorem sl_A_clear : Cond.selects "java/util/ArrayList" y_A_clear y_A_clear ∈ hy_T := tw_200
theorem sl_H_clear : Cond.selects "HyphenPatterns" y_H_clear y_H_clear ∈ hy_T := tw_204
theorem sl_H_word : Cond.selects "HyphenPatterns" y_H_word y_H_word ∈ hy_T := tw_208
theorem sl_H_startsWord : Cond.selects "HyphenPatterns" y_H_startsWord y_H_startsWord ∈ hy_T := hy_T_sel (List.mem_of_getElem? (i := 0) (by decide +kernel)) rfl
theorem sl_H_isLetterAt : Cond.selects "HyphenPatterns" y_H_isLetterAt y_H_isLetterAt ∈ hy_T := hy_T_sel (List.mem_of_getElem? (i := 1) (by decide +kernel)) rfl
theorem sl_L_letterOf : Cond.selects "HyphenPatterns$Language" y_L_letterOf y_L_letterOf ∈ hy_T := tw_220
theorem sl_H_wordEnd : Cond.selects "HyphenPatterns" y_H_wordEnd y_H_wordEnd ∈ hy_T := hy_T_sel (List.mem_of_getElem? (i := 2) (by decide +kernel)) rfl
theorem sl_H_count : Cond.selects "HyphenPatterns" y_H_count y_H_count ∈ hy_T := tw_228
theorem sl_H_countWords : Cond.selects "HyphenPatterns" y_H_countWords y_H_countWords ∈ hy_T := hy_T_sel (List.mem_of_getElem? (i := 3) (by decide +kernel)) rfl
theorem sl_H_countBreaks : Cond.selects "HyphenPatterns" y_H_countBreaks y_H_countBreaks ∈ hy_T := hy_T_sel (List.mem_of_getElem? (i := 4) (by decide +kernel)) rfl
theorem sl_H_readWord : Cond.selects "HyphenPatterns" y_H_readWord y_H_readWord ∈ hy_T := hy_T_sel (List.mem_of_getElem? (i := 5) (by decide +kernel)) rfl
theorem sl_G_spell : Cond.selects "HyphenPatterns$Reading" y_G_spell y_G_spell ∈ hy_T := tw_244
theorem sl_G_weigh : Cond.selects "HyphenPatterns$Reading" y_G_weigh y_G_weigh ∈ hy_T := tw_249
theorem sl_A_get : Cond.selects "java/util/ArrayList" y_A_get y_A_get ∈ hy_T := tw_259
theorem sl_A_elementData : Cond.selects "java/util/ArrayList" y_A_elementData y_A_elementData ∈ hy_T := tw_269
theorem sl_U_standsAt : Cond.selects "HyphenPatterns$Rule" y_U_standsAt y_U_standsAt ∈ hy_T := tw_274
theorem sl_G_lay : Cond.selects "HyphenPatterns$Reading" y_G_lay y_G_lay ∈ hy_T := hy_T_sel (List.mem_of_getElem? (i := 6) (by decide +kernel)) rfl
theorem sl_G_layEverywhere : Cond.selects "HyphenPatterns$Reading" y_G_layEverywhere y_G_layEverywhere ∈ hy_T := hy_T_sel (List.mem_of_getElem? (i := 7) (by decide +kernel)) rfl
theorem sl_G_breakCount : Cond.selects "HyphenPatterns$Reading" y_G_breakCount y_G_breakCount ∈ hy_T := tw_293
theorem sl_G_canBreakAt : Cond.selects "HyphenPatterns$Reading" y_G_canBreakAt y_G_canBreakAt ∈ hy_T := tw_297
theorem sl_G_weightAt : Cond.selects "HyphenPatterns$Reading" y_G_weightAt y_G_weightAt ∈ hy_T := tw_301
theorem sl_H_countMatches : Cond.selects "HyphenPatterns" y_H_countMatches y_H_countMatches ∈ hy_T := hy_T_sel (List.mem_of_getElem? (i := 8) (by decide +kernel)) rfl
theorem sl_H_choose : Cond.selects "HyphenPatterns" y_H_choose y_H_choose ∈ hy_T := tw_313
theorem sl_H_letters : Cond.selects "HyphenPatterns" y_H_letters y_H_letters ∈ hy_T := tw_390
theorem sl_L_addRange : Cond.selects "HyphenPatterns$Language" y_L_addRange y_L_addRange ∈ hy_T := tw_431
theorem sl_H_least : Cond.selects "HyphenPatterns" y_H_least y_H_least ∈ hy_T := tw_438
theorem sl_H_tell : Cond.selects "HyphenPatterns" y_H_tell y_H_tell ∈ hy_T := tw_446
theorem sl_N_append : Cond.selects "HyphenPatterns$Numbers" y_N_append y_N_append ∈ hy_T := tw_450
theorem sl_N_offer : Cond.selects "HyphenPatterns$Numbers" y_N_offer y_N_offer ∈ hy_T := hy_T_sel (List.mem_of_getElem? (i := 10) (by decide +kernel)) rfl
theorem sl_H_pattern : Cond.selects "HyphenPatterns" y_H_pattern y_H_pattern ∈ hy_T := tw_471
theorem sl_D_readPattern : Cond.selects "HyphenPatterns$Draft" y_D_readPattern y_D_readPattern ∈ hy_T := tw_475
theorem sl_D_start : Cond.selects "HyphenPatterns$Draft" y_D_start y_D_start ∈ hy_T := hy_T_sel (List.mem_of_getElem? (i := 11) (by decide +kernel)) rfl
theorem sl_D_takeLetter : Cond.selects "HyphenPatterns$Draft" y_D_takeLetter y_D_takeLetter ∈ hy_T := hy_T_sel (List.mem_of_getElem? (i := 12) (by decide +kernel)) rfl
theorem sl_D_takeValue : Cond.selects "HyphenPatterns$Draft" y_D_takeValue y_D_takeValue ∈ hy_T := hy_T_sel (List.mem_of_getElem? (i := 13) (by decide +kernel)) rfl
theorem sl_D_hasLetter : Cond.selects "HyphenPatterns$Draft" y_D_hasLetter y_D_hasLetter ∈ hy_T := hy_T_sel (List.mem_of_getElem? (i := 14) (by decide +kernel)) rfl
theorem sl_D_hasEdgeWithin : Cond.selects "HyphenPatterns$Draft" y_D_hasEdgeWithin y_D_hasEdgeWithin ∈ hy_T := hy_T_sel (List.mem_of_getElem? (i := 15) (by decide +kernel)) rfl
theorem sl_H_patternsInAll : Cond.selects "HyphenPatterns" y_H_patternsInAll y_H_patternsInAll ∈ hy_T := hy_T_sel (List.mem_of_getElem? (i := 16) (by decide +kernel)) rfl
theorem sl_H_keepDraft : Cond.selects "HyphenPatterns" y_H_keepDraft y_H_keepDraft ∈ hy_T := hy_T_sel (List.mem_of_getElem? (i := 17) (by decide +kernel)) rfl
theorem sl_D_toRule : Cond.selects "HyphenPatterns$Draft" y_D_toRule y_D_toRule ∈ hy_T := tw_510
theorem sl_A_add1 : Cond.selects "java/util/ArrayList" y_A_add1 y_A_add1 ∈ hy_T := tw_544
theorem sl_A_add3 : Cond.selects "java/util/ArrayList" y_A_add3 y_A_add3 ∈ hy_T := hy_T_sel (List.mem_of_getElem? (i := 18) (by decide +kernel)) rfl
theorem sl_A_grow0 : Cond.selects "java/util/ArrayList" y_A_grow0 y_A_grow0 ∈ hy_T := hy_T_sel (List.mem_of_getElem? (i := 19) (by decide +kernel)) rfl
theorem sl_A_grow1 : Cond.selects "java/util/ArrayList" y_A_grow1 y_A_grow1 ∈ hy_T := hy_T_sel (List.mem_of_getElem? (i := 20) (by decide +kernel)) rfl
theorem sl_A_set : Cond.selects "java/util/ArrayList" y_A_set y_A_set ∈ hy_T := tw_594
theorem sl_H_exception : Cond.selects "HyphenPatterns" y_H_exception y_H_exception ∈ hy_T := tw_601
theorem sl_D_readException : Cond.selects "HyphenPatterns$Draft" y_D_readException y_D_readException ∈ hy_T := tw_605
theorem sl_H_exceptionsInAll : Cond.selects "HyphenPatterns" y_H_exceptionsInAll y_H_exceptionsInAll ∈ hy_T := hy_T_sel (List.mem_of_getElem? (i := 21) (by decide +kernel)) rfl
theorem sl_H_add : Cond.selects "HyphenPatterns" y_H_add y_H_add ∈ hy_T := tw_617
theorem sl_H_value : Cond.selects "HyphenPatterns" y_H_value y_H_value ∈ hy_T := tw_624
theorem sl_H_isWithinWord : Cond.selects "HyphenPatterns" y_H_isWithinWord y_H_isWithinWord ∈ hy_T := hy_T_sel (List.mem_of_getElem? (i := 22) (by decide +kernel)) rfl
theorem sl_H_wordStart : Cond.selects "HyphenPatterns" y_H_wordStart y_H_wordStart ∈ hy_T := hy_T_sel (List.mem_of_getElem? (i := 23) (by decide +kernel)) rfl
theorem sl_H_breaks : Cond.selects "HyphenPatterns" y_H_breaks y_H_breaks ∈ hy_T := tw_641
theorem sl_M_thrown : Cond.selects "HyphenPatternsModel" y_M_thrown y_M_thrown ∈ hy_T := tw_731
theorem sl_M_choose : Cond.selects "HyphenPatternsModel" y_M_choose y_M_choose ∈ hy_T := tw_735
theorem sl_M_refused : Cond.selects "HyphenPatternsModel" y_M_refused y_M_refused ∈ hy_T := hy_T_sel (List.mem_of_getElem? (i := 24) (by decide +kernel)) rfl
theorem sl_M_letters : Cond.selects "HyphenPatternsModel" y_M_letters y_M_letters ∈ hy_T := tw_743
theorem sl_M_least : Cond.selects "HyphenPatternsModel" y_M_least y_M_least ∈ hy_T := tw_752
theorem sl_M_tell : Cond.selects "HyphenPatternsModel" y_M_tell y_M_tell ∈ hy_T := tw_756
theorem sl_M_keep : Cond.selects "HyphenPatternsModel" y_M_keep y_M_keep ∈ hy_T := hy_T_sel (List.mem_of_getElem? (i := 25) (by decide +kernel)) rfl
theorem sl_M_given : Cond.selects "HyphenPatternsModel" y_M_given y_M_given ∈ hy_T := hy_T_sel (List.mem_of_getElem? (i := 26) (by decide +kernel)) rfl
theorem sl_M_isSound : Cond.selects "HyphenPatternsModel" y_M_isSound y_M_isSound ∈ hy_T := hy_T_sel (List.mem_of_getElem? (i := 27) (by decide +kernel)) rfl
theorem sl_M_drop : Cond.selects "HyphenPatternsModel" y_M_drop y_M_drop ∈ hy_T := tw_772
theorem sl_M_pattern : Cond.selects "HyphenPatternsModel" y_M_pattern y_M_pattern ∈ hy_T := tw_776
theorem sl_M_isPattern : Cond.selects "HyphenPatternsModel" y_M_isPattern y_M_isPattern ∈ hy_T := hy_T_sel (List.mem_of_getElem? (i := 28) (by decide +kernel)) rfl
theorem sl_M_readRow : Cond.selects "HyphenPatternsModel" y_M_readRow y_M_readRow ∈ hy_T := hy_T_sel (List.mem_of_getElem? (i := 29) (by decide +kernel)) rfl
theorem sl_M_findPattern : Cond.selects "HyphenPatternsModel" y_M_findPattern y_M_findPattern ∈ hy_T := hy_T_sel (List.mem_of_getElem? (i := 30) (by decide +kernel)) rfl
theorem sl_M_exception : Cond.selects "HyphenPatternsModel" y_M_exception y_M_exception ∈ hy_T := tw_792
theorem sl_M_isException : Cond.selects "HyphenPatternsModel" y_M_isException y_M_isException ∈ hy_T := hy_T_sel (List.mem_of_getElem? (i := 31) (by decide +kernel)) rfl
theorem sl_M_findException : Cond.selects "HyphenPatternsModel" y_M_findException y_M_findException ∈ hy_T := hy_T_sel (List.mem_of_getElem? (i := 32) (by decide +kernel)) rfl
theorem sl_M_forget : Cond.selects "HyphenPatternsModel" y_M_forget y_M_forget ∈ hy_T := tw_804
theorem sl_M_movePattern : Cond.selects "HyphenPatternsModel" y_M_movePattern y_M_movePattern ∈ hy_T := hy_T_sel (List.mem_of_getElem? (i := 33) (by decide +kernel)) rfl
theorem sl_M_moveException : Cond.selects "HyphenPatternsModel" y_M_moveException y_M_moveException ∈ hy_T := hy_T_sel (List.mem_of_getElem? (i := 34) (by decide +kernel)) rfl
theorem sl_M_add : Cond.selects "HyphenPatternsModel" y_M_add y_M_add ∈ hy_T := tw_816
theorem sl_M_clear : Cond.selects "HyphenPatternsModel" y_M_clear y_M_clear ∈ hy_T := tw_820
theorem sl_M_value : Cond.selects "HyphenPatternsModel" y_M_value y_M_value ∈ hy_T := tw_824
theorem sl_M_isPlace : Cond.selects "HyphenPatternsModel" y_M_isPlace y_M_isPlace ∈ hy_T := hy_T_sel (List.mem_of_getElem? (i := 35) (by decide +kernel)) rfl
theorem sl_M_valueOf : Cond.selects "HyphenPatternsModel" y_M_valueOf y_M_valueOf ∈ hy_T := hy_T_sel (List.mem_of_getElem? (i := 36) (by decide +kernel)) rfl
theorem sl_M_isWithin : Cond.selects "HyphenPatternsModel" y_M_isWithin y_M_isWithin ∈ hy_T := hy_T_sel (List.mem_of_getElem? (i := 37) (by decide +kernel)) rfl
theorem sl_M_isLetter : Cond.selects "HyphenPatternsModel" y_M_isLetter y_M_isLetter ∈ hy_T := hy_T_sel (List.mem_of_getElem? (i := 38) (by decide +kernel)) rfl
theorem sl_M_letterOf : Cond.selects "HyphenPatternsModel" y_M_letterOf y_M_letterOf ∈ hy_T := hy_T_sel (List.mem_of_getElem? (i := 39) (by decide +kernel)) rfl
theorem sl_M_begin : Cond.selects "HyphenPatternsModel" y_M_begin y_M_begin ∈ hy_T := hy_T_sel (List.mem_of_getElem? (i := 40) (by decide +kernel)) rfl
theorem sl_M_end : Cond.selects "HyphenPatternsModel" y_M_end y_M_end ∈ hy_T := hy_T_sel (List.mem_of_getElem? (i := 41) (by decide +kernel)) rfl
theorem sl_M_wordValue : Cond.selects "HyphenPatternsModel" y_M_wordValue y_M_wordValue ∈ hy_T := hy_T_sel (List.mem_of_getElem? (i := 42) (by decide +kernel)) rfl
theorem sl_M_exceptionFor : Cond.selects "HyphenPatternsModel" y_M_exceptionFor y_M_exceptionFor ∈ hy_T := hy_T_sel (List.mem_of_getElem? (i := 43) (by decide +kernel)) rfl
theorem sl_M_letterAt : Cond.selects "HyphenPatternsModel" y_M_letterAt y_M_letterAt ∈ hy_T := hy_T_sel (List.mem_of_getElem? (i := 44) (by decide +kernel)) rfl
theorem sl_M_isAt : Cond.selects "HyphenPatternsModel" y_M_isAt y_M_isAt ∈ hy_T := hy_T_sel (List.mem_of_getElem? (i := 45) (by decide +kernel)) rfl
theorem sl_M_breaks : Cond.selects "HyphenPatternsModel" y_M_breaks y_M_breaks ∈ hy_T := tw_872
theorem sl_M_isBroken : Cond.selects "HyphenPatternsModel" y_M_isBroken y_M_isBroken ∈ hy_T := hy_T_sel (List.mem_of_getElem? (i := 46) (by decide +kernel)) rfl
theorem sl_M_word : Cond.selects "HyphenPatternsModel" y_M_word y_M_word ∈ hy_T := tw_880
theorem sl_M_count : Cond.selects "HyphenPatternsModel" y_M_count y_M_count ∈ hy_T := tw_884
theorem sl_M_words : Cond.selects "HyphenPatternsModel" y_M_words y_M_words ∈ hy_T := hy_T_sel (List.mem_of_getElem? (i := 47) (by decide +kernel)) rfl
theorem sl_M_brokenPlaces : Cond.selects "HyphenPatternsModel" y_M_brokenPlaces y_M_brokenPlaces ∈ hy_T := hy_T_sel (List.mem_of_getElem? (i := 48) (by decide +kernel)) rfl
theorem sl_M_times : Cond.selects "HyphenPatternsModel" y_M_times y_M_times ∈ hy_T := hy_T_sel (List.mem_of_getElem? (i := 49) (by decide +kernel)) rfl
theorem sl_M_timesIn : Cond.selects "HyphenPatternsModel" y_M_timesIn y_M_timesIn ∈ hy_T := hy_T_sel (List.mem_of_getElem? (i := 50) (by decide +kernel)) rfl
theorem sl_M_rowsOf : Cond.selects "HyphenPatternsModel" y_M_rowsOf y_M_rowsOf ∈ hy_T := hy_T_sel (List.mem_of_getElem? (i := 51) (by decide +kernel)) rfl
end
section
/-! THE PLAIN MACHINE: worlds as lists, references as places in them; a method is a function from points to next points; how a world lies in the heap. -/
/-- a cell: an object (class number, fields) or an array (kind number, places); a reference in it is a place in the list -/
abbrev hy_C : Type := (Nat × List Value) ⊕ (Nat × List Value)
/-- a world: its cells (place 0 is the JDK's own empty array, place 1 the class object of Object[]), how many cells and slots may still be made -/
abbrev hy_W : Type := List hy_C × Nat × Nat
/-- how a method ends: with an answer, or with a thrown object of that class -/
abbrev hy_R : Type := Option Value ⊕ String
abbrev hy_O : Type := hy_R × hy_W
/-- a point: the pc, the values of the locals and of the stack (top first), the world -/
abbrev hy_P : Type := Nat × List Value × hy_W
abbrev hy_N : Type := hy_P ⊕ hy_O
def hy_it (f : hy_P → Option hy_N) : Nat → hy_P → Option hy_O
  | 0, _ => none
  | n + 1, q => match f q with
    | none => none
    | some (.inl q') => hy_it f n q'
    | some (.inr o) => some o
theorem hy_it_succ {f : hy_P → Option hy_N} {o : hy_O} : ∀ {n : Nat} {q : hy_P}, hy_it f n q = some o → hy_it f (n + 1) q = some o
  | 0, q, h => by cases h
  | n + 1, q, h => by
    rw [hy_it] at h ⊢
    cases hf : f q with
    | none => rw [hf] at h; cases h
    | some x =>
      rw [hf] at h
      cases x with
      | inl q' => exact hy_it_succ (n := n) h
      | inr o' => exact h
theorem hy_it_le {f : hy_P → Option hy_N} {o : hy_O} {n m : Nat} {q : hy_P} (h : hy_it f n q = some o) (hm : n ≤ m) : hy_it f m q = some o := by
  induction hm with
  | refl => exact h
  | step _ ih => exact hy_it_succ ih
theorem hy_it_det {f : hy_P → Option hy_N} {o o' : hy_O} {n m : Nat} {q : hy_P} (h : hy_it f n q = some o) (h' : hy_it f m q = some o') : o = o' :=
  Option.some.inj ((hy_it_le h (Nat.le_max_left n m)).symm.trans (hy_it_le h' (Nat.le_max_right n m)))
/-- where the points lead in the end -/
noncomputable def hy_fx (f : hy_P → Option hy_N) (q : hy_P) : Option hy_O :=
  @dite _ (∃ o n, hy_it f n q = some o) (Classical.propDecidable _) (fun h => some h.choose) (fun _ => none)
theorem hy_fx_iff {f : hy_P → Option hy_N} {q : hy_P} {o : hy_O} : hy_fx f q = some o ↔ ∃ n, hy_it f n q = some o := by
  unfold hy_fx
  constructor
  · intro h
    split at h
    · rename_i hq
      obtain ⟨n, hn⟩ := hq.choose_spec
      exact ⟨n, by rw [hn]; exact h⟩
    · cases h
  · rintro ⟨n, hn⟩
    have hq : ∃ o n, hy_it f n q = some o := ⟨o, n, hn⟩
    rw [dif_pos hq]
    obtain ⟨n', hn'⟩ := hq.choose_spec
    rw [hy_it_det hn' hn]
theorem hy_fx_to {f : hy_P → Option hy_N} {q q' : hy_P} (h : f q = some (.inl q')) : hy_fx f q = hy_fx f q' := by
  apply Option.ext
  intro o
  rw [hy_fx_iff, hy_fx_iff]
  constructor
  · rintro ⟨n, hn⟩
    cases n with
    | zero => cases hn
    | succ n =>
      rw [hy_it, h] at hn
      exact ⟨n, hn⟩
  · rintro ⟨n, hn⟩
    refine ⟨n + 1, ?_⟩
    rw [hy_it, h]
    exact hn
theorem hy_fx_end {f : hy_P → Option hy_N} {q : hy_P} {o : hy_O} (h : f q = some (.inr o)) : hy_fx f q = some o :=
  hy_fx_iff.mpr ⟨1, by rw [hy_it, h]⟩
-- reading and writing
def hy_gi (w : hy_W) (k ci j : Nat) : Option Int32 := match w.1[k]? with
  | some (.inl (c, fs)) => if c = ci ∧ 1 < k then (match fs[j]? with
    | some (.int x) => some x
    | _ => none) else none
  | _ => none
def hy_gr (w : hy_W) (k ci j : Nat) : Option Nat := match w.1[k]? with
  | some (.inl (c, fs)) => if c = ci ∧ 1 < k then (match fs[j]? with
    | some (.ref x) => some x
    | _ => none) else none
  | _ => none
/-- a field is written: an int, or a reference to a cell of the world -/
def hy_pf (w : hy_W) (k ci j : Nat) (v : Value) : Option hy_W := match w.1[k]? with
  | some (.inl (c, fs)) => if c = ci ∧ j < fs.length ∧ 1 < k then some (w.1.set k (.inl (c, fs.set j v)), w.2) else none
  | _ => none
/-- an index into n places -/
def hy_ix (i : Int32) (n : Nat) : Bool := decide (0 ≤ i) && decide (i.toNatClampNeg < n)
def hy_ai (w : hy_W) (k : Nat) (i : Int32) : Option Int32 := match w.1[k]? with
  | some (.inr (0, es)) => if hy_ix i es.length = true ∧ 1 < k then (match es[i.toNatClampNeg]? with
    | some (.int x) => some x
    | _ => none) else none
  | _ => none
def hy_al (w : hy_W) (k : Nat) (i : Int32) : Option Int64 := match w.1[k]? with
  | some (.inr (1, es)) => if hy_ix i es.length = true ∧ 1 < k then (match es[i.toNatClampNeg]? with
    | some (.long x) => some x
    | _ => none) else none
  | _ => none
/-- a reference out of an array of references (kinds 2 and 3) -/
def hy_ar (w : hy_W) (t k : Nat) (i : Int32) : Option Nat := match w.1[k]? with
  | some (.inr (u, es)) => if u = t ∧ hy_ix i es.length = true ∧ 1 < k then (match es[i.toNatClampNeg]? with
    | some (.ref x) => some x
    | _ => none) else none
  | _ => none
/-- a place of an array of kind t is written -/
def hy_pa (w : hy_W) (t k : Nat) (i : Int32) (v : Value) : Option hy_W := match w.1[k]? with
  | some (.inr (u, es)) => if u = t ∧ hy_ix i es.length = true ∧ 1 < k then some (w.1.set k (.inr (u, es.set i.toNatClampNeg v)), w.2) else none
  | _ => none
def hy_ln (w : hy_W) (t k : Nat) : Option Nat := match w.1[k]? with
  | some (.inr (u, es)) => if u = t then some es.length else none
  | _ => none
/-- a new cell of n slots -/
def hy_nw (w : hy_W) (c : hy_C) (n : Nat) : Option hy_W := if 1 ≤ w.2.1 ∧ n ≤ w.2.2 then some (w.1 ++ [c], w.2.1 - 1, w.2.2 - n) else none
/-- a thrown object -/
def hy_th (w : hy_W) : Option hy_W := if 1 ≤ w.2.1 ∧ 6 ≤ w.2.2 then some (w.1, w.2.1 - 1, w.2.2 - 6) else none
-- how a world lies in the heap
def hy_v (ad : Nat → Nat) (v : Value) : Value := match v with
  | .ref k => .ref (ad k)
  | u => u
theorem hy_v_int (ad : Nat → Nat) (x : Int32) : hy_v ad (.int x) = .int x := rfl
theorem hy_v_ref (ad : Nat → Nat) (k : Nat) : hy_v ad (.ref k) = .ref (ad k) := rfl
theorem hy_v_long (ad : Nat → Nat) (x : Int64) : hy_v ad (.long x) = .long x := rfl
def hy_oi (v : Value) : Int32 := match v with
  | .int x => x
  | _ => 0
def hy_ol (v : Value) : Int64 := match v with
  | .long x => x
  | _ => 0
def hy_or (ad : Nat → Nat) (v : Value) : Option Nat := match v with
  | .ref k => some (ad k)
  | _ => none
def hy_a (ad : Nat → Nat) (t : Nat) (es : List Value) : (Nat → Int32) ⊕ (Nat → Int64) ⊕ (Nat → UInt32) ⊕ (Nat → UInt64) ⊕ (Nat → Option Nat) := match t with
  | 0 => .inl (fun j => hy_oi (es.getD j .null))
  | 1 => .inr (.inl (fun j => hy_ol (es.getD j .null)))
  | _ => .inr (.inr (.inr (.inr (fun j => hy_or ad (es.getD j .null)))))
def hy_e (dA : Nat → ClassId) (ad : Nat → Nat) (c : hy_C) : va_E := match c with
  | .inl (ci, fs) => .inr (ci, fs.map (hy_v ad))
  | .inr (t, es) => .inl (dA t, es.length, hy_a ad t es)
/-- the cells behind places 0 and 1, each at its address -/
def hy_ws (dA : Nat → ClassId) (ad : Nat → Nat) (cs : List hy_C) : va_W := (cs.mapIdx (fun k c => (ad k, hy_e dA ad c))).drop 2
theorem hy_ws_get {dA : Nat → ClassId} {ad : Nat → Nat} {cs : List hy_C} {k : Nat} {c : hy_C} (h : cs[k + 2]? = some c) : (hy_ws dA ad cs)[k]? = some (ad (k + 2), hy_e dA ad c) := by
  rw [hy_ws, List.getElem?_drop, List.getElem?_mapIdx, Nat.add_comm 2 k, h]
  rfl
theorem hy_ws_of {dA : Nat → ClassId} {ad : Nat → Nat} {cs : List hy_C} {k : Nat} {q : Nat × va_E} (h : (hy_ws dA ad cs)[k]? = some q) : ∃ c, cs[k + 2]? = some c ∧ q = (ad (k + 2), hy_e dA ad c) := by
  rw [hy_ws, List.getElem?_drop, List.getElem?_mapIdx, Nat.add_comm 2 k] at h
  cases hc : cs[k + 2]? with
  | none => rw [hc] at h; cases h
  | some c =>
    rw [hc] at h
    exact ⟨c, rfl, (Option.some.inj h).symm⟩
theorem hy_ws_ext {a b : va_W} (h : ∀ k : Nat, a[k]? = b[k]?) : a = b := List.ext_getElem? h
theorem hy_ws_none {dA : Nat → ClassId} {ad : Nat → Nat} {cs : List hy_C} {k : Nat} (h : cs[k + 2]? = none) : (hy_ws dA ad cs)[k]? = none := by
  rw [hy_ws, List.getElem?_drop, List.getElem?_mapIdx, Nat.add_comm 2 k, h]
  rfl
theorem hy_ws_set {dA : Nat → ClassId} {ad : Nat → Nat} {cs : List hy_C} {k : Nat} (c : hy_C) : hy_ws dA ad (cs.set (k + 2) c) = (hy_ws dA ad cs).set k (ad (k + 2), hy_e dA ad c) := by
  refine hy_ws_ext fun j => ?_
  rw [List.getElem?_set]
  by_cases hj : k = j
  · subst hj
    rw [if_pos rfl]
    by_cases hl : k + 2 < cs.length
    · rw [hy_ws_get (c := c) (by rw [List.getElem?_set, if_pos rfl, if_pos hl]), if_pos]
      rw [hy_ws, List.length_drop, List.length_mapIdx]
      omega
    · rw [hy_ws_none (by rw [List.getElem?_set, if_pos rfl, if_neg hl]), if_neg]
      rw [hy_ws, List.length_drop, List.length_mapIdx]
      omega
  · rw [if_neg hj]
    cases hc : cs[j + 2]? with
    | none => rw [hy_ws_none hc, hy_ws_none (by rw [List.getElem?_set, if_neg (by omega)]; exact hc)]
    | some d => rw [hy_ws_get hc, hy_ws_get (by rw [List.getElem?_set, if_neg (by omega)]; exact hc)]
theorem hy_ws_push {dA : Nat → ClassId} {ad : Nat → Nat} {cs : List hy_C} (hc : 1 < cs.length) (c : hy_C) : hy_ws dA ad (cs ++ [c]) = hy_ws dA ad cs ++ [(ad cs.length, hy_e dA ad c)] := by
  refine hy_ws_ext fun j => ?_
  have hl : (hy_ws dA ad cs).length = cs.length - 2 := by rw [hy_ws, List.length_drop, List.length_mapIdx]
  rw [List.getElem?_append]
  by_cases h1 : j < cs.length - 2
  · rw [if_pos (by omega)]
    have hj : j + 2 < cs.length := by omega
    have e1 : cs[j + 2]? = some cs[j + 2] := List.getElem?_eq_getElem hj
    rw [hy_ws_get e1, hy_ws_get (c := cs[j + 2]) (by rw [List.getElem?_append, if_pos hj]; exact e1)]
  · rw [if_neg (by omega), hl]
    by_cases h2 : j + 2 = cs.length
    · rw [hy_ws_get (c := c) (by rw [List.getElem?_append, if_neg (by omega), h2]; simp), show j - (cs.length - 2) = 0 by omega, ← h2]
      rfl
    · rw [hy_ws_none (by rw [List.getElem?_append, if_neg (by omega)]; rw [List.getElem?_eq_none]; simp; omega), List.getElem?_eq_none]
      simp; omega
/-- all references of a world lead into it -/
def hy_cv (n : Nat) (v : Value) : Prop := ∀ k, v = .ref k → k < n
def hy_cc (n : Nat) (c : hy_C) : Prop := match c with
  | .inl (_, fs) => ∀ v ∈ fs, hy_cv n v
  | .inr (_, es) => ∀ v ∈ es, hy_cv n v
def hy_cl (cs : List hy_C) : Prop := ∀ c ∈ cs, hy_cc cs.length c
theorem hy_v_eq {ad ad' : Nat → Nat} {n : Nat} (h : ∀ j, j < n → ad' j = ad j) {v : Value} (hv : hy_cv n v) : hy_v ad' v = hy_v ad v := by
  cases v with
  | ref k => rw [hy_v_ref, hy_v_ref, h k (hv k rfl)]
  | _ => rfl
theorem hy_e_eq {dA : Nat → ClassId} {ad ad' : Nat → Nat} {n : Nat} (h : ∀ j, j < n → ad' j = ad j) {c : hy_C} (hc : hy_cc n c) : hy_e dA ad' c = hy_e dA ad c := by
  cases c with
  | inl o =>
    obtain ⟨ci, fs⟩ := o
    show (Sum.inr (ci, fs.map (hy_v ad')) : va_E) = _
    rw [List.map_congr_left fun v hv => hy_v_eq h (hc v hv)]
    rfl
  | inr o =>
    obtain ⟨t, es⟩ := o
    have ho : ∀ j, hy_or ad' (es.getD j .null) = hy_or ad (es.getD j .null) := by
      intro j
      rw [List.getD_eq_getElem?_getD]
      cases hj : es[j]? with
      | none => rfl
      | some v =>
        have := hc v (List.mem_of_getElem? hj)
        cases v with
        | ref k => simp [hy_or, h k (this k rfl)]
        | _ => rfl
    match t with
    | 0 => rfl
    | 1 => rfl
    | t + 2 => simp only [hy_e, hy_a, ho]
theorem hy_ws_eq {dA : Nat → ClassId} {ad ad' : Nat → Nat} {cs : List hy_C} {n : Nat} (h : ∀ j, j < n → ad' j = ad j) (hn : cs.length ≤ n) (hc : ∀ c ∈ cs, hy_cc n c) : hy_ws dA ad' cs = hy_ws dA ad cs := by
  refine hy_ws_ext fun j => ?_
  cases hj : cs[j + 2]? with
  | none => rw [hy_ws_none hj, hy_ws_none hj]
  | some c =>
    have hl := (List.getElem?_eq_some_iff.mp hj).1
    rw [hy_ws_get hj, hy_ws_get hj, hy_e_eq h (hc c (List.mem_of_getElem? hj)), h (j + 2) (by omega)]
theorem hy_cc_le {n m : Nat} (h : n ≤ m) {c : hy_C} (hc : hy_cc n c) : hy_cc m c := by
  cases c with
  | inl o => exact fun v hv k e => Nat.lt_of_lt_of_le (hc v hv k e) h
  | inr o => exact fun v hv k e => Nat.lt_of_lt_of_le (hc v hv k e) h
end
section
/-! THE SURROUNDINGS: what of the tables and of old cells a method needs beside the good words -/
def hy_tys (dA : Nat → ClassId) : List (ClassId × FieldType) := [(dA 0, .int), (dA 1, .long), (dA 2, .object "HyphenPatterns$Language"), (dA 3, .object "java/lang/Object")]
def hy_LN : List Cond := [(Jvm.Cond.methodLinkNest "HyphenPatterns" (29 : Nat) ({ cls := "HyphenPatterns$Draft", name := "<init>", desc := "()V" } : Jvm.MethodName) "HyphenPatterns"), (Jvm.Cond.methodLinkNest "HyphenPatterns" (36 : Nat) ({ cls := "HyphenPatterns$Reading", name := "<init>", desc := "()V" } : Jvm.MethodName) "HyphenPatterns"), (Jvm.Cond.methodLinkNest "HyphenPatterns" (45 : Nat) ({ cls := "HyphenPatterns$Language", name := "<init>", desc := "()V" } : Jvm.MethodName) "HyphenPatterns"), (Jvm.Cond.methodLinkNest "HyphenPatterns$Reading" (44 : Nat) ({ cls := "HyphenPatterns", name := "indexOfRule", desc := "(Ljava/util/ArrayList;[III)I" } : Jvm.MethodName) "HyphenPatterns"), (Jvm.Cond.castable "java/lang/IndexOutOfBoundsException" "java/lang/IndexOutOfBoundsException"), (Jvm.Cond.castable "java/lang/IllegalArgumentException" "java/lang/IllegalArgumentException"), (Jvm.Cond.castable "java/lang/IllegalStateException" "java/lang/IllegalStateException"), (Jvm.Cond.castable "[I" "java/lang/Cloneable"), (Jvm.Cond.castable "HyphenPatterns$Rule" "HyphenPatterns$Rule"), (Jvm.Cond.castable "HyphenPatterns" "java/lang/Object"), (Jvm.Cond.castable "HyphenPatterns$Numbers" "java/lang/Object"), (Jvm.Cond.castable "HyphenPatterns$Draft" "java/lang/Object"), (Jvm.Cond.castable "HyphenPatterns$Reading" "java/lang/Object"), (Jvm.Cond.castable "HyphenPatterns$Language" "java/lang/Object"), (Jvm.Cond.castable "HyphenPatternsModel" "java/lang/Object"), (Jvm.Cond.castable "HyphenPatterns$Rule" "java/lang/Object"), (Jvm.Cond.castable "java/lang/String" "java/lang/Object"), (Jvm.Cond.declares ({ cls := "java/lang/RuntimeException", name := "<init>", desc := "()V" } : Jvm.MethodName)), (Jvm.Cond.declares ({ cls := "java/lang/RuntimeException", name := "<init>", desc := "(Ljava/lang/String;)V" } : Jvm.MethodName)), (Jvm.Cond.declares ({ cls := "java/lang/Exception", name := "<init>", desc := "()V" } : Jvm.MethodName)), (Jvm.Cond.declares ({ cls := "java/lang/Exception", name := "<init>", desc := "(Ljava/lang/String;)V" } : Jvm.MethodName)), (Jvm.Cond.declares ({ cls := "java/lang/Throwable", name := "<init>", desc := "()V" } : Jvm.MethodName)), (Jvm.Cond.declares ({ cls := "java/lang/Throwable", name := "<init>", desc := "(Ljava/lang/String;)V" } : Jvm.MethodName)), (Jvm.Cond.declares ({ cls := "java/lang/Object", name := "getClass", desc := "()Ljava/lang/Class;" } : Jvm.MethodName))]
theorem hy_LN_warm : ∀ w ∈ hy_LN, ∀ (s U : State), s.WarmedH U.vm → va_Nw w s → va_Nw w U := (List.forall_mem_cons.mpr ⟨fun _ _ hW h => va_Nw.warmM hW h, (List.forall_mem_cons.mpr ⟨fun _ _ hW h => va_Nw.warmM hW h, (List.forall_mem_cons.mpr ⟨fun _ _ hW h => va_Nw.warmM hW h, (List.forall_mem_cons.mpr ⟨fun _ _ hW h => va_Nw.warmM hW h, (List.forall_mem_cons.mpr ⟨fun _ _ hW h => va_Nw.warmC hW h, (List.forall_mem_cons.mpr ⟨fun _ _ hW h => va_Nw.warmC hW h, (List.forall_mem_cons.mpr ⟨fun _ _ hW h => va_Nw.warmC hW h, (List.forall_mem_cons.mpr ⟨fun _ _ hW h => va_Nw.warmC hW h, (List.forall_mem_cons.mpr ⟨fun _ _ hW h => va_Nw.warmC hW h, (List.forall_mem_cons.mpr ⟨fun _ _ hW h => va_Nw.warmC hW h, (List.forall_mem_cons.mpr ⟨fun _ _ hW h => va_Nw.warmC hW h, (List.forall_mem_cons.mpr ⟨fun _ _ hW h => va_Nw.warmC hW h, (List.forall_mem_cons.mpr ⟨fun _ _ hW h => va_Nw.warmC hW h, (List.forall_mem_cons.mpr ⟨fun _ _ hW h => va_Nw.warmC hW h, (List.forall_mem_cons.mpr ⟨fun _ _ hW h => va_Nw.warmC hW h, (List.forall_mem_cons.mpr ⟨fun _ _ hW h => va_Nw.warmC hW h, (List.forall_mem_cons.mpr ⟨fun _ _ hW h => va_Nw.warmC hW h, (List.forall_mem_cons.mpr ⟨fun _ _ hW h => va_Nw.warmD hW h, (List.forall_mem_cons.mpr ⟨fun _ _ hW h => va_Nw.warmD hW h, (List.forall_mem_cons.mpr ⟨fun _ _ hW h => va_Nw.warmD hW h, (List.forall_mem_cons.mpr ⟨fun _ _ hW h => va_Nw.warmD hW h, (List.forall_mem_cons.mpr ⟨fun _ _ hW h => va_Nw.warmD hW h, (List.forall_mem_cons.mpr ⟨fun _ _ hW h => va_Nw.warmD hW h, (List.forall_mem_cons.mpr ⟨fun _ _ hW h => va_Nw.warmD hW h, (fun _ h => absurd h List.not_mem_nil)⟩)⟩)⟩)⟩)⟩)⟩)⟩)⟩)⟩)⟩)⟩)⟩)⟩)⟩)⟩)⟩)⟩)⟩)⟩)⟩)⟩)⟩)⟩)⟩)
theorem hy_LN_on : ∀ w ∈ hy_LN, w.onTables = true := by decide +kernel
def hy_LS : List (String × Nat × String) := [("HyphenPatterns", 48, "there is no such language"), ("HyphenPatterns", 59, "these are no bounds of a range"), ("HyphenPatterns", 63, "these are no letters"), ("HyphenPatterns", 70, "the language has all its ranges"), ("HyphenPatterns", 77, "a least number is 1 to 20"), ("HyphenPatterns$Numbers", 32, "one of the numbers can't stand here"), ("HyphenPatterns$Numbers", 39, "there is no room for so many"), ("HyphenPatterns", 97, "the telling is no pattern"), ("HyphenPatterns", 175, "there is no room for one more"), ("HyphenPatterns", 113, "the telling is no exception"), ("HyphenPatterns", 131, "there is no such place")]
def hy_LX : List Cond := [.isRef (.static Jvm.Bundle.tN "UNASSIGNED_STACK" Jvm.Bundle.steD), .isRef (.static Jvm.Bundle.tN "SUPPRESSED_SENTINEL" Jvm.Bundle.listD), .laysStatic Jvm.Bundle.tN "UNASSIGNED_STACK" Jvm.Bundle.steD, .laysStatic Jvm.Bundle.tN "SUPPRESSED_SENTINEL" Jvm.Bundle.listD]
/-- the words on Throwable's statics hold here, and wherever no old cell outside A has changed -/
def hy_X (A : Nat → Prop) (U : State) (H : Heap) : Prop := ∀ (B : Array Value) (V : State), U.WarmedH V.vm → (∀ q : Nat, q < H.size → ¬ A q → V.heap[q]? = H[q]?) → ∀ w ∈ hy_LX, w.before B V = true
/-- classes and slots, array classes, the empty array's address, the class object's -/
abbrev hy_G : Type := va_G × (Nat → ClassId) × Nat × Nat
def hy_E (G : hy_G) (A : Nat → Prop) (U : State) (H : Heap) : Prop :=
  va_K G.1 hy_K (hy_tys G.2.1) U ∧ (∀ w ∈ hy_LN, va_Nw w U) ∧ (∀ q ∈ hy_LS, ∃ sa : Nat, vk_R q.1 q.2.1 q.2.2 sa U) ∧ (va_AO "HyphenPatterns$Language" U ∧ va_AO "java/lang/Object" U) ∧
  va_Nc "java/lang/IllegalStateException" "java/lang/IllegalArgumentException" U ∧ va_Mi "[Ljava/lang/Object;" G.2.2.2 U ∧
  va_Z "java/util/ArrayList" "DEFAULTCAPACITY_EMPTY_ELEMENTDATA" "[Ljava/lang/Object;" (.ref G.2.2.1) A U H ∧ va_T (.object "java/lang/Object") G.2.2.1 0 (fun _ => .null) A U H ∧ hy_X A U H
theorem hy_E.moved {G : hy_G} {A : Nat → Prop} {u U : State} {H : Heap} (hW : u.WarmedH U.vm) (h : hy_E G A u H) : hy_E G A U H := by
  obtain ⟨h1, h2, h3, h4, h5, h6, h7, h8, h9⟩ := h
  exact ⟨va_K.moved hW.alike h1, fun w hw => hy_LN_warm w hw u U hW (h2 w hw), fun q hq => (h3 q hq).imp fun sa hs => vk_R.warm hW hs, ⟨va_AO.moved hW.alike h4.1, va_AO.moved hW.alike h4.2⟩, va_Nc.moved hW.alike h5, va_Mi.moved hW.alike h6, va_Z.moved hW.alike h7, va_T.moved hW.alike h8,
    fun B V hV hq w hw => h9 B V (State.WarmedH.trans hW hV) hq w hw⟩
theorem hy_E.kept {G : hy_G} {A : Nat → Prop} {U : State} {H H1 : Heap} (h : hy_E G A U H) (hz : H.size ≤ H1.size) (hq : ∀ a : Nat, a < H.size → ¬ A a → H1[a]? = H[a]?) : hy_E G A U H1 := by
  obtain ⟨h1, h2, h3, h4, h5, h6, h7, h8, h9⟩ := h
  exact ⟨h1, h2, h3, h4, h5, h6, h7.kept hq, h8.kept hq, fun B V hV hv w hw => h9 B V hV (fun q a b => (hv q (Nat.lt_of_lt_of_le a hz) b).trans (hq q a b)) w hw⟩
theorem hy_E.narrow {G : hy_G} {A B : Nat → Prop} {U : State} {H : Heap} (h : hy_E G A U H) (hAB : ∀ q, B q → A q) : hy_E G B U H := by
  obtain ⟨h1, h2, h3, h4, h5, h6, h7, h8, h9⟩ := h
  exact ⟨h1, h2, h3, h4, h5, h6, h7.narrow hAB, h8.narrow hAB, fun B' V hV hv w hw => h9 B' V hV (fun q a b => hv q a (fun z => b (hAB q z))) w hw⟩
-- the contract of a method
def hy_A (G : hy_G) (ad : Nat → Nat) (w : hy_W) (sz : Nat) : Nat → Prop := va_A (hy_ws G.2.1 ad w.1) sz
/-- the world w lies in the heap H, at the addresses ad, all of them in A -/
def hy_L (G : hy_G) (ad : Nat → Nat) (A : Nat → Prop) (w : hy_W) (H : Heap) : Prop :=
  va_P G.1 hy_K (hy_ws G.2.1 ad w.1) H ∧ va_D A (hy_ws G.2.1 ad w.1) ∧ hy_cl w.1 ∧ 1 < w.1.length ∧ ad 0 = G.2.2.1 ∧ ad 1 = G.2.2.2 ∧ w.1[0]? = some (.inr (3, []))
def hy_pre (G : hy_G) (ad : Nat → Nat) (av : List Value) (w : hy_W) : Array Value → State → Prop := fun a U =>
  a = (av.map (hy_v ad)).toArray ∧ (∀ v ∈ av, hy_cv w.1.length v) ∧ hy_E G (hy_A G ad w U.heap.size) U U.heap ∧ hy_L G ad (fun _ => True) w U.heap
/-- the end of a method: its answer, or what it has thrown -/
def hy_oc (ad : Nat → Nat) (n : Nat) (st t : State) (r : hy_R) (oc : Outcome) : Prop := match r with
  | .inl v => oc = .returned (v.map (hy_v ad)) ∧ ∀ u, v = some u → hy_cv n u
  | .inr E => ∃ (q : Addr) (ce : Cell), oc = .threw q ∧ t.heap[q]? = some ce ∧ ce.vm = .none ∧ st.vm.findClass E = some ce.cls
def hy_post (G : hy_G) (ad : Nat → Nat) (w : hy_W) (o : hy_O) : Array Value → State → Outcome → State → Prop := fun _ st oc t =>
  ∃ (ad' : Nat → Nat) (L : List Loc) (k n : Nat), (∀ j, j < w.1.length → ad' j = ad j) ∧ w.1.length ≤ o.2.1.length ∧ hy_L G ad' (hy_A G ad w st.heap.size) o.2 t.heap ∧ va_F (hy_A G ad w st.heap.size) st t ∧
    st.WarmedH t.vm ∧ st.sameButNew ({ t with vm := st.vm } : State) L k n ∧ (∀ q ∈ L, hy_A G ad w st.heap.size q.base) ∧ k + o.2.2.1 = w.2.1 ∧ n + o.2.2.2 = w.2.2 ∧ hy_oc ad' o.2.1.length st t o.1 oc
def hy_rm (fr lo : Nat) (w : hy_W) : Room := { frames := fr, locals := lo, cells := w.2.1, slots := w.2.2 }
def hy_M (l : Launch) (y : MethodName) (ws : List Cond) (fr lo : Nat) (G : hy_G) (ad : Nat → Nat) (av : List Value) (w : hy_W) (o : hy_O) : Prop :=
  MetFree l y (headSpec ws (hy_rm fr lo w)) (hy_pre G ad av w) (fun _ _ _ _ _ => True) (hy_post G ad w o)
/-- what a body owes at its end -/
def hy_Q (below : List Frame) (G : hy_G) (ad : Nat → Nat) (w : hy_W) (o : hy_O) (args : Array Value) (s : State) : State → Prop := fun t => ∃ oc, t.status = .running ∧ Ended t below oc ∧ hy_post G ad w o args s oc t
/-- where a body stands: the machine, the method, its surroundings -/
def hy_B (p : Program) (l : Launch) (e : Env) (R : Room) (s : State) (m : MethodId) (args : Array Value) (below : List Frame) (meth : Method) (c : Code) (own : String) (cc : ByteArray) (nL : Nat) (ret : Option FieldType) (hh : List (Nat × Nat × Nat × Nat)) (G : hy_G) (A : Nat → Prop) : Prop :=
  p.tables.exec = Jvm.exec ∧ c.code = cc ∧ c.maxLocals = nL ∧ s.vm.findClass own = some m.cls ∧ (∀ w ∈ hy_T, w.before args s = true) ∧ meth.sig.returnType = ret ∧ meth.locks = false ∧ c.exceptionTable.toList.map (fun h => (h.startPc, h.endPc, h.handlerPc, h.catchType)) = hh ∧ (∀ q, s.heap.size ≤ q → A q) ∧ hy_E G A s s.heap ∧ e.platform.stackTraces = false
/-- the world in a body: cells made so far and those left are the room -/
def hy_S (G : hy_G) (A : Nat → Prop) (R : Room) (s : State) (ad0 : Nat → Nat) (n0 : Nat) (ad : Nat → Nat) (w : hy_W) (H : Heap) (locs : List Loc) (cells slots : Nat) : Prop :=
  hy_L G ad A w H ∧ va_S A s.heap H locs ∧ (∀ j, j < n0 → ad j = ad0 j) ∧ n0 ≤ w.1.length ∧ cells + w.2.1 = R.cells ∧ slots + w.2.2 = R.slots
theorem hy_word {args a' : Array Value} {s U : State} (hW : s.WarmedH U.vm) (hts : ∀ w ∈ hy_T, w.before args s = true) : ∀ w ∈ hy_T, w.before a' U = true :=
  fun w hw => word_at hW (good_of_word (List.mem_filter.mp hw).2) (hts w hw)
theorem hy_ofW {l : Launch} {y : MethodName} {cc : ByteArray} {maxL : Nat} {ret : Option FieldType} {fr lo : Nat} {G : hy_G} {ad : Nat → Nat} {av : List Value} {w : hy_W} {o : hy_O} (hl : l.flags = flags0) (hy : plainFor y = true) (hn : (lg_sl (av.map (hy_v ad))).length ≤ maxL)
    (body : ∀ (p : Program) (e : Env) (s : State) (m : MethodId) (args : Array Value) (below : List Frame) (meth : Method) (c : Code) (A : Nat → Prop), hy_A G ad w s.heap.size = A → (y.name = "<init>" → meth.name = "<init>") →
      hy_B p l e (hy_rm fr lo w) s m args below meth c y.cls cc maxL ret [] G A → hy_S G A (hy_rm fr lo w) s ad w.1.length ad w s.heap [] 0 0 → (∀ v ∈ av, hy_cv w.1.length v) →
      ∀ ls : Array Slot, lv_has ls maxL (lv_args 0 (av.map (hy_v ad))) → W p l e (hy_rm fr lo w) s m args below meth c s.heap [] 0 0 (hy_Q below G ad w o args s) (F0 m 0 ls [])) :
    hy_M l y (Cond.code y cc maxL ret :: hy_T) fr lo G ad av w o := by
  refine MetFree.of_bodySF (code := cc) (maxLocals := maxL) (ret := ret) hy ?_ ?_
  · intro args s m h hn
    obtain ⟨meth, c, h1, h2, h3, h4, h5, h6, -, -⟩ := Cond.code_spec hn (atoms_spec (ws := Cond.code y cc maxL ret :: hy_T) h _ List.mem_cons_self)
    exact ⟨meth, c, h1, h2, h3, h4, h5, h6⟩
  · intro p e s m args below meth c s₁ B hml hP _
    have hh0 : s₁.heap = s.heap := by rw [B.state]; rfl
    obtain ⟨ha, hv, hE, hL⟩ := hP
    have hts : ∀ w' ∈ Cond.code y cc maxL ret :: hy_T, w'.before args s = true := atoms_spec (ws := Cond.code y cc maxL ret :: hy_T) B.pre
    obtain ⟨meth', c', k1, k2, k3, k4, k5, k6, k7, -⟩ := Cond.code_spec B.named (hts _ List.mem_cons_self)
    cases B.method.symm.trans k1
    cases (Stand.of_body B).code.symm.trans k2
    have hex : c.exceptionTable.toList = [] := by simpa using k7
    have key := body p e s m args below meth c _ rfl (fun q => by rw [(name_of_methodNamed B.named B.method).1]; exact q) ⟨B.exec, B.bytes, hml, findClass_of_methodNamed B.named, fun w' hw => hts w' (List.mem_cons_of_mem _ hw), B.returns, B.notSynchronized, by rw [hex]; rfl, fun q hq => Or.inr hq, hE, Launch.traces_off hl B.admits⟩
      ⟨⟨hL.1, hL.2.1.self, hL.2.2⟩, va_S.rf, fun _ _ => rfl, Nat.le_refl _, Nat.zero_add _, Nat.zero_add _⟩ hv _ (lv_entry (av.map (hy_v ad)) (n := maxL) hn)
    rw [← lg_entry_eq, ← ha] at key
    obtain ⟨t, a1, oc, b1, b2, b3⟩ := key s₁ hh0 (Stand.of_body B)
    exact ⟨t, oc, a1, b1, b2, b3⟩
theorem hy_ofWW {l : Launch} {y : MethodName} {cc : ByteArray} {maxL : Nat} {ret : Option FieldType} {hh : List (Nat × Nat × Nat × Nat)} {fr lo : Nat} {G : hy_G} {ad : Nat → Nat} {av : List Value} {w : hy_W} {o : hy_O} (hl : l.flags = flags0) (hy : plainName y.cls = true) (hn : (lg_sl (av.map (hy_v ad))).length ≤ maxL)
    (body : ∀ (p : Program) (e : Env) (s : State) (m : MethodId) (args : Array Value) (below : List Frame) (meth : Method) (c : Code) (A : Nat → Prop), hy_A G ad w s.heap.size = A →
      hy_B p l e (hy_rm fr lo w) s m args below meth c y.cls cc maxL ret hh G A → hy_S G A (hy_rm fr lo w) s ad w.1.length ad w s.heap [] 0 0 → (∀ v ∈ av, hy_cv w.1.length v) →
      ∀ ls : Array Slot, lv_has ls maxL (lv_args 0 (av.map (hy_v ad))) → W p l e (hy_rm fr lo w) s m args below meth c s.heap [] 0 0 (hy_Q below G ad w o args s) (F0 m 0 ls [])) :
    hy_M l y (Cond.codeWith y cc maxL ret hh :: hy_T) fr lo G ad av w o := by
  refine MetFree.of_bodyS (code := cc) (maxLocals := maxL) (ret := ret) hy ?_ ?_
  · intro args s m h hn
    obtain ⟨m9, meth, c, hn9, h1, h2, h3, h4, -, h5, h6, -⟩ := Cond.codeWith_spec (atoms_spec (ws := Cond.codeWith y cc maxL ret hh :: hy_T) h _ List.mem_cons_self)
    cases hn.symm.trans hn9
    exact ⟨meth, c, h1, h2, h3, h4, h5, h6⟩
  · intro p e s m args below meth c s₁ B hml hP _
    have hh0 : s₁.heap = s.heap := by rw [B.state]; rfl
    obtain ⟨ha, hv, hE, hL⟩ := hP
    have hts : ∀ w' ∈ Cond.codeWith y cc maxL ret hh :: hy_T, w'.before args s = true := atoms_spec (ws := Cond.codeWith y cc maxL ret hh :: hy_T) B.pre
    obtain ⟨m9, meth', c', hn9, k1, k2, k3, k4, k5, k6, k7, -⟩ := Cond.codeWith_spec (hts _ List.mem_cons_self)
    cases B.named.symm.trans hn9
    cases B.method.symm.trans k1
    cases (Stand.of_body B).code.symm.trans k2
    have key := body p e s m args below meth c _ rfl ⟨B.exec, B.bytes, hml, findClass_of_methodNamed B.named, fun w' hw => hts w' (List.mem_cons_of_mem _ hw), B.returns, B.notSynchronized, k5, fun q hq => Or.inr hq, hE, Launch.traces_off hl B.admits⟩
      ⟨⟨hL.1, hL.2.1.self, hL.2.2⟩, va_S.rf, fun _ _ => rfl, Nat.le_refl _, Nat.zero_add _, Nat.zero_add _⟩ hv _ (lv_entry (av.map (hy_v ad)) (n := maxL) hn)
    rw [← lg_entry_eq, ← ha] at key
    obtain ⟨t, a1, oc, b1, b2, b3⟩ := key s₁ hh0 (Stand.of_body B)
    exact ⟨t, oc, a1, b1, b2, b3⟩
end
section
/-! ROWS: one instruction on a world -/
section HYR
variable {p : Program} {l : Launch} {e : Env} {R : Room} {s : State} {m : MethodId} {args : Array Value} {below : List Frame} {meth : Method} {c : Code} {H : Heap} {locs : List Loc} {cells slots : Nat} {Q : State → Prop}
variable {own : String} {cc : ByteArray} {nL : Nat} {ret : Option FieldType} {hh : List (Nat × Nat × Nat × Nat)} {G : hy_G} {A : Nat → Prop} {ad0 ad : Nat → Nat} {n0 : Nat} {w w' : hy_W} {pc : Nat} {ls : Array Slot} {rest : List Value} {k a : Nat}
theorem hy_gi_spec {ci j : Nat} {x : Int32} (h : hy_gi w k ci j = some x) : ∃ fs, w.1[k]? = some (.inl (ci, fs)) ∧ fs[j]? = some (.int x) ∧ 1 < k := by
  unfold hy_gi at h
  split at h
  · rename_i c0 fs hw
    split at h
    · rename_i hc
      split at h
      · rename_i y hy
        exact ⟨fs, by rw [hw, hc.1], by rw [hy, Option.some.inj h], hc.2⟩
      · cases h
    · cases h
  · cases h
theorem hy_gr_spec {ci j x : Nat} (h : hy_gr w k ci j = some x) : ∃ fs, w.1[k]? = some (.inl (ci, fs)) ∧ fs[j]? = some (.ref x) ∧ 1 < k := by
  unfold hy_gr at h
  split at h
  · rename_i c0 fs hw
    split at h
    · rename_i hc
      split at h
      · rename_i y hy
        exact ⟨fs, by rw [hw, hc.1], by rw [hy, Option.some.inj h], hc.2⟩
      · cases h
    · cases h
  · cases h
theorem hy_pf_spec {ci j : Nat} {v : Value} (h : hy_pf w k ci j v = some w') : ∃ fs, w.1[k]? = some (.inl (ci, fs)) ∧ j < fs.length ∧ 1 < k ∧ w' = (w.1.set k (.inl (ci, fs.set j v)), w.2) := by
  unfold hy_pf at h
  split at h
  · rename_i c0 fs hw
    split at h
    · rename_i hc
      obtain ⟨rfl, h2, h3⟩ := hc
      exact ⟨fs, hw, h2, h3, (Option.some.inj h).symm⟩
    · cases h
  · cases h
/-- the cell at a place k > 1, as the heap has it -/
theorem hy_place {c0 : hy_C} (hk : 1 < k) (hw : w.1[k]? = some c0) : ∃ q, k = q + 2 ∧ (hy_ws G.2.1 ad w.1)[q]? = some (ad k, hy_e G.2.1 ad c0) := by
  obtain ⟨q, rfl⟩ : ∃ q, k = q + 2 := ⟨k - 2, by omega⟩
  exact ⟨q, rfl, hy_ws_get hw⟩
/-- references of a closed world lead into it -/
theorem hy_cl_ref {cs : List hy_C} (hcl : hy_cl cs) {k ci r : Nat} {fs : List Value} {j : Nat} (hw : cs[k]? = some (.inl (ci, fs))) (hv : fs[j]? = some (.ref r)) : r < cs.length :=
  hcl _ (List.mem_of_getElem? hw) _ (List.mem_of_getElem? hv) r rfl
theorem hy_cl_refA {cs : List hy_C} (hcl : hy_cl cs) {k t r : Nat} {es : List Value} {j : Nat} (hw : cs[k]? = some (.inr (t, es))) (hv : es[j]? = some (.ref r)) : r < cs.length :=
  hcl _ (List.mem_of_getElem? hw) _ (List.mem_of_getElem? hv) r rfl
/-- a cell is changed -/
theorem hy_cl_set {cs : List hy_C} (hcl : hy_cl cs) (k : Nat) {c0 : hy_C} (hc : hy_cc cs.length c0) : hy_cl (cs.set k c0) := by
  intro d hd
  rw [List.length_set]
  rcases List.mem_or_eq_of_mem_set hd with h | h
  · exact hcl d h
  · rw [h]; exact hc
theorem hy_cl_push {cs : List hy_C} (hcl : hy_cl cs) {c0 : hy_C} (hc : hy_cc (cs.length + 1) c0) : hy_cl (cs ++ [c0]) := by
  intro d hd
  rw [List.length_append, List.length_singleton]
  rcases List.mem_append.mp hd with h | h
  · exact hy_cc_le (Nat.le_succ _) (hcl d h)
  · rw [List.mem_singleton.mp h]; exact hc
theorem hy_S.put {H1 : Heap} {locs1 : List Loc} (S : hy_S G A R s ad0 n0 ad w H locs cells slots) (hk : 1 < k) {c0 : hy_C} (hcc : hy_cc w.1.length c0)
    (hP : va_P G.1 hy_K ((hy_ws G.2.1 ad w.1).set (k - 2) (ad k, hy_e G.2.1 ad c0)) H1) (hD : va_D A ((hy_ws G.2.1 ad w.1).set (k - 2) (ad k, hy_e G.2.1 ad c0))) (hS : va_S A s.heap H1 locs1) :
    hy_S G A R s ad0 n0 ad (w.1.set k c0, w.2) H1 locs1 cells slots := by
  obtain ⟨⟨h1, h2, h3, h4, h5, h6, h7⟩, h8, h9, h10, h11, h12⟩ := S
  obtain ⟨q, rfl⟩ : ∃ q, k = q + 2 := ⟨k - 2, by omega⟩
  rw [Nat.add_sub_cancel] at hP hD
  refine ⟨⟨?_, ?_, hy_cl_set h3 _ hcc, ?_, h5, h6, ?_⟩, hS, h9, ?_, h11, h12⟩
  · show va_P _ _ (hy_ws _ _ (w.1.set (q + 2) c0)) _
    rw [hy_ws_set]; exact hP
  · show va_D _ (hy_ws _ _ (w.1.set (q + 2) c0))
    rw [hy_ws_set]; exact hD
  · show 1 < (w.1.set _ _).length
    rw [List.length_set]; exact h4
  · show (w.1.set _ _)[0]? = _
    rw [List.getElem?_set_ne (by omega)]; exact h7
  · show n0 ≤ (w.1.set _ _).length
    rw [List.length_set]; exact h10
theorem hy_geti (B : hy_B p l e R s m args below meth c own cc nL ret hh G A) (S : hy_S G A R s ad0 n0 ad w H locs cells slots) (ha : ad k = a) {ci j : Nat} {x : Int32} (hx : hy_gi w k ci j = some x) {C : String} {T : u_T} {N : Nat} (hc : hy_K[ci]? = some (C, T, N)) (hj : j < N) (hin : ∀ w ∈ u_ws C T N, w ∈ hy_T) {index : Nat} {ref : String} (hlink : Cond.fieldLink own index ref (T j).2.1 (T j).2.2.1 ∈ hy_T)
    (hsame : ∀ x, s.fieldFound? (T j).1 (T j).2.1 (T j).2.2.1 = some x → s.fieldFound? ref (T j).2.1 (T j).2.2.1 = some x) (hdg : decode cc pc = .ok (.getfield index, 3))
    (kk : W p l e R s m args below meth c H locs cells slots Q (F0 m (pc + 3) ls (.int x :: rest))) : W p l e R s m args below meth c H locs cells slots Q (F0 m pc ls (.ref a :: rest)) := by
  obtain ⟨fs, hw, hv, hk⟩ := hy_gi_spec hx
  obtain ⟨q, -, hq⟩ := hy_place (G := G) (ad := ad) hk hw
  subst ha
  exact va_get (D := G.1) (ci := ci) (v := .int x) (C := C) (T := T) (N := N) B.1 B.2.1 B.2.2.2.2.1 hin B.2.2.2.1 B.2.2.2.2.2.2.2.2.2.1.1 S.1.1 q hq hc j hj (B.2.2.2.2.1 _ hlink) hsame (by rw [List.getElem?_map, hv]; rfl) hdg kk
theorem hy_getr (B : hy_B p l e R s m args below meth c own cc nL ret hh G A) (S : hy_S G A R s ad0 n0 ad w H locs cells slots) (ha : ad k = a) {ci j r : Nat} (hx : hy_gr w k ci j = some r) {C : String} {T : u_T} {N : Nat} (hc : hy_K[ci]? = some (C, T, N)) (hj : j < N) (hin : ∀ w ∈ u_ws C T N, w ∈ hy_T) {index : Nat} {ref : String} (hlink : Cond.fieldLink own index ref (T j).2.1 (T j).2.2.1 ∈ hy_T)
    (hsame : ∀ x, s.fieldFound? (T j).1 (T j).2.1 (T j).2.2.1 = some x → s.fieldFound? ref (T j).2.1 (T j).2.2.1 = some x) (hdg : decode cc pc = .ok (.getfield index, 3))
    (kk : ∀ b : Nat, ad r = b → r < w.1.length → W p l e R s m args below meth c H locs cells slots Q (F0 m (pc + 3) ls (.ref b :: rest))) : W p l e R s m args below meth c H locs cells slots Q (F0 m pc ls (.ref a :: rest)) := by
  obtain ⟨fs, hw, hv, hk⟩ := hy_gr_spec hx
  obtain ⟨q, -, hq⟩ := hy_place (G := G) (ad := ad) hk hw
  subst ha
  exact va_get (D := G.1) (ci := ci) (v := .ref (ad r)) (C := C) (T := T) (N := N) B.1 B.2.1 B.2.2.2.2.1 hin B.2.2.2.1 B.2.2.2.2.2.2.2.2.2.1.1 S.1.1 q hq hc j hj (B.2.2.2.2.1 _ hlink) hsame (by rw [List.getElem?_map, hv]; rfl) hdg (kk _ rfl (hy_cl_ref S.1.2.2.1 hw hv))
theorem hy_put (B : hy_B p l e R s m args below meth c own cc nL ret hh G A) (S : hy_S G A R s ad0 n0 ad w H locs cells slots) (ha : ad k = a) {ci j : Nat} {v u : Value} (hu : hy_v ad v = u) (hcv : hy_cv w.1.length v) (hx : hy_pf w k ci j v = some w') {C : String} {T : u_T} {N : Nat} (hc : hy_K[ci]? = some (C, T, N)) (hj : j < N) (hin : ∀ w ∈ u_ws C T N, w ∈ hy_T) (ty0 : Nat → FieldType) (hty : ∀ k, k < N → parseFieldDescriptor (T k).2.2.1 = some (ty0 k)) (hnm : ∀ a, a < N → ∀ b, b < N → a ≠ b → (T a).2.1 ≠ (T b).2.1)
    {index : Nat} {ref : String} (hlink : Cond.fieldLink own index ref (T j).2.1 (T j).2.2.1 ∈ hy_T) (hsame : ∀ x, s.fieldFound? (T j).1 (T j).2.1 (T j).2.2.1 = some x → s.fieldFound? ref (T j).2.1 (T j).2.2.1 = some x) (hfin : (T j).2.2.2 = false) (hn : narrow (ty0 j) u = u) (hfit : fits (ty0 j) u = true) (hdg : decode cc pc = .ok (.putfield index, 3))
    (kk : ∀ (H1 : Heap) (locs1 : List Loc), hy_S G A R s ad0 n0 ad w' H1 locs1 cells slots → w'.1.length = w.1.length → W p l e R s m args below meth c H1 locs1 cells slots Q (F0 m (pc + 3) ls rest)) : W p l e R s m args below meth c H locs cells slots Q (F0 m pc ls (u :: .ref a :: rest)) := by
  obtain ⟨fs, hw, hl, hk, rfl⟩ := hy_pf_spec hx
  obtain ⟨q, e1, hq⟩ := hy_place (G := G) (ad := ad) hk hw
  subst ha hu
  refine va_put (D := G.1) (ci := ci) (v := hy_v ad v) (C := C) (T := T) (N := N) B.1 B.2.1 B.2.2.2.2.1 hin ty0 hty hnm B.2.2.2.1 B.2.2.2.2.2.2.2.2.2.1.1 S.1.1 S.1.2.1 S.2.1 q hq hc j hj (B.2.2.2.2.1 _ hlink) hsame hfin (hty j hj) hn hfit (by rw [List.length_map]; exact hl) hdg (fun H1 locs1 hP hD hS => kk H1 locs1 ?_ (List.length_set ..))
  have e2 : (hy_e G.2.1 ad (.inl (ci, fs.set j v)) : va_E) = .inr (ci, (fs.map (hy_v ad)).set j (hy_v ad v)) := by rw [← List.map_set]; rfl
  refine S.put hk (c0 := .inl (ci, fs.set j v)) (fun u hu => ?_) (by rw [e2, show k - 2 = q by omega]; exact hP) (by rw [e2, show k - 2 = q by omega]; exact hD) hS
  rcases List.mem_or_eq_of_mem_set hu with h | h
  · exact S.1.2.2.1 _ (List.mem_of_getElem? hw) u h
  · rw [h]; exact hcv
theorem hy_putF (hi : meth.name = "<init>") (B : hy_B p l e R s m args below meth c own cc nL ret hh G A) (S : hy_S G A R s ad0 n0 ad w H locs cells slots) (ha : ad k = a) {ci j : Nat} {v u : Value} (hu : hy_v ad v = u) (hcv : hy_cv w.1.length v) (hx : hy_pf w k ci j v = some w') {C : String} {T : u_T} {N : Nat} (hc : hy_K[ci]? = some (C, T, N)) (hj : j < N) (hin : ∀ w ∈ u_ws C T N, w ∈ hy_T) (ty0 : Nat → FieldType) (hty : ∀ k, k < N → parseFieldDescriptor (T k).2.2.1 = some (ty0 k)) (hnm : ∀ a, a < N → ∀ b, b < N → a ≠ b → (T a).2.1 ≠ (T b).2.1)
    {index : Nat} {ref : String} (hlink : Cond.fieldLink own index ref (T j).2.1 (T j).2.2.1 ∈ hy_T) (hsame : ∀ x, s.fieldFound? (T j).1 (T j).2.1 (T j).2.2.1 = some x → s.fieldFound? ref (T j).2.1 (T j).2.2.1 = some x) (hfin : (T j).2.2.2 = true) (hdecl : (T j).1 = own) (hn : narrow (ty0 j) u = u) (hfit : fits (ty0 j) u = true) (hdg : decode cc pc = .ok (.putfield index, 3))
    (kk : ∀ (H1 : Heap) (locs1 : List Loc), hy_S G A R s ad0 n0 ad w' H1 locs1 cells slots → w'.1.length = w.1.length → W p l e R s m args below meth c H1 locs1 cells slots Q (F0 m (pc + 3) ls rest)) : W p l e R s m args below meth c H locs cells slots Q (F0 m pc ls (u :: .ref a :: rest)) := by
  obtain ⟨fs, hw, hl, hk, rfl⟩ := hy_pf_spec hx
  obtain ⟨q, e1, hq⟩ := hy_place (G := G) (ad := ad) hk hw
  subst ha hu
  refine va_putF (D := G.1) (ci := ci) (v := hy_v ad v) (C := C) (T := T) (N := N) B.1 B.2.1 B.2.2.2.2.1 hin ty0 hty hnm B.2.2.2.1 B.2.2.2.2.2.2.2.2.2.1.1 S.1.1 S.1.2.1 S.2.1 q hq hc j hj (B.2.2.2.2.1 _ hlink) hsame hfin hi hdecl (hty j hj) hn hfit (by rw [List.length_map]; exact hl) hdg (fun H1 locs1 hP hD hS => kk H1 locs1 ?_ (List.length_set ..))
  have e2 : (hy_e G.2.1 ad (.inl (ci, fs.set j v)) : va_E) = .inr (ci, (fs.map (hy_v ad)).set j (hy_v ad v)) := by rw [← List.map_set]; rfl
  refine S.put hk (c0 := .inl (ci, fs.set j v)) (fun u hu => ?_) (by rw [e2, show k - 2 = q by omega]; exact hP) (by rw [e2, show k - 2 = q by omega]; exact hD) hS
  rcases List.mem_or_eq_of_mem_set hu with h | h
  · exact S.1.2.2.1 _ (List.mem_of_getElem? hw) u h
  · rw [h]; exact hcv
end HYR
end
section
/-! ROWS: new cells, arrays -/
section HYS
variable {p : Program} {l : Launch} {e : Env} {R : Room} {s : State} {m : MethodId} {args : Array Value} {below : List Frame} {meth : Method} {c : Code} {H : Heap} {locs : List Loc} {cells slots : Nat} {Q : State → Prop}
variable {own : String} {cc : ByteArray} {nL : Nat} {ret : Option FieldType} {hh : List (Nat × Nat × Nat × Nat)} {G : hy_G} {A : Nat → Prop} {ad0 ad : Nat → Nat} {n0 : Nat} {w w' : hy_W} {pc : Nat} {ls : Array Slot} {rest : List Value} {k a : Nat}
theorem hy_nw_spec {c0 : hy_C} {n : Nat} (h : hy_nw w c0 n = some w') : 1 ≤ w.2.1 ∧ n ≤ w.2.2 ∧ w' = (w.1 ++ [c0], w.2.1 - 1, w.2.2 - n) := by
  unfold hy_nw at h
  split at h
  · rename_i hc
    exact ⟨hc.1, hc.2, (Option.some.inj h).symm⟩
  · cases h
theorem hy_S.push {q : Nat} {H1 : Heap} {locs1 : List Loc} (S : hy_S G A R s ad0 n0 ad w H locs cells slots) {c0 : hy_C} {n : Nat} {E : va_E} (hx : hy_nw w c0 n = some w') (hcc : hy_cc (w.1.length + 1) c0) (hf : hy_e G.2.1 (va_up ad w.1.length q) c0 = E)
    (hP : va_P G.1 hy_K (hy_ws G.2.1 ad w.1 ++ [(q, E)]) H1) (hD : va_D A (hy_ws G.2.1 ad w.1 ++ [(q, E)])) (hS : va_S A s.heap H1 locs1) :
    hy_S G A R s ad0 n0 (va_up ad w.1.length q) w' H1 locs1 (cells + 1) (slots + n) := by
  obtain ⟨⟨h1, h2, h3, h4, h5, h6, h7⟩, h8, h9, h10, h11, h12⟩ := S
  obtain ⟨x1, x2, rfl⟩ := hy_nw_spec hx
  have hag : ∀ j, j < w.1.length → va_up ad w.1.length q j = ad j := fun j hj => va_up_ne ad q (by omega)
  have e1 : hy_ws G.2.1 (va_up ad w.1.length q) (w.1 ++ [c0]) = hy_ws G.2.1 ad w.1 ++ [(q, E)] := by
    rw [hy_ws_push h4, hy_ws_eq hag (Nat.le_refl _) h3, hf, va_up_self]
  refine ⟨⟨?_, ?_, hy_cl_push h3 hcc, ?_, ?_, ?_, ?_⟩, hS, fun j hj => (hag j (by omega)).trans (h9 j hj), ?_, ?_, ?_⟩
  · show va_P _ _ (hy_ws _ _ (w.1 ++ [c0])) _
    rw [e1]; exact hP
  · show va_D _ (hy_ws _ _ (w.1 ++ [c0]))
    rw [e1]; exact hD
  · show 1 < (w.1 ++ [c0]).length
    rw [List.length_append]; omega
  · exact (hag 0 (by omega)).trans h5
  · exact (hag 1 h4).trans h6
  · show (w.1 ++ [c0])[0]? = _
    rw [List.getElem?_append_left (by omega)]; exact h7
  · show n0 ≤ (w.1 ++ [c0]).length
    rw [List.length_append]; omega
  · show cells + 1 + (w.2.1 - 1) = _
    omega
  · show slots + n + (w.2.2 - n) = _
    omega
theorem hy_new (B : hy_B p l e R s m args below meth c own cc nL ret hh G A) (S : hy_S G A R s ad0 n0 ad w H locs cells slots) {ci : Nat} {fs : List Value} {C : String} {T : u_T} {N : Nat} (hx : hy_nw w (.inl (ci, fs)) N = some w') (hc : hy_K[ci]? = some (C, T, N)) (hin : ∀ w ∈ u_ws C T N, w ∈ hy_T) (ty : Nat → FieldType) (hty : ∀ k, k < N → parseFieldDescriptor (T k).2.2.1 = some (ty k))
    {index : Nat} (hcl : Cond.classLink own index C ∈ hy_T) (hinst : Cond.instantiable C N ∈ hy_T) (hini : Cond.initialized C ∈ hy_T) (hfs : ∀ j, j < N → defaultValue (ty j) = vp_V fs j) (hno : ∀ v ∈ fs, ∀ k, v ≠ .ref k) (hdg : decode cc pc = .ok (.new index, 3))
    (kk : ∀ (ad1 : Nat → Nat) (q : Nat) (H1 : Heap), (∀ j, j < w.1.length → ad1 j = ad j) → ad1 w.1.length = q → hy_S G A R s ad0 n0 ad1 w' H1 locs (cells + 1) (slots + N) → w'.1.length = w.1.length + 1 → W p l e R s m args below meth c H1 locs (cells + 1) (slots + N) Q (F0 m (pc + 3) ls (.ref q :: rest))) : W p l e R s m args below meth c H locs cells slots Q (F0 m pc ls rest) := by
  obtain ⟨x1, x2, e0⟩ := hy_nw_spec hx
  have hm : ∀ f : Nat → Nat, fs.map (hy_v f) = fs := fun f => by
    rw [List.map_congr_left (g := id) fun v hv => ?_, List.map_id]
    cases v with
    | ref k => exact absurd rfl (hno _ hv k)
    | _ => rfl
  refine va_new (D := G.1) (ci := ci) (fs := fs) (C := C) (T := T) (N := N) B.1 B.2.1 B.2.2.2.2.1 hin ty hty B.2.2.2.1 (B.2.2.2.2.1 _ hcl) (B.2.2.2.2.1 _ hinst) (B.2.2.2.2.1 _ hini) B.2.2.2.2.2.2.2.2.2.1.1 S.1.1 S.1.2.1 S.2.1 B.2.2.2.2.2.2.2.2.1 hc hfs (by have := S.2.2.2.2.1; omega) (by have := S.2.2.2.2.2; omega) hdg (fun q H1 hP hD hS => ?_)
  exact kk (va_up ad w.1.length q) q H1 (fun j hj => va_up_ne ad q (by omega)) (va_up_self ad _ q) (S.push hx (fun v hv k e => absurd e (hno v hv k)) (by show (Sum.inr (ci, fs.map _) : va_E) = _; rw [hm]) hP hD hS) (by rw [e0]; simp)
/-- an index -/
theorem hy_ix_in {i : Int32} {n : Nat} (h : hy_ix i n = true) : vp_in i n := by
  simp only [hy_ix, Bool.and_eq_true, decide_eq_true_eq] at h
  intro q
  rcases q with q | q
  · exact absurd q (Int32.not_lt.mpr h.1)
  · omega
theorem hy_ix_lt {i : Int32} {n : Nat} (h : hy_ix i n = true) : i.toNatClampNeg < n := by
  simp only [hy_ix, Bool.and_eq_true, decide_eq_true_eq] at h
  exact h.2
theorem hy_ai_spec {i x : Int32} (h : hy_ai w k i = some x) : ∃ es, w.1[k]? = some (.inr (0, es)) ∧ hy_ix i es.length = true ∧ es[i.toNatClampNeg]? = some (.int x) ∧ 1 < k := by
  unfold hy_ai at h
  split at h
  · rename_i es hw
    split at h
    · rename_i hc
      split at h
      · rename_i y hy
        exact ⟨es, hw, hc.1, by rw [hy, Option.some.inj h], hc.2⟩
      · cases h
    · cases h
  · cases h
theorem hy_al_spec {i : Int32} {x : Int64} (h : hy_al w k i = some x) : ∃ es, w.1[k]? = some (.inr (1, es)) ∧ hy_ix i es.length = true ∧ es[i.toNatClampNeg]? = some (.long x) ∧ 1 < k := by
  unfold hy_al at h
  split at h
  · rename_i es hw
    split at h
    · rename_i hc
      split at h
      · rename_i y hy
        exact ⟨es, hw, hc.1, by rw [hy, Option.some.inj h], hc.2⟩
      · cases h
    · cases h
  · cases h
theorem hy_ar_spec {t r : Nat} {i : Int32} (h : hy_ar w t k i = some r) : ∃ es, w.1[k]? = some (.inr (t, es)) ∧ hy_ix i es.length = true ∧ es[i.toNatClampNeg]? = some (.ref r) ∧ 1 < k := by
  unfold hy_ar at h
  split at h
  · rename_i u es hw
    split at h
    · rename_i hc
      obtain ⟨rfl, h2, h3⟩ := hc
      split at h
      · rename_i y hy
        exact ⟨es, hw, h2, by rw [hy, Option.some.inj h], h3⟩
      · cases h
    · cases h
  · cases h
theorem hy_pa_spec {t : Nat} {i : Int32} {v : Value} (h : hy_pa w t k i v = some w') : ∃ es, w.1[k]? = some (.inr (t, es)) ∧ hy_ix i es.length = true ∧ 1 < k ∧ w' = (w.1.set k (.inr (t, es.set i.toNatClampNeg v)), w.2) := by
  unfold hy_pa at h
  split at h
  · rename_i u es hw
    split at h
    · rename_i hc
      obtain ⟨rfl, h2, h3⟩ := hc
      exact ⟨es, hw, h2, h3, (Option.some.inj h).symm⟩
    · cases h
  · cases h
theorem hy_ln_spec {t n : Nat} (h : hy_ln w t k = some n) : ∃ es, w.1[k]? = some (.inr (t, es)) ∧ es.length = n := by
  unfold hy_ln at h
  split at h
  · rename_i u es hw
    split at h
    · rename_i hc
      subst hc
      exact ⟨es, hw, Option.some.inj h⟩
    · cases h
  · cases h
theorem hy_iald (B : hy_B p l e R s m args below meth c own cc nL ret hh G A) (S : hy_S G A R s ad0 n0 ad w H locs cells slots) (ha : ad k = a) {i x : Int32} (hx : hy_ai w k i = some x) (hdg : decode cc pc = .ok (.iaload, 1))
    (kk : W p l e R s m args below meth c H locs cells slots Q (F0 m (pc + 1) ls (.int x :: rest))) : W p l e R s m args below meth c H locs cells slots Q (F0 m pc ls (.int i :: .ref a :: rest)) := by
  obtain ⟨es, hw, hi, hv, hk⟩ := hy_ai_spec hx
  obtain ⟨q, -, hq⟩ := hy_place (G := G) (ad := ad) hk hw
  subst ha
  refine va_iald (D := G.1) B.1 B.2.1 B.2.2.2.2.2.2.2.2.2.1.1 S.1.1 q 0 hq rfl (hy_ix_in hi) hdg ?_
  rw [show hy_oi (es.getD i.toNatClampNeg .null) = x by rw [List.getD_eq_getElem?_getD, hv]; rfl]
  exact kk
theorem hy_lald (B : hy_B p l e R s m args below meth c own cc nL ret hh G A) (S : hy_S G A R s ad0 n0 ad w H locs cells slots) (ha : ad k = a) {i : Int32} {x : Int64} (hx : hy_al w k i = some x) (hdg : decode cc pc = .ok (.laload, 1))
    (kk : W p l e R s m args below meth c H locs cells slots Q (F0 m (pc + 1) ls (.long x :: rest))) : W p l e R s m args below meth c H locs cells slots Q (F0 m pc ls (.int i :: .ref a :: rest)) := by
  obtain ⟨es, hw, hi, hv, hk⟩ := hy_al_spec hx
  obtain ⟨q, -, hq⟩ := hy_place (G := G) (ad := ad) hk hw
  subst ha
  refine va_lald (D := G.1) B.1 B.2.1 B.2.2.2.2.2.2.2.2.2.1.1 S.1.1 q 1 hq rfl (hy_ix_in hi) hdg ?_
  rw [show hy_ol (es.getD i.toNatClampNeg .null) = x by rw [List.getD_eq_getElem?_getD, hv]; rfl]
  exact kk
theorem hy_e_q {dA : Nat → ClassId} {f : Nat → Nat} {t : Nat} (ht : 1 < t) (es : List Value) : hy_e dA f (.inr (t, es)) = .inl (dA t, es.length, .inr (.inr (.inr (.inr (fun j => hy_or f (es.getD j .null)))))) := by
  match t, ht with
  | t + 2, _ => rfl
theorem hy_tys_q {t : Nat} (ht : t = 2 ∨ t = 3) : ∃ C, (hy_tys G.2.1)[t]? = some (G.2.1 t, .object C) := by
  rcases ht with rfl | rfl
  · exact ⟨_, rfl⟩
  · exact ⟨_, rfl⟩
theorem hy_aald (B : hy_B p l e R s m args below meth c own cc nL ret hh G A) (S : hy_S G A R s ad0 n0 ad w H locs cells slots) (ha : ad k = a) {t r : Nat} (ht : t = 2 ∨ t = 3) {i : Int32} (hx : hy_ar w t k i = some r) (hdg : decode cc pc = .ok (.aaload, 1))
    (kk : ∀ b : Nat, ad r = b → r < w.1.length → W p l e R s m args below meth c H locs cells slots Q (F0 m (pc + 1) ls (.ref b :: rest))) : W p l e R s m args below meth c H locs cells slots Q (F0 m pc ls (.int i :: .ref a :: rest)) := by
  obtain ⟨es, hw, hi, hv, hk⟩ := hy_ar_spec hx
  obtain ⟨q, -, hq⟩ := hy_place (G := G) (ad := ad) hk hw
  subst ha
  rw [hy_e_q (by omega)] at hq
  obtain ⟨C, hC⟩ := hy_tys_q (G := G) ht
  refine va_aldq (D := G.1) B.1 B.2.1 B.2.2.2.2.2.2.2.2.2.1.1 S.1.1 q t hq hC (hy_ix_in hi) hdg ?_
  rw [show hy_or ad (es.getD i.toNatClampNeg .null) = some (ad r) by rw [List.getD_eq_getElem?_getD, hv]; rfl]
  exact kk _ rfl (hy_cl_refA S.1.2.2.1 hw hv)
theorem hy_iast (B : hy_B p l e R s m args below meth c own cc nL ret hh G A) (S : hy_S G A R s ad0 n0 ad w H locs cells slots) (ha : ad k = a) {i x : Int32} (hx : hy_pa w 0 k i (.int x) = some w') (hdg : decode cc pc = .ok (.iastore, 1))
    (kk : ∀ (H1 : Heap) (locs1 : List Loc), hy_S G A R s ad0 n0 ad w' H1 locs1 cells slots → w'.1.length = w.1.length → W p l e R s m args below meth c H1 locs1 cells slots Q (F0 m (pc + 1) ls rest)) : W p l e R s m args below meth c H locs cells slots Q (F0 m pc ls (.int x :: .int i :: .ref a :: rest)) := by
  obtain ⟨es, hw, hi, hk, rfl⟩ := hy_pa_spec hx
  obtain ⟨q, e1, hq⟩ := hy_place (G := G) (ad := ad) hk hw
  subst ha
  refine va_iast (D := G.1) B.1 B.2.1 B.2.2.2.2.2.2.2.2.2.1.1 S.1.1 S.1.2.1 S.2.1 q 0 hq rfl (hy_ix_in hi) hdg (fun H1 locs1 hP hD hS => kk H1 locs1 ?_ (List.length_set ..))
  have e2 : (hy_e G.2.1 ad (.inr (0, es.set i.toNatClampNeg (.int x))) : va_E) = .inl (G.2.1 0, es.length, .inl (upd (fun j => hy_oi (es.getD j .null)) i.toNatClampNeg x)) := by
    show (Sum.inl (G.2.1 0, (es.set i.toNatClampNeg (.int x)).length, .inl (fun j => hy_oi ((es.set i.toNatClampNeg (.int x)).getD j .null))) : va_E) = _
    rw [List.length_set, show (fun j => hy_oi ((es.set i.toNatClampNeg (.int x)).getD j .null)) = upd (fun j => hy_oi (es.getD j .null)) i.toNatClampNeg x from ?_]
    funext j
    rw [List.getD_eq_getElem?_getD, List.getElem?_set]
    by_cases hj : i.toNatClampNeg = j
    · subst hj
      simp [upd, hy_ix_lt hi, hy_oi]
    · simp [upd, hj, Ne.symm hj, List.getD_eq_getElem?_getD]
  refine S.put hk (c0 := .inr (0, es.set i.toNatClampNeg (.int x))) (fun u hu => ?_) (by rw [e2, show k - 2 = q by omega]; exact hP) (by rw [e2, show k - 2 = q by omega]; exact hD) hS
  rcases List.mem_or_eq_of_mem_set hu with h | h
  · exact S.1.2.2.1 _ (List.mem_of_getElem? hw) u h
  · rw [h]; intro _ z; cases z
theorem hy_last (B : hy_B p l e R s m args below meth c own cc nL ret hh G A) (S : hy_S G A R s ad0 n0 ad w H locs cells slots) (ha : ad k = a) {i : Int32} {x : Int64} (hx : hy_pa w 1 k i (.long x) = some w') (hdg : decode cc pc = .ok (.lastore, 1))
    (kk : ∀ (H1 : Heap) (locs1 : List Loc), hy_S G A R s ad0 n0 ad w' H1 locs1 cells slots → w'.1.length = w.1.length → W p l e R s m args below meth c H1 locs1 cells slots Q (F0 m (pc + 1) ls rest)) : W p l e R s m args below meth c H locs cells slots Q (F0 m pc ls (.long x :: .int i :: .ref a :: rest)) := by
  obtain ⟨es, hw, hi, hk, rfl⟩ := hy_pa_spec hx
  obtain ⟨q, e1, hq⟩ := hy_place (G := G) (ad := ad) hk hw
  subst ha
  refine va_last (D := G.1) B.1 B.2.1 B.2.2.2.2.2.2.2.2.2.1.1 S.1.1 S.1.2.1 S.2.1 q 1 hq rfl (hy_ix_in hi) hdg (fun H1 locs1 hP hD hS => kk H1 locs1 ?_ (List.length_set ..))
  have e2 : (hy_e G.2.1 ad (.inr (1, es.set i.toNatClampNeg (.long x))) : va_E) = .inl (G.2.1 1, es.length, .inr (.inl (vp_updL (fun j => hy_ol (es.getD j .null)) i.toNatClampNeg x))) := by
    show (Sum.inl (G.2.1 1, (es.set i.toNatClampNeg (.long x)).length, .inr (.inl (fun j => hy_ol ((es.set i.toNatClampNeg (.long x)).getD j .null)))) : va_E) = _
    rw [List.length_set, show (fun j => hy_ol ((es.set i.toNatClampNeg (.long x)).getD j .null)) = vp_updL (fun j => hy_ol (es.getD j .null)) i.toNatClampNeg x from ?_]
    funext j
    rw [List.getD_eq_getElem?_getD, List.getElem?_set]
    by_cases hj : i.toNatClampNeg = j
    · subst hj
      simp [vp_updL, hy_ix_lt hi, hy_ol]
    · simp [vp_updL, hj, Ne.symm hj, List.getD_eq_getElem?_getD]
  refine S.put hk (c0 := .inr (1, es.set i.toNatClampNeg (.long x))) (fun u hu => ?_) (by rw [e2, show k - 2 = q by omega]; exact hP) (by rw [e2, show k - 2 = q by omega]; exact hD) hS
  rcases List.mem_or_eq_of_mem_set hu with h | h
  · exact S.1.2.2.1 _ (List.mem_of_getElem? hw) u h
  · rw [h]; intro _ z; cases z
theorem hy_upq {f : Nat → Nat} {es : List Value} {n r : Nat} (hn : n < es.length) : (fun j => hy_or f ((es.set n (.ref r)).getD j .null)) = va_up (fun j => hy_or f (es.getD j .null)) n (some (f r)) := by
  funext j
  rw [List.getD_eq_getElem?_getD, List.getElem?_set]
  by_cases hj : n = j
  · subst hj
    simp [va_up, hn, hy_or]
  · simp [va_up, hj, Ne.symm hj, List.getD_eq_getElem?_getD]
theorem hy_upn {f : Nat → Nat} {es : List Value} {n : Nat} (hn : n < es.length) : (fun j => hy_or f ((es.set n .null).getD j .null)) = va_up (fun j => hy_or f (es.getD j .null)) n none := by
  funext j
  rw [List.getD_eq_getElem?_getD, List.getElem?_set]
  by_cases hj : n = j
  · subst hj
    simp [va_up, hn, hy_or]
  · simp [va_up, hj, Ne.symm hj, List.getD_eq_getElem?_getD]
/-- a null is laid into an array of references -/
theorem hy_aastN (B : hy_B p l e R s m args below meth c own cc nL ret hh G A) (S : hy_S G A R s ad0 n0 ad w H locs cells slots) (ha : ad k = a) {t : Nat} (ht : t = 2 ∨ t = 3) {i : Int32} (hx : hy_pa w t k i .null = some w') (hdg : decode cc pc = .ok (.aastore, 1))
    (kk : ∀ (H1 : Heap) (locs1 : List Loc), hy_S G A R s ad0 n0 ad w' H1 locs1 cells slots → w'.1.length = w.1.length → W p l e R s m args below meth c H1 locs1 cells slots Q (F0 m (pc + 1) ls rest)) : W p l e R s m args below meth c H locs cells slots Q (F0 m pc ls (.null :: .int i :: .ref a :: rest)) := by
  obtain ⟨es, hw, hi, hk, rfl⟩ := hy_pa_spec hx
  obtain ⟨q, e1, hq⟩ := hy_place (G := G) (ad := ad) hk hw
  subst ha
  rw [hy_e_q (by omega)] at hq
  obtain ⟨C, hC⟩ := hy_tys_q (G := G) ht
  refine va_astqN (D := G.1) B.1 B.2.1 B.2.2.2.2.2.2.2.2.2.1.1 S.1.1 S.1.2.1 S.2.1 q t hq hC (hy_ix_in hi) hdg (fun H1 locs1 hP hD hS => kk H1 locs1 ?_ (List.length_set ..))
  have e2 : (hy_e G.2.1 ad (.inr (t, es.set i.toNatClampNeg .null)) : va_E) = .inl (G.2.1 t, es.length, .inr (.inr (.inr (.inr (va_up (fun j => hy_or ad (es.getD j .null)) i.toNatClampNeg none))))) := by
    rw [hy_e_q (by omega), List.length_set, hy_upn (hy_ix_lt hi)]
  refine S.put hk (c0 := .inr (t, es.set i.toNatClampNeg .null)) (fun u hu => ?_) (by rw [e2, show k - 2 = q by omega]; exact hP) (by rw [e2, show k - 2 = q by omega]; exact hD) hS
  rcases List.mem_or_eq_of_mem_set hu with h | h
  · exact S.1.2.2.1 _ (List.mem_of_getElem? hw) u h
  · rw [h]; intro _ z; cases z
/-- an object of class ci is laid into an array of a class above it -/
theorem hy_aast (B : hy_B p l e R s m args below meth c own cc nL ret hh G A) (S : hy_S G A R s ad0 n0 ad w H locs cells slots) (ha : ad k = a) {t r b ci : Nat} {E : String} (hb : ad r = b) {i : Int32} (hx : hy_pa w t k i (.ref r) = some w') {fs : List Value} (hr : w.1[r]? = some (.inl (ci, fs))) (hr1 : 1 < r) {C : String} {T : u_T} {N : Nat} (hc : hy_K[ci]? = some (C, T, N)) (ht1 : 1 < t) (ht : (hy_tys G.2.1)[t]? = some (G.2.1 t, .object E)) (hca : va_Nw (.castable C E) s) (hdg : decode cc pc = .ok (.aastore, 1))
    (kk : ∀ (H1 : Heap) (locs1 : List Loc), hy_S G A R s ad0 n0 ad w' H1 locs1 cells slots → w'.1.length = w.1.length → W p l e R s m args below meth c H1 locs1 cells slots Q (F0 m (pc + 1) ls rest)) : W p l e R s m args below meth c H locs cells slots Q (F0 m pc ls (.ref b :: .int i :: .ref a :: rest)) := by
  obtain ⟨es, hw, hi, hk, rfl⟩ := hy_pa_spec hx
  obtain ⟨q, e1, hq⟩ := hy_place (G := G) (ad := ad) hk hw
  obtain ⟨qr, -, hqr⟩ := hy_place (G := G) (ad := ad) hr1 hr
  subst ha hb
  rw [hy_e_q ht1] at hq
  refine va_astqO (D := G.1) B.1 B.2.1 B.2.2.2.2.2.2.2.2.2.1.1 S.1.1 S.1.2.1 S.2.1 q t qr ci hq ht (r := (C, T, N)) hca hqr hc (hy_ix_in hi) hdg (fun H1 locs1 hP hD hS => kk H1 locs1 ?_ (List.length_set ..))
  have e2 : (hy_e G.2.1 ad (.inr (t, es.set i.toNatClampNeg (.ref r))) : va_E) = .inl (G.2.1 t, es.length, .inr (.inr (.inr (.inr (va_up (fun j => hy_or ad (es.getD j .null)) i.toNatClampNeg (some (ad r))))))) := by
    rw [hy_e_q ht1, List.length_set, hy_upq (hy_ix_lt hi)]
  refine S.put hk (c0 := .inr (t, es.set i.toNatClampNeg (.ref r))) (fun u hu => ?_) (by rw [e2, show k - 2 = q by omega]; exact hP) (by rw [e2, show k - 2 = q by omega]; exact hD) hS
  rcases List.mem_or_eq_of_mem_set hu with h | h
  · exact S.1.2.2.1 _ (List.mem_of_getElem? hw) u h
  · rw [h]; intro z hz; cases hz; exact (List.getElem?_eq_some_iff.mp hr).1
theorem hy_alen (B : hy_B p l e R s m args below meth c own cc nL ret hh G A) (S : hy_S G A R s ad0 n0 ad w H locs cells slots) (ha : ad k = a) {t n : Nat} (ht : t < 4) (hx : hy_ln w t k = some n) (h1 : k ≠ 1) (hdg : decode cc pc = .ok (.arraylength, 1))
    (kk : W p l e R s m args below meth c H locs cells slots Q (F0 m (pc + 1) ls (.int (nI n) :: rest))) : W p l e R s m args below meth c H locs cells slots Q (F0 m pc ls (.ref a :: rest)) := by
  obtain ⟨es, hw, rfl⟩ := hy_ln_spec hx
  by_cases hk : 1 < k
  · obtain ⟨q, -, hq⟩ := hy_place (G := G) (ad := ad) hk hw
    subst ha
    obtain ⟨ty, hty⟩ : ∃ ty, (hy_tys G.2.1)[t]? = some (G.2.1 t, ty) := by
      match t, ht with
      | 0, _ => exact ⟨_, rfl⟩
      | 1, _ => exact ⟨_, rfl⟩
      | 2, _ => exact ⟨_, rfl⟩
      | 3, _ => exact ⟨_, rfl⟩
    exact va_alen (D := G.1) B.1 B.2.1 B.2.2.2.2.2.2.2.2.2.1.1 S.1.1 q t hq hty rfl hdg kk
  · obtain rfl : k = 0 := by omega
    rw [S.1.2.2.2.2.2.2] at hw
    cases hw
    rw [S.1.2.2.2.2.1] at ha
    subst ha
    exact va_tlen B.1 B.2.1 B.2.2.2.2.2.2.2.2.2.1.2.2.2.2.2.2.2.1 S.2.1 rfl hdg kk
end HYS
end
section
/-! ROWS: calls of methods by their contracts -/
section HYC
variable {p : Program} {l : Launch} {e : Env} {R : Room} {s : State} {m : MethodId} {args : Array Value} {below : List Frame} {meth : Method} {c : Code} {H : Heap} {locs : List Loc} {cells slots : Nat} {Q : State → Prop}
variable {own : String} {cc : ByteArray} {nL : Nat} {ret : Option FieldType} {hh : List (Nat × Nat × Nat × Nat)} {G : hy_G} {A : Nat → Prop} {ad0 ad : Nat → Nat} {n0 : Nat} {w w' : hy_W} {pc : Nat} {ls : Array Slot} {rest : List Value} {k a : Nat}
variable {y : MethodName} {bytes : ByteArray} {maxL fr lo index n : Nat} {rt : Option FieldType} {av : List Value} {vo : Option Value} {g : JFrame}
/-- the cells that a callee may change are the caller's -/
theorem hy_A_in (B : hy_B p l e R s m args below meth c own cc nL ret hh G A) (S : hy_S G A R s ad0 n0 ad w H locs cells slots) : ∀ q, hy_A G ad w H.size q → A q := by
  intro q hq
  rcases hq with ⟨j, E, hj⟩ | hq
  · exact S.1.2.1.2 j _ hj
  · exact B.2.2.2.2.2.2.2.2.1 q (Nat.le_trans S.2.1.1 hq)
/-- the surroundings, here and now -/
theorem hy_E_now (B : hy_B p l e R s m args below meth c own cc nL ret hh G A) (S : hy_S G A R s ad0 n0 ad w H locs cells slots) {U : State} (hU : U.heap = H) (hW : s.WarmedH U.vm) : hy_E G (hy_A G ad w U.heap.size) U U.heap := by
  rw [hU]
  exact ((B.2.2.2.2.2.2.2.2.2.1.kept S.2.1.1 S.2.1.2.1).narrow (hy_A_in B S)).moved hW
theorem hy_pre_now (B : hy_B p l e R s m args below meth c own cc nL ret hh G A) (S : hy_S G A R s ad0 n0 ad w H locs cells slots) (hav : ∀ v ∈ av, hy_cv w.1.length v) {U : State} (hU : U.heap = H) (hW : s.WarmedH U.vm) {a' : Array Value} (ha : a' = (av.map (hy_v ad)).toArray) : hy_pre G ad av w a' U := by
  refine ⟨ha, hav, hy_E_now B S hU hW, ?_, S.1.2.1.weaken (fun _ _ _ _ => trivial), S.1.2.2⟩
  rw [hU]
  exact S.1.1
/-- behind a call that came back -/
def hy_Bk (G : hy_G) (R : Room) (A : Nat → Prop) (s : State) (ad0 : Nat → Nat) (n0 : Nat) (ad : Nat → Nat) (w w' : hy_W) (H : Heap) (vo : Option Value) (v : Option Value) (B : Pt) : Prop :=
  ∃ ad1 : Nat → Nat, (∀ j, j < w.1.length → ad1 j = ad j) ∧ w.1.length ≤ w'.1.length ∧ hy_S G A R s ad0 n0 ad1 w' B.U.heap B.locs B.cells B.slots ∧ v = vo.map (hy_v ad1) ∧ ∀ u, vo = some u → hy_cv w'.1.length u
theorem hy_behind (B : hy_B p l e R s m args below meth c own cc nL ret hh G A) (S : hy_S G A R s ad0 n0 ad w H locs cells slots) {ad1 : Nat → Nat} {L : List Loc} {k' n' : Nat} {st t : State} {w1 : hy_W} (hst : st.heap = H) (h1 : ∀ j, j < w.1.length → ad1 j = ad j) (h2 : w.1.length ≤ w1.1.length) (h3 : hy_L G ad1 (hy_A G ad w st.heap.size) w1 t.heap) (h4 : va_F (hy_A G ad w st.heap.size) st t)
    (h5 : ∀ q ∈ L, hy_A G ad w st.heap.size q.base) (h6 : k' + w1.2.1 = w.2.1) (h7 : n' + w1.2.2 = w.2.2) : hy_S G A R s ad0 n0 ad1 w1 t.heap (locs ++ L) (cells + k') (slots + n') := by
  have hA := hy_A_in B S
  rw [hst] at h3 h5
  obtain ⟨g1, g2⟩ := h4
  rw [hst] at g1 g2
  refine ⟨⟨h3.1, h3.2.1.weaken (fun _ _ _ hq => hA _ hq), h3.2.2⟩, ⟨Nat.le_trans S.2.1.1 g1, fun q hq hn => ?_, fun q hq => ?_⟩, fun j hj => (h1 j (by have := S.2.2.2.1; omega)).trans (S.2.2.1 j hj), Nat.le_trans S.2.2.2.1 h2, ?_, ?_⟩
  · rw [g2 q (Nat.lt_of_lt_of_le hq S.2.1.1) (fun z => hn (hA q z))]
    exact S.2.1.2.1 q hq hn
  · rcases List.mem_append.mp hq with h | h
    · exact S.2.1.2.2 q h
    · exact hA _ (h5 q h)
  · have := S.2.2.2.2.1; omega
  · have := S.2.2.2.2.2; omega
theorem hy_back (B : hy_B p l e R s m args below meth c own cc nL ret hh G A) (S : hy_S G A R s ad0 n0 ad w H locs cells slots) (hM : hy_M l y (Cond.code y bytes maxL rt :: hy_T) fr lo G ad av w (.inl vo, w')) (hav : ∀ v ∈ av, hy_cv w.1.length v) (hcode : Cond.code y bytes maxL rt ∈ hy_T) (hini : Cond.initialized y.cls ∈ hy_T) (hfr : fr + 1 ≤ R.frames) (hlo : 8 + (maxL + 11) + lo ≤ R.locals) :
    Back l R p e below s args y 3 8 (fun X a' => X.U.heap = H ∧ X.locs = locs ∧ X.cells = cells ∧ X.slots = slots ∧ a' = (av.map (hy_v ad)).toArray) (fun _ _ v X => hy_Bk G R A s ad0 n0 ad w w' H vo v X) := by
  refine Back.of_free (bytes := bytes) (maxL := maxL) (ret := rt) (E := fun a' st oc t L k' n' => ∃ ad1 : Nat → Nat, (∀ j, j < w.1.length → ad1 j = ad j) ∧ w.1.length ≤ w'.1.length ∧ hy_L G ad1 (hy_A G ad w st.heap.size) w' t.heap ∧ va_F (hy_A G ad w st.heap.size) st t ∧ (∀ q ∈ L, hy_A G ad w st.heap.size q.base) ∧ k' + w'.2.1 = w.2.1 ∧ n' + w'.2.2 = w.2.2 ∧ oc = .returned (vo.map (hy_v ad1)) ∧ ∀ u, vo = some u → hy_cv w'.1.length u) hM hfr hlo ?_ ?_ (fun _ _ _ _ _ _ _ _ _ => trivial) ?_ ?_
  · intro m' meth' c' X a' hX hp
    obtain ⟨q1, q2, q3, q4, q5⟩ := hp
    have hw9 := hy_word (a' := a') hX.warmed B.2.2.2.2.1
    refine ⟨atoms_intro fun w9 hw => ?_, hw9 _ hcode, hw9 _ hini, ?_, ?_⟩
    · rcases List.mem_cons.mp hw with h | h
      · rw [h]; exact hw9 _ hcode
      · exact hw9 _ h
    · show X.cells + w.2.1 ≤ _
      have := S.2.2.2.2.1; omega
    · show X.slots + w.2.2 ≤ _
      have := S.2.2.2.2.2; omega
  · intro m' meth' c' X a' g' mk hX hp
    exact hy_pre_now B S hav (U := X.U.calling g' mk a') hp.1 hX.warmed hp.2.2.2.2
  · intro a' st oc t h
    obtain ⟨ad1, L, k', n', h1, h2, h3, h4, h5, h6, h7, h8, h9, h10⟩ := h
    exact ⟨L, k', n', ⟨⟨_, h10.1⟩, h5, h6⟩, ad1, h1, h2, h3, h4, h7, h8, h9, h10.1, h10.2⟩
  · intro m' meth' c' X a' g' mk v t L k' n' hX hp hq hF hE
    obtain ⟨ad1, h1, h2, h3, h4, h5, h6, h7, h8, h9⟩ := hE
    obtain ⟨q1, q2, q3, q4, q5⟩ := hp
    refine ⟨ad1, h1, h2, ?_, Outcome.returned.inj h8, h9⟩
    show hy_S G A R s ad0 n0 ad1 w' t.heap (X.locs ++ L) (X.cells + k') (X.slots + n')
    rw [q2, q3, q4]
    exact hy_behind B S (st := X.U.calling g' mk a') q1 h1 h2 h3 h4 h5 h6 h7
def hy_Run (p : Program) (l : Launch) (e : Env) (R : Room) (s : State) (m : MethodId) (args : Array Value) (below : List Frame) (meth : Method) (c : Code) (H : Heap) (locs : List Loc) (cells slots : Nat) (g : JFrame) (rest : List Value) (P : Option Value → Pt → Prop) : Prop :=
  ∀ T : State, T.heap = H → Stand p l e R s m args below meth c T locs cells slots → ∃ (v : Option Value) (X : Pt), Stand p l e R s m args below meth c X.U X.locs X.cells X.slots ∧ P v X ∧ Goes p e below T g X.U { g with pc := g.pc + 3, stack := v.toList ++ rest }
/-- a call of an instance method -/
theorem hy_runV (B : hy_B p l e R s m args below meth c own cc nL ret hh G A) (S : hy_S G A R s ad0 n0 ad w H locs cells slots) {r b : Nat} {av' As : List Value} (hav' : av = .ref r :: av') (hb : ad r = b) (hAs : av'.map (hy_v ad) = As) (hM : hy_M l y (Cond.code y bytes maxL rt :: hy_T) fr lo G ad av w (.inl vo, w')) (hav : ∀ v ∈ av, hy_cv w.1.length v) (hcode : Cond.code y bytes maxL rt ∈ hy_T) (hini : Cond.initialized y.cls ∈ hy_T) (hlink : Cond.methodLink own index y ∈ hy_T) (hinst : Cond.instanceMethod y ∈ hy_T) (hsel : Cond.selects y.cls y y ∈ hy_T)
    (hy : y.cls ≠ "java/lang/invoke/MethodHandle" ∧ y.cls ≠ "java/lang/invoke/VarHandle") (hd : (parseMethodDescriptor y.desc).map (fun d => d.parameters.length) = some As.length) (hfr : fr + 1 ≤ R.frames) (hlo : 8 + (maxL + 11) + lo ≤ R.locals) {ci : Nat} {fs : List Value} (hr : w.1[r]? = some (.inl (ci, fs))) (hr1 : 1 < r) {T9 : u_T} {N9 : Nat} (hc : hy_K[ci]? = some (y.cls, T9, N9)) (hsz : ls.size = nL) (hst : (rest.map fun v => v.category).sum ≤ 8) (hdg : decode cc pc = .ok (.invokevirtual index, 3)) :
    hy_Run p l e R s m args below meth c H locs cells slots (F0 m pc ls (As.reverse ++ .ref b :: rest)) rest (hy_Bk G R A s ad0 n0 ad w w' H vo) := by
  intro T hT X
  obtain ⟨q, -, hq⟩ := hy_place (G := G) (ad := ad) hr1 hr
  obtain ⟨cell, g1, g2, g3⟩ := va_recv (q := (y.cls, T9, N9)) B.2.2.2.2.2.2.2.2.2.1.1 S.1.1 hc hq
  subst hb hAs hav'
  obtain ⟨v, vm1, X1, hW1, hX1, hP1, hS1⟩ := callV X B.1 (own := own) (C := y.cls) (index := index) (y := y) (bytes := bytes) (maxL := maxL) (ret := rt) B.2.2.2.1 (B.2.2.2.2.1 _ hlink) (B.2.2.2.2.1 _ hinst) (B.2.2.2.2.1 _ hsel) (B.2.2.2.2.1 _ hcode) hy (hy_back B S hM hav hcode hini hfr hlo)
    (by rw [hT]; exact g1) g2 g3 (g := F0 m pc ls ((av'.map (hy_v ad)).reverse ++ .ref (ad r) :: rest)) rfl (by rw [B.2.2.1]; exact hsz) (argsL := av'.map (hy_v ad)) (rest := rest) (fun sig hs => by rw [hs] at hd; exact (Option.some.inj hd).symm) rfl (by show 2 * 0 + _ ≤ 8; omega) (by rw [B.2.1]; exact hdg) (fun vm2 _ => ⟨hT, rfl, rfl, rfl, rfl⟩)
  exact ⟨v, X1, hX1, hP1, hS1⟩
/-- a call of a static method -/
theorem hy_runS (B : hy_B p l e R s m args below meth c own cc nL ret hh G A) (S : hy_S G A R s ad0 n0 ad w H locs cells slots) {As : List Value} (hAs : av.map (hy_v ad) = As) (hM : hy_M l y (Cond.code y bytes maxL rt :: hy_T) fr lo G ad av w (.inl vo, w')) (hav : ∀ v ∈ av, hy_cv w.1.length v) (hcode : Cond.code y bytes maxL rt ∈ hy_T) (hini : Cond.initialized y.cls ∈ hy_T) (hlink : Cond.methodLink own index y ∈ hy_T) (hstat : Cond.static y ∈ hy_T)
    (hy : y.cls ≠ "java/lang/invoke/MethodHandle" ∧ y.cls ≠ "java/lang/invoke/VarHandle") (hd : (parseMethodDescriptor y.desc).map (fun d => d.parameters.length) = some As.length) (hfr : fr + 1 ≤ R.frames) (hlo : 8 + (maxL + 11) + lo ≤ R.locals) (hsz : ls.size = nL) (hst : (rest.map fun v => v.category).sum ≤ 8) (hdg : decode cc pc = .ok (.invokestatic index, 3)) :
    hy_Run p l e R s m args below meth c H locs cells slots (F0 m pc ls (As.reverse ++ rest)) rest (hy_Bk G R A s ad0 n0 ad w w' H vo) := by
  intro T hT X
  subst hAs
  obtain ⟨v, vm1, X1, hW1, hX1, hP1, hS1⟩ := callS X B.1 (own := own) (index := index) (y := y) (bytes := bytes) (maxL := maxL) (ret := rt) B.2.2.2.1 (B.2.2.2.2.1 _ hlink) (B.2.2.2.2.1 _ hstat) (B.2.2.2.2.1 _ hini) (B.2.2.2.2.1 _ hcode) hy (hy_back B S hM hav hcode hini hfr hlo)
    (g := F0 m pc ls ((av.map (hy_v ad)).reverse ++ rest)) rfl (by rw [B.2.2.1]; exact hsz) (argsL := av.map (hy_v ad)) (rest := rest) (fun sig hs => by rw [hs] at hd; exact (Option.some.inj hd).symm) rfl (by show 2 * 0 + _ ≤ 8; omega) (by rw [B.2.1]; exact hdg) (fun vm2 _ => ⟨hT, rfl, rfl, rfl, rfl⟩)
  exact ⟨v, X1, hX1, hP1, hS1⟩
/-- .. of a nest mate's -/
theorem hy_runSN (B : hy_B p l e R s m args below meth c own cc nL ret hh G A) (S : hy_S G A R s ad0 n0 ad w H locs cells slots) {As : List Value} (hAs : av.map (hy_v ad) = As) (hM : hy_M l y (Cond.code y bytes maxL rt :: hy_T) fr lo G ad av w (.inl vo, w')) (hav : ∀ v ∈ av, hy_cv w.1.length v) (hcode : Cond.code y bytes maxL rt ∈ hy_T) (hini : Cond.initialized y.cls ∈ hy_T) {host : String} (hlink : Cond.methodLinkNest own index y host ∈ hy_LN) (hstat : Cond.static y ∈ hy_T)
    (hy : y.cls ≠ "java/lang/invoke/MethodHandle" ∧ y.cls ≠ "java/lang/invoke/VarHandle") (hd : (parseMethodDescriptor y.desc).map (fun d => d.parameters.length) = some As.length) (hfr : fr + 1 ≤ R.frames) (hlo : 8 + (maxL + 11) + lo ≤ R.locals) (hsz : ls.size = nL) (hst : (rest.map fun v => v.category).sum ≤ 8) (hdg : decode cc pc = .ok (.invokestatic index, 3)) :
    hy_Run p l e R s m args below meth c H locs cells slots (F0 m pc ls (As.reverse ++ rest)) rest (hy_Bk G R A s ad0 n0 ad w w' H vo) := by
  intro T hT X
  subst hAs
  obtain ⟨v, vm1, X1, hW1, hX1, hP1, hS1⟩ := va_callSN X B.1 (own := own) (index := index) (y := y) (bytes := bytes) (maxL := maxL) (ret := rt) B.2.2.2.1 (va_Nw.use rfl (B.2.2.2.2.2.2.2.2.2.1.2.1 _ hlink)) (B.2.2.2.2.1 _ hstat) (B.2.2.2.2.1 _ hini) (B.2.2.2.2.1 _ hcode) hy (hy_back B S hM hav hcode hini hfr hlo)
    (g := F0 m pc ls ((av.map (hy_v ad)).reverse ++ rest)) rfl (by rw [B.2.2.1]; exact hsz) (argsL := av.map (hy_v ad)) (rest := rest) (fun sig hs => by rw [hs] at hd; exact (Option.some.inj hd).symm) rfl (by show 2 * 0 + _ ≤ 8; omega) (by rw [B.2.1]; exact hdg) (fun vm2 _ => ⟨hT, rfl, rfl, rfl, rfl⟩)
  exact ⟨v, X1, hX1, hP1, hS1⟩
/-- a call of a constructor -/
theorem hy_runI (B : hy_B p l e R s m args below meth c own cc nL ret hh G A) (S : hy_S G A R s ad0 n0 ad w H locs cells slots) {r b : Nat} {av' As : List Value} (hav' : av = .ref r :: av') (hb : ad r = b) (hAs : av'.map (hy_v ad) = As) (hM : hy_M l y (Cond.code y bytes maxL none :: hy_T) fr lo G ad av w (.inl vo, w')) (hav : ∀ v ∈ av, hy_cv w.1.length v) (hcode : Cond.code y bytes maxL none ∈ hy_T) (hini : Cond.initialized y.cls ∈ hy_T) (hlink : Cond.methodLink own index y ∈ hy_T) (hinst : Cond.instanceMethod y ∈ hy_T) (hy1 : y.name = "<init>")
    (hy : y.cls ≠ "java/lang/invoke/MethodHandle" ∧ y.cls ≠ "java/lang/invoke/VarHandle") (hd : (parseMethodDescriptor y.desc).map (fun d => d.parameters.length) = some As.length) (hfr : fr + 1 ≤ R.frames) (hlo : 8 + (maxL + 11) + lo ≤ R.locals) (hsz : ls.size = nL) (hst : (rest.map fun v => v.category).sum ≤ 8) (hdg : decode cc pc = .ok (.invokespecial index, 3)) :
    hy_Run p l e R s m args below meth c H locs cells slots (F0 m pc ls (As.reverse ++ .ref b :: rest)) rest (hy_Bk G R A s ad0 n0 ad w w' H vo) := by
  intro T hT X
  subst hb hAs hav'
  obtain ⟨v, vm1, X1, hW1, hX1, hP1, hS1⟩ := callI X B.1 (own := own) (index := index) (y := y) (bytes := bytes) (maxL := maxL) B.2.2.2.1 hy1 (B.2.2.2.2.1 _ hlink) (B.2.2.2.2.1 _ hinst) (B.2.2.2.2.1 _ hcode) hy (hy_back B S hM hav hcode hini hfr hlo)
    (g := F0 m pc ls ((av'.map (hy_v ad)).reverse ++ .ref (ad r) :: rest)) rfl (by rw [B.2.2.1]; exact hsz) (argsL := av'.map (hy_v ad)) (rest := rest) (fun sig hs => by rw [hs] at hd; exact (Option.some.inj hd).symm) rfl (by show 2 * 0 + _ ≤ 8; omega) (by rw [B.2.1]; exact hdg) (fun vm2 _ => ⟨hT, rfl, rfl, rfl, rfl⟩)
  exact ⟨v, X1, hX1, hP1, hS1⟩
/-- .. of a nest mate -/
theorem hy_runIN (B : hy_B p l e R s m args below meth c own cc nL ret hh G A) (S : hy_S G A R s ad0 n0 ad w H locs cells slots) {r b : Nat} {av' As : List Value} (hav' : av = .ref r :: av') (hb : ad r = b) (hAs : av'.map (hy_v ad) = As) (hM : hy_M l y (Cond.code y bytes maxL none :: hy_T) fr lo G ad av w (.inl vo, w')) (hav : ∀ v ∈ av, hy_cv w.1.length v) (hcode : Cond.code y bytes maxL none ∈ hy_T) (hini : Cond.initialized y.cls ∈ hy_T) {host : String} (hlink : Cond.methodLinkNest own index y host ∈ hy_LN) (hinst : Cond.instanceMethod y ∈ hy_T) (hy1 : y.name = "<init>")
    (hy : y.cls ≠ "java/lang/invoke/MethodHandle" ∧ y.cls ≠ "java/lang/invoke/VarHandle") (hd : (parseMethodDescriptor y.desc).map (fun d => d.parameters.length) = some As.length) (hfr : fr + 1 ≤ R.frames) (hlo : 8 + (maxL + 11) + lo ≤ R.locals) (hsz : ls.size = nL) (hst : (rest.map fun v => v.category).sum ≤ 8) (hdg : decode cc pc = .ok (.invokespecial index, 3)) :
    hy_Run p l e R s m args below meth c H locs cells slots (F0 m pc ls (As.reverse ++ .ref b :: rest)) rest (hy_Bk G R A s ad0 n0 ad w w' H vo) := by
  intro T hT X
  subst hb hAs hav'
  obtain ⟨v, vm1, X1, hW1, hX1, hP1, hS1⟩ := va_callIN X B.1 (own := own) (index := index) (y := y) (bytes := bytes) (maxL := maxL) B.2.2.2.1 hy1 (va_Nw.use rfl (B.2.2.2.2.2.2.2.2.2.1.2.1 _ hlink)) (B.2.2.2.2.1 _ hinst) (B.2.2.2.2.1 _ hcode) hy (hy_back B S hM hav hcode hini hfr hlo)
    (g := F0 m pc ls ((av'.map (hy_v ad)).reverse ++ .ref (ad r) :: rest)) rfl (by rw [B.2.2.1]; exact hsz) (argsL := av'.map (hy_v ad)) (rest := rest) (fun sig hs => by rw [hs] at hd; exact (Option.some.inj hd).symm) rfl (by show 2 * 0 + _ ≤ 8; omega) (by rw [B.2.1]; exact hdg) (fun vm2 _ => ⟨hT, rfl, rfl, rfl, rfl⟩)
  exact ⟨v, X1, hX1, hP1, hS1⟩
/-- behind the call: an int, a reference, nothing -/
theorem hy_calli {x : Int32} {st0 : List Value} (hr : hy_Run p l e R s m args below meth c H locs cells slots (F0 m pc ls st0) rest (hy_Bk G R A s ad0 n0 ad w w' H (some (.int x))))
    (kk : ∀ (ad1 : Nat → Nat) (H1 : Heap) (locs1 : List Loc) (cells1 slots1 : Nat), (∀ j, j < w.1.length → ad1 j = ad j) → w.1.length ≤ w'.1.length → hy_S G A R s ad0 n0 ad1 w' H1 locs1 cells1 slots1 → W p l e R s m args below meth c H1 locs1 cells1 slots1 Q (F0 m (pc + 3) ls (.int x :: rest))) : W p l e R s m args below meth c H locs cells slots Q (F0 m pc ls st0) := by
  intro T hT X
  obtain ⟨v, X1, hX1, ⟨ad1, h1, h2, h3, rfl, h5⟩, hS1⟩ := hr T hT X
  obtain ⟨t, q1, q2⟩ := kk ad1 X1.U.heap X1.locs X1.cells X1.slots h1 h2 h3 X1.U rfl hX1
  exact ⟨t, hS1 t q1, q2⟩
theorem hy_callr {r : Nat} {st0 : List Value} (hr : hy_Run p l e R s m args below meth c H locs cells slots (F0 m pc ls st0) rest (hy_Bk G R A s ad0 n0 ad w w' H (some (.ref r))))
    (kk : ∀ (ad1 : Nat → Nat) (H1 : Heap) (locs1 : List Loc) (cells1 slots1 : Nat), (∀ j, j < w.1.length → ad1 j = ad j) → w.1.length ≤ w'.1.length → hy_S G A R s ad0 n0 ad1 w' H1 locs1 cells1 slots1 → ∀ b : Nat, ad1 r = b → r < w'.1.length → W p l e R s m args below meth c H1 locs1 cells1 slots1 Q (F0 m (pc + 3) ls (.ref b :: rest))) : W p l e R s m args below meth c H locs cells slots Q (F0 m pc ls st0) := by
  intro T hT X
  obtain ⟨v, X1, hX1, ⟨ad1, h1, h2, h3, rfl, h5⟩, hS1⟩ := hr T hT X
  obtain ⟨t, q1, q2⟩ := kk ad1 X1.U.heap X1.locs X1.cells X1.slots h1 h2 h3 (ad1 r) rfl (h5 _ rfl r rfl) X1.U rfl hX1
  exact ⟨t, hS1 t q1, q2⟩
theorem hy_callv {st0 : List Value} (hr : hy_Run p l e R s m args below meth c H locs cells slots (F0 m pc ls st0) rest (hy_Bk G R A s ad0 n0 ad w w' H none))
    (kk : ∀ (ad1 : Nat → Nat) (H1 : Heap) (locs1 : List Loc) (cells1 slots1 : Nat), (∀ j, j < w.1.length → ad1 j = ad j) → w.1.length ≤ w'.1.length → hy_S G A R s ad0 n0 ad1 w' H1 locs1 cells1 slots1 → W p l e R s m args below meth c H1 locs1 cells1 slots1 Q (F0 m (pc + 3) ls rest)) : W p l e R s m args below meth c H locs cells slots Q (F0 m pc ls st0) := by
  intro T hT X
  obtain ⟨v, X1, hX1, ⟨ad1, h1, h2, h3, rfl, h5⟩, hS1⟩ := hr T hT X
  obtain ⟨t, q1, q2⟩ := kk ad1 X1.U.heap X1.locs X1.cells X1.slots h1 h2 h3 X1.U rfl hX1
  exact ⟨t, hS1 t q1, q2⟩
end HYC
end
section
/-! ROWS: a method's ends: answers, throws; calls that throw -/
section HYN
variable {p : Program} {l : Launch} {e : Env} {R : Room} {s : State} {m : MethodId} {args : Array Value} {below : List Frame} {meth : Method} {c : Code} {H : Heap} {locs : List Loc} {cells slots : Nat} {Q : State → Prop}
variable {own : String} {cc : ByteArray} {nL : Nat} {ret : Option FieldType} {hh : List (Nat × Nat × Nat × Nat)} {G : hy_G} {A : Nat → Prop} {ad0 ad : Nat → Nat} {n0 : Nat} {w0 w w' : hy_W} {pc : Nat} {ls : Array Slot} {rest : List Value} {k a : Nat}
theorem hy_mono {Q' : State → Prop} {g : JFrame} (h : ∀ t, Q t → Q' t) (kk : W p l e R s m args below meth c H locs cells slots Q g) : W p l e R s m args below meth c H locs cells slots Q' g := by
  intro T hT X
  obtain ⟨t, q1, q2⟩ := kk T hT X
  exact ⟨t, q1, h t q2⟩
/-- the end of a body with an answer -/
theorem hy_toQ {vo : Option Value} {fr lo : Nat} (hA : hy_A G ad0 w0 s.heap.size = A) (S : hy_S G A (hy_rm fr lo w0) s ad0 w0.1.length ad w H locs cells slots) (hcv : ∀ u, vo = some u → hy_cv w.1.length u) {t : State}
    (h : MQ below (fun _ _ oc t => t.heap = H ∧ oc = .returned (vo.map (hy_v ad))) args s cells slots A t) : hy_Q below G ad0 w0 (.inl vo, w) args s t := by
  obtain ⟨oc, h1, h2, ⟨h3, h4⟩, L, ⟨-, h5, h6⟩, h7⟩ := h
  refine ⟨oc, h1, h2, ad, L, cells, slots, S.2.2.1, S.2.2.2.1, ?_, ?_, h5, h6, ?_, S.2.2.2.2.1, S.2.2.2.2.2, h4, hcv⟩
  · rw [hA, h3]; exact S.1
  · rw [hA]; exact S.2.1.F h3
  · rw [hA]; exact h7
theorem hy_iret {x : Int32} {fr lo : Nat} (hA : hy_A G ad0 w0 s.heap.size = A) (B : hy_B p l e (hy_rm fr lo w0) s m args below meth c own cc nL (some .int) hh G A) (S : hy_S G A (hy_rm fr lo w0) s ad0 w0.1.length ad w H locs cells slots) (hdg : decode cc pc = .ok (.ireturn, 1)) :
    W p l e (hy_rm fr lo w0) s m args below meth c H locs cells slots (hy_Q below G ad0 w0 (.inl (some (.int x)), w) args s) (F0 m pc ls [.int x]) := by
  have hlocks := B.2.2.2.2.2.2.1
  exact hy_mono (fun t h => hy_toQ hA S (fun u e k z => by cases e; cases z) h) (W.iret (Qc := fun _ _ oc t => t.heap = H ∧ oc = .returned ((some (Value.int x)).map (hy_v ad))) B.1 B.2.1 B.2.2.2.2.2.1 (fun t ht _ => ⟨ht, rfl⟩) S.2.1.2.2 hdg)
theorem hy_zret {x : Int32} {fr lo : Nat} (hA : hy_A G ad0 w0 s.heap.size = A) (B : hy_B p l e (hy_rm fr lo w0) s m args below meth c own cc nL (some .boolean) hh G A) (S : hy_S G A (hy_rm fr lo w0) s ad0 w0.1.length ad w H locs cells slots) (hx : x = 0 ∨ x = 1) (hdg : decode cc pc = .ok (.ireturn, 1)) :
    W p l e (hy_rm fr lo w0) s m args below meth c H locs cells slots (hy_Q below G ad0 w0 (.inl (some (.int x)), w) args s) (F0 m pc ls [.int x]) := by
  have hlocks := B.2.2.2.2.2.2.1
  exact hy_mono (fun t h => hy_toQ hA S (fun u e k z => by cases e; cases z) h) (W.zret (ty := .boolean) (Qc := fun _ _ oc t => t.heap = H ∧ oc = .returned ((some (Value.int x)).map (hy_v ad))) B.1 B.2.1 B.2.2.2.2.2.1 (by rcases hx with rfl | rfl <;> rfl) (fun t ht _ => ⟨ht, rfl⟩) S.2.1.2.2 hdg)
theorem hy_aret {r b : Nat} {rt : FieldType} {fr lo : Nat} (hA : hy_A G ad0 w0 s.heap.size = A) (B : hy_B p l e (hy_rm fr lo w0) s m args below meth c own cc nL (some rt) hh G A) (S : hy_S G A (hy_rm fr lo w0) s ad0 w0.1.length ad w H locs cells slots) (hrt : (∃ n, rt = .object n) ∨ ∃ t, rt = .array t) (hb : ad r = b) (hr : r < w.1.length) (hdg : decode cc pc = .ok (.areturn, 1)) :
    W p l e (hy_rm fr lo w0) s m args below meth c H locs cells slots (hy_Q below G ad0 w0 (.inl (some (.ref r)), w) args s) (F0 m pc ls [.ref b]) := by
  have hlocks := B.2.2.2.2.2.2.1
  subst hb
  exact hy_mono (fun t h => hy_toQ hA S (fun u e k z => by cases e; cases z; exact hr) h) (W.aret (rt := rt) (Qc := fun _ _ oc t => t.heap = H ∧ oc = .returned ((some (Value.ref r)).map (hy_v ad))) B.1 B.2.1 B.2.2.2.2.2.1 hrt (Or.inr ⟨_, rfl⟩) (fun t ht _ => ⟨ht, rfl⟩) S.2.1.2.2 hdg)
theorem hy_vret {fr lo : Nat} (hA : hy_A G ad0 w0 s.heap.size = A) (B : hy_B p l e (hy_rm fr lo w0) s m args below meth c own cc nL none hh G A) (S : hy_S G A (hy_rm fr lo w0) s ad0 w0.1.length ad w H locs cells slots) (hdg : decode cc pc = .ok (.return_, 1)) :
    W p l e (hy_rm fr lo w0) s m args below meth c H locs cells slots (hy_Q below G ad0 w0 (.inl none, w) args s) (F0 m pc ls []) := by
  have hlocks := B.2.2.2.2.2.2.1
  exact hy_mono (fun t h => hy_toQ hA S (fun u e => by cases e) h) (W.vret (Qc := fun _ _ oc t => t.heap = H ∧ oc = .returned ((none : Option Value).map (hy_v ad))) B.1 B.2.1 B.2.2.2.2.2.1 (fun t ht _ => ⟨ht, rfl⟩) S.2.1.2.2 hdg)
/-- this frame, looked at from where it now stands, as if it began here -/
theorem hy_anew {T : State} (X : Stand p l e R s m args below meth c T locs cells slots) {c' n' : Nat} (hc : cells + c' ≤ R.cells) (hs : slots + n' ≤ R.slots) :
    Stand p l e { frames := R.frames, locals := R.locals, cells := c', slots := n' } ((T.setVm s.vm).setFrames (.invoking m args :: below)) m args below meth c T [] 0 0 := by
  obtain ⟨g0, hfr⟩ := X.frames_eq
  have hcur : (T.setVm s.vm).cur < (T.setVm s.vm).threads.size := State.cur_lt_of_frames (s := T.setVm s.vm) hfr
  have hF : ((T.setVm s.vm).setFrames (.invoking m args :: below)).frames = .invoking m args :: below := State.frames_setFrames _ hcur
  obtain ⟨th, hth, -⟩ := State.frames_cons (s := T.setVm s.vm) hfr
  have hlim : e.platform.stackLimits ((T.setVm s.vm).setFrames (.invoking m args :: below)).me = e.platform.stackLimits s.me := by rw [State.stackLimits_setFrames]; exact X.limits
  have hbyt : ((T.setVm s.vm).setFrames (.invoking m args :: below)).me.stackBytes = s.me.stackBytes := by rw [State.stackBytes_setFrames]; exact X.bytes
  refine ⟨X.admits, X.cas, X.clock, hF, ?_, X.hears, X.method, X.code, X.here, X.tail, X.warmed, ?_, ?_, ?_⟩
  · have hr := X.room
    have h1 := X.heapSize
    have h2 := X.used
    have h3 := X.book
    have hliu : ((T.setVm s.vm).setFrames (.invoking m args :: below)).localsInUse = s.localsInUse := by
      rw [State.localsInUse_invoking X.frames X.method X.code, State.localsInUse_invoking hF X.method X.code]
    simp only [State.hasRoom, Bool.and_eq_true, decide_eq_true_eq] at hr ⊢
    rw [hliu, hF, hlim, hbyt]
    rw [X.frames] at hr
    have e1 : ((T.setVm s.vm).setFrames (.invoking m args :: below)).heap = T.heap := rfl
    have e2 : ((T.setVm s.vm).setFrames (.invoking m args :: below)).slotsUsed = T.slotsUsed := rfl
    rw [e1, e2]
    refine ⟨⟨⟨hr.1.1.1, ?_⟩, ?_⟩, h3⟩
    · omega
    · omega
  · rw [hlim]; exact X.limits
  · rw [hbyt]; exact X.bytes
  · obtain ⟨th', hth', -⟩ := State.frames_cons hF
    have h' := (State.sameButNew.refl ((T.setVm s.vm).setFrames (.invoking m args :: below)) hth').setFrames T.frames (State.cur_lt_of_frames hF)
    rw [State.setFrames_setFrames] at h'
    have e3 : (T.setVm s.vm).setFrames T.frames = T.setVm s.vm := State.setFrames_self hth
    rw [e3] at h'
    exact h'
end HYN
end
section
/-! ROWS: throwing, being thrown at, catching -/
section HYT
variable {p : Program} {l : Launch} {e : Env} {R : Room} {s : State} {m : MethodId} {args : Array Value} {below : List Frame} {meth : Method} {c : Code} {H : Heap} {locs : List Loc} {cells slots : Nat} {Q : State → Prop}
variable {own : String} {cc : ByteArray} {nL : Nat} {ret : Option FieldType} {hh : List (Nat × Nat × Nat × Nat)} {G : hy_G} {A : Nat → Prop} {ad0 ad : Nat → Nat} {n0 : Nat} {w0 w w' : hy_W} {pc : Nat} {ls : Array Slot} {rest : List Value} {k a : Nat}
theorem hy_same0 {t : State} {k' n' : Nat} (h : s.sameButNew t [] k' n') : s.heap.size ≤ t.heap.size ∧ ∀ q : Nat, q < s.heap.size → t.heap[q]? = s.heap[q]? := by
  obtain ⟨-, h1, -, -, -, h5⟩ := h
  refine ⟨h1, fun q hq => ?_⟩
  have e0 : s.heap[q]? = some s.heap[q] := Array.getElem?_eq_getElem hq
  obtain ⟨c', e1, e2, e3, e4⟩ := h5 q _ e0
  have hs : c'.slots = s.heap[q].slots := Array.ext_getElem? fun i => e4 i (by simp)
  rw [e1, e0, e2, hs]
/-- a throw from a frame that has done nothing yet -/
theorem hy_throw0 (hx : p.tables.exec = Jvm.exec) (hb : c.code = cc) (htr : e.platform.stackTraces = false) (hown : s.vm.findClass own = some m.cls) {cls text : String} {names : List String} {ik is ic sa : Nat} (hcls : Bundle.fit cls = true) (hnames : ∀ n ∈ names, Bundle.fit n = true)
    (hk : (Cond.classLink own ik cls).before args s = true) (hini : (Cond.initialized cls).before args s = true) (hstr : vk_R own is text sa s) (hat : ∀ w ∈ Bundle.ownAtoms own ic cls names, w.before args s = true) (hsz : ls.size = c.maxLocals) (hout : c.exceptionTable.toList = [])
    (d0 : decode cc pc = .ok (.new ik, 3)) (d3 : decode cc (pc + 3) = .ok (.dup, 1)) (d4 : decode cc (pc + 4) = .ok (.ldc is, 2)) (d6 : decode cc (pc + 6) = .ok (.invokespecial ic, 3)) (d9 : decode cc (pc + 9) = .ok (.athrow, 1))
    (hfr : names.length + 3 < R.frames) (hlo : (rest.map fun v => v.category).sum + (13 * (names.length + 1) + 43) ≤ R.locals) (hc : 1 ≤ R.cells) (hs : 6 ≤ R.slots) (hlocks : meth.locks = false) :
    W p l e R s m args below meth c s.heap [] 0 0 (fun U => ∃ (a : Addr) (ce : Cell), U.status = .running ∧ Ended U below (.threw a) ∧ s.WarmedH U.vm ∧ s.sameButNew ({ U with vm := s.vm } : State) [] 1 6 ∧ U.heap[a]? = some ce ∧ ce.vm = .none ∧ s.vm.findClass cls = some ce.cls) (F0 m pc ls rest) := by
  refine W.newc hx hb hown hk (hat (.instantiable cls 6) (by simp [Bundle.ownAtoms])) hini rfl d0 (by omega) (by omega) (fun cX kX h1 h2 h3 h4 => ?_)
  refine lv_dup hx hb d3 rfl ?_
  refine va_ldcS hx hb hown hstr d4 ?_
  intro T hT X
  obtain ⟨U, q1, q2, q3, q4, q5, ce, q6, q7⟩ := X.ctorThrowS hx htr (own := own) (cls := cls) (names := names) (ic := ic) hown hcls hnames hat (fun x hx => nomatch hx) h1 h2 (a := s.heap.size) (by rw [hT]; exact Array.getElem?_push_size) (Nat.le_refl _) (msg := .ref sa) rfl
    (g := F0 m (pc + 6) ls (.ref sa :: .ref s.heap.size :: .ref s.heap.size :: rest)) rfl hsz rfl rfl (rest := rest) rfl (by rw [hb]; exact d6) (by rw [hb]; exact d9) (by rw [hout]; intro x hx; cases hx) hfr (by show 2 * 0 + ((Value.ref s.heap.size :: rest).map fun v => v.category).sum + _ ≤ _; rw [List.map_cons, List.sum_cons]; show 2 * 0 + (1 + _) + _ ≤ _; omega) hlocks
  exact ⟨U, q1, _, ce, q2, q3, q4, q5, q6, q7.vm, q7.cls⟩
theorem hy_th_spec (h : hy_th w = some w') : 1 ≤ w.2.1 ∧ 6 ≤ w.2.2 ∧ w' = (w.1, w.2.1 - 1, w.2.2 - 6) := by
  unfold hy_th at h
  split at h
  · rename_i hc
    exact ⟨hc.1, hc.2, (Option.some.inj h).symm⟩
  · cases h
theorem hy_L.kept {H1 : Heap} (h : hy_L G ad A w H) (hq : ∀ q : Nat, q < H.size → H1[q]? = H[q]?) {x : Nat × Nat} : hy_L G ad A (w.1, x) H1 :=
  ⟨h.1.kept (fun k q hk => hq q.1 (h.1 k q hk).lt), h.2⟩
/-- 'throw new E("text")' -/
theorem hy_throw {fr lo : Nat} (hA : hy_A G ad0 w0 s.heap.size = A) (B : hy_B p l e (hy_rm fr lo w0) s m args below meth c own cc nL ret [] G A) (S : hy_S G A (hy_rm fr lo w0) s ad0 w0.1.length ad w H locs cells slots) (hx : hy_th w = some w') {cls text : String} {names : List String} {ik is ic : Nat} (hcls : Bundle.fit cls = true) (hnames : ∀ n ∈ names, Bundle.fit n = true)
    (hk : Cond.classLink own ik cls ∈ hy_T) (hini : Cond.initialized cls ∈ hy_T) (hstr : (own, is, text) ∈ hy_LS) (hat : ∀ w ∈ Bundle.ownAtoms own ic cls names, w ∈ hy_T ∨ w ∈ hy_LN ∨ w ∈ hy_LX) (hsz : ls.size = nL)
    (d0 : decode cc pc = .ok (.new ik, 3)) (d3 : decode cc (pc + 3) = .ok (.dup, 1)) (d4 : decode cc (pc + 4) = .ok (.ldc is, 2)) (d6 : decode cc (pc + 6) = .ok (.invokespecial ic, 3)) (d9 : decode cc (pc + 9) = .ok (.athrow, 1))
    (hfr : names.length + 3 < fr) (hlo : (rest.map fun v => v.category).sum + (13 * (names.length + 1) + 43) ≤ lo) :
    W p l e (hy_rm fr lo w0) s m args below meth c H locs cells slots (hy_Q below G ad0 w0 (.inr cls, w') args s) (F0 m pc ls rest) := by
  intro T hT X
  obtain ⟨x1, x2, rfl⟩ := hy_th_spec hx
  have k1 := S.2.2.2.2.1
  have k2 := S.2.2.2.2.2
  have Y := hy_anew X (c' := 1) (n' := 6) (by show cells + 1 ≤ w0.2.1; have : cells + w.2.1 = w0.2.1 := k1; omega) (by show slots + 6 ≤ w0.2.2; have : slots + w.2.2 = w0.2.2 := k2; omega)
  have hE := B.2.2.2.2.2.2.2.2.2.1
  generalize hs1 : (T.setVm s.vm).setFrames (.invoking m args :: below) = s1 at Y
  have hvm : s1.vm = s.vm := by rw [← hs1]; rfl
  have hhp : s1.heap = H := by rw [← hs1]; exact hT
  have hW : s.WarmedH s1.vm := by rw [hvm]; exact State.WarmedH.refl s
  have hw9 := hy_word (a' := args) hW B.2.2.2.2.1
  obtain ⟨sa, hsa⟩ := hE.2.2.1 _ hstr
  have hout : c.exceptionTable.toList = [] := List.map_eq_nil_iff.mp B.2.2.2.2.2.2.2.1
  have hat' : ∀ w ∈ Bundle.ownAtoms own ic cls names, w.before args s1 = true := by
    intro w9 hw
    rcases hat w9 hw with h | h | h
    · exact hw9 _ h
    · exact va_Nw.use (hy_LN_on _ h) (hy_LN_warm _ h s s1 hW (hE.2.1 _ h))
    · exact hE.2.2.2.2.2.2.2.2 args s1 hW (fun q a b => by rw [hhp]; exact S.2.1.2.1 q a b) w9 h
  have key := hy_throw0 (p := p) (l := l) (e := e) (R := { frames := fr, locals := lo, cells := 1, slots := 6 }) (s := s1) (m := m) (args := args) (below := below) (meth := meth) (ls := ls) (rest := rest) B.1 B.2.1 B.2.2.2.2.2.2.2.2.2.2 (by rw [hvm]; exact B.2.2.2.1) hcls hnames (hw9 _ hk) (hw9 _ hini) (vk_R.warm hW hsa) hat' (by rw [B.2.2.1]; exact hsz) hout d0 d3 d4 d6 d9 hfr hlo (Nat.le_refl _) (Nat.le_refl _) B.2.2.2.2.2.2.1
  obtain ⟨U, q0, a9, ce, q1, q2, q3, q4, q5, q6, q7⟩ := key T (by rw [hhp]; exact hT) Y
  have hW2 : s.WarmedH U.vm := State.WarmedH.trans hW q3
  have hsm : (T.setVm s.vm).sameButNew ({ U with vm := s.vm } : State) [] 1 6 := by
    rw [← hs1] at q4
    obtain ⟨e1, e2⟩ := q4
    rw [State.setFrames_setFrames] at e1
    exact ⟨e1, e2⟩
  obtain ⟨g1, g2⟩ := hy_same0 hsm
  have g1' : H.size ≤ U.heap.size := by rw [← hT]; exact g1
  have g2' : ∀ q : Nat, q < H.size → U.heap[q]? = H[q]? := by rw [← hT]; exact g2
  have hall := X.same.trans hsm
  rw [List.append_nil] at hall
  refine ⟨U, q0, .threw a9, q1, q2, ad, locs, cells + 1, slots + 6, S.2.2.1, S.2.2.2.1, ?_, ?_, hW2, hall, ?_, ?_, ?_, a9, ce, rfl, q5, q6, by rw [← hvm]; exact q7⟩
  · rw [hA]; exact S.1.kept g2'
  · rw [hA]
    exact ⟨Nat.le_trans S.2.1.1 g1', fun q h1 h2 => (g2' q (Nat.lt_of_lt_of_le h1 S.2.1.1)).trans (S.2.1.2.1 q h1 h2)⟩
  · rw [hA]; exact S.2.1.2.2
  · show cells + 1 + (w.2.1 - 1) = w0.2.1
    have : cells + w.2.1 = w0.2.1 := k1
    omega
  · show slots + 6 + (w.2.2 - 6) = w0.2.2
    have : slots + w.2.2 = w0.2.2 := k2
    omega
/-- the method's frame g, with q thrown over it -/
def hy_WT (p : Program) (l : Launch) (e : Env) (R : Room) (s : State) (m : MethodId) (args : Array Value) (below : List Frame) (meth : Method) (c : Code) (H : Heap) (locs : List Loc) (cells slots : Nat) (Q : State → Prop) (g : JFrame) (q : Addr) : Prop :=
  ∀ T : State, T.heap = H → Stand p l e R s m args below meth c T locs cells slots → ∃ t, Steps p.tables e below ((T.setTop g).pushFrame (.throwing q)) t ∧ Q t
variable {y : MethodName} {bytes : ByteArray} {maxL fr lo index n : Nat} {rt : Option FieldType} {av : List Value} {E : String}
/-- a call of an instance method that throws -/
theorem hy_callT (B : hy_B p l e R s m args below meth c own cc nL ret hh G A) (S : hy_S G A R s ad0 n0 ad w H locs cells slots) {r b : Nat} {av' As : List Value} (hav' : av = .ref r :: av') (hb : ad r = b) (hAs : av'.map (hy_v ad) = As) (hM : hy_M l y (Cond.code y bytes maxL rt :: hy_T) fr lo G ad av w (.inr E, w')) (hav : ∀ v ∈ av, hy_cv w.1.length v) (hcode : Cond.code y bytes maxL rt ∈ hy_T) (hini : Cond.initialized y.cls ∈ hy_T) (hlink : Cond.methodLink own index y ∈ hy_T) (hinst : Cond.instanceMethod y ∈ hy_T) (hsel : Cond.selects y.cls y y ∈ hy_T)
    (hy : y.cls ≠ "java/lang/invoke/MethodHandle" ∧ y.cls ≠ "java/lang/invoke/VarHandle") (hd : (parseMethodDescriptor y.desc).map (fun d => d.parameters.length) = some As.length) (hfr : fr + 1 ≤ R.frames) (hlo : 8 + (maxL + 11) + lo ≤ R.locals) {ci : Nat} {fs : List Value} (hr : w.1[r]? = some (.inl (ci, fs))) (hr1 : 1 < r) {T9 : u_T} {N9 : Nat} (hc : hy_K[ci]? = some (y.cls, T9, N9)) (hsz : ls.size = nL) (hst : (rest.map fun v => v.category).sum ≤ 8) (hdg : decode cc pc = .ok (.invokevirtual index, 3))
    (kk : ∀ (ad1 : Nat → Nat) (H1 : Heap) (locs1 : List Loc) (cells1 slots1 : Nat) (q : Addr) (ce : Cell), (∀ j, j < w.1.length → ad1 j = ad j) → w.1.length ≤ w'.1.length → hy_S G A R s ad0 n0 ad1 w' H1 locs1 cells1 slots1 → H1[q]? = some ce → ce.vm = .none → s.vm.findClass E = some ce.cls → hy_WT p l e R s m args below meth c H1 locs1 cells1 slots1 Q (F0 m pc ls rest) q) :
    W p l e R s m args below meth c H locs cells slots Q (F0 m pc ls (As.reverse ++ .ref b :: rest)) := by
  intro T hT X
  obtain ⟨q, -, hq⟩ := hy_place (G := G) (ad := ad) hr1 hr
  obtain ⟨cellB, g1, g2, g3⟩ := va_recv (q := (y.cls, T9, N9)) B.2.2.2.2.2.2.2.2.2.1.1 S.1.1 hc hq
  subst hb hAs hav'
  have hts := B.2.2.2.2.1
  obtain ⟨mk, methM, hnamed, hmethM, hstM, habM⟩ := Cond.instanceMethod_spec (hts _ hinst)
  obtain ⟨methM', cM, hmethM', hcM, -, hlM, -, -, -, hsigM⟩ := Cond.code_spec hnamed (hts _ hcode)
  cases hmethM.symm.trans hmethM'
  obtain ⟨c2, r2, m2, q1, q2, q3, q4, kP, hkP, hkPi⟩ := Cond.selects_spec (hts _ hsel)
  cases g3.symm.trans q1
  cases (State.methodFound?_of_named hnamed hy).symm.trans q2
  cases hnamed.symm.trans q3
  have hselP : selectMethod e.platform s.vm cellB.cls mk = .method mk := by rw [Launch.admits_selectMethod X.admits]; exact q4
  obtain ⟨vm1, X1, hstep1⟩ := X.invokevirtual B.1 B.2.2.2.1 (hts _ hlink) hnamed hmethM hstM hkP hkPi hy (a := ad r) (cell := cellB) (by rw [hT]; exact g1)
    (fun z h => by rw [h] at g2; cases g2) hselP hmethM habM hkP hkPi (g := F0 m pc ls ((av'.map (hy_v ad)).reverse ++ .ref (ad r) :: rest)) rfl (argsL := av'.map (hy_v ad)) (rest := rest) (by rw [hsigM] at hd; exact (Option.some.inj hd).symm) rfl (by rw [B.2.1]; exact hdg)
  -- the callee, at the point behind the linking
  generalize hU : T.setVm vm1 = U at X1
  have hUh : U.heap = H := by rw [← hU]; exact hT
  generalize hg : (F0 m pc ls rest : JFrame) = g
  have hgm : g.method = m := by rw [← hg]
  have hgl : g.locals.size = c.maxLocals := by rw [← hg, B.2.2.1]; exact hsz
  have hnU := X1.named hnamed
  have hw9 : ∀ (a' : Array Value), ∀ w ∈ hy_T, w.before a' U = true := fun a' => hy_word (a' := a') X1.warmed hts
  generalize ha : (Value.ref (ad r) :: av'.map (hy_v ad)).toArray = a'
  obtain ⟨methY, cY, hmY, hcY, -, hlY, -, -, -, -⟩ := Cond.code_spec hnU (hw9 a' _ hcode)
  obtain ⟨kY, hkY, -⟩ := className_of_methodNamed hnU
  have hinitY : kY.init = .initialized := Cond.initialized_spec (findClass_of_methodNamed hnU) hkY (hw9 a' _ hini)
  have h : At U g.method c below := by rw [hgm]; exact X1.here
  have hdg' : decode c.code g.pc = .ok (.invokevirtual index, 3) := by rw [B.2.1, ← hg]; exact hdg
  have hroom := X1.room_calling (g := g) (m' := mk) (args' := a') (R' := hy_rm fr lo w) hgl hmY hcY hfr (by rw [hlY, ← hg]; show 2 * 0 + (rest.map fun v => v.category).sum + _ + lo ≤ _; omega) (by show cells + w.2.1 ≤ _; have := S.2.2.2.2.1; omega) (by show slots + w.2.2 ≤ _; have := S.2.2.2.2.2; omega)
  have happ : (headSpec (Cond.code y bytes maxL rt :: hy_T) (hy_rm fr lo w)).appliesLoose y e.platform (U.calling g mk a') = true :=
    Spec.appliesLoose_calling (g := g) h hdg' hnU hkY hinitY hroom (atoms_intro fun w9 hw => by
      rcases List.mem_cons.mp hw with z | z
      · rw [z]; exact hw9 a' _ hcode
      · exact hw9 a' _ z)
  obtain ⟨mid, hmid⟩ := h.above
  have hfr2 : (U.setTop g).frames = (.java g :: mid) ++ below := by rw [State.frames_setTop' g h.top, hmid]; rfl
  obtain ⟨o, s2, hsteps, -, hend, hq2⟩ := Steps.callFree hM p X1.admits X1.cas X1.clock (acts := []) hfr2 happ (hy_pre_now B S hav (U := U.calling g mk a') hUh X1.warmed ha.symm) trivial
  have hq3 : hy_post G ad (.ref r :: av' |> fun _ => w) (.inr E, w') a' (U.calling g mk a') o s2 := hq2
  rw [State.frames_setTop' g h.top] at hend
  obtain ⟨ad1, L, k', n', h1, h2, h3, h4, h5, h6, h7, h8, h9, q9, ce, rfl, z2, z3, z4⟩ := hq3
  obtain ⟨e2, y2, y3, y4, y5, y6⟩ := id h6
  have e3 : s2 = ({ (U.calling g mk a').setFrames s2.frames with heap := s2.heap, slotsUsed := s2.slotsUsed } : State).setVm s2.vm := by
    have : s2 = ({ s2 with vm := (U.calling g mk a').vm } : State).setVm s2.vm := rfl
    rw [e2] at this
    exact this
  have hW' : U.WarmedH s2.vm := h5
  have hf2 : s2.frames = .throwing q9 :: .java g :: U.frames.tail := hend
  obtain ⟨g0, hg0⟩ := Option.isSome_iff_exists.mp h.top
  obtain ⟨r0, hr0⟩ := State.topJava?_eq_some.mp hg0
  have hs2 : s2 = ((({ U with heap := s2.heap, slotsUsed := s2.slotsUsed } : State).setVm s2.vm).setTop g).pushFrame (.throwing q9) := by
    have hr' : (({ U with heap := s2.heap, slotsUsed := s2.slotsUsed } : State).setVm s2.vm).frames = .java g0 :: r0 := hr0
    refine e3.trans ?_
    rw [hf2, State.calling_eq h.top, State.setFrames_setFrames, State.pushFrame, State.frames_setTop _ hr', State.setTop_of_frames _ hr', State.setFrames_setFrames, hr0]
    rfl
  have hsame : U.sameButNew ({ U with heap := s2.heap, slotsUsed := s2.slotsUsed } : State) L k' n' := by
    refine ⟨?_, y2, y3, y4, y5, y6⟩
    obtain ⟨t, ht, -⟩ := State.frames_cons hr0
    show ({ U with heap := s2.heap, slotsUsed := s2.slotsUsed } : State) = { U.setFrames U.frames with heap := s2.heap, slotsUsed := s2.slotsUsed }
    rw [State.setFrames_self ht]
  have hS1 := hy_behind B S (st := U.calling g mk a') (t := s2) hUh h1 h2 h3 h4 h7 h8 h9
  have X2 : Stand p l e R s m args below meth c (({ U with heap := s2.heap, slotsUsed := s2.slotsUsed } : State).setVm s2.vm) (locs ++ L) (cells + k') (slots + n') :=
    ⟨X1.admits, X1.cas, X1.clock, X1.frames, X1.room, X1.hears, X1.method, X1.code, (X1.here.setHeapUsed s2.heap s2.slotsUsed).setVm hW'.alike, X1.tail, State.WarmedH.trans X1.warmed hW', X1.limits, X1.bytes, X1.same.trans (hsame.setVm s.vm)⟩
  have hcl : s.vm.findClass E = some ce.cls := by
    have : U.vm.findClass E = some ce.cls := z4
    rw [X1.warmed.alike.findClass] at this
    exact this
  obtain ⟨t, b1, b2⟩ := kk ad1 s2.heap (locs ++ L) (cells + k') (slots + n') q9 ce h1 h2 hS1 z2 z3 hcl (({ U with heap := s2.heap, slotsUsed := s2.slotsUsed } : State).setVm s2.vm) rfl X2
  refine ⟨t, hstep1 t (fun acts => ?_), b2⟩
  rw [doInvoke_state]
  have hgg : ({ (F0 m pc ls ((av'.map (hy_v ad)).reverse ++ .ref (ad r) :: rest) : JFrame) with stack := rest } : JFrame) = g := hg
  rw [hgg, hU, ha]
  refine Steps.trans hsteps ?_
  rw [hs2, ← hg]
  exact b1
end HYT
end
section
/-! ROWS: catching by a row of the method's own table; not caught -/
section HYX
variable {p : Program} {l : Launch} {e : Env} {R : Room} {s : State} {m : MethodId} {args : Array Value} {below : List Frame} {meth : Method} {c : Code} {H : Heap} {locs : List Loc} {cells slots : Nat} {Q : State → Prop}
variable {own : String} {cc : ByteArray} {nL : Nat} {ret : Option FieldType} {hh : List (Nat × Nat × Nat × Nat)} {G : hy_G} {A : Nat → Prop} {ad0 ad : Nat → Nat} {n0 : Nat} {w0 w w' : hy_W} {pc : Nat} {ls : Array Slot} {rest : List Value} {k a : Nat}
/-- looking at one row that names a class: the class is linked; does it take the object? -/
theorem hy_row {S : State} {f : JFrame} {x : ExceptionTableEntry} {xs : List ExceptionTableEntry} {cT : ClassId} {ce : Cell} (hx : covers x f.pc = true) (h0 : x.catchType ≠ 0) (hl : S.vm.ClassLinks e.platform f.method.cls x.catchType cT) (hce : S.heap[a]? = some ce) (hv : ce.vm = .none)
    (hk : ∃ k, S.vm.classes[ce.cls]? = some k) (hT : ∃ k, S.vm.classes[cT]? = some k) (E : CtlPost) (K : Handler → Pre) (d : Bool) (acts : List Action) :
    wp (findHandler.go f a (x :: xs)) K E e d acts S ↔ (if S.vm.assignable ce.cls cT = true then K (.found x.handlerPc) d acts (S.setVm (S.vm.noted f.method.cls x.catchType (.cls cT))) else wp (findHandler.go f a xs) K E e d acts (S.setVm (S.vm.noted f.method.cls x.catchType (.cls cT)))) := by
  simp only [covers] at hx
  have hal : S.vm.Alike (S.vm.noted f.method.cls x.catchType (.cls cT)) := (Vm.Alike.refl S.vm).noted _ _ _
  obtain ⟨r1, r2⟩ := (resolveClass_links e.toSetting hl).op (op := VmOp.resolveClass f.method.cls x.catchType) rfl
  obtain ⟨_, hk⟩ := hk
  obtain ⟨_, hT⟩ := hT
  obtain ⟨_, hk', -⟩ := hal.2.2 _ _ hk
  obtain ⟨_, hT', -⟩ := hal.2.2 _ _ hT
  have ho : ∀ k, ce.vm ≠ .statics k := fun k h => by rw [hv] at h; cases h
  by_cases hf : S.vm.assignable ce.cls cT = true
  · have hf' : (S.vm.noted f.method.cls x.catchType (.cls cT)).assignable ce.cls cT = true := by rw [hal.assignable]; exact hf
    simp [findHandler.go, hx, h0, r1, r2, hce, ho, hk', hT', hf, hf', VmOp.dirties, VmOp.acts]
  · have hf' : (S.vm.noted f.method.cls x.catchType (.cls cT)).assignable ce.cls cT = false := by rw [hal.assignable]; exact Bool.eq_false_iff.mpr hf
    simp [findHandler.go, hx, h0, r1, r2, hce, ho, hk', hT', hf, hf', VmOp.dirties, VmOp.acts]
/-- the search ends at a row: the walk goes on at its handler -/
theorem hy_into {T : State} {g : JFrame} {q : Addr} {hp : Nat} {vm1 : Vm} (X : Stand p l e R s m args below meth c T locs cells slots) (hg : g.method = m) (hW : s.WarmedH vm1)
    (hf : ∀ (K : Handler → Pre) (E : CtlPost) (d : Bool) (acts : List Action), wp (findHandler.go g q c.exceptionTable.toList) K E e d acts ((T.setTop g).pushFrame (.throwing q)) ↔ K (.found hp) d acts (((T.setTop g).pushFrame (.throwing q)).setVm vm1)) {target : State}
    (hrest : Steps p.tables e below ((T.setVm vm1).setTop { g with pc := hp, stack := [.ref q] }) target) : Steps p.tables e below ((T.setTop g).pushFrame (.throwing q)) target := by
  have h : At T g.method c below := by rw [hg]; exact X.here
  obtain ⟨hgo, hw⟩ := h.throwing q
  have hm' : ((T.setTop g).pushFrame (.throwing q)).vm.method? g.method = some meth := by rw [hg]; exact X.method'
  refine Steps.head hgo hw ?_
  obtain ⟨g0, hg0⟩ := Option.isSome_iff_exists.mp h.top
  obtain ⟨r, hr⟩ := State.topJava?_eq_some.mp hg0
  have hst : (stepThrowing e ((T.setTop g).pushFrame (.throwing q)) q (.java g :: T.frames.tail)).Is ((((T.setTop g).pushFrame (.throwing q)).setVm vm1).setFrames (.java { g with pc := hp, stack := [.ref q] } :: T.frames.tail)) [] := by
    simp only [stepThrowing, searchFrame, vmDo]
    generalize hres : Sem.go _ e false [] ((T.setTop g).pushFrame (.throwing q)) = res
    obtain ⟨as, rfl, ha⟩ := Sem.eq_ok_of hres (a := Handler.found hp) (s' := ((T.setTop g).pushFrame (.throwing q)).setVm vm1) (acts' := []) (by simp [Jvm.W.findHandler_eq hm' X.code, hf _ _ _ _])
    exact ⟨rfl, ha⟩
  rw [stepThread_throwing (frames_entered h.top _), hst.1]
  have hr' : (T.setVm vm1).frames = .java g0 :: r := hr
  have e1 : ∀ (u : State) (F F' : List Frame), ((u.setFrames F).setVm vm1).setFrames F' = (u.setVm vm1).setFrames F' := fun u F F' => by
    have z : (u.setFrames F).setVm vm1 = (u.setVm vm1).setFrames F := rfl
    rw [z, State.setFrames_setFrames]
  rw [State.setTop_of_frames _ hr'] at hrest
  rw [hr, List.tail_cons, State.pushFrame, e1, State.setTop_of_frames _ hr, e1]
  exact hrest
theorem hy_tab1 {x1 x2 x3 x4 : Nat} {L : List (Nat × Nat × Nat × Nat)} {es : List ExceptionTableEntry} (h : es.map (fun h => (h.startPc, h.endPc, h.handlerPc, h.catchType)) = (x1, x2, x3, x4) :: L) : ∃ ts, es = ⟨x1, x2, x3, x4⟩ :: ts ∧ ts.map (fun h => (h.startPc, h.endPc, h.handlerPc, h.catchType)) = L := by
  cases es with
  | nil => cases h
  | cons y ys =>
    rw [List.map_cons] at h
    obtain ⟨h1, h2⟩ := List.cons.inj h
    cases h1
    exact ⟨ys, rfl, h2⟩
/-- the first row takes it -/
theorem hy_catch1 {x1 x2 x3 x4 : Nat} {L : List (Nat × Nat × Nat × Nat)} (B : hy_B p l e R s m args below meth c own cc nL ret ((x1, x2, x3, x4) :: L) G A) {E name : String} {ce : Cell} {q : Addr} (h1 : x1 ≤ pc) (h2 : pc < x2) (h0 : x4 ≠ 0) (hlink : Cond.classLink own x4 name ∈ hy_T) (hcast : Cond.castable E name ∈ hy_LN) (hcell : H[q]? = some ce) (hv : ce.vm = .none) (hcl : s.vm.findClass E = some ce.cls)
    (kk : W p l e R s m args below meth c H locs cells slots Q (F0 m x3 ls [.ref q])) : hy_WT p l e R s m args below meth c H locs cells slots Q (F0 m pc ls rest) q := by
  intro T hT X
  have hpl : e.platform.magicAccessors = ({} : Platform).magicAccessors := by rw [X.admits.platform]
  obtain ⟨ts, hts, -⟩ := hy_tab1 B.2.2.2.2.2.2.2.1
  obtain ⟨c3, c4, hc3, hc4, hasg⟩ := Cond.castable_spec (va_Nw.use (A := args) rfl (B.2.2.2.2.2.2.2.2.2.1.2.1 _ hcast))
  cases hc3.symm.trans hcl
  obtain ⟨c5, hc5, hcl5⟩ := Cond.classLink_spec B.2.2.2.1 (B.2.2.2.2.1 _ hlink) e.platform hpl
  cases hc4.symm.trans hc5
  obtain ⟨dk, _, _, kt, hd, _, _, _, _, hkt, _, hopen⟩ := hcl5.here
  obtain ⟨k9, hk9, -⟩ := Vm.findClass_spec hcl
  obtain ⟨k9', hk9', -⟩ := X.warmed.alike.2.2 _ _ hk9
  obtain ⟨kt', hkt', -⟩ := X.warmed.alike.2.2 _ _ hkt
  have hW' : s.WarmedH (T.vm.noted m.cls x4 (.cls c4)) := X.warmed.noted hd hopen (State.rightAt_cls hcl5)
  obtain ⟨t, b1, b2⟩ := kk (T.setVm (T.vm.noted m.cls x4 (.cls c4))) hT (X.noted hW')
  refine ⟨t, hy_into X rfl hW' (fun K E9 d acts => ?_) b1, b2⟩
  rw [hts]
  have hvm : ((T.setTop (F0 m pc ls rest)).pushFrame (.throwing q)).vm = T.vm := Stand.throwing_vm T _ q
  have hhp : ((T.setTop (F0 m pc ls rest)).pushFrame (.throwing q)).heap = T.heap := Stand.throwing_heap T _ q
  rw [hy_row (x := ⟨x1, x2, x3, x4⟩) (cT := c4) (ce := ce) (by simp [covers, h1, h2]) h0 (by rw [hvm]; exact X.warmed.classLinks hcl5) (by rw [hhp, hT]; exact hcell) hv (by rw [hvm]; exact ⟨k9', hk9'⟩) (by rw [hvm]; exact ⟨kt', hkt'⟩), hvm, if_pos (by rw [X.warmed.alike.assignable]; exact hasg)]
/-- the first row names another class, the second takes it -/
theorem hy_catch2 {x1 x2 x3 x4 z1 z2 z3 z4 : Nat} {L : List (Nat × Nat × Nat × Nat)} (B : hy_B p l e R s m args below meth c own cc nL ret ((x1, x2, x3, x4) :: (z1, z2, z3, z4) :: L) G A) {E name nam0 : String} {ce : Cell} {q : Addr} (g1 : x1 ≤ pc) (g2 : pc < x2) (g0 : x4 ≠ 0) (hlink0 : Cond.classLink own x4 nam0 ∈ hy_T) (hno : va_Nc E nam0 s)
    (h1 : z1 ≤ pc) (h2 : pc < z2) (h0 : z4 ≠ 0) (hlink : Cond.classLink own z4 name ∈ hy_T) (hcast : Cond.castable E name ∈ hy_LN) (hcell : H[q]? = some ce) (hv : ce.vm = .none) (hcl : s.vm.findClass E = some ce.cls)
    (kk : W p l e R s m args below meth c H locs cells slots Q (F0 m z3 ls [.ref q])) : hy_WT p l e R s m args below meth c H locs cells slots Q (F0 m pc ls rest) q := by
  intro T hT X
  have hpl : e.platform.magicAccessors = ({} : Platform).magicAccessors := by rw [X.admits.platform]
  obtain ⟨ts, hts, htl⟩ := hy_tab1 B.2.2.2.2.2.2.2.1
  obtain ⟨us, hus, -⟩ := hy_tab1 htl
  obtain ⟨c3, c4, hc3, hc4, hasg⟩ := Cond.castable_spec (va_Nw.use (A := args) rfl (B.2.2.2.2.2.2.2.2.2.1.2.1 _ hcast))
  cases hc3.symm.trans hcl
  obtain ⟨n1, n2, hn1, hn2, hn3⟩ := hno
  cases hn1.symm.trans hcl
  obtain ⟨c5, hc5, hcl5⟩ := Cond.classLink_spec B.2.2.2.1 (B.2.2.2.2.1 _ hlink) e.platform hpl
  cases hc4.symm.trans hc5
  obtain ⟨c6, hc6, hcl6⟩ := Cond.classLink_spec B.2.2.2.1 (B.2.2.2.2.1 _ hlink0) e.platform hpl
  cases hn2.symm.trans hc6
  obtain ⟨dk, _, _, kt, hd, _, _, _, _, hkt, _, hopen⟩ := hcl5.here
  obtain ⟨dk6, _, _, kt6, hd6, _, _, _, _, hkt6, _, hopen6⟩ := hcl6.here
  obtain ⟨k9, hk9, -⟩ := Vm.findClass_spec hcl
  have hW1 : s.WarmedH (T.vm.noted m.cls x4 (.cls n2)) := X.warmed.noted hd6 hopen6 (State.rightAt_cls hcl6)
  have hW2 : s.WarmedH ((T.vm.noted m.cls x4 (.cls n2)).noted m.cls z4 (.cls c4)) := hW1.noted hd hopen (State.rightAt_cls hcl5)
  obtain ⟨k9', hk9', -⟩ := X.warmed.alike.2.2 _ _ hk9
  obtain ⟨kt6', hkt6', -⟩ := X.warmed.alike.2.2 _ _ hkt6
  obtain ⟨k9b, hk9b, -⟩ := hW1.alike.2.2 _ _ hk9
  obtain ⟨ktb, hktb, -⟩ := hW1.alike.2.2 _ _ hkt
  obtain ⟨t, b1, b2⟩ := kk (T.setVm ((T.vm.noted m.cls x4 (.cls n2)).noted m.cls z4 (.cls c4))) hT (X.noted hW2)
  refine ⟨t, hy_into X rfl hW2 (fun K E9 d acts => ?_) b1, b2⟩
  rw [hts, hus]
  have hvm : ((T.setTop (F0 m pc ls rest)).pushFrame (.throwing q)).vm = T.vm := Stand.throwing_vm T _ q
  have hhp : ((T.setTop (F0 m pc ls rest)).pushFrame (.throwing q)).heap = T.heap := Stand.throwing_heap T _ q
  rw [hy_row (x := ⟨x1, x2, x3, x4⟩) (cT := n2) (ce := ce) (by simp [covers, g1, g2]) g0 (by rw [hvm]; exact X.warmed.classLinks hcl6) (by rw [hhp, hT]; exact hcell) hv (by rw [hvm]; exact ⟨k9', hk9'⟩) (by rw [hvm]; exact ⟨kt6', hkt6'⟩), hvm, if_neg (by rw [X.warmed.alike.assignable, hn3]; decide)]
  exact hy_row (S := ((T.setTop (F0 m pc ls rest)).pushFrame (.throwing q)).setVm (T.vm.noted m.cls x4 (.cls n2))) (x := ⟨z1, z2, z3, z4⟩) (cT := c4) (ce := ce) (by simp [covers, h1, h2]) h0 (hW1.classLinks hcl5) (by show ((T.setTop (F0 m pc ls rest)).pushFrame (.throwing q)).heap[q]? = _; rw [hhp, hT]; exact hcell) hv ⟨k9b, hk9b⟩ ⟨ktb, hktb⟩ E9 K d acts |>.trans (by
    have hz : (((T.setTop (F0 m pc ls rest)).pushFrame (.throwing q)).setVm (T.vm.noted m.cls x4 (.cls n2))).vm.assignable ce.cls c4 = true := by
      show (T.vm.noted m.cls x4 (.cls n2)).assignable ce.cls c4 = true
      rw [hW1.alike.assignable]; exact hasg
    rw [if_pos hz]
    exact Iff.rfl)
/-- not caught here: it goes on to the caller -/
theorem hy_out {fr lo : Nat} {E : String} {ce : Cell} {q : Addr} (hA : hy_A G ad0 w0 s.heap.size = A) (B : hy_B p l e (hy_rm fr lo w0) s m args below meth c own cc nL ret [] G A) (S : hy_S G A (hy_rm fr lo w0) s ad0 w0.1.length ad w H locs cells slots) (hcell : H[q]? = some ce) (hv : ce.vm = .none) (hcl : s.vm.findClass E = some ce.cls) :
    hy_WT p l e (hy_rm fr lo w0) s m args below meth c H locs cells slots (hy_Q below G ad0 w0 (.inr E, w) args s) (F0 m pc ls rest) q := by
  intro T hT X
  have hout : c.exceptionTable.toList = [] := List.map_eq_nil_iff.mp B.2.2.2.2.2.2.2.1
  obtain ⟨z1, z2, z3, z4, z5⟩ := X.leaveThrown q (g := F0 m pc ls rest) rfl rfl rfl (by rw [hout]; intro x hx; cases hx) B.2.2.2.2.2.2.1
  have hh9 : (T.setFrames (.throwing q :: below)).heap = H := hT
  refine ⟨_, z1, .threw q, z2, z3, ad, locs, cells, slots, S.2.2.1, S.2.2.2.1, ?_, ?_, z4, z5, ?_, S.2.2.2.2.1, S.2.2.2.2.2, q, ce, rfl, by rw [hh9]; exact hcell, hv, hcl⟩
  · rw [hA, hh9]; exact S.1
  · rw [hA]; exact S.2.1.F hh9
  · rw [hA]; exact S.2.1.2.2
end HYX
end
section
/-! ROWS: new arrays, statics, comparisons of references, copies, casts -/
def hy_d (t : Nat) : Value := match t with
  | 0 => .int 0
  | 1 => .long 0
  | _ => .null
/-- a new array of kind t with i places -/
def hy_na (w : hy_W) (t : Nat) (i : Int32) : Option hy_W := if 0 ≤ i ∧ i.toNatClampNeg ≤ 65536 then hy_nw w (.inr (t, List.replicate i.toNatClampNeg (hy_d t))) i.toNatClampNeg else none
/-- the clone of an array of ints -/
def hy_cn (w : hy_W) (k : Nat) : Option hy_W := match w.1[k]? with
  | some (.inr (0, es)) => if 1 < k then hy_nw w (.inr (0, es)) es.length else none
  | _ => none
def hy_cp (es fs : List Value) (a b n : Nat) : List Value := fs.take b ++ ((es.drop a).take n ++ fs.drop (b + n))
/-- every element is null or a Rule -/
def hy_ru (w : hy_W) (es : List Value) : Bool := es.all fun v => match v with
  | .null => true
  | .ref r => (match w.1[r]? with
    | some (.inl (4, _)) => decide (1 < r)
    | _ => false)
  | _ => false
/-- System.arraycopy between two arrays of kind t (0, or 3 with Rules in it) -/
def hy_ac (w : hy_W) (t k1 k2 : Nat) (sp dp n : Int32) : Option hy_W := match w.1[k1]?, w.1[k2]? with
  | some (.inr (t1, es)), some (.inr (t2, fs)) =>
    if t1 = t ∧ t2 = t ∧ 1 < k1 ∧ 1 < k2 ∧ 0 ≤ sp ∧ 0 ≤ dp ∧ 0 ≤ n ∧ sp.toNatClampNeg + n.toNatClampNeg ≤ es.length ∧ dp.toNatClampNeg + n.toNatClampNeg ≤ fs.length ∧ (t = 3 → hy_ru w es = true) then some (w.1.set k2 (.inr (t, hy_cp es fs sp.toNatClampNeg dp.toNatClampNeg n.toNatClampNeg)), w.2) else none
  | _, _ => none
theorem hy_cp_len {es fs : List Value} {a b n : Nat} (h1 : a + n ≤ es.length) (h2 : b + n ≤ fs.length) : (hy_cp es fs a b n).length = fs.length := by
  simp [hy_cp]; omega
theorem hy_cp_get {α : Type} (g : Value → α) {es fs : List Value} {a b n : Nat} (h1 : a + n ≤ es.length) (h2 : b + n ≤ fs.length) : (fun j => g ((hy_cp es fs a b n).getD j .null)) = va_cpy (fun j => g (es.getD j .null)) (fun j => g (fs.getD j .null)) a b n := by
  funext j
  unfold va_cpy
  by_cases c1 : j < b
  · rw [if_neg (by omega)]
    congr 1
    rw [List.getD_eq_getElem?_getD, List.getD_eq_getElem?_getD, hy_cp, List.getElem?_append_left (by simp; omega), List.getElem?_take, if_pos c1]
  · by_cases c2 : j < b + n
    · rw [if_pos ⟨by omega, c2⟩]
      congr 1
      have e1 : (fs.take b).length = b := by simp; omega
      have e2 : ((es.drop a).take n).length = n := by simp; omega
      rw [List.getD_eq_getElem?_getD, List.getD_eq_getElem?_getD, hy_cp, List.getElem?_append_right (by omega), e1, List.getElem?_append_left (by omega), List.getElem?_take, if_pos (by omega), List.getElem?_drop]
    · rw [if_neg (by omega)]
      congr 1
      have e1 : (fs.take b).length = b := by simp; omega
      have e2 : ((es.drop a).take n).length = n := by simp; omega
      rw [List.getD_eq_getElem?_getD, List.getD_eq_getElem?_getD, hy_cp, List.getElem?_append_right (by omega), e1, List.getElem?_append_right (by omega), e2, List.getElem?_drop, show b + n + (j - b - n) = j by omega]
section HYM
variable {p : Program} {l : Launch} {e : Env} {R : Room} {s : State} {m : MethodId} {args : Array Value} {below : List Frame} {meth : Method} {c : Code} {H : Heap} {locs : List Loc} {cells slots : Nat} {Q : State → Prop}
variable {own : String} {cc : ByteArray} {nL : Nat} {ret : Option FieldType} {hh : List (Nat × Nat × Nat × Nat)} {G : hy_G} {A : Nat → Prop} {ad0 ad : Nat → Nat} {n0 : Nat} {w0 w w' : hy_W} {pc : Nat} {ls : Array Slot} {rest : List Value} {k a : Nat}
theorem hy_na_spec {t : Nat} {i : Int32} (h : hy_na w t i = some w') : 0 ≤ i ∧ i.toNatClampNeg ≤ 65536 ∧ hy_nw w (.inr (t, List.replicate i.toNatClampNeg (hy_d t))) i.toNatClampNeg = some w' := by
  unfold hy_na at h
  split at h
  · rename_i hc
    exact ⟨hc.1, hc.2, h⟩
  · cases h
theorem hy_rep (n : Nat) (v : Value) (j : Nat) : (List.replicate n v).getD j .null = v ∨ (List.replicate n v).getD j .null = .null := by
  rw [List.getD_eq_getElem?_getD, List.getElem?_replicate]
  split
  · exact Or.inl rfl
  · exact Or.inr rfl
theorem hy_newi (B : hy_B p l e R s m args below meth c own cc nL ret hh G A) (S : hy_S G A R s ad0 n0 ad w H locs cells slots) {i : Int32} (hx : hy_na w 0 i = some w') (hdg : decode cc pc = .ok (.newarray .int, 2))
    (kk : ∀ (ad1 : Nat → Nat) (q : Nat) (H1 : Heap) (slots1 : Nat), (∀ j, j < w.1.length → ad1 j = ad j) → ad1 w.1.length = q → hy_S G A R s ad0 n0 ad1 w' H1 locs (cells + 1) slots1 → w'.1.length = w.1.length + 1 → W p l e R s m args below meth c H1 locs (cells + 1) slots1 Q (F0 m (pc + 2) ls (.ref q :: rest))) : W p l e R s m args below meth c H locs cells slots Q (F0 m pc ls (.int i :: rest)) := by
  obtain ⟨y1, y2, hn⟩ := hy_na_spec hx
  obtain ⟨x1, x2, e0⟩ := hy_nw_spec hn
  have hK := B.2.2.2.2.2.2.2.2.2.1.1
  have hz : ∀ j, hy_oi ((List.replicate i.toNatClampNeg (hy_d 0)).getD j .null) = 0 := fun j => by rcases hy_rep i.toNatClampNeg (hy_d 0) j with h | h <;> rw [h] <;> rfl
  refine va_newa (D := G.1) (atype := .int) (a0 := (i.toNatClampNeg, .inl (fun j => hy_oi ((List.replicate i.toNatClampNeg (hy_d 0)).getD j .null)))) B.1 B.2.1 (B.2.2.2.2.1 _ tw_56) rfl hK S.1.1 S.1.2.1 S.2.1 B.2.2.2.2.2.2.2.2.1 (N' := i.toNatClampNeg) (fun cA => by rw [vp_cell_i]; simp only [hz]; rfl) (Int32.not_lt.mpr y1) rfl (by show i.toNatClampNeg * 4 ≤ _; omega) (by have := S.2.2.2.2.1; omega) (by have := S.2.2.2.2.2; omega) hdg (fun q cA H1 hK1 hP hD hS => ?_)
  have ec : cA = G.2.1 0 := by
    have h1 : s.vm.findClass ("[" ++ FieldType.int.toString) = some cA := (hK1.2 4 _ rfl).2
    have h2 : s.vm.findClass ("[" ++ FieldType.int.toString) = some (G.2.1 0) := (hK.2 0 _ rfl).2
    exact Option.some.inj (h1.symm.trans h2)
  subst ec
  exact kk (va_up ad w.1.length q) q H1 _ (fun j hj => va_up_ne ad q (by omega)) (va_up_self ad _ q) (S.push hn (fun v hv k e => by rw [List.eq_of_mem_replicate hv] at e; cases e) (by show (Sum.inl (G.2.1 0, (List.replicate _ _).length, _) : va_E) = _; rw [List.length_replicate]; rfl) hP hD hS) (by rw [e0]; simp)
theorem hy_newl (B : hy_B p l e R s m args below meth c own cc nL ret hh G A) (S : hy_S G A R s ad0 n0 ad w H locs cells slots) {i : Int32} (hx : hy_na w 1 i = some w') (hdg : decode cc pc = .ok (.newarray .long, 2))
    (kk : ∀ (ad1 : Nat → Nat) (q : Nat) (H1 : Heap) (slots1 : Nat), (∀ j, j < w.1.length → ad1 j = ad j) → ad1 w.1.length = q → hy_S G A R s ad0 n0 ad1 w' H1 locs (cells + 1) slots1 → w'.1.length = w.1.length + 1 → W p l e R s m args below meth c H1 locs (cells + 1) slots1 Q (F0 m (pc + 2) ls (.ref q :: rest))) : W p l e R s m args below meth c H locs cells slots Q (F0 m pc ls (.int i :: rest)) := by
  obtain ⟨y1, y2, hn⟩ := hy_na_spec hx
  obtain ⟨x1, x2, e0⟩ := hy_nw_spec hn
  have hK := B.2.2.2.2.2.2.2.2.2.1.1
  have hz : ∀ j, hy_ol ((List.replicate i.toNatClampNeg (hy_d 1)).getD j .null) = 0 := fun j => by rcases hy_rep i.toNatClampNeg (hy_d 1) j with h | h <;> rw [h] <;> rfl
  refine va_newa (D := G.1) (atype := .long) (a0 := (i.toNatClampNeg, .inr (.inl (fun j => hy_ol ((List.replicate i.toNatClampNeg (hy_d 1)).getD j .null))))) B.1 B.2.1 (B.2.2.2.2.1 _ tw_906) rfl hK S.1.1 S.1.2.1 S.2.1 B.2.2.2.2.2.2.2.2.1 (N' := i.toNatClampNeg) (fun cA => by rw [vp_cell_l]; simp only [hz]; rfl) (Int32.not_lt.mpr y1) rfl (by show i.toNatClampNeg * 8 ≤ _; omega) (by have := S.2.2.2.2.1; omega) (by have := S.2.2.2.2.2; omega) hdg (fun q cA H1 hK1 hP hD hS => ?_)
  have ec : cA = G.2.1 1 := by
    have h1 : s.vm.findClass ("[" ++ FieldType.long.toString) = some cA := (hK1.2 4 _ rfl).2
    have h2 : s.vm.findClass ("[" ++ FieldType.long.toString) = some (G.2.1 1) := (hK.2 1 _ rfl).2
    exact Option.some.inj (h1.symm.trans h2)
  subst ec
  exact kk (va_up ad w.1.length q) q H1 _ (fun j hj => va_up_ne ad q (by omega)) (va_up_self ad _ q) (S.push hn (fun v hv k e => by rw [List.eq_of_mem_replicate hv] at e; cases e) (by show (Sum.inl (G.2.1 1, (List.replicate _ _).length, _) : va_E) = _; rw [List.length_replicate]; rfl) hP hD hS) (by rw [e0]; simp)
theorem hy_newq (B : hy_B p l e R s m args below meth c own cc nL ret hh G A) (S : hy_S G A R s ad0 n0 ad w H locs cells slots) {t : Nat} {i : Int32} (hx : hy_na w t i = some w') {C : String} {index : Nat} (ht1 : 1 < t) (ht : (hy_tys G.2.1)[t]? = some (G.2.1 t, .object C)) (hcl : Cond.classLink own index C ∈ hy_T) (hao : va_AO C s) (hdg : decode cc pc = .ok (.anewarray index, 3))
    (kk : ∀ (ad1 : Nat → Nat) (q : Nat) (H1 : Heap) (slots1 : Nat), (∀ j, j < w.1.length → ad1 j = ad j) → ad1 w.1.length = q → hy_S G A R s ad0 n0 ad1 w' H1 locs (cells + 1) slots1 → w'.1.length = w.1.length + 1 → W p l e R s m args below meth c H1 locs (cells + 1) slots1 Q (F0 m (pc + 3) ls (.ref q :: rest))) : W p l e R s m args below meth c H locs cells slots Q (F0 m pc ls (.int i :: rest)) := by
  obtain ⟨y1, y2, hn⟩ := hy_na_spec hx
  obtain ⟨x1, x2, e0⟩ := hy_nw_spec hn
  have hK := B.2.2.2.2.2.2.2.2.2.1.1
  have hd : hy_d t = .null := by
    match t, ht1 with
    | t + 2, _ => rfl
  have hz : ∀ (f : Nat → Nat) (j : Nat), hy_or f ((List.replicate i.toNatClampNeg (hy_d t)).getD j .null) = none := fun f j => by rw [hd]; rcases hy_rep i.toNatClampNeg .null j with h | h <;> rw [h] <;> rfl
  refine va_newq (D := G.1) B.1 B.2.1 B.2.2.2.1 (B.2.2.2.2.1 _ hcl) hao hK S.1.1 S.1.2.1 S.2.1 B.2.2.2.2.2.2.2.2.1 (N' := i.toNatClampNeg) (Int32.not_lt.mpr y1) rfl (by omega) (by have := S.2.2.2.2.1; omega) (by have := S.2.2.2.2.2; omega) hdg (fun q cA H1 hK1 hP hD hS => ?_)
  have ec : cA = G.2.1 t := by
    obtain ⟨-, -, -, -, -, h1⟩ := (hK1.2 4 _ rfl).2
    obtain ⟨-, -, -, -, -, h2⟩ := (hK.2 t _ ht).2
    exact Option.some.inj (h1.symm.trans h2)
  subst ec
  exact kk (va_up ad w.1.length q) q H1 _ (fun j hj => va_up_ne ad q (by omega)) (va_up_self ad _ q) (S.push hn (fun v hv k e => by rw [List.eq_of_mem_replicate hv, hd] at e; cases e) (by rw [hy_e_q ht1, List.length_replicate]; simp only [hz]) hP hD hS) (by rw [e0]; simp)
/-- ArrayList's own empty array -/
theorem hy_gets (B : hy_B p l e R s m args below meth c own cc nL ret hh G A) (S : hy_S G A R s ad0 n0 ad w H locs cells slots) {index : Nat} (hlink : Cond.fieldLink own index "java/util/ArrayList" "DEFAULTCAPACITY_EMPTY_ELEMENTDATA" "[Ljava/lang/Object;" ∈ hy_T) (hdg : decode cc pc = .ok (.getstatic index, 3))
    (kk : ∀ b : Nat, ad 0 = b → 0 < w.1.length → W p l e R s m args below meth c H locs cells slots Q (F0 m (pc + 3) ls (.ref b :: rest))) : W p l e R s m args below meth c H locs cells slots Q (F0 m pc ls rest) :=
  va_gets B.1 B.2.1 B.2.2.2.2.2.2.2.2.2.1.2.2.2.2.2.2.1 S.2.1 B.2.2.2.1 (B.2.2.2.2.1 _ hlink) (fun _ h => h) hdg (kk _ S.1.2.2.2.2.1 (by have := S.1.2.2.2.1; omega))
/-- places and addresses -/
theorem hy_inj (B : hy_B p l e R s m args below meth c own cc nL ret hh G A) (S : hy_S G A R s ad0 n0 ad w H locs cells slots) {r1 r2 : Nat} (h1 : r1 < w.1.length) (h2 : r2 < w.1.length) (n1 : r1 ≠ 1) (n2 : r2 ≠ 1) (he : ad r1 = ad r2) : r1 = r2 := by
  have key : ∀ r, r < w.1.length → 1 < r → ∃ q c0, r = q + 2 ∧ (hy_ws G.2.1 ad w.1)[q]? = some (ad r, c0) := fun r hr hr1 => by
    obtain ⟨q, e1, hq⟩ := hy_place (G := G) (ad := ad) (c0 := w.1[r]) hr1 (List.getElem?_eq_getElem hr)
    exact ⟨q, _, e1, hq⟩
  have hout : ¬ A (ad 0) := by rw [S.1.2.2.2.2.1]; exact B.2.2.2.2.2.2.2.2.2.1.2.2.2.2.2.2.2.1.out
  by_cases z1 : r1 = 0
  · by_cases z2 : r2 = 0
    · omega
    · obtain ⟨q, c0, e1, hq⟩ := key r2 h2 (by omega)
      exact absurd (by rw [← z1, he]; exact S.1.2.1.2 q _ hq) hout
  · obtain ⟨q, c0, e1, hq⟩ := key r1 h1 (by omega)
    by_cases z2 : r2 = 0
    · exact absurd (by rw [← z2, ← he]; exact S.1.2.1.2 q _ hq) hout
    · obtain ⟨q', c0', e1', hq'⟩ := key r2 h2 (by omega)
      have := S.1.2.1.1 q q' _ _ hq hq' he
      omega
theorem hy_acmp_eq (B : hy_B p l e R s m args below meth c own cc nL ret hh G A) (S : hy_S G A R s ad0 n0 ad w H locs cells slots) {r1 r2 a1 a2 : Nat} (e1 : ad r1 = a1) (e2 : ad r2 = a2) (l1 : r1 < w.1.length) (l2 : r2 < w.1.length) (hn : r1 = r2 ∨ (r1 ≠ 1 ∧ r2 ≠ 1)) {off : Int} {tgt : Nat} (hdg : decode cc pc = .ok (.if_acmp .eq off, 3)) (ht : (pc : Int) + off = (tgt : Int))
    (kt : r1 = r2 → W p l e R s m args below meth c H locs cells slots Q (F0 m tgt ls rest)) (kf : ¬ r1 = r2 → W p l e R s m args below meth c H locs cells slots Q (F0 m (pc + 3) ls rest)) : W p l e R s m args below meth c H locs cells slots Q (F0 m pc ls (.ref a2 :: .ref a1 :: rest)) := by
  subst e1 e2
  refine lv_acmp_eq (rx := some (ad r1)) (ry := some (ad r2)) B.1 B.2.1 hdg ht (fun h => kt ?_) (fun h => kf (fun z => h (by rw [z])))
  rcases hn with h' | h'
  · exact h'
  · exact hy_inj B S l1 l2 h'.1 h'.2 (Option.some.inj h)
theorem hy_acmp_ne (B : hy_B p l e R s m args below meth c own cc nL ret hh G A) (S : hy_S G A R s ad0 n0 ad w H locs cells slots) {r1 r2 a1 a2 : Nat} (e1 : ad r1 = a1) (e2 : ad r2 = a2) (l1 : r1 < w.1.length) (l2 : r2 < w.1.length) (hn : r1 = r2 ∨ (r1 ≠ 1 ∧ r2 ≠ 1)) {off : Int} {tgt : Nat} (hdg : decode cc pc = .ok (.if_acmp .ne off, 3)) (ht : (pc : Int) + off = (tgt : Int))
    (kt : ¬ r1 = r2 → W p l e R s m args below meth c H locs cells slots Q (F0 m tgt ls rest)) (kf : r1 = r2 → W p l e R s m args below meth c H locs cells slots Q (F0 m (pc + 3) ls rest)) : W p l e R s m args below meth c H locs cells slots Q (F0 m pc ls (.ref a2 :: .ref a1 :: rest)) := by
  subst e1 e2
  refine lv_acmp_ne (rx := some (ad r1)) (ry := some (ad r2)) B.1 B.2.1 hdg ht (fun h => kt (fun z => h (by rw [z]))) (fun h => kf ?_)
  rcases hn with h' | h'
  · exact h'
  · exact hy_inj B S l1 l2 h'.1 h'.2 (Option.some.inj h)
theorem hy_cn_spec (h : hy_cn w k = some w') : ∃ es, w.1[k]? = some (.inr (0, es)) ∧ 1 < k ∧ hy_nw w (.inr (0, es)) es.length = some w' := by
  unfold hy_cn at h
  split at h
  · rename_i es hw
    split at h
    · rename_i hc
      exact ⟨es, hw, hc, h⟩
    · cases h
  · cases h
theorem hy_fit0 (f : Nat → Int32) (cA : ClassId) (n : Nat) : ∀ (i : Nat) (v : Value), (vp_cell cA (n, .inl f)).slots[i]? = some v → fits .int v = true := by
  intro i v h
  rw [vp_cell_i] at h
  have hi : i < n := by
    have := (Array.getElem?_eq_some_iff.mp h).1
    rwa [arrV_size] at this
  have e1 : (arrV cA n (fun j => Value.int (f j))).slots[i]? = some (.int (f i)) := by simp [arrV, hi]
  rw [e1] at h
  cases h
  rfl
theorem hy_clone (B : hy_B p l e R s m args below meth c own cc nL ret hh G A) (S : hy_S G A R s ad0 n0 ad w H locs cells slots) (ha : ad k = a) (hx : hy_cn w k = some w') {index : Nat} (hlink : Cond.methodLink own index ⟨"[I", "clone", "()Ljava/lang/Object;"⟩ ∈ hy_T) (hsame : Cond.sameMethod "[I" "java/lang/Object" "clone" "()Ljava/lang/Object;" ∈ hy_T) (hnat : Cond.native ⟨"java/lang/Object", "clone", "()Ljava/lang/Object;"⟩ ∈ hy_T) (hinst : Cond.instanceMethod ⟨"java/lang/Object", "clone", "()Ljava/lang/Object;"⟩ ∈ hy_T)
    (hsel : Cond.selects "[I" ⟨"[I", "clone", "()Ljava/lang/Object;"⟩ ⟨"java/lang/Object", "clone", "()Ljava/lang/Object;"⟩ ∈ hy_T) (hcl : Cond.castable "[I" "java/lang/Cloneable" ∈ hy_LN) (hsz : ls.size = nL) (hfr : 1 ≤ R.frames) (hlo : (rest.map fun v => v.category).sum + 14 ≤ R.locals) (hdg : decode cc pc = .ok (.invokevirtual index, 3))
    (kk : ∀ (ad1 : Nat → Nat) (q : Nat) (H1 : Heap) (slots1 : Nat), (∀ j, j < w.1.length → ad1 j = ad j) → ad1 w.1.length = q → hy_S G A R s ad0 n0 ad1 w' H1 locs (cells + 1) slots1 → w'.1.length = w.1.length + 1 → W p l e R s m args below meth c H1 locs (cells + 1) slots1 Q (F0 m (pc + 3) ls (.ref q :: rest))) : W p l e R s m args below meth c H locs cells slots Q (F0 m pc ls (.ref a :: rest)) := by
  obtain ⟨es, hw, hk, hn⟩ := hy_cn_spec hx
  obtain ⟨x1, x2, e0⟩ := hy_nw_spec hn
  obtain ⟨q0, -, hq⟩ := hy_place (G := G) (ad := ad) hk hw
  subst ha
  have hK := B.2.2.2.2.2.2.2.2.2.1.1
  have hnm : s.vm.findClass "[I" = some (G.2.1 0) := (hK.2 0 _ rfl).2
  have hcc : hy_cc (w.1.length + 1) (.inr (0, es)) := hy_cc_le (Nat.le_succ _) (S.1.2.2.1 _ (List.mem_of_getElem? hw))
  refine va_clone (D := G.1) B.1 B.2.1 (by rw [B.2.2.1, hsz]) B.2.2.2.1 (B.2.2.2.2.1 _ hlink) (B.2.2.2.2.1 _ hsame) (B.2.2.2.2.1 _ hnat) (B.2.2.2.2.1 _ hinst) (B.2.2.2.2.1 _ hsel) (B.2.2.2.2.2.2.2.2.2.1.2.1 _ hcl) hK S.1.1 S.1.2.1 S.2.1 B.2.2.2.2.2.2.2.2.1 q0 0 hq rfl hnm (hy_fit0 _ _ _) hfr hlo (by have := S.2.2.2.2.1; omega) (by have := S.2.2.2.2.2; show slots + es.length ≤ _; omega) hdg (fun q H1 hK1 hP hD hS => ?_)
  exact kk (va_up ad w.1.length q) q H1 _ (fun j hj => va_up_ne ad q (by omega)) (va_up_self ad _ q) (S.push hn hcc rfl hP hD hS) (by rw [e0]; simp)
theorem hy_ac_spec {t k1 k2 : Nat} {sp dp n : Int32} (h : hy_ac w t k1 k2 sp dp n = some w') : ∃ es fs, w.1[k1]? = some (.inr (t, es)) ∧ w.1[k2]? = some (.inr (t, fs)) ∧ 1 < k1 ∧ 1 < k2 ∧ 0 ≤ sp ∧ 0 ≤ dp ∧ 0 ≤ n ∧ sp.toNatClampNeg + n.toNatClampNeg ≤ es.length ∧ dp.toNatClampNeg + n.toNatClampNeg ≤ fs.length ∧ (t = 3 → hy_ru w es = true) ∧ w' = (w.1.set k2 (.inr (t, hy_cp es fs sp.toNatClampNeg dp.toNatClampNeg n.toNatClampNeg)), w.2) := by
  unfold hy_ac at h
  split at h
  · rename_i t1 es t2 fs hw1 hw2
    split at h
    · rename_i hc
      obtain ⟨rfl, rfl, h3, h4, h5, h6, h7, h8, h9, h10⟩ := hc
      exact ⟨es, fs, hw1, hw2, h3, h4, h5, h6, h7, h8, h9, h10, (Option.some.inj h).symm⟩
    · cases h
  · cases h
theorem hy_cp_cv {es fs : List Value} {a b n N : Nat} (h1 : ∀ v ∈ es, hy_cv N v) (h2 : ∀ v ∈ fs, hy_cv N v) : ∀ v ∈ hy_cp es fs a b n, hy_cv N v := by
  intro v hv
  simp only [hy_cp, List.mem_append] at hv
  rcases hv with h | h | h
  · exact h2 v (List.mem_of_mem_take h)
  · exact h1 v (List.mem_of_mem_drop (List.mem_of_mem_take h))
  · exact h2 v (List.mem_of_mem_drop h)
theorem hy_copyi (B : hy_B p l e R s m args below meth c own cc nL ret hh G A) (S : hy_S G A R s ad0 n0 ad w H locs cells slots) {k1 k2 a1 a2 : Nat} (e1 : ad k1 = a1) (e2 : ad k2 = a2) {sp dp n : Int32} (hx : hy_ac w 0 k1 k2 sp dp n = some w') {index : Nat} (hlink : Cond.methodLink own index arraycopyName ∈ hy_T) (hnat : Cond.native arraycopyName ∈ hy_T) (hstat : Cond.static arraycopyName ∈ hy_T) (hini : Cond.initialized "java/lang/System" ∈ hy_T)
    (hsz : ls.size = nL) (hfr : 1 ≤ R.frames) (hlo : (rest.map fun v => v.category).sum + (nativeFrameWords "java/lang/System" "arraycopy" 5 + 11) ≤ R.locals) (hdg : decode cc pc = .ok (.invokestatic index, 3))
    (kk : ∀ (H1 : Heap) (locs1 : List Loc), hy_S G A R s ad0 n0 ad w' H1 locs1 cells slots → w'.1.length = w.1.length → W p l e R s m args below meth c H1 locs1 cells slots Q (F0 m (pc + 3) ls rest)) : W p l e R s m args below meth c H locs cells slots Q (F0 m pc ls (.int n :: .int dp :: .ref a2 :: .int sp :: .ref a1 :: rest)) := by
  obtain ⟨es, fs, hw1, hw2, h3, h4, h5, h6, h7, h8, h9, -, rfl⟩ := hy_ac_spec hx
  obtain ⟨q1, -, hq1⟩ := hy_place (G := G) (ad := ad) h3 hw1
  obtain ⟨q2, e3, hq2⟩ := hy_place (G := G) (ad := ad) h4 hw2
  subst e1 e2
  refine va_copyi (D := G.1) B.1 B.2.1 (by rw [B.2.2.1, hsz]) B.2.2.2.1 (B.2.2.2.2.1 _ hlink) (B.2.2.2.2.1 _ hnat) (B.2.2.2.2.1 _ hstat) (B.2.2.2.2.1 _ hini) B.2.2.2.2.2.2.2.2.2.1.1 S.1.1 S.1.2.1 S.2.1 q1 q2 0 0 hq1 hq2 rfl rfl rfl (Int32.not_lt.mpr h5) (Int32.not_lt.mpr h6) (Int32.not_lt.mpr h7) h8 h9 (fun _ _ => rfl) hfr hlo hdg (fun H1 locs1 hP hD hS => kk H1 locs1 ?_ (List.length_set ..))
  have e4 : (hy_e G.2.1 ad (.inr (0, hy_cp es fs sp.toNatClampNeg dp.toNatClampNeg n.toNatClampNeg)) : va_E) = .inl (G.2.1 0, fs.length, .inl (va_cpy (fun j => hy_oi (es.getD j .null)) (fun j => hy_oi (fs.getD j .null)) sp.toNatClampNeg dp.toNatClampNeg n.toNatClampNeg)) := by
    rw [← hy_cp_get hy_oi h8 h9, ← hy_cp_len h8 h9]
    rfl
  exact S.put h4 (hy_cp_cv (S.1.2.2.1 _ (List.mem_of_getElem? hw1)) (S.1.2.2.1 _ (List.mem_of_getElem? hw2))) (by rw [e4, show k2 - 2 = q2 by omega]; exact hP) (by rw [e4, show k2 - 2 = q2 by omega]; exact hD) hS
theorem hy_copyq (B : hy_B p l e R s m args below meth c own cc nL ret hh G A) (S : hy_S G A R s ad0 n0 ad w H locs cells slots) {k1 k2 a1 a2 : Nat} (e1 : ad k1 = a1) (e2 : ad k2 = a2) {sp dp n : Int32} (hx : hy_ac w 3 k1 k2 sp dp n = some w') {index : Nat} (hlink : Cond.methodLink own index arraycopyName ∈ hy_T) (hnat : Cond.native arraycopyName ∈ hy_T) (hstat : Cond.static arraycopyName ∈ hy_T) (hini : Cond.initialized "java/lang/System" ∈ hy_T) (hca : Cond.castable R_4 "java/lang/Object" ∈ hy_LN)
    (hsz : ls.size = nL) (hfr : 1 ≤ R.frames) (hlo : (rest.map fun v => v.category).sum + (nativeFrameWords "java/lang/System" "arraycopy" 5 + 11) ≤ R.locals) (hdg : decode cc pc = .ok (.invokestatic index, 3))
    (kk : ∀ (H1 : Heap) (locs1 : List Loc), hy_S G A R s ad0 n0 ad w' H1 locs1 cells slots → w'.1.length = w.1.length → W p l e R s m args below meth c H1 locs1 cells slots Q (F0 m (pc + 3) ls rest)) : W p l e R s m args below meth c H locs cells slots Q (F0 m pc ls (.int n :: .int dp :: .ref a2 :: .int sp :: .ref a1 :: rest)) := by
  obtain ⟨es, fs, hw1, hw2, h3, h4, h5, h6, h7, h8, h9, h10, rfl⟩ := hy_ac_spec hx
  obtain ⟨q1, -, hq1⟩ := hy_place (G := G) (ad := ad) h3 hw1
  obtain ⟨q2, e3, hq2⟩ := hy_place (G := G) (ad := ad) h4 hw2
  subst e1 e2
  have hK := B.2.2.2.2.2.2.2.2.2.1.1
  have hru := h10 rfl
  rw [hy_e_q (by omega)] at hq1 hq2
  refine va_copyq (D := G.1) (C := R_4) B.1 B.2.1 (by rw [B.2.2.1, hsz]) B.2.2.2.1 (B.2.2.2.2.1 _ hlink) (B.2.2.2.2.1 _ hnat) (B.2.2.2.2.1 _ hstat) (B.2.2.2.2.1 _ hini) hK S.1.1 S.1.2.1 S.2.1 q1 q2 3 3 hq1 hq2 rfl rfl (Int32.not_lt.mpr h5) (Int32.not_lt.mpr h6) (Int32.not_lt.mpr h7) h8 h9 (fun i hi y hy => ?_) (fun comp c0 g1 g2 => ?_) hfr hlo hdg (fun H1 locs1 hP hD hS => kk H1 locs1 ?_ (List.length_set ..))
  · rw [List.getD_eq_getElem?_getD] at hy
    cases hv : es[sp.toNatClampNeg + i]? with
    | none => rw [hv] at hy; cases hy
    | some v =>
      rw [hv] at hy
      have hall := List.all_eq_true.mp hru v (List.mem_of_getElem? hv)
      cases v with
      | ref r =>
        have hyr : ad r = y := Option.some.inj hy
        subst hyr
        simp only at hall
        split at hall
        · rename_i fs4 hr
          obtain ⟨qr, -, hqr⟩ := hy_place (G := G) (ad := ad) (of_decide_eq_true hall) hr
          exact va_recv (q := (R_4, F_4, 2)) hK S.1.1 rfl hqr
        · cases hall
      | _ => cases hy
  · obtain ⟨c1, t1, f1, f2, f3⟩ := Cond.castable_spec (va_Nw.use (A := args) rfl (B.2.2.2.2.2.2.2.2.2.1.2.1 _ hca))
    cases f1.symm.trans g2
    cases f2.symm.trans g1
    exact f3
  · have e4 : (hy_e G.2.1 ad (.inr (3, hy_cp es fs sp.toNatClampNeg dp.toNatClampNeg n.toNatClampNeg)) : va_E) = .inl (G.2.1 3, fs.length, .inr (.inr (.inr (.inr (va_cpy (fun j => hy_or ad (es.getD j .null)) (fun j => hy_or ad (fs.getD j .null)) sp.toNatClampNeg dp.toNatClampNeg n.toNatClampNeg))))) := by
      rw [← hy_cp_get (hy_or ad) h8 h9, ← hy_cp_len h8 h9]
      rfl
    exact S.put h4 (hy_cp_cv (S.1.2.2.1 _ (List.mem_of_getElem? hw1)) (S.1.2.2.1 _ (List.mem_of_getElem? hw2))) (by rw [e4, show k2 - 2 = q2 by omega]; exact hP) (by rw [e4, show k2 - 2 = q2 by omega]; exact hD) hS
/-- a cast to the object's own class; to an array's own class -/
theorem hy_cast (B : hy_B p l e R s m args below meth c own cc nL ret hh G A) (S : hy_S G A R s ad0 n0 ad w H locs cells slots) (ha : ad k = a) {ci : Nat} {fs : List Value} (hr : w.1[k]? = some (.inl (ci, fs))) (hk : 1 < k) {C : String} {T : u_T} {N : Nat} (hc : hy_K[ci]? = some (C, T, N)) {index : Nat} (hlink : Cond.classLink own index C ∈ hy_T) (hdg : decode cc pc = .ok (.checkcast index, 3))
    (kk : W p l e R s m args below meth c H locs cells slots Q (F0 m (pc + 3) ls (.ref a :: rest))) : W p l e R s m args below meth c H locs cells slots Q (F0 m pc ls (.ref a :: rest)) := by
  obtain ⟨q, -, hq⟩ := hy_place (G := G) (ad := ad) hk hr
  subst ha
  have hK := B.2.2.2.2.2.2.2.2.2.1.1
  exact va_castS B.1 B.2.1 B.2.2.2.1 (B.2.2.2.2.1 _ hlink) (hK.1 ci _ hc).2 (va_recv (q := (C, T, N)) hK S.1.1 hc hq) hdg kk
theorem hy_castA (B : hy_B p l e R s m args below meth c own cc nL ret hh G A) (S : hy_S G A R s ad0 n0 ad w H locs cells slots) (ha : ad k = a) {t : Nat} {es : List Value} (hr : w.1[k]? = some (.inr (t, es))) (hk : 1 < k) {nm : String} (hnm : s.vm.findClass nm = some (G.2.1 t)) {index : Nat} (hlink : Cond.classLink own index nm ∈ hy_T) (hdg : decode cc pc = .ok (.checkcast index, 3))
    (kk : W p l e R s m args below meth c H locs cells slots Q (F0 m (pc + 3) ls (.ref a :: rest))) : W p l e R s m args below meth c H locs cells slots Q (F0 m pc ls (.ref a :: rest)) := by
  obtain ⟨q, -, hq⟩ := hy_place (G := G) (ad := ad) hk hr
  subst ha
  exact va_castA B.1 B.2.1 B.2.2.2.1 (B.2.2.2.2.1 _ hlink) S.1.1 q hq hnm hdg kk
end HYM
end
section
/-! POINTS: a body walks from point to point; answers of calls -/
def hy_ob (w : hy_W) (r ci : Nat) : Bool := match w.1[r]? with
  | some (.inl (c, _)) => decide (c = ci ∧ 1 < r)
  | _ => false
theorem hy_ob_spec {w : hy_W} {r ci : Nat} (h : hy_ob w r ci = true) : ∃ fs, w.1[r]? = some (.inl (ci, fs)) ∧ 1 < r := by
  unfold hy_ob at h
  split at h
  · rename_i c fs hw
    obtain ⟨rfl, h2⟩ := of_decide_eq_true h
    exact ⟨fs, hw, h2⟩
  · cases h
def hy_ar0 (w : hy_W) (r t : Nat) : Bool := match w.1[r]? with
  | some (.inr (u, _)) => decide (u = t ∧ 1 < r)
  | _ => false
theorem hy_ar0_spec {w : hy_W} {r t : Nat} (h : hy_ar0 w r t = true) : ∃ es, w.1[r]? = some (.inr (t, es)) ∧ 1 < r := by
  unfold hy_ar0 at h
  split at h
  · rename_i c fs hw
    obtain ⟨rfl, h2⟩ := of_decide_eq_true h
    exact ⟨fs, hw, h2⟩
  · cases h
/-- what a call answers: an int, a reference, nothing -/
def hy_bi {β : Type} (o : Option hy_O) (f : Int32 → hy_W → Option β) : Option β := match o with
  | some (.inl (some (.int x)), w) => f x w
  | _ => none
def hy_br {β : Type} (o : Option hy_O) (f : Nat → hy_W → Option β) : Option β := match o with
  | some (.inl (some (.ref x)), w) => f x w
  | _ => none
def hy_bv {β : Type} (o : Option hy_O) (f : hy_W → Option β) : Option β := match o with
  | some (.inl none, w) => f w
  | _ => none
theorem hy_bi_spec {β : Type} {o : Option hy_O} {f : Int32 → hy_W → Option β} {b : β} (h : hy_bi o f = some b) : ∃ x w, o = some (.inl (some (.int x)), w) ∧ f x w = some b := by
  unfold hy_bi at h
  split at h
  · exact ⟨_, _, rfl, h⟩
  · cases h
theorem hy_br_spec {β : Type} {o : Option hy_O} {f : Nat → hy_W → Option β} {b : β} (h : hy_br o f = some b) : ∃ x w, o = some (.inl (some (.ref x)), w) ∧ f x w = some b := by
  unfold hy_br at h
  split at h
  · exact ⟨_, _, rfl, h⟩
  · cases h
theorem hy_bv_spec {β : Type} {o : Option hy_O} {f : hy_W → Option β} {b : β} (h : hy_bv o f = some b) : ∃ w, o = some (.inl none, w) ∧ f w = some b := by
  unfold hy_bv at h
  split at h
  · exact ⟨_, rfl, h⟩
  · cases h
theorem hy_if {β : Type} {c : Prop} [Decidable c] {x : Option β} {b : β} (h : (if c then x else none) = some b) : c ∧ x = some b := by
  split at h
  · rename_i hc; exact ⟨hc, h⟩
  · cases h
/-- .. where it may throw -/
def hy_xi (o : Option hy_O) (f : Int32 → hy_W → Option hy_N) (g : String → hy_W → Option hy_N) : Option hy_N := match o with
  | some (.inl (some (.int x)), w) => f x w
  | some (.inr E, w) => g E w
  | _ => none
def hy_xv (o : Option hy_O) (f : hy_W → Option hy_N) (g : String → hy_W → Option hy_N) : Option hy_N := match o with
  | some (.inl none, w) => f w
  | some (.inr E, w) => g E w
  | _ => none
theorem hy_xi_spec {o : Option hy_O} {f : Int32 → hy_W → Option hy_N} {g : String → hy_W → Option hy_N} {n : hy_N} (h : hy_xi o f g = some n) : (∃ x w, o = some (.inl (some (.int x)), w) ∧ f x w = some n) ∨ ∃ E w, o = some (.inr E, w) ∧ g E w = some n := by
  unfold hy_xi at h
  split at h
  · exact Or.inl ⟨_, _, rfl, h⟩
  · exact Or.inr ⟨_, _, rfl, h⟩
  · cases h
theorem hy_xv_spec {o : Option hy_O} {f : hy_W → Option hy_N} {g : String → hy_W → Option hy_N} {n : hy_N} (h : hy_xv o f g = some n) : (∃ w, o = some (.inl none, w) ∧ f w = some n) ∨ ∃ E w, o = some (.inr E, w) ∧ g E w = some n := by
  unfold hy_xv at h
  split at h
  · exact Or.inl ⟨_, rfl, h⟩
  · exact Or.inr ⟨_, _, rfl, h⟩
  · cases h
theorem hy_bd {α β : Type} {o : Option α} {f : α → Option β} {b : β} (h : o.bind f = some b) : ∃ a, o = some a ∧ f a = some b := Option.bind_eq_some_iff.mp h
-- all references lead into the world
theorem hy_ok0 {n : Nat} : ∀ v ∈ ([] : List Value), hy_cv n v := fun _ h => nomatch h
theorem hy_oki {n : Nat} {x : Int32} {L : List Value} (h : ∀ v ∈ L, hy_cv n v) : ∀ v ∈ Value.int x :: L, hy_cv n v := by
  intro v hv
  rcases List.mem_cons.mp hv with rfl | hv
  · intro k e; cases e
  · exact h v hv
theorem hy_okl {n : Nat} {x : Int64} {L : List Value} (h : ∀ v ∈ L, hy_cv n v) : ∀ v ∈ Value.long x :: L, hy_cv n v := by
  intro v hv
  rcases List.mem_cons.mp hv with rfl | hv
  · intro k e; cases e
  · exact h v hv
theorem hy_okn {n : Nat} {L : List Value} (h : ∀ v ∈ L, hy_cv n v) : ∀ v ∈ Value.null :: L, hy_cv n v := by
  intro v hv
  rcases List.mem_cons.mp hv with rfl | hv
  · intro k e; cases e
  · exact h v hv
theorem hy_okr {n r : Nat} {L : List Value} (hr : r < n) (h : ∀ v ∈ L, hy_cv n v) : ∀ v ∈ Value.ref r :: L, hy_cv n v := by
  intro v hv
  rcases List.mem_cons.mp hv with rfl | hv
  · intro k e; cases e; exact hr
  · exact h v hv
theorem hy_cvi {n : Nat} {x : Int32} : hy_cv n (.int x) := fun _ e => nomatch e
theorem hy_cvr {n r : Nat} (h : r < n) : hy_cv n (.ref r) := fun _ e => by cases e; exact h
-- points
def hy_lv (ad : Nat → Nat) (sl : List Nat) (L : List Value) : List (Nat × Value) := (sl.zip L).map fun q => (q.1, hy_v ad q.2)
def hy_sk (ad : Nat → Nat) (sl : List Nat) (L : List Value) : List Value := (L.drop sl.length).map (hy_v ad)
def hy_At (lay : Nat → List Nat) (p : Program) (l : Launch) (e : Env) (R : Room) (s : State) (m : MethodId) (args : Array Value) (below : List Frame) (meth : Method) (c : Code) (nL : Nat) (G : hy_G) (A : Nat → Prop) (ad0 : Nat → Nat) (n0 : Nat) (Q : State → Prop) (q : hy_P) : Prop :=
  ∀ (ad : Nat → Nat) (H : Heap) (locs : List Loc) (cells slots : Nat) (ls : Array Slot), hy_S G A R s ad0 n0 ad q.2.2 H locs cells slots → (∀ v ∈ q.2.1, hy_cv q.2.2.1.length v) → lv_has ls nL (hy_lv ad (lay q.1) q.2.1) →
    W p l e R s m args below meth c H locs cells slots Q (F0 m q.1 ls (hy_sk ad (lay q.1) q.2.1))
/-- where a step leads, the rest goes through -/
def hy_Nx (lay : Nat → List Nat) (p : Program) (l : Launch) (e : Env) (R : Room) (s : State) (m : MethodId) (args : Array Value) (below : List Frame) (meth : Method) (c : Code) (nL : Nat) (G : hy_G) (A : Nat → Prop) (ad0 : Nat → Nat) (n0 : Nat) (Q : State → Prop) (o : hy_O) (nx : hy_N) : Prop := match nx with
  | .inl q => hy_At lay p l e R s m args below meth c nL G A ad0 n0 Q q
  | .inr o' => o' = o
section HYL
variable {lay : Nat → List Nat} {p : Program} {l : Launch} {e : Env} {R : Room} {s : State} {m : MethodId} {args : Array Value} {below : List Frame} {meth : Method} {c : Code} {nL : Nat} {G : hy_G} {A : Nat → Prop} {ad0 : Nat → Nat} {n0 : Nat} {Q : State → Prop}
theorem hy_loop {f : hy_P → Option hy_N} {o : hy_O} (hs : ∀ q nx, f q = some nx → hy_Nx lay p l e R s m args below meth c nL G A ad0 n0 Q o nx → hy_At lay p l e R s m args below meth c nL G A ad0 n0 Q q) : ∀ (n : Nat) (q : hy_P), hy_it f n q = some o → hy_At lay p l e R s m args below meth c nL G A ad0 n0 Q q
  | 0, q, h => by cases h
  | n + 1, q, h => by
    rw [hy_it] at h
    cases hf : f q with
    | none => rw [hf] at h; cases h
    | some nx =>
      rw [hf] at h
      refine hs q nx hf ?_
      cases nx with
      | inl q' => exact hy_loop hs n q' h
      | inr o' => exact Option.some.inj h
theorem hy_jump {ad : Nat → Nat} {w : hy_W} {H : Heap} {locs : List Loc} {cells slots pc : Nat} {ls : Array Slot} {L : List Value} {lv : List (Nat × Value)} {st : List Value} (K : hy_At lay p l e R s m args below meth c nL G A ad0 n0 Q (pc, L, w)) (S : hy_S G A R s ad0 n0 ad w H locs cells slots) (hok : ∀ v ∈ L, hy_cv w.1.length v) (hl : lv_has ls nL lv) (e1 : hy_lv ad (lay pc) L = lv) (e2 : hy_sk ad (lay pc) L = st) :
    W p l e R s m args below meth c H locs cells slots Q (F0 m pc ls st) := by
  subst e1 e2
  exact K ad H locs cells slots ls S hok hl
end HYL
end
section
/-! HELPERS of the printed bodies -/
theorem hy_df0 : ∀ j, j < 3 → defaultValue (t_0 j) = vp_V [.null, .null, .int 0] j := by decide +kernel
theorem hy_no0 : ∀ v ∈ ([.null, .null, .int 0] : List Value), ∀ k, v ≠ .ref k := by intro v hv k e; subst e; revert hv; simp
theorem hy_df1 : ∀ j, j < 8 → defaultValue (t_1 j) = vp_V [.null, .null, .null, .null, .null, .int 0, .int 0, .int 0] j := by decide +kernel
theorem hy_no1 : ∀ v ∈ ([.null, .null, .null, .null, .null, .int 0, .int 0, .int 0] : List Value), ∀ k, v ≠ .ref k := by intro v hv k e; subst e; revert hv; simp
theorem hy_df2 : ∀ j, j < 4 → defaultValue (t_2 j) = vp_V [.null, .int 0, .null, .int 0] j := by decide +kernel
theorem hy_no2 : ∀ v ∈ ([.null, .int 0, .null, .int 0] : List Value), ∀ k, v ≠ .ref k := by intro v hv k e; subst e; revert hv; simp
theorem hy_df3 : ∀ j, j < 5 → defaultValue (t_3 j) = vp_V [.null, .null, .int 0, .int 0, .int 0] j := by decide +kernel
theorem hy_no3 : ∀ v ∈ ([.null, .null, .int 0, .int 0, .int 0] : List Value), ∀ k, v ≠ .ref k := by intro v hv k e; subst e; revert hv; simp
theorem hy_df4 : ∀ j, j < 2 → defaultValue (t_4 j) = vp_V [.null, .null] j := by decide +kernel
theorem hy_no4 : ∀ v ∈ ([.null, .null] : List Value), ∀ k, v ≠ .ref k := by intro v hv k e; subst e; revert hv; simp
theorem hy_df5 : ∀ j, j < 6 → defaultValue (t_5 j) = vp_V [.null, .null, .null, .null, .null, .int 0] j := by decide +kernel
theorem hy_no5 : ∀ v ∈ ([.null, .null, .null, .null, .null, .int 0] : List Value), ∀ k, v ≠ .ref k := by intro v hv k e; subst e; revert hv; simp
theorem hy_df6 : ∀ j, j < 26 → defaultValue (t_6 j) = vp_V [.int 0, .int 0, .null, .null, .null, .null, .null, .null, .int 0, .null, .null, .int 0, .null, .null, .int 0, .null, .null, .null, .null, .int 0, .null, .null, .null, .null, .int 0, .null] j := by decide +kernel
theorem hy_no6 : ∀ v ∈ ([.int 0, .int 0, .null, .null, .null, .null, .null, .null, .int 0, .null, .null, .int 0, .null, .null, .int 0, .null, .null, .null, .null, .int 0, .null, .null, .null, .null, .int 0, .null] : List Value), ∀ k, v ≠ .ref k := by intro v hv k e; subst e; revert hv; simp
theorem hy_df7 : ∀ j, j < 3 → defaultValue (t_7 j) = vp_V [.null, .int 0, .int 0] j := by decide +kernel
theorem hy_no7 : ∀ v ∈ ([.null, .int 0, .int 0] : List Value), ∀ k, v ≠ .ref k := by intro v hv k e; subst e; revert hv; simp
set_option maxRecDepth 100000 in
theorem at_H_IO : ∀ w ∈ Bundle.ownAtoms "HyphenPatterns" 50 "java/lang/IndexOutOfBoundsException" ["java/lang/RuntimeException", "java/lang/Exception"], w ∈ hy_T ∨ w ∈ hy_LN ∨ w ∈ hy_LX := by decide +kernel
set_option maxRecDepth 100000 in
theorem at_H_IA : ∀ w ∈ Bundle.ownAtoms "HyphenPatterns" 61 "java/lang/IllegalArgumentException" ["java/lang/RuntimeException", "java/lang/Exception"], w ∈ hy_T ∨ w ∈ hy_LN ∨ w ∈ hy_LX := by decide +kernel
set_option maxRecDepth 100000 in
theorem at_H_IS : ∀ w ∈ Bundle.ownAtoms "HyphenPatterns" 72 "java/lang/IllegalStateException" ["java/lang/RuntimeException", "java/lang/Exception"], w ∈ hy_T ∨ w ∈ hy_LN ∨ w ∈ hy_LX := by decide +kernel
set_option maxRecDepth 100000 in
theorem at_N_IA : ∀ w ∈ Bundle.ownAtoms "HyphenPatterns$Numbers" 34 "java/lang/IllegalArgumentException" ["java/lang/RuntimeException", "java/lang/Exception"], w ∈ hy_T ∨ w ∈ hy_LN ∨ w ∈ hy_LX := by decide +kernel
set_option maxRecDepth 100000 in
theorem at_N_IS : ∀ w ∈ Bundle.ownAtoms "HyphenPatterns$Numbers" 41 "java/lang/IllegalStateException" ["java/lang/RuntimeException", "java/lang/Exception"], w ∈ hy_T ∨ w ∈ hy_LN ∨ w ∈ hy_LX := by decide +kernel
section HYH
variable {p : Program} {l : Launch} {e : Env} {R : Room} {s : State} {m : MethodId} {args : Array Value} {below : List Frame} {meth : Method} {c : Code} {H : Heap} {locs : List Loc} {cells slots : Nat} {Q : State → Prop}
variable {own : String} {cc : ByteArray} {nL : Nat} {ret : Option FieldType} {hh : List (Nat × Nat × Nat × Nat)} {G : hy_G} {A : Nat → Prop} {ad0 ad : Nat → Nat} {n0 : Nat} {w0 w w' : hy_W} {pc : Nat} {ls : Array Slot} {rest : List Value} {k a : Nat}
theorem hy_castR (B : hy_B p l e R s m args below meth c own cc nL ret hh G A) : va_Nw (.castable "HyphenPatterns$Rule" "java/lang/Object") s := B.2.2.2.2.2.2.2.2.2.1.2.1 _ (by decide +kernel)
theorem hy_nm0 (B : hy_B p l e R s m args below meth c own cc nL ret hh G A) : s.vm.findClass "[I" = some (G.2.1 0) := (B.2.2.2.2.2.2.2.2.2.1.1.2 0 _ rfl).2
theorem hy_nm3 (B : hy_B p l e R s m args below meth c own cc nL ret hh G A) : s.vm.findClass "[Ljava/lang/Object;" = some (G.2.1 3) := va_nmO (B.2.2.2.2.2.2.2.2.2.1.1.2 3 _ rfl).2 (by decide +kernel)
theorem hy_isA (B : hy_B p l e R s m args below meth c own cc nL ret hh G A) (S : hy_S G A R s ad0 n0 ad w H locs cells slots) (ha : ad k = a) {es : List Value} (hr : w.1[k]? = some (.inr (3, es))) (hk : 1 < k) : ∃ cell : Cell, H[a]? = some cell ∧ cell.vm.isStatics = false ∧ s.vm.findClass "[Ljava/lang/Object;" = some cell.cls := by
  obtain ⟨q, -, hq⟩ := hy_place (G := G) (ad := ad) hk hr
  subst ha
  exact ⟨_, S.1.1 q _ hq, rfl, hy_nm3 B⟩
/-- an object is laid into an array of its own class -/
theorem hy_aastS (B : hy_B p l e R s m args below meth c own cc nL ret hh G A) (S : hy_S G A R s ad0 n0 ad w H locs cells slots) (ha : ad k = a) {t r b ci : Nat} (hb : ad r = b) {i : Int32} (hx : hy_pa w t k i (.ref r) = some w') {fs : List Value} (hr : w.1[r]? = some (.inl (ci, fs))) (hr1 : 1 < r) {C : String} {T : u_T} {N : Nat} (hc : hy_K[ci]? = some (C, T, N)) (ht1 : 1 < t) (ht : (hy_tys G.2.1)[t]? = some (G.2.1 t, .object C)) (hdg : decode cc pc = .ok (.aastore, 1))
    (kk : ∀ (H1 : Heap) (locs1 : List Loc), hy_S G A R s ad0 n0 ad w' H1 locs1 cells slots → w'.1.length = w.1.length → W p l e R s m args below meth c H1 locs1 cells slots Q (F0 m (pc + 1) ls rest)) : W p l e R s m args below meth c H locs cells slots Q (F0 m pc ls (.ref b :: .int i :: .ref a :: rest)) := by
  obtain ⟨es, hw, hi, hk, rfl⟩ := hy_pa_spec hx
  obtain ⟨q, e1, hq⟩ := hy_place (G := G) (ad := ad) hk hw
  obtain ⟨qr, -, hqr⟩ := hy_place (G := G) (ad := ad) hr1 hr
  subst ha hb
  rw [hy_e_q ht1] at hq
  refine va_astq (D := G.1) B.1 B.2.1 B.2.2.2.2.2.2.2.2.2.1.1 S.1.1 S.1.2.1 S.2.1 q t qr ci (r := (C, T, N)) hq ht hqr hc (hy_ix_in hi) hdg (fun H1 locs1 hP hD hS => kk H1 locs1 ?_ (List.length_set ..))
  have e2 : (hy_e G.2.1 ad (.inr (t, es.set i.toNatClampNeg (.ref r))) : va_E) = .inl (G.2.1 t, es.length, .inr (.inr (.inr (.inr (va_up (fun j => hy_or ad (es.getD j .null)) i.toNatClampNeg (some (ad r))))))) := by
    rw [hy_e_q ht1, List.length_set, hy_upq (hy_ix_lt hi)]
  refine S.put hk (c0 := .inr (t, es.set i.toNatClampNeg (.ref r))) (fun u hu => ?_) (by rw [e2, show k - 2 = q by omega]; exact hP) (by rw [e2, show k - 2 = q by omega]; exact hD) hS
  rcases List.mem_or_eq_of_mem_set hu with h | h
  · exact S.1.2.2.1 _ (List.mem_of_getElem? hw) u h
  · rw [h]; intro z hz; cases hz; exact (List.getElem?_eq_some_iff.mp hr).1
end HYH
theorem hy_sw5 {x : Int32} (h0 : ¬ x = (0 : Int32)) (h1 : ¬ x = (1 : Int32)) (h2 : ¬ x = (2 : Int32)) (h3 : ¬ x = (3 : Int32)) (h4 : ¬ x = (4 : Int32)) : x.toInt < 0 ∨ 4 < x.toInt := by
  have key : ∀ n : Int32, ¬ x = n → x.toInt ≠ n.toInt := fun n h e => h (Int32.toInt_inj.mp e)
  have a0 : x.toInt ≠ 0 := key 0 h0
  have a1 : x.toInt ≠ 1 := key 1 h1
  have a2 : x.toInt ≠ 2 := key 2 h2
  have a3 : x.toInt ≠ 3 := key 3 h3
  have a4 : x.toInt ≠ 4 := key 4 h4
  omega
end
