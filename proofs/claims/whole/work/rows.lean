section
-- ===== PART A: goes FIRST, ahead of the names: the tables' words, and 'selects' of the private methods out of them =====
/-- a private method of a class that the tables say can be made, by its rows of tables_1 -/
def lw_okq (q : MethodName × Nat) : Prop := (q.1.cls ≠ "java/lang/invoke/MethodHandle" ∧ q.1.cls ≠ "java/lang/invoke/VarHandle") ∧ Cond.instantiable q.1.cls q.2 ∈ tables_1 ∧ Cond.privateMethod q.1 ∈ tables_1 ∧ Cond.instanceMethod q.1 ∈ tables_1
theorem lw_p0 : lw_okq (⟨"java/lang/Throwable", "fillInStackTrace", "(I)Ljava/lang/Throwable;"⟩, 6) := ⟨⟨by decide +kernel, by decide +kernel⟩, List.mem_of_getElem? (i := 303) (by decide +kernel), List.mem_of_getElem? (i := 301) (by decide +kernel), List.mem_of_getElem? (i := 302) (by decide +kernel)⟩
theorem lw_p1 : lw_okq (⟨"ShapedItems$ShapeReader", "readType", "(IZ)I"⟩, 3) := ⟨⟨by decide +kernel, by decide +kernel⟩, List.mem_of_getElem? (i := 174) (by decide +kernel), List.mem_of_getElem? (i := 371) (by decide +kernel), List.mem_of_getElem? (i := 372) (by decide +kernel)⟩
theorem lw_p2 : lw_okq (⟨"ShapedItems$ShapeReader", "readAlternative", "(IZ)I"⟩, 3) := ⟨⟨by decide +kernel, by decide +kernel⟩, List.mem_of_getElem? (i := 174) (by decide +kernel), List.mem_of_getElem? (i := 375) (by decide +kernel), List.mem_of_getElem? (i := 376) (by decide +kernel)⟩
theorem lw_p3 : lw_okq (⟨"ShapedItems$ShapeReader", "here", "()C"⟩, 3) := ⟨⟨by decide +kernel, by decide +kernel⟩, List.mem_of_getElem? (i := 174) (by decide +kernel), List.mem_of_getElem? (i := 379) (by decide +kernel), List.mem_of_getElem? (i := 380) (by decide +kernel)⟩
theorem lw_p4 : lw_okq (⟨"ShapedItems$ShapeReader", "readBetween", "(IZ)I"⟩, 3) := ⟨⟨by decide +kernel, by decide +kernel⟩, List.mem_of_getElem? (i := 174) (by decide +kernel), List.mem_of_getElem? (i := 383) (by decide +kernel), List.mem_of_getElem? (i := 384) (by decide +kernel)⟩
theorem lw_p5 : lw_okq (⟨"ShapedItems$ShapeReader", "passes", "(C)Z"⟩, 3) := ⟨⟨by decide +kernel, by decide +kernel⟩, List.mem_of_getElem? (i := 174) (by decide +kernel), List.mem_of_getElem? (i := 387) (by decide +kernel), List.mem_of_getElem? (i := 388) (by decide +kernel)⟩
theorem lw_p6 : lw_okq (⟨"ShapedItems$ShapeReader", "readParts", "(CCI)V"⟩, 3) := ⟨⟨by decide +kernel, by decide +kernel⟩, List.mem_of_getElem? (i := 174) (by decide +kernel), List.mem_of_getElem? (i := 397) (by decide +kernel), List.mem_of_getElem? (i := 398) (by decide +kernel)⟩
theorem lw_p7 : lw_okq (⟨"ShapedItems$ShapeReader", "readPart", "(ICI)V"⟩, 3) := ⟨⟨by decide +kernel, by decide +kernel⟩, List.mem_of_getElem? (i := 174) (by decide +kernel), List.mem_of_getElem? (i := 401) (by decide +kernel), List.mem_of_getElem? (i := 402) (by decide +kernel)⟩
theorem lw_p8 : lw_okq (⟨"ShapedItems$ShapeReader", "readOften", "()C"⟩, 3) := ⟨⟨by decide +kernel, by decide +kernel⟩, List.mem_of_getElem? (i := 174) (by decide +kernel), List.mem_of_getElem? (i := 405) (by decide +kernel), List.mem_of_getElem? (i := 406) (by decide +kernel)⟩
theorem lw_p9 : lw_okq (⟨"ShapedItems$ShapeReader", "readKey", "(II)V"⟩, 3) := ⟨⟨by decide +kernel, by decide +kernel⟩, List.mem_of_getElem? (i := 174) (by decide +kernel), List.mem_of_getElem? (i := 409) (by decide +kernel), List.mem_of_getElem? (i := 410) (by decide +kernel)⟩
theorem lw_p10 : lw_okq (⟨"ShapedItems$ShapeReader", "readTag", "(I)V"⟩, 3) := ⟨⟨by decide +kernel, by decide +kernel⟩, List.mem_of_getElem? (i := 174) (by decide +kernel), List.mem_of_getElem? (i := 413) (by decide +kernel), List.mem_of_getElem? (i := 414) (by decide +kernel)⟩
theorem lw_p11 : lw_okq (⟨"ShapedItems$ShapeReader", "isDigitHere", "()Z"⟩, 3) := ⟨⟨by decide +kernel, by decide +kernel⟩, List.mem_of_getElem? (i := 174) (by decide +kernel), List.mem_of_getElem? (i := 417) (by decide +kernel), List.mem_of_getElem? (i := 418) (by decide +kernel)⟩
theorem lw_p12 : lw_okq (⟨"ShapedItems$ShapeReader", "readText", "()V"⟩, 3) := ⟨⟨by decide +kernel, by decide +kernel⟩, List.mem_of_getElem? (i := 174) (by decide +kernel), List.mem_of_getElem? (i := 421) (by decide +kernel), List.mem_of_getElem? (i := 422) (by decide +kernel)⟩
theorem lw_p13 : lw_okq (⟨"ShapedItems$ShapeReader", "readIntegers", "()V"⟩, 3) := ⟨⟨by decide +kernel, by decide +kernel⟩, List.mem_of_getElem? (i := 174) (by decide +kernel), List.mem_of_getElem? (i := 425) (by decide +kernel), List.mem_of_getElem? (i := 426) (by decide +kernel)⟩
theorem lw_p14 : lw_okq (⟨"ShapedItems$ShapeReader", "readInteger", "()I"⟩, 3) := ⟨⟨by decide +kernel, by decide +kernel⟩, List.mem_of_getElem? (i := 174) (by decide +kernel), List.mem_of_getElem? (i := 429) (by decide +kernel), List.mem_of_getElem? (i := 430) (by decide +kernel)⟩
theorem lw_p15 : lw_okq (⟨"ShapedItems$ShapeReader", "readLetter", "(Z)V"⟩, 3) := ⟨⟨by decide +kernel, by decide +kernel⟩, List.mem_of_getElem? (i := 174) (by decide +kernel), List.mem_of_getElem? (i := 433) (by decide +kernel), List.mem_of_getElem? (i := 434) (by decide +kernel)⟩
def lw_privs_1 : List (MethodName × Nat) := [(⟨"java/lang/Throwable", "fillInStackTrace", "(I)Ljava/lang/Throwable;"⟩, 6), (⟨"ShapedItems$ShapeReader", "readType", "(IZ)I"⟩, 3), (⟨"ShapedItems$ShapeReader", "readAlternative", "(IZ)I"⟩, 3), (⟨"ShapedItems$ShapeReader", "here", "()C"⟩, 3), (⟨"ShapedItems$ShapeReader", "readBetween", "(IZ)I"⟩, 3), (⟨"ShapedItems$ShapeReader", "passes", "(C)Z"⟩, 3), (⟨"ShapedItems$ShapeReader", "readParts", "(CCI)V"⟩, 3), (⟨"ShapedItems$ShapeReader", "readPart", "(ICI)V"⟩, 3), (⟨"ShapedItems$ShapeReader", "readOften", "()C"⟩, 3), (⟨"ShapedItems$ShapeReader", "readKey", "(II)V"⟩, 3), (⟨"ShapedItems$ShapeReader", "readTag", "(I)V"⟩, 3), (⟨"ShapedItems$ShapeReader", "isDigitHere", "()Z"⟩, 3), (⟨"ShapedItems$ShapeReader", "readText", "()V"⟩, 3), (⟨"ShapedItems$ShapeReader", "readIntegers", "()V"⟩, 3), (⟨"ShapedItems$ShapeReader", "readInteger", "()I"⟩, 3), (⟨"ShapedItems$ShapeReader", "readLetter", "(Z)V"⟩, 3)]
theorem lw_r1 : ∀ q ∈ lw_privs_1, lw_okq q := List.forall_mem_cons.mpr ⟨lw_p0, List.forall_mem_cons.mpr ⟨lw_p1, List.forall_mem_cons.mpr ⟨lw_p2, List.forall_mem_cons.mpr ⟨lw_p3, List.forall_mem_cons.mpr ⟨lw_p4, List.forall_mem_cons.mpr ⟨lw_p5, List.forall_mem_cons.mpr ⟨lw_p6, List.forall_mem_cons.mpr ⟨lw_p7, List.forall_mem_cons.mpr ⟨lw_p8, List.forall_mem_cons.mpr ⟨lw_p9, List.forall_mem_cons.mpr ⟨lw_p10, List.forall_mem_cons.mpr ⟨lw_p11, List.forall_mem_cons.mpr ⟨lw_p12, List.forall_mem_cons.mpr ⟨lw_p13, List.forall_mem_cons.mpr ⟨lw_p14, List.forall_mem_cons.mpr ⟨lw_p15, fun _ h => absurd h List.not_mem_nil⟩⟩⟩⟩⟩⟩⟩⟩⟩⟩⟩⟩⟩⟩⟩⟩
theorem lw_p16 : lw_okq (⟨"ShapedItems$ShapeReader", "readSign", "()V"⟩, 3) := ⟨⟨by decide +kernel, by decide +kernel⟩, List.mem_of_getElem? (i := 174) (by decide +kernel), List.mem_of_getElem? (i := 437) (by decide +kernel), List.mem_of_getElem? (i := 438) (by decide +kernel)⟩
theorem lw_p17 : lw_okq (⟨"ShapedItems$ShapeReader", "chainLength", "(I)I"⟩, 3) := ⟨⟨by decide +kernel, by decide +kernel⟩, List.mem_of_getElem? (i := 174) (by decide +kernel), List.mem_of_getElem? (i := 441) (by decide +kernel), List.mem_of_getElem? (i := 442) (by decide +kernel)⟩
theorem lw_p18 : lw_okq (⟨"ShapedItems", "requireWellFormed", "()V"⟩, 6) := ⟨⟨by decide +kernel, by decide +kernel⟩, List.mem_of_getElem? (i := 19) (by decide +kernel), List.mem_of_getElem? (i := 464) (by decide +kernel), List.mem_of_getElem? (i := 465) (by decide +kernel)⟩
theorem lw_p19 : lw_okq (⟨"ShapedItems$ItemBytes", "readItem", "(I)Z"⟩, 11) := ⟨⟨by decide +kernel, by decide +kernel⟩, List.mem_of_getElem? (i := 27) (by decide +kernel), List.mem_of_getElem? (i := 472) (by decide +kernel), List.mem_of_getElem? (i := 473) (by decide +kernel)⟩
theorem lw_p20 : lw_okq (⟨"ShapedItems$ItemBytes", "readNumber", "(I)J"⟩, 11) := ⟨⟨by decide +kernel, by decide +kernel⟩, List.mem_of_getElem? (i := 27) (by decide +kernel), List.mem_of_getElem? (i := 476) (by decide +kernel), List.mem_of_getElem? (i := 477) (by decide +kernel)⟩
theorem lw_p21 : lw_okq (⟨"ShapedItems$ItemBytes", "readRest", "(IJI)Z"⟩, 11) := ⟨⟨by decide +kernel, by decide +kernel⟩, List.mem_of_getElem? (i := 27) (by decide +kernel), List.mem_of_getElem? (i := 482) (by decide +kernel), List.mem_of_getElem? (i := 483) (by decide +kernel)⟩
theorem lw_p22 : lw_okq (⟨"ShapedItems$ItemBytes", "readCharacters", "(JZ)Z"⟩, 11) := ⟨⟨by decide +kernel, by decide +kernel⟩, List.mem_of_getElem? (i := 27) (by decide +kernel), List.mem_of_getElem? (i := 486) (by decide +kernel), List.mem_of_getElem? (i := 487) (by decide +kernel)⟩
theorem lw_p23 : lw_okq (⟨"ShapedItems$ItemBytes", "readItems", "(JI)Z"⟩, 11) := ⟨⟨by decide +kernel, by decide +kernel⟩, List.mem_of_getElem? (i := 27) (by decide +kernel), List.mem_of_getElem? (i := 491) (by decide +kernel), List.mem_of_getElem? (i := 492) (by decide +kernel)⟩
theorem lw_p24 : lw_okq (⟨"ShapedItems", "requireItem", "(I)V"⟩, 6) := ⟨⟨by decide +kernel, by decide +kernel⟩, List.mem_of_getElem? (i := 19) (by decide +kernel), List.mem_of_getElem? (i := 505) (by decide +kernel), List.mem_of_getElem? (i := 506) (by decide +kernel)⟩
theorem lw_p25 : lw_okq (⟨"ShapedItems", "requireSoundRules", "(I)I"⟩, 6) := ⟨⟨by decide +kernel, by decide +kernel⟩, List.mem_of_getElem? (i := 19) (by decide +kernel), List.mem_of_getElem? (i := 533) (by decide +kernel), List.mem_of_getElem? (i := 534) (by decide +kernel)⟩
theorem lw_p26 : lw_okq (⟨"ShapedItems$RuleBook", "ledToOnce", "(IZ)I"⟩, 1) := ⟨⟨by decide +kernel, by decide +kernel⟩, List.mem_of_getElem? (i := 79) (by decide +kernel), List.mem_of_getElem? (i := 541) (by decide +kernel), List.mem_of_getElem? (i := 542) (by decide +kernel)⟩
theorem lw_p27 : lw_okq (⟨"ShapedItems$Matcher", "fitsRule", "(III)Z"⟩, 4) := ⟨⟨by decide +kernel, by decide +kernel⟩, List.mem_of_getElem? (i := 192) (by decide +kernel), List.mem_of_getElem? (i := 609) (by decide +kernel), List.mem_of_getElem? (i := 610) (by decide +kernel)⟩
theorem lw_p28 : lw_okq (⟨"ShapedItems$Matcher", "fitsType", "(LShapedItems$Shape;III)Z"⟩, 4) := ⟨⟨by decide +kernel, by decide +kernel⟩, List.mem_of_getElem? (i := 192) (by decide +kernel), List.mem_of_getElem? (i := 613) (by decide +kernel), List.mem_of_getElem? (i := 614) (by decide +kernel)⟩
theorem lw_p29 : lw_okq (⟨"ShapedItems$Matcher", "fitsAlternative", "(LShapedItems$Shape;III)Z"⟩, 4) := ⟨⟨by decide +kernel, by decide +kernel⟩, List.mem_of_getElem? (i := 192) (by decide +kernel), List.mem_of_getElem? (i := 617) (by decide +kernel), List.mem_of_getElem? (i := 618) (by decide +kernel)⟩
theorem lw_p30 : lw_okq (⟨"ShapedItems$Matcher", "isBetween", "(III)Z"⟩, 4) := ⟨⟨by decide +kernel, by decide +kernel⟩, List.mem_of_getElem? (i := 192) (by decide +kernel), List.mem_of_getElem? (i := 626) (by decide +kernel), List.mem_of_getElem? (i := 627) (by decide +kernel)⟩
theorem lw_p31 : lw_okq (⟨"ShapedItems$Matcher", "hasCharacters", "(ILShapedItems$Shape;I)Z"⟩, 4) := ⟨⟨by decide +kernel, by decide +kernel⟩, List.mem_of_getElem? (i := 192) (by decide +kernel), List.mem_of_getElem? (i := 634) (by decide +kernel), List.mem_of_getElem? (i := 635) (by decide +kernel)⟩
def lw_privs_2 : List (MethodName × Nat) := [(⟨"ShapedItems$ShapeReader", "readSign", "()V"⟩, 3), (⟨"ShapedItems$ShapeReader", "chainLength", "(I)I"⟩, 3), (⟨"ShapedItems", "requireWellFormed", "()V"⟩, 6), (⟨"ShapedItems$ItemBytes", "readItem", "(I)Z"⟩, 11), (⟨"ShapedItems$ItemBytes", "readNumber", "(I)J"⟩, 11), (⟨"ShapedItems$ItemBytes", "readRest", "(IJI)Z"⟩, 11), (⟨"ShapedItems$ItemBytes", "readCharacters", "(JZ)Z"⟩, 11), (⟨"ShapedItems$ItemBytes", "readItems", "(JI)Z"⟩, 11), (⟨"ShapedItems", "requireItem", "(I)V"⟩, 6), (⟨"ShapedItems", "requireSoundRules", "(I)I"⟩, 6), (⟨"ShapedItems$RuleBook", "ledToOnce", "(IZ)I"⟩, 1), (⟨"ShapedItems$Matcher", "fitsRule", "(III)Z"⟩, 4), (⟨"ShapedItems$Matcher", "fitsType", "(LShapedItems$Shape;III)Z"⟩, 4), (⟨"ShapedItems$Matcher", "fitsAlternative", "(LShapedItems$Shape;III)Z"⟩, 4), (⟨"ShapedItems$Matcher", "isBetween", "(III)Z"⟩, 4), (⟨"ShapedItems$Matcher", "hasCharacters", "(ILShapedItems$Shape;I)Z"⟩, 4)]
theorem lw_r2 : ∀ q ∈ lw_privs_2, lw_okq q := List.forall_mem_cons.mpr ⟨lw_p16, List.forall_mem_cons.mpr ⟨lw_p17, List.forall_mem_cons.mpr ⟨lw_p18, List.forall_mem_cons.mpr ⟨lw_p19, List.forall_mem_cons.mpr ⟨lw_p20, List.forall_mem_cons.mpr ⟨lw_p21, List.forall_mem_cons.mpr ⟨lw_p22, List.forall_mem_cons.mpr ⟨lw_p23, List.forall_mem_cons.mpr ⟨lw_p24, List.forall_mem_cons.mpr ⟨lw_p25, List.forall_mem_cons.mpr ⟨lw_p26, List.forall_mem_cons.mpr ⟨lw_p27, List.forall_mem_cons.mpr ⟨lw_p28, List.forall_mem_cons.mpr ⟨lw_p29, List.forall_mem_cons.mpr ⟨lw_p30, List.forall_mem_cons.mpr ⟨lw_p31, fun _ h => absurd h List.not_mem_nil⟩⟩⟩⟩⟩⟩⟩⟩⟩⟩⟩⟩⟩⟩⟩⟩
theorem lw_p32 : lw_okq (⟨"ShapedItems$Matcher", "fitsEntries", "(LShapedItems$Shape;III)Z"⟩, 4) := ⟨⟨by decide +kernel, by decide +kernel⟩, List.mem_of_getElem? (i := 192) (by decide +kernel), List.mem_of_getElem? (i := 638) (by decide +kernel), List.mem_of_getElem? (i := 639) (by decide +kernel)⟩
theorem lw_p33 : lw_okq (⟨"ShapedItems$Matcher", "itemBehindEntry", "(LShapedItems$Shape;IIII)I"⟩, 4) := ⟨⟨by decide +kernel, by decide +kernel⟩, List.mem_of_getElem? (i := 192) (by decide +kernel), List.mem_of_getElem? (i := 642) (by decide +kernel), List.mem_of_getElem? (i := 643) (by decide +kernel)⟩
theorem lw_p34 : lw_okq (⟨"ShapedItems$Matcher", "fitsMembers", "(LShapedItems$Shape;III)Z"⟩, 4) := ⟨⟨by decide +kernel, by decide +kernel⟩, List.mem_of_getElem? (i := 192) (by decide +kernel), List.mem_of_getElem? (i := 654) (by decide +kernel), List.mem_of_getElem? (i := 655) (by decide +kernel)⟩
theorem lw_p35 : lw_okq (⟨"ShapedItems$Matcher", "setsWithPair", "(LShapedItems$Shape;IIIJ)J"⟩, 4) := ⟨⟨by decide +kernel, by decide +kernel⟩, List.mem_of_getElem? (i := 192) (by decide +kernel), List.mem_of_getElem? (i := 658) (by decide +kernel), List.mem_of_getElem? (i := 659) (by decide +kernel)⟩
theorem lw_p36 : lw_okq (⟨"ShapedItemsModel", "read", "()Z"⟩, 37) := ⟨⟨by decide +kernel, by decide +kernel⟩, List.mem_of_getElem? (i := 672) (by decide +kernel), List.mem_of_getElem? (i := 811) (by decide +kernel), List.mem_of_getElem? (i := 812) (by decide +kernel)⟩
theorem lw_p37 : lw_okq (⟨"ShapedItemsModel", "newType", "()I"⟩, 37) := ⟨⟨by decide +kernel, by decide +kernel⟩, List.mem_of_getElem? (i := 672) (by decide +kernel), List.mem_of_getElem? (i := 815) (by decide +kernel), List.mem_of_getElem? (i := 816) (by decide +kernel)⟩
theorem lw_p38 : lw_okq (⟨"ShapedItemsModel", "make", "(III)I"⟩, 37) := ⟨⟨by decide +kernel, by decide +kernel⟩, List.mem_of_getElem? (i := 672) (by decide +kernel), List.mem_of_getElem? (i := 819) (by decide +kernel), List.mem_of_getElem? (i := 820) (by decide +kernel)⟩
theorem lw_p39 : lw_okq (⟨"ShapedItemsModel", "simple", "()Z"⟩, 37) := ⟨⟨by decide +kernel, by decide +kernel⟩, List.mem_of_getElem? (i := 672) (by decide +kernel), List.mem_of_getElem? (i := 823) (by decide +kernel), List.mem_of_getElem? (i := 824) (by decide +kernel)⟩
theorem lw_p40 : lw_okq (⟨"ShapedItemsModel", "look", "()I"⟩, 37) := ⟨⟨by decide +kernel, by decide +kernel⟩, List.mem_of_getElem? (i := 672) (by decide +kernel), List.mem_of_getElem? (i := 827) (by decide +kernel), List.mem_of_getElem? (i := 828) (by decide +kernel)⟩
theorem lw_p41 : lw_okq (⟨"ShapedItemsModel", "integers", "()I"⟩, 37) := ⟨⟨by decide +kernel, by decide +kernel⟩, List.mem_of_getElem? (i := 672) (by decide +kernel), List.mem_of_getElem? (i := 837) (by decide +kernel), List.mem_of_getElem? (i := 838) (by decide +kernel)⟩
theorem lw_p42 : lw_okq (⟨"ShapedItemsModel", "integer", "()I"⟩, 37) := ⟨⟨by decide +kernel, by decide +kernel⟩, List.mem_of_getElem? (i := 672) (by decide +kernel), List.mem_of_getElem? (i := 841) (by decide +kernel), List.mem_of_getElem? (i := 842) (by decide +kernel)⟩
theorem lw_p43 : lw_okq (⟨"ShapedItemsModel", "takes", "(I)Z"⟩, 37) := ⟨⟨by decide +kernel, by decide +kernel⟩, List.mem_of_getElem? (i := 672) (by decide +kernel), List.mem_of_getElem? (i := 845) (by decide +kernel), List.mem_of_getElem? (i := 846) (by decide +kernel)⟩
theorem lw_p44 : lw_okq (⟨"ShapedItemsModel", "literal", "()I"⟩, 37) := ⟨⟨by decide +kernel, by decide +kernel⟩, List.mem_of_getElem? (i := 672) (by decide +kernel), List.mem_of_getElem? (i := 849) (by decide +kernel), List.mem_of_getElem? (i := 850) (by decide +kernel)⟩
theorem lw_p45 : lw_okq (⟨"ShapedItemsModel", "letter", "(I)I"⟩, 37) := ⟨⟨by decide +kernel, by decide +kernel⟩, List.mem_of_getElem? (i := 672) (by decide +kernel), List.mem_of_getElem? (i := 853) (by decide +kernel), List.mem_of_getElem? (i := 854) (by decide +kernel)⟩
theorem lw_p46 : lw_okq (⟨"ShapedItemsModel", "isBare", "()Z"⟩, 37) := ⟨⟨by decide +kernel, by decide +kernel⟩, List.mem_of_getElem? (i := 672) (by decide +kernel), List.mem_of_getElem? (i := 857) (by decide +kernel), List.mem_of_getElem? (i := 858) (by decide +kernel)⟩
theorem lw_p47 : lw_okq (⟨"ShapedItemsModel", "attach", "(I)V"⟩, 37) := ⟨⟨by decide +kernel, by decide +kernel⟩, List.mem_of_getElem? (i := 672) (by decide +kernel), List.mem_of_getElem? (i := 861) (by decide +kernel), List.mem_of_getElem? (i := 862) (by decide +kernel)⟩
def lw_privs_3 : List (MethodName × Nat) := [(⟨"ShapedItems$Matcher", "fitsEntries", "(LShapedItems$Shape;III)Z"⟩, 4), (⟨"ShapedItems$Matcher", "itemBehindEntry", "(LShapedItems$Shape;IIII)I"⟩, 4), (⟨"ShapedItems$Matcher", "fitsMembers", "(LShapedItems$Shape;III)Z"⟩, 4), (⟨"ShapedItems$Matcher", "setsWithPair", "(LShapedItems$Shape;IIIJ)J"⟩, 4), (⟨"ShapedItemsModel", "read", "()Z"⟩, 37), (⟨"ShapedItemsModel", "newType", "()I"⟩, 37), (⟨"ShapedItemsModel", "make", "(III)I"⟩, 37), (⟨"ShapedItemsModel", "simple", "()Z"⟩, 37), (⟨"ShapedItemsModel", "look", "()I"⟩, 37), (⟨"ShapedItemsModel", "integers", "()I"⟩, 37), (⟨"ShapedItemsModel", "integer", "()I"⟩, 37), (⟨"ShapedItemsModel", "takes", "(I)Z"⟩, 37), (⟨"ShapedItemsModel", "literal", "()I"⟩, 37), (⟨"ShapedItemsModel", "letter", "(I)I"⟩, 37), (⟨"ShapedItemsModel", "isBare", "()Z"⟩, 37), (⟨"ShapedItemsModel", "attach", "(I)V"⟩, 37)]
theorem lw_r3 : ∀ q ∈ lw_privs_3, lw_okq q := List.forall_mem_cons.mpr ⟨lw_p32, List.forall_mem_cons.mpr ⟨lw_p33, List.forall_mem_cons.mpr ⟨lw_p34, List.forall_mem_cons.mpr ⟨lw_p35, List.forall_mem_cons.mpr ⟨lw_p36, List.forall_mem_cons.mpr ⟨lw_p37, List.forall_mem_cons.mpr ⟨lw_p38, List.forall_mem_cons.mpr ⟨lw_p39, List.forall_mem_cons.mpr ⟨lw_p40, List.forall_mem_cons.mpr ⟨lw_p41, List.forall_mem_cons.mpr ⟨lw_p42, List.forall_mem_cons.mpr ⟨lw_p43, List.forall_mem_cons.mpr ⟨lw_p44, List.forall_mem_cons.mpr ⟨lw_p45, List.forall_mem_cons.mpr ⟨lw_p46, List.forall_mem_cons.mpr ⟨lw_p47, fun _ h => absurd h List.not_mem_nil⟩⟩⟩⟩⟩⟩⟩⟩⟩⟩⟩⟩⟩⟩⟩⟩
theorem lw_p48 : lw_okq (⟨"ShapedItemsModel", "opens", "()Z"⟩, 37) := ⟨⟨by decide +kernel, by decide +kernel⟩, List.mem_of_getElem? (i := 672) (by decide +kernel), List.mem_of_getElem? (i := 865) (by decide +kernel), List.mem_of_getElem? (i := 866) (by decide +kernel)⟩
theorem lw_p49 : lw_okq (⟨"ShapedItemsModel", "push", "(II)V"⟩, 37) := ⟨⟨by decide +kernel, by decide +kernel⟩, List.mem_of_getElem? (i := 672) (by decide +kernel), List.mem_of_getElem? (i := 869) (by decide +kernel), List.mem_of_getElem? (i := 870) (by decide +kernel)⟩
theorem lw_p50 : lw_okq (⟨"ShapedItemsModel", "newPart", "()V"⟩, 37) := ⟨⟨by decide +kernel, by decide +kernel⟩, List.mem_of_getElem? (i := 672) (by decide +kernel), List.mem_of_getElem? (i := 873) (by decide +kernel), List.mem_of_getElem? (i := 874) (by decide +kernel)⟩
theorem lw_p51 : lw_okq (⟨"ShapedItemsModel", "goesOn", "()Z"⟩, 37) := ⟨⟨by decide +kernel, by decide +kernel⟩, List.mem_of_getElem? (i := 672) (by decide +kernel), List.mem_of_getElem? (i := 877) (by decide +kernel), List.mem_of_getElem? (i := 878) (by decide +kernel)⟩
theorem lw_p52 : lw_okq (⟨"ShapedItemsModel", "refusal", "(I)I"⟩, 37) := ⟨⟨by decide +kernel, by decide +kernel⟩, List.mem_of_getElem? (i := 672) (by decide +kernel), List.mem_of_getElem? (i := 889) (by decide +kernel), List.mem_of_getElem? (i := 890) (by decide +kernel)⟩
theorem lw_p53 : lw_okq (⟨"ShapedItemsModel", "closure", "(IZ)I"⟩, 37) := ⟨⟨by decide +kernel, by decide +kernel⟩, List.mem_of_getElem? (i := 672) (by decide +kernel), List.mem_of_getElem? (i := 893) (by decide +kernel), List.mem_of_getElem? (i := 894) (by decide +kernel)⟩
theorem lw_p54 : lw_okq (⟨"ShapedItemsModel", "readItems", "()Z"⟩, 37) := ⟨⟨by decide +kernel, by decide +kernel⟩, List.mem_of_getElem? (i := 672) (by decide +kernel), List.mem_of_getElem? (i := 901) (by decide +kernel), List.mem_of_getElem? (i := 902) (by decide +kernel)⟩
theorem lw_p55 : lw_okq (⟨"ShapedItemsModel", "isText", "(II)Z"⟩, 37) := ⟨⟨by decide +kernel, by decide +kernel⟩, List.mem_of_getElem? (i := 672) (by decide +kernel), List.mem_of_getElem? (i := 909) (by decide +kernel), List.mem_of_getElem? (i := 910) (by decide +kernel)⟩
theorem lw_p56 : lw_okq (⟨"ShapedItemsModel", "closed", "(I)I"⟩, 37) := ⟨⟨by decide +kernel, by decide +kernel⟩, List.mem_of_getElem? (i := 672) (by decide +kernel), List.mem_of_getElem? (i := 914) (by decide +kernel), List.mem_of_getElem? (i := 915) (by decide +kernel)⟩
theorem lw_p57 : lw_okq (⟨"ShapedItemsModel", "hasItem", "(I)Z"⟩, 37) := ⟨⟨by decide +kernel, by decide +kernel⟩, List.mem_of_getElem? (i := 672) (by decide +kernel), List.mem_of_getElem? (i := 922) (by decide +kernel), List.mem_of_getElem? (i := 923) (by decide +kernel)⟩
theorem lw_p58 : lw_okq (⟨"ShapedItemsModel", "matchAll", "(I)V"⟩, 37) := ⟨⟨by decide +kernel, by decide +kernel⟩, List.mem_of_getElem? (i := 672) (by decide +kernel), List.mem_of_getElem? (i := 938) (by decide +kernel), List.mem_of_getElem? (i := 939) (by decide +kernel)⟩
theorem lw_p59 : lw_okq (⟨"ShapedItemsModel", "fits", "(III)Z"⟩, 37) := ⟨⟨by decide +kernel, by decide +kernel⟩, List.mem_of_getElem? (i := 672) (by decide +kernel), List.mem_of_getElem? (i := 942) (by decide +kernel), List.mem_of_getElem? (i := 943) (by decide +kernel)⟩
theorem lw_p60 : lw_okq (⟨"ShapedItemsModel", "value", "(I)J"⟩, 37) := ⟨⟨by decide +kernel, by decide +kernel⟩, List.mem_of_getElem? (i := 672) (by decide +kernel), List.mem_of_getElem? (i := 947) (by decide +kernel), List.mem_of_getElem? (i := 948) (by decide +kernel)⟩
theorem lw_p61 : lw_okq (⟨"ShapedItemsModel", "isLiteral", "(II)Z"⟩, 37) := ⟨⟨by decide +kernel, by decide +kernel⟩, List.mem_of_getElem? (i := 672) (by decide +kernel), List.mem_of_getElem? (i := 952) (by decide +kernel), List.mem_of_getElem? (i := 953) (by decide +kernel)⟩
theorem lw_p62 : lw_okq (⟨"ShapedItemsModel", "takesAll", "(III)Z"⟩, 37) := ⟨⟨by decide +kernel, by decide +kernel⟩, List.mem_of_getElem? (i := 672) (by decide +kernel), List.mem_of_getElem? (i := 956) (by decide +kernel), List.mem_of_getElem? (i := 957) (by decide +kernel)⟩
theorem lw_p63 : lw_okq (⟨"ShapedItemsModel", "has", "(III)Z"⟩, 37) := ⟨⟨by decide +kernel, by decide +kernel⟩, List.mem_of_getElem? (i := 672) (by decide +kernel), List.mem_of_getElem? (i := 960) (by decide +kernel), List.mem_of_getElem? (i := 961) (by decide +kernel)⟩
def lw_privs_4 : List (MethodName × Nat) := [(⟨"ShapedItemsModel", "opens", "()Z"⟩, 37), (⟨"ShapedItemsModel", "push", "(II)V"⟩, 37), (⟨"ShapedItemsModel", "newPart", "()V"⟩, 37), (⟨"ShapedItemsModel", "goesOn", "()Z"⟩, 37), (⟨"ShapedItemsModel", "refusal", "(I)I"⟩, 37), (⟨"ShapedItemsModel", "closure", "(IZ)I"⟩, 37), (⟨"ShapedItemsModel", "readItems", "()Z"⟩, 37), (⟨"ShapedItemsModel", "isText", "(II)Z"⟩, 37), (⟨"ShapedItemsModel", "closed", "(I)I"⟩, 37), (⟨"ShapedItemsModel", "hasItem", "(I)Z"⟩, 37), (⟨"ShapedItemsModel", "matchAll", "(I)V"⟩, 37), (⟨"ShapedItemsModel", "fits", "(III)Z"⟩, 37), (⟨"ShapedItemsModel", "value", "(I)J"⟩, 37), (⟨"ShapedItemsModel", "isLiteral", "(II)Z"⟩, 37), (⟨"ShapedItemsModel", "takesAll", "(III)Z"⟩, 37), (⟨"ShapedItemsModel", "has", "(III)Z"⟩, 37)]
theorem lw_r4 : ∀ q ∈ lw_privs_4, lw_okq q := List.forall_mem_cons.mpr ⟨lw_p48, List.forall_mem_cons.mpr ⟨lw_p49, List.forall_mem_cons.mpr ⟨lw_p50, List.forall_mem_cons.mpr ⟨lw_p51, List.forall_mem_cons.mpr ⟨lw_p52, List.forall_mem_cons.mpr ⟨lw_p53, List.forall_mem_cons.mpr ⟨lw_p54, List.forall_mem_cons.mpr ⟨lw_p55, List.forall_mem_cons.mpr ⟨lw_p56, List.forall_mem_cons.mpr ⟨lw_p57, List.forall_mem_cons.mpr ⟨lw_p58, List.forall_mem_cons.mpr ⟨lw_p59, List.forall_mem_cons.mpr ⟨lw_p60, List.forall_mem_cons.mpr ⟨lw_p61, List.forall_mem_cons.mpr ⟨lw_p62, List.forall_mem_cons.mpr ⟨lw_p63, fun _ h => absurd h List.not_mem_nil⟩⟩⟩⟩⟩⟩⟩⟩⟩⟩⟩⟩⟩⟩⟩⟩
theorem lw_p64 : lw_okq (⟨"ShapedItemsModel", "sharesOut", "(III)Z"⟩, 37) := ⟨⟨by decide +kernel, by decide +kernel⟩, List.mem_of_getElem? (i := 672) (by decide +kernel), List.mem_of_getElem? (i := 964) (by decide +kernel), List.mem_of_getElem? (i := 965) (by decide +kernel)⟩
theorem lw_p65 : lw_okq (⟨"ShapedItemsModel", "may", "(IIII)Z"⟩, 37) := ⟨⟨by decide +kernel, by decide +kernel⟩, List.mem_of_getElem? (i := 672) (by decide +kernel), List.mem_of_getElem? (i := 968) (by decide +kernel), List.mem_of_getElem? (i := 969) (by decide +kernel)⟩
theorem lw_p66 : lw_okq (⟨"ShapedItemsModel", "isAny", "(III)Z"⟩, 37) := ⟨⟨by decide +kernel, by decide +kernel⟩, List.mem_of_getElem? (i := 672) (by decide +kernel), List.mem_of_getElem? (i := 972) (by decide +kernel), List.mem_of_getElem? (i := 973) (by decide +kernel)⟩
def lw_privs_5 : List (MethodName × Nat) := [(⟨"ShapedItemsModel", "sharesOut", "(III)Z"⟩, 37), (⟨"ShapedItemsModel", "may", "(IIII)Z"⟩, 37), (⟨"ShapedItemsModel", "isAny", "(III)Z"⟩, 37)]
theorem lw_r5 : ∀ q ∈ lw_privs_5, lw_okq q := List.forall_mem_cons.mpr ⟨lw_p64, List.forall_mem_cons.mpr ⟨lw_p65, List.forall_mem_cons.mpr ⟨lw_p66, fun _ h => absurd h List.not_mem_nil⟩⟩⟩
def lw_privs : List (MethodName × Nat) := lw_privs_1 ++ (lw_privs_2 ++ (lw_privs_3 ++ (lw_privs_4 ++ (lw_privs_5))))
def lw_tbl : List Cond := k2_sels lw_privs ++ tables_1
theorem lw_privs_ok : ∀ q ∈ lw_privs, lw_okq q := by
  show ∀ q ∈ lw_privs_1 ++ (lw_privs_2 ++ (lw_privs_3 ++ (lw_privs_4 ++ (lw_privs_5)))), lw_okq q
  exact List.forall_mem_append.mpr ⟨lw_r1, List.forall_mem_append.mpr ⟨lw_r2, List.forall_mem_append.mpr ⟨lw_r3, List.forall_mem_append.mpr ⟨lw_r4, lw_r5⟩⟩⟩⟩
-- ===== end of PART A; then your names; then what follows =====
end
section
def ab_br {α : Type} (i c : Nat) (a b : α) : α := bif Nat.blt i c then a else b
def ab_le0 {α : Type} (i c : Nat) (a b : α) : α := bif Nat.beq i c then a else b
def ab_lf (i c : Nat) (x : Instr) (a b d : Nat) : Option (Instr × Nat × Nat × Nat) := bif Nat.beq i c then some (x, a, b, d) else none
def ab_cn (c : Nat) : String := (ab_br c 5 (ab_br c 2 (ab_br c 1 (ab_le0 c 0 "ShapedItems" "") (ab_le0 c 1 "ShapedItems$ItemBytes" "")) (ab_br c 3 (ab_le0 c 2 "ShapedItems$Shape" "") (ab_br c 4 (ab_le0 c 3 "ShapedItems$ShapeReader" "") (ab_le0 c 4 "ShapedItems$RuleBook" "")))) (ab_br c 7 (ab_br c 6 (ab_le0 c 5 "ShapedItems$Matcher" "") (ab_le0 c 6 "ShapedItemsModel" "")) (ab_br c 8 (ab_le0 c 7 "ShapedItemsLaw" "") (ab_br c 9 (ab_le0 c 8 "java/lang/Integer" "") (ab_le0 c 9 "java/util/Arrays" "")))))
def ab_by (k : Nat) : ByteArray := (ab_br k 67 (ab_br k 33 (ab_br k 16 (ab_br k 8 (ab_br k 4 (ab_br k 2 (ab_br k 1 (ab_le0 k 0 prog_1_method_1_code .empty) (ab_le0 k 1 prog_1_method_2_code .empty)) (ab_br k 3 (ab_le0 k 2 prog_1_method_3_code .empty) (ab_le0 k 3 prog_1_method_4_code .empty))) (ab_br k 6 (ab_br k 5 (ab_le0 k 4 prog_1_method_5_code .empty) (ab_le0 k 5 prog_1_method_6_code .empty)) (ab_br k 7 (ab_le0 k 6 prog_1_method_7_code .empty) (ab_le0 k 7 prog_1_method_8_code .empty)))) (ab_br k 12 (ab_br k 10 (ab_br k 9 (ab_le0 k 8 prog_1_method_9_code .empty) (ab_le0 k 9 prog_1_method_10_code .empty)) (ab_br k 11 (ab_le0 k 10 prog_1_method_11_code .empty) (ab_le0 k 11 prog_1_method_12_code .empty))) (ab_br k 14 (ab_br k 13 (ab_le0 k 12 prog_1_method_13_code .empty) (ab_le0 k 13 prog_1_method_14_code .empty)) (ab_br k 15 (ab_le0 k 14 prog_1_method_15_code .empty) (ab_le0 k 15 prog_1_method_16_code .empty))))) (ab_br k 24 (ab_br k 20 (ab_br k 18 (ab_br k 17 (ab_le0 k 16 prog_1_method_17_code .empty) (ab_le0 k 17 prog_1_method_18_code .empty)) (ab_br k 19 (ab_le0 k 18 prog_1_method_19_code .empty) (ab_le0 k 19 prog_1_method_20_code .empty))) (ab_br k 22 (ab_br k 21 (ab_le0 k 20 prog_2_method_1_code .empty) (ab_le0 k 21 prog_2_method_2_code .empty)) (ab_br k 23 (ab_le0 k 22 prog_2_method_3_code .empty) (ab_le0 k 23 prog_2_method_4_code .empty)))) (ab_br k 28 (ab_br k 26 (ab_br k 25 (ab_le0 k 24 prog_2_method_5_code .empty) (ab_le0 k 25 prog_2_method_6_code .empty)) (ab_br k 27 (ab_le0 k 26 prog_2_method_7_code .empty) (ab_le0 k 27 prog_2_method_8_code .empty))) (ab_br k 30 (ab_br k 29 (ab_le0 k 28 prog_2_method_9_code .empty) (ab_le0 k 29 prog_2_method_10_code .empty)) (ab_br k 31 (ab_le0 k 30 prog_2_method_11_code .empty) (ab_br k 32 (ab_le0 k 31 prog_5_method_1_code .empty) (ab_le0 k 32 prog_5_method_2_code .empty))))))) (ab_br k 50 (ab_br k 41 (ab_br k 37 (ab_br k 35 (ab_br k 34 (ab_le0 k 33 prog_5_method_3_code .empty) (ab_le0 k 34 prog_5_method_4_code .empty)) (ab_br k 36 (ab_le0 k 35 prog_6_method_1_code .empty) (ab_le0 k 36 prog_6_method_2_code .empty))) (ab_br k 39 (ab_br k 38 (ab_le0 k 37 prog_6_method_3_code .empty) (ab_le0 k 38 prog_6_method_4_code .empty)) (ab_br k 40 (ab_le0 k 39 prog_6_method_5_code .empty) (ab_le0 k 40 prog_6_method_6_code .empty)))) (ab_br k 45 (ab_br k 43 (ab_br k 42 (ab_le0 k 41 prog_6_method_7_code .empty) (ab_le0 k 42 prog_6_method_8_code .empty)) (ab_br k 44 (ab_le0 k 43 prog_6_method_9_code .empty) (ab_le0 k 44 prog_6_method_10_code .empty))) (ab_br k 47 (ab_br k 46 (ab_le0 k 45 prog_6_method_11_code .empty) (ab_le0 k 46 prog_6_method_12_code .empty)) (ab_br k 48 (ab_le0 k 47 prog_6_method_13_code .empty) (ab_br k 49 (ab_le0 k 48 prog_6_method_14_code .empty) (ab_le0 k 49 prog_6_method_15_code .empty)))))) (ab_br k 58 (ab_br k 54 (ab_br k 52 (ab_br k 51 (ab_le0 k 50 prog_6_method_16_code .empty) (ab_le0 k 51 prog_6_method_17_code .empty)) (ab_br k 53 (ab_le0 k 52 prog_6_method_18_code .empty) (ab_le0 k 53 prog_6_method_19_code .empty))) (ab_br k 56 (ab_br k 55 (ab_le0 k 54 prog_6_method_20_code .empty) (ab_le0 k 55 prog_6_method_21_code .empty)) (ab_br k 57 (ab_le0 k 56 prog_4_method_1_code .empty) (ab_le0 k 57 prog_4_method_2_code .empty)))) (ab_br k 62 (ab_br k 60 (ab_br k 59 (ab_le0 k 58 prog_4_method_3_code .empty) (ab_le0 k 59 prog_4_method_4_code .empty)) (ab_br k 61 (ab_le0 k 60 prog_4_method_5_code .empty) (ab_le0 k 61 prog_4_method_6_code .empty))) (ab_br k 64 (ab_br k 63 (ab_le0 k 62 prog_3_method_1_code .empty) (ab_le0 k 63 prog_3_method_2_code .empty)) (ab_br k 65 (ab_le0 k 64 prog_3_method_3_code .empty) (ab_br k 66 (ab_le0 k 65 prog_3_method_4_code .empty) (ab_le0 k 66 prog_3_method_5_code .empty)))))))) (ab_br k 100 (ab_br k 83 (ab_br k 75 (ab_br k 71 (ab_br k 69 (ab_br k 68 (ab_le0 k 67 prog_3_method_6_code .empty) (ab_le0 k 68 prog_3_method_7_code .empty)) (ab_br k 70 (ab_le0 k 69 prog_3_method_8_code .empty) (ab_le0 k 70 prog_3_method_9_code .empty))) (ab_br k 73 (ab_br k 72 (ab_le0 k 71 prog_3_method_10_code .empty) (ab_le0 k 72 prog_3_method_11_code .empty)) (ab_br k 74 (ab_le0 k 73 prog_8_method_1_code .empty) (ab_le0 k 74 prog_8_method_2_code .empty)))) (ab_br k 79 (ab_br k 77 (ab_br k 76 (ab_le0 k 75 prog_8_method_3_code .empty) (ab_le0 k 76 prog_8_method_4_code .empty)) (ab_br k 78 (ab_le0 k 77 prog_8_method_5_code .empty) (ab_le0 k 78 prog_8_method_6_code .empty))) (ab_br k 81 (ab_br k 80 (ab_le0 k 79 prog_8_method_7_code .empty) (ab_le0 k 80 prog_8_method_8_code .empty)) (ab_br k 82 (ab_le0 k 81 prog_8_method_9_code .empty) (ab_le0 k 82 prog_8_method_10_code .empty))))) (ab_br k 91 (ab_br k 87 (ab_br k 85 (ab_br k 84 (ab_le0 k 83 prog_8_method_11_code .empty) (ab_le0 k 84 prog_8_method_12_code .empty)) (ab_br k 86 (ab_le0 k 85 prog_8_method_13_code .empty) (ab_le0 k 86 prog_8_method_14_code .empty))) (ab_br k 89 (ab_br k 88 (ab_le0 k 87 prog_8_method_15_code .empty) (ab_le0 k 88 prog_8_method_16_code .empty)) (ab_br k 90 (ab_le0 k 89 prog_8_method_17_code .empty) (ab_le0 k 90 prog_8_method_18_code .empty)))) (ab_br k 95 (ab_br k 93 (ab_br k 92 (ab_le0 k 91 prog_8_method_19_code .empty) (ab_le0 k 92 prog_8_method_20_code .empty)) (ab_br k 94 (ab_le0 k 93 prog_8_method_21_code .empty) (ab_le0 k 94 prog_8_method_22_code .empty))) (ab_br k 97 (ab_br k 96 (ab_le0 k 95 prog_8_method_23_code .empty) (ab_le0 k 96 prog_8_method_24_code .empty)) (ab_br k 98 (ab_le0 k 97 prog_8_method_25_code .empty) (ab_br k 99 (ab_le0 k 98 prog_8_method_26_code .empty) (ab_le0 k 99 prog_8_method_27_code .empty))))))) (ab_br k 117 (ab_br k 108 (ab_br k 104 (ab_br k 102 (ab_br k 101 (ab_le0 k 100 prog_8_method_28_code .empty) (ab_le0 k 101 prog_8_method_29_code .empty)) (ab_br k 103 (ab_le0 k 102 prog_8_method_30_code .empty) (ab_le0 k 103 prog_8_method_31_code .empty))) (ab_br k 106 (ab_br k 105 (ab_le0 k 104 prog_8_method_32_code .empty) (ab_le0 k 105 prog_8_method_33_code .empty)) (ab_br k 107 (ab_le0 k 106 prog_8_method_34_code .empty) (ab_le0 k 107 prog_8_method_35_code .empty)))) (ab_br k 112 (ab_br k 110 (ab_br k 109 (ab_le0 k 108 prog_8_method_36_code .empty) (ab_le0 k 109 prog_8_method_37_code .empty)) (ab_br k 111 (ab_le0 k 110 prog_8_method_38_code .empty) (ab_le0 k 111 prog_8_method_39_code .empty))) (ab_br k 114 (ab_br k 113 (ab_le0 k 112 prog_8_method_40_code .empty) (ab_le0 k 113 prog_8_method_41_code .empty)) (ab_br k 115 (ab_le0 k 114 prog_8_method_42_code .empty) (ab_br k 116 (ab_le0 k 115 prog_8_method_43_code .empty) (ab_le0 k 116 prog_8_method_44_code .empty)))))) (ab_br k 125 (ab_br k 121 (ab_br k 119 (ab_br k 118 (ab_le0 k 117 prog_8_method_45_code .empty) (ab_le0 k 118 prog_8_method_46_code .empty)) (ab_br k 120 (ab_le0 k 119 prog_8_method_47_code .empty) (ab_le0 k 120 prog_8_method_48_code .empty))) (ab_br k 123 (ab_br k 122 (ab_le0 k 121 method_3_code .empty) (ab_le0 k 122 method_4_code .empty)) (ab_br k 124 (ab_le0 k 123 method_5_code .empty) (ab_le0 k 124 method_6_code .empty)))) (ab_br k 129 (ab_br k 127 (ab_br k 126 (ab_le0 k 125 method_7_code .empty) (ab_le0 k 126 method_8_code .empty)) (ab_br k 128 (ab_le0 k 127 method_9_code .empty) (ab_le0 k 128 method_10_code .empty))) (ab_br k 131 (ab_br k 130 (ab_le0 k 129 method_11_code .empty) (ab_le0 k 130 method_12_code .empty)) (ab_br k 132 (ab_le0 k 131 prog_13_method_49_code .empty) (ab_br k 133 (ab_le0 k 132 prog_18_method_103_code .empty) (ab_le0 k 133 code .empty)))))))))
def ab_nm (k : Nat) : MethodName := (ab_br k 67 (ab_br k 33 (ab_br k 16 (ab_br k 8 (ab_br k 4 (ab_br k 2 (ab_br k 1 (ab_le0 k 0 ⟨"ShapedItems", "<init>", "()V"⟩ ⟨"", "", ""⟩) (ab_le0 k 1 ⟨"ShapedItems", "type", "(I)Z"⟩ ⟨"", "", ""⟩)) (ab_br k 3 (ab_le0 k 2 ⟨"ShapedItems", "rule", "(I)I"⟩ ⟨"", "", ""⟩) (ab_le0 k 3 ⟨"ShapedItems", "forget", "(I)Z"⟩ ⟨"", "", ""⟩))) (ab_br k 6 (ab_br k 5 (ab_le0 k 4 ⟨"ShapedItems", "feed", "(JI)I"⟩ ⟨"", "", ""⟩) (ab_le0 k 5 ⟨"ShapedItems", "wipe", "()I"⟩ ⟨"", "", ""⟩)) (ab_br k 7 (ab_le0 k 6 ⟨"ShapedItems", "items", "()I"⟩ ⟨"", "", ""⟩) (ab_le0 k 7 ⟨"ShapedItems", "major", "(I)I"⟩ ⟨"", "", ""⟩)))) (ab_br k 12 (ab_br k 10 (ab_br k 9 (ab_le0 k 8 ⟨"ShapedItems", "number", "(I)J"⟩ ⟨"", "", ""⟩) (ab_le0 k 9 ⟨"ShapedItems", "depth", "(I)I"⟩ ⟨"", "", ""⟩)) (ab_br k 11 (ab_le0 k 10 ⟨"ShapedItems", "check", "(I)I"⟩ ⟨"", "", ""⟩) (ab_le0 k 11 ⟨"ShapedItems", "matches", "(I)Z"⟩ ⟨"", "", ""⟩))) (ab_br k 14 (ab_br k 13 (ab_le0 k 12 ⟨"ShapedItems", "matchesAt", "(II)Z"⟩ ⟨"", "", ""⟩) (ab_le0 k 13 ⟨"ShapedItems", "byteOf", "(JI)I"⟩ ⟨"", "", ""⟩)) (ab_br k 15 (ab_le0 k 14 ⟨"ShapedItems", "isPrinted", "(I)Z"⟩ ⟨"", "", ""⟩) (ab_le0 k 15 ⟨"ShapedItems", "charactersIn", "(I)I"⟩ ⟨"", "", ""⟩))))) (ab_br k 24 (ab_br k 20 (ab_br k 18 (ab_br k 17 (ab_le0 k 16 ⟨"ShapedItems", "requireRule", "(I)V"⟩ ⟨"", "", ""⟩) (ab_le0 k 17 ⟨"ShapedItems", "requireWellFormed", "()V"⟩ ⟨"", "", ""⟩)) (ab_br k 19 (ab_le0 k 18 ⟨"ShapedItems", "requireItem", "(I)V"⟩ ⟨"", "", ""⟩) (ab_le0 k 19 ⟨"ShapedItems", "requireSoundRules", "(I)I"⟩ ⟨"", "", ""⟩))) (ab_br k 22 (ab_br k 21 (ab_le0 k 20 ⟨"ShapedItems$ItemBytes", "<init>", "()V"⟩ ⟨"", "", ""⟩) (ab_le0 k 21 ⟨"ShapedItems$ItemBytes", "append", "(JI)I"⟩ ⟨"", "", ""⟩)) (ab_br k 23 (ab_le0 k 22 ⟨"ShapedItems$ItemBytes", "removeAll", "()I"⟩ ⟨"", "", ""⟩) (ab_le0 k 23 ⟨"ShapedItems$ItemBytes", "areWellFormed", "()Z"⟩ ⟨"", "", ""⟩)))) (ab_br k 28 (ab_br k 26 (ab_br k 25 (ab_le0 k 24 ⟨"ShapedItems$ItemBytes", "readItem", "(I)Z"⟩ ⟨"", "", ""⟩) (ab_le0 k 25 ⟨"ShapedItems$ItemBytes", "readNumber", "(I)J"⟩ ⟨"", "", ""⟩)) (ab_br k 27 (ab_le0 k 26 ⟨"ShapedItems$ItemBytes", "readRest", "(IJI)Z"⟩ ⟨"", "", ""⟩) (ab_le0 k 27 ⟨"ShapedItems$ItemBytes", "readCharacters", "(JZ)Z"⟩ ⟨"", "", ""⟩))) (ab_br k 30 (ab_br k 29 (ab_le0 k 28 ⟨"ShapedItems$ItemBytes", "readItems", "(JI)Z"⟩ ⟨"", "", ""⟩) (ab_le0 k 29 ⟨"ShapedItems$ItemBytes", "isInteger", "(I)Z"⟩ ⟨"", "", ""⟩)) (ab_br k 31 (ab_le0 k 30 ⟨"ShapedItems$ItemBytes", "integerAt", "(I)J"⟩ ⟨"", "", ""⟩) (ab_br k 32 (ab_le0 k 31 ⟨"ShapedItems$Shape", "<init>", "()V"⟩ ⟨"", "", ""⟩) (ab_le0 k 32 ⟨"ShapedItems$Shape", "clear", "()V"⟩ ⟨"", "", ""⟩))))))) (ab_br k 50 (ab_br k 41 (ab_br k 37 (ab_br k 35 (ab_br k 34 (ab_le0 k 33 ⟨"ShapedItems$Shape", "needsOne", "(I)Z"⟩ ⟨"", "", ""⟩) (ab_le0 k 34 ⟨"ShapedItems$Shape", "takesMany", "(I)Z"⟩ ⟨"", "", ""⟩)) (ab_br k 36 (ab_le0 k 35 ⟨"ShapedItems$ShapeReader", "<init>", "()V"⟩ ⟨"", "", ""⟩) (ab_le0 k 36 ⟨"ShapedItems$ShapeReader", "readShape", "([CI)I"⟩ ⟨"", "", ""⟩))) (ab_br k 39 (ab_br k 38 (ab_le0 k 37 ⟨"ShapedItems$ShapeReader", "exchange", "(LShapedItems$Shape;)LShapedItems$Shape;"⟩ ⟨"", "", ""⟩) (ab_le0 k 38 ⟨"ShapedItems$ShapeReader", "chainLength", "(I)I"⟩ ⟨"", "", ""⟩)) (ab_br k 40 (ab_le0 k 39 ⟨"ShapedItems$ShapeReader", "require", "(Z)V"⟩ ⟨"", "", ""⟩) (ab_le0 k 40 ⟨"ShapedItems$ShapeReader", "here", "()C"⟩ ⟨"", "", ""⟩)))) (ab_br k 45 (ab_br k 43 (ab_br k 42 (ab_le0 k 41 ⟨"ShapedItems$ShapeReader", "passes", "(C)Z"⟩ ⟨"", "", ""⟩) (ab_le0 k 42 ⟨"ShapedItems$ShapeReader", "isDigitHere", "()Z"⟩ ⟨"", "", ""⟩)) (ab_br k 44 (ab_le0 k 43 ⟨"ShapedItems$ShapeReader", "readType", "(IZ)I"⟩ ⟨"", "", ""⟩) (ab_le0 k 44 ⟨"ShapedItems$ShapeReader", "readAlternative", "(IZ)I"⟩ ⟨"", "", ""⟩))) (ab_br k 47 (ab_br k 46 (ab_le0 k 45 ⟨"ShapedItems$ShapeReader", "readBetween", "(IZ)I"⟩ ⟨"", "", ""⟩) (ab_le0 k 46 ⟨"ShapedItems$ShapeReader", "readTag", "(I)V"⟩ ⟨"", "", ""⟩)) (ab_br k 48 (ab_le0 k 47 ⟨"ShapedItems$ShapeReader", "readText", "()V"⟩ ⟨"", "", ""⟩) (ab_br k 49 (ab_le0 k 48 ⟨"ShapedItems$ShapeReader", "readIntegers", "()V"⟩ ⟨"", "", ""⟩) (ab_le0 k 49 ⟨"ShapedItems$ShapeReader", "readInteger", "()I"⟩ ⟨"", "", ""⟩)))))) (ab_br k 58 (ab_br k 54 (ab_br k 52 (ab_br k 51 (ab_le0 k 50 ⟨"ShapedItems$ShapeReader", "readLetter", "(Z)V"⟩ ⟨"", "", ""⟩) (ab_le0 k 51 ⟨"ShapedItems$ShapeReader", "readSign", "()V"⟩ ⟨"", "", ""⟩)) (ab_br k 53 (ab_le0 k 52 ⟨"ShapedItems$ShapeReader", "readParts", "(CCI)V"⟩ ⟨"", "", ""⟩) (ab_le0 k 53 ⟨"ShapedItems$ShapeReader", "readPart", "(ICI)V"⟩ ⟨"", "", ""⟩))) (ab_br k 56 (ab_br k 55 (ab_le0 k 54 ⟨"ShapedItems$ShapeReader", "readOften", "()C"⟩ ⟨"", "", ""⟩) (ab_le0 k 55 ⟨"ShapedItems$ShapeReader", "readKey", "(II)V"⟩ ⟨"", "", ""⟩)) (ab_br k 57 (ab_le0 k 56 ⟨"ShapedItems$RuleBook", "<init>", "()V"⟩ ⟨"", "", ""⟩) (ab_le0 k 57 ⟨"ShapedItems$RuleBook", "ledTo", "(IZ)I"⟩ ⟨"", "", ""⟩)))) (ab_br k 62 (ab_br k 60 (ab_br k 59 (ab_le0 k 58 ⟨"ShapedItems$RuleBook", "ledToOnce", "(IZ)I"⟩ ⟨"", "", ""⟩) (ab_le0 k 59 ⟨"ShapedItems$RuleBook", "allDefined", "(I)Z"⟩ ⟨"", "", ""⟩)) (ab_br k 61 (ab_le0 k 60 ⟨"ShapedItems$RuleBook", "anyComesBackBarely", "(I)Z"⟩ ⟨"", "", ""⟩) (ab_le0 k 61 ⟨"ShapedItems$RuleBook", "has", "(II)Z"⟩ ⟨"", "", ""⟩))) (ab_br k 64 (ab_br k 63 (ab_le0 k 62 ⟨"ShapedItems$Matcher", "<init>", "(LShapedItems$RuleBook;LShapedItems$ItemBytes;)V"⟩ ⟨"", "", ""⟩) (ab_le0 k 63 ⟨"ShapedItems$Matcher", "fitsAsWhole", "(II)Z"⟩ ⟨"", "", ""⟩)) (ab_br k 65 (ab_le0 k 64 ⟨"ShapedItems$Matcher", "fitsRule", "(III)Z"⟩ ⟨"", "", ""⟩) (ab_br k 66 (ab_le0 k 65 ⟨"ShapedItems$Matcher", "fitsType", "(LShapedItems$Shape;III)Z"⟩ ⟨"", "", ""⟩) (ab_le0 k 66 ⟨"ShapedItems$Matcher", "fitsAlternative", "(LShapedItems$Shape;III)Z"⟩ ⟨"", "", ""⟩)))))))) (ab_br k 100 (ab_br k 83 (ab_br k 75 (ab_br k 71 (ab_br k 69 (ab_br k 68 (ab_le0 k 67 ⟨"ShapedItems$Matcher", "isBetween", "(III)Z"⟩ ⟨"", "", ""⟩) (ab_le0 k 68 ⟨"ShapedItems$Matcher", "hasCharacters", "(ILShapedItems$Shape;I)Z"⟩ ⟨"", "", ""⟩)) (ab_br k 70 (ab_le0 k 69 ⟨"ShapedItems$Matcher", "fitsEntries", "(LShapedItems$Shape;III)Z"⟩ ⟨"", "", ""⟩) (ab_le0 k 70 ⟨"ShapedItems$Matcher", "itemBehindEntry", "(LShapedItems$Shape;IIII)I"⟩ ⟨"", "", ""⟩))) (ab_br k 73 (ab_br k 72 (ab_le0 k 71 ⟨"ShapedItems$Matcher", "fitsMembers", "(LShapedItems$Shape;III)Z"⟩ ⟨"", "", ""⟩) (ab_le0 k 72 ⟨"ShapedItems$Matcher", "setsWithPair", "(LShapedItems$Shape;IIIJ)J"⟩ ⟨"", "", ""⟩)) (ab_br k 74 (ab_le0 k 73 ⟨"ShapedItemsModel", "<init>", "()V"⟩ ⟨"", "", ""⟩) (ab_le0 k 74 ⟨"ShapedItemsModel", "thrown", "()I"⟩ ⟨"", "", ""⟩)))) (ab_br k 79 (ab_br k 77 (ab_br k 76 (ab_le0 k 75 ⟨"ShapedItemsModel", "type", "(I)Z"⟩ ⟨"", "", ""⟩) (ab_le0 k 76 ⟨"ShapedItemsModel", "feed", "(JI)I"⟩ ⟨"", "", ""⟩)) (ab_br k 78 (ab_le0 k 77 ⟨"ShapedItemsModel", "wipe", "()I"⟩ ⟨"", "", ""⟩) (ab_le0 k 78 ⟨"ShapedItemsModel", "look", "()I"⟩ ⟨"", "", ""⟩))) (ab_br k 81 (ab_br k 80 (ab_le0 k 79 ⟨"ShapedItemsModel", "takes", "(I)Z"⟩ ⟨"", "", ""⟩) (ab_le0 k 80 ⟨"ShapedItemsModel", "isDigit", "(I)Z"⟩ ⟨"", "", ""⟩)) (ab_br k 82 (ab_le0 k 81 ⟨"ShapedItemsModel", "make", "(III)I"⟩ ⟨"", "", ""⟩) (ab_le0 k 82 ⟨"ShapedItemsModel", "push", "(II)V"⟩ ⟨"", "", ""⟩))))) (ab_br k 91 (ab_br k 87 (ab_br k 85 (ab_br k 84 (ab_le0 k 83 ⟨"ShapedItemsModel", "newType", "()I"⟩ ⟨"", "", ""⟩) (ab_le0 k 84 ⟨"ShapedItemsModel", "newPart", "()V"⟩ ⟨"", "", ""⟩)) (ab_br k 86 (ab_le0 k 85 ⟨"ShapedItemsModel", "attach", "(I)V"⟩ ⟨"", "", ""⟩) (ab_le0 k 86 ⟨"ShapedItemsModel", "isBare", "()Z"⟩ ⟨"", "", ""⟩))) (ab_br k 89 (ab_br k 88 (ab_le0 k 87 ⟨"ShapedItemsModel", "integer", "()I"⟩ ⟨"", "", ""⟩) (ab_le0 k 88 ⟨"ShapedItemsModel", "integers", "()I"⟩ ⟨"", "", ""⟩)) (ab_br k 90 (ab_le0 k 89 ⟨"ShapedItemsModel", "literal", "()I"⟩ ⟨"", "", ""⟩) (ab_le0 k 90 ⟨"ShapedItemsModel", "letter", "(I)I"⟩ ⟨"", "", ""⟩)))) (ab_br k 95 (ab_br k 93 (ab_br k 92 (ab_le0 k 91 ⟨"ShapedItemsModel", "word", "(I)I"⟩ ⟨"", "", ""⟩) (ab_le0 k 92 ⟨"ShapedItemsModel", "simple", "()Z"⟩ ⟨"", "", ""⟩)) (ab_br k 94 (ab_le0 k 93 ⟨"ShapedItemsModel", "opens", "()Z"⟩ ⟨"", "", ""⟩) (ab_le0 k 94 ⟨"ShapedItemsModel", "goesOn", "()Z"⟩ ⟨"", "", ""⟩))) (ab_br k 97 (ab_br k 96 (ab_le0 k 95 ⟨"ShapedItemsModel", "read", "()Z"⟩ ⟨"", "", ""⟩) (ab_le0 k 96 ⟨"ShapedItemsModel", "rule", "(I)I"⟩ ⟨"", "", ""⟩)) (ab_br k 98 (ab_le0 k 97 ⟨"ShapedItemsModel", "forget", "(I)Z"⟩ ⟨"", "", ""⟩) (ab_br k 99 (ab_le0 k 98 ⟨"ShapedItemsModel", "closure", "(IZ)I"⟩ ⟨"", "", ""⟩) (ab_le0 k 99 ⟨"ShapedItemsModel", "refusal", "(I)I"⟩ ⟨"", "", ""⟩))))))) (ab_br k 117 (ab_br k 108 (ab_br k 104 (ab_br k 102 (ab_br k 101 (ab_le0 k 100 ⟨"ShapedItemsModel", "check", "(I)I"⟩ ⟨"", "", ""⟩) (ab_le0 k 101 ⟨"ShapedItemsModel", "widthOf", "(I)I"⟩ ⟨"", "", ""⟩)) (ab_br k 103 (ab_le0 k 102 ⟨"ShapedItemsModel", "readItems", "()Z"⟩ ⟨"", "", ""⟩) (ab_le0 k 103 ⟨"ShapedItemsModel", "isText", "(II)Z"⟩ ⟨"", "", ""⟩))) (ab_br k 106 (ab_br k 105 (ab_le0 k 104 ⟨"ShapedItemsModel", "closed", "(I)I"⟩ ⟨"", "", ""⟩) (ab_le0 k 105 ⟨"ShapedItemsModel", "items", "()I"⟩ ⟨"", "", ""⟩)) (ab_br k 107 (ab_le0 k 106 ⟨"ShapedItemsModel", "hasItem", "(I)Z"⟩ ⟨"", "", ""⟩) (ab_le0 k 107 ⟨"ShapedItemsModel", "major", "(I)I"⟩ ⟨"", "", ""⟩)))) (ab_br k 112 (ab_br k 110 (ab_br k 109 (ab_le0 k 108 ⟨"ShapedItemsModel", "number", "(I)J"⟩ ⟨"", "", ""⟩) (ab_le0 k 109 ⟨"ShapedItemsModel", "depth", "(I)I"⟩ ⟨"", "", ""⟩)) (ab_br k 111 (ab_le0 k 110 ⟨"ShapedItemsModel", "has", "(III)Z"⟩ ⟨"", "", ""⟩) (ab_le0 k 111 ⟨"ShapedItemsModel", "isLiteral", "(II)Z"⟩ ⟨"", "", ""⟩))) (ab_br k 114 (ab_br k 113 (ab_le0 k 112 ⟨"ShapedItemsModel", "value", "(I)J"⟩ ⟨"", "", ""⟩) (ab_le0 k 113 ⟨"ShapedItemsModel", "takesAll", "(III)Z"⟩ ⟨"", "", ""⟩)) (ab_br k 115 (ab_le0 k 114 ⟨"ShapedItemsModel", "may", "(IIII)Z"⟩ ⟨"", "", ""⟩) (ab_br k 116 (ab_le0 k 115 ⟨"ShapedItemsModel", "sharesOut", "(III)Z"⟩ ⟨"", "", ""⟩) (ab_le0 k 116 ⟨"ShapedItemsModel", "isAny", "(III)Z"⟩ ⟨"", "", ""⟩)))))) (ab_br k 125 (ab_br k 121 (ab_br k 119 (ab_br k 118 (ab_le0 k 117 ⟨"ShapedItemsModel", "fits", "(III)Z"⟩ ⟨"", "", ""⟩) (ab_le0 k 118 ⟨"ShapedItemsModel", "matchAll", "(I)V"⟩ ⟨"", "", ""⟩)) (ab_br k 120 (ab_le0 k 119 ⟨"ShapedItemsModel", "matches", "(I)Z"⟩ ⟨"", "", ""⟩) (ab_le0 k 120 ⟨"ShapedItemsModel", "matchesAt", "(II)Z"⟩ ⟨"", "", ""⟩))) (ab_br k 123 (ab_br k 122 (ab_le0 k 121 ⟨"ShapedItemsLaw", "type", "(LShapedItems;I[J)I"⟩ ⟨"", "", ""⟩) (ab_le0 k 122 ⟨"ShapedItemsLaw", "rule", "(LShapedItems;I[J)I"⟩ ⟨"", "", ""⟩)) (ab_br k 124 (ab_le0 k 123 ⟨"ShapedItemsLaw", "forget", "(LShapedItems;I[J)I"⟩ ⟨"", "", ""⟩) (ab_le0 k 124 ⟨"ShapedItemsLaw", "items", "(LShapedItems;[J)I"⟩ ⟨"", "", ""⟩)))) (ab_br k 129 (ab_br k 127 (ab_br k 126 (ab_le0 k 125 ⟨"ShapedItemsLaw", "major", "(LShapedItems;I[J)I"⟩ ⟨"", "", ""⟩) (ab_le0 k 126 ⟨"ShapedItemsLaw", "number", "(LShapedItems;I[J)I"⟩ ⟨"", "", ""⟩)) (ab_br k 128 (ab_le0 k 127 ⟨"ShapedItemsLaw", "depth", "(LShapedItems;I[J)I"⟩ ⟨"", "", ""⟩) (ab_le0 k 128 ⟨"ShapedItemsLaw", "check", "(LShapedItems;I[J)I"⟩ ⟨"", "", ""⟩))) (ab_br k 131 (ab_br k 130 (ab_le0 k 129 ⟨"ShapedItemsLaw", "matches", "(LShapedItems;I[J)I"⟩ ⟨"", "", ""⟩) (ab_le0 k 130 ⟨"ShapedItemsLaw", "matchesAt", "(LShapedItems;II[J)I"⟩ ⟨"", "", ""⟩)) (ab_br k 132 (ab_le0 k 131 ⟨"java/lang/Integer", "bitCount", "(I)I"⟩ ⟨"", "", ""⟩) (ab_br k 133 (ab_le0 k 132 ⟨"java/util/Arrays", "fill", "([II)V"⟩ ⟨"", "", ""⟩) (ab_le0 k 133 ⟨"ShapedItemsLaw", "law", "([I)Z"⟩ ⟨"", "", ""⟩)))))))))
def ab_mxl (k : Nat) : Nat := (ab_br k 67 (ab_br k 33 (ab_br k 16 (ab_br k 8 (ab_br k 4 (ab_br k 2 (ab_br k 1 (ab_le0 k 0 1 0) (ab_le0 k 1 4 0)) (ab_br k 3 (ab_le0 k 2 4 0) (ab_le0 k 3 3 0))) (ab_br k 6 (ab_br k 5 (ab_le0 k 4 4 0) (ab_le0 k 5 1 0)) (ab_br k 7 (ab_le0 k 6 1 0) (ab_le0 k 7 2 0)))) (ab_br k 12 (ab_br k 10 (ab_br k 9 (ab_le0 k 8 2 0) (ab_le0 k 9 2 0)) (ab_br k 11 (ab_le0 k 10 2 0) (ab_le0 k 11 2 0))) (ab_br k 14 (ab_br k 13 (ab_le0 k 12 3 0) (ab_le0 k 13 3 0)) (ab_br k 15 (ab_le0 k 14 1 0) (ab_le0 k 15 3 0))))) (ab_br k 24 (ab_br k 20 (ab_br k 18 (ab_br k 17 (ab_le0 k 16 1 0) (ab_le0 k 17 1 0)) (ab_br k 19 (ab_le0 k 18 2 0) (ab_le0 k 19 3 0))) (ab_br k 22 (ab_br k 21 (ab_le0 k 20 1 0) (ab_le0 k 21 5 0)) (ab_br k 23 (ab_le0 k 22 2 0) (ab_le0 k 23 1 0)))) (ab_br k 28 (ab_br k 26 (ab_br k 25 (ab_le0 k 24 8 0) (ab_le0 k 25 6 0)) (ab_br k 27 (ab_le0 k 26 5 0) (ab_le0 k 27 5 0))) (ab_br k 30 (ab_br k 29 (ab_le0 k 28 5 0) (ab_le0 k 29 2 0)) (ab_br k 31 (ab_le0 k 30 2 0) (ab_br k 32 (ab_le0 k 31 1 0) (ab_le0 k 32 1 0))))))) (ab_br k 50 (ab_br k 41 (ab_br k 37 (ab_br k 35 (ab_br k 34 (ab_le0 k 33 2 0) (ab_le0 k 34 2 0)) (ab_br k 36 (ab_le0 k 35 1 0) (ab_le0 k 36 3 0))) (ab_br k 39 (ab_br k 38 (ab_le0 k 37 3 0) (ab_le0 k 38 4 0)) (ab_br k 40 (ab_le0 k 39 1 0) (ab_le0 k 40 1 0)))) (ab_br k 45 (ab_br k 43 (ab_br k 42 (ab_le0 k 41 2 0) (ab_le0 k 42 1 0)) (ab_br k 44 (ab_le0 k 43 6 0) (ab_le0 k 44 4 0))) (ab_br k 47 (ab_br k 46 (ab_le0 k 45 4 0) (ab_le0 k 46 3 0)) (ab_br k 48 (ab_le0 k 47 3 0) (ab_br k 49 (ab_le0 k 48 3 0) (ab_le0 k 49 4 0)))))) (ab_br k 58 (ab_br k 54 (ab_br k 52 (ab_br k 51 (ab_le0 k 50 4 0) (ab_le0 k 51 2 0)) (ab_br k 53 (ab_le0 k 52 7 0) (ab_le0 k 53 4 0))) (ab_br k 56 (ab_br k 55 (ab_le0 k 54 2 0) (ab_le0 k 55 6 0)) (ab_br k 57 (ab_le0 k 56 2 0) (ab_le0 k 57 6 0)))) (ab_br k 62 (ab_br k 60 (ab_br k 59 (ab_le0 k 58 5 0) (ab_le0 k 59 3 0)) (ab_br k 61 (ab_le0 k 60 3 0) (ab_le0 k 61 2 0))) (ab_br k 64 (ab_br k 63 (ab_le0 k 62 3 0) (ab_le0 k 63 3 0)) (ab_br k 65 (ab_le0 k 64 8 0) (ab_br k 66 (ab_le0 k 65 7 0) (ab_le0 k 66 6 0)))))))) (ab_br k 100 (ab_br k 83 (ab_br k 75 (ab_br k 71 (ab_br k 69 (ab_br k 68 (ab_le0 k 67 4 0) (ab_le0 k 68 7 0)) (ab_br k 70 (ab_le0 k 69 10 0) (ab_le0 k 70 9 0))) (ab_br k 73 (ab_br k 72 (ab_le0 k 71 11 0) (ab_le0 k 72 13 0)) (ab_br k 74 (ab_le0 k 73 1 0) (ab_le0 k 74 1 0)))) (ab_br k 79 (ab_br k 77 (ab_br k 76 (ab_le0 k 75 6 0) (ab_le0 k 76 5 0)) (ab_br k 78 (ab_le0 k 77 2 0) (ab_le0 k 78 1 0))) (ab_br k 81 (ab_br k 80 (ab_le0 k 79 2 0) (ab_le0 k 80 1 0)) (ab_br k 82 (ab_le0 k 81 5 0) (ab_le0 k 82 3 0))))) (ab_br k 91 (ab_br k 87 (ab_br k 85 (ab_br k 84 (ab_le0 k 83 2 0) (ab_le0 k 84 4 0)) (ab_br k 86 (ab_le0 k 85 2 0) (ab_le0 k 86 3 0))) (ab_br k 89 (ab_br k 88 (ab_le0 k 87 4 0) (ab_le0 k 88 3 0)) (ab_br k 90 (ab_le0 k 89 3 0) (ab_le0 k 90 3 0)))) (ab_br k 95 (ab_br k 93 (ab_br k 92 (ab_le0 k 91 1 0) (ab_le0 k 92 3 0)) (ab_br k 94 (ab_le0 k 93 4 0) (ab_le0 k 94 3 0))) (ab_br k 97 (ab_br k 96 (ab_le0 k 95 4 0) (ab_le0 k 96 8 0)) (ab_br k 98 (ab_le0 k 97 3 0) (ab_br k 99 (ab_le0 k 98 6 0) (ab_le0 k 99 5 0))))))) (ab_br k 117 (ab_br k 108 (ab_br k 104 (ab_br k 102 (ab_br k 101 (ab_le0 k 100 4 0) (ab_le0 k 101 1 0)) (ab_br k 103 (ab_le0 k 102 12 0) (ab_le0 k 103 5 0))) (ab_br k 106 (ab_br k 105 (ab_le0 k 104 4 0) (ab_le0 k 105 1 0)) (ab_br k 107 (ab_le0 k 106 2 0) (ab_le0 k 107 2 0)))) (ab_br k 112 (ab_br k 110 (ab_br k 109 (ab_le0 k 108 2 0) (ab_le0 k 109 2 0)) (ab_br k 111 (ab_le0 k 110 4 0) (ab_le0 k 111 6 0))) (ab_br k 114 (ab_br k 113 (ab_le0 k 112 2 0) (ab_le0 k 113 9 0)) (ab_br k 115 (ab_le0 k 114 9 0) (ab_br k 116 (ab_le0 k 115 10 0) (ab_le0 k 116 6 0)))))) (ab_br k 125 (ab_br k 121 (ab_br k 119 (ab_br k 118 (ab_le0 k 117 5 0) (ab_le0 k 118 6 0)) (ab_br k 120 (ab_le0 k 119 2 0) (ab_le0 k 120 3 0))) (ab_br k 123 (ab_br k 122 (ab_le0 k 121 4 0) (ab_le0 k 122 4 0)) (ab_br k 124 (ab_le0 k 123 4 0) (ab_le0 k 124 3 0)))) (ab_br k 129 (ab_br k 127 (ab_br k 126 (ab_le0 k 125 4 0) (ab_le0 k 126 4 0)) (ab_br k 128 (ab_le0 k 127 4 0) (ab_le0 k 128 4 0))) (ab_br k 131 (ab_br k 130 (ab_le0 k 129 4 0) (ab_le0 k 130 5 0)) (ab_br k 132 (ab_le0 k 131 1 0) (ab_br k 133 (ab_le0 k 132 4 0) (ab_le0 k 133 8 0)))))))))
def ab_own (k : Nat) : Nat := (ab_br k 67 (ab_br k 33 (ab_br k 16 (ab_br k 8 (ab_br k 4 (ab_br k 2 (ab_br k 1 (ab_le0 k 0 0 99) (ab_le0 k 1 0 99)) (ab_br k 3 (ab_le0 k 2 0 99) (ab_le0 k 3 0 99))) (ab_br k 6 (ab_br k 5 (ab_le0 k 4 0 99) (ab_le0 k 5 0 99)) (ab_br k 7 (ab_le0 k 6 0 99) (ab_le0 k 7 0 99)))) (ab_br k 12 (ab_br k 10 (ab_br k 9 (ab_le0 k 8 0 99) (ab_le0 k 9 0 99)) (ab_br k 11 (ab_le0 k 10 0 99) (ab_le0 k 11 0 99))) (ab_br k 14 (ab_br k 13 (ab_le0 k 12 0 99) (ab_le0 k 13 0 99)) (ab_br k 15 (ab_le0 k 14 0 99) (ab_le0 k 15 0 99))))) (ab_br k 24 (ab_br k 20 (ab_br k 18 (ab_br k 17 (ab_le0 k 16 0 99) (ab_le0 k 17 0 99)) (ab_br k 19 (ab_le0 k 18 0 99) (ab_le0 k 19 0 99))) (ab_br k 22 (ab_br k 21 (ab_le0 k 20 1 99) (ab_le0 k 21 1 99)) (ab_br k 23 (ab_le0 k 22 1 99) (ab_le0 k 23 1 99)))) (ab_br k 28 (ab_br k 26 (ab_br k 25 (ab_le0 k 24 1 99) (ab_le0 k 25 1 99)) (ab_br k 27 (ab_le0 k 26 1 99) (ab_le0 k 27 1 99))) (ab_br k 30 (ab_br k 29 (ab_le0 k 28 1 99) (ab_le0 k 29 1 99)) (ab_br k 31 (ab_le0 k 30 1 99) (ab_br k 32 (ab_le0 k 31 2 99) (ab_le0 k 32 2 99))))))) (ab_br k 50 (ab_br k 41 (ab_br k 37 (ab_br k 35 (ab_br k 34 (ab_le0 k 33 2 99) (ab_le0 k 34 2 99)) (ab_br k 36 (ab_le0 k 35 3 99) (ab_le0 k 36 3 99))) (ab_br k 39 (ab_br k 38 (ab_le0 k 37 3 99) (ab_le0 k 38 3 99)) (ab_br k 40 (ab_le0 k 39 3 99) (ab_le0 k 40 3 99)))) (ab_br k 45 (ab_br k 43 (ab_br k 42 (ab_le0 k 41 3 99) (ab_le0 k 42 3 99)) (ab_br k 44 (ab_le0 k 43 3 99) (ab_le0 k 44 3 99))) (ab_br k 47 (ab_br k 46 (ab_le0 k 45 3 99) (ab_le0 k 46 3 99)) (ab_br k 48 (ab_le0 k 47 3 99) (ab_br k 49 (ab_le0 k 48 3 99) (ab_le0 k 49 3 99)))))) (ab_br k 58 (ab_br k 54 (ab_br k 52 (ab_br k 51 (ab_le0 k 50 3 99) (ab_le0 k 51 3 99)) (ab_br k 53 (ab_le0 k 52 3 99) (ab_le0 k 53 3 99))) (ab_br k 56 (ab_br k 55 (ab_le0 k 54 3 99) (ab_le0 k 55 3 99)) (ab_br k 57 (ab_le0 k 56 4 99) (ab_le0 k 57 4 99)))) (ab_br k 62 (ab_br k 60 (ab_br k 59 (ab_le0 k 58 4 99) (ab_le0 k 59 4 99)) (ab_br k 61 (ab_le0 k 60 4 99) (ab_le0 k 61 4 99))) (ab_br k 64 (ab_br k 63 (ab_le0 k 62 5 99) (ab_le0 k 63 5 99)) (ab_br k 65 (ab_le0 k 64 5 99) (ab_br k 66 (ab_le0 k 65 5 99) (ab_le0 k 66 5 99)))))))) (ab_br k 100 (ab_br k 83 (ab_br k 75 (ab_br k 71 (ab_br k 69 (ab_br k 68 (ab_le0 k 67 5 99) (ab_le0 k 68 5 99)) (ab_br k 70 (ab_le0 k 69 5 99) (ab_le0 k 70 5 99))) (ab_br k 73 (ab_br k 72 (ab_le0 k 71 5 99) (ab_le0 k 72 5 99)) (ab_br k 74 (ab_le0 k 73 6 99) (ab_le0 k 74 6 99)))) (ab_br k 79 (ab_br k 77 (ab_br k 76 (ab_le0 k 75 6 99) (ab_le0 k 76 6 99)) (ab_br k 78 (ab_le0 k 77 6 99) (ab_le0 k 78 6 99))) (ab_br k 81 (ab_br k 80 (ab_le0 k 79 6 99) (ab_le0 k 80 6 99)) (ab_br k 82 (ab_le0 k 81 6 99) (ab_le0 k 82 6 99))))) (ab_br k 91 (ab_br k 87 (ab_br k 85 (ab_br k 84 (ab_le0 k 83 6 99) (ab_le0 k 84 6 99)) (ab_br k 86 (ab_le0 k 85 6 99) (ab_le0 k 86 6 99))) (ab_br k 89 (ab_br k 88 (ab_le0 k 87 6 99) (ab_le0 k 88 6 99)) (ab_br k 90 (ab_le0 k 89 6 99) (ab_le0 k 90 6 99)))) (ab_br k 95 (ab_br k 93 (ab_br k 92 (ab_le0 k 91 6 99) (ab_le0 k 92 6 99)) (ab_br k 94 (ab_le0 k 93 6 99) (ab_le0 k 94 6 99))) (ab_br k 97 (ab_br k 96 (ab_le0 k 95 6 99) (ab_le0 k 96 6 99)) (ab_br k 98 (ab_le0 k 97 6 99) (ab_br k 99 (ab_le0 k 98 6 99) (ab_le0 k 99 6 99))))))) (ab_br k 117 (ab_br k 108 (ab_br k 104 (ab_br k 102 (ab_br k 101 (ab_le0 k 100 6 99) (ab_le0 k 101 6 99)) (ab_br k 103 (ab_le0 k 102 6 99) (ab_le0 k 103 6 99))) (ab_br k 106 (ab_br k 105 (ab_le0 k 104 6 99) (ab_le0 k 105 6 99)) (ab_br k 107 (ab_le0 k 106 6 99) (ab_le0 k 107 6 99)))) (ab_br k 112 (ab_br k 110 (ab_br k 109 (ab_le0 k 108 6 99) (ab_le0 k 109 6 99)) (ab_br k 111 (ab_le0 k 110 6 99) (ab_le0 k 111 6 99))) (ab_br k 114 (ab_br k 113 (ab_le0 k 112 6 99) (ab_le0 k 113 6 99)) (ab_br k 115 (ab_le0 k 114 6 99) (ab_br k 116 (ab_le0 k 115 6 99) (ab_le0 k 116 6 99)))))) (ab_br k 125 (ab_br k 121 (ab_br k 119 (ab_br k 118 (ab_le0 k 117 6 99) (ab_le0 k 118 6 99)) (ab_br k 120 (ab_le0 k 119 6 99) (ab_le0 k 120 6 99))) (ab_br k 123 (ab_br k 122 (ab_le0 k 121 7 99) (ab_le0 k 122 7 99)) (ab_br k 124 (ab_le0 k 123 7 99) (ab_le0 k 124 7 99)))) (ab_br k 129 (ab_br k 127 (ab_br k 126 (ab_le0 k 125 7 99) (ab_le0 k 126 7 99)) (ab_br k 128 (ab_le0 k 127 7 99) (ab_le0 k 128 7 99))) (ab_br k 131 (ab_br k 130 (ab_le0 k 129 7 99) (ab_le0 k 130 7 99)) (ab_br k 132 (ab_le0 k 131 8 99) (ab_br k 133 (ab_le0 k 132 9 99) (ab_le0 k 133 7 99)))))))))
def ab_ret (k : Nat) : Nat := (ab_br k 67 (ab_br k 33 (ab_br k 16 (ab_br k 8 (ab_br k 4 (ab_br k 2 (ab_br k 1 (ab_le0 k 0 0 9) (ab_le0 k 1 4 9)) (ab_br k 3 (ab_le0 k 2 1 9) (ab_le0 k 3 4 9))) (ab_br k 6 (ab_br k 5 (ab_le0 k 4 1 9) (ab_le0 k 5 1 9)) (ab_br k 7 (ab_le0 k 6 1 9) (ab_le0 k 7 1 9)))) (ab_br k 12 (ab_br k 10 (ab_br k 9 (ab_le0 k 8 2 9) (ab_le0 k 9 1 9)) (ab_br k 11 (ab_le0 k 10 1 9) (ab_le0 k 11 4 9))) (ab_br k 14 (ab_br k 13 (ab_le0 k 12 4 9) (ab_le0 k 13 1 9)) (ab_br k 15 (ab_le0 k 14 4 9) (ab_le0 k 15 1 9))))) (ab_br k 24 (ab_br k 20 (ab_br k 18 (ab_br k 17 (ab_le0 k 16 0 9) (ab_le0 k 17 0 9)) (ab_br k 19 (ab_le0 k 18 0 9) (ab_le0 k 19 1 9))) (ab_br k 22 (ab_br k 21 (ab_le0 k 20 0 9) (ab_le0 k 21 1 9)) (ab_br k 23 (ab_le0 k 22 1 9) (ab_le0 k 23 4 9)))) (ab_br k 28 (ab_br k 26 (ab_br k 25 (ab_le0 k 24 4 9) (ab_le0 k 25 2 9)) (ab_br k 27 (ab_le0 k 26 4 9) (ab_le0 k 27 4 9))) (ab_br k 30 (ab_br k 29 (ab_le0 k 28 4 9) (ab_le0 k 29 4 9)) (ab_br k 31 (ab_le0 k 30 2 9) (ab_br k 32 (ab_le0 k 31 0 9) (ab_le0 k 32 0 9))))))) (ab_br k 50 (ab_br k 41 (ab_br k 37 (ab_br k 35 (ab_br k 34 (ab_le0 k 33 4 9) (ab_le0 k 34 4 9)) (ab_br k 36 (ab_le0 k 35 0 9) (ab_le0 k 36 1 9))) (ab_br k 39 (ab_br k 38 (ab_le0 k 37 3 9) (ab_le0 k 38 1 9)) (ab_br k 40 (ab_le0 k 39 0 9) (ab_le0 k 40 5 9)))) (ab_br k 45 (ab_br k 43 (ab_br k 42 (ab_le0 k 41 4 9) (ab_le0 k 42 4 9)) (ab_br k 44 (ab_le0 k 43 1 9) (ab_le0 k 44 1 9))) (ab_br k 47 (ab_br k 46 (ab_le0 k 45 1 9) (ab_le0 k 46 0 9)) (ab_br k 48 (ab_le0 k 47 0 9) (ab_br k 49 (ab_le0 k 48 0 9) (ab_le0 k 49 1 9)))))) (ab_br k 58 (ab_br k 54 (ab_br k 52 (ab_br k 51 (ab_le0 k 50 0 9) (ab_le0 k 51 0 9)) (ab_br k 53 (ab_le0 k 52 0 9) (ab_le0 k 53 0 9))) (ab_br k 56 (ab_br k 55 (ab_le0 k 54 5 9) (ab_le0 k 55 0 9)) (ab_br k 57 (ab_le0 k 56 0 9) (ab_le0 k 57 1 9)))) (ab_br k 62 (ab_br k 60 (ab_br k 59 (ab_le0 k 58 1 9) (ab_le0 k 59 4 9)) (ab_br k 61 (ab_le0 k 60 4 9) (ab_le0 k 61 4 9))) (ab_br k 64 (ab_br k 63 (ab_le0 k 62 0 9) (ab_le0 k 63 4 9)) (ab_br k 65 (ab_le0 k 64 4 9) (ab_br k 66 (ab_le0 k 65 4 9) (ab_le0 k 66 4 9)))))))) (ab_br k 100 (ab_br k 83 (ab_br k 75 (ab_br k 71 (ab_br k 69 (ab_br k 68 (ab_le0 k 67 4 9) (ab_le0 k 68 4 9)) (ab_br k 70 (ab_le0 k 69 4 9) (ab_le0 k 70 1 9))) (ab_br k 73 (ab_br k 72 (ab_le0 k 71 4 9) (ab_le0 k 72 2 9)) (ab_br k 74 (ab_le0 k 73 0 9) (ab_le0 k 74 1 9)))) (ab_br k 79 (ab_br k 77 (ab_br k 76 (ab_le0 k 75 4 9) (ab_le0 k 76 1 9)) (ab_br k 78 (ab_le0 k 77 1 9) (ab_le0 k 78 1 9))) (ab_br k 81 (ab_br k 80 (ab_le0 k 79 4 9) (ab_le0 k 80 4 9)) (ab_br k 82 (ab_le0 k 81 1 9) (ab_le0 k 82 0 9))))) (ab_br k 91 (ab_br k 87 (ab_br k 85 (ab_br k 84 (ab_le0 k 83 1 9) (ab_le0 k 84 0 9)) (ab_br k 86 (ab_le0 k 85 0 9) (ab_le0 k 86 4 9))) (ab_br k 89 (ab_br k 88 (ab_le0 k 87 1 9) (ab_le0 k 88 1 9)) (ab_br k 90 (ab_le0 k 89 1 9) (ab_le0 k 90 1 9)))) (ab_br k 95 (ab_br k 93 (ab_br k 92 (ab_le0 k 91 1 9) (ab_le0 k 92 4 9)) (ab_br k 94 (ab_le0 k 93 4 9) (ab_le0 k 94 4 9))) (ab_br k 97 (ab_br k 96 (ab_le0 k 95 4 9) (ab_le0 k 96 1 9)) (ab_br k 98 (ab_le0 k 97 4 9) (ab_br k 99 (ab_le0 k 98 1 9) (ab_le0 k 99 1 9))))))) (ab_br k 117 (ab_br k 108 (ab_br k 104 (ab_br k 102 (ab_br k 101 (ab_le0 k 100 1 9) (ab_le0 k 101 1 9)) (ab_br k 103 (ab_le0 k 102 4 9) (ab_le0 k 103 4 9))) (ab_br k 106 (ab_br k 105 (ab_le0 k 104 1 9) (ab_le0 k 105 1 9)) (ab_br k 107 (ab_le0 k 106 4 9) (ab_le0 k 107 1 9)))) (ab_br k 112 (ab_br k 110 (ab_br k 109 (ab_le0 k 108 2 9) (ab_le0 k 109 1 9)) (ab_br k 111 (ab_le0 k 110 4 9) (ab_le0 k 111 4 9))) (ab_br k 114 (ab_br k 113 (ab_le0 k 112 2 9) (ab_le0 k 113 4 9)) (ab_br k 115 (ab_le0 k 114 4 9) (ab_br k 116 (ab_le0 k 115 4 9) (ab_le0 k 116 4 9)))))) (ab_br k 125 (ab_br k 121 (ab_br k 119 (ab_br k 118 (ab_le0 k 117 4 9) (ab_le0 k 118 0 9)) (ab_br k 120 (ab_le0 k 119 4 9) (ab_le0 k 120 4 9))) (ab_br k 123 (ab_br k 122 (ab_le0 k 121 1 9) (ab_le0 k 122 1 9)) (ab_br k 124 (ab_le0 k 123 1 9) (ab_le0 k 124 1 9)))) (ab_br k 129 (ab_br k 127 (ab_br k 126 (ab_le0 k 125 1 9) (ab_le0 k 126 1 9)) (ab_br k 128 (ab_le0 k 127 1 9) (ab_le0 k 128 1 9))) (ab_br k 131 (ab_br k 130 (ab_le0 k 129 1 9) (ab_le0 k 130 1 9)) (ab_br k 132 (ab_le0 k 131 1 9) (ab_br k 133 (ab_le0 k 132 0 9) (ab_le0 k 133 4 9)))))))))
def ab_md (k : Nat) : Bool := (ab_br k 67 (ab_br k 33 (ab_br k 16 (ab_br k 8 (ab_br k 4 (ab_br k 2 (ab_br k 1 (ab_le0 k 0 false true) (ab_le0 k 1 true true)) (ab_br k 3 (ab_le0 k 2 true true) (ab_le0 k 3 true true))) (ab_br k 6 (ab_br k 5 (ab_le0 k 4 true true) (ab_le0 k 5 true true)) (ab_br k 7 (ab_le0 k 6 true true) (ab_le0 k 7 true true)))) (ab_br k 12 (ab_br k 10 (ab_br k 9 (ab_le0 k 8 true true) (ab_le0 k 9 true true)) (ab_br k 11 (ab_le0 k 10 true true) (ab_le0 k 11 true true))) (ab_br k 14 (ab_br k 13 (ab_le0 k 12 true true) (ab_le0 k 13 true true)) (ab_br k 15 (ab_le0 k 14 true true) (ab_le0 k 15 true true))))) (ab_br k 24 (ab_br k 20 (ab_br k 18 (ab_br k 17 (ab_le0 k 16 true true) (ab_le0 k 17 true true)) (ab_br k 19 (ab_le0 k 18 true true) (ab_le0 k 19 true true))) (ab_br k 22 (ab_br k 21 (ab_le0 k 20 false true) (ab_le0 k 21 true true)) (ab_br k 23 (ab_le0 k 22 true true) (ab_le0 k 23 true true)))) (ab_br k 28 (ab_br k 26 (ab_br k 25 (ab_le0 k 24 true true) (ab_le0 k 25 true true)) (ab_br k 27 (ab_le0 k 26 true true) (ab_le0 k 27 true true))) (ab_br k 30 (ab_br k 29 (ab_le0 k 28 true true) (ab_le0 k 29 true true)) (ab_br k 31 (ab_le0 k 30 true true) (ab_br k 32 (ab_le0 k 31 false true) (ab_le0 k 32 true true))))))) (ab_br k 50 (ab_br k 41 (ab_br k 37 (ab_br k 35 (ab_br k 34 (ab_le0 k 33 true true) (ab_le0 k 34 true true)) (ab_br k 36 (ab_le0 k 35 false true) (ab_le0 k 36 true true))) (ab_br k 39 (ab_br k 38 (ab_le0 k 37 true true) (ab_le0 k 38 true true)) (ab_br k 40 (ab_le0 k 39 true true) (ab_le0 k 40 true true)))) (ab_br k 45 (ab_br k 43 (ab_br k 42 (ab_le0 k 41 true true) (ab_le0 k 42 true true)) (ab_br k 44 (ab_le0 k 43 true true) (ab_le0 k 44 true true))) (ab_br k 47 (ab_br k 46 (ab_le0 k 45 true true) (ab_le0 k 46 true true)) (ab_br k 48 (ab_le0 k 47 true true) (ab_br k 49 (ab_le0 k 48 true true) (ab_le0 k 49 true true)))))) (ab_br k 58 (ab_br k 54 (ab_br k 52 (ab_br k 51 (ab_le0 k 50 true true) (ab_le0 k 51 true true)) (ab_br k 53 (ab_le0 k 52 true true) (ab_le0 k 53 true true))) (ab_br k 56 (ab_br k 55 (ab_le0 k 54 true true) (ab_le0 k 55 true true)) (ab_br k 57 (ab_le0 k 56 false true) (ab_le0 k 57 true true)))) (ab_br k 62 (ab_br k 60 (ab_br k 59 (ab_le0 k 58 true true) (ab_le0 k 59 true true)) (ab_br k 61 (ab_le0 k 60 true true) (ab_le0 k 61 true true))) (ab_br k 64 (ab_br k 63 (ab_le0 k 62 false true) (ab_le0 k 63 true true)) (ab_br k 65 (ab_le0 k 64 true true) (ab_br k 66 (ab_le0 k 65 true true) (ab_le0 k 66 true true)))))))) (ab_br k 100 (ab_br k 83 (ab_br k 75 (ab_br k 71 (ab_br k 69 (ab_br k 68 (ab_le0 k 67 true true) (ab_le0 k 68 true true)) (ab_br k 70 (ab_le0 k 69 true true) (ab_le0 k 70 true true))) (ab_br k 73 (ab_br k 72 (ab_le0 k 71 true true) (ab_le0 k 72 true true)) (ab_br k 74 (ab_le0 k 73 false true) (ab_le0 k 74 true true)))) (ab_br k 79 (ab_br k 77 (ab_br k 76 (ab_le0 k 75 true true) (ab_le0 k 76 true true)) (ab_br k 78 (ab_le0 k 77 true true) (ab_le0 k 78 true true))) (ab_br k 81 (ab_br k 80 (ab_le0 k 79 true true) (ab_le0 k 80 true true)) (ab_br k 82 (ab_le0 k 81 true true) (ab_le0 k 82 true true))))) (ab_br k 91 (ab_br k 87 (ab_br k 85 (ab_br k 84 (ab_le0 k 83 true true) (ab_le0 k 84 true true)) (ab_br k 86 (ab_le0 k 85 true true) (ab_le0 k 86 true true))) (ab_br k 89 (ab_br k 88 (ab_le0 k 87 true true) (ab_le0 k 88 true true)) (ab_br k 90 (ab_le0 k 89 true true) (ab_le0 k 90 true true)))) (ab_br k 95 (ab_br k 93 (ab_br k 92 (ab_le0 k 91 true true) (ab_le0 k 92 true true)) (ab_br k 94 (ab_le0 k 93 true true) (ab_le0 k 94 true true))) (ab_br k 97 (ab_br k 96 (ab_le0 k 95 true true) (ab_le0 k 96 true true)) (ab_br k 98 (ab_le0 k 97 true true) (ab_br k 99 (ab_le0 k 98 true true) (ab_le0 k 99 true true))))))) (ab_br k 117 (ab_br k 108 (ab_br k 104 (ab_br k 102 (ab_br k 101 (ab_le0 k 100 true true) (ab_le0 k 101 true true)) (ab_br k 103 (ab_le0 k 102 true true) (ab_le0 k 103 true true))) (ab_br k 106 (ab_br k 105 (ab_le0 k 104 true true) (ab_le0 k 105 true true)) (ab_br k 107 (ab_le0 k 106 true true) (ab_le0 k 107 true true)))) (ab_br k 112 (ab_br k 110 (ab_br k 109 (ab_le0 k 108 true true) (ab_le0 k 109 true true)) (ab_br k 111 (ab_le0 k 110 true true) (ab_le0 k 111 true true))) (ab_br k 114 (ab_br k 113 (ab_le0 k 112 true true) (ab_le0 k 113 true true)) (ab_br k 115 (ab_le0 k 114 true true) (ab_br k 116 (ab_le0 k 115 true true) (ab_le0 k 116 true true)))))) (ab_br k 125 (ab_br k 121 (ab_br k 119 (ab_br k 118 (ab_le0 k 117 true true) (ab_le0 k 118 true true)) (ab_br k 120 (ab_le0 k 119 true true) (ab_le0 k 120 true true))) (ab_br k 123 (ab_br k 122 (ab_le0 k 121 true true) (ab_le0 k 122 true true)) (ab_br k 124 (ab_le0 k 123 true true) (ab_le0 k 124 true true)))) (ab_br k 129 (ab_br k 127 (ab_br k 126 (ab_le0 k 125 true true) (ab_le0 k 126 true true)) (ab_br k 128 (ab_le0 k 127 true true) (ab_le0 k 128 true true))) (ab_br k 131 (ab_br k 130 (ab_le0 k 129 true true) (ab_le0 k 130 true true)) (ab_br k 132 (ab_le0 k 131 true true) (ab_br k 133 (ab_le0 k 132 true true) (ab_le0 k 133 false true)))))))))
def ab_nf (c : Nat) : Nat := (ab_br c 3 (ab_br c 1 (ab_le0 c 0 6 0) (ab_br c 2 (ab_le0 c 1 11 0) (ab_le0 c 2 15 0))) (ab_br c 5 (ab_br c 4 (ab_le0 c 3 3 0) (ab_le0 c 4 1 0)) (ab_br c 6 (ab_le0 c 5 4 0) (ab_le0 c 6 37 0))))
def ab_knd (c f : Nat) : Nat := (ab_br c 3 (ab_br c 1 (ab_le0 c 0 (ab_br f 3 (ab_br f 1 (ab_le0 f 0 3 0) (ab_br f 2 (ab_le0 f 1 0 0) (ab_le0 f 2 3 0))) (ab_br f 4 (ab_le0 f 3 3 0) (ab_br f 5 (ab_le0 f 4 3 0) (ab_le0 f 5 3 0)))) 0) (ab_br c 2 (ab_le0 c 1 (ab_br f 5 (ab_br f 2 (ab_br f 1 (ab_le0 f 0 3 0) (ab_le0 f 1 3 0)) (ab_br f 3 (ab_le0 f 2 3 0) (ab_br f 4 (ab_le0 f 3 3 0) (ab_le0 f 4 3 0)))) (ab_br f 8 (ab_br f 6 (ab_le0 f 5 3 0) (ab_br f 7 (ab_le0 f 6 0 0) (ab_le0 f 7 0 0))) (ab_br f 9 (ab_le0 f 8 0 0) (ab_br f 10 (ab_le0 f 9 1 0) (ab_le0 f 10 1 0))))) 0) (ab_le0 c 2 (ab_br f 7 (ab_br f 3 (ab_br f 1 (ab_le0 f 0 3 0) (ab_br f 2 (ab_le0 f 1 3 0) (ab_le0 f 2 3 0))) (ab_br f 5 (ab_br f 4 (ab_le0 f 3 3 0) (ab_le0 f 4 3 0)) (ab_br f 6 (ab_le0 f 5 3 0) (ab_le0 f 6 3 0)))) (ab_br f 11 (ab_br f 9 (ab_br f 8 (ab_le0 f 7 3 0) (ab_le0 f 8 3 0)) (ab_br f 10 (ab_le0 f 9 3 0) (ab_le0 f 10 1 0))) (ab_br f 13 (ab_br f 12 (ab_le0 f 11 0 0) (ab_le0 f 12 0 0)) (ab_br f 14 (ab_le0 f 13 0 0) (ab_le0 f 14 0 0))))) 0))) (ab_br c 5 (ab_br c 4 (ab_le0 c 3 (ab_br f 1 (ab_le0 f 0 2 0) (ab_br f 2 (ab_le0 f 1 0 0) (ab_le0 f 2 0 0))) 0) (ab_le0 c 4 (ab_le0 f 0 3 0) 0)) (ab_br c 6 (ab_le0 c 5 (ab_br f 2 (ab_br f 1 (ab_le0 f 0 3 0) (ab_le0 f 1 3 0)) (ab_br f 3 (ab_le0 f 2 3 0) (ab_le0 f 3 3 0))) 0) (ab_le0 c 6 (ab_br f 18 (ab_br f 9 (ab_br f 4 (ab_br f 2 (ab_br f 1 (ab_le0 f 0 0 0) (ab_le0 f 1 3 0)) (ab_br f 3 (ab_le0 f 2 0 0) (ab_le0 f 3 3 0))) (ab_br f 6 (ab_br f 5 (ab_le0 f 4 0 0) (ab_le0 f 5 3 0)) (ab_br f 7 (ab_le0 f 6 3 0) (ab_br f 8 (ab_le0 f 7 3 0) (ab_le0 f 8 3 0))))) (ab_br f 13 (ab_br f 11 (ab_br f 10 (ab_le0 f 9 3 0) (ab_le0 f 10 3 0)) (ab_br f 12 (ab_le0 f 11 3 0) (ab_le0 f 12 3 0))) (ab_br f 15 (ab_br f 14 (ab_le0 f 13 3 0) (ab_le0 f 14 3 0)) (ab_br f 16 (ab_le0 f 15 0 0) (ab_br f 17 (ab_le0 f 16 1 0) (ab_le0 f 17 0 0)))))) (ab_br f 27 (ab_br f 22 (ab_br f 20 (ab_br f 19 (ab_le0 f 18 0 0) (ab_le0 f 19 3 0)) (ab_br f 21 (ab_le0 f 20 3 0) (ab_le0 f 21 3 0))) (ab_br f 24 (ab_br f 23 (ab_le0 f 22 3 0) (ab_le0 f 23 3 0)) (ab_br f 25 (ab_le0 f 24 3 0) (ab_br f 26 (ab_le0 f 25 3 0) (ab_le0 f 26 0 0))))) (ab_br f 32 (ab_br f 29 (ab_br f 28 (ab_le0 f 27 3 0) (ab_le0 f 28 3 0)) (ab_br f 30 (ab_le0 f 29 3 0) (ab_br f 31 (ab_le0 f 30 3 0) (ab_le0 f 31 3 0)))) (ab_br f 34 (ab_br f 33 (ab_le0 f 32 3 0) (ab_le0 f 33 3 0)) (ab_br f 35 (ab_le0 f 34 3 0) (ab_br f 36 (ab_le0 f 35 3 0) (ab_le0 f 36 3 0))))))) 0))))
def ab_fty (c f : Nat) : FieldType := (ab_br c 3 (ab_br c 1 (ab_le0 c 0 (ab_br f 3 (ab_br f 1 (ab_le0 f 0 (.array .char) .int) (ab_br f 2 (ab_le0 f 1 .int .int) (ab_le0 f 2 (.object "ShapedItems$ItemBytes") .int))) (ab_br f 4 (ab_le0 f 3 (.object "ShapedItems$RuleBook") .int) (ab_br f 5 (ab_le0 f 4 (.object "ShapedItems$ShapeReader") .int) (ab_le0 f 5 (.object "ShapedItems$Matcher") .int)))) .int) (ab_br c 2 (ab_le0 c 1 (ab_br f 5 (ab_br f 2 (ab_br f 1 (ab_le0 f 0 (.array .int) .int) (ab_le0 f 1 (.array .int) .int)) (ab_br f 3 (ab_le0 f 2 (.array .long) .int) (ab_br f 4 (ab_le0 f 3 (.array .int) .int) (ab_le0 f 4 (.array .int) .int)))) (ab_br f 8 (ab_br f 6 (ab_le0 f 5 (.array .int) .int) (ab_br f 7 (ab_le0 f 6 .int .int) (ab_le0 f 7 .int .int))) (ab_br f 9 (ab_le0 f 8 .int .int) (ab_br f 10 (ab_le0 f 9 .boolean .int) (ab_le0 f 10 .boolean .int))))) .int) (ab_le0 c 2 (ab_br f 7 (ab_br f 3 (ab_br f 1 (ab_le0 f 0 (.array .char) .int) (ab_br f 2 (ab_le0 f 1 (.array .char) .int) (ab_le0 f 2 (.array .int) .int))) (ab_br f 5 (ab_br f 4 (ab_le0 f 3 (.array .int) .int) (ab_le0 f 4 (.array .int) .int)) (ab_br f 6 (ab_le0 f 5 (.array .char) .int) (ab_le0 f 6 (.array .int) .int)))) (ab_br f 11 (ab_br f 9 (ab_br f 8 (ab_le0 f 7 (.array .int) .int) (ab_le0 f 8 (.array .boolean) .int)) (ab_br f 10 (ab_le0 f 9 (.array .int) .int) (ab_le0 f 10 .boolean .int))) (ab_br f 13 (ab_br f 12 (ab_le0 f 11 .int .int) (ab_le0 f 12 .int .int)) (ab_br f 14 (ab_le0 f 13 .int .int) (ab_le0 f 14 .int .int))))) .int))) (ab_br c 5 (ab_br c 4 (ab_le0 c 3 (ab_br f 1 (ab_le0 f 0 (.object "ShapedItems$Shape") .int) (ab_br f 2 (ab_le0 f 1 .int .int) (ab_le0 f 2 .int .int))) .int) (ab_le0 c 4 (ab_le0 f 0 (.array (.object "ShapedItems$Shape")) .int) .int)) (ab_br c 6 (ab_le0 c 5 (ab_br f 2 (ab_br f 1 (ab_le0 f 0 (.object "ShapedItems$RuleBook") .int) (ab_le0 f 1 (.object "ShapedItems$ItemBytes") .int)) (ab_br f 3 (ab_le0 f 2 (.array .int) .int) (ab_le0 f 3 (.array .int) .int))) .int) (ab_le0 c 6 (ab_br f 18 (ab_br f 9 (ab_br f 4 (ab_br f 2 (ab_br f 1 (ab_le0 f 0 .int .int) (ab_le0 f 1 (.array .int) .int)) (ab_br f 3 (ab_le0 f 2 .int .int) (ab_le0 f 3 (.array .int) .int))) (ab_br f 6 (ab_br f 5 (ab_le0 f 4 .int .int) (ab_le0 f 5 (.array .boolean) .int)) (ab_br f 7 (ab_le0 f 6 (.array .int) .int) (ab_br f 8 (ab_le0 f 7 (.array .int) .int) (ab_le0 f 8 (.array .int) .int))))) (ab_br f 13 (ab_br f 11 (ab_br f 10 (ab_le0 f 9 (.array .int) .int) (ab_le0 f 10 (.array .int) .int)) (ab_br f 12 (ab_le0 f 11 (.array .int) .int) (ab_le0 f 12 (.array .int) .int))) (ab_br f 15 (ab_br f 14 (ab_le0 f 13 (.array .int) .int) (ab_le0 f 14 (.array .int) .int)) (ab_br f 16 (ab_le0 f 15 .int .int) (ab_br f 17 (ab_le0 f 16 .boolean .int) (ab_le0 f 17 .int .int)))))) (ab_br f 27 (ab_br f 22 (ab_br f 20 (ab_br f 19 (ab_le0 f 18 .int .int) (ab_le0 f 19 (.array .int) .int)) (ab_br f 21 (ab_le0 f 20 (.array .int) .int) (ab_le0 f 21 (.array .int) .int))) (ab_br f 24 (ab_br f 23 (ab_le0 f 22 (.array .int) .int) (ab_le0 f 23 (.array .int) .int)) (ab_br f 25 (ab_le0 f 24 (.array .int) .int) (ab_br f 26 (ab_le0 f 25 (.array .boolean) .int) (ab_le0 f 26 .int .int))))) (ab_br f 32 (ab_br f 29 (ab_br f 28 (ab_le0 f 27 (.array .int) .int) (ab_le0 f 28 (.array .long) .int)) (ab_br f 30 (ab_le0 f 29 (.array .int) .int) (ab_br f 31 (ab_le0 f 30 (.array .int) .int) (ab_le0 f 31 (.array .int) .int)))) (ab_br f 34 (ab_br f 33 (ab_le0 f 32 (.array .long) .int) (ab_le0 f 33 (.array .int) .int)) (ab_br f 35 (ab_le0 f 34 (.array .int) .int) (ab_br f 36 (ab_le0 f 35 (.array .boolean) .int) (ab_le0 f 36 (.array .boolean) .int))))))) .int))))
def ab_ft (c f : Nat) : String × String × String × Bool := (ab_br c 3 (ab_br c 1 (ab_le0 c 0 (ab_br f 3 (ab_br f 1 (ab_le0 f 0 ("ShapedItems", "typed", "[C", true) ("", "", "", false)) (ab_br f 2 (ab_le0 f 1 ("ShapedItems", "typedCount", "I", false) ("", "", "", false)) (ab_le0 f 2 ("ShapedItems", "bytes", "LShapedItems$ItemBytes;", true) ("", "", "", false)))) (ab_br f 4 (ab_le0 f 3 ("ShapedItems", "book", "LShapedItems$RuleBook;", true) ("", "", "", false)) (ab_br f 5 (ab_le0 f 4 ("ShapedItems", "reader", "LShapedItems$ShapeReader;", true) ("", "", "", false)) (ab_le0 f 5 ("ShapedItems", "matcher", "LShapedItems$Matcher;", true) ("", "", "", false))))) ("", "", "", false)) (ab_br c 2 (ab_le0 c 1 (ab_br f 5 (ab_br f 2 (ab_br f 1 (ab_le0 f 0 ("ShapedItems$ItemBytes", "bytes", "[I", true) ("", "", "", false)) (ab_le0 f 1 ("ShapedItems$ItemBytes", "majors", "[I", true) ("", "", "", false))) (ab_br f 3 (ab_le0 f 2 ("ShapedItems$ItemBytes", "numbers", "[J", true) ("", "", "", false)) (ab_br f 4 (ab_le0 f 3 ("ShapedItems$ItemBytes", "depths", "[I", true) ("", "", "", false)) (ab_le0 f 4 ("ShapedItems$ItemBytes", "starts", "[I", true) ("", "", "", false))))) (ab_br f 8 (ab_br f 6 (ab_le0 f 5 ("ShapedItems$ItemBytes", "behind", "[I", true) ("", "", "", false)) (ab_br f 7 (ab_le0 f 6 ("ShapedItems$ItemBytes", "itemCount", "I", false) ("", "", "", false)) (ab_le0 f 7 ("ShapedItems$ItemBytes", "byteCount", "I", false) ("", "", "", false)))) (ab_br f 9 (ab_le0 f 8 ("ShapedItems$ItemBytes", "place", "I", false) ("", "", "", false)) (ab_br f 10 (ab_le0 f 9 ("ShapedItems$ItemBytes", "isRead", "Z", false) ("", "", "", false)) (ab_le0 f 10 ("ShapedItems$ItemBytes", "wellFormed", "Z", false) ("", "", "", false)))))) ("", "", "", false)) (ab_le0 c 2 (ab_br f 7 (ab_br f 3 (ab_br f 1 (ab_le0 f 0 ("ShapedItems$Shape", "text", "[C", true) ("", "", "", false)) (ab_br f 2 (ab_le0 f 1 ("ShapedItems$Shape", "kinds", "[C", true) ("", "", "", false)) (ab_le0 f 2 ("ShapedItems$Shape", "nexts", "[I", true) ("", "", "", false)))) (ab_br f 5 (ab_br f 4 (ab_le0 f 3 ("ShapedItems$Shape", "lows", "[I", true) ("", "", "", false)) (ab_le0 f 4 ("ShapedItems$Shape", "highs", "[I", true) ("", "", "", false))) (ab_br f 6 (ab_le0 f 5 ("ShapedItems$Shape", "oftens", "[C", true) ("", "", "", false)) (ab_le0 f 6 ("ShapedItems$Shape", "keys", "[I", true) ("", "", "", false))))) (ab_br f 11 (ab_br f 9 (ab_br f 8 (ab_le0 f 7 ("ShapedItems$Shape", "values", "[I", true) ("", "", "", false)) (ab_le0 f 8 ("ShapedItems$Shape", "keeps", "[Z", true) ("", "", "", false))) (ab_br f 10 (ab_le0 f 9 ("ShapedItems$Shape", "nextParts", "[I", true) ("", "", "", false)) (ab_le0 f 10 ("ShapedItems$Shape", "defined", "Z", false) ("", "", "", false)))) (ab_br f 13 (ab_br f 12 (ab_le0 f 11 ("ShapedItems$Shape", "length", "I", false) ("", "", "", false)) (ab_le0 f 12 ("ShapedItems$Shape", "first", "I", false) ("", "", "", false))) (ab_br f 14 (ab_le0 f 13 ("ShapedItems$Shape", "leads", "I", false) ("", "", "", false)) (ab_le0 f 14 ("ShapedItems$Shape", "leadsBarely", "I", false) ("", "", "", false)))))) ("", "", "", false)))) (ab_br c 5 (ab_br c 4 (ab_le0 c 3 (ab_br f 1 (ab_le0 f 0 ("ShapedItems$ShapeReader", "shape", "LShapedItems$Shape;", false) ("", "", "", false)) (ab_br f 2 (ab_le0 f 1 ("ShapedItems$ShapeReader", "place", "I", false) ("", "", "", false)) (ab_le0 f 2 ("ShapedItems$ShapeReader", "tail", "I", false) ("", "", "", false)))) ("", "", "", false)) (ab_le0 c 4 (ab_le0 f 0 ("ShapedItems$RuleBook", "shapes", "[LShapedItems$Shape;", true) ("", "", "", false)) ("", "", "", false))) (ab_br c 6 (ab_le0 c 5 (ab_br f 2 (ab_br f 1 (ab_le0 f 0 ("ShapedItems$Matcher", "book", "LShapedItems$RuleBook;", true) ("", "", "", false)) (ab_le0 f 1 ("ShapedItems$Matcher", "bytes", "LShapedItems$ItemBytes;", true) ("", "", "", false))) (ab_br f 3 (ab_le0 f 2 ("ShapedItems$Matcher", "known", "[I", true) ("", "", "", false)) (ab_le0 f 3 ("ShapedItems$Matcher", "answers", "[I", true) ("", "", "", false)))) ("", "", "", false)) (ab_le0 c 6 (ab_br f 18 (ab_br f 9 (ab_br f 4 (ab_br f 2 (ab_br f 1 (ab_le0 f 0 ("ShapedItemsModel", "thrown", "I", false) ("", "", "", false)) (ab_le0 f 1 ("ShapedItemsModel", "line", "[I", true) ("", "", "", false))) (ab_br f 3 (ab_le0 f 2 ("ShapedItemsModel", "typed", "I", false) ("", "", "", false)) (ab_le0 f 3 ("ShapedItemsModel", "bytes", "[I", true) ("", "", "", false)))) (ab_br f 6 (ab_br f 5 (ab_le0 f 4 ("ShapedItemsModel", "fed", "I", false) ("", "", "", false)) (ab_le0 f 5 ("ShapedItemsModel", "defined", "[Z", true) ("", "", "", false))) (ab_br f 7 (ab_le0 f 6 ("ShapedItemsModel", "texts", "[I", true) ("", "", "", false)) (ab_br f 8 (ab_le0 f 7 ("ShapedItemsModel", "partCount", "[I", true) ("", "", "", false)) (ab_le0 f 8 ("ShapedItemsModel", "leads", "[I", true) ("", "", "", false)))))) (ab_br f 13 (ab_br f 11 (ab_br f 10 (ab_le0 f 9 ("ShapedItemsModel", "bare", "[I", true) ("", "", "", false)) (ab_le0 f 10 ("ShapedItemsModel", "kinds", "[I", true) ("", "", "", false))) (ab_br f 12 (ab_le0 f 11 ("ShapedItemsModel", "as", "[I", true) ("", "", "", false)) (ab_le0 f 12 ("ShapedItemsModel", "bs", "[I", true) ("", "", "", false)))) (ab_br f 15 (ab_br f 14 (ab_le0 f 13 ("ShapedItemsModel", "next", "[I", true) ("", "", "", false)) (ab_le0 f 14 ("ShapedItemsModel", "often", "[I", true) ("", "", "", false))) (ab_br f 16 (ab_le0 f 15 ("ShapedItemsModel", "at", "I", false) ("", "", "", false)) (ab_br f 17 (ab_le0 f 16 ("ShapedItemsModel", "bad", "Z", false) ("", "", "", false)) (ab_le0 f 17 ("ShapedItemsModel", "depth", "I", false) ("", "", "", false))))))) (ab_br f 27 (ab_br f 22 (ab_br f 20 (ab_br f 19 (ab_le0 f 18 ("ShapedItemsModel", "alternatives", "I", false) ("", "", "", false)) (ab_le0 f 19 ("ShapedItemsModel", "brackets", "[I", true) ("", "", "", false))) (ab_br f 21 (ab_le0 f 20 ("ShapedItemsModel", "holders", "[I", true) ("", "", "", false)) (ab_le0 f 21 ("ShapedItemsModel", "types", "[I", true) ("", "", "", false)))) (ab_br f 24 (ab_br f 23 (ab_le0 f 22 ("ShapedItemsModel", "lastParts", "[I", true) ("", "", "", false)) (ab_le0 f 23 ("ShapedItemsModel", "lastAlternatives", "[I", true) ("", "", "", false))) (ab_br f 25 (ab_le0 f 24 ("ShapedItemsModel", "many", "[I", true) ("", "", "", false)) (ab_br f 26 (ab_le0 f 25 ("ShapedItemsModel", "keyIsDue", "[Z", true) ("", "", "", false)) (ab_le0 f 26 ("ShapedItemsModel", "items", "I", false) ("", "", "", false)))))) (ab_br f 32 (ab_br f 29 (ab_br f 28 (ab_le0 f 27 ("ShapedItemsModel", "majors", "[I", true) ("", "", "", false)) (ab_le0 f 28 ("ShapedItemsModel", "numbers", "[J", true) ("", "", "", false))) (ab_br f 30 (ab_le0 f 29 ("ShapedItemsModel", "depths", "[I", true) ("", "", "", false)) (ab_br f 31 (ab_le0 f 30 ("ShapedItemsModel", "ends", "[I", true) ("", "", "", false)) (ab_le0 f 31 ("ShapedItemsModel", "contents", "[I", true) ("", "", "", false))))) (ab_br f 34 (ab_br f 33 (ab_le0 f 32 ("ShapedItemsModel", "left", "[J", true) ("", "", "", false)) (ab_le0 f 33 ("ShapedItemsModel", "holder", "[I", true) ("", "", "", false))) (ab_br f 35 (ab_le0 f 34 ("ShapedItemsModel", "match", "[I", true) ("", "", "", false)) (ab_br f 36 (ab_le0 f 35 ("ShapedItemsModel", "sets", "[Z", true) ("", "", "", false)) (ab_le0 f 36 ("ShapedItemsModel", "nextSets", "[Z", true) ("", "", "", false)))))))) ("", "", "", false)))))
def ab_cl : List vw_C := (List.range 7).map fun c => (ab_cn c, ab_ft c, ab_nf c)
def ab_rty (k : Nat) : Option FieldType := (ab_br k 67 (ab_br k 33 (ab_br k 16 (ab_br k 8 (ab_br k 4 (ab_br k 2 (ab_br k 1 (ab_le0 k 0 (Option.none : Option Jvm.ClassFile.FieldType) none) (ab_le0 k 1 (Option.some Jvm.ClassFile.FieldType.boolean) none)) (ab_br k 3 (ab_le0 k 2 (Option.some Jvm.ClassFile.FieldType.int) none) (ab_le0 k 3 (Option.some Jvm.ClassFile.FieldType.boolean) none))) (ab_br k 6 (ab_br k 5 (ab_le0 k 4 (Option.some Jvm.ClassFile.FieldType.int) none) (ab_le0 k 5 (Option.some Jvm.ClassFile.FieldType.int) none)) (ab_br k 7 (ab_le0 k 6 (Option.some Jvm.ClassFile.FieldType.int) none) (ab_le0 k 7 (Option.some Jvm.ClassFile.FieldType.int) none)))) (ab_br k 12 (ab_br k 10 (ab_br k 9 (ab_le0 k 8 (Option.some Jvm.ClassFile.FieldType.long) none) (ab_le0 k 9 (Option.some Jvm.ClassFile.FieldType.int) none)) (ab_br k 11 (ab_le0 k 10 (Option.some Jvm.ClassFile.FieldType.int) none) (ab_le0 k 11 (Option.some Jvm.ClassFile.FieldType.boolean) none))) (ab_br k 14 (ab_br k 13 (ab_le0 k 12 (Option.some Jvm.ClassFile.FieldType.boolean) none) (ab_le0 k 13 (Option.some Jvm.ClassFile.FieldType.int) none)) (ab_br k 15 (ab_le0 k 14 (Option.some Jvm.ClassFile.FieldType.boolean) none) (ab_le0 k 15 (Option.some Jvm.ClassFile.FieldType.int) none))))) (ab_br k 24 (ab_br k 20 (ab_br k 18 (ab_br k 17 (ab_le0 k 16 (Option.none : Option Jvm.ClassFile.FieldType) none) (ab_le0 k 17 (Option.none : Option Jvm.ClassFile.FieldType) none)) (ab_br k 19 (ab_le0 k 18 (Option.none : Option Jvm.ClassFile.FieldType) none) (ab_le0 k 19 (Option.some Jvm.ClassFile.FieldType.int) none))) (ab_br k 22 (ab_br k 21 (ab_le0 k 20 (Option.none : Option Jvm.ClassFile.FieldType) none) (ab_le0 k 21 (Option.some Jvm.ClassFile.FieldType.int) none)) (ab_br k 23 (ab_le0 k 22 (Option.some Jvm.ClassFile.FieldType.int) none) (ab_le0 k 23 (Option.some Jvm.ClassFile.FieldType.boolean) none)))) (ab_br k 28 (ab_br k 26 (ab_br k 25 (ab_le0 k 24 (Option.some Jvm.ClassFile.FieldType.boolean) none) (ab_le0 k 25 (Option.some Jvm.ClassFile.FieldType.long) none)) (ab_br k 27 (ab_le0 k 26 (Option.some Jvm.ClassFile.FieldType.boolean) none) (ab_le0 k 27 (Option.some Jvm.ClassFile.FieldType.boolean) none))) (ab_br k 30 (ab_br k 29 (ab_le0 k 28 (Option.some Jvm.ClassFile.FieldType.boolean) none) (ab_le0 k 29 (Option.some Jvm.ClassFile.FieldType.boolean) none)) (ab_br k 31 (ab_le0 k 30 (Option.some Jvm.ClassFile.FieldType.long) none) (ab_br k 32 (ab_le0 k 31 (Option.none : Option Jvm.ClassFile.FieldType) none) (ab_le0 k 32 (Option.none : Option Jvm.ClassFile.FieldType) none))))))) (ab_br k 50 (ab_br k 41 (ab_br k 37 (ab_br k 35 (ab_br k 34 (ab_le0 k 33 (Option.some Jvm.ClassFile.FieldType.boolean) none) (ab_le0 k 34 (Option.some Jvm.ClassFile.FieldType.boolean) none)) (ab_br k 36 (ab_le0 k 35 (Option.none : Option Jvm.ClassFile.FieldType) none) (ab_le0 k 36 (Option.some Jvm.ClassFile.FieldType.int) none))) (ab_br k 39 (ab_br k 38 (ab_le0 k 37 (Option.some (Jvm.ClassFile.FieldType.object "ShapedItems$Shape")) none) (ab_le0 k 38 (Option.some Jvm.ClassFile.FieldType.int) none)) (ab_br k 40 (ab_le0 k 39 (Option.none : Option Jvm.ClassFile.FieldType) none) (ab_le0 k 40 (Option.some Jvm.ClassFile.FieldType.char) none)))) (ab_br k 45 (ab_br k 43 (ab_br k 42 (ab_le0 k 41 (Option.some Jvm.ClassFile.FieldType.boolean) none) (ab_le0 k 42 (Option.some Jvm.ClassFile.FieldType.boolean) none)) (ab_br k 44 (ab_le0 k 43 (Option.some Jvm.ClassFile.FieldType.int) none) (ab_le0 k 44 (Option.some Jvm.ClassFile.FieldType.int) none))) (ab_br k 47 (ab_br k 46 (ab_le0 k 45 (Option.some Jvm.ClassFile.FieldType.int) none) (ab_le0 k 46 (Option.none : Option Jvm.ClassFile.FieldType) none)) (ab_br k 48 (ab_le0 k 47 (Option.none : Option Jvm.ClassFile.FieldType) none) (ab_br k 49 (ab_le0 k 48 (Option.none : Option Jvm.ClassFile.FieldType) none) (ab_le0 k 49 (Option.some Jvm.ClassFile.FieldType.int) none)))))) (ab_br k 58 (ab_br k 54 (ab_br k 52 (ab_br k 51 (ab_le0 k 50 (Option.none : Option Jvm.ClassFile.FieldType) none) (ab_le0 k 51 (Option.none : Option Jvm.ClassFile.FieldType) none)) (ab_br k 53 (ab_le0 k 52 (Option.none : Option Jvm.ClassFile.FieldType) none) (ab_le0 k 53 (Option.none : Option Jvm.ClassFile.FieldType) none))) (ab_br k 56 (ab_br k 55 (ab_le0 k 54 (Option.some Jvm.ClassFile.FieldType.char) none) (ab_le0 k 55 (Option.none : Option Jvm.ClassFile.FieldType) none)) (ab_br k 57 (ab_le0 k 56 (Option.none : Option Jvm.ClassFile.FieldType) none) (ab_le0 k 57 (Option.some Jvm.ClassFile.FieldType.int) none)))) (ab_br k 62 (ab_br k 60 (ab_br k 59 (ab_le0 k 58 (Option.some Jvm.ClassFile.FieldType.int) none) (ab_le0 k 59 (Option.some Jvm.ClassFile.FieldType.boolean) none)) (ab_br k 61 (ab_le0 k 60 (Option.some Jvm.ClassFile.FieldType.boolean) none) (ab_le0 k 61 (Option.some Jvm.ClassFile.FieldType.boolean) none))) (ab_br k 64 (ab_br k 63 (ab_le0 k 62 (Option.none : Option Jvm.ClassFile.FieldType) none) (ab_le0 k 63 (Option.some Jvm.ClassFile.FieldType.boolean) none)) (ab_br k 65 (ab_le0 k 64 (Option.some Jvm.ClassFile.FieldType.boolean) none) (ab_br k 66 (ab_le0 k 65 (Option.some Jvm.ClassFile.FieldType.boolean) none) (ab_le0 k 66 (Option.some Jvm.ClassFile.FieldType.boolean) none)))))))) (ab_br k 100 (ab_br k 83 (ab_br k 75 (ab_br k 71 (ab_br k 69 (ab_br k 68 (ab_le0 k 67 (Option.some Jvm.ClassFile.FieldType.boolean) none) (ab_le0 k 68 (Option.some Jvm.ClassFile.FieldType.boolean) none)) (ab_br k 70 (ab_le0 k 69 (Option.some Jvm.ClassFile.FieldType.boolean) none) (ab_le0 k 70 (Option.some Jvm.ClassFile.FieldType.int) none))) (ab_br k 73 (ab_br k 72 (ab_le0 k 71 (Option.some Jvm.ClassFile.FieldType.boolean) none) (ab_le0 k 72 (Option.some Jvm.ClassFile.FieldType.long) none)) (ab_br k 74 (ab_le0 k 73 (Option.none : Option Jvm.ClassFile.FieldType) none) (ab_le0 k 74 (Option.some Jvm.ClassFile.FieldType.int) none)))) (ab_br k 79 (ab_br k 77 (ab_br k 76 (ab_le0 k 75 (Option.some Jvm.ClassFile.FieldType.boolean) none) (ab_le0 k 76 (Option.some Jvm.ClassFile.FieldType.int) none)) (ab_br k 78 (ab_le0 k 77 (Option.some Jvm.ClassFile.FieldType.int) none) (ab_le0 k 78 (Option.some Jvm.ClassFile.FieldType.int) none))) (ab_br k 81 (ab_br k 80 (ab_le0 k 79 (Option.some Jvm.ClassFile.FieldType.boolean) none) (ab_le0 k 80 (Option.some Jvm.ClassFile.FieldType.boolean) none)) (ab_br k 82 (ab_le0 k 81 (Option.some Jvm.ClassFile.FieldType.int) none) (ab_le0 k 82 (Option.none : Option Jvm.ClassFile.FieldType) none))))) (ab_br k 91 (ab_br k 87 (ab_br k 85 (ab_br k 84 (ab_le0 k 83 (Option.some Jvm.ClassFile.FieldType.int) none) (ab_le0 k 84 (Option.none : Option Jvm.ClassFile.FieldType) none)) (ab_br k 86 (ab_le0 k 85 (Option.none : Option Jvm.ClassFile.FieldType) none) (ab_le0 k 86 (Option.some Jvm.ClassFile.FieldType.boolean) none))) (ab_br k 89 (ab_br k 88 (ab_le0 k 87 (Option.some Jvm.ClassFile.FieldType.int) none) (ab_le0 k 88 (Option.some Jvm.ClassFile.FieldType.int) none)) (ab_br k 90 (ab_le0 k 89 (Option.some Jvm.ClassFile.FieldType.int) none) (ab_le0 k 90 (Option.some Jvm.ClassFile.FieldType.int) none)))) (ab_br k 95 (ab_br k 93 (ab_br k 92 (ab_le0 k 91 (Option.some Jvm.ClassFile.FieldType.int) none) (ab_le0 k 92 (Option.some Jvm.ClassFile.FieldType.boolean) none)) (ab_br k 94 (ab_le0 k 93 (Option.some Jvm.ClassFile.FieldType.boolean) none) (ab_le0 k 94 (Option.some Jvm.ClassFile.FieldType.boolean) none))) (ab_br k 97 (ab_br k 96 (ab_le0 k 95 (Option.some Jvm.ClassFile.FieldType.boolean) none) (ab_le0 k 96 (Option.some Jvm.ClassFile.FieldType.int) none)) (ab_br k 98 (ab_le0 k 97 (Option.some Jvm.ClassFile.FieldType.boolean) none) (ab_br k 99 (ab_le0 k 98 (Option.some Jvm.ClassFile.FieldType.int) none) (ab_le0 k 99 (Option.some Jvm.ClassFile.FieldType.int) none))))))) (ab_br k 117 (ab_br k 108 (ab_br k 104 (ab_br k 102 (ab_br k 101 (ab_le0 k 100 (Option.some Jvm.ClassFile.FieldType.int) none) (ab_le0 k 101 (Option.some Jvm.ClassFile.FieldType.int) none)) (ab_br k 103 (ab_le0 k 102 (Option.some Jvm.ClassFile.FieldType.boolean) none) (ab_le0 k 103 (Option.some Jvm.ClassFile.FieldType.boolean) none))) (ab_br k 106 (ab_br k 105 (ab_le0 k 104 (Option.some Jvm.ClassFile.FieldType.int) none) (ab_le0 k 105 (Option.some Jvm.ClassFile.FieldType.int) none)) (ab_br k 107 (ab_le0 k 106 (Option.some Jvm.ClassFile.FieldType.boolean) none) (ab_le0 k 107 (Option.some Jvm.ClassFile.FieldType.int) none)))) (ab_br k 112 (ab_br k 110 (ab_br k 109 (ab_le0 k 108 (Option.some Jvm.ClassFile.FieldType.long) none) (ab_le0 k 109 (Option.some Jvm.ClassFile.FieldType.int) none)) (ab_br k 111 (ab_le0 k 110 (Option.some Jvm.ClassFile.FieldType.boolean) none) (ab_le0 k 111 (Option.some Jvm.ClassFile.FieldType.boolean) none))) (ab_br k 114 (ab_br k 113 (ab_le0 k 112 (Option.some Jvm.ClassFile.FieldType.long) none) (ab_le0 k 113 (Option.some Jvm.ClassFile.FieldType.boolean) none)) (ab_br k 115 (ab_le0 k 114 (Option.some Jvm.ClassFile.FieldType.boolean) none) (ab_br k 116 (ab_le0 k 115 (Option.some Jvm.ClassFile.FieldType.boolean) none) (ab_le0 k 116 (Option.some Jvm.ClassFile.FieldType.boolean) none)))))) (ab_br k 125 (ab_br k 121 (ab_br k 119 (ab_br k 118 (ab_le0 k 117 (Option.some Jvm.ClassFile.FieldType.boolean) none) (ab_le0 k 118 (Option.none : Option Jvm.ClassFile.FieldType) none)) (ab_br k 120 (ab_le0 k 119 (Option.some Jvm.ClassFile.FieldType.boolean) none) (ab_le0 k 120 (Option.some Jvm.ClassFile.FieldType.boolean) none))) (ab_br k 123 (ab_br k 122 (ab_le0 k 121 (Option.some Jvm.ClassFile.FieldType.int) none) (ab_le0 k 122 (Option.some Jvm.ClassFile.FieldType.int) none)) (ab_br k 124 (ab_le0 k 123 (Option.some Jvm.ClassFile.FieldType.int) none) (ab_le0 k 124 (Option.some Jvm.ClassFile.FieldType.int) none)))) (ab_br k 129 (ab_br k 127 (ab_br k 126 (ab_le0 k 125 (Option.some Jvm.ClassFile.FieldType.int) none) (ab_le0 k 126 (Option.some Jvm.ClassFile.FieldType.int) none)) (ab_br k 128 (ab_le0 k 127 (Option.some Jvm.ClassFile.FieldType.int) none) (ab_le0 k 128 (Option.some Jvm.ClassFile.FieldType.int) none))) (ab_br k 131 (ab_br k 130 (ab_le0 k 129 (Option.some Jvm.ClassFile.FieldType.int) none) (ab_le0 k 130 (Option.some Jvm.ClassFile.FieldType.int) none)) (ab_br k 132 (ab_le0 k 131 (Option.some Jvm.ClassFile.FieldType.int) none) (ab_br k 133 (ab_le0 k 132 (Option.none : Option Jvm.ClassFile.FieldType) none) (ab_le0 k 133 (some .boolean) none)))))))))
def ab_T (r : Nat) : Nat := (ab_br r 74 (ab_br r 37 (ab_br r 19 (ab_br r 10 (ab_br r 5 (ab_br r 3 (ab_br r 2 (ab_le0 r 1 1 0) (ab_le0 r 2 2 0)) (ab_br r 4 (ab_le0 r 3 10 0) (ab_le0 r 4 3 0))) (ab_br r 7 (ab_br r 6 (ab_le0 r 5 11 0) (ab_le0 r 6 1 0)) (ab_br r 8 (ab_le0 r 7 1 0) (ab_br r 9 (ab_le0 r 8 2 0) (ab_le0 r 9 1 0))))) (ab_br r 14 (ab_br r 12 (ab_br r 11 (ab_le0 r 10 1 0) (ab_le0 r 11 1 0)) (ab_br r 13 (ab_le0 r 12 14 0) (ab_le0 r 13 5 0))) (ab_br r 16 (ab_br r 15 (ab_le0 r 14 12 0) (ab_le0 r 15 3 0)) (ab_br r 17 (ab_le0 r 16 3 0) (ab_br r 18 (ab_le0 r 17 1 0) (ab_le0 r 18 1 0)))))) (ab_br r 28 (ab_br r 23 (ab_br r 21 (ab_br r 20 (ab_le0 r 19 1 0) (ab_le0 r 20 3 0)) (ab_br r 22 (ab_le0 r 21 1 0) (ab_le0 r 22 1 0))) (ab_br r 25 (ab_br r 24 (ab_le0 r 23 4 0) (ab_le0 r 24 1 0)) (ab_br r 26 (ab_le0 r 25 12 0) (ab_br r 27 (ab_le0 r 26 3 0) (ab_le0 r 27 3 0))))) (ab_br r 32 (ab_br r 30 (ab_br r 29 (ab_le0 r 28 1 0) (ab_le0 r 29 1 0)) (ab_br r 31 (ab_le0 r 30 1 0) (ab_le0 r 31 3 0))) (ab_br r 34 (ab_br r 33 (ab_le0 r 32 1 0) (ab_le0 r 33 1 0)) (ab_br r 35 (ab_le0 r 34 4 0) (ab_br r 36 (ab_le0 r 35 1 0) (ab_le0 r 36 12 0))))))) (ab_br r 55 (ab_br r 46 (ab_br r 41 (ab_br r 39 (ab_br r 38 (ab_le0 r 37 3 0) (ab_le0 r 38 3 0)) (ab_br r 40 (ab_le0 r 39 1 0) (ab_le0 r 40 1 0))) (ab_br r 43 (ab_br r 42 (ab_le0 r 41 1 0) (ab_le0 r 42 3 0)) (ab_br r 44 (ab_le0 r 43 1 0) (ab_br r 45 (ab_le0 r 44 1 0) (ab_le0 r 45 4 0))))) (ab_br r 50 (ab_br r 48 (ab_br r 47 (ab_le0 r 46 1 0) (ab_le0 r 47 12 0)) (ab_br r 49 (ab_le0 r 48 3 0) (ab_le0 r 49 3 0))) (ab_br r 52 (ab_br r 51 (ab_le0 r 50 1 0) (ab_le0 r 51 1 0)) (ab_br r 53 (ab_le0 r 52 1 0) (ab_br r 54 (ab_le0 r 53 3 0) (ab_le0 r 54 1 0)))))) (ab_br r 64 (ab_br r 59 (ab_br r 57 (ab_br r 56 (ab_le0 r 55 1 0) (ab_le0 r 56 4 0)) (ab_br r 58 (ab_le0 r 57 1 0) (ab_le0 r 58 12 0))) (ab_br r 61 (ab_br r 60 (ab_le0 r 59 3 0) (ab_le0 r 60 3 0)) (ab_br r 62 (ab_le0 r 61 1 0) (ab_br r 63 (ab_le0 r 62 1 0) (ab_le0 r 63 1 0))))) (ab_br r 69 (ab_br r 66 (ab_br r 65 (ab_le0 r 64 3 0) (ab_le0 r 65 1 0)) (ab_br r 67 (ab_le0 r 66 1 0) (ab_br r 68 (ab_le0 r 67 4 0) (ab_le0 r 68 1 0)))) (ab_br r 71 (ab_br r 70 (ab_le0 r 69 12 0) (ab_le0 r 70 3 0)) (ab_br r 72 (ab_le0 r 71 3 0) (ab_br r 73 (ab_le0 r 72 1 0) (ab_le0 r 73 1 0)))))))) (ab_br r 111 (ab_br r 92 (ab_br r 83 (ab_br r 78 (ab_br r 76 (ab_br r 75 (ab_le0 r 74 1 0) (ab_le0 r 75 3 0)) (ab_br r 77 (ab_le0 r 76 1 0) (ab_le0 r 77 1 0))) (ab_br r 80 (ab_br r 79 (ab_le0 r 78 4 0) (ab_le0 r 79 1 0)) (ab_br r 81 (ab_le0 r 80 12 0) (ab_br r 82 (ab_le0 r 81 3 0) (ab_le0 r 82 3 0))))) (ab_br r 87 (ab_br r 85 (ab_br r 84 (ab_le0 r 83 1 0) (ab_le0 r 84 1 0)) (ab_br r 86 (ab_le0 r 85 1 0) (ab_le0 r 86 3 0))) (ab_br r 89 (ab_br r 88 (ab_le0 r 87 1 0) (ab_le0 r 88 1 0)) (ab_br r 90 (ab_le0 r 89 4 0) (ab_br r 91 (ab_le0 r 90 1 0) (ab_le0 r 91 12 0)))))) (ab_br r 101 (ab_br r 96 (ab_br r 94 (ab_br r 93 (ab_le0 r 92 3 0) (ab_le0 r 93 3 0)) (ab_br r 95 (ab_le0 r 94 1 0) (ab_le0 r 95 1 0))) (ab_br r 98 (ab_br r 97 (ab_le0 r 96 1 0) (ab_le0 r 97 3 0)) (ab_br r 99 (ab_le0 r 98 1 0) (ab_br r 100 (ab_le0 r 99 1 0) (ab_le0 r 100 4 0))))) (ab_br r 106 (ab_br r 103 (ab_br r 102 (ab_le0 r 101 1 0) (ab_le0 r 102 13 0)) (ab_br r 104 (ab_le0 r 103 12 0) (ab_br r 105 (ab_le0 r 104 3 0) (ab_le0 r 105 3 0)))) (ab_br r 108 (ab_br r 107 (ab_le0 r 106 1 0) (ab_le0 r 107 1 0)) (ab_br r 109 (ab_le0 r 108 1 0) (ab_br r 110 (ab_le0 r 109 3 0) (ab_le0 r 110 1 0))))))) (ab_br r 129 (ab_br r 120 (ab_br r 115 (ab_br r 113 (ab_br r 112 (ab_le0 r 111 1 0) (ab_le0 r 112 4 0)) (ab_br r 114 (ab_le0 r 113 1 0) (ab_le0 r 114 15 0))) (ab_br r 117 (ab_br r 116 (ab_le0 r 115 1 0) (ab_le0 r 116 1 0)) (ab_br r 118 (ab_le0 r 117 16 0) (ab_br r 119 (ab_le0 r 118 1 0) (ab_le0 r 119 1 0))))) (ab_br r 124 (ab_br r 122 (ab_br r 121 (ab_le0 r 120 4 0) (ab_le0 r 121 1 0)) (ab_br r 123 (ab_le0 r 122 1 0) (ab_le0 r 123 1 0))) (ab_br r 126 (ab_br r 125 (ab_le0 r 124 1 0) (ab_le0 r 125 1 0)) (ab_br r 127 (ab_le0 r 126 1 0) (ab_br r 128 (ab_le0 r 127 1 0) (ab_le0 r 128 1 0)))))) (ab_br r 138 (ab_br r 133 (ab_br r 131 (ab_br r 130 (ab_le0 r 129 1 0) (ab_le0 r 130 1 0)) (ab_br r 132 (ab_le0 r 131 1 0) (ab_le0 r 132 1 0))) (ab_br r 135 (ab_br r 134 (ab_le0 r 133 1 0) (ab_le0 r 134 1 0)) (ab_br r 136 (ab_le0 r 135 1 0) (ab_br r 137 (ab_le0 r 136 4 0) (ab_le0 r 137 1 0))))) (ab_br r 143 (ab_br r 140 (ab_br r 139 (ab_le0 r 138 2 0) (ab_le0 r 139 1 0)) (ab_br r 141 (ab_le0 r 140 1 0) (ab_br r 142 (ab_le0 r 141 1 0) (ab_le0 r 142 2 0)))) (ab_br r 145 (ab_br r 144 (ab_le0 r 143 1 0) (ab_le0 r 144 1 0)) (ab_br r 146 (ab_le0 r 145 4 0) (ab_br r 147 (ab_le0 r 146 4 0) (ab_le0 r 147 2 0)))))))))
def ab_N0 (r : Nat) : Nat := (ab_br r 76 (ab_br r 40 (ab_br r 22 (ab_br r 13 (ab_br r 8 (ab_br r 6 (ab_br r 4 (ab_le0 r 2 6 0) (ab_le0 r 4 40 0)) (ab_br r 7 (ab_le0 r 6 40 0) (ab_le0 r 7 24 0))) (ab_br r 10 (ab_br r 9 (ab_le0 r 8 24 0) (ab_le0 r 9 24 0)) (ab_br r 11 (ab_le0 r 10 24 0) (ab_le0 r 11 24 0)))) (ab_br r 18 (ab_br r 16 (ab_br r 15 (ab_le0 r 13 8 0) (ab_le0 r 15 40 0)) (ab_br r 17 (ab_le0 r 16 40 0) (ab_le0 r 17 40 0))) (ab_br r 20 (ab_br r 19 (ab_le0 r 18 40 0) (ab_le0 r 19 40 0)) (ab_br r 21 (ab_le0 r 20 40 0) (ab_le0 r 21 40 0))))) (ab_br r 31 (ab_br r 27 (ab_br r 24 (ab_br r 23 (ab_le0 r 22 40 0) (ab_le0 r 23 40 0)) (ab_br r 26 (ab_le0 r 24 40 0) (ab_le0 r 26 40 0))) (ab_br r 29 (ab_br r 28 (ab_le0 r 27 40 0) (ab_le0 r 28 40 0)) (ab_br r 30 (ab_le0 r 29 40 0) (ab_le0 r 30 40 0)))) (ab_br r 35 (ab_br r 33 (ab_br r 32 (ab_le0 r 31 40 0) (ab_le0 r 32 40 0)) (ab_br r 34 (ab_le0 r 33 40 0) (ab_le0 r 34 40 0))) (ab_br r 38 (ab_br r 37 (ab_le0 r 35 40 0) (ab_le0 r 37 40 0)) (ab_br r 39 (ab_le0 r 38 40 0) (ab_le0 r 39 40 0)))))) (ab_br r 57 (ab_br r 49 (ab_br r 44 (ab_br r 42 (ab_br r 41 (ab_le0 r 40 40 0) (ab_le0 r 41 40 0)) (ab_br r 43 (ab_le0 r 42 40 0) (ab_le0 r 43 40 0))) (ab_br r 46 (ab_br r 45 (ab_le0 r 44 40 0) (ab_le0 r 45 40 0)) (ab_br r 48 (ab_le0 r 46 40 0) (ab_le0 r 48 40 0)))) (ab_br r 53 (ab_br r 51 (ab_br r 50 (ab_le0 r 49 40 0) (ab_le0 r 50 40 0)) (ab_br r 52 (ab_le0 r 51 40 0) (ab_le0 r 52 40 0))) (ab_br r 55 (ab_br r 54 (ab_le0 r 53 40 0) (ab_le0 r 54 40 0)) (ab_br r 56 (ab_le0 r 55 40 0) (ab_le0 r 56 40 0))))) (ab_br r 66 (ab_br r 62 (ab_br r 60 (ab_br r 59 (ab_le0 r 57 40 0) (ab_le0 r 59 40 0)) (ab_br r 61 (ab_le0 r 60 40 0) (ab_le0 r 61 40 0))) (ab_br r 64 (ab_br r 63 (ab_le0 r 62 40 0) (ab_le0 r 63 40 0)) (ab_br r 65 (ab_le0 r 64 40 0) (ab_le0 r 65 40 0)))) (ab_br r 71 (ab_br r 68 (ab_br r 67 (ab_le0 r 66 40 0) (ab_le0 r 67 40 0)) (ab_br r 70 (ab_le0 r 68 40 0) (ab_le0 r 70 40 0))) (ab_br r 73 (ab_br r 72 (ab_le0 r 71 40 0) (ab_le0 r 72 40 0)) (ab_br r 74 (ab_le0 r 73 40 0) (ab_br r 75 (ab_le0 r 74 40 0) (ab_le0 r 75 40 0)))))))) (ab_br r 113 (ab_br r 94 (ab_br r 85 (ab_br r 81 (ab_br r 78 (ab_br r 77 (ab_le0 r 76 40 0) (ab_le0 r 77 40 0)) (ab_br r 79 (ab_le0 r 78 40 0) (ab_le0 r 79 40 0))) (ab_br r 83 (ab_br r 82 (ab_le0 r 81 40 0) (ab_le0 r 82 40 0)) (ab_br r 84 (ab_le0 r 83 40 0) (ab_le0 r 84 40 0)))) (ab_br r 89 (ab_br r 87 (ab_br r 86 (ab_le0 r 85 40 0) (ab_le0 r 86 40 0)) (ab_br r 88 (ab_le0 r 87 40 0) (ab_le0 r 88 40 0))) (ab_br r 92 (ab_br r 90 (ab_le0 r 89 40 0) (ab_le0 r 90 40 0)) (ab_br r 93 (ab_le0 r 92 40 0) (ab_le0 r 93 40 0))))) (ab_br r 104 (ab_br r 98 (ab_br r 96 (ab_br r 95 (ab_le0 r 94 40 0) (ab_le0 r 95 40 0)) (ab_br r 97 (ab_le0 r 96 40 0) (ab_le0 r 97 40 0))) (ab_br r 100 (ab_br r 99 (ab_le0 r 98 40 0) (ab_le0 r 99 40 0)) (ab_br r 101 (ab_le0 r 100 40 0) (ab_le0 r 101 40 0)))) (ab_br r 108 (ab_br r 106 (ab_br r 105 (ab_le0 r 104 40 0) (ab_le0 r 105 40 0)) (ab_br r 107 (ab_le0 r 106 40 0) (ab_le0 r 107 40 0))) (ab_br r 110 (ab_br r 109 (ab_le0 r 108 40 0) (ab_le0 r 109 40 0)) (ab_br r 111 (ab_le0 r 110 40 0) (ab_br r 112 (ab_le0 r 111 40 0) (ab_le0 r 112 40 0))))))) (ab_br r 131 (ab_br r 123 (ab_br r 119 (ab_br r 116 (ab_br r 115 (ab_le0 r 113 40 0) (ab_le0 r 115 192 0)) (ab_br r 118 (ab_le0 r 116 192 0) (ab_le0 r 118 40 0))) (ab_br r 121 (ab_br r 120 (ab_le0 r 119 40 0) (ab_le0 r 120 8 0)) (ab_br r 122 (ab_le0 r 121 360 0) (ab_le0 r 122 9 0)))) (ab_br r 127 (ab_br r 125 (ab_br r 124 (ab_le0 r 123 9 0) (ab_le0 r 124 9 0)) (ab_br r 126 (ab_le0 r 125 640 0) (ab_le0 r 126 640 0))) (ab_br r 129 (ab_br r 128 (ab_le0 r 127 640 0) (ab_le0 r 128 640 0)) (ab_br r 130 (ab_le0 r 129 640 0) (ab_le0 r 130 6 0))))) (ab_br r 139 (ab_br r 135 (ab_br r 133 (ab_br r 132 (ab_le0 r 131 6 0) (ab_le0 r 132 6 0)) (ab_br r 134 (ab_le0 r 133 6 0) (ab_le0 r 134 6 0))) (ab_br r 137 (ab_br r 136 (ab_le0 r 135 6 0) (ab_le0 r 136 6 0)) (ab_br r 138 (ab_le0 r 137 24 0) (ab_le0 r 138 24 0)))) (ab_br r 143 (ab_br r 141 (ab_br r 140 (ab_le0 r 139 24 0) (ab_le0 r 140 24 0)) (ab_br r 142 (ab_le0 r 141 24 0) (ab_le0 r 142 8 0))) (ab_br r 145 (ab_br r 144 (ab_le0 r 143 8 0) (ab_le0 r 144 12288 0)) (ab_br r 146 (ab_le0 r 145 64 0) (ab_br r 147 (ab_le0 r 146 64 0) (ab_le0 r 147 1 0)))))))))
def ab_N (q r : Nat) : Nat := bif Nat.beq r 1 then q else ab_N0 r
abbrev ab_C : Nat := 148
abbrev ab_shc : Nat := 12
def ab_finl : List (Nat × Nat × Nat) := [(3, 0, 4), (3, 2, 5), (3, 3, 12), (3, 4, 102), (3, 5, 114), (5, 0, 6), (5, 1, 7), (5, 2, 8), (5, 3, 9), (5, 4, 10), (5, 5, 11), (12, 0, 13), (14, 0, 15), (14, 1, 16), (14, 2, 17), (14, 3, 18), (14, 4, 19), (14, 5, 20), (14, 6, 21), (14, 7, 22), (14, 8, 23), (14, 9, 24), (25, 0, 26), (25, 1, 27), (25, 2, 28), (25, 3, 29), (25, 4, 30), (25, 5, 31), (25, 6, 32), (25, 7, 33), (25, 8, 34), (25, 9, 35), (36, 0, 37), (36, 1, 38), (36, 2, 39), (36, 3, 40), (36, 4, 41), (36, 5, 42), (36, 6, 43), (36, 7, 44), (36, 8, 45), (36, 9, 46), (47, 0, 48), (47, 1, 49), (47, 2, 50), (47, 3, 51), (47, 4, 52), (47, 5, 53), (47, 6, 54), (47, 7, 55), (47, 8, 56), (47, 9, 57), (58, 0, 59), (58, 1, 60), (58, 2, 61), (58, 3, 62), (58, 4, 63), (58, 5, 64), (58, 6, 65), (58, 7, 66), (58, 8, 67), (58, 9, 68), (69, 0, 70), (69, 1, 71), (69, 2, 72), (69, 3, 73), (69, 4, 74), (69, 5, 75), (69, 6, 76), (69, 7, 77), (69, 8, 78), (69, 9, 79), (80, 0, 81), (80, 1, 82), (80, 2, 83), (80, 3, 84), (80, 4, 85), (80, 5, 86), (80, 6, 87), (80, 7, 88), (80, 8, 89), (80, 9, 90), (91, 0, 92), (91, 1, 93), (91, 2, 94), (91, 3, 95), (91, 4, 96), (91, 5, 97), (91, 6, 98), (91, 7, 99), (91, 8, 100), (91, 9, 101), (103, 0, 104), (103, 1, 105), (103, 2, 106), (103, 3, 107), (103, 4, 108), (103, 5, 109), (103, 6, 110), (103, 7, 111), (103, 8, 112), (103, 9, 113), (114, 0, 12), (114, 1, 5), (114, 2, 115), (114, 3, 116), (117, 1, 118), (117, 3, 119), (117, 5, 120), (117, 6, 121), (117, 7, 122), (117, 8, 123), (117, 9, 124), (117, 10, 125), (117, 11, 126), (117, 12, 127), (117, 13, 128), (117, 14, 129), (117, 19, 130), (117, 20, 131), (117, 21, 132), (117, 22, 133), (117, 23, 134), (117, 24, 135), (117, 25, 136), (117, 27, 137), (117, 28, 138), (117, 29, 139), (117, 30, 140), (117, 31, 141), (117, 32, 142), (117, 33, 143), (117, 34, 144), (117, 35, 145), (117, 36, 146)]
def ab_fin (c f r : Nat) : Nat := (ab_br c 4 (ab_br c 1 (ab_le0 c 0 (ab_br f 3 (ab_br f 2 (ab_le0 f 0 4 0) (ab_le0 f 2 5 0)) (ab_br f 4 (ab_le0 f 3 12 0) (ab_br f 5 (ab_le0 f 4 102 0) (ab_le0 f 5 114 0)))) 0) (ab_br c 2 (ab_le0 c 1 (ab_br f 3 (ab_br f 1 (ab_le0 f 0 6 0) (ab_br f 2 (ab_le0 f 1 7 0) (ab_le0 f 2 8 0))) (ab_br f 4 (ab_le0 f 3 9 0) (ab_br f 5 (ab_le0 f 4 10 0) (ab_le0 f 5 11 0)))) 0) (ab_le0 c 2 (ab_br f 5 (ab_br f 2 (ab_br f 1 (ab_le0 f 0 (r + 1) 0) (ab_le0 f 1 (r + 2) 0)) (ab_br f 3 (ab_le0 f 2 (r + 3) 0) (ab_br f 4 (ab_le0 f 3 (r + 4) 0) (ab_le0 f 4 (r + 5) 0)))) (ab_br f 7 (ab_br f 6 (ab_le0 f 5 (r + 6) 0) (ab_le0 f 6 (r + 7) 0)) (ab_br f 8 (ab_le0 f 7 (r + 8) 0) (ab_br f 9 (ab_le0 f 8 (r + 9) 0) (ab_le0 f 9 (r + 10) 0))))) 0))) (ab_br c 5 (ab_le0 c 4 (ab_le0 f 0 13 0) 0) (ab_br c 6 (ab_le0 c 5 (ab_br f 2 (ab_br f 1 (ab_le0 f 0 12 0) (ab_le0 f 1 5 0)) (ab_br f 3 (ab_le0 f 2 115 0) (ab_le0 f 3 116 0))) 0) (ab_le0 c 6 (ab_br f 21 (ab_br f 10 (ab_br f 6 (ab_br f 3 (ab_le0 f 1 118 0) (ab_br f 5 (ab_le0 f 3 119 0) (ab_le0 f 5 120 0))) (ab_br f 8 (ab_br f 7 (ab_le0 f 6 121 0) (ab_le0 f 7 122 0)) (ab_br f 9 (ab_le0 f 8 123 0) (ab_le0 f 9 124 0)))) (ab_br f 13 (ab_br f 11 (ab_le0 f 10 125 0) (ab_br f 12 (ab_le0 f 11 126 0) (ab_le0 f 12 127 0))) (ab_br f 19 (ab_br f 14 (ab_le0 f 13 128 0) (ab_le0 f 14 129 0)) (ab_br f 20 (ab_le0 f 19 130 0) (ab_le0 f 20 131 0))))) (ab_br f 29 (ab_br f 24 (ab_br f 22 (ab_le0 f 21 132 0) (ab_br f 23 (ab_le0 f 22 133 0) (ab_le0 f 23 134 0))) (ab_br f 27 (ab_br f 25 (ab_le0 f 24 135 0) (ab_le0 f 25 136 0)) (ab_br f 28 (ab_le0 f 27 137 0) (ab_le0 f 28 138 0)))) (ab_br f 33 (ab_br f 31 (ab_br f 30 (ab_le0 f 29 139 0) (ab_le0 f 30 140 0)) (ab_br f 32 (ab_le0 f 31 141 0) (ab_le0 f 32 142 0))) (ab_br f 35 (ab_br f 34 (ab_le0 f 33 143 0) (ab_le0 f 34 144 0)) (ab_br f 36 (ab_le0 f 35 145 0) (ab_le0 f 36 146 0)))))) 0))))
def ab_cst (c i : Nat) : Option Int64 := (ab_br c 6 (ab_br c 5 (ab_le0 c 1 (ab_br i 76 (ab_br i 66 (ab_le0 i 60 (some (-1)) none) (ab_le0 i 66 (some (256)) none)) (ab_br i 81 (ab_le0 i 76 (some (2)) none) (ab_le0 i 81 (some (24)) none))) none) (ab_le0 c 5 (ab_br i 134 (ab_le0 i 75 (some (22)) none) (ab_le0 i 134 (some (-1)) none)) none)) (ab_br c 7 (ab_le0 c 6 (ab_br i 204 (ab_br i 198 (ab_le0 i 109 (some (255)) none) (ab_le0 i 198 (some (256)) none)) (ab_br i 215 (ab_le0 i 204 (some (2)) none) (ab_br i 225 (ab_le0 i 215 (some (-1)) none) (ab_le0 i 225 (some (22)) none)))) none) (ab_le0 c 7 (ab_le0 i 71 (some (4294967295)) none) none)))
def ab_csi (c i : Nat) : Option Int32 := (ab_le0 c 8 (ab_br i 266 (ab_le0 i 265 (some (1431655765)) none) (ab_br i 267 (ab_le0 i 266 (some (858993459)) none) (ab_le0 i 267 (some (252645135)) none))) none)
def ab_fll : List (Nat × Nat × Nat × Nat × Nat) := [(0, 9, 0, 0, 3), (0, 16, 0, 2, 3), (0, 23, 0, 3, 3), (0, 30, 0, 4, 3), (0, 39, 0, 5, 3), (0, 47, 0, 1, 0), (0, 63, 4, 0, 3), (0, 71, 2, 10, 1), (0, 90, 1, 6, 0), (0, 96, 1, 1, 3), (0, 100, 1, 2, 3), (0, 104, 1, 3, 3), (1, 9, 1, 0, 3), (1, 15, 1, 1, 3), (1, 18, 1, 2, 3), (1, 22, 1, 3, 3), (1, 25, 1, 4, 3), (1, 28, 1, 5, 3), (1, 31, 1, 7, 0), (1, 39, 1, 9, 1), (1, 43, 1, 6, 0), (1, 46, 1, 8, 0), (1, 53, 1, 10, 1), (2, 9, 2, 0, 3), (2, 15, 2, 1, 3), (2, 18, 2, 2, 3), (2, 22, 2, 3, 3), (2, 25, 2, 4, 3), (2, 28, 2, 5, 3), (2, 31, 2, 6, 3), (2, 34, 2, 7, 3), (2, 37, 2, 8, 3), (2, 41, 2, 9, 3), (2, 44, 2, 10, 1), (2, 48, 2, 11, 0), (2, 52, 2, 12, 0), (2, 55, 2, 13, 0), (2, 58, 2, 14, 0), (3, 12, 3, 0, 2), (3, 21, 2, 0, 3), (3, 31, 2, 11, 0), (3, 35, 3, 1, 0), (3, 42, 2, 12, 0), (3, 49, 2, 10, 1), (3, 57, 2, 2, 3), (3, 79, 3, 2, 0), (3, 109, 2, 1, 3), (3, 112, 2, 3, 3), (3, 115, 2, 4, 3), (3, 122, 2, 13, 0), (3, 125, 2, 14, 0), (3, 132, 2, 9, 3), (3, 135, 2, 5, 3), (3, 145, 2, 7, 3), (3, 148, 2, 6, 3), (3, 151, 2, 8, 3), (4, 11, 4, 0, 3), (4, 26, 2, 14, 0), (4, 30, 2, 13, 0), (4, 33, 2, 10, 1), (5, 9, 5, 2, 3), (5, 15, 5, 3, 3), (5, 18, 5, 0, 3), (5, 22, 5, 1, 3), (5, 36, 4, 0, 3), (5, 42, 2, 12, 0), (5, 55, 2, 2, 3), (5, 58, 1, 1, 3), (5, 63, 2, 1, 3), (5, 71, 1, 2, 3), (5, 77, 2, 3, 3), (5, 80, 2, 4, 3), (5, 100, 1, 0, 3), (5, 102, 1, 4, 3), (5, 105, 2, 0, 3), (5, 108, 1, 5, 3), (5, 118, 2, 9, 3), (5, 124, 2, 7, 3), (5, 136, 2, 6, 3), (5, 139, 2, 8, 3), (6, 7, 6, 1, 3), (6, 13, 6, 3, 3), (6, 16, 6, 5, 3), (6, 20, 6, 6, 3), (6, 23, 6, 7, 3), (6, 26, 6, 8, 3), (6, 29, 6, 9, 3), (6, 32, 6, 10, 3), (6, 35, 6, 11, 3), (6, 38, 6, 12, 3), (6, 41, 6, 13, 3), (6, 44, 6, 14, 3), (6, 47, 6, 19, 3), (6, 50, 6, 20, 3), (6, 53, 6, 21, 3), (6, 56, 6, 22, 3), (6, 59, 6, 23, 3), (6, 62, 6, 24, 3), (6, 65, 6, 25, 3), (6, 68, 6, 27, 3), (6, 71, 6, 28, 3), (6, 75, 6, 29, 3), (6, 78, 6, 30, 3), (6, 81, 6, 31, 3), (6, 84, 6, 32, 3), (6, 87, 6, 33, 3), (6, 90, 6, 34, 3), (6, 93, 6, 35, 3), (6, 96, 6, 36, 3), (6, 99, 6, 0, 0), (6, 103, 6, 2, 0), (6, 106, 6, 4, 0), (6, 111, 6, 15, 0), (6, 118, 6, 17, 0), (6, 121, 6, 16, 1), (6, 159, 6, 18, 0), (6, 192, 6, 26, 0)]
def ab_mtl : List (Nat × Nat × Nat × Nat × Nat) := [(0, 1, 8, 0, 1), (0, 15, 2, 20, 1), (0, 22, 2, 56, 1), (0, 29, 2, 35, 1), (0, 36, 2, 62, 3), (0, 43, 1, 15, 1), (0, 51, 1, 13, 2), (0, 55, 1, 16, 1), (0, 59, 0, 36, 3), (0, 67, 0, 37, 2), (0, 77, 0, 32, 1), (0, 80, 0, 21, 3), (0, 83, 0, 22, 1), (0, 87, 0, 17, 1), (0, 93, 0, 18, 2), (0, 107, 0, 19, 2), (0, 110, 1, 131, 1), (0, 115, 0, 63, 3), (0, 119, 1, 14, 1), (0, 135, 0, 23, 1), (0, 143, 0, 57, 3), (0, 147, 0, 59, 2), (0, 155, 0, 60, 2), (1, 3, 8, 0, 1), (1, 35, 1, 13, 2), (1, 49, 0, 24, 2), (1, 56, 0, 25, 2), (1, 62, 0, 26, 4), (1, 68, 0, 27, 3), (1, 72, 0, 28, 3), (1, 78, 1, 14, 1), (2, 3, 8, 0, 1), (3, 3, 8, 0, 1), (3, 11, 2, 31, 1), (3, 18, 0, 32, 1), (3, 25, 9, 0, 5), (3, 38, 0, 43, 3), (3, 45, 1, 39, 1), (3, 53, 0, 38, 2), (3, 68, 0, 40, 1), (3, 72, 0, 44, 3), (3, 75, 0, 41, 2), (3, 82, 0, 45, 3), (3, 85, 0, 52, 4), (3, 89, 0, 46, 2), (3, 93, 0, 47, 1), (3, 96, 0, 42, 1), (3, 100, 0, 48, 1), (3, 103, 0, 50, 2), (3, 106, 0, 51, 1), (3, 118, 0, 49, 1), (3, 128, 0, 53, 4), (3, 138, 0, 54, 1), (3, 141, 0, 55, 3), (4, 3, 8, 0, 1), (4, 17, 2, 31, 1), (4, 18, 0, 58, 3), (4, 22, 1, 61, 2), (4, 37, 0, 57, 3), (5, 3, 8, 0, 1), (5, 26, 1, 132, 2), (5, 32, 0, 64, 4), (5, 48, 0, 65, 5), (5, 52, 0, 66, 5), (5, 67, 0, 29, 2), (5, 83, 0, 67, 4), (5, 86, 0, 68, 4), (5, 90, 0, 69, 5), (5, 93, 0, 71, 5), (5, 96, 0, 30, 2), (5, 111, 0, 70, 6), (5, 115, 0, 33, 2), (5, 121, 0, 34, 2), (5, 127, 0, 72, 6), (6, 1, 8, 0, 1), (6, 114, 0, 78, 1), (6, 125, 0, 81, 4), (6, 129, 0, 83, 1), (6, 132, 0, 79, 2), (6, 136, 1, 80, 1), (6, 139, 0, 87, 1), (6, 142, 0, 86, 1), (6, 146, 1, 91, 1), (6, 150, 0, 88, 1), (6, 153, 0, 89, 1), (6, 156, 0, 90, 2), (6, 162, 0, 85, 2), (6, 166, 0, 82, 3), (6, 170, 0, 84, 1), (6, 173, 0, 92, 1), (6, 176, 0, 93, 1), (6, 179, 0, 94, 1), (6, 182, 0, 95, 1), (6, 185, 0, 98, 3), (6, 189, 0, 99, 2), (6, 195, 1, 101, 1), (6, 200, 0, 103, 3), (6, 206, 0, 104, 2), (6, 209, 0, 102, 1), (6, 212, 0, 106, 2), (6, 217, 0, 110, 4), (6, 221, 0, 114, 5), (6, 227, 0, 112, 2), (6, 231, 0, 111, 3), (6, 234, 0, 113, 4), (6, 237, 0, 115, 4), (6, 240, 0, 116, 4), (6, 243, 0, 117, 4), (6, 246, 0, 118, 2), (7, 7, 0, 1, 2), (7, 15, 0, 2, 2), (7, 21, 0, 3, 2), (7, 24, 0, 6, 1), (7, 28, 0, 7, 2), (7, 31, 0, 8, 2), (7, 35, 0, 9, 2), (7, 38, 0, 10, 2), (7, 45, 0, 11, 2), (7, 48, 0, 12, 3), (7, 52, 2, 0, 1), (7, 55, 2, 73, 1), (7, 56, 1, 121, 3), (7, 61, 0, 75, 2), (7, 62, 0, 74, 1), (7, 65, 1, 122, 3), (7, 67, 0, 96, 2), (7, 68, 1, 123, 3), (7, 70, 0, 97, 2), (7, 73, 0, 4, 3), (7, 77, 0, 76, 3), (7, 78, 0, 5, 1), (7, 81, 0, 77, 1), (7, 82, 1, 124, 2), (7, 85, 0, 105, 1), (7, 86, 1, 125, 3), (7, 88, 0, 107, 2), (7, 89, 1, 126, 3), (7, 91, 0, 108, 2), (7, 92, 1, 127, 3), (7, 94, 0, 109, 2), (7, 95, 1, 128, 3), (7, 97, 0, 100, 2), (7, 98, 1, 129, 3), (7, 100, 0, 119, 2), (7, 101, 1, 130, 4), (7, 104, 0, 120, 3)]
def ab_cll : List (Nat × Nat × Nat × Nat × Nat) := [(0, 13, 0, 1, 11), (0, 20, 0, 4, 1), (0, 27, 0, 3, 3), (0, 34, 0, 5, 4), (0, 123, 1, 1, 0), (0, 130, 1, 2, 0), (0, 150, 1, 3, 0), (0, 158, 1, 4, 0), (3, 9, 0, 2, 15), (3, 61, 1, 1, 0), (4, 9, 0, 2, 15), (7, 8, 0, 0, 6), (7, 53, 0, 6, 37)]
def ab_stl : List (Nat × Nat) := [(5, 131)]
def ab_ht (k : Nat) : List (Nat × Nat × Nat × Nat) := (ab_br k 126 (ab_br k 123 (ab_br k 122 (ab_le0 k 121 [((0 : Nat), (16 : Nat), (19 : Nat), (13 : Nat))] []) (ab_le0 k 122 [((0 : Nat), (9 : Nat), (12 : Nat), (19 : Nat)), ((0 : Nat), (9 : Nat), (15 : Nat), (13 : Nat))] [])) (ab_br k 124 (ab_le0 k 123 [((0 : Nat), (16 : Nat), (19 : Nat), (19 : Nat))] []) (ab_br k 125 (ab_le0 k 124 [((0 : Nat), (8 : Nat), (11 : Nat), (13 : Nat))] []) (ab_le0 k 125 [((0 : Nat), (9 : Nat), (12 : Nat), (13 : Nat)), ((0 : Nat), (9 : Nat), (15 : Nat), (19 : Nat))] [])))) (ab_br k 128 (ab_br k 127 (ab_le0 k 126 [((0 : Nat), (8 : Nat), (11 : Nat), (13 : Nat)), ((0 : Nat), (8 : Nat), (14 : Nat), (19 : Nat))] []) (ab_le0 k 127 [((0 : Nat), (9 : Nat), (12 : Nat), (13 : Nat)), ((0 : Nat), (9 : Nat), (15 : Nat), (19 : Nat))] [])) (ab_br k 129 (ab_le0 k 128 [((0 : Nat), (9 : Nat), (12 : Nat), (19 : Nat)), ((0 : Nat), (9 : Nat), (15 : Nat), (41 : Nat)), ((0 : Nat), (9 : Nat), (18 : Nat), (43 : Nat))] []) (ab_br k 130 (ab_le0 k 129 [((0 : Nat), (16 : Nat), (19 : Nat), (19 : Nat)), ((0 : Nat), (16 : Nat), (22 : Nat), (41 : Nat)), ((0 : Nat), (16 : Nat), (25 : Nat), (43 : Nat)), ((0 : Nat), (16 : Nat), (28 : Nat), (13 : Nat))] []) (ab_le0 k 130 [((0 : Nat), (17 : Nat), (20 : Nat), (19 : Nat)), ((0 : Nat), (17 : Nat), (24 : Nat), (41 : Nat)), ((0 : Nat), (17 : Nat), (28 : Nat), (43 : Nat)), ((0 : Nat), (17 : Nat), (32 : Nat), (13 : Nat))] [])))))
def ab_hh (k : Nat) : Bool := !(ab_ht k).isEmpty
abbrev ab_M : Nat := 133
def ab_xn (x : Nat) : String := (ab_br x 3 (ab_br x 2 (ab_le0 x 1 "java/lang/IllegalArgumentException" "") (ab_le0 x 2 "java/lang/IndexOutOfBoundsException" "")) (ab_br x 4 (ab_le0 x 3 "java/util/NoSuchElementException" "") (ab_le0 x 4 "java/lang/IllegalStateException" "")))
def ab_hnd (k x : Nat) : Option Int32 := (ab_br k 126 (ab_br k 123 (ab_br k 122 (ab_le0 k 121 (ab_le0 x 1 (some 1) none) none) (ab_le0 k 122 (ab_br x 2 (ab_le0 x 1 (some 2) none) (ab_le0 x 2 (some 1) none)) none)) (ab_br k 124 (ab_le0 k 123 (ab_le0 x 2 (some 1) none) none) (ab_br k 125 (ab_le0 k 124 (ab_le0 x 1 (some 1) none) none) (ab_le0 k 125 (ab_br x 2 (ab_le0 x 1 (some 1) none) (ab_le0 x 2 (some 2) none)) none)))) (ab_br k 128 (ab_br k 127 (ab_le0 k 126 (ab_br x 2 (ab_le0 x 1 (some 1) none) (ab_le0 x 2 (some 2) none)) none) (ab_le0 k 127 (ab_br x 2 (ab_le0 x 1 (some 1) none) (ab_le0 x 2 (some 2) none)) none)) (ab_br k 129 (ab_le0 k 128 (ab_br x 3 (ab_le0 x 2 (some 1) none) (ab_br x 4 (ab_le0 x 3 (some 2) none) (ab_le0 x 4 (some 3) none))) none) (ab_br k 130 (ab_le0 k 129 (ab_br x 3 (ab_br x 2 (ab_le0 x 1 (some 4) none) (ab_le0 x 2 (some 1) none)) (ab_br x 4 (ab_le0 x 3 (some 2) none) (ab_le0 x 4 (some 3) none))) none) (ab_le0 k 130 (ab_br x 3 (ab_br x 2 (ab_le0 x 1 (some 4) none) (ab_le0 x 2 (some 1) none)) (ab_br x 4 (ab_le0 x 3 (some 2) none) (ab_le0 x 4 (some 3) none))) none)))))
def ab_atc (t : ArrayType) : Nat := match t with | .int => 1 | .long => 2 | .char => 3 | .boolean => 4 | _ => 0
def ab_p0 (i : Nat) : Option (Instr × Nat × Nat × Nat) := (ab_br i 31 (ab_br i 13 (ab_br i 5 (ab_br i 1 (ab_lf i 0 (.aload_n 0) 0 0 0) (ab_br i 4 (ab_lf i 1 (.invokespecial 1) 8 0 1) (ab_lf i 4 (.aload_n 0) 0 0 0))) (ab_br i 9 (ab_br i 7 (ab_lf i 5 (.bipush 40) 0 0 0) (ab_lf i 7 (.newarray .char) 0 0 0)) (ab_br i 12 (ab_lf i 9 (.putfield 9) 0 0 3) (ab_lf i 12 (.aload_n 0) 0 0 0)))) (ab_br i 23 (ab_br i 17 (ab_br i 16 (ab_lf i 13 (.new 13) 0 1 11) (ab_lf i 16 (.dup) 0 0 0)) (ab_br i 20 (ab_lf i 17 (.invokespecial 15) 2 20 1) (ab_lf i 20 (.putfield 16) 0 2 3))) (ab_br i 27 (ab_br i 24 (ab_lf i 23 (.aload_n 0) 0 0 0) (ab_lf i 24 (.new 20) 0 4 1)) (ab_br i 28 (ab_lf i 27 (.dup) 0 0 0) (ab_lf i 28 (.invokespecial 22) 2 56 1))))) (ab_br i 49 (ab_br i 39 (ab_br i 35 (ab_br i 34 (ab_lf i 31 (.putfield 23) 0 3 3) (ab_lf i 34 (.aload_n 0) 0 0 0)) (ab_br i 38 (ab_lf i 35 (.new 27) 0 3 3) (ab_lf i 38 (.dup) 0 0 0))) (ab_br i 45 (ab_br i 42 (ab_lf i 39 (.invokespecial 29) 2 35 1) (ab_lf i 42 (.putfield 30) 0 4 3)) (ab_br i 46 (ab_lf i 45 (.aload_n 0) 0 0 0) (ab_lf i 46 (.new 34) 0 5 4)))) (ab_br i 55 (ab_br i 51 (ab_br i 50 (ab_lf i 49 (.dup) 0 0 0) (ab_lf i 50 (.aload_n 0) 0 0 0)) (ab_br i 54 (ab_lf i 51 (.getfield 23) 0 3 3) (ab_lf i 54 (.aload_n 0) 0 0 0))) (ab_br i 61 (ab_br i 58 (ab_lf i 55 (.getfield 16) 0 2 3) (ab_lf i 58 (.invokespecial 36) 2 62 3)) (ab_br i 64 (ab_lf i 61 (.putfield 39) 0 5 3) (ab_lf i 64 (.return_) 0 0 0))))))
def ab_p1 (i : Nat) : Option (Instr × Nat × Nat × Nat) := (ab_br i 30 (ab_br i 16 (ab_br i 6 (ab_br i 4 (ab_br i 1 (ab_lf i 0 (.iload_n 1) 0 0 0) (ab_lf i 1 (.invokestatic 43) 1 15 1)) (ab_br i 5 (ab_lf i 4 (.istore_n 2) 0 0 0) (ab_lf i 5 (.aload_n 0) 0 0 0))) (ab_br i 10 (ab_br i 9 (ab_lf i 6 (.getfield 47) 0 1 0) (ab_lf i 9 (.iload_n 2) 0 0 0)) (ab_br i 11 (ab_lf i 10 (.iadd) 0 0 0) (ab_br i 13 (ab_lf i 11 (.bipush 40) 0 0 0) (ab_lf i 13 (.if_icmp .le 5) 0 0 0))))) (ab_br i 21 (ab_br i 18 (ab_br i 17 (ab_lf i 16 (.iconst 0) 0 0 0) (ab_lf i 17 (.ireturn) 0 0 0)) (ab_br i 19 (ab_lf i 18 (.iconst 0) 0 0 0) (ab_br i 20 (ab_lf i 19 (.istore_n 3) 0 0 0) (ab_lf i 20 (.iload_n 3) 0 0 0)))) (ab_br i 25 (ab_br i 22 (ab_lf i 21 (.iload_n 2) 0 0 0) (ab_lf i 22 (.if_icmp .ge 27) 0 0 0)) (ab_br i 26 (ab_lf i 25 (.aload_n 0) 0 0 0) (ab_br i 29 (ab_lf i 26 (.getfield 9) 0 0 3) (ab_lf i 29 (.aload_n 0) 0 0 0)))))) (ab_br i 43 (ab_br i 36 (ab_br i 34 (ab_br i 33 (ab_lf i 30 (.getfield 47) 0 1 0) (ab_lf i 33 (.iload_n 3) 0 0 0)) (ab_br i 35 (ab_lf i 34 (.iadd) 0 0 0) (ab_lf i 35 (.iload_n 1) 0 0 0))) (ab_br i 38 (ab_br i 37 (ab_lf i 36 (.i2l) 0 0 0) (ab_lf i 37 (.iload_n 3) 0 0 0)) (ab_br i 41 (ab_lf i 38 (.invokestatic 51) 1 13 2) (ab_br i 42 (ab_lf i 41 (.i2c) 0 0 0) (ab_lf i 42 (.castore) 0 0 0))))) (ab_br i 54 (ab_br i 49 (ab_br i 46 (ab_lf i 43 (.iinc 3 1) 0 0 0) (ab_lf i 46 (.goto (-26)) 0 0 0)) (ab_br i 50 (ab_lf i 49 (.aload_n 0) 0 0 0) (ab_br i 51 (ab_lf i 50 (.dup) 0 0 0) (ab_lf i 51 (.getfield 47) 0 1 0)))) (ab_br i 56 (ab_br i 55 (ab_lf i 54 (.iload_n 2) 0 0 0) (ab_lf i 55 (.iadd) 0 0 0)) (ab_br i 59 (ab_lf i 56 (.putfield 47) 0 1 0) (ab_br i 60 (ab_lf i 59 (.iconst 1) 0 0 0) (ab_lf i 60 (.ireturn) 0 0 0)))))))
def ab_p2 (i : Nat) : Option (Instr × Nat × Nat × Nat) := (ab_br i 27 (ab_br i 11 (ab_br i 5 (ab_br i 1 (ab_lf i 0 (.aload_n 0) 0 0 0) (ab_br i 4 (ab_lf i 1 (.getfield 47) 0 1 0) (ab_lf i 4 (.istore_n 2) 0 0 0))) (ab_br i 7 (ab_br i 6 (ab_lf i 5 (.aload_n 0) 0 0 0) (ab_lf i 6 (.iconst 0) 0 0 0)) (ab_br i 10 (ab_lf i 7 (.putfield 47) 0 1 0) (ab_lf i 10 (.iload_n 1) 0 0 0)))) (ab_br i 19 (ab_br i 15 (ab_br i 14 (ab_lf i 11 (.invokestatic 55) 1 16 1) (ab_lf i 14 (.aload_n 0) 0 0 0)) (ab_br i 18 (ab_lf i 15 (.getfield 30) 0 4 3) (ab_lf i 18 (.aload_n 0) 0 0 0))) (ab_br i 23 (ab_br i 22 (ab_lf i 19 (.getfield 9) 0 0 3) (ab_lf i 22 (.iload_n 2) 0 0 0)) (ab_br i 26 (ab_lf i 23 (.invokevirtual 59) 0 36 3) (ab_lf i 26 (.istore_n 3) 0 0 0))))) (ab_br i 40 (ab_br i 34 (ab_br i 28 (ab_lf i 27 (.aload_n 0) 0 0 0) (ab_br i 31 (ab_lf i 28 (.getfield 23) 0 3 3) (ab_lf i 31 (.getfield 63) 4 0 3))) (ab_br i 36 (ab_br i 35 (ab_lf i 34 (.iload_n 1) 0 0 0) (ab_lf i 35 (.aload_n 0) 0 0 0)) (ab_br i 39 (ab_lf i 36 (.getfield 30) 0 4 3) (ab_lf i 39 (.aload_n 0) 0 0 0)))) (ab_br i 48 (ab_br i 46 (ab_br i 43 (ab_lf i 40 (.getfield 23) 0 3 3) (ab_lf i 43 (.getfield 63) 4 0 3)) (ab_br i 47 (ab_lf i 46 (.iload_n 1) 0 0 0) (ab_lf i 47 (.aaload) 0 0 0))) (ab_br i 52 (ab_br i 51 (ab_lf i 48 (.invokevirtual 67) 0 37 2) (ab_lf i 51 (.aastore) 0 0 0)) (ab_br i 53 (ab_lf i 52 (.iload_n 3) 0 0 0) (ab_lf i 53 (.ireturn) 0 0 0))))))
def ab_p3 (i : Nat) : Option (Instr × Nat × Nat × Nat) := (ab_br i 16 (ab_br i 8 (ab_br i 4 (ab_br i 1 (ab_lf i 0 (.iload_n 1) 0 0 0) (ab_lf i 1 (.invokestatic 55) 1 16 1)) (ab_br i 5 (ab_lf i 4 (.aload_n 0) 0 0 0) (ab_lf i 5 (.getfield 23) 0 3 3))) (ab_br i 12 (ab_br i 11 (ab_lf i 8 (.getfield 63) 4 0 3) (ab_lf i 11 (.iload_n 1) 0 0 0)) (ab_br i 13 (ab_lf i 12 (.aaload) 0 0 0) (ab_lf i 13 (.getfield 71) 2 10 1)))) (ab_br i 24 (ab_br i 18 (ab_br i 17 (ab_lf i 16 (.istore_n 2) 0 0 0) (ab_lf i 17 (.aload_n 0) 0 0 0)) (ab_br i 21 (ab_lf i 18 (.getfield 23) 0 3 3) (ab_lf i 21 (.getfield 63) 4 0 3))) (ab_br i 26 (ab_br i 25 (ab_lf i 24 (.iload_n 1) 0 0 0) (ab_lf i 25 (.aaload) 0 0 0)) (ab_br i 29 (ab_lf i 26 (.invokevirtual 77) 0 32 1) (ab_br i 30 (ab_lf i 29 (.iload_n 2) 0 0 0) (ab_lf i 30 (.ireturn) 0 0 0))))))
def ab_p4 (i : Nat) : Option (Instr × Nat × Nat × Nat) := (ab_br i 5 (ab_br i 1 (ab_lf i 0 (.aload_n 0) 0 0 0) (ab_br i 4 (ab_lf i 1 (.getfield 16) 0 2 3) (ab_lf i 4 (.lload_n 1) 0 0 0))) (ab_br i 6 (ab_lf i 5 (.iload_n 3) 0 0 0) (ab_br i 9 (ab_lf i 6 (.invokevirtual 80) 0 21 3) (ab_lf i 9 (.ireturn) 0 0 0))))
def ab_p5 (i : Nat) : Option (Instr × Nat × Nat × Nat) := (ab_br i 4 (ab_br i 1 (ab_lf i 0 (.aload_n 0) 0 0 0) (ab_lf i 1 (.getfield 16) 0 2 3)) (ab_br i 7 (ab_lf i 4 (.invokevirtual 83) 0 22 1) (ab_lf i 7 (.ireturn) 0 0 0)))
def ab_p6 (i : Nat) : Option (Instr × Nat × Nat × Nat) := (ab_br i 5 (ab_br i 1 (ab_lf i 0 (.aload_n 0) 0 0 0) (ab_br i 4 (ab_lf i 1 (.invokevirtual 87) 0 17 1) (ab_lf i 4 (.aload_n 0) 0 0 0))) (ab_br i 8 (ab_lf i 5 (.getfield 16) 0 2 3) (ab_br i 11 (ab_lf i 8 (.getfield 90) 1 6 0) (ab_lf i 11 (.ireturn) 0 0 0))))
def ab_p7 (i : Nat) : Option (Instr × Nat × Nat × Nat) := (ab_br i 6 (ab_br i 2 (ab_br i 1 (ab_lf i 0 (.aload_n 0) 0 0 0) (ab_lf i 1 (.iload_n 1) 0 0 0)) (ab_br i 5 (ab_lf i 2 (.invokevirtual 93) 0 18 2) (ab_lf i 5 (.aload_n 0) 0 0 0))) (ab_br i 12 (ab_br i 9 (ab_lf i 6 (.getfield 16) 0 2 3) (ab_lf i 9 (.getfield 96) 1 1 3)) (ab_br i 13 (ab_lf i 12 (.iload_n 1) 0 0 0) (ab_br i 14 (ab_lf i 13 (.iaload) 0 0 0) (ab_lf i 14 (.ireturn) 0 0 0)))))
def ab_p8 (i : Nat) : Option (Instr × Nat × Nat × Nat) := (ab_br i 6 (ab_br i 2 (ab_br i 1 (ab_lf i 0 (.aload_n 0) 0 0 0) (ab_lf i 1 (.iload_n 1) 0 0 0)) (ab_br i 5 (ab_lf i 2 (.invokevirtual 93) 0 18 2) (ab_lf i 5 (.aload_n 0) 0 0 0))) (ab_br i 12 (ab_br i 9 (ab_lf i 6 (.getfield 16) 0 2 3) (ab_lf i 9 (.getfield 100) 1 2 3)) (ab_br i 13 (ab_lf i 12 (.iload_n 1) 0 0 0) (ab_br i 14 (ab_lf i 13 (.laload) 0 0 0) (ab_lf i 14 (.lreturn) 0 0 0)))))
def ab_p9 (i : Nat) : Option (Instr × Nat × Nat × Nat) := (ab_br i 6 (ab_br i 2 (ab_br i 1 (ab_lf i 0 (.aload_n 0) 0 0 0) (ab_lf i 1 (.iload_n 1) 0 0 0)) (ab_br i 5 (ab_lf i 2 (.invokevirtual 93) 0 18 2) (ab_lf i 5 (.aload_n 0) 0 0 0))) (ab_br i 12 (ab_br i 9 (ab_lf i 6 (.getfield 16) 0 2 3) (ab_lf i 9 (.getfield 104) 1 3 3)) (ab_br i 13 (ab_lf i 12 (.iload_n 1) 0 0 0) (ab_br i 14 (ab_lf i 13 (.iaload) 0 0 0) (ab_lf i 14 (.ireturn) 0 0 0)))))
def ab_p10 (i : Nat) : Option (Instr × Nat × Nat × Nat) := (ab_br i 2 (ab_br i 1 (ab_lf i 0 (.aload_n 0) 0 0 0) (ab_lf i 1 (.iload_n 1) 0 0 0)) (ab_br i 5 (ab_lf i 2 (.invokevirtual 107) 0 19 2) (ab_br i 8 (ab_lf i 5 (.invokestatic 110) 1 131 1) (ab_lf i 8 (.ireturn) 0 0 0))))
def ab_p11 (i : Nat) : Option (Instr × Nat × Nat × Nat) := (ab_br i 10 (ab_br i 5 (ab_br i 1 (ab_lf i 0 (.aload_n 0) 0 0 0) (ab_br i 2 (ab_lf i 1 (.iload_n 1) 0 0 0) (ab_lf i 2 (.invokevirtual 107) 0 19 2))) (ab_br i 6 (ab_lf i 5 (.pop) 0 0 0) (ab_br i 7 (ab_lf i 6 (.aload_n 0) 0 0 0) (ab_lf i 7 (.invokevirtual 87) 0 17 1)))) (ab_br i 15 (ab_br i 11 (ab_lf i 10 (.aload_n 0) 0 0 0) (ab_br i 14 (ab_lf i 11 (.getfield 39) 0 5 3) (ab_lf i 14 (.iload_n 1) 0 0 0))) (ab_br i 16 (ab_lf i 15 (.iconst 0) 0 0 0) (ab_br i 19 (ab_lf i 16 (.invokevirtual 115) 0 63 3) (ab_lf i 19 (.ireturn) 0 0 0)))))
def ab_p12 (i : Nat) : Option (Instr × Nat × Nat × Nat) := (ab_br i 8 (ab_br i 5 (ab_br i 1 (ab_lf i 0 (.aload_n 0) 0 0 0) (ab_br i 2 (ab_lf i 1 (.iload_n 1) 0 0 0) (ab_lf i 2 (.invokevirtual 107) 0 19 2))) (ab_br i 6 (ab_lf i 5 (.pop) 0 0 0) (ab_br i 7 (ab_lf i 6 (.aload_n 0) 0 0 0) (ab_lf i 7 (.iload_n 2) 0 0 0)))) (ab_br i 15 (ab_br i 11 (ab_lf i 8 (.invokevirtual 93) 0 18 2) (ab_br i 12 (ab_lf i 11 (.aload_n 0) 0 0 0) (ab_lf i 12 (.getfield 39) 0 5 3))) (ab_br i 17 (ab_br i 16 (ab_lf i 15 (.iload_n 1) 0 0 0) (ab_lf i 16 (.iload_n 2) 0 0 0)) (ab_br i 20 (ab_lf i 17 (.invokevirtual 115) 0 63 3) (ab_lf i 20 (.ireturn) 0 0 0)))))
def ab_p13 (i : Nat) : Option (Instr × Nat × Nat × Nat) := (ab_br i 5 (ab_br i 3 (ab_br i 1 (ab_lf i 0 (.lload_n 0) 0 0 0) (ab_lf i 1 (.bipush 8) 0 0 0)) (ab_br i 4 (ab_lf i 3 (.iload_n 2) 0 0 0) (ab_lf i 4 (.imul) 0 0 0))) (ab_br i 7 (ab_br i 6 (ab_lf i 5 (.lushr) 0 0 0) (ab_lf i 6 (.l2i) 0 0 0)) (ab_br i 10 (ab_lf i 7 (.sipush 255) 0 0 0) (ab_br i 11 (ab_lf i 10 (.iand) 0 0 0) (ab_lf i 11 (.ireturn) 0 0 0)))))
def ab_p14 (i : Nat) : Option (Instr × Nat × Nat × Nat) := (ab_br i 9 (ab_br i 3 (ab_br i 1 (ab_lf i 0 (.iload_n 0) 0 0 0) (ab_lf i 1 (.bipush 32) 0 0 0)) (ab_br i 6 (ab_lf i 3 (.if_icmp .lt 13) 0 0 0) (ab_br i 7 (ab_lf i 6 (.iload_n 0) 0 0 0) (ab_lf i 7 (.bipush 126) 0 0 0)))) (ab_br i 13 (ab_br i 12 (ab_lf i 9 (.if_icmp .gt 7) 0 0 0) (ab_lf i 12 (.iconst 1) 0 0 0)) (ab_br i 16 (ab_lf i 13 (.goto 4) 0 0 0) (ab_br i 17 (ab_lf i 16 (.iconst 0) 0 0 0) (ab_lf i 17 (.ireturn) 0 0 0)))))
def ab_p15 (i : Nat) : Option (Instr × Nat × Nat × Nat) := (ab_br i 19 (ab_br i 8 (ab_br i 3 (ab_br i 1 (ab_lf i 0 (.iconst 0) 0 0 0) (ab_br i 2 (ab_lf i 1 (.istore_n 1) 0 0 0) (ab_lf i 2 (.iload_n 1) 0 0 0))) (ab_br i 4 (ab_lf i 3 (.iconst 4) 0 0 0) (ab_br i 7 (ab_lf i 4 (.if_icmp .ge 39) 0 0 0) (ab_lf i 7 (.iload_n 0) 0 0 0)))) (ab_br i 13 (ab_br i 9 (ab_lf i 8 (.i2l) 0 0 0) (ab_br i 10 (ab_lf i 9 (.iload_n 1) 0 0 0) (ab_lf i 10 (.invokestatic 51) 1 13 2))) (ab_br i 15 (ab_br i 14 (ab_lf i 13 (.istore_n 2) 0 0 0) (ab_lf i 14 (.iload_n 2) 0 0 0)) (ab_br i 18 (ab_lf i 15 (.ifCond .ne 5) 0 0 0) (ab_lf i 18 (.iload_n 1) 0 0 0))))) (ab_br i 31 (ab_br i 24 (ab_br i 20 (ab_lf i 19 (.ireturn) 0 0 0) (ab_br i 21 (ab_lf i 20 (.iload_n 2) 0 0 0) (ab_lf i 21 (.invokestatic 119) 1 14 1))) (ab_br i 27 (ab_lf i 24 (.ifCond .ne 13) 0 0 0) (ab_br i 30 (ab_lf i 27 (.new 123) 1 1 0) (ab_lf i 30 (.dup) 0 0 0)))) (ab_br i 37 (ab_br i 33 (ab_lf i 31 (.ldc 125) 0 0 0) (ab_br i 36 (ab_lf i 33 (.invokespecial 127) 7 0 0) (ab_lf i 36 (.athrow) 0 0 0))) (ab_br i 43 (ab_br i 40 (ab_lf i 37 (.iinc 1 1) 0 0 0) (ab_lf i 40 (.goto (-38)) 0 0 0)) (ab_br i 44 (ab_lf i 43 (.iconst 4) 0 0 0) (ab_lf i 44 (.ireturn) 0 0 0))))))
def ab_p16 (i : Nat) : Option (Instr × Nat × Nat × Nat) := (ab_br i 10 (ab_br i 4 (ab_br i 1 (ab_lf i 0 (.iload_n 0) 0 0 0) (ab_lf i 1 (.ifCond .lt 9) 0 0 0)) (ab_br i 5 (ab_lf i 4 (.iload_n 0) 0 0 0) (ab_br i 7 (ab_lf i 5 (.bipush 8) 0 0 0) (ab_lf i 7 (.if_icmp .lt 13) 0 0 0)))) (ab_br i 16 (ab_br i 13 (ab_lf i 10 (.new 130) 1 2 0) (ab_br i 14 (ab_lf i 13 (.dup) 0 0 0) (ab_lf i 14 (.ldc 132) 0 0 0))) (ab_br i 19 (ab_lf i 16 (.invokespecial 134) 7 0 0) (ab_br i 20 (ab_lf i 19 (.athrow) 0 0 0) (ab_lf i 20 (.return_) 0 0 0)))))
def ab_p17 (i : Nat) : Option (Instr × Nat × Nat × Nat) := (ab_br i 13 (ab_br i 4 (ab_br i 1 (ab_lf i 0 (.aload_n 0) 0 0 0) (ab_lf i 1 (.getfield 16) 0 2 3)) (ab_br i 7 (ab_lf i 4 (.invokevirtual 135) 0 23 1) (ab_br i 10 (ab_lf i 7 (.ifCond .ne 13) 0 0 0) (ab_lf i 10 (.new 123) 1 1 0)))) (ab_br i 16 (ab_br i 14 (ab_lf i 13 (.dup) 0 0 0) (ab_lf i 14 (.ldc 139) 0 0 0)) (ab_br i 19 (ab_lf i 16 (.invokespecial 127) 7 0 0) (ab_br i 20 (ab_lf i 19 (.athrow) 0 0 0) (ab_lf i 20 (.return_) 0 0 0)))))
def ab_p18 (i : Nat) : Option (Instr × Nat × Nat × Nat) := (ab_br i 13 (ab_br i 5 (ab_br i 1 (ab_lf i 0 (.aload_n 0) 0 0 0) (ab_br i 4 (ab_lf i 1 (.invokevirtual 87) 0 17 1) (ab_lf i 4 (.iload_n 1) 0 0 0))) (ab_br i 9 (ab_br i 8 (ab_lf i 5 (.ifCond .lt 14) 0 0 0) (ab_lf i 8 (.iload_n 1) 0 0 0)) (ab_br i 10 (ab_lf i 9 (.aload_n 0) 0 0 0) (ab_lf i 10 (.getfield 16) 0 2 3)))) (ab_br i 23 (ab_br i 19 (ab_br i 16 (ab_lf i 13 (.getfield 90) 1 6 0) (ab_lf i 16 (.if_icmp .lt 13) 0 0 0)) (ab_br i 22 (ab_lf i 19 (.new 130) 1 2 0) (ab_lf i 22 (.dup) 0 0 0))) (ab_br i 28 (ab_br i 25 (ab_lf i 23 (.ldc 141) 0 0 0) (ab_lf i 25 (.invokespecial 134) 7 0 0)) (ab_br i 29 (ab_lf i 28 (.athrow) 0 0 0) (ab_lf i 29 (.return_) 0 0 0)))))
def ab_p19 (i : Nat) : Option (Instr × Nat × Nat × Nat) := (ab_br i 29 (ab_br i 12 (ab_br i 6 (ab_br i 4 (ab_br i 1 (ab_lf i 0 (.iload_n 1) 0 0 0) (ab_lf i 1 (.invokestatic 55) 1 16 1)) (ab_br i 5 (ab_lf i 4 (.iconst 1) 0 0 0) (ab_lf i 5 (.iload_n 1) 0 0 0))) (ab_br i 8 (ab_br i 7 (ab_lf i 6 (.ishl) 0 0 0) (ab_lf i 7 (.aload_n 0) 0 0 0)) (ab_br i 11 (ab_lf i 8 (.getfield 23) 0 3 3) (ab_lf i 11 (.iload_n 1) 0 0 0)))) (ab_br i 18 (ab_br i 16 (ab_br i 13 (ab_lf i 12 (.iconst 0) 0 0 0) (ab_lf i 13 (.invokevirtual 143) 0 57 3)) (ab_br i 17 (ab_lf i 16 (.ior) 0 0 0) (ab_lf i 17 (.istore_n 2) 0 0 0))) (ab_br i 22 (ab_br i 19 (ab_lf i 18 (.aload_n 0) 0 0 0) (ab_lf i 19 (.getfield 23) 0 3 3)) (ab_br i 23 (ab_lf i 22 (.iload_n 2) 0 0 0) (ab_br i 26 (ab_lf i 23 (.invokevirtual 147) 0 59 2) (ab_lf i 26 (.ifCond .ne 13) 0 0 0)))))) (ab_br i 44 (ab_br i 38 (ab_br i 33 (ab_br i 32 (ab_lf i 29 (.new 150) 1 3 0) (ab_lf i 32 (.dup) 0 0 0)) (ab_br i 35 (ab_lf i 33 (.ldc 152) 0 0 0) (ab_lf i 35 (.invokespecial 154) 7 0 0))) (ab_br i 40 (ab_br i 39 (ab_lf i 38 (.athrow) 0 0 0) (ab_lf i 39 (.aload_n 0) 0 0 0)) (ab_br i 43 (ab_lf i 40 (.getfield 23) 0 3 3) (ab_lf i 43 (.iload_n 2) 0 0 0)))) (ab_br i 54 (ab_br i 50 (ab_br i 47 (ab_lf i 44 (.invokevirtual 155) 0 60 2) (ab_lf i 47 (.ifCond .eq 13) 0 0 0)) (ab_br i 53 (ab_lf i 50 (.new 158) 1 4 0) (ab_lf i 53 (.dup) 0 0 0))) (ab_br i 59 (ab_br i 56 (ab_lf i 54 (.ldc 160) 0 0 0) (ab_lf i 56 (.invokespecial 162) 7 0 0)) (ab_br i 60 (ab_lf i 59 (.athrow) 0 0 0) (ab_br i 61 (ab_lf i 60 (.iload_n 2) 0 0 0) (ab_lf i 61 (.ireturn) 0 0 0)))))))
def ab_p20 (i : Nat) : Option (Instr × Nat × Nat × Nat) := (ab_br i 25 (ab_br i 12 (ab_br i 5 (ab_br i 1 (ab_lf i 0 (.aload_n 0) 0 0 0) (ab_br i 4 (ab_lf i 1 (.invokespecial 3) 8 0 1) (ab_lf i 4 (.aload_n 0) 0 0 0))) (ab_br i 7 (ab_lf i 5 (.bipush 40) 0 0 0) (ab_br i 9 (ab_lf i 7 (.newarray .int) 0 0 0) (ab_lf i 9 (.putfield 9) 1 0 3)))) (ab_br i 17 (ab_br i 13 (ab_lf i 12 (.aload_n 0) 0 0 0) (ab_br i 15 (ab_lf i 13 (.bipush 24) 0 0 0) (ab_lf i 15 (.newarray .int) 0 0 0))) (ab_br i 21 (ab_br i 20 (ab_lf i 17 (.putfield 15) 1 1 3) (ab_lf i 20 (.aload_n 0) 0 0 0)) (ab_br i 23 (ab_lf i 21 (.bipush 24) 0 0 0) (ab_lf i 23 (.newarray .long) 0 0 0))))) (ab_br i 39 (ab_br i 31 (ab_br i 28 (ab_lf i 25 (.putfield 18) 1 2 3) (ab_br i 29 (ab_lf i 28 (.aload_n 0) 0 0 0) (ab_lf i 29 (.bipush 24) 0 0 0))) (ab_br i 36 (ab_br i 33 (ab_lf i 31 (.newarray .int) 0 0 0) (ab_lf i 33 (.putfield 22) 1 3 3)) (ab_br i 37 (ab_lf i 36 (.aload_n 0) 0 0 0) (ab_lf i 37 (.bipush 24) 0 0 0)))) (ab_br i 45 (ab_br i 41 (ab_lf i 39 (.newarray .int) 0 0 0) (ab_br i 44 (ab_lf i 41 (.putfield 25) 1 4 3) (ab_lf i 44 (.aload_n 0) 0 0 0))) (ab_br i 49 (ab_br i 47 (ab_lf i 45 (.bipush 24) 0 0 0) (ab_lf i 47 (.newarray .int) 0 0 0)) (ab_br i 52 (ab_lf i 49 (.putfield 28) 1 5 3) (ab_lf i 52 (.return_) 0 0 0))))))
def ab_p21 (i : Nat) : Option (Instr × Nat × Nat × Nat) := (ab_br i 37 (ab_br i 17 (ab_br i 8 (ab_br i 2 (ab_br i 1 (ab_lf i 0 (.iload_n 3) 0 0 0) (ab_lf i 1 (.iconst 1) 0 0 0)) (ab_br i 5 (ab_lf i 2 (.if_icmp .lt 20) 0 0 0) (ab_br i 6 (ab_lf i 5 (.iload_n 3) 0 0 0) (ab_lf i 6 (.bipush 8) 0 0 0)))) (ab_br i 12 (ab_br i 11 (ab_lf i 8 (.if_icmp .gt 14) 0 0 0) (ab_lf i 11 (.aload_n 0) 0 0 0)) (ab_br i 15 (ab_lf i 12 (.getfield 31) 1 7 0) (ab_br i 16 (ab_lf i 15 (.iload_n 3) 0 0 0) (ab_lf i 16 (.iadd) 0 0 0))))) (ab_br i 25 (ab_br i 22 (ab_br i 19 (ab_lf i 17 (.bipush 40) 0 0 0) (ab_lf i 19 (.if_icmp .le 5) 0 0 0)) (ab_br i 23 (ab_lf i 22 (.iconst (-1)) 0 0 0) (ab_br i 24 (ab_lf i 23 (.ireturn) 0 0 0) (ab_lf i 24 (.iconst 0) 0 0 0)))) (ab_br i 30 (ab_br i 27 (ab_lf i 25 (.istore 4) 0 0 0) (ab_br i 29 (ab_lf i 27 (.iload 4) 0 0 0) (ab_lf i 29 (.iload_n 3) 0 0 0))) (ab_br i 33 (ab_lf i 30 (.if_icmp .ge 27) 0 0 0) (ab_br i 34 (ab_lf i 33 (.aload_n 0) 0 0 0) (ab_lf i 34 (.getfield 9) 1 0 3)))))) (ab_br i 58 (ab_br i 45 (ab_br i 41 (ab_br i 38 (ab_lf i 37 (.aload_n 0) 0 0 0) (ab_lf i 38 (.getfield 31) 1 7 0)) (ab_br i 43 (ab_lf i 41 (.iload 4) 0 0 0) (ab_br i 44 (ab_lf i 43 (.iadd) 0 0 0) (ab_lf i 44 (.lload_n 1) 0 0 0)))) (ab_br i 51 (ab_br i 47 (ab_lf i 45 (.iload 4) 0 0 0) (ab_br i 50 (ab_lf i 47 (.invokestatic 35) 1 13 2) (ab_lf i 50 (.iastore) 0 0 0))) (ab_br i 54 (ab_lf i 51 (.iinc 4 1) 0 0 0) (ab_br i 57 (ab_lf i 54 (.goto (-27)) 0 0 0) (ab_lf i 57 (.aload_n 0) 0 0 0))))) (ab_br i 67 (ab_br i 62 (ab_br i 59 (ab_lf i 58 (.dup) 0 0 0) (ab_lf i 59 (.getfield 31) 1 7 0)) (ab_br i 63 (ab_lf i 62 (.iload_n 3) 0 0 0) (ab_br i 64 (ab_lf i 63 (.iadd) 0 0 0) (ab_lf i 64 (.putfield 31) 1 7 0)))) (ab_br i 72 (ab_br i 68 (ab_lf i 67 (.aload_n 0) 0 0 0) (ab_br i 69 (ab_lf i 68 (.iconst 0) 0 0 0) (ab_lf i 69 (.putfield 39) 1 9 1))) (ab_br i 73 (ab_lf i 72 (.aload_n 0) 0 0 0) (ab_br i 76 (ab_lf i 73 (.getfield 31) 1 7 0) (ab_lf i 76 (.ireturn) 0 0 0)))))))
def ab_p22 (i : Nat) : Option (Instr × Nat × Nat × Nat) := (ab_br i 7 (ab_br i 4 (ab_br i 1 (ab_lf i 0 (.aload_n 0) 0 0 0) (ab_lf i 1 (.getfield 31) 1 7 0)) (ab_br i 5 (ab_lf i 4 (.istore_n 1) 0 0 0) (ab_br i 6 (ab_lf i 5 (.aload_n 0) 0 0 0) (ab_lf i 6 (.iconst 0) 0 0 0)))) (ab_br i 12 (ab_br i 10 (ab_lf i 7 (.putfield 31) 1 7 0) (ab_br i 11 (ab_lf i 10 (.aload_n 0) 0 0 0) (ab_lf i 11 (.iconst 0) 0 0 0))) (ab_br i 15 (ab_lf i 12 (.putfield 39) 1 9 1) (ab_br i 16 (ab_lf i 15 (.iload_n 1) 0 0 0) (ab_lf i 16 (.ireturn) 0 0 0)))))
def ab_p23 (i : Nat) : Option (Instr × Nat × Nat × Nat) := (ab_br i 26 (ab_br i 13 (ab_br i 7 (ab_br i 1 (ab_lf i 0 (.aload_n 0) 0 0 0) (ab_br i 4 (ab_lf i 1 (.getfield 39) 1 9 1) (ab_lf i 4 (.ifCond .ne 46) 0 0 0))) (ab_br i 9 (ab_br i 8 (ab_lf i 7 (.aload_n 0) 0 0 0) (ab_lf i 8 (.iconst 0) 0 0 0)) (ab_br i 12 (ab_lf i 9 (.putfield 43) 1 6 0) (ab_lf i 12 (.aload_n 0) 0 0 0)))) (ab_br i 18 (ab_br i 14 (ab_lf i 13 (.iconst 0) 0 0 0) (ab_br i 17 (ab_lf i 14 (.putfield 46) 1 8 0) (ab_lf i 17 (.aload_n 0) 0 0 0))) (ab_br i 20 (ab_br i 19 (ab_lf i 18 (.aload_n 0) 0 0 0) (ab_lf i 19 (.iconst 1) 0 0 0)) (ab_br i 23 (ab_lf i 20 (.invokevirtual 49) 0 24 2) (ab_lf i 23 (.ifCond .eq 18) 0 0 0))))) (ab_br i 41 (ab_br i 31 (ab_br i 27 (ab_lf i 26 (.aload_n 0) 0 0 0) (ab_br i 30 (ab_lf i 27 (.getfield 46) 1 8 0) (ab_lf i 30 (.aload_n 0) 0 0 0))) (ab_br i 37 (ab_br i 34 (ab_lf i 31 (.getfield 31) 1 7 0) (ab_lf i 34 (.if_icmp .ne 7) 0 0 0)) (ab_br i 38 (ab_lf i 37 (.iconst 1) 0 0 0) (ab_lf i 38 (.goto 4) 0 0 0)))) (ab_br i 47 (ab_br i 45 (ab_br i 42 (ab_lf i 41 (.iconst 0) 0 0 0) (ab_lf i 42 (.putfield 53) 1 10 1)) (ab_br i 46 (ab_lf i 45 (.aload_n 0) 0 0 0) (ab_lf i 46 (.iconst 1) 0 0 0))) (ab_br i 51 (ab_br i 50 (ab_lf i 47 (.putfield 39) 1 9 1) (ab_lf i 50 (.aload_n 0) 0 0 0)) (ab_br i 54 (ab_lf i 51 (.getfield 53) 1 10 1) (ab_lf i 54 (.ireturn) 0 0 0))))))
def ab_p24 (i : Nat) : Option (Instr × Nat × Nat × Nat) := (ab_br i 92 (ab_br i 47 (ab_br i 26 (ab_br i 12 (ab_br i 6 (ab_br i 1 (ab_lf i 0 (.iload_n 1) 0 0 0) (ab_br i 3 (ab_lf i 1 (.bipush 6) 0 0 0) (ab_lf i 3 (.if_icmp .gt 23) 0 0 0))) (ab_br i 7 (ab_lf i 6 (.aload_n 0) 0 0 0) (ab_br i 10 (ab_lf i 7 (.getfield 43) 1 6 0) (ab_lf i 10 (.bipush 24) 0 0 0)))) (ab_br i 19 (ab_br i 15 (ab_lf i 12 (.if_icmp .ge 14) 0 0 0) (ab_br i 16 (ab_lf i 15 (.aload_n 0) 0 0 0) (ab_lf i 16 (.getfield 46) 1 8 0))) (ab_br i 20 (ab_lf i 19 (.aload_n 0) 0 0 0) (ab_br i 23 (ab_lf i 20 (.getfield 31) 1 7 0) (ab_lf i 23 (.if_icmp .lt 5) 0 0 0))))) (ab_br i 34 (ab_br i 29 (ab_br i 27 (ab_lf i 26 (.iconst 0) 0 0 0) (ab_br i 28 (ab_lf i 27 (.ireturn) 0 0 0) (ab_lf i 28 (.aload_n 0) 0 0 0))) (ab_br i 32 (ab_lf i 29 (.getfield 43) 1 6 0) (ab_br i 33 (ab_lf i 32 (.istore_n 2) 0 0 0) (ab_lf i 33 (.aload_n 0) 0 0 0)))) (ab_br i 39 (ab_br i 35 (ab_lf i 34 (.dup) 0 0 0) (ab_br i 38 (ab_lf i 35 (.getfield 43) 1 6 0) (ab_lf i 38 (.iconst 1) 0 0 0))) (ab_br i 43 (ab_br i 40 (ab_lf i 39 (.iadd) 0 0 0) (ab_lf i 40 (.putfield 43) 1 6 0)) (ab_br i 44 (ab_lf i 43 (.aload_n 0) 0 0 0) (ab_lf i 44 (.getfield 9) 1 0 3)))))) (ab_br i 67 (ab_br i 55 (ab_br i 52 (ab_br i 48 (ab_lf i 47 (.aload_n 0) 0 0 0) (ab_br i 51 (ab_lf i 48 (.getfield 46) 1 8 0) (ab_lf i 51 (.iaload) 0 0 0))) (ab_br i 53 (ab_lf i 52 (.iconst 5) 0 0 0) (ab_br i 54 (ab_lf i 53 (.ishr) 0 0 0) (ab_lf i 54 (.istore_n 3) 0 0 0)))) (ab_br i 60 (ab_br i 56 (ab_lf i 55 (.aload_n 0) 0 0 0) (ab_br i 59 (ab_lf i 56 (.getfield 9) 1 0 3) (ab_lf i 59 (.aload_n 0) 0 0 0))) (ab_br i 64 (ab_br i 63 (ab_lf i 60 (.getfield 46) 1 8 0) (ab_lf i 63 (.iaload) 0 0 0)) (ab_br i 66 (ab_lf i 64 (.bipush 31) 0 0 0) (ab_lf i 66 (.iand) 0 0 0))))) (ab_br i 76 (ab_br i 71 (ab_br i 69 (ab_lf i 67 (.istore 4) 0 0 0) (ab_br i 70 (ab_lf i 69 (.aload_n 0) 0 0 0) (ab_lf i 70 (.dup) 0 0 0))) (ab_br i 74 (ab_lf i 71 (.getfield 46) 1 8 0) (ab_br i 75 (ab_lf i 74 (.iconst 1) 0 0 0) (ab_lf i 75 (.iadd) 0 0 0)))) (ab_br i 82 (ab_br i 79 (ab_lf i 76 (.putfield 46) 1 8 0) (ab_br i 80 (ab_lf i 79 (.iload_n 3) 0 0 0) (ab_lf i 80 (.bipush 7) 0 0 0))) (ab_br i 87 (ab_br i 85 (ab_lf i 82 (.if_icmp .ne 19) 0 0 0) (ab_lf i 85 (.iload 4) 0 0 0)) (ab_br i 89 (ab_lf i 87 (.bipush 20) 0 0 0) (ab_lf i 89 (.if_icmp .lt 10) 0 0 0))))))) (ab_br i 135 (ab_br i 115 (ab_br i 102 (ab_br i 99 (ab_br i 94 (ab_lf i 92 (.iload 4) 0 0 0) (ab_br i 96 (ab_lf i 94 (.bipush 22) 0 0 0) (ab_lf i 96 (.if_icmp .le 5) 0 0 0))) (ab_br i 100 (ab_lf i 99 (.iconst 0) 0 0 0) (ab_br i 101 (ab_lf i 100 (.ireturn) 0 0 0) (ab_lf i 101 (.aload_n 0) 0 0 0)))) (ab_br i 109 (ab_br i 104 (ab_lf i 102 (.iload 4) 0 0 0) (ab_br i 107 (ab_lf i 104 (.invokevirtual 56) 0 25 2) (ab_lf i 107 (.lstore 5) 0 0 0))) (ab_br i 113 (ab_br i 110 (ab_lf i 109 (.aload_n 0) 0 0 0) (ab_lf i 110 (.getfield 15) 1 1 3)) (ab_br i 114 (ab_lf i 113 (.iload_n 2) 0 0 0) (ab_lf i 114 (.iload_n 3) 0 0 0))))) (ab_br i 124 (ab_br i 120 (ab_br i 116 (ab_lf i 115 (.iastore) 0 0 0) (ab_br i 117 (ab_lf i 116 (.aload_n 0) 0 0 0) (ab_lf i 117 (.getfield 18) 1 2 3))) (ab_br i 121 (ab_lf i 120 (.iload_n 2) 0 0 0) (ab_br i 123 (ab_lf i 121 (.lload 5) 0 0 0) (ab_lf i 123 (.lastore) 0 0 0)))) (ab_br i 129 (ab_br i 125 (ab_lf i 124 (.aload_n 0) 0 0 0) (ab_br i 128 (ab_lf i 125 (.getfield 22) 1 3 3) (ab_lf i 128 (.iload_n 2) 0 0 0))) (ab_br i 131 (ab_br i 130 (ab_lf i 129 (.iload_n 1) 0 0 0) (ab_lf i 130 (.iastore) 0 0 0)) (ab_br i 132 (ab_lf i 131 (.aload_n 0) 0 0 0) (ab_lf i 132 (.getfield 25) 1 4 3)))))) (ab_br i 158 (ab_br i 146 (ab_br i 140 (ab_br i 136 (ab_lf i 135 (.iload_n 2) 0 0 0) (ab_br i 137 (ab_lf i 136 (.aload_n 0) 0 0 0) (ab_lf i 137 (.getfield 46) 1 8 0))) (ab_br i 141 (ab_lf i 140 (.iastore) 0 0 0) (ab_br i 143 (ab_lf i 141 (.lload 5) 0 0 0) (ab_lf i 143 (.ldc2_w 60) 0 0 0)))) (ab_br i 151 (ab_br i 147 (ab_lf i 146 (.lcmp) 0 0 0) (ab_br i 150 (ab_lf i 147 (.ifCond .eq 18) 0 0 0) (ab_lf i 150 (.aload_n 0) 0 0 0))) (ab_br i 154 (ab_br i 152 (ab_lf i 151 (.iload_n 3) 0 0 0) (ab_lf i 152 (.lload 5) 0 0 0)) (ab_br i 155 (ab_lf i 154 (.iload_n 1) 0 0 0) (ab_lf i 155 (.invokevirtual 62) 0 26 4))))) (ab_br i 169 (ab_br i 165 (ab_br i 161 (ab_lf i 158 (.ifCond .eq 7) 0 0 0) (ab_br i 162 (ab_lf i 161 (.iconst 1) 0 0 0) (ab_lf i 162 (.goto 4) 0 0 0))) (ab_br i 166 (ab_lf i 165 (.iconst 0) 0 0 0) (ab_br i 168 (ab_lf i 166 (.istore 7) 0 0 0) (ab_lf i 168 (.aload_n 0) 0 0 0)))) (ab_br i 174 (ab_br i 172 (ab_lf i 169 (.getfield 28) 1 5 3) (ab_br i 173 (ab_lf i 172 (.iload_n 2) 0 0 0) (ab_lf i 173 (.aload_n 0) 0 0 0))) (ab_br i 178 (ab_br i 177 (ab_lf i 174 (.getfield 43) 1 6 0) (ab_lf i 177 (.iastore) 0 0 0)) (ab_br i 180 (ab_lf i 178 (.iload 7) 0 0 0) (ab_lf i 180 (.ireturn) 0 0 0))))))))
def ab_p25 (i : Nat) : Option (Instr × Nat × Nat × Nat) := (ab_br i 46 (ab_br i 21 (ab_br i 10 (ab_br i 6 (ab_br i 1 (ab_lf i 0 (.iload_n 1) 0 0 0) (ab_br i 3 (ab_lf i 1 (.bipush 24) 0 0 0) (ab_lf i 3 (.if_icmp .ge 6) 0 0 0))) (ab_br i 8 (ab_br i 7 (ab_lf i 6 (.iload_n 1) 0 0 0) (ab_lf i 7 (.i2l) 0 0 0)) (ab_br i 9 (ab_lf i 8 (.lreturn) 0 0 0) (ab_lf i 9 (.iload_n 1) 0 0 0)))) (ab_br i 16 (ab_br i 12 (ab_lf i 10 (.bipush 26) 0 0 0) (ab_br i 15 (ab_lf i 12 (.if_icmp .gt 12) 0 0 0) (ab_lf i 15 (.iconst 1) 0 0 0))) (ab_br i 19 (ab_br i 17 (ab_lf i 16 (.iload_n 1) 0 0 0) (ab_lf i 17 (.bipush 24) 0 0 0)) (ab_br i 20 (ab_lf i 19 (.isub) 0 0 0) (ab_lf i 20 (.ishl) 0 0 0))))) (ab_br i 33 (ab_br i 27 (ab_br i 24 (ab_lf i 21 (.goto 5) 0 0 0) (ab_br i 26 (ab_lf i 24 (.bipush 41) 0 0 0) (ab_lf i 26 (.istore_n 2) 0 0 0))) (ab_br i 29 (ab_br i 28 (ab_lf i 27 (.iload_n 2) 0 0 0) (ab_lf i 28 (.aload_n 0) 0 0 0)) (ab_br i 32 (ab_lf i 29 (.getfield 31) 1 7 0) (ab_lf i 32 (.aload_n 0) 0 0 0)))) (ab_br i 40 (ab_br i 36 (ab_lf i 33 (.getfield 46) 1 8 0) (ab_br i 37 (ab_lf i 36 (.isub) 0 0 0) (ab_lf i 37 (.if_icmp .le 7) 0 0 0))) (ab_br i 44 (ab_br i 43 (ab_lf i 40 (.ldc2_w 60) 0 0 0) (ab_lf i 43 (.lreturn) 0 0 0)) (ab_br i 45 (ab_lf i 44 (.lconst 0) 0 0 0) (ab_lf i 45 (.lstore_n 3) 0 0 0)))))) (ab_br i 71 (ab_br i 59 (ab_br i 51 (ab_br i 47 (ab_lf i 46 (.iconst 0) 0 0 0) (ab_br i 49 (ab_lf i 47 (.istore 5) 0 0 0) (ab_lf i 49 (.iload 5) 0 0 0))) (ab_br i 55 (ab_br i 52 (ab_lf i 51 (.iload_n 2) 0 0 0) (ab_lf i 52 (.if_icmp .ge 29) 0 0 0)) (ab_br i 56 (ab_lf i 55 (.lload_n 3) 0 0 0) (ab_lf i 56 (.ldc2_w 66) 0 0 0)))) (ab_br i 64 (ab_br i 60 (ab_lf i 59 (.lmul) 0 0 0) (ab_br i 61 (ab_lf i 60 (.aload_n 0) 0 0 0) (ab_lf i 61 (.getfield 9) 1 0 3))) (ab_br i 68 (ab_br i 65 (ab_lf i 64 (.aload_n 0) 0 0 0) (ab_lf i 65 (.getfield 46) 1 8 0)) (ab_br i 70 (ab_lf i 68 (.iload 5) 0 0 0) (ab_lf i 70 (.iadd) 0 0 0))))) (ab_br i 82 (ab_br i 74 (ab_br i 72 (ab_lf i 71 (.iaload) 0 0 0) (ab_br i 73 (ab_lf i 72 (.i2l) 0 0 0) (ab_lf i 73 (.ladd) 0 0 0))) (ab_br i 78 (ab_br i 75 (ab_lf i 74 (.lstore_n 3) 0 0 0) (ab_lf i 75 (.iinc 5 1) 0 0 0)) (ab_br i 81 (ab_lf i 78 (.goto (-29)) 0 0 0) (ab_lf i 81 (.aload_n 0) 0 0 0)))) (ab_br i 87 (ab_br i 83 (ab_lf i 82 (.dup) 0 0 0) (ab_br i 86 (ab_lf i 83 (.getfield 46) 1 8 0) (ab_lf i 86 (.iload_n 2) 0 0 0))) (ab_br i 91 (ab_br i 88 (ab_lf i 87 (.iadd) 0 0 0) (ab_lf i 88 (.putfield 46) 1 8 0)) (ab_br i 92 (ab_lf i 91 (.lload_n 3) 0 0 0) (ab_lf i 92 (.lreturn) 0 0 0)))))))
def ab_p26 (i : Nat) : Option (Instr × Nat × Nat × Nat) := (ab_br i 59 (ab_br i 45 (ab_br i 38 (ab_br i 36 (ab_br i 1 (ab_lf i 0 (.iload_n 1) 0 0 0) (ab_lf i 1 (.tableswitch 83 2 6 #[35, 42, 49, 59, 73]) 0 0 0)) (ab_br i 37 (ab_lf i 36 (.aload_n 0) 0 0 0) (ab_lf i 37 (.lload_n 2) 0 0 0))) (ab_br i 42 (ab_br i 39 (ab_lf i 38 (.iconst 0) 0 0 0) (ab_lf i 39 (.invokevirtual 68) 0 27 3)) (ab_br i 43 (ab_lf i 42 (.ireturn) 0 0 0) (ab_br i 44 (ab_lf i 43 (.aload_n 0) 0 0 0) (ab_lf i 44 (.lload_n 2) 0 0 0))))) (ab_br i 51 (ab_br i 49 (ab_br i 46 (ab_lf i 45 (.iconst 1) 0 0 0) (ab_lf i 46 (.invokevirtual 68) 0 27 3)) (ab_br i 50 (ab_lf i 49 (.ireturn) 0 0 0) (ab_lf i 50 (.aload_n 0) 0 0 0))) (ab_br i 54 (ab_br i 52 (ab_lf i 51 (.lload_n 2) 0 0 0) (ab_lf i 52 (.iload 4) 0 0 0)) (ab_br i 55 (ab_lf i 54 (.iconst 1) 0 0 0) (ab_br i 56 (ab_lf i 55 (.iadd) 0 0 0) (ab_lf i 56 (.invokevirtual 72) 0 28 3)))))) (ab_br i 73 (ab_br i 65 (ab_br i 61 (ab_br i 60 (ab_lf i 59 (.ireturn) 0 0 0) (ab_lf i 60 (.aload_n 0) 0 0 0)) (ab_br i 64 (ab_lf i 61 (.ldc2_w 76) 0 0 0) (ab_lf i 64 (.lload_n 2) 0 0 0))) (ab_br i 68 (ab_br i 66 (ab_lf i 65 (.lmul) 0 0 0) (ab_lf i 66 (.iload 4) 0 0 0)) (ab_br i 69 (ab_lf i 68 (.iconst 1) 0 0 0) (ab_br i 70 (ab_lf i 69 (.iadd) 0 0 0) (ab_lf i 70 (.invokevirtual 72) 0 28 3))))) (ab_br i 79 (ab_br i 75 (ab_br i 74 (ab_lf i 73 (.ireturn) 0 0 0) (ab_lf i 74 (.aload_n 0) 0 0 0)) (ab_br i 76 (ab_lf i 75 (.lconst 1) 0 0 0) (ab_br i 78 (ab_lf i 76 (.iload 4) 0 0 0) (ab_lf i 78 (.iconst 1) 0 0 0)))) (ab_br i 83 (ab_br i 80 (ab_lf i 79 (.iadd) 0 0 0) (ab_lf i 80 (.invokevirtual 72) 0 28 3)) (ab_br i 84 (ab_lf i 83 (.ireturn) 0 0 0) (ab_br i 85 (ab_lf i 84 (.iconst 1) 0 0 0) (ab_lf i 85 (.ireturn) 0 0 0)))))))
def ab_p27 (i : Nat) : Option (Instr × Nat × Nat × Nat) := (ab_br i 33 (ab_br i 16 (ab_br i 9 (ab_br i 2 (ab_br i 1 (ab_lf i 0 (.lload_n 1) 0 0 0) (ab_lf i 1 (.aload_n 0) 0 0 0)) (ab_br i 5 (ab_lf i 2 (.getfield 31) 1 7 0) (ab_br i 6 (ab_lf i 5 (.aload_n 0) 0 0 0) (ab_lf i 6 (.getfield 46) 1 8 0)))) (ab_br i 11 (ab_br i 10 (ab_lf i 9 (.isub) 0 0 0) (ab_lf i 10 (.i2l) 0 0 0)) (ab_br i 12 (ab_lf i 11 (.lcmp) 0 0 0) (ab_br i 15 (ab_lf i 12 (.ifCond .le 5) 0 0 0) (ab_lf i 15 (.iconst 0) 0 0 0))))) (ab_br i 23 (ab_br i 18 (ab_br i 17 (ab_lf i 16 (.ireturn) 0 0 0) (ab_lf i 17 (.iconst 0) 0 0 0)) (ab_br i 20 (ab_lf i 18 (.istore 4) 0 0 0) (ab_br i 22 (ab_lf i 20 (.iload 4) 0 0 0) (ab_lf i 22 (.i2l) 0 0 0)))) (ab_br i 28 (ab_br i 24 (ab_lf i 23 (.lload_n 1) 0 0 0) (ab_br i 25 (ab_lf i 24 (.lcmp) 0 0 0) (ab_lf i 25 (.ifCond .ge 33) 0 0 0))) (ab_br i 29 (ab_lf i 28 (.iload_n 3) 0 0 0) (ab_br i 32 (ab_lf i 29 (.ifCond .eq 23) 0 0 0) (ab_lf i 32 (.aload_n 0) 0 0 0)))))) (ab_br i 52 (ab_br i 43 (ab_br i 37 (ab_br i 36 (ab_lf i 33 (.getfield 9) 1 0 3) (ab_lf i 36 (.aload_n 0) 0 0 0)) (ab_br i 40 (ab_lf i 37 (.getfield 46) 1 8 0) (ab_br i 42 (ab_lf i 40 (.iload 4) 0 0 0) (ab_lf i 42 (.iadd) 0 0 0)))) (ab_br i 47 (ab_br i 44 (ab_lf i 43 (.iaload) 0 0 0) (ab_lf i 44 (.invokestatic 78) 1 14 1)) (ab_br i 50 (ab_lf i 47 (.ifCond .ne 5) 0 0 0) (ab_br i 51 (ab_lf i 50 (.iconst 0) 0 0 0) (ab_lf i 51 (.ireturn) 0 0 0))))) (ab_br i 63 (ab_br i 58 (ab_br i 55 (ab_lf i 52 (.iinc 4 1) 0 0 0) (ab_lf i 55 (.goto (-35)) 0 0 0)) (ab_br i 59 (ab_lf i 58 (.aload_n 0) 0 0 0) (ab_br i 60 (ab_lf i 59 (.dup) 0 0 0) (ab_lf i 60 (.getfield 46) 1 8 0)))) (ab_br i 66 (ab_br i 64 (ab_lf i 63 (.lload_n 1) 0 0 0) (ab_br i 65 (ab_lf i 64 (.l2i) 0 0 0) (ab_lf i 65 (.iadd) 0 0 0))) (ab_br i 69 (ab_lf i 66 (.putfield 46) 1 8 0) (ab_br i 70 (ab_lf i 69 (.iconst 1) 0 0 0) (ab_lf i 70 (.ireturn) 0 0 0)))))))
def ab_p28 (i : Nat) : Option (Instr × Nat × Nat × Nat) := (ab_br i 17 (ab_br i 9 (ab_br i 4 (ab_br i 1 (ab_lf i 0 (.lload_n 1) 0 0 0) (ab_lf i 1 (.ldc2_w 81) 0 0 0)) (ab_br i 5 (ab_lf i 4 (.lcmp) 0 0 0) (ab_br i 8 (ab_lf i 5 (.ifCond .le 5) 0 0 0) (ab_lf i 8 (.iconst 0) 0 0 0)))) (ab_br i 13 (ab_br i 10 (ab_lf i 9 (.ireturn) 0 0 0) (ab_br i 11 (ab_lf i 10 (.iconst 0) 0 0 0) (ab_lf i 11 (.istore 4) 0 0 0))) (ab_br i 15 (ab_lf i 13 (.iload 4) 0 0 0) (ab_br i 16 (ab_lf i 15 (.i2l) 0 0 0) (ab_lf i 16 (.lload_n 1) 0 0 0))))) (ab_br i 29 (ab_br i 22 (ab_br i 18 (ab_lf i 17 (.lcmp) 0 0 0) (ab_br i 21 (ab_lf i 18 (.ifCond .ge 19) 0 0 0) (ab_lf i 21 (.aload_n 0) 0 0 0))) (ab_br i 23 (ab_lf i 22 (.iload_n 3) 0 0 0) (ab_br i 26 (ab_lf i 23 (.invokevirtual 49) 0 24 2) (ab_lf i 26 (.ifCond .ne 5) 0 0 0)))) (ab_br i 34 (ab_br i 30 (ab_lf i 29 (.iconst 0) 0 0 0) (ab_br i 31 (ab_lf i 30 (.ireturn) 0 0 0) (ab_lf i 31 (.iinc 4 1) 0 0 0))) (ab_br i 37 (ab_lf i 34 (.goto (-21)) 0 0 0) (ab_br i 38 (ab_lf i 37 (.iconst 1) 0 0 0) (ab_lf i 38 (.ireturn) 0 0 0))))))
def ab_p29 (i : Nat) : Option (Instr × Nat × Nat × Nat) := (ab_br i 13 (ab_br i 5 (ab_br i 1 (ab_lf i 0 (.aload_n 0) 0 0 0) (ab_br i 4 (ab_lf i 1 (.getfield 15) 1 1 3) (ab_lf i 4 (.iload_n 1) 0 0 0))) (ab_br i 9 (ab_br i 6 (ab_lf i 5 (.iaload) 0 0 0) (ab_lf i 6 (.ifCond .eq 13) 0 0 0)) (ab_br i 10 (ab_lf i 9 (.aload_n 0) 0 0 0) (ab_lf i 10 (.getfield 15) 1 1 3)))) (ab_br i 19 (ab_br i 15 (ab_br i 14 (ab_lf i 13 (.iload_n 1) 0 0 0) (ab_lf i 14 (.iaload) 0 0 0)) (ab_br i 16 (ab_lf i 15 (.iconst 1) 0 0 0) (ab_lf i 16 (.if_icmp .ne 7) 0 0 0))) (ab_br i 23 (ab_br i 20 (ab_lf i 19 (.iconst 1) 0 0 0) (ab_lf i 20 (.goto 4) 0 0 0)) (ab_br i 24 (ab_lf i 23 (.iconst 0) 0 0 0) (ab_lf i 24 (.ireturn) 0 0 0)))))
def ab_p30 (i : Nat) : Option (Instr × Nat × Nat × Nat) := (ab_br i 14 (ab_br i 6 (ab_br i 4 (ab_br i 1 (ab_lf i 0 (.aload_n 0) 0 0 0) (ab_lf i 1 (.getfield 15) 1 1 3)) (ab_br i 5 (ab_lf i 4 (.iload_n 1) 0 0 0) (ab_lf i 5 (.iaload) 0 0 0))) (ab_br i 10 (ab_br i 9 (ab_lf i 6 (.ifCond .ne 12) 0 0 0) (ab_lf i 9 (.aload_n 0) 0 0 0)) (ab_br i 13 (ab_lf i 10 (.getfield 18) 1 2 3) (ab_lf i 13 (.iload_n 1) 0 0 0)))) (ab_br i 22 (ab_br i 18 (ab_br i 15 (ab_lf i 14 (.laload) 0 0 0) (ab_lf i 15 (.goto 13) 0 0 0)) (ab_br i 21 (ab_lf i 18 (.ldc2_w 60) 0 0 0) (ab_lf i 21 (.aload_n 0) 0 0 0))) (ab_br i 26 (ab_br i 25 (ab_lf i 22 (.getfield 18) 1 2 3) (ab_lf i 25 (.iload_n 1) 0 0 0)) (ab_br i 27 (ab_lf i 26 (.laload) 0 0 0) (ab_br i 28 (ab_lf i 27 (.lsub) 0 0 0) (ab_lf i 28 (.lreturn) 0 0 0))))))
def ab_p31 (i : Nat) : Option (Instr × Nat × Nat × Nat) := (ab_br i 41 (ab_br i 20 (ab_br i 9 (ab_br i 4 (ab_br i 1 (ab_lf i 0 (.aload_n 0) 0 0 0) (ab_lf i 1 (.invokespecial 3) 8 0 1)) (ab_br i 5 (ab_lf i 4 (.aload_n 0) 0 0 0) (ab_br i 7 (ab_lf i 5 (.bipush 40) 0 0 0) (ab_lf i 7 (.newarray .char) 0 0 0)))) (ab_br i 13 (ab_br i 12 (ab_lf i 9 (.putfield 9) 2 0 3) (ab_lf i 12 (.aload_n 0) 0 0 0)) (ab_br i 15 (ab_lf i 13 (.bipush 40) 0 0 0) (ab_br i 17 (ab_lf i 15 (.newarray .char) 0 0 0) (ab_lf i 17 (.putfield 15) 2 1 3))))) (ab_br i 29 (ab_br i 23 (ab_br i 21 (ab_lf i 20 (.aload_n 0) 0 0 0) (ab_lf i 21 (.bipush 40) 0 0 0)) (ab_br i 25 (ab_lf i 23 (.newarray .int) 0 0 0) (ab_br i 28 (ab_lf i 25 (.putfield 18) 2 2 3) (ab_lf i 28 (.aload_n 0) 0 0 0)))) (ab_br i 36 (ab_br i 31 (ab_lf i 29 (.bipush 40) 0 0 0) (ab_br i 33 (ab_lf i 31 (.newarray .int) 0 0 0) (ab_lf i 33 (.putfield 22) 2 3 3))) (ab_br i 37 (ab_lf i 36 (.aload_n 0) 0 0 0) (ab_br i 39 (ab_lf i 37 (.bipush 40) 0 0 0) (ab_lf i 39 (.newarray .int) 0 0 0)))))) (ab_br i 63 (ab_br i 52 (ab_br i 45 (ab_br i 44 (ab_lf i 41 (.putfield 25) 2 4 3) (ab_lf i 44 (.aload_n 0) 0 0 0)) (ab_br i 47 (ab_lf i 45 (.bipush 40) 0 0 0) (ab_br i 49 (ab_lf i 47 (.newarray .char) 0 0 0) (ab_lf i 49 (.putfield 28) 2 5 3)))) (ab_br i 57 (ab_br i 53 (ab_lf i 52 (.aload_n 0) 0 0 0) (ab_br i 55 (ab_lf i 53 (.bipush 40) 0 0 0) (ab_lf i 55 (.newarray .int) 0 0 0))) (ab_br i 60 (ab_lf i 57 (.putfield 31) 2 6 3) (ab_br i 61 (ab_lf i 60 (.aload_n 0) 0 0 0) (ab_lf i 61 (.bipush 40) 0 0 0))))) (ab_br i 73 (ab_br i 68 (ab_br i 65 (ab_lf i 63 (.newarray .int) 0 0 0) (ab_lf i 65 (.putfield 34) 2 7 3)) (ab_br i 69 (ab_lf i 68 (.aload_n 0) 0 0 0) (ab_br i 71 (ab_lf i 69 (.bipush 40) 0 0 0) (ab_lf i 71 (.newarray .boolean) 0 0 0)))) (ab_br i 79 (ab_br i 76 (ab_lf i 73 (.putfield 37) 2 8 3) (ab_br i 77 (ab_lf i 76 (.aload_n 0) 0 0 0) (ab_lf i 77 (.bipush 40) 0 0 0))) (ab_br i 81 (ab_lf i 79 (.newarray .int) 0 0 0) (ab_br i 84 (ab_lf i 81 (.putfield 41) 2 9 3) (ab_lf i 84 (.return_) 0 0 0)))))))
def ab_p32 (i : Nat) : Option (Instr × Nat × Nat × Nat) := (ab_br i 12 (ab_br i 6 (ab_br i 2 (ab_br i 1 (ab_lf i 0 (.aload_n 0) 0 0 0) (ab_lf i 1 (.iconst 0) 0 0 0)) (ab_br i 5 (ab_lf i 2 (.putfield 44) 2 10 1) (ab_lf i 5 (.aload_n 0) 0 0 0))) (ab_br i 10 (ab_br i 7 (ab_lf i 6 (.iconst 0) 0 0 0) (ab_lf i 7 (.putfield 48) 2 11 0)) (ab_br i 11 (ab_lf i 10 (.aload_n 0) 0 0 0) (ab_lf i 11 (.iconst (-1)) 0 0 0)))) (ab_br i 20 (ab_br i 16 (ab_br i 15 (ab_lf i 12 (.putfield 52) 2 12 0) (ab_lf i 15 (.aload_n 0) 0 0 0)) (ab_br i 17 (ab_lf i 16 (.iconst 0) 0 0 0) (ab_lf i 17 (.putfield 55) 2 13 0))) (ab_br i 22 (ab_br i 21 (ab_lf i 20 (.aload_n 0) 0 0 0) (ab_lf i 21 (.iconst 0) 0 0 0)) (ab_br i 25 (ab_lf i 22 (.putfield 58) 2 14 0) (ab_lf i 25 (.return_) 0 0 0)))))
def ab_p33 (i : Nat) : Option (Instr × Nat × Nat × Nat) := (ab_br i 15 (ab_br i 6 (ab_br i 4 (ab_br i 1 (ab_lf i 0 (.aload_n 0) 0 0 0) (ab_lf i 1 (.getfield 28) 2 5 3)) (ab_br i 5 (ab_lf i 4 (.iload_n 1) 0 0 0) (ab_lf i 5 (.caload) 0 0 0))) (ab_br i 11 (ab_br i 8 (ab_lf i 6 (.bipush 49) 0 0 0) (ab_lf i 8 (.if_icmp .eq 14) 0 0 0)) (ab_br i 12 (ab_lf i 11 (.aload_n 0) 0 0 0) (ab_lf i 12 (.getfield 28) 2 5 3)))) (ab_br i 22 (ab_br i 17 (ab_br i 16 (ab_lf i 15 (.iload_n 1) 0 0 0) (ab_lf i 16 (.caload) 0 0 0)) (ab_br i 19 (ab_lf i 17 (.bipush 43) 0 0 0) (ab_lf i 19 (.if_icmp .ne 7) 0 0 0))) (ab_br i 26 (ab_br i 23 (ab_lf i 22 (.iconst 1) 0 0 0) (ab_lf i 23 (.goto 4) 0 0 0)) (ab_br i 27 (ab_lf i 26 (.iconst 0) 0 0 0) (ab_lf i 27 (.ireturn) 0 0 0)))))
def ab_p34 (i : Nat) : Option (Instr × Nat × Nat × Nat) := (ab_br i 15 (ab_br i 6 (ab_br i 4 (ab_br i 1 (ab_lf i 0 (.aload_n 0) 0 0 0) (ab_lf i 1 (.getfield 28) 2 5 3)) (ab_br i 5 (ab_lf i 4 (.iload_n 1) 0 0 0) (ab_lf i 5 (.caload) 0 0 0))) (ab_br i 11 (ab_br i 8 (ab_lf i 6 (.bipush 42) 0 0 0) (ab_lf i 8 (.if_icmp .eq 14) 0 0 0)) (ab_br i 12 (ab_lf i 11 (.aload_n 0) 0 0 0) (ab_lf i 12 (.getfield 28) 2 5 3)))) (ab_br i 22 (ab_br i 17 (ab_br i 16 (ab_lf i 15 (.iload_n 1) 0 0 0) (ab_lf i 16 (.caload) 0 0 0)) (ab_br i 19 (ab_lf i 17 (.bipush 43) 0 0 0) (ab_lf i 19 (.if_icmp .ne 7) 0 0 0))) (ab_br i 26 (ab_br i 23 (ab_lf i 22 (.iconst 1) 0 0 0) (ab_lf i 23 (.goto 4) 0 0 0)) (ab_br i 27 (ab_lf i 26 (.iconst 0) 0 0 0) (ab_lf i 27 (.ireturn) 0 0 0)))))
def ab_p35 (i : Nat) : Option (Instr × Nat × Nat × Nat) := (ab_br i 8 (ab_br i 4 (ab_br i 1 (ab_lf i 0 (.aload_n 0) 0 0 0) (ab_lf i 1 (.invokespecial 3) 8 0 1)) (ab_br i 5 (ab_lf i 4 (.aload_n 0) 0 0 0) (ab_lf i 5 (.new 9) 0 2 15))) (ab_br i 12 (ab_br i 9 (ab_lf i 8 (.dup) 0 0 0) (ab_lf i 9 (.invokespecial 11) 2 31 1)) (ab_br i 15 (ab_lf i 12 (.putfield 12) 3 0 2) (ab_lf i 15 (.return_) 0 0 0))))
def ab_p36 (i : Nat) : Option (Instr × Nat × Nat × Nat) := (ab_br i 39 (ab_br i 18 (ab_br i 9 (ab_br i 4 (ab_br i 1 (ab_lf i 0 (.aload_n 0) 0 0 0) (ab_lf i 1 (.getfield 12) 3 0 2)) (ab_br i 7 (ab_lf i 4 (.invokevirtual 18) 0 32 1) (ab_br i 8 (ab_lf i 7 (.aload_n 1) 0 0 0) (ab_lf i 8 (.iconst 0) 0 0 0)))) (ab_br i 13 (ab_br i 10 (ab_lf i 9 (.aload_n 0) 0 0 0) (ab_lf i 10 (.getfield 12) 3 0 2)) (ab_br i 16 (ab_lf i 13 (.getfield 21) 2 0 3) (ab_br i 17 (ab_lf i 16 (.iconst 0) 0 0 0) (ab_lf i 17 (.iload_n 2) 0 0 0))))) (ab_br i 29 (ab_br i 22 (ab_br i 21 (ab_lf i 18 (.invokestatic 25) 9 0 5) (ab_lf i 21 (.aload_n 0) 0 0 0)) (ab_br i 25 (ab_lf i 22 (.getfield 12) 3 0 2) (ab_br i 26 (ab_lf i 25 (.iload_n 2) 0 0 0) (ab_lf i 26 (.putfield 31) 2 11 0)))) (ab_br i 34 (ab_br i 30 (ab_lf i 29 (.aload_n 0) 0 0 0) (ab_br i 31 (ab_lf i 30 (.iconst 0) 0 0 0) (ab_lf i 31 (.putfield 35) 3 1 0))) (ab_br i 35 (ab_lf i 34 (.aload_n 0) 0 0 0) (ab_br i 38 (ab_lf i 35 (.getfield 12) 3 0 2) (ab_lf i 38 (.aload_n 0) 0 0 0)))))) (ab_br i 60 (ab_br i 48 (ab_br i 41 (ab_br i 40 (ab_lf i 39 (.iconst 0) 0 0 0) (ab_lf i 40 (.iconst 1) 0 0 0)) (ab_br i 44 (ab_lf i 41 (.invokevirtual 38) 0 43 3) (ab_br i 47 (ab_lf i 44 (.putfield 42) 2 12 0) (ab_lf i 47 (.aload_n 0) 0 0 0)))) (ab_br i 55 (ab_br i 51 (ab_lf i 48 (.getfield 35) 3 1 0) (ab_br i 52 (ab_lf i 51 (.iload_n 2) 0 0 0) (ab_lf i 52 (.if_icmp .ne 7) 0 0 0))) (ab_br i 56 (ab_lf i 55 (.iconst 1) 0 0 0) (ab_br i 59 (ab_lf i 56 (.goto 4) 0 0 0) (ab_lf i 59 (.iconst 0) 0 0 0))))) (ab_br i 71 (ab_br i 64 (ab_br i 63 (ab_lf i 60 (.invokestatic 45) 1 39 1) (ab_lf i 63 (.aload_n 0) 0 0 0)) (ab_br i 67 (ab_lf i 64 (.getfield 12) 3 0 2) (ab_br i 68 (ab_lf i 67 (.iconst 1) 0 0 0) (ab_lf i 68 (.putfield 49) 2 10 1)))) (ab_br i 76 (ab_br i 72 (ab_lf i 71 (.aload_n 0) 0 0 0) (ab_br i 73 (ab_lf i 72 (.aload_n 0) 0 0 0) (ab_lf i 73 (.getfield 12) 3 0 2))) (ab_br i 79 (ab_lf i 76 (.getfield 42) 2 12 0) (ab_br i 82 (ab_lf i 79 (.invokevirtual 53) 0 38 2) (ab_lf i 82 (.ireturn) 0 0 0)))))))
def ab_p37 (i : Nat) : Option (Instr × Nat × Nat × Nat) := (ab_br i 6 (ab_br i 4 (ab_br i 1 (ab_lf i 0 (.aload_n 0) 0 0 0) (ab_lf i 1 (.getfield 12) 3 0 2)) (ab_br i 5 (ab_lf i 4 (.astore_n 2) 0 0 0) (ab_lf i 5 (.aload_n 0) 0 0 0))) (ab_br i 10 (ab_br i 7 (ab_lf i 6 (.aload_n 1) 0 0 0) (ab_lf i 7 (.putfield 12) 3 0 2)) (ab_br i 11 (ab_lf i 10 (.aload_n 2) 0 0 0) (ab_lf i 11 (.areturn) 0 0 0))))
def ab_p38 (i : Nat) : Option (Instr × Nat × Nat × Nat) := (ab_br i 15 (ab_br i 5 (ab_br i 2 (ab_br i 1 (ab_lf i 0 (.iconst 0) 0 0 0) (ab_lf i 1 (.istore_n 2) 0 0 0)) (ab_br i 3 (ab_lf i 2 (.iload_n 1) 0 0 0) (ab_br i 4 (ab_lf i 3 (.istore_n 3) 0 0 0) (ab_lf i 4 (.iload_n 3) 0 0 0)))) (ab_br i 9 (ab_br i 6 (ab_lf i 5 (.iconst (-1)) 0 0 0) (ab_lf i 6 (.if_icmp .eq 25) 0 0 0)) (ab_br i 10 (ab_lf i 9 (.iload_n 2) 0 0 0) (ab_br i 12 (ab_lf i 10 (.bipush 40) 0 0 0) (ab_lf i 12 (.if_icmp .ge 19) 0 0 0))))) (ab_br i 26 (ab_br i 19 (ab_br i 18 (ab_lf i 15 (.iinc 2 1) 0 0 0) (ab_lf i 18 (.aload_n 0) 0 0 0)) (ab_br i 22 (ab_lf i 19 (.getfield 12) 3 0 2) (ab_br i 25 (ab_lf i 22 (.getfield 57) 2 2 3) (ab_lf i 25 (.iload_n 3) 0 0 0)))) (ab_br i 28 (ab_br i 27 (ab_lf i 26 (.iaload) 0 0 0) (ab_lf i 27 (.istore_n 3) 0 0 0)) (ab_br i 31 (ab_lf i 28 (.goto (-24)) 0 0 0) (ab_br i 32 (ab_lf i 31 (.iload_n 2) 0 0 0) (ab_lf i 32 (.ireturn) 0 0 0))))))
def ab_p39 (i : Nat) : Option (Instr × Nat × Nat × Nat) := (ab_br i 8 (ab_br i 4 (ab_br i 1 (ab_lf i 0 (.iload_n 0) 0 0 0) (ab_lf i 1 (.ifCond .ne 13) 0 0 0)) (ab_br i 7 (ab_lf i 4 (.new 61) 1 1 0) (ab_lf i 7 (.dup) 0 0 0))) (ab_br i 13 (ab_br i 10 (ab_lf i 8 (.ldc 63) 0 0 0) (ab_lf i 10 (.invokespecial 65) 7 0 0)) (ab_br i 14 (ab_lf i 13 (.athrow) 0 0 0) (ab_lf i 14 (.return_) 0 0 0))))
def ab_p40 (i : Nat) : Option (Instr × Nat × Nat × Nat) := (ab_br i 15 (ab_br i 5 (ab_br i 1 (ab_lf i 0 (.aload_n 0) 0 0 0) (ab_br i 4 (ab_lf i 1 (.getfield 35) 3 1 0) (ab_lf i 4 (.aload_n 0) 0 0 0))) (ab_br i 11 (ab_br i 8 (ab_lf i 5 (.getfield 12) 3 0 2) (ab_lf i 8 (.getfield 31) 2 11 0)) (ab_br i 14 (ab_lf i 11 (.if_icmp .ge 18) 0 0 0) (ab_lf i 14 (.aload_n 0) 0 0 0)))) (ab_br i 25 (ab_br i 21 (ab_br i 18 (ab_lf i 15 (.getfield 12) 3 0 2) (ab_lf i 18 (.getfield 21) 2 0 3)) (ab_br i 22 (ab_lf i 21 (.aload_n 0) 0 0 0) (ab_lf i 22 (.getfield 35) 3 1 0))) (ab_br i 29 (ab_br i 26 (ab_lf i 25 (.caload) 0 0 0) (ab_lf i 26 (.goto 4) 0 0 0)) (ab_br i 30 (ab_lf i 29 (.iconst 0) 0 0 0) (ab_lf i 30 (.ireturn) 0 0 0)))))
def ab_p41 (i : Nat) : Option (Instr × Nat × Nat × Nat) := (ab_br i 11 (ab_br i 5 (ab_br i 1 (ab_lf i 0 (.aload_n 0) 0 0 0) (ab_br i 4 (ab_lf i 1 (.invokevirtual 68) 0 40 1) (ab_lf i 4 (.iload_n 1) 0 0 0))) (ab_br i 9 (ab_br i 8 (ab_lf i 5 (.if_icmp .eq 5) 0 0 0) (ab_lf i 8 (.iconst 0) 0 0 0)) (ab_br i 10 (ab_lf i 9 (.ireturn) 0 0 0) (ab_lf i 10 (.aload_n 0) 0 0 0)))) (ab_br i 16 (ab_br i 12 (ab_lf i 11 (.dup) 0 0 0) (ab_br i 15 (ab_lf i 12 (.getfield 35) 3 1 0) (ab_lf i 15 (.iconst 1) 0 0 0))) (ab_br i 20 (ab_br i 17 (ab_lf i 16 (.iadd) 0 0 0) (ab_lf i 17 (.putfield 35) 3 1 0)) (ab_br i 21 (ab_lf i 20 (.iconst 1) 0 0 0) (ab_lf i 21 (.ireturn) 0 0 0)))))
def ab_p42 (i : Nat) : Option (Instr × Nat × Nat × Nat) := (ab_br i 13 (ab_br i 6 (ab_br i 1 (ab_lf i 0 (.aload_n 0) 0 0 0) (ab_br i 4 (ab_lf i 1 (.invokevirtual 68) 0 40 1) (ab_lf i 4 (.bipush 48) 0 0 0))) (ab_br i 9 (ab_lf i 6 (.if_icmp .lt 16) 0 0 0) (ab_br i 10 (ab_lf i 9 (.aload_n 0) 0 0 0) (ab_lf i 10 (.invokevirtual 68) 0 40 1)))) (ab_br i 19 (ab_br i 15 (ab_lf i 13 (.bipush 57) 0 0 0) (ab_br i 18 (ab_lf i 15 (.if_icmp .gt 7) 0 0 0) (ab_lf i 18 (.iconst 1) 0 0 0))) (ab_br i 22 (ab_lf i 19 (.goto 4) 0 0 0) (ab_br i 23 (ab_lf i 22 (.iconst 0) 0 0 0) (ab_lf i 23 (.ireturn) 0 0 0)))))
def ab_p43 (i : Nat) : Option (Instr × Nat × Nat × Nat) := (ab_br i 27 (ab_br i 10 (ab_br i 3 (ab_br i 1 (ab_lf i 0 (.aload_n 0) 0 0 0) (ab_br i 2 (ab_lf i 1 (.iload_n 1) 0 0 0) (ab_lf i 2 (.iload_n 2) 0 0 0))) (ab_br i 7 (ab_br i 6 (ab_lf i 3 (.invokevirtual 72) 0 44 3) (ab_lf i 6 (.istore_n 3) 0 0 0)) (ab_br i 8 (ab_lf i 7 (.iconst 0) 0 0 0) (ab_lf i 8 (.istore 4) 0 0 0)))) (ab_br i 18 (ab_br i 14 (ab_br i 12 (ab_lf i 10 (.iload 4) 0 0 0) (ab_lf i 12 (.bipush 40) 0 0 0)) (ab_br i 17 (ab_lf i 14 (.if_icmp .ge 40) 0 0 0) (ab_lf i 17 (.aload_n 0) 0 0 0))) (ab_br i 23 (ab_br i 20 (ab_lf i 18 (.bipush 47) 0 0 0) (ab_lf i 20 (.invokevirtual 75) 0 41 2)) (ab_br i 26 (ab_lf i 23 (.ifCond .eq 31) 0 0 0) (ab_lf i 26 (.aload_n 0) 0 0 0))))) (ab_br i 42 (ab_br i 33 (ab_br i 30 (ab_lf i 27 (.getfield 79) 3 2 0) (ab_br i 32 (ab_lf i 30 (.istore 5) 0 0 0) (ab_lf i 32 (.aload_n 0) 0 0 0))) (ab_br i 39 (ab_br i 36 (ab_lf i 33 (.getfield 12) 3 0 2) (ab_lf i 36 (.getfield 57) 2 2 3)) (ab_br i 41 (ab_lf i 39 (.iload 5) 0 0 0) (ab_lf i 41 (.aload_n 0) 0 0 0)))) (ab_br i 48 (ab_br i 44 (ab_br i 43 (ab_lf i 42 (.iload_n 1) 0 0 0) (ab_lf i 43 (.iload_n 2) 0 0 0)) (ab_br i 47 (ab_lf i 44 (.invokevirtual 72) 0 44 3) (ab_lf i 47 (.iastore) 0 0 0))) (ab_br i 54 (ab_br i 51 (ab_lf i 48 (.iinc 4 1) 0 0 0) (ab_lf i 51 (.goto (-41)) 0 0 0)) (ab_br i 55 (ab_lf i 54 (.iload_n 3) 0 0 0) (ab_lf i 55 (.ireturn) 0 0 0))))))
def ab_p44 (i : Nat) : Option (Instr × Nat × Nat × Nat) := (ab_br i 88 (ab_br i 42 (ab_br i 20 (ab_br i 10 (ab_br i 4 (ab_br i 1 (ab_lf i 0 (.aload_n 0) 0 0 0) (ab_lf i 1 (.invokevirtual 68) 0 40 1)) (ab_br i 6 (ab_lf i 4 (.bipush 40) 0 0 0) (ab_br i 9 (ab_lf i 6 (.if_icmp .ne 10) 0 0 0) (ab_lf i 9 (.aload_n 0) 0 0 0)))) (ab_br i 15 (ab_br i 11 (ab_lf i 10 (.iload_n 1) 0 0 0) (ab_br i 12 (ab_lf i 11 (.iload_n 2) 0 0 0) (ab_lf i 12 (.invokevirtual 82) 0 45 3))) (ab_br i 16 (ab_lf i 15 (.ireturn) 0 0 0) (ab_br i 17 (ab_lf i 16 (.aload_n 0) 0 0 0) (ab_lf i 17 (.invokevirtual 68) 0 40 1))))) (ab_br i 31 (ab_br i 24 (ab_br i 23 (ab_lf i 20 (.ifCond .eq 7) 0 0 0) (ab_lf i 23 (.iconst 1) 0 0 0)) (ab_br i 27 (ab_lf i 24 (.goto 4) 0 0 0) (ab_br i 28 (ab_lf i 27 (.iconst 0) 0 0 0) (ab_lf i 28 (.invokestatic 45) 1 39 1)))) (ab_br i 36 (ab_br i 32 (ab_lf i 31 (.aload_n 0) 0 0 0) (ab_br i 35 (ab_lf i 32 (.getfield 35) 3 1 0) (ab_lf i 35 (.istore_n 3) 0 0 0))) (ab_br i 37 (ab_lf i 36 (.aload_n 0) 0 0 0) (ab_br i 40 (ab_lf i 37 (.invokevirtual 68) 0 40 1) (ab_lf i 40 (.bipush 91) 0 0 0)))))) (ab_br i 66 (ab_br i 51 (ab_br i 46 (ab_br i 45 (ab_lf i 42 (.if_icmp .ne 15) 0 0 0) (ab_lf i 45 (.aload_n 0) 0 0 0)) (ab_br i 48 (ab_lf i 46 (.bipush 91) 0 0 0) (ab_br i 50 (ab_lf i 48 (.bipush 93) 0 0 0) (ab_lf i 50 (.iload_n 1) 0 0 0)))) (ab_br i 58 (ab_br i 54 (ab_lf i 51 (.invokevirtual 85) 0 52 4) (ab_br i 57 (ab_lf i 54 (.goto 110) 0 0 0) (ab_lf i 57 (.aload_n 0) 0 0 0))) (ab_br i 61 (ab_lf i 58 (.invokevirtual 68) 0 40 1) (ab_br i 63 (ab_lf i 61 (.bipush 123) 0 0 0) (ab_lf i 63 (.if_icmp .ne 15) 0 0 0))))) (ab_br i 75 (ab_br i 69 (ab_br i 67 (ab_lf i 66 (.aload_n 0) 0 0 0) (ab_lf i 67 (.bipush 123) 0 0 0)) (ab_br i 71 (ab_lf i 69 (.bipush 125) 0 0 0) (ab_br i 72 (ab_lf i 71 (.iload_n 1) 0 0 0) (ab_lf i 72 (.invokevirtual 85) 0 52 4)))) (ab_br i 82 (ab_br i 78 (ab_lf i 75 (.goto 89) 0 0 0) (ab_br i 79 (ab_lf i 78 (.aload_n 0) 0 0 0) (ab_lf i 79 (.invokevirtual 68) 0 40 1))) (ab_br i 84 (ab_lf i 82 (.bipush 35) 0 0 0) (ab_br i 87 (ab_lf i 84 (.if_icmp .ne 11) 0 0 0) (ab_lf i 87 (.aload_n 0) 0 0 0))))))) (ab_br i 138 (ab_br i 112 (ab_br i 99 (ab_br i 92 (ab_br i 89 (ab_lf i 88 (.iload_n 1) 0 0 0) (ab_lf i 89 (.invokevirtual 89) 0 46 2)) (ab_br i 95 (ab_lf i 92 (.goto 72) 0 0 0) (ab_br i 96 (ab_lf i 95 (.aload_n 0) 0 0 0) (ab_lf i 96 (.invokevirtual 68) 0 40 1)))) (ab_br i 105 (ab_br i 101 (ab_lf i 99 (.bipush 34) 0 0 0) (ab_br i 104 (ab_lf i 101 (.if_icmp .ne 10) 0 0 0) (ab_lf i 104 (.aload_n 0) 0 0 0))) (ab_br i 108 (ab_lf i 105 (.invokevirtual 93) 0 47 1) (ab_br i 111 (ab_lf i 108 (.goto 56) 0 0 0) (ab_lf i 111 (.aload_n 0) 0 0 0))))) (ab_br i 124 (ab_br i 117 (ab_br i 115 (ab_lf i 112 (.invokevirtual 68) 0 40 1) (ab_lf i 115 (.bipush 45) 0 0 0)) (ab_br i 120 (ab_lf i 117 (.if_icmp .eq 10) 0 0 0) (ab_br i 121 (ab_lf i 120 (.aload_n 0) 0 0 0) (ab_lf i 121 (.invokevirtual 96) 0 42 1)))) (ab_br i 131 (ab_br i 127 (ab_lf i 124 (.ifCond .eq 10) 0 0 0) (ab_br i 128 (ab_lf i 127 (.aload_n 0) 0 0 0) (ab_lf i 128 (.invokevirtual 100) 0 48 1))) (ab_br i 134 (ab_lf i 131 (.goto 33) 0 0 0) (ab_br i 135 (ab_lf i 134 (.aload_n 0) 0 0 0) (ab_lf i 135 (.invokevirtual 68) 0 40 1)))))) (ab_br i 161 (ab_br i 149 (ab_br i 143 (ab_br i 140 (ab_lf i 138 (.bipush 65) 0 0 0) (ab_lf i 140 (.if_icmp .lt 20) 0 0 0)) (ab_br i 144 (ab_lf i 143 (.aload_n 0) 0 0 0) (ab_br i 147 (ab_lf i 144 (.invokevirtual 68) 0 40 1) (ab_lf i 147 (.bipush 72) 0 0 0)))) (ab_br i 154 (ab_br i 152 (ab_lf i 149 (.if_icmp .gt 11) 0 0 0) (ab_br i 153 (ab_lf i 152 (.aload_n 0) 0 0 0) (ab_lf i 153 (.iload_n 2) 0 0 0))) (ab_br i 157 (ab_lf i 154 (.invokevirtual 103) 0 50 2) (ab_br i 160 (ab_lf i 157 (.goto 7) 0 0 0) (ab_lf i 160 (.aload_n 0) 0 0 0))))) (ab_br i 173 (ab_br i 168 (ab_br i 164 (ab_lf i 161 (.invokevirtual 106) 0 51 1) (ab_br i 165 (ab_lf i 164 (.aload_n 0) 0 0 0) (ab_lf i 165 (.getfield 12) 3 0 2))) (ab_br i 171 (ab_lf i 168 (.getfield 57) 2 2 3) (ab_br i 172 (ab_lf i 171 (.iload_n 3) 0 0 0) (ab_lf i 172 (.iconst (-1)) 0 0 0)))) (ab_br i 176 (ab_br i 174 (ab_lf i 173 (.iastore) 0 0 0) (ab_br i 175 (ab_lf i 174 (.aload_n 0) 0 0 0) (ab_lf i 175 (.iload_n 3) 0 0 0))) (ab_br i 179 (ab_lf i 176 (.putfield 79) 3 2 0) (ab_br i 180 (ab_lf i 179 (.iload_n 3) 0 0 0) (ab_lf i 180 (.ireturn) 0 0 0))))))))
def ab_p45 (i : Nat) : Option (Instr × Nat × Nat × Nat) := (ab_br i 23 (ab_br i 11 (ab_br i 5 (ab_br i 1 (ab_lf i 0 (.iload_n 1) 0 0 0) (ab_br i 2 (ab_lf i 1 (.iconst 4) 0 0 0) (ab_lf i 2 (.if_icmp .ge 16) 0 0 0))) (ab_br i 6 (ab_lf i 5 (.aload_n 0) 0 0 0) (ab_br i 8 (ab_lf i 6 (.bipush 40) 0 0 0) (ab_lf i 8 (.invokevirtual 75) 0 41 2)))) (ab_br i 18 (ab_br i 14 (ab_lf i 11 (.ifCond .eq 7) 0 0 0) (ab_br i 15 (ab_lf i 14 (.iconst 1) 0 0 0) (ab_lf i 15 (.goto 4) 0 0 0))) (ab_br i 19 (ab_lf i 18 (.iconst 0) 0 0 0) (ab_br i 22 (ab_lf i 19 (.invokestatic 45) 1 39 1) (ab_lf i 22 (.aload_n 0) 0 0 0))))) (ab_br i 31 (ab_br i 26 (ab_br i 24 (ab_lf i 23 (.iload_n 1) 0 0 0) (ab_br i 25 (ab_lf i 24 (.iconst 1) 0 0 0) (ab_lf i 25 (.iadd) 0 0 0))) (ab_br i 27 (ab_lf i 26 (.iload_n 2) 0 0 0) (ab_br i 30 (ab_lf i 27 (.invokevirtual 38) 0 43 3) (ab_lf i 30 (.istore_n 3) 0 0 0)))) (ab_br i 37 (ab_br i 32 (ab_lf i 31 (.aload_n 0) 0 0 0) (ab_br i 34 (ab_lf i 32 (.bipush 41) 0 0 0) (ab_lf i 34 (.invokevirtual 75) 0 41 2))) (ab_br i 40 (ab_lf i 37 (.invokestatic 45) 1 39 1) (ab_br i 41 (ab_lf i 40 (.iload_n 3) 0 0 0) (ab_lf i 41 (.ireturn) 0 0 0))))))
def ab_p46 (i : Nat) : Option (Instr × Nat × Nat × Nat) := (ab_br i 40 (ab_br i 16 (ab_br i 7 (ab_br i 4 (ab_br i 1 (ab_lf i 0 (.aload_n 0) 0 0 0) (ab_lf i 1 (.getfield 35) 3 1 0)) (ab_br i 5 (ab_lf i 4 (.istore_n 2) 0 0 0) (ab_br i 6 (ab_lf i 5 (.aload_n 0) 0 0 0) (ab_lf i 6 (.dup) 0 0 0)))) (ab_br i 11 (ab_br i 10 (ab_lf i 7 (.getfield 35) 3 1 0) (ab_lf i 10 (.iconst 1) 0 0 0)) (ab_br i 12 (ab_lf i 11 (.iadd) 0 0 0) (ab_br i 15 (ab_lf i 12 (.putfield 35) 3 1 0) (ab_lf i 15 (.aload_n 0) 0 0 0))))) (ab_br i 29 (ab_br i 22 (ab_br i 19 (ab_lf i 16 (.invokevirtual 96) 0 42 1) (ab_lf i 19 (.invokestatic 45) 1 39 1)) (ab_br i 23 (ab_lf i 22 (.aload_n 0) 0 0 0) (ab_br i 26 (ab_lf i 23 (.getfield 12) 3 0 2) (ab_lf i 26 (.getfield 109) 2 1 3)))) (ab_br i 33 (ab_br i 30 (ab_lf i 29 (.iload_n 2) 0 0 0) (ab_br i 32 (ab_lf i 30 (.bipush 35) 0 0 0) (ab_lf i 32 (.castore) 0 0 0))) (ab_br i 34 (ab_lf i 33 (.aload_n 0) 0 0 0) (ab_br i 37 (ab_lf i 34 (.getfield 12) 3 0 2) (ab_lf i 37 (.getfield 112) 2 3 3)))))) (ab_br i 56 (ab_br i 48 (ab_br i 42 (ab_br i 41 (ab_lf i 40 (.iload_n 2) 0 0 0) (ab_lf i 41 (.aload_n 0) 0 0 0)) (ab_br i 45 (ab_lf i 42 (.invokevirtual 68) 0 40 1) (ab_br i 47 (ab_lf i 45 (.bipush 48) 0 0 0) (ab_lf i 47 (.isub) 0 0 0)))) (ab_br i 51 (ab_br i 49 (ab_lf i 48 (.iastore) 0 0 0) (ab_br i 50 (ab_lf i 49 (.aload_n 0) 0 0 0) (ab_lf i 50 (.dup) 0 0 0))) (ab_br i 54 (ab_lf i 51 (.getfield 35) 3 1 0) (ab_br i 55 (ab_lf i 54 (.iconst 1) 0 0 0) (ab_lf i 55 (.iadd) 0 0 0))))) (ab_br i 67 (ab_br i 60 (ab_br i 59 (ab_lf i 56 (.putfield 35) 3 1 0) (ab_lf i 59 (.aload_n 0) 0 0 0)) (ab_br i 63 (ab_lf i 60 (.getfield 12) 3 0 2) (ab_br i 66 (ab_lf i 63 (.getfield 115) 2 4 3) (ab_lf i 66 (.iload_n 2) 0 0 0)))) (ab_br i 70 (ab_br i 68 (ab_lf i 67 (.aload_n 0) 0 0 0) (ab_br i 69 (ab_lf i 68 (.iload_n 1) 0 0 0) (ab_lf i 69 (.iconst 0) 0 0 0))) (ab_br i 73 (ab_lf i 70 (.invokevirtual 82) 0 45 3) (ab_br i 74 (ab_lf i 73 (.iastore) 0 0 0) (ab_lf i 74 (.return_) 0 0 0)))))))
def ab_p47 (i : Nat) : Option (Instr × Nat × Nat × Nat) := (ab_br i 49 (ab_br i 20 (ab_br i 10 (ab_br i 5 (ab_br i 1 (ab_lf i 0 (.aload_n 0) 0 0 0) (ab_br i 4 (ab_lf i 1 (.getfield 35) 3 1 0) (ab_lf i 4 (.istore_n 1) 0 0 0))) (ab_br i 6 (ab_lf i 5 (.aload_n 0) 0 0 0) (ab_br i 7 (ab_lf i 6 (.dup) 0 0 0) (ab_lf i 7 (.getfield 35) 3 1 0)))) (ab_br i 15 (ab_br i 11 (ab_lf i 10 (.iconst 1) 0 0 0) (ab_br i 12 (ab_lf i 11 (.iadd) 0 0 0) (ab_lf i 12 (.putfield 35) 3 1 0))) (ab_br i 17 (ab_br i 16 (ab_lf i 15 (.iconst 0) 0 0 0) (ab_lf i 16 (.istore_n 2) 0 0 0)) (ab_br i 18 (ab_lf i 17 (.iload_n 2) 0 0 0) (ab_lf i 18 (.bipush 40) 0 0 0))))) (ab_br i 36 (ab_br i 27 (ab_br i 23 (ab_lf i 20 (.if_icmp .ge 35) 0 0 0) (ab_br i 24 (ab_lf i 23 (.aload_n 0) 0 0 0) (ab_lf i 24 (.invokevirtual 68) 0 40 1))) (ab_br i 32 (ab_br i 29 (ab_lf i 27 (.bipush 34) 0 0 0) (ab_lf i 29 (.if_icmp .eq 26) 0 0 0)) (ab_br i 33 (ab_lf i 32 (.aload_n 0) 0 0 0) (ab_lf i 33 (.invokevirtual 68) 0 40 1)))) (ab_br i 41 (ab_br i 39 (ab_lf i 36 (.ifCond .eq 19) 0 0 0) (ab_br i 40 (ab_lf i 39 (.aload_n 0) 0 0 0) (ab_lf i 40 (.dup) 0 0 0))) (ab_br i 45 (ab_br i 44 (ab_lf i 41 (.getfield 35) 3 1 0) (ab_lf i 44 (.iconst 1) 0 0 0)) (ab_br i 46 (ab_lf i 45 (.iadd) 0 0 0) (ab_lf i 46 (.putfield 35) 3 1 0)))))) (ab_br i 76 (ab_br i 65 (ab_br i 56 (ab_br i 52 (ab_lf i 49 (.iinc 2 1) 0 0 0) (ab_br i 55 (ab_lf i 52 (.goto (-35)) 0 0 0) (ab_lf i 55 (.aload_n 0) 0 0 0))) (ab_br i 62 (ab_br i 59 (ab_lf i 56 (.getfield 12) 3 0 2) (ab_lf i 59 (.getfield 109) 2 1 3)) (ab_br i 63 (ab_lf i 62 (.iload_n 1) 0 0 0) (ab_lf i 63 (.bipush 34) 0 0 0)))) (ab_br i 70 (ab_br i 66 (ab_lf i 65 (.castore) 0 0 0) (ab_br i 67 (ab_lf i 66 (.aload_n 0) 0 0 0) (ab_lf i 67 (.getfield 12) 3 0 2))) (ab_br i 74 (ab_br i 73 (ab_lf i 70 (.getfield 112) 2 3 3) (ab_lf i 73 (.iload_n 1) 0 0 0)) (ab_br i 75 (ab_lf i 74 (.iload_n 1) 0 0 0) (ab_lf i 75 (.iconst 1) 0 0 0))))) (ab_br i 87 (ab_br i 79 (ab_br i 77 (ab_lf i 76 (.iadd) 0 0 0) (ab_br i 78 (ab_lf i 77 (.iastore) 0 0 0) (ab_lf i 78 (.aload_n 0) 0 0 0))) (ab_br i 85 (ab_br i 82 (ab_lf i 79 (.getfield 12) 3 0 2) (ab_lf i 82 (.getfield 115) 2 4 3)) (ab_br i 86 (ab_lf i 85 (.iload_n 1) 0 0 0) (ab_lf i 86 (.aload_n 0) 0 0 0)))) (ab_br i 92 (ab_br i 90 (ab_lf i 87 (.getfield 35) 3 1 0) (ab_br i 91 (ab_lf i 90 (.iastore) 0 0 0) (ab_lf i 91 (.aload_n 0) 0 0 0))) (ab_br i 97 (ab_br i 94 (ab_lf i 92 (.bipush 34) 0 0 0) (ab_lf i 94 (.invokevirtual 75) 0 41 2)) (ab_br i 100 (ab_lf i 97 (.invokestatic 45) 1 39 1) (ab_lf i 100 (.return_) 0 0 0)))))))
def ab_p48 (i : Nat) : Option (Instr × Nat × Nat × Nat) := (ab_br i 40 (ab_br i 20 (ab_br i 9 (ab_br i 4 (ab_br i 1 (ab_lf i 0 (.aload_n 0) 0 0 0) (ab_lf i 1 (.getfield 35) 3 1 0)) (ab_br i 5 (ab_lf i 4 (.istore_n 1) 0 0 0) (ab_br i 6 (ab_lf i 5 (.aload_n 0) 0 0 0) (ab_lf i 6 (.invokevirtual 118) 0 49 1)))) (ab_br i 14 (ab_br i 10 (ab_lf i 9 (.istore_n 2) 0 0 0) (ab_br i 11 (ab_lf i 10 (.aload_n 0) 0 0 0) (ab_lf i 11 (.getfield 12) 3 0 2))) (ab_br i 17 (ab_lf i 14 (.getfield 109) 2 1 3) (ab_br i 18 (ab_lf i 17 (.iload_n 1) 0 0 0) (ab_lf i 18 (.bipush 48) 0 0 0))))) (ab_br i 30 (ab_br i 25 (ab_br i 21 (ab_lf i 20 (.castore) 0 0 0) (ab_br i 22 (ab_lf i 21 (.aload_n 0) 0 0 0) (ab_lf i 22 (.getfield 12) 3 0 2))) (ab_br i 28 (ab_lf i 25 (.getfield 112) 2 3 3) (ab_br i 29 (ab_lf i 28 (.iload_n 1) 0 0 0) (ab_lf i 29 (.iload_n 2) 0 0 0)))) (ab_br i 35 (ab_br i 31 (ab_lf i 30 (.iastore) 0 0 0) (ab_br i 32 (ab_lf i 31 (.aload_n 0) 0 0 0) (ab_lf i 32 (.getfield 12) 3 0 2))) (ab_br i 38 (ab_lf i 35 (.getfield 115) 2 4 3) (ab_br i 39 (ab_lf i 38 (.iload_n 1) 0 0 0) (ab_lf i 39 (.iload_n 2) 0 0 0)))))) (ab_br i 63 (ab_br i 50 (ab_br i 42 (ab_br i 41 (ab_lf i 40 (.iastore) 0 0 0) (ab_lf i 41 (.aload_n 0) 0 0 0)) (ab_br i 44 (ab_lf i 42 (.bipush 46) 0 0 0) (ab_br i 47 (ab_lf i 44 (.invokevirtual 75) 0 41 2) (ab_lf i 47 (.ifCond .eq 36) 0 0 0)))) (ab_br i 56 (ab_br i 51 (ab_lf i 50 (.aload_n 0) 0 0 0) (ab_br i 53 (ab_lf i 51 (.bipush 46) 0 0 0) (ab_lf i 53 (.invokevirtual 75) 0 41 2))) (ab_br i 59 (ab_lf i 56 (.invokestatic 45) 1 39 1) (ab_br i 60 (ab_lf i 59 (.aload_n 0) 0 0 0) (ab_lf i 60 (.getfield 12) 3 0 2))))) (ab_br i 74 (ab_br i 69 (ab_br i 66 (ab_lf i 63 (.getfield 109) 2 1 3) (ab_br i 67 (ab_lf i 66 (.iload_n 1) 0 0 0) (ab_lf i 67 (.bipush 46) 0 0 0))) (ab_br i 70 (ab_lf i 69 (.castore) 0 0 0) (ab_br i 71 (ab_lf i 70 (.aload_n 0) 0 0 0) (ab_lf i 71 (.getfield 12) 3 0 2)))) (ab_br i 79 (ab_br i 77 (ab_lf i 74 (.getfield 115) 2 4 3) (ab_br i 78 (ab_lf i 77 (.iload_n 1) 0 0 0) (ab_lf i 78 (.aload_n 0) 0 0 0))) (ab_br i 82 (ab_lf i 79 (.invokevirtual 118) 0 49 1) (ab_br i 83 (ab_lf i 82 (.iastore) 0 0 0) (ab_lf i 83 (.return_) 0 0 0)))))))
def ab_p49 (i : Nat) : Option (Instr × Nat × Nat × Nat) := (ab_br i 34 (ab_br i 17 (ab_br i 8 (ab_br i 3 (ab_br i 1 (ab_lf i 0 (.aload_n 0) 0 0 0) (ab_lf i 1 (.bipush 45) 0 0 0)) (ab_br i 6 (ab_lf i 3 (.invokevirtual 75) 0 41 2) (ab_br i 7 (ab_lf i 6 (.istore_n 1) 0 0 0) (ab_lf i 7 (.aload_n 0) 0 0 0)))) (ab_br i 14 (ab_br i 11 (ab_lf i 8 (.invokevirtual 96) 0 42 1) (ab_lf i 11 (.invokestatic 45) 1 39 1)) (ab_br i 15 (ab_lf i 14 (.iconst 0) 0 0 0) (ab_br i 16 (ab_lf i 15 (.istore_n 2) 0 0 0) (ab_lf i 16 (.iconst 0) 0 0 0))))) (ab_br i 24 (ab_br i 19 (ab_br i 18 (ab_lf i 17 (.istore_n 3) 0 0 0) (ab_lf i 18 (.iload_n 3) 0 0 0)) (ab_br i 20 (ab_lf i 19 (.iconst 4) 0 0 0) (ab_br i 23 (ab_lf i 20 (.if_icmp .ge 39) 0 0 0) (ab_lf i 23 (.aload_n 0) 0 0 0)))) (ab_br i 30 (ab_br i 27 (ab_lf i 24 (.invokevirtual 96) 0 42 1) (ab_lf i 27 (.ifCond .eq 32) 0 0 0)) (ab_br i 31 (ab_lf i 30 (.iload_n 2) 0 0 0) (ab_br i 33 (ab_lf i 31 (.bipush 10) 0 0 0) (ab_lf i 33 (.imul) 0 0 0)))))) (ab_br i 49 (ab_br i 42 (ab_br i 38 (ab_br i 35 (ab_lf i 34 (.aload_n 0) 0 0 0) (ab_lf i 35 (.invokevirtual 68) 0 40 1)) (ab_br i 39 (ab_lf i 38 (.iadd) 0 0 0) (ab_br i 41 (ab_lf i 39 (.bipush 48) 0 0 0) (ab_lf i 41 (.isub) 0 0 0)))) (ab_br i 44 (ab_br i 43 (ab_lf i 42 (.istore_n 2) 0 0 0) (ab_lf i 43 (.aload_n 0) 0 0 0)) (ab_br i 45 (ab_lf i 44 (.dup) 0 0 0) (ab_br i 48 (ab_lf i 45 (.getfield 35) 3 1 0) (ab_lf i 48 (.iconst 1) 0 0 0))))) (ab_br i 60 (ab_br i 53 (ab_br i 50 (ab_lf i 49 (.iadd) 0 0 0) (ab_lf i 50 (.putfield 35) 3 1 0)) (ab_br i 56 (ab_lf i 53 (.iinc 3 1) 0 0 0) (ab_br i 59 (ab_lf i 56 (.goto (-38)) 0 0 0) (ab_lf i 59 (.iload_n 1) 0 0 0)))) (ab_br i 65 (ab_br i 63 (ab_lf i 60 (.ifCond .eq 8) 0 0 0) (ab_br i 64 (ab_lf i 63 (.iload_n 2) 0 0 0) (ab_lf i 64 (.ineg) 0 0 0))) (ab_br i 68 (ab_lf i 65 (.goto 4) 0 0 0) (ab_br i 69 (ab_lf i 68 (.iload_n 2) 0 0 0) (ab_lf i 69 (.ireturn) 0 0 0)))))))
def ab_p50 (i : Nat) : Option (Instr × Nat × Nat × Nat) := (ab_br i 48 (ab_br i 23 (ab_br i 10 (ab_br i 6 (ab_br i 1 (ab_lf i 0 (.aload_n 0) 0 0 0) (ab_br i 4 (ab_lf i 1 (.invokevirtual 68) 0 40 1) (ab_lf i 4 (.bipush 65) 0 0 0))) (ab_br i 8 (ab_br i 7 (ab_lf i 6 (.isub) 0 0 0) (ab_lf i 7 (.istore_n 2) 0 0 0)) (ab_br i 9 (ab_lf i 8 (.iconst 1) 0 0 0) (ab_lf i 9 (.iload_n 2) 0 0 0)))) (ab_br i 13 (ab_br i 11 (ab_lf i 10 (.ishl) 0 0 0) (ab_br i 12 (ab_lf i 11 (.istore_n 3) 0 0 0) (ab_lf i 12 (.aload_n 0) 0 0 0))) (ab_br i 19 (ab_br i 16 (ab_lf i 13 (.getfield 12) 3 0 2) (ab_lf i 16 (.getfield 109) 2 1 3)) (ab_br i 20 (ab_lf i 19 (.aload_n 0) 0 0 0) (ab_lf i 20 (.getfield 35) 3 1 0))))) (ab_br i 37 (ab_br i 27 (ab_br i 25 (ab_lf i 23 (.bipush 65) 0 0 0) (ab_br i 26 (ab_lf i 25 (.castore) 0 0 0) (ab_lf i 26 (.aload_n 0) 0 0 0))) (ab_br i 33 (ab_br i 30 (ab_lf i 27 (.getfield 12) 3 0 2) (ab_lf i 30 (.getfield 112) 2 3 3)) (ab_br i 34 (ab_lf i 33 (.aload_n 0) 0 0 0) (ab_lf i 34 (.getfield 35) 3 1 0)))) (ab_br i 40 (ab_br i 38 (ab_lf i 37 (.iload_n 2) 0 0 0) (ab_br i 39 (ab_lf i 38 (.iastore) 0 0 0) (ab_lf i 39 (.aload_n 0) 0 0 0))) (ab_br i 44 (ab_br i 43 (ab_lf i 40 (.getfield 12) 3 0 2) (ab_lf i 43 (.dup) 0 0 0)) (ab_br i 47 (ab_lf i 44 (.getfield 122) 2 13 0) (ab_lf i 47 (.iload_n 3) 0 0 0)))))) (ab_br i 76 (ab_br i 63 (ab_br i 53 (ab_br i 49 (ab_lf i 48 (.ior) 0 0 0) (ab_br i 52 (ab_lf i 49 (.putfield 122) 2 13 0) (ab_lf i 52 (.iload_n 1) 0 0 0))) (ab_br i 57 (ab_br i 56 (ab_lf i 53 (.ifCond .eq 36) 0 0 0) (ab_lf i 56 (.aload_n 0) 0 0 0)) (ab_br i 60 (ab_lf i 57 (.getfield 12) 3 0 2) (ab_lf i 60 (.getfield 125) 2 14 0)))) (ab_br i 68 (ab_br i 64 (ab_lf i 63 (.iload_n 3) 0 0 0) (ab_br i 65 (ab_lf i 64 (.iand) 0 0 0) (ab_lf i 65 (.ifCond .ne 7) 0 0 0))) (ab_br i 72 (ab_br i 69 (ab_lf i 68 (.iconst 1) 0 0 0) (ab_lf i 69 (.goto 4) 0 0 0)) (ab_br i 73 (ab_lf i 72 (.iconst 0) 0 0 0) (ab_lf i 73 (.invokestatic 45) 1 39 1))))) (ab_br i 89 (ab_br i 81 (ab_br i 77 (ab_lf i 76 (.aload_n 0) 0 0 0) (ab_br i 80 (ab_lf i 77 (.getfield 12) 3 0 2) (ab_lf i 80 (.dup) 0 0 0))) (ab_br i 85 (ab_br i 84 (ab_lf i 81 (.getfield 125) 2 14 0) (ab_lf i 84 (.iload_n 3) 0 0 0)) (ab_br i 86 (ab_lf i 85 (.ior) 0 0 0) (ab_lf i 86 (.putfield 125) 2 14 0)))) (ab_br i 94 (ab_br i 90 (ab_lf i 89 (.aload_n 0) 0 0 0) (ab_br i 91 (ab_lf i 90 (.dup) 0 0 0) (ab_lf i 91 (.getfield 35) 3 1 0))) (ab_br i 96 (ab_br i 95 (ab_lf i 94 (.iconst 1) 0 0 0) (ab_lf i 95 (.iadd) 0 0 0)) (ab_br i 99 (ab_lf i 96 (.putfield 35) 3 1 0) (ab_lf i 99 (.return_) 0 0 0)))))))
def ab_p51 (i : Nat) : Option (Instr × Nat × Nat × Nat) := (ab_br i 36 (ab_br i 17 (ab_br i 6 (ab_br i 4 (ab_br i 1 (ab_lf i 0 (.aload_n 0) 0 0 0) (ab_lf i 1 (.invokevirtual 68) 0 40 1)) (ab_br i 5 (ab_lf i 4 (.istore_n 1) 0 0 0) (ab_lf i 5 (.iload_n 1) 0 0 0))) (ab_br i 11 (ab_br i 8 (ab_lf i 6 (.bipush 105) 0 0 0) (ab_lf i 8 (.if_icmp .eq 33) 0 0 0)) (ab_br i 12 (ab_lf i 11 (.iload_n 1) 0 0 0) (ab_br i 14 (ab_lf i 12 (.bipush 115) 0 0 0) (ab_lf i 14 (.if_icmp .eq 27) 0 0 0))))) (ab_br i 26 (ab_br i 20 (ab_br i 18 (ab_lf i 17 (.iload_n 1) 0 0 0) (ab_lf i 18 (.bipush 116) 0 0 0)) (ab_br i 23 (ab_lf i 20 (.if_icmp .eq 21) 0 0 0) (ab_br i 24 (ab_lf i 23 (.iload_n 1) 0 0 0) (ab_lf i 24 (.bipush 98) 0 0 0)))) (ab_br i 30 (ab_br i 29 (ab_lf i 26 (.if_icmp .eq 15) 0 0 0) (ab_lf i 29 (.iload_n 1) 0 0 0)) (ab_br i 32 (ab_lf i 30 (.bipush 110) 0 0 0) (ab_br i 35 (ab_lf i 32 (.if_icmp .eq 9) 0 0 0) (ab_lf i 35 (.iload_n 1) 0 0 0)))))) (ab_br i 57 (ab_br i 46 (ab_br i 41 (ab_br i 38 (ab_lf i 36 (.bipush 121) 0 0 0) (ab_lf i 38 (.if_icmp .ne 7) 0 0 0)) (ab_br i 42 (ab_lf i 41 (.iconst 1) 0 0 0) (ab_br i 45 (ab_lf i 42 (.goto 4) 0 0 0) (ab_lf i 45 (.iconst 0) 0 0 0)))) (ab_br i 50 (ab_br i 49 (ab_lf i 46 (.invokestatic 45) 1 39 1) (ab_lf i 49 (.aload_n 0) 0 0 0)) (ab_br i 53 (ab_lf i 50 (.getfield 12) 3 0 2) (ab_br i 56 (ab_lf i 53 (.getfield 109) 2 1 3) (ab_lf i 56 (.aload_n 0) 0 0 0))))) (ab_br i 64 (ab_br i 61 (ab_br i 60 (ab_lf i 57 (.getfield 35) 3 1 0) (ab_lf i 60 (.iload_n 1) 0 0 0)) (ab_br i 62 (ab_lf i 61 (.castore) 0 0 0) (ab_br i 63 (ab_lf i 62 (.aload_n 0) 0 0 0) (ab_lf i 63 (.dup) 0 0 0)))) (ab_br i 68 (ab_br i 67 (ab_lf i 64 (.getfield 35) 3 1 0) (ab_lf i 67 (.iconst 1) 0 0 0)) (ab_br i 69 (ab_lf i 68 (.iadd) 0 0 0) (ab_br i 72 (ab_lf i 69 (.putfield 35) 3 1 0) (ab_lf i 72 (.return_) 0 0 0)))))))
def ab_p52 (i : Nat) : Option (Instr × Nat × Nat × Nat) := (ab_br i 79 (ab_br i 40 (ab_br i 19 (ab_br i 9 (ab_br i 2 (ab_br i 1 (ab_lf i 0 (.iload_n 3) 0 0 0) (ab_lf i 1 (.iconst 4) 0 0 0)) (ab_br i 5 (ab_lf i 2 (.if_icmp .ge 7) 0 0 0) (ab_br i 6 (ab_lf i 5 (.iconst 1) 0 0 0) (ab_lf i 6 (.goto 4) 0 0 0)))) (ab_br i 13 (ab_br i 10 (ab_lf i 9 (.iconst 0) 0 0 0) (ab_lf i 10 (.invokestatic 45) 1 39 1)) (ab_br i 14 (ab_lf i 13 (.aload_n 0) 0 0 0) (ab_br i 17 (ab_lf i 14 (.getfield 35) 3 1 0) (ab_lf i 17 (.istore 4) 0 0 0))))) (ab_br i 29 (ab_br i 23 (ab_br i 20 (ab_lf i 19 (.aload_n 0) 0 0 0) (ab_lf i 20 (.getfield 12) 3 0 2)) (ab_br i 26 (ab_lf i 23 (.getfield 109) 2 1 3) (ab_br i 28 (ab_lf i 26 (.iload 4) 0 0 0) (ab_lf i 28 (.iload_n 1) 0 0 0)))) (ab_br i 34 (ab_br i 30 (ab_lf i 29 (.castore) 0 0 0) (ab_br i 31 (ab_lf i 30 (.aload_n 0) 0 0 0) (ab_lf i 31 (.getfield 12) 3 0 2))) (ab_br i 37 (ab_lf i 34 (.getfield 112) 2 3 3) (ab_br i 39 (ab_lf i 37 (.iload 4) 0 0 0) (ab_lf i 39 (.iconst (-1)) 0 0 0)))))) (ab_br i 59 (ab_br i 47 (ab_br i 42 (ab_br i 41 (ab_lf i 40 (.iastore) 0 0 0) (ab_lf i 41 (.aload_n 0) 0 0 0)) (ab_br i 43 (ab_lf i 42 (.dup) 0 0 0) (ab_br i 46 (ab_lf i 43 (.getfield 35) 3 1 0) (ab_lf i 46 (.iconst 1) 0 0 0)))) (ab_br i 52 (ab_br i 48 (ab_lf i 47 (.iadd) 0 0 0) (ab_br i 51 (ab_lf i 48 (.putfield 35) 3 1 0) (ab_lf i 51 (.aload_n 0) 0 0 0))) (ab_br i 53 (ab_lf i 52 (.iload_n 2) 0 0 0) (ab_br i 56 (ab_lf i 53 (.invokevirtual 75) 0 41 2) (ab_lf i 56 (.ifCond .eq 4) 0 0 0))))) (ab_br i 69 (ab_br i 61 (ab_br i 60 (ab_lf i 59 (.return_) 0 0 0) (ab_lf i 60 (.aload_n 0) 0 0 0)) (ab_br i 64 (ab_lf i 61 (.getfield 12) 3 0 2) (ab_br i 67 (ab_lf i 64 (.getfield 112) 2 3 3) (ab_lf i 67 (.iload 4) 0 0 0)))) (ab_br i 74 (ab_br i 71 (ab_lf i 69 (.iload 4) 0 0 0) (ab_br i 72 (ab_lf i 71 (.iastore) 0 0 0) (ab_lf i 72 (.iload 4) 0 0 0))) (ab_br i 76 (ab_lf i 74 (.istore 5) 0 0 0) (ab_br i 77 (ab_lf i 76 (.aload_n 0) 0 0 0) (ab_lf i 77 (.iload 5) 0 0 0))))))) (ab_br i 120 (ab_br i 97 (ab_br i 86 (ab_br i 81 (ab_br i 80 (ab_lf i 79 (.iload_n 1) 0 0 0) (ab_lf i 80 (.iload_n 3) 0 0 0)) (ab_br i 82 (ab_lf i 81 (.iconst 1) 0 0 0) (ab_br i 83 (ab_lf i 82 (.iadd) 0 0 0) (ab_lf i 83 (.invokevirtual 128) 0 53 4)))) (ab_br i 91 (ab_br i 87 (ab_lf i 86 (.iconst 1) 0 0 0) (ab_br i 89 (ab_lf i 87 (.istore 6) 0 0 0) (ab_lf i 89 (.iload 6) 0 0 0))) (ab_br i 93 (ab_lf i 91 (.bipush 6) 0 0 0) (ab_br i 96 (ab_lf i 93 (.if_icmp .ge 58) 0 0 0) (ab_lf i 96 (.aload_n 0) 0 0 0))))) (ab_br i 109 (ab_br i 102 (ab_br i 100 (ab_lf i 97 (.invokevirtual 68) 0 40 1) (ab_lf i 100 (.bipush 44) 0 0 0)) (ab_br i 105 (ab_lf i 102 (.if_icmp .ne 49) 0 0 0) (ab_br i 106 (ab_lf i 105 (.aload_n 0) 0 0 0) (ab_lf i 106 (.getfield 12) 3 0 2)))) (ab_br i 115 (ab_br i 112 (ab_lf i 109 (.getfield 132) 2 9 3) (ab_br i 114 (ab_lf i 112 (.iload 5) 0 0 0) (ab_lf i 114 (.aload_n 0) 0 0 0))) (ab_br i 118 (ab_lf i 115 (.getfield 35) 3 1 0) (ab_br i 119 (ab_lf i 118 (.iastore) 0 0 0) (ab_lf i 119 (.aload_n 0) 0 0 0)))))) (ab_br i 139 (ab_br i 130 (ab_br i 125 (ab_br i 123 (ab_lf i 120 (.getfield 35) 3 1 0) (ab_lf i 123 (.istore 5) 0 0 0)) (ab_br i 126 (ab_lf i 125 (.aload_n 0) 0 0 0) (ab_br i 127 (ab_lf i 126 (.dup) 0 0 0) (ab_lf i 127 (.getfield 35) 3 1 0)))) (ab_br i 135 (ab_br i 131 (ab_lf i 130 (.iconst 1) 0 0 0) (ab_br i 132 (ab_lf i 131 (.iadd) 0 0 0) (ab_lf i 132 (.putfield 35) 3 1 0))) (ab_br i 136 (ab_lf i 135 (.aload_n 0) 0 0 0) (ab_br i 138 (ab_lf i 136 (.iload 5) 0 0 0) (ab_lf i 138 (.iload_n 1) 0 0 0))))) (ab_br i 148 (ab_br i 141 (ab_br i 140 (ab_lf i 139 (.iload_n 3) 0 0 0) (ab_lf i 140 (.iconst 1) 0 0 0)) (ab_br i 142 (ab_lf i 141 (.iadd) 0 0 0) (ab_br i 145 (ab_lf i 142 (.invokevirtual 128) 0 53 4) (ab_lf i 145 (.iinc 6 1) 0 0 0)))) (ab_br i 153 (ab_br i 151 (ab_lf i 148 (.goto (-59)) 0 0 0) (ab_br i 152 (ab_lf i 151 (.aload_n 0) 0 0 0) (ab_lf i 152 (.iload_n 2) 0 0 0))) (ab_br i 156 (ab_lf i 153 (.invokevirtual 75) 0 41 2) (ab_br i 159 (ab_lf i 156 (.invokestatic 45) 1 39 1) (ab_lf i 159 (.return_) 0 0 0))))))))
def ab_p53 (i : Nat) : Option (Instr × Nat × Nat × Nat) := (ab_br i 26 (ab_br i 11 (ab_br i 7 (ab_br i 1 (ab_lf i 0 (.aload_n 0) 0 0 0) (ab_br i 4 (ab_lf i 1 (.getfield 12) 3 0 2) (ab_lf i 4 (.getfield 132) 2 9 3))) (ab_br i 9 (ab_br i 8 (ab_lf i 7 (.iload_n 1) 0 0 0) (ab_lf i 8 (.iconst (-1)) 0 0 0)) (ab_br i 10 (ab_lf i 9 (.iastore) 0 0 0) (ab_lf i 10 (.aload_n 0) 0 0 0)))) (ab_br i 19 (ab_br i 17 (ab_br i 14 (ab_lf i 11 (.getfield 12) 3 0 2) (ab_lf i 14 (.getfield 135) 2 5 3)) (ab_br i 18 (ab_lf i 17 (.iload_n 1) 0 0 0) (ab_lf i 18 (.aload_n 0) 0 0 0))) (ab_br i 23 (ab_br i 22 (ab_lf i 19 (.invokevirtual 138) 0 54 1) (ab_lf i 22 (.castore) 0 0 0)) (ab_br i 24 (ab_lf i 23 (.iload_n 2) 0 0 0) (ab_lf i 24 (.bipush 123) 0 0 0))))) (ab_br i 39 (ab_br i 31 (ab_br i 29 (ab_lf i 26 (.if_icmp .ne 9) 0 0 0) (ab_br i 30 (ab_lf i 29 (.aload_n 0) 0 0 0) (ab_lf i 30 (.iload_n 1) 0 0 0))) (ab_br i 35 (ab_br i 32 (ab_lf i 31 (.iload_n 3) 0 0 0) (ab_lf i 32 (.invokevirtual 141) 0 55 3)) (ab_br i 36 (ab_lf i 35 (.aload_n 0) 0 0 0) (ab_lf i 36 (.getfield 12) 3 0 2)))) (ab_br i 45 (ab_br i 43 (ab_br i 42 (ab_lf i 39 (.getfield 145) 2 7 3) (ab_lf i 42 (.iload_n 1) 0 0 0)) (ab_br i 44 (ab_lf i 43 (.aload_n 0) 0 0 0) (ab_lf i 44 (.iload_n 3) 0 0 0))) (ab_br i 49 (ab_br i 46 (ab_lf i 45 (.iconst 0) 0 0 0) (ab_lf i 46 (.invokevirtual 38) 0 43 3)) (ab_br i 50 (ab_lf i 49 (.iastore) 0 0 0) (ab_lf i 50 (.return_) 0 0 0))))))
def ab_p54 (i : Nat) : Option (Instr × Nat × Nat × Nat) := (ab_br i 20 (ab_br i 8 (ab_br i 4 (ab_br i 1 (ab_lf i 0 (.aload_n 0) 0 0 0) (ab_lf i 1 (.invokevirtual 68) 0 40 1)) (ab_br i 5 (ab_lf i 4 (.istore_n 1) 0 0 0) (ab_br i 6 (ab_lf i 5 (.iload_n 1) 0 0 0) (ab_lf i 6 (.bipush 63) 0 0 0)))) (ab_br i 14 (ab_br i 11 (ab_lf i 8 (.if_icmp .eq 18) 0 0 0) (ab_br i 12 (ab_lf i 11 (.iload_n 1) 0 0 0) (ab_lf i 12 (.bipush 42) 0 0 0))) (ab_br i 17 (ab_lf i 14 (.if_icmp .eq 12) 0 0 0) (ab_br i 18 (ab_lf i 17 (.iload_n 1) 0 0 0) (ab_lf i 18 (.bipush 43) 0 0 0))))) (ab_br i 28 (ab_br i 25 (ab_br i 23 (ab_lf i 20 (.if_icmp .eq 6) 0 0 0) (ab_lf i 23 (.bipush 49) 0 0 0)) (ab_br i 26 (ab_lf i 25 (.ireturn) 0 0 0) (ab_br i 27 (ab_lf i 26 (.aload_n 0) 0 0 0) (ab_lf i 27 (.dup) 0 0 0)))) (ab_br i 33 (ab_br i 31 (ab_lf i 28 (.getfield 35) 3 1 0) (ab_br i 32 (ab_lf i 31 (.iconst 1) 0 0 0) (ab_lf i 32 (.iadd) 0 0 0))) (ab_br i 36 (ab_lf i 33 (.putfield 35) 3 1 0) (ab_br i 37 (ab_lf i 36 (.iload_n 1) 0 0 0) (ab_lf i 37 (.ireturn) 0 0 0))))))
def ab_p55 (i : Nat) : Option (Instr × Nat × Nat × Nat) := (ab_br i 37 (ab_br i 17 (ab_br i 7 (ab_br i 4 (ab_br i 1 (ab_lf i 0 (.aload_n 0) 0 0 0) (ab_lf i 1 (.getfield 35) 3 1 0)) (ab_br i 5 (ab_lf i 4 (.istore_n 3) 0 0 0) (ab_br i 6 (ab_lf i 5 (.aload_n 0) 0 0 0) (ab_lf i 6 (.iload_n 2) 0 0 0)))) (ab_br i 11 (ab_br i 8 (ab_lf i 7 (.iconst 0) 0 0 0) (ab_lf i 8 (.invokevirtual 72) 0 44 3)) (ab_br i 13 (ab_lf i 11 (.istore 4) 0 0 0) (ab_br i 14 (ab_lf i 13 (.aload_n 0) 0 0 0) (ab_lf i 14 (.getfield 12) 3 0 2))))) (ab_br i 26 (ab_br i 22 (ab_br i 20 (ab_lf i 17 (.getfield 109) 2 1 3) (ab_lf i 20 (.iload 4) 0 0 0)) (ab_br i 23 (ab_lf i 22 (.caload) 0 0 0) (ab_br i 25 (ab_lf i 23 (.istore 5) 0 0 0) (ab_lf i 25 (.aload_n 0) 0 0 0)))) (ab_br i 33 (ab_br i 29 (ab_lf i 26 (.getfield 12) 3 0 2) (ab_br i 32 (ab_lf i 29 (.getfield 148) 2 6 3) (ab_lf i 32 (.iload_n 1) 0 0 0))) (ab_br i 35 (ab_lf i 33 (.iload 4) 0 0 0) (ab_br i 36 (ab_lf i 35 (.iastore) 0 0 0) (ab_lf i 36 (.aload_n 0) 0 0 0)))))) (ab_br i 59 (ab_br i 47 (ab_br i 43 (ab_br i 40 (ab_lf i 37 (.getfield 12) 3 0 2) (ab_lf i 40 (.getfield 151) 2 8 3)) (ab_br i 44 (ab_lf i 43 (.iload_n 1) 0 0 0) (ab_br i 46 (ab_lf i 44 (.iload 4) 0 0 0) (ab_lf i 46 (.iload_n 3) 0 0 0)))) (ab_br i 52 (ab_br i 50 (ab_lf i 47 (.if_icmp .ne 21) 0 0 0) (ab_lf i 50 (.iload 5) 0 0 0)) (ab_br i 54 (ab_lf i 52 (.bipush 48) 0 0 0) (ab_br i 57 (ab_lf i 54 (.if_icmp .eq 10) 0 0 0) (ab_lf i 57 (.iload 5) 0 0 0))))) (ab_br i 69 (ab_br i 64 (ab_br i 61 (ab_lf i 59 (.bipush 34) 0 0 0) (ab_lf i 61 (.if_icmp .ne 7) 0 0 0)) (ab_br i 65 (ab_lf i 64 (.iconst 1) 0 0 0) (ab_br i 68 (ab_lf i 65 (.goto 4) 0 0 0) (ab_lf i 68 (.iconst 0) 0 0 0)))) (ab_br i 73 (ab_br i 70 (ab_lf i 69 (.bastore) 0 0 0) (ab_br i 71 (ab_lf i 70 (.aload_n 0) 0 0 0) (ab_lf i 71 (.bipush 58) 0 0 0))) (ab_br i 76 (ab_lf i 73 (.invokevirtual 75) 0 41 2) (ab_br i 79 (ab_lf i 76 (.invokestatic 45) 1 39 1) (ab_lf i 79 (.return_) 0 0 0)))))))
def ab_p56 (i : Nat) : Option (Instr × Nat × Nat × Nat) := (ab_br i 18 (ab_br i 10 (ab_br i 4 (ab_br i 1 (ab_lf i 0 (.aload_n 0) 0 0 0) (ab_lf i 1 (.invokespecial 3) 8 0 1)) (ab_br i 5 (ab_lf i 4 (.aload_n 0) 0 0 0) (ab_br i 7 (ab_lf i 5 (.bipush 8) 0 0 0) (ab_lf i 7 (.anewarray 9) 0 2 15)))) (ab_br i 14 (ab_br i 13 (ab_lf i 10 (.putfield 11) 4 0 3) (ab_lf i 13 (.iconst 0) 0 0 0)) (ab_br i 15 (ab_lf i 14 (.istore_n 1) 0 0 0) (ab_br i 16 (ab_lf i 15 (.iload_n 1) 0 0 0) (ab_lf i 16 (.bipush 8) 0 0 0))))) (ab_br i 29 (ab_br i 22 (ab_br i 21 (ab_lf i 18 (.if_icmp .ge 22) 0 0 0) (ab_lf i 21 (.aload_n 0) 0 0 0)) (ab_br i 25 (ab_lf i 22 (.getfield 11) 4 0 3) (ab_br i 26 (ab_lf i 25 (.iload_n 1) 0 0 0) (ab_lf i 26 (.new 9) 0 2 15)))) (ab_br i 34 (ab_br i 30 (ab_lf i 29 (.dup) 0 0 0) (ab_br i 33 (ab_lf i 30 (.invokespecial 17) 2 31 1) (ab_lf i 33 (.aastore) 0 0 0))) (ab_br i 37 (ab_lf i 34 (.iinc 1 1) 0 0 0) (ab_br i 40 (ab_lf i 37 (.goto (-22)) 0 0 0) (ab_lf i 40 (.return_) 0 0 0))))))
def ab_p57 (i : Nat) : Option (Instr × Nat × Nat × Nat) := (ab_br i 23 (ab_br i 9 (ab_br i 3 (ab_br i 1 (ab_lf i 0 (.aload_n 0) 0 0 0) (ab_br i 2 (ab_lf i 1 (.iconst 1) 0 0 0) (ab_lf i 2 (.iload_n 1) 0 0 0))) (ab_br i 5 (ab_br i 4 (ab_lf i 3 (.ishl) 0 0 0) (ab_lf i 4 (.iload_n 2) 0 0 0)) (ab_br i 8 (ab_lf i 5 (.invokevirtual 18) 0 58 3) (ab_lf i 8 (.istore_n 3) 0 0 0)))) (ab_br i 15 (ab_br i 12 (ab_br i 10 (ab_lf i 9 (.iconst 0) 0 0 0) (ab_lf i 10 (.istore 4) 0 0 0)) (ab_br i 13 (ab_lf i 12 (.iconst 0) 0 0 0) (ab_lf i 13 (.istore 5) 0 0 0))) (ab_br i 19 (ab_br i 17 (ab_lf i 15 (.iload 5) 0 0 0) (ab_lf i 17 (.bipush 8) 0 0 0)) (ab_br i 22 (ab_lf i 19 (.if_icmp .ge 27) 0 0 0) (ab_lf i 22 (.iload_n 3) 0 0 0))))) (ab_br i 34 (ab_br i 29 (ab_br i 25 (ab_lf i 23 (.iload 4) 0 0 0) (ab_br i 28 (ab_lf i 25 (.if_icmp .eq 21) 0 0 0) (ab_lf i 28 (.iload_n 3) 0 0 0))) (ab_br i 32 (ab_br i 31 (ab_lf i 29 (.istore 4) 0 0 0) (ab_lf i 31 (.iload_n 3) 0 0 0)) (ab_br i 33 (ab_lf i 32 (.aload_n 0) 0 0 0) (ab_lf i 33 (.iload_n 3) 0 0 0)))) (ab_br i 40 (ab_br i 38 (ab_br i 35 (ab_lf i 34 (.iload_n 2) 0 0 0) (ab_lf i 35 (.invokevirtual 18) 0 58 3)) (ab_br i 39 (ab_lf i 38 (.ior) 0 0 0) (ab_lf i 39 (.istore_n 3) 0 0 0))) (ab_br i 46 (ab_br i 43 (ab_lf i 40 (.iinc 5 1) 0 0 0) (ab_lf i 43 (.goto (-28)) 0 0 0)) (ab_br i 47 (ab_lf i 46 (.iload_n 3) 0 0 0) (ab_lf i 47 (.ireturn) 0 0 0))))))
def ab_p58 (i : Nat) : Option (Instr × Nat × Nat × Nat) := (ab_br i 27 (ab_br i 12 (ab_br i 3 (ab_br i 1 (ab_lf i 0 (.iconst 0) 0 0 0) (ab_br i 2 (ab_lf i 1 (.istore_n 3) 0 0 0) (ab_lf i 2 (.iconst 0) 0 0 0))) (ab_br i 7 (ab_br i 5 (ab_lf i 3 (.istore 4) 0 0 0) (ab_lf i 5 (.iload 4) 0 0 0)) (ab_br i 9 (ab_lf i 7 (.bipush 8) 0 0 0) (ab_lf i 9 (.if_icmp .ge 48) 0 0 0)))) (ab_br i 21 (ab_br i 15 (ab_br i 13 (ab_lf i 12 (.iload_n 1) 0 0 0) (ab_lf i 13 (.iload 4) 0 0 0)) (ab_br i 18 (ab_lf i 15 (.invokestatic 22) 1 61 2) (ab_lf i 18 (.ifCond .eq 33) 0 0 0))) (ab_br i 23 (ab_br i 22 (ab_lf i 21 (.iload_n 3) 0 0 0) (ab_lf i 22 (.iload_n 2) 0 0 0)) (ab_br i 26 (ab_lf i 23 (.ifCond .eq 16) 0 0 0) (ab_lf i 26 (.aload_n 0) 0 0 0))))) (ab_br i 45 (ab_br i 36 (ab_br i 32 (ab_br i 30 (ab_lf i 27 (.getfield 11) 4 0 3) (ab_lf i 30 (.iload 4) 0 0 0)) (ab_br i 33 (ab_lf i 32 (.aaload) 0 0 0) (ab_lf i 33 (.getfield 26) 2 14 0))) (ab_br i 40 (ab_br i 39 (ab_lf i 36 (.goto 13) 0 0 0) (ab_lf i 39 (.aload_n 0) 0 0 0)) (ab_br i 43 (ab_lf i 40 (.getfield 11) 4 0 3) (ab_lf i 43 (.iload 4) 0 0 0)))) (ab_br i 51 (ab_br i 49 (ab_br i 46 (ab_lf i 45 (.aaload) 0 0 0) (ab_lf i 46 (.getfield 30) 2 13 0)) (ab_br i 50 (ab_lf i 49 (.ior) 0 0 0) (ab_lf i 50 (.istore_n 3) 0 0 0))) (ab_br i 57 (ab_br i 54 (ab_lf i 51 (.iinc 4 1) 0 0 0) (ab_lf i 54 (.goto (-49)) 0 0 0)) (ab_br i 58 (ab_lf i 57 (.iload_n 3) 0 0 0) (ab_lf i 58 (.ireturn) 0 0 0))))))
def ab_p59 (i : Nat) : Option (Instr × Nat × Nat × Nat) := (ab_br i 17 (ab_br i 8 (ab_br i 2 (ab_br i 1 (ab_lf i 0 (.iconst 0) 0 0 0) (ab_lf i 1 (.istore_n 2) 0 0 0)) (ab_br i 3 (ab_lf i 2 (.iload_n 2) 0 0 0) (ab_br i 5 (ab_lf i 3 (.bipush 8) 0 0 0) (ab_lf i 5 (.if_icmp .ge 31) 0 0 0)))) (ab_br i 10 (ab_br i 9 (ab_lf i 8 (.iload_n 1) 0 0 0) (ab_lf i 9 (.iload_n 2) 0 0 0)) (ab_br i 13 (ab_lf i 10 (.invokestatic 22) 1 61 2) (ab_br i 16 (ab_lf i 13 (.ifCond .eq 17) 0 0 0) (ab_lf i 16 (.aload_n 0) 0 0 0))))) (ab_br i 28 (ab_br i 21 (ab_br i 20 (ab_lf i 17 (.getfield 11) 4 0 3) (ab_lf i 20 (.iload_n 2) 0 0 0)) (ab_br i 22 (ab_lf i 21 (.aaload) 0 0 0) (ab_br i 25 (ab_lf i 22 (.getfield 33) 2 10 1) (ab_lf i 25 (.ifCond .ne 5) 0 0 0)))) (ab_br i 33 (ab_br i 29 (ab_lf i 28 (.iconst 0) 0 0 0) (ab_br i 30 (ab_lf i 29 (.ireturn) 0 0 0) (ab_lf i 30 (.iinc 2 1) 0 0 0))) (ab_br i 36 (ab_lf i 33 (.goto (-31)) 0 0 0) (ab_br i 37 (ab_lf i 36 (.iconst 1) 0 0 0) (ab_lf i 37 (.ireturn) 0 0 0))))))
def ab_p60 (i : Nat) : Option (Instr × Nat × Nat × Nat) := (ab_br i 18 (ab_br i 8 (ab_br i 2 (ab_br i 1 (ab_lf i 0 (.iconst 0) 0 0 0) (ab_lf i 1 (.istore_n 2) 0 0 0)) (ab_br i 3 (ab_lf i 2 (.iload_n 2) 0 0 0) (ab_br i 5 (ab_lf i 3 (.bipush 8) 0 0 0) (ab_lf i 5 (.if_icmp .ge 32) 0 0 0)))) (ab_br i 13 (ab_br i 9 (ab_lf i 8 (.iload_n 1) 0 0 0) (ab_br i 10 (ab_lf i 9 (.iload_n 2) 0 0 0) (ab_lf i 10 (.invokestatic 22) 1 61 2))) (ab_br i 16 (ab_lf i 13 (.ifCond .eq 18) 0 0 0) (ab_br i 17 (ab_lf i 16 (.aload_n 0) 0 0 0) (ab_lf i 17 (.iload_n 2) 0 0 0))))) (ab_br i 29 (ab_br i 22 (ab_br i 19 (ab_lf i 18 (.iconst 1) 0 0 0) (ab_lf i 19 (.invokevirtual 37) 0 57 3)) (ab_br i 23 (ab_lf i 22 (.iload_n 2) 0 0 0) (ab_br i 26 (ab_lf i 23 (.invokestatic 22) 1 61 2) (ab_lf i 26 (.ifCond .eq 5) 0 0 0)))) (ab_br i 34 (ab_br i 30 (ab_lf i 29 (.iconst 1) 0 0 0) (ab_br i 31 (ab_lf i 30 (.ireturn) 0 0 0) (ab_lf i 31 (.iinc 2 1) 0 0 0))) (ab_br i 37 (ab_lf i 34 (.goto (-32)) 0 0 0) (ab_br i 38 (ab_lf i 37 (.iconst 0) 0 0 0) (ab_lf i 38 (.ireturn) 0 0 0))))))
def ab_p61 (i : Nat) : Option (Instr × Nat × Nat × Nat) := (ab_br i 5 (ab_br i 2 (ab_br i 1 (ab_lf i 0 (.iload_n 0) 0 0 0) (ab_lf i 1 (.iconst 1) 0 0 0)) (ab_br i 3 (ab_lf i 2 (.iload_n 1) 0 0 0) (ab_br i 4 (ab_lf i 3 (.ishl) 0 0 0) (ab_lf i 4 (.iand) 0 0 0)))) (ab_br i 9 (ab_br i 8 (ab_lf i 5 (.ifCond .eq 7) 0 0 0) (ab_lf i 8 (.iconst 1) 0 0 0)) (ab_br i 12 (ab_lf i 9 (.goto 4) 0 0 0) (ab_br i 13 (ab_lf i 12 (.iconst 0) 0 0 0) (ab_lf i 13 (.ireturn) 0 0 0)))))
def ab_p62 (i : Nat) : Option (Instr × Nat × Nat × Nat) := (ab_br i 17 (ab_br i 8 (ab_br i 4 (ab_br i 1 (ab_lf i 0 (.aload_n 0) 0 0 0) (ab_lf i 1 (.invokespecial 3) 8 0 1)) (ab_br i 5 (ab_lf i 4 (.aload_n 0) 0 0 0) (ab_lf i 5 (.sipush 192) 0 0 0))) (ab_br i 13 (ab_br i 10 (ab_lf i 8 (.newarray .int) 0 0 0) (ab_lf i 10 (.putfield 9) 5 2 3)) (ab_br i 14 (ab_lf i 13 (.aload_n 0) 0 0 0) (ab_lf i 14 (.sipush 192) 0 0 0)))) (ab_br i 24 (ab_br i 22 (ab_br i 19 (ab_lf i 17 (.newarray .int) 0 0 0) (ab_lf i 19 (.putfield 15) 5 3 3)) (ab_br i 23 (ab_lf i 22 (.aload_n 0) 0 0 0) (ab_lf i 23 (.aload_n 1) 0 0 0))) (ab_br i 28 (ab_br i 27 (ab_lf i 24 (.putfield 18) 5 0 3) (ab_lf i 27 (.aload_n 0) 0 0 0)) (ab_br i 29 (ab_lf i 28 (.aload_n 2) 0 0 0) (ab_br i 32 (ab_lf i 29 (.putfield 22) 5 1 3) (ab_lf i 32 (.return_) 0 0 0))))))
def ab_p63 (i : Nat) : Option (Instr × Nat × Nat × Nat) := (ab_br i 13 (ab_br i 5 (ab_br i 1 (ab_lf i 0 (.aload_n 0) 0 0 0) (ab_br i 4 (ab_lf i 1 (.getfield 9) 5 2 3) (ab_lf i 4 (.iconst 0) 0 0 0))) (ab_br i 9 (ab_br i 8 (ab_lf i 5 (.invokestatic 26) 1 132 2) (ab_lf i 8 (.aload_n 0) 0 0 0)) (ab_br i 12 (ab_lf i 9 (.getfield 15) 5 3 3) (ab_lf i 12 (.iconst 0) 0 0 0)))) (ab_br i 18 (ab_br i 16 (ab_lf i 13 (.invokestatic 26) 1 132 2) (ab_br i 17 (ab_lf i 16 (.aload_n 0) 0 0 0) (ab_lf i 17 (.iload_n 1) 0 0 0))) (ab_br i 20 (ab_br i 19 (ab_lf i 18 (.iload_n 2) 0 0 0) (ab_lf i 19 (.iconst 0) 0 0 0)) (ab_br i 23 (ab_lf i 20 (.invokevirtual 32) 0 64 4) (ab_lf i 23 (.ireturn) 0 0 0)))))
def ab_p64 (i : Nat) : Option (Instr × Nat × Nat × Nat) := (ab_br i 54 (ab_br i 22 (ab_br i 12 (ab_br i 7 (ab_br i 3 (ab_br i 1 (ab_lf i 0 (.iload_n 3) 0 0 0) (ab_lf i 1 (.bipush 20) 0 0 0)) (ab_br i 6 (ab_lf i 3 (.if_icmp .le 5) 0 0 0) (ab_lf i 6 (.iconst 0) 0 0 0))) (ab_br i 9 (ab_br i 8 (ab_lf i 7 (.ireturn) 0 0 0) (ab_lf i 8 (.iload_n 1) 0 0 0)) (ab_br i 11 (ab_lf i 9 (.bipush 24) 0 0 0) (ab_lf i 11 (.imul) 0 0 0)))) (ab_br i 17 (ab_br i 14 (ab_br i 13 (ab_lf i 12 (.iload_n 2) 0 0 0) (ab_lf i 13 (.iadd) 0 0 0)) (ab_br i 16 (ab_lf i 14 (.istore 4) 0 0 0) (ab_lf i 16 (.iconst 1) 0 0 0))) (ab_br i 19 (ab_br i 18 (ab_lf i 17 (.iload_n 3) 0 0 0) (ab_lf i 18 (.ishl) 0 0 0)) (ab_br i 21 (ab_lf i 19 (.istore 5) 0 0 0) (ab_lf i 21 (.aload_n 0) 0 0 0))))) (ab_br i 38 (ab_br i 30 (ab_br i 27 (ab_br i 25 (ab_lf i 22 (.getfield 9) 5 2 3) (ab_lf i 25 (.iload 4) 0 0 0)) (ab_br i 28 (ab_lf i 27 (.iaload) 0 0 0) (ab_lf i 28 (.iload 5) 0 0 0))) (ab_br i 34 (ab_br i 31 (ab_lf i 30 (.iand) 0 0 0) (ab_lf i 31 (.ifCond .ne 62) 0 0 0)) (ab_br i 35 (ab_lf i 34 (.aload_n 0) 0 0 0) (ab_lf i 35 (.getfield 18) 5 0 3)))) (ab_br i 45 (ab_br i 42 (ab_br i 41 (ab_lf i 38 (.getfield 36) 4 0 3) (ab_lf i 41 (.iload_n 1) 0 0 0)) (ab_br i 43 (ab_lf i 42 (.aaload) 0 0 0) (ab_lf i 43 (.astore 6) 0 0 0))) (ab_br i 48 (ab_br i 46 (ab_lf i 45 (.aload_n 0) 0 0 0) (ab_lf i 46 (.aload 6) 0 0 0)) (ab_br i 50 (ab_lf i 48 (.aload 6) 0 0 0) (ab_br i 53 (ab_lf i 50 (.getfield 42) 2 12 0) (ab_lf i 53 (.iload_n 2) 0 0 0))))))) (ab_br i 82 (ab_br i 68 (ab_br i 61 (ab_br i 58 (ab_br i 55 (ab_lf i 54 (.iload_n 3) 0 0 0) (ab_lf i 55 (.invokevirtual 48) 0 65 5)) (ab_br i 60 (ab_lf i 58 (.istore 7) 0 0 0) (ab_lf i 60 (.aload_n 0) 0 0 0))) (ab_br i 66 (ab_br i 64 (ab_lf i 61 (.getfield 9) 5 2 3) (ab_lf i 64 (.iload 4) 0 0 0)) (ab_br i 67 (ab_lf i 66 (.dup2) 0 0 0) (ab_lf i 67 (.iaload) 0 0 0)))) (ab_br i 73 (ab_br i 71 (ab_br i 70 (ab_lf i 68 (.iload 5) 0 0 0) (ab_lf i 70 (.ior) 0 0 0)) (ab_br i 72 (ab_lf i 71 (.iastore) 0 0 0) (ab_lf i 72 (.aload_n 0) 0 0 0))) (ab_br i 78 (ab_br i 76 (ab_lf i 73 (.getfield 15) 5 3 3) (ab_lf i 76 (.iload 4) 0 0 0)) (ab_br i 79 (ab_lf i 78 (.dup2) 0 0 0) (ab_br i 80 (ab_lf i 79 (.iaload) 0 0 0) (ab_lf i 80 (.iload 7) 0 0 0)))))) (ab_br i 97 (ab_br i 91 (ab_br i 87 (ab_br i 85 (ab_lf i 82 (.ifCond .eq 8) 0 0 0) (ab_lf i 85 (.iload 5) 0 0 0)) (ab_br i 90 (ab_lf i 87 (.goto 4) 0 0 0) (ab_lf i 90 (.iconst 0) 0 0 0))) (ab_br i 93 (ab_br i 92 (ab_lf i 91 (.ior) 0 0 0) (ab_lf i 92 (.iastore) 0 0 0)) (ab_br i 94 (ab_lf i 93 (.aload_n 0) 0 0 0) (ab_lf i 94 (.getfield 15) 5 3 3)))) (ab_br i 103 (ab_br i 100 (ab_br i 99 (ab_lf i 97 (.iload 4) 0 0 0) (ab_lf i 99 (.iaload) 0 0 0)) (ab_br i 102 (ab_lf i 100 (.iload 5) 0 0 0) (ab_lf i 102 (.iand) 0 0 0))) (ab_br i 107 (ab_br i 106 (ab_lf i 103 (.ifCond .eq 7) 0 0 0) (ab_lf i 106 (.iconst 1) 0 0 0)) (ab_br i 110 (ab_lf i 107 (.goto 4) 0 0 0) (ab_br i 111 (ab_lf i 110 (.iconst 0) 0 0 0) (ab_lf i 111 (.ireturn) 0 0 0))))))))
def ab_p65 (i : Nat) : Option (Instr × Nat × Nat × Nat) := (ab_br i 29 (ab_br i 13 (ab_br i 8 (ab_br i 4 (ab_br i 2 (ab_lf i 0 (.iload 4) 0 0 0) (ab_lf i 2 (.bipush 20) 0 0 0)) (ab_br i 7 (ab_lf i 4 (.if_icmp .le 5) 0 0 0) (ab_lf i 7 (.iconst 0) 0 0 0))) (ab_br i 10 (ab_br i 9 (ab_lf i 8 (.ireturn) 0 0 0) (ab_lf i 9 (.iload_n 2) 0 0 0)) (ab_br i 12 (ab_lf i 10 (.istore 5) 0 0 0) (ab_lf i 12 (.iconst 0) 0 0 0)))) (ab_br i 22 (ab_br i 17 (ab_br i 15 (ab_lf i 13 (.istore 6) 0 0 0) (ab_lf i 15 (.iload 6) 0 0 0)) (ab_br i 19 (ab_lf i 17 (.bipush 40) 0 0 0) (ab_lf i 19 (.if_icmp .ge 39) 0 0 0))) (ab_br i 25 (ab_br i 24 (ab_lf i 22 (.iload 5) 0 0 0) (ab_lf i 24 (.iconst (-1)) 0 0 0)) (ab_br i 28 (ab_lf i 25 (.if_icmp .eq 33) 0 0 0) (ab_lf i 28 (.aload_n 0) 0 0 0))))) (ab_br i 43 (ab_br i 35 (ab_br i 32 (ab_br i 30 (ab_lf i 29 (.aload_n 1) 0 0 0) (ab_lf i 30 (.iload 5) 0 0 0)) (ab_br i 33 (ab_lf i 32 (.iload_n 3) 0 0 0) (ab_lf i 33 (.iload 4) 0 0 0))) (ab_br i 41 (ab_br i 38 (ab_lf i 35 (.invokevirtual 52) 0 66 5) (ab_lf i 38 (.ifCond .eq 5) 0 0 0)) (ab_br i 42 (ab_lf i 41 (.iconst 1) 0 0 0) (ab_lf i 42 (.ireturn) 0 0 0)))) (ab_br i 50 (ab_br i 47 (ab_br i 44 (ab_lf i 43 (.aload_n 1) 0 0 0) (ab_lf i 44 (.getfield 55) 2 2 3)) (ab_br i 49 (ab_lf i 47 (.iload 5) 0 0 0) (ab_lf i 49 (.iaload) 0 0 0))) (ab_br i 55 (ab_br i 52 (ab_lf i 50 (.istore 5) 0 0 0) (ab_lf i 52 (.iinc 6 1) 0 0 0)) (ab_br i 58 (ab_lf i 55 (.goto (-40)) 0 0 0) (ab_br i 59 (ab_lf i 58 (.iconst 0) 0 0 0) (ab_lf i 59 (.ireturn) 0 0 0)))))))
def ab_p66 (i : Nat) : Option (Instr × Nat × Nat × Nat) := (ab_br i 263 (ab_br i 189 (ab_br i 151 (ab_br i 17 (ab_br i 9 (ab_br i 4 (ab_br i 1 (ab_lf i 0 (.aload_n 0) 0 0 0) (ab_lf i 1 (.getfield 22) 5 1 3)) (ab_br i 7 (ab_lf i 4 (.getfield 58) 1 1 3) (ab_br i 8 (ab_lf i 7 (.iload_n 3) 0 0 0) (ab_lf i 8 (.iaload) 0 0 0)))) (ab_br i 12 (ab_br i 11 (ab_lf i 9 (.istore 5) 0 0 0) (ab_lf i 11 (.aload_n 1) 0 0 0)) (ab_br i 15 (ab_lf i 12 (.getfield 63) 2 1 3) (ab_br i 16 (ab_lf i 15 (.iload_n 2) 0 0 0) (ab_lf i 16 (.caload) 0 0 0))))) (ab_br i 140 (ab_br i 133 (ab_br i 132 (ab_lf i 17 (.lookupswitch 380 #[(34, 226), (35, 310), (46, 208), (48, 208), (65, 364), (91, 248), (98, 148), (105, 115), (110, 177), (115, 124), (116, 136), (121, 206), (123, 279)]) 0 0 0) (ab_lf i 132 (.aload_n 0) 0 0 0)) (ab_br i 136 (ab_lf i 133 (.getfield 22) 5 1 3) (ab_br i 137 (ab_lf i 136 (.iload_n 3) 0 0 0) (ab_lf i 137 (.invokevirtual 67) 0 29 2)))) (ab_br i 144 (ab_br i 141 (ab_lf i 140 (.ireturn) 0 0 0) (ab_br i 143 (ab_lf i 141 (.iload 5) 0 0 0) (ab_lf i 143 (.iconst 2) 0 0 0))) (ab_br i 147 (ab_lf i 144 (.if_icmp .ne 7) 0 0 0) (ab_br i 148 (ab_lf i 147 (.iconst 1) 0 0 0) (ab_lf i 148 (.goto 4) 0 0 0)))))) (ab_br i 167 (ab_br i 159 (ab_br i 153 (ab_br i 152 (ab_lf i 151 (.iconst 0) 0 0 0) (ab_lf i 152 (.ireturn) 0 0 0)) (ab_br i 155 (ab_lf i 153 (.iload 5) 0 0 0) (ab_br i 156 (ab_lf i 155 (.iconst 3) 0 0 0) (ab_lf i 156 (.if_icmp .ne 7) 0 0 0)))) (ab_br i 163 (ab_br i 160 (ab_lf i 159 (.iconst 1) 0 0 0) (ab_lf i 160 (.goto 4) 0 0 0)) (ab_br i 164 (ab_lf i 163 (.iconst 0) 0 0 0) (ab_br i 165 (ab_lf i 164 (.ireturn) 0 0 0) (ab_lf i 165 (.iload 5) 0 0 0))))) (ab_br i 179 (ab_br i 172 (ab_br i 169 (ab_lf i 167 (.bipush 7) 0 0 0) (ab_lf i 169 (.if_icmp .ne 23) 0 0 0)) (ab_br i 173 (ab_lf i 172 (.aload_n 0) 0 0 0) (ab_br i 176 (ab_lf i 173 (.getfield 22) 5 1 3) (ab_lf i 176 (.getfield 71) 1 2 3)))) (ab_br i 184 (ab_br i 180 (ab_lf i 179 (.iload_n 3) 0 0 0) (ab_br i 181 (ab_lf i 180 (.laload) 0 0 0) (ab_lf i 181 (.ldc2_w 75) 0 0 0))) (ab_br i 185 (ab_lf i 184 (.lcmp) 0 0 0) (ab_br i 188 (ab_lf i 185 (.ifCond .eq 7) 0 0 0) (ab_lf i 188 (.iconst 1) 0 0 0))))))) (ab_br i 226 (ab_br i 209 (ab_br i 198 (ab_br i 193 (ab_br i 192 (ab_lf i 189 (.goto 4) 0 0 0) (ab_lf i 192 (.iconst 0) 0 0 0)) (ab_br i 194 (ab_lf i 193 (.ireturn) 0 0 0) (ab_br i 196 (ab_lf i 194 (.iload 5) 0 0 0) (ab_lf i 196 (.bipush 7) 0 0 0)))) (ab_br i 202 (ab_br i 201 (ab_lf i 198 (.if_icmp .ne 23) 0 0 0) (ab_lf i 201 (.aload_n 0) 0 0 0)) (ab_br i 205 (ab_lf i 202 (.getfield 22) 5 1 3) (ab_br i 208 (ab_lf i 205 (.getfield 71) 1 2 3) (ab_lf i 208 (.iload_n 3) 0 0 0))))) (ab_br i 218 (ab_br i 213 (ab_br i 210 (ab_lf i 209 (.laload) 0 0 0) (ab_lf i 210 (.ldc2_w 75) 0 0 0)) (ab_br i 214 (ab_lf i 213 (.lcmp) 0 0 0) (ab_br i 217 (ab_lf i 214 (.ifCond .ne 7) 0 0 0) (ab_lf i 217 (.iconst 1) 0 0 0)))) (ab_br i 223 (ab_br i 221 (ab_lf i 218 (.goto 4) 0 0 0) (ab_br i 222 (ab_lf i 221 (.iconst 0) 0 0 0) (ab_lf i 222 (.ireturn) 0 0 0))) (ab_br i 224 (ab_lf i 223 (.iconst 1) 0 0 0) (ab_br i 225 (ab_lf i 224 (.ireturn) 0 0 0) (ab_lf i 225 (.aload_n 0) 0 0 0)))))) (ab_br i 243 (ab_br i 233 (ab_br i 228 (ab_br i 227 (ab_lf i 226 (.iload_n 3) 0 0 0) (ab_lf i 227 (.aload_n 1) 0 0 0)) (ab_br i 231 (ab_lf i 228 (.getfield 77) 2 3 3) (ab_br i 232 (ab_lf i 231 (.iload_n 2) 0 0 0) (ab_lf i 232 (.iaload) 0 0 0)))) (ab_br i 238 (ab_br i 234 (ab_lf i 233 (.aload_n 1) 0 0 0) (ab_br i 237 (ab_lf i 234 (.getfield 80) 2 4 3) (ab_lf i 237 (.iload_n 2) 0 0 0))) (ab_br i 239 (ab_lf i 238 (.iaload) 0 0 0) (ab_br i 242 (ab_lf i 239 (.invokevirtual 83) 0 67 4) (ab_lf i 242 (.ireturn) 0 0 0))))) (ab_br i 251 (ab_br i 246 (ab_br i 245 (ab_lf i 243 (.iload 5) 0 0 0) (ab_lf i 245 (.iconst 3) 0 0 0)) (ab_br i 249 (ab_lf i 246 (.if_icmp .ne 17) 0 0 0) (ab_br i 250 (ab_lf i 249 (.aload_n 0) 0 0 0) (ab_lf i 250 (.iload_n 3) 0 0 0)))) (ab_br i 256 (ab_br i 252 (ab_lf i 251 (.aload_n 1) 0 0 0) (ab_br i 253 (ab_lf i 252 (.iload_n 2) 0 0 0) (ab_lf i 253 (.invokevirtual 86) 0 68 4))) (ab_br i 259 (ab_lf i 256 (.ifCond .eq 7) 0 0 0) (ab_br i 260 (ab_lf i 259 (.iconst 1) 0 0 0) (ab_lf i 260 (.goto 4) 0 0 0)))))))) (ab_br i 334 (ab_br i 296 (ab_br i 278 (ab_br i 271 (ab_br i 265 (ab_br i 264 (ab_lf i 263 (.iconst 0) 0 0 0) (ab_lf i 264 (.ireturn) 0 0 0)) (ab_br i 267 (ab_lf i 265 (.iload 5) 0 0 0) (ab_br i 268 (ab_lf i 267 (.iconst 4) 0 0 0) (ab_lf i 268 (.if_icmp .ne 26) 0 0 0)))) (ab_br i 273 (ab_br i 272 (ab_lf i 271 (.aload_n 0) 0 0 0) (ab_lf i 272 (.aload_n 1) 0 0 0)) (ab_br i 274 (ab_lf i 273 (.aload_n 1) 0 0 0) (ab_br i 277 (ab_lf i 274 (.getfield 77) 2 3 3) (ab_lf i 277 (.iload_n 2) 0 0 0))))) (ab_br i 284 (ab_br i 280 (ab_br i 279 (ab_lf i 278 (.iaload) 0 0 0) (ab_lf i 279 (.iload_n 3) 0 0 0)) (ab_br i 282 (ab_lf i 280 (.iload 4) 0 0 0) (ab_br i 283 (ab_lf i 282 (.iconst 1) 0 0 0) (ab_lf i 283 (.iadd) 0 0 0)))) (ab_br i 291 (ab_br i 287 (ab_lf i 284 (.invokevirtual 90) 0 69 5) (ab_br i 290 (ab_lf i 287 (.ifCond .eq 7) 0 0 0) (ab_lf i 290 (.iconst 1) 0 0 0))) (ab_br i 294 (ab_lf i 291 (.goto 4) 0 0 0) (ab_br i 295 (ab_lf i 294 (.iconst 0) 0 0 0) (ab_lf i 295 (.ireturn) 0 0 0)))))) (ab_br i 313 (ab_br i 304 (ab_br i 299 (ab_br i 298 (ab_lf i 296 (.iload 5) 0 0 0) (ab_lf i 298 (.iconst 5) 0 0 0)) (ab_br i 302 (ab_lf i 299 (.if_icmp .ne 26) 0 0 0) (ab_br i 303 (ab_lf i 302 (.aload_n 0) 0 0 0) (ab_lf i 303 (.aload_n 1) 0 0 0)))) (ab_br i 309 (ab_br i 305 (ab_lf i 304 (.aload_n 1) 0 0 0) (ab_br i 308 (ab_lf i 305 (.getfield 77) 2 3 3) (ab_lf i 308 (.iload_n 2) 0 0 0))) (ab_br i 310 (ab_lf i 309 (.iaload) 0 0 0) (ab_br i 311 (ab_lf i 310 (.iload_n 3) 0 0 0) (ab_lf i 311 (.iload 4) 0 0 0))))) (ab_br i 322 (ab_br i 315 (ab_br i 314 (ab_lf i 313 (.iconst 1) 0 0 0) (ab_lf i 314 (.iadd) 0 0 0)) (ab_br i 318 (ab_lf i 315 (.invokevirtual 93) 0 71 5) (ab_br i 321 (ab_lf i 318 (.ifCond .eq 7) 0 0 0) (ab_lf i 321 (.iconst 1) 0 0 0)))) (ab_br i 327 (ab_br i 325 (ab_lf i 322 (.goto 4) 0 0 0) (ab_br i 326 (ab_lf i 325 (.iconst 0) 0 0 0) (ab_lf i 326 (.ireturn) 0 0 0))) (ab_br i 329 (ab_lf i 327 (.iload 5) 0 0 0) (ab_br i 331 (ab_lf i 329 (.bipush 6) 0 0 0) (ab_lf i 331 (.if_icmp .ne 48) 0 0 0))))))) (ab_br i 365 (ab_br i 350 (ab_br i 343 (ab_br i 338 (ab_br i 335 (ab_lf i 334 (.aload_n 0) 0 0 0) (ab_lf i 335 (.getfield 22) 5 1 3)) (ab_br i 341 (ab_lf i 338 (.getfield 71) 1 2 3) (ab_br i 342 (ab_lf i 341 (.iload_n 3) 0 0 0) (ab_lf i 342 (.laload) 0 0 0)))) (ab_br i 347 (ab_br i 344 (ab_lf i 343 (.aload_n 1) 0 0 0) (ab_lf i 344 (.getfield 77) 2 3 3)) (ab_br i 348 (ab_lf i 347 (.iload_n 2) 0 0 0) (ab_br i 349 (ab_lf i 348 (.iaload) 0 0 0) (ab_lf i 349 (.i2l) 0 0 0))))) (ab_br i 357 (ab_br i 354 (ab_br i 351 (ab_lf i 350 (.lcmp) 0 0 0) (ab_lf i 351 (.ifCond .ne 28) 0 0 0)) (ab_br i 355 (ab_lf i 354 (.aload_n 0) 0 0 0) (ab_br i 356 (ab_lf i 355 (.aload_n 1) 0 0 0) (ab_lf i 356 (.aload_n 1) 0 0 0)))) (ab_br i 362 (ab_br i 360 (ab_lf i 357 (.getfield 80) 2 4 3) (ab_br i 361 (ab_lf i 360 (.iload_n 2) 0 0 0) (ab_lf i 361 (.iaload) 0 0 0))) (ab_br i 363 (ab_lf i 362 (.iload_n 3) 0 0 0) (ab_br i 364 (ab_lf i 363 (.iconst 1) 0 0 0) (ab_lf i 364 (.iadd) 0 0 0)))))) (ab_br i 383 (ab_br i 375 (ab_br i 368 (ab_br i 367 (ab_lf i 365 (.iload 4) 0 0 0) (ab_lf i 367 (.iconst 1) 0 0 0)) (ab_br i 369 (ab_lf i 368 (.iadd) 0 0 0) (ab_br i 372 (ab_lf i 369 (.invokevirtual 48) 0 65 5) (ab_lf i 372 (.ifCond .eq 7) 0 0 0)))) (ab_br i 380 (ab_br i 376 (ab_lf i 375 (.iconst 1) 0 0 0) (ab_br i 379 (ab_lf i 376 (.goto 4) 0 0 0) (ab_lf i 379 (.iconst 0) 0 0 0))) (ab_br i 381 (ab_lf i 380 (.ireturn) 0 0 0) (ab_br i 382 (ab_lf i 381 (.aload_n 0) 0 0 0) (ab_lf i 382 (.aload_n 1) 0 0 0))))) (ab_br i 391 (ab_br i 387 (ab_br i 386 (ab_lf i 383 (.getfield 77) 2 3 3) (ab_lf i 386 (.iload_n 2) 0 0 0)) (ab_br i 388 (ab_lf i 387 (.iaload) 0 0 0) (ab_br i 389 (ab_lf i 388 (.iload_n 3) 0 0 0) (ab_lf i 389 (.iload 4) 0 0 0)))) (ab_br i 396 (ab_br i 392 (ab_lf i 391 (.iconst 1) 0 0 0) (ab_br i 393 (ab_lf i 392 (.iadd) 0 0 0) (ab_lf i 393 (.invokevirtual 32) 0 64 4))) (ab_br i 397 (ab_lf i 396 (.ireturn) 0 0 0) (ab_br i 398 (ab_lf i 397 (.iconst 0) 0 0 0) (ab_lf i 398 (.ireturn) 0 0 0)))))))))
def ab_p67 (i : Nat) : Option (Instr × Nat × Nat × Nat) := (ab_br i 22 (ab_br i 12 (ab_br i 5 (ab_br i 1 (ab_lf i 0 (.aload_n 0) 0 0 0) (ab_br i 4 (ab_lf i 1 (.getfield 22) 5 1 3) (ab_lf i 4 (.iload_n 1) 0 0 0))) (ab_br i 8 (ab_lf i 5 (.invokevirtual 67) 0 29 2) (ab_br i 11 (ab_lf i 8 (.ifCond .eq 35) 0 0 0) (ab_lf i 11 (.aload_n 0) 0 0 0)))) (ab_br i 19 (ab_br i 15 (ab_lf i 12 (.getfield 22) 5 1 3) (ab_br i 16 (ab_lf i 15 (.iload_n 1) 0 0 0) (ab_lf i 16 (.invokevirtual 96) 0 30 2))) (ab_br i 20 (ab_lf i 19 (.iload_n 2) 0 0 0) (ab_br i 21 (ab_lf i 20 (.i2l) 0 0 0) (ab_lf i 21 (.lcmp) 0 0 0))))) (ab_br i 34 (ab_br i 29 (ab_br i 25 (ab_lf i 22 (.ifCond .lt 21) 0 0 0) (ab_br i 26 (ab_lf i 25 (.aload_n 0) 0 0 0) (ab_lf i 26 (.getfield 22) 5 1 3))) (ab_br i 30 (ab_lf i 29 (.iload_n 1) 0 0 0) (ab_br i 33 (ab_lf i 30 (.invokevirtual 96) 0 30 2) (ab_lf i 33 (.iload_n 3) 0 0 0)))) (ab_br i 39 (ab_br i 35 (ab_lf i 34 (.i2l) 0 0 0) (ab_br i 36 (ab_lf i 35 (.lcmp) 0 0 0) (ab_lf i 36 (.ifCond .gt 7) 0 0 0))) (ab_br i 43 (ab_br i 40 (ab_lf i 39 (.iconst 1) 0 0 0) (ab_lf i 40 (.goto 4) 0 0 0)) (ab_br i 44 (ab_lf i 43 (.iconst 0) 0 0 0) (ab_lf i 44 (.ireturn) 0 0 0))))))
def ab_p68 (i : Nat) : Option (Instr × Nat × Nat × Nat) := (ab_br i 42 (ab_br i 20 (ab_br i 9 (ab_br i 5 (ab_br i 1 (ab_lf i 0 (.aload_n 2) 0 0 0) (ab_br i 4 (ab_lf i 1 (.getfield 77) 2 3 3) (ab_lf i 4 (.iload_n 3) 0 0 0))) (ab_br i 6 (ab_lf i 5 (.iaload) 0 0 0) (ab_br i 8 (ab_lf i 6 (.istore 4) 0 0 0) (ab_lf i 8 (.aload_n 2) 0 0 0)))) (ab_br i 14 (ab_br i 12 (ab_lf i 9 (.getfield 80) 2 4 3) (ab_br i 13 (ab_lf i 12 (.iload_n 3) 0 0 0) (ab_lf i 13 (.iaload) 0 0 0))) (ab_br i 17 (ab_br i 16 (ab_lf i 14 (.iload 4) 0 0 0) (ab_lf i 16 (.isub) 0 0 0)) (ab_br i 19 (ab_lf i 17 (.istore 5) 0 0 0) (ab_lf i 19 (.aload_n 0) 0 0 0))))) (ab_br i 31 (ab_br i 27 (ab_br i 23 (ab_lf i 20 (.getfield 22) 5 1 3) (ab_br i 26 (ab_lf i 23 (.getfield 71) 1 2 3) (ab_lf i 26 (.iload_n 1) 0 0 0))) (ab_br i 28 (ab_lf i 27 (.laload) 0 0 0) (ab_br i 30 (ab_lf i 28 (.iload 5) 0 0 0) (ab_lf i 30 (.i2l) 0 0 0)))) (ab_br i 36 (ab_br i 32 (ab_lf i 31 (.lcmp) 0 0 0) (ab_br i 35 (ab_lf i 32 (.ifCond .eq 5) 0 0 0) (ab_lf i 35 (.iconst 0) 0 0 0))) (ab_br i 38 (ab_br i 37 (ab_lf i 36 (.ireturn) 0 0 0) (ab_lf i 37 (.iconst 0) 0 0 0)) (ab_br i 40 (ab_lf i 38 (.istore 6) 0 0 0) (ab_lf i 40 (.iload 6) 0 0 0)))))) (ab_br i 67 (ab_br i 55 (ab_br i 48 (ab_br i 44 (ab_lf i 42 (.iload 5) 0 0 0) (ab_br i 47 (ab_lf i 44 (.if_icmp .ge 44) 0 0 0) (ab_lf i 47 (.aload_n 0) 0 0 0))) (ab_br i 51 (ab_lf i 48 (.getfield 22) 5 1 3) (ab_br i 54 (ab_lf i 51 (.getfield 100) 1 0 3) (ab_lf i 54 (.aload_n 0) 0 0 0)))) (ab_br i 62 (ab_br i 58 (ab_lf i 55 (.getfield 22) 5 1 3) (ab_br i 61 (ab_lf i 58 (.getfield 102) 1 4 3) (ab_lf i 61 (.iload_n 1) 0 0 0))) (ab_br i 65 (ab_br i 63 (ab_lf i 62 (.iaload) 0 0 0) (ab_lf i 63 (.iload 6) 0 0 0)) (ab_br i 66 (ab_lf i 65 (.iadd) 0 0 0) (ab_lf i 66 (.iaload) 0 0 0))))) (ab_br i 77 (ab_br i 73 (ab_br i 68 (ab_lf i 67 (.aload_n 2) 0 0 0) (ab_br i 71 (ab_lf i 68 (.getfield 105) 2 0 3) (ab_lf i 71 (.iload 4) 0 0 0))) (ab_br i 75 (ab_lf i 73 (.iload 6) 0 0 0) (ab_br i 76 (ab_lf i 75 (.iadd) 0 0 0) (ab_lf i 76 (.caload) 0 0 0)))) (ab_br i 82 (ab_br i 80 (ab_lf i 77 (.if_icmp .eq 5) 0 0 0) (ab_br i 81 (ab_lf i 80 (.iconst 0) 0 0 0) (ab_lf i 81 (.ireturn) 0 0 0))) (ab_br i 88 (ab_br i 85 (ab_lf i 82 (.iinc 6 1) 0 0 0) (ab_lf i 85 (.goto (-45)) 0 0 0)) (ab_br i 89 (ab_lf i 88 (.iconst 1) 0 0 0) (ab_lf i 89 (.ireturn) 0 0 0)))))))
def ab_p69 (i : Nat) : Option (Instr × Nat × Nat × Nat) := (ab_br i 45 (ab_br i 20 (ab_br i 11 (ab_br i 7 (ab_br i 1 (ab_lf i 0 (.aload_n 0) 0 0 0) (ab_br i 4 (ab_lf i 1 (.getfield 22) 5 1 3) (ab_lf i 4 (.getfield 108) 1 5 3))) (ab_br i 8 (ab_lf i 7 (.iload_n 3) 0 0 0) (ab_br i 9 (ab_lf i 8 (.iaload) 0 0 0) (ab_lf i 9 (.istore 5) 0 0 0)))) (ab_br i 14 (ab_br i 12 (ab_lf i 11 (.iload_n 3) 0 0 0) (ab_br i 13 (ab_lf i 12 (.iconst 1) 0 0 0) (ab_lf i 13 (.iadd) 0 0 0))) (ab_br i 17 (ab_br i 16 (ab_lf i 14 (.istore 6) 0 0 0) (ab_lf i 16 (.iload_n 2) 0 0 0)) (ab_br i 19 (ab_lf i 17 (.istore 7) 0 0 0) (ab_lf i 19 (.iconst 0) 0 0 0))))) (ab_br i 32 (ab_br i 26 (ab_br i 22 (ab_lf i 20 (.istore 8) 0 0 0) (ab_br i 24 (ab_lf i 22 (.iload 8) 0 0 0) (ab_lf i 24 (.bipush 6) 0 0 0))) (ab_br i 29 (ab_lf i 26 (.if_icmp .ge 61) 0 0 0) (ab_br i 31 (ab_lf i 29 (.iload 7) 0 0 0) (ab_lf i 31 (.iconst (-1)) 0 0 0)))) (ab_br i 39 (ab_br i 35 (ab_lf i 32 (.if_icmp .eq 55) 0 0 0) (ab_br i 37 (ab_lf i 35 (.iload 6) 0 0 0) (ab_lf i 37 (.istore 9) 0 0 0))) (ab_br i 41 (ab_br i 40 (ab_lf i 39 (.aload_n 0) 0 0 0) (ab_lf i 40 (.aload_n 1) 0 0 0)) (ab_br i 43 (ab_lf i 41 (.iload 7) 0 0 0) (ab_lf i 43 (.iload 9) 0 0 0)))))) (ab_br i 72 (ab_br i 58 (ab_br i 52 (ab_br i 47 (ab_lf i 45 (.iload 5) 0 0 0) (ab_br i 49 (ab_lf i 47 (.iload 4) 0 0 0) (ab_lf i 49 (.invokevirtual 111) 0 70 6))) (ab_br i 54 (ab_lf i 52 (.istore 6) 0 0 0) (ab_br i 56 (ab_lf i 54 (.iload 6) 0 0 0) (ab_lf i 56 (.iload 9) 0 0 0)))) (ab_br i 64 (ab_br i 61 (ab_lf i 58 (.if_icmp .ne 14) 0 0 0) (ab_br i 62 (ab_lf i 61 (.aload_n 1) 0 0 0) (ab_lf i 62 (.iload 7) 0 0 0))) (ab_br i 70 (ab_br i 67 (ab_lf i 64 (.invokevirtual 115) 0 33 2) (ab_lf i 67 (.ifCond .eq 5) 0 0 0)) (ab_br i 71 (ab_lf i 70 (.iconst 0) 0 0 0) (ab_lf i 71 (.ireturn) 0 0 0))))) (ab_br i 87 (ab_br i 78 (ab_br i 73 (ab_lf i 72 (.aload_n 1) 0 0 0) (ab_br i 76 (ab_lf i 73 (.getfield 118) 2 9 3) (ab_lf i 76 (.iload 7) 0 0 0))) (ab_br i 81 (ab_br i 79 (ab_lf i 78 (.iaload) 0 0 0) (ab_lf i 79 (.istore 7) 0 0 0)) (ab_br i 84 (ab_lf i 81 (.iinc 8 1) 0 0 0) (ab_lf i 84 (.goto (-62)) 0 0 0)))) (ab_br i 94 (ab_br i 89 (ab_lf i 87 (.iload 6) 0 0 0) (ab_br i 91 (ab_lf i 89 (.iload 5) 0 0 0) (ab_lf i 91 (.if_icmp .ne 7) 0 0 0))) (ab_br i 98 (ab_br i 95 (ab_lf i 94 (.iconst 1) 0 0 0) (ab_lf i 95 (.goto 4) 0 0 0)) (ab_br i 99 (ab_lf i 98 (.iconst 0) 0 0 0) (ab_lf i 99 (.ireturn) 0 0 0)))))))
def ab_p70 (i : Nat) : Option (Instr × Nat × Nat × Nat) := (ab_br i 38 (ab_br i 19 (ab_br i 10 (ab_br i 2 (ab_br i 1 (ab_lf i 0 (.aload_n 1) 0 0 0) (ab_lf i 1 (.iload_n 2) 0 0 0)) (ab_br i 5 (ab_lf i 2 (.invokevirtual 121) 0 34 2) (ab_br i 8 (ab_lf i 5 (.ifCond .eq 8) 0 0 0) (ab_lf i 8 (.bipush 24) 0 0 0)))) (ab_br i 14 (ab_br i 13 (ab_lf i 10 (.goto 4) 0 0 0) (ab_lf i 13 (.iconst 1) 0 0 0)) (ab_br i 16 (ab_lf i 14 (.istore 6) 0 0 0) (ab_br i 17 (ab_lf i 16 (.iload_n 3) 0 0 0) (ab_lf i 17 (.istore 7) 0 0 0))))) (ab_br i 29 (ab_br i 22 (ab_br i 20 (ab_lf i 19 (.iconst 0) 0 0 0) (ab_lf i 20 (.istore 8) 0 0 0)) (ab_br i 24 (ab_lf i 22 (.iload 8) 0 0 0) (ab_br i 26 (ab_lf i 24 (.iload 6) 0 0 0) (ab_lf i 26 (.if_icmp .ge 49) 0 0 0)))) (ab_br i 33 (ab_br i 31 (ab_lf i 29 (.iload 7) 0 0 0) (ab_lf i 31 (.iload 4) 0 0 0)) (ab_br i 36 (ab_lf i 33 (.if_icmp .ge 42) 0 0 0) (ab_br i 37 (ab_lf i 36 (.aload_n 0) 0 0 0) (ab_lf i 37 (.aload_n 1) 0 0 0)))))) (ab_br i 57 (ab_br i 46 (ab_br i 42 (ab_br i 39 (ab_lf i 38 (.aload_n 1) 0 0 0) (ab_lf i 39 (.getfield 124) 2 7 3)) (ab_br i 43 (ab_lf i 42 (.iload_n 2) 0 0 0) (ab_br i 44 (ab_lf i 43 (.iaload) 0 0 0) (ab_lf i 44 (.iload 7) 0 0 0)))) (ab_br i 51 (ab_br i 48 (ab_lf i 46 (.iload 5) 0 0 0) (ab_lf i 48 (.invokevirtual 48) 0 65 5)) (ab_br i 54 (ab_lf i 51 (.ifCond .ne 6) 0 0 0) (ab_br i 56 (ab_lf i 54 (.iload 7) 0 0 0) (ab_lf i 56 (.ireturn) 0 0 0))))) (ab_br i 67 (ab_br i 61 (ab_br i 58 (ab_lf i 57 (.aload_n 0) 0 0 0) (ab_lf i 58 (.getfield 22) 5 1 3)) (ab_br i 64 (ab_lf i 61 (.getfield 108) 1 5 3) (ab_br i 66 (ab_lf i 64 (.iload 7) 0 0 0) (ab_lf i 66 (.iaload) 0 0 0)))) (ab_br i 72 (ab_br i 69 (ab_lf i 67 (.istore 7) 0 0 0) (ab_lf i 69 (.iinc 8 1) 0 0 0)) (ab_br i 75 (ab_lf i 72 (.goto (-50)) 0 0 0) (ab_br i 77 (ab_lf i 75 (.iload 7) 0 0 0) (ab_lf i 77 (.ireturn) 0 0 0)))))))
def ab_p71 (i : Nat) : Option (Instr × Nat × Nat × Nat) := (ab_br i 74 (ab_br i 36 (ab_br i 16 (ab_br i 9 (ab_br i 4 (ab_br i 1 (ab_lf i 0 (.aload_n 0) 0 0 0) (ab_lf i 1 (.getfield 22) 5 1 3)) (ab_br i 7 (ab_lf i 4 (.getfield 108) 1 5 3) (ab_br i 8 (ab_lf i 7 (.iload_n 3) 0 0 0) (ab_lf i 8 (.iaload) 0 0 0)))) (ab_br i 12 (ab_br i 11 (ab_lf i 9 (.istore 5) 0 0 0) (ab_lf i 11 (.iload_n 3) 0 0 0)) (ab_br i 13 (ab_lf i 12 (.iconst 1) 0 0 0) (ab_br i 14 (ab_lf i 13 (.iadd) 0 0 0) (ab_lf i 14 (.istore 6) 0 0 0))))) (ab_br i 24 (ab_br i 19 (ab_br i 17 (ab_lf i 16 (.lconst 1) 0 0 0) (ab_lf i 17 (.lstore 7) 0 0 0)) (ab_br i 20 (ab_lf i 19 (.iconst 0) 0 0 0) (ab_br i 22 (ab_lf i 20 (.istore 9) 0 0 0) (ab_lf i 22 (.iload 9) 0 0 0)))) (ab_br i 29 (ab_br i 26 (ab_lf i 24 (.bipush 24) 0 0 0) (ab_lf i 26 (.if_icmp .ge 57) 0 0 0)) (ab_br i 31 (ab_lf i 29 (.iload 6) 0 0 0) (ab_br i 33 (ab_lf i 31 (.iload 5) 0 0 0) (ab_lf i 33 (.if_icmp .ge 50) 0 0 0)))))) (ab_br i 52 (ab_br i 44 (ab_br i 39 (ab_br i 38 (ab_lf i 36 (.lload 7) 0 0 0) (ab_lf i 38 (.lconst 0) 0 0 0)) (ab_br i 40 (ab_lf i 39 (.lcmp) 0 0 0) (ab_br i 43 (ab_lf i 40 (.ifCond .eq 43) 0 0 0) (ab_lf i 43 (.aload_n 0) 0 0 0)))) (ab_br i 46 (ab_br i 45 (ab_lf i 44 (.aload_n 1) 0 0 0) (ab_lf i 45 (.iload_n 2) 0 0 0)) (ab_br i 48 (ab_lf i 46 (.iload 6) 0 0 0) (ab_br i 50 (ab_lf i 48 (.iload 4) 0 0 0) (ab_lf i 50 (.lload 7) 0 0 0))))) (ab_br i 64 (ab_br i 57 (ab_br i 55 (ab_lf i 52 (.invokevirtual 127) 0 72 6) (ab_lf i 55 (.lstore 7) 0 0 0)) (ab_br i 58 (ab_lf i 57 (.aload_n 0) 0 0 0) (ab_br i 61 (ab_lf i 58 (.getfield 22) 5 1 3) (ab_lf i 61 (.getfield 108) 1 5 3)))) (ab_br i 68 (ab_br i 65 (ab_lf i 64 (.aload_n 0) 0 0 0) (ab_lf i 65 (.getfield 22) 5 1 3)) (ab_br i 71 (ab_lf i 68 (.getfield 108) 1 5 3) (ab_br i 73 (ab_lf i 71 (.iload 6) 0 0 0) (ab_lf i 73 (.iaload) 0 0 0))))))) (ab_br i 116 (ab_br i 93 (ab_br i 84 (ab_br i 77 (ab_br i 75 (ab_lf i 74 (.iaload) 0 0 0) (ab_lf i 75 (.istore 6) 0 0 0)) (ab_br i 80 (ab_lf i 77 (.iinc 9 1) 0 0 0) (ab_br i 83 (ab_lf i 80 (.goto (-58)) 0 0 0) (ab_lf i 83 (.iload_n 2) 0 0 0)))) (ab_br i 87 (ab_br i 86 (ab_lf i 84 (.istore 9) 0 0 0) (ab_lf i 86 (.iconst 0) 0 0 0)) (ab_br i 89 (ab_lf i 87 (.istore 10) 0 0 0) (ab_br i 91 (ab_lf i 89 (.iload 10) 0 0 0) (ab_lf i 91 (.bipush 6) 0 0 0))))) (ab_br i 103 (ab_br i 98 (ab_br i 96 (ab_lf i 93 (.if_icmp .ge 48) 0 0 0) (ab_lf i 96 (.iload 9) 0 0 0)) (ab_br i 99 (ab_lf i 98 (.iconst (-1)) 0 0 0) (ab_br i 102 (ab_lf i 99 (.if_icmp .eq 42) 0 0 0) (ab_lf i 102 (.aload_n 1) 0 0 0)))) (ab_br i 108 (ab_br i 105 (ab_lf i 103 (.iload 9) 0 0 0) (ab_lf i 105 (.invokevirtual 115) 0 33 2)) (ab_br i 111 (ab_lf i 108 (.ifCond .eq 18) 0 0 0) (ab_br i 113 (ab_lf i 111 (.lload 7) 0 0 0) (ab_lf i 113 (.getstatic 131) 0 0 0)))))) (ab_br i 133 (ab_br i 124 (ab_br i 119 (ab_br i 118 (ab_lf i 116 (.iload 10) 0 0 0) (ab_lf i 118 (.laload) 0 0 0)) (ab_br i 122 (ab_lf i 119 (.ldc2_w 134) 0 0 0) (ab_br i 123 (ab_lf i 122 (.lxor) 0 0 0) (ab_lf i 123 (.land) 0 0 0)))) (ab_br i 127 (ab_br i 126 (ab_lf i 124 (.lstore 7) 0 0 0) (ab_lf i 126 (.aload_n 1) 0 0 0)) (ab_br i 130 (ab_lf i 127 (.getfield 118) 2 9 3) (ab_br i 132 (ab_lf i 130 (.iload 9) 0 0 0) (ab_lf i 132 (.iaload) 0 0 0))))) (ab_br i 144 (ab_br i 138 (ab_br i 135 (ab_lf i 133 (.istore 9) 0 0 0) (ab_lf i 135 (.iinc 10 1) 0 0 0)) (ab_br i 141 (ab_lf i 138 (.goto (-49)) 0 0 0) (ab_br i 143 (ab_lf i 141 (.lload 7) 0 0 0) (ab_lf i 143 (.lconst 0) 0 0 0)))) (ab_br i 149 (ab_br i 145 (ab_lf i 144 (.lcmp) 0 0 0) (ab_br i 148 (ab_lf i 145 (.ifCond .eq 7) 0 0 0) (ab_lf i 148 (.iconst 1) 0 0 0))) (ab_br i 152 (ab_lf i 149 (.goto 4) 0 0 0) (ab_br i 153 (ab_lf i 152 (.iconst 0) 0 0 0) (ab_lf i 153 (.ireturn) 0 0 0))))))))
def ab_p72 (i : Nat) : Option (Instr × Nat × Nat × Nat) := (ab_br i 81 (ab_br i 36 (ab_br i 17 (ab_br i 9 (ab_br i 4 (ab_br i 1 (ab_lf i 0 (.aload_n 0) 0 0 0) (ab_lf i 1 (.getfield 22) 5 1 3)) (ab_br i 7 (ab_lf i 4 (.getfield 108) 1 5 3) (ab_br i 8 (ab_lf i 7 (.iload_n 3) 0 0 0) (ab_lf i 8 (.iaload) 0 0 0)))) (ab_br i 12 (ab_br i 11 (ab_lf i 9 (.istore 7) 0 0 0) (ab_lf i 11 (.lconst 0) 0 0 0)) (ab_br i 14 (ab_lf i 12 (.lstore 8) 0 0 0) (ab_br i 15 (ab_lf i 14 (.iload_n 2) 0 0 0) (ab_lf i 15 (.istore 10) 0 0 0))))) (ab_br i 27 (ab_br i 20 (ab_br i 18 (ab_lf i 17 (.iconst 0) 0 0 0) (ab_lf i 18 (.istore 11) 0 0 0)) (ab_br i 22 (ab_lf i 20 (.iload 11) 0 0 0) (ab_br i 24 (ab_lf i 22 (.bipush 6) 0 0 0) (ab_lf i 24 (.if_icmp .ge 133) 0 0 0)))) (ab_br i 33 (ab_br i 29 (ab_lf i 27 (.iload 10) 0 0 0) (ab_br i 30 (ab_lf i 29 (.iconst (-1)) 0 0 0) (ab_lf i 30 (.if_icmp .eq 127) 0 0 0))) (ab_br i 34 (ab_lf i 33 (.aload_n 0) 0 0 0) (ab_br i 35 (ab_lf i 34 (.aload_n 1) 0 0 0) (ab_lf i 35 (.aload_n 1) 0 0 0)))))) (ab_br i 57 (ab_br i 45 (ab_br i 41 (ab_br i 39 (ab_lf i 36 (.getfield 136) 2 6 3) (ab_lf i 39 (.iload 10) 0 0 0)) (ab_br i 42 (ab_lf i 41 (.iaload) 0 0 0) (ab_br i 43 (ab_lf i 42 (.iload_n 3) 0 0 0) (ab_lf i 43 (.iload 4) 0 0 0)))) (ab_br i 52 (ab_br i 48 (ab_lf i 45 (.invokevirtual 48) 0 65 5) (ab_br i 50 (ab_lf i 48 (.istore 12) 0 0 0) (ab_lf i 50 (.iload 12) 0 0 0))) (ab_br i 55 (ab_lf i 52 (.ifCond .eq 72) 0 0 0) (ab_br i 56 (ab_lf i 55 (.aload_n 0) 0 0 0) (ab_lf i 56 (.aload_n 1) 0 0 0))))) (ab_br i 66 (ab_br i 61 (ab_br i 58 (ab_lf i 57 (.aload_n 1) 0 0 0) (ab_lf i 58 (.getfield 124) 2 7 3)) (ab_br i 63 (ab_lf i 61 (.iload 10) 0 0 0) (ab_br i 64 (ab_lf i 63 (.iaload) 0 0 0) (ab_lf i 64 (.iload 7) 0 0 0)))) (ab_br i 74 (ab_br i 68 (ab_lf i 66 (.iload 4) 0 0 0) (ab_br i 71 (ab_lf i 68 (.invokevirtual 48) 0 65 5) (ab_lf i 71 (.ifCond .eq 53) 0 0 0))) (ab_br i 76 (ab_lf i 74 (.lload 8) 0 0 0) (ab_br i 78 (ab_lf i 76 (.lload 5) 0 0 0) (ab_lf i 78 (.getstatic 131) 0 0 0))))))) (ab_br i 117 (ab_br i 95 (ab_br i 88 (ab_br i 84 (ab_br i 83 (ab_lf i 81 (.iload 11) 0 0 0) (ab_lf i 83 (.laload) 0 0 0)) (ab_br i 85 (ab_lf i 84 (.land) 0 0 0) (ab_br i 86 (ab_lf i 85 (.iconst 1) 0 0 0) (ab_lf i 86 (.iload 11) 0 0 0)))) (ab_br i 90 (ab_br i 89 (ab_lf i 88 (.ishl) 0 0 0) (ab_lf i 89 (.lshl) 0 0 0)) (ab_br i 91 (ab_lf i 90 (.lor) 0 0 0) (ab_br i 93 (ab_lf i 91 (.lstore 8) 0 0 0) (ab_lf i 93 (.lload 8) 0 0 0))))) (ab_br i 106 (ab_br i 98 (ab_br i 96 (ab_lf i 95 (.aload_n 1) 0 0 0) (ab_lf i 96 (.iload 10) 0 0 0)) (ab_br i 101 (ab_lf i 98 (.invokevirtual 121) 0 34 2) (ab_br i 104 (ab_lf i 101 (.ifCond .eq 19) 0 0 0) (ab_lf i 104 (.lload 5) 0 0 0)))) (ab_br i 112 (ab_br i 109 (ab_lf i 106 (.getstatic 131) 0 0 0) (ab_br i 111 (ab_lf i 109 (.iload 11) 0 0 0) (ab_lf i 111 (.laload) 0 0 0))) (ab_br i 115 (ab_lf i 112 (.ldc2_w 134) 0 0 0) (ab_br i 116 (ab_lf i 115 (.lxor) 0 0 0) (ab_lf i 116 (.land) 0 0 0)))))) (ab_br i 139 (ab_br i 126 (ab_br i 121 (ab_br i 120 (ab_lf i 117 (.goto 4) 0 0 0) (ab_lf i 120 (.lconst 0) 0 0 0)) (ab_br i 122 (ab_lf i 121 (.lor) 0 0 0) (ab_br i 124 (ab_lf i 122 (.lstore 8) 0 0 0) (ab_lf i 124 (.iload 12) 0 0 0)))) (ab_br i 133 (ab_br i 129 (ab_lf i 126 (.ifCond .eq 16) 0 0 0) (ab_br i 130 (ab_lf i 129 (.aload_n 1) 0 0 0) (ab_lf i 130 (.getfield 139) 2 8 3))) (ab_br i 135 (ab_lf i 133 (.iload 10) 0 0 0) (ab_br i 136 (ab_lf i 135 (.baload) 0 0 0) (ab_lf i 136 (.ifCond .eq 6) 0 0 0))))) (ab_br i 148 (ab_br i 142 (ab_br i 141 (ab_lf i 139 (.lload 8) 0 0 0) (ab_lf i 141 (.lreturn) 0 0 0)) (ab_br i 143 (ab_lf i 142 (.aload_n 1) 0 0 0) (ab_br i 146 (ab_lf i 143 (.getfield 118) 2 9 3) (ab_lf i 146 (.iload 10) 0 0 0)))) (ab_br i 154 (ab_br i 149 (ab_lf i 148 (.iaload) 0 0 0) (ab_br i 151 (ab_lf i 149 (.istore 10) 0 0 0) (ab_lf i 151 (.iinc 11 1) 0 0 0))) (ab_br i 157 (ab_lf i 154 (.goto (-134)) 0 0 0) (ab_br i 159 (ab_lf i 157 (.lload 8) 0 0 0) (ab_lf i 159 (.lreturn) 0 0 0))))))))
def ab_p73 (i : Nat) : Option (Instr × Nat × Nat × Nat) := (ab_br i 123 (ab_br i 58 (ab_br i 28 (ab_br i 13 (ab_br i 5 (ab_br i 1 (ab_lf i 0 (.aload_n 0) 0 0 0) (ab_br i 4 (ab_lf i 1 (.invokespecial 1) 8 0 1) (ab_lf i 4 (.aload_n 0) 0 0 0))) (ab_br i 9 (ab_br i 7 (ab_lf i 5 (.bipush 40) 0 0 0) (ab_lf i 7 (.newarray .int) 0 0 0)) (ab_br i 12 (ab_lf i 9 (.putfield 7) 6 1 3) (ab_lf i 12 (.aload_n 0) 0 0 0)))) (ab_br i 20 (ab_br i 15 (ab_lf i 13 (.bipush 40) 0 0 0) (ab_br i 17 (ab_lf i 15 (.newarray .int) 0 0 0) (ab_lf i 17 (.putfield 13) 6 3 3))) (ab_br i 23 (ab_br i 21 (ab_lf i 20 (.aload_n 0) 0 0 0) (ab_lf i 21 (.bipush 8) 0 0 0)) (ab_br i 25 (ab_lf i 23 (.newarray .boolean) 0 0 0) (ab_lf i 25 (.putfield 16) 6 5 3))))) (ab_br i 42 (ab_br i 34 (ab_br i 29 (ab_lf i 28 (.aload_n 0) 0 0 0) (ab_br i 32 (ab_lf i 29 (.sipush 360) 0 0 0) (ab_lf i 32 (.newarray .int) 0 0 0))) (ab_br i 38 (ab_br i 37 (ab_lf i 34 (.putfield 20) 6 6 3) (ab_lf i 37 (.aload_n 0) 0 0 0)) (ab_br i 40 (ab_lf i 38 (.bipush 9) 0 0 0) (ab_lf i 40 (.newarray .int) 0 0 0)))) (ab_br i 50 (ab_br i 46 (ab_br i 45 (ab_lf i 42 (.putfield 23) 6 7 3) (ab_lf i 45 (.aload_n 0) 0 0 0)) (ab_br i 48 (ab_lf i 46 (.bipush 9) 0 0 0) (ab_lf i 48 (.newarray .int) 0 0 0))) (ab_br i 54 (ab_br i 53 (ab_lf i 50 (.putfield 26) 6 8 3) (ab_lf i 53 (.aload_n 0) 0 0 0)) (ab_br i 56 (ab_lf i 54 (.bipush 9) 0 0 0) (ab_lf i 56 (.newarray .int) 0 0 0)))))) (ab_br i 92 (ab_br i 74 (ab_br i 65 (ab_br i 61 (ab_lf i 58 (.putfield 29) 6 9 3) (ab_br i 62 (ab_lf i 61 (.aload_n 0) 0 0 0) (ab_lf i 62 (.sipush 640) 0 0 0))) (ab_br i 70 (ab_br i 67 (ab_lf i 65 (.newarray .int) 0 0 0) (ab_lf i 67 (.putfield 32) 6 10 3)) (ab_br i 71 (ab_lf i 70 (.aload_n 0) 0 0 0) (ab_lf i 71 (.sipush 640) 0 0 0)))) (ab_br i 83 (ab_br i 79 (ab_br i 76 (ab_lf i 74 (.newarray .int) 0 0 0) (ab_lf i 76 (.putfield 35) 6 11 3)) (ab_br i 80 (ab_lf i 79 (.aload_n 0) 0 0 0) (ab_lf i 80 (.sipush 640) 0 0 0))) (ab_br i 88 (ab_br i 85 (ab_lf i 83 (.newarray .int) 0 0 0) (ab_lf i 85 (.putfield 38) 6 12 3)) (ab_br i 89 (ab_lf i 88 (.aload_n 0) 0 0 0) (ab_lf i 89 (.sipush 640) 0 0 0))))) (ab_br i 107 (ab_br i 98 (ab_br i 94 (ab_lf i 92 (.newarray .int) 0 0 0) (ab_br i 97 (ab_lf i 94 (.putfield 41) 6 13 3) (ab_lf i 97 (.aload_n 0) 0 0 0))) (ab_br i 103 (ab_br i 101 (ab_lf i 98 (.sipush 640) 0 0 0) (ab_lf i 101 (.newarray .int) 0 0 0)) (ab_br i 106 (ab_lf i 103 (.putfield 44) 6 14 3) (ab_lf i 106 (.aload_n 0) 0 0 0)))) (ab_br i 115 (ab_br i 111 (ab_br i 109 (ab_lf i 107 (.bipush 6) 0 0 0) (ab_lf i 109 (.newarray .int) 0 0 0)) (ab_br i 114 (ab_lf i 111 (.putfield 47) 6 19 3) (ab_lf i 114 (.aload_n 0) 0 0 0))) (ab_br i 119 (ab_br i 117 (ab_lf i 115 (.bipush 6) 0 0 0) (ab_lf i 117 (.newarray .int) 0 0 0)) (ab_br i 122 (ab_lf i 119 (.putfield 50) 6 20 3) (ab_lf i 122 (.aload_n 0) 0 0 0))))))) (ab_br i 183 (ab_br i 154 (ab_br i 138 (ab_br i 130 (ab_br i 125 (ab_lf i 123 (.bipush 6) 0 0 0) (ab_br i 127 (ab_lf i 125 (.newarray .int) 0 0 0) (ab_lf i 127 (.putfield 53) 6 21 3))) (ab_br i 133 (ab_br i 131 (ab_lf i 130 (.aload_n 0) 0 0 0) (ab_lf i 131 (.bipush 6) 0 0 0)) (ab_br i 135 (ab_lf i 133 (.newarray .int) 0 0 0) (ab_lf i 135 (.putfield 56) 6 22 3)))) (ab_br i 146 (ab_br i 141 (ab_br i 139 (ab_lf i 138 (.aload_n 0) 0 0 0) (ab_lf i 139 (.bipush 6) 0 0 0)) (ab_br i 143 (ab_lf i 141 (.newarray .int) 0 0 0) (ab_lf i 143 (.putfield 59) 6 23 3))) (ab_br i 149 (ab_br i 147 (ab_lf i 146 (.aload_n 0) 0 0 0) (ab_lf i 147 (.bipush 6) 0 0 0)) (ab_br i 151 (ab_lf i 149 (.newarray .int) 0 0 0) (ab_lf i 151 (.putfield 62) 6 24 3))))) (ab_br i 167 (ab_br i 159 (ab_br i 155 (ab_lf i 154 (.aload_n 0) 0 0 0) (ab_br i 157 (ab_lf i 155 (.bipush 6) 0 0 0) (ab_lf i 157 (.newarray .boolean) 0 0 0))) (ab_br i 163 (ab_br i 162 (ab_lf i 159 (.putfield 65) 6 25 3) (ab_lf i 162 (.aload_n 0) 0 0 0)) (ab_br i 165 (ab_lf i 163 (.bipush 24) 0 0 0) (ab_lf i 165 (.newarray .int) 0 0 0)))) (ab_br i 175 (ab_br i 171 (ab_br i 170 (ab_lf i 167 (.putfield 68) 6 27 3) (ab_lf i 170 (.aload_n 0) 0 0 0)) (ab_br i 173 (ab_lf i 171 (.bipush 24) 0 0 0) (ab_lf i 173 (.newarray .long) 0 0 0))) (ab_br i 179 (ab_br i 178 (ab_lf i 175 (.putfield 71) 6 28 3) (ab_lf i 178 (.aload_n 0) 0 0 0)) (ab_br i 181 (ab_lf i 179 (.bipush 24) 0 0 0) (ab_lf i 181 (.newarray .int) 0 0 0)))))) (ab_br i 213 (ab_br i 197 (ab_br i 189 (ab_br i 186 (ab_lf i 183 (.putfield 75) 6 29 3) (ab_br i 187 (ab_lf i 186 (.aload_n 0) 0 0 0) (ab_lf i 187 (.bipush 24) 0 0 0))) (ab_br i 194 (ab_br i 191 (ab_lf i 189 (.newarray .int) 0 0 0) (ab_lf i 191 (.putfield 78) 6 30 3)) (ab_br i 195 (ab_lf i 194 (.aload_n 0) 0 0 0) (ab_lf i 195 (.bipush 24) 0 0 0)))) (ab_br i 205 (ab_br i 202 (ab_br i 199 (ab_lf i 197 (.newarray .int) 0 0 0) (ab_lf i 199 (.putfield 81) 6 31 3)) (ab_br i 203 (ab_lf i 202 (.aload_n 0) 0 0 0) (ab_lf i 203 (.bipush 8) 0 0 0))) (ab_br i 210 (ab_br i 207 (ab_lf i 205 (.newarray .long) 0 0 0) (ab_lf i 207 (.putfield 84) 6 32 3)) (ab_br i 211 (ab_lf i 210 (.aload_n 0) 0 0 0) (ab_lf i 211 (.bipush 8) 0 0 0))))) (ab_br i 228 (ab_br i 219 (ab_br i 215 (ab_lf i 213 (.newarray .int) 0 0 0) (ab_br i 218 (ab_lf i 215 (.putfield 87) 6 33 3) (ab_lf i 218 (.aload_n 0) 0 0 0))) (ab_br i 224 (ab_br i 222 (ab_lf i 219 (.sipush 12288) 0 0 0) (ab_lf i 222 (.newarray .int) 0 0 0)) (ab_br i 227 (ab_lf i 224 (.putfield 90) 6 34 3) (ab_lf i 227 (.aload_n 0) 0 0 0)))) (ab_br i 236 (ab_br i 232 (ab_br i 230 (ab_lf i 228 (.bipush 64) 0 0 0) (ab_lf i 230 (.newarray .boolean) 0 0 0)) (ab_br i 235 (ab_lf i 232 (.putfield 93) 6 35 3) (ab_lf i 235 (.aload_n 0) 0 0 0))) (ab_br i 240 (ab_br i 238 (ab_lf i 236 (.bipush 64) 0 0 0) (ab_lf i 238 (.newarray .boolean) 0 0 0)) (ab_br i 243 (ab_lf i 240 (.putfield 96) 6 36 3) (ab_lf i 243 (.return_) 0 0 0))))))))
def ab_p74 (i : Nat) : Option (Instr × Nat × Nat × Nat) := (ab_br i 1 (ab_lf i 0 (.aload_n 0) 0 0 0) (ab_br i 4 (ab_lf i 1 (.getfield 99) 6 0 0) (ab_lf i 4 (.ireturn) 0 0 0)))
def ab_p75 (i : Nat) : Option (Instr × Nat × Nat × Nat) := (ab_br i 81 (ab_br i 35 (ab_br i 15 (ab_br i 7 (ab_br i 2 (ab_br i 1 (ab_lf i 0 (.iconst 0) 0 0 0) (ab_lf i 1 (.istore_n 2) 0 0 0)) (ab_br i 3 (ab_lf i 2 (.aload_n 0) 0 0 0) (ab_br i 4 (ab_lf i 3 (.iconst 0) 0 0 0) (ab_lf i 4 (.putfield 99) 6 0 0)))) (ab_br i 10 (ab_br i 8 (ab_lf i 7 (.iconst 1) 0 0 0) (ab_br i 9 (ab_lf i 8 (.istore_n 3) 0 0 0) (ab_lf i 9 (.iconst 0) 0 0 0))) (ab_br i 12 (ab_lf i 10 (.istore 4) 0 0 0) (ab_br i 14 (ab_lf i 12 (.iload 4) 0 0 0) (ab_lf i 14 (.iconst 4) 0 0 0))))) (ab_br i 24 (ab_br i 19 (ab_br i 18 (ab_lf i 15 (.if_icmp .ge 79) 0 0 0) (ab_lf i 18 (.iload_n 1) 0 0 0)) (ab_br i 21 (ab_lf i 19 (.bipush 8) 0 0 0) (ab_br i 23 (ab_lf i 21 (.iload 4) 0 0 0) (ab_lf i 23 (.imul) 0 0 0)))) (ab_br i 29 (ab_br i 25 (ab_lf i 24 (.ishr) 0 0 0) (ab_br i 28 (ab_lf i 25 (.sipush 255) 0 0 0) (ab_lf i 28 (.iand) 0 0 0))) (ab_br i 31 (ab_lf i 29 (.istore 5) 0 0 0) (ab_br i 32 (ab_lf i 31 (.iload_n 3) 0 0 0) (ab_lf i 32 (.ifCond .eq 12) 0 0 0)))))) (ab_br i 55 (ab_br i 45 (ab_br i 40 (ab_br i 37 (ab_lf i 35 (.iload 5) 0 0 0) (ab_lf i 37 (.ifCond .eq 7) 0 0 0)) (ab_br i 41 (ab_lf i 40 (.iconst 1) 0 0 0) (ab_br i 44 (ab_lf i 41 (.goto 4) 0 0 0) (ab_lf i 44 (.iconst 0) 0 0 0)))) (ab_br i 48 (ab_br i 46 (ab_lf i 45 (.istore_n 3) 0 0 0) (ab_br i 47 (ab_lf i 46 (.aload_n 0) 0 0 0) (ab_lf i 47 (.iload_n 3) 0 0 0))) (ab_br i 51 (ab_lf i 48 (.ifCond .eq 21) 0 0 0) (ab_br i 53 (ab_lf i 51 (.iload 5) 0 0 0) (ab_lf i 53 (.bipush 32) 0 0 0))))) (ab_br i 69 (ab_br i 62 (ab_br i 58 (ab_lf i 55 (.if_icmp .lt 10) 0 0 0) (ab_br i 60 (ab_lf i 58 (.iload 5) 0 0 0) (ab_lf i 60 (.bipush 126) 0 0 0))) (ab_br i 65 (ab_lf i 62 (.if_icmp .le 7) 0 0 0) (ab_br i 66 (ab_lf i 65 (.iconst 1) 0 0 0) (ab_lf i 66 (.goto 7) 0 0 0)))) (ab_br i 76 (ab_br i 70 (ab_lf i 69 (.aload_n 0) 0 0 0) (ab_br i 73 (ab_lf i 70 (.getfield 99) 6 0 0) (ab_lf i 73 (.putfield 99) 6 0 0))) (ab_br i 77 (ab_lf i 76 (.iload_n 3) 0 0 0) (ab_br i 80 (ab_lf i 77 (.ifCond .eq 9) 0 0 0) (ab_lf i 80 (.iload_n 2) 0 0 0))))))) (ab_br i 120 (ab_br i 102 (ab_br i 88 (ab_br i 83 (ab_br i 82 (ab_lf i 81 (.iconst 1) 0 0 0) (ab_lf i 82 (.iadd) 0 0 0)) (ab_br i 86 (ab_lf i 83 (.goto 4) 0 0 0) (ab_br i 87 (ab_lf i 86 (.iload_n 2) 0 0 0) (ab_lf i 87 (.istore_n 2) 0 0 0)))) (ab_br i 95 (ab_br i 91 (ab_lf i 88 (.iinc 4 1) 0 0 0) (ab_br i 94 (ab_lf i 91 (.goto (-79)) 0 0 0) (ab_lf i 94 (.aload_n 0) 0 0 0))) (ab_br i 98 (ab_lf i 95 (.getfield 99) 6 0 0) (ab_br i 101 (ab_lf i 98 (.ifCond .gt 14) 0 0 0) (ab_lf i 101 (.aload_n 0) 0 0 0))))) (ab_br i 112 (ab_br i 106 (ab_br i 105 (ab_lf i 102 (.getfield 103) 6 2 0) (ab_lf i 105 (.iload_n 2) 0 0 0)) (ab_br i 107 (ab_lf i 106 (.iadd) 0 0 0) (ab_br i 109 (ab_lf i 107 (.bipush 40) 0 0 0) (ab_lf i 109 (.if_icmp .le 5) 0 0 0)))) (ab_br i 115 (ab_br i 113 (ab_lf i 112 (.iconst 0) 0 0 0) (ab_br i 114 (ab_lf i 113 (.ireturn) 0 0 0) (ab_lf i 114 (.iconst 0) 0 0 0))) (ab_br i 117 (ab_lf i 115 (.istore 4) 0 0 0) (ab_br i 119 (ab_lf i 117 (.iload 4) 0 0 0) (ab_lf i 119 (.iload_n 2) 0 0 0)))))) (ab_br i 141 (ab_br i 131 (ab_br i 124 (ab_br i 123 (ab_lf i 120 (.if_icmp .ge 39) 0 0 0) (ab_lf i 123 (.aload_n 0) 0 0 0)) (ab_br i 127 (ab_lf i 124 (.getfield 7) 6 1 3) (ab_br i 128 (ab_lf i 127 (.aload_n 0) 0 0 0) (ab_lf i 128 (.getfield 103) 6 2 0)))) (ab_br i 136 (ab_br i 132 (ab_lf i 131 (.iload_n 1) 0 0 0) (ab_br i 134 (ab_lf i 132 (.bipush 8) 0 0 0) (ab_lf i 134 (.iload 4) 0 0 0))) (ab_br i 137 (ab_lf i 136 (.imul) 0 0 0) (ab_br i 138 (ab_lf i 137 (.ishr) 0 0 0) (ab_lf i 138 (.sipush 255) 0 0 0))))) (ab_br i 149 (ab_br i 144 (ab_br i 142 (ab_lf i 141 (.iand) 0 0 0) (ab_br i 143 (ab_lf i 142 (.iastore) 0 0 0) (ab_lf i 143 (.aload_n 0) 0 0 0))) (ab_br i 145 (ab_lf i 144 (.dup) 0 0 0) (ab_br i 148 (ab_lf i 145 (.getfield 103) 6 2 0) (ab_lf i 148 (.iconst 1) 0 0 0)))) (ab_br i 156 (ab_br i 150 (ab_lf i 149 (.iadd) 0 0 0) (ab_br i 153 (ab_lf i 150 (.putfield 103) 6 2 0) (ab_lf i 153 (.iinc 4 1) 0 0 0))) (ab_br i 159 (ab_lf i 156 (.goto (-39)) 0 0 0) (ab_br i 160 (ab_lf i 159 (.iconst 1) 0 0 0) (ab_lf i 160 (.ireturn) 0 0 0))))))))
def ab_p76 (i : Nat) : Option (Instr × Nat × Nat × Nat) := (ab_br i 39 (ab_br i 20 (ab_br i 7 (ab_br i 2 (ab_br i 1 (ab_lf i 0 (.aload_n 0) 0 0 0) (ab_lf i 1 (.iconst 0) 0 0 0)) (ab_br i 5 (ab_lf i 2 (.putfield 99) 6 0 0) (ab_br i 6 (ab_lf i 5 (.iload_n 3) 0 0 0) (ab_lf i 6 (.iconst 1) 0 0 0)))) (ab_br i 13 (ab_br i 10 (ab_lf i 7 (.if_icmp .lt 20) 0 0 0) (ab_br i 11 (ab_lf i 10 (.iload_n 3) 0 0 0) (ab_lf i 11 (.bipush 8) 0 0 0))) (ab_br i 16 (ab_lf i 13 (.if_icmp .gt 14) 0 0 0) (ab_br i 17 (ab_lf i 16 (.aload_n 0) 0 0 0) (ab_lf i 17 (.getfield 106) 6 4 0))))) (ab_br i 29 (ab_br i 24 (ab_br i 21 (ab_lf i 20 (.iload_n 3) 0 0 0) (ab_br i 22 (ab_lf i 21 (.iadd) 0 0 0) (ab_lf i 22 (.bipush 40) 0 0 0))) (ab_br i 27 (ab_lf i 24 (.if_icmp .le 5) 0 0 0) (ab_br i 28 (ab_lf i 27 (.iconst (-1)) 0 0 0) (ab_lf i 28 (.ireturn) 0 0 0)))) (ab_br i 34 (ab_br i 30 (ab_lf i 29 (.iconst 0) 0 0 0) (ab_br i 32 (ab_lf i 30 (.istore 4) 0 0 0) (ab_lf i 32 (.iload 4) 0 0 0))) (ab_br i 35 (ab_lf i 34 (.iload_n 3) 0 0 0) (ab_br i 38 (ab_lf i 35 (.if_icmp .ge 40) 0 0 0) (ab_lf i 38 (.aload_n 0) 0 0 0)))))) (ab_br i 58 (ab_br i 49 (ab_br i 43 (ab_br i 42 (ab_lf i 39 (.getfield 13) 6 3 3) (ab_lf i 42 (.aload_n 0) 0 0 0)) (ab_br i 46 (ab_lf i 43 (.getfield 106) 6 4 0) (ab_br i 47 (ab_lf i 46 (.lload_n 1) 0 0 0) (ab_lf i 47 (.bipush 8) 0 0 0)))) (ab_br i 53 (ab_br i 51 (ab_lf i 49 (.iload 4) 0 0 0) (ab_br i 52 (ab_lf i 51 (.imul) 0 0 0) (ab_lf i 52 (.lshr) 0 0 0))) (ab_br i 56 (ab_lf i 53 (.ldc2_w 109) 0 0 0) (ab_br i 57 (ab_lf i 56 (.land) 0 0 0) (ab_lf i 57 (.l2i) 0 0 0))))) (ab_br i 66 (ab_br i 61 (ab_br i 59 (ab_lf i 58 (.iastore) 0 0 0) (ab_br i 60 (ab_lf i 59 (.aload_n 0) 0 0 0) (ab_lf i 60 (.dup) 0 0 0))) (ab_br i 64 (ab_lf i 61 (.getfield 106) 6 4 0) (ab_br i 65 (ab_lf i 64 (.iconst 1) 0 0 0) (ab_lf i 65 (.iadd) 0 0 0)))) (ab_br i 75 (ab_br i 69 (ab_lf i 66 (.putfield 106) 6 4 0) (ab_br i 72 (ab_lf i 69 (.iinc 4 1) 0 0 0) (ab_lf i 72 (.goto (-40)) 0 0 0))) (ab_br i 76 (ab_lf i 75 (.aload_n 0) 0 0 0) (ab_br i 79 (ab_lf i 76 (.getfield 106) 6 4 0) (ab_lf i 79 (.ireturn) 0 0 0)))))))
def ab_p77 (i : Nat) : Option (Instr × Nat × Nat × Nat) := (ab_br i 9 (ab_br i 2 (ab_br i 1 (ab_lf i 0 (.aload_n 0) 0 0 0) (ab_lf i 1 (.iconst 0) 0 0 0)) (ab_br i 5 (ab_lf i 2 (.putfield 99) 6 0 0) (ab_br i 6 (ab_lf i 5 (.aload_n 0) 0 0 0) (ab_lf i 6 (.getfield 106) 6 4 0)))) (ab_br i 12 (ab_br i 10 (ab_lf i 9 (.istore_n 1) 0 0 0) (ab_br i 11 (ab_lf i 10 (.aload_n 0) 0 0 0) (ab_lf i 11 (.iconst 0) 0 0 0))) (ab_br i 15 (ab_lf i 12 (.putfield 106) 6 4 0) (ab_br i 16 (ab_lf i 15 (.iload_n 1) 0 0 0) (ab_lf i 16 (.ireturn) 0 0 0)))))
def ab_p78 (i : Nat) : Option (Instr × Nat × Nat × Nat) := (ab_br i 12 (ab_br i 5 (ab_br i 1 (ab_lf i 0 (.aload_n 0) 0 0 0) (ab_br i 4 (ab_lf i 1 (.getfield 111) 6 15 0) (ab_lf i 4 (.aload_n 0) 0 0 0))) (ab_br i 8 (ab_lf i 5 (.getfield 103) 6 2 0) (ab_br i 11 (ab_lf i 8 (.if_icmp .ge 15) 0 0 0) (ab_lf i 11 (.aload_n 0) 0 0 0)))) (ab_br i 19 (ab_br i 15 (ab_lf i 12 (.getfield 7) 6 1 3) (ab_br i 16 (ab_lf i 15 (.aload_n 0) 0 0 0) (ab_lf i 16 (.getfield 111) 6 15 0))) (ab_br i 23 (ab_br i 20 (ab_lf i 19 (.iaload) 0 0 0) (ab_lf i 20 (.goto 4) 0 0 0)) (ab_br i 24 (ab_lf i 23 (.iconst 0) 0 0 0) (ab_lf i 24 (.ireturn) 0 0 0)))))
def ab_p79 (i : Nat) : Option (Instr × Nat × Nat × Nat) := (ab_br i 13 (ab_br i 5 (ab_br i 1 (ab_lf i 0 (.aload_n 0) 0 0 0) (ab_br i 4 (ab_lf i 1 (.invokevirtual 114) 0 78 1) (ab_lf i 4 (.iload_n 1) 0 0 0))) (ab_br i 9 (ab_br i 8 (ab_lf i 5 (.if_icmp .ne 15) 0 0 0) (ab_lf i 8 (.aload_n 0) 0 0 0)) (ab_br i 10 (ab_lf i 9 (.dup) 0 0 0) (ab_lf i 10 (.getfield 111) 6 15 0)))) (ab_br i 18 (ab_br i 14 (ab_lf i 13 (.iconst 1) 0 0 0) (ab_br i 15 (ab_lf i 14 (.iadd) 0 0 0) (ab_lf i 15 (.putfield 111) 6 15 0))) (ab_br i 20 (ab_br i 19 (ab_lf i 18 (.iconst 1) 0 0 0) (ab_lf i 19 (.ireturn) 0 0 0)) (ab_br i 21 (ab_lf i 20 (.iconst 0) 0 0 0) (ab_lf i 21 (.ireturn) 0 0 0)))))
def ab_p80 (i : Nat) : Option (Instr × Nat × Nat × Nat) := (ab_br i 9 (ab_br i 3 (ab_br i 1 (ab_lf i 0 (.iload_n 0) 0 0 0) (ab_lf i 1 (.bipush 48) 0 0 0)) (ab_br i 6 (ab_lf i 3 (.if_icmp .lt 13) 0 0 0) (ab_br i 7 (ab_lf i 6 (.iload_n 0) 0 0 0) (ab_lf i 7 (.bipush 57) 0 0 0)))) (ab_br i 13 (ab_br i 12 (ab_lf i 9 (.if_icmp .gt 7) 0 0 0) (ab_lf i 12 (.iconst 1) 0 0 0)) (ab_br i 16 (ab_lf i 13 (.goto 4) 0 0 0) (ab_br i 17 (ab_lf i 16 (.iconst 0) 0 0 0) (ab_lf i 17 (.ireturn) 0 0 0)))))
def ab_p81 (i : Nat) : Option (Instr × Nat × Nat × Nat) := (ab_br i 33 (ab_br i 19 (ab_br i 10 (ab_br i 4 (ab_br i 3 (ab_lf i 0 (.sipush 512) 0 0 0) (ab_lf i 3 (.aload_n 0) 0 0 0)) (ab_br i 7 (ab_lf i 4 (.getfield 23) 6 7 3) (ab_br i 9 (ab_lf i 7 (.bipush 8) 0 0 0) (ab_lf i 9 (.iaload) 0 0 0)))) (ab_br i 13 (ab_br i 11 (ab_lf i 10 (.iadd) 0 0 0) (ab_lf i 11 (.istore 4) 0 0 0)) (ab_br i 14 (ab_lf i 13 (.aload_n 0) 0 0 0) (ab_br i 17 (ab_lf i 14 (.getfield 23) 6 7 3) (ab_lf i 17 (.bipush 8) 0 0 0))))) (ab_br i 24 (ab_br i 21 (ab_br i 20 (ab_lf i 19 (.dup2) 0 0 0) (ab_lf i 20 (.iaload) 0 0 0)) (ab_br i 22 (ab_lf i 21 (.iconst 1) 0 0 0) (ab_br i 23 (ab_lf i 22 (.iadd) 0 0 0) (ab_lf i 23 (.iastore) 0 0 0)))) (ab_br i 30 (ab_br i 25 (ab_lf i 24 (.aload_n 0) 0 0 0) (ab_br i 28 (ab_lf i 25 (.getfield 32) 6 10 3) (ab_lf i 28 (.iload 4) 0 0 0))) (ab_br i 31 (ab_lf i 30 (.iload_n 1) 0 0 0) (ab_br i 32 (ab_lf i 31 (.iastore) 0 0 0) (ab_lf i 32 (.aload_n 0) 0 0 0)))))) (ab_br i 49 (ab_br i 41 (ab_br i 38 (ab_br i 36 (ab_lf i 33 (.getfield 35) 6 11 3) (ab_lf i 36 (.iload 4) 0 0 0)) (ab_br i 39 (ab_lf i 38 (.iload_n 2) 0 0 0) (ab_br i 40 (ab_lf i 39 (.iastore) 0 0 0) (ab_lf i 40 (.aload_n 0) 0 0 0)))) (ab_br i 46 (ab_br i 44 (ab_lf i 41 (.getfield 38) 6 12 3) (ab_lf i 44 (.iload 4) 0 0 0)) (ab_br i 47 (ab_lf i 46 (.iload_n 3) 0 0 0) (ab_br i 48 (ab_lf i 47 (.iastore) 0 0 0) (ab_lf i 48 (.aload_n 0) 0 0 0))))) (ab_br i 57 (ab_br i 54 (ab_br i 52 (ab_lf i 49 (.getfield 41) 6 13 3) (ab_lf i 52 (.iload 4) 0 0 0)) (ab_br i 55 (ab_lf i 54 (.iconst (-1)) 0 0 0) (ab_br i 56 (ab_lf i 55 (.iastore) 0 0 0) (ab_lf i 56 (.aload_n 0) 0 0 0)))) (ab_br i 63 (ab_br i 60 (ab_lf i 57 (.getfield 44) 6 14 3) (ab_br i 62 (ab_lf i 60 (.iload 4) 0 0 0) (ab_lf i 62 (.iconst 0) 0 0 0))) (ab_br i 64 (ab_lf i 63 (.iastore) 0 0 0) (ab_br i 66 (ab_lf i 64 (.iload 4) 0 0 0) (ab_lf i 66 (.ireturn) 0 0 0)))))))
def ab_p82 (i : Nat) : Option (Instr × Nat × Nat × Nat) := (ab_br i 48 (ab_br i 24 (ab_br i 13 (ab_br i 5 (ab_br i 1 (ab_lf i 0 (.aload_n 0) 0 0 0) (ab_br i 4 (ab_lf i 1 (.getfield 118) 6 17 0) (ab_lf i 4 (.iconst 4) 0 0 0))) (ab_br i 9 (ab_br i 8 (ab_lf i 5 (.if_icmp .ne 9) 0 0 0) (ab_lf i 8 (.aload_n 0) 0 0 0)) (ab_br i 10 (ab_lf i 9 (.iconst 1) 0 0 0) (ab_lf i 10 (.putfield 121) 6 16 1)))) (ab_br i 16 (ab_br i 14 (ab_lf i 13 (.return_) 0 0 0) (ab_br i 15 (ab_lf i 14 (.aload_n 0) 0 0 0) (ab_lf i 15 (.dup) 0 0 0))) (ab_br i 20 (ab_br i 19 (ab_lf i 16 (.getfield 118) 6 17 0) (ab_lf i 19 (.iconst 1) 0 0 0)) (ab_br i 21 (ab_lf i 20 (.iadd) 0 0 0) (ab_lf i 21 (.putfield 118) 6 17 0))))) (ab_br i 35 (ab_br i 29 (ab_br i 25 (ab_lf i 24 (.aload_n 0) 0 0 0) (ab_br i 28 (ab_lf i 25 (.getfield 47) 6 19 3) (ab_lf i 28 (.aload_n 0) 0 0 0))) (ab_br i 33 (ab_br i 32 (ab_lf i 29 (.getfield 118) 6 17 0) (ab_lf i 32 (.iload_n 1) 0 0 0)) (ab_br i 34 (ab_lf i 33 (.iastore) 0 0 0) (ab_lf i 34 (.aload_n 0) 0 0 0)))) (ab_br i 42 (ab_br i 38 (ab_lf i 35 (.getfield 50) 6 20 3) (ab_br i 39 (ab_lf i 38 (.aload_n 0) 0 0 0) (ab_lf i 39 (.getfield 118) 6 17 0))) (ab_br i 44 (ab_br i 43 (ab_lf i 42 (.iload_n 2) 0 0 0) (ab_lf i 43 (.iastore) 0 0 0)) (ab_br i 45 (ab_lf i 44 (.aload_n 0) 0 0 0) (ab_lf i 45 (.getfield 53) 6 21 3)))))) (ab_br i 72 (ab_br i 59 (ab_br i 53 (ab_br i 49 (ab_lf i 48 (.aload_n 0) 0 0 0) (ab_br i 52 (ab_lf i 49 (.getfield 118) 6 17 0) (ab_lf i 52 (.iload_n 2) 0 0 0))) (ab_br i 55 (ab_br i 54 (ab_lf i 53 (.iastore) 0 0 0) (ab_lf i 54 (.aload_n 0) 0 0 0)) (ab_br i 58 (ab_lf i 55 (.getfield 56) 6 22 3) (ab_lf i 58 (.aload_n 0) 0 0 0)))) (ab_br i 64 (ab_br i 62 (ab_lf i 59 (.getfield 118) 6 17 0) (ab_br i 63 (ab_lf i 62 (.iconst (-1)) 0 0 0) (ab_lf i 63 (.iastore) 0 0 0))) (ab_br i 68 (ab_br i 65 (ab_lf i 64 (.aload_n 0) 0 0 0) (ab_lf i 65 (.getfield 59) 6 23 3)) (ab_br i 69 (ab_lf i 68 (.aload_n 0) 0 0 0) (ab_lf i 69 (.getfield 118) 6 17 0))))) (ab_br i 83 (ab_br i 75 (ab_br i 73 (ab_lf i 72 (.iconst (-1)) 0 0 0) (ab_br i 74 (ab_lf i 73 (.iastore) 0 0 0) (ab_lf i 74 (.aload_n 0) 0 0 0))) (ab_br i 79 (ab_br i 78 (ab_lf i 75 (.getfield 62) 6 24 3) (ab_lf i 78 (.aload_n 0) 0 0 0)) (ab_br i 82 (ab_lf i 79 (.getfield 118) 6 17 0) (ab_lf i 82 (.iconst 0) 0 0 0)))) (ab_br i 89 (ab_br i 85 (ab_br i 84 (ab_lf i 83 (.iastore) 0 0 0) (ab_lf i 84 (.aload_n 0) 0 0 0)) (ab_br i 88 (ab_lf i 85 (.getfield 65) 6 25 3) (ab_lf i 88 (.aload_n 0) 0 0 0))) (ab_br i 93 (ab_br i 92 (ab_lf i 89 (.getfield 118) 6 17 0) (ab_lf i 92 (.iconst 0) 0 0 0)) (ab_br i 94 (ab_lf i 93 (.bastore) 0 0 0) (ab_lf i 94 (.return_) 0 0 0)))))))
def ab_p83 (i : Nat) : Option (Instr × Nat × Nat × Nat) := (ab_br i 17 (ab_br i 8 (ab_br i 3 (ab_br i 1 (ab_lf i 0 (.aload_n 0) 0 0 0) (ab_lf i 1 (.bipush 11) 0 0 0)) (ab_br i 4 (ab_lf i 3 (.iconst (-1)) 0 0 0) (ab_br i 5 (ab_lf i 4 (.iconst 0) 0 0 0) (ab_lf i 5 (.invokevirtual 125) 0 81 4)))) (ab_br i 10 (ab_br i 9 (ab_lf i 8 (.istore_n 1) 0 0 0) (ab_lf i 9 (.aload_n 0) 0 0 0)) (ab_br i 13 (ab_lf i 10 (.getfield 53) 6 21 3) (ab_br i 14 (ab_lf i 13 (.aload_n 0) 0 0 0) (ab_lf i 14 (.getfield 118) 6 17 0))))) (ab_br i 24 (ab_br i 19 (ab_br i 18 (ab_lf i 17 (.iload_n 1) 0 0 0) (ab_lf i 18 (.iastore) 0 0 0)) (ab_br i 20 (ab_lf i 19 (.aload_n 0) 0 0 0) (ab_br i 23 (ab_lf i 20 (.getfield 59) 6 23 3) (ab_lf i 23 (.aload_n 0) 0 0 0)))) (ab_br i 28 (ab_br i 27 (ab_lf i 24 (.getfield 118) 6 17 0) (ab_lf i 27 (.iconst (-1)) 0 0 0)) (ab_br i 29 (ab_lf i 28 (.iastore) 0 0 0) (ab_br i 30 (ab_lf i 29 (.iload_n 1) 0 0 0) (ab_lf i 30 (.ireturn) 0 0 0))))))
def ab_p84 (i : Nat) : Option (Instr × Nat × Nat × Nat) := (ab_br i 108 (ab_br i 52 (ab_br i 22 (ab_br i 11 (ab_br i 5 (ab_br i 1 (ab_lf i 0 (.aload_n 0) 0 0 0) (ab_br i 4 (ab_lf i 1 (.getfield 62) 6 24 3) (ab_lf i 4 (.aload_n 0) 0 0 0))) (ab_br i 9 (ab_br i 8 (ab_lf i 5 (.getfield 118) 6 17 0) (ab_lf i 8 (.dup2) 0 0 0)) (ab_br i 10 (ab_lf i 9 (.iaload) 0 0 0) (ab_lf i 10 (.iconst 1) 0 0 0)))) (ab_br i 14 (ab_br i 12 (ab_lf i 11 (.iadd) 0 0 0) (ab_br i 13 (ab_lf i 12 (.iastore) 0 0 0) (ab_lf i 13 (.aload_n 0) 0 0 0))) (ab_br i 18 (ab_br i 15 (ab_lf i 14 (.aload_n 0) 0 0 0) (ab_lf i 15 (.getfield 121) 6 16 1)) (ab_br i 21 (ab_lf i 18 (.ifCond .ne 17) 0 0 0) (ab_lf i 21 (.aload_n 0) 0 0 0))))) (ab_br i 36 (ab_br i 29 (ab_br i 25 (ab_lf i 22 (.getfield 62) 6 24 3) (ab_br i 26 (ab_lf i 25 (.aload_n 0) 0 0 0) (ab_lf i 26 (.getfield 118) 6 17 0))) (ab_br i 32 (ab_br i 30 (ab_lf i 29 (.iaload) 0 0 0) (ab_lf i 30 (.bipush 6) 0 0 0)) (ab_br i 35 (ab_lf i 32 (.if_icmp .le 7) 0 0 0) (ab_lf i 35 (.iconst 1) 0 0 0)))) (ab_br i 44 (ab_br i 40 (ab_br i 39 (ab_lf i 36 (.goto 4) 0 0 0) (ab_lf i 39 (.iconst 0) 0 0 0)) (ab_br i 43 (ab_lf i 40 (.putfield 121) 6 16 1) (ab_lf i 43 (.aload_n 0) 0 0 0))) (ab_br i 48 (ab_br i 47 (ab_lf i 44 (.getfield 47) 6 19 3) (ab_lf i 47 (.aload_n 0) 0 0 0)) (ab_br i 51 (ab_lf i 48 (.getfield 118) 6 17 0) (ab_lf i 51 (.iaload) 0 0 0)))))) (ab_br i 80 (ab_br i 64 (ab_br i 58 (ab_br i 54 (ab_lf i 52 (.bipush 91) 0 0 0) (ab_br i 57 (ab_lf i 54 (.if_icmp .ne 7) 0 0 0) (ab_lf i 57 (.iconst 1) 0 0 0))) (ab_br i 62 (ab_br i 61 (ab_lf i 58 (.goto 4) 0 0 0) (ab_lf i 61 (.iconst 0) 0 0 0)) (ab_br i 63 (ab_lf i 62 (.istore_n 1) 0 0 0) (ab_lf i 63 (.aload_n 0) 0 0 0)))) (ab_br i 73 (ab_br i 68 (ab_br i 65 (ab_lf i 64 (.iload_n 1) 0 0 0) (ab_lf i 65 (.ifCond .eq 8) 0 0 0)) (ab_br i 70 (ab_lf i 68 (.bipush 13) 0 0 0) (ab_lf i 70 (.goto 5) 0 0 0))) (ab_br i 76 (ab_br i 75 (ab_lf i 73 (.bipush 14) 0 0 0) (ab_lf i 75 (.iconst (-1)) 0 0 0)) (ab_br i 77 (ab_lf i 76 (.iconst (-1)) 0 0 0) (ab_lf i 77 (.invokevirtual 125) 0 81 4))))) (ab_br i 92 (ab_br i 85 (ab_br i 81 (ab_lf i 80 (.istore_n 2) 0 0 0) (ab_br i 82 (ab_lf i 81 (.aload_n 0) 0 0 0) (ab_lf i 82 (.invokevirtual 114) 0 78 1))) (ab_br i 87 (ab_br i 86 (ab_lf i 85 (.istore_n 3) 0 0 0) (ab_lf i 86 (.iload_n 3) 0 0 0)) (ab_br i 89 (ab_lf i 87 (.bipush 63) 0 0 0) (ab_lf i 89 (.if_icmp .eq 15) 0 0 0)))) (ab_br i 99 (ab_br i 95 (ab_br i 93 (ab_lf i 92 (.iload_n 3) 0 0 0) (ab_lf i 93 (.bipush 42) 0 0 0)) (ab_br i 98 (ab_lf i 95 (.if_icmp .eq 9) 0 0 0) (ab_lf i 98 (.iload_n 3) 0 0 0))) (ab_br i 104 (ab_br i 101 (ab_lf i 99 (.bipush 43) 0 0 0) (ab_lf i 101 (.if_icmp .ne 20) 0 0 0)) (ab_br i 105 (ab_lf i 104 (.aload_n 0) 0 0 0) (ab_lf i 105 (.getfield 44) 6 14 3))))))) (ab_br i 159 (ab_br i 130 (ab_br i 117 (ab_br i 111 (ab_br i 109 (ab_lf i 108 (.iload_n 2) 0 0 0) (ab_br i 110 (ab_lf i 109 (.iload_n 3) 0 0 0) (ab_lf i 110 (.iastore) 0 0 0))) (ab_br i 113 (ab_br i 112 (ab_lf i 111 (.aload_n 0) 0 0 0) (ab_lf i 112 (.dup) 0 0 0)) (ab_br i 116 (ab_lf i 113 (.getfield 111) 6 15 0) (ab_lf i 116 (.iconst 1) 0 0 0)))) (ab_br i 122 (ab_br i 118 (ab_lf i 117 (.iadd) 0 0 0) (ab_br i 121 (ab_lf i 118 (.putfield 111) 6 15 0) (ab_lf i 121 (.aload_n 0) 0 0 0))) (ab_br i 126 (ab_br i 125 (ab_lf i 122 (.getfield 56) 6 22 3) (ab_lf i 125 (.aload_n 0) 0 0 0)) (ab_br i 129 (ab_lf i 126 (.getfield 118) 6 17 0) (ab_lf i 129 (.iaload) 0 0 0))))) (ab_br i 145 (ab_br i 137 (ab_br i 133 (ab_lf i 130 (.ifCond .ge 21) 0 0 0) (ab_br i 134 (ab_lf i 133 (.aload_n 0) 0 0 0) (ab_lf i 134 (.getfield 35) 6 11 3))) (ab_br i 141 (ab_br i 138 (ab_lf i 137 (.aload_n 0) 0 0 0) (ab_lf i 138 (.getfield 50) 6 20 3)) (ab_br i 142 (ab_lf i 141 (.aload_n 0) 0 0 0) (ab_lf i 142 (.getfield 118) 6 17 0)))) (ab_br i 151 (ab_br i 147 (ab_br i 146 (ab_lf i 145 (.iaload) 0 0 0) (ab_lf i 146 (.iload_n 2) 0 0 0)) (ab_br i 148 (ab_lf i 147 (.iastore) 0 0 0) (ab_lf i 148 (.goto 18) 0 0 0))) (ab_br i 155 (ab_br i 152 (ab_lf i 151 (.aload_n 0) 0 0 0) (ab_lf i 152 (.getfield 41) 6 13 3)) (ab_br i 156 (ab_lf i 155 (.aload_n 0) 0 0 0) (ab_lf i 156 (.getfield 56) 6 22 3)))))) (ab_br i 184 (ab_br i 170 (ab_br i 164 (ab_br i 160 (ab_lf i 159 (.aload_n 0) 0 0 0) (ab_br i 163 (ab_lf i 160 (.getfield 118) 6 17 0) (ab_lf i 163 (.iaload) 0 0 0))) (ab_br i 166 (ab_br i 165 (ab_lf i 164 (.iload_n 2) 0 0 0) (ab_lf i 165 (.iastore) 0 0 0)) (ab_br i 167 (ab_lf i 166 (.aload_n 0) 0 0 0) (ab_lf i 167 (.getfield 56) 6 22 3)))) (ab_br i 176 (ab_br i 174 (ab_br i 171 (ab_lf i 170 (.aload_n 0) 0 0 0) (ab_lf i 171 (.getfield 118) 6 17 0)) (ab_br i 175 (ab_lf i 174 (.iload_n 2) 0 0 0) (ab_lf i 175 (.iastore) 0 0 0))) (ab_br i 180 (ab_br i 177 (ab_lf i 176 (.aload_n 0) 0 0 0) (ab_lf i 177 (.getfield 65) 6 25 3)) (ab_br i 181 (ab_lf i 180 (.aload_n 0) 0 0 0) (ab_lf i 181 (.getfield 118) 6 17 0))))) (ab_br i 195 (ab_br i 189 (ab_br i 185 (ab_lf i 184 (.iload_n 1) 0 0 0) (ab_br i 188 (ab_lf i 185 (.ifCond .ne 7) 0 0 0) (ab_lf i 188 (.iconst 1) 0 0 0))) (ab_br i 193 (ab_br i 192 (ab_lf i 189 (.goto 4) 0 0 0) (ab_lf i 192 (.iconst 0) 0 0 0)) (ab_br i 194 (ab_lf i 193 (.bastore) 0 0 0) (ab_lf i 194 (.iload_n 1) 0 0 0)))) (ab_br i 203 (ab_br i 199 (ab_br i 198 (ab_lf i 195 (.ifCond .eq 13) 0 0 0) (ab_lf i 198 (.aload_n 0) 0 0 0)) (ab_br i 202 (ab_lf i 199 (.getfield 38) 6 12 3) (ab_lf i 202 (.iload_n 2) 0 0 0))) (ab_br i 207 (ab_br i 204 (ab_lf i 203 (.aload_n 0) 0 0 0) (ab_lf i 204 (.invokevirtual 129) 0 83 1)) (ab_br i 208 (ab_lf i 207 (.iastore) 0 0 0) (ab_lf i 208 (.return_) 0 0 0))))))))
def ab_p85 (i : Nat) : Option (Instr × Nat × Nat × Nat) := (ab_br i 51 (ab_br i 25 (ab_br i 12 (ab_br i 5 (ab_br i 1 (ab_lf i 0 (.aload_n 0) 0 0 0) (ab_br i 4 (ab_lf i 1 (.getfield 65) 6 25 3) (ab_lf i 4 (.aload_n 0) 0 0 0))) (ab_br i 8 (ab_lf i 5 (.getfield 118) 6 17 0) (ab_br i 9 (ab_lf i 8 (.baload) 0 0 0) (ab_lf i 9 (.ifCond .eq 21) 0 0 0)))) (ab_br i 17 (ab_br i 13 (ab_lf i 12 (.aload_n 0) 0 0 0) (ab_br i 16 (ab_lf i 13 (.getfield 35) 6 11 3) (ab_lf i 16 (.aload_n 0) 0 0 0))) (ab_br i 21 (ab_br i 20 (ab_lf i 17 (.getfield 56) 6 22 3) (ab_lf i 20 (.aload_n 0) 0 0 0)) (ab_br i 24 (ab_lf i 21 (.getfield 118) 6 17 0) (ab_lf i 24 (.iaload) 0 0 0))))) (ab_br i 38 (ab_br i 30 (ab_br i 26 (ab_lf i 25 (.iload_n 1) 0 0 0) (ab_br i 27 (ab_lf i 26 (.iastore) 0 0 0) (ab_lf i 27 (.goto 68) 0 0 0))) (ab_br i 34 (ab_br i 31 (ab_lf i 30 (.aload_n 0) 0 0 0) (ab_lf i 31 (.getfield 59) 6 23 3)) (ab_br i 35 (ab_lf i 34 (.aload_n 0) 0 0 0) (ab_lf i 35 (.getfield 118) 6 17 0)))) (ab_br i 43 (ab_br i 39 (ab_lf i 38 (.iaload) 0 0 0) (ab_br i 42 (ab_lf i 39 (.ifCond .ge 31) 0 0 0) (ab_lf i 42 (.aload_n 0) 0 0 0))) (ab_br i 47 (ab_br i 46 (ab_lf i 43 (.getfield 35) 6 11 3) (ab_lf i 46 (.aload_n 0) 0 0 0)) (ab_br i 50 (ab_lf i 47 (.getfield 53) 6 21 3) (ab_lf i 50 (.aload_n 0) 0 0 0)))))) (ab_br i 74 (ab_br i 61 (ab_br i 56 (ab_br i 54 (ab_lf i 51 (.getfield 118) 6 17 0) (ab_br i 55 (ab_lf i 54 (.iaload) 0 0 0) (ab_lf i 55 (.iload_n 1) 0 0 0))) (ab_br i 57 (ab_lf i 56 (.iastore) 0 0 0) (ab_br i 58 (ab_lf i 57 (.aload_n 0) 0 0 0) (ab_lf i 58 (.getfield 59) 6 23 3)))) (ab_br i 66 (ab_br i 62 (ab_lf i 61 (.aload_n 0) 0 0 0) (ab_br i 65 (ab_lf i 62 (.getfield 118) 6 17 0) (ab_lf i 65 (.iload_n 1) 0 0 0))) (ab_br i 70 (ab_br i 67 (ab_lf i 66 (.iastore) 0 0 0) (ab_lf i 67 (.goto 28) 0 0 0)) (ab_br i 71 (ab_lf i 70 (.aload_n 0) 0 0 0) (ab_lf i 71 (.getfield 41) 6 13 3))))) (ab_br i 85 (ab_br i 79 (ab_br i 75 (ab_lf i 74 (.aload_n 0) 0 0 0) (ab_br i 78 (ab_lf i 75 (.getfield 59) 6 23 3) (ab_lf i 78 (.aload_n 0) 0 0 0))) (ab_br i 83 (ab_br i 82 (ab_lf i 79 (.getfield 118) 6 17 0) (ab_lf i 82 (.iaload) 0 0 0)) (ab_br i 84 (ab_lf i 83 (.iload_n 1) 0 0 0) (ab_lf i 84 (.iastore) 0 0 0)))) (ab_br i 90 (ab_br i 86 (ab_lf i 85 (.aload_n 0) 0 0 0) (ab_br i 89 (ab_lf i 86 (.getfield 59) 6 23 3) (ab_lf i 89 (.aload_n 0) 0 0 0))) (ab_br i 94 (ab_br i 93 (ab_lf i 90 (.getfield 118) 6 17 0) (ab_lf i 93 (.iload_n 1) 0 0 0)) (ab_br i 95 (ab_lf i 94 (.iastore) 0 0 0) (ab_lf i 95 (.return_) 0 0 0)))))))
def ab_p86 (i : Nat) : Option (Instr × Nat × Nat × Nat) := (ab_br i 20 (ab_br i 6 (ab_br i 3 (ab_br i 1 (ab_lf i 0 (.iconst 1) 0 0 0) (ab_br i 2 (ab_lf i 1 (.istore_n 1) 0 0 0) (ab_lf i 2 (.iconst 1) 0 0 0))) (ab_br i 4 (ab_lf i 3 (.istore_n 2) 0 0 0) (ab_br i 5 (ab_lf i 4 (.iload_n 2) 0 0 0) (ab_lf i 5 (.aload_n 0) 0 0 0)))) (ab_br i 13 (ab_br i 9 (ab_lf i 6 (.getfield 118) 6 17 0) (ab_br i 12 (ab_lf i 9 (.if_icmp .gt 30) 0 0 0) (ab_lf i 12 (.iload_n 1) 0 0 0))) (ab_br i 16 (ab_lf i 13 (.ifCond .eq 18) 0 0 0) (ab_br i 17 (ab_lf i 16 (.aload_n 0) 0 0 0) (ab_lf i 17 (.getfield 47) 6 19 3))))) (ab_br i 31 (ab_br i 24 (ab_br i 21 (ab_lf i 20 (.iload_n 2) 0 0 0) (ab_br i 22 (ab_lf i 21 (.iaload) 0 0 0) (ab_lf i 22 (.bipush 40) 0 0 0))) (ab_br i 27 (ab_lf i 24 (.if_icmp .ne 7) 0 0 0) (ab_br i 28 (ab_lf i 27 (.iconst 1) 0 0 0) (ab_lf i 28 (.goto 4) 0 0 0)))) (ab_br i 36 (ab_br i 32 (ab_lf i 31 (.iconst 0) 0 0 0) (ab_br i 33 (ab_lf i 32 (.istore_n 1) 0 0 0) (ab_lf i 33 (.iinc 2 1) 0 0 0))) (ab_br i 39 (ab_lf i 36 (.goto (-32)) 0 0 0) (ab_br i 40 (ab_lf i 39 (.iload_n 1) 0 0 0) (ab_lf i 40 (.ireturn) 0 0 0))))))
def ab_p87 (i : Nat) : Option (Instr × Nat × Nat × Nat) := (ab_br i 43 (ab_br i 23 (ab_br i 9 (ab_br i 6 (ab_br i 1 (ab_lf i 0 (.aload_n 0) 0 0 0) (ab_br i 3 (ab_lf i 1 (.bipush 45) 0 0 0) (ab_lf i 3 (.invokevirtual 132) 0 79 2))) (ab_br i 7 (ab_lf i 6 (.istore_n 1) 0 0 0) (ab_br i 8 (ab_lf i 7 (.iconst 0) 0 0 0) (ab_lf i 8 (.istore_n 2) 0 0 0)))) (ab_br i 12 (ab_br i 10 (ab_lf i 9 (.iconst 0) 0 0 0) (ab_br i 11 (ab_lf i 10 (.istore_n 3) 0 0 0) (ab_lf i 11 (.aload_n 0) 0 0 0))) (ab_br i 18 (ab_br i 15 (ab_lf i 12 (.invokevirtual 114) 0 78 1) (ab_lf i 15 (.invokestatic 136) 1 80 1)) (ab_br i 21 (ab_lf i 18 (.ifCond .eq 41) 0 0 0) (ab_lf i 21 (.bipush 10) 0 0 0))))) (ab_br i 32 (ab_br i 26 (ab_br i 24 (ab_lf i 23 (.iload_n 2) 0 0 0) (ab_br i 25 (ab_lf i 24 (.imul) 0 0 0) (ab_lf i 25 (.aload_n 0) 0 0 0))) (ab_br i 29 (ab_lf i 26 (.invokevirtual 114) 0 78 1) (ab_br i 30 (ab_lf i 29 (.iadd) 0 0 0) (ab_lf i 30 (.bipush 48) 0 0 0)))) (ab_br i 37 (ab_br i 33 (ab_lf i 32 (.isub) 0 0 0) (ab_br i 34 (ab_lf i 33 (.istore_n 2) 0 0 0) (ab_lf i 34 (.iinc 3 1) 0 0 0))) (ab_br i 39 (ab_br i 38 (ab_lf i 37 (.aload_n 0) 0 0 0) (ab_lf i 38 (.dup) 0 0 0)) (ab_br i 42 (ab_lf i 39 (.getfield 111) 6 15 0) (ab_lf i 42 (.iconst 1) 0 0 0)))))) (ab_br i 64 (ab_br i 53 (ab_br i 48 (ab_br i 44 (ab_lf i 43 (.iadd) 0 0 0) (ab_br i 47 (ab_lf i 44 (.putfield 111) 6 15 0) (ab_lf i 47 (.iload_n 3) 0 0 0))) (ab_br i 49 (ab_lf i 48 (.iconst 4) 0 0 0) (ab_br i 52 (ab_lf i 49 (.if_icmp .le (-38)) 0 0 0) (ab_lf i 52 (.aload_n 0) 0 0 0)))) (ab_br i 58 (ab_br i 54 (ab_lf i 53 (.iconst 1) 0 0 0) (ab_br i 57 (ab_lf i 54 (.putfield 121) 6 16 1) (ab_lf i 57 (.iconst 0) 0 0 0))) (ab_br i 60 (ab_br i 59 (ab_lf i 58 (.ireturn) 0 0 0) (ab_lf i 59 (.aload_n 0) 0 0 0)) (ab_br i 61 (ab_lf i 60 (.aload_n 0) 0 0 0) (ab_lf i 61 (.getfield 121) 6 16 1))))) (ab_br i 79 (ab_br i 71 (ab_br i 67 (ab_lf i 64 (.ifCond .ne 7) 0 0 0) (ab_br i 68 (ab_lf i 67 (.iload_n 3) 0 0 0) (ab_lf i 68 (.ifCond .ne 7) 0 0 0))) (ab_br i 75 (ab_br i 72 (ab_lf i 71 (.iconst 1) 0 0 0) (ab_lf i 72 (.goto 4) 0 0 0)) (ab_br i 76 (ab_lf i 75 (.iconst 0) 0 0 0) (ab_lf i 76 (.putfield 121) 6 16 1)))) (ab_br i 84 (ab_br i 80 (ab_lf i 79 (.iload_n 1) 0 0 0) (ab_br i 83 (ab_lf i 80 (.ifCond .eq 8) 0 0 0) (ab_lf i 83 (.iload_n 2) 0 0 0))) (ab_br i 88 (ab_br i 85 (ab_lf i 84 (.ineg) 0 0 0) (ab_lf i 85 (.goto 4) 0 0 0)) (ab_br i 89 (ab_lf i 88 (.iload_n 2) 0 0 0) (ab_lf i 89 (.ireturn) 0 0 0)))))))
def ab_p88 (i : Nat) : Option (Instr × Nat × Nat × Nat) := (ab_br i 44 (ab_br i 20 (ab_br i 9 (ab_br i 5 (ab_br i 1 (ab_lf i 0 (.aload_n 0) 0 0 0) (ab_br i 4 (ab_lf i 1 (.invokevirtual 139) 0 87 1) (ab_lf i 4 (.istore_n 1) 0 0 0))) (ab_br i 6 (ab_lf i 5 (.aload_n 0) 0 0 0) (ab_br i 8 (ab_lf i 6 (.bipush 6) 0 0 0) (ab_lf i 8 (.iload_n 1) 0 0 0)))) (ab_br i 14 (ab_br i 10 (ab_lf i 9 (.iload_n 1) 0 0 0) (ab_br i 13 (ab_lf i 10 (.invokevirtual 125) 0 81 4) (ab_lf i 13 (.istore_n 2) 0 0 0))) (ab_br i 18 (ab_br i 15 (ab_lf i 14 (.aload_n 0) 0 0 0) (ab_lf i 15 (.getfield 44) 6 14 3)) (ab_br i 19 (ab_lf i 18 (.iload_n 2) 0 0 0) (ab_lf i 19 (.iconst 1) 0 0 0))))) (ab_br i 31 (ab_br i 25 (ab_br i 21 (ab_lf i 20 (.iastore) 0 0 0) (ab_br i 22 (ab_lf i 21 (.aload_n 0) 0 0 0) (ab_lf i 22 (.invokevirtual 114) 0 78 1))) (ab_br i 27 (ab_lf i 25 (.bipush 46) 0 0 0) (ab_br i 30 (ab_lf i 27 (.if_icmp .ne 59) 0 0 0) (ab_lf i 30 (.aload_n 0) 0 0 0)))) (ab_br i 36 (ab_br i 34 (ab_lf i 31 (.getfield 111) 6 15 0) (ab_br i 35 (ab_lf i 34 (.iconst 1) 0 0 0) (ab_lf i 35 (.iadd) 0 0 0))) (ab_br i 40 (ab_br i 37 (ab_lf i 36 (.aload_n 0) 0 0 0) (ab_lf i 37 (.getfield 103) 6 2 0)) (ab_br i 43 (ab_lf i 40 (.if_icmp .ge 46) 0 0 0) (ab_lf i 43 (.aload_n 0) 0 0 0)))))) (ab_br i 66 (ab_br i 54 (ab_br i 51 (ab_br i 47 (ab_lf i 44 (.getfield 7) 6 1 3) (ab_br i 48 (ab_lf i 47 (.aload_n 0) 0 0 0) (ab_lf i 48 (.getfield 111) 6 15 0))) (ab_br i 52 (ab_lf i 51 (.iconst 1) 0 0 0) (ab_br i 53 (ab_lf i 52 (.iadd) 0 0 0) (ab_lf i 53 (.iaload) 0 0 0)))) (ab_br i 60 (ab_br i 56 (ab_lf i 54 (.bipush 46) 0 0 0) (ab_br i 59 (ab_lf i 56 (.if_icmp .ne 30) 0 0 0) (ab_lf i 59 (.aload_n 0) 0 0 0))) (ab_br i 64 (ab_br i 61 (ab_lf i 60 (.aload_n 0) 0 0 0) (ab_lf i 61 (.getfield 111) 6 15 0)) (ab_br i 65 (ab_lf i 64 (.iconst 2) 0 0 0) (ab_lf i 65 (.iadd) 0 0 0))))) (ab_br i 79 (ab_br i 73 (ab_br i 69 (ab_lf i 66 (.putfield 111) 6 15 0) (ab_br i 70 (ab_lf i 69 (.aload_n 0) 0 0 0) (ab_lf i 70 (.getfield 38) 6 12 3))) (ab_br i 75 (ab_br i 74 (ab_lf i 73 (.iload_n 2) 0 0 0) (ab_lf i 74 (.aload_n 0) 0 0 0)) (ab_br i 78 (ab_lf i 75 (.invokevirtual 139) 0 87 1) (ab_lf i 78 (.iastore) 0 0 0)))) (ab_br i 84 (ab_br i 80 (ab_lf i 79 (.aload_n 0) 0 0 0) (ab_br i 83 (ab_lf i 80 (.getfield 44) 6 14 3) (ab_lf i 83 (.iload_n 2) 0 0 0))) (ab_br i 86 (ab_br i 85 (ab_lf i 84 (.iconst 0) 0 0 0) (ab_lf i 85 (.iastore) 0 0 0)) (ab_br i 87 (ab_lf i 86 (.iload_n 2) 0 0 0) (ab_lf i 87 (.ireturn) 0 0 0)))))))
def ab_p89 (i : Nat) : Option (Instr × Nat × Nat × Nat) := (ab_br i 50 (ab_br i 23 (ab_br i 10 (ab_br i 5 (ab_br i 1 (ab_lf i 0 (.aload_n 0) 0 0 0) (ab_br i 2 (ab_lf i 1 (.dup) 0 0 0) (ab_lf i 2 (.getfield 111) 6 15 0))) (ab_br i 6 (ab_lf i 5 (.iconst 1) 0 0 0) (ab_br i 7 (ab_lf i 6 (.iadd) 0 0 0) (ab_lf i 7 (.putfield 111) 6 15 0)))) (ab_br i 15 (ab_br i 11 (ab_lf i 10 (.aload_n 0) 0 0 0) (ab_br i 14 (ab_lf i 11 (.getfield 111) 6 15 0) (ab_lf i 14 (.istore_n 1) 0 0 0))) (ab_br i 19 (ab_br i 16 (ab_lf i 15 (.aload_n 0) 0 0 0) (ab_lf i 16 (.getfield 111) 6 15 0)) (ab_br i 20 (ab_lf i 19 (.aload_n 0) 0 0 0) (ab_lf i 20 (.getfield 103) 6 2 0))))) (ab_br i 37 (ab_br i 30 (ab_br i 26 (ab_lf i 23 (.if_icmp .ge 25) 0 0 0) (ab_br i 27 (ab_lf i 26 (.aload_n 0) 0 0 0) (ab_lf i 27 (.invokevirtual 114) 0 78 1))) (ab_br i 35 (ab_br i 32 (ab_lf i 30 (.bipush 34) 0 0 0) (ab_lf i 32 (.if_icmp .eq 16) 0 0 0)) (ab_br i 36 (ab_lf i 35 (.aload_n 0) 0 0 0) (ab_lf i 36 (.dup) 0 0 0)))) (ab_br i 42 (ab_br i 40 (ab_lf i 37 (.getfield 111) 6 15 0) (ab_br i 41 (ab_lf i 40 (.iconst 1) 0 0 0) (ab_lf i 41 (.iadd) 0 0 0))) (ab_br i 48 (ab_br i 45 (ab_lf i 42 (.putfield 111) 6 15 0) (ab_lf i 45 (.goto (-30)) 0 0 0)) (ab_br i 49 (ab_lf i 48 (.aload_n 0) 0 0 0) (ab_lf i 49 (.aload_n 0) 0 0 0)))))) (ab_br i 79 (ab_br i 67 (ab_br i 57 (ab_br i 53 (ab_lf i 50 (.getfield 121) 6 16 1) (ab_br i 56 (ab_lf i 53 (.ifCond .ne 14) 0 0 0) (ab_lf i 56 (.aload_n 0) 0 0 0))) (ab_br i 61 (ab_br i 60 (ab_lf i 57 (.getfield 111) 6 15 0) (ab_lf i 60 (.aload_n 0) 0 0 0)) (ab_br i 64 (ab_lf i 61 (.getfield 103) 6 2 0) (ab_lf i 64 (.if_icmp .lt 7) 0 0 0)))) (ab_br i 72 (ab_br i 68 (ab_lf i 67 (.iconst 1) 0 0 0) (ab_br i 71 (ab_lf i 68 (.goto 4) 0 0 0) (ab_lf i 71 (.iconst 0) 0 0 0))) (ab_br i 76 (ab_br i 75 (ab_lf i 72 (.putfield 121) 6 16 1) (ab_lf i 75 (.aload_n 0) 0 0 0)) (ab_br i 78 (ab_lf i 76 (.bipush 7) 0 0 0) (ab_lf i 78 (.iload_n 1) 0 0 0))))) (ab_br i 90 (ab_br i 84 (ab_br i 80 (ab_lf i 79 (.aload_n 0) 0 0 0) (ab_br i 83 (ab_lf i 80 (.getfield 111) 6 15 0) (ab_lf i 83 (.iload_n 1) 0 0 0))) (ab_br i 88 (ab_br i 85 (ab_lf i 84 (.isub) 0 0 0) (ab_lf i 85 (.invokevirtual 125) 0 81 4)) (ab_br i 89 (ab_lf i 88 (.istore_n 2) 0 0 0) (ab_lf i 89 (.aload_n 0) 0 0 0)))) (ab_br i 95 (ab_br i 91 (ab_lf i 90 (.dup) 0 0 0) (ab_br i 94 (ab_lf i 91 (.getfield 111) 6 15 0) (ab_lf i 94 (.iconst 1) 0 0 0))) (ab_br i 99 (ab_br i 96 (ab_lf i 95 (.iadd) 0 0 0) (ab_lf i 96 (.putfield 111) 6 15 0)) (ab_br i 100 (ab_lf i 99 (.iload_n 2) 0 0 0) (ab_lf i 100 (.ireturn) 0 0 0)))))))
def ab_p90 (i : Nat) : Option (Instr × Nat × Nat × Nat) := (ab_br i 48 (ab_br i 21 (ab_br i 8 (ab_br i 4 (ab_br i 1 (ab_lf i 0 (.iconst 1) 0 0 0) (ab_br i 2 (ab_lf i 1 (.iload_n 1) 0 0 0) (ab_lf i 2 (.bipush 65) 0 0 0))) (ab_br i 6 (ab_br i 5 (ab_lf i 4 (.isub) 0 0 0) (ab_lf i 5 (.ishl) 0 0 0)) (ab_br i 7 (ab_lf i 6 (.istore_n 2) 0 0 0) (ab_lf i 7 (.aload_n 0) 0 0 0)))) (ab_br i 13 (ab_br i 9 (ab_lf i 8 (.dup) 0 0 0) (ab_br i 12 (ab_lf i 9 (.getfield 111) 6 15 0) (ab_lf i 12 (.iconst 1) 0 0 0))) (ab_br i 17 (ab_br i 14 (ab_lf i 13 (.iadd) 0 0 0) (ab_lf i 14 (.putfield 111) 6 15 0)) (ab_br i 18 (ab_lf i 17 (.aload_n 0) 0 0 0) (ab_lf i 18 (.getfield 26) 6 8 3))))) (ab_br i 32 (ab_br i 27 (ab_br i 23 (ab_lf i 21 (.bipush 8) 0 0 0) (ab_br i 24 (ab_lf i 23 (.aload_n 0) 0 0 0) (ab_lf i 24 (.getfield 26) 6 8 3))) (ab_br i 30 (ab_br i 29 (ab_lf i 27 (.bipush 8) 0 0 0) (ab_lf i 29 (.iaload) 0 0 0)) (ab_br i 31 (ab_lf i 30 (.iload_n 2) 0 0 0) (ab_lf i 31 (.ior) 0 0 0)))) (ab_br i 40 (ab_br i 34 (ab_br i 33 (ab_lf i 32 (.iastore) 0 0 0) (ab_lf i 33 (.aload_n 0) 0 0 0)) (ab_br i 37 (ab_lf i 34 (.invokevirtual 142) 0 86 1) (ab_lf i 37 (.ifCond .eq 47) 0 0 0))) (ab_br i 42 (ab_br i 41 (ab_lf i 40 (.aload_n 0) 0 0 0) (ab_lf i 41 (.aload_n 0) 0 0 0)) (ab_br i 45 (ab_lf i 42 (.getfield 121) 6 16 1) (ab_lf i 45 (.ifCond .ne 15) 0 0 0)))))) (ab_br i 74 (ab_br i 60 (ab_br i 54 (ab_br i 49 (ab_lf i 48 (.aload_n 0) 0 0 0) (ab_br i 52 (ab_lf i 49 (.getfield 29) 6 9 3) (ab_lf i 52 (.bipush 8) 0 0 0))) (ab_br i 56 (ab_br i 55 (ab_lf i 54 (.iaload) 0 0 0) (ab_lf i 55 (.iload_n 2) 0 0 0)) (ab_br i 57 (ab_lf i 56 (.iand) 0 0 0) (ab_lf i 57 (.ifCond .eq 7) 0 0 0)))) (ab_br i 65 (ab_br i 61 (ab_lf i 60 (.iconst 1) 0 0 0) (ab_br i 64 (ab_lf i 61 (.goto 4) 0 0 0) (ab_lf i 64 (.iconst 0) 0 0 0))) (ab_br i 69 (ab_br i 68 (ab_lf i 65 (.putfield 121) 6 16 1) (ab_lf i 68 (.aload_n 0) 0 0 0)) (ab_br i 72 (ab_lf i 69 (.getfield 29) 6 9 3) (ab_lf i 72 (.bipush 8) 0 0 0))))) (ab_br i 84 (ab_br i 80 (ab_br i 75 (ab_lf i 74 (.aload_n 0) 0 0 0) (ab_br i 78 (ab_lf i 75 (.getfield 29) 6 9 3) (ab_lf i 78 (.bipush 8) 0 0 0))) (ab_br i 82 (ab_br i 81 (ab_lf i 80 (.iaload) 0 0 0) (ab_lf i 81 (.iload_n 2) 0 0 0)) (ab_br i 83 (ab_lf i 82 (.ior) 0 0 0) (ab_lf i 83 (.iastore) 0 0 0)))) (ab_br i 90 (ab_br i 87 (ab_br i 85 (ab_lf i 84 (.aload_n 0) 0 0 0) (ab_lf i 85 (.bipush 10) 0 0 0)) (ab_br i 88 (ab_lf i 87 (.iload_n 1) 0 0 0) (ab_lf i 88 (.bipush 65) 0 0 0))) (ab_br i 92 (ab_br i 91 (ab_lf i 90 (.isub) 0 0 0) (ab_lf i 91 (.iconst 0) 0 0 0)) (ab_br i 95 (ab_lf i 92 (.invokevirtual 125) 0 81 4) (ab_lf i 95 (.ireturn) 0 0 0)))))))
def ab_p91 (i : Nat) : Option (Instr × Nat × Nat × Nat) := (ab_br i 31 (ab_br i 16 (ab_br i 7 (ab_br i 3 (ab_br i 1 (ab_lf i 0 (.iload_n 0) 0 0 0) (ab_lf i 1 (.bipush 105) 0 0 0)) (ab_br i 6 (ab_lf i 3 (.if_icmp .ne 7) 0 0 0) (ab_lf i 6 (.iconst 0) 0 0 0))) (ab_br i 11 (ab_br i 10 (ab_lf i 7 (.goto 54) 0 0 0) (ab_lf i 10 (.iload_n 0) 0 0 0)) (ab_br i 13 (ab_lf i 11 (.bipush 115) 0 0 0) (ab_lf i 13 (.if_icmp .ne 7) 0 0 0)))) (ab_br i 23 (ab_br i 20 (ab_br i 17 (ab_lf i 16 (.iconst 1) 0 0 0) (ab_lf i 17 (.goto 44) 0 0 0)) (ab_br i 21 (ab_lf i 20 (.iload_n 0) 0 0 0) (ab_lf i 21 (.bipush 116) 0 0 0))) (ab_br i 27 (ab_br i 26 (ab_lf i 23 (.if_icmp .ne 7) 0 0 0) (ab_lf i 26 (.iconst 2) 0 0 0)) (ab_br i 30 (ab_lf i 27 (.goto 34) 0 0 0) (ab_lf i 30 (.iload_n 0) 0 0 0))))) (ab_br i 47 (ab_br i 40 (ab_br i 36 (ab_br i 33 (ab_lf i 31 (.bipush 98) 0 0 0) (ab_lf i 33 (.if_icmp .ne 7) 0 0 0)) (ab_br i 37 (ab_lf i 36 (.iconst 3) 0 0 0) (ab_lf i 37 (.goto 24) 0 0 0))) (ab_br i 43 (ab_br i 41 (ab_lf i 40 (.iload_n 0) 0 0 0) (ab_lf i 41 (.bipush 110) 0 0 0)) (ab_br i 46 (ab_lf i 43 (.if_icmp .ne 7) 0 0 0) (ab_lf i 46 (.iconst 4) 0 0 0)))) (ab_br i 56 (ab_br i 51 (ab_br i 50 (ab_lf i 47 (.goto 14) 0 0 0) (ab_lf i 50 (.iload_n 0) 0 0 0)) (ab_br i 53 (ab_lf i 51 (.bipush 121) 0 0 0) (ab_lf i 53 (.if_icmp .ne 7) 0 0 0))) (ab_br i 60 (ab_br i 57 (ab_lf i 56 (.iconst 5) 0 0 0) (ab_lf i 57 (.goto 4) 0 0 0)) (ab_br i 61 (ab_lf i 60 (.iconst (-1)) 0 0 0) (ab_lf i 61 (.ireturn) 0 0 0))))))
def ab_p92 (i : Nat) : Option (Instr × Nat × Nat × Nat) := (ab_br i 65 (ab_br i 29 (ab_br i 14 (ab_br i 6 (ab_br i 4 (ab_br i 1 (ab_lf i 0 (.aload_n 0) 0 0 0) (ab_lf i 1 (.invokevirtual 114) 0 78 1)) (ab_br i 5 (ab_lf i 4 (.istore_n 1) 0 0 0) (ab_lf i 5 (.iconst (-1)) 0 0 0))) (ab_br i 8 (ab_br i 7 (ab_lf i 6 (.istore_n 2) 0 0 0) (ab_lf i 7 (.iload_n 1) 0 0 0)) (ab_br i 11 (ab_lf i 8 (.invokestatic 146) 1 91 1) (ab_lf i 11 (.ifCond .lt 27) 0 0 0)))) (ab_br i 20 (ab_br i 16 (ab_br i 15 (ab_lf i 14 (.aload_n 0) 0 0 0) (ab_lf i 15 (.dup) 0 0 0)) (ab_br i 19 (ab_lf i 16 (.getfield 111) 6 15 0) (ab_lf i 19 (.iconst 1) 0 0 0))) (ab_br i 24 (ab_br i 21 (ab_lf i 20 (.iadd) 0 0 0) (ab_lf i 21 (.putfield 111) 6 15 0)) (ab_br i 25 (ab_lf i 24 (.aload_n 0) 0 0 0) (ab_br i 26 (ab_lf i 25 (.iload_n 1) 0 0 0) (ab_lf i 26 (.invokestatic 146) 1 91 1)))))) (ab_br i 45 (ab_br i 35 (ab_br i 31 (ab_br i 30 (ab_lf i 29 (.iconst 0) 0 0 0) (ab_lf i 30 (.iconst 0) 0 0 0)) (ab_br i 34 (ab_lf i 31 (.invokevirtual 125) 0 81 4) (ab_lf i 34 (.istore_n 2) 0 0 0))) (ab_br i 39 (ab_br i 38 (ab_lf i 35 (.goto 56) 0 0 0) (ab_lf i 38 (.iload_n 1) 0 0 0)) (ab_br i 41 (ab_lf i 39 (.bipush 45) 0 0 0) (ab_br i 44 (ab_lf i 41 (.if_icmp .eq 10) 0 0 0) (ab_lf i 44 (.iload_n 1) 0 0 0))))) (ab_br i 55 (ab_br i 51 (ab_br i 48 (ab_lf i 45 (.invokestatic 136) 1 80 1) (ab_lf i 48 (.ifCond .eq 11) 0 0 0)) (ab_br i 52 (ab_lf i 51 (.aload_n 0) 0 0 0) (ab_lf i 52 (.invokevirtual 150) 0 88 1))) (ab_br i 59 (ab_br i 56 (ab_lf i 55 (.istore_n 2) 0 0 0) (ab_lf i 56 (.goto 35) 0 0 0)) (ab_br i 60 (ab_lf i 59 (.iload_n 1) 0 0 0) (ab_br i 62 (ab_lf i 60 (.bipush 34) 0 0 0) (ab_lf i 62 (.if_icmp .ne 11) 0 0 0))))))) (ab_br i 96 (ab_br i 80 (ab_br i 73 (ab_br i 69 (ab_br i 66 (ab_lf i 65 (.aload_n 0) 0 0 0) (ab_lf i 66 (.invokevirtual 153) 0 89 1)) (ab_br i 70 (ab_lf i 69 (.istore_n 2) 0 0 0) (ab_lf i 70 (.goto 21) 0 0 0))) (ab_br i 76 (ab_br i 74 (ab_lf i 73 (.iload_n 1) 0 0 0) (ab_lf i 74 (.bipush 65) 0 0 0)) (ab_br i 79 (ab_lf i 76 (.if_icmp .lt 15) 0 0 0) (ab_lf i 79 (.iload_n 1) 0 0 0)))) (ab_br i 87 (ab_br i 85 (ab_br i 82 (ab_lf i 80 (.bipush 72) 0 0 0) (ab_lf i 82 (.if_icmp .gt 9) 0 0 0)) (ab_br i 86 (ab_lf i 85 (.aload_n 0) 0 0 0) (ab_lf i 86 (.iload_n 1) 0 0 0))) (ab_br i 91 (ab_br i 90 (ab_lf i 87 (.invokevirtual 156) 0 90 2) (ab_lf i 90 (.istore_n 2) 0 0 0)) (ab_br i 92 (ab_lf i 91 (.iload_n 2) 0 0 0) (ab_br i 95 (ab_lf i 92 (.ifCond .ge 5) 0 0 0) (ab_lf i 95 (.iconst 0) 0 0 0)))))) (ab_br i 111 (ab_br i 102 (ab_br i 98 (ab_br i 97 (ab_lf i 96 (.ireturn) 0 0 0) (ab_lf i 97 (.aload_n 0) 0 0 0)) (ab_br i 99 (ab_lf i 98 (.aload_n 0) 0 0 0) (ab_lf i 99 (.invokevirtual 142) 0 86 1))) (ab_br i 106 (ab_br i 105 (ab_lf i 102 (.ifCond .eq 12) 0 0 0) (ab_lf i 105 (.aload_n 0) 0 0 0)) (ab_br i 109 (ab_lf i 106 (.getfield 159) 6 18 0) (ab_br i 110 (ab_lf i 109 (.iconst 1) 0 0 0) (ab_lf i 110 (.iadd) 0 0 0))))) (ab_br i 121 (ab_br i 115 (ab_br i 114 (ab_lf i 111 (.goto 7) 0 0 0) (ab_lf i 114 (.aload_n 0) 0 0 0)) (ab_br i 118 (ab_lf i 115 (.getfield 159) 6 18 0) (ab_lf i 118 (.putfield 159) 6 18 0))) (ab_br i 123 (ab_br i 122 (ab_lf i 121 (.aload_n 0) 0 0 0) (ab_lf i 122 (.iload_n 2) 0 0 0)) (ab_br i 126 (ab_lf i 123 (.invokevirtual 162) 0 85 2) (ab_br i 127 (ab_lf i 126 (.iconst 1) 0 0 0) (ab_lf i 127 (.ireturn) 0 0 0))))))))
def ab_p93 (i : Nat) : Option (Instr × Nat × Nat × Nat) := (ab_br i 167 (ab_br i 83 (ab_br i 43 (ab_br i 19 (ab_br i 8 (ab_br i 4 (ab_br i 1 (ab_lf i 0 (.aload_n 0) 0 0 0) (ab_lf i 1 (.invokevirtual 114) 0 78 1)) (ab_br i 5 (ab_lf i 4 (.istore_n 1) 0 0 0) (ab_br i 6 (ab_lf i 5 (.iload_n 1) 0 0 0) (ab_lf i 6 (.bipush 91) 0 0 0)))) (ab_br i 14 (ab_br i 11 (ab_lf i 8 (.if_icmp .eq 9) 0 0 0) (ab_br i 12 (ab_lf i 11 (.iload_n 1) 0 0 0) (ab_lf i 12 (.bipush 123) 0 0 0))) (ab_br i 17 (ab_lf i 14 (.if_icmp .ne 120) 0 0 0) (ab_br i 18 (ab_lf i 17 (.aload_n 0) 0 0 0) (ab_lf i 18 (.aload_n 0) 0 0 0))))) (ab_br i 31 (ab_br i 26 (ab_br i 22 (ab_lf i 19 (.invokevirtual 142) 0 86 1) (ab_br i 25 (ab_lf i 22 (.ifCond .eq 12) 0 0 0) (ab_lf i 25 (.aload_n 0) 0 0 0))) (ab_br i 29 (ab_lf i 26 (.getfield 159) 6 18 0) (ab_br i 30 (ab_lf i 29 (.iconst 1) 0 0 0) (ab_lf i 30 (.iadd) 0 0 0)))) (ab_br i 38 (ab_br i 34 (ab_lf i 31 (.goto 7) 0 0 0) (ab_br i 35 (ab_lf i 34 (.aload_n 0) 0 0 0) (ab_lf i 35 (.getfield 159) 6 18 0))) (ab_br i 41 (ab_lf i 38 (.putfield 159) 6 18 0) (ab_br i 42 (ab_lf i 41 (.aload_n 0) 0 0 0) (ab_lf i 42 (.dup) 0 0 0)))))) (ab_br i 65 (ab_br i 52 (ab_br i 47 (ab_br i 46 (ab_lf i 43 (.getfield 111) 6 15 0) (ab_lf i 46 (.iconst 1) 0 0 0)) (ab_br i 48 (ab_lf i 47 (.iadd) 0 0 0) (ab_br i 51 (ab_lf i 48 (.putfield 111) 6 15 0) (ab_lf i 51 (.aload_n 0) 0 0 0)))) (ab_br i 58 (ab_br i 53 (ab_lf i 52 (.iload_n 1) 0 0 0) (ab_br i 55 (ab_lf i 53 (.bipush 91) 0 0 0) (ab_lf i 55 (.if_icmp .ne 8) 0 0 0))) (ab_br i 60 (ab_lf i 58 (.bipush 8) 0 0 0) (ab_br i 63 (ab_lf i 60 (.goto 5) 0 0 0) (ab_lf i 63 (.bipush 9) 0 0 0))))) (ab_br i 73 (ab_br i 70 (ab_br i 66 (ab_lf i 65 (.iconst (-1)) 0 0 0) (ab_br i 67 (ab_lf i 66 (.iconst 0) 0 0 0) (ab_lf i 67 (.invokevirtual 125) 0 81 4))) (ab_br i 71 (ab_lf i 70 (.istore_n 2) 0 0 0) (ab_br i 72 (ab_lf i 71 (.aload_n 0) 0 0 0) (ab_lf i 72 (.iload_n 2) 0 0 0)))) (ab_br i 78 (ab_br i 76 (ab_lf i 73 (.invokevirtual 162) 0 85 2) (ab_br i 77 (ab_lf i 76 (.aload_n 0) 0 0 0) (ab_lf i 77 (.iload_n 1) 0 0 0))) (ab_br i 79 (ab_lf i 78 (.iload_n 2) 0 0 0) (ab_br i 82 (ab_lf i 79 (.invokevirtual 166) 0 82 3) (ab_lf i 82 (.aload_n 0) 0 0 0))))))) (ab_br i 129 (ab_br i 109 (ab_br i 93 (ab_br i 89 (ab_br i 86 (ab_lf i 83 (.getfield 121) 6 16 1) (ab_lf i 86 (.ifCond .ne 35) 0 0 0)) (ab_br i 90 (ab_lf i 89 (.aload_n 0) 0 0 0) (ab_br i 91 (ab_lf i 90 (.iload_n 1) 0 0 0) (ab_lf i 91 (.bipush 91) 0 0 0)))) (ab_br i 101 (ab_br i 96 (ab_lf i 93 (.if_icmp .ne 8) 0 0 0) (ab_br i 98 (ab_lf i 96 (.bipush 93) 0 0 0) (ab_lf i 98 (.goto 5) 0 0 0))) (ab_br i 103 (ab_lf i 101 (.bipush 125) 0 0 0) (ab_br i 106 (ab_lf i 103 (.invokevirtual 132) 0 79 2) (ab_lf i 106 (.ifCond .eq 15) 0 0 0))))) (ab_br i 119 (ab_br i 114 (ab_br i 110 (ab_lf i 109 (.aload_n 0) 0 0 0) (ab_br i 111 (ab_lf i 110 (.dup) 0 0 0) (ab_lf i 111 (.getfield 118) 6 17 0))) (ab_br i 115 (ab_lf i 114 (.iconst 1) 0 0 0) (ab_br i 116 (ab_lf i 115 (.isub) 0 0 0) (ab_lf i 116 (.putfield 118) 6 17 0)))) (ab_br i 122 (ab_br i 120 (ab_lf i 119 (.iconst 1) 0 0 0) (ab_br i 121 (ab_lf i 120 (.ireturn) 0 0 0) (ab_lf i 121 (.aload_n 0) 0 0 0))) (ab_br i 125 (ab_lf i 122 (.getfield 121) 6 16 1) (ab_br i 128 (ab_lf i 125 (.ifCond .ne 7) 0 0 0) (ab_lf i 128 (.aload_n 0) 0 0 0)))))) (ab_br i 150 (ab_br i 140 (ab_br i 134 (ab_br i 132 (ab_lf i 129 (.invokevirtual 170) 0 84 1) (ab_br i 133 (ab_lf i 132 (.iconst 0) 0 0 0) (ab_lf i 133 (.ireturn) 0 0 0))) (ab_br i 135 (ab_lf i 134 (.iload_n 1) 0 0 0) (ab_br i 137 (ab_lf i 135 (.bipush 40) 0 0 0) (ab_lf i 137 (.if_icmp .ne 35) 0 0 0)))) (ab_br i 145 (ab_br i 141 (ab_lf i 140 (.aload_n 0) 0 0 0) (ab_br i 142 (ab_lf i 141 (.dup) 0 0 0) (ab_lf i 142 (.getfield 111) 6 15 0))) (ab_br i 146 (ab_lf i 145 (.iconst 1) 0 0 0) (ab_br i 147 (ab_lf i 146 (.iadd) 0 0 0) (ab_lf i 147 (.putfield 111) 6 15 0))))) (ab_br i 159 (ab_br i 154 (ab_br i 151 (ab_lf i 150 (.aload_n 0) 0 0 0) (ab_br i 153 (ab_lf i 151 (.bipush 11) 0 0 0) (ab_lf i 153 (.iconst (-1)) 0 0 0))) (ab_br i 155 (ab_lf i 154 (.iconst 0) 0 0 0) (ab_br i 158 (ab_lf i 155 (.invokevirtual 125) 0 81 4) (ab_lf i 158 (.istore_n 2) 0 0 0)))) (ab_br i 164 (ab_br i 160 (ab_lf i 159 (.aload_n 0) 0 0 0) (ab_br i 161 (ab_lf i 160 (.iload_n 2) 0 0 0) (ab_lf i 161 (.invokevirtual 162) 0 85 2))) (ab_br i 165 (ab_lf i 164 (.aload_n 0) 0 0 0) (ab_br i 166 (ab_lf i 165 (.iload_n 1) 0 0 0) (ab_lf i 166 (.iload_n 2) 0 0 0)))))))) (ab_br i 252 (ab_br i 209 (ab_br i 185 (ab_br i 175 (ab_br i 171 (ab_br i 170 (ab_lf i 167 (.invokevirtual 166) 0 82 3) (ab_lf i 170 (.iconst 0) 0 0 0)) (ab_br i 172 (ab_lf i 171 (.ireturn) 0 0 0) (ab_br i 173 (ab_lf i 172 (.iload_n 1) 0 0 0) (ab_lf i 173 (.bipush 35) 0 0 0)))) (ab_br i 182 (ab_br i 178 (ab_lf i 175 (.if_icmp .ne 53) 0 0 0) (ab_br i 179 (ab_lf i 178 (.aload_n 0) 0 0 0) (ab_lf i 179 (.getfield 111) 6 15 0))) (ab_br i 183 (ab_lf i 182 (.iconst 2) 0 0 0) (ab_br i 184 (ab_lf i 183 (.iadd) 0 0 0) (ab_lf i 184 (.aload_n 0) 0 0 0))))) (ab_br i 199 (ab_br i 192 (ab_br i 188 (ab_lf i 185 (.getfield 103) 6 2 0) (ab_br i 191 (ab_lf i 188 (.if_icmp .ge 40) 0 0 0) (ab_lf i 191 (.aload_n 0) 0 0 0))) (ab_br i 195 (ab_lf i 192 (.getfield 7) 6 1 3) (ab_br i 196 (ab_lf i 195 (.aload_n 0) 0 0 0) (ab_lf i 196 (.getfield 111) 6 15 0)))) (ab_br i 202 (ab_br i 200 (ab_lf i 199 (.iconst 1) 0 0 0) (ab_br i 201 (ab_lf i 200 (.iadd) 0 0 0) (ab_lf i 201 (.iaload) 0 0 0))) (ab_br i 205 (ab_lf i 202 (.invokestatic 136) 1 80 1) (ab_br i 208 (ab_lf i 205 (.ifCond .eq 23) 0 0 0) (ab_lf i 208 (.aload_n 0) 0 0 0)))))) (ab_br i 230 (ab_br i 219 (ab_br i 216 (ab_br i 212 (ab_lf i 209 (.getfield 7) 6 1 3) (ab_br i 213 (ab_lf i 212 (.aload_n 0) 0 0 0) (ab_lf i 213 (.getfield 111) 6 15 0))) (ab_br i 217 (ab_lf i 216 (.iconst 2) 0 0 0) (ab_br i 218 (ab_lf i 217 (.iadd) 0 0 0) (ab_lf i 218 (.iaload) 0 0 0)))) (ab_br i 225 (ab_br i 221 (ab_lf i 219 (.bipush 40) 0 0 0) (ab_br i 224 (ab_lf i 221 (.if_icmp .ne 7) 0 0 0) (ab_lf i 224 (.iconst 1) 0 0 0))) (ab_br i 228 (ab_lf i 225 (.goto 4) 0 0 0) (ab_br i 229 (ab_lf i 228 (.iconst 0) 0 0 0) (ab_lf i 229 (.istore_n 2) 0 0 0))))) (ab_br i 240 (ab_br i 235 (ab_br i 231 (ab_lf i 230 (.aload_n 0) 0 0 0) (ab_br i 232 (ab_lf i 231 (.iload_n 2) 0 0 0) (ab_lf i 232 (.ifCond .ne 7) 0 0 0))) (ab_br i 236 (ab_lf i 235 (.iconst 1) 0 0 0) (ab_br i 239 (ab_lf i 236 (.goto 4) 0 0 0) (ab_lf i 239 (.iconst 0) 0 0 0)))) (ab_br i 247 (ab_br i 243 (ab_lf i 240 (.putfield 121) 6 16 1) (ab_br i 244 (ab_lf i 243 (.iload_n 2) 0 0 0) (ab_lf i 244 (.ifCond .eq 88) 0 0 0))) (ab_br i 248 (ab_lf i 247 (.aload_n 0) 0 0 0) (ab_br i 249 (ab_lf i 248 (.aload_n 0) 0 0 0) (ab_lf i 249 (.invokevirtual 142) 0 86 1))))))) (ab_br i 293 (ab_br i 274 (ab_br i 261 (ab_br i 256 (ab_br i 255 (ab_lf i 252 (.ifCond .eq 12) 0 0 0) (ab_lf i 255 (.aload_n 0) 0 0 0)) (ab_br i 259 (ab_lf i 256 (.getfield 159) 6 18 0) (ab_br i 260 (ab_lf i 259 (.iconst 1) 0 0 0) (ab_lf i 260 (.iadd) 0 0 0)))) (ab_br i 268 (ab_br i 264 (ab_lf i 261 (.goto 7) 0 0 0) (ab_br i 265 (ab_lf i 264 (.aload_n 0) 0 0 0) (ab_lf i 265 (.getfield 159) 6 18 0))) (ab_br i 271 (ab_lf i 268 (.putfield 159) 6 18 0) (ab_br i 272 (ab_lf i 271 (.aload_n 0) 0 0 0) (ab_lf i 272 (.bipush 12) 0 0 0))))) (ab_br i 284 (ab_br i 279 (ab_br i 275 (ab_lf i 274 (.aload_n 0) 0 0 0) (ab_br i 278 (ab_lf i 275 (.getfield 7) 6 1 3) (ab_lf i 278 (.aload_n 0) 0 0 0))) (ab_br i 282 (ab_lf i 279 (.getfield 111) 6 15 0) (ab_br i 283 (ab_lf i 282 (.iconst 1) 0 0 0) (ab_lf i 283 (.iadd) 0 0 0)))) (ab_br i 288 (ab_br i 285 (ab_lf i 284 (.iaload) 0 0 0) (ab_br i 287 (ab_lf i 285 (.bipush 48) 0 0 0) (ab_lf i 287 (.isub) 0 0 0))) (ab_br i 289 (ab_lf i 288 (.iconst 0) 0 0 0) (ab_br i 292 (ab_lf i 289 (.invokevirtual 125) 0 81 4) (ab_lf i 292 (.istore_n 3) 0 0 0)))))) (ab_br i 312 (ab_br i 303 (ab_br i 298 (ab_br i 294 (ab_lf i 293 (.aload_n 0) 0 0 0) (ab_br i 295 (ab_lf i 294 (.aload_n 0) 0 0 0) (ab_lf i 295 (.getfield 111) 6 15 0))) (ab_br i 299 (ab_lf i 298 (.iconst 3) 0 0 0) (ab_br i 300 (ab_lf i 299 (.iadd) 0 0 0) (ab_lf i 300 (.putfield 111) 6 15 0)))) (ab_br i 308 (ab_br i 304 (ab_lf i 303 (.aload_n 0) 0 0 0) (ab_br i 305 (ab_lf i 304 (.iload_n 3) 0 0 0) (ab_lf i 305 (.invokevirtual 162) 0 85 2))) (ab_br i 309 (ab_lf i 308 (.aload_n 0) 0 0 0) (ab_br i 311 (ab_lf i 309 (.bipush 35) 0 0 0) (ab_lf i 311 (.iload_n 3) 0 0 0))))) (ab_br i 326 (ab_br i 319 (ab_br i 315 (ab_lf i 312 (.invokevirtual 166) 0 82 3) (ab_br i 316 (ab_lf i 315 (.aload_n 0) 0 0 0) (ab_lf i 316 (.getfield 121) 6 16 1))) (ab_br i 322 (ab_lf i 319 (.ifCond .ne 13) 0 0 0) (ab_br i 323 (ab_lf i 322 (.aload_n 0) 0 0 0) (ab_lf i 323 (.getfield 38) 6 12 3)))) (ab_br i 331 (ab_br i 327 (ab_lf i 326 (.iload_n 3) 0 0 0) (ab_br i 328 (ab_lf i 327 (.aload_n 0) 0 0 0) (ab_lf i 328 (.invokevirtual 129) 0 83 1))) (ab_br i 332 (ab_lf i 331 (.iastore) 0 0 0) (ab_br i 333 (ab_lf i 332 (.iconst 0) 0 0 0) (ab_lf i 333 (.ireturn) 0 0 0)))))))))
def ab_p94 (i : Nat) : Option (Instr × Nat × Nat × Nat) := (ab_br i 103 (ab_br i 51 (ab_br i 24 (ab_br i 13 (ab_br i 3 (ab_br i 1 (ab_lf i 0 (.iconst 1) 0 0 0) (ab_br i 2 (ab_lf i 1 (.istore_n 1) 0 0 0) (ab_lf i 2 (.iload_n 1) 0 0 0))) (ab_br i 7 (ab_br i 6 (ab_lf i 3 (.ifCond .eq 180) 0 0 0) (ab_lf i 6 (.aload_n 0) 0 0 0)) (ab_br i 10 (ab_lf i 7 (.getfield 121) 6 16 1) (ab_lf i 10 (.ifCond .ne 173) 0 0 0)))) (ab_br i 16 (ab_br i 14 (ab_lf i 13 (.iconst 0) 0 0 0) (ab_br i 15 (ab_lf i 14 (.istore_n 1) 0 0 0) (ab_lf i 15 (.aload_n 0) 0 0 0))) (ab_br i 20 (ab_br i 19 (ab_lf i 16 (.getfield 47) 6 19 3) (ab_lf i 19 (.aload_n 0) 0 0 0)) (ab_br i 23 (ab_lf i 20 (.getfield 118) 6 17 0) (ab_lf i 23 (.iaload) 0 0 0))))) (ab_br i 37 (ab_br i 29 (ab_br i 25 (ab_lf i 24 (.istore_n 2) 0 0 0) (ab_br i 26 (ab_lf i 25 (.aload_n 0) 0 0 0) (ab_lf i 26 (.getfield 65) 6 25 3))) (ab_br i 33 (ab_br i 30 (ab_lf i 29 (.aload_n 0) 0 0 0) (ab_lf i 30 (.getfield 118) 6 17 0)) (ab_br i 34 (ab_lf i 33 (.baload) 0 0 0) (ab_lf i 34 (.ifCond .eq 58) 0 0 0)))) (ab_br i 41 (ab_br i 38 (ab_lf i 37 (.aload_n 0) 0 0 0) (ab_br i 39 (ab_lf i 38 (.aload_n 0) 0 0 0) (ab_lf i 39 (.bipush 58) 0 0 0))) (ab_br i 47 (ab_br i 44 (ab_lf i 41 (.invokevirtual 132) 0 79 2) (ab_lf i 44 (.ifCond .ne 7) 0 0 0)) (ab_br i 48 (ab_lf i 47 (.iconst 1) 0 0 0) (ab_lf i 48 (.goto 4) 0 0 0)))))) (ab_br i 77 (ab_br i 64 (ab_br i 56 (ab_br i 52 (ab_lf i 51 (.iconst 0) 0 0 0) (ab_br i 55 (ab_lf i 52 (.putfield 121) 6 16 1) (ab_lf i 55 (.aload_n 0) 0 0 0))) (ab_br i 60 (ab_br i 59 (ab_lf i 56 (.getfield 65) 6 25 3) (ab_lf i 59 (.aload_n 0) 0 0 0)) (ab_br i 63 (ab_lf i 60 (.getfield 118) 6 17 0) (ab_lf i 63 (.iconst 0) 0 0 0)))) (ab_br i 69 (ab_br i 65 (ab_lf i 64 (.bastore) 0 0 0) (ab_br i 66 (ab_lf i 65 (.aload_n 0) 0 0 0) (ab_lf i 66 (.getfield 121) 6 16 1))) (ab_br i 73 (ab_br i 72 (ab_lf i 69 (.ifCond .ne 21) 0 0 0) (ab_lf i 72 (.aload_n 0) 0 0 0)) (ab_br i 76 (ab_lf i 73 (.getfield 38) 6 12 3) (ab_lf i 76 (.aload_n 0) 0 0 0))))) (ab_br i 90 (ab_br i 84 (ab_br i 80 (ab_lf i 77 (.getfield 56) 6 22 3) (ab_br i 81 (ab_lf i 80 (.aload_n 0) 0 0 0) (ab_lf i 81 (.getfield 118) 6 17 0))) (ab_br i 86 (ab_br i 85 (ab_lf i 84 (.iaload) 0 0 0) (ab_lf i 85 (.aload_n 0) 0 0 0)) (ab_br i 89 (ab_lf i 86 (.invokevirtual 129) 0 83 1) (ab_lf i 89 (.iastore) 0 0 0)))) (ab_br i 95 (ab_br i 92 (ab_br i 91 (ab_lf i 90 (.iconst 1) 0 0 0) (ab_lf i 91 (.ireturn) 0 0 0)) (ab_br i 93 (ab_lf i 92 (.aload_n 0) 0 0 0) (ab_lf i 93 (.bipush 47) 0 0 0))) (ab_br i 101 (ab_br i 98 (ab_lf i 95 (.invokevirtual 132) 0 79 2) (ab_lf i 98 (.ifCond .eq 5) 0 0 0)) (ab_br i 102 (ab_lf i 101 (.iconst 1) 0 0 0) (ab_lf i 102 (.ireturn) 0 0 0))))))) (ab_br i 162 (ab_br i 130 (ab_br i 116 (ab_br i 109 (ab_br i 104 (ab_lf i 103 (.iload_n 2) 0 0 0) (ab_br i 106 (ab_lf i 104 (.bipush 91) 0 0 0) (ab_lf i 106 (.if_icmp .eq 9) 0 0 0))) (ab_br i 112 (ab_br i 110 (ab_lf i 109 (.iload_n 2) 0 0 0) (ab_lf i 110 (.bipush 123) 0 0 0)) (ab_br i 115 (ab_lf i 112 (.if_icmp .ne 18) 0 0 0) (ab_lf i 115 (.aload_n 0) 0 0 0)))) (ab_br i 124 (ab_br i 118 (ab_lf i 116 (.bipush 44) 0 0 0) (ab_br i 121 (ab_lf i 118 (.invokevirtual 132) 0 79 2) (ab_lf i 121 (.ifCond .eq 9) 0 0 0))) (ab_br i 128 (ab_br i 125 (ab_lf i 124 (.aload_n 0) 0 0 0) (ab_lf i 125 (.invokevirtual 170) 0 84 1)) (ab_br i 129 (ab_lf i 128 (.iconst 1) 0 0 0) (ab_lf i 129 (.ireturn) 0 0 0))))) (ab_br i 144 (ab_br i 137 (ab_br i 131 (ab_lf i 130 (.aload_n 0) 0 0 0) (ab_br i 134 (ab_lf i 131 (.getfield 118) 6 17 0) (ab_lf i 134 (.ifCond .le 46) 0 0 0))) (ab_br i 139 (ab_br i 138 (ab_lf i 137 (.aload_n 0) 0 0 0) (ab_lf i 138 (.iload_n 2) 0 0 0)) (ab_br i 141 (ab_lf i 139 (.bipush 91) 0 0 0) (ab_lf i 141 (.if_icmp .ne 8) 0 0 0)))) (ab_br i 152 (ab_br i 149 (ab_br i 146 (ab_lf i 144 (.bipush 93) 0 0 0) (ab_lf i 146 (.goto 16) 0 0 0)) (ab_br i 150 (ab_lf i 149 (.iload_n 2) 0 0 0) (ab_lf i 150 (.bipush 123) 0 0 0))) (ab_br i 157 (ab_br i 155 (ab_lf i 152 (.if_icmp .ne 8) 0 0 0) (ab_lf i 155 (.bipush 125) 0 0 0)) (ab_br i 160 (ab_lf i 157 (.goto 5) 0 0 0) (ab_lf i 160 (.bipush 41) 0 0 0)))))) (ab_br i 188 (ab_br i 175 (ab_br i 169 (ab_br i 165 (ab_lf i 162 (.invokevirtual 132) 0 79 2) (ab_br i 168 (ab_lf i 165 (.ifCond .eq 15) 0 0 0) (ab_lf i 168 (.aload_n 0) 0 0 0))) (ab_br i 173 (ab_br i 170 (ab_lf i 169 (.dup) 0 0 0) (ab_lf i 170 (.getfield 118) 6 17 0)) (ab_br i 174 (ab_lf i 173 (.iconst 1) 0 0 0) (ab_lf i 174 (.isub) 0 0 0)))) (ab_br i 180 (ab_br i 178 (ab_lf i 175 (.putfield 118) 6 17 0) (ab_br i 179 (ab_lf i 178 (.iconst 1) 0 0 0) (ab_lf i 179 (.istore_n 1) 0 0 0))) (ab_br i 184 (ab_br i 183 (ab_lf i 180 (.goto (-178)) 0 0 0) (ab_lf i 183 (.aload_n 0) 0 0 0)) (ab_br i 185 (ab_lf i 184 (.aload_n 0) 0 0 0) (ab_lf i 185 (.getfield 121) 6 16 1))))) (ab_br i 203 (ab_br i 195 (ab_br i 191 (ab_lf i 188 (.ifCond .ne 21) 0 0 0) (ab_br i 192 (ab_lf i 191 (.aload_n 0) 0 0 0) (ab_lf i 192 (.getfield 118) 6 17 0))) (ab_br i 199 (ab_br i 198 (ab_lf i 195 (.ifCond .gt 14) 0 0 0) (ab_lf i 198 (.aload_n 0) 0 0 0)) (ab_br i 202 (ab_lf i 199 (.getfield 111) 6 15 0) (ab_lf i 202 (.aload_n 0) 0 0 0)))) (ab_br i 213 (ab_br i 209 (ab_br i 206 (ab_lf i 203 (.getfield 103) 6 2 0) (ab_lf i 206 (.if_icmp .ge 7) 0 0 0)) (ab_br i 210 (ab_lf i 209 (.iconst 1) 0 0 0) (ab_lf i 210 (.goto 4) 0 0 0))) (ab_br i 217 (ab_br i 214 (ab_lf i 213 (.iconst 0) 0 0 0) (ab_lf i 214 (.putfield 121) 6 16 1)) (ab_br i 218 (ab_lf i 217 (.iconst 0) 0 0 0) (ab_lf i 218 (.ireturn) 0 0 0))))))))
def ab_p95 (i : Nat) : Option (Instr × Nat × Nat × Nat) := (ab_br i 64 (ab_br i 34 (ab_br i 16 (ab_br i 7 (ab_br i 2 (ab_br i 1 (ab_lf i 0 (.aload_n 0) 0 0 0) (ab_lf i 1 (.iconst 0) 0 0 0)) (ab_br i 5 (ab_lf i 2 (.putfield 111) 6 15 0) (ab_br i 6 (ab_lf i 5 (.aload_n 0) 0 0 0) (ab_lf i 6 (.iconst 0) 0 0 0)))) (ab_br i 11 (ab_br i 10 (ab_lf i 7 (.putfield 121) 6 16 1) (ab_lf i 10 (.aload_n 0) 0 0 0)) (ab_br i 12 (ab_lf i 11 (.iconst 0) 0 0 0) (ab_br i 15 (ab_lf i 12 (.putfield 118) 6 17 0) (ab_lf i 15 (.aload_n 0) 0 0 0))))) (ab_br i 26 (ab_br i 20 (ab_br i 17 (ab_lf i 16 (.iconst 0) 0 0 0) (ab_lf i 17 (.putfield 159) 6 18 0)) (ab_br i 21 (ab_lf i 20 (.aload_n 0) 0 0 0) (ab_br i 24 (ab_lf i 21 (.getfield 23) 6 7 3) (ab_lf i 24 (.bipush 8) 0 0 0)))) (ab_br i 28 (ab_br i 27 (ab_lf i 26 (.iconst 0) 0 0 0) (ab_lf i 27 (.iastore) 0 0 0)) (ab_br i 29 (ab_lf i 28 (.aload_n 0) 0 0 0) (ab_br i 32 (ab_lf i 29 (.getfield 26) 6 8 3) (ab_lf i 32 (.bipush 8) 0 0 0)))))) (ab_br i 49 (ab_br i 42 (ab_br i 36 (ab_br i 35 (ab_lf i 34 (.iconst 0) 0 0 0) (ab_lf i 35 (.iastore) 0 0 0)) (ab_br i 37 (ab_lf i 36 (.aload_n 0) 0 0 0) (ab_br i 40 (ab_lf i 37 (.getfield 29) 6 9 3) (ab_lf i 40 (.bipush 8) 0 0 0)))) (ab_br i 44 (ab_br i 43 (ab_lf i 42 (.iconst 0) 0 0 0) (ab_lf i 43 (.iastore) 0 0 0)) (ab_br i 45 (ab_lf i 44 (.aload_n 0) 0 0 0) (ab_br i 48 (ab_lf i 45 (.getfield 47) 6 19 3) (ab_lf i 48 (.iconst 0) 0 0 0))))) (ab_br i 57 (ab_br i 52 (ab_br i 51 (ab_lf i 49 (.bipush 40) 0 0 0) (ab_lf i 51 (.iastore) 0 0 0)) (ab_br i 53 (ab_lf i 52 (.aload_n 0) 0 0 0) (ab_br i 56 (ab_lf i 53 (.getfield 65) 6 25 3) (ab_lf i 56 (.iconst 0) 0 0 0)))) (ab_br i 59 (ab_br i 58 (ab_lf i 57 (.iconst 0) 0 0 0) (ab_lf i 58 (.bastore) 0 0 0)) (ab_br i 60 (ab_lf i 59 (.aload_n 0) 0 0 0) (ab_br i 63 (ab_lf i 60 (.invokevirtual 129) 0 83 1) (ab_lf i 63 (.istore_n 1) 0 0 0))))))) (ab_br i 104 (ab_br i 82 (ab_br i 73 (ab_br i 68 (ab_br i 65 (ab_lf i 64 (.iload_n 1) 0 0 0) (ab_lf i 65 (.ifCond .lt 7) 0 0 0)) (ab_br i 69 (ab_lf i 68 (.iconst 1) 0 0 0) (ab_br i 72 (ab_lf i 69 (.goto 4) 0 0 0) (ab_lf i 72 (.iconst 0) 0 0 0)))) (ab_br i 75 (ab_br i 74 (ab_lf i 73 (.istore_n 2) 0 0 0) (ab_lf i 74 (.iload_n 2) 0 0 0)) (ab_br i 78 (ab_lf i 75 (.ifCond .eq 57) 0 0 0) (ab_br i 79 (ab_lf i 78 (.aload_n 0) 0 0 0) (ab_lf i 79 (.getfield 121) 6 16 1))))) (ab_br i 93 (ab_br i 86 (ab_br i 85 (ab_lf i 82 (.ifCond .ne 50) 0 0 0) (ab_lf i 85 (.aload_n 0) 0 0 0)) (ab_br i 89 (ab_lf i 86 (.invokevirtual 173) 0 92 1) (ab_br i 92 (ab_lf i 89 (.ifCond .ne 10) 0 0 0) (ab_lf i 92 (.aload_n 0) 0 0 0)))) (ab_br i 99 (ab_br i 96 (ab_lf i 93 (.invokevirtual 176) 0 93 1) (ab_lf i 96 (.ifCond .eq 7) 0 0 0)) (ab_br i 100 (ab_lf i 99 (.iconst 1) 0 0 0) (ab_br i 103 (ab_lf i 100 (.goto 4) 0 0 0) (ab_lf i 103 (.iconst 0) 0 0 0)))))) (ab_br i 124 (ab_br i 113 (ab_br i 106 (ab_br i 105 (ab_lf i 104 (.istore_n 3) 0 0 0) (ab_lf i 105 (.aload_n 0) 0 0 0)) (ab_br i 109 (ab_lf i 106 (.getfield 121) 6 16 1) (ab_br i 112 (ab_lf i 109 (.ifCond .ne 18) 0 0 0) (ab_lf i 112 (.iload_n 3) 0 0 0)))) (ab_br i 117 (ab_br i 116 (ab_lf i 113 (.ifCond .eq 10) 0 0 0) (ab_lf i 116 (.aload_n 0) 0 0 0)) (ab_br i 120 (ab_lf i 117 (.invokevirtual 179) 0 94 1) (ab_br i 123 (ab_lf i 120 (.ifCond .eq 7) 0 0 0) (ab_lf i 123 (.iconst 1) 0 0 0))))) (ab_br i 133 (ab_br i 128 (ab_br i 127 (ab_lf i 124 (.goto 4) 0 0 0) (ab_lf i 127 (.iconst 0) 0 0 0)) (ab_br i 129 (ab_lf i 128 (.istore_n 2) 0 0 0) (ab_br i 132 (ab_lf i 129 (.goto (-55)) 0 0 0) (ab_lf i 132 (.aload_n 0) 0 0 0)))) (ab_br i 140 (ab_br i 136 (ab_lf i 133 (.getfield 121) 6 16 1) (ab_br i 139 (ab_lf i 136 (.ifCond .ne 7) 0 0 0) (ab_lf i 139 (.iconst 1) 0 0 0))) (ab_br i 143 (ab_lf i 140 (.goto 4) 0 0 0) (ab_br i 144 (ab_lf i 143 (.iconst 0) 0 0 0) (ab_lf i 144 (.ireturn) 0 0 0))))))))
def ab_p96 (i : Nat) : Option (Instr × Nat × Nat × Nat) := (ab_br i 185 (ab_br i 91 (ab_br i 49 (ab_br i 26 (ab_br i 11 (ab_br i 5 (ab_br i 1 (ab_lf i 0 (.aload_n 0) 0 0 0) (ab_br i 2 (ab_lf i 1 (.iload_n 1) 0 0 0) (ab_lf i 2 (.ifCond .lt 9) 0 0 0))) (ab_br i 6 (ab_lf i 5 (.iload_n 1) 0 0 0) (ab_br i 8 (ab_lf i 6 (.bipush 7) 0 0 0) (ab_lf i 8 (.if_icmp .le 7) 0 0 0)))) (ab_br i 16 (ab_br i 12 (ab_lf i 11 (.iconst 1) 0 0 0) (ab_br i 15 (ab_lf i 12 (.goto 15) 0 0 0) (ab_lf i 15 (.aload_n 0) 0 0 0))) (ab_br i 22 (ab_br i 19 (ab_lf i 16 (.invokevirtual 182) 0 95 1) (ab_lf i 19 (.ifCond .ne 7) 0 0 0)) (ab_br i 23 (ab_lf i 22 (.iconst 2) 0 0 0) (ab_lf i 23 (.goto 4) 0 0 0))))) (ab_br i 36 (ab_br i 31 (ab_br i 27 (ab_lf i 26 (.iconst 0) 0 0 0) (ab_br i 30 (ab_lf i 27 (.putfield 99) 6 0 0) (ab_lf i 30 (.aload_n 0) 0 0 0))) (ab_br i 34 (ab_lf i 31 (.getfield 103) 6 2 0) (ab_br i 35 (ab_lf i 34 (.istore_n 2) 0 0 0) (ab_lf i 35 (.aload_n 0) 0 0 0)))) (ab_br i 41 (ab_br i 37 (ab_lf i 36 (.iconst 0) 0 0 0) (ab_br i 40 (ab_lf i 37 (.putfield 103) 6 2 0) (ab_lf i 40 (.aload_n 0) 0 0 0))) (ab_br i 47 (ab_br i 44 (ab_lf i 41 (.getfield 99) 6 0 0) (ab_lf i 44 (.ifCond .le 5) 0 0 0)) (ab_br i 48 (ab_lf i 47 (.iconst 0) 0 0 0) (ab_lf i 48 (.ireturn) 0 0 0)))))) (ab_br i 69 (ab_br i 57 (ab_br i 54 (ab_br i 50 (ab_lf i 49 (.aload_n 0) 0 0 0) (ab_br i 53 (ab_lf i 50 (.getfield 16) 6 5 3) (ab_lf i 53 (.iload_n 1) 0 0 0))) (ab_br i 55 (ab_lf i 54 (.iconst 1) 0 0 0) (ab_br i 56 (ab_lf i 55 (.bastore) 0 0 0) (ab_lf i 56 (.aload_n 0) 0 0 0)))) (ab_br i 62 (ab_br i 60 (ab_lf i 57 (.getfield 26) 6 8 3) (ab_br i 61 (ab_lf i 60 (.iload_n 1) 0 0 0) (ab_lf i 61 (.aload_n 0) 0 0 0))) (ab_br i 67 (ab_br i 65 (ab_lf i 62 (.getfield 26) 6 8 3) (ab_lf i 65 (.bipush 8) 0 0 0)) (ab_br i 68 (ab_lf i 67 (.iaload) 0 0 0) (ab_lf i 68 (.iastore) 0 0 0))))) (ab_br i 80 (ab_br i 74 (ab_br i 70 (ab_lf i 69 (.aload_n 0) 0 0 0) (ab_br i 73 (ab_lf i 70 (.getfield 29) 6 9 3) (ab_lf i 73 (.iload_n 1) 0 0 0))) (ab_br i 75 (ab_lf i 74 (.aload_n 0) 0 0 0) (ab_br i 78 (ab_lf i 75 (.getfield 29) 6 9 3) (ab_lf i 78 (.bipush 8) 0 0 0)))) (ab_br i 83 (ab_br i 81 (ab_lf i 80 (.iaload) 0 0 0) (ab_br i 82 (ab_lf i 81 (.iastore) 0 0 0) (ab_lf i 82 (.aload_n 0) 0 0 0))) (ab_br i 87 (ab_br i 86 (ab_lf i 83 (.getfield 23) 6 7 3) (ab_lf i 86 (.iload_n 1) 0 0 0)) (ab_br i 88 (ab_lf i 87 (.aload_n 0) 0 0 0) (ab_lf i 88 (.getfield 23) 6 7 3))))))) (ab_br i 132 (ab_br i 110 (ab_br i 98 (ab_br i 95 (ab_br i 93 (ab_lf i 91 (.bipush 8) 0 0 0) (ab_br i 94 (ab_lf i 93 (.iaload) 0 0 0) (ab_lf i 94 (.iastore) 0 0 0))) (ab_br i 96 (ab_lf i 95 (.iconst 0) 0 0 0) (ab_br i 97 (ab_lf i 96 (.istore_n 3) 0 0 0) (ab_lf i 97 (.iload_n 3) 0 0 0)))) (ab_br i 103 (ab_br i 99 (ab_lf i 98 (.iload_n 2) 0 0 0) (ab_br i 102 (ab_lf i 99 (.if_icmp .ge 26) 0 0 0) (ab_lf i 102 (.aload_n 0) 0 0 0))) (ab_br i 108 (ab_br i 106 (ab_lf i 103 (.getfield 20) 6 6 3) (ab_lf i 106 (.bipush 40) 0 0 0)) (ab_br i 109 (ab_lf i 108 (.iload_n 1) 0 0 0) (ab_lf i 109 (.imul) 0 0 0))))) (ab_br i 118 (ab_br i 113 (ab_br i 111 (ab_lf i 110 (.iload_n 3) 0 0 0) (ab_br i 112 (ab_lf i 111 (.iadd) 0 0 0) (ab_lf i 112 (.aload_n 0) 0 0 0))) (ab_br i 116 (ab_lf i 113 (.getfield 7) 6 1 3) (ab_br i 117 (ab_lf i 116 (.iload_n 3) 0 0 0) (ab_lf i 117 (.iaload) 0 0 0)))) (ab_br i 125 (ab_br i 119 (ab_lf i 118 (.iastore) 0 0 0) (ab_br i 122 (ab_lf i 119 (.iinc 3 1) 0 0 0) (ab_lf i 122 (.goto (-25)) 0 0 0))) (ab_br i 128 (ab_br i 127 (ab_lf i 125 (.bipush 64) 0 0 0) (ab_lf i 127 (.iload_n 1) 0 0 0)) (ab_br i 129 (ab_lf i 128 (.imul) 0 0 0) (ab_lf i 129 (.sipush 512) 0 0 0)))))) (ab_br i 156 (ab_br i 144 (ab_br i 137 (ab_br i 133 (ab_lf i 132 (.isub) 0 0 0) (ab_br i 134 (ab_lf i 133 (.istore_n 3) 0 0 0) (ab_lf i 134 (.sipush 512) 0 0 0))) (ab_br i 139 (ab_lf i 137 (.istore 4) 0 0 0) (ab_br i 141 (ab_lf i 139 (.iload 4) 0 0 0) (ab_lf i 141 (.sipush 512) 0 0 0)))) (ab_br i 150 (ab_br i 145 (ab_lf i 144 (.aload_n 0) 0 0 0) (ab_br i 148 (ab_lf i 145 (.getfield 23) 6 7 3) (ab_lf i 148 (.bipush 8) 0 0 0))) (ab_br i 152 (ab_br i 151 (ab_lf i 150 (.iaload) 0 0 0) (ab_lf i 151 (.iadd) 0 0 0)) (ab_br i 155 (ab_lf i 152 (.if_icmp .ge 216) 0 0 0) (ab_lf i 155 (.aload_n 0) 0 0 0))))) (ab_br i 168 (ab_br i 162 (ab_br i 159 (ab_lf i 156 (.getfield 32) 6 10 3) (ab_br i 161 (ab_lf i 159 (.iload 4) 0 0 0) (ab_lf i 161 (.iaload) 0 0 0))) (ab_br i 164 (ab_lf i 162 (.istore 5) 0 0 0) (ab_br i 166 (ab_lf i 164 (.iload 5) 0 0 0) (ab_lf i 166 (.bipush 8) 0 0 0)))) (ab_br i 175 (ab_br i 171 (ab_lf i 168 (.if_icmp .eq 24) 0 0 0) (ab_br i 173 (ab_lf i 171 (.iload 5) 0 0 0) (ab_lf i 173 (.bipush 9) 0 0 0))) (ab_br i 180 (ab_br i 178 (ab_lf i 175 (.if_icmp .eq 17) 0 0 0) (ab_lf i 178 (.iload 5) 0 0 0)) (ab_br i 182 (ab_lf i 180 (.bipush 11) 0 0 0) (ab_lf i 182 (.if_icmp .eq 10) 0 0 0)))))))) (ab_br i 282 (ab_br i 237 (ab_br i 213 (ab_br i 197 (ab_br i 192 (ab_br i 187 (ab_lf i 185 (.iload 5) 0 0 0) (ab_br i 189 (ab_lf i 187 (.bipush 14) 0 0 0) (ab_lf i 189 (.if_icmp .ne 7) 0 0 0))) (ab_br i 193 (ab_lf i 192 (.iconst 1) 0 0 0) (ab_br i 196 (ab_lf i 193 (.goto 4) 0 0 0) (ab_lf i 196 (.iconst 0) 0 0 0)))) (ab_br i 203 (ab_br i 199 (ab_lf i 197 (.istore 6) 0 0 0) (ab_br i 201 (ab_lf i 199 (.iload 5) 0 0 0) (ab_lf i 201 (.bipush 12) 0 0 0))) (ab_br i 208 (ab_br i 206 (ab_lf i 203 (.if_icmp .eq 17) 0 0 0) (ab_lf i 206 (.iload 5) 0 0 0)) (ab_br i 210 (ab_lf i 208 (.bipush 13) 0 0 0) (ab_lf i 210 (.if_icmp .eq 10) 0 0 0))))) (ab_br i 225 (ab_br i 220 (ab_br i 215 (ab_lf i 213 (.iload 5) 0 0 0) (ab_br i 217 (ab_lf i 215 (.bipush 14) 0 0 0) (ab_lf i 217 (.if_icmp .ne 7) 0 0 0))) (ab_br i 221 (ab_lf i 220 (.iconst 1) 0 0 0) (ab_br i 224 (ab_lf i 221 (.goto 4) 0 0 0) (ab_lf i 224 (.iconst 0) 0 0 0)))) (ab_br i 231 (ab_br i 227 (ab_lf i 225 (.istore 7) 0 0 0) (ab_br i 228 (ab_lf i 227 (.aload_n 0) 0 0 0) (ab_lf i 228 (.getfield 32) 6 10 3))) (ab_br i 234 (ab_br i 233 (ab_lf i 231 (.iload 4) 0 0 0) (ab_lf i 233 (.iload_n 3) 0 0 0)) (ab_br i 235 (ab_lf i 234 (.iadd) 0 0 0) (ab_lf i 235 (.iload 5) 0 0 0)))))) (ab_br i 261 (ab_br i 246 (ab_br i 242 (ab_br i 238 (ab_lf i 237 (.iastore) 0 0 0) (ab_br i 239 (ab_lf i 238 (.aload_n 0) 0 0 0) (ab_lf i 239 (.getfield 35) 6 11 3))) (ab_br i 244 (ab_lf i 242 (.iload 4) 0 0 0) (ab_br i 245 (ab_lf i 244 (.iload_n 3) 0 0 0) (ab_lf i 245 (.iadd) 0 0 0)))) (ab_br i 252 (ab_br i 248 (ab_lf i 246 (.iload 6) 0 0 0) (ab_br i 251 (ab_lf i 248 (.ifCond .eq 25) 0 0 0) (ab_lf i 251 (.aload_n 0) 0 0 0))) (ab_br i 257 (ab_br i 255 (ab_lf i 252 (.getfield 35) 6 11 3) (ab_lf i 255 (.iload 4) 0 0 0)) (ab_br i 258 (ab_lf i 257 (.iaload) 0 0 0) (ab_lf i 258 (.ifCond .lt 15) 0 0 0))))) (ab_br i 270 (ab_br i 267 (ab_br i 262 (ab_lf i 261 (.aload_n 0) 0 0 0) (ab_br i 265 (ab_lf i 262 (.getfield 35) 6 11 3) (ab_lf i 265 (.iload 4) 0 0 0))) (ab_br i 268 (ab_lf i 267 (.iaload) 0 0 0) (ab_br i 269 (ab_lf i 268 (.iload_n 3) 0 0 0) (ab_lf i 269 (.iadd) 0 0 0)))) (ab_br i 277 (ab_br i 273 (ab_lf i 270 (.goto 10) 0 0 0) (ab_br i 274 (ab_lf i 273 (.aload_n 0) 0 0 0) (ab_lf i 274 (.getfield 35) 6 11 3))) (ab_br i 280 (ab_br i 279 (ab_lf i 277 (.iload 4) 0 0 0) (ab_lf i 279 (.iaload) 0 0 0)) (ab_br i 281 (ab_lf i 280 (.iastore) 0 0 0) (ab_lf i 281 (.aload_n 0) 0 0 0))))))) (ab_br i 328 (ab_br i 306 (ab_br i 294 (ab_br i 288 (ab_br i 285 (ab_lf i 282 (.getfield 38) 6 12 3) (ab_br i 287 (ab_lf i 285 (.iload 4) 0 0 0) (ab_lf i 287 (.iload_n 3) 0 0 0))) (ab_br i 289 (ab_lf i 288 (.iadd) 0 0 0) (ab_br i 291 (ab_lf i 289 (.iload 7) 0 0 0) (ab_lf i 291 (.ifCond .eq 15) 0 0 0)))) (ab_br i 300 (ab_br i 295 (ab_lf i 294 (.aload_n 0) 0 0 0) (ab_br i 298 (ab_lf i 295 (.getfield 38) 6 12 3) (ab_lf i 298 (.iload 4) 0 0 0))) (ab_br i 302 (ab_br i 301 (ab_lf i 300 (.iaload) 0 0 0) (ab_lf i 301 (.iload_n 3) 0 0 0)) (ab_br i 303 (ab_lf i 302 (.iadd) 0 0 0) (ab_lf i 303 (.goto 10) 0 0 0))))) (ab_br i 315 (ab_br i 312 (ab_br i 307 (ab_lf i 306 (.aload_n 0) 0 0 0) (ab_br i 310 (ab_lf i 307 (.getfield 38) 6 12 3) (ab_lf i 310 (.iload 4) 0 0 0))) (ab_br i 313 (ab_lf i 312 (.iaload) 0 0 0) (ab_br i 314 (ab_lf i 313 (.iastore) 0 0 0) (ab_lf i 314 (.aload_n 0) 0 0 0)))) (ab_br i 321 (ab_br i 318 (ab_lf i 315 (.getfield 41) 6 13 3) (ab_br i 320 (ab_lf i 318 (.iload 4) 0 0 0) (ab_lf i 320 (.iload_n 3) 0 0 0))) (ab_br i 323 (ab_br i 322 (ab_lf i 321 (.iadd) 0 0 0) (ab_lf i 322 (.aload_n 0) 0 0 0)) (ab_br i 326 (ab_lf i 323 (.getfield 41) 6 13 3) (ab_lf i 326 (.iload 4) 0 0 0)))))) (ab_br i 350 (ab_br i 340 (ab_br i 333 (ab_br i 329 (ab_lf i 328 (.iaload) 0 0 0) (ab_br i 332 (ab_lf i 329 (.ifCond .ge 7) 0 0 0) (ab_lf i 332 (.iconst (-1)) 0 0 0))) (ab_br i 336 (ab_lf i 333 (.goto 12) 0 0 0) (ab_br i 337 (ab_lf i 336 (.aload_n 0) 0 0 0) (ab_lf i 337 (.getfield 41) 6 13 3)))) (ab_br i 344 (ab_br i 342 (ab_lf i 340 (.iload 4) 0 0 0) (ab_br i 343 (ab_lf i 342 (.iaload) 0 0 0) (ab_lf i 343 (.iload_n 3) 0 0 0))) (ab_br i 346 (ab_br i 345 (ab_lf i 344 (.iadd) 0 0 0) (ab_lf i 345 (.iastore) 0 0 0)) (ab_br i 347 (ab_lf i 346 (.aload_n 0) 0 0 0) (ab_lf i 347 (.getfield 44) 6 14 3))))) (ab_br i 360 (ab_br i 354 (ab_br i 352 (ab_lf i 350 (.iload 4) 0 0 0) (ab_br i 353 (ab_lf i 352 (.iload_n 3) 0 0 0) (ab_lf i 353 (.iadd) 0 0 0))) (ab_br i 355 (ab_lf i 354 (.aload_n 0) 0 0 0) (ab_br i 358 (ab_lf i 355 (.getfield 44) 6 14 3) (ab_lf i 358 (.iload 4) 0 0 0)))) (ab_br i 365 (ab_br i 361 (ab_lf i 360 (.iaload) 0 0 0) (ab_br i 362 (ab_lf i 361 (.iastore) 0 0 0) (ab_lf i 362 (.iinc 4 1) 0 0 0))) (ab_br i 369 (ab_br i 368 (ab_lf i 365 (.goto (-226)) 0 0 0) (ab_lf i 368 (.aload_n 0) 0 0 0)) (ab_br i 372 (ab_lf i 369 (.getfield 159) 6 18 0) (ab_lf i 372 (.ireturn) 0 0 0)))))))))
def ab_p97 (i : Nat) : Option (Instr × Nat × Nat × Nat) := (ab_br i 26 (ab_br i 11 (ab_br i 5 (ab_br i 1 (ab_lf i 0 (.aload_n 0) 0 0 0) (ab_br i 2 (ab_lf i 1 (.iload_n 1) 0 0 0) (ab_lf i 2 (.ifCond .lt 9) 0 0 0))) (ab_br i 6 (ab_lf i 5 (.iload_n 1) 0 0 0) (ab_br i 8 (ab_lf i 6 (.bipush 7) 0 0 0) (ab_lf i 8 (.if_icmp .le 7) 0 0 0)))) (ab_br i 16 (ab_br i 12 (ab_lf i 11 (.iconst 1) 0 0 0) (ab_br i 15 (ab_lf i 12 (.goto 4) 0 0 0) (ab_lf i 15 (.iconst 0) 0 0 0))) (ab_br i 20 (ab_br i 19 (ab_lf i 16 (.putfield 99) 6 0 0) (ab_lf i 19 (.aload_n 0) 0 0 0)) (ab_br i 23 (ab_lf i 20 (.getfield 99) 6 0 0) (ab_lf i 23 (.ifCond .le 5) 0 0 0))))) (ab_br i 35 (ab_br i 29 (ab_br i 27 (ab_lf i 26 (.iconst 0) 0 0 0) (ab_br i 28 (ab_lf i 27 (.ireturn) 0 0 0) (ab_lf i 28 (.aload_n 0) 0 0 0))) (ab_br i 33 (ab_br i 32 (ab_lf i 29 (.getfield 16) 6 5 3) (ab_lf i 32 (.iload_n 1) 0 0 0)) (ab_br i 34 (ab_lf i 33 (.baload) 0 0 0) (ab_lf i 34 (.istore_n 2) 0 0 0)))) (ab_br i 40 (ab_br i 36 (ab_lf i 35 (.aload_n 0) 0 0 0) (ab_br i 39 (ab_lf i 36 (.getfield 16) 6 5 3) (ab_lf i 39 (.iload_n 1) 0 0 0))) (ab_br i 42 (ab_br i 41 (ab_lf i 40 (.iconst 0) 0 0 0) (ab_lf i 41 (.bastore) 0 0 0)) (ab_br i 43 (ab_lf i 42 (.iload_n 2) 0 0 0) (ab_lf i 43 (.ireturn) 0 0 0))))))
def ab_p98 (i : Nat) : Option (Instr × Nat × Nat × Nat) := (ab_br i 38 (ab_br i 19 (ab_br i 7 (ab_br i 2 (ab_br i 1 (ab_lf i 0 (.iload_n 1) 0 0 0) (ab_lf i 1 (.istore_n 3) 0 0 0)) (ab_br i 3 (ab_lf i 2 (.iconst 0) 0 0 0) (ab_br i 5 (ab_lf i 3 (.istore 4) 0 0 0) (ab_lf i 5 (.iload 4) 0 0 0)))) (ab_br i 13 (ab_br i 9 (ab_lf i 7 (.bipush 8) 0 0 0) (ab_br i 12 (ab_lf i 9 (.if_icmp .ge 69) 0 0 0) (ab_lf i 12 (.iconst 0) 0 0 0))) (ab_br i 15 (ab_lf i 13 (.istore 5) 0 0 0) (ab_br i 17 (ab_lf i 15 (.iload 5) 0 0 0) (ab_lf i 17 (.bipush 8) 0 0 0))))) (ab_br i 27 (ab_br i 23 (ab_br i 22 (ab_lf i 19 (.if_icmp .ge 53) 0 0 0) (ab_lf i 22 (.iload_n 3) 0 0 0)) (ab_br i 25 (ab_lf i 23 (.iload 5) 0 0 0) (ab_br i 26 (ab_lf i 25 (.ishr) 0 0 0) (ab_lf i 26 (.iconst 1) 0 0 0)))) (ab_br i 32 (ab_br i 28 (ab_lf i 27 (.iand) 0 0 0) (ab_br i 29 (ab_lf i 28 (.iconst 1) 0 0 0) (ab_lf i 29 (.if_icmp .ne 37) 0 0 0))) (ab_br i 33 (ab_lf i 32 (.aload_n 0) 0 0 0) (ab_br i 36 (ab_lf i 33 (.getfield 16) 6 5 3) (ab_lf i 36 (.iload 5) 0 0 0)))))) (ab_br i 58 (ab_br i 47 (ab_br i 42 (ab_br i 39 (ab_lf i 38 (.baload) 0 0 0) (ab_lf i 39 (.ifCond .eq 27) 0 0 0)) (ab_br i 43 (ab_lf i 42 (.iload_n 3) 0 0 0) (ab_br i 44 (ab_lf i 43 (.iload_n 2) 0 0 0) (ab_lf i 44 (.ifCond .eq 13) 0 0 0)))) (ab_br i 53 (ab_br i 48 (ab_lf i 47 (.aload_n 0) 0 0 0) (ab_br i 51 (ab_lf i 48 (.getfield 29) 6 9 3) (ab_lf i 51 (.iload 5) 0 0 0))) (ab_br i 54 (ab_lf i 53 (.iaload) 0 0 0) (ab_br i 57 (ab_lf i 54 (.goto 10) 0 0 0) (ab_lf i 57 (.aload_n 0) 0 0 0))))) (ab_br i 66 (ab_br i 63 (ab_br i 61 (ab_lf i 58 (.getfield 26) 6 8 3) (ab_lf i 61 (.iload 5) 0 0 0)) (ab_br i 64 (ab_lf i 63 (.iaload) 0 0 0) (ab_br i 65 (ab_lf i 64 (.ior) 0 0 0) (ab_lf i 65 (.istore_n 3) 0 0 0)))) (ab_br i 75 (ab_br i 69 (ab_lf i 66 (.iinc 5 1) 0 0 0) (ab_br i 72 (ab_lf i 69 (.goto (-54)) 0 0 0) (ab_lf i 72 (.iinc 4 1) 0 0 0))) (ab_br i 78 (ab_lf i 75 (.goto (-70)) 0 0 0) (ab_br i 79 (ab_lf i 78 (.iload_n 3) 0 0 0) (ab_lf i 79 (.ireturn) 0 0 0)))))))
def ab_p99 (i : Nat) : Option (Instr × Nat × Nat × Nat) := (ab_br i 54 (ab_br i 24 (ab_br i 13 (ab_br i 7 (ab_br i 4 (ab_br i 1 (ab_lf i 0 (.iload_n 1) 0 0 0) (ab_lf i 1 (.ifCond .lt 9) 0 0 0)) (ab_br i 5 (ab_lf i 4 (.iload_n 1) 0 0 0) (ab_lf i 5 (.bipush 7) 0 0 0))) (ab_br i 11 (ab_br i 10 (ab_lf i 7 (.if_icmp .le 5) 0 0 0) (ab_lf i 10 (.iconst 1) 0 0 0)) (ab_br i 12 (ab_lf i 11 (.ireturn) 0 0 0) (ab_lf i 12 (.aload_n 0) 0 0 0)))) (ab_br i 17 (ab_br i 15 (ab_br i 14 (ab_lf i 13 (.iconst 1) 0 0 0) (ab_lf i 14 (.iload_n 1) 0 0 0)) (ab_br i 16 (ab_lf i 15 (.ishl) 0 0 0) (ab_lf i 16 (.iconst 0) 0 0 0))) (ab_br i 21 (ab_br i 20 (ab_lf i 17 (.invokevirtual 185) 0 98 3) (ab_lf i 20 (.istore_n 2) 0 0 0)) (ab_br i 22 (ab_lf i 21 (.iconst 0) 0 0 0) (ab_br i 23 (ab_lf i 22 (.istore_n 3) 0 0 0) (ab_lf i 23 (.iconst 0) 0 0 0)))))) (ab_br i 38 (ab_br i 33 (ab_br i 28 (ab_br i 26 (ab_lf i 24 (.istore 4) 0 0 0) (ab_lf i 26 (.iload 4) 0 0 0)) (ab_br i 30 (ab_lf i 28 (.bipush 8) 0 0 0) (ab_lf i 30 (.if_icmp .ge 31) 0 0 0))) (ab_br i 36 (ab_br i 34 (ab_lf i 33 (.iload_n 2) 0 0 0) (ab_lf i 34 (.iload 4) 0 0 0)) (ab_br i 37 (ab_lf i 36 (.ishr) 0 0 0) (ab_lf i 37 (.iconst 1) 0 0 0)))) (ab_br i 44 (ab_br i 40 (ab_br i 39 (ab_lf i 38 (.iand) 0 0 0) (ab_lf i 39 (.iconst 1) 0 0 0)) (ab_br i 43 (ab_lf i 40 (.if_icmp .ne 15) 0 0 0) (ab_lf i 43 (.aload_n 0) 0 0 0))) (ab_br i 49 (ab_br i 47 (ab_lf i 44 (.getfield 16) 6 5 3) (ab_lf i 47 (.iload 4) 0 0 0)) (ab_br i 50 (ab_lf i 49 (.baload) 0 0 0) (ab_br i 53 (ab_lf i 50 (.ifCond .ne 5) 0 0 0) (ab_lf i 53 (.iconst 2) 0 0 0))))))) (ab_br i 83 (ab_br i 71 (ab_br i 62 (ab_br i 58 (ab_br i 55 (ab_lf i 54 (.ireturn) 0 0 0) (ab_lf i 55 (.iinc 4 1) 0 0 0)) (ab_br i 61 (ab_lf i 58 (.goto (-32)) 0 0 0) (ab_lf i 61 (.iconst 0) 0 0 0))) (ab_br i 66 (ab_br i 64 (ab_lf i 62 (.istore 4) 0 0 0) (ab_lf i 64 (.iload 4) 0 0 0)) (ab_br i 68 (ab_lf i 66 (.bipush 8) 0 0 0) (ab_lf i 68 (.if_icmp .ge 42) 0 0 0)))) (ab_br i 76 (ab_br i 74 (ab_br i 72 (ab_lf i 71 (.iload_n 2) 0 0 0) (ab_lf i 72 (.iload 4) 0 0 0)) (ab_br i 75 (ab_lf i 74 (.ishr) 0 0 0) (ab_lf i 75 (.iconst 1) 0 0 0))) (ab_br i 78 (ab_br i 77 (ab_lf i 76 (.iand) 0 0 0) (ab_lf i 77 (.iconst 1) 0 0 0)) (ab_br i 81 (ab_lf i 78 (.if_icmp .ne 26) 0 0 0) (ab_br i 82 (ab_lf i 81 (.aload_n 0) 0 0 0) (ab_lf i 82 (.aload_n 0) 0 0 0)))))) (ab_br i 97 (ab_br i 90 (ab_br i 88 (ab_br i 86 (ab_lf i 83 (.getfield 29) 6 9 3) (ab_lf i 86 (.iload 4) 0 0 0)) (ab_br i 89 (ab_lf i 88 (.iaload) 0 0 0) (ab_lf i 89 (.iconst 1) 0 0 0))) (ab_br i 95 (ab_br i 93 (ab_lf i 90 (.invokevirtual 185) 0 98 3) (ab_lf i 93 (.iload 4) 0 0 0)) (ab_br i 96 (ab_lf i 95 (.ishr) 0 0 0) (ab_lf i 96 (.iconst 1) 0 0 0)))) (ab_br i 103 (ab_br i 99 (ab_br i 98 (ab_lf i 97 (.iand) 0 0 0) (ab_lf i 98 (.iconst 1) 0 0 0)) (ab_br i 102 (ab_lf i 99 (.if_icmp .ne 5) 0 0 0) (ab_lf i 102 (.iconst 3) 0 0 0))) (ab_br i 107 (ab_br i 104 (ab_lf i 103 (.istore_n 3) 0 0 0) (ab_lf i 104 (.iinc 4 1) 0 0 0)) (ab_br i 110 (ab_lf i 107 (.goto (-43)) 0 0 0) (ab_br i 111 (ab_lf i 110 (.iload_n 3) 0 0 0) (ab_lf i 111 (.ireturn) 0 0 0))))))))
def ab_p100 (i : Nat) : Option (Instr × Nat × Nat × Nat) := (ab_br i 27 (ab_br i 12 (ab_br i 6 (ab_br i 2 (ab_br i 1 (ab_lf i 0 (.aload_n 0) 0 0 0) (ab_lf i 1 (.aload_n 0) 0 0 0)) (ab_br i 3 (ab_lf i 2 (.iload_n 1) 0 0 0) (ab_lf i 3 (.invokevirtual 189) 0 99 2))) (ab_br i 10 (ab_br i 9 (ab_lf i 6 (.putfield 99) 6 0 0) (ab_lf i 9 (.iconst 0) 0 0 0)) (ab_br i 11 (ab_lf i 10 (.istore_n 2) 0 0 0) (ab_lf i 11 (.iconst 0) 0 0 0)))) (ab_br i 19 (ab_br i 14 (ab_br i 13 (ab_lf i 12 (.istore_n 3) 0 0 0) (ab_lf i 13 (.iload_n 3) 0 0 0)) (ab_br i 16 (ab_lf i 14 (.bipush 8) 0 0 0) (ab_lf i 16 (.if_icmp .ge 31) 0 0 0))) (ab_br i 23 (ab_br i 20 (ab_lf i 19 (.aload_n 0) 0 0 0) (ab_lf i 20 (.getfield 99) 6 0 0)) (ab_br i 26 (ab_lf i 23 (.ifCond .ne 24) 0 0 0) (ab_lf i 26 (.iload_n 2) 0 0 0))))) (ab_br i 37 (ab_br i 31 (ab_br i 29 (ab_br i 28 (ab_lf i 27 (.aload_n 0) 0 0 0) (ab_lf i 28 (.iconst 1) 0 0 0)) (ab_br i 30 (ab_lf i 29 (.iload_n 1) 0 0 0) (ab_lf i 30 (.ishl) 0 0 0))) (ab_br i 35 (ab_br i 32 (ab_lf i 31 (.iconst 0) 0 0 0) (ab_lf i 32 (.invokevirtual 185) 0 98 3)) (ab_br i 36 (ab_lf i 35 (.iload_n 3) 0 0 0) (ab_lf i 36 (.ishr) 0 0 0)))) (ab_br i 41 (ab_br i 39 (ab_br i 38 (ab_lf i 37 (.iconst 1) 0 0 0) (ab_lf i 38 (.iand) 0 0 0)) (ab_br i 40 (ab_lf i 39 (.iadd) 0 0 0) (ab_lf i 40 (.istore_n 2) 0 0 0))) (ab_br i 47 (ab_br i 44 (ab_lf i 41 (.iinc 3 1) 0 0 0) (ab_lf i 44 (.goto (-31)) 0 0 0)) (ab_br i 48 (ab_lf i 47 (.iload_n 2) 0 0 0) (ab_lf i 48 (.ireturn) 0 0 0))))))
def ab_p101 (i : Nat) : Option (Instr × Nat × Nat × Nat) := (ab_br i 21 (ab_br i 10 (ab_br i 3 (ab_br i 1 (ab_lf i 0 (.iload_n 0) 0 0 0) (ab_lf i 1 (.bipush 24) 0 0 0)) (ab_br i 6 (ab_lf i 3 (.if_icmp .ge 7) 0 0 0) (ab_br i 7 (ab_lf i 6 (.iconst 0) 0 0 0) (ab_lf i 7 (.goto 34) 0 0 0)))) (ab_br i 16 (ab_br i 11 (ab_lf i 10 (.iload_n 0) 0 0 0) (ab_br i 13 (ab_lf i 11 (.bipush 24) 0 0 0) (ab_lf i 13 (.if_icmp .ne 7) 0 0 0))) (ab_br i 17 (ab_lf i 16 (.iconst 1) 0 0 0) (ab_br i 20 (ab_lf i 17 (.goto 24) 0 0 0) (ab_lf i 20 (.iload_n 0) 0 0 0))))) (ab_br i 31 (ab_br i 26 (ab_br i 23 (ab_lf i 21 (.bipush 25) 0 0 0) (ab_lf i 23 (.if_icmp .ne 7) 0 0 0)) (ab_br i 27 (ab_lf i 26 (.iconst 2) 0 0 0) (ab_br i 30 (ab_lf i 27 (.goto 14) 0 0 0) (ab_lf i 30 (.iload_n 0) 0 0 0)))) (ab_br i 37 (ab_br i 33 (ab_lf i 31 (.bipush 26) 0 0 0) (ab_br i 36 (ab_lf i 33 (.if_icmp .ne 7) 0 0 0) (ab_lf i 36 (.iconst 4) 0 0 0))) (ab_br i 40 (ab_lf i 37 (.goto 4) 0 0 0) (ab_br i 41 (ab_lf i 40 (.iconst (-1)) 0 0 0) (ab_lf i 41 (.ireturn) 0 0 0))))))
def ab_p102 (i : Nat) : Option (Instr × Nat × Nat × Nat) := (ab_br i 189 (ab_br i 93 (ab_br i 43 (ab_br i 17 (ab_br i 8 (ab_br i 5 (ab_br i 1 (ab_lf i 0 (.aload_n 0) 0 0 0) (ab_br i 2 (ab_lf i 1 (.iconst 0) 0 0 0) (ab_lf i 2 (.putfield 192) 6 26 0))) (ab_br i 6 (ab_lf i 5 (.iconst 0) 0 0 0) (ab_br i 7 (ab_lf i 6 (.istore_n 1) 0 0 0) (ab_lf i 7 (.iconst 0) 0 0 0)))) (ab_br i 11 (ab_br i 9 (ab_lf i 8 (.istore_n 2) 0 0 0) (ab_br i 10 (ab_lf i 9 (.iconst 0) 0 0 0) (ab_lf i 10 (.istore_n 3) 0 0 0))) (ab_br i 15 (ab_br i 12 (ab_lf i 11 (.iload_n 3) 0 0 0) (ab_lf i 12 (.ifCond .ne 352) 0 0 0)) (ab_br i 16 (ab_lf i 15 (.iload_n 1) 0 0 0) (ab_lf i 16 (.aload_n 0) 0 0 0))))) (ab_br i 29 (ab_br i 24 (ab_br i 20 (ab_lf i 17 (.getfield 106) 6 4 0) (ab_br i 23 (ab_lf i 20 (.if_icmp .ge 17) 0 0 0) (ab_lf i 23 (.iload_n 2) 0 0 0))) (ab_br i 25 (ab_lf i 24 (.iconst 5) 0 0 0) (ab_br i 28 (ab_lf i 25 (.if_icmp .gt 12) 0 0 0) (ab_lf i 28 (.aload_n 0) 0 0 0)))) (ab_br i 37 (ab_br i 32 (ab_lf i 29 (.getfield 192) 6 26 0) (ab_br i 34 (ab_lf i 32 (.bipush 24) 0 0 0) (ab_lf i 34 (.if_icmp .ne 5) 0 0 0))) (ab_br i 39 (ab_br i 38 (ab_lf i 37 (.iconst 0) 0 0 0) (ab_lf i 38 (.ireturn) 0 0 0)) (ab_br i 40 (ab_lf i 39 (.aload_n 0) 0 0 0) (ab_lf i 40 (.getfield 13) 6 3 3)))))) (ab_br i 62 (ab_br i 50 (ab_br i 46 (ab_br i 44 (ab_lf i 43 (.iload_n 1) 0 0 0) (ab_br i 45 (ab_lf i 44 (.iaload) 0 0 0) (ab_lf i 45 (.iconst 5) 0 0 0))) (ab_br i 47 (ab_lf i 46 (.ishr) 0 0 0) (ab_br i 49 (ab_lf i 47 (.istore 4) 0 0 0) (ab_lf i 49 (.aload_n 0) 0 0 0)))) (ab_br i 55 (ab_br i 53 (ab_lf i 50 (.getfield 13) 6 3 3) (ab_br i 54 (ab_lf i 53 (.iload_n 1) 0 0 0) (ab_lf i 54 (.iaload) 0 0 0))) (ab_br i 58 (ab_br i 57 (ab_lf i 55 (.bipush 31) 0 0 0) (ab_lf i 57 (.iand) 0 0 0)) (ab_br i 60 (ab_lf i 58 (.istore 5) 0 0 0) (ab_lf i 60 (.iload 5) 0 0 0))))) (ab_br i 78 (ab_br i 70 (ab_br i 65 (ab_lf i 62 (.invokestatic 195) 1 101 1) (ab_br i 67 (ab_lf i 65 (.istore 6) 0 0 0) (ab_lf i 67 (.iinc 1 1) 0 0 0))) (ab_br i 75 (ab_br i 72 (ab_lf i 70 (.iload 6) 0 0 0) (ab_lf i 72 (.ifCond .lt 35) 0 0 0)) (ab_br i 76 (ab_lf i 75 (.iload_n 1) 0 0 0) (ab_lf i 76 (.iload 6) 0 0 0)))) (ab_br i 83 (ab_br i 79 (ab_lf i 78 (.iadd) 0 0 0) (ab_br i 80 (ab_lf i 79 (.aload_n 0) 0 0 0) (ab_lf i 80 (.getfield 106) 6 4 0))) (ab_br i 88 (ab_br i 86 (ab_lf i 83 (.if_icmp .gt 24) 0 0 0) (ab_lf i 86 (.iload 4) 0 0 0)) (ab_br i 90 (ab_lf i 88 (.bipush 7) 0 0 0) (ab_lf i 90 (.if_icmp .ne 19) 0 0 0))))))) (ab_br i 144 (ab_br i 120 (ab_br i 107 (ab_br i 100 (ab_br i 95 (ab_lf i 93 (.iload 5) 0 0 0) (ab_br i 97 (ab_lf i 95 (.bipush 20) 0 0 0) (ab_lf i 97 (.if_icmp .lt 10) 0 0 0))) (ab_br i 102 (ab_lf i 100 (.iload 5) 0 0 0) (ab_br i 104 (ab_lf i 102 (.bipush 22) 0 0 0) (ab_lf i 104 (.if_icmp .le 5) 0 0 0)))) (ab_br i 111 (ab_br i 108 (ab_lf i 107 (.iconst 0) 0 0 0) (ab_br i 109 (ab_lf i 108 (.ireturn) 0 0 0) (ab_lf i 109 (.iload 6) 0 0 0))) (ab_br i 116 (ab_br i 114 (ab_lf i 111 (.ifCond .ne 9) 0 0 0) (ab_lf i 114 (.iload 5) 0 0 0)) (ab_br i 117 (ab_lf i 116 (.i2l) 0 0 0) (ab_lf i 117 (.goto 4) 0 0 0))))) (ab_br i 130 (ab_br i 124 (ab_br i 121 (ab_lf i 120 (.lconst 0) 0 0 0) (ab_br i 123 (ab_lf i 121 (.lstore 7) 0 0 0) (ab_lf i 123 (.iconst 0) 0 0 0))) (ab_br i 126 (ab_lf i 124 (.istore 9) 0 0 0) (ab_br i 128 (ab_lf i 126 (.iload 9) 0 0 0) (ab_lf i 128 (.iload 6) 0 0 0)))) (ab_br i 138 (ab_br i 133 (ab_lf i 130 (.if_icmp .ge 28) 0 0 0) (ab_br i 136 (ab_lf i 133 (.ldc2_w 198) 0 0 0) (ab_lf i 136 (.lload 7) 0 0 0))) (ab_br i 140 (ab_br i 139 (ab_lf i 138 (.lmul) 0 0 0) (ab_lf i 139 (.aload_n 0) 0 0 0)) (ab_br i 143 (ab_lf i 140 (.getfield 13) 6 3 3) (ab_lf i 143 (.iload_n 1) 0 0 0)))))) (ab_br i 164 (ab_br i 152 (ab_br i 148 (ab_br i 146 (ab_lf i 144 (.iload 9) 0 0 0) (ab_br i 147 (ab_lf i 146 (.iadd) 0 0 0) (ab_lf i 147 (.iaload) 0 0 0))) (ab_br i 149 (ab_lf i 148 (.i2l) 0 0 0) (ab_br i 150 (ab_lf i 149 (.ladd) 0 0 0) (ab_lf i 150 (.lstore 7) 0 0 0)))) (ab_br i 159 (ab_br i 155 (ab_lf i 152 (.iinc 9 1) 0 0 0) (ab_br i 158 (ab_lf i 155 (.goto (-29)) 0 0 0) (ab_lf i 158 (.iload_n 1) 0 0 0))) (ab_br i 162 (ab_br i 161 (ab_lf i 159 (.iload 6) 0 0 0) (ab_lf i 161 (.iadd) 0 0 0)) (ab_br i 163 (ab_lf i 162 (.istore_n 1) 0 0 0) (ab_lf i 163 (.aload_n 0) 0 0 0))))) (ab_br i 176 (ab_br i 170 (ab_br i 167 (ab_lf i 164 (.getfield 192) 6 26 0) (ab_br i 169 (ab_lf i 167 (.istore 9) 0 0 0) (ab_lf i 169 (.aload_n 0) 0 0 0))) (ab_br i 174 (ab_br i 171 (ab_lf i 170 (.dup) 0 0 0) (ab_lf i 171 (.getfield 192) 6 26 0)) (ab_br i 175 (ab_lf i 174 (.iconst 1) 0 0 0) (ab_lf i 175 (.iadd) 0 0 0)))) (ab_br i 183 (ab_br i 179 (ab_lf i 176 (.putfield 192) 6 26 0) (ab_br i 180 (ab_lf i 179 (.aload_n 0) 0 0 0) (ab_lf i 180 (.getfield 68) 6 27 3))) (ab_br i 187 (ab_br i 185 (ab_lf i 183 (.iload 9) 0 0 0) (ab_lf i 185 (.iload 4) 0 0 0)) (ab_br i 188 (ab_lf i 187 (.iastore) 0 0 0) (ab_lf i 188 (.aload_n 0) 0 0 0)))))))) (ab_br i 279 (ab_br i 234 (ab_br i 211 (ab_br i 201 (ab_br i 196 (ab_br i 192 (ab_lf i 189 (.getfield 71) 6 28 3) (ab_br i 194 (ab_lf i 192 (.iload 9) 0 0 0) (ab_lf i 194 (.lload 7) 0 0 0))) (ab_br i 197 (ab_lf i 196 (.lastore) 0 0 0) (ab_br i 198 (ab_lf i 197 (.aload_n 0) 0 0 0) (ab_lf i 198 (.getfield 75) 6 29 3)))) (ab_br i 205 (ab_br i 203 (ab_lf i 201 (.iload 9) 0 0 0) (ab_br i 204 (ab_lf i 203 (.iload_n 2) 0 0 0) (ab_lf i 204 (.iconst 1) 0 0 0))) (ab_br i 207 (ab_br i 206 (ab_lf i 205 (.iadd) 0 0 0) (ab_lf i 206 (.iastore) 0 0 0)) (ab_br i 208 (ab_lf i 207 (.aload_n 0) 0 0 0) (ab_lf i 208 (.getfield 81) 6 31 3))))) (ab_br i 221 (ab_br i 215 (ab_br i 213 (ab_lf i 211 (.iload 9) 0 0 0) (ab_br i 214 (ab_lf i 213 (.iload_n 1) 0 0 0) (ab_lf i 214 (.iastore) 0 0 0))) (ab_br i 217 (ab_lf i 215 (.iload 4) 0 0 0) (ab_br i 218 (ab_lf i 217 (.iconst 2) 0 0 0) (ab_lf i 218 (.if_icmp .eq 9) 0 0 0)))) (ab_br i 227 (ab_br i 223 (ab_lf i 221 (.iload 4) 0 0 0) (ab_br i 224 (ab_lf i 223 (.iconst 3) 0 0 0) (ab_lf i 224 (.if_icmp .ne 41) 0 0 0))) (ab_br i 230 (ab_br i 229 (ab_lf i 227 (.lload 7) 0 0 0) (ab_lf i 229 (.aload_n 0) 0 0 0)) (ab_br i 233 (ab_lf i 230 (.getfield 106) 6 4 0) (ab_lf i 233 (.iload_n 1) 0 0 0)))))) (ab_br i 257 (ab_br i 243 (ab_br i 237 (ab_br i 235 (ab_lf i 234 (.isub) 0 0 0) (ab_br i 236 (ab_lf i 235 (.i2l) 0 0 0) (ab_lf i 236 (.lcmp) 0 0 0))) (ab_br i 240 (ab_lf i 237 (.ifCond .gt 20) 0 0 0) (ab_br i 242 (ab_lf i 240 (.iload 4) 0 0 0) (ab_lf i 242 (.iconst 3) 0 0 0)))) (ab_br i 248 (ab_br i 246 (ab_lf i 243 (.if_icmp .ne 16) 0 0 0) (ab_br i 247 (ab_lf i 246 (.aload_n 0) 0 0 0) (ab_lf i 247 (.iload_n 1) 0 0 0))) (ab_br i 251 (ab_br i 250 (ab_lf i 248 (.lload 7) 0 0 0) (ab_lf i 250 (.l2i) 0 0 0)) (ab_br i 254 (ab_lf i 251 (.invokevirtual 200) 0 103 3) (ab_lf i 254 (.ifCond .ne 5) 0 0 0))))) (ab_br i 265 (ab_br i 260 (ab_br i 258 (ab_lf i 257 (.iconst 0) 0 0 0) (ab_br i 259 (ab_lf i 258 (.ireturn) 0 0 0) (ab_lf i 259 (.iload_n 1) 0 0 0))) (ab_br i 263 (ab_br i 262 (ab_lf i 260 (.lload 7) 0 0 0) (ab_lf i 262 (.l2i) 0 0 0)) (ab_br i 264 (ab_lf i 263 (.iadd) 0 0 0) (ab_lf i 264 (.istore_n 1) 0 0 0)))) (ab_br i 271 (ab_br i 267 (ab_lf i 265 (.iload 4) 0 0 0) (ab_br i 268 (ab_lf i 267 (.iconst 4) 0 0 0) (ab_lf i 268 (.if_icmp .ne 8) 0 0 0))) (ab_br i 276 (ab_br i 273 (ab_lf i 271 (.lload 7) 0 0 0) (ab_lf i 273 (.goto 30) 0 0 0)) (ab_br i 278 (ab_lf i 276 (.iload 4) 0 0 0) (ab_lf i 278 (.iconst 5) 0 0 0))))))) (ab_br i 330 (ab_br i 307 (ab_br i 293 (ab_br i 287 (ab_br i 282 (ab_lf i 279 (.if_icmp .ne 12) 0 0 0) (ab_br i 285 (ab_lf i 282 (.ldc2_w 204) 0 0 0) (ab_lf i 285 (.lload 7) 0 0 0))) (ab_br i 288 (ab_lf i 287 (.lmul) 0 0 0) (ab_br i 291 (ab_lf i 288 (.goto 15) 0 0 0) (ab_lf i 291 (.iload 4) 0 0 0)))) (ab_br i 299 (ab_br i 295 (ab_lf i 293 (.bipush 6) 0 0 0) (ab_br i 298 (ab_lf i 295 (.if_icmp .ne 7) 0 0 0) (ab_lf i 298 (.lconst 1) 0 0 0))) (ab_br i 303 (ab_br i 302 (ab_lf i 299 (.goto 4) 0 0 0) (ab_lf i 302 (.lconst 0) 0 0 0)) (ab_br i 305 (ab_lf i 303 (.lstore 10) 0 0 0) (ab_lf i 305 (.lload 10) 0 0 0))))) (ab_br i 319 (ab_br i 312 (ab_br i 308 (ab_lf i 307 (.lconst 0) 0 0 0) (ab_br i 309 (ab_lf i 308 (.lcmp) 0 0 0) (ab_lf i 309 (.ifCond .le 25) 0 0 0))) (ab_br i 315 (ab_lf i 312 (.iinc 2 1) 0 0 0) (ab_br i 316 (ab_lf i 315 (.aload_n 0) 0 0 0) (ab_lf i 316 (.getfield 84) 6 32 3)))) (ab_br i 323 (ab_br i 320 (ab_lf i 319 (.iload_n 2) 0 0 0) (ab_br i 322 (ab_lf i 320 (.lload 10) 0 0 0) (ab_lf i 322 (.lastore) 0 0 0))) (ab_br i 327 (ab_br i 324 (ab_lf i 323 (.aload_n 0) 0 0 0) (ab_lf i 324 (.getfield 87) 6 33 3)) (ab_br i 328 (ab_lf i 327 (.iload_n 2) 0 0 0) (ab_lf i 328 (.iload 9) 0 0 0)))))) (ab_br i 352 (ab_br i 341 (ab_br i 335 (ab_br i 331 (ab_lf i 330 (.iastore) 0 0 0) (ab_br i 334 (ab_lf i 331 (.goto 30) 0 0 0) (ab_lf i 334 (.aload_n 0) 0 0 0))) (ab_br i 338 (ab_lf i 335 (.getfield 78) 6 30 3) (ab_br i 340 (ab_lf i 338 (.iload 9) 0 0 0) (ab_lf i 340 (.aload_n 0) 0 0 0)))) (ab_br i 346 (ab_br i 344 (ab_lf i 341 (.getfield 192) 6 26 0) (ab_br i 345 (ab_lf i 344 (.iastore) 0 0 0) (ab_lf i 345 (.aload_n 0) 0 0 0))) (ab_br i 350 (ab_br i 347 (ab_lf i 346 (.iload_n 2) 0 0 0) (ab_lf i 347 (.invokevirtual 206) 0 104 2)) (ab_br i 351 (ab_lf i 350 (.istore_n 2) 0 0 0) (ab_lf i 351 (.iload_n 2) 0 0 0))))) (ab_br i 365 (ab_br i 359 (ab_br i 355 (ab_lf i 352 (.ifCond .ne 7) 0 0 0) (ab_br i 356 (ab_lf i 355 (.iconst 1) 0 0 0) (ab_lf i 356 (.goto 4) 0 0 0))) (ab_br i 361 (ab_br i 360 (ab_lf i 359 (.iconst 0) 0 0 0) (ab_lf i 360 (.istore_n 3) 0 0 0)) (ab_br i 364 (ab_lf i 361 (.goto (-350)) 0 0 0) (ab_lf i 364 (.iload_n 1) 0 0 0)))) (ab_br i 372 (ab_br i 366 (ab_lf i 365 (.aload_n 0) 0 0 0) (ab_br i 369 (ab_lf i 366 (.getfield 106) 6 4 0) (ab_lf i 369 (.if_icmp .ne 7) 0 0 0))) (ab_br i 376 (ab_br i 373 (ab_lf i 372 (.iconst 1) 0 0 0) (ab_lf i 373 (.goto 4) 0 0 0)) (ab_br i 377 (ab_lf i 376 (.iconst 0) 0 0 0) (ab_lf i 377 (.ireturn) 0 0 0)))))))))
def ab_p103 (i : Nat) : Option (Instr × Nat × Nat × Nat) := (ab_br i 24 (ab_br i 9 (ab_br i 3 (ab_br i 1 (ab_lf i 0 (.iconst 1) 0 0 0) (ab_br i 2 (ab_lf i 1 (.istore_n 3) 0 0 0) (ab_lf i 2 (.iload_n 1) 0 0 0))) (ab_br i 7 (ab_br i 5 (ab_lf i 3 (.istore 4) 0 0 0) (ab_lf i 5 (.iload 4) 0 0 0)) (ab_br i 8 (ab_lf i 7 (.iload_n 1) 0 0 0) (ab_lf i 8 (.iload_n 2) 0 0 0)))) (ab_br i 17 (ab_br i 13 (ab_br i 10 (ab_lf i 9 (.iadd) 0 0 0) (ab_lf i 10 (.if_icmp .ge 43) 0 0 0)) (ab_br i 14 (ab_lf i 13 (.iload_n 3) 0 0 0) (ab_lf i 14 (.ifCond .eq 31) 0 0 0))) (ab_br i 21 (ab_br i 18 (ab_lf i 17 (.aload_n 0) 0 0 0) (ab_lf i 18 (.getfield 13) 6 3 3)) (ab_br i 23 (ab_lf i 21 (.iload 4) 0 0 0) (ab_lf i 23 (.iaload) 0 0 0))))) (ab_br i 41 (ab_br i 33 (ab_br i 29 (ab_br i 26 (ab_lf i 24 (.bipush 32) 0 0 0) (ab_lf i 26 (.if_icmp .lt 19) 0 0 0)) (ab_br i 30 (ab_lf i 29 (.aload_n 0) 0 0 0) (ab_lf i 30 (.getfield 13) 6 3 3))) (ab_br i 36 (ab_br i 35 (ab_lf i 33 (.iload 4) 0 0 0) (ab_lf i 35 (.iaload) 0 0 0)) (ab_br i 38 (ab_lf i 36 (.bipush 126) 0 0 0) (ab_lf i 38 (.if_icmp .gt 7) 0 0 0)))) (ab_br i 47 (ab_br i 45 (ab_br i 42 (ab_lf i 41 (.iconst 1) 0 0 0) (ab_lf i 42 (.goto 4) 0 0 0)) (ab_br i 46 (ab_lf i 45 (.iconst 0) 0 0 0) (ab_lf i 46 (.istore_n 3) 0 0 0))) (ab_br i 53 (ab_br i 50 (ab_lf i 47 (.iinc 4 1) 0 0 0) (ab_lf i 50 (.goto (-45)) 0 0 0)) (ab_br i 54 (ab_lf i 53 (.iload_n 3) 0 0 0) (ab_lf i 54 (.ireturn) 0 0 0))))))
def ab_p104 (i : Nat) : Option (Instr × Nat × Nat × Nat) := (ab_br i 37 (ab_br i 20 (ab_br i 10 (ab_br i 3 (ab_br i 1 (ab_lf i 0 (.iload_n 1) 0 0 0) (ab_br i 2 (ab_lf i 1 (.istore_n 2) 0 0 0) (ab_lf i 2 (.iload_n 2) 0 0 0))) (ab_br i 6 (ab_lf i 3 (.ifCond .le 7) 0 0 0) (ab_br i 7 (ab_lf i 6 (.iconst 1) 0 0 0) (ab_lf i 7 (.goto 4) 0 0 0)))) (ab_br i 13 (ab_br i 11 (ab_lf i 10 (.iconst 0) 0 0 0) (ab_br i 12 (ab_lf i 11 (.istore_n 3) 0 0 0) (ab_lf i 12 (.iload_n 3) 0 0 0))) (ab_br i 16 (ab_lf i 13 (.ifCond .eq 65) 0 0 0) (ab_br i 17 (ab_lf i 16 (.aload_n 0) 0 0 0) (ab_lf i 17 (.getfield 84) 6 32 3))))) (ab_br i 26 (ab_br i 23 (ab_br i 21 (ab_lf i 20 (.iload_n 2) 0 0 0) (ab_br i 22 (ab_lf i 21 (.dup2) 0 0 0) (ab_lf i 22 (.laload) 0 0 0))) (ab_br i 24 (ab_lf i 23 (.lconst 1) 0 0 0) (ab_br i 25 (ab_lf i 24 (.lsub) 0 0 0) (ab_lf i 25 (.lastore) 0 0 0)))) (ab_br i 31 (ab_br i 27 (ab_lf i 26 (.aload_n 0) 0 0 0) (ab_br i 30 (ab_lf i 27 (.getfield 84) 6 32 3) (ab_lf i 30 (.iload_n 2) 0 0 0))) (ab_br i 33 (ab_br i 32 (ab_lf i 31 (.laload) 0 0 0) (ab_lf i 32 (.lconst 0) 0 0 0)) (ab_br i 34 (ab_lf i 33 (.lcmp) 0 0 0) (ab_lf i 34 (.ifCond .ne 7) 0 0 0)))))) (ab_br i 57 (ab_br i 47 (ab_br i 42 (ab_br i 38 (ab_lf i 37 (.iconst 1) 0 0 0) (ab_br i 41 (ab_lf i 38 (.goto 4) 0 0 0) (ab_lf i 41 (.iconst 0) 0 0 0))) (ab_br i 43 (ab_lf i 42 (.istore_n 3) 0 0 0) (ab_br i 44 (ab_lf i 43 (.iload_n 3) 0 0 0) (ab_lf i 44 (.ifCond .eq (-32)) 0 0 0)))) (ab_br i 52 (ab_br i 48 (ab_lf i 47 (.aload_n 0) 0 0 0) (ab_br i 51 (ab_lf i 48 (.getfield 78) 6 30 3) (ab_lf i 51 (.aload_n 0) 0 0 0))) (ab_br i 55 (ab_lf i 52 (.getfield 87) 6 33 3) (ab_br i 56 (ab_lf i 55 (.iload_n 2) 0 0 0) (ab_lf i 56 (.iaload) 0 0 0))))) (ab_br i 69 (ab_br i 62 (ab_br i 58 (ab_lf i 57 (.aload_n 0) 0 0 0) (ab_br i 61 (ab_lf i 58 (.getfield 192) 6 26 0) (ab_lf i 61 (.iastore) 0 0 0))) (ab_br i 65 (ab_lf i 62 (.iinc 2 (-1)) 0 0 0) (ab_br i 66 (ab_lf i 65 (.iload_n 2) 0 0 0) (ab_lf i 66 (.ifCond .le 7) 0 0 0)))) (ab_br i 74 (ab_br i 70 (ab_lf i 69 (.iconst 1) 0 0 0) (ab_br i 73 (ab_lf i 70 (.goto 4) 0 0 0) (ab_lf i 73 (.iconst 0) 0 0 0))) (ab_br i 78 (ab_br i 75 (ab_lf i 74 (.istore_n 3) 0 0 0) (ab_lf i 75 (.goto (-63)) 0 0 0)) (ab_br i 79 (ab_lf i 78 (.iload_n 2) 0 0 0) (ab_lf i 79 (.ireturn) 0 0 0)))))))
def ab_p105 (i : Nat) : Option (Instr × Nat × Nat × Nat) := (ab_br i 16 (ab_br i 8 (ab_br i 2 (ab_br i 1 (ab_lf i 0 (.aload_n 0) 0 0 0) (ab_lf i 1 (.aload_n 0) 0 0 0)) (ab_br i 5 (ab_lf i 2 (.invokevirtual 209) 0 102 1) (ab_lf i 5 (.ifCond .eq 7) 0 0 0))) (ab_br i 12 (ab_br i 9 (ab_lf i 8 (.iconst 0) 0 0 0) (ab_lf i 9 (.goto 4) 0 0 0)) (ab_br i 13 (ab_lf i 12 (.iconst 1) 0 0 0) (ab_lf i 13 (.putfield 99) 6 0 0)))) (ab_br i 24 (ab_br i 20 (ab_br i 17 (ab_lf i 16 (.aload_n 0) 0 0 0) (ab_lf i 17 (.getfield 99) 6 0 0)) (ab_br i 23 (ab_lf i 20 (.ifCond .le 7) 0 0 0) (ab_lf i 23 (.iconst 0) 0 0 0))) (ab_br i 28 (ab_br i 27 (ab_lf i 24 (.goto 7) 0 0 0) (ab_lf i 27 (.aload_n 0) 0 0 0)) (ab_br i 31 (ab_lf i 28 (.getfield 192) 6 26 0) (ab_lf i 31 (.ireturn) 0 0 0)))))
def ab_p106 (i : Nat) : Option (Instr × Nat × Nat × Nat) := (ab_br i 21 (ab_br i 9 (ab_br i 2 (ab_br i 1 (ab_lf i 0 (.aload_n 0) 0 0 0) (ab_lf i 1 (.aload_n 0) 0 0 0)) (ab_br i 5 (ab_lf i 2 (.invokevirtual 209) 0 102 1) (ab_br i 8 (ab_lf i 5 (.ifCond .ne 7) 0 0 0) (ab_lf i 8 (.iconst 1) 0 0 0)))) (ab_br i 16 (ab_br i 12 (ab_lf i 9 (.goto 20) 0 0 0) (ab_br i 13 (ab_lf i 12 (.iload_n 1) 0 0 0) (ab_lf i 13 (.ifCond .lt 11) 0 0 0))) (ab_br i 17 (ab_lf i 16 (.iload_n 1) 0 0 0) (ab_br i 18 (ab_lf i 17 (.aload_n 0) 0 0 0) (ab_lf i 18 (.getfield 192) 6 26 0))))) (ab_br i 33 (ab_br i 28 (ab_br i 24 (ab_lf i 21 (.if_icmp .lt 7) 0 0 0) (ab_br i 25 (ab_lf i 24 (.iconst 2) 0 0 0) (ab_lf i 25 (.goto 4) 0 0 0))) (ab_br i 29 (ab_lf i 28 (.iconst 0) 0 0 0) (ab_br i 32 (ab_lf i 29 (.putfield 99) 6 0 0) (ab_lf i 32 (.aload_n 0) 0 0 0)))) (ab_br i 40 (ab_br i 36 (ab_lf i 33 (.getfield 99) 6 0 0) (ab_br i 39 (ab_lf i 36 (.ifCond .ne 7) 0 0 0) (ab_lf i 39 (.iconst 1) 0 0 0))) (ab_br i 43 (ab_lf i 40 (.goto 4) 0 0 0) (ab_br i 44 (ab_lf i 43 (.iconst 0) 0 0 0) (ab_lf i 44 (.ireturn) 0 0 0))))))
def ab_p107 (i : Nat) : Option (Instr × Nat × Nat × Nat) := (ab_br i 9 (ab_br i 2 (ab_br i 1 (ab_lf i 0 (.aload_n 0) 0 0 0) (ab_lf i 1 (.iload_n 1) 0 0 0)) (ab_br i 5 (ab_lf i 2 (.invokevirtual 212) 0 106 2) (ab_br i 8 (ab_lf i 5 (.ifCond .eq 12) 0 0 0) (ab_lf i 8 (.aload_n 0) 0 0 0)))) (ab_br i 14 (ab_br i 12 (ab_lf i 9 (.getfield 68) 6 27 3) (ab_br i 13 (ab_lf i 12 (.iload_n 1) 0 0 0) (ab_lf i 13 (.iaload) 0 0 0))) (ab_br i 17 (ab_lf i 14 (.goto 4) 0 0 0) (ab_br i 18 (ab_lf i 17 (.iconst 0) 0 0 0) (ab_lf i 18 (.ireturn) 0 0 0)))))
def ab_p108 (i : Nat) : Option (Instr × Nat × Nat × Nat) := (ab_br i 9 (ab_br i 2 (ab_br i 1 (ab_lf i 0 (.aload_n 0) 0 0 0) (ab_lf i 1 (.iload_n 1) 0 0 0)) (ab_br i 5 (ab_lf i 2 (.invokevirtual 212) 0 106 2) (ab_br i 8 (ab_lf i 5 (.ifCond .eq 12) 0 0 0) (ab_lf i 8 (.aload_n 0) 0 0 0)))) (ab_br i 14 (ab_br i 12 (ab_lf i 9 (.getfield 71) 6 28 3) (ab_br i 13 (ab_lf i 12 (.iload_n 1) 0 0 0) (ab_lf i 13 (.laload) 0 0 0))) (ab_br i 17 (ab_lf i 14 (.goto 4) 0 0 0) (ab_br i 18 (ab_lf i 17 (.lconst 0) 0 0 0) (ab_lf i 18 (.lreturn) 0 0 0)))))
def ab_p109 (i : Nat) : Option (Instr × Nat × Nat × Nat) := (ab_br i 9 (ab_br i 2 (ab_br i 1 (ab_lf i 0 (.aload_n 0) 0 0 0) (ab_lf i 1 (.iload_n 1) 0 0 0)) (ab_br i 5 (ab_lf i 2 (.invokevirtual 212) 0 106 2) (ab_br i 8 (ab_lf i 5 (.ifCond .eq 12) 0 0 0) (ab_lf i 8 (.aload_n 0) 0 0 0)))) (ab_br i 14 (ab_br i 12 (ab_lf i 9 (.getfield 75) 6 29 3) (ab_br i 13 (ab_lf i 12 (.iload_n 1) 0 0 0) (ab_lf i 13 (.iaload) 0 0 0))) (ab_br i 17 (ab_lf i 14 (.goto 4) 0 0 0) (ab_br i 18 (ab_lf i 17 (.iconst 0) 0 0 0) (ab_lf i 18 (.ireturn) 0 0 0)))))
def ab_p110 (i : Nat) : Option (Instr × Nat × Nat × Nat) := (ab_br i 17 (ab_br i 10 (ab_br i 3 (ab_br i 1 (ab_lf i 0 (.iload_n 3) 0 0 0) (ab_lf i 1 (.bipush 20) 0 0 0)) (ab_br i 6 (ab_lf i 3 (.if_icmp .gt 27) 0 0 0) (ab_br i 7 (ab_lf i 6 (.aload_n 0) 0 0 0) (ab_lf i 7 (.getfield 90) 6 34 3)))) (ab_br i 14 (ab_br i 13 (ab_lf i 10 (.sipush 512) 0 0 0) (ab_lf i 13 (.iload_n 1) 0 0 0)) (ab_br i 15 (ab_lf i 14 (.imul) 0 0 0) (ab_br i 16 (ab_lf i 15 (.iload_n 2) 0 0 0) (ab_lf i 16 (.iadd) 0 0 0))))) (ab_br i 22 (ab_br i 19 (ab_br i 18 (ab_lf i 17 (.iaload) 0 0 0) (ab_lf i 18 (.iload_n 3) 0 0 0)) (ab_br i 20 (ab_lf i 19 (.ishr) 0 0 0) (ab_br i 21 (ab_lf i 20 (.iconst 1) 0 0 0) (ab_lf i 21 (.iand) 0 0 0)))) (ab_br i 27 (ab_br i 23 (ab_lf i 22 (.iconst 1) 0 0 0) (ab_br i 26 (ab_lf i 23 (.if_icmp .ne 7) 0 0 0) (ab_lf i 26 (.iconst 1) 0 0 0))) (ab_br i 30 (ab_lf i 27 (.goto 4) 0 0 0) (ab_br i 31 (ab_lf i 30 (.iconst 0) 0 0 0) (ab_lf i 31 (.ireturn) 0 0 0))))))
def ab_p111 (i : Nat) : Option (Instr × Nat × Nat × Nat) := (ab_br i 51 (ab_br i 23 (ab_br i 11 (ab_br i 5 (ab_br i 1 (ab_lf i 0 (.aload_n 0) 0 0 0) (ab_br i 4 (ab_lf i 1 (.getfield 38) 6 12 3) (ab_lf i 4 (.iload_n 2) 0 0 0))) (ab_br i 7 (ab_br i 6 (ab_lf i 5 (.iaload) 0 0 0) (ab_lf i 6 (.istore_n 3) 0 0 0)) (ab_br i 8 (ab_lf i 7 (.aload_n 0) 0 0 0) (ab_lf i 8 (.getfield 68) 6 27 3)))) (ab_br i 17 (ab_br i 13 (ab_br i 12 (ab_lf i 11 (.iload_n 1) 0 0 0) (ab_lf i 12 (.iaload) 0 0 0)) (ab_br i 14 (ab_lf i 13 (.iconst 3) 0 0 0) (ab_lf i 14 (.if_icmp .ne 19) 0 0 0))) (ab_br i 21 (ab_br i 18 (ab_lf i 17 (.aload_n 0) 0 0 0) (ab_lf i 18 (.getfield 71) 6 28 3)) (ab_br i 22 (ab_lf i 21 (.iload_n 1) 0 0 0) (ab_lf i 22 (.laload) 0 0 0))))) (ab_br i 36 (ab_br i 29 (ab_br i 25 (ab_br i 24 (ab_lf i 23 (.iload_n 3) 0 0 0) (ab_lf i 24 (.i2l) 0 0 0)) (ab_br i 26 (ab_lf i 25 (.lcmp) 0 0 0) (ab_lf i 26 (.ifCond .ne 7) 0 0 0))) (ab_br i 33 (ab_br i 30 (ab_lf i 29 (.iconst 1) 0 0 0) (ab_lf i 30 (.goto 4) 0 0 0)) (ab_br i 34 (ab_lf i 33 (.iconst 0) 0 0 0) (ab_lf i 34 (.istore 4) 0 0 0)))) (ab_br i 42 (ab_br i 39 (ab_br i 37 (ab_lf i 36 (.iconst 0) 0 0 0) (ab_lf i 37 (.istore 5) 0 0 0)) (ab_br i 41 (ab_lf i 39 (.iload 5) 0 0 0) (ab_lf i 41 (.iload_n 3) 0 0 0))) (ab_br i 47 (ab_br i 45 (ab_lf i 42 (.if_icmp .ge 60) 0 0 0) (ab_lf i 45 (.iload 4) 0 0 0)) (ab_br i 50 (ab_lf i 47 (.ifCond .eq 55) 0 0 0) (ab_lf i 50 (.aload_n 0) 0 0 0)))))) (ab_br i 76 (ab_br i 64 (ab_br i 59 (ab_br i 55 (ab_br i 54 (ab_lf i 51 (.getfield 13) 6 3 3) (ab_lf i 54 (.aload_n 0) 0 0 0)) (ab_br i 58 (ab_lf i 55 (.getfield 81) 6 31 3) (ab_lf i 58 (.iload_n 1) 0 0 0))) (ab_br i 62 (ab_br i 60 (ab_lf i 59 (.iaload) 0 0 0) (ab_lf i 60 (.iload 5) 0 0 0)) (ab_br i 63 (ab_lf i 62 (.iadd) 0 0 0) (ab_lf i 63 (.iaload) 0 0 0)))) (ab_br i 71 (ab_br i 68 (ab_br i 65 (ab_lf i 64 (.aload_n 0) 0 0 0) (ab_lf i 65 (.getfield 20) 6 6 3)) (ab_br i 70 (ab_lf i 68 (.bipush 40) 0 0 0) (ab_lf i 70 (.iload_n 2) 0 0 0))) (ab_br i 74 (ab_br i 73 (ab_lf i 71 (.bipush 64) 0 0 0) (ab_lf i 73 (.idiv) 0 0 0)) (ab_br i 75 (ab_lf i 74 (.imul) 0 0 0) (ab_lf i 75 (.aload_n 0) 0 0 0))))) (ab_br i 89 (ab_br i 82 (ab_br i 80 (ab_br i 79 (ab_lf i 76 (.getfield 35) 6 11 3) (ab_lf i 79 (.iload_n 2) 0 0 0)) (ab_br i 81 (ab_lf i 80 (.iaload) 0 0 0) (ab_lf i 81 (.iadd) 0 0 0))) (ab_br i 85 (ab_br i 84 (ab_lf i 82 (.iload 5) 0 0 0) (ab_lf i 84 (.iadd) 0 0 0)) (ab_br i 86 (ab_lf i 85 (.iaload) 0 0 0) (ab_lf i 86 (.if_icmp .ne 7) 0 0 0)))) (ab_br i 96 (ab_br i 93 (ab_br i 90 (ab_lf i 89 (.iconst 1) 0 0 0) (ab_lf i 90 (.goto 4) 0 0 0)) (ab_br i 94 (ab_lf i 93 (.iconst 0) 0 0 0) (ab_lf i 94 (.istore 4) 0 0 0))) (ab_br i 102 (ab_br i 99 (ab_lf i 96 (.iinc 5 1) 0 0 0) (ab_lf i 99 (.goto (-60)) 0 0 0)) (ab_br i 104 (ab_lf i 102 (.iload 4) 0 0 0) (ab_lf i 104 (.ireturn) 0 0 0)))))))
def ab_p112 (i : Nat) : Option (Instr × Nat × Nat × Nat) := (ab_br i 14 (ab_br i 6 (ab_br i 4 (ab_br i 1 (ab_lf i 0 (.aload_n 0) 0 0 0) (ab_lf i 1 (.getfield 68) 6 27 3)) (ab_br i 5 (ab_lf i 4 (.iload_n 1) 0 0 0) (ab_lf i 5 (.iaload) 0 0 0))) (ab_br i 10 (ab_br i 9 (ab_lf i 6 (.ifCond .ne 12) 0 0 0) (ab_lf i 9 (.aload_n 0) 0 0 0)) (ab_br i 13 (ab_lf i 10 (.getfield 71) 6 28 3) (ab_lf i 13 (.iload_n 1) 0 0 0)))) (ab_br i 22 (ab_br i 18 (ab_br i 15 (ab_lf i 14 (.laload) 0 0 0) (ab_lf i 15 (.goto 13) 0 0 0)) (ab_br i 21 (ab_lf i 18 (.ldc2_w 215) 0 0 0) (ab_lf i 21 (.aload_n 0) 0 0 0))) (ab_br i 26 (ab_br i 25 (ab_lf i 22 (.getfield 71) 6 28 3) (ab_lf i 25 (.iload_n 1) 0 0 0)) (ab_br i 27 (ab_lf i 26 (.laload) 0 0 0) (ab_br i 28 (ab_lf i 27 (.lsub) 0 0 0) (ab_lf i 28 (.lreturn) 0 0 0))))))
def ab_p113 (i : Nat) : Option (Instr × Nat × Nat × Nat) := (ab_br i 85 (ab_br i 43 (ab_br i 18 (ab_br i 8 (ab_br i 3 (ab_br i 1 (ab_lf i 0 (.iload_n 1) 0 0 0) (ab_br i 2 (ab_lf i 1 (.iconst 1) 0 0 0) (ab_lf i 2 (.iadd) 0 0 0))) (ab_br i 5 (ab_lf i 3 (.istore 4) 0 0 0) (ab_br i 6 (ab_lf i 5 (.iconst 1) 0 0 0) (ab_lf i 6 (.istore 5) 0 0 0)))) (ab_br i 13 (ab_br i 9 (ab_lf i 8 (.aload_n 0) 0 0 0) (ab_br i 12 (ab_lf i 9 (.getfield 35) 6 11 3) (ab_lf i 12 (.iload_n 2) 0 0 0))) (ab_br i 14 (ab_lf i 13 (.iaload) 0 0 0) (ab_br i 16 (ab_lf i 14 (.istore 6) 0 0 0) (ab_lf i 16 (.iload 6) 0 0 0))))) (ab_br i 32 (ab_br i 26 (ab_br i 21 (ab_lf i 18 (.ifCond .lt 144) 0 0 0) (ab_br i 23 (ab_lf i 21 (.iload 5) 0 0 0) (ab_lf i 23 (.ifCond .eq 139) 0 0 0))) (ab_br i 27 (ab_lf i 26 (.aload_n 0) 0 0 0) (ab_br i 30 (ab_lf i 27 (.getfield 44) 6 14 3) (ab_lf i 30 (.iload 6) 0 0 0)))) (ab_br i 37 (ab_br i 33 (ab_lf i 32 (.iaload) 0 0 0) (ab_br i 36 (ab_lf i 33 (.ifCond .eq 15) 0 0 0) (ab_lf i 36 (.aload_n 0) 0 0 0))) (ab_br i 40 (ab_lf i 37 (.getfield 44) 6 14 3) (ab_br i 42 (ab_lf i 40 (.iload 6) 0 0 0) (ab_lf i 42 (.iaload) 0 0 0)))))) (ab_br i 65 (ab_br i 55 (ab_br i 49 (ab_br i 45 (ab_lf i 43 (.bipush 63) 0 0 0) (ab_br i 48 (ab_lf i 45 (.if_icmp .ne 7) 0 0 0) (ab_lf i 48 (.iconst 1) 0 0 0))) (ab_br i 52 (ab_lf i 49 (.goto 4) 0 0 0) (ab_br i 53 (ab_lf i 52 (.iconst 0) 0 0 0) (ab_lf i 53 (.istore 7) 0 0 0)))) (ab_br i 60 (ab_br i 56 (ab_lf i 55 (.iconst 0) 0 0 0) (ab_br i 58 (ab_lf i 56 (.istore 8) 0 0 0) (ab_lf i 58 (.iload 4) 0 0 0))) (ab_br i 61 (ab_lf i 60 (.aload_n 0) 0 0 0) (ab_br i 64 (ab_lf i 61 (.getfield 78) 6 30 3) (ab_lf i 64 (.iload_n 1) 0 0 0))))) (ab_br i 76 (ab_br i 70 (ab_br i 66 (ab_lf i 65 (.iaload) 0 0 0) (ab_br i 69 (ab_lf i 66 (.if_icmp .ge 48) 0 0 0) (ab_lf i 69 (.aload_n 0) 0 0 0))) (ab_br i 72 (ab_lf i 70 (.iload 4) 0 0 0) (ab_br i 73 (ab_lf i 72 (.aload_n 0) 0 0 0) (ab_lf i 73 (.getfield 38) 6 12 3)))) (ab_br i 80 (ab_br i 78 (ab_lf i 76 (.iload 6) 0 0 0) (ab_br i 79 (ab_lf i 78 (.iaload) 0 0 0) (ab_lf i 79 (.iload_n 3) 0 0 0))) (ab_br i 81 (ab_lf i 80 (.iconst 1) 0 0 0) (ab_br i 82 (ab_lf i 81 (.iadd) 0 0 0) (ab_lf i 82 (.invokevirtual 217) 0 110 4))))))) (ab_br i 137 (ab_br i 111 (ab_br i 99 (ab_br i 93 (ab_br i 88 (ab_lf i 85 (.ifCond .eq 29) 0 0 0) (ab_br i 90 (ab_lf i 88 (.iload 7) 0 0 0) (ab_lf i 90 (.ifCond .eq 9) 0 0 0))) (ab_br i 95 (ab_lf i 93 (.iload 8) 0 0 0) (ab_br i 96 (ab_lf i 95 (.iconst 1) 0 0 0) (ab_lf i 96 (.if_icmp .eq 18) 0 0 0)))) (ab_br i 105 (ab_br i 100 (ab_lf i 99 (.aload_n 0) 0 0 0) (ab_br i 103 (ab_lf i 100 (.getfield 78) 6 30 3) (ab_lf i 103 (.iload 4) 0 0 0))) (ab_br i 106 (ab_lf i 105 (.iaload) 0 0 0) (ab_br i 108 (ab_lf i 106 (.istore 4) 0 0 0) (ab_lf i 108 (.iinc 8 1) 0 0 0))))) (ab_br i 125 (ab_br i 119 (ab_br i 114 (ab_lf i 111 (.goto (-53)) 0 0 0) (ab_br i 116 (ab_lf i 114 (.iload 8) 0 0 0) (ab_lf i 116 (.ifCond .gt 27) 0 0 0))) (ab_br i 120 (ab_lf i 119 (.aload_n 0) 0 0 0) (ab_br i 123 (ab_lf i 120 (.getfield 44) 6 14 3) (ab_lf i 123 (.iload 6) 0 0 0)))) (ab_br i 131 (ab_br i 126 (ab_lf i 125 (.iaload) 0 0 0) (ab_br i 128 (ab_lf i 126 (.bipush 63) 0 0 0) (ab_lf i 128 (.if_icmp .eq 15) 0 0 0))) (ab_br i 132 (ab_lf i 131 (.aload_n 0) 0 0 0) (ab_br i 135 (ab_lf i 132 (.getfield 44) 6 14 3) (ab_lf i 135 (.iload 6) 0 0 0)))))) (ab_br i 159 (ab_br i 148 (ab_br i 143 (ab_br i 138 (ab_lf i 137 (.iaload) 0 0 0) (ab_br i 140 (ab_lf i 138 (.bipush 42) 0 0 0) (ab_lf i 140 (.if_icmp .ne 7) 0 0 0))) (ab_br i 144 (ab_lf i 143 (.iconst 1) 0 0 0) (ab_br i 147 (ab_lf i 144 (.goto 4) 0 0 0) (ab_lf i 147 (.iconst 0) 0 0 0)))) (ab_br i 154 (ab_br i 150 (ab_lf i 148 (.istore 5) 0 0 0) (ab_br i 151 (ab_lf i 150 (.aload_n 0) 0 0 0) (ab_lf i 151 (.getfield 41) 6 13 3))) (ab_br i 156 (ab_lf i 154 (.iload 6) 0 0 0) (ab_br i 157 (ab_lf i 156 (.iaload) 0 0 0) (ab_lf i 157 (.istore 6) 0 0 0))))) (ab_br i 173 (ab_br i 167 (ab_br i 162 (ab_lf i 159 (.goto (-143)) 0 0 0) (ab_br i 164 (ab_lf i 162 (.iload 5) 0 0 0) (ab_lf i 164 (.ifCond .eq 18) 0 0 0))) (ab_br i 169 (ab_lf i 167 (.iload 4) 0 0 0) (ab_br i 170 (ab_lf i 169 (.aload_n 0) 0 0 0) (ab_lf i 170 (.getfield 78) 6 30 3)))) (ab_br i 178 (ab_br i 174 (ab_lf i 173 (.iload_n 1) 0 0 0) (ab_br i 175 (ab_lf i 174 (.iaload) 0 0 0) (ab_lf i 175 (.if_icmp .ne 7) 0 0 0))) (ab_br i 182 (ab_br i 179 (ab_lf i 178 (.iconst 1) 0 0 0) (ab_lf i 179 (.goto 4) 0 0 0)) (ab_br i 183 (ab_lf i 182 (.iconst 0) 0 0 0) (ab_lf i 183 (.ireturn) 0 0 0))))))))
def ab_p114 (i : Nat) : Option (Instr × Nat × Nat × Nat) := (ab_br i 73 (ab_br i 34 (ab_br i 18 (ab_br i 7 (ab_br i 2 (ab_br i 1 (ab_lf i 0 (.aload_n 0) 0 0 0) (ab_lf i 1 (.iload_n 3) 0 0 0)) (ab_br i 3 (ab_lf i 2 (.aload_n 0) 0 0 0) (ab_br i 6 (ab_lf i 3 (.getfield 35) 6 11 3) (ab_lf i 6 (.iload_n 2) 0 0 0)))) (ab_br i 11 (ab_br i 8 (ab_lf i 7 (.iaload) 0 0 0) (ab_br i 10 (ab_lf i 8 (.iload 4) 0 0 0) (ab_lf i 10 (.iconst 1) 0 0 0))) (ab_br i 12 (ab_lf i 11 (.iadd) 0 0 0) (ab_br i 15 (ab_lf i 12 (.invokevirtual 217) 0 110 4) (ab_lf i 15 (.ifCond .eq 26) 0 0 0))))) (ab_br i 25 (ab_br i 20 (ab_br i 19 (ab_lf i 18 (.aload_n 0) 0 0 0) (ab_lf i 19 (.aload_n 0) 0 0 0)) (ab_br i 23 (ab_lf i 20 (.getfield 78) 6 30 3) (ab_br i 24 (ab_lf i 23 (.iload_n 3) 0 0 0) (ab_lf i 24 (.iaload) 0 0 0)))) (ab_br i 30 (ab_br i 26 (ab_lf i 25 (.aload_n 0) 0 0 0) (ab_br i 29 (ab_lf i 26 (.getfield 38) 6 12 3) (ab_lf i 29 (.iload_n 2) 0 0 0))) (ab_br i 31 (ab_lf i 30 (.iaload) 0 0 0) (ab_br i 33 (ab_lf i 31 (.iload 4) 0 0 0) (ab_lf i 33 (.iconst 1) 0 0 0)))))) (ab_br i 52 (ab_br i 43 (ab_br i 38 (ab_br i 35 (ab_lf i 34 (.iadd) 0 0 0) (ab_lf i 35 (.invokevirtual 217) 0 110 4)) (ab_br i 41 (ab_lf i 38 (.ifCond .ne 5) 0 0 0) (ab_br i 42 (ab_lf i 41 (.iconst 0) 0 0 0) (ab_lf i 42 (.ireturn) 0 0 0)))) (ab_br i 47 (ab_br i 44 (ab_lf i 43 (.iconst 1) 0 0 0) (ab_br i 46 (ab_lf i 44 (.istore 5) 0 0 0) (ab_lf i 46 (.aload_n 0) 0 0 0))) (ab_br i 50 (ab_lf i 47 (.getfield 35) 6 11 3) (ab_br i 51 (ab_lf i 50 (.iload_n 1) 0 0 0) (ab_lf i 51 (.iaload) 0 0 0))))) (ab_br i 61 (ab_br i 56 (ab_br i 54 (ab_lf i 52 (.istore 6) 0 0 0) (ab_lf i 54 (.iload 6) 0 0 0)) (ab_br i 57 (ab_lf i 56 (.iload_n 2) 0 0 0) (ab_br i 60 (ab_lf i 57 (.if_icmp .eq 97) 0 0 0) (ab_lf i 60 (.aload_n 0) 0 0 0)))) (ab_br i 67 (ab_br i 64 (ab_lf i 61 (.getfield 35) 6 11 3) (ab_br i 66 (ab_lf i 64 (.iload 6) 0 0 0) (ab_lf i 66 (.iaload) 0 0 0))) (ab_br i 69 (ab_lf i 67 (.istore 7) 0 0 0) (ab_br i 70 (ab_lf i 69 (.aload_n 0) 0 0 0) (ab_lf i 70 (.getfield 32) 6 10 3))))))) (ab_br i 116 (ab_br i 94 (ab_br i 82 (ab_br i 76 (ab_br i 75 (ab_lf i 73 (.iload 7) 0 0 0) (ab_lf i 75 (.iaload) 0 0 0)) (ab_br i 78 (ab_lf i 76 (.bipush 7) 0 0 0) (ab_br i 81 (ab_lf i 78 (.if_icmp .eq 26) 0 0 0) (ab_lf i 81 (.aload_n 0) 0 0 0)))) (ab_br i 88 (ab_br i 85 (ab_lf i 82 (.getfield 32) 6 10 3) (ab_br i 87 (ab_lf i 85 (.iload 7) 0 0 0) (ab_lf i 87 (.iaload) 0 0 0))) (ab_br i 90 (ab_lf i 88 (.bipush 6) 0 0 0) (ab_br i 93 (ab_lf i 90 (.if_icmp .ne 18) 0 0 0) (ab_lf i 93 (.aload_n 0) 0 0 0))))) (ab_br i 104 (ab_br i 99 (ab_br i 97 (ab_lf i 94 (.getfield 44) 6 14 3) (ab_lf i 97 (.iload 7) 0 0 0)) (ab_br i 100 (ab_lf i 99 (.iaload) 0 0 0) (ab_br i 101 (ab_lf i 100 (.iconst 1) 0 0 0) (ab_lf i 101 (.if_icmp .ne 7) 0 0 0)))) (ab_br i 109 (ab_br i 105 (ab_lf i 104 (.iconst 1) 0 0 0) (ab_br i 108 (ab_lf i 105 (.goto 4) 0 0 0) (ab_lf i 108 (.iconst 0) 0 0 0))) (ab_br i 111 (ab_lf i 109 (.istore 8) 0 0 0) (ab_br i 113 (ab_lf i 111 (.iload 5) 0 0 0) (ab_lf i 113 (.ifCond .eq 26) 0 0 0)))))) (ab_br i 136 (ab_br i 125 (ab_br i 121 (ab_br i 118 (ab_lf i 116 (.iload 8) 0 0 0) (ab_lf i 118 (.ifCond .eq 17) 0 0 0)) (ab_br i 122 (ab_lf i 121 (.aload_n 0) 0 0 0) (ab_br i 123 (ab_lf i 122 (.iload_n 3) 0 0 0) (ab_lf i 123 (.iload 7) 0 0 0)))) (ab_br i 129 (ab_br i 127 (ab_lf i 125 (.iload 4) 0 0 0) (ab_br i 128 (ab_lf i 127 (.iconst 1) 0 0 0) (ab_lf i 128 (.iadd) 0 0 0))) (ab_br i 132 (ab_lf i 129 (.invokevirtual 217) 0 110 4) (ab_br i 135 (ab_lf i 132 (.ifCond .ne 7) 0 0 0) (ab_lf i 135 (.iconst 1) 0 0 0))))) (ab_br i 146 (ab_br i 140 (ab_br i 139 (ab_lf i 136 (.goto 4) 0 0 0) (ab_lf i 139 (.iconst 0) 0 0 0)) (ab_br i 142 (ab_lf i 140 (.istore 5) 0 0 0) (ab_br i 143 (ab_lf i 142 (.aload_n 0) 0 0 0) (ab_lf i 143 (.getfield 41) 6 13 3)))) (ab_br i 151 (ab_br i 148 (ab_lf i 146 (.iload 6) 0 0 0) (ab_br i 149 (ab_lf i 148 (.iaload) 0 0 0) (ab_lf i 149 (.istore 6) 0 0 0))) (ab_br i 154 (ab_lf i 151 (.goto (-97)) 0 0 0) (ab_br i 156 (ab_lf i 154 (.iload 5) 0 0 0) (ab_lf i 156 (.ireturn) 0 0 0))))))))
def ab_p115 (i : Nat) : Option (Instr × Nat × Nat × Nat) := (ab_br i 199 (ab_br i 99 (ab_br i 49 (ab_br i 26 (ab_br i 11 (ab_br i 5 (ab_br i 1 (ab_lf i 0 (.iconst 0) 0 0 0) (ab_br i 3 (ab_lf i 1 (.istore 4) 0 0 0) (ab_lf i 3 (.iload 4) 0 0 0))) (ab_br i 7 (ab_lf i 5 (.bipush 64) 0 0 0) (ab_br i 10 (ab_lf i 7 (.if_icmp .ge 26) 0 0 0) (ab_lf i 10 (.aload_n 0) 0 0 0)))) (ab_br i 18 (ab_br i 14 (ab_lf i 11 (.getfield 93) 6 35 3) (ab_br i 16 (ab_lf i 14 (.iload 4) 0 0 0) (ab_lf i 16 (.iload 4) 0 0 0))) (ab_br i 22 (ab_br i 21 (ab_lf i 18 (.ifCond .ne 7) 0 0 0) (ab_lf i 21 (.iconst 1) 0 0 0)) (ab_br i 25 (ab_lf i 22 (.goto 4) 0 0 0) (ab_lf i 25 (.iconst 0) 0 0 0))))) (ab_br i 36 (ab_br i 33 (ab_br i 27 (ab_lf i 26 (.bastore) 0 0 0) (ab_br i 30 (ab_lf i 27 (.iinc 4 1) 0 0 0) (ab_lf i 30 (.goto (-27)) 0 0 0))) (ab_br i 34 (ab_lf i 33 (.iload_n 1) 0 0 0) (ab_br i 35 (ab_lf i 34 (.iconst 1) 0 0 0) (ab_lf i 35 (.iadd) 0 0 0)))) (ab_br i 41 (ab_br i 38 (ab_lf i 36 (.istore 4) 0 0 0) (ab_br i 40 (ab_lf i 38 (.iload 4) 0 0 0) (ab_lf i 40 (.aload_n 0) 0 0 0))) (ab_br i 45 (ab_br i 44 (ab_lf i 41 (.getfield 78) 6 30 3) (ab_lf i 44 (.iload_n 1) 0 0 0)) (ab_br i 46 (ab_lf i 45 (.iaload) 0 0 0) (ab_lf i 46 (.if_icmp .ge 229) 0 0 0)))))) (ab_br i 74 (ab_br i 60 (ab_br i 54 (ab_br i 50 (ab_lf i 49 (.iconst 0) 0 0 0) (ab_br i 52 (ab_lf i 50 (.istore 5) 0 0 0) (ab_lf i 52 (.iload 5) 0 0 0))) (ab_br i 56 (ab_lf i 54 (.bipush 64) 0 0 0) (ab_br i 59 (ab_lf i 56 (.if_icmp .ge 17) 0 0 0) (ab_lf i 59 (.aload_n 0) 0 0 0)))) (ab_br i 66 (ab_br i 63 (ab_lf i 60 (.getfield 96) 6 36 3) (ab_br i 65 (ab_lf i 63 (.iload 5) 0 0 0) (ab_lf i 65 (.iconst 0) 0 0 0))) (ab_br i 70 (ab_br i 67 (ab_lf i 66 (.bastore) 0 0 0) (ab_lf i 67 (.iinc 5 1) 0 0 0)) (ab_br i 73 (ab_lf i 70 (.goto (-18)) 0 0 0) (ab_lf i 73 (.iconst 1) 0 0 0))))) (ab_br i 84 (ab_br i 80 (ab_br i 76 (ab_lf i 74 (.istore 5) 0 0 0) (ab_br i 77 (ab_lf i 76 (.aload_n 0) 0 0 0) (ab_lf i 77 (.getfield 35) 6 11 3))) (ab_br i 81 (ab_lf i 80 (.iload_n 2) 0 0 0) (ab_br i 82 (ab_lf i 81 (.iaload) 0 0 0) (ab_lf i 82 (.istore 6) 0 0 0)))) (ab_br i 90 (ab_br i 86 (ab_lf i 84 (.iload 6) 0 0 0) (ab_br i 89 (ab_lf i 86 (.ifCond .lt 142) 0 0 0) (ab_lf i 89 (.aload_n 0) 0 0 0))) (ab_br i 95 (ab_br i 93 (ab_lf i 90 (.getfield 44) 6 14 3) (ab_lf i 93 (.iload 6) 0 0 0)) (ab_br i 96 (ab_lf i 95 (.iaload) 0 0 0) (ab_lf i 96 (.ifCond .eq 15) 0 0 0))))))) (ab_br i 148 (ab_br i 123 (ab_br i 111 (ab_br i 105 (ab_br i 100 (ab_lf i 99 (.aload_n 0) 0 0 0) (ab_br i 103 (ab_lf i 100 (.getfield 44) 6 14 3) (ab_lf i 103 (.iload 6) 0 0 0))) (ab_br i 106 (ab_lf i 105 (.iaload) 0 0 0) (ab_br i 108 (ab_lf i 106 (.bipush 63) 0 0 0) (ab_lf i 108 (.if_icmp .ne 7) 0 0 0)))) (ab_br i 116 (ab_br i 112 (ab_lf i 111 (.iconst 1) 0 0 0) (ab_br i 115 (ab_lf i 112 (.goto 4) 0 0 0) (ab_lf i 115 (.iconst 0) 0 0 0))) (ab_br i 119 (ab_br i 118 (ab_lf i 116 (.istore 7) 0 0 0) (ab_lf i 118 (.iconst 0) 0 0 0)) (ab_br i 121 (ab_lf i 119 (.istore 8) 0 0 0) (ab_lf i 121 (.iload 8) 0 0 0))))) (ab_br i 134 (ab_br i 129 (ab_br i 125 (ab_lf i 123 (.bipush 64) 0 0 0) (ab_br i 128 (ab_lf i 125 (.if_icmp .ge 85) 0 0 0) (ab_lf i 128 (.aload_n 0) 0 0 0))) (ab_br i 130 (ab_lf i 129 (.iload_n 2) 0 0 0) (ab_br i 132 (ab_lf i 130 (.iload 6) 0 0 0) (ab_lf i 132 (.iload 4) 0 0 0)))) (ab_br i 141 (ab_br i 135 (ab_lf i 134 (.iload_n 3) 0 0 0) (ab_br i 138 (ab_lf i 135 (.invokevirtual 221) 0 114 5) (ab_lf i 138 (.ifCond .eq 72) 0 0 0))) (ab_br i 145 (ab_br i 142 (ab_lf i 141 (.aload_n 0) 0 0 0) (ab_lf i 142 (.getfield 93) 6 35 3)) (ab_br i 147 (ab_lf i 145 (.iload 8) 0 0 0) (ab_lf i 147 (.baload) 0 0 0)))))) (ab_br i 175 (ab_br i 161 (ab_br i 156 (ab_br i 151 (ab_lf i 148 (.ifCond .eq 20) 0 0 0) (ab_br i 153 (ab_lf i 151 (.iload 7) 0 0 0) (ab_lf i 153 (.ifCond .eq 11) 0 0 0))) (ab_br i 158 (ab_lf i 156 (.iload 8) 0 0 0) (ab_br i 160 (ab_lf i 158 (.iload 5) 0 0 0) (ab_lf i 160 (.iand) 0 0 0)))) (ab_br i 168 (ab_br i 164 (ab_lf i 161 (.ifCond .ne 7) 0 0 0) (ab_br i 165 (ab_lf i 164 (.iconst 1) 0 0 0) (ab_lf i 165 (.goto 4) 0 0 0))) (ab_br i 171 (ab_br i 169 (ab_lf i 168 (.iconst 0) 0 0 0) (ab_lf i 169 (.istore 9) 0 0 0)) (ab_br i 172 (ab_lf i 171 (.aload_n 0) 0 0 0) (ab_lf i 172 (.getfield 96) 6 36 3))))) (ab_br i 186 (ab_br i 180 (ab_br i 177 (ab_lf i 175 (.iload 8) 0 0 0) (ab_br i 179 (ab_lf i 177 (.iload 5) 0 0 0) (ab_lf i 179 (.ior) 0 0 0))) (ab_br i 181 (ab_lf i 180 (.aload_n 0) 0 0 0) (ab_br i 184 (ab_lf i 181 (.getfield 96) 6 36 3) (ab_lf i 184 (.iload 8) 0 0 0)))) (ab_br i 190 (ab_br i 188 (ab_lf i 186 (.iload 5) 0 0 0) (ab_br i 189 (ab_lf i 188 (.ior) 0 0 0) (ab_lf i 189 (.baload) 0 0 0))) (ab_br i 195 (ab_br i 193 (ab_lf i 190 (.ifCond .ne 8) 0 0 0) (ab_lf i 193 (.iload 9) 0 0 0)) (ab_br i 198 (ab_lf i 195 (.ifCond .eq 7) 0 0 0) (ab_lf i 198 (.iconst 1) 0 0 0)))))))) (ab_br i 298 (ab_br i 250 (ab_br i 223 (ab_br i 211 (ab_br i 204 (ab_br i 202 (ab_lf i 199 (.goto 4) 0 0 0) (ab_br i 203 (ab_lf i 202 (.iconst 0) 0 0 0) (ab_lf i 203 (.bastore) 0 0 0))) (ab_br i 207 (ab_lf i 204 (.iinc 8 1) 0 0 0) (ab_br i 210 (ab_lf i 207 (.goto (-86)) 0 0 0) (ab_lf i 210 (.iconst 2) 0 0 0)))) (ab_br i 216 (ab_br i 213 (ab_lf i 211 (.iload 5) 0 0 0) (ab_br i 214 (ab_lf i 213 (.imul) 0 0 0) (ab_lf i 214 (.istore 5) 0 0 0))) (ab_br i 220 (ab_br i 217 (ab_lf i 216 (.aload_n 0) 0 0 0) (ab_lf i 217 (.getfield 41) 6 13 3)) (ab_br i 222 (ab_lf i 220 (.iload 6) 0 0 0) (ab_lf i 222 (.iaload) 0 0 0))))) (ab_br i 235 (ab_br i 229 (ab_br i 225 (ab_lf i 223 (.istore 6) 0 0 0) (ab_br i 228 (ab_lf i 225 (.goto (-141)) 0 0 0) (ab_lf i 228 (.iconst 0) 0 0 0))) (ab_br i 231 (ab_lf i 229 (.istore 6) 0 0 0) (ab_br i 233 (ab_lf i 231 (.iload 6) 0 0 0) (ab_lf i 233 (.bipush 64) 0 0 0)))) (ab_br i 242 (ab_br i 238 (ab_lf i 235 (.if_icmp .ge 23) 0 0 0) (ab_br i 239 (ab_lf i 238 (.aload_n 0) 0 0 0) (ab_lf i 239 (.getfield 93) 6 35 3))) (ab_br i 245 (ab_br i 244 (ab_lf i 242 (.iload 6) 0 0 0) (ab_lf i 244 (.aload_n 0) 0 0 0)) (ab_br i 248 (ab_lf i 245 (.getfield 96) 6 36 3) (ab_lf i 248 (.iload 6) 0 0 0)))))) (ab_br i 275 (ab_br i 262 (ab_br i 255 (ab_br i 251 (ab_lf i 250 (.baload) 0 0 0) (ab_br i 252 (ab_lf i 251 (.bastore) 0 0 0) (ab_lf i 252 (.iinc 6 1) 0 0 0))) (ab_br i 258 (ab_lf i 255 (.goto (-24)) 0 0 0) (ab_br i 259 (ab_lf i 258 (.aload_n 0) 0 0 0) (ab_lf i 259 (.getfield 78) 6 30 3)))) (ab_br i 268 (ab_br i 263 (ab_lf i 262 (.aload_n 0) 0 0 0) (ab_br i 266 (ab_lf i 263 (.getfield 78) 6 30 3) (ab_lf i 266 (.iload 4) 0 0 0))) (ab_br i 270 (ab_br i 269 (ab_lf i 268 (.iaload) 0 0 0) (ab_lf i 269 (.iaload) 0 0 0)) (ab_br i 272 (ab_lf i 270 (.istore 4) 0 0 0) (ab_lf i 272 (.goto (-234)) 0 0 0))))) (ab_br i 285 (ab_br i 279 (ab_br i 276 (ab_lf i 275 (.iconst 0) 0 0 0) (ab_br i 278 (ab_lf i 276 (.istore 4) 0 0 0) (ab_lf i 278 (.iconst 1) 0 0 0))) (ab_br i 281 (ab_lf i 279 (.istore 5) 0 0 0) (ab_br i 282 (ab_lf i 281 (.aload_n 0) 0 0 0) (ab_lf i 282 (.getfield 35) 6 11 3)))) (ab_br i 289 (ab_br i 286 (ab_lf i 285 (.iload_n 2) 0 0 0) (ab_br i 287 (ab_lf i 286 (.iaload) 0 0 0) (ab_lf i 287 (.istore 6) 0 0 0))) (ab_br i 294 (ab_br i 291 (ab_lf i 289 (.iload 6) 0 0 0) (ab_lf i 291 (.ifCond .lt 55) 0 0 0)) (ab_br i 295 (ab_lf i 294 (.aload_n 0) 0 0 0) (ab_lf i 295 (.getfield 44) 6 14 3))))))) (ab_br i 347 (ab_br i 324 (ab_br i 310 (ab_br i 304 (ab_br i 300 (ab_lf i 298 (.iload 6) 0 0 0) (ab_br i 301 (ab_lf i 300 (.iaload) 0 0 0) (ab_lf i 301 (.ifCond .eq 15) 0 0 0))) (ab_br i 305 (ab_lf i 304 (.aload_n 0) 0 0 0) (ab_br i 308 (ab_lf i 305 (.getfield 44) 6 14 3) (ab_lf i 308 (.iload 6) 0 0 0)))) (ab_br i 316 (ab_br i 311 (ab_lf i 310 (.iaload) 0 0 0) (ab_br i 313 (ab_lf i 311 (.bipush 43) 0 0 0) (ab_lf i 313 (.if_icmp .ne 11) 0 0 0))) (ab_br i 320 (ab_br i 318 (ab_lf i 316 (.iload 4) 0 0 0) (ab_lf i 318 (.iload 5) 0 0 0)) (ab_br i 321 (ab_lf i 320 (.ior) 0 0 0) (ab_lf i 321 (.goto 5) 0 0 0))))) (ab_br i 334 (ab_br i 329 (ab_br i 326 (ab_lf i 324 (.iload 4) 0 0 0) (ab_br i 328 (ab_lf i 326 (.istore 4) 0 0 0) (ab_lf i 328 (.iconst 2) 0 0 0))) (ab_br i 331 (ab_lf i 329 (.iload 5) 0 0 0) (ab_br i 332 (ab_lf i 331 (.imul) 0 0 0) (ab_lf i 332 (.istore 5) 0 0 0)))) (ab_br i 340 (ab_br i 335 (ab_lf i 334 (.aload_n 0) 0 0 0) (ab_br i 338 (ab_lf i 335 (.getfield 41) 6 13 3) (ab_lf i 338 (.iload 6) 0 0 0))) (ab_br i 343 (ab_br i 341 (ab_lf i 340 (.iaload) 0 0 0) (ab_lf i 341 (.istore 6) 0 0 0)) (ab_br i 346 (ab_lf i 343 (.goto (-54)) 0 0 0) (ab_lf i 346 (.iconst 0) 0 0 0)))))) (ab_br i 374 (ab_br i 359 (ab_br i 352 (ab_br i 349 (ab_lf i 347 (.istore 6) 0 0 0) (ab_br i 350 (ab_lf i 349 (.iconst 0) 0 0 0) (ab_lf i 350 (.istore 7) 0 0 0))) (ab_br i 354 (ab_lf i 352 (.iload 7) 0 0 0) (ab_br i 356 (ab_lf i 354 (.bipush 64) 0 0 0) (ab_lf i 356 (.if_icmp .ge 41) 0 0 0)))) (ab_br i 365 (ab_br i 361 (ab_lf i 359 (.iload 6) 0 0 0) (ab_br i 364 (ab_lf i 361 (.ifCond .ne 23) 0 0 0) (ab_lf i 364 (.aload_n 0) 0 0 0))) (ab_br i 370 (ab_br i 368 (ab_lf i 365 (.getfield 93) 6 35 3) (ab_lf i 368 (.iload 7) 0 0 0)) (ab_br i 371 (ab_lf i 370 (.baload) 0 0 0) (ab_lf i 371 (.ifCond .eq 17) 0 0 0))))) (ab_br i 385 (ab_br i 379 (ab_br i 376 (ab_lf i 374 (.iload 7) 0 0 0) (ab_br i 378 (ab_lf i 376 (.iload 4) 0 0 0) (ab_lf i 378 (.iand) 0 0 0))) (ab_br i 381 (ab_lf i 379 (.iload 4) 0 0 0) (ab_br i 384 (ab_lf i 381 (.if_icmp .ne 7) 0 0 0) (ab_lf i 384 (.iconst 1) 0 0 0)))) (ab_br i 391 (ab_br i 388 (ab_lf i 385 (.goto 4) 0 0 0) (ab_br i 389 (ab_lf i 388 (.iconst 0) 0 0 0) (ab_lf i 389 (.istore 6) 0 0 0))) (ab_br i 397 (ab_br i 394 (ab_lf i 391 (.iinc 7 1) 0 0 0) (ab_lf i 394 (.goto (-42)) 0 0 0)) (ab_br i 399 (ab_lf i 397 (.iload 6) 0 0 0) (ab_lf i 399 (.ireturn) 0 0 0)))))))))
def ab_p116 (i : Nat) : Option (Instr × Nat × Nat × Nat) := (ab_br i 25 (ab_br i 11 (ab_br i 4 (ab_br i 1 (ab_lf i 0 (.iconst 0) 0 0 0) (ab_br i 3 (ab_lf i 1 (.istore 4) 0 0 0) (ab_lf i 3 (.aload_n 0) 0 0 0))) (ab_br i 8 (ab_br i 7 (ab_lf i 4 (.getfield 35) 6 11 3) (ab_lf i 7 (.iload_n 2) 0 0 0)) (ab_br i 9 (ab_lf i 8 (.iaload) 0 0 0) (ab_lf i 9 (.istore 5) 0 0 0)))) (ab_br i 18 (ab_br i 13 (ab_lf i 11 (.iload 5) 0 0 0) (ab_br i 16 (ab_lf i 13 (.ifCond .lt 38) 0 0 0) (ab_lf i 16 (.iload 4) 0 0 0))) (ab_br i 22 (ab_br i 21 (ab_lf i 18 (.ifCond .ne 14) 0 0 0) (ab_lf i 21 (.aload_n 0) 0 0 0)) (ab_br i 23 (ab_lf i 22 (.iload_n 1) 0 0 0) (ab_lf i 23 (.iload 5) 0 0 0))))) (ab_br i 39 (ab_br i 32 (ab_br i 26 (ab_lf i 25 (.iload_n 3) 0 0 0) (ab_br i 29 (ab_lf i 26 (.invokevirtual 217) 0 110 4) (ab_lf i 29 (.ifCond .eq 7) 0 0 0))) (ab_br i 36 (ab_br i 33 (ab_lf i 32 (.iconst 1) 0 0 0) (ab_lf i 33 (.goto 4) 0 0 0)) (ab_br i 37 (ab_lf i 36 (.iconst 0) 0 0 0) (ab_lf i 37 (.istore 4) 0 0 0)))) (ab_br i 46 (ab_br i 43 (ab_br i 40 (ab_lf i 39 (.aload_n 0) 0 0 0) (ab_lf i 40 (.getfield 41) 6 13 3)) (ab_br i 45 (ab_lf i 43 (.iload 5) 0 0 0) (ab_lf i 45 (.iaload) 0 0 0))) (ab_br i 51 (ab_br i 48 (ab_lf i 46 (.istore 5) 0 0 0) (ab_lf i 48 (.goto (-37)) 0 0 0)) (ab_br i 53 (ab_lf i 51 (.iload 4) 0 0 0) (ab_lf i 53 (.ireturn) 0 0 0))))))
def ab_p117 (i : Nat) : Option (Instr × Nat × Nat × Nat) := (ab_br i 217 (ab_br i 142 (ab_br i 102 (ab_br i 82 (ab_br i 8 (ab_br i 4 (ab_br i 1 (ab_lf i 0 (.aload_n 0) 0 0 0) (ab_lf i 1 (.getfield 68) 6 27 3)) (ab_br i 5 (ab_lf i 4 (.iload_n 1) 0 0 0) (ab_br i 6 (ab_lf i 5 (.iaload) 0 0 0) (ab_lf i 6 (.istore 4) 0 0 0)))) (ab_br i 13 (ab_br i 9 (ab_lf i 8 (.aload_n 0) 0 0 0) (ab_br i 12 (ab_lf i 9 (.getfield 32) 6 10 3) (ab_lf i 12 (.iload_n 2) 0 0 0))) (ab_br i 14 (ab_lf i 13 (.iaload) 0 0 0) (ab_br i 80 (ab_lf i 14 (.tableswitch 348 0 12 #[66, 78, 90, 102, 128, 154, 156, 200, 207, 229, 251, 291, 299]) 0 0 0) (ab_lf i 80 (.iload 4) 0 0 0))))) (ab_br i 91 (ab_br i 86 (ab_br i 83 (ab_lf i 82 (.iconst 2) 0 0 0) (ab_lf i 83 (.if_icmp .ge 7) 0 0 0)) (ab_br i 87 (ab_lf i 86 (.iconst 1) 0 0 0) (ab_br i 90 (ab_lf i 87 (.goto 4) 0 0 0) (ab_lf i 90 (.iconst 0) 0 0 0)))) (ab_br i 95 (ab_br i 92 (ab_lf i 91 (.ireturn) 0 0 0) (ab_br i 94 (ab_lf i 92 (.iload 4) 0 0 0) (ab_lf i 94 (.iconst 2) 0 0 0))) (ab_br i 98 (ab_lf i 95 (.if_icmp .ne 7) 0 0 0) (ab_br i 99 (ab_lf i 98 (.iconst 1) 0 0 0) (ab_lf i 99 (.goto 4) 0 0 0)))))) (ab_br i 120 (ab_br i 110 (ab_br i 104 (ab_br i 103 (ab_lf i 102 (.iconst 0) 0 0 0) (ab_lf i 103 (.ireturn) 0 0 0)) (ab_br i 106 (ab_lf i 104 (.iload 4) 0 0 0) (ab_br i 107 (ab_lf i 106 (.iconst 3) 0 0 0) (ab_lf i 107 (.if_icmp .ne 7) 0 0 0)))) (ab_br i 115 (ab_br i 111 (ab_lf i 110 (.iconst 1) 0 0 0) (ab_br i 114 (ab_lf i 111 (.goto 4) 0 0 0) (ab_lf i 114 (.iconst 0) 0 0 0))) (ab_br i 116 (ab_lf i 115 (.ireturn) 0 0 0) (ab_br i 118 (ab_lf i 116 (.iload 4) 0 0 0) (ab_lf i 118 (.bipush 7) 0 0 0))))) (ab_br i 132 (ab_br i 127 (ab_br i 123 (ab_lf i 120 (.if_icmp .ne 20) 0 0 0) (ab_br i 124 (ab_lf i 123 (.aload_n 0) 0 0 0) (ab_lf i 124 (.getfield 71) 6 28 3))) (ab_br i 128 (ab_lf i 127 (.iload_n 1) 0 0 0) (ab_br i 129 (ab_lf i 128 (.laload) 0 0 0) (ab_lf i 129 (.ldc2_w 225) 0 0 0)))) (ab_br i 137 (ab_br i 133 (ab_lf i 132 (.lcmp) 0 0 0) (ab_br i 136 (ab_lf i 133 (.ifCond .ge 7) 0 0 0) (ab_lf i 136 (.iconst 1) 0 0 0))) (ab_br i 140 (ab_lf i 137 (.goto 4) 0 0 0) (ab_br i 141 (ab_lf i 140 (.iconst 0) 0 0 0) (ab_lf i 141 (.ireturn) 0 0 0))))))) (ab_br i 182 (ab_br i 163 (ab_br i 153 (ab_br i 146 (ab_br i 144 (ab_lf i 142 (.iload 4) 0 0 0) (ab_lf i 144 (.bipush 7) 0 0 0)) (ab_br i 149 (ab_lf i 146 (.if_icmp .ne 20) 0 0 0) (ab_br i 150 (ab_lf i 149 (.aload_n 0) 0 0 0) (ab_lf i 150 (.getfield 71) 6 28 3)))) (ab_br i 158 (ab_br i 154 (ab_lf i 153 (.iload_n 1) 0 0 0) (ab_br i 155 (ab_lf i 154 (.laload) 0 0 0) (ab_lf i 155 (.ldc2_w 225) 0 0 0))) (ab_br i 159 (ab_lf i 158 (.lcmp) 0 0 0) (ab_br i 162 (ab_lf i 159 (.ifCond .ne 7) 0 0 0) (ab_lf i 162 (.iconst 1) 0 0 0))))) (ab_br i 172 (ab_br i 168 (ab_br i 166 (ab_lf i 163 (.goto 4) 0 0 0) (ab_br i 167 (ab_lf i 166 (.iconst 0) 0 0 0) (ab_lf i 167 (.ireturn) 0 0 0))) (ab_br i 169 (ab_lf i 168 (.iconst 1) 0 0 0) (ab_br i 170 (ab_lf i 169 (.ireturn) 0 0 0) (ab_lf i 170 (.iload 4) 0 0 0)))) (ab_br i 177 (ab_br i 173 (ab_lf i 172 (.iconst 2) 0 0 0) (ab_br i 176 (ab_lf i 173 (.if_icmp .ge 39) 0 0 0) (ab_lf i 176 (.aload_n 0) 0 0 0))) (ab_br i 178 (ab_lf i 177 (.iload_n 1) 0 0 0) (ab_br i 181 (ab_lf i 178 (.invokevirtual 227) 0 112 2) (ab_lf i 181 (.aload_n 0) 0 0 0)))))) (ab_br i 201 (ab_br i 189 (ab_br i 186 (ab_br i 185 (ab_lf i 182 (.getfield 35) 6 11 3) (ab_lf i 185 (.iload_n 2) 0 0 0)) (ab_br i 187 (ab_lf i 186 (.iaload) 0 0 0) (ab_br i 188 (ab_lf i 187 (.i2l) 0 0 0) (ab_lf i 188 (.lcmp) 0 0 0)))) (ab_br i 194 (ab_br i 192 (ab_lf i 189 (.ifCond .lt 23) 0 0 0) (ab_br i 193 (ab_lf i 192 (.aload_n 0) 0 0 0) (ab_lf i 193 (.iload_n 1) 0 0 0))) (ab_br i 197 (ab_lf i 194 (.invokevirtual 227) 0 112 2) (ab_br i 198 (ab_lf i 197 (.aload_n 0) 0 0 0) (ab_lf i 198 (.getfield 38) 6 12 3))))) (ab_br i 209 (ab_br i 204 (ab_br i 202 (ab_lf i 201 (.iload_n 2) 0 0 0) (ab_br i 203 (ab_lf i 202 (.iaload) 0 0 0) (ab_lf i 203 (.i2l) 0 0 0))) (ab_br i 205 (ab_lf i 204 (.lcmp) 0 0 0) (ab_br i 208 (ab_lf i 205 (.ifCond .gt 7) 0 0 0) (ab_lf i 208 (.iconst 1) 0 0 0)))) (ab_br i 214 (ab_br i 212 (ab_lf i 209 (.goto 4) 0 0 0) (ab_br i 213 (ab_lf i 212 (.iconst 0) 0 0 0) (ab_lf i 213 (.ireturn) 0 0 0))) (ab_br i 215 (ab_lf i 214 (.aload_n 0) 0 0 0) (ab_br i 216 (ab_lf i 215 (.iload_n 1) 0 0 0) (ab_lf i 216 (.iload_n 2) 0 0 0)))))))) (ab_br i 292 (ab_br i 256 (ab_br i 237 (ab_br i 227 (ab_br i 221 (ab_br i 220 (ab_lf i 217 (.invokevirtual 231) 0 111 3) (ab_lf i 220 (.ireturn) 0 0 0)) (ab_br i 223 (ab_lf i 221 (.iload 4) 0 0 0) (ab_br i 224 (ab_lf i 223 (.iconst 4) 0 0 0) (ab_lf i 224 (.if_icmp .ne 17) 0 0 0)))) (ab_br i 230 (ab_br i 228 (ab_lf i 227 (.aload_n 0) 0 0 0) (ab_br i 229 (ab_lf i 228 (.iload_n 1) 0 0 0) (ab_lf i 229 (.iload_n 2) 0 0 0))) (ab_br i 231 (ab_lf i 230 (.iload_n 3) 0 0 0) (ab_br i 234 (ab_lf i 231 (.invokevirtual 234) 0 113 4) (ab_lf i 234 (.ifCond .eq 7) 0 0 0))))) (ab_br i 246 (ab_br i 242 (ab_br i 238 (ab_lf i 237 (.iconst 1) 0 0 0) (ab_br i 241 (ab_lf i 238 (.goto 4) 0 0 0) (ab_lf i 241 (.iconst 0) 0 0 0))) (ab_br i 243 (ab_lf i 242 (.ireturn) 0 0 0) (ab_br i 245 (ab_lf i 243 (.iload 4) 0 0 0) (ab_lf i 245 (.iconst 5) 0 0 0)))) (ab_br i 251 (ab_br i 249 (ab_lf i 246 (.if_icmp .ne 17) 0 0 0) (ab_br i 250 (ab_lf i 249 (.aload_n 0) 0 0 0) (ab_lf i 250 (.iload_n 1) 0 0 0))) (ab_br i 252 (ab_lf i 251 (.iload_n 2) 0 0 0) (ab_br i 253 (ab_lf i 252 (.iload_n 3) 0 0 0) (ab_lf i 253 (.invokevirtual 237) 0 115 4)))))) (ab_br i 275 (ab_br i 265 (ab_br i 260 (ab_br i 259 (ab_lf i 256 (.ifCond .eq 7) 0 0 0) (ab_lf i 259 (.iconst 1) 0 0 0)) (ab_br i 263 (ab_lf i 260 (.goto 4) 0 0 0) (ab_br i 264 (ab_lf i 263 (.iconst 0) 0 0 0) (ab_lf i 264 (.ireturn) 0 0 0)))) (ab_br i 270 (ab_br i 266 (ab_lf i 265 (.aload_n 0) 0 0 0) (ab_br i 269 (ab_lf i 266 (.getfield 16) 6 5 3) (ab_lf i 269 (.aload_n 0) 0 0 0))) (ab_br i 273 (ab_lf i 270 (.getfield 35) 6 11 3) (ab_br i 274 (ab_lf i 273 (.iload_n 2) 0 0 0) (ab_lf i 274 (.iaload) 0 0 0))))) (ab_br i 284 (ab_br i 280 (ab_br i 276 (ab_lf i 275 (.baload) 0 0 0) (ab_br i 279 (ab_lf i 276 (.ifCond .eq 27) 0 0 0) (ab_lf i 279 (.aload_n 0) 0 0 0))) (ab_br i 281 (ab_lf i 280 (.iload_n 1) 0 0 0) (ab_br i 283 (ab_lf i 281 (.bipush 64) 0 0 0) (ab_lf i 283 (.aload_n 0) 0 0 0)))) (ab_br i 289 (ab_br i 287 (ab_lf i 284 (.getfield 35) 6 11 3) (ab_br i 288 (ab_lf i 287 (.iload_n 2) 0 0 0) (ab_lf i 288 (.iaload) 0 0 0))) (ab_br i 290 (ab_lf i 289 (.imul) 0 0 0) (ab_br i 291 (ab_lf i 290 (.iload_n 3) 0 0 0) (ab_lf i 291 (.iconst 1) 0 0 0))))))) (ab_br i 331 (ab_br i 309 (ab_br i 303 (ab_br i 296 (ab_br i 293 (ab_lf i 292 (.iadd) 0 0 0) (ab_lf i 293 (.invokevirtual 217) 0 110 4)) (ab_br i 299 (ab_lf i 296 (.ifCond .eq 7) 0 0 0) (ab_br i 300 (ab_lf i 299 (.iconst 1) 0 0 0) (ab_lf i 300 (.goto 4) 0 0 0)))) (ab_br i 306 (ab_br i 304 (ab_lf i 303 (.iconst 0) 0 0 0) (ab_br i 305 (ab_lf i 304 (.ireturn) 0 0 0) (ab_lf i 305 (.aload_n 0) 0 0 0))) (ab_br i 307 (ab_lf i 306 (.iload_n 1) 0 0 0) (ab_br i 308 (ab_lf i 307 (.iload_n 2) 0 0 0) (ab_lf i 308 (.iload_n 3) 0 0 0))))) (ab_br i 321 (ab_br i 315 (ab_br i 312 (ab_lf i 309 (.invokevirtual 240) 0 116 4) (ab_br i 313 (ab_lf i 312 (.ireturn) 0 0 0) (ab_lf i 313 (.iload 4) 0 0 0))) (ab_br i 317 (ab_lf i 315 (.bipush 6) 0 0 0) (ab_br i 320 (ab_lf i 317 (.if_icmp .ne 43) 0 0 0) (ab_lf i 320 (.aload_n 0) 0 0 0)))) (ab_br i 326 (ab_br i 324 (ab_lf i 321 (.getfield 71) 6 28 3) (ab_br i 325 (ab_lf i 324 (.iload_n 1) 0 0 0) (ab_lf i 325 (.laload) 0 0 0))) (ab_br i 327 (ab_lf i 326 (.aload_n 0) 0 0 0) (ab_br i 330 (ab_lf i 327 (.getfield 35) 6 11 3) (ab_lf i 330 (.iload_n 2) 0 0 0)))))) (ab_br i 346 (ab_br i 338 (ab_br i 333 (ab_br i 332 (ab_lf i 331 (.iaload) 0 0 0) (ab_lf i 332 (.i2l) 0 0 0)) (ab_br i 334 (ab_lf i 333 (.lcmp) 0 0 0) (ab_br i 337 (ab_lf i 334 (.ifCond .ne 26) 0 0 0) (ab_lf i 337 (.aload_n 0) 0 0 0)))) (ab_br i 341 (ab_br i 339 (ab_lf i 338 (.iload_n 1) 0 0 0) (ab_br i 340 (ab_lf i 339 (.iconst 1) 0 0 0) (ab_lf i 340 (.iadd) 0 0 0))) (ab_br i 342 (ab_lf i 341 (.aload_n 0) 0 0 0) (ab_br i 345 (ab_lf i 342 (.getfield 38) 6 12 3) (ab_lf i 345 (.iload_n 2) 0 0 0))))) (ab_br i 356 (ab_br i 349 (ab_br i 347 (ab_lf i 346 (.iaload) 0 0 0) (ab_br i 348 (ab_lf i 347 (.iload_n 3) 0 0 0) (ab_lf i 348 (.iconst 1) 0 0 0))) (ab_br i 350 (ab_lf i 349 (.iadd) 0 0 0) (ab_br i 353 (ab_lf i 350 (.invokevirtual 217) 0 110 4) (ab_lf i 353 (.ifCond .eq 7) 0 0 0)))) (ab_br i 361 (ab_br i 357 (ab_lf i 356 (.iconst 1) 0 0 0) (ab_br i 360 (ab_lf i 357 (.goto 4) 0 0 0) (ab_lf i 360 (.iconst 0) 0 0 0))) (ab_br i 362 (ab_lf i 361 (.ireturn) 0 0 0) (ab_br i 363 (ab_lf i 362 (.iconst 0) 0 0 0) (ab_lf i 363 (.ireturn) 0 0 0)))))))))
def ab_p118 (i : Nat) : Option (Instr × Nat × Nat × Nat) := (ab_br i 74 (ab_br i 34 (ab_br i 15 (ab_br i 7 (ab_br i 4 (ab_br i 1 (ab_lf i 0 (.aload_n 0) 0 0 0) (ab_lf i 1 (.getfield 192) 6 26 0)) (ab_br i 5 (ab_lf i 4 (.iconst 1) 0 0 0) (ab_br i 6 (ab_lf i 5 (.isub) 0 0 0) (ab_lf i 6 (.istore_n 2) 0 0 0)))) (ab_br i 12 (ab_br i 8 (ab_lf i 7 (.iload_n 2) 0 0 0) (ab_br i 9 (ab_lf i 8 (.iload_n 1) 0 0 0) (ab_lf i 9 (.if_icmp .lt 150) 0 0 0))) (ab_br i 13 (ab_lf i 12 (.iconst 0) 0 0 0) (ab_br i 14 (ab_lf i 13 (.istore_n 3) 0 0 0) (ab_lf i 14 (.iload_n 3) 0 0 0))))) (ab_br i 28 (ab_br i 21 (ab_br i 18 (ab_lf i 15 (.sipush 512) 0 0 0) (ab_lf i 18 (.if_icmp .ge 22) 0 0 0)) (ab_br i 22 (ab_lf i 21 (.aload_n 0) 0 0 0) (ab_br i 25 (ab_lf i 22 (.getfield 90) 6 34 3) (ab_lf i 25 (.sipush 512) 0 0 0)))) (ab_br i 31 (ab_br i 29 (ab_lf i 28 (.iload_n 2) 0 0 0) (ab_br i 30 (ab_lf i 29 (.imul) 0 0 0) (ab_lf i 30 (.iload_n 3) 0 0 0))) (ab_br i 32 (ab_lf i 31 (.iadd) 0 0 0) (ab_br i 33 (ab_lf i 32 (.iconst 0) 0 0 0) (ab_lf i 33 (.iastore) 0 0 0)))))) (ab_br i 57 (ab_br i 44 (ab_br i 40 (ab_br i 37 (ab_lf i 34 (.iinc 3 1) 0 0 0) (ab_lf i 37 (.goto (-23)) 0 0 0)) (ab_br i 42 (ab_lf i 40 (.bipush 20) 0 0 0) (ab_br i 43 (ab_lf i 42 (.istore_n 3) 0 0 0) (ab_lf i 43 (.iload_n 3) 0 0 0)))) (ab_br i 50 (ab_br i 47 (ab_lf i 44 (.ifCond .lt 109) 0 0 0) (ab_br i 48 (ab_lf i 47 (.iconst 0) 0 0 0) (ab_lf i 48 (.istore 4) 0 0 0))) (ab_br i 52 (ab_lf i 50 (.iload 4) 0 0 0) (ab_br i 54 (ab_lf i 52 (.bipush 8) 0 0 0) (ab_lf i 54 (.if_icmp .ge 93) 0 0 0))))) (ab_br i 66 (ab_br i 61 (ab_br i 59 (ab_lf i 57 (.bipush 64) 0 0 0) (ab_lf i 59 (.iload 4) 0 0 0)) (ab_br i 62 (ab_lf i 61 (.imul) 0 0 0) (ab_br i 63 (ab_lf i 62 (.aload_n 0) 0 0 0) (ab_lf i 63 (.getfield 23) 6 7 3)))) (ab_br i 70 (ab_br i 68 (ab_lf i 66 (.iload 4) 0 0 0) (ab_br i 69 (ab_lf i 68 (.iaload) 0 0 0) (ab_lf i 69 (.iadd) 0 0 0))) (ab_br i 71 (ab_lf i 70 (.iconst 1) 0 0 0) (ab_br i 72 (ab_lf i 71 (.isub) 0 0 0) (ab_lf i 72 (.istore 5) 0 0 0))))))) (ab_br i 116 (ab_br i 95 (ab_br i 84 (ab_br i 78 (ab_br i 76 (ab_lf i 74 (.iload 5) 0 0 0) (ab_lf i 76 (.bipush 64) 0 0 0)) (ab_br i 80 (ab_lf i 78 (.iload 4) 0 0 0) (ab_br i 81 (ab_lf i 80 (.imul) 0 0 0) (ab_lf i 81 (.if_icmp .lt 60) 0 0 0)))) (ab_br i 90 (ab_br i 85 (ab_lf i 84 (.aload_n 0) 0 0 0) (ab_br i 88 (ab_lf i 85 (.getfield 16) 6 5 3) (ab_lf i 88 (.iload 4) 0 0 0))) (ab_br i 91 (ab_lf i 90 (.baload) 0 0 0) (ab_br i 94 (ab_lf i 91 (.ifCond .eq 50) 0 0 0) (ab_lf i 94 (.aload_n 0) 0 0 0))))) (ab_br i 105 (ab_br i 98 (ab_br i 96 (ab_lf i 95 (.iload_n 2) 0 0 0) (ab_lf i 96 (.iload 5) 0 0 0)) (ab_br i 99 (ab_lf i 98 (.iload_n 3) 0 0 0) (ab_br i 102 (ab_lf i 99 (.invokevirtual 243) 0 117 4) (ab_lf i 102 (.ifCond .eq 33) 0 0 0)))) (ab_br i 112 (ab_br i 106 (ab_lf i 105 (.aload_n 0) 0 0 0) (ab_br i 109 (ab_lf i 106 (.getfield 90) 6 34 3) (ab_lf i 109 (.sipush 512) 0 0 0))) (ab_br i 113 (ab_lf i 112 (.iload_n 2) 0 0 0) (ab_br i 114 (ab_lf i 113 (.imul) 0 0 0) (ab_lf i 114 (.iload 5) 0 0 0)))))) (ab_br i 132 (ab_br i 125 (ab_br i 118 (ab_br i 117 (ab_lf i 116 (.iadd) 0 0 0) (ab_lf i 117 (.aload_n 0) 0 0 0)) (ab_br i 121 (ab_lf i 118 (.getfield 90) 6 34 3) (ab_br i 124 (ab_lf i 121 (.sipush 512) 0 0 0) (ab_lf i 124 (.iload_n 2) 0 0 0)))) (ab_br i 129 (ab_br i 126 (ab_lf i 125 (.imul) 0 0 0) (ab_br i 128 (ab_lf i 126 (.iload 5) 0 0 0) (ab_lf i 128 (.iadd) 0 0 0))) (ab_br i 130 (ab_lf i 129 (.iaload) 0 0 0) (ab_br i 131 (ab_lf i 130 (.iconst 1) 0 0 0) (ab_lf i 131 (.iload_n 3) 0 0 0))))) (ab_br i 144 (ab_br i 135 (ab_br i 133 (ab_lf i 132 (.ishl) 0 0 0) (ab_br i 134 (ab_lf i 133 (.ior) 0 0 0) (ab_lf i 134 (.iastore) 0 0 0))) (ab_br i 138 (ab_lf i 135 (.iinc 5 (-1)) 0 0 0) (ab_br i 141 (ab_lf i 138 (.goto (-64)) 0 0 0) (ab_lf i 141 (.iinc 4 1) 0 0 0)))) (ab_br i 153 (ab_br i 147 (ab_lf i 144 (.goto (-94)) 0 0 0) (ab_br i 150 (ab_lf i 147 (.iinc 3 (-1)) 0 0 0) (ab_lf i 150 (.goto (-107)) 0 0 0))) (ab_br i 156 (ab_lf i 153 (.iinc 2 (-1)) 0 0 0) (ab_br i 159 (ab_lf i 156 (.goto (-149)) 0 0 0) (ab_lf i 159 (.return_) 0 0 0))))))))
def ab_p119 (i : Nat) : Option (Instr × Nat × Nat × Nat) := (ab_br i 32 (ab_br i 14 (ab_br i 6 (ab_br i 2 (ab_br i 1 (ab_lf i 0 (.aload_n 0) 0 0 0) (ab_lf i 1 (.aload_n 0) 0 0 0)) (ab_br i 3 (ab_lf i 2 (.iload_n 1) 0 0 0) (ab_lf i 3 (.invokevirtual 189) 0 99 2))) (ab_br i 10 (ab_br i 9 (ab_lf i 6 (.putfield 99) 6 0 0) (ab_lf i 9 (.aload_n 0) 0 0 0)) (ab_br i 11 (ab_lf i 10 (.aload_n 0) 0 0 0) (ab_lf i 11 (.getfield 99) 6 0 0)))) (ab_br i 24 (ab_br i 18 (ab_br i 17 (ab_lf i 14 (.ifCond .ne 14) 0 0 0) (ab_lf i 17 (.aload_n 0) 0 0 0)) (ab_br i 21 (ab_lf i 18 (.invokevirtual 209) 0 102 1) (ab_lf i 21 (.ifCond .ne 7) 0 0 0))) (ab_br i 28 (ab_br i 25 (ab_lf i 24 (.iconst 4) 0 0 0) (ab_lf i 25 (.goto 7) 0 0 0)) (ab_br i 29 (ab_lf i 28 (.aload_n 0) 0 0 0) (ab_lf i 29 (.getfield 99) 6 0 0))))) (ab_br i 46 (ab_br i 42 (ab_br i 36 (ab_br i 35 (ab_lf i 32 (.putfield 99) 6 0 0) (ab_lf i 35 (.aload_n 0) 0 0 0)) (ab_br i 39 (ab_lf i 36 (.getfield 99) 6 0 0) (ab_lf i 39 (.ifCond .le 5) 0 0 0))) (ab_br i 44 (ab_br i 43 (ab_lf i 42 (.iconst 0) 0 0 0) (ab_lf i 43 (.ireturn) 0 0 0)) (ab_br i 45 (ab_lf i 44 (.aload_n 0) 0 0 0) (ab_lf i 45 (.iconst 0) 0 0 0)))) (ab_br i 53 (ab_br i 50 (ab_br i 49 (ab_lf i 46 (.invokevirtual 246) 0 118 2) (ab_lf i 49 (.aload_n 0) 0 0 0)) (ab_br i 51 (ab_lf i 50 (.iconst 0) 0 0 0) (ab_lf i 51 (.bipush 64) 0 0 0))) (ab_br i 55 (ab_br i 54 (ab_lf i 53 (.iload_n 1) 0 0 0) (ab_lf i 54 (.imul) 0 0 0)) (ab_br i 56 (ab_lf i 55 (.iconst 0) 0 0 0) (ab_br i 59 (ab_lf i 56 (.invokevirtual 217) 0 110 4) (ab_lf i 59 (.ireturn) 0 0 0)))))))
def ab_p120 (i : Nat) : Option (Instr × Nat × Nat × Nat) := (ab_br i 48 (ab_br i 24 (ab_br i 10 (ab_br i 3 (ab_br i 1 (ab_lf i 0 (.aload_n 0) 0 0 0) (ab_br i 2 (ab_lf i 1 (.aload_n 0) 0 0 0) (ab_lf i 2 (.iload_n 1) 0 0 0))) (ab_br i 6 (ab_lf i 3 (.invokevirtual 189) 0 99 2) (ab_br i 9 (ab_lf i 6 (.putfield 99) 6 0 0) (ab_lf i 9 (.aload_n 0) 0 0 0)))) (ab_br i 17 (ab_br i 11 (ab_lf i 10 (.aload_n 0) 0 0 0) (ab_br i 14 (ab_lf i 11 (.getfield 99) 6 0 0) (ab_lf i 14 (.ifCond .ne 14) 0 0 0))) (ab_br i 18 (ab_lf i 17 (.aload_n 0) 0 0 0) (ab_br i 21 (ab_lf i 18 (.invokevirtual 209) 0 102 1) (ab_lf i 21 (.ifCond .ne 7) 0 0 0))))) (ab_br i 36 (ab_br i 29 (ab_br i 25 (ab_lf i 24 (.iconst 4) 0 0 0) (ab_br i 28 (ab_lf i 25 (.goto 7) 0 0 0) (ab_lf i 28 (.aload_n 0) 0 0 0))) (ab_br i 32 (ab_lf i 29 (.getfield 99) 6 0 0) (ab_br i 35 (ab_lf i 32 (.putfield 99) 6 0 0) (ab_lf i 35 (.aload_n 0) 0 0 0)))) (ab_br i 43 (ab_br i 37 (ab_lf i 36 (.aload_n 0) 0 0 0) (ab_br i 40 (ab_lf i 37 (.getfield 99) 6 0 0) (ab_lf i 40 (.ifCond .ne 19) 0 0 0))) (ab_br i 44 (ab_lf i 43 (.iload_n 2) 0 0 0) (ab_br i 47 (ab_lf i 44 (.ifCond .lt 11) 0 0 0) (ab_lf i 47 (.iload_n 2) 0 0 0)))))) (ab_br i 74 (ab_br i 60 (ab_br i 55 (ab_br i 49 (ab_lf i 48 (.aload_n 0) 0 0 0) (ab_br i 52 (ab_lf i 49 (.getfield 192) 6 26 0) (ab_lf i 52 (.if_icmp .lt 7) 0 0 0))) (ab_br i 56 (ab_lf i 55 (.iconst 1) 0 0 0) (ab_br i 59 (ab_lf i 56 (.goto 7) 0 0 0) (ab_lf i 59 (.aload_n 0) 0 0 0)))) (ab_br i 67 (ab_br i 63 (ab_lf i 60 (.getfield 99) 6 0 0) (ab_br i 66 (ab_lf i 63 (.putfield 99) 6 0 0) (ab_lf i 66 (.aload_n 0) 0 0 0))) (ab_br i 70 (ab_lf i 67 (.getfield 99) 6 0 0) (ab_br i 73 (ab_lf i 70 (.ifCond .le 5) 0 0 0) (ab_lf i 73 (.iconst 0) 0 0 0))))) (ab_br i 82 (ab_br i 77 (ab_br i 75 (ab_lf i 74 (.ireturn) 0 0 0) (ab_br i 76 (ab_lf i 75 (.aload_n 0) 0 0 0) (ab_lf i 76 (.iload_n 2) 0 0 0))) (ab_br i 80 (ab_lf i 77 (.invokevirtual 246) 0 118 2) (ab_br i 81 (ab_lf i 80 (.aload_n 0) 0 0 0) (ab_lf i 81 (.iload_n 2) 0 0 0)))) (ab_br i 86 (ab_br i 84 (ab_lf i 82 (.bipush 64) 0 0 0) (ab_br i 85 (ab_lf i 84 (.iload_n 1) 0 0 0) (ab_lf i 85 (.imul) 0 0 0))) (ab_br i 87 (ab_lf i 86 (.iconst 0) 0 0 0) (ab_br i 90 (ab_lf i 87 (.invokevirtual 217) 0 110 4) (ab_lf i 90 (.ireturn) 0 0 0)))))))
def ab_p121 (i : Nat) : Option (Instr × Nat × Nat × Nat) := (ab_br i 10 (ab_br i 3 (ab_br i 1 (ab_lf i 0 (.aload_n 2) 0 0 0) (ab_br i 2 (ab_lf i 1 (.iconst 0) 0 0 0) (ab_lf i 2 (.aload_n 0) 0 0 0))) (ab_br i 4 (ab_lf i 3 (.iload_n 1) 0 0 0) (ab_br i 7 (ab_lf i 4 (.invokevirtual 7) 0 1 2) (ab_lf i 7 (.ifCond .eq 7) 0 0 0)))) (ab_br i 15 (ab_br i 11 (ab_lf i 10 (.lconst 1) 0 0 0) (ab_br i 14 (ab_lf i 11 (.goto 4) 0 0 0) (ab_lf i 14 (.lconst 0) 0 0 0))) (ab_br i 22 (ab_br i 16 (ab_lf i 15 (.lastore) 0 0 0) (ab_lf i 16 (.goto 6) 0 0 0)) (ab_br i 23 (ab_lf i 22 (.iconst 0) 0 0 0) (ab_lf i 23 (.ireturn) 0 0 0)))))
def ab_p122 (i : Nat) : Option (Instr × Nat × Nat × Nat) := (ab_br i 7 (ab_br i 2 (ab_br i 1 (ab_lf i 0 (.aload_n 2) 0 0 0) (ab_lf i 1 (.iconst 0) 0 0 0)) (ab_br i 3 (ab_lf i 2 (.aload_n 0) 0 0 0) (ab_br i 4 (ab_lf i 3 (.iload_n 1) 0 0 0) (ab_lf i 4 (.invokevirtual 15) 0 2 2)))) (ab_br i 9 (ab_br i 8 (ab_lf i 7 (.i2l) 0 0 0) (ab_lf i 8 (.lastore) 0 0 0)) (ab_br i 18 (ab_lf i 9 (.goto 9) 0 0 0) (ab_br i 19 (ab_lf i 18 (.iconst 0) 0 0 0) (ab_lf i 19 (.ireturn) 0 0 0)))))
def ab_p123 (i : Nat) : Option (Instr × Nat × Nat × Nat) := (ab_br i 10 (ab_br i 3 (ab_br i 1 (ab_lf i 0 (.aload_n 2) 0 0 0) (ab_br i 2 (ab_lf i 1 (.iconst 0) 0 0 0) (ab_lf i 2 (.aload_n 0) 0 0 0))) (ab_br i 4 (ab_lf i 3 (.iload_n 1) 0 0 0) (ab_br i 7 (ab_lf i 4 (.invokevirtual 21) 0 3 2) (ab_lf i 7 (.ifCond .eq 7) 0 0 0)))) (ab_br i 15 (ab_br i 11 (ab_lf i 10 (.lconst 1) 0 0 0) (ab_br i 14 (ab_lf i 11 (.goto 4) 0 0 0) (ab_lf i 14 (.lconst 0) 0 0 0))) (ab_br i 22 (ab_br i 16 (ab_lf i 15 (.lastore) 0 0 0) (ab_lf i 16 (.goto 6) 0 0 0)) (ab_br i 23 (ab_lf i 22 (.iconst 0) 0 0 0) (ab_lf i 23 (.ireturn) 0 0 0)))))
def ab_p124 (i : Nat) : Option (Instr × Nat × Nat × Nat) := (ab_br i 6 (ab_br i 2 (ab_br i 1 (ab_lf i 0 (.aload_n 1) 0 0 0) (ab_lf i 1 (.iconst 0) 0 0 0)) (ab_br i 3 (ab_lf i 2 (.aload_n 0) 0 0 0) (ab_lf i 3 (.invokevirtual 24) 0 6 1))) (ab_br i 8 (ab_br i 7 (ab_lf i 6 (.i2l) 0 0 0) (ab_lf i 7 (.lastore) 0 0 0)) (ab_br i 14 (ab_lf i 8 (.goto 6) 0 0 0) (ab_br i 15 (ab_lf i 14 (.iconst 0) 0 0 0) (ab_lf i 15 (.ireturn) 0 0 0)))))
def ab_p125 (i : Nat) : Option (Instr × Nat × Nat × Nat) := (ab_br i 7 (ab_br i 2 (ab_br i 1 (ab_lf i 0 (.aload_n 2) 0 0 0) (ab_lf i 1 (.iconst 0) 0 0 0)) (ab_br i 3 (ab_lf i 2 (.aload_n 0) 0 0 0) (ab_br i 4 (ab_lf i 3 (.iload_n 1) 0 0 0) (ab_lf i 4 (.invokevirtual 28) 0 7 2)))) (ab_br i 9 (ab_br i 8 (ab_lf i 7 (.i2l) 0 0 0) (ab_lf i 8 (.lastore) 0 0 0)) (ab_br i 18 (ab_lf i 9 (.goto 9) 0 0 0) (ab_br i 19 (ab_lf i 18 (.iconst 0) 0 0 0) (ab_lf i 19 (.ireturn) 0 0 0)))))
def ab_p126 (i : Nat) : Option (Instr × Nat × Nat × Nat) := (ab_br i 4 (ab_br i 2 (ab_br i 1 (ab_lf i 0 (.aload_n 2) 0 0 0) (ab_lf i 1 (.iconst 0) 0 0 0)) (ab_br i 3 (ab_lf i 2 (.aload_n 0) 0 0 0) (ab_lf i 3 (.iload_n 1) 0 0 0))) (ab_br i 8 (ab_br i 7 (ab_lf i 4 (.invokevirtual 31) 0 8 2) (ab_lf i 7 (.lastore) 0 0 0)) (ab_br i 17 (ab_lf i 8 (.goto 9) 0 0 0) (ab_br i 18 (ab_lf i 17 (.iconst 0) 0 0 0) (ab_lf i 18 (.ireturn) 0 0 0)))))
def ab_p127 (i : Nat) : Option (Instr × Nat × Nat × Nat) := (ab_br i 7 (ab_br i 2 (ab_br i 1 (ab_lf i 0 (.aload_n 2) 0 0 0) (ab_lf i 1 (.iconst 0) 0 0 0)) (ab_br i 3 (ab_lf i 2 (.aload_n 0) 0 0 0) (ab_br i 4 (ab_lf i 3 (.iload_n 1) 0 0 0) (ab_lf i 4 (.invokevirtual 35) 0 9 2)))) (ab_br i 9 (ab_br i 8 (ab_lf i 7 (.i2l) 0 0 0) (ab_lf i 8 (.lastore) 0 0 0)) (ab_br i 18 (ab_lf i 9 (.goto 9) 0 0 0) (ab_br i 19 (ab_lf i 18 (.iconst 0) 0 0 0) (ab_lf i 19 (.ireturn) 0 0 0)))))
def ab_p128 (i : Nat) : Option (Instr × Nat × Nat × Nat) := (ab_br i 7 (ab_br i 2 (ab_br i 1 (ab_lf i 0 (.aload_n 2) 0 0 0) (ab_lf i 1 (.iconst 0) 0 0 0)) (ab_br i 3 (ab_lf i 2 (.aload_n 0) 0 0 0) (ab_br i 4 (ab_lf i 3 (.iload_n 1) 0 0 0) (ab_lf i 4 (.invokevirtual 38) 0 10 2)))) (ab_br i 9 (ab_br i 8 (ab_lf i 7 (.i2l) 0 0 0) (ab_lf i 8 (.lastore) 0 0 0)) (ab_br i 21 (ab_lf i 9 (.goto 12) 0 0 0) (ab_br i 22 (ab_lf i 21 (.iconst 0) 0 0 0) (ab_lf i 22 (.ireturn) 0 0 0)))))
def ab_p129 (i : Nat) : Option (Instr × Nat × Nat × Nat) := (ab_br i 10 (ab_br i 3 (ab_br i 1 (ab_lf i 0 (.aload_n 2) 0 0 0) (ab_br i 2 (ab_lf i 1 (.iconst 0) 0 0 0) (ab_lf i 2 (.aload_n 0) 0 0 0))) (ab_br i 4 (ab_lf i 3 (.iload_n 1) 0 0 0) (ab_br i 7 (ab_lf i 4 (.invokevirtual 45) 0 11 2) (ab_lf i 7 (.ifCond .eq 7) 0 0 0)))) (ab_br i 15 (ab_br i 11 (ab_lf i 10 (.lconst 1) 0 0 0) (ab_br i 14 (ab_lf i 11 (.goto 4) 0 0 0) (ab_lf i 14 (.lconst 0) 0 0 0))) (ab_br i 31 (ab_br i 16 (ab_lf i 15 (.lastore) 0 0 0) (ab_lf i 16 (.goto 15) 0 0 0)) (ab_br i 32 (ab_lf i 31 (.iconst 0) 0 0 0) (ab_lf i 32 (.ireturn) 0 0 0)))))
def ab_p130 (i : Nat) : Option (Instr × Nat × Nat × Nat) := (ab_br i 11 (ab_br i 3 (ab_br i 1 (ab_lf i 0 (.aload_n 3) 0 0 0) (ab_br i 2 (ab_lf i 1 (.iconst 0) 0 0 0) (ab_lf i 2 (.aload_n 0) 0 0 0))) (ab_br i 5 (ab_br i 4 (ab_lf i 3 (.iload_n 1) 0 0 0) (ab_lf i 4 (.iload_n 2) 0 0 0)) (ab_br i 8 (ab_lf i 5 (.invokevirtual 48) 0 12 3) (ab_lf i 8 (.ifCond .eq 7) 0 0 0)))) (ab_br i 16 (ab_br i 12 (ab_lf i 11 (.lconst 1) 0 0 0) (ab_br i 15 (ab_lf i 12 (.goto 4) 0 0 0) (ab_lf i 15 (.lconst 0) 0 0 0))) (ab_br i 36 (ab_br i 17 (ab_lf i 16 (.lastore) 0 0 0) (ab_lf i 17 (.goto 19) 0 0 0)) (ab_br i 37 (ab_lf i 36 (.iconst 0) 0 0 0) (ab_lf i 37 (.ireturn) 0 0 0)))))
def ab_p131 (i : Nat) : Option (Instr × Nat × Nat × Nat) := (ab_br i 27 (ab_br i 14 (ab_br i 7 (ab_br i 2 (ab_br i 1 (ab_lf i 0 (.iload_n 0) 0 0 0) (ab_lf i 1 (.iload_n 0) 0 0 0)) (ab_br i 3 (ab_lf i 2 (.iconst 1) 0 0 0) (ab_br i 4 (ab_lf i 3 (.iushr) 0 0 0) (ab_lf i 4 (.ldc_w 265) 0 0 0)))) (ab_br i 9 (ab_br i 8 (ab_lf i 7 (.iand) 0 0 0) (ab_lf i 8 (.isub) 0 0 0)) (ab_br i 10 (ab_lf i 9 (.istore_n 0) 0 0 0) (ab_br i 11 (ab_lf i 10 (.iload_n 0) 0 0 0) (ab_lf i 11 (.ldc_w 266) 0 0 0))))) (ab_br i 21 (ab_br i 16 (ab_br i 15 (ab_lf i 14 (.iand) 0 0 0) (ab_lf i 15 (.iload_n 0) 0 0 0)) (ab_br i 17 (ab_lf i 16 (.iconst 2) 0 0 0) (ab_br i 18 (ab_lf i 17 (.iushr) 0 0 0) (ab_lf i 18 (.ldc_w 266) 0 0 0)))) (ab_br i 24 (ab_br i 22 (ab_lf i 21 (.iand) 0 0 0) (ab_br i 23 (ab_lf i 22 (.iadd) 0 0 0) (ab_lf i 23 (.istore_n 0) 0 0 0))) (ab_br i 25 (ab_lf i 24 (.iload_n 0) 0 0 0) (ab_br i 26 (ab_lf i 25 (.iload_n 0) 0 0 0) (ab_lf i 26 (.iconst 4) 0 0 0)))))) (ab_br i 40 (ab_br i 34 (ab_br i 29 (ab_br i 28 (ab_lf i 27 (.iushr) 0 0 0) (ab_lf i 28 (.iadd) 0 0 0)) (ab_br i 32 (ab_lf i 29 (.ldc_w 267) 0 0 0) (ab_br i 33 (ab_lf i 32 (.iand) 0 0 0) (ab_lf i 33 (.istore_n 0) 0 0 0)))) (ab_br i 36 (ab_br i 35 (ab_lf i 34 (.iload_n 0) 0 0 0) (ab_lf i 35 (.iload_n 0) 0 0 0)) (ab_br i 38 (ab_lf i 36 (.bipush 8) 0 0 0) (ab_br i 39 (ab_lf i 38 (.iushr) 0 0 0) (ab_lf i 39 (.iadd) 0 0 0))))) (ab_br i 46 (ab_br i 42 (ab_br i 41 (ab_lf i 40 (.istore_n 0) 0 0 0) (ab_lf i 41 (.iload_n 0) 0 0 0)) (ab_br i 43 (ab_lf i 42 (.iload_n 0) 0 0 0) (ab_br i 45 (ab_lf i 43 (.bipush 16) 0 0 0) (ab_lf i 45 (.iushr) 0 0 0)))) (ab_br i 49 (ab_br i 47 (ab_lf i 46 (.iadd) 0 0 0) (ab_br i 48 (ab_lf i 47 (.istore_n 0) 0 0 0) (ab_lf i 48 (.iload_n 0) 0 0 0))) (ab_br i 51 (ab_lf i 49 (.bipush 63) 0 0 0) (ab_br i 52 (ab_lf i 51 (.iand) 0 0 0) (ab_lf i 52 (.ireturn) 0 0 0)))))))
def ab_p132 (i : Nat) : Option (Instr × Nat × Nat × Nat) := (ab_br i 7 (ab_br i 3 (ab_br i 1 (ab_lf i 0 (.iconst 0) 0 0 0) (ab_br i 2 (ab_lf i 1 (.istore_n 2) 0 0 0) (ab_lf i 2 (.aload_n 0) 0 0 0))) (ab_br i 5 (ab_br i 4 (ab_lf i 3 (.arraylength) 0 0 0) (ab_lf i 4 (.istore_n 3) 0 0 0)) (ab_br i 6 (ab_lf i 5 (.iload_n 2) 0 0 0) (ab_lf i 6 (.iload_n 3) 0 0 0)))) (ab_br i 13 (ab_br i 11 (ab_br i 10 (ab_lf i 7 (.if_icmp .ge 13) 0 0 0) (ab_lf i 10 (.aload_n 0) 0 0 0)) (ab_br i 12 (ab_lf i 11 (.iload_n 2) 0 0 0) (ab_lf i 12 (.iload_n 1) 0 0 0))) (ab_br i 17 (ab_br i 14 (ab_lf i 13 (.iastore) 0 0 0) (ab_lf i 14 (.iinc 2 1) 0 0 0)) (ab_br i 20 (ab_lf i 17 (.goto (-12)) 0 0 0) (ab_lf i 20 (.return_) 0 0 0)))))
def ab_p133 (i : Nat) : Option (Instr × Nat × Nat × Nat) := (ab_br i 414 (ab_br i 238 (ab_br i 150 (ab_br i 104 (ab_br i 25 (ab_br i 15 (ab_br i 7 (ab_br i 3 (ab_lf i 0 (.new 8) 0 0 6) (ab_br i 4 (ab_lf i 3 (.dup) 0 0 0) (ab_lf i 4 (.invokespecial 52) 2 0 1))) (ab_br i 11 (ab_br i 8 (ab_lf i 7 (.astore_n 1) 0 0 0) (ab_lf i 8 (.new 53) 0 6 37)) (ab_br i 12 (ab_lf i 11 (.dup) 0 0 0) (ab_lf i 12 (.invokespecial 55) 2 73 1)))) (ab_br i 19 (ab_br i 16 (ab_lf i 15 (.astore_n 2) 0 0 0) (ab_br i 17 (ab_lf i 16 (.iconst 1) 0 0 0) (ab_lf i 17 (.newarray .long) 0 0 0))) (ab_br i 21 (ab_br i 20 (ab_lf i 19 (.astore_n 3) 0 0 0) (ab_lf i 20 (.iconst 0) 0 0 0)) (ab_br i 23 (ab_lf i 21 (.istore 4) 0 0 0) (ab_lf i 23 (.iload 4) 0 0 0))))) (ab_br i 35 (ab_br i 28 (ab_br i 26 (ab_lf i 25 (.aload_n 0) 0 0 0) (ab_br i 27 (ab_lf i 26 (.arraylength) 0 0 0) (ab_lf i 27 (.iconst 4) 0 0 0))) (ab_br i 32 (ab_br i 29 (ab_lf i 28 (.isub) 0 0 0) (ab_lf i 29 (.if_icmp .gt 746) 0 0 0)) (ab_br i 33 (ab_lf i 32 (.aload_n 0) 0 0 0) (ab_lf i 33 (.iload 4) 0 0 0)))) (ab_br i 39 (ab_br i 36 (ab_lf i 35 (.iaload) 0 0 0) (ab_br i 38 (ab_lf i 36 (.bipush 15) 0 0 0) (ab_lf i 38 (.iand) 0 0 0))) (ab_br i 101 (ab_br i 100 (ab_lf i 39 (.tableswitch 730 0 11 #[61, 124, 180, 243, 312, 325, 369, 425, 480, 536, 592, 655]) 0 0 0) (ab_lf i 100 (.aload_n 1) 0 0 0)) (ab_br i 102 (ab_lf i 101 (.aload_n 0) 0 0 0) (ab_lf i 102 (.iload 4) 0 0 0)))))) (ab_br i 125 (ab_br i 114 (ab_br i 107 (ab_br i 105 (ab_lf i 104 (.iconst 1) 0 0 0) (ab_br i 106 (ab_lf i 105 (.iadd) 0 0 0) (ab_lf i 106 (.iaload) 0 0 0))) (ab_br i 111 (ab_br i 108 (ab_lf i 107 (.aload_n 3) 0 0 0) (ab_lf i 108 (.invokestatic 56) 1 121 3)) (ab_br i 113 (ab_lf i 111 (.istore 5) 0 0 0) (ab_lf i 113 (.aload_n 2) 0 0 0)))) (ab_br i 118 (ab_br i 115 (ab_lf i 114 (.aload_n 0) 0 0 0) (ab_br i 117 (ab_lf i 115 (.iload 4) 0 0 0) (ab_lf i 117 (.iconst 1) 0 0 0))) (ab_br i 120 (ab_br i 119 (ab_lf i 118 (.iadd) 0 0 0) (ab_lf i 119 (.iaload) 0 0 0)) (ab_br i 123 (ab_lf i 120 (.invokevirtual 61) 0 75 2) (ab_lf i 123 (.istore 6) 0 0 0))))) (ab_br i 138 (ab_br i 131 (ab_br i 126 (ab_lf i 125 (.aload_n 2) 0 0 0) (ab_br i 129 (ab_lf i 126 (.invokevirtual 62) 0 74 1) (ab_lf i 129 (.iload 5) 0 0 0))) (ab_br i 135 (ab_br i 134 (ab_lf i 131 (.if_icmp .eq 5) 0 0 0) (ab_lf i 134 (.iconst 0) 0 0 0)) (ab_br i 136 (ab_lf i 135 (.ireturn) 0 0 0) (ab_lf i 136 (.iload 5) 0 0 0)))) (ab_br i 143 (ab_br i 141 (ab_lf i 138 (.ifCond .ne 22) 0 0 0) (ab_br i 142 (ab_lf i 141 (.aload_n 3) 0 0 0) (ab_lf i 142 (.iconst 0) 0 0 0))) (ab_br i 146 (ab_br i 144 (ab_lf i 143 (.laload) 0 0 0) (ab_lf i 144 (.iload 6) 0 0 0)) (ab_br i 149 (ab_lf i 146 (.ifCond .eq 7) 0 0 0) (ab_lf i 149 (.lconst 1) 0 0 0))))))) (ab_br i 197 (ab_br i 171 (ab_br i 163 (ab_br i 155 (ab_br i 153 (ab_lf i 150 (.goto 4) 0 0 0) (ab_br i 154 (ab_lf i 153 (.lconst 0) 0 0 0) (ab_lf i 154 (.lcmp) 0 0 0))) (ab_br i 159 (ab_br i 158 (ab_lf i 155 (.ifCond .eq 5) 0 0 0) (ab_lf i 158 (.iconst 0) 0 0 0)) (ab_br i 160 (ab_lf i 159 (.ireturn) 0 0 0) (ab_lf i 160 (.goto 609) 0 0 0)))) (ab_br i 167 (ab_br i 164 (ab_lf i 163 (.aload_n 1) 0 0 0) (ab_br i 165 (ab_lf i 164 (.aload_n 0) 0 0 0) (ab_lf i 165 (.iload 4) 0 0 0))) (ab_br i 169 (ab_br i 168 (ab_lf i 167 (.iconst 1) 0 0 0) (ab_lf i 168 (.iadd) 0 0 0)) (ab_br i 170 (ab_lf i 169 (.iaload) 0 0 0) (ab_lf i 170 (.aload_n 3) 0 0 0))))) (ab_br i 182 (ab_br i 177 (ab_br i 174 (ab_lf i 171 (.invokestatic 65) 1 122 3) (ab_br i 176 (ab_lf i 174 (.istore 5) 0 0 0) (ab_lf i 176 (.aload_n 2) 0 0 0))) (ab_br i 180 (ab_br i 178 (ab_lf i 177 (.aload_n 0) 0 0 0) (ab_lf i 178 (.iload 4) 0 0 0)) (ab_br i 181 (ab_lf i 180 (.iconst 1) 0 0 0) (ab_lf i 181 (.iadd) 0 0 0)))) (ab_br i 188 (ab_br i 183 (ab_lf i 182 (.iaload) 0 0 0) (ab_br i 186 (ab_lf i 183 (.invokevirtual 67) 0 96 2) (ab_lf i 186 (.istore 6) 0 0 0))) (ab_br i 192 (ab_br i 189 (ab_lf i 188 (.aload_n 2) 0 0 0) (ab_lf i 189 (.invokevirtual 62) 0 74 1)) (ab_br i 194 (ab_lf i 192 (.iload 5) 0 0 0) (ab_lf i 194 (.if_icmp .eq 5) 0 0 0)))))) (ab_br i 219 (ab_br i 207 (ab_br i 201 (ab_br i 198 (ab_lf i 197 (.iconst 0) 0 0 0) (ab_br i 199 (ab_lf i 198 (.ireturn) 0 0 0) (ab_lf i 199 (.iload 5) 0 0 0))) (ab_br i 205 (ab_br i 204 (ab_lf i 201 (.ifCond .ne 15) 0 0 0) (ab_lf i 204 (.aload_n 3) 0 0 0)) (ab_br i 206 (ab_lf i 205 (.iconst 0) 0 0 0) (ab_lf i 206 (.laload) 0 0 0)))) (ab_br i 211 (ab_br i 209 (ab_lf i 207 (.iload 6) 0 0 0) (ab_br i 210 (ab_lf i 209 (.i2l) 0 0 0) (ab_lf i 210 (.lcmp) 0 0 0))) (ab_br i 215 (ab_br i 214 (ab_lf i 211 (.ifCond .eq 5) 0 0 0) (ab_lf i 214 (.iconst 0) 0 0 0)) (ab_br i 216 (ab_lf i 215 (.ireturn) 0 0 0) (ab_lf i 216 (.goto 553) 0 0 0))))) (ab_br i 227 (ab_br i 223 (ab_br i 220 (ab_lf i 219 (.aload_n 1) 0 0 0) (ab_br i 221 (ab_lf i 220 (.aload_n 0) 0 0 0) (ab_lf i 221 (.iload 4) 0 0 0))) (ab_br i 225 (ab_br i 224 (ab_lf i 223 (.iconst 1) 0 0 0) (ab_lf i 224 (.iadd) 0 0 0)) (ab_br i 226 (ab_lf i 225 (.iaload) 0 0 0) (ab_lf i 226 (.aload_n 3) 0 0 0)))) (ab_br i 233 (ab_br i 230 (ab_lf i 227 (.invokestatic 68) 1 123 3) (ab_br i 232 (ab_lf i 230 (.istore 5) 0 0 0) (ab_lf i 232 (.aload_n 2) 0 0 0))) (ab_br i 236 (ab_br i 234 (ab_lf i 233 (.aload_n 0) 0 0 0) (ab_lf i 234 (.iload 4) 0 0 0)) (ab_br i 237 (ab_lf i 236 (.iconst 1) 0 0 0) (ab_lf i 237 (.iadd) 0 0 0)))))))) (ab_br i 324 (ab_br i 287 (ab_br i 263 (ab_br i 253 (ab_br i 244 (ab_br i 239 (ab_lf i 238 (.iaload) 0 0 0) (ab_br i 242 (ab_lf i 239 (.invokevirtual 70) 0 97 2) (ab_lf i 242 (.istore 6) 0 0 0))) (ab_br i 248 (ab_br i 245 (ab_lf i 244 (.aload_n 2) 0 0 0) (ab_lf i 245 (.invokevirtual 62) 0 74 1)) (ab_br i 250 (ab_lf i 248 (.iload 5) 0 0 0) (ab_lf i 250 (.if_icmp .eq 5) 0 0 0)))) (ab_br i 257 (ab_br i 254 (ab_lf i 253 (.iconst 0) 0 0 0) (ab_br i 255 (ab_lf i 254 (.ireturn) 0 0 0) (ab_lf i 255 (.iload 5) 0 0 0))) (ab_br i 261 (ab_br i 260 (ab_lf i 257 (.ifCond .ne 22) 0 0 0) (ab_lf i 260 (.aload_n 3) 0 0 0)) (ab_br i 262 (ab_lf i 261 (.iconst 0) 0 0 0) (ab_lf i 262 (.laload) 0 0 0))))) (ab_br i 277 (ab_br i 269 (ab_br i 265 (ab_lf i 263 (.iload 6) 0 0 0) (ab_br i 268 (ab_lf i 265 (.ifCond .eq 7) 0 0 0) (ab_lf i 268 (.lconst 1) 0 0 0))) (ab_br i 273 (ab_br i 272 (ab_lf i 269 (.goto 4) 0 0 0) (ab_lf i 272 (.lconst 0) 0 0 0)) (ab_br i 274 (ab_lf i 273 (.lcmp) 0 0 0) (ab_lf i 274 (.ifCond .eq 5) 0 0 0)))) (ab_br i 282 (ab_br i 278 (ab_lf i 277 (.iconst 0) 0 0 0) (ab_br i 279 (ab_lf i 278 (.ireturn) 0 0 0) (ab_lf i 279 (.goto 490) 0 0 0))) (ab_br i 284 (ab_br i 283 (ab_lf i 282 (.aload_n 1) 0 0 0) (ab_lf i 283 (.aload_n 0) 0 0 0)) (ab_br i 286 (ab_lf i 284 (.iload 4) 0 0 0) (ab_lf i 286 (.iconst 1) 0 0 0)))))) (ab_br i 305 (ab_br i 296 (ab_br i 290 (ab_br i 288 (ab_lf i 287 (.iadd) 0 0 0) (ab_br i 289 (ab_lf i 288 (.iaload) 0 0 0) (ab_lf i 289 (.i2l) 0 0 0))) (ab_br i 293 (ab_br i 292 (ab_lf i 290 (.bipush 32) 0 0 0) (ab_lf i 292 (.lshl) 0 0 0)) (ab_br i 294 (ab_lf i 293 (.aload_n 0) 0 0 0) (ab_lf i 294 (.iload 4) 0 0 0)))) (ab_br i 299 (ab_br i 297 (ab_lf i 296 (.iconst 2) 0 0 0) (ab_br i 298 (ab_lf i 297 (.iadd) 0 0 0) (ab_lf i 298 (.iaload) 0 0 0))) (ab_br i 303 (ab_br i 300 (ab_lf i 299 (.i2l) 0 0 0) (ab_lf i 300 (.ldc2_w 71) 0 0 0)) (ab_br i 304 (ab_lf i 303 (.land) 0 0 0) (ab_lf i 304 (.lor) 0 0 0))))) (ab_br i 315 (ab_br i 309 (ab_br i 306 (ab_lf i 305 (.aload_n 0) 0 0 0) (ab_br i 308 (ab_lf i 306 (.iload 4) 0 0 0) (ab_lf i 308 (.iconst 3) 0 0 0))) (ab_br i 311 (ab_br i 310 (ab_lf i 309 (.iadd) 0 0 0) (ab_lf i 310 (.iaload) 0 0 0)) (ab_br i 314 (ab_lf i 311 (.invokevirtual 73) 0 4 3) (ab_lf i 314 (.aload_n 2) 0 0 0)))) (ab_br i 319 (ab_br i 316 (ab_lf i 315 (.aload_n 0) 0 0 0) (ab_br i 318 (ab_lf i 316 (.iload 4) 0 0 0) (ab_lf i 318 (.iconst 1) 0 0 0))) (ab_br i 321 (ab_br i 320 (ab_lf i 319 (.iadd) 0 0 0) (ab_lf i 320 (.iaload) 0 0 0)) (ab_br i 322 (ab_lf i 321 (.i2l) 0 0 0) (ab_lf i 322 (.bipush 32) 0 0 0))))))) (ab_br i 366 (ab_br i 342 (ab_br i 332 (ab_br i 328 (ab_br i 325 (ab_lf i 324 (.lshl) 0 0 0) (ab_br i 326 (ab_lf i 325 (.aload_n 0) 0 0 0) (ab_lf i 326 (.iload 4) 0 0 0))) (ab_br i 330 (ab_br i 329 (ab_lf i 328 (.iconst 2) 0 0 0) (ab_lf i 329 (.iadd) 0 0 0)) (ab_br i 331 (ab_lf i 330 (.iaload) 0 0 0) (ab_lf i 331 (.i2l) 0 0 0)))) (ab_br i 337 (ab_br i 335 (ab_lf i 332 (.ldc2_w 71) 0 0 0) (ab_br i 336 (ab_lf i 335 (.land) 0 0 0) (ab_lf i 336 (.lor) 0 0 0))) (ab_br i 340 (ab_br i 338 (ab_lf i 337 (.aload_n 0) 0 0 0) (ab_lf i 338 (.iload 4) 0 0 0)) (ab_br i 341 (ab_lf i 340 (.iconst 3) 0 0 0) (ab_lf i 341 (.iadd) 0 0 0))))) (ab_br i 355 (ab_br i 349 (ab_br i 343 (ab_lf i 342 (.iaload) 0 0 0) (ab_br i 346 (ab_lf i 343 (.invokevirtual 77) 0 76 3) (ab_lf i 346 (.if_icmp .eq 423) 0 0 0))) (ab_br i 351 (ab_br i 350 (ab_lf i 349 (.iconst 0) 0 0 0) (ab_lf i 350 (.ireturn) 0 0 0)) (ab_br i 352 (ab_lf i 351 (.aload_n 1) 0 0 0) (ab_lf i 352 (.invokevirtual 78) 0 5 1)))) (ab_br i 362 (ab_br i 356 (ab_lf i 355 (.aload_n 2) 0 0 0) (ab_br i 359 (ab_lf i 356 (.invokevirtual 81) 0 77 1) (ab_lf i 359 (.if_icmp .eq 410) 0 0 0))) (ab_br i 364 (ab_br i 363 (ab_lf i 362 (.iconst 0) 0 0 0) (ab_lf i 363 (.ireturn) 0 0 0)) (ab_br i 365 (ab_lf i 364 (.aload_n 1) 0 0 0) (ab_lf i 365 (.aload_n 3) 0 0 0)))))) (ab_br i 394 (ab_br i 381 (ab_br i 372 (ab_br i 369 (ab_lf i 366 (.invokestatic 82) 1 124 2) (ab_br i 371 (ab_lf i 369 (.istore 5) 0 0 0) (ab_lf i 371 (.aload_n 2) 0 0 0))) (ab_br i 377 (ab_br i 375 (ab_lf i 372 (.invokevirtual 85) 0 105 1) (ab_lf i 375 (.istore 6) 0 0 0)) (ab_br i 378 (ab_lf i 377 (.aload_n 2) 0 0 0) (ab_lf i 378 (.invokevirtual 62) 0 74 1)))) (ab_br i 387 (ab_br i 383 (ab_lf i 381 (.iload 5) 0 0 0) (ab_br i 386 (ab_lf i 383 (.if_icmp .eq 5) 0 0 0) (ab_lf i 386 (.iconst 0) 0 0 0))) (ab_br i 390 (ab_br i 388 (ab_lf i 387 (.ireturn) 0 0 0) (ab_lf i 388 (.iload 5) 0 0 0)) (ab_br i 393 (ab_lf i 390 (.ifCond .ne 15) 0 0 0) (ab_lf i 393 (.aload_n 3) 0 0 0))))) (ab_br i 404 (ab_br i 398 (ab_br i 395 (ab_lf i 394 (.iconst 0) 0 0 0) (ab_br i 396 (ab_lf i 395 (.laload) 0 0 0) (ab_lf i 396 (.iload 6) 0 0 0))) (ab_br i 400 (ab_br i 399 (ab_lf i 398 (.i2l) 0 0 0) (ab_lf i 399 (.lcmp) 0 0 0)) (ab_br i 403 (ab_lf i 400 (.ifCond .eq 5) 0 0 0) (ab_lf i 403 (.iconst 0) 0 0 0)))) (ab_br i 409 (ab_br i 405 (ab_lf i 404 (.ireturn) 0 0 0) (ab_br i 408 (ab_lf i 405 (.goto 364) 0 0 0) (ab_lf i 408 (.aload_n 1) 0 0 0))) (ab_br i 412 (ab_br i 410 (ab_lf i 409 (.aload_n 0) 0 0 0) (ab_lf i 410 (.iload 4) 0 0 0)) (ab_br i 413 (ab_lf i 412 (.iconst 1) 0 0 0) (ab_lf i 413 (.iadd) 0 0 0))))))))) (ab_br i 593 (ab_br i 506 (ab_br i 460 (ab_br i 437 (ab_br i 425 (ab_br i 419 (ab_br i 415 (ab_lf i 414 (.iaload) 0 0 0) (ab_br i 416 (ab_lf i 415 (.aload_n 3) 0 0 0) (ab_lf i 416 (.invokestatic 86) 1 125 3))) (ab_br i 422 (ab_br i 421 (ab_lf i 419 (.istore 5) 0 0 0) (ab_lf i 421 (.aload_n 2) 0 0 0)) (ab_br i 423 (ab_lf i 422 (.aload_n 0) 0 0 0) (ab_lf i 423 (.iload 4) 0 0 0)))) (ab_br i 428 (ab_br i 426 (ab_lf i 425 (.iconst 1) 0 0 0) (ab_br i 427 (ab_lf i 426 (.iadd) 0 0 0) (ab_lf i 427 (.iaload) 0 0 0))) (ab_br i 433 (ab_br i 431 (ab_lf i 428 (.invokevirtual 88) 0 107 2) (ab_lf i 431 (.istore 6) 0 0 0)) (ab_br i 434 (ab_lf i 433 (.aload_n 2) 0 0 0) (ab_lf i 434 (.invokevirtual 62) 0 74 1))))) (ab_br i 450 (ab_br i 443 (ab_br i 439 (ab_lf i 437 (.iload 5) 0 0 0) (ab_br i 442 (ab_lf i 439 (.if_icmp .eq 5) 0 0 0) (ab_lf i 442 (.iconst 0) 0 0 0))) (ab_br i 446 (ab_br i 444 (ab_lf i 443 (.ireturn) 0 0 0) (ab_lf i 444 (.iload 5) 0 0 0)) (ab_br i 449 (ab_lf i 446 (.ifCond .ne 15) 0 0 0) (ab_lf i 449 (.aload_n 3) 0 0 0)))) (ab_br i 454 (ab_br i 451 (ab_lf i 450 (.iconst 0) 0 0 0) (ab_br i 452 (ab_lf i 451 (.laload) 0 0 0) (ab_lf i 452 (.iload 6) 0 0 0))) (ab_br i 456 (ab_br i 455 (ab_lf i 454 (.i2l) 0 0 0) (ab_lf i 455 (.lcmp) 0 0 0)) (ab_br i 459 (ab_lf i 456 (.ifCond .eq 5) 0 0 0) (ab_lf i 459 (.iconst 0) 0 0 0)))))) (ab_br i 481 (ab_br i 470 (ab_br i 465 (ab_br i 461 (ab_lf i 460 (.ireturn) 0 0 0) (ab_br i 464 (ab_lf i 461 (.goto 308) 0 0 0) (ab_lf i 464 (.aload_n 1) 0 0 0))) (ab_br i 468 (ab_br i 466 (ab_lf i 465 (.aload_n 0) 0 0 0) (ab_lf i 466 (.iload 4) 0 0 0)) (ab_br i 469 (ab_lf i 468 (.iconst 1) 0 0 0) (ab_lf i 469 (.iadd) 0 0 0)))) (ab_br i 475 (ab_br i 471 (ab_lf i 470 (.iaload) 0 0 0) (ab_br i 472 (ab_lf i 471 (.aload_n 3) 0 0 0) (ab_lf i 472 (.invokestatic 89) 1 126 3))) (ab_br i 478 (ab_br i 477 (ab_lf i 475 (.istore 5) 0 0 0) (ab_lf i 477 (.aload_n 2) 0 0 0)) (ab_br i 479 (ab_lf i 478 (.aload_n 0) 0 0 0) (ab_lf i 479 (.iload 4) 0 0 0))))) (ab_br i 493 (ab_br i 484 (ab_br i 482 (ab_lf i 481 (.iconst 1) 0 0 0) (ab_br i 483 (ab_lf i 482 (.iadd) 0 0 0) (ab_lf i 483 (.iaload) 0 0 0))) (ab_br i 489 (ab_br i 487 (ab_lf i 484 (.invokevirtual 91) 0 108 2) (ab_lf i 487 (.lstore 6) 0 0 0)) (ab_br i 490 (ab_lf i 489 (.aload_n 2) 0 0 0) (ab_lf i 490 (.invokevirtual 62) 0 74 1)))) (ab_br i 499 (ab_br i 495 (ab_lf i 493 (.iload 5) 0 0 0) (ab_br i 498 (ab_lf i 495 (.if_icmp .eq 5) 0 0 0) (ab_lf i 498 (.iconst 0) 0 0 0))) (ab_br i 502 (ab_br i 500 (ab_lf i 499 (.ireturn) 0 0 0) (ab_lf i 500 (.iload 5) 0 0 0)) (ab_br i 505 (ab_lf i 502 (.ifCond .ne 14) 0 0 0) (ab_lf i 505 (.aload_n 3) 0 0 0))))))) (ab_br i 550 (ab_br i 526 (ab_br i 516 (ab_br i 510 (ab_br i 507 (ab_lf i 506 (.iconst 0) 0 0 0) (ab_br i 508 (ab_lf i 507 (.laload) 0 0 0) (ab_lf i 508 (.lload 6) 0 0 0))) (ab_br i 514 (ab_br i 511 (ab_lf i 510 (.lcmp) 0 0 0) (ab_lf i 511 (.ifCond .eq 5) 0 0 0)) (ab_br i 515 (ab_lf i 514 (.iconst 0) 0 0 0) (ab_lf i 515 (.ireturn) 0 0 0)))) (ab_br i 521 (ab_br i 519 (ab_lf i 516 (.goto 253) 0 0 0) (ab_br i 520 (ab_lf i 519 (.aload_n 1) 0 0 0) (ab_lf i 520 (.aload_n 0) 0 0 0))) (ab_br i 524 (ab_br i 523 (ab_lf i 521 (.iload 4) 0 0 0) (ab_lf i 523 (.iconst 1) 0 0 0)) (ab_br i 525 (ab_lf i 524 (.iadd) 0 0 0) (ab_lf i 525 (.iaload) 0 0 0))))) (ab_br i 537 (ab_br i 532 (ab_br i 527 (ab_lf i 526 (.aload_n 3) 0 0 0) (ab_br i 530 (ab_lf i 527 (.invokestatic 92) 1 127 3) (ab_lf i 530 (.istore 5) 0 0 0))) (ab_br i 534 (ab_br i 533 (ab_lf i 532 (.aload_n 2) 0 0 0) (ab_lf i 533 (.aload_n 0) 0 0 0)) (ab_br i 536 (ab_lf i 534 (.iload 4) 0 0 0) (ab_lf i 536 (.iconst 1) 0 0 0)))) (ab_br i 542 (ab_br i 538 (ab_lf i 537 (.iadd) 0 0 0) (ab_br i 539 (ab_lf i 538 (.iaload) 0 0 0) (ab_lf i 539 (.invokevirtual 94) 0 109 2))) (ab_br i 545 (ab_br i 544 (ab_lf i 542 (.istore 6) 0 0 0) (ab_lf i 544 (.aload_n 2) 0 0 0)) (ab_br i 548 (ab_lf i 545 (.invokevirtual 62) 0 74 1) (ab_lf i 548 (.iload 5) 0 0 0)))))) (ab_br i 572 (ab_br i 562 (ab_br i 555 (ab_br i 553 (ab_lf i 550 (.if_icmp .eq 5) 0 0 0) (ab_br i 554 (ab_lf i 553 (.iconst 0) 0 0 0) (ab_lf i 554 (.ireturn) 0 0 0))) (ab_br i 560 (ab_br i 557 (ab_lf i 555 (.iload 5) 0 0 0) (ab_lf i 557 (.ifCond .ne 15) 0 0 0)) (ab_br i 561 (ab_lf i 560 (.aload_n 3) 0 0 0) (ab_lf i 561 (.iconst 0) 0 0 0)))) (ab_br i 566 (ab_br i 563 (ab_lf i 562 (.laload) 0 0 0) (ab_br i 565 (ab_lf i 563 (.iload 6) 0 0 0) (ab_lf i 565 (.i2l) 0 0 0))) (ab_br i 570 (ab_br i 567 (ab_lf i 566 (.lcmp) 0 0 0) (ab_lf i 567 (.ifCond .eq 5) 0 0 0)) (ab_br i 571 (ab_lf i 570 (.iconst 0) 0 0 0) (ab_lf i 571 (.ireturn) 0 0 0))))) (ab_br i 582 (ab_br i 577 (ab_br i 575 (ab_lf i 572 (.goto 197) 0 0 0) (ab_br i 576 (ab_lf i 575 (.aload_n 1) 0 0 0) (ab_lf i 576 (.aload_n 0) 0 0 0))) (ab_br i 580 (ab_br i 579 (ab_lf i 577 (.iload 4) 0 0 0) (ab_lf i 579 (.iconst 1) 0 0 0)) (ab_br i 581 (ab_lf i 580 (.iadd) 0 0 0) (ab_lf i 581 (.iaload) 0 0 0)))) (ab_br i 588 (ab_br i 583 (ab_lf i 582 (.aload_n 3) 0 0 0) (ab_br i 586 (ab_lf i 583 (.invokestatic 95) 1 128 3) (ab_lf i 586 (.istore 5) 0 0 0))) (ab_br i 590 (ab_br i 589 (ab_lf i 588 (.aload_n 2) 0 0 0) (ab_lf i 589 (.aload_n 0) 0 0 0)) (ab_br i 592 (ab_lf i 590 (.iload 4) 0 0 0) (ab_lf i 592 (.iconst 1) 0 0 0)))))))) (ab_br i 686 (ab_br i 638 (ab_br i 618 (ab_br i 606 (ab_br i 598 (ab_br i 594 (ab_lf i 593 (.iadd) 0 0 0) (ab_br i 595 (ab_lf i 594 (.iaload) 0 0 0) (ab_lf i 595 (.invokevirtual 97) 0 100 2))) (ab_br i 601 (ab_br i 600 (ab_lf i 598 (.istore 6) 0 0 0) (ab_lf i 600 (.aload_n 2) 0 0 0)) (ab_br i 604 (ab_lf i 601 (.invokevirtual 62) 0 74 1) (ab_lf i 604 (.iload 5) 0 0 0)))) (ab_br i 611 (ab_br i 609 (ab_lf i 606 (.if_icmp .eq 5) 0 0 0) (ab_br i 610 (ab_lf i 609 (.iconst 0) 0 0 0) (ab_lf i 610 (.ireturn) 0 0 0))) (ab_br i 616 (ab_br i 613 (ab_lf i 611 (.iload 5) 0 0 0) (ab_lf i 613 (.ifCond .ne 15) 0 0 0)) (ab_br i 617 (ab_lf i 616 (.aload_n 3) 0 0 0) (ab_lf i 617 (.iconst 0) 0 0 0))))) (ab_br i 628 (ab_br i 622 (ab_br i 619 (ab_lf i 618 (.laload) 0 0 0) (ab_br i 621 (ab_lf i 619 (.iload 6) 0 0 0) (ab_lf i 621 (.i2l) 0 0 0))) (ab_br i 626 (ab_br i 623 (ab_lf i 622 (.lcmp) 0 0 0) (ab_lf i 623 (.ifCond .eq 5) 0 0 0)) (ab_br i 627 (ab_lf i 626 (.iconst 0) 0 0 0) (ab_lf i 627 (.ireturn) 0 0 0)))) (ab_br i 633 (ab_br i 631 (ab_lf i 628 (.goto 141) 0 0 0) (ab_br i 632 (ab_lf i 631 (.aload_n 1) 0 0 0) (ab_lf i 632 (.aload_n 0) 0 0 0))) (ab_br i 636 (ab_br i 635 (ab_lf i 633 (.iload 4) 0 0 0) (ab_lf i 635 (.iconst 1) 0 0 0)) (ab_br i 637 (ab_lf i 636 (.iadd) 0 0 0) (ab_lf i 637 (.iaload) 0 0 0)))))) (ab_br i 662 (ab_br i 649 (ab_br i 644 (ab_br i 639 (ab_lf i 638 (.aload_n 3) 0 0 0) (ab_br i 642 (ab_lf i 639 (.invokestatic 98) 1 129 3) (ab_lf i 642 (.istore 5) 0 0 0))) (ab_br i 646 (ab_br i 645 (ab_lf i 644 (.aload_n 2) 0 0 0) (ab_lf i 645 (.aload_n 0) 0 0 0)) (ab_br i 648 (ab_lf i 646 (.iload 4) 0 0 0) (ab_lf i 648 (.iconst 1) 0 0 0)))) (ab_br i 654 (ab_br i 650 (ab_lf i 649 (.iadd) 0 0 0) (ab_br i 651 (ab_lf i 650 (.iaload) 0 0 0) (ab_lf i 651 (.invokevirtual 100) 0 119 2))) (ab_br i 657 (ab_br i 656 (ab_lf i 654 (.istore 6) 0 0 0) (ab_lf i 656 (.aload_n 2) 0 0 0)) (ab_br i 660 (ab_lf i 657 (.invokevirtual 62) 0 74 1) (ab_lf i 660 (.iload 5) 0 0 0))))) (ab_br i 674 (ab_br i 667 (ab_br i 665 (ab_lf i 662 (.if_icmp .eq 5) 0 0 0) (ab_br i 666 (ab_lf i 665 (.iconst 0) 0 0 0) (ab_lf i 666 (.ireturn) 0 0 0))) (ab_br i 672 (ab_br i 669 (ab_lf i 667 (.iload 5) 0 0 0) (ab_lf i 669 (.ifCond .ne 22) 0 0 0)) (ab_br i 673 (ab_lf i 672 (.aload_n 3) 0 0 0) (ab_lf i 673 (.iconst 0) 0 0 0)))) (ab_br i 680 (ab_br i 675 (ab_lf i 674 (.laload) 0 0 0) (ab_br i 677 (ab_lf i 675 (.iload 6) 0 0 0) (ab_lf i 677 (.ifCond .eq 7) 0 0 0))) (ab_br i 684 (ab_br i 681 (ab_lf i 680 (.lconst 1) 0 0 0) (ab_lf i 681 (.goto 4) 0 0 0)) (ab_br i 685 (ab_lf i 684 (.lconst 0) 0 0 0) (ab_lf i 685 (.lcmp) 0 0 0))))))) (ab_br i 725 (ab_br i 706 (ab_br i 698 (ab_br i 691 (ab_br i 689 (ab_lf i 686 (.ifCond .eq 5) 0 0 0) (ab_br i 690 (ab_lf i 689 (.iconst 0) 0 0 0) (ab_lf i 690 (.ireturn) 0 0 0))) (ab_br i 695 (ab_br i 694 (ab_lf i 691 (.goto 78) 0 0 0) (ab_lf i 694 (.aload_n 1) 0 0 0)) (ab_br i 696 (ab_lf i 695 (.aload_n 0) 0 0 0) (ab_lf i 696 (.iload 4) 0 0 0)))) (ab_br i 701 (ab_br i 699 (ab_lf i 698 (.iconst 1) 0 0 0) (ab_br i 700 (ab_lf i 699 (.iadd) 0 0 0) (ab_lf i 700 (.iaload) 0 0 0))) (ab_br i 704 (ab_br i 702 (ab_lf i 701 (.aload_n 0) 0 0 0) (ab_lf i 702 (.iload 4) 0 0 0)) (ab_br i 705 (ab_lf i 704 (.iconst 2) 0 0 0) (ab_lf i 705 (.iadd) 0 0 0))))) (ab_br i 717 (ab_br i 711 (ab_br i 707 (ab_lf i 706 (.iaload) 0 0 0) (ab_br i 708 (ab_lf i 707 (.aload_n 3) 0 0 0) (ab_lf i 708 (.invokestatic 101) 1 130 4))) (ab_br i 714 (ab_br i 713 (ab_lf i 711 (.istore 5) 0 0 0) (ab_lf i 713 (.aload_n 2) 0 0 0)) (ab_br i 715 (ab_lf i 714 (.aload_n 0) 0 0 0) (ab_lf i 715 (.iload 4) 0 0 0)))) (ab_br i 720 (ab_br i 718 (ab_lf i 717 (.iconst 1) 0 0 0) (ab_br i 719 (ab_lf i 718 (.iadd) 0 0 0) (ab_lf i 719 (.iaload) 0 0 0))) (ab_br i 723 (ab_br i 721 (ab_lf i 720 (.aload_n 0) 0 0 0) (ab_lf i 721 (.iload 4) 0 0 0)) (ab_br i 724 (ab_lf i 723 (.iconst 2) 0 0 0) (ab_lf i 724 (.iadd) 0 0 0)))))) (ab_br i 750 (ab_br i 740 (ab_br i 731 (ab_br i 726 (ab_lf i 725 (.iaload) 0 0 0) (ab_br i 729 (ab_lf i 726 (.invokevirtual 104) 0 120 3) (ab_lf i 729 (.istore 6) 0 0 0))) (ab_br i 735 (ab_br i 732 (ab_lf i 731 (.aload_n 2) 0 0 0) (ab_lf i 732 (.invokevirtual 62) 0 74 1)) (ab_br i 737 (ab_lf i 735 (.iload 5) 0 0 0) (ab_lf i 737 (.if_icmp .eq 5) 0 0 0)))) (ab_br i 744 (ab_br i 741 (ab_lf i 740 (.iconst 0) 0 0 0) (ab_br i 742 (ab_lf i 741 (.ireturn) 0 0 0) (ab_lf i 742 (.iload 5) 0 0 0))) (ab_br i 748 (ab_br i 747 (ab_lf i 744 (.ifCond .ne 22) 0 0 0) (ab_lf i 747 (.aload_n 3) 0 0 0)) (ab_br i 749 (ab_lf i 748 (.iconst 0) 0 0 0) (ab_lf i 749 (.laload) 0 0 0))))) (ab_br i 764 (ab_br i 756 (ab_br i 752 (ab_lf i 750 (.iload 6) 0 0 0) (ab_br i 755 (ab_lf i 752 (.ifCond .eq 7) 0 0 0) (ab_lf i 755 (.lconst 1) 0 0 0))) (ab_br i 760 (ab_br i 759 (ab_lf i 756 (.goto 4) 0 0 0) (ab_lf i 759 (.lconst 0) 0 0 0)) (ab_br i 761 (ab_lf i 760 (.lcmp) 0 0 0) (ab_lf i 761 (.ifCond .eq 5) 0 0 0)))) (ab_br i 769 (ab_br i 765 (ab_lf i 764 (.iconst 0) 0 0 0) (ab_br i 766 (ab_lf i 765 (.ireturn) 0 0 0) (ab_lf i 766 (.goto 3) 0 0 0))) (ab_br i 775 (ab_br i 772 (ab_lf i 769 (.iinc 4 4) 0 0 0) (ab_lf i 772 (.goto (-749)) 0 0 0)) (ab_br i 776 (ab_lf i 775 (.iconst 1) 0 0 0) (ab_lf i 776 (.ireturn) 0 0 0))))))))))
def ab_int (k i : Nat) : Option (Instr × Nat × Nat × Nat) := (ab_br k 67 (ab_br k 33 (ab_br k 16 (ab_br k 8 (ab_br k 4 (ab_br k 2 (ab_br k 1 (ab_le0 k 0 (ab_p0 i) none) (ab_le0 k 1 (ab_p1 i) none)) (ab_br k 3 (ab_le0 k 2 (ab_p2 i) none) (ab_le0 k 3 (ab_p3 i) none))) (ab_br k 6 (ab_br k 5 (ab_le0 k 4 (ab_p4 i) none) (ab_le0 k 5 (ab_p5 i) none)) (ab_br k 7 (ab_le0 k 6 (ab_p6 i) none) (ab_le0 k 7 (ab_p7 i) none)))) (ab_br k 12 (ab_br k 10 (ab_br k 9 (ab_le0 k 8 (ab_p8 i) none) (ab_le0 k 9 (ab_p9 i) none)) (ab_br k 11 (ab_le0 k 10 (ab_p10 i) none) (ab_le0 k 11 (ab_p11 i) none))) (ab_br k 14 (ab_br k 13 (ab_le0 k 12 (ab_p12 i) none) (ab_le0 k 13 (ab_p13 i) none)) (ab_br k 15 (ab_le0 k 14 (ab_p14 i) none) (ab_le0 k 15 (ab_p15 i) none))))) (ab_br k 24 (ab_br k 20 (ab_br k 18 (ab_br k 17 (ab_le0 k 16 (ab_p16 i) none) (ab_le0 k 17 (ab_p17 i) none)) (ab_br k 19 (ab_le0 k 18 (ab_p18 i) none) (ab_le0 k 19 (ab_p19 i) none))) (ab_br k 22 (ab_br k 21 (ab_le0 k 20 (ab_p20 i) none) (ab_le0 k 21 (ab_p21 i) none)) (ab_br k 23 (ab_le0 k 22 (ab_p22 i) none) (ab_le0 k 23 (ab_p23 i) none)))) (ab_br k 28 (ab_br k 26 (ab_br k 25 (ab_le0 k 24 (ab_p24 i) none) (ab_le0 k 25 (ab_p25 i) none)) (ab_br k 27 (ab_le0 k 26 (ab_p26 i) none) (ab_le0 k 27 (ab_p27 i) none))) (ab_br k 30 (ab_br k 29 (ab_le0 k 28 (ab_p28 i) none) (ab_le0 k 29 (ab_p29 i) none)) (ab_br k 31 (ab_le0 k 30 (ab_p30 i) none) (ab_br k 32 (ab_le0 k 31 (ab_p31 i) none) (ab_le0 k 32 (ab_p32 i) none))))))) (ab_br k 50 (ab_br k 41 (ab_br k 37 (ab_br k 35 (ab_br k 34 (ab_le0 k 33 (ab_p33 i) none) (ab_le0 k 34 (ab_p34 i) none)) (ab_br k 36 (ab_le0 k 35 (ab_p35 i) none) (ab_le0 k 36 (ab_p36 i) none))) (ab_br k 39 (ab_br k 38 (ab_le0 k 37 (ab_p37 i) none) (ab_le0 k 38 (ab_p38 i) none)) (ab_br k 40 (ab_le0 k 39 (ab_p39 i) none) (ab_le0 k 40 (ab_p40 i) none)))) (ab_br k 45 (ab_br k 43 (ab_br k 42 (ab_le0 k 41 (ab_p41 i) none) (ab_le0 k 42 (ab_p42 i) none)) (ab_br k 44 (ab_le0 k 43 (ab_p43 i) none) (ab_le0 k 44 (ab_p44 i) none))) (ab_br k 47 (ab_br k 46 (ab_le0 k 45 (ab_p45 i) none) (ab_le0 k 46 (ab_p46 i) none)) (ab_br k 48 (ab_le0 k 47 (ab_p47 i) none) (ab_br k 49 (ab_le0 k 48 (ab_p48 i) none) (ab_le0 k 49 (ab_p49 i) none)))))) (ab_br k 58 (ab_br k 54 (ab_br k 52 (ab_br k 51 (ab_le0 k 50 (ab_p50 i) none) (ab_le0 k 51 (ab_p51 i) none)) (ab_br k 53 (ab_le0 k 52 (ab_p52 i) none) (ab_le0 k 53 (ab_p53 i) none))) (ab_br k 56 (ab_br k 55 (ab_le0 k 54 (ab_p54 i) none) (ab_le0 k 55 (ab_p55 i) none)) (ab_br k 57 (ab_le0 k 56 (ab_p56 i) none) (ab_le0 k 57 (ab_p57 i) none)))) (ab_br k 62 (ab_br k 60 (ab_br k 59 (ab_le0 k 58 (ab_p58 i) none) (ab_le0 k 59 (ab_p59 i) none)) (ab_br k 61 (ab_le0 k 60 (ab_p60 i) none) (ab_le0 k 61 (ab_p61 i) none))) (ab_br k 64 (ab_br k 63 (ab_le0 k 62 (ab_p62 i) none) (ab_le0 k 63 (ab_p63 i) none)) (ab_br k 65 (ab_le0 k 64 (ab_p64 i) none) (ab_br k 66 (ab_le0 k 65 (ab_p65 i) none) (ab_le0 k 66 (ab_p66 i) none)))))))) (ab_br k 100 (ab_br k 83 (ab_br k 75 (ab_br k 71 (ab_br k 69 (ab_br k 68 (ab_le0 k 67 (ab_p67 i) none) (ab_le0 k 68 (ab_p68 i) none)) (ab_br k 70 (ab_le0 k 69 (ab_p69 i) none) (ab_le0 k 70 (ab_p70 i) none))) (ab_br k 73 (ab_br k 72 (ab_le0 k 71 (ab_p71 i) none) (ab_le0 k 72 (ab_p72 i) none)) (ab_br k 74 (ab_le0 k 73 (ab_p73 i) none) (ab_le0 k 74 (ab_p74 i) none)))) (ab_br k 79 (ab_br k 77 (ab_br k 76 (ab_le0 k 75 (ab_p75 i) none) (ab_le0 k 76 (ab_p76 i) none)) (ab_br k 78 (ab_le0 k 77 (ab_p77 i) none) (ab_le0 k 78 (ab_p78 i) none))) (ab_br k 81 (ab_br k 80 (ab_le0 k 79 (ab_p79 i) none) (ab_le0 k 80 (ab_p80 i) none)) (ab_br k 82 (ab_le0 k 81 (ab_p81 i) none) (ab_le0 k 82 (ab_p82 i) none))))) (ab_br k 91 (ab_br k 87 (ab_br k 85 (ab_br k 84 (ab_le0 k 83 (ab_p83 i) none) (ab_le0 k 84 (ab_p84 i) none)) (ab_br k 86 (ab_le0 k 85 (ab_p85 i) none) (ab_le0 k 86 (ab_p86 i) none))) (ab_br k 89 (ab_br k 88 (ab_le0 k 87 (ab_p87 i) none) (ab_le0 k 88 (ab_p88 i) none)) (ab_br k 90 (ab_le0 k 89 (ab_p89 i) none) (ab_le0 k 90 (ab_p90 i) none)))) (ab_br k 95 (ab_br k 93 (ab_br k 92 (ab_le0 k 91 (ab_p91 i) none) (ab_le0 k 92 (ab_p92 i) none)) (ab_br k 94 (ab_le0 k 93 (ab_p93 i) none) (ab_le0 k 94 (ab_p94 i) none))) (ab_br k 97 (ab_br k 96 (ab_le0 k 95 (ab_p95 i) none) (ab_le0 k 96 (ab_p96 i) none)) (ab_br k 98 (ab_le0 k 97 (ab_p97 i) none) (ab_br k 99 (ab_le0 k 98 (ab_p98 i) none) (ab_le0 k 99 (ab_p99 i) none))))))) (ab_br k 117 (ab_br k 108 (ab_br k 104 (ab_br k 102 (ab_br k 101 (ab_le0 k 100 (ab_p100 i) none) (ab_le0 k 101 (ab_p101 i) none)) (ab_br k 103 (ab_le0 k 102 (ab_p102 i) none) (ab_le0 k 103 (ab_p103 i) none))) (ab_br k 106 (ab_br k 105 (ab_le0 k 104 (ab_p104 i) none) (ab_le0 k 105 (ab_p105 i) none)) (ab_br k 107 (ab_le0 k 106 (ab_p106 i) none) (ab_le0 k 107 (ab_p107 i) none)))) (ab_br k 112 (ab_br k 110 (ab_br k 109 (ab_le0 k 108 (ab_p108 i) none) (ab_le0 k 109 (ab_p109 i) none)) (ab_br k 111 (ab_le0 k 110 (ab_p110 i) none) (ab_le0 k 111 (ab_p111 i) none))) (ab_br k 114 (ab_br k 113 (ab_le0 k 112 (ab_p112 i) none) (ab_le0 k 113 (ab_p113 i) none)) (ab_br k 115 (ab_le0 k 114 (ab_p114 i) none) (ab_br k 116 (ab_le0 k 115 (ab_p115 i) none) (ab_le0 k 116 (ab_p116 i) none)))))) (ab_br k 125 (ab_br k 121 (ab_br k 119 (ab_br k 118 (ab_le0 k 117 (ab_p117 i) none) (ab_le0 k 118 (ab_p118 i) none)) (ab_br k 120 (ab_le0 k 119 (ab_p119 i) none) (ab_le0 k 120 (ab_p120 i) none))) (ab_br k 123 (ab_br k 122 (ab_le0 k 121 (ab_p121 i) none) (ab_le0 k 122 (ab_p122 i) none)) (ab_br k 124 (ab_le0 k 123 (ab_p123 i) none) (ab_le0 k 124 (ab_p124 i) none)))) (ab_br k 129 (ab_br k 127 (ab_br k 126 (ab_le0 k 125 (ab_p125 i) none) (ab_le0 k 126 (ab_p126 i) none)) (ab_br k 128 (ab_le0 k 127 (ab_p127 i) none) (ab_le0 k 128 (ab_p128 i) none))) (ab_br k 131 (ab_br k 130 (ab_le0 k 129 (ab_p129 i) none) (ab_le0 k 130 (ab_p130 i) none)) (ab_br k 132 (ab_le0 k 131 (ab_p131 i) none) (ab_br k 133 (ab_le0 k 132 (ab_p132 i) none) (ab_le0 k 133 (ab_p133 i) none)))))))))
def ab_sz (k : Nat) : Nat := (ab_br k 67 (ab_br k 33 (ab_br k 16 (ab_br k 8 (ab_br k 4 (ab_br k 2 (ab_br k 1 (ab_le0 k 0 65 0) (ab_le0 k 1 61 0)) (ab_br k 3 (ab_le0 k 2 54 0) (ab_le0 k 3 31 0))) (ab_br k 6 (ab_br k 5 (ab_le0 k 4 10 0) (ab_le0 k 5 8 0)) (ab_br k 7 (ab_le0 k 6 12 0) (ab_le0 k 7 15 0)))) (ab_br k 12 (ab_br k 10 (ab_br k 9 (ab_le0 k 8 15 0) (ab_le0 k 9 15 0)) (ab_br k 11 (ab_le0 k 10 9 0) (ab_le0 k 11 20 0))) (ab_br k 14 (ab_br k 13 (ab_le0 k 12 21 0) (ab_le0 k 13 12 0)) (ab_br k 15 (ab_le0 k 14 18 0) (ab_le0 k 15 45 0))))) (ab_br k 24 (ab_br k 20 (ab_br k 18 (ab_br k 17 (ab_le0 k 16 21 0) (ab_le0 k 17 21 0)) (ab_br k 19 (ab_le0 k 18 30 0) (ab_le0 k 19 62 0))) (ab_br k 22 (ab_br k 21 (ab_le0 k 20 53 0) (ab_le0 k 21 77 0)) (ab_br k 23 (ab_le0 k 22 17 0) (ab_le0 k 23 55 0)))) (ab_br k 28 (ab_br k 26 (ab_br k 25 (ab_le0 k 24 181 0) (ab_le0 k 25 93 0)) (ab_br k 27 (ab_le0 k 26 86 0) (ab_le0 k 27 71 0))) (ab_br k 30 (ab_br k 29 (ab_le0 k 28 39 0) (ab_le0 k 29 25 0)) (ab_br k 31 (ab_le0 k 30 29 0) (ab_br k 32 (ab_le0 k 31 85 0) (ab_le0 k 32 26 0))))))) (ab_br k 50 (ab_br k 41 (ab_br k 37 (ab_br k 35 (ab_br k 34 (ab_le0 k 33 28 0) (ab_le0 k 34 28 0)) (ab_br k 36 (ab_le0 k 35 16 0) (ab_le0 k 36 83 0))) (ab_br k 39 (ab_br k 38 (ab_le0 k 37 12 0) (ab_le0 k 38 33 0)) (ab_br k 40 (ab_le0 k 39 15 0) (ab_le0 k 40 31 0)))) (ab_br k 45 (ab_br k 43 (ab_br k 42 (ab_le0 k 41 22 0) (ab_le0 k 42 24 0)) (ab_br k 44 (ab_le0 k 43 56 0) (ab_le0 k 44 181 0))) (ab_br k 47 (ab_br k 46 (ab_le0 k 45 42 0) (ab_le0 k 46 75 0)) (ab_br k 48 (ab_le0 k 47 101 0) (ab_br k 49 (ab_le0 k 48 84 0) (ab_le0 k 49 70 0)))))) (ab_br k 58 (ab_br k 54 (ab_br k 52 (ab_br k 51 (ab_le0 k 50 100 0) (ab_le0 k 51 73 0)) (ab_br k 53 (ab_le0 k 52 160 0) (ab_le0 k 53 51 0))) (ab_br k 56 (ab_br k 55 (ab_le0 k 54 38 0) (ab_le0 k 55 80 0)) (ab_br k 57 (ab_le0 k 56 41 0) (ab_le0 k 57 48 0)))) (ab_br k 62 (ab_br k 60 (ab_br k 59 (ab_le0 k 58 59 0) (ab_le0 k 59 38 0)) (ab_br k 61 (ab_le0 k 60 39 0) (ab_le0 k 61 14 0))) (ab_br k 64 (ab_br k 63 (ab_le0 k 62 33 0) (ab_le0 k 63 24 0)) (ab_br k 65 (ab_le0 k 64 112 0) (ab_br k 66 (ab_le0 k 65 60 0) (ab_le0 k 66 399 0)))))))) (ab_br k 100 (ab_br k 83 (ab_br k 75 (ab_br k 71 (ab_br k 69 (ab_br k 68 (ab_le0 k 67 45 0) (ab_le0 k 68 90 0)) (ab_br k 70 (ab_le0 k 69 100 0) (ab_le0 k 70 78 0))) (ab_br k 73 (ab_br k 72 (ab_le0 k 71 154 0) (ab_le0 k 72 160 0)) (ab_br k 74 (ab_le0 k 73 244 0) (ab_le0 k 74 5 0)))) (ab_br k 79 (ab_br k 77 (ab_br k 76 (ab_le0 k 75 161 0) (ab_le0 k 76 80 0)) (ab_br k 78 (ab_le0 k 77 17 0) (ab_le0 k 78 25 0))) (ab_br k 81 (ab_br k 80 (ab_le0 k 79 22 0) (ab_le0 k 80 18 0)) (ab_br k 82 (ab_le0 k 81 67 0) (ab_le0 k 82 95 0))))) (ab_br k 91 (ab_br k 87 (ab_br k 85 (ab_br k 84 (ab_le0 k 83 31 0) (ab_le0 k 84 209 0)) (ab_br k 86 (ab_le0 k 85 96 0) (ab_le0 k 86 41 0))) (ab_br k 89 (ab_br k 88 (ab_le0 k 87 90 0) (ab_le0 k 88 88 0)) (ab_br k 90 (ab_le0 k 89 101 0) (ab_le0 k 90 96 0)))) (ab_br k 95 (ab_br k 93 (ab_br k 92 (ab_le0 k 91 62 0) (ab_le0 k 92 128 0)) (ab_br k 94 (ab_le0 k 93 334 0) (ab_le0 k 94 219 0))) (ab_br k 97 (ab_br k 96 (ab_le0 k 95 145 0) (ab_le0 k 96 373 0)) (ab_br k 98 (ab_le0 k 97 44 0) (ab_br k 99 (ab_le0 k 98 80 0) (ab_le0 k 99 112 0))))))) (ab_br k 117 (ab_br k 108 (ab_br k 104 (ab_br k 102 (ab_br k 101 (ab_le0 k 100 49 0) (ab_le0 k 101 42 0)) (ab_br k 103 (ab_le0 k 102 378 0) (ab_le0 k 103 55 0))) (ab_br k 106 (ab_br k 105 (ab_le0 k 104 80 0) (ab_le0 k 105 32 0)) (ab_br k 107 (ab_le0 k 106 45 0) (ab_le0 k 107 19 0)))) (ab_br k 112 (ab_br k 110 (ab_br k 109 (ab_le0 k 108 19 0) (ab_le0 k 109 19 0)) (ab_br k 111 (ab_le0 k 110 32 0) (ab_le0 k 111 105 0))) (ab_br k 114 (ab_br k 113 (ab_le0 k 112 29 0) (ab_le0 k 113 184 0)) (ab_br k 115 (ab_le0 k 114 157 0) (ab_br k 116 (ab_le0 k 115 400 0) (ab_le0 k 116 54 0)))))) (ab_br k 125 (ab_br k 121 (ab_br k 119 (ab_br k 118 (ab_le0 k 117 364 0) (ab_le0 k 118 160 0)) (ab_br k 120 (ab_le0 k 119 60 0) (ab_le0 k 120 91 0))) (ab_br k 123 (ab_br k 122 (ab_le0 k 121 24 0) (ab_le0 k 122 20 0)) (ab_br k 124 (ab_le0 k 123 24 0) (ab_le0 k 124 16 0)))) (ab_br k 129 (ab_br k 127 (ab_br k 126 (ab_le0 k 125 20 0) (ab_le0 k 126 19 0)) (ab_br k 128 (ab_le0 k 127 20 0) (ab_le0 k 128 23 0))) (ab_br k 131 (ab_br k 130 (ab_le0 k 129 33 0) (ab_le0 k 130 38 0)) (ab_br k 132 (ab_le0 k 131 53 0) (ab_br k 133 (ab_le0 k 132 21 0) (ab_le0 k 133 777 0)))))))))
def ab_ins (k i : Nat) : Option (Instr × Nat × Nat × Nat) := bif Nat.blt k (ab_M + 1) && Nat.blt i (ab_sz k) then ab_int k i else none
def ab_msk (k i : Nat) : List Bool := (ab_br k 75 (ab_br k 48 (ab_br k 29 (ab_br k 21 (ab_br k 15 (ab_br k 14 (ab_le0 k 1 (ab_le0 i 20 [true, true, true, true] []) []) (ab_le0 k 14 (ab_br i 17 (ab_le0 i 16 [false] []) (ab_le0 i 17 [false] [])) [])) (ab_br k 16 (ab_le0 k 15 (ab_le0 i 2 [true, true, false] []) []) (ab_br k 18 (ab_le0 k 16 (ab_le0 i 10 [false] []) []) (ab_le0 k 18 (ab_le0 i 19 [false, false] []) [])))) (ab_br k 25 (ab_br k 23 (ab_le0 k 21 (ab_br i 27 (ab_le0 i 22 [false, false, false, false, false] []) (ab_le0 i 27 [true, true, false, true, true] [])) []) (ab_br k 24 (ab_le0 k 23 (ab_br i 42 (ab_le0 i 41 [true] []) (ab_br i 50 (ab_le0 i 42 [true] []) (ab_le0 i 50 [true] []))) []) (ab_le0 k 24 (ab_br i 101 (ab_br i 99 (ab_le0 i 26 [false, false, false, false, false, false, false, false] []) (ab_le0 i 99 [false, false, false, false, false, false, false, false] [])) (ab_br i 165 (ab_le0 i 101 [true, true, true, true, true, false, false, false] []) (ab_br i 166 (ab_le0 i 165 [true, false, true, false, false, false, false, false] []) (ab_le0 i 166 [true, false, true, false, false, false, false, false] [])))) []))) (ab_br k 27 (ab_le0 k 25 (ab_br i 49 (ab_le0 i 26 [true, false, false, false, false, false] []) (ab_le0 i 49 [true, false, true, true, false, true] [])) []) (ab_br k 28 (ab_le0 k 27 (ab_br i 52 (ab_le0 i 20 [true, true, false, true, true] []) (ab_le0 i 52 [true, true, false, true, true] [])) []) (ab_le0 k 28 (ab_le0 i 13 [true, true, false, true, true] []) []))))) (ab_br k 40 (ab_br k 34 (ab_br k 30 (ab_le0 k 29 (ab_br i 24 (ab_le0 i 19 [false, false] []) (ab_le0 i 24 [false, false] [])) []) (ab_br k 33 (ab_le0 k 30 (ab_le0 i 28 [false, false] []) []) (ab_le0 k 33 (ab_br i 27 (ab_le0 i 22 [false, false] []) (ab_le0 i 27 [false, false] [])) []))) (ab_br k 36 (ab_le0 k 34 (ab_br i 27 (ab_le0 i 22 [false, false] []) (ab_le0 i 27 [false, false] [])) []) (ab_br k 38 (ab_le0 k 36 (ab_le0 i 60 [true, false, false] []) []) (ab_le0 k 38 (ab_br i 31 (ab_le0 i 4 [true, false, true, true] []) (ab_le0 i 31 [false, false, true, false] [])) [])))) (ab_br k 44 (ab_br k 42 (ab_le0 k 40 (ab_le0 i 30 [false] []) []) (ab_br k 43 (ab_le0 k 42 (ab_br i 23 (ab_le0 i 22 [false] []) (ab_le0 i 23 [false] [])) []) (ab_le0 k 43 (ab_br i 54 (ab_le0 i 10 [true, true, true, true, true, false] []) (ab_le0 i 54 [false, false, false, true, false, false] [])) []))) (ab_br k 45 (ab_le0 k 44 (ab_br i 160 (ab_br i 127 (ab_le0 i 28 [true, true, true, false] []) (ab_le0 i 127 [true, false, false, true] [])) (ab_br i 164 (ab_le0 i 160 [true, false, false, true] []) (ab_le0 i 164 [true, false, false, true] []))) []) (ab_br k 47 (ab_le0 k 45 (ab_br i 19 (ab_le0 i 18 [true, true, true, false] []) (ab_le0 i 19 [true, true, true, false] [])) []) (ab_le0 k 47 (ab_br i 55 (ab_le0 i 17 [true, true, true] []) (ab_le0 i 55 [true, true, false] [])) [])))))) (ab_br k 59 (ab_br k 53 (ab_br k 50 (ab_br k 49 (ab_le0 k 48 (ab_le0 i 83 [false, false, false] []) []) (ab_le0 k 49 (ab_br i 59 (ab_le0 i 18 [true, true, true, true] []) (ab_br i 69 (ab_le0 i 59 [false, true, true, false] []) (ab_le0 i 69 [false, false, false, false] []))) [])) (ab_br k 51 (ab_le0 k 50 (ab_br i 89 (ab_le0 i 73 [true, false, false, true] []) (ab_le0 i 89 [true, false, false, false] [])) []) (ab_br k 52 (ab_le0 k 51 (ab_br i 46 (ab_le0 i 41 [true, true] []) (ab_le0 i 46 [true, true] [])) []) (ab_le0 k 52 (ab_br i 89 (ab_le0 i 10 [true, true, true, true, false, false, false] []) (ab_br i 151 (ab_le0 i 89 [true, true, true, true, false, true, true] []) (ab_le0 i 151 [true, false, true, false, false, false, false] []))) [])))) (ab_br k 56 (ab_br k 54 (ab_le0 k 53 (ab_le0 i 35 [true, true, false, true] []) []) (ab_br k 55 (ab_le0 k 54 (ab_le0 i 26 [true, true] []) []) (ab_le0 k 55 (ab_br i 68 (ab_le0 i 64 [true, false, false, false, false, false] []) (ab_br i 69 (ab_le0 i 68 [true, false, false, false, false, false] []) (ab_le0 i 69 [true, false, false, false, false, false] []))) []))) (ab_br k 57 (ab_le0 k 56 (ab_le0 i 15 [true, true] []) []) (ab_br k 58 (ab_le0 k 57 (ab_br i 46 (ab_le0 i 15 [true, false, true, true, true, true] []) (ab_le0 i 46 [false, false, false, true, false, false] [])) []) (ab_le0 k 58 (ab_br i 49 (ab_le0 i 5 [true, true, true, true, true] []) (ab_br i 51 (ab_le0 i 49 [true, true, true, false, true] []) (ab_le0 i 51 [true, true, true, true, true] []))) []))))) (ab_br k 67 (ab_br k 64 (ab_br k 60 (ab_le0 k 59 (ab_br i 30 (ab_le0 i 2 [true, true, true] []) (ab_le0 i 30 [true, true, true] [])) []) (ab_br k 61 (ab_le0 k 60 (ab_br i 31 (ab_le0 i 2 [true, true, true] []) (ab_le0 i 31 [true, true, true] [])) []) (ab_le0 k 61 (ab_le0 i 13 [false, false] []) []))) (ab_br k 65 (ab_le0 k 64 (ab_br i 93 (ab_le0 i 91 [true, false, false, false, true, true, false, false] []) (ab_br i 111 (ab_le0 i 93 [true, false, false, false, true, true, false, false] []) (ab_le0 i 111 [false, false, false, false, false, false, false, false] []))) []) (ab_br k 66 (ab_le0 k 65 (ab_br i 58 (ab_le0 i 15 [true, true, false, true, true, true, true] []) (ab_le0 i 58 [false, false, false, false, false, false, false] [])) []) (ab_le0 k 66 (ab_br i 264 (ab_br i 193 (ab_br i 164 (ab_le0 i 152 [false, false, false, false, false, false] []) (ab_br i 192 (ab_le0 i 164 [false, false, false, false, false, false] []) (ab_le0 i 192 [false, false, false, false, false, false] []))) (ab_br i 222 (ab_br i 221 (ab_le0 i 193 [false, false, false, false, false, false] []) (ab_le0 i 221 [false, false, false, false, false, false] [])) (ab_br i 263 (ab_le0 i 222 [false, false, false, false, false, false] []) (ab_le0 i 263 [false, false, false, false, false, false] [])))) (ab_br i 325 (ab_br i 294 (ab_le0 i 264 [false, false, false, false, false, false] []) (ab_br i 295 (ab_le0 i 294 [false, false, false, false, false, false] []) (ab_le0 i 295 [false, false, false, false, false, false] []))) (ab_br i 379 (ab_br i 326 (ab_le0 i 325 [false, false, false, false, false, false] []) (ab_le0 i 326 [false, false, false, false, false, false] [])) (ab_br i 380 (ab_le0 i 379 [false, false, false, false, false, false] []) (ab_le0 i 380 [false, false, false, false, false, false] []))))) [])))) (ab_br k 70 (ab_br k 68 (ab_le0 k 67 (ab_br i 44 (ab_le0 i 43 [false, false, false, false] []) (ab_le0 i 44 [false, false, false, false] [])) []) (ab_br k 69 (ab_le0 k 68 (ab_le0 i 40 [true, true, true, false, true, true, true] []) []) (ab_le0 k 69 (ab_br i 87 (ab_br i 72 (ab_le0 i 22 [true, true, false, false, true, true, true, true, true, false] []) (ab_le0 i 72 [true, true, false, false, true, true, true, true, true, false] [])) (ab_br i 99 (ab_le0 i 87 [false, false, false, false, false, true, true, false, false, false] []) (ab_le0 i 99 [false, false, false, false, false, false, false, false, false, false] []))) []))) (ab_br k 71 (ab_le0 k 70 (ab_br i 22 (ab_le0 i 14 [true, true, true, true, true, true, false, false, false] []) (ab_br i 75 (ab_le0 i 22 [true, true, true, false, true, true, true, true, true] []) (ab_le0 i 75 [false, false, false, false, false, false, false, true, false] []))) []) (ab_br k 72 (ab_le0 k 71 (ab_br i 126 (ab_br i 83 (ab_le0 i 22 [true, true, true, false, true, true, true, true, false, true, false] []) (ab_br i 89 (ab_le0 i 83 [false, true, true, false, false, false, false, true, false, false, false] []) (ab_le0 i 89 [false, true, false, false, false, false, false, true, false, true, true] []))) (ab_br i 141 (ab_le0 i 126 [false, true, false, false, false, false, false, true, false, true, true] []) (ab_br i 153 (ab_le0 i 141 [false, false, false, false, false, false, false, true, false, false, false] []) (ab_le0 i 153 [false, false, false, false, false, false, false, false, false, false, false] [])))) []) (ab_le0 k 72 (ab_br i 124 (ab_br i 121 (ab_le0 i 20 [true, true, false, true, true, true, false, true, true, false, true, true, false] []) (ab_le0 i 121 [true, true, false, true, true, true, false, true, false, false, true, true, true] [])) (ab_br i 142 (ab_le0 i 124 [true, true, false, true, true, true, false, true, true, false, true, true, true] []) (ab_br i 157 (ab_le0 i 142 [true, true, false, true, true, true, false, true, true, false, true, true, false] []) (ab_le0 i 157 [false, false, false, false, false, false, false, false, true, false, false, false, false] [])))) []))))))) (ab_br k 103 (ab_br k 91 (ab_br k 85 (ab_br k 78 (ab_br k 76 (ab_le0 k 75 (ab_br i 69 (ab_br i 45 (ab_br i 44 (ab_le0 i 12 [true, true, true, true, true, false] []) (ab_le0 i 44 [true, true, true, false, true, true] [])) (ab_br i 65 (ab_le0 i 45 [true, true, true, false, true, true] []) (ab_le0 i 65 [true, true, true, true, true, false] []))) (ab_br i 87 (ab_br i 73 (ab_le0 i 69 [true, true, true, true, true, false] []) (ab_le0 i 73 [true, true, true, true, true, false] [])) (ab_br i 112 (ab_le0 i 87 [true, true, false, true, true, false] []) (ab_br i 117 (ab_le0 i 112 [false, false, false, false, false, false] []) (ab_le0 i 117 [true, true, true, false, true, false] []))))) []) (ab_le0 k 76 (ab_br i 32 (ab_le0 i 27 [false, false, false, false, false] []) (ab_le0 i 32 [true, true, false, true, true] [])) [])) (ab_br k 80 (ab_le0 k 78 (ab_le0 i 24 [false] []) []) (ab_br k 84 (ab_le0 k 80 (ab_br i 17 (ab_le0 i 16 [false] []) (ab_le0 i 17 [false] [])) []) (ab_le0 k 84 (ab_br i 104 (ab_br i 62 (ab_br i 40 (ab_le0 i 35 [true, false, false, false] []) (ab_le0 i 40 [true, false, false, false] [])) (ab_br i 75 (ab_le0 i 62 [true, false, false, false] []) (ab_le0 i 75 [true, true, false, false] []))) (ab_br i 166 (ab_br i 121 (ab_le0 i 104 [true, true, true, true] []) (ab_le0 i 121 [true, true, true, false] [])) (ab_br i 193 (ab_le0 i 166 [true, true, true, false] []) (ab_br i 208 (ab_le0 i 193 [true, true, true, false] []) (ab_le0 i 208 [false, false, false, false] []))))) [])))) (ab_br k 88 (ab_br k 86 (ab_le0 k 85 (ab_le0 i 95 [false, false] []) []) (ab_br k 87 (ab_le0 k 86 (ab_br i 31 (ab_le0 i 4 [true, true, true] []) (ab_br i 32 (ab_le0 i 31 [true, false, true] []) (ab_le0 i 32 [true, false, true] []))) []) (ab_le0 k 87 (ab_br i 76 (ab_br i 71 (ab_le0 i 11 [true, true, true, true] []) (ab_le0 i 71 [false, true, true, false] [])) (ab_br i 89 (ab_le0 i 76 [false, true, true, false] []) (ab_le0 i 89 [false, false, false, false] []))) []))) (ab_br k 89 (ab_le0 k 88 (ab_le0 i 86 [false, false, true] []) []) (ab_br k 90 (ab_le0 k 89 (ab_br i 67 (ab_br i 48 (ab_le0 i 15 [true, true, false] []) (ab_le0 i 48 [true, true, false] [])) (ab_br i 72 (ab_le0 i 67 [true, true, false] []) (ab_le0 i 72 [true, true, false] []))) []) (ab_le0 k 90 (ab_br i 65 (ab_le0 i 60 [true, true, true] []) (ab_br i 84 (ab_le0 i 65 [true, true, true] []) (ab_le0 i 84 [true, true, false] []))) []))))) (ab_br k 97 (ab_br k 94 (ab_br k 92 (ab_le0 k 91 (ab_le0 i 61 [false] []) []) (ab_br k 93 (ab_le0 k 92 (ab_br i 91 (ab_le0 i 51 [true, false, false] []) (ab_br i 118 (ab_le0 i 91 [true, false, true] []) (ab_le0 i 118 [true, false, true] []))) []) (ab_le0 k 93 (ab_br i 132 (ab_br i 65 (ab_br i 38 (ab_le0 i 17 [true, true, false, false] []) (ab_le0 i 38 [true, true, false, false] [])) (ab_br i 103 (ab_le0 i 65 [true, true, false, false] []) (ab_br i 121 (ab_le0 i 103 [true, false, false, false] []) (ab_le0 i 121 [true, false, false, false] [])))) (ab_br i 240 (ab_br i 228 (ab_le0 i 132 [false, false, false, false] []) (ab_br i 229 (ab_le0 i 228 [true, false, false, false] []) (ab_le0 i 229 [true, false, false, false] []))) (ab_br i 268 (ab_le0 i 240 [true, false, true, false] []) (ab_br i 332 (ab_le0 i 268 [true, false, false, false] []) (ab_le0 i 332 [false, false, false, false] []))))) []))) (ab_br k 95 (ab_le0 k 94 (ab_br i 162 (ab_br i 90 (ab_br i 52 (ab_le0 i 2 [true, true, false] []) (ab_le0 i 52 [true, false, false] [])) (ab_br i 115 (ab_le0 i 90 [false, false, false] []) (ab_br i 130 (ab_le0 i 115 [true, true, true] []) (ab_le0 i 130 [true, true, true] [])))) (ab_br i 183 (ab_br i 180 (ab_le0 i 162 [true, true, false] []) (ab_le0 i 180 [true, true, false] [])) (ab_br i 209 (ab_le0 i 183 [true, false, false] []) (ab_br i 214 (ab_le0 i 209 [false, false, false] []) (ab_le0 i 214 [false, false, false] []))))) []) (ab_br k 96 (ab_le0 k 95 (ab_br i 123 (ab_br i 99 (ab_br i 74 (ab_le0 i 73 [true, false, false, false] []) (ab_le0 i 74 [true, false, true, false] [])) (ab_br i 104 (ab_le0 i 99 [true, false, false, false] []) (ab_le0 i 104 [true, false, false, false] []))) (ab_br i 128 (ab_br i 127 (ab_le0 i 123 [true, false, false, false] []) (ab_le0 i 127 [true, false, false, false] [])) (ab_br i 132 (ab_le0 i 128 [true, false, false, false] []) (ab_br i 144 (ab_le0 i 132 [true, false, false, false] []) (ab_le0 i 144 [false, false, false, false] []))))) []) (ab_le0 k 96 (ab_br i 220 (ab_br i 139 (ab_br i 27 (ab_le0 i 11 [true, true, false, false, false, false, false, false] []) (ab_br i 97 (ab_le0 i 27 [true, true, false, false, false, false, false, false] []) (ab_le0 i 97 [true, true, true, true, false, false, false, false] []))) (ab_br i 192 (ab_le0 i 139 [true, false, false, true, true, false, false, false] []) (ab_br i 197 (ab_le0 i 192 [true, false, false, true, true, true, false, false] []) (ab_le0 i 197 [true, false, false, true, true, true, false, false] [])))) (ab_br i 280 (ab_br i 225 (ab_le0 i 220 [true, false, false, true, true, true, true, false] []) (ab_br i 273 (ab_le0 i 225 [true, false, false, true, true, true, true, false] []) (ab_le0 i 273 [true, false, false, true, true, false, false, true] []))) (ab_br i 313 (ab_le0 i 280 [true, false, false, true, true, false, false, true] []) (ab_br i 345 (ab_le0 i 313 [true, false, false, true, true, false, false, false] []) (ab_le0 i 345 [true, false, false, true, true, false, false, false] []))))) [])))) (ab_br k 100 (ab_br k 98 (ab_le0 k 97 (ab_br i 16 (ab_le0 i 11 [true, true, false] []) (ab_le0 i 16 [true, true, false] [])) []) (ab_br k 99 (ab_le0 k 98 (ab_br i 64 (ab_br i 15 (ab_le0 i 5 [true, false, true, true, true, false] []) (ab_le0 i 15 [true, false, true, true, true, true] [])) (ab_br i 66 (ab_le0 i 64 [true, false, true, false, true, true] []) (ab_le0 i 66 [true, false, true, true, true, true] []))) []) (ab_le0 k 99 (ab_br i 55 (ab_br i 26 (ab_le0 i 10 [false, false, false, false, false] []) (ab_le0 i 26 [true, false, true, true, true] [])) (ab_br i 64 (ab_le0 i 55 [true, false, true, true, true] []) (ab_br i 104 (ab_le0 i 64 [true, false, true, true, true] []) (ab_le0 i 104 [true, false, true, true, true] [])))) []))) (ab_br k 101 (ab_le0 k 100 (ab_br i 47 (ab_le0 i 13 [true, true, true, true] []) (ab_le0 i 47 [false, false, true, false] [])) []) (ab_br k 102 (ab_le0 k 101 (ab_le0 i 41 [false] []) []) (ab_le0 k 102 (ab_br i 257 (ab_br i 109 (ab_br i 37 (ab_le0 i 11 [true, true, true, true, false, false, false, false, false, false, false, false] []) (ab_br i 107 (ab_le0 i 37 [false, false, false, false, false, false, false, false, false, false, false, false] []) (ab_le0 i 107 [false, false, false, false, false, false, false, false, false, false, false, false] []))) (ab_br i 126 (ab_br i 121 (ab_le0 i 109 [true, true, true, true, true, true, true, false, false, false, false, false] []) (ab_le0 i 121 [true, true, true, true, true, false, true, false, false, false, false, false] [])) (ab_br i 227 (ab_le0 i 126 [true, true, true, true, true, false, true, true, false, true, false, false] []) (ab_le0 i 227 [true, true, true, true, true, false, false, true, false, true, false, false] [])))) (ab_br i 303 (ab_br i 259 (ab_le0 i 257 [false, false, false, false, false, false, false, false, false, false, false, false] []) (ab_br i 265 (ab_le0 i 259 [true, true, true, true, true, false, false, true, false, true, false, false] []) (ab_le0 i 265 [true, true, true, true, true, false, false, true, false, true, false, false] []))) (ab_br i 361 (ab_br i 360 (ab_le0 i 303 [true, true, true, true, false, false, false, false, false, true, false, false] []) (ab_le0 i 360 [true, true, true, false, false, false, false, false, false, false, false, false] [])) (ab_br i 377 (ab_le0 i 361 [true, true, true, true, false, false, false, false, false, false, false, false] []) (ab_le0 i 377 [false, false, false, false, false, false, false, false, false, false, false, false] []))))) [])))))) (ab_br k 115 (ab_br k 109 (ab_br k 106 (ab_br k 104 (ab_le0 k 103 (ab_br i 45 (ab_le0 i 5 [true, true, true, true, true] []) (ab_br i 46 (ab_le0 i 45 [true, true, true, false, true] []) (ab_le0 i 46 [true, true, true, false, true] []))) []) (ab_br k 105 (ab_le0 k 104 (ab_br i 42 (ab_br i 12 (ab_le0 i 11 [true, false, true, false] []) (ab_le0 i 12 [true, false, true, true] [])) (ab_br i 74 (ab_le0 i 42 [true, false, true, false] []) (ab_le0 i 74 [true, false, true, false] []))) []) (ab_le0 k 105 (ab_br i 31 (ab_le0 i 13 [true] []) (ab_le0 i 31 [false] [])) []))) (ab_br k 107 (ab_le0 k 106 (ab_br i 29 (ab_le0 i 24 [true, false] []) (ab_br i 44 (ab_le0 i 29 [true, false] []) (ab_le0 i 44 [false, false] []))) []) (ab_br k 108 (ab_le0 k 107 (ab_le0 i 18 [false, false] []) []) (ab_le0 k 108 (ab_le0 i 18 [false, false] []) [])))) (ab_br k 112 (ab_br k 110 (ab_le0 k 109 (ab_le0 i 18 [false, false] []) []) (ab_br k 111 (ab_le0 k 110 (ab_br i 31 (ab_le0 i 30 [false, false, false, false] []) (ab_le0 i 31 [false, false, false, false] [])) []) (ab_le0 k 111 (ab_br i 39 (ab_br i 34 (ab_le0 i 33 [true, true, true, true, false, false] []) (ab_le0 i 34 [true, true, true, true, false, false] [])) (ab_br i 94 (ab_le0 i 39 [true, true, true, true, true, true] []) (ab_br i 102 (ab_le0 i 94 [true, true, true, true, false, true] []) (ab_le0 i 102 [false, false, false, false, true, false] [])))) []))) (ab_br k 113 (ab_le0 k 112 (ab_le0 i 28 [false, false] []) []) (ab_br k 114 (ab_le0 k 113 (ab_br i 114 (ab_br i 53 (ab_br i 48 (ab_le0 i 16 [true, true, false, true, true, true, true, false, false] []) (ab_le0 i 48 [true, true, false, true, true, false, true, false, false] [])) (ab_br i 58 (ab_le0 i 53 [true, true, false, true, true, false, true, false, false] []) (ab_br i 99 (ab_le0 i 58 [true, true, false, true, true, false, true, true, true] []) (ab_le0 i 99 [true, true, false, true, true, false, true, true, true] [])))) (ab_br i 162 (ab_br i 143 (ab_le0 i 114 [true, true, false, true, true, false, true, false, true] []) (ab_br i 148 (ab_le0 i 143 [true, true, false, true, true, false, true, false, false] []) (ab_le0 i 148 [true, true, false, true, true, false, true, false, false] []))) (ab_br i 182 (ab_le0 i 162 [true, true, false, false, true, true, false, false, false] []) (ab_br i 183 (ab_le0 i 182 [false, false, false, false, false, false, false, false, false] []) (ab_le0 i 183 [false, false, false, false, false, false, false, false, false] []))))) []) (ab_le0 k 114 (ab_br i 109 (ab_br i 104 (ab_br i 54 (ab_le0 i 41 [false, false, false, false, false, false, false, false, false] []) (ab_le0 i 54 [true, false, true, true, true, true, true, false, false] [])) (ab_br i 108 (ab_le0 i 104 [true, false, true, true, true, true, true, true, false] []) (ab_le0 i 108 [true, false, true, true, true, true, true, true, false] []))) (ab_br i 139 (ab_br i 135 (ab_le0 i 109 [true, false, true, true, true, true, true, true, false] []) (ab_le0 i 135 [true, false, true, true, true, false, true, false, false] [])) (ab_br i 140 (ab_le0 i 139 [true, false, true, true, true, false, true, false, false] []) (ab_le0 i 140 [true, false, true, true, true, false, true, false, false] [])))) []))))) (ab_br k 121 (ab_br k 118 (ab_br k 116 (ab_le0 k 115 (ab_br i 198 (ab_br i 111 (ab_br i 38 (ab_br i 26 (ab_le0 i 3 [true, true, true, true, true, false, false, false, false, false] []) (ab_le0 i 26 [true, true, true, true, true, false, false, false, false, false] [])) (ab_br i 52 (ab_le0 i 38 [true, true, true, true, true, false, false, false, false, false] []) (ab_br i 84 (ab_le0 i 52 [true, true, true, true, true, true, false, false, false, false] []) (ab_le0 i 84 [true, true, true, true, true, true, true, false, false, false] [])))) (ab_br i 164 (ab_br i 116 (ab_le0 i 111 [true, true, true, true, true, true, true, false, false, false] []) (ab_br i 121 (ab_le0 i 116 [true, true, true, true, true, true, true, false, false, false] []) (ab_le0 i 121 [true, true, true, true, true, true, true, true, true, false] []))) (ab_br i 168 (ab_le0 i 164 [true, true, true, true, true, true, true, true, true, false] []) (ab_br i 169 (ab_le0 i 168 [true, true, true, true, true, true, true, true, true, false] []) (ab_le0 i 169 [true, true, true, true, true, true, true, true, true, false] []))))) (ab_br i 316 (ab_br i 210 (ab_br i 203 (ab_le0 i 198 [true, true, true, true, true, true, true, true, true, false] []) (ab_le0 i 203 [true, true, true, true, true, true, true, true, true, false] [])) (ab_br i 231 (ab_le0 i 210 [true, true, true, true, true, true, true, false, false, false] []) (ab_br i 289 (ab_le0 i 231 [true, true, true, true, true, false, true, false, false, false] []) (ab_le0 i 289 [true, false, false, false, true, true, true, false, false, false] [])))) (ab_br i 384 (ab_br i 326 (ab_le0 i 316 [true, false, false, false, true, true, true, false, false, false] []) (ab_br i 352 (ab_le0 i 326 [true, false, false, false, false, true, true, false, false, false] []) (ab_le0 i 352 [true, false, false, false, true, false, true, true, false, false] []))) (ab_br i 388 (ab_le0 i 384 [true, false, false, false, true, false, false, true, false, false] []) (ab_br i 389 (ab_le0 i 388 [true, false, false, false, true, false, false, true, false, false] []) (ab_le0 i 389 [true, false, false, false, true, false, false, true, false, false] [])))))) []) (ab_br k 117 (ab_le0 k 116 (ab_br i 32 (ab_le0 i 11 [true, true, false, true, true, true] []) (ab_br i 37 (ab_le0 i 32 [true, true, false, true, false, true] []) (ab_le0 i 37 [true, true, false, true, false, true] []))) []) (ab_le0 k 117 (ab_br i 213 (ab_br i 141 (ab_br i 115 (ab_br i 103 (ab_le0 i 91 [false, false, false, false, false] []) (ab_le0 i 103 [false, false, false, false, false] [])) (ab_br i 140 (ab_le0 i 115 [false, false, false, false, false] []) (ab_le0 i 140 [false, false, false, false, false] []))) (ab_br i 167 (ab_br i 166 (ab_le0 i 141 [false, false, false, false, false] []) (ab_le0 i 166 [false, false, false, false, false] [])) (ab_br i 212 (ab_le0 i 167 [false, false, false, false, false] []) (ab_le0 i 212 [false, false, false, false, false] [])))) (ab_br i 264 (ab_br i 242 (ab_br i 241 (ab_le0 i 213 [false, false, false, false, false] []) (ab_le0 i 241 [false, false, false, false, false] [])) (ab_br i 263 (ab_le0 i 242 [false, false, false, false, false] []) (ab_le0 i 263 [false, false, false, false, false] []))) (ab_br i 304 (ab_br i 303 (ab_le0 i 264 [false, false, false, false, false] []) (ab_le0 i 303 [false, false, false, false, false] [])) (ab_br i 360 (ab_le0 i 304 [false, false, false, false, false] []) (ab_br i 361 (ab_le0 i 360 [false, false, false, false, false] []) (ab_le0 i 361 [false, false, false, false, false] [])))))) []))) (ab_br k 119 (ab_le0 k 118 (ab_br i 50 (ab_br i 14 (ab_le0 i 7 [true, true, true, false, false, false] []) (ab_br i 43 (ab_le0 i 14 [true, true, true, true, false, false] []) (ab_le0 i 43 [true, true, true, true, false, false] []))) (ab_br i 135 (ab_br i 74 (ab_le0 i 50 [true, true, true, true, true, false] []) (ab_le0 i 74 [true, true, true, true, true, true] [])) (ab_br i 141 (ab_le0 i 135 [true, true, true, true, true, true] []) (ab_le0 i 141 [true, true, true, true, true, false] [])))) []) (ab_br k 120 (ab_le0 k 119 (ab_br i 32 (ab_le0 i 28 [true, true] []) (ab_le0 i 32 [true, true] [])) []) (ab_le0 k 120 (ab_br i 55 (ab_br i 32 (ab_le0 i 28 [true, true, true] []) (ab_le0 i 32 [true, true, true] [])) (ab_br i 59 (ab_le0 i 55 [true, true, true] []) (ab_br i 63 (ab_le0 i 59 [true, true, true] []) (ab_le0 i 63 [true, true, true] [])))) [])))) (ab_br k 130 (ab_br k 123 (ab_le0 k 121 (ab_le0 i 15 [false, false, false, false] []) []) (ab_br k 129 (ab_le0 k 123 (ab_le0 i 15 [false, false, false, false] []) []) (ab_le0 k 129 (ab_le0 i 15 [false, false, false, false] []) []))) (ab_br k 132 (ab_le0 k 130 (ab_le0 i 16 [false, false, false, false, false] []) []) (ab_br k 133 (ab_le0 k 132 (ab_le0 i 5 [true, true, true, true] []) []) (ab_le0 k 133 (ab_br i 516 (ab_br i 273 (ab_br i 160 (ab_br i 154 (ab_le0 i 23 [true, true, true, true, true, false, false, false] []) (ab_le0 i 154 [true, true, true, true, true, false, false, false] [])) (ab_br i 216 (ab_le0 i 160 [true, true, true, true, true, false, false, false] []) (ab_le0 i 216 [true, true, true, true, true, false, false, false] []))) (ab_br i 405 (ab_br i 279 (ab_le0 i 273 [true, true, true, true, true, false, false, false] []) (ab_le0 i 279 [true, true, true, true, true, false, false, false] [])) (ab_br i 461 (ab_le0 i 405 [true, true, true, true, true, false, false, false] []) (ab_le0 i 461 [true, true, true, true, true, false, false, false] [])))) (ab_br i 691 (ab_br i 628 (ab_br i 572 (ab_le0 i 516 [true, true, true, true, true, false, false, false] []) (ab_le0 i 572 [true, true, true, true, true, false, false, false] [])) (ab_br i 685 (ab_le0 i 628 [true, true, true, true, true, false, false, false] []) (ab_le0 i 685 [true, true, true, true, true, false, false, false] []))) (ab_br i 766 (ab_br i 760 (ab_le0 i 691 [true, true, true, true, true, false, false, false] []) (ab_le0 i 760 [true, true, true, true, true, false, false, false] [])) (ab_br i 769 (ab_le0 i 766 [true, true, true, true, true, false, false, false] []) (ab_le0 i 769 [true, true, true, true, true, false, false, false] []))))) []))))))))
end
section
-- The abstract machine: values, stores, one instruction. (Tables ab_T, ab_N, ab_C, ab_own, ab_ins, ab_fld, ab_fin, ab_mth, ab_cls, ab_cst, ab_ret, ab_mxl, ab_md, ab_hnd, ab_msk stand before this.)
abbrev ab_V : Type := Int32 ⊕ (Int64 ⊕ Nat)
abbrev ab_L : Type := List (Option ab_V)
abbrev ab_S : Type := (Nat → Nat → Int32) × (Nat → Nat → Int64) × (Nat → Nat → Nat) × Nat × Nat × Nat
abbrev ab_O : Type := Nat × Int32 × Int64 × Nat
abbrev ab_R : Type := Option (ab_O × ab_S)
def ab_g {α : Type} (b : Bool) (x : Option α) : Option α := bif b then x else none
def ab_up {α : Type} (f : Nat → Nat → α) (o k : Nat) (v : α) : Nat → Nat → α := fun a b => if a = o ∧ b = k then v else f a b
def ab_wi (S : ab_S) (o k : Nat) (v : Int32) : ab_S := (ab_up S.1 o k v, S.2)
def ab_wl (S : ab_S) (o k : Nat) (v : Int64) : ab_S := (S.1, ab_up S.2.1 o k v, S.2.2)
def ab_wr (S : ab_S) (o k : Nat) (v : Nat) : ab_S := (S.1, S.2.1, ab_up S.2.2.1 o k v, S.2.2.2)
/-- a cell more of n slots that is no one's: an exception -/
def ab_wx (S : ab_S) : ab_S := (S.1, S.2.1, S.2.2.1, S.2.2.2.1, S.2.2.2.2.1 + 1, S.2.2.2.2.2 + 6)
/-- the next cell, of n slots -/
def ab_wn (S : ab_S) (n : Nat) : ab_S := (S.1, S.2.1, S.2.2.1, S.2.2.2.1 + 1, S.2.2.2.2.1 + 1, S.2.2.2.2.2 + n)
/-- n elements of an array into another -/
def ab_wc (S : ab_S) (a sp o dp n : Nat) : ab_S := (fun x k => if x = o ∧ dp ≤ k ∧ k < dp + n then S.1 a (sp + (k - dp)) else S.1 x k, S.2)
def ab_in (i : Int32) (n : Nat) : Bool := !decide (i < 0) && Nat.blt i.toNatClampNeg n
/-- what is copied are characters -/
def ab_cf (S : ab_S) (a sp n : Nat) : Bool := (List.range n).all fun i => fits .char (.int (S.1 a (sp + i)))
def ab_zb (x : Int32) : Bool := x == 0 || x == 1
def ab_nz (x : Int32) : Int32 := x &&& 1
def ab_nc (x : Int32) : Int32 := x.toUInt32.toUInt16.toUInt32.toInt32
def ab_tg (pc : Nat) (off : Int) : Nat := ((pc : Int) + off).toNat
/-- r is a cell of type code t that is there -/
def ab_ok (k : Nat) (S : ab_S) (r t : Nat) : Bool := Nat.beq (ab_T r) t && (Nat.blt 0 r && Nat.blt r (bif ab_md k then ab_C else S.2.2.2.1))
def ab_clr (L : ab_L) : Nat → ab_L
  | 0 => L
  | i + 1 => match L[i]? with
    | some (some (.inr (.inl _))) => L.set i none
    | _ => L
def ab_st1 (L : ab_L) (i : Nat) (v : ab_V) : ab_L := (ab_clr L i).set i (some v)
def ab_st2 (L : ab_L) (i : Nat) (v : ab_V) : ab_L := ((ab_clr L i).set i (some v)).set (i + 1) none
def ab_zip : List Bool → ab_L → ab_L
  | b :: bs, v :: vs => (bif b then v else none) :: ab_zip bs vs
  | _, vs => vs
def ab_exp : List ab_V → ab_L
  | [] => []
  | .inl x :: r => some (.inl x) :: ab_exp r
  | .inr (.inl x) :: r => some (.inr (.inl x)) :: none :: ab_exp r
  | .inr (.inr x) :: r => some (.inr (.inr x)) :: ab_exp r
def ab_ent (k : Nat) (vs : List ab_V) : ab_L := ab_exp vs ++ List.replicate (ab_mxl k - (ab_exp vs).length) none
def ab_push (t : Nat) (o : ab_O) (st : List ab_V) : List ab_V := match t with
  | 0 => st
  | 2 => .inr (.inl o.2.2.1) :: st
  | 3 => .inr (.inr o.2.2.2) :: st
  | _ => .inl o.2.1 :: st
def ab_cz {α : Type} (c : ClassFile.Cond) (x y : Int32) (a b : α) : α := match c with
  | .eq => if x = y then a else b
  | .ne => if x = y then b else a
  | .lt => if x < y then a else b
  | .ge => if x < y then b else a
  | .gt => if y < x then a else b
  | .le => if y < x then b else a
def ab_sw {α : Type} (x : Int32) (df : Nat) (f : Nat → α) : List (Int × Nat) → α
  | [] => f df
  | v :: r => if x = Int32.ofInt v.1 then f v.2 else ab_sw x df f r
def ab_tcs (pc : Nat) (lo : Int) (offs : Array Int) : List (Int × Nat) := offs.toList.zipIdx.map fun o => (lo + o.2, ab_tg pc o.1)
def ab_lcs (pc : Nat) (ps : Array (Int × Int)) : List (Int × Nat) := ps.toList.map fun o => (o.1, ab_tg pc o.2)
def ab_pi {α : Type} (st : List ab_V) (f : Int32 → List ab_V → Option α) : Option α := match st with
  | .inl x :: r => f x r
  | _ => none
def ab_pl {α : Type} (st : List ab_V) (f : Int64 → List ab_V → Option α) : Option α := match st with
  | .inr (.inl x) :: r => f x r
  | _ => none
def ab_pr {α : Type} (st : List ab_V) (f : Nat → List ab_V → Option α) : Option α := match st with
  | .inr (.inr x) :: r => f x r
  | _ => none
def ab_li {α : Type} (L : ab_L) (i : Nat) (f : Int32 → Option α) : Option α := match L[i]? with
  | some (some (.inl x)) => f x
  | _ => none
def ab_ll {α : Type} (L : ab_L) (i : Nat) (f : Int64 → Option α) : Option α := match L[i]? with
  | some (some (.inr (.inl x))) => f x
  | _ => none
def ab_lr {α : Type} (L : ab_L) (i : Nat) (f : Nat → Option α) : Option α := match L[i]? with
  | some (some (.inr (.inr x))) => f x
  | _ => none
/-- what a field read gives: an int, or a reference; a final one is known by its place -/
def ab_rd (k : Nat) (S : ab_S) (f : Nat × Nat × Nat) (r : Nat) : ab_V := match f.2.2 with
  | 2 => .inr (.inr (S.2.2.1 r f.2.1))
  | 3 => .inr (.inr (bif ab_md k then ab_fin f.1 f.2.1 r else S.2.2.1 r f.2.1))
  | _ => .inl (S.1 r f.2.1)
/-- the receiver's class -/
def ab_thk (k : Nat) (S : ab_S) (j : Nat) : List ab_V → Bool
  | .inr (.inr r) :: _ => ab_ok k S r (10 + ab_own j)
  | _ => false
/-- the final references are what they are known to be, and all cells are there -/
def ab_inv (S : ab_S) : Bool := Nat.beq S.2.2.2.1 ab_C && ab_finl.all fun e => Nat.beq (S.2.2.1 e.1 e.2.1) e.2.2
def ab_bd (x : ab_R) (f : ab_O × ab_S → ab_R) : ab_R := match x with
  | none => none
  | some r => f r
/-- an exception comes out of a call: caught, or it goes on -/
def ab_th (k : Nat) (r : ab_O × ab_S) : ab_R := match ab_hnd k r.1.1 with
  | none => bif ab_hh k then none else some r
  | some v => some ((0, v, 0, 0), r.2)
/-- a call: kind, method, how many values -/
def ab_do (k pc : Nat) (K : Nat → ab_L → List ab_V → ab_S → ab_R) (C : Nat → ab_L → ab_S → ab_R) (L : ab_L) (st : List ab_V) (S : ab_S) (j n : Nat) : ab_R :=
  ab_g (Nat.ble n st.length && (Nat.ble (st.drop n).length 8 && (Nat.ble (ab_exp (st.take n).reverse).length (ab_mxl j) && (bif ab_md k then ab_md j else (!ab_md j || ab_inv S))))) <|
    ab_bd (C j (ab_ent j (st.take n).reverse) S) fun r => if r.1.1 = 0 then K (pc + 3) L (ab_push (ab_ret j) r.1 (st.drop n)) r.2 else ab_th k r
/-- one instruction -/
def ab_ex (q k pc : Nat) (K : Nat → ab_L → List ab_V → ab_S → ab_R) (C : Nat → ab_L → ab_S → ab_R) (L : ab_L) (st : List ab_V) (S : ab_S) (i : Instr) (f : Nat × Nat × Nat) : ab_R := match i with
  | .iconst n => K (pc + 1) L (.inl (Int32.ofInt n) :: st) S
  | .bipush n => K (pc + 2) L (.inl (Int8.ofInt n).toInt32 :: st) S
  | .sipush n => K (pc + 3) L (.inl (Int16.ofInt n).toInt32 :: st) S
  | .lconst n => K (pc + 1) L (.inr (.inl (Int64.ofNat n)) :: st) S
  | .ldc2_w i => match ab_cst (ab_own k) i with
    | none => none
    | some v => K (pc + 3) L (.inr (.inl v) :: st) S
  | .ldc_w i => match ab_csi (ab_own k) i with
    | none => none
    | some v => K (pc + 3) L (.inl v :: st) S
  | .iload i => ab_li L i fun x => K (pc + 2) L (.inl x :: st) S
  | .iload_n i => ab_li L i fun x => K (pc + 1) L (.inl x :: st) S
  | .lload i => ab_ll L i fun x => K (pc + 2) L (.inr (.inl x) :: st) S
  | .lload_n i => ab_ll L i fun x => K (pc + 1) L (.inr (.inl x) :: st) S
  | .aload i => ab_lr L i fun x => K (pc + 2) L (.inr (.inr x) :: st) S
  | .aload_n i => ab_lr L i fun x => K (pc + 1) L (.inr (.inr x) :: st) S
  | .istore i => ab_pi st fun x st => ab_g (Nat.blt i L.length) (K (pc + 2) (ab_st1 L i (.inl x)) st S)
  | .istore_n i => ab_pi st fun x st => ab_g (Nat.blt i L.length) (K (pc + 1) (ab_st1 L i (.inl x)) st S)
  | .lstore i => ab_pl st fun x st => ab_g (Nat.blt (i + 1) L.length) (K (pc + 2) (ab_st2 L i (.inr (.inl x))) st S)
  | .lstore_n i => ab_pl st fun x st => ab_g (Nat.blt (i + 1) L.length) (K (pc + 1) (ab_st2 L i (.inr (.inl x))) st S)
  | .astore i => ab_pr st fun x st => ab_g (Nat.blt i L.length) (K (pc + 2) (ab_st1 L i (.inr (.inr x))) st S)
  | .astore_n i => ab_pr st fun x st => ab_g (Nat.blt i L.length) (K (pc + 1) (ab_st1 L i (.inr (.inr x))) st S)
  | .iinc i n => ab_li L i fun x => K (pc + 3) (ab_st1 L i (.inl (x + Int32.ofInt n))) st S
  | .iadd => ab_pi st fun y st => ab_pi st fun x st => K (pc + 1) L (.inl (x + y) :: st) S
  | .isub => ab_pi st fun y st => ab_pi st fun x st => K (pc + 1) L (.inl (x - y) :: st) S
  | .imul => ab_pi st fun y st => ab_pi st fun x st => K (pc + 1) L (.inl (x * y) :: st) S
  | .iand => ab_pi st fun y st => ab_pi st fun x st => K (pc + 1) L (.inl (x &&& y) :: st) S
  | .ior => ab_pi st fun y st => ab_pi st fun x st => K (pc + 1) L (.inl (x ||| y) :: st) S
  | .ishl => ab_pi st fun y st => ab_pi st fun x st => K (pc + 1) L (.inl (x <<< (y &&& 31)) :: st) S
  | .ishr => ab_pi st fun y st => ab_pi st fun x st => K (pc + 1) L (.inl (x >>> (y &&& 31)) :: st) S
  | .iushr => ab_pi st fun y st => ab_pi st fun x st => K (pc + 1) L (.inl (x.toUInt32 >>> (y.toUInt32 &&& Int32.toUInt32 31)).toInt32 :: st) S
  | .idiv => ab_pi st fun y st => ab_pi st fun x st => ab_g (!(y == 0)) (K (pc + 1) L (.inl (x / y) :: st) S)
  | .ineg => ab_pi st fun x st => K (pc + 1) L (.inl (-x) :: st) S
  | .i2l => ab_pi st fun x st => K (pc + 1) L (.inr (.inl x.toInt64) :: st) S
  | .i2c => ab_pi st fun x st => K (pc + 1) L (.inl (x.toUInt32 % 65536).toInt32 :: st) S
  | .l2i => ab_pl st fun x st => K (pc + 1) L (.inl x.toInt32 :: st) S
  | .ladd => ab_pl st fun y st => ab_pl st fun x st => K (pc + 1) L (.inr (.inl (x + y)) :: st) S
  | .lsub => ab_pl st fun y st => ab_pl st fun x st => K (pc + 1) L (.inr (.inl (x - y)) :: st) S
  | .lmul => ab_pl st fun y st => ab_pl st fun x st => K (pc + 1) L (.inr (.inl (x * y)) :: st) S
  | .land => ab_pl st fun y st => ab_pl st fun x st => K (pc + 1) L (.inr (.inl (x &&& y)) :: st) S
  | .lor => ab_pl st fun y st => ab_pl st fun x st => K (pc + 1) L (.inr (.inl (x ||| y)) :: st) S
  | .lxor => ab_pl st fun y st => ab_pl st fun x st => K (pc + 1) L (.inr (.inl (x ^^^ y)) :: st) S
  | .lshl => ab_pi st fun y st => ab_pl st fun x st => K (pc + 1) L (.inr (.inl (x <<< (y.toInt64 &&& 63))) :: st) S
  | .lshr => ab_pi st fun y st => ab_pl st fun x st => K (pc + 1) L (.inr (.inl (x >>> (y.toInt64 &&& 63))) :: st) S
  | .lushr => ab_pi st fun y st => ab_pl st fun x st => K (pc + 1) L (.inr (.inl (x.toUInt64 >>> (y.toInt64.toUInt64 &&& Int64.toUInt64 63)).toInt64) :: st) S
  | .lcmp => ab_pl st fun y st => ab_pl st fun x st => K (pc + 1) L (.inl (lg_cmp x y) :: st) S
  | .dup => match st with
    | .inl x :: r => K (pc + 1) L (.inl x :: .inl x :: r) S
    | .inr (.inr x) :: r => K (pc + 1) L (.inr (.inr x) :: .inr (.inr x) :: r) S
    | _ => none
  | .dup2 => ab_pi st fun y st => ab_pr st fun x st => K (pc + 1) L (.inl y :: .inr (.inr x) :: .inl y :: .inr (.inr x) :: st) S
  | .pop => match st with
    | .inl _ :: r => K (pc + 1) L r S
    | .inr (.inr _) :: r => K (pc + 1) L r S
    | _ => none
  | .goto o => K (ab_tg pc o) L st S
  | .ifCond c o => ab_pi st fun x st => ab_cz c x 0 (K (ab_tg pc o) L st S) (K (pc + 3) L st S)
  | .if_icmp c o => ab_pi st fun y st => ab_pi st fun x st => ab_cz c x y (K (ab_tg pc o) L st S) (K (pc + 3) L st S)
  | .tableswitch df lo _ offs => ab_pi st fun x st => ab_sw x (ab_tg pc df) (fun t => K t L st S) (ab_tcs pc lo offs)
  | .lookupswitch df ps => ab_pi st fun x st => ab_sw x (ab_tg pc df) (fun t => K t L st S) (ab_lcs pc ps)
  | .getfield _ => ab_pr st fun r st => ab_g (ab_ok k S r (10 + f.1)) (K (pc + 3) L (ab_rd k S f r :: st) S)
  | .putfield _ => match f.2.2 with
      | 0 => ab_pi st fun x st => ab_pr st fun r st => ab_g (ab_ok k S r (10 + f.1)) (K (pc + 3) L st (ab_wi S r f.2.1 x))
      | 1 => ab_pi st fun x st => ab_pr st fun r st => ab_g (ab_ok k S r (10 + f.1) && ab_zb x) (K (pc + 3) L st (ab_wi S r f.2.1 x))
      | 2 => ab_pr st fun x st => ab_pr st fun r st => ab_g (ab_ok k S r (10 + f.1)) (K (pc + 3) L st (ab_wr S r f.2.1 x))
      | _ => ab_pr st fun x st => ab_pr st fun r st => ab_g (!ab_md k && (Nat.beq f.1 (ab_own k) && ab_ok k S r (10 + f.1))) (K (pc + 3) L st (ab_wr S r f.2.1 x))
  | .getstatic _ => K (pc + 3) L (.inr (.inr 2) :: st) S
  | .arraylength => ab_pr st fun r st => ab_g (ab_ok k S r 1) (K (pc + 1) L (.inl (Int32.ofNat (ab_N q r)) :: st) S)
  | .iaload => ab_pi st fun i st => ab_pr st fun r st => ab_g (ab_ok k S r 1) (ab_g (ab_in i (ab_N q r)) (K (pc + 1) L (.inl (S.1 r i.toNatClampNeg) :: st) S))
  | .laload => ab_pi st fun i st => ab_pr st fun r st => ab_g (ab_ok k S r 2) (ab_g (ab_in i (ab_N q r)) (K (pc + 1) L (.inr (.inl (S.2.1 r i.toNatClampNeg)) :: st) S))
  | .caload => ab_pi st fun i st => ab_pr st fun r st => ab_g (ab_ok k S r 3) (ab_g (ab_in i (ab_N q r)) (K (pc + 1) L (.inl (S.1 r i.toNatClampNeg) :: st) S))
  | .baload => ab_pi st fun i st => ab_pr st fun r st => ab_g (ab_ok k S r 4) (ab_g (ab_in i (ab_N q r)) (K (pc + 1) L (.inl (S.1 r i.toNatClampNeg) :: st) S))
  | .aaload => ab_pi st fun i st => ab_pr st fun r st => ab_g (ab_ok k S r 5) (ab_g (ab_in i (ab_N q r)) (K (pc + 1) L (.inr (.inr (S.2.2.1 r i.toNatClampNeg)) :: st) S))
  | .iastore => ab_pi st fun x st => ab_pi st fun i st => ab_pr st fun r st => ab_g (ab_ok k S r 1 && Nat.blt 2 r) (ab_g (ab_in i (ab_N q r)) (K (pc + 1) L st (ab_wi S r i.toNatClampNeg x)))
  | .lastore => ab_pl st fun x st => ab_pi st fun i st => ab_pr st fun r st => ab_g (ab_ok k S r 2 && Nat.blt 2 r) (ab_g (ab_in i (ab_N q r)) (K (pc + 1) L st (ab_wl S r i.toNatClampNeg x)))
  | .castore => ab_pi st fun x st => ab_pi st fun i st => ab_pr st fun r st => ab_g (ab_ok k S r 3 && Nat.blt 2 r) (ab_g (ab_in i (ab_N q r)) (K (pc + 1) L st (ab_wi S r i.toNatClampNeg (ab_nc x))))
  | .bastore => ab_pi st fun x st => ab_pi st fun i st => ab_pr st fun r st => ab_g (ab_ok k S r 4 && Nat.blt 2 r) (ab_g (ab_in i (ab_N q r)) (K (pc + 1) L st (ab_wi S r i.toNatClampNeg (ab_nz x))))
  | .aastore => ab_pr st fun x st => ab_pi st fun i st => ab_pr st fun r st => ab_g (ab_ok k S r 5 && (Nat.blt 2 r && ab_ok k S x ab_shc)) (ab_g (ab_in i (ab_N q r)) (K (pc + 1) L st (ab_wr S r i.toNatClampNeg x)))
  | .new _ => match f.1 with
      | 0 => ab_g (!ab_md k && (Nat.blt S.2.2.2.1 ab_C && Nat.beq (ab_T S.2.2.2.1) (10 + f.2.1))) (K (pc + 3) L (.inr (.inr S.2.2.2.1) :: st) (ab_wn S f.2.2))
      | 1 => ab_g (ab_md k && Nat.ble st.length 4) (some ((f.2.1, 0, 0, 0), ab_wx S))
      | _ => none
  | .newarray t => ab_pi st fun n st => ab_g (!ab_md k && (Nat.blt S.2.2.2.1 ab_C && (Nat.beq (ab_T S.2.2.2.1) (ab_atc t) && (!decide (n < 0) && Nat.beq n.toNatClampNeg (ab_N q S.2.2.2.1))))) (K (pc + 2) L (.inr (.inr S.2.2.2.1) :: st) (ab_wn S n.toNatClampNeg))
  | .anewarray _ => ab_pi st fun n st => ab_g (Nat.beq f.1 2 && (!ab_md k && (Nat.blt S.2.2.2.1 ab_C && (Nat.beq (ab_T S.2.2.2.1) 5 && (!decide (n < 0) && Nat.beq n.toNatClampNeg (ab_N q S.2.2.2.1)))))) (K (pc + 3) L (.inr (.inr S.2.2.2.1) :: st) (ab_wn S n.toNatClampNeg))
  | .invokevirtual _ => ab_g (Nat.beq f.1 0) (ab_g (ab_thk k S f.2.1 (st.drop (f.2.2 - 1))) (ab_do k pc K C L st S f.2.1 f.2.2))
  | .invokestatic _ => match f.1 with
      | 1 => ab_do k pc K C L st S f.2.1 f.2.2
      | 9 => ab_pi st fun n st => ab_pi st fun dp st => ab_pr st fun o st => ab_pi st fun sp st => ab_pr st fun a st =>
        ab_g (ab_ok k S a 3 && (ab_ok k S o 3 && (Nat.blt 2 o && (!Nat.beq a o && Nat.ble st.length 8)))) (ab_g (!decide (n < 0) && (!decide (sp < 0) && (!decide (dp < 0) && (Nat.ble (sp.toNatClampNeg + n.toNatClampNeg) (ab_N q a) && (Nat.ble (dp.toNatClampNeg + n.toNatClampNeg) (ab_N q o) && ab_cf S a sp.toNatClampNeg n.toNatClampNeg))))) (K (pc + 3) L st (ab_wc S a sp.toNatClampNeg o dp.toNatClampNeg n.toNatClampNeg)))
      | _ => none
  | .invokespecial _ => match f.1 with
      | 2 => ab_g (ab_thk k S f.2.1 (st.drop (f.2.2 - 1))) (ab_do k pc K C L st S f.2.1 f.2.2)
      | 8 => ab_pr st fun r st => ab_g (Nat.blt 0 r && Nat.ble st.length 8) (K (pc + 3) L st S)
      | _ => none
  | .ireturn => match st with
    | [.inl x] => match ab_ret k with
      | 1 => some ((0, x, 0, 0), S)
      | 4 => some ((0, ab_nz x, 0, 0), S)
      | 5 => some ((0, ab_nc x, 0, 0), S)
      | _ => none
    | _ => none
  | .lreturn => match st with
    | [.inr (.inl x)] => bif Nat.beq (ab_ret k) 2 then some ((0, 0, x, 0), S) else none
    | _ => none
  | .areturn => match st with
    | [.inr (.inr x)] => bif Nat.beq (ab_ret k) 3 then some ((0, 0, 0, x), S) else none
    | _ => none
  | .return_ => match st with
    | [] => bif Nat.beq (ab_ret k) 0 then some ((0, 0, 0, 0), S) else none
    | _ => none
  | _ => none
/-- n steps at most; calls nest at most d deep -/
def ab_run (q : Nat) : Nat → Nat → Nat → Nat → ab_L → List ab_V → ab_S → ab_R
  | 0, _, _, _, _, _, _ => none
  | n + 1, d, k, pc, L, st, S => match ab_ins k pc with
    | none => none
    | some x => ab_ex q k pc (fun pc' L' st' S' => ab_run q n d k pc' (ab_zip (ab_msk k pc') L') st' S') (fun j L' S' => match d with
      | 0 => none
      | d + 1 => ab_run q n d j 0 L' [] S') L st S x.1 x.2
end
section
-- The abstract machine is sound: values, locals, the world; instructions that leave the heap alone.
theorem ab_gE {α : Type} {b : Bool} {x : Option α} {v : α} (h : ab_g b x = some v) : b = true ∧ x = some v := by
  cases b with
  | false => exact absurd h (by simp [ab_g])
  | true => exact ⟨rfl, h⟩
theorem ab_blt {a b : Nat} (h : Nat.blt a b = true) : a < b := Nat.le_of_ble_eq_true h
theorem ab_piE {α : Type} {st : List ab_V} {f : Int32 → List ab_V → Option α} {v : α} (h : ab_pi st f = some v) : ∃ x r, st = .inl x :: r ∧ f x r = some v := by
  unfold ab_pi at h
  split at h
  · exact ⟨_, _, rfl, h⟩
  · cases h
theorem ab_plE {α : Type} {st : List ab_V} {f : Int64 → List ab_V → Option α} {v : α} (h : ab_pl st f = some v) : ∃ x r, st = .inr (.inl x) :: r ∧ f x r = some v := by
  unfold ab_pl at h
  split at h
  · exact ⟨_, _, rfl, h⟩
  · cases h
theorem ab_prE {α : Type} {st : List ab_V} {f : Nat → List ab_V → Option α} {v : α} (h : ab_pr st f = some v) : ∃ x r, st = .inr (.inr x) :: r ∧ f x r = some v := by
  unfold ab_pr at h
  split at h
  · exact ⟨_, _, rfl, h⟩
  · cases h
theorem ab_liE {α : Type} {L : ab_L} {i : Nat} {f : Int32 → Option α} {v : α} (h : ab_li L i f = some v) : ∃ x, L[i]? = some (some (.inl x)) ∧ f x = some v := by
  unfold ab_li at h
  split at h
  · exact ⟨_, by assumption, h⟩
  · cases h
theorem ab_llE {α : Type} {L : ab_L} {i : Nat} {f : Int64 → Option α} {v : α} (h : ab_ll L i f = some v) : ∃ x, L[i]? = some (some (.inr (.inl x))) ∧ f x = some v := by
  unfold ab_ll at h
  split at h
  · exact ⟨_, by assumption, h⟩
  · cases h
theorem ab_lrE {α : Type} {L : ab_L} {i : Nat} {f : Nat → Option α} {v : α} (h : ab_lr L i f = some v) : ∃ x, L[i]? = some (some (.inr (.inr x))) ∧ f x = some v := by
  unfold ab_lr at h
  split at h
  · exact ⟨_, by assumption, h⟩
  · cases h
def ab_cv (ad : Nat → Nat) : ab_V → Value
  | .inl x => .int x
  | .inr (.inl x) => .long x
  | .inr (.inr x) => match x with
    | 0 => .null
    | r + 1 => .ref (ad (r + 1))
theorem ab_cvr {ad : Nat → Nat} {r : Nat} (h : 0 < r) : ab_cv ad (.inr (.inr r)) = .ref (ad r) := by
  cases r with
  | zero => cases h
  | succ r => rfl
def ab_LR (ad : Nat → Nat) (L : ab_L) (ls : Array Slot) : Prop := ls.size = L.length ∧ lv_wf ls ∧ ∀ (i : Nat) (v : ab_V), L[i]? = some (some v) → ls[i]? = some (.val (ab_cv ad v))
def ab_tb (ad : Nat → Nat) (L : ab_L) : List (Nat × Value) := (List.range L.length).filterMap fun i => match L[i]? with
  | some (some v) => some (i, ab_cv ad v)
  | _ => none
theorem ab_tb_mem {ad : Nat → Nat} {L : ab_L} {i : Nat} {v : ab_V} (h : L[i]? = some (some v)) : (i, ab_cv ad v) ∈ ab_tb ad L := by
  have hi : i < L.length := (List.getElem?_eq_some_iff.mp h).1
  refine List.mem_filterMap.mpr ⟨i, List.mem_range.mpr hi, ?_⟩
  simp [h]
theorem ab_tb_of {ad : Nat → Nat} {L : ab_L} {q : Nat × Value} (h : q ∈ ab_tb ad L) : ∃ v, L[q.1]? = some (some v) ∧ q.2 = ab_cv ad v := by
  obtain ⟨i, -, hi⟩ := List.mem_filterMap.mp h
  split at hi
  · rename_i v hv
    cases hi
    exact ⟨v, hv, rfl⟩
  · cases hi
theorem ab_LR.has {ad : Nat → Nat} {L : ab_L} {ls : Array Slot} {n : Nat} (h : ab_LR ad L ls) (hn : L.length = n) : lv_has ls n (ab_tb ad L) := by
  refine ⟨h.1.trans hn, h.2.1, fun q hq => ?_⟩
  obtain ⟨v, h1, h2⟩ := ab_tb_of hq
  rw [h2]
  exact h.2.2 _ _ h1
theorem ab_clr_len (L : ab_L) (i : Nat) : (ab_clr L i).length = L.length := by
  cases i with
  | zero => rfl
  | succ i =>
    simp only [ab_clr]
    split
    · simp
    · rfl
theorem ab_clr_of {L : ab_L} {i j : Nat} {w : ab_V} (h : (ab_clr L i)[j]? = some (some w)) : L[j]? = some (some w) ∧ (j + 1 = i → ∀ x, w ≠ .inr (.inl x)) := by
  cases i with
  | zero => exact ⟨h, fun q => by omega⟩
  | succ i =>
    simp only [ab_clr] at h
    split at h
    · rename_i x hx
      by_cases hj : i = j
      · subst hj
        rw [List.getElem?_set_self (List.getElem?_eq_some_iff.mp hx).1] at h
        cases h
      · rw [List.getElem?_set_ne hj] at h
        exact ⟨h, fun q => absurd (by omega) hj⟩
    · rename_i hx
      refine ⟨h, fun q x hw => ?_⟩
      have : j = i := by omega
      subst this
      subst hw
      exact hx _ h
theorem ab_cat1 {ad : Nat → Nat} {v : ab_V} (h : ∀ x, v ≠ .inr (.inl x)) : (ab_cv ad v).category = 1 := by
  rcases v with x | x | x
  · rfl
  · exact absurd rfl (h x)
  · cases x <;> rfl
theorem ab_st1_LR {ad : Nat → Nat} {L : ab_L} {ls ls' : Array Slot} {n i : Nat} {v : ab_V} (hn : L.length = n) (h : lv_has ls' n ((i, ab_cv ad v) :: (ab_tb ad L).filter (fun q => !(q.1 == i) && !(q.1 + 1 == i && q.2.category == 2)))) : ab_LR ad (ab_st1 L i v) ls' := by
  refine ⟨?_, h.2.1, fun j w hj => ?_⟩
  · rw [h.1, ab_st1, List.length_set, ab_clr_len, hn]
  · by_cases e : i = j
    · subst e
      by_cases hi : i < (ab_clr L i).length
      · rw [ab_st1, List.getElem?_set_self hi] at hj
        cases hj
        exact h.2.2 (i, ab_cv ad v) List.mem_cons_self
      · rw [ab_st1, List.getElem?_eq_none (by simp; omega)] at hj
        cases hj
    · rw [ab_st1, List.getElem?_set_ne e] at hj
      obtain ⟨h1, h2⟩ := ab_clr_of hj
      refine h.2.2 (j, ab_cv ad w) (List.mem_cons_of_mem _ (List.mem_filter.mpr ⟨ab_tb_mem h1, ?_⟩))
      simp only [Bool.and_eq_true, Bool.not_eq_true', beq_eq_false_iff_ne, ne_eq, Bool.and_eq_false_iff]
      refine ⟨fun q => e q.symm, ?_⟩
      by_cases q : j + 1 = i
      · right
        rw [ab_cat1 (h2 q)]
        decide
      · exact Or.inl q
theorem ab_st2_LR {ad : Nat → Nat} {L : ab_L} {ls ls' : Array Slot} {n i : Nat} {v : ab_V} (hn : L.length = n) (h : lv_has ls' n ((i, ab_cv ad v) :: (ab_tb ad L).filter (fun q => !(q.1 == i) && (!(q.1 == i + 1) && !(q.1 + 1 == i && q.2.category == 2))))) : ab_LR ad (ab_st2 L i v) ls' := by
  refine ⟨?_, h.2.1, fun j w hj => ?_⟩
  · rw [h.1, ab_st2, List.length_set, List.length_set, ab_clr_len, hn]
  · by_cases e1 : i + 1 = j
    · subst e1
      by_cases hi : i + 1 < ((ab_clr L i).set i (some v)).length
      · rw [ab_st2, List.getElem?_set_self hi] at hj
        cases hj
      · rw [ab_st2, List.getElem?_eq_none (by simp at hi ⊢; omega)] at hj
        cases hj
    · rw [ab_st2, List.getElem?_set_ne e1] at hj
      by_cases e : i = j
      · subst e
        by_cases hi : i < (ab_clr L i).length
        · rw [List.getElem?_set_self hi] at hj
          cases hj
          exact h.2.2 (i, ab_cv ad v) List.mem_cons_self
        · rw [List.getElem?_eq_none (by simp; omega)] at hj
          cases hj
      · rw [List.getElem?_set_ne e] at hj
        obtain ⟨h1, h2⟩ := ab_clr_of hj
        refine h.2.2 (j, ab_cv ad w) (List.mem_cons_of_mem _ (List.mem_filter.mpr ⟨ab_tb_mem h1, ?_⟩))
        simp only [Bool.and_eq_true, Bool.not_eq_true', beq_eq_false_iff_ne, ne_eq, Bool.and_eq_false_iff]
        refine ⟨fun q => e q.symm, fun q => e1 q.symm, ?_⟩
        by_cases q : j + 1 = i
        · right
          rw [ab_cat1 (h2 q)]
          decide
        · exact Or.inl q
theorem ab_st1_len (L : ab_L) (i : Nat) (v : ab_V) : (ab_st1 L i v).length = L.length := by rw [ab_st1, List.length_set, ab_clr_len]
theorem ab_st2_len (L : ab_L) (i : Nat) (v : ab_V) : (ab_st2 L i v).length = L.length := by rw [ab_st2, List.length_set, List.length_set, ab_clr_len]
theorem ab_zip_len : ∀ (bs : List Bool) (L : ab_L), (ab_zip bs L).length = L.length
  | [], L => by cases L <;> rfl
  | _ :: _, [] => rfl
  | b :: bs, v :: vs => by simp [ab_zip, ab_zip_len bs vs]
theorem ab_zip_of : ∀ (bs : List Bool) (L : ab_L) (j : Nat) (w : ab_V), (ab_zip bs L)[j]? = some (some w) → L[j]? = some (some w)
  | [], L, j, w, h => by cases L <;> exact h
  | _ :: _, [], j, w, h => h
  | b :: bs, v :: vs, 0, w, h => by
    cases b with
    | false => simp [ab_zip] at h
    | true => simpa [ab_zip] using h
  | b :: bs, v :: vs, j + 1, w, h => by
    simp only [ab_zip, List.getElem?_cons_succ] at h ⊢
    exact ab_zip_of bs vs j w h
theorem ab_LR.zip {ad : Nat → Nat} {L : ab_L} {ls : Array Slot} (bs : List Bool) (h : ab_LR ad L ls) : ab_LR ad (ab_zip bs L) ls := ⟨by rw [ab_zip_len]; exact h.1, h.2.1, fun i v hi => h.2.2 i v (ab_zip_of bs L i v hi)⟩
def ab_ln : Instr → Nat
  | .bipush _ | .iload _ | .lload _ | .aload _ | .istore _ | .lstore _ | .astore _ | .newarray _ | .ldc _ => 2
  | .sipush _ | .ldc2_w _ | .ldc_w _ | .iinc _ _ | .goto _ | .ifCond _ _ | .if_icmp _ _ | .getfield _ | .putfield _ | .getstatic _ | .invokevirtual _ | .invokestatic _ | .invokespecial _ | .new _ | .anewarray _ => 3
  | _ => 1
end
section
-- The abstract machine is sound: the world.
def ab_ad (sa wa B : Nat) : Nat → Nat
  | 0 => 0
  | 1 => sa
  | 2 => wa
  | r + 3 => B + r
theorem ab_ad_inj {sa wa B : Nat} (h1 : sa < B) (h2 : wa < B) (h3 : sa ≠ wa) : ∀ {a b : Nat}, 0 < a → 0 < b → ab_ad sa wa B a = ab_ad sa wa B b → a = b
  | 1, 1, _, _, _ => rfl
  | 1, 2, _, _, h => absurd h h3
  | 1, b + 3, _, _, h => by simp only [ab_ad] at h; omega
  | 2, 1, _, _, h => absurd h.symm h3
  | 2, 2, _, _, _ => rfl
  | 2, b + 3, _, _, h => by simp only [ab_ad] at h; omega
  | a + 3, 1, _, _, h => by simp only [ab_ad] at h; omega
  | a + 3, 2, _, _, h => by simp only [ab_ad] at h; omega
  | a + 3, b + 3, _, _, h => by simp only [ab_ad] at h; omega
theorem ab_ad_eq {sa wa B r : Nat} (h : 2 < r) : ab_ad sa wa B r = B + (r - 3) := by
  match r, h with
  | r + 3, _ => simp [ab_ad]
def ab_fv (ad : Nat → Nat) (S : ab_S) (c r f : Nat) : Value := bif Nat.blt (ab_knd c f) 2 then .int (S.1 r f) else ab_cv ad (.inr (.inr (S.2.2.1 r f)))
def ab_xv (ad : Nat → Nat) (S : ab_S) (t r j : Nat) : Value := match t with
  | 2 => .long (S.2.1 r j)
  | 5 => ab_cv ad (.inr (.inr (S.2.2.1 r j)))
  | _ => .int (S.1 r j)
def ab_aty (t : Nat) : FieldType := match t with
  | 1 => .int
  | 2 => .long
  | 3 => .char
  | 4 => .boolean
  | _ => .object "ShapedItems$Shape"
def ab_ce (D : va_G) (q : Nat) (ad : Nat → Nat) (S : ab_S) (U : State) (H : Heap) (r : Nat) : Prop :=
  (10 ≤ ab_T r → ∃ cell : Cell, H[ad r]? = some cell ∧ cell.cls = D.1 (ab_T r - 10) ∧ cell.vm = .none ∧ ∀ f, f < ab_nf (ab_T r - 10) → cell.slots[D.2 (ab_T r - 10) f]? = some (ab_fv ad S (ab_T r - 10) r f)) ∧
  (ab_T r < 10 → ∃ cell : Cell, H[ad r]? = some cell ∧ U.isArrayOf cell (ab_aty (ab_T r)) ∧ cell.vm ≠ .unknown ∧ (ab_N q r ≤ cell.slots.size ∧ cell.slots.size.toInt32 = Int32.ofNat (ab_N q r)) ∧ (∀ j, j < ab_N q r → cell.slots[j]? = some (ab_xv ad S (ab_T r) r j)) ∧
    (ab_T r = 5 → ∃ kA : Class, U.vm.classes[cell.cls]? = some kA ∧ kA.kind = .array (D.1 2) (.object "ShapedItems$Shape")))
theorem ab_ce.kept {D : va_G} {q : Nat} {ad : Nat → Nat} {S S' : ab_S} {U : State} {H H' : Heap} {r : Nat} (h : ab_ce D q ad S U H r) (hH : H'[ad r]? = H[ad r]?) (h1 : ∀ k, S'.1 r k = S.1 r k) (h2 : ∀ k, S'.2.1 r k = S.2.1 r k) (h3 : ∀ k, S'.2.2.1 r k = S.2.2.1 r k) : ab_ce D q ad S' U H' r := by
  have hf : ∀ c f, ab_fv ad S' c r f = ab_fv ad S c r f := fun c f => by simp only [ab_fv, h1, h3]
  have hx : ∀ t j, ab_xv ad S' t r j = ab_xv ad S t r j := fun t j => by
    unfold ab_xv
    split <;> simp only [h1, h2, h3]
  refine ⟨fun hT => ?_, fun hT => ?_⟩
  · obtain ⟨cell, a1, a2, a3, a4⟩ := h.1 hT
    exact ⟨cell, hH.trans a1, a2, a3, fun f hf' => by rw [hf]; exact a4 f hf'⟩
  · obtain ⟨cell, a1, a2, a3, a4, a5, a6⟩ := h.2 hT
    exact ⟨cell, hH.trans a1, a2, a3, a4, fun j hj => by rw [hx]; exact a5 j hj, a6⟩
theorem ab_ce.moved {D : va_G} {q : Nat} {ad : Nat → Nat} {S : ab_S} {u U : State} {H : Heap} {r : Nat} (hvm : u.vm.Alike U.vm) (h : ab_ce D q ad S u H r) : ab_ce D q ad S U H r := by
  refine ⟨h.1, fun hT => ?_⟩
  obtain ⟨cell, a1, a2, a3, a4, a5, a6⟩ := h.2 hT
  refine ⟨cell, a1, State.isArrayOf_alike hvm a2, a3, a4, a5, fun h5 => ?_⟩
  obtain ⟨kA, b1, b2⟩ := a6 h5
  obtain ⟨k', hk', he⟩ := hvm.2.2 _ _ b1
  exact ⟨k', hk', by rw [he]; exact b2⟩
def ab_Wd (D : va_G) (q sa wa B : Nat) (S : ab_S) (U : State) (H : Heap) : Prop :=
  (∀ r, 0 < r → r < S.2.2.2.1 → ab_ce D q (ab_ad sa wa B) S U H r) ∧ 3 ≤ S.2.2.2.1 ∧ S.2.2.2.1 ≤ ab_C ∧ B + (S.2.2.2.1 - 3) ≤ H.size ∧ (S.2.2.2.1 < ab_C → H.size = B + (S.2.2.2.1 - 3)) ∧
  ∀ r k, S.2.2.2.1 ≤ r → S.1 r k = 0 ∧ S.2.1 r k = 0 ∧ S.2.2.1 r k = 0
theorem ab_Wd.moved {D : va_G} {q sa wa B : Nat} {S : ab_S} {u U : State} {H : Heap} (hvm : u.vm.Alike U.vm) (h : ab_Wd D q sa wa B S u H) : ab_Wd D q sa wa B S U H := ⟨fun r a b => (h.1 r a b).moved hvm, h.2⟩
/-- what a walk carries of heap and stores -/
def ab_X (D : va_G) (q sa wa B n0 z0 k : Nat) (Hb : Heap) (s : State) (S : ab_S) (H : Heap) (locs : List Loc) : Prop :=
  ab_Wd D q sa wa B S s H ∧ (ab_md k = true → ab_inv S = true) ∧ (∀ a, a < B → H[a]? = Hb[a]?) ∧ (∀ x ∈ locs, B ≤ x.base) ∧ n0 ≤ S.2.2.2.2.1 ∧ z0 ≤ S.2.2.2.2.2
theorem ab_okE {k r t : Nat} {S : ab_S} (h : ab_ok k S r t = true) (hi : ab_md k = true → ab_inv S = true) : ab_T r = t ∧ 0 < r ∧ r < S.2.2.2.1 := by
  simp only [ab_ok, Bool.and_eq_true] at h
  obtain ⟨h1, h2, h3⟩ := h
  refine ⟨Nat.eq_of_beq_eq_true h1, ab_blt h2, ?_⟩
  cases hm : ab_md k with
  | false =>
    rw [hm] at h3
    exact ab_blt h3
  | true =>
    rw [hm] at h3
    have := hi hm
    simp only [ab_inv, Bool.and_eq_true] at this
    have e := Nat.eq_of_beq_eq_true this.1
    rw [e]
    exact ab_blt h3
/-- one cell is written: the world behind it -/
theorem ab_Wd.set {D : va_G} {q sa wa B : Nat} {S S' : ab_S} {U : State} {H H' : Heap} {r : Nat} (hsa : sa < B) (hwa : wa < B) (hne : sa ≠ wa) (h : ab_Wd D q sa wa B S U H) (h0 : 0 < r) (hr : r < S.2.2.2.1)
    (hz : H'.size = H.size) (ho : ∀ a, a ≠ ab_ad sa wa B r → H'[a]? = H[a]?) (hf : S'.2.2.2 = S.2.2.2) (h1 : ∀ x k, x ≠ r → S'.1 x k = S.1 x k) (h2 : ∀ x k, x ≠ r → S'.2.1 x k = S.2.1 x k) (h3 : ∀ x k, x ≠ r → S'.2.2.1 x k = S.2.2.1 x k)
    (hc : ab_ce D q (ab_ad sa wa B) S' U H' r) : ab_Wd D q sa wa B S' U H' := by
  have hf1 : S'.2.2.2.1 = S.2.2.2.1 := by rw [hf]
  refine ⟨fun x a b => ?_, by rw [hf1]; exact h.2.1, by rw [hf1]; exact h.2.2.1, by rw [hf1, hz]; exact h.2.2.2.1, fun hl => ?_, fun x k hx => ?_⟩
  · rw [hf1] at b
    by_cases e : x = r
    · subst e
      exact hc
    · exact (h.1 x a b).kept (ho _ fun q => e (ab_ad_inj hsa hwa hne a h0 q)) (fun k => h1 x k e) (fun k => h2 x k e) (fun k => h3 x k e)
  · rw [hf1] at hl ⊢
    rw [hz]
    exact h.2.2.2.2.1 hl
  · rw [hf1] at hx
    have e : x ≠ r := by omega
    rw [h1 x k e, h2 x k e, h3 x k e]
    exact h.2.2.2.2.2 x k hx
theorem ab_up_ne {α : Type} (f : Nat → Nat → α) {o k a b : Nat} (v : α) (h : a ≠ o) : ab_up f o k v a b = f a b := by simp [ab_up, h]
theorem ab_up_eq {α : Type} (f : Nat → Nat → α) (o k : Nat) (v : α) : ab_up f o k v o k = v := by simp [ab_up]
theorem ab_up_nk {α : Type} (f : Nat → Nat → α) {o k b : Nat} (v : α) (h : b ≠ k) : ab_up f o k v o b = f o b := by simp [ab_up, h]
theorem ab_X.locs {D : va_G} {q sa wa B n0 z0 k : Nat} {Hb : Heap} {s : State} {S S' : ab_S} {H H' : Heap} {locs L : List Loc} {r : Nat} (hX : ab_X D q sa wa B n0 z0 k Hb s S H locs) (hr : 2 < r) (hW : ab_Wd D q sa wa B S' s H') (hi : ab_md k = true → ab_inv S' = true)
    (ho : ∀ a, a ≠ ab_ad sa wa B r → H'[a]? = H[a]?) (hL : ∀ x ∈ L, x.base = ab_ad sa wa B r) (hf : S'.2.2.2 = S.2.2.2) : ab_X D q sa wa B n0 z0 k Hb s S' H' (locs ++ L) := by
  have hb : B ≤ ab_ad sa wa B r := by rw [ab_ad_eq hr]; omega
  refine ⟨hW, hi, fun a ha => ?_, fun x hx => ?_, ?_, ?_⟩
  · rw [ho a (by omega)]
    exact hX.2.2.1 a ha
  · rcases List.mem_append.mp hx with h | h
    · exact hX.2.2.2.1 x h
    · rw [hL x h]
      exact hb
  · rw [hf]; exact hX.2.2.2.2.1
  · rw [hf]; exact hX.2.2.2.2.2
end
section
theorem ab_zipW {α : Type} (P : α → Jvm.Cond) : ∀ (l : List α) (ps : List Nat), l.length = ps.length → (l.zip ps).all (fun y => decide (tables_1[y.2]? = some (P y.1))) = true → ∀ x ∈ l, P x ∈ lw_tbl
  | [], _, _, _, _, hx => by cases hx
  | _ :: _, [], h, _, _, _ => by cases h
  | a :: l, p :: ps, h, hc, x, hx => by
    simp only [List.zip_cons_cons, List.all_cons, Bool.and_eq_true, decide_eq_true_eq] at hc
    rcases List.mem_cons.mp hx with rfl | hx
    · exact List.mem_append_right _ (List.mem_of_getElem? hc.1)
    · exact ab_zipW P l ps (by simpa using h) hc.2 x hx
def ab_fw (x : Nat × Nat × Nat × Nat × Nat) : Jvm.Cond := .fieldLink (ab_cn x.1) x.2.1 (ab_cn x.2.2.1) (ab_ft x.2.2.1 x.2.2.2.1).2.1 (ab_ft x.2.2.1 x.2.2.2.1).2.2.1
theorem ab_fllW : ∀ x ∈ ab_fll, ab_fw x ∈ lw_tbl := ab_zipW _ _ [210, 212, 213, 214, 215, 211, 168, 122, 47, 36, 39, 41, 32, 34, 37, 40, 42, 44, 48, 50, 46, 49, 51, 91, 94, 97, 100, 103, 106, 108, 111, 114, 117, 120, 124, 126, 129, 132, 181, 92, 125, 182, 127, 121, 98, 183, 96, 102, 105, 131, 134, 119, 107, 113, 110, 116, 167, 133, 130, 123, 199, 200, 197, 198, 169, 128, 99, 35, 95, 38, 101, 104, 33, 43, 93, 45, 118, 112, 109, 115, 678, 680, 682, 683, 684, 685, 686, 687, 688, 689, 690, 691, 696, 697, 698, 699, 700, 701, 702, 704, 705, 706, 707, 708, 709, 710, 711, 712, 713, 677, 679, 681, 692, 694, 693, 695, 703] (by decide +kernel) (by decide +kernel)
theorem ab_fllC : ab_fll.all (fun x => Nat.blt x.2.2.1 7 && (Nat.blt x.2.2.2.1 (ab_nf x.2.2.1) && Nat.beq (ab_knd x.2.2.1 x.2.2.2.1) x.2.2.2.2)) = true := by decide +kernel
theorem ab_fll_ok {o i : Nat} (f : Nat × Nat × Nat) (h : (o, i, f) ∈ ab_fll) : f.1 < 7 ∧ f.2.1 < ab_nf f.1 ∧ ab_knd f.1 f.2.1 = f.2.2 ∧ Jvm.Cond.fieldLink (ab_cn o) i (ab_cn f.1) (ab_ft f.1 f.2.1).2.1 (ab_ft f.1 f.2.1).2.2.1 ∈ lw_tbl := by
  have h1 := List.all_eq_true.mp ab_fllC _ h
  simp only [Bool.and_eq_true] at h1
  exact ⟨ab_blt h1.1, ab_blt h1.2.1, Nat.eq_of_beq_eq_true h1.2.2, ab_fllW _ h⟩
theorem ab_cl_at {c : Nat} (h : c < 7) : ab_cl[c]? = some (ab_cn c, ab_ft c, ab_nf c) := by simp [ab_cl, h]
def ab_cfl : List (Nat × Nat) := [(0, 0), (0, 1), (0, 2), (0, 3), (0, 4), (0, 5), (1, 0), (1, 1), (1, 2), (1, 3), (1, 4), (1, 5), (1, 6), (1, 7), (1, 8), (1, 9), (1, 10), (2, 0), (2, 1), (2, 2), (2, 3), (2, 4), (2, 5), (2, 6), (2, 7), (2, 8), (2, 9), (2, 10), (2, 11), (2, 12), (2, 13), (2, 14), (3, 0), (3, 1), (3, 2), (4, 0), (5, 0), (5, 1), (5, 2), (5, 3), (6, 0), (6, 1), (6, 2), (6, 3), (6, 4), (6, 5), (6, 6), (6, 7), (6, 8), (6, 9), (6, 10), (6, 11), (6, 12), (6, 13), (6, 14), (6, 15), (6, 16), (6, 17), (6, 18), (6, 19), (6, 20), (6, 21), (6, 22), (6, 23), (6, 24), (6, 25), (6, 26), (6, 27), (6, 28), (6, 29), (6, 30), (6, 31), (6, 32), (6, 33), (6, 34), (6, 35), (6, 36)]
def ab_lw (x : Nat × Nat) : Jvm.Cond := u_lay (ab_cn x.1) (ab_ft x.1) x.2
theorem ab_cflW : ∀ x ∈ ab_cfl, ab_lw x ∈ lw_tbl := ab_zipW _ _ [216, 218, 220, 222, 224, 226, 52, 54, 56, 58, 60, 62, 64, 66, 68, 70, 72, 135, 137, 139, 141, 143, 145, 147, 149, 151, 153, 155, 157, 159, 161, 163, 184, 186, 188, 170, 201, 203, 205, 207, 714, 716, 718, 720, 722, 724, 726, 728, 730, 732, 734, 736, 738, 740, 742, 744, 746, 748, 750, 752, 754, 756, 758, 760, 762, 764, 766, 768, 770, 772, 774, 776, 778, 780, 782, 784, 786] (by decide +kernel) (by decide +kernel)
theorem ab_cflC : ∀ c, c < 7 → ∀ f, f < ab_nf c → (c, f) ∈ ab_cfl := by decide +kernel
theorem ab_uws {c : Nat} (h : c < 7) : ∀ w ∈ u_ws (ab_cn c) (ab_ft c) (ab_nf c), w ∈ lw_tbl := by
  intro w hw
  obtain ⟨f, hf, rfl⟩ := List.mem_map.mp hw
  exact ab_cflW (c, f) (ab_cflC c h f (List.mem_range.mp hf))
theorem ab_tyF0 : ∀ c, c < 7 → ∀ k, k < ab_nf c → parseFieldDescriptor (ab_ft c k).2.2.1 = some (ab_fty c k) := by decide +kernel
theorem ab_tyF {c : Nat} (h : c < 7) : ∀ k, k < ab_nf c → parseFieldDescriptor (ab_ft c k).2.2.1 = some (ab_fty c k) := ab_tyF0 c h
theorem ab_nmF0 : ∀ c, c < 7 → ∀ a, a < ab_nf c → ∀ b, b < ab_nf c → a ≠ b → (ab_ft c a).2.1 ≠ (ab_ft c b).2.1 := by decide +kernel
theorem ab_nmF {c : Nat} (h : c < 7) : ∀ a, a < ab_nf c → ∀ b, b < ab_nf c → a ≠ b → (ab_ft c a).2.1 ≠ (ab_ft c b).2.1 := ab_nmF0 c h
theorem ab_ft_cn0 : ∀ c, c < 7 → ∀ f, f < ab_nf c → (ab_ft c f).1 = ab_cn c := by decide +kernel
theorem ab_ft_cn {c f : Nat} (h : c < 7) (hf : f < ab_nf c) : (ab_ft c f).1 = ab_cn c := ab_ft_cn0 c h f hf
theorem ab_T0 {r : Nat} (h : 148 ≤ r) : ab_T r = 0 := by
  unfold ab_T ab_br ab_le0
  simp only [Nat.blt]
  have hb : ∀ n, n ≤ 148 → Nat.ble (r + 1) n = false := fun n hn => by
    cases hq : Nat.ble (r + 1) n with
    | false => rfl
    | true => have := Nat.le_of_ble_eq_true hq; omega
  have he : ∀ n, n < 148 → Nat.beq r n = false := fun n hn => by
    cases hq : Nat.beq r n with
    | false => rfl
    | true => have := Nat.eq_of_beq_eq_true hq; omega
  simp [hb, he]
theorem ab_knd_lt (c f : Nat) : ab_knd c f < 4 := by
  have hb : ∀ (i n : Nat) (a b : Nat), a < 4 → b < 4 → ab_br i n a b < 4 := fun i n a b ha hb => by unfold ab_br; cases Nat.blt i n <;> assumption
  have hl : ∀ (i n : Nat) (a b : Nat), a < 4 → b < 4 → ab_le0 i n a b < 4 := fun i n a b ha hb => by unfold ab_le0; cases Nat.beq i n <;> assumption
  unfold ab_knd
  repeat (first | decide | apply hb | apply hl)
theorem ab_obj0 : ∀ r, r < 3 → ab_T r < 10 := by decide +kernel
theorem ab_obj {r c : Nat} (h : ab_T r = 10 + c) : 2 < r := by
  by_cases hr : r < 3
  · have := ab_obj0 r hr
    omega
  · omega
theorem ab_finB : ((List.range 148).all fun r => (List.range 7).all fun c => (List.range (ab_nf c)).all fun f => !(Nat.beq (ab_T r) (10 + c) && Nat.beq (ab_knd c f) 3) || ab_finl.contains (r, f, ab_fin c f r)) = true := by decide +kernel
theorem ab_finC {r c f : Nat} (hr : r < 148) (hc : c < 7) (hf : f < ab_nf c) (hT : ab_T r = 10 + c) (hk : ab_knd c f = 3) : (r, f, ab_fin c f r) ∈ ab_finl := by
  have h := List.all_eq_true.mp (List.all_eq_true.mp (List.all_eq_true.mp ab_finB r (List.mem_range.mpr hr)) c (List.mem_range.mpr hc)) f (List.mem_range.mpr hf)
  rw [hT, hk] at h
  simpa using h
theorem ab_fin_ok {r c f o i : Nat} {S : ab_S} (hT : ab_T r = 10 + c) (h0 : 0 < r) (hi : ab_inv S = true) (hres : (o, i, c, f, 3) ∈ ab_fll) : ab_fin c f r = S.2.2.1 r f := by
  obtain ⟨h1, h2, h3, -⟩ := ab_fll_ok (c, f, 3) hres
  have hr : r < 148 := by
    by_cases h : r < 148
    · exact h
    · have := ab_T0 (r := r) (by omega)
      omega
  have hm := ab_finC hr h1 h2 hT h3
  simp only [ab_inv, Bool.and_eq_true, List.all_eq_true] at hi
  exact (Nat.eq_of_beq_eq_true (hi.2 _ hm)).symm
theorem ab_finD : ab_finl.all (fun x => Nat.ble 10 (ab_T x.1) && Nat.beq (ab_knd (ab_T x.1 - 10) x.2.1) 3) = true := by decide +kernel
theorem ab_fin_no {x : Nat × Nat × Nat} {c f : Nat} (h : x ∈ ab_finl) (hT : ab_T x.1 = 10 + c) (hf : x.2.1 = f) : ¬ ab_knd c f = 2 := by
  have h1 := List.all_eq_true.mp ab_finD _ h
  simp only [Bool.and_eq_true] at h1
  have := Nat.eq_of_beq_eq_true h1.2
  rw [hT, Nat.add_sub_cancel_left, hf] at this
  omega
theorem ab_fin_ob {x : Nat × Nat × Nat} (h : x ∈ ab_finl) : ¬ ab_T x.1 = 5 := by
  have h1 := List.all_eq_true.mp ab_finD _ h
  simp only [Bool.and_eq_true] at h1
  have := Nat.le_of_ble_eq_true h1.1
  omega
theorem ab_kind0C : ∀ c, c < 7 → ∀ f, f < ab_nf c → ab_knd c f = 0 → ab_fty c f = .int ∧ (ab_ft c f).2.2.2 = false := by decide +kernel
theorem ab_kind0 {c f : Nat} (h : c < 7) (hf : f < ab_nf c) (hk : ab_knd c f = 0) : ab_fty c f = .int ∧ (ab_ft c f).2.2.2 = false := ab_kind0C c h f hf hk
theorem ab_kind1C : ∀ c, c < 7 → ∀ f, f < ab_nf c → ab_knd c f = 1 → ab_fty c f = .boolean ∧ (ab_ft c f).2.2.2 = false := by decide +kernel
theorem ab_kind1 {c f : Nat} (h : c < 7) (hf : f < ab_nf c) (hk : ab_knd c f = 1) : ab_fty c f = .boolean ∧ (ab_ft c f).2.2.2 = false := ab_kind1C c h f hf hk
theorem ab_kind2C : ∀ c, c < 7 → ∀ f, f < ab_nf c → ab_knd c f = 2 → ab_fty c f = .object "ShapedItems$Shape" ∧ (ab_ft c f).2.2.2 = false := by decide +kernel
theorem ab_kind2 {c f : Nat} (h : c < 7) (hf : f < ab_nf c) (hk : ab_knd c f = 2) : (∃ C, ab_fty c f = .object C) ∧ (ab_ft c f).2.2.2 = false := ⟨⟨_, (ab_kind2C c h f hf hk).1⟩, (ab_kind2C c h f hf hk).2⟩
def ab_isr (t : FieldType) : Bool := match t with | .object _ => true | .array _ => true | _ => false
theorem ab_kind3C : ∀ c, c < 7 → ∀ f, f < ab_nf c → ab_knd c f = 3 → ab_isr (ab_fty c f) = true := by decide +kernel
theorem ab_kind3 {c f : Nat} (h : c < 7) (hf : f < ab_nf c) (hk : ab_knd c f = 3) : ab_isr (ab_fty c f) = true := ab_kind3C c h f hf hk
theorem ab_nrw {t : FieldType} {ad : Nat → Nat} (h : ab_isr t = true) (x : Nat) : narrow t (ab_cv ad (.inr (.inr x))) = ab_cv ad (.inr (.inr x)) := by
  cases t <;> first | (cases h; done) | (cases x <;> rfl)
theorem ab_fit {t : FieldType} {ad : Nat → Nat} (h : ab_isr t = true) (x : Nat) : fits t (ab_cv ad (.inr (.inr x))) = true := by
  cases t <;> first | (cases h; done) | (cases x <;> rfl)
theorem ab_dflC : ∀ c, c < 7 → ∀ f, f < ab_nf c → (Nat.blt (ab_knd c f) 2 = true ∧ defaultValue (ab_fty c f) = .int 0) ∨ (Nat.blt (ab_knd c f) 2 = false ∧ defaultValue (ab_fty c f) = .null) := by decide +kernel
theorem ab_dfl {c f : Nat} {ad : Nat → Nat} (h : c < 7) (hf : f < ab_nf c) : defaultValue (ab_fty c f) = (bif Nat.blt (ab_knd c f) 2 then .int 0 else ab_cv ad (.inr (.inr 0))) := by
  rcases ab_dflC c h f hf with ⟨a, b⟩ | ⟨a, b⟩ <;> rw [a, b] <;> rfl
def ab_cl0 : List (Nat × Nat × Nat × Nat × Nat) := ab_cll.filter fun x => Nat.beq x.2.2.1 0
def ab_cl2 : List (Nat × Nat × Nat × Nat × Nat) := ab_cll.filter fun x => Nat.beq x.2.2.1 2
def ab_w1 (x : Nat × Nat × Nat × Nat × Nat) : Jvm.Cond := .classLink (ab_cn x.1) x.2.1 (ab_cn x.2.2.2.1)
theorem ab_w1W : ∀ x ∈ ab_cl0, ab_w1 x ∈ lw_tbl := ab_zipW _ _ [26, 78, 173, 191, 179, 84, 18, 671] (by decide +kernel) (by decide +kernel)
def ab_w2 (x : Nat × Nat × Nat × Nat × Nat) : Jvm.Cond := .instantiable (ab_cn x.2.2.2.1) x.2.2.2.2
theorem ab_w2W : ∀ x ∈ ab_cl0, ab_w2 x ∈ lw_tbl := ab_zipW _ _ [27, 79, 174, 192, 86, 86, 19, 672] (by decide +kernel) (by decide +kernel)
def ab_w3 (x : Nat × Nat × Nat × Nat × Nat) : Jvm.Cond := .initialized (ab_cn x.2.2.2.1)
theorem ab_w3W : ∀ x ∈ ab_cl0, ab_w3 x ∈ lw_tbl := ab_zipW _ _ [2, 3, 5, 6, 4, 4, 1, 7] (by decide +kernel) (by decide +kernel)
theorem ab_cl0C : ab_cl0.all (fun x => Nat.blt x.2.2.2.1 7) = true := by decide +kernel
theorem ab_cll_ok {o i : Nat} (f : Nat × Nat × Nat) (h : (o, i, f) ∈ ab_cll) (h0 : f.1 = 0) : f.2.1 < 7 ∧ Jvm.Cond.classLink (ab_cn o) i (ab_cn f.2.1) ∈ lw_tbl ∧ Jvm.Cond.instantiable (ab_cn f.2.1) f.2.2 ∈ lw_tbl ∧ Jvm.Cond.initialized (ab_cn f.2.1) ∈ lw_tbl := by
  have hm : (o, i, f) ∈ ab_cl0 := List.mem_filter.mpr ⟨h, by simp [h0]⟩
  exact ⟨ab_blt (List.all_eq_true.mp ab_cl0C _ hm), ab_w1W _ hm, ab_w2W _ hm, ab_w3W _ hm⟩
def ab_w4 (x : Nat × Nat × Nat × Nat × Nat) : Jvm.Cond := .classLink (ab_cn x.1) x.2.1 "ShapedItems$Shape"
theorem ab_w4W : ∀ x ∈ ab_cl2, ab_w4 x ∈ lw_tbl := ab_zipW _ _ [] (by decide +kernel) (by decide +kernel)
theorem ab_cll_ar {o i : Nat} (f : Nat × Nat × Nat) (h : (o, i, f) ∈ ab_cll) (h2 : f.1 = 2) : Jvm.Cond.classLink (ab_cn o) i "ShapedItems$Shape" ∈ lw_tbl ∧ Jvm.Cond.arrayOver (.object "ShapedItems$Shape") ∈ lw_tbl := by
  have hm : (o, i, f) ∈ ab_cl2 := List.mem_filter.mpr ⟨h, by simp [h2]⟩
  exact ⟨ab_w4W _ hm, List.mem_append_right _ (List.mem_of_getElem? (i := 85) (by decide +kernel))⟩
theorem ab_atc_ok (t : ArrayType) (h : ab_atc t = 1 ∨ ab_atc t = 2 ∨ ab_atc t = 3 ∨ ab_atc t = 4) : Jvm.Cond.arrayClass (newarray.typeOf t) ∈ lw_tbl ∧ newarray.typeOf t = ab_aty (ab_atc t) ∧ componentBytes (newarray.typeOf t) ≤ 8 ∧ defaultValue (newarray.typeOf t) = (match ab_atc t with | 2 => .long 0 | 5 => ab_cv id (.inr (.inr 0)) | _ => .int 0) := by
  cases t with
  | int => exact ⟨List.mem_append_right _ (List.mem_of_getElem? (i := 76) (by decide +kernel)), rfl, by decide, rfl⟩
  | long => exact ⟨List.mem_append_right _ (List.mem_of_getElem? (i := 77) (by decide +kernel)), rfl, by decide, rfl⟩
  | char => exact ⟨List.mem_append_right _ (List.mem_of_getElem? (i := 75) (by decide +kernel)), rfl, by decide, rfl⟩
  | boolean => exact ⟨List.mem_append_right _ (List.mem_of_getElem? (i := 166) (by decide +kernel)), rfl, by decide, rfl⟩
  | _ => exact absurd h (by decide)
theorem ab_atC : ∀ r, r < 148 → 3 ≤ r → ab_T r < 10 → ab_T r = 5 ∨ (ab_T r = 1 ∨ ab_T r = 2 ∨ ab_T r = 3 ∨ ab_T r = 4) := by decide +kernel
theorem ab_atF {r : Nat} {t : ArrayType} (h3 : 3 ≤ r) (h : r < ab_C) (hT : ab_T r = ab_atc t) : ab_atc t = 1 ∨ ab_atc t = 2 ∨ ab_atc t = 3 ∨ ab_atc t = 4 := by
  have hl : ab_atc t < 5 := by cases t <;> decide
  rcases ab_atC r h h3 (by omega) with q | q
  · omega
  · rw [← hT]; exact q
theorem ab_NC : ∀ r, r < 148 → ab_N0 r ≤ 20000 := by decide +kernel
theorem ab_NF (q : Nat) {r : Nat} (h3 : 3 ≤ r) (h : r < ab_C) : ab_N q r ≤ 20000 := by
  have e : Nat.beq r 1 = false := by
    cases hq : Nat.beq r 1 with
    | false => rfl
    | true => have := Nat.eq_of_beq_eq_true hq; omega
  unfold ab_N
  rw [e]
  exact ab_NC r h
def ab_csk : List (Nat × Nat) := [(1, 60), (1, 66), (1, 76), (1, 81), (5, 75), (5, 134), (6, 109), (6, 198), (6, 204), (6, 215), (6, 225), (7, 71)]
def ab_csw (x : Nat × Nat) : Jvm.Cond := .constantLong (ab_cn x.1) x.2 ((ab_cst x.1 x.2).getD 0)
theorem ab_cskW : ∀ x ∈ ab_csk, ab_csw x ∈ lw_tbl := ab_zipW _ _ [479, 480, 495, 494, 624, 663, 801, 907, 912, 950, 945, 979] (by decide +kernel) (by decide +kernel)
def ab_cik : List (Nat × Nat) := [(8, 265), (8, 266), (8, 267)]
def ab_ciw (x : Nat × Nat) : Jvm.Cond := .constant (ab_cn x.1) x.2 ((ab_csi x.1 x.2).getD 0)
theorem ab_cikW : ∀ x ∈ ab_cik, ab_ciw x ∈ lw_tbl := ab_zipW _ _ [591, 592, 593] (by decide +kernel) (by decide +kernel)
theorem ab_stl_ok {o i : Nat} (h : (o, i) ∈ ab_stl) : Jvm.Cond.fieldLink (ab_cn o) i "ShapedItems$Matcher" "WITHOUT" "[J" ∈ lw_tbl := by
  have : (o, i) = (5, 131) := by simpa [ab_stl] using h
  cases this
  exact List.mem_append_right _ (List.mem_of_getElem? (i := 661) (by decide +kernel))
def ab_noh : List Nat := [0, 1, 2, 3, 4, 5, 6, 7, 8, 9, 10, 11, 12, 13, 14, 15, 16, 17, 18, 19, 20, 21, 22, 23, 24, 25, 26, 27, 28, 29, 30, 31, 32, 33, 34, 35, 36, 37, 38, 39, 40, 41, 42, 43, 44, 45, 46, 47, 48, 49, 50, 51, 52, 53, 54, 55, 56, 57, 58, 59, 60, 61, 62, 63, 64, 65, 66, 67, 68, 69, 70, 71, 72, 73, 74, 75, 76, 77, 78, 79, 80, 81, 82, 83, 84, 85, 86, 87, 88, 89, 90, 91, 92, 93, 94, 95, 96, 97, 98, 99, 100, 101, 102, 103, 104, 105, 106, 107, 108, 109, 110, 111, 112, 113, 114, 115, 116, 117, 118, 119, 120, 131, 132]
def ab_yeh : List Nat := [121, 122, 123, 124, 125, 126, 127, 128, 129, 130]
def ab_cw (j : Nat) : Jvm.Cond := .code (ab_nm j) (ab_by j) (ab_mxl j) (ab_rty j)
def ab_cx (j : Nat) : Jvm.Cond := .codeWith (ab_nm j) (ab_by j) (ab_mxl j) (ab_rty j) (ab_ht j)
theorem ab_tw {w : Jvm.Cond} (p : Nat) (h : tables_1[p]? = some w) : w ∈ lw_tbl := List.mem_append_right _ (List.mem_of_getElem? h)
theorem ab_fc {α : Type} {P : α → Prop} {a : α} {l : List α} (h1 : P a) (h2 : ∀ x ∈ l, P x) : ∀ x ∈ a :: l, P x := List.forall_mem_cons.mpr ⟨h1, h2⟩
set_option maxRecDepth 100000 in
theorem ab_nohW : ∀ x ∈ ab_noh, ab_cw x ∈ lw_tbl := by
  refine ab_fc (ab_tw 22 rfl) ?_
  refine ab_fc (ab_tw 255 rfl) ?_
  refine ab_fc (ab_tw 339 rfl) ?_
  refine ab_fc (ab_tw 454 rfl) ?_
  refine ab_fc (ab_tw 232 rfl) ?_
  refine ab_fc (ab_tw 243 rfl) ?_
  refine ab_fc (ab_tw 462 rfl) ?_
  refine ab_fc (ab_tw 503 rfl) ?_
  refine ab_fc (ab_tw 515 rfl) ?_
  refine ab_fc (ab_tw 522 rfl) ?_
  refine ab_fc (ab_tw 531 rfl) ?_
  refine ab_fc (ab_tw 600 rfl) ?_
  refine ab_fc (ab_tw 670 rfl) ?_
  refine ab_fc (ab_tw 239 rfl) ?_
  refine ab_fc (ab_tw 262 rfl) ?_
  refine ab_fc (ab_tw 258 rfl) ?_
  refine ab_fc (ab_tw 342 rfl) ?_
  refine ab_fc (ab_tw 466 rfl) ?_
  refine ab_fc (ab_tw 507 rfl) ?_
  refine ab_fc (ab_tw 535 rfl) ?_
  refine ab_fc (ab_tw 30 rfl) ?_
  refine ab_fc (ab_tw 236 rfl) ?_
  refine ab_fc (ab_tw 247 rfl) ?_
  refine ab_fc (ab_tw 470 rfl) ?_
  refine ab_fc (ab_tw 474 rfl) ?_
  refine ab_fc (ab_tw 478 rfl) ?_
  refine ab_fc (ab_tw 484 rfl) ?_
  refine ab_fc (ab_tw 488 rfl) ?_
  refine ab_fc (ab_tw 493 rfl) ?_
  refine ab_fc (ab_tw 623 rfl) ?_
  refine ab_fc (ab_tw 632 rfl) ?_
  refine ab_fc (ab_tw 89 rfl) ?_
  refine ab_fc (ab_tw 366 rfl) ?_
  refine ab_fc (ab_tw 652 rfl) ?_
  refine ab_fc (ab_tw 648 rfl) ?_
  refine ab_fc (ab_tw 177 rfl) ?_
  refine ab_fc (ab_tw 362 rfl) ?_
  refine ab_fc (ab_tw 447 rfl) ?_
  refine ab_fc (ab_tw 443 rfl) ?_
  refine ab_fc (ab_tw 392 rfl) ?_
  refine ab_fc (ab_tw 381 rfl) ?_
  refine ab_fc (ab_tw 389 rfl) ?_
  refine ab_fc (ab_tw 419 rfl) ?_
  refine ab_fc (ab_tw 373 rfl) ?_
  refine ab_fc (ab_tw 377 rfl) ?_
  refine ab_fc (ab_tw 385 rfl) ?_
  refine ab_fc (ab_tw 415 rfl) ?_
  refine ab_fc (ab_tw 423 rfl) ?_
  refine ab_fc (ab_tw 427 rfl) ?_
  refine ab_fc (ab_tw 431 rfl) ?_
  refine ab_fc (ab_tw 435 rfl) ?_
  refine ab_fc (ab_tw 439 rfl) ?_
  refine ab_fc (ab_tw 399 rfl) ?_
  refine ab_fc (ab_tw 403 rfl) ?_
  refine ab_fc (ab_tw 407 rfl) ?_
  refine ab_fc (ab_tw 411 rfl) ?_
  refine ab_fc (ab_tw 82 rfl) ?_
  refine ab_fc (ab_tw 539 rfl) ?_
  refine ab_fc (ab_tw 543 rfl) ?_
  refine ab_fc (ab_tw 550 rfl) ?_
  refine ab_fc (ab_tw 570 rfl) ?_
  refine ab_fc (ab_tw 546 rfl) ?_
  refine ab_fc (ab_tw 195 rfl) ?_
  refine ab_fc (ab_tw 604 rfl) ?_
  refine ab_fc (ab_tw 611 rfl) ?_
  refine ab_fc (ab_tw 615 rfl) ?_
  refine ab_fc (ab_tw 619 rfl) ?_
  refine ab_fc (ab_tw 628 rfl) ?_
  refine ab_fc (ab_tw 636 rfl) ?_
  refine ab_fc (ab_tw 640 rfl) ?_
  refine ab_fc (ab_tw 644 rfl) ?_
  refine ab_fc (ab_tw 656 rfl) ?_
  refine ab_fc (ab_tw 660 rfl) ?_
  refine ab_fc (ab_tw 675 rfl) ?_
  refine ab_fc (ab_tw 792 rfl) ?_
  refine ab_fc (ab_tw 796 rfl) ?_
  refine ab_fc (ab_tw 800 rfl) ?_
  refine ab_fc (ab_tw 805 rfl) ?_
  refine ab_fc (ab_tw 829 rfl) ?_
  refine ab_fc (ab_tw 847 rfl) ?_
  refine ab_fc (ab_tw 835 rfl) ?_
  refine ab_fc (ab_tw 821 rfl) ?_
  refine ab_fc (ab_tw 871 rfl) ?_
  refine ab_fc (ab_tw 817 rfl) ?_
  refine ab_fc (ab_tw 875 rfl) ?_
  refine ab_fc (ab_tw 863 rfl) ?_
  refine ab_fc (ab_tw 859 rfl) ?_
  refine ab_fc (ab_tw 843 rfl) ?_
  refine ab_fc (ab_tw 839 rfl) ?_
  refine ab_fc (ab_tw 851 rfl) ?_
  refine ab_fc (ab_tw 855 rfl) ?_
  refine ab_fc (ab_tw 832 rfl) ?_
  refine ab_fc (ab_tw 825 rfl) ?_
  refine ab_fc (ab_tw 867 rfl) ?_
  refine ab_fc (ab_tw 879 rfl) ?_
  refine ab_fc (ab_tw 813 rfl) ?_
  refine ab_fc (ab_tw 809 rfl) ?_
  refine ab_fc (ab_tw 883 rfl) ?_
  refine ab_fc (ab_tw 895 rfl) ?_
  refine ab_fc (ab_tw 891 rfl) ?_
  refine ab_fc (ab_tw 887 rfl) ?_
  refine ab_fc (ab_tw 906 rfl) ?_
  refine ab_fc (ab_tw 903 rfl) ?_
  refine ab_fc (ab_tw 911 rfl) ?_
  refine ab_fc (ab_tw 916 rfl) ?_
  refine ab_fc (ab_tw 899 rfl) ?_
  refine ab_fc (ab_tw 924 rfl) ?_
  refine ab_fc (ab_tw 920 rfl) ?_
  refine ab_fc (ab_tw 928 rfl) ?_
  refine ab_fc (ab_tw 932 rfl) ?_
  refine ab_fc (ab_tw 962 rfl) ?_
  refine ab_fc (ab_tw 954 rfl) ?_
  refine ab_fc (ab_tw 949 rfl) ?_
  refine ab_fc (ab_tw 958 rfl) ?_
  refine ab_fc (ab_tw 970 rfl) ?_
  refine ab_fc (ab_tw 966 rfl) ?_
  refine ab_fc (ab_tw 974 rfl) ?_
  refine ab_fc (ab_tw 944 rfl) ?_
  refine ab_fc (ab_tw 940 rfl) ?_
  refine ab_fc (ab_tw 936 rfl) ?_
  refine ab_fc (ab_tw 978 rfl) ?_
  refine ab_fc (ab_tw 590 rfl) ?_
  refine ab_fc (ab_tw 607 rfl) ?_
  exact fun x hx => by cases hx
set_option maxRecDepth 100000 in
theorem ab_yehW : ∀ x ∈ ab_yeh, ab_cx x ∈ lw_tbl := by
  refine ab_fc (ab_tw 250 rfl) ?_
  refine ab_fc (ab_tw 334 rfl) ?_
  refine ab_fc (ab_tw 450 rfl) ?_
  refine ab_fc (ab_tw 458 rfl) ?_
  refine ab_fc (ab_tw 499 rfl) ?_
  refine ab_fc (ab_tw 511 rfl) ?_
  refine ab_fc (ab_tw 518 rfl) ?_
  refine ab_fc (ab_tw 525 rfl) ?_
  refine ab_fc (ab_tw 596 rfl) ?_
  refine ab_fc (ab_tw 666 rfl) ?_
  exact fun x hx => by cases hx
theorem ab_nohC : ∀ j, j < ab_M → (ab_ht j = [] ∧ j ∈ ab_noh) ∨ j ∈ ab_yeh := by decide +kernel
theorem ab_code_ok {j : Nat} (hj : j < ab_M) : (ab_ht j = [] ∧ Jvm.Cond.code (ab_nm j) (ab_by j) (ab_mxl j) (ab_rty j) ∈ lw_tbl) ∨ Jvm.Cond.codeWith (ab_nm j) (ab_by j) (ab_mxl j) (ab_rty j) (ab_ht j) ∈ lw_tbl := by
  rcases ab_nohC j hj with ⟨a, b⟩ | b
  · exact Or.inl ⟨a, ab_nohW j b⟩
  · exact Or.inr (ab_yehW j b)
theorem ab_cnF0 : ∀ j, j < ab_M + 1 → ab_cn (ab_own j) = (ab_nm j).cls := by decide +kernel
theorem ab_cnF {j : Nat} (h : j < ab_M) : ab_cn (ab_own j) = (ab_nm j).cls := ab_cnF0 j (by omega)
theorem ab_plF0 : ∀ c, c < 10 → plainName (ab_cn c) = true ∧ (ab_cn c ≠ "java/lang/invoke/MethodHandle" ∧ ab_cn c ≠ "java/lang/invoke/VarHandle") := by decide +kernel
theorem ab_owF : ∀ j, j < ab_M → ab_own j < 10 := by decide +kernel
theorem ab_plF {j : Nat} (h : j < ab_M) : plainName (ab_nm j).cls = true := by rw [← ab_cnF h]; exact (ab_plF0 _ (ab_owF j h)).1
theorem ab_nmh {j : Nat} (h : j < ab_M) : (ab_nm j).cls ≠ "java/lang/invoke/MethodHandle" ∧ (ab_nm j).cls ≠ "java/lang/invoke/VarHandle" := by rw [← ab_cnF h]; exact (ab_plF0 _ (ab_owF j h)).2
theorem ab_mxF0 : ∀ j, j < ab_M → ab_mxl j ≤ 20 := by decide +kernel
theorem ab_mxF {j : Nat} (h : j < ab_M) : ab_mxl j ≤ 20 := ab_mxF0 j h
def ab_nsl : List (Nat × Nat) := [(0, 15), (0, 29), (1, 35), (1, 78), (3, 11), (4, 17)]
def ab_lk (x : Nat × Nat × Nat × Nat × Nat) : Jvm.Cond := bif ab_nsl.contains (x.1, x.2.1) then .methodLinkNest (ab_cn x.1) x.2.1 (ab_nm x.2.2.2.1) "ShapedItems" else .methodLink (ab_cn x.1) x.2.1 (ab_nm x.2.2.2.1)
def ab_mt0 : List (Nat × Nat × Nat × Nat × Nat) := ab_mtl.filter fun x => Nat.beq x.2.2.1 0
theorem ab_lk0 : ∀ x ∈ ab_mt0, ab_lk x ∈ lw_tbl := ab_zipW _ _ [359, 444, 455, 233, 244, 463, 504, 532, 601, 467, 536, 547, 567, 471, 475, 481, 485, 490, 363, 370, 440, 378, 374, 386, 382, 396, 412, 420, 416, 424, 432, 436, 428, 400, 404, 408, 540, 571, 608, 612, 616, 620, 625, 633, 637, 653, 629, 641, 649, 645, 657, 826, 818, 814, 844, 840, 856, 836, 848, 852, 860, 868, 872, 822, 864, 876, 810, 892, 888, 908, 913, 900, 921, 959, 967, 946, 951, 955, 963, 971, 941, 937, 252, 336, 451, 459, 500, 512, 519, 528, 597, 667, 793, 789, 806, 880, 229, 797, 240, 802, 896, 917, 925, 929, 884, 933, 975] (by decide +kernel) (by decide +kernel)
def ab_js0 : List Nat := [1, 2, 3, 4, 5, 6, 7, 8, 9, 10, 11, 12, 17, 18, 19, 21, 22, 23, 24, 25, 26, 27, 28, 29, 30, 32, 33, 34, 36, 37, 38, 40, 41, 42, 43, 44, 45, 46, 47, 48, 49, 50, 51, 52, 53, 54, 55, 57, 58, 59, 60, 63, 64, 65, 66, 67, 68, 69, 70, 71, 72, 74, 75, 76, 77, 78, 79, 81, 82, 83, 84, 85, 86, 87, 88, 89, 90, 92, 93, 94, 95, 96, 97, 98, 99, 100, 102, 103, 104, 105, 106, 107, 108, 109, 110, 111, 112, 113, 114, 115, 116, 117, 118, 119, 120]
theorem ab_mt0C : ab_mt0.all (fun x => Nat.blt x.2.2.2.1 ab_M && (ab_js0.contains x.2.2.2.1 && (match parseMethodDescriptor (ab_nm x.2.2.2.1).desc with | some g => Nat.beq x.2.2.2.2 (g.parameters.length + 1) | none => false))) = true := by decide +kernel
def ab_iw0 (j : Nat) : Jvm.Cond := .instanceMethod (ab_nm j)
theorem ab_iw0W : ∀ x ∈ ab_js0, ab_iw0 x ∈ lw_tbl := ab_zipW _ _ [253, 337, 452, 230, 241, 460, 501, 513, 520, 529, 598, 668, 465, 506, 534, 234, 245, 468, 473, 477, 483, 487, 492, 621, 630, 364, 650, 646, 360, 445, 442, 380, 388, 418, 372, 376, 384, 414, 422, 426, 430, 434, 438, 398, 402, 406, 410, 537, 542, 548, 568, 602, 610, 614, 618, 627, 635, 639, 643, 655, 659, 790, 794, 798, 803, 828, 846, 820, 870, 816, 874, 862, 858, 842, 838, 850, 854, 824, 866, 878, 812, 807, 881, 894, 890, 885, 902, 910, 915, 897, 923, 918, 926, 930, 961, 953, 948, 957, 969, 965, 973, 943, 939, 934, 976] (by decide +kernel) (by decide +kernel)
def ab_pub : List Nat := [1, 2, 3, 4, 5, 6, 7, 8, 9, 10, 11, 12, 21, 22, 23, 29, 30, 32, 33, 34, 36, 37, 57, 59, 60, 63, 74, 75, 76, 77, 96, 97, 100, 105, 107, 108, 109, 119, 120]
def ab_prv : List Nat := [17, 18, 19, 24, 25, 26, 27, 28, 38, 40, 41, 42, 43, 44, 45, 46, 47, 48, 49, 50, 51, 52, 53, 54, 55, 58, 64, 65, 66, 67, 68, 69, 70, 71, 72, 78, 79, 81, 82, 83, 84, 85, 86, 87, 88, 89, 90, 92, 93, 94, 95, 98, 99, 102, 103, 104, 106, 110, 111, 112, 113, 114, 115, 116, 117, 118]
def ab_vw (j : Nat) : Jvm.Cond := .selects (ab_nm j).cls (ab_nm j) (ab_nm j)
theorem ab_pubW : ∀ x ∈ ab_pub, ab_vw x ∈ lw_tbl := ab_zipW _ _ [254, 338, 453, 231, 242, 461, 502, 514, 521, 530, 599, 669, 235, 246, 469, 622, 631, 365, 651, 647, 361, 446, 538, 549, 569, 603, 791, 795, 799, 804, 808, 882, 886, 898, 919, 927, 931, 935, 977] (by decide +kernel) (by decide +kernel)
theorem ab_prvC : (ab_prv.zip [18, 24, 25, 19, 20, 21, 22, 23, 17, 3, 5, 11, 1, 2, 4, 10, 12, 13, 14, 15, 16, 6, 7, 8, 9, 26, 27, 28, 29, 30, 31, 32, 33, 34, 35, 40, 43, 38, 49, 37, 50, 47, 46, 42, 41, 44, 45, 39, 48, 51, 36, 53, 52, 54, 55, 56, 57, 63, 61, 60, 62, 65, 64, 66, 59, 58]).all (fun y => decide ((k2_sels lw_privs)[y.2]? = some (ab_vw y.1))) = true := by decide +kernel
theorem ab_prvW : ∀ j ∈ ab_prv, ab_vw j ∈ lw_tbl := by
  have key : ∀ (l ps : List Nat), l.length = ps.length → (l.zip ps).all (fun y => decide ((k2_sels lw_privs)[y.2]? = some (ab_vw y.1))) = true → ∀ x ∈ l, ab_vw x ∈ lw_tbl := by
    intro l
    induction l with
    | nil => intro _ _ _ x hx; cases hx
    | cons a l ih =>
      intro ps h hc x hx
      cases ps with
      | nil => cases h
      | cons p ps =>
        simp only [List.zip_cons_cons, List.all_cons, Bool.and_eq_true, decide_eq_true_eq] at hc
        rcases List.mem_cons.mp hx with rfl | hx
        · exact List.mem_append_left _ (List.mem_of_getElem? hc.1)
        · exact ih ps (by simpa using h) hc.2 x hx
  exact key _ _ (by decide +kernel) ab_prvC
theorem ab_js0C : ∀ j ∈ ab_js0, j ∈ ab_pub ∨ j ∈ ab_prv := by decide +kernel
def ab_mt1 : List (Nat × Nat × Nat × Nat × Nat) := ab_mtl.filter fun x => Nat.beq x.2.2.1 1
theorem ab_lk1 : ∀ x ∈ ab_mt1, ab_lk x ∈ lw_tbl := ab_zipW _ _ [256, 259, 340, 588, 260, 237, 489, 390, 544, 605, 833, 830, 904, 248, 332, 448, 456, 497, 509, 516, 523, 594, 664] (by decide +kernel) (by decide +kernel)
def ab_js1 : List Nat := [13, 14, 15, 16, 39, 61, 80, 91, 101, 121, 122, 123, 124, 125, 126, 127, 128, 129, 130, 131, 132]
theorem ab_mt1C : ab_mt1.all (fun x => Nat.blt x.2.2.2.1 ab_M && (ab_js1.contains x.2.2.2.1 && (match parseMethodDescriptor (ab_nm x.2.2.2.1).desc with | some g => Nat.beq x.2.2.2.2 (g.parameters.length + 0) | none => false))) = true := by decide +kernel
def ab_sw1 (j : Nat) : Jvm.Cond := .static (ab_nm j)
theorem ab_sw1W : ∀ x ∈ ab_js1, ab_sw1 x ∈ lw_tbl := ab_zipW _ _ [238, 261, 257, 341, 391, 545, 834, 831, 905, 249, 333, 449, 457, 498, 510, 517, 524, 595, 665, 589, 606] (by decide +kernel) (by decide +kernel)
def ab_sw2 (j : Nat) : Jvm.Cond := .initialized (ab_nm j).cls
theorem ab_sw2W : ∀ x ∈ ab_js1, ab_sw2 x ∈ lw_tbl := ab_zipW _ _ [1, 1, 1, 1, 5, 3, 7, 7, 7, 0, 0, 0, 0, 0, 0, 0, 0, 0, 0, 16, 17] (by decide +kernel) (by decide +kernel)
def ab_mt2 : List (Nat × Nat × Nat × Nat × Nat) := ab_mtl.filter fun x => Nat.beq x.2.2.1 2
theorem ab_lk2 : ∀ x ∈ ab_mt2, ab_lk x ∈ lw_tbl := ab_zipW _ _ [28, 80, 175, 193, 180, 87, 20, 673] (by decide +kernel) (by decide +kernel)
def ab_js2 : List Nat := [0, 20, 31, 35, 56, 62, 73]
theorem ab_mt2C : ab_mt2.all (fun x => Nat.blt x.2.2.2.1 ab_M && (ab_js2.contains x.2.2.2.1 && (match parseMethodDescriptor (ab_nm x.2.2.2.1).desc with | some g => Nat.beq x.2.2.2.2 (g.parameters.length + 1) | none => false))) = true := by decide +kernel
def ab_iw2 (j : Nat) : Jvm.Cond := .instanceMethod (ab_nm j)
theorem ab_iw2W : ∀ x ∈ ab_js2, ab_iw2 x ∈ lw_tbl := ab_zipW _ _ [21, 29, 88, 176, 81, 194, 674] (by decide +kernel) (by decide +kernel)
theorem ab_lkE {o i kd j n : Nat} (h : ab_lk (o, i, kd, j, n) ∈ lw_tbl) : Jvm.Cond.methodLink (ab_cn o) i (ab_nm j) ∈ lw_tbl ∨ ∃ host, Jvm.Cond.methodLinkNest (ab_cn o) i (ab_nm j) host ∈ lw_tbl := by
  unfold ab_lk at h
  cases hb : ab_nsl.contains (o, i) with
  | true => rw [hb] at h; exact Or.inr ⟨_, h⟩
  | false => rw [hb] at h; exact Or.inl h
theorem ab_sgE {d : String} {n m : Nat} (h : (match parseMethodDescriptor d with | some g => Nat.beq n (g.parameters.length + m) | none => false) = true) : ∀ sig, parseMethodDescriptor d = some sig → n = sig.parameters.length + m := by
  intro sig hs
  rw [hs] at h
  exact Nat.eq_of_beq_eq_true h
theorem ab_mtl_s {o i j n : Nat} (h : (o, i, 1, j, n) ∈ ab_mtl) : j < ab_M ∧ (Jvm.Cond.methodLink (ab_cn o) i (ab_nm j) ∈ lw_tbl ∨ ∃ host, Jvm.Cond.methodLinkNest (ab_cn o) i (ab_nm j) host ∈ lw_tbl) ∧ Jvm.Cond.static (ab_nm j) ∈ lw_tbl ∧ Jvm.Cond.initialized (ab_nm j).cls ∈ lw_tbl ∧ (∀ sig, parseMethodDescriptor (ab_nm j).desc = some sig → n = sig.parameters.length) ∧ ((ab_nm j).cls ≠ "java/lang/invoke/MethodHandle" ∧ (ab_nm j).cls ≠ "java/lang/invoke/VarHandle") := by
  have hm : (o, i, 1, j, n) ∈ ab_mt1 := List.mem_filter.mpr ⟨h, rfl⟩
  have hc := List.all_eq_true.mp ab_mt1C _ hm
  simp only [Bool.and_eq_true] at hc
  have hj : j < ab_M := ab_blt hc.1
  have hs : j ∈ ab_js1 := by simpa using hc.2.1
  exact ⟨hj, ab_lkE (ab_lk1 _ hm), ab_sw1W j hs, ab_sw2W j hs, ab_sgE hc.2.2, ab_nmh hj⟩
theorem ab_mtl_v {o i j n : Nat} (h : (o, i, 0, j, n) ∈ ab_mtl) : j < ab_M ∧ (Jvm.Cond.methodLink (ab_cn o) i (ab_nm j) ∈ lw_tbl ∨ ∃ host, Jvm.Cond.methodLinkNest (ab_cn o) i (ab_nm j) host ∈ lw_tbl) ∧ Jvm.Cond.instanceMethod (ab_nm j) ∈ lw_tbl ∧ Jvm.Cond.selects (ab_nm j).cls (ab_nm j) (ab_nm j) ∈ lw_tbl ∧ (∀ sig, parseMethodDescriptor (ab_nm j).desc = some sig → n = sig.parameters.length + 1) ∧ ((ab_nm j).cls ≠ "java/lang/invoke/MethodHandle" ∧ (ab_nm j).cls ≠ "java/lang/invoke/VarHandle") := by
  have hm : (o, i, 0, j, n) ∈ ab_mt0 := List.mem_filter.mpr ⟨h, rfl⟩
  have hc := List.all_eq_true.mp ab_mt0C _ hm
  simp only [Bool.and_eq_true] at hc
  have hj : j < ab_M := ab_blt hc.1
  have hs : j ∈ ab_js0 := by simpa using hc.2.1
  exact ⟨hj, ab_lkE (ab_lk0 _ hm), ab_iw0W j hs, (ab_js0C j hs).elim (ab_pubW j) (ab_prvW j), ab_sgE hc.2.2, ab_nmh hj⟩
theorem ab_js2C : ∀ j ∈ ab_js2, (ab_nm j).name = "<init>" ∧ ab_rty j = none ∧ j ∈ ab_noh := by decide +kernel
theorem ab_mtl_i {o i j n : Nat} (h : (o, i, 2, j, n) ∈ ab_mtl) : j < ab_M ∧ (Jvm.Cond.methodLink (ab_cn o) i (ab_nm j) ∈ lw_tbl ∨ ∃ host, Jvm.Cond.methodLinkNest (ab_cn o) i (ab_nm j) host ∈ lw_tbl) ∧ Jvm.Cond.instanceMethod (ab_nm j) ∈ lw_tbl ∧ Jvm.Cond.code (ab_nm j) (ab_by j) (ab_mxl j) none ∈ lw_tbl ∧ (ab_nm j).name = "<init>" ∧ (∀ sig, parseMethodDescriptor (ab_nm j).desc = some sig → n = sig.parameters.length + 1) ∧ ((ab_nm j).cls ≠ "java/lang/invoke/MethodHandle" ∧ (ab_nm j).cls ≠ "java/lang/invoke/VarHandle") := by
  have hm : (o, i, 2, j, n) ∈ ab_mt2 := List.mem_filter.mpr ⟨h, rfl⟩
  have hc := List.all_eq_true.mp ab_mt2C _ hm
  simp only [Bool.and_eq_true] at hc
  have hj : j < ab_M := ab_blt hc.1
  have hs : j ∈ ab_js2 := by simpa using hc.2.1
  obtain ⟨a, b, c⟩ := ab_js2C j hs
  exact ⟨hj, ab_lkE (ab_lk2 _ hm), ab_iw2W j hs, b ▸ ab_nohW j c, a, ab_sgE hc.2.2, ab_nmh hj⟩
theorem ab_mtl_p0 : ab_mtl.all (fun x => (!(Nat.beq x.2.2.1 0) && !(Nat.beq x.2.2.1 2)) || (Nat.ble 1 x.2.2.2.2 && Nat.blt (ab_own x.2.2.2.1) 7)) = true := by decide +kernel
theorem ab_mtl_p {o i kd j n : Nat} (h : (o, i, kd, j, n) ∈ ab_mtl) (hk : kd = 0 ∨ kd = 2) : 1 ≤ n := by
  have := List.all_eq_true.mp ab_mtl_p0 _ h
  rcases hk with rfl | rfl <;> (simp at this; omega)
theorem ab_mtl_c {o i kd j n : Nat} (h : (o, i, kd, j, n) ∈ ab_mtl) (hk : kd = 0 ∨ kd = 2) : ab_own j < 7 := by
  have := List.all_eq_true.mp ab_mtl_p0 _ h
  rcases hk with rfl | rfl <;> (simp [Nat.blt] at this; omega)
def ab_mt8 : List (Nat × Nat × Nat × Nat × Nat) := ab_mtl.filter fun x => Nat.beq x.2.2.1 8
def ab_ow (x : Nat × Nat × Nat × Nat × Nat) : Jvm.Cond := .methodLink (ab_cn x.1) x.2.1 Lib.objectInit
theorem ab_owW : ∀ x ∈ ab_mt8, ab_ow x ∈ lw_tbl := ab_zipW _ _ [23, 31, 90, 178, 83, 196, 676] (by decide +kernel) (by decide +kernel)
theorem ab_mtl_o {o i j n : Nat} (h : (o, i, 8, j, n) ∈ ab_mtl) : Jvm.Cond.methodLink (ab_cn o) i Lib.objectInit ∈ lw_tbl ∧ Jvm.Cond.instanceMethod Lib.objectInit ∈ lw_tbl ∧ Jvm.Cond.code Lib.objectInit ⟨#[0xb1]⟩ 1 none ∈ lw_tbl :=
  ⟨ab_owW _ (List.mem_filter.mpr ⟨h, rfl⟩), List.mem_append_right _ (List.mem_of_getElem? (i := 24) (by decide +kernel)), List.mem_append_right _ (List.mem_of_getElem? (i := 25) (by decide +kernel))⟩
def ab_mt9 : List (Nat × Nat × Nat × Nat × Nat) := ab_mtl.filter fun x => Nat.beq x.2.2.1 9
def ab_aw (x : Nat × Nat × Nat × Nat × Nat) : Jvm.Cond := .methodLink (ab_cn x.1) x.2.1 arraycopyName
theorem ab_awW : ∀ x ∈ ab_mt9, ab_aw x ∈ lw_tbl := ab_zipW _ _ [367] (by decide +kernel) (by decide +kernel)
theorem ab_mtl_a {o i j n : Nat} (h : (o, i, 9, j, n) ∈ ab_mtl) : Jvm.Cond.methodLink (ab_cn o) i arraycopyName ∈ lw_tbl ∧ Jvm.Cond.native arraycopyName ∈ lw_tbl ∧ Jvm.Cond.static arraycopyName ∈ lw_tbl ∧ Jvm.Cond.initialized "java/lang/System" ∈ lw_tbl :=
  ⟨ab_awW _ (List.mem_filter.mpr ⟨h, rfl⟩), List.mem_append_right _ (List.mem_of_getElem? (i := 369) (by decide +kernel)), List.mem_append_right _ (List.mem_of_getElem? (i := 368) (by decide +kernel)), List.mem_append_right _ (List.mem_of_getElem? (i := 13) (by decide +kernel))⟩
theorem ab_mdC : ∀ k, k < ab_M + 1 → ab_md k = false → ab_own k < 7 → (ab_nm k).name = "<init>" := by decide +kernel
theorem ab_ret0C : ∀ k, k < ab_M + 1 → ab_ret k = 0 → ab_rty k = none := by decide +kernel
theorem ab_ret1C : ∀ k, k < ab_M + 1 → ab_ret k = 1 → ab_rty k = some .int := by decide +kernel
theorem ab_ret2C : ∀ k, k < ab_M + 1 → ab_ret k = 2 → ab_rty k = some .long := by decide +kernel
theorem ab_ret4C : ∀ k, k < ab_M + 1 → ab_ret k = 4 → ab_rty k = some .boolean := by decide +kernel
theorem ab_ret5C : ∀ k, k < ab_M + 1 → ab_ret k = 5 → ab_rty k = some .char := by decide +kernel
theorem ab_ret3C : ∀ k, k < ab_M + 1 → ab_ret k = 3 → ab_rty k = some (.object "ShapedItems$Shape") := by decide +kernel
end
section
-- The code tables are the code.
def ab_isw (i : Instr) : Bool := match i with
  | .tableswitch _ _ _ _ => true
  | .lookupswitch _ _ => true
  | _ => false
def ab_iv1 (i : Instr) : Bool := match i with
  | .invokevirtual _ => true
  | .invokestatic _ => true
  | .invokespecial _ => true
  | _ => false
def ab_tok (pc : Nat) (i : Instr) : Bool := match i with
  | .goto o => decide (0 ≤ (pc : Int) + o)
  | .ifCond _ o => decide (0 ≤ (pc : Int) + o)
  | .if_icmp _ o => decide (0 ≤ (pc : Int) + o)
  | .tableswitch df lo hi offs => decide (0 ≤ (pc : Int) + df) && (offs.toList.all (fun o => decide (0 ≤ (pc : Int) + o)) && (decide ((offs.size : Int) = hi - lo + 1) && (decide (-2147483648 ≤ lo) && decide (hi ≤ 2147483647))))
  | .lookupswitch df ps => decide (0 ≤ (pc : Int) + df) && (ps.toList.all (fun o => decide (0 ≤ (pc : Int) + o.2) && (decide (-2147483648 ≤ o.1) && decide (o.1 ≤ 2147483647))) && (ps.toList.zip (ps.toList.drop 1)).all (fun (a, next) => a.1 < next.1))
  | _ => true
/-- where an exception is made and thrown: method, place, which, and the pool's entries: class, text, constructor -/
def ab_thl : List (Nat × Nat × Nat × Nat × Nat × Nat) := [(15, 27, 1, 123, 125, 127), (16, 10, 2, 130, 132, 134), (17, 10, 1, 123, 139, 127), (18, 19, 2, 130, 141, 134), (19, 29, 3, 150, 152, 154), (19, 50, 4, 158, 160, 162), (39, 4, 1, 61, 63, 65)]
def ab_cov (k pc : Nat) : Bool := (ab_ht k).all fun h => Nat.ble h.1 pc && Nat.blt pc h.2.1
def ab_rsv (k pc : Nat) (i : Instr) (f : Nat × Nat × Nat) : Bool := match i with
  | .getfield j => ab_fll.contains (ab_own k, j, f)
  | .putfield j => ab_fll.contains (ab_own k, j, f)
  | .getstatic j => ab_stl.contains (ab_own k, j)
  | .new j => ab_cll.contains (ab_own k, j, f) && (!(Nat.beq f.1 1) || ab_thl.any fun y => Nat.beq y.1 k && (Nat.beq y.2.1 pc && (Nat.beq y.2.2.1 f.2.1 && Nat.beq y.2.2.2.1 j)))
  | .anewarray j => ab_cll.contains (ab_own k, j, f)
  | .invokevirtual j => (Nat.beq f.1 7 || ab_mtl.contains (ab_own k, j, f)) && ab_cov k pc
  | .invokestatic j => (Nat.beq f.1 7 || ab_mtl.contains (ab_own k, j, f)) && ab_cov k pc
  | .invokespecial j => (Nat.beq f.1 7 || ab_mtl.contains (ab_own k, j, f)) && ab_cov k pc
  | .ldc2_w j => ab_csk.contains (ab_own k, j)
  | .ldc_w j => ab_cik.contains (ab_own k, j)
  | _ => true
def ab_chk (k pc : Nat) (i : Instr) (f : Nat × Nat × Nat) : Bool := (match decode (ab_by k) pc with
  | .ok (j, len) => decide (j = i) && (ab_isw i || Nat.beq len (ab_ln i))
  | .error _ => false) && (ab_tok pc i && ab_rsv k pc i f)
theorem ab_chkE {k pc : Nat} {i : Instr} {f : Nat × Nat × Nat} (h : ab_chk k pc i f = true) : ∃ len, decode (ab_by k) pc = .ok (i, len) ∧ (len = ab_ln i ∨ ab_isw i = true) ∧ ab_tok pc i = true ∧ ab_rsv k pc i f = true := by
  simp only [ab_chk, Bool.and_eq_true] at h
  obtain ⟨h1, h2, h3⟩ := h
  split at h1
  · rename_i j len hd
    simp only [Bool.and_eq_true, decide_eq_true_eq, Bool.or_eq_true] at h1
    obtain ⟨rfl, h4⟩ := h1
    refine ⟨len, hd, ?_, h2, h3⟩
    rcases h4 with h4 | h4
    · exact Or.inr h4
    · exact Or.inl (Nat.eq_of_beq_eq_true h4)
  · cases h1
end
section
-- The code tables are the code: checked.
def ab_c1 (k pc : Nat) : Bool := match ab_int k pc with
  | none => true
  | some x => ab_chk k pc x.1 x.2
def ab_ck (k a n : Nat) : Bool := (List.range n).all fun i => ab_c1 k (a + i)
theorem ab_ckE {k a n pc : Nat} (h : ab_ck k a n = true) (h1 : a ≤ pc) (h2 : pc < a + n) : ab_c1 k pc = true := by
  have := List.all_eq_true.mp h (pc - a) (List.mem_range.mpr (by omega))
  rwa [show a + (pc - a) = pc by omega] at this
theorem ab_k0_0 : ab_ck 0 0 65 = true := by decide +kernel
theorem ab_k1_0 : ab_ck 1 0 61 = true := by decide +kernel
theorem ab_k2_0 : ab_ck 2 0 54 = true := by decide +kernel
theorem ab_k3_0 : ab_ck 3 0 31 = true := by decide +kernel
theorem ab_k4_0 : ab_ck 4 0 10 = true := by decide +kernel
theorem ab_k5_0 : ab_ck 5 0 8 = true := by decide +kernel
theorem ab_k6_0 : ab_ck 6 0 12 = true := by decide +kernel
theorem ab_k7_0 : ab_ck 7 0 15 = true := by decide +kernel
theorem ab_k8_0 : ab_ck 8 0 15 = true := by decide +kernel
theorem ab_k9_0 : ab_ck 9 0 15 = true := by decide +kernel
theorem ab_k10_0 : ab_ck 10 0 9 = true := by decide +kernel
theorem ab_k11_0 : ab_ck 11 0 20 = true := by decide +kernel
theorem ab_k12_0 : ab_ck 12 0 21 = true := by decide +kernel
theorem ab_k13_0 : ab_ck 13 0 12 = true := by decide +kernel
theorem ab_k14_0 : ab_ck 14 0 18 = true := by decide +kernel
theorem ab_k15_0 : ab_ck 15 0 45 = true := by decide +kernel
theorem ab_k16_0 : ab_ck 16 0 21 = true := by decide +kernel
theorem ab_k17_0 : ab_ck 17 0 21 = true := by decide +kernel
theorem ab_k18_0 : ab_ck 18 0 30 = true := by decide +kernel
theorem ab_k19_0 : ab_ck 19 0 62 = true := by decide +kernel
theorem ab_k20_0 : ab_ck 20 0 53 = true := by decide +kernel
theorem ab_k21_0 : ab_ck 21 0 77 = true := by decide +kernel
theorem ab_k22_0 : ab_ck 22 0 17 = true := by decide +kernel
theorem ab_k23_0 : ab_ck 23 0 55 = true := by decide +kernel
theorem ab_k24_0 : ab_ck 24 0 64 = true := by decide +kernel
theorem ab_k24_64 : ab_ck 24 64 64 = true := by decide +kernel
theorem ab_k24_128 : ab_ck 24 128 53 = true := by decide +kernel
theorem ab_k25_0 : ab_ck 25 0 64 = true := by decide +kernel
theorem ab_k25_64 : ab_ck 25 64 29 = true := by decide +kernel
theorem ab_k26_0 : ab_ck 26 0 64 = true := by decide +kernel
theorem ab_k26_64 : ab_ck 26 64 22 = true := by decide +kernel
theorem ab_k27_0 : ab_ck 27 0 71 = true := by decide +kernel
theorem ab_k28_0 : ab_ck 28 0 39 = true := by decide +kernel
theorem ab_k29_0 : ab_ck 29 0 25 = true := by decide +kernel
theorem ab_k30_0 : ab_ck 30 0 29 = true := by decide +kernel
theorem ab_k31_0 : ab_ck 31 0 64 = true := by decide +kernel
theorem ab_k31_64 : ab_ck 31 64 21 = true := by decide +kernel
theorem ab_k32_0 : ab_ck 32 0 26 = true := by decide +kernel
theorem ab_k33_0 : ab_ck 33 0 28 = true := by decide +kernel
theorem ab_k34_0 : ab_ck 34 0 28 = true := by decide +kernel
theorem ab_k35_0 : ab_ck 35 0 16 = true := by decide +kernel
theorem ab_k36_0 : ab_ck 36 0 83 = true := by decide +kernel
theorem ab_k37_0 : ab_ck 37 0 12 = true := by decide +kernel
theorem ab_k38_0 : ab_ck 38 0 33 = true := by decide +kernel
theorem ab_k39_0 : ab_ck 39 0 15 = true := by decide +kernel
theorem ab_k40_0 : ab_ck 40 0 31 = true := by decide +kernel
theorem ab_k41_0 : ab_ck 41 0 22 = true := by decide +kernel
theorem ab_k42_0 : ab_ck 42 0 24 = true := by decide +kernel
theorem ab_k43_0 : ab_ck 43 0 56 = true := by decide +kernel
theorem ab_k44_0 : ab_ck 44 0 64 = true := by decide +kernel
theorem ab_k44_64 : ab_ck 44 64 64 = true := by decide +kernel
theorem ab_k44_128 : ab_ck 44 128 53 = true := by decide +kernel
theorem ab_k45_0 : ab_ck 45 0 42 = true := by decide +kernel
theorem ab_k46_0 : ab_ck 46 0 75 = true := by decide +kernel
theorem ab_k47_0 : ab_ck 47 0 64 = true := by decide +kernel
theorem ab_k47_64 : ab_ck 47 64 37 = true := by decide +kernel
theorem ab_k48_0 : ab_ck 48 0 64 = true := by decide +kernel
theorem ab_k48_64 : ab_ck 48 64 20 = true := by decide +kernel
theorem ab_k49_0 : ab_ck 49 0 70 = true := by decide +kernel
theorem ab_k50_0 : ab_ck 50 0 64 = true := by decide +kernel
theorem ab_k50_64 : ab_ck 50 64 36 = true := by decide +kernel
theorem ab_k51_0 : ab_ck 51 0 73 = true := by decide +kernel
theorem ab_k52_0 : ab_ck 52 0 64 = true := by decide +kernel
theorem ab_k52_64 : ab_ck 52 64 64 = true := by decide +kernel
theorem ab_k52_128 : ab_ck 52 128 32 = true := by decide +kernel
theorem ab_k53_0 : ab_ck 53 0 51 = true := by decide +kernel
theorem ab_k54_0 : ab_ck 54 0 38 = true := by decide +kernel
theorem ab_k55_0 : ab_ck 55 0 80 = true := by decide +kernel
theorem ab_k56_0 : ab_ck 56 0 41 = true := by decide +kernel
theorem ab_k57_0 : ab_ck 57 0 48 = true := by decide +kernel
theorem ab_k58_0 : ab_ck 58 0 59 = true := by decide +kernel
theorem ab_k59_0 : ab_ck 59 0 38 = true := by decide +kernel
theorem ab_k60_0 : ab_ck 60 0 39 = true := by decide +kernel
theorem ab_k61_0 : ab_ck 61 0 14 = true := by decide +kernel
theorem ab_k62_0 : ab_ck 62 0 33 = true := by decide +kernel
theorem ab_k63_0 : ab_ck 63 0 24 = true := by decide +kernel
theorem ab_k64_0 : ab_ck 64 0 64 = true := by decide +kernel
theorem ab_k64_64 : ab_ck 64 64 48 = true := by decide +kernel
theorem ab_k65_0 : ab_ck 65 0 60 = true := by decide +kernel
theorem ab_k66_0 : ab_ck 66 0 64 = true := by decide +kernel
theorem ab_k66_64 : ab_ck 66 64 64 = true := by decide +kernel
theorem ab_k66_128 : ab_ck 66 128 64 = true := by decide +kernel
theorem ab_k66_192 : ab_ck 66 192 64 = true := by decide +kernel
theorem ab_k66_256 : ab_ck 66 256 64 = true := by decide +kernel
theorem ab_k66_320 : ab_ck 66 320 79 = true := by decide +kernel
theorem ab_k67_0 : ab_ck 67 0 45 = true := by decide +kernel
theorem ab_k68_0 : ab_ck 68 0 64 = true := by decide +kernel
theorem ab_k68_64 : ab_ck 68 64 26 = true := by decide +kernel
theorem ab_k69_0 : ab_ck 69 0 64 = true := by decide +kernel
theorem ab_k69_64 : ab_ck 69 64 36 = true := by decide +kernel
theorem ab_k70_0 : ab_ck 70 0 78 = true := by decide +kernel
theorem ab_k71_0 : ab_ck 71 0 64 = true := by decide +kernel
theorem ab_k71_64 : ab_ck 71 64 64 = true := by decide +kernel
theorem ab_k71_128 : ab_ck 71 128 26 = true := by decide +kernel
theorem ab_k72_0 : ab_ck 72 0 64 = true := by decide +kernel
theorem ab_k72_64 : ab_ck 72 64 64 = true := by decide +kernel
theorem ab_k72_128 : ab_ck 72 128 32 = true := by decide +kernel
theorem ab_k73_0 : ab_ck 73 0 64 = true := by decide +kernel
theorem ab_k73_64 : ab_ck 73 64 64 = true := by decide +kernel
theorem ab_k73_128 : ab_ck 73 128 64 = true := by decide +kernel
theorem ab_k73_192 : ab_ck 73 192 52 = true := by decide +kernel
theorem ab_k74_0 : ab_ck 74 0 5 = true := by decide +kernel
theorem ab_k75_0 : ab_ck 75 0 64 = true := by decide +kernel
theorem ab_k75_64 : ab_ck 75 64 64 = true := by decide +kernel
theorem ab_k75_128 : ab_ck 75 128 33 = true := by decide +kernel
theorem ab_k76_0 : ab_ck 76 0 80 = true := by decide +kernel
theorem ab_k77_0 : ab_ck 77 0 17 = true := by decide +kernel
theorem ab_k78_0 : ab_ck 78 0 25 = true := by decide +kernel
theorem ab_k79_0 : ab_ck 79 0 22 = true := by decide +kernel
theorem ab_k80_0 : ab_ck 80 0 18 = true := by decide +kernel
theorem ab_k81_0 : ab_ck 81 0 67 = true := by decide +kernel
theorem ab_k82_0 : ab_ck 82 0 64 = true := by decide +kernel
theorem ab_k82_64 : ab_ck 82 64 31 = true := by decide +kernel
theorem ab_k83_0 : ab_ck 83 0 31 = true := by decide +kernel
theorem ab_k84_0 : ab_ck 84 0 64 = true := by decide +kernel
theorem ab_k84_64 : ab_ck 84 64 64 = true := by decide +kernel
theorem ab_k84_128 : ab_ck 84 128 81 = true := by decide +kernel
theorem ab_k85_0 : ab_ck 85 0 64 = true := by decide +kernel
theorem ab_k85_64 : ab_ck 85 64 32 = true := by decide +kernel
theorem ab_k86_0 : ab_ck 86 0 41 = true := by decide +kernel
theorem ab_k87_0 : ab_ck 87 0 64 = true := by decide +kernel
theorem ab_k87_64 : ab_ck 87 64 26 = true := by decide +kernel
theorem ab_k88_0 : ab_ck 88 0 64 = true := by decide +kernel
theorem ab_k88_64 : ab_ck 88 64 24 = true := by decide +kernel
theorem ab_k89_0 : ab_ck 89 0 64 = true := by decide +kernel
theorem ab_k89_64 : ab_ck 89 64 37 = true := by decide +kernel
theorem ab_k90_0 : ab_ck 90 0 64 = true := by decide +kernel
theorem ab_k90_64 : ab_ck 90 64 32 = true := by decide +kernel
theorem ab_k91_0 : ab_ck 91 0 62 = true := by decide +kernel
theorem ab_k92_0 : ab_ck 92 0 64 = true := by decide +kernel
theorem ab_k92_64 : ab_ck 92 64 64 = true := by decide +kernel
theorem ab_k93_0 : ab_ck 93 0 64 = true := by decide +kernel
theorem ab_k93_64 : ab_ck 93 64 64 = true := by decide +kernel
theorem ab_k93_128 : ab_ck 93 128 64 = true := by decide +kernel
theorem ab_k93_192 : ab_ck 93 192 64 = true := by decide +kernel
theorem ab_k93_256 : ab_ck 93 256 78 = true := by decide +kernel
theorem ab_k94_0 : ab_ck 94 0 64 = true := by decide +kernel
theorem ab_k94_64 : ab_ck 94 64 64 = true := by decide +kernel
theorem ab_k94_128 : ab_ck 94 128 64 = true := by decide +kernel
theorem ab_k94_192 : ab_ck 94 192 27 = true := by decide +kernel
theorem ab_k95_0 : ab_ck 95 0 64 = true := by decide +kernel
theorem ab_k95_64 : ab_ck 95 64 81 = true := by decide +kernel
theorem ab_k96_0 : ab_ck 96 0 64 = true := by decide +kernel
theorem ab_k96_64 : ab_ck 96 64 64 = true := by decide +kernel
theorem ab_k96_128 : ab_ck 96 128 64 = true := by decide +kernel
theorem ab_k96_192 : ab_ck 96 192 64 = true := by decide +kernel
theorem ab_k96_256 : ab_ck 96 256 64 = true := by decide +kernel
theorem ab_k96_320 : ab_ck 96 320 53 = true := by decide +kernel
theorem ab_k97_0 : ab_ck 97 0 44 = true := by decide +kernel
theorem ab_k98_0 : ab_ck 98 0 80 = true := by decide +kernel
theorem ab_k99_0 : ab_ck 99 0 64 = true := by decide +kernel
theorem ab_k99_64 : ab_ck 99 64 48 = true := by decide +kernel
theorem ab_k100_0 : ab_ck 100 0 49 = true := by decide +kernel
theorem ab_k101_0 : ab_ck 101 0 42 = true := by decide +kernel
theorem ab_k102_0 : ab_ck 102 0 64 = true := by decide +kernel
theorem ab_k102_64 : ab_ck 102 64 64 = true := by decide +kernel
theorem ab_k102_128 : ab_ck 102 128 64 = true := by decide +kernel
theorem ab_k102_192 : ab_ck 102 192 64 = true := by decide +kernel
theorem ab_k102_256 : ab_ck 102 256 64 = true := by decide +kernel
theorem ab_k102_320 : ab_ck 102 320 58 = true := by decide +kernel
theorem ab_k103_0 : ab_ck 103 0 55 = true := by decide +kernel
theorem ab_k104_0 : ab_ck 104 0 80 = true := by decide +kernel
theorem ab_k105_0 : ab_ck 105 0 32 = true := by decide +kernel
theorem ab_k106_0 : ab_ck 106 0 45 = true := by decide +kernel
theorem ab_k107_0 : ab_ck 107 0 19 = true := by decide +kernel
theorem ab_k108_0 : ab_ck 108 0 19 = true := by decide +kernel
theorem ab_k109_0 : ab_ck 109 0 19 = true := by decide +kernel
theorem ab_k110_0 : ab_ck 110 0 32 = true := by decide +kernel
theorem ab_k111_0 : ab_ck 111 0 64 = true := by decide +kernel
theorem ab_k111_64 : ab_ck 111 64 41 = true := by decide +kernel
theorem ab_k112_0 : ab_ck 112 0 29 = true := by decide +kernel
theorem ab_k113_0 : ab_ck 113 0 64 = true := by decide +kernel
theorem ab_k113_64 : ab_ck 113 64 64 = true := by decide +kernel
theorem ab_k113_128 : ab_ck 113 128 56 = true := by decide +kernel
theorem ab_k114_0 : ab_ck 114 0 64 = true := by decide +kernel
theorem ab_k114_64 : ab_ck 114 64 64 = true := by decide +kernel
theorem ab_k114_128 : ab_ck 114 128 29 = true := by decide +kernel
theorem ab_k115_0 : ab_ck 115 0 64 = true := by decide +kernel
theorem ab_k115_64 : ab_ck 115 64 64 = true := by decide +kernel
theorem ab_k115_128 : ab_ck 115 128 64 = true := by decide +kernel
theorem ab_k115_192 : ab_ck 115 192 64 = true := by decide +kernel
theorem ab_k115_256 : ab_ck 115 256 64 = true := by decide +kernel
theorem ab_k115_320 : ab_ck 115 320 80 = true := by decide +kernel
theorem ab_k116_0 : ab_ck 116 0 54 = true := by decide +kernel
theorem ab_k117_0 : ab_ck 117 0 64 = true := by decide +kernel
theorem ab_k117_64 : ab_ck 117 64 64 = true := by decide +kernel
theorem ab_k117_128 : ab_ck 117 128 64 = true := by decide +kernel
theorem ab_k117_192 : ab_ck 117 192 64 = true := by decide +kernel
theorem ab_k117_256 : ab_ck 117 256 64 = true := by decide +kernel
theorem ab_k117_320 : ab_ck 117 320 44 = true := by decide +kernel
theorem ab_k118_0 : ab_ck 118 0 64 = true := by decide +kernel
theorem ab_k118_64 : ab_ck 118 64 64 = true := by decide +kernel
theorem ab_k118_128 : ab_ck 118 128 32 = true := by decide +kernel
theorem ab_k119_0 : ab_ck 119 0 60 = true := by decide +kernel
theorem ab_k120_0 : ab_ck 120 0 64 = true := by decide +kernel
theorem ab_k120_64 : ab_ck 120 64 27 = true := by decide +kernel
theorem ab_k121_0 : ab_ck 121 0 24 = true := by decide +kernel
theorem ab_k122_0 : ab_ck 122 0 20 = true := by decide +kernel
theorem ab_k123_0 : ab_ck 123 0 24 = true := by decide +kernel
theorem ab_k124_0 : ab_ck 124 0 16 = true := by decide +kernel
theorem ab_k125_0 : ab_ck 125 0 20 = true := by decide +kernel
theorem ab_k126_0 : ab_ck 126 0 19 = true := by decide +kernel
theorem ab_k127_0 : ab_ck 127 0 20 = true := by decide +kernel
theorem ab_k128_0 : ab_ck 128 0 23 = true := by decide +kernel
theorem ab_k129_0 : ab_ck 129 0 33 = true := by decide +kernel
theorem ab_k130_0 : ab_ck 130 0 38 = true := by decide +kernel
theorem ab_k131_0 : ab_ck 131 0 53 = true := by decide +kernel
theorem ab_k132_0 : ab_ck 132 0 21 = true := by decide +kernel
theorem ab_k133_0 : ab_ck 133 0 64 = true := by decide +kernel
theorem ab_k133_64 : ab_ck 133 64 64 = true := by decide +kernel
theorem ab_k133_128 : ab_ck 133 128 64 = true := by decide +kernel
theorem ab_k133_192 : ab_ck 133 192 64 = true := by decide +kernel
theorem ab_k133_256 : ab_ck 133 256 64 = true := by decide +kernel
theorem ab_k133_320 : ab_ck 133 320 64 = true := by decide +kernel
theorem ab_k133_384 : ab_ck 133 384 64 = true := by decide +kernel
theorem ab_k133_448 : ab_ck 133 448 64 = true := by decide +kernel
theorem ab_k133_512 : ab_ck 133 512 64 = true := by decide +kernel
theorem ab_k133_576 : ab_ck 133 576 64 = true := by decide +kernel
theorem ab_k133_640 : ab_ck 133 640 64 = true := by decide +kernel
theorem ab_k133_704 : ab_ck 133 704 73 = true := by decide +kernel
theorem ab_ckA : ∀ k, k < ab_M + 1 → ∀ pc, pc < ab_sz k → ab_c1 k pc = true := by
  intro k hk pc hp
  have hk : k < 134 := hk
  by_cases k67 : k < 67
  · skip
    by_cases k33 : k < 33
    · skip
      by_cases k16 : k < 16
      · skip
        by_cases k8 : k < 8
        · skip
          by_cases k4 : k < 4
          · skip
            by_cases k2 : k < 2
            · skip
              by_cases k1 : k < 1
              · skip
                have e : k = 0 := by omega
                subst e
                have hp : pc < 65 := hp
                exact ab_ckE ab_k0_0 (by omega) (by omega)
              · skip
                have e : k = 1 := by omega
                subst e
                have hp : pc < 61 := hp
                exact ab_ckE ab_k1_0 (by omega) (by omega)
            · skip
              by_cases k3 : k < 3
              · skip
                have e : k = 2 := by omega
                subst e
                have hp : pc < 54 := hp
                exact ab_ckE ab_k2_0 (by omega) (by omega)
              · skip
                have e : k = 3 := by omega
                subst e
                have hp : pc < 31 := hp
                exact ab_ckE ab_k3_0 (by omega) (by omega)
          · skip
            by_cases k6 : k < 6
            · skip
              by_cases k5 : k < 5
              · skip
                have e : k = 4 := by omega
                subst e
                have hp : pc < 10 := hp
                exact ab_ckE ab_k4_0 (by omega) (by omega)
              · skip
                have e : k = 5 := by omega
                subst e
                have hp : pc < 8 := hp
                exact ab_ckE ab_k5_0 (by omega) (by omega)
            · skip
              by_cases k7 : k < 7
              · skip
                have e : k = 6 := by omega
                subst e
                have hp : pc < 12 := hp
                exact ab_ckE ab_k6_0 (by omega) (by omega)
              · skip
                have e : k = 7 := by omega
                subst e
                have hp : pc < 15 := hp
                exact ab_ckE ab_k7_0 (by omega) (by omega)
        · skip
          by_cases k12 : k < 12
          · skip
            by_cases k10 : k < 10
            · skip
              by_cases k9 : k < 9
              · skip
                have e : k = 8 := by omega
                subst e
                have hp : pc < 15 := hp
                exact ab_ckE ab_k8_0 (by omega) (by omega)
              · skip
                have e : k = 9 := by omega
                subst e
                have hp : pc < 15 := hp
                exact ab_ckE ab_k9_0 (by omega) (by omega)
            · skip
              by_cases k11 : k < 11
              · skip
                have e : k = 10 := by omega
                subst e
                have hp : pc < 9 := hp
                exact ab_ckE ab_k10_0 (by omega) (by omega)
              · skip
                have e : k = 11 := by omega
                subst e
                have hp : pc < 20 := hp
                exact ab_ckE ab_k11_0 (by omega) (by omega)
          · skip
            by_cases k14 : k < 14
            · skip
              by_cases k13 : k < 13
              · skip
                have e : k = 12 := by omega
                subst e
                have hp : pc < 21 := hp
                exact ab_ckE ab_k12_0 (by omega) (by omega)
              · skip
                have e : k = 13 := by omega
                subst e
                have hp : pc < 12 := hp
                exact ab_ckE ab_k13_0 (by omega) (by omega)
            · skip
              by_cases k15 : k < 15
              · skip
                have e : k = 14 := by omega
                subst e
                have hp : pc < 18 := hp
                exact ab_ckE ab_k14_0 (by omega) (by omega)
              · skip
                have e : k = 15 := by omega
                subst e
                have hp : pc < 45 := hp
                exact ab_ckE ab_k15_0 (by omega) (by omega)
      · skip
        by_cases k24 : k < 24
        · skip
          by_cases k20 : k < 20
          · skip
            by_cases k18 : k < 18
            · skip
              by_cases k17 : k < 17
              · skip
                have e : k = 16 := by omega
                subst e
                have hp : pc < 21 := hp
                exact ab_ckE ab_k16_0 (by omega) (by omega)
              · skip
                have e : k = 17 := by omega
                subst e
                have hp : pc < 21 := hp
                exact ab_ckE ab_k17_0 (by omega) (by omega)
            · skip
              by_cases k19 : k < 19
              · skip
                have e : k = 18 := by omega
                subst e
                have hp : pc < 30 := hp
                exact ab_ckE ab_k18_0 (by omega) (by omega)
              · skip
                have e : k = 19 := by omega
                subst e
                have hp : pc < 62 := hp
                exact ab_ckE ab_k19_0 (by omega) (by omega)
          · skip
            by_cases k22 : k < 22
            · skip
              by_cases k21 : k < 21
              · skip
                have e : k = 20 := by omega
                subst e
                have hp : pc < 53 := hp
                exact ab_ckE ab_k20_0 (by omega) (by omega)
              · skip
                have e : k = 21 := by omega
                subst e
                have hp : pc < 77 := hp
                exact ab_ckE ab_k21_0 (by omega) (by omega)
            · skip
              by_cases k23 : k < 23
              · skip
                have e : k = 22 := by omega
                subst e
                have hp : pc < 17 := hp
                exact ab_ckE ab_k22_0 (by omega) (by omega)
              · skip
                have e : k = 23 := by omega
                subst e
                have hp : pc < 55 := hp
                exact ab_ckE ab_k23_0 (by omega) (by omega)
        · skip
          by_cases k28 : k < 28
          · skip
            by_cases k26 : k < 26
            · skip
              by_cases k25 : k < 25
              · skip
                have e : k = 24 := by omega
                subst e
                have hp : pc < 181 := hp
                by_cases q64 : pc < 64
                · exact ab_ckE ab_k24_0 (by omega) (by omega)
                by_cases q128 : pc < 128
                · exact ab_ckE ab_k24_64 (by omega) (by omega)
                exact ab_ckE ab_k24_128 (by omega) (by omega)
              · skip
                have e : k = 25 := by omega
                subst e
                have hp : pc < 93 := hp
                by_cases q64 : pc < 64
                · exact ab_ckE ab_k25_0 (by omega) (by omega)
                exact ab_ckE ab_k25_64 (by omega) (by omega)
            · skip
              by_cases k27 : k < 27
              · skip
                have e : k = 26 := by omega
                subst e
                have hp : pc < 86 := hp
                by_cases q64 : pc < 64
                · exact ab_ckE ab_k26_0 (by omega) (by omega)
                exact ab_ckE ab_k26_64 (by omega) (by omega)
              · skip
                have e : k = 27 := by omega
                subst e
                have hp : pc < 71 := hp
                exact ab_ckE ab_k27_0 (by omega) (by omega)
          · skip
            by_cases k30 : k < 30
            · skip
              by_cases k29 : k < 29
              · skip
                have e : k = 28 := by omega
                subst e
                have hp : pc < 39 := hp
                exact ab_ckE ab_k28_0 (by omega) (by omega)
              · skip
                have e : k = 29 := by omega
                subst e
                have hp : pc < 25 := hp
                exact ab_ckE ab_k29_0 (by omega) (by omega)
            · skip
              by_cases k31 : k < 31
              · skip
                have e : k = 30 := by omega
                subst e
                have hp : pc < 29 := hp
                exact ab_ckE ab_k30_0 (by omega) (by omega)
              · skip
                by_cases k32 : k < 32
                · skip
                  have e : k = 31 := by omega
                  subst e
                  have hp : pc < 85 := hp
                  by_cases q64 : pc < 64
                  · exact ab_ckE ab_k31_0 (by omega) (by omega)
                  exact ab_ckE ab_k31_64 (by omega) (by omega)
                · skip
                  have e : k = 32 := by omega
                  subst e
                  have hp : pc < 26 := hp
                  exact ab_ckE ab_k32_0 (by omega) (by omega)
    · skip
      by_cases k50 : k < 50
      · skip
        by_cases k41 : k < 41
        · skip
          by_cases k37 : k < 37
          · skip
            by_cases k35 : k < 35
            · skip
              by_cases k34 : k < 34
              · skip
                have e : k = 33 := by omega
                subst e
                have hp : pc < 28 := hp
                exact ab_ckE ab_k33_0 (by omega) (by omega)
              · skip
                have e : k = 34 := by omega
                subst e
                have hp : pc < 28 := hp
                exact ab_ckE ab_k34_0 (by omega) (by omega)
            · skip
              by_cases k36 : k < 36
              · skip
                have e : k = 35 := by omega
                subst e
                have hp : pc < 16 := hp
                exact ab_ckE ab_k35_0 (by omega) (by omega)
              · skip
                have e : k = 36 := by omega
                subst e
                have hp : pc < 83 := hp
                exact ab_ckE ab_k36_0 (by omega) (by omega)
          · skip
            by_cases k39 : k < 39
            · skip
              by_cases k38 : k < 38
              · skip
                have e : k = 37 := by omega
                subst e
                have hp : pc < 12 := hp
                exact ab_ckE ab_k37_0 (by omega) (by omega)
              · skip
                have e : k = 38 := by omega
                subst e
                have hp : pc < 33 := hp
                exact ab_ckE ab_k38_0 (by omega) (by omega)
            · skip
              by_cases k40 : k < 40
              · skip
                have e : k = 39 := by omega
                subst e
                have hp : pc < 15 := hp
                exact ab_ckE ab_k39_0 (by omega) (by omega)
              · skip
                have e : k = 40 := by omega
                subst e
                have hp : pc < 31 := hp
                exact ab_ckE ab_k40_0 (by omega) (by omega)
        · skip
          by_cases k45 : k < 45
          · skip
            by_cases k43 : k < 43
            · skip
              by_cases k42 : k < 42
              · skip
                have e : k = 41 := by omega
                subst e
                have hp : pc < 22 := hp
                exact ab_ckE ab_k41_0 (by omega) (by omega)
              · skip
                have e : k = 42 := by omega
                subst e
                have hp : pc < 24 := hp
                exact ab_ckE ab_k42_0 (by omega) (by omega)
            · skip
              by_cases k44 : k < 44
              · skip
                have e : k = 43 := by omega
                subst e
                have hp : pc < 56 := hp
                exact ab_ckE ab_k43_0 (by omega) (by omega)
              · skip
                have e : k = 44 := by omega
                subst e
                have hp : pc < 181 := hp
                by_cases q64 : pc < 64
                · exact ab_ckE ab_k44_0 (by omega) (by omega)
                by_cases q128 : pc < 128
                · exact ab_ckE ab_k44_64 (by omega) (by omega)
                exact ab_ckE ab_k44_128 (by omega) (by omega)
          · skip
            by_cases k47 : k < 47
            · skip
              by_cases k46 : k < 46
              · skip
                have e : k = 45 := by omega
                subst e
                have hp : pc < 42 := hp
                exact ab_ckE ab_k45_0 (by omega) (by omega)
              · skip
                have e : k = 46 := by omega
                subst e
                have hp : pc < 75 := hp
                exact ab_ckE ab_k46_0 (by omega) (by omega)
            · skip
              by_cases k48 : k < 48
              · skip
                have e : k = 47 := by omega
                subst e
                have hp : pc < 101 := hp
                by_cases q64 : pc < 64
                · exact ab_ckE ab_k47_0 (by omega) (by omega)
                exact ab_ckE ab_k47_64 (by omega) (by omega)
              · skip
                by_cases k49 : k < 49
                · skip
                  have e : k = 48 := by omega
                  subst e
                  have hp : pc < 84 := hp
                  by_cases q64 : pc < 64
                  · exact ab_ckE ab_k48_0 (by omega) (by omega)
                  exact ab_ckE ab_k48_64 (by omega) (by omega)
                · skip
                  have e : k = 49 := by omega
                  subst e
                  have hp : pc < 70 := hp
                  exact ab_ckE ab_k49_0 (by omega) (by omega)
      · skip
        by_cases k58 : k < 58
        · skip
          by_cases k54 : k < 54
          · skip
            by_cases k52 : k < 52
            · skip
              by_cases k51 : k < 51
              · skip
                have e : k = 50 := by omega
                subst e
                have hp : pc < 100 := hp
                by_cases q64 : pc < 64
                · exact ab_ckE ab_k50_0 (by omega) (by omega)
                exact ab_ckE ab_k50_64 (by omega) (by omega)
              · skip
                have e : k = 51 := by omega
                subst e
                have hp : pc < 73 := hp
                exact ab_ckE ab_k51_0 (by omega) (by omega)
            · skip
              by_cases k53 : k < 53
              · skip
                have e : k = 52 := by omega
                subst e
                have hp : pc < 160 := hp
                by_cases q64 : pc < 64
                · exact ab_ckE ab_k52_0 (by omega) (by omega)
                by_cases q128 : pc < 128
                · exact ab_ckE ab_k52_64 (by omega) (by omega)
                exact ab_ckE ab_k52_128 (by omega) (by omega)
              · skip
                have e : k = 53 := by omega
                subst e
                have hp : pc < 51 := hp
                exact ab_ckE ab_k53_0 (by omega) (by omega)
          · skip
            by_cases k56 : k < 56
            · skip
              by_cases k55 : k < 55
              · skip
                have e : k = 54 := by omega
                subst e
                have hp : pc < 38 := hp
                exact ab_ckE ab_k54_0 (by omega) (by omega)
              · skip
                have e : k = 55 := by omega
                subst e
                have hp : pc < 80 := hp
                exact ab_ckE ab_k55_0 (by omega) (by omega)
            · skip
              by_cases k57 : k < 57
              · skip
                have e : k = 56 := by omega
                subst e
                have hp : pc < 41 := hp
                exact ab_ckE ab_k56_0 (by omega) (by omega)
              · skip
                have e : k = 57 := by omega
                subst e
                have hp : pc < 48 := hp
                exact ab_ckE ab_k57_0 (by omega) (by omega)
        · skip
          by_cases k62 : k < 62
          · skip
            by_cases k60 : k < 60
            · skip
              by_cases k59 : k < 59
              · skip
                have e : k = 58 := by omega
                subst e
                have hp : pc < 59 := hp
                exact ab_ckE ab_k58_0 (by omega) (by omega)
              · skip
                have e : k = 59 := by omega
                subst e
                have hp : pc < 38 := hp
                exact ab_ckE ab_k59_0 (by omega) (by omega)
            · skip
              by_cases k61 : k < 61
              · skip
                have e : k = 60 := by omega
                subst e
                have hp : pc < 39 := hp
                exact ab_ckE ab_k60_0 (by omega) (by omega)
              · skip
                have e : k = 61 := by omega
                subst e
                have hp : pc < 14 := hp
                exact ab_ckE ab_k61_0 (by omega) (by omega)
          · skip
            by_cases k64 : k < 64
            · skip
              by_cases k63 : k < 63
              · skip
                have e : k = 62 := by omega
                subst e
                have hp : pc < 33 := hp
                exact ab_ckE ab_k62_0 (by omega) (by omega)
              · skip
                have e : k = 63 := by omega
                subst e
                have hp : pc < 24 := hp
                exact ab_ckE ab_k63_0 (by omega) (by omega)
            · skip
              by_cases k65 : k < 65
              · skip
                have e : k = 64 := by omega
                subst e
                have hp : pc < 112 := hp
                by_cases q64 : pc < 64
                · exact ab_ckE ab_k64_0 (by omega) (by omega)
                exact ab_ckE ab_k64_64 (by omega) (by omega)
              · skip
                by_cases k66 : k < 66
                · skip
                  have e : k = 65 := by omega
                  subst e
                  have hp : pc < 60 := hp
                  exact ab_ckE ab_k65_0 (by omega) (by omega)
                · skip
                  have e : k = 66 := by omega
                  subst e
                  have hp : pc < 399 := hp
                  by_cases q64 : pc < 64
                  · exact ab_ckE ab_k66_0 (by omega) (by omega)
                  by_cases q128 : pc < 128
                  · exact ab_ckE ab_k66_64 (by omega) (by omega)
                  by_cases q192 : pc < 192
                  · exact ab_ckE ab_k66_128 (by omega) (by omega)
                  by_cases q256 : pc < 256
                  · exact ab_ckE ab_k66_192 (by omega) (by omega)
                  by_cases q320 : pc < 320
                  · exact ab_ckE ab_k66_256 (by omega) (by omega)
                  exact ab_ckE ab_k66_320 (by omega) (by omega)
  · skip
    by_cases k100 : k < 100
    · skip
      by_cases k83 : k < 83
      · skip
        by_cases k75 : k < 75
        · skip
          by_cases k71 : k < 71
          · skip
            by_cases k69 : k < 69
            · skip
              by_cases k68 : k < 68
              · skip
                have e : k = 67 := by omega
                subst e
                have hp : pc < 45 := hp
                exact ab_ckE ab_k67_0 (by omega) (by omega)
              · skip
                have e : k = 68 := by omega
                subst e
                have hp : pc < 90 := hp
                by_cases q64 : pc < 64
                · exact ab_ckE ab_k68_0 (by omega) (by omega)
                exact ab_ckE ab_k68_64 (by omega) (by omega)
            · skip
              by_cases k70 : k < 70
              · skip
                have e : k = 69 := by omega
                subst e
                have hp : pc < 100 := hp
                by_cases q64 : pc < 64
                · exact ab_ckE ab_k69_0 (by omega) (by omega)
                exact ab_ckE ab_k69_64 (by omega) (by omega)
              · skip
                have e : k = 70 := by omega
                subst e
                have hp : pc < 78 := hp
                exact ab_ckE ab_k70_0 (by omega) (by omega)
          · skip
            by_cases k73 : k < 73
            · skip
              by_cases k72 : k < 72
              · skip
                have e : k = 71 := by omega
                subst e
                have hp : pc < 154 := hp
                by_cases q64 : pc < 64
                · exact ab_ckE ab_k71_0 (by omega) (by omega)
                by_cases q128 : pc < 128
                · exact ab_ckE ab_k71_64 (by omega) (by omega)
                exact ab_ckE ab_k71_128 (by omega) (by omega)
              · skip
                have e : k = 72 := by omega
                subst e
                have hp : pc < 160 := hp
                by_cases q64 : pc < 64
                · exact ab_ckE ab_k72_0 (by omega) (by omega)
                by_cases q128 : pc < 128
                · exact ab_ckE ab_k72_64 (by omega) (by omega)
                exact ab_ckE ab_k72_128 (by omega) (by omega)
            · skip
              by_cases k74 : k < 74
              · skip
                have e : k = 73 := by omega
                subst e
                have hp : pc < 244 := hp
                by_cases q64 : pc < 64
                · exact ab_ckE ab_k73_0 (by omega) (by omega)
                by_cases q128 : pc < 128
                · exact ab_ckE ab_k73_64 (by omega) (by omega)
                by_cases q192 : pc < 192
                · exact ab_ckE ab_k73_128 (by omega) (by omega)
                exact ab_ckE ab_k73_192 (by omega) (by omega)
              · skip
                have e : k = 74 := by omega
                subst e
                have hp : pc < 5 := hp
                exact ab_ckE ab_k74_0 (by omega) (by omega)
        · skip
          by_cases k79 : k < 79
          · skip
            by_cases k77 : k < 77
            · skip
              by_cases k76 : k < 76
              · skip
                have e : k = 75 := by omega
                subst e
                have hp : pc < 161 := hp
                by_cases q64 : pc < 64
                · exact ab_ckE ab_k75_0 (by omega) (by omega)
                by_cases q128 : pc < 128
                · exact ab_ckE ab_k75_64 (by omega) (by omega)
                exact ab_ckE ab_k75_128 (by omega) (by omega)
              · skip
                have e : k = 76 := by omega
                subst e
                have hp : pc < 80 := hp
                exact ab_ckE ab_k76_0 (by omega) (by omega)
            · skip
              by_cases k78 : k < 78
              · skip
                have e : k = 77 := by omega
                subst e
                have hp : pc < 17 := hp
                exact ab_ckE ab_k77_0 (by omega) (by omega)
              · skip
                have e : k = 78 := by omega
                subst e
                have hp : pc < 25 := hp
                exact ab_ckE ab_k78_0 (by omega) (by omega)
          · skip
            by_cases k81 : k < 81
            · skip
              by_cases k80 : k < 80
              · skip
                have e : k = 79 := by omega
                subst e
                have hp : pc < 22 := hp
                exact ab_ckE ab_k79_0 (by omega) (by omega)
              · skip
                have e : k = 80 := by omega
                subst e
                have hp : pc < 18 := hp
                exact ab_ckE ab_k80_0 (by omega) (by omega)
            · skip
              by_cases k82 : k < 82
              · skip
                have e : k = 81 := by omega
                subst e
                have hp : pc < 67 := hp
                exact ab_ckE ab_k81_0 (by omega) (by omega)
              · skip
                have e : k = 82 := by omega
                subst e
                have hp : pc < 95 := hp
                by_cases q64 : pc < 64
                · exact ab_ckE ab_k82_0 (by omega) (by omega)
                exact ab_ckE ab_k82_64 (by omega) (by omega)
      · skip
        by_cases k91 : k < 91
        · skip
          by_cases k87 : k < 87
          · skip
            by_cases k85 : k < 85
            · skip
              by_cases k84 : k < 84
              · skip
                have e : k = 83 := by omega
                subst e
                have hp : pc < 31 := hp
                exact ab_ckE ab_k83_0 (by omega) (by omega)
              · skip
                have e : k = 84 := by omega
                subst e
                have hp : pc < 209 := hp
                by_cases q64 : pc < 64
                · exact ab_ckE ab_k84_0 (by omega) (by omega)
                by_cases q128 : pc < 128
                · exact ab_ckE ab_k84_64 (by omega) (by omega)
                exact ab_ckE ab_k84_128 (by omega) (by omega)
            · skip
              by_cases k86 : k < 86
              · skip
                have e : k = 85 := by omega
                subst e
                have hp : pc < 96 := hp
                by_cases q64 : pc < 64
                · exact ab_ckE ab_k85_0 (by omega) (by omega)
                exact ab_ckE ab_k85_64 (by omega) (by omega)
              · skip
                have e : k = 86 := by omega
                subst e
                have hp : pc < 41 := hp
                exact ab_ckE ab_k86_0 (by omega) (by omega)
          · skip
            by_cases k89 : k < 89
            · skip
              by_cases k88 : k < 88
              · skip
                have e : k = 87 := by omega
                subst e
                have hp : pc < 90 := hp
                by_cases q64 : pc < 64
                · exact ab_ckE ab_k87_0 (by omega) (by omega)
                exact ab_ckE ab_k87_64 (by omega) (by omega)
              · skip
                have e : k = 88 := by omega
                subst e
                have hp : pc < 88 := hp
                by_cases q64 : pc < 64
                · exact ab_ckE ab_k88_0 (by omega) (by omega)
                exact ab_ckE ab_k88_64 (by omega) (by omega)
            · skip
              by_cases k90 : k < 90
              · skip
                have e : k = 89 := by omega
                subst e
                have hp : pc < 101 := hp
                by_cases q64 : pc < 64
                · exact ab_ckE ab_k89_0 (by omega) (by omega)
                exact ab_ckE ab_k89_64 (by omega) (by omega)
              · skip
                have e : k = 90 := by omega
                subst e
                have hp : pc < 96 := hp
                by_cases q64 : pc < 64
                · exact ab_ckE ab_k90_0 (by omega) (by omega)
                exact ab_ckE ab_k90_64 (by omega) (by omega)
        · skip
          by_cases k95 : k < 95
          · skip
            by_cases k93 : k < 93
            · skip
              by_cases k92 : k < 92
              · skip
                have e : k = 91 := by omega
                subst e
                have hp : pc < 62 := hp
                exact ab_ckE ab_k91_0 (by omega) (by omega)
              · skip
                have e : k = 92 := by omega
                subst e
                have hp : pc < 128 := hp
                by_cases q64 : pc < 64
                · exact ab_ckE ab_k92_0 (by omega) (by omega)
                exact ab_ckE ab_k92_64 (by omega) (by omega)
            · skip
              by_cases k94 : k < 94
              · skip
                have e : k = 93 := by omega
                subst e
                have hp : pc < 334 := hp
                by_cases q64 : pc < 64
                · exact ab_ckE ab_k93_0 (by omega) (by omega)
                by_cases q128 : pc < 128
                · exact ab_ckE ab_k93_64 (by omega) (by omega)
                by_cases q192 : pc < 192
                · exact ab_ckE ab_k93_128 (by omega) (by omega)
                by_cases q256 : pc < 256
                · exact ab_ckE ab_k93_192 (by omega) (by omega)
                exact ab_ckE ab_k93_256 (by omega) (by omega)
              · skip
                have e : k = 94 := by omega
                subst e
                have hp : pc < 219 := hp
                by_cases q64 : pc < 64
                · exact ab_ckE ab_k94_0 (by omega) (by omega)
                by_cases q128 : pc < 128
                · exact ab_ckE ab_k94_64 (by omega) (by omega)
                by_cases q192 : pc < 192
                · exact ab_ckE ab_k94_128 (by omega) (by omega)
                exact ab_ckE ab_k94_192 (by omega) (by omega)
          · skip
            by_cases k97 : k < 97
            · skip
              by_cases k96 : k < 96
              · skip
                have e : k = 95 := by omega
                subst e
                have hp : pc < 145 := hp
                by_cases q64 : pc < 64
                · exact ab_ckE ab_k95_0 (by omega) (by omega)
                exact ab_ckE ab_k95_64 (by omega) (by omega)
              · skip
                have e : k = 96 := by omega
                subst e
                have hp : pc < 373 := hp
                by_cases q64 : pc < 64
                · exact ab_ckE ab_k96_0 (by omega) (by omega)
                by_cases q128 : pc < 128
                · exact ab_ckE ab_k96_64 (by omega) (by omega)
                by_cases q192 : pc < 192
                · exact ab_ckE ab_k96_128 (by omega) (by omega)
                by_cases q256 : pc < 256
                · exact ab_ckE ab_k96_192 (by omega) (by omega)
                by_cases q320 : pc < 320
                · exact ab_ckE ab_k96_256 (by omega) (by omega)
                exact ab_ckE ab_k96_320 (by omega) (by omega)
            · skip
              by_cases k98 : k < 98
              · skip
                have e : k = 97 := by omega
                subst e
                have hp : pc < 44 := hp
                exact ab_ckE ab_k97_0 (by omega) (by omega)
              · skip
                by_cases k99 : k < 99
                · skip
                  have e : k = 98 := by omega
                  subst e
                  have hp : pc < 80 := hp
                  exact ab_ckE ab_k98_0 (by omega) (by omega)
                · skip
                  have e : k = 99 := by omega
                  subst e
                  have hp : pc < 112 := hp
                  by_cases q64 : pc < 64
                  · exact ab_ckE ab_k99_0 (by omega) (by omega)
                  exact ab_ckE ab_k99_64 (by omega) (by omega)
    · skip
      by_cases k117 : k < 117
      · skip
        by_cases k108 : k < 108
        · skip
          by_cases k104 : k < 104
          · skip
            by_cases k102 : k < 102
            · skip
              by_cases k101 : k < 101
              · skip
                have e : k = 100 := by omega
                subst e
                have hp : pc < 49 := hp
                exact ab_ckE ab_k100_0 (by omega) (by omega)
              · skip
                have e : k = 101 := by omega
                subst e
                have hp : pc < 42 := hp
                exact ab_ckE ab_k101_0 (by omega) (by omega)
            · skip
              by_cases k103 : k < 103
              · skip
                have e : k = 102 := by omega
                subst e
                have hp : pc < 378 := hp
                by_cases q64 : pc < 64
                · exact ab_ckE ab_k102_0 (by omega) (by omega)
                by_cases q128 : pc < 128
                · exact ab_ckE ab_k102_64 (by omega) (by omega)
                by_cases q192 : pc < 192
                · exact ab_ckE ab_k102_128 (by omega) (by omega)
                by_cases q256 : pc < 256
                · exact ab_ckE ab_k102_192 (by omega) (by omega)
                by_cases q320 : pc < 320
                · exact ab_ckE ab_k102_256 (by omega) (by omega)
                exact ab_ckE ab_k102_320 (by omega) (by omega)
              · skip
                have e : k = 103 := by omega
                subst e
                have hp : pc < 55 := hp
                exact ab_ckE ab_k103_0 (by omega) (by omega)
          · skip
            by_cases k106 : k < 106
            · skip
              by_cases k105 : k < 105
              · skip
                have e : k = 104 := by omega
                subst e
                have hp : pc < 80 := hp
                exact ab_ckE ab_k104_0 (by omega) (by omega)
              · skip
                have e : k = 105 := by omega
                subst e
                have hp : pc < 32 := hp
                exact ab_ckE ab_k105_0 (by omega) (by omega)
            · skip
              by_cases k107 : k < 107
              · skip
                have e : k = 106 := by omega
                subst e
                have hp : pc < 45 := hp
                exact ab_ckE ab_k106_0 (by omega) (by omega)
              · skip
                have e : k = 107 := by omega
                subst e
                have hp : pc < 19 := hp
                exact ab_ckE ab_k107_0 (by omega) (by omega)
        · skip
          by_cases k112 : k < 112
          · skip
            by_cases k110 : k < 110
            · skip
              by_cases k109 : k < 109
              · skip
                have e : k = 108 := by omega
                subst e
                have hp : pc < 19 := hp
                exact ab_ckE ab_k108_0 (by omega) (by omega)
              · skip
                have e : k = 109 := by omega
                subst e
                have hp : pc < 19 := hp
                exact ab_ckE ab_k109_0 (by omega) (by omega)
            · skip
              by_cases k111 : k < 111
              · skip
                have e : k = 110 := by omega
                subst e
                have hp : pc < 32 := hp
                exact ab_ckE ab_k110_0 (by omega) (by omega)
              · skip
                have e : k = 111 := by omega
                subst e
                have hp : pc < 105 := hp
                by_cases q64 : pc < 64
                · exact ab_ckE ab_k111_0 (by omega) (by omega)
                exact ab_ckE ab_k111_64 (by omega) (by omega)
          · skip
            by_cases k114 : k < 114
            · skip
              by_cases k113 : k < 113
              · skip
                have e : k = 112 := by omega
                subst e
                have hp : pc < 29 := hp
                exact ab_ckE ab_k112_0 (by omega) (by omega)
              · skip
                have e : k = 113 := by omega
                subst e
                have hp : pc < 184 := hp
                by_cases q64 : pc < 64
                · exact ab_ckE ab_k113_0 (by omega) (by omega)
                by_cases q128 : pc < 128
                · exact ab_ckE ab_k113_64 (by omega) (by omega)
                exact ab_ckE ab_k113_128 (by omega) (by omega)
            · skip
              by_cases k115 : k < 115
              · skip
                have e : k = 114 := by omega
                subst e
                have hp : pc < 157 := hp
                by_cases q64 : pc < 64
                · exact ab_ckE ab_k114_0 (by omega) (by omega)
                by_cases q128 : pc < 128
                · exact ab_ckE ab_k114_64 (by omega) (by omega)
                exact ab_ckE ab_k114_128 (by omega) (by omega)
              · skip
                by_cases k116 : k < 116
                · skip
                  have e : k = 115 := by omega
                  subst e
                  have hp : pc < 400 := hp
                  by_cases q64 : pc < 64
                  · exact ab_ckE ab_k115_0 (by omega) (by omega)
                  by_cases q128 : pc < 128
                  · exact ab_ckE ab_k115_64 (by omega) (by omega)
                  by_cases q192 : pc < 192
                  · exact ab_ckE ab_k115_128 (by omega) (by omega)
                  by_cases q256 : pc < 256
                  · exact ab_ckE ab_k115_192 (by omega) (by omega)
                  by_cases q320 : pc < 320
                  · exact ab_ckE ab_k115_256 (by omega) (by omega)
                  exact ab_ckE ab_k115_320 (by omega) (by omega)
                · skip
                  have e : k = 116 := by omega
                  subst e
                  have hp : pc < 54 := hp
                  exact ab_ckE ab_k116_0 (by omega) (by omega)
      · skip
        by_cases k125 : k < 125
        · skip
          by_cases k121 : k < 121
          · skip
            by_cases k119 : k < 119
            · skip
              by_cases k118 : k < 118
              · skip
                have e : k = 117 := by omega
                subst e
                have hp : pc < 364 := hp
                by_cases q64 : pc < 64
                · exact ab_ckE ab_k117_0 (by omega) (by omega)
                by_cases q128 : pc < 128
                · exact ab_ckE ab_k117_64 (by omega) (by omega)
                by_cases q192 : pc < 192
                · exact ab_ckE ab_k117_128 (by omega) (by omega)
                by_cases q256 : pc < 256
                · exact ab_ckE ab_k117_192 (by omega) (by omega)
                by_cases q320 : pc < 320
                · exact ab_ckE ab_k117_256 (by omega) (by omega)
                exact ab_ckE ab_k117_320 (by omega) (by omega)
              · skip
                have e : k = 118 := by omega
                subst e
                have hp : pc < 160 := hp
                by_cases q64 : pc < 64
                · exact ab_ckE ab_k118_0 (by omega) (by omega)
                by_cases q128 : pc < 128
                · exact ab_ckE ab_k118_64 (by omega) (by omega)
                exact ab_ckE ab_k118_128 (by omega) (by omega)
            · skip
              by_cases k120 : k < 120
              · skip
                have e : k = 119 := by omega
                subst e
                have hp : pc < 60 := hp
                exact ab_ckE ab_k119_0 (by omega) (by omega)
              · skip
                have e : k = 120 := by omega
                subst e
                have hp : pc < 91 := hp
                by_cases q64 : pc < 64
                · exact ab_ckE ab_k120_0 (by omega) (by omega)
                exact ab_ckE ab_k120_64 (by omega) (by omega)
          · skip
            by_cases k123 : k < 123
            · skip
              by_cases k122 : k < 122
              · skip
                have e : k = 121 := by omega
                subst e
                have hp : pc < 24 := hp
                exact ab_ckE ab_k121_0 (by omega) (by omega)
              · skip
                have e : k = 122 := by omega
                subst e
                have hp : pc < 20 := hp
                exact ab_ckE ab_k122_0 (by omega) (by omega)
            · skip
              by_cases k124 : k < 124
              · skip
                have e : k = 123 := by omega
                subst e
                have hp : pc < 24 := hp
                exact ab_ckE ab_k123_0 (by omega) (by omega)
              · skip
                have e : k = 124 := by omega
                subst e
                have hp : pc < 16 := hp
                exact ab_ckE ab_k124_0 (by omega) (by omega)
        · skip
          by_cases k129 : k < 129
          · skip
            by_cases k127 : k < 127
            · skip
              by_cases k126 : k < 126
              · skip
                have e : k = 125 := by omega
                subst e
                have hp : pc < 20 := hp
                exact ab_ckE ab_k125_0 (by omega) (by omega)
              · skip
                have e : k = 126 := by omega
                subst e
                have hp : pc < 19 := hp
                exact ab_ckE ab_k126_0 (by omega) (by omega)
            · skip
              by_cases k128 : k < 128
              · skip
                have e : k = 127 := by omega
                subst e
                have hp : pc < 20 := hp
                exact ab_ckE ab_k127_0 (by omega) (by omega)
              · skip
                have e : k = 128 := by omega
                subst e
                have hp : pc < 23 := hp
                exact ab_ckE ab_k128_0 (by omega) (by omega)
          · skip
            by_cases k131 : k < 131
            · skip
              by_cases k130 : k < 130
              · skip
                have e : k = 129 := by omega
                subst e
                have hp : pc < 33 := hp
                exact ab_ckE ab_k129_0 (by omega) (by omega)
              · skip
                have e : k = 130 := by omega
                subst e
                have hp : pc < 38 := hp
                exact ab_ckE ab_k130_0 (by omega) (by omega)
            · skip
              by_cases k132 : k < 132
              · skip
                have e : k = 131 := by omega
                subst e
                have hp : pc < 53 := hp
                exact ab_ckE ab_k131_0 (by omega) (by omega)
              · skip
                by_cases k133 : k < 133
                · skip
                  have e : k = 132 := by omega
                  subst e
                  have hp : pc < 21 := hp
                  exact ab_ckE ab_k132_0 (by omega) (by omega)
                · skip
                  have e : k = 133 := by omega
                  subst e
                  have hp : pc < 777 := hp
                  by_cases q64 : pc < 64
                  · exact ab_ckE ab_k133_0 (by omega) (by omega)
                  by_cases q128 : pc < 128
                  · exact ab_ckE ab_k133_64 (by omega) (by omega)
                  by_cases q192 : pc < 192
                  · exact ab_ckE ab_k133_128 (by omega) (by omega)
                  by_cases q256 : pc < 256
                  · exact ab_ckE ab_k133_192 (by omega) (by omega)
                  by_cases q320 : pc < 320
                  · exact ab_ckE ab_k133_256 (by omega) (by omega)
                  by_cases q384 : pc < 384
                  · exact ab_ckE ab_k133_320 (by omega) (by omega)
                  by_cases q448 : pc < 448
                  · exact ab_ckE ab_k133_384 (by omega) (by omega)
                  by_cases q512 : pc < 512
                  · exact ab_ckE ab_k133_448 (by omega) (by omega)
                  by_cases q576 : pc < 576
                  · exact ab_ckE ab_k133_512 (by omega) (by omega)
                  by_cases q640 : pc < 640
                  · exact ab_ckE ab_k133_576 (by omega) (by omega)
                  by_cases q704 : pc < 704
                  · exact ab_ckE ab_k133_640 (by omega) (by omega)
                  exact ab_ckE ab_k133_704 (by omega) (by omega)
theorem ab_ins_ok {k pc : Nat} {x : Instr × Nat × Nat × Nat} (h : ab_ins k pc = some x) : ab_chk k pc x.1 x.2 = true ∧ k < ab_M + 1 := by
  unfold ab_ins at h
  cases hb : (Nat.blt k (ab_M + 1) && Nat.blt pc (ab_sz k)) with
  | false => rw [hb] at h; cases h
  | true =>
    rw [hb] at h
    simp only [Bool.and_eq_true] at hb
    have hk := ab_blt hb.1
    have := ab_ckA k hk pc (ab_blt hb.2)
    unfold ab_c1 at this
    rw [show ab_int k pc = some x from h] at this
    exact ⟨this, hk⟩
end
section
-- What a checked instruction says of its pool's entry.
theorem ab_rvF {k pc i : Nat} {f : Nat × Nat × Nat} (h : ab_fll.contains (ab_own k, i, f) = true) : (ab_own k, i, f) ∈ ab_fll := by simpa using h
theorem ab_rvC {k i : Nat} {f : Nat × Nat × Nat} (h : ab_cll.contains (ab_own k, i, f) = true) : (ab_own k, i, f) ∈ ab_cll := by simpa using h
theorem ab_rvM {k pc i : Nat} {f : Nat × Nat × Nat} (h : ((Nat.beq f.1 7 || ab_mtl.contains (ab_own k, i, f)) && ab_cov k pc) = true) (hf : f.1 ≠ 7) : (ab_own k, i, f) ∈ ab_mtl := by
  simp only [Bool.and_eq_true, Bool.or_eq_true] at h
  rcases h.1 with q | q
  · exact absurd (Nat.eq_of_beq_eq_true q) hf
  · simpa using q
theorem ab_cst_ok {k i : Nat} {v : Int64} (h : ab_cst (ab_own k) i = some v) (hc : ab_csk.contains (ab_own k, i) = true) : Jvm.Cond.constantLong (ab_cn (ab_own k)) i v ∈ lw_tbl := by
  have := ab_cskW (ab_own k, i) (by simpa using hc)
  unfold ab_csw at this
  rw [h] at this
  exact this
theorem ab_csi_ok {k i : Nat} {v : Int32} (h : ab_csi (ab_own k) i = some v) (hc : ab_cik.contains (ab_own k, i) = true) : Jvm.Cond.constant (ab_cn (ab_own k)) i v ∈ lw_tbl := by
  have := ab_cikW (ab_own k, i) (by simpa using hc)
  unfold ab_ciw at this
  rw [h] at this
  exact this
theorem ab_ctE {a b : Bool} (hh : (a && b) = true) : a = true ∧ b = true := by simpa using hh
theorem ab_tgE {pc : Nat} {o : Int} (h : decide (0 ≤ (pc : Int) + o) = true) : (pc : Int) + o = (ab_tg pc o : Int) := by
  have := of_decide_eq_true h
  unfold ab_tg
  omega
end
section
-- The abstract machine is sound: instructions on the heap.
/-- exceptions that a method of the law passes by before it catches -/
def ab_ncl : List (Nat × Nat) := [(1, 2), (2, 1), (3, 2), (4, 2), (4, 3), (1, 3), (1, 4)]
section ab_heap
variable {p : Program} {l : Launch} {e : Env} {R : Room} {s : State} {m : MethodId} {args : Array Value} {below : List Frame} {meth : Method} {c : Code} {Q : State → Prop} {D : va_G} {q sa wa B n0 z0 k pc : Nat} {Hb : Heap} {L : ab_L} {st : List ab_V} {S : ab_S}
def ab_F (k : Nat) (p : Program) (s : State) (m : MethodId) (meth : Method) (c : Code) : Prop :=
  p.tables.exec = Jvm.exec ∧ c.code = ab_by k ∧ c.maxLocals = ab_mxl k ∧ meth.sig.returnType = ab_rty k ∧ meth.locks = false ∧ meth.name = (ab_nm k).name ∧ s.vm.findClass (ab_cn (ab_own k)) = some m.cls ∧ c.exceptionTable.toList.map (fun h => (h.startPc, h.endPc, h.handlerPc, h.catchType)) = ab_ht k
/-- what the Statement says beside the tables: two statics of Throwable, and what is no kind of what -/
def ab_Na (B : Nat) (Hb : Heap) (s : State) : Prop := va_Zq "java/lang/Throwable" "UNASSIGNED_STACK" "[Ljava/lang/StackTraceElement;" (fun a => B ≤ a) s Hb ∧ va_Zq "java/lang/Throwable" "SUPPRESSED_SENTINEL" "Ljava/util/List;" (fun a => B ≤ a) s Hb ∧ ∀ x y, (x, y) ∈ ab_ncl → va_Nc (ab_xn x) (ab_xn y) s
theorem ab_Na.moved {B : Nat} {Hb : Heap} {s s' : State} (hvm : s.vm.Alike s'.vm) (h : ab_Na B Hb s) : ab_Na B Hb s' := ⟨h.1.moved hvm, h.2.1.moved hvm, fun x y hx => (h.2.2 x y hx).moved hvm⟩
def ab_E (D : va_G) (wa B : Nat) (Hb : Heap) (s : State) : Prop := ((∀ a, a < B → s.heap[a]? = Hb[a]?) ∧ ∀ w ∈ lw_tbl, ∀ (a' : Array Value) (U : State), s.WarmedH U.vm → (∀ a, a < B → U.heap[a]? = Hb[a]?) → w.before a' U = true) ∧ va_K D ab_cl [] s ∧ va_Z "ShapedItems$Matcher" "WITHOUT" "[J" (.ref wa) (fun a => B ≤ a) s Hb ∧ ab_Na B Hb s
theorem ab_E.word {D : va_G} {wa B : Nat} {Hb : Heap} {s : State} (h : ab_E D wa B Hb s) {w : Jvm.Cond} (hw : w ∈ lw_tbl) (a' : Array Value) : w.before a' s = true := h.1.2 w hw a' s (State.WarmedH.refl s) h.1.1
def ab_G (p : Program) (l : Launch) (e : Env) (R : Room) (s : State) (m : MethodId) (args : Array Value) (below : List Frame) (meth : Method) (c : Code) (Q : State → Prop) (D : va_G) (q sa wa B n0 z0 k : Nat) (Hb : Heap) (pc : Nat) (L : ab_L) (st : List ab_V) (S : ab_S) : Prop :=
  ∀ (H : Heap) (locs : List Loc) (ls : Array Slot), ab_LR (ab_ad sa wa B) L ls → L.length = ab_mxl k → ab_X D q sa wa B n0 z0 k Hb s S H locs →
    W p l e R s m args below meth c H locs (S.2.2.2.2.1 - n0) (S.2.2.2.2.2 - z0) Q (F0 m pc ls (st.map (ab_cv (ab_ad sa wa B))))
theorem ab_inv_of {S S' : ab_S} (h : ab_inv S = true) (hf : S'.2.2.2 = S.2.2.2) (hr : ∀ x ∈ ab_finl, S'.2.2.1 x.1 x.2.1 = S.2.2.1 x.1 x.2.1) : ab_inv S' = true := by
  simp only [ab_inv, Bool.and_eq_true, List.all_eq_true] at h ⊢
  refine ⟨by rw [hf]; exact h.1, fun x hx => ?_⟩
  rw [hr x hx]
  exact h.2 x hx
theorem ab_inE {i : Int32} {n : Nat} (h : ab_in i n = true) : ¬ i < 0 ∧ i.toNatClampNeg < n := by
  simp only [ab_in, Bool.and_eq_true, Bool.not_eq_true', decide_eq_false_iff_not] at h
  exact ⟨h.1, ab_blt h.2⟩
theorem ab_xget {i : Nat} {f : Nat × Nat × Nat} {r : Nat} (hF : ab_F k p s m meth c) (hE : ab_E D wa B Hb s) (hd : decode (ab_by k) pc = .ok (.getfield i, 3)) (hres : (ab_own k, i, f) ∈ ab_fll) (hok : ab_ok k S r (10 + f.1) = true)
    (hK : ab_G p l e R s m args below meth c Q D q sa wa B n0 z0 k Hb (pc + 3) L (ab_rd k S f r :: st) S) : ab_G p l e R s m args below meth c Q D q sa wa B n0 z0 k Hb pc L (.inr (.inr r) :: st) S := by
  intro H locs ls hL hl hX
  obtain ⟨hT, h0, hlt⟩ := ab_okE hok hX.2.1
  obtain ⟨cell, q1, q2, q3, q4⟩ := (hX.1.1 r h0 hlt).1 (by omega)
  rw [hT, Nat.add_sub_cancel_left] at q2 q4
  obtain ⟨hc7, hfk, hknd, hmem⟩ := ab_fll_ok _ hres
  obtain ⟨hS, hfc, kC, hkC, hkind⟩ := hE.2.1.1 f.1 _ (ab_cl_at hc7)
  obtain ⟨cf, kf, fi, fd, hi, hsl⟩ := hS f.2.1 hfk
  have hi' : s.fieldFound? (ab_cn f.1) (ab_ft f.1 f.2.1).2.1 (ab_ft f.1 f.2.1).2.2.1 = some (cf, kf, fi, fd) := by rw [← ab_ft_cn hc7 hfk]; exact hi
  rw [List.map_cons, ab_cvr h0]
  refine W.getf hF.1 hF.2.1 hF.2.2.2.2.2.2.1 (hE.word hmem args) hi' (u_facts hfc hkC (u_lays (fun w hw => hE.word hw args) (ab_uws hc7) hfk) hi).1 q1 (by rw [q3]; exact fun h => by cases h) (v := ab_cv (ab_ad sa wa B) (ab_rd k S f r)) ?_ rfl rfl hd (hK H locs ls hL hl hX)
  rw [hsl, q4 _ hfk]
  congr 1
  simp only [ab_fv, hknd, ab_rd]
  rcases f with ⟨fc, fk, fn⟩
  match fn, hknd with
  | 0, _ => rfl
  | 1, _ => rfl
  | 2, _ => rfl
  | 3, _ =>
    cases hm : ab_md k with
    | false => rfl
    | true =>
      show ab_cv _ (.inr (.inr (S.2.2.1 r fk))) = ab_cv _ (.inr (.inr (ab_fin fc fk r)))
      rw [ab_fin_ok hT h0 (hX.2.1 hm) hres]
  | n + 4, hn => exact absurd (ab_knd_lt fc fk) (by have hn : ab_knd fc fk = n + 4 := hn; omega)
theorem ab_slot {r fk ci : Nat} {cell : Cell} {v : Value} (hE : ab_E D wa B Hb s) (hc7 : ci < 7) (hfk : fk < ab_nf ci) (hT : ab_T r = 10 + ci) {ad : Nat → Nat} {U : State} {H' : Heap} {S S' : ab_S} (q2 : cell.cls = D.1 ci) (q3 : cell.vm = .none)
    (q4 : ∀ f, f < ab_nf ci → cell.slots[D.2 ci f]? = some (ab_fv ad S ci r f)) (e1 : H'[ad r]? = some (cell.setSlot (D.2 ci fk) v)) (hv : ab_fv ad S' ci r fk = v) (ho : ∀ f, f ≠ fk → ab_fv ad S' ci r f = ab_fv ad S ci r f) : ab_ce D q ad S' U H' r := by
  refine ⟨fun _ => ?_, fun h => by omega⟩
  rw [hT, Nat.add_sub_cancel_left]
  refine ⟨_, e1, q2, q3, fun f hf => ?_⟩
  have hap := va_apart (own := "") (args := #[]) (fun w hw => hE.word hw #[]) (ab_uws hc7) (ab_fty ci) (ab_tyF hc7) (ab_nmF hc7) hE.2.1 (ab_cl_at hc7)
  by_cases hq : f = fk
  · subst hq
    rw [hv]
    have := k2_hasslot (q4 f hf)
    simp [Cell.setSlot, this]
  · rw [ho f hq, slot_ne _ _ (hap fk f hfk hf (Ne.symm hq))]
    exact q4 f hf
/-- putfield: what is alike for all kinds -/
theorem ab_xput {i : Nat} {f : Nat × Nat × Nat} {r : Nat} {v : ab_V} {S' : ab_S} (hF : ab_F k p s m meth c) (hE : ab_E D wa B Hb s) (hA : sa < B ∧ wa < B ∧ sa ≠ wa) (hd : decode (ab_by k) pc = .ok (.putfield i, 3)) (hres : (ab_own k, i, f) ∈ ab_fll) (hok : ab_ok k S r (10 + f.1) = true)
    (hn : narrow (ab_fty f.1 f.2.1) (ab_cv (ab_ad sa wa B) v) = ab_cv (ab_ad sa wa B) v) (hfit : fits (ab_fty f.1 f.2.1) (ab_cv (ab_ad sa wa B) v) = true) (hfin : (ab_ft f.1 f.2.1).2.2.2 = false ∨ (meth.name = "<init>" ∧ f.1 = ab_own k))
    (hv : ab_fv (ab_ad sa wa B) S' f.1 r f.2.1 = ab_cv (ab_ad sa wa B) v) (ho : ∀ g, g ≠ f.2.1 → ab_fv (ab_ad sa wa B) S' f.1 r g = ab_fv (ab_ad sa wa B) S f.1 r g)
    (hf : S'.2.2.2 = S.2.2.2) (h1 : ∀ x k, x ≠ r → S'.1 x k = S.1 x k) (h2 : ∀ x k, x ≠ r → S'.2.1 x k = S.2.1 x k) (h3 : ∀ x k, x ≠ r → S'.2.2.1 x k = S.2.2.1 x k) (hinv : ab_md k = true → ab_inv S = true → ab_inv S' = true)
    (hK : ab_G p l e R s m args below meth c Q D q sa wa B n0 z0 k Hb (pc + 3) L st S') : ab_G p l e R s m args below meth c Q D q sa wa B n0 z0 k Hb pc L (v :: .inr (.inr r) :: st) S := by
  intro H locs ls hL hl hX
  obtain ⟨hT, h0, hlt⟩ := ab_okE hok hX.2.1
  have hr2 : 2 < r := ab_obj hT
  obtain ⟨cell, q1, q2, q3, q4⟩ := (hX.1.1 r h0 hlt).1 (by omega)
  rw [hT, Nat.add_sub_cancel_left] at q2 q4
  obtain ⟨hc7, hfk, hknd, hmem⟩ := ab_fll_ok _ hres
  obtain ⟨hS, hfc, kC, hkC, hkind⟩ := hE.2.1.1 f.1 _ (ab_cl_at hc7)
  obtain ⟨cf, kf, fi, fd, hi, hsl⟩ := hS f.2.1 hfk
  have hi' : s.fieldFound? (ab_cn f.1) (ab_ft f.1 f.2.1).2.1 (ab_ft f.1 f.2.1).2.2.1 = some (cf, kf, fi, fd) := by rw [← ab_ft_cn hc7 hfk]; exact hi
  have hts : ∀ w ∈ lw_tbl, w.before args s = true := fun w hw => hE.word hw args
  have hst := (u_facts hfc hkC (u_lays hts (ab_uws hc7) hfk) hi).1
  have hlay := hts _ (ab_uws hc7 _ (u_in_lay hfk))
  have hend : ∀ H' : Heap, H'[ab_ad sa wa B r]? = some (cell.setSlot fd.slot (ab_cv (ab_ad sa wa B) v)) → H'.size = H.size → (∀ a, a ≠ ab_ad sa wa B r → H'[a]? = H[a]?) →
      W p l e R s m args below meth c H' (locs ++ [⟨ab_ad sa wa B r, fd.slot⟩]) (S.2.2.2.2.1 - n0) (S.2.2.2.2.2 - z0) Q (F0 m (pc + 3) ls (st.map (ab_cv (ab_ad sa wa B)))) := by
    intro H' e1 e2 e3
    rw [hsl] at e1
    have hW := hX.1.set hA.1 hA.2.1 hA.2.2 h0 hlt e2 e3 hf h1 h2 h3 (ab_slot hE hc7 hfk hT q2 q3 q4 e1 hv ho)
    have := hK H' _ ls hL hl (hX.locs (L := [⟨ab_ad sa wa B r, fd.slot⟩]) hr2 hW (fun hm => hinv hm (hX.2.1 hm)) e3 (fun x hx => by rw [List.mem_singleton.mp hx]) hf)
    rw [hf] at this
    exact this
  rw [List.map_cons, List.map_cons, ab_cvr h0]
  have hlt' : fd.slot < cell.slots.size := by rw [hsl]; exact k2_hasslot (q4 _ hfk)
  unfold u_lay at hlay
  by_cases hb : (ab_ft f.1 f.2.1).2.2.2 = true
  · rw [if_pos hb] at hlay
    rcases hfin with h | ⟨hin2, hown⟩
    · rw [hb] at h; cases h
    have hcf : m.cls = cf := by
      obtain ⟨_, _, c', _, _, _, -, -, hf', -, -, -, hown2, -⟩ := Cond.laysFinal_spec hlay
      have e1 : c' = cf := by have := hi.symm.trans hf'; simp at this; exact this.1.symm
      rw [← e1]
      have h2 : s.vm.findClass (ab_cn (ab_own k)) = some m.cls := hF.2.2.2.2.2.2.1
      rw [← hown, ← ab_ft_cn hc7 hfk] at h2
      exact Option.some.inj (h2.symm.trans hown2)
    exact W.putFinK hF.1 hF.2.1 hF.2.2.2.2.2.2.1 (hE.word hmem args) hi' hst hcf hin2 (by rw [q2]; exact u_fits hfc hkC hkind (Or.inr hlay) hi (ab_tyF hc7 _ hfk) hn hfit) q1 q3 hlt' rfl rfl hd hend
  · rw [if_neg hb] at hlay
    exact W.putK hF.1 hF.2.1 (f := fd) ⟨hF.2.2.2.2.2.2.1, hE.word hmem args, ⟨_, _, _, hi'⟩, hst⟩ (by rw [q2]; exact u_store hfc hkC hkind hlay hi (ab_tyF hc7 _ hfk) hn hfit) q1 q3 hlt' rfl rfl hd hend
theorem ab_arr {r t : Nat} {i : Int32} {H : Heap} {locs : List Loc} (hX : ab_X D q sa wa B n0 z0 k Hb s S H locs) (hok : ab_ok k S r t = true) (ht : t < 10) (hin : ab_in i (ab_N q r) = true) : ∃ cell : Cell, H[ab_ad sa wa B r]? = some cell ∧ s.isArrayOf cell (ab_aty t) ∧ cell.vm ≠ .unknown ∧
    ¬ (i < 0 ∨ cell.slots.size ≤ i.toNatClampNeg) ∧ cell.slots[i.toNatClampNeg]? = some (ab_xv (ab_ad sa wa B) S t r i.toNatClampNeg) ∧ (ab_N q r ≤ cell.slots.size ∧ cell.slots.size.toInt32 = Int32.ofNat (ab_N q r)) ∧ (∀ j, j < ab_N q r → cell.slots[j]? = some (ab_xv (ab_ad sa wa B) S t r j)) ∧
    (t = 5 → ∃ kA : Class, s.vm.classes[cell.cls]? = some kA ∧ kA.kind = .array (D.1 2) (.object "ShapedItems$Shape")) ∧ ab_T r = t ∧ 0 < r ∧ r < S.2.2.2.1 := by
  obtain ⟨hT, h0, hlt⟩ := ab_okE hok hX.2.1
  obtain ⟨cell, q1, q2, q3, q4, q5, q6⟩ := (hX.1.1 r h0 hlt).2 (by omega)
  rw [hT] at q2 q5 q6
  obtain ⟨i1, i2⟩ := ab_inE hin
  have q4' := q4.1
  exact ⟨cell, q1, q2, q3, fun h => by
    rcases h with h | h
    · exact i1 h
    · omega, q5 _ i2, q4, q5, q6, hT, h0, hlt⟩
theorem ab_ast {r t j : Nat} {cell : Cell} {v : Value} {ad : Nat → Nat} {U : State} {H' : Heap} {S S' : ab_S} (hT : ab_T r = t) (ht : t < 10) (q2 : U.isArrayOf cell (ab_aty t)) (q3 : cell.vm ≠ .unknown) (q4 : (ab_N q r ≤ cell.slots.size ∧ cell.slots.size.toInt32 = Int32.ofNat (ab_N q r))) (q5 : ∀ j, j < ab_N q r → cell.slots[j]? = some (ab_xv ad S t r j))
    (q6 : t = 5 → ∃ kA : Class, U.vm.classes[cell.cls]? = some kA ∧ kA.kind = .array (D.1 2) (.object "ShapedItems$Shape")) (e1 : H'[ad r]? = some (cell.setSlot j v)) (hv : ab_xv ad S' t r j = v) (ho : ∀ i, i ≠ j → ab_xv ad S' t r i = ab_xv ad S t r i) : ab_ce D q ad S' U H' r := by
  refine ⟨fun h => by omega, fun _ => ?_⟩
  rw [hT]
  refine ⟨_, e1, q2, q3, by rw [k2_slotsz]; exact q4, fun i hi => ?_, q6⟩
  by_cases hq : i = j
  · subst hq
    rw [hv]
    have q4' := q4.1
    have : i < cell.slots.size := by omega
    simp [Cell.setSlot, this]
  · rw [ho i hq, slot_ne _ _ (Ne.symm hq)]
    exact q5 i hi
/-- the end of every array store -/
theorem ab_xst {r t j n : Nat} {cell : Cell} {v : Value} {H H' : Heap} {locs : List Loc} {ls : Array Slot} {S' : ab_S} (hA : sa < B ∧ wa < B ∧ sa ≠ wa) (hX : ab_X D q sa wa B n0 z0 k Hb s S H locs) (hr2 : 2 < r) (hlt : r < S.2.2.2.1) (hT : ab_T r = t) (ht : t < 10) (q2 : s.isArrayOf cell (ab_aty t)) (q3 : cell.vm ≠ .unknown) (q4 : (ab_N q r ≤ cell.slots.size ∧ cell.slots.size.toInt32 = Int32.ofNat (ab_N q r)))
    (q5 : ∀ j, j < ab_N q r → cell.slots[j]? = some (ab_xv (ab_ad sa wa B) S t r j)) (q6 : t = 5 → ∃ kA : Class, s.vm.classes[cell.cls]? = some kA ∧ kA.kind = .array (D.1 2) (.object "ShapedItems$Shape"))
    (e1 : H'[ab_ad sa wa B r]? = some (cell.setSlot j v)) (e2 : H'.size = H.size) (e3 : ∀ a, a ≠ ab_ad sa wa B r → H'[a]? = H[a]?) (hv : ab_xv (ab_ad sa wa B) S' t r j = v) (ho : ∀ i, i ≠ j → ab_xv (ab_ad sa wa B) S' t r i = ab_xv (ab_ad sa wa B) S t r i)
    (hf : S'.2.2.2 = S.2.2.2) (h1 : ∀ x k, x ≠ r → S'.1 x k = S.1 x k) (h2 : ∀ x k, x ≠ r → S'.2.1 x k = S.2.1 x k) (h3 : ∀ x k, x ≠ r → S'.2.2.1 x k = S.2.2.1 x k) (hinv : ab_md k = true → ab_inv S = true → ab_inv S' = true) (hL : ab_LR (ab_ad sa wa B) L ls) (hl : L.length = ab_mxl k)
    (hK : ab_G p l e R s m args below meth c Q D q sa wa B n0 z0 k Hb n L st S') : W p l e R s m args below meth c H' (locs ++ [⟨ab_ad sa wa B r, j⟩]) (S.2.2.2.2.1 - n0) (S.2.2.2.2.2 - z0) Q (F0 m n ls (st.map (ab_cv (ab_ad sa wa B)))) := by
  have hW := hX.1.set hA.1 hA.2.1 hA.2.2 (by omega : 0 < r) hlt e2 e3 hf h1 h2 h3 (ab_ast hT ht q2 q3 q4 q5 q6 e1 hv ho)
  have := hK H' _ ls hL hl (hX.locs (L := [⟨ab_ad sa wa B r, j⟩]) hr2 hW (fun hm => hinv hm (hX.2.1 hm)) e3 (fun x hx => by rw [List.mem_singleton.mp hx]) hf)
  rw [hf] at this
  exact this
end ab_heap
end
section
section ab_more
variable {p : Program} {l : Launch} {e : Env} {R : Room} {s : State} {m : MethodId} {args : Array Value} {below : List Frame} {meth : Method} {c : Code} {Q : State → Prop} {D : va_G} {q sa wa B n0 z0 k pc : Nat} {Hb : Heap} {L : ab_L} {st : List ab_V} {S : ab_S} {H : Heap} {locs : List Loc} {cells slots : Nat} {ls : Array Slot} {rest : List Value}
theorem ab_swF {α : Type} {x : Int32} {df : Nat} {f : Nat → Option α} {r : Option α} : ∀ (cs : List (Int × Nat)), ab_sw x df f cs = r → (∃ (n : Nat) (v : Int × Nat), cs[n]? = some v ∧ x = Int32.ofInt v.1 ∧ f v.2 = r ∧ ∀ (j : Nat) (w : Int × Nat), j < n → cs[j]? = some w → x ≠ Int32.ofInt w.1) ∨ (f df = r ∧ ∀ w ∈ cs, x ≠ Int32.ofInt w.1)
  | [], h => Or.inr ⟨h, fun w hw => by cases hw⟩
  | v :: cs, h => by
    unfold ab_sw at h
    split at h
    · rename_i hx
      exact Or.inl ⟨0, v, rfl, hx, h, fun j w hj => by omega⟩
    · rename_i hx
      rcases ab_swF cs h with ⟨n, w, a1, a2, a3, a4⟩ | ⟨a1, a2⟩
      · refine Or.inl ⟨n + 1, w, a1, a2, a3, fun j u hj hu => ?_⟩
        cases j with
        | zero => cases hu; exact hx
        | succ j => exact a4 j u (by omega) hu
      · refine Or.inr ⟨a1, fun w hw => ?_⟩
        rcases List.mem_cons.mp hw with rfl | hw
        · exact hx
        · exact a2 w hw
theorem ab_xtab {df lo hi : Int} {offs : Array Int} {len : Nat} {x : Int32} {α : Type} {f : Nat → Option α} {r : Option α} (hF : ab_F k p s m meth c) (hd : decode (ab_by k) pc = .ok (.tableswitch df lo hi offs, len)) (ht : ab_tok pc (.tableswitch df lo hi offs) = true) (h : ab_sw x (ab_tg pc df) f (ab_tcs pc lo offs) = r)
    (hK : ∀ t, f t = r → W p l e R s m args below meth c H locs cells slots Q (F0 m t ls rest)) : W p l e R s m args below meth c H locs cells slots Q (F0 m pc ls (.int x :: rest)) := by
  simp only [ab_tok, Bool.and_eq_true, List.all_eq_true, decide_eq_true_eq] at ht
  obtain ⟨t1, t2, t3, t4, t5⟩ := ht
  have hlo : ∀ n : Nat, n < offs.size → (Int32.ofInt (lo + n)).toInt = lo + n := fun n hn => Int32.toInt_ofInt_of_le (by omega) (by omega)
  rcases ab_swF _ h with ⟨n, v, a1, a2, a3, -⟩ | ⟨a1, a2⟩
  · have hn : n < offs.size := by
      have := (List.getElem?_eq_some_iff.mp a1).1
      simpa [ab_tcs] using this
    have hv : v = (lo + n, ab_tg pc offs[n]) := by
      have : (ab_tcs pc lo offs)[n]? = some (lo + n, ab_tg pc offs[n]) := by simp [ab_tcs, hn]
      exact Option.some.inj (a1.symm.trans this)
    subst hv
    have hx : x.toInt = lo + n := by rw [a2]; exact hlo n hn
    refine lv_tableIn hF.1 hF.2.1 hd (by omega) (by omega) (off := offs[n]) (tgt := ab_tg pc offs[n]) ?_ ?_ (hK _ a3)
    · rw [hx, show (lo + (n : Int) - lo).toNat = n by omega]
      exact Array.getElem?_eq_getElem hn
    · exact ab_tgE (decide_eq_true (t2 offs[n] (by simp)))
  · refine lv_tableOut hF.1 hF.2.1 hd ?_ (ab_tgE (decide_eq_true t1)) (hK _ a1)
    by_cases h1 : x.toInt < lo
    · exact Or.inl h1
    by_cases h2 : hi < x.toInt
    · exact Or.inr h2
    exfalso
    have hn : (x.toInt - lo).toNat < offs.size := by omega
    refine a2 (lo + ((x.toInt - lo).toNat : Nat), ab_tg pc offs[(x.toInt - lo).toNat]) (List.mem_of_getElem? (i := (x.toInt - lo).toNat) (by simp [ab_tcs, hn])) ?_
    show x = Int32.ofInt (lo + _)
    rw [show lo + (((x.toInt - lo).toNat : Nat) : Int) = x.toInt by omega, Int32.ofInt_toInt]
theorem ab_xlook {df : Int} {ps : Array (Int × Int)} {len : Nat} {x : Int32} {α : Type} {f : Nat → Option α} {r : Option α} (hF : ab_F k p s m meth c) (hd : decode (ab_by k) pc = .ok (.lookupswitch df ps, len)) (ht : ab_tok pc (.lookupswitch df ps) = true) (h : ab_sw x (ab_tg pc df) f (ab_lcs pc ps) = r)
    (hK : ∀ t, f t = r → W p l e R s m args below meth c H locs cells slots Q (F0 m t ls rest)) : W p l e R s m args below meth c H locs cells slots Q (F0 m pc ls (.int x :: rest)) := by
  obtain ⟨t1, ht⟩ := ab_ctE ht
  obtain ⟨t2, t3⟩ := ab_ctE ht
  have t1 := of_decide_eq_true t1
  simp only [Bool.and_eq_true, List.all_eq_true, decide_eq_true_eq] at t2
  have key : ∀ (qs : List (Int × Int)), (∀ o ∈ qs, 0 ≤ (pc : Int) + o.2 ∧ -2147483648 ≤ o.1 ∧ o.1 ≤ 2147483647) → ab_sw x (ab_tg pc df) f (qs.map fun o => (o.1, ab_tg pc o.2)) = r → ∃ tgt : Nat, (pc : Int) + Op.lookupswitch.offset qs df x.toInt = (tgt : Int) ∧ f tgt = r := by
    intro qs
    induction qs with
    | nil => intro _ h; exact ⟨_, ab_tgE (decide_eq_true t1), h⟩
    | cons a qs ih =>
      intro hq h
      obtain ⟨b1, b2, b3⟩ := hq a List.mem_cons_self
      have hax : (Int32.ofInt a.1).toInt = a.1 := Int32.toInt_ofInt_of_le (by omega) (by omega)
      simp only [List.map_cons, ab_sw] at h
      rcases a with ⟨a, o⟩
      rw [Op.lookupswitch.offset_cons]
      split at h
      · rename_i hx
        have : x.toInt = a := by rw [hx]; exact hax
        first | rw [if_pos this.symm] | rw [if_pos this] | simp only [this, if_true]
        exact ⟨_, ab_tgE (decide_eq_true b1), h⟩
      · rename_i hx
        have : ¬ x.toInt = a := fun q => hx (by rw [← q, Int32.ofInt_toInt])
        first | rw [if_neg (fun q => this q.symm)] | rw [if_neg this]
        exact ih (fun o ho => hq o (List.mem_cons_of_mem _ ho)) h
  obtain ⟨tgt, e1, e2⟩ := key ps.toList (fun o ho => by have := t2 o ho; exact ⟨this.1, this.2.1, this.2.2⟩) h
  exact lv_lookup hF.1 hF.2.1 hd t3 rfl e1 (hK _ e2)
theorem ab_xsta {i : Nat} (hF : ab_F k p s m meth c) (hE : ab_E D wa B Hb s) (hd : decode (ab_by k) pc = .ok (.getstatic i, 3)) (hres : (ab_own k, i) ∈ ab_stl) (hK : ab_G p l e R s m args below meth c Q D q sa wa B n0 z0 k Hb (pc + 3) L (.inr (.inr 2) :: st) S) : ab_G p l e R s m args below meth c Q D q sa wa B n0 z0 k Hb pc L st S := by
  intro H locs ls hL hl hX
  obtain ⟨cf, kf, fi, f, a, cell, h1, h2, h3, h4, h5, h6, h7, h8⟩ := hE.2.2.1
  exact W.gets hF.1 hF.2.1 hF.2.2.2.2.2.2.1 (hE.word (ab_stl_ok hres) args) h1 h2 h3 h4 (by rw [hX.2.2.1 a (Nat.not_le.mp h8)]; exact h5) (fun e => by rw [e] at h6; cases h6) h7 rfl (hd) (hK H locs ls hL hl hX)
theorem ab_thkE {j n : Nat} {ad : Nat → Nat} (h : ab_thk k S j (st.drop (n - 1)) = true) (hn : n ≤ st.length) (hp : 1 ≤ n) : ∃ r, (st.take n).reverse = .inr (.inr r) :: (st.take (n - 1)).reverse ∧ st.map (ab_cv ad) = ((st.take (n - 1)).reverse.map (ab_cv ad)).reverse ++ ab_cv ad (.inr (.inr r)) :: (st.drop n).map (ab_cv ad) ∧ ab_ok k S r (10 + ab_own j) = true := by
  have hd : st.drop (n - 1) = st[n - 1]'(by omega) :: st.drop n := by
    rw [List.drop_eq_getElem_cons (by omega), show n - 1 + 1 = n by omega]
  rw [hd] at h
  have ht : st.take n = st.take (n - 1) ++ [st[n - 1]'(by omega)] := by
    conv => lhs; rw [show n = (n - 1) + 1 by omega]
    rw [List.take_add_one]
    simp [List.getElem?_eq_getElem (show n - 1 < st.length by omega)]
  match hv : st[n - 1]'(by omega), h with
  | .inr (.inr r), h =>
    refine ⟨r, by rw [ht, hv]; simp, ?_, h⟩
    rw [← List.map_reverse, List.reverse_reverse, ← List.map_cons, ← List.map_append]
    congr 1
    conv => lhs; rw [← List.take_append_drop (n - 1) st, hd, hv]
theorem ab_cats (ad : Nat → Nat) : ∀ (vs : List ab_V), ((vs.map (ab_cv ad)).map fun v => v.category).sum ≤ 2 * vs.length
  | [] => Nat.le_refl _
  | v :: r => by
    have := ab_cats ad r
    have h2 : (ab_cv ad v).category ≤ 2 := by rcases lv_cat (ab_cv ad v) with h | h <;> omega
    simp only [List.map_cons, List.sum_cons, List.length_cons]
    omega
theorem ab_pairs (at_ : Nat) : ∀ (xs : List Value) (i : Nat) (c : Cell), (c.storePairs at_ (xs.zipIdx i)).cls = c.cls ∧ (c.storePairs at_ (xs.zipIdx i)).vm = c.vm ∧ (c.storePairs at_ (xs.zipIdx i)).slots.size = c.slots.size ∧
    ∀ k, k < c.slots.size → (c.storePairs at_ (xs.zipIdx i)).slots[k]? = if at_ + i ≤ k ∧ k < at_ + i + xs.length then some (xs.getD (k - (at_ + i)) .null) else c.slots[k]?
  | [], i, c => ⟨rfl, rfl, rfl, fun k _ => by rw [if_neg (by simp only [List.length_nil]; omega)]; rfl⟩
  | x :: xs, i, c => by
    rw [List.zipIdx_cons]
    obtain ⟨h1, h2, h3, h4⟩ := ab_pairs at_ xs (i + 1) (c.setSlot (at_ + i) x)
    refine ⟨h1, h2, h3.trans (k2_slotsz _ _ _), fun k hk => ?_⟩
    show ((c.setSlot (at_ + i) x).storePairs at_ (xs.zipIdx (i + 1))).slots[k]? = _
    rw [h4 k (by rw [k2_slotsz]; exact hk)]
    by_cases e : k = at_ + i
    · subst e
      rw [if_neg (by omega), if_pos (by simp only [List.length_cons]; omega)]
      simp [Cell.setSlot, hk]
    · rw [slot_ne _ _ (Ne.symm e)]
      by_cases h : at_ + (i + 1) ≤ k ∧ k < at_ + (i + 1) + xs.length
      · rw [if_pos h, if_pos (by simp only [List.length_cons]; omega)]
        have e : k - (at_ + i) = (k - (at_ + (i + 1))) + 1 := by omega
        rw [e, List.getD_cons_succ]
      · rw [if_neg h, if_neg (by simp only [List.length_cons]; omega)]
theorem ab_nn {z : Int32} (hz : ¬ z < 0) : z.toInt = (z.toNatClampNeg : Int) := by
  have hz0 : (0 : Int) ≤ z.toInt := by
    have := Int32.not_lt.mp hz
    simpa using Int32.le_iff_toInt_le.mp this
  show z.toInt = ((z.toInt.toNat : Nat) : Int)
  omega
theorem ab_xcopy {i : Nat} {n dp sp : Int32} {o a : Nat} {f : Nat × Nat} (hF : ab_F k p s m meth c) (hE : ab_E D wa B Hb s) (hA : sa < B ∧ wa < B ∧ sa ≠ wa) (hd : decode (ab_by k) pc = .ok (.invokestatic i, 3)) (hres : (ab_own k, i, 9, f) ∈ ab_mtl) (hfr : 1 ≤ R.frames) (hlo : 200 ≤ R.locals)
    (hg1 : (ab_ok k S a 3 && (ab_ok k S o 3 && (Nat.blt 2 o && (!Nat.beq a o && Nat.ble st.length 8)))) = true)
    (hg2 : (!decide (n < 0) && (!decide (sp < 0) && (!decide (dp < 0) && (Nat.ble (sp.toNatClampNeg + n.toNatClampNeg) (ab_N q a) && (Nat.ble (dp.toNatClampNeg + n.toNatClampNeg) (ab_N q o) && ab_cf S a sp.toNatClampNeg n.toNatClampNeg))))) = true)
    (hK : ab_G p l e R s m args below meth c Q D q sa wa B n0 z0 k Hb (pc + 3) L st (ab_wc S a sp.toNatClampNeg o dp.toNatClampNeg n.toNatClampNeg)) : ab_G p l e R s m args below meth c Q D q sa wa B n0 z0 k Hb pc L (.inl n :: .inl dp :: .inr (.inr o) :: .inl sp :: .inr (.inr a) :: st) S := by
  intro H locs ls hL hl hX T hT X
  simp only [Bool.and_eq_true, Bool.not_eq_true', decide_eq_false_iff_not] at hg1 hg2
  obtain ⟨hoa, hoo, ho2, hao, h8⟩ := hg1
  obtain ⟨hn, hsp, hdp, hb1, hb2, hcf⟩ := hg2
  have ho2 := ab_blt ho2
  have h8 := Nat.le_of_ble_eq_true h8
  have hb1 := Nat.le_of_ble_eq_true hb1
  have hb2 := Nat.le_of_ble_eq_true hb2
  obtain ⟨hTa, ha0, halt⟩ := ab_okE hoa hX.2.1
  obtain ⟨hTo, ho0, holt⟩ := ab_okE hoo hX.2.1
  obtain ⟨ca, a1, a2, a3, a4, a5, -⟩ := (hX.1.1 a ha0 halt).2 (by omega)
  obtain ⟨co, o1, o2, o3, o4, o5, o6⟩ := (hX.1.1 o ho0 holt).2 (by omega)
  rw [hTa] at a2 a5
  rw [hTo] at o2 o5
  obtain ⟨a6, ka, hka, cma, hkka⟩ := a2
  obtain ⟨o7, ko, hko, cmo, hkko⟩ := id o2
  obtain ⟨w1, w2, w3, w4⟩ := ab_mtl_a (j := f.1) (n := f.2) hres
  have hcat := ab_cats (ab_ad sa wa B) st
  have hval : ∀ i, i < n.toNatClampNeg → ca.slots.getD (sp.toNatClampNeg + i) .null = .int (S.1 a (sp.toNatClampNeg + i)) := fun i hi => by
    rw [Array.getD_eq_getD_getElem?, a5 _ (by omega)]
    rfl
  have q4 := a4.1
  have q5 := o4.1
  obtain ⟨vm', X', step⟩ := X.arraycopy hF.1 hF.2.2.2.2.2.2.1 (hE.word w1 args) (hE.word w2 args) (hE.word w3 args) (hE.word w4 args) (src := ab_ad sa wa B a) (dst := ab_ad sa wa B o) (cs := ca) (cd := co) (srcPos := sp) (destPos := dp) (n := n) (by rw [hT]; exact a1) (by rw [hT]; exact o1)
    a6 o7 a3 o3 hka hko hkka hkko (by decide) hsp hdp hn (by rw [ab_nn hsp, ab_nn hn]; omega) (by rw [ab_nn hdp, ab_nn hn]; omega)
    (fun vm₁ _ i hi => by
      rw [hval i hi]
      exact ⟨List.all_eq_true.mp hcf i (List.mem_range.mpr hi), trivial⟩)
    (g := F0 m pc ls ((.inl n :: .inl dp :: .inr (.inr o) :: .inl sp :: .inr (.inr a) :: st : List ab_V).map (ab_cv (ab_ad sa wa B)))) rfl (by rw [hF.2.2.1, ← hl]; exact hL.1) (rest := st.map (ab_cv (ab_ad sa wa B))) (by show List.map _ _ = _; simp only [List.map_cons]; rw [ab_cvr ha0, ab_cvr ho0]; rfl) (by rw [hF.2.1]; exact hd) hfr
    (by show 2 * 0 + _ + (nativeFrameWords "java/lang/System" "arraycopy" 5 + 11) ≤ _; have : nativeFrameWords "java/lang/System" "arraycopy" 5 ≤ 100 := by decide +kernel
        omega)
  obtain ⟨e1, e2, e3, e4⟩ := ab_pairs dp.toNatClampNeg (ca.stretch sp.toNatClampNeg n.toNatClampNeg) 0 co
  have hlen : (ca.stretch sp.toNatClampNeg n.toNatClampNeg).length = n.toNatClampNeg := by simp [Cell.stretch]
  have hlo' : ab_ad sa wa B o < H.size := (Array.getElem?_eq_some_iff.mp o1).1
  have oq : ∀ b : Nat, b ≠ ab_ad sa wa B o → (H.setIfInBounds (ab_ad sa wa B o) (copied ca co sp dp n))[b]? = H[b]? := fun b hb => by simp [Array.getElem?_setIfInBounds, Ne.symm hb]
  have hce : ab_ce D q (ab_ad sa wa B) (ab_wc S a sp.toNatClampNeg o dp.toNatClampNeg n.toNatClampNeg) s (H.setIfInBounds (ab_ad sa wa B o) (copied ca co sp dp n)) o := by
    refine ⟨fun h => by omega, fun _ => ?_⟩
    rw [hTo]
    refine ⟨copied ca co sp dp n, by simp [Array.getElem?_setIfInBounds, hlo'], ⟨fun z hz => o7 z (by rw [← hz]; exact e2.symm), ko, by show s.vm.classes[(copied ca co sp dp n).cls]? = _; rw [show (copied ca co sp dp n).cls = co.cls from e1]; exact hko, cmo, hkko⟩, by rw [show (copied ca co sp dp n).vm = co.vm from e2]; exact o3, by rw [show (copied ca co sp dp n).slots.size = co.slots.size from e3]; exact o4, fun j hj => ?_, fun h => by omega⟩
    show (co.storePairs dp.toNatClampNeg ((ca.stretch sp.toNatClampNeg n.toNatClampNeg).zipIdx 0)).slots[j]? = _
    rw [e4 j (by omega), hlen, Nat.add_zero]
    show _ = some (Value.int (if o = o ∧ dp.toNatClampNeg ≤ j ∧ j < dp.toNatClampNeg + n.toNatClampNeg then S.1 a (sp.toNatClampNeg + (j - dp.toNatClampNeg)) else S.1 o j))
    by_cases hj2 : dp.toNatClampNeg ≤ j ∧ j < dp.toNatClampNeg + n.toNatClampNeg
    · rw [if_pos hj2, if_pos ⟨rfl, hj2⟩, List.getD_eq_getElem?_getD]
      unfold Cell.stretch
      rw [List.getElem?_map, List.getElem?_range (by omega)]
      simp only [Option.map_some, Option.getD_some]
      rw [hval _ (by omega)]
    · rw [if_neg hj2, if_neg (fun h => hj2 h.2)]
      exact o5 j hj
  have hW := hX.1.set (S' := ab_wc S a sp.toNatClampNeg o dp.toNatClampNeg n.toNatClampNeg) hA.1 hA.2.1 hA.2.2 ho0 holt (by simp) oq rfl (fun x j hx => by show (if _ then _ else _) = _; rw [if_neg (fun h => hx h.1)]) (fun _ _ _ => rfl) (fun _ _ _ => rfl) hce
  have hXX := hX.locs (L := (ca.stretch sp.toNatClampNeg n.toNatClampNeg).zipIdx.map fun q => ⟨ab_ad sa wa B o, dp.toNatClampNeg + q.2⟩) ho2 hW (fun hm => ab_inv_of (hX.2.1 hm) rfl fun _ _ => rfl) oq (fun x hx => by obtain ⟨z, -, hz⟩ := List.mem_map.mp hx; rw [← hz]) rfl
  obtain ⟨t, s1, s2⟩ := hK _ _ ls hL hl hXX _ (by rw [← hT]; rfl) X'
  exact ⟨t, step t s1, s2⟩
end ab_more
end
section
-- The abstract machine is sound: ends, new cells.
section ab_ends
variable {p : Program} {l : Launch} {e : Env} {R : Room} {s : State} {m : MethodId} {args : Array Value} {below : List Frame} {meth : Method} {c : Code} {Q : State → Prop} {D : va_G} {q sa wa B n0 z0 k pc : Nat} {Hb : Heap} {L : ab_L} {st : List ab_V} {S : ab_S}
def ab_ov (k : Nat) (ad : Nat → Nat) (o : ab_O) : Option Value := match ab_ret k with
  | 0 => none
  | 2 => some (.long o.2.2.1)
  | 3 => some (ab_cv ad (.inr (.inr o.2.2.2)))
  | _ => some (.int o.2.1)
def ab_exc (x : Nat) (a : Addr) (t : State) : Prop := ∃ cell : Cell, t.heap[a]? = some cell ∧ t.vm.findClass (ab_xn x) = some cell.cls ∧ ∀ z, cell.vm ≠ .statics z
def ab_out (k : Nat) (ad : Nat → Nat) (o : ab_O) (t : State) (out : Outcome) : Prop := (o.1 = 0 ∧ out = .returned (ab_ov k ad o)) ∨ (o.1 ≠ 0 ∧ ∃ a, out = .threw a ∧ ab_exc o.1 a t)
def ab_Q (s : State) (below : List Frame) (D : va_G) (q sa wa B n0 z0 k : Nat) (Hb : Heap) (o : ab_O) (S' : ab_S) : State → Prop := fun t =>
  ∃ out, t.status = .running ∧ Ended t below out ∧ ab_out k (ab_ad sa wa B) o t out ∧ s.WarmedH t.vm ∧ (∃ L, s.sameButNew ({ t with vm := s.vm } : State) L (S'.2.2.2.2.1 - n0) (S'.2.2.2.2.2 - z0) ∧ ∀ x ∈ L, B ≤ x.base) ∧
    ab_Wd D q sa wa B S' s t.heap ∧ (ab_md k = true → ab_inv S' = true) ∧ (∀ a, a < B → t.heap[a]? = Hb[a]?) ∧ n0 ≤ S'.2.2.2.2.1 ∧ z0 ≤ S'.2.2.2.2.2
theorem ab_ofMQ {H : Heap} {locs : List Loc} {g : JFrame} {v : Option Value} {o : ab_O} (hX : ab_X D q sa wa B n0 z0 k Hb s S H locs) (ho : o.1 = 0) (hv : ab_ov k (ab_ad sa wa B) o = v)
    (w : W p l e R s m args below meth c H locs (S.2.2.2.2.1 - n0) (S.2.2.2.2.2 - z0) (MQ below (fun _ _ oc t => oc = .returned v ∧ t.heap = H) args s (S.2.2.2.2.1 - n0) (S.2.2.2.2.2 - z0) (fun a => B ≤ a)) g) :
    W p l e R s m args below meth c H locs (S.2.2.2.2.1 - n0) (S.2.2.2.2.2 - z0) (ab_Q s below D q sa wa B n0 z0 k Hb o S) g := by
  intro T hT X
  obtain ⟨t, a1, oc, b1, b2, ⟨b3, b4⟩, L', ⟨-, b5, b6⟩, b7⟩ := w T hT X
  refine ⟨t, a1, oc, b1, b2, Or.inl ⟨ho, by rw [b3, hv]⟩, b5, ⟨L', b6, b7⟩, by rw [b4]; exact hX.1, hX.2.1, by rw [b4]; exact hX.2.2.1, hX.2.2.2.2⟩
theorem ab_zret {cc : ByteArray} {H : Heap} {locs : List Loc} {cells slots : Nat} {Qc : Array Value → State → Outcome → State → Prop} {free : Addr → Prop} {x v : Int32} {ty : FieldType} (hexec : p.tables.exec = Jvm.exec) (hb : c.code = cc) (hr : meth.sig.returnType = some ty) (hn : narrow ty (.int x) = .int v)
    (hq : ∀ t : State, t.heap = H → s.WarmedH t.vm → Qc args s (.returned (some (.int v))) t) (hf : ∀ q ∈ locs, free q.base)
    {pc : Nat} {ls : Array Slot} (hdg : decode cc pc = .ok (.ireturn, 1)) (hlocks : meth.locks = false) : W p l e R s m args below meth c H locs cells slots (MQ below Qc args s cells slots free) (F0 m pc ls [.int x]) := by
  intro T hT X
  obtain ⟨fs, hret, hrun, hended, hW, hframe⟩ := X.leave (v := some (.int v)) (fun h => by rw [hr] at h; cases h)
  have hmeth' : T.vm.method? m = some meth := X.method'
  refine ⟨T.setFrames fs, ?_, .returned (some (.int v)), hrun, hended, hq _ hT hW, locs, ⟨⟨_, rfl⟩, hW, hframe⟩, hf⟩
  jvm_step X.here [X.here.top, hexec, hb, hdg, hmeth', hr, hn]
  (try refine ⟨rfl, ?_⟩); (try refine ⟨rfl, ?_⟩)
  first | (intro acts; rw [hret _ acts rfl rfl rfl]) | rw [hret _ _ rfl rfl rfl]
  exact Steps.refl _
theorem ab_xiret {x : Int32} {o : ab_O} (hF : ab_F k p s m meth c) (hd : decode (ab_by k) pc = .ok (.ireturn, 1)) {y : Int32} {ty : FieldType} (hr : ab_rty k = some ty) (hn : narrow ty (.int x) = .int y) (ho : o.1 = 0) (hv : ab_ov k (ab_ad sa wa B) o = some (.int y)) :
    ab_G p l e R s m args below meth c (ab_Q s below D q sa wa B n0 z0 k Hb o S) D q sa wa B n0 z0 k Hb pc L [.inl x] S := by
  intro H locs ls hL hl hX
  exact ab_ofMQ hX ho hv (ab_zret hF.1 hF.2.1 (by rw [hF.2.2.2.1]; exact hr) hn (fun t h _ => ⟨rfl, h⟩) hX.2.2.2.1 hd hF.2.2.2.2.1)
theorem ab_xlret {x : Int64} {o : ab_O} (hF : ab_F k p s m meth c) (hd : decode (ab_by k) pc = .ok (.lreturn, 1)) (hr : ab_rty k = some .long) (ho : o.1 = 0) (hv : ab_ov k (ab_ad sa wa B) o = some (.long x)) :
    ab_G p l e R s m args below meth c (ab_Q s below D q sa wa B n0 z0 k Hb o S) D q sa wa B n0 z0 k Hb pc L [.inr (.inl x)] S := by
  intro H locs ls hL hl hX
  exact ab_ofMQ hX ho hv (W.lret hF.1 hF.2.1 (by rw [hF.2.2.2.1]; exact hr) (fun t h _ => ⟨rfl, h⟩) hX.2.2.2.1 hd hF.2.2.2.2.1)
theorem ab_xaret {x : Nat} {o : ab_O} {C : String} (hF : ab_F k p s m meth c) (hd : decode (ab_by k) pc = .ok (.areturn, 1)) (hr : ab_rty k = some (.object C)) (ho : o.1 = 0) (hv : ab_ov k (ab_ad sa wa B) o = some (ab_cv (ab_ad sa wa B) (.inr (.inr x)))) :
    ab_G p l e R s m args below meth c (ab_Q s below D q sa wa B n0 z0 k Hb o S) D q sa wa B n0 z0 k Hb pc L [.inr (.inr x)] S := by
  intro H locs ls hL hl hX
  exact ab_ofMQ hX ho hv (W.aret hF.1 hF.2.1 (by rw [hF.2.2.2.1]; exact hr) (Or.inl ⟨C, rfl⟩) (by cases x with | zero => exact Or.inl rfl | succ x => exact Or.inr ⟨_, rfl⟩) (fun t h _ => ⟨rfl, h⟩) hX.2.2.2.1 hd hF.2.2.2.2.1)
theorem ab_xvret {o : ab_O} (hF : ab_F k p s m meth c) (hd : decode (ab_by k) pc = .ok (.return_, 1)) (hr : ab_rty k = none) (ho : o.1 = 0) (hv : ab_ov k (ab_ad sa wa B) o = none) :
    ab_G p l e R s m args below meth c (ab_Q s below D q sa wa B n0 z0 k Hb o S) D q sa wa B n0 z0 k Hb pc L [] S := by
  intro H locs ls hL hl hX
  exact ab_ofMQ hX ho hv (W.vret hF.1 hF.2.1 (by rw [hF.2.2.2.1]; exact hr) (fun t h _ => ⟨rfl, h⟩) hX.2.2.2.1 hd hF.2.2.2.2.1)
/-- a cell more: the world behind it -/
theorem ab_X.push {H H' : Heap} {locs : List Loc} {n : Nat} (hX : ab_X D q sa wa B n0 z0 k Hb s S H locs) (hm : ab_md k = false) (hlt : S.2.2.2.1 < ab_C) (hz : H'.size = H.size + 1) (ho : ∀ a, a < H.size → H'[a]? = H[a]?) (hc : ab_ce D q (ab_ad sa wa B) (ab_wn S n) s H' S.2.2.2.1) (hA : sa < B ∧ wa < B ∧ sa ≠ wa) :
    ab_X D q sa wa B n0 z0 k Hb s (ab_wn S n) H' locs := by
  obtain ⟨⟨w1, w2, w3, w4, w5, w6⟩, -, x3, x4, x5, x6⟩ := hX
  have hH := w5 hlt
  refine ⟨⟨fun r a b => ?_, by show 3 ≤ _ + 1; omega, by show _ + 1 ≤ _; omega, by show _ + (_ + 1 - 3) ≤ _; omega, fun _ => by show _ = _ + (_ + 1 - 3); omega, fun r j hr => w6 r j (by have : S.2.2.2.1 + 1 ≤ r := hr; omega)⟩, fun h => (by rw [hm] at h; cases h), fun a ha => ?_, x4, by show n0 ≤ _ + 1; omega, by show z0 ≤ _ + n; omega⟩
  · have b' : r < S.2.2.2.1 + 1 := b
    by_cases e : r = S.2.2.2.1
    · subst e
      exact hc
    · refine (w1 r a (by omega)).kept (ho _ ?_) (fun _ => rfl) (fun _ => rfl) (fun _ => rfl)
      match r, a with
      | 1, _ => show sa < _; omega
      | 2, _ => show wa < _; omega
      | r + 3, _ => show B + r < _; omega
  · rw [ho a (by omega)]
    exact x3 a ha
theorem ab_xnew {i : Nat} {f : Nat × Nat × Nat} (hF : ab_F k p s m meth c) (hE : ab_E D wa B Hb s) (hA : sa < B ∧ wa < B ∧ sa ≠ wa) (hd : decode (ab_by k) pc = .ok (.new i, 3)) (hres : (ab_own k, i, f) ∈ ab_cll) (hf0 : f.1 = 0) (hm : ab_md k = false) (hlt : S.2.2.2.1 < ab_C) (hT : ab_T S.2.2.2.1 = 10 + f.2.1)
    (hc : S.2.2.2.2.1 + 1 - n0 ≤ R.cells) (hs : S.2.2.2.2.2 + f.2.2 - z0 ≤ R.slots)
    (hK : ab_G p l e R s m args below meth c Q D q sa wa B n0 z0 k Hb (pc + 3) L (.inr (.inr S.2.2.2.1) :: st) (ab_wn S f.2.2)) : ab_G p l e R s m args below meth c Q D q sa wa B n0 z0 k Hb pc L st S := by
  intro H locs ls hL hl hX
  obtain ⟨hc7, w1, w2, w3⟩ := ab_cll_ok _ hres hf0
  obtain ⟨hS, hfc, kC0, hkC0, hkind⟩ := hE.2.1.1 f.2.1 _ (ab_cl_at hc7)
  have h5 := hX.2.2.2.2.1
  have h6 := hX.2.2.2.2.2
  refine W.newcK hF.1 hF.2.1 hF.2.2.2.2.2.2.1 (hE.word w1 args) (hE.word w2 args) (hE.word w3 args) rfl hd (by omega) (by omega) hfc rfl fun H' kC hkC e1 e2 e3 => ?_
  have h3 : 2 < S.2.2.2.1 := hX.1.2.1
  have had : ab_ad sa wa B S.2.2.2.1 = H.size := by rw [ab_ad_eq h3, hX.1.2.2.2.2.1 hlt]
  have hce : ab_ce D q (ab_ad sa wa B) (ab_wn S f.2.2) s H' S.2.2.2.1 := by
    refine ⟨fun _ => ?_, fun h => by omega⟩
    obtain ⟨cell, q1, q2, q3, q4⟩ := u_born (ab_fty f.2.1) (fun w hw => hE.word hw args) (ab_uws hc7) (hE.2.1.1 f.2.1 _ (ab_cl_at hc7)) hkC e1 (ab_tyF hc7)
    rw [hT, Nat.add_sub_cancel_left, had]
    refine ⟨cell, q1, q2, q3, fun g hg => ?_⟩
    rw [q4 g hg]
    congr 1
    obtain ⟨z1, -, z3⟩ := hX.1.2.2.2.2.2 S.2.2.2.1 g (Nat.le_refl _)
    show _ = ab_fv _ S f.2.1 S.2.2.2.1 g
    unfold ab_fv
    rw [z1, z3]
    exact ab_dfl hc7 hg
  have := hK H' locs ls hL hl (hX.push hm hlt e2 e3 hce hA)
  rw [List.map_cons, ab_cvr (by omega), had] at this
  exact W.cs (by show _ = _ + 1 - n0; omega) (by show _ = _ + f.2.2 - z0; omega) this
theorem ab_xnewa {n : Int32} {t : ArrayType} (hF : ab_F k p s m meth c) (hE : ab_E D wa B Hb s) (hA : sa < B ∧ wa < B ∧ sa ≠ wa) (hd : decode (ab_by k) pc = .ok (.newarray t, 2)) (hm : ab_md k = false) (hlt : S.2.2.2.1 < ab_C) (hT : ab_T S.2.2.2.1 = ab_atc t) (ht : ab_atc t = 1 ∨ ab_atc t = 2 ∨ ab_atc t = 3 ∨ ab_atc t = 4) (hn : ¬ n < 0) (hN : n.toNatClampNeg = ab_N q S.2.2.2.1) (hb : n.toNatClampNeg ≤ 20000)
    (hc : S.2.2.2.2.1 + 1 - n0 ≤ R.cells) (hs : S.2.2.2.2.2 + n.toNatClampNeg - z0 ≤ R.slots)
    (hK : ab_G p l e R s m args below meth c Q D q sa wa B n0 z0 k Hb (pc + 2) L (.inr (.inr S.2.2.2.1) :: st) (ab_wn S n.toNatClampNeg)) : ab_G p l e R s m args below meth c Q D q sa wa B n0 z0 k Hb pc L (.inl n :: st) S := by
  intro H locs ls hL hl hX
  have h5 := hX.2.2.2.2.1
  have h6 := hX.2.2.2.2.2
  obtain ⟨w1, hty, hcb, hdv⟩ := ab_atc_ok t ht
  refine W.newaK hF.1 hF.2.1 (hE.word w1 args) rfl hd rfl hn rfl (Nat.le_trans (Nat.mul_le_mul hb hcb) (by decide)) (by omega) (by omega) rfl fun H' cA e1 e2 e3 hA' => ?_
  have h3 : 2 < S.2.2.2.1 := hX.1.2.1
  have had : ab_ad sa wa B S.2.2.2.1 = H.size := by rw [ab_ad_eq h3, hX.1.2.2.2.2.1 hlt]
  have hce : ab_ce D q (ab_ad sa wa B) (ab_wn S n.toNatClampNeg) s H' S.2.2.2.1 := by
    refine ⟨fun h => by omega, fun _ => ?_⟩
    rw [had, hT]
    refine ⟨_, e1, by rw [← hty]; exact hA' _ _, fun h => (by cases h), ⟨by rw [arrV_size]; omega, by rw [arrV_size, ← hN]⟩, fun j hj => ?_, fun h => by omega⟩
    rw [arrV_read _ _ (by omega), hdv]
    congr 1
    obtain ⟨z1, z2, -⟩ := hX.1.2.2.2.2.2 S.2.2.2.1 j (Nat.le_refl _)
    show _ = ab_xv _ S (ab_atc t) S.2.2.2.1 j
    unfold ab_xv
    rw [z1, z2]
    rcases ht with h | h | h | h <;> (rw [h]; try rfl)
  have := hK H' locs ls hL hl (hX.push hm hlt e2 e3 hce hA)
  rw [List.map_cons, ab_cvr (by omega), had] at this
  exact W.cs (by show _ = _ + 1 - n0; omega) (by show _ = _ + n.toNatClampNeg - z0; omega) this
theorem ab_xanew {n : Int32} {i : Nat} {f : Nat × Nat × Nat} (hF : ab_F k p s m meth c) (hE : ab_E D wa B Hb s) (hA : sa < B ∧ wa < B ∧ sa ≠ wa) (hd : decode (ab_by k) pc = .ok (.anewarray i, 3)) (hres : (ab_own k, i, f) ∈ ab_cll) (hf2 : f.1 = 2) (hm : ab_md k = false) (hlt : S.2.2.2.1 < ab_C) (hT : ab_T S.2.2.2.1 = 5) (hn : ¬ n < 0) (hN : n.toNatClampNeg = ab_N q S.2.2.2.1) (hb : n.toNatClampNeg ≤ 20000)
    (hc : S.2.2.2.2.1 + 1 - n0 ≤ R.cells) (hs : S.2.2.2.2.2 + n.toNatClampNeg - z0 ≤ R.slots)
    (hK : ab_G p l e R s m args below meth c Q D q sa wa B n0 z0 k Hb (pc + 3) L (.inr (.inr S.2.2.2.1) :: st) (ab_wn S n.toNatClampNeg)) : ab_G p l e R s m args below meth c Q D q sa wa B n0 z0 k Hb pc L (.inl n :: st) S := by
  intro H locs ls hL hl hX
  have h5 := hX.2.2.2.2.1
  have h6 := hX.2.2.2.2.2
  obtain ⟨w1, w2⟩ := ab_cll_ar _ hres hf2
  refine W.anew hF.1 hF.2.1 hF.2.2.2.2.2.2.1 (hE.word w1 args) (hE.word w2 args) rfl hd rfl hn (by omega) (by omega) (by omega) fun cA kA comp g1 g2 g3 g4 => ?_
  have h3 : 2 < S.2.2.2.1 := hX.1.2.1
  have had : ab_ad sa wa B S.2.2.2.1 = H.size := by rw [ab_ad_eq h3, hX.1.2.2.2.2.1 hlt]
  obtain ⟨-, hfc, -⟩ := hE.2.1.1 2 _ (ab_cl_at (by decide))
  have hcomp : comp = D.1 2 := Option.some.inj (g4.symm.trans hfc)
  have hce : ab_ce D q (ab_ad sa wa B) (ab_wn S n.toNatClampNeg) s (H.push { cls := cA, slots := Array.replicate n.toNatClampNeg .null, vm := .none }) S.2.2.2.1 := by
    refine ⟨fun h => by omega, fun _ => ?_⟩
    rw [had, hT]
    refine ⟨{ cls := cA, slots := Array.replicate n.toNatClampNeg .null, vm := .none }, by simp, ⟨fun z h => (by cases h), kA, g2, comp, g3⟩, fun h => (by cases h), ⟨by simp; omega, by simp [← hN]⟩, fun j hj => ?_, fun _ => ⟨kA, g2, by rw [g3, hcomp]⟩⟩
    obtain ⟨-, -, z3⟩ := hX.1.2.2.2.2.2 S.2.2.2.1 j (Nat.le_refl _)
    show _ = some (ab_cv _ (.inr (.inr (S.2.2.1 S.2.2.2.1 j))))
    rw [z3]
    have : j < n.toNatClampNeg := by omega
    simp [this, ab_cv]
  have := hK _ locs ls hL hl (hX.push hm hlt (by simp) (fun a ha => by rw [Array.getElem?_push, if_neg (Nat.ne_of_lt ha)]) hce hA)
  rw [List.map_cons, ab_cvr (by omega), had] at this
  exact W.cs (by show _ = _ + 1 - n0; omega) (by show _ = _ + n.toNatClampNeg - z0; omega) this
end ab_ends
end
section
-- The abstract machine is sound: calls.
section ab_calls
variable {p : Program} {l : Launch} {e : Env} {R : Room} {s : State} {m : MethodId} {args : Array Value} {below : List Frame} {meth : Method} {c : Code} {Q : State → Prop} {D : va_G} {q sa wa B n0 z0 k pc : Nat} {Hb : Heap} {L : ab_L} {st : List ab_V} {S : ab_S} {T : State} {locs : List Loc} {cells slots : Nat}
/-- a method of the tables, as the machine finds it -/
theorem ab_named {j : Nat} (hE : ab_E D wa B Hb s) (hj : j < ab_M) : ∃ (mk : MethodId) (mt : Method) (ck : Code), s.methodNamed? (ab_nm j) = some mk ∧ s.vm.method? mk = some mt ∧ mt.code = some ck ∧ ck.code = ab_by j ∧ ck.maxLocals = ab_mxl j ∧ mt.sig.returnType = ab_rty j ∧ mt.locks = false ∧
    ck.exceptionTable.toList.map (fun h => (h.startPc, h.endPc, h.handlerPc, h.catchType)) = ab_ht j ∧ parseMethodDescriptor (ab_nm j).desc = some mt.sig ∧ mt.name = (ab_nm j).name ∧ s.vm.findClass (ab_cn (ab_own j)) = some mk.cls := by
  rcases ab_code_ok hj with ⟨h0, hw⟩ | hw
  · have w := hE.word hw #[]
    obtain ⟨mk, hn⟩ := Cond.code_named w
    obtain ⟨mt, ck, a1, a2, a3, a4, a5, a6, a7, a8⟩ := Cond.code_spec hn w
    refine ⟨mk, mt, ck, hn, a1, a2, a3, a4, a5, a6, ?_, a8, (name_of_methodNamed hn a1).1, ?_⟩
    · rw [h0]
      have : ck.exceptionTable = #[] := by simpa using a7
      rw [this]
      rfl
    · rw [ab_cnF hj]
      exact findClass_of_methodNamed hn
  · have w := hE.word hw #[]
    obtain ⟨mk, mt, ck, hn, a1, a2, a3, a4, a5, a6, a7, a8⟩ := Cond.codeWith_spec w
    refine ⟨mk, mt, ck, hn, a1, a2, a3, a4, a6, a7, a5, a8, (name_of_methodNamed hn a1).1, ?_⟩
    rw [ab_cnF hj]
    exact findClass_of_methodNamed hn
theorem ab_plain {j : Nat} (hj : j < ab_M) {mk : MethodId} {U : State} (hn : U.methodNamed? (ab_nm j) = some mk) : U.plainMethod mk := by
  refine State.plainMethod.of_name fun kc hk => ?_
  obtain ⟨k', hk', hnm⟩ := className_of_methodNamed hn
  cases hk.symm.trans hk'
  rw [hnm]
  exact ab_plF hj
def ab_iv (p : Program) (l : Launch) (e : Env) (R : Room) (s : State) (m : MethodId) (args : Array Value) (below : List Frame) (meth : Method) (c : Code) (T : State) (locs : List Loc) (cells slots : Nat) (g : JFrame) (y : MethodName) (av rest : List Value) : Prop :=
  ∃ (vm' : Vm) (mk : MethodId), Stand p l e R s m args below meth c (T.setVm vm') locs cells slots ∧ s.methodNamed? y = some mk ∧ s.WarmedH vm' ∧
    ∀ target, (∀ acts, Steps p.tables e below (doInvoke e ((T.setVm vm').setTop { g with stack := rest }) acts mk av.toArray).1 target) → Steps p.tables e below (T.setTop g) target
theorem ab_inS {i j n : Nat} (hF : ab_F k p s m meth c) (hE : ab_E D wa B Hb s) (X : Stand p l e R s m args below meth c T locs cells slots) (hres : (ab_own k, i, 1, j, n) ∈ ab_mtl) {g : JFrame} (hg : g.method = m) {av rest : List Value} (hlen : av.length = n) (hstack : g.stack = av.reverse ++ rest) (hd : decode c.code g.pc = .ok (.invokestatic i, 3)) :
    ab_iv p l e R s m args below meth c T locs cells slots g (ab_nm j) av rest := by
  obtain ⟨hj, w1, w2, w3, hsig, hx⟩ := ab_mtl_s hres
  obtain ⟨mk, mt, ck, hn, a1, a2, a3, a4, a5, a6, a7, a8, a9, a10⟩ := ab_named hE hj
  obtain ⟨kP, hkP, -⟩ := className_of_methodNamed hn
  have hst : mt.isStatic = true := Cond.static_spec hn a1 (hE.word w2 args)
  have hini : kP.init = .initialized := Cond.initialized_spec (findClass_of_methodNamed hn) hkP (hE.word w3 args)
  rcases w1 with w1 | ⟨host, w1⟩
  · obtain ⟨vm', X', hs⟩ := X.invokestatic hF.1 hF.2.2.2.2.2.2.1 (hE.word w1 args) hn a1 hst hkP hini hx hg (argsL := av) (rest := rest) (by rw [hlen]; exact hsig _ a8) hstack hd
    exact ⟨vm', mk, X', hn, X'.warmed, hs⟩
  · obtain ⟨vm', X', hs⟩ := X.invokestaticNest hF.1 hF.2.2.2.2.2.2.1 (hE.word w1 args) hn a1 hst hkP hini hx hg (argsL := av) (rest := rest) (by rw [hlen]; exact hsig _ a8) hstack hd
    exact ⟨vm', mk, X', hn, X'.warmed, hs⟩
theorem ab_inV {i j n : Nat} (hF : ab_F k p s m meth c) (hE : ab_E D wa B Hb s) (X : Stand p l e R s m args below meth c T locs cells slots) (hres : (ab_own k, i, 0, j, n) ∈ ab_mtl) {g : JFrame} (hg : g.method = m) {b : Addr} {av rest : List Value} (hlen : av.length + 1 = n) (hstack : g.stack = av.reverse ++ .ref b :: rest) (hd : decode c.code g.pc = .ok (.invokevirtual i, 3))
    {cell : Cell} (hcell : T.heap[b]? = some cell) (hvm : cell.vm = .none) (hcls : s.vm.findClass (ab_nm j).cls = some cell.cls) :
    ab_iv p l e R s m args below meth c T locs cells slots g (ab_nm j) (.ref b :: av) rest := by
  obtain ⟨hj, w1, w2, w3, hsig, hx⟩ := ab_mtl_v hres
  obtain ⟨mk, mt, ck, hn, a1, a2, a3, a4, a5, a6, a7, a8, a9, a10⟩ := ab_named hE hj
  obtain ⟨mk', mt', hn', hmM, hstM, habM⟩ := Cond.instanceMethod_spec (hE.word w2 args)
  cases hn.symm.trans hn'
  cases a1.symm.trans hmM
  obtain ⟨c2, r2, m2, q1, q2, q3, q4, kP, hkP, hkPi⟩ := Cond.selects_spec (hE.word w3 args)
  cases hcls.symm.trans q1
  cases (State.methodFound?_of_named hn hx).symm.trans q2
  cases hn.symm.trans q3
  have hselP : selectMethod e.platform s.vm cell.cls mk = .method mk := by rw [Launch.admits_selectMethod X.admits]; exact q4
  rcases w1 with w1 | ⟨host, w1⟩
  · obtain ⟨vm', X', hs⟩ := X.invokevirtual hF.1 hF.2.2.2.2.2.2.1 (hE.word w1 args) hn a1 hstM hkP hkPi hx (a := b) (cell := cell) hcell (fun z h => by rw [hvm] at h; cases h) hselP a1 habM hkP hkPi (g := g) hg (argsL := av) (rest := rest) (by have := hsig _ a8; omega) hstack hd
    exact ⟨vm', mk, X', hn, X'.warmed, hs⟩
  · obtain ⟨vm', X', hs⟩ := X.invokevirtualNest hF.1 hF.2.2.2.2.2.2.1 (hE.word w1 args) hn a1 hstM hkP hkPi hx (a := b) (cell := cell) hcell (fun z h => by rw [hvm] at h; cases h) hselP a1 habM hkP hkPi (g := g) hg (argsL := av) (rest := rest) (by have := hsig _ a8; omega) hstack hd
    exact ⟨vm', mk, X', hn, X'.warmed, hs⟩
theorem ab_inI {i j n : Nat} (hF : ab_F k p s m meth c) (hE : ab_E D wa B Hb s) (X : Stand p l e R s m args below meth c T locs cells slots) (hres : (ab_own k, i, 2, j, n) ∈ ab_mtl) {g : JFrame} (hg : g.method = m) {b : Addr} {av rest : List Value} (hlen : av.length + 1 = n) (hstack : g.stack = av.reverse ++ .ref b :: rest) (hd : decode c.code g.pc = .ok (.invokespecial i, 3)) :
    ab_iv p l e R s m args below meth c T locs cells slots g (ab_nm j) (.ref b :: av) rest := by
  obtain ⟨hj, w1, w2, w3, hname, hsig, hx⟩ := ab_mtl_i hres
  have hpl : e.platform.magicAccessors = ({} : Platform).magicAccessors := by rw [X.admits.platform]
  rcases w1 with w1 | ⟨host, w1⟩
  · obtain ⟨mk, mt, ck, kP, vm', hn, hm1, hc1, -, hl1, -, hkP, -, hW1, hs⟩ := Steps.initColdArgs (e := e) X.here hF.1 X.warmed hpl hF.2.2.2.2.2.2.1 hname hx (hE.word w1 args) (hE.word w2 args) (hE.word w3 args) (f := g) hg (fun sig h => by have := hsig _ h; omega) hstack hd
    exact ⟨vm', mk, X.noted hW1, hn, hW1, hs⟩
  · obtain ⟨mk, mt, ck, kP, vm', hn, hm1, hc1, -, hl1, -, hkP, -, hW1, hs⟩ := Steps.initColdArgsNest (e := e) X.here hF.1 X.warmed hpl hF.2.2.2.2.2.2.1 hname hx (hE.word w1 args) (hE.word w2 args) (hE.word w3 args) (f := g) hg (fun sig h => by have := hsig _ h; omega) hstack hd
    exact ⟨vm', mk, X.noted hW1, hn, hW1, hs⟩
/-- the locals that a method begins with -/
theorem ab_exp_sl (ad : Nat → Nat) : ∀ (vs : List ab_V), (lg_sl (vs.map (ab_cv ad))).length = (ab_exp vs).length
  | [] => rfl
  | .inl x :: r => by have := ab_exp_sl ad r; simp [lg_sl, ab_exp, ab_cv, Value.category] at this ⊢; exact this
  | .inr (.inl x) :: r => by have := ab_exp_sl ad r; simp [lg_sl, ab_exp, ab_cv, Value.category] at this ⊢; exact this
  | .inr (.inr 0) :: r => by have := ab_exp_sl ad r; simp [lg_sl, ab_exp, ab_cv, Value.category] at this ⊢; exact this
  | .inr (.inr (x + 1)) :: r => by have := ab_exp_sl ad r; simp [lg_sl, ab_exp, ab_cv, Value.category] at this ⊢; exact this
theorem ab_exp_args (ad : Nat → Nat) : ∀ (vs : List ab_V) (n i : Nat) (v : ab_V), (ab_exp vs)[i]? = some (some v) → (n + i, ab_cv ad v) ∈ lv_args n (vs.map (ab_cv ad))
  | [], _, _, _, h => by simp [ab_exp] at h
  | .inl x :: r, n, 0, v, h => by simp [ab_exp] at h; subst h; simp [lv_args]
  | .inl x :: r, n, i + 1, v, h => by
    simp only [ab_exp, List.getElem?_cons_succ] at h
    have := ab_exp_args ad r (n + 1) i v h
    simp only [List.map_cons, lv_args, ab_cv, Value.category]
    refine List.mem_cons_of_mem _ ?_
    rw [show n + (i + 1) = n + 1 + i by omega]
    exact this
  | .inr (.inl x) :: r, n, 0, v, h => by simp [ab_exp] at h; subst h; simp [lv_args]
  | .inr (.inl x) :: r, n, 1, v, h => by simp [ab_exp] at h
  | .inr (.inl x) :: r, n, i + 2, v, h => by
    simp only [ab_exp, List.getElem?_cons_succ] at h
    have := ab_exp_args ad r (n + 2) i v h
    simp only [List.map_cons, lv_args, ab_cv, Value.category]
    refine List.mem_cons_of_mem _ ?_
    rw [show n + (i + 2) = n + 2 + i by omega]
    exact this
  | .inr (.inr x) :: r, n, 0, v, h => by simp [ab_exp] at h; subst h; simp [lv_args]
  | .inr (.inr x) :: r, n, i + 1, v, h => by
    simp only [ab_exp, List.getElem?_cons_succ] at h
    have := ab_exp_args ad r (n + 1) i v h
    simp only [List.map_cons, lv_args]
    refine List.mem_cons_of_mem _ ?_
    rw [show n + (i + 1) = n + 1 + i by omega, if_neg (by cases x <;> simp [ab_cv, Value.category])]
    exact this
theorem ab_ent_LR {ad : Nat → Nat} {vs : List ab_V} {j : Nat} (h : (ab_exp vs).length ≤ ab_mxl j) : ab_LR ad (ab_ent j vs) (lg_sl (vs.map (ab_cv ad)) ++ List.replicate (ab_mxl j - (lg_sl (vs.map (ab_cv ad))).length) Slot.unset).toArray ∧ (ab_ent j vs).length = ab_mxl j := by
  have hl : (ab_ent j vs).length = ab_mxl j := by simp [ab_ent]; omega
  have he := lv_entry (vs.map (ab_cv ad)) (n := ab_mxl j) (by rw [ab_exp_sl]; exact h)
  refine ⟨⟨by rw [hl]; exact he.1, he.2.1, fun i v hi => ?_⟩, hl⟩
  unfold ab_ent at hi
  by_cases hlt : i < (ab_exp vs).length
  · rw [List.getElem?_append_left hlt] at hi
    have := ab_exp_args ad vs 0 i v hi
    rw [Nat.zero_add] at this
    exact he.2.2 _ this
  · rw [List.getElem?_append_right (by omega)] at hi
    have := List.eq_of_mem_replicate (List.mem_of_getElem? hi)
    cases this
end ab_calls
end
section
-- The abstract machine is sound: a call, and all instructions.
section ab_main
variable {p : Program} {l : Launch} {e : Env} {R : Room} {s : State} {m : MethodId} {args : Array Value} {below : List Frame} {meth : Method} {c : Code} {Q : State → Prop} {D : va_G} {q sa wa B n0 z0 k pc : Nat} {Hb : Heap} {L : ab_L} {st : List ab_V} {S : ab_S}
def ab_Snd (l : Launch) (D : va_G) (q sa wa B : Nat) (Hb : Heap) (n : Nat) : Prop := ∀ (d k pc : Nat) (L : ab_L) (st : List ab_V) (S : ab_S) (o : ab_O) (S' : ab_S), ab_run q n d k pc L st S = some (o, S') →
  ∀ (p : Program) (e : Env) (R : Room) (s : State) (m : MethodId) (args : Array Value) (below : List Frame) (meth : Method) (c : Code) (n0 z0 : Nat), ab_F k p s m meth c → ab_E D wa B Hb s → d + 8 ≤ R.frames → 64 * d + 200 ≤ R.locals → S'.2.2.2.2.1 - n0 ≤ R.cells → S'.2.2.2.2.2 - z0 ≤ R.slots →
    ab_G p l e R s m args below meth c (ab_Q s below D q sa wa B n0 z0 k Hb o S') D q sa wa B n0 z0 k Hb pc L st S
theorem ab_weak {tb : Tables} {g : Frame} {s1 s2 : State} (h : Steps tb e (g :: below) s1 s2) : Steps tb e below s1 s2 := by
  obtain ⟨n, h1, h2⟩ := h
  exact ⟨n, h1, fun k hk => Within.weaken (mid := [g]) (h2 k hk)⟩
theorem ab_push_cv {j : Nat} {ad : Nat → Nat} {o : ab_O} {st : List ab_V} : (ab_push (ab_ret j) o st).map (ab_cv ad) = (ab_ov j ad o).toList ++ st.map (ab_cv ad) := by
  unfold ab_push ab_ov
  generalize ab_ret j = t
  match t with
  | 0 => rfl
  | 1 => rfl
  | 2 => rfl
  | 3 => rfl
  | n + 4 => rfl
theorem ab_E.moved {s s' : State} (h : ab_E D wa B Hb s) (hW : s.WarmedH s'.vm) (hh : ∀ a, a < B → s'.heap[a]? = Hb[a]?) : ab_E D wa B Hb s' := ⟨⟨hh, fun w hw a' U hU hU2 => h.1.2 w hw a' U (State.WarmedH.trans hW hU) hU2⟩, h.2.1.moved hW.alike, h.2.2.1.moved hW.alike, h.2.2.2.moved hW.alike⟩
/-- a call that has been begun: the callee's walk, then ours -/
theorem ab_xcall {j nn d : Nat} {vs rest stk : List ab_V} {r fin : ab_O × ab_S} (hF : ab_F k p s m meth c) (hE : ab_E D wa B Hb s) (ih : ab_Snd l D q sa wa B Hb nn) (hj : j < ab_M)
    (hin : ∀ (H : Heap) (locs : List Loc) (ls : Array Slot), ab_X D q sa wa B n0 z0 k Hb s S H locs → ls.size = c.maxLocals → ∀ T : State, T.heap = H → Stand p l e R s m args below meth c T locs (S.2.2.2.2.1 - n0) (S.2.2.2.2.2 - z0) →
      ab_iv p l e R s m args below meth c T locs (S.2.2.2.2.1 - n0) (S.2.2.2.2.2 - z0) (F0 m pc ls (stk.map (ab_cv (ab_ad sa wa B)))) (ab_nm j) (vs.map (ab_cv (ab_ad sa wa B))) (rest.map (ab_cv (ab_ad sa wa B))))
    {ig : Instr} (hd : decode (ab_by k) pc = .ok (ig, 3)) (hrun : ab_run q nn d j 0 (ab_ent j vs) [] S = some r) (hlen : (ab_exp vs).length ≤ ab_mxl j) (hml : ab_mxl j ≤ 20) (hrest : rest.length ≤ 8)
    (hmd : ab_md j = true → ab_inv S = true ∨ ab_md k = true) (hmk : ab_md k = true → ab_md j = true)
    (hfr : d + 1 + 8 ≤ R.frames) (hlo : 64 * (d + 1) + 200 ≤ R.locals) (hce : fin.2.2.2.2.2.1 - n0 ≤ R.cells) (hsl : fin.2.2.2.2.2.2 - z0 ≤ R.slots) (hm0 : S.2.2.2.2.1 ≤ r.2.2.2.2.2.1) (hm3 : S.2.2.2.2.2 ≤ r.2.2.2.2.2.2) (hm1 : r.2.2.2.2.2.1 ≤ fin.2.2.2.2.2.1) (hm2 : r.2.2.2.2.2.2 ≤ fin.2.2.2.2.2.2)
    (hcont : r.1.1 = 0 → ab_G p l e R s m args below meth c (ab_Q s below D q sa wa B n0 z0 k Hb fin.1 fin.2) D q sa wa B n0 z0 k Hb (pc + 3) L (ab_push (ab_ret j) r.1 rest) r.2)
    (hthr : r.1.1 ≠ 0 → ∀ (H : Heap) (locs : List Loc) (ls : Array Slot) (T : State) (a : Addr), T.heap = H → ab_LR (ab_ad sa wa B) L ls → L.length = ab_mxl k → ab_X D q sa wa B n0 z0 k Hb s r.2 H locs → Stand p l e R s m args below meth c T locs (r.2.2.2.2.2.1 - n0) (r.2.2.2.2.2.2 - z0) → ab_exc r.1.1 a T →
      ∃ t, Steps p.tables e below ((T.setTop (F0 m pc ls (rest.map (ab_cv (ab_ad sa wa B))))).pushFrame (.throwing a)) t ∧ ab_Q s below D q sa wa B n0 z0 k Hb fin.1 fin.2 t) :
    ab_G p l e R s m args below meth c (ab_Q s below D q sa wa B n0 z0 k Hb fin.1 fin.2) D q sa wa B n0 z0 k Hb pc L stk S := by
  intro H locs ls hL hl hX T hT X
  have hsz : ls.size = c.maxLocals := by rw [hL.1, hl, hF.2.2.1]
  obtain ⟨vm', mk, X1, hn, hW1, hstep⟩ := hin H locs ls hX hsz T hT X
  obtain ⟨mk', mt, ck, hn', a1, a2, a3, a4, a5, a6, a7, a8, a9, a10⟩ := ab_named hE hj
  cases hn.symm.trans hn'
  have hal : s.vm.Alike vm' := hW1.alike
  have hmk1 : (T.setVm vm').vm.method? mk = some mt := by show vm'.method? mk = _; rw [hal.method?]; exact a1
  have hpl : (T.setVm vm').plainMethod mk := ab_plain hj (X1.named hn)
  have h5 := hX.2.2.2.2.1
  have h6 := hX.2.2.2.2.2
  have hcat := ab_cats (ab_ad sa wa B) rest
  have hsum : 2 * (F0 m pc ls (rest.map (ab_cv (ab_ad sa wa B)))).monitorRoom + (((F0 m pc ls (rest.map (ab_cv (ab_ad sa wa B)))).stack).map fun v => v.category).sum ≤ 16 := by
    have h16 : ((rest.map (ab_cv (ab_ad sa wa B))).map fun v => v.category).sum ≤ 16 := by omega
    show 2 * 0 + ((rest.map (ab_cv (ab_ad sa wa B))).map fun v => v.category).sum ≤ 16
    omega
  obtain ⟨Y, hinv⟩ := X1.into (g := F0 m pc ls (rest.map (ab_cv (ab_ad sa wa B)))) rfl hsz (by rw [hF.2.1]; exact hd) (vs.map (ab_cv (ab_ad sa wa B))).toArray (R' := { frames := d + 8, locals := 64 * d + 200, cells := R.cells - (S.2.2.2.2.1 - n0), slots := R.slots - (S.2.2.2.2.2 - z0) }) hmk1 a2 a6 hpl
    (by show d + 8 + 1 ≤ _; omega) (by show _ + (ck.maxLocals + 11) + (64 * d + 200) ≤ _; rw [a4]; omega) (by show _ + (R.cells - _) ≤ _; omega) (by show _ + (R.slots - _) ≤ _; omega)
  have hs' : s.WarmedH ((T.setVm vm').calling (F0 m pc ls (rest.map (ab_cv (ab_ad sa wa B)))) mk (vs.map (ab_cv (ab_ad sa wa B))).toArray).vm := hW1
  have hFj : ab_F j p ((T.setVm vm').calling (F0 m pc ls (rest.map (ab_cv (ab_ad sa wa B)))) mk (vs.map (ab_cv (ab_ad sa wa B))).toArray) mk mt ck := ⟨hF.1, a3, a4, a5, a6, a9, by show vm'.findClass _ = _; rw [hal.findClass]; exact a10, a7⟩
  obtain ⟨hLR, hll⟩ := ab_ent_LR (ad := ab_ad sa wa B) hlen
  have hXj : ab_X D q sa wa B S.2.2.2.2.1 S.2.2.2.2.2 j Hb ((T.setVm vm').calling (F0 m pc ls (rest.map (ab_cv (ab_ad sa wa B)))) mk (vs.map (ab_cv (ab_ad sa wa B))).toArray) S H [] :=
    ⟨hX.1.moved hal, fun h => (hmd h).elim id hX.2.1, hX.2.2.1, fun x hx => (by cases hx), Nat.le_refl _, Nat.le_refl _⟩
  have hG := ih d j 0 (ab_ent j vs) [] S r.1 r.2 hrun p e { frames := d + 8, locals := 64 * d + 200, cells := R.cells - (S.2.2.2.2.1 - n0), slots := R.slots - (S.2.2.2.2.2 - z0) } _ mk (vs.map (ab_cv (ab_ad sa wa B))).toArray (.java (F0 m pc ls (rest.map (ab_cv (ab_ad sa wa B)))) :: below) mt ck S.2.2.2.2.1 S.2.2.2.2.2 hFj (hE.moved hs' (fun a ha => by show T.heap[a]? = _; rw [hT]; exact hX.2.2.1 a ha)) (Nat.le_refl _) (Nat.le_refl _)
    (by show _ ≤ R.cells - _; omega) (by show _ ≤ R.slots - _; omega) H [] _ hLR hll hXj
  rw [Nat.sub_self, Nat.sub_self] at hG
  obtain ⟨t, hsteps, out, b1, b2, b3, b4, ⟨L', b5, b6⟩, b7, b8, b9, b10, b11⟩ := hG _ (by exact hT) Y
  have hen : entryFrame mk (vs.map (ab_cv (ab_ad sa wa B))).toArray ck.maxLocals = F0 mk 0 ((lg_sl (vs.map (ab_cv (ab_ad sa wa B))) ++ List.replicate (ab_mxl j - (lg_sl (vs.map (ab_cv (ab_ad sa wa B)))).length) Slot.unset).toArray) (([] : List ab_V).map (ab_cv (ab_ad sa wa B))) := by rw [a4]; exact lg_entry_eq _ _ _
  rw [← hen] at hsteps
  have hstep' : ∀ tg, Steps p.tables e below t tg → Steps p.tables e below (T.setTop (F0 m pc ls (stk.map (ab_cv (ab_ad sa wa B))))) tg := fun tg h => hstep tg fun acts => by
    have hi := hinv acts
    rw [show (doInvoke e ((T.setVm vm').setTop { F0 m pc ls (stk.map (ab_cv (ab_ad sa wa B))) with stack := rest.map (ab_cv (ab_ad sa wa B)) }) acts mk (vs.map (ab_cv (ab_ad sa wa B))).toArray).1 = _ from hi]
    exact (ab_weak hsteps).trans h
  have hc1 : S.2.2.2.2.1 - n0 + (r.2.2.2.2.2.1 - S.2.2.2.2.1) = r.2.2.2.2.2.1 - n0 := by omega
  have hc2 : S.2.2.2.2.2 - z0 + (r.2.2.2.2.2.2 - S.2.2.2.2.2) = r.2.2.2.2.2.2 - z0 := by omega
  have hXr : ∀ T' : State, T'.heap = t.heap → ab_X D q sa wa B n0 z0 k Hb s r.2 T'.heap (locs ++ L') := fun T' he => by
    rw [he]
    refine ⟨b7.moved hal.symm, fun h => b8 (hmk h), b9, fun x hx => ?_, by omega, by omega⟩
    rcases List.mem_append.mp hx with h | h
    · exact hX.2.2.2.1 x h
    · exact b6 x h
  rcases b3 with ⟨ho, hout⟩ | ⟨ho, a, hout, hexc⟩
  · subst hout
    obtain ⟨T', X', hW', -, ht⟩ := X1.outOf (g := F0 m pc ls (rest.map (ab_cv (ab_ad sa wa B)))) rfl (by rw [hF.2.1]; exact hd) b2 b4 b5
    have hh : T'.heap = t.heap := by rw [ht]; rfl
    rw [hc1, hc2] at X'
    obtain ⟨t', s1, s2⟩ := hcont ho T'.heap _ ls hL hl (hXr T' hh) T' rfl X'
    refine ⟨t', hstep' _ ?_, s2⟩
    rw [ht]
    rw [ab_push_cv] at s1
    exact s1
  · subst hout
    obtain ⟨T', X', hW', -, ht⟩ := X1.outOfThrown (g := F0 m pc ls (rest.map (ab_cv (ab_ad sa wa B)))) rfl b2 b4 b5
    have hh : T'.heap = t.heap := by rw [ht]; exact (Stand.throwing_heap T' _ a).symm
    have hv : T'.vm = t.vm := by rw [ht]; exact (Stand.throwing_vm T' _ a).symm
    rw [hc1, hc2] at X'
    obtain ⟨t', s1, s2⟩ := hthr ho T'.heap _ ls T' a rfl hL hl (hXr T' hh) X' (by obtain ⟨cell, g1, g2, g3⟩ := hexc; exact ⟨cell, by rw [hh]; exact g1, by rw [hv]; exact g2, g3⟩)
    refine ⟨t', hstep' _ ?_, s2⟩
    rw [ht]
    exact s1
end ab_main
end
section
-- The abstract machine is sound: all instructions, and the run.
section ab_step
variable {p : Program} {l : Launch} {e : Env} {R : Room} {s : State} {m : MethodId} {args : Array Value} {below : List Frame} {meth : Method} {c : Code} {D : va_G} {q sa wa B n0 z0 k pc : Nat} {Hb : Heap} {L : ab_L} {st : List ab_V} {S : ab_S}
def ab_le (S S' : ab_S) : Prop := S.2.2.2.2.1 ≤ S'.2.2.2.2.1 ∧ S.2.2.2.2.2 ≤ S'.2.2.2.2.2
theorem ab_czE {α : Type} {c : ClassFile.Cond} {x y : Int32} {a b r : Option α} (h : ab_cz c x y a b = r) : a = r ∨ b = r := by
  unfold ab_cz at h
  cases c <;> (dsimp only at h; split at h <;> first | exact Or.inl h | exact Or.inr h)
theorem ab_swE {α : Type} {x : Int32} {df : Nat} {f : Nat → Option α} {r : Option α} : ∀ (cs : List (Int × Nat)), ab_sw x df f cs = r → ∃ t, f t = r
  | [], h => ⟨_, h⟩
  | v :: cs, h => by
    unfold ab_sw at h
    split at h
    · exact ⟨_, h⟩
    · exact ab_swE cs h
theorem ab_bdE {x : ab_R} {f : ab_O × ab_S → ab_R} {v : ab_O × ab_S} (h : ab_bd x f = some v) : ∃ r, x = some r ∧ f r = some v := by
  cases x with
  | none => cases h
  | some r => exact ⟨r, rfl, h⟩
theorem ab_doM {K : Nat → ab_L → List ab_V → ab_S → ab_R} {C : Nat → ab_L → ab_S → ab_R} (hK : ∀ pc L st S r, K pc L st S = some r → ab_le S r.2) (hC : ∀ j L S r, C j L S = some r → ab_le S r.2) {j n : Nat} {r : ab_O × ab_S} (h : ab_do k pc K C L st S j n = some r) : ab_le S r.2 := by
  unfold ab_do at h
  obtain ⟨-, h⟩ := ab_gE h
  obtain ⟨r1, hr1, h⟩ := ab_bdE h
  have h1 := hC _ _ _ _ hr1
  split at h
  · have h2 := hK _ _ _ _ _ h
    exact ⟨Nat.le_trans h1.1 h2.1, Nat.le_trans h1.2 h2.2⟩
  · unfold ab_th at h
    split at h
    · cases hb : ab_hh k with
      | true => rw [hb] at h; cases h
      | false =>
        rw [hb] at h
        cases h
        exact h1
    · cases h
      exact h1
theorem ab_exM {K : Nat → ab_L → List ab_V → ab_S → ab_R} {C : Nat → ab_L → ab_S → ab_R} (hK : ∀ pc L st S r, K pc L st S = some r → ab_le S r.2) (hC : ∀ j L S r, C j L S = some r → ab_le S r.2) {i : Instr} {f : Nat × Nat × Nat} {r : ab_O × ab_S} (h : ab_ex q k pc K C L st S i f = some r) : ab_le S r.2 := by
  cases i with

  | iconst n => exact (hK _ _ _ _ _ h :)
  | bipush n => exact (hK _ _ _ _ _ h :)
  | sipush n => exact (hK _ _ _ _ _ h :)
  | lconst n => exact (hK _ _ _ _ _ h :)
  | goto o => exact (hK _ _ _ _ _ h :)
  | iload i => obtain ⟨_, _, h⟩ := ab_liE h; exact (hK _ _ _ _ _ h :)
  | iload_n i => obtain ⟨_, _, h⟩ := ab_liE h; exact (hK _ _ _ _ _ h :)
  | iinc i n => obtain ⟨_, _, h⟩ := ab_liE h; exact (hK _ _ _ _ _ h :)
  | lload i => obtain ⟨_, _, h⟩ := ab_llE h; exact (hK _ _ _ _ _ h :)
  | lload_n i => obtain ⟨_, _, h⟩ := ab_llE h; exact (hK _ _ _ _ _ h :)
  | aload i => obtain ⟨_, _, h⟩ := ab_lrE h; exact (hK _ _ _ _ _ h :)
  | aload_n i => obtain ⟨_, _, h⟩ := ab_lrE h; exact (hK _ _ _ _ _ h :)
  | istore i => obtain ⟨_, _, -, h⟩ := ab_piE h; obtain ⟨_, h⟩ := ab_gE h; exact (hK _ _ _ _ _ h :)
  | istore_n i => obtain ⟨_, _, -, h⟩ := ab_piE h; obtain ⟨_, h⟩ := ab_gE h; exact (hK _ _ _ _ _ h :)
  | lstore i => obtain ⟨_, _, -, h⟩ := ab_plE h; obtain ⟨_, h⟩ := ab_gE h; exact (hK _ _ _ _ _ h :)
  | lstore_n i => obtain ⟨_, _, -, h⟩ := ab_plE h; obtain ⟨_, h⟩ := ab_gE h; exact (hK _ _ _ _ _ h :)
  | astore i => obtain ⟨_, _, -, h⟩ := ab_prE h; obtain ⟨_, h⟩ := ab_gE h; exact (hK _ _ _ _ _ h :)
  | astore_n i => obtain ⟨_, _, -, h⟩ := ab_prE h; obtain ⟨_, h⟩ := ab_gE h; exact (hK _ _ _ _ _ h :)
  | iadd => obtain ⟨_, _, -, h⟩ := ab_piE h; obtain ⟨_, _, -, h⟩ := ab_piE h; exact (hK _ _ _ _ _ h :)
  | isub => obtain ⟨_, _, -, h⟩ := ab_piE h; obtain ⟨_, _, -, h⟩ := ab_piE h; exact (hK _ _ _ _ _ h :)
  | imul => obtain ⟨_, _, -, h⟩ := ab_piE h; obtain ⟨_, _, -, h⟩ := ab_piE h; exact (hK _ _ _ _ _ h :)
  | iand => obtain ⟨_, _, -, h⟩ := ab_piE h; obtain ⟨_, _, -, h⟩ := ab_piE h; exact (hK _ _ _ _ _ h :)
  | ior => obtain ⟨_, _, -, h⟩ := ab_piE h; obtain ⟨_, _, -, h⟩ := ab_piE h; exact (hK _ _ _ _ _ h :)
  | ishl => obtain ⟨_, _, -, h⟩ := ab_piE h; obtain ⟨_, _, -, h⟩ := ab_piE h; exact (hK _ _ _ _ _ h :)
  | ishr => obtain ⟨_, _, -, h⟩ := ab_piE h; obtain ⟨_, _, -, h⟩ := ab_piE h; exact (hK _ _ _ _ _ h :)
  | iushr => obtain ⟨_, _, -, h⟩ := ab_piE h; obtain ⟨_, _, -, h⟩ := ab_piE h; exact (hK _ _ _ _ _ h :)
  | idiv => obtain ⟨_, _, -, h⟩ := ab_piE h; obtain ⟨_, _, -, h⟩ := ab_piE h; obtain ⟨_, h⟩ := ab_gE h; exact (hK _ _ _ _ _ h :)
  | ineg => obtain ⟨_, _, -, h⟩ := ab_piE h; exact (hK _ _ _ _ _ h :)
  | i2l => obtain ⟨_, _, -, h⟩ := ab_piE h; exact (hK _ _ _ _ _ h :)
  | i2c => obtain ⟨_, _, -, h⟩ := ab_piE h; exact (hK _ _ _ _ _ h :)
  | l2i => obtain ⟨_, _, -, h⟩ := ab_plE h; exact (hK _ _ _ _ _ h :)
  | ladd => obtain ⟨_, _, -, h⟩ := ab_plE h; obtain ⟨_, _, -, h⟩ := ab_plE h; exact (hK _ _ _ _ _ h :)
  | lsub => obtain ⟨_, _, -, h⟩ := ab_plE h; obtain ⟨_, _, -, h⟩ := ab_plE h; exact (hK _ _ _ _ _ h :)
  | lmul => obtain ⟨_, _, -, h⟩ := ab_plE h; obtain ⟨_, _, -, h⟩ := ab_plE h; exact (hK _ _ _ _ _ h :)
  | land => obtain ⟨_, _, -, h⟩ := ab_plE h; obtain ⟨_, _, -, h⟩ := ab_plE h; exact (hK _ _ _ _ _ h :)
  | lor => obtain ⟨_, _, -, h⟩ := ab_plE h; obtain ⟨_, _, -, h⟩ := ab_plE h; exact (hK _ _ _ _ _ h :)
  | lxor => obtain ⟨_, _, -, h⟩ := ab_plE h; obtain ⟨_, _, -, h⟩ := ab_plE h; exact (hK _ _ _ _ _ h :)
  | lcmp => obtain ⟨_, _, -, h⟩ := ab_plE h; obtain ⟨_, _, -, h⟩ := ab_plE h; exact (hK _ _ _ _ _ h :)
  | lshl => obtain ⟨_, _, -, h⟩ := ab_piE h; obtain ⟨_, _, -, h⟩ := ab_plE h; exact (hK _ _ _ _ _ h :)
  | lshr => obtain ⟨_, _, -, h⟩ := ab_piE h; obtain ⟨_, _, -, h⟩ := ab_plE h; exact (hK _ _ _ _ _ h :)
  | lushr => obtain ⟨_, _, -, h⟩ := ab_piE h; obtain ⟨_, _, -, h⟩ := ab_plE h; exact (hK _ _ _ _ _ h :)
  | dup2 => obtain ⟨_, _, -, h⟩ := ab_piE h; obtain ⟨_, _, -, h⟩ := ab_prE h; exact (hK _ _ _ _ _ h :)
  | getfield i => obtain ⟨_, _, -, h⟩ := ab_prE h; obtain ⟨_, h⟩ := ab_gE h; exact (hK _ _ _ _ _ h :)
  | getstatic i => exact (hK _ _ _ _ _ h :)
  | arraylength => obtain ⟨_, _, -, h⟩ := ab_prE h; obtain ⟨_, h⟩ := ab_gE h; exact (hK _ _ _ _ _ h :)
  | iaload => obtain ⟨_, _, -, h⟩ := ab_piE h; obtain ⟨_, _, -, h⟩ := ab_prE h; obtain ⟨_, h⟩ := ab_gE h; obtain ⟨_, h⟩ := ab_gE h; exact (hK _ _ _ _ _ h :)
  | laload => obtain ⟨_, _, -, h⟩ := ab_piE h; obtain ⟨_, _, -, h⟩ := ab_prE h; obtain ⟨_, h⟩ := ab_gE h; obtain ⟨_, h⟩ := ab_gE h; exact (hK _ _ _ _ _ h :)
  | caload => obtain ⟨_, _, -, h⟩ := ab_piE h; obtain ⟨_, _, -, h⟩ := ab_prE h; obtain ⟨_, h⟩ := ab_gE h; obtain ⟨_, h⟩ := ab_gE h; exact (hK _ _ _ _ _ h :)
  | baload => obtain ⟨_, _, -, h⟩ := ab_piE h; obtain ⟨_, _, -, h⟩ := ab_prE h; obtain ⟨_, h⟩ := ab_gE h; obtain ⟨_, h⟩ := ab_gE h; exact (hK _ _ _ _ _ h :)
  | aaload => obtain ⟨_, _, -, h⟩ := ab_piE h; obtain ⟨_, _, -, h⟩ := ab_prE h; obtain ⟨_, h⟩ := ab_gE h; obtain ⟨_, h⟩ := ab_gE h; exact (hK _ _ _ _ _ h :)
  | iastore => obtain ⟨_, _, -, h⟩ := ab_piE h; obtain ⟨_, _, -, h⟩ := ab_piE h; obtain ⟨_, _, -, h⟩ := ab_prE h; obtain ⟨_, h⟩ := ab_gE h; obtain ⟨_, h⟩ := ab_gE h; exact (hK _ _ _ _ _ h :)
  | lastore => obtain ⟨_, _, -, h⟩ := ab_plE h; obtain ⟨_, _, -, h⟩ := ab_piE h; obtain ⟨_, _, -, h⟩ := ab_prE h; obtain ⟨_, h⟩ := ab_gE h; obtain ⟨_, h⟩ := ab_gE h; exact (hK _ _ _ _ _ h :)
  | castore => obtain ⟨_, _, -, h⟩ := ab_piE h; obtain ⟨_, _, -, h⟩ := ab_piE h; obtain ⟨_, _, -, h⟩ := ab_prE h; obtain ⟨_, h⟩ := ab_gE h; obtain ⟨_, h⟩ := ab_gE h; exact (hK _ _ _ _ _ h :)
  | bastore => obtain ⟨_, _, -, h⟩ := ab_piE h; obtain ⟨_, _, -, h⟩ := ab_piE h; obtain ⟨_, _, -, h⟩ := ab_prE h; obtain ⟨_, h⟩ := ab_gE h; obtain ⟨_, h⟩ := ab_gE h; exact (hK _ _ _ _ _ h :)
  | aastore => obtain ⟨_, _, -, h⟩ := ab_prE h; obtain ⟨_, _, -, h⟩ := ab_piE h; obtain ⟨_, _, -, h⟩ := ab_prE h; obtain ⟨_, h⟩ := ab_gE h; obtain ⟨_, h⟩ := ab_gE h; exact (hK _ _ _ _ _ h :)
  | ldc_w i =>
    unfold ab_ex at h
    dsimp only at h
    split at h
    · cases h
    · exact (hK _ _ _ _ _ h :)
  | ldc2_w i =>
    unfold ab_ex at h
    dsimp only at h
    split at h
    · cases h
    · exact (hK _ _ _ _ _ h :)
  | dup =>
    unfold ab_ex at h
    dsimp only at h
    split at h
    · exact (hK _ _ _ _ _ h :)
    · exact (hK _ _ _ _ _ h :)
    · cases h
  | pop =>
    unfold ab_ex at h
    dsimp only at h
    split at h
    · exact (hK _ _ _ _ _ h :)
    · exact (hK _ _ _ _ _ h :)
    · cases h
  | ifCond c o =>
    obtain ⟨_, _, -, h⟩ := ab_piE h
    rcases ab_czE h with h | h <;> exact (hK _ _ _ _ _ h :)
  | if_icmp c o =>
    obtain ⟨_, _, -, h⟩ := ab_piE h
    obtain ⟨_, _, -, h⟩ := ab_piE h
    rcases ab_czE h with h | h <;> exact (hK _ _ _ _ _ h :)
  | tableswitch df lo hi offs =>
    obtain ⟨_, _, -, h⟩ := ab_piE h
    obtain ⟨t, h⟩ := ab_swE _ h
    exact (hK _ _ _ _ _ h :)
  | lookupswitch df ps =>
    obtain ⟨_, _, -, h⟩ := ab_piE h
    obtain ⟨t, h⟩ := ab_swE _ h
    exact (hK _ _ _ _ _ h :)
  | putfield i =>
    unfold ab_ex at h
    dsimp only at h
    split at h
    · obtain ⟨_, _, -, h⟩ := ab_piE h; obtain ⟨_, _, -, h⟩ := ab_prE h; obtain ⟨_, h⟩ := ab_gE h; exact (hK _ _ _ _ _ h :)
    · obtain ⟨_, _, -, h⟩ := ab_piE h; obtain ⟨_, _, -, h⟩ := ab_prE h; obtain ⟨_, h⟩ := ab_gE h; exact (hK _ _ _ _ _ h :)
    · obtain ⟨_, _, -, h⟩ := ab_prE h; obtain ⟨_, _, -, h⟩ := ab_prE h; obtain ⟨_, h⟩ := ab_gE h; exact (hK _ _ _ _ _ h :)
    · obtain ⟨_, _, -, h⟩ := ab_prE h; obtain ⟨_, _, -, h⟩ := ab_prE h; obtain ⟨_, h⟩ := ab_gE h; exact (hK _ _ _ _ _ h :)
  | new i =>
    unfold ab_ex at h
    dsimp only at h
    split at h
    · obtain ⟨_, h⟩ := ab_gE h
      have := hK _ _ _ _ _ h
      exact ⟨Nat.le_trans (Nat.le_succ _) this.1, Nat.le_trans (Nat.le_add_right _ _) this.2⟩
    · obtain ⟨_, h⟩ := ab_gE h
      cases h
      exact ⟨Nat.le_succ _, Nat.le_add_right _ _⟩
    · cases h
  | newarray t =>
    obtain ⟨_, _, -, h⟩ := ab_piE h
    obtain ⟨_, h⟩ := ab_gE h
    have := hK _ _ _ _ _ h
    exact ⟨Nat.le_trans (Nat.le_succ _) this.1, Nat.le_trans (Nat.le_add_right _ _) this.2⟩
  | anewarray i =>
    obtain ⟨_, _, -, h⟩ := ab_piE h
    obtain ⟨_, h⟩ := ab_gE h
    have := hK _ _ _ _ _ h
    exact ⟨Nat.le_trans (Nat.le_succ _) this.1, Nat.le_trans (Nat.le_add_right _ _) this.2⟩
  | invokevirtual i =>
    obtain ⟨_, h⟩ := ab_gE h
    obtain ⟨_, h⟩ := ab_gE h
    exact ab_doM hK hC h
  | invokestatic i =>
    unfold ab_ex at h
    dsimp only at h
    split at h
    · exact ab_doM hK hC h
    · obtain ⟨_, _, -, h⟩ := ab_piE h; obtain ⟨_, _, -, h⟩ := ab_piE h; obtain ⟨_, _, -, h⟩ := ab_prE h; obtain ⟨_, _, -, h⟩ := ab_piE h; obtain ⟨_, _, -, h⟩ := ab_prE h
      obtain ⟨_, h⟩ := ab_gE h; obtain ⟨_, h⟩ := ab_gE h
      exact (hK _ _ _ _ _ h :)
    · cases h
  | invokespecial i =>
    unfold ab_ex at h
    dsimp only at h
    split at h
    · obtain ⟨_, h⟩ := ab_gE h
      exact ab_doM hK hC h
    · obtain ⟨_, _, -, h⟩ := ab_prE h
      obtain ⟨_, h⟩ := ab_gE h
      exact (hK _ _ _ _ _ h :)
    · cases h
  | ireturn =>
    unfold ab_ex at h
    dsimp only at h
    split at h
    · split at h <;> first | (cases h; exact ⟨Nat.le_refl _, Nat.le_refl _⟩) | cases h
    · cases h
  | lreturn =>
    unfold ab_ex at h
    dsimp only at h
    split at h
    · cases hb : Nat.beq (ab_ret k) 2 with
      | true => rw [hb] at h; cases h; exact ⟨Nat.le_refl _, Nat.le_refl _⟩
      | false => rw [hb] at h; cases h
    · cases h
  | areturn =>
    unfold ab_ex at h
    dsimp only at h
    split at h
    · cases hb : Nat.beq (ab_ret k) 3 with
      | true => rw [hb] at h; cases h; exact ⟨Nat.le_refl _, Nat.le_refl _⟩
      | false => rw [hb] at h; cases h
    · cases h
  | return_ =>
    unfold ab_ex at h
    dsimp only at h
    split at h
    · cases hb : Nat.beq (ab_ret k) 0 with
      | true => rw [hb] at h; cases h; exact ⟨Nat.le_refl _, Nat.le_refl _⟩
      | false => rw [hb] at h; cases h
    · cases h
  | _ => exact nomatch (show (none : ab_R) = some r from h)
theorem ab_mono (q : Nat) : ∀ (n d k pc : Nat) (L : ab_L) (st : List ab_V) (S : ab_S) (r : ab_O × ab_S), ab_run q n d k pc L st S = some r → ab_le S r.2
  | 0, _, _, _, _, _, _, _, h => nomatch (show (none : ab_R) = some _ from h)
  | n + 1, d, k, pc, L, st, S, r, h => by
    unfold ab_run at h
    split at h
    · cases h
    · refine ab_exM (fun pc L st S r h => ab_mono q n _ _ _ _ _ _ _ h) (fun j L S r h => ?_) h
      split at h
      · cases h
      · exact ab_mono q n _ _ _ _ _ _ _ h

end ab_step
end
section
-- The abstract machine is sound: every instruction, every run.
section ab_all
variable {p : Program} {l : Launch} {e : Env} {R : Room} {s : State} {m : MethodId} {args : Array Value} {below : List Frame} {meth : Method} {c : Code} {D : va_G} {q sa wa B n0 z0 k pc : Nat} {Hb : Heap} {L : ab_L} {st : List ab_V} {S : ab_S}
/-- a method throws an exception of its own making -/
def ab_HT (l : Launch) (D : va_G) (q sa wa B : Nat) (Hb : Heap) : Prop := ∀ (p : Program) (e : Env) (R : Room) (s : State) (m : MethodId) (args : Array Value) (below : List Frame) (meth : Method) (c : Code) (n0 z0 k pc i : Nat) (f : Nat × Nat × Nat) (L : ab_L) (st : List ab_V) (S : ab_S),
  ab_F k p s m meth c → ab_E D wa B Hb s → ab_chk k pc (.new i) f = true → f.1 = 1 → ab_md k = true → st.length ≤ 4 → 8 ≤ R.frames → 200 ≤ R.locals → (ab_wx S).2.2.2.2.1 - n0 ≤ R.cells → (ab_wx S).2.2.2.2.2 - z0 ≤ R.slots →
    ab_G p l e R s m args below meth c (ab_Q s below D q sa wa B n0 z0 k Hb (f.2.1, 0, 0, 0) (ab_wx S)) D q sa wa B n0 z0 k Hb pc L st S
/-- a method of the law catches -/
def ab_HC (l : Launch) (D : va_G) (q sa wa B : Nat) (Hb : Heap) : Prop := ∀ (p : Program) (e : Env) (R : Room) (s : State) (m : MethodId) (args : Array Value) (below : List Frame) (meth : Method) (c : Code) (n0 z0 k pc x : Nat) (v : Int32) (i : Instr) (f : Nat × Nat × Nat) (S : ab_S) (L : ab_L) (ls : Array Slot) (locs : List Loc) (T : State) (a : Addr) (stk : List Value),
  ab_F k p s m meth c → ab_E D wa B Hb s → ab_chk k pc i f = true → ab_iv1 i = true → ab_hnd k x = some v → ab_LR (ab_ad sa wa B) L ls → L.length = ab_mxl k → ab_X D q sa wa B n0 z0 k Hb s S T.heap locs → Stand p l e R s m args below meth c T locs (S.2.2.2.2.1 - n0) (S.2.2.2.2.2 - z0) → ab_exc x a T →
    ∃ t, Steps p.tables e below ((T.setTop (F0 m pc ls stk)).pushFrame (.throwing a)) t ∧ ab_Q s below D q sa wa B n0 z0 k Hb (0, v, 0, 0) S t
theorem ab_fvi {ad : Nat → Nat} {S : ab_S} {c r f : Nat} (h : ab_knd c f < 2) : ab_fv ad S c r f = .int (S.1 r f) := by
  unfold ab_fv
  rw [show Nat.blt (ab_knd c f) 2 = true from Nat.ble_eq_true_of_le h]
  rfl
theorem ab_fvr {ad : Nat → Nat} {S : ab_S} {c r f : Nat} (h : 2 ≤ ab_knd c f) : ab_fv ad S c r f = ab_cv ad (.inr (.inr (S.2.2.1 r f))) := by
  unfold ab_fv
  rw [show Nat.blt (ab_knd c f) 2 = false from by
    cases hb : Nat.blt (ab_knd c f) 2 with
    | false => rfl
    | true => have := ab_blt hb; omega]
  rfl
theorem ab_doW {nn d j n : Nat} {ig : Instr} {f : Nat × Nat × Nat} {r : ab_O × ab_S} {K : Nat → ab_L → List ab_V → ab_S → ab_R} (hHC : ab_HC l D q sa wa B Hb) (hF : ab_F k p s m meth c) (hE : ab_E D wa B Hb s) (hA : sa < B ∧ wa < B ∧ sa ≠ wa) (ih : ab_Snd l D q sa wa B Hb nn) (hch : ab_chk k pc ig f = true) (hi1 : ab_iv1 ig = true) (hd : decode (ab_by k) pc = .ok (ig, 3)) (hj : j < ab_M)
    (hin : ∀ (H : Heap) (locs : List Loc) (ls : Array Slot), ab_X D q sa wa B n0 z0 k Hb s S H locs → ls.size = c.maxLocals → ∀ T : State, T.heap = H → Stand p l e R s m args below meth c T locs (S.2.2.2.2.1 - n0) (S.2.2.2.2.2 - z0) → n ≤ st.length →
      ab_iv p l e R s m args below meth c T locs (S.2.2.2.2.1 - n0) (S.2.2.2.2.2 - z0) (F0 m pc ls (st.map (ab_cv (ab_ad sa wa B)))) (ab_nm j) ((st.take n).reverse.map (ab_cv (ab_ad sa wa B))) ((st.drop n).map (ab_cv (ab_ad sa wa B))))
    (h : ab_do k pc K (fun j L' S' => match d with | 0 => none | d + 1 => ab_run q nn d j 0 L' [] S') L st S j n = some r)
    (hfr : d + 8 ≤ R.frames) (hlo : 64 * d + 200 ≤ R.locals) (hce : r.2.2.2.2.2.1 - n0 ≤ R.cells) (hsl : r.2.2.2.2.2.2 - z0 ≤ R.slots) (hKm : ∀ pc' L' st' S', K pc' L' st' S' = some r → ab_le S' r.2)
    (hK : ∀ pc' L' st' S', K pc' L' st' S' = some r → ab_G p l e R s m args below meth c (ab_Q s below D q sa wa B n0 z0 k Hb r.1 r.2) D q sa wa B n0 z0 k Hb pc' L' st' S') : ab_G p l e R s m args below meth c (ab_Q s below D q sa wa B n0 z0 k Hb r.1 r.2) D q sa wa B n0 z0 k Hb pc L st S := by
  unfold ab_do at h
  obtain ⟨hg, h⟩ := ab_gE h
  simp only [Bool.and_eq_true] at hg
  obtain ⟨g1, g2, g3, g4⟩ := hg
  have g1 := Nat.le_of_ble_eq_true g1
  have g2 := Nat.le_of_ble_eq_true g2
  have g3 := Nat.le_of_ble_eq_true g3
  cases d with
  | zero => exact nomatch (show (none : ab_R) = some r from h)
  | succ d =>
    obtain ⟨r1, hr1, h⟩ := ab_bdE h
    · have hr1 : ab_run q nn d j 0 (ab_ent j (st.take n).reverse) [] S = some r1 := hr1
      have hm := ab_mono q nn _ _ _ _ _ _ _ hr1
      have hmd : (ab_md j = true → ab_inv S = true ∨ ab_md k = true) ∧ (ab_md k = true → ab_md j = true) := by
        cases hk : ab_md k with
        | true =>
          rw [hk] at g4
          exact ⟨fun _ => Or.inr rfl, fun _ => g4⟩
        | false =>
          rw [hk] at g4
          refine ⟨fun hj => Or.inl ?_, fun h => by cases h⟩
          simp only [cond_false, hj, Bool.not_true, Bool.false_or] at g4
          exact g4
      by_cases ho : r1.1.1 = 0
      · rw [if_pos ho] at h
        have hm2 := hKm _ _ _ _ h
        exact ab_xcall (fin := r) hF hE ih hj (fun H locs ls a b T c' d' => hin H locs ls a b T c' d' g1) hd hr1 g3 (ab_mxF hj) g2 hmd.1 hmd.2 hfr hlo hce hsl hm.1 hm.2 hm2.1 hm2.2 (fun _ => hK _ _ _ _ h) (fun h0 => absurd ho h0)
      · rw [if_neg ho] at h
        unfold ab_th at h
        split at h
        · rename_i hn
          cases hb : ab_hh k with
          | true => rw [hb] at h; cases h
          | false =>
            rw [hb] at h
            cases h
            refine ab_xcall (fin := r) hF hE ih hj (fun H locs ls a b T c' d' => hin H locs ls a b T c' d' g1) hd hr1 g3 (ab_mxF hj) g2 hmd.1 hmd.2 hfr hlo hce hsl hm.1 hm.2 (Nat.le_refl _) (Nat.le_refl _) (fun h0 => absurd h0 ho) (fun _ H locs ls T a hT hL hl hX X hexc => ?_)
            subst hT
            have hemp : c.exceptionTable.toList = [] := by
              have h8 := hF.2.2.2.2.2.2.2
              have : ab_ht k = [] := by simpa [ab_hh] using hb
              rw [this] at h8
              exact List.map_eq_nil_iff.mp h8
            obtain ⟨s1, s2, s3, s4, s5⟩ := X.leaveThrown a (g := F0 m pc ls ((st.drop n).map (ab_cv (ab_ad sa wa B)))) rfl rfl rfl (fun x hx => by rw [hemp] at hx; cases hx) hF.2.2.2.2.1
            exact ⟨_, s1, .threw a, s2, s3, Or.inr ⟨ho, a, rfl, hexc⟩, s4, ⟨locs, s5, hX.2.2.2.1⟩, hX.1, hX.2.1, hX.2.2.1, hX.2.2.2.2⟩
        · rename_i v hv
          cases h
          refine ab_xcall (fin := ((0, v, 0, 0), r1.2)) hF hE ih hj (fun H locs ls a b T c' d' => hin H locs ls a b T c' d' g1) hd hr1 g3 (ab_mxF hj) g2 hmd.1 hmd.2 hfr hlo hce hsl hm.1 hm.2 (Nat.le_refl _) (Nat.le_refl _) (fun h0 => absurd h0 ho) (fun _ H locs ls T a hT hL hl hX X hexc => ?_)
          subst hT
          exact hHC p e R s m args below meth c n0 z0 k pc r1.1.1 v ig f r1.2 L ls locs T a _ hF hE hch hi1 hv hL hl hX X hexc

theorem ab_exW {nn d : Nat} {i : Instr} {f : Nat × Nat × Nat} {r : ab_O × ab_S} {K : Nat → ab_L → List ab_V → ab_S → ab_R} (hHT : ab_HT l D q sa wa B Hb) (hHC : ab_HC l D q sa wa B Hb) (hF : ab_F k p s m meth c) (hE : ab_E D wa B Hb s) (hA : sa < B ∧ wa < B ∧ sa ≠ wa) (ih : ab_Snd l D q sa wa B Hb nn) (hk : k < ab_M + 1) (hch : ab_chk k pc i f = true)
    (h : ab_ex q k pc K (fun j L' S' => match d with | 0 => none | d + 1 => ab_run q nn d j 0 L' [] S') L st S i f = some r)
    (hfr : d + 8 ≤ R.frames) (hlo : 64 * d + 200 ≤ R.locals) (hce : r.2.2.2.2.2.1 - n0 ≤ R.cells) (hsl : r.2.2.2.2.2.2 - z0 ≤ R.slots) (hKm : ∀ pc' L' st' S', K pc' L' st' S' = some r → ab_le S' r.2)
    (hK : ∀ pc' L' st' S', K pc' L' st' S' = some r → ab_G p l e R s m args below meth c (ab_Q s below D q sa wa B n0 z0 k Hb r.1 r.2) D q sa wa B n0 z0 k Hb pc' L' st' S') : ab_G p l e R s m args below meth c (ab_Q s below D q sa wa B n0 z0 k Hb r.1 r.2) D q sa wa B n0 z0 k Hb pc L st S := by
  obtain ⟨len, hd0, hdl, htk, hrv⟩ := ab_chkE hch
  have hd : ab_isw i = false → decode (ab_by k) pc = .ok (i, ab_ln i) := fun hz => by
    rcases hdl with h | h
    · rw [hd0, h]
    · rw [hz] at h; cases h
  cases i with
  | iconst n => intro H locs ls hL hl hX; exact lv_iconst hF.1 hF.2.1 (hd rfl) rfl (hK _ _ _ _ h H locs ls hL hl hX)
  | bipush n => intro H locs ls hL hl hX; exact lv_bipush hF.1 hF.2.1 (hd rfl) rfl (hK _ _ _ _ h H locs ls hL hl hX)
  | sipush n => intro H locs ls hL hl hX; exact lv_sipush hF.1 hF.2.1 (hd rfl) rfl (hK _ _ _ _ h H locs ls hL hl hX)
  | lconst n => intro H locs ls hL hl hX; exact lv_lconst hF.1 hF.2.1 (hd rfl) rfl (hK _ _ _ _ h H locs ls hL hl hX)
  | iload i => obtain ⟨x, hx, h_2⟩ := ab_liE h; intro H locs ls hL hl hX; exact lv_iload hF.1 hF.2.1 (hd rfl) (hL.2.2 _ _ hx) (hK _ _ _ _ h_2 H locs ls hL hl hX)
  | iload_n i => obtain ⟨x, hx, h_3⟩ := ab_liE h; intro H locs ls hL hl hX; exact lv_iload_n hF.1 hF.2.1 (hd rfl) rfl (hL.2.2 _ _ hx) (hK _ _ _ _ h_3 H locs ls hL hl hX)
  | lload i => obtain ⟨x, hx, h_4⟩ := ab_llE h; intro H locs ls hL hl hX; exact lv_lload hF.1 hF.2.1 (hd rfl) (hL.2.2 _ _ hx) (hK _ _ _ _ h_4 H locs ls hL hl hX)
  | lload_n i => obtain ⟨x, hx, h_5⟩ := ab_llE h; intro H locs ls hL hl hX; exact lv_lload_n hF.1 hF.2.1 (hd rfl) rfl (hL.2.2 _ _ hx) (hK _ _ _ _ h_5 H locs ls hL hl hX)
  | aload i =>
    obtain ⟨x, hx, h_6⟩ := ab_lrE h
    intro H locs ls hL hl hX
    have hz := hL.2.2 _ _ hx
    have hk := hK _ _ _ _ h_6 H locs ls hL hl hX
    cases x with
    | zero => exact lv_aloadN hF.1 hF.2.1 (hd rfl) hz hk
    | succ x => exact lv_aload hF.1 hF.2.1 (hd rfl) hz hk
  | aload_n i =>
    obtain ⟨x, hx, h_7⟩ := ab_lrE h
    intro H locs ls hL hl hX
    have hz := hL.2.2 _ _ hx
    have hk := hK _ _ _ _ h_7 H locs ls hL hl hX
    cases x with
    | zero => exact lv_aload_nN hF.1 hF.2.1 (hd rfl) rfl hz hk
    | succ x => exact lv_aload_n hF.1 hF.2.1 (hd rfl) rfl hz hk
  | istore i => obtain ⟨x, st, rfl, h_8⟩ := ab_piE h; obtain ⟨hb, h_9⟩ := ab_gE h_8; intro H locs ls hL hl hX; exact lv_istore hF.1 hF.2.1 (hd rfl) (hL.has hl) (by rw [← hl]; exact ab_blt hb) rfl fun ls' h' => hK _ _ _ _ h_9 H locs ls' (ab_st1_LR (ls := ls) (v := .inl x) hl h') ((ab_st1_len _ _ _).trans hl) hX
  | istore_n i => obtain ⟨x, st, rfl, h_10⟩ := ab_piE h; obtain ⟨hb, h_11⟩ := ab_gE h_10; intro H locs ls hL hl hX; exact lv_istore_n hF.1 hF.2.1 (hd rfl) rfl (hL.has hl) (by rw [← hl]; exact ab_blt hb) rfl fun ls' h' => hK _ _ _ _ h_11 H locs ls' (ab_st1_LR (ls := ls) (v := .inl x) hl h') ((ab_st1_len _ _ _).trans hl) hX
  | lstore i => obtain ⟨x, st, rfl, h_12⟩ := ab_plE h; obtain ⟨hb, h_13⟩ := ab_gE h_12; intro H locs ls hL hl hX; exact lv_lstore hF.1 hF.2.1 (hd rfl) (hL.has hl) (by rw [← hl]; exact ab_blt hb) rfl fun ls' h' => hK _ _ _ _ h_13 H locs ls' (ab_st2_LR (ls := ls) (v := .inr (.inl x)) hl h') ((ab_st2_len _ _ _).trans hl) hX
  | lstore_n i => obtain ⟨x, st, rfl, h_14⟩ := ab_plE h; obtain ⟨hb, h_15⟩ := ab_gE h_14; intro H locs ls hL hl hX; exact lv_lstore_n hF.1 hF.2.1 (hd rfl) rfl (hL.has hl) (by rw [← hl]; exact ab_blt hb) rfl fun ls' h' => hK _ _ _ _ h_15 H locs ls' (ab_st2_LR (ls := ls) (v := .inr (.inl x)) hl h') ((ab_st2_len _ _ _).trans hl) hX
  | astore i =>
    obtain ⟨x, st, rfl, h_16⟩ := ab_prE h
    obtain ⟨hb, h_17⟩ := ab_gE h_16
    intro H locs ls hL hl hX
    have hi : i < ab_mxl k := by rw [← hl]; exact ab_blt hb
    cases x with
    | zero => exact lv_astoreN hF.1 hF.2.1 (hd rfl) (hL.has hl) hi rfl fun ls' h' => hK _ _ _ _ h_17 H locs ls' (ab_st1_LR (ls := ls) (v := .inr (.inr 0)) hl h') ((ab_st1_len _ _ _).trans hl) hX
    | succ x => exact lv_astore hF.1 hF.2.1 (hd rfl) (hL.has hl) hi rfl fun ls' h' => hK _ _ _ _ h_17 H locs ls' (ab_st1_LR (ls := ls) (v := .inr (.inr (x + 1))) hl h') ((ab_st1_len _ _ _).trans hl) hX
  | astore_n i =>
    obtain ⟨x, st, rfl, h_18⟩ := ab_prE h
    obtain ⟨hb, h_19⟩ := ab_gE h_18
    intro H locs ls hL hl hX
    have hi : i.val < ab_mxl k := by rw [← hl]; exact ab_blt hb
    cases x with
    | zero => exact lv_astore_nN hF.1 hF.2.1 (hd rfl) rfl (hL.has hl) hi rfl fun ls' h' => hK _ _ _ _ h_19 H locs ls' (ab_st1_LR (ls := ls) (v := .inr (.inr 0)) hl h') ((ab_st1_len _ _ _).trans hl) hX
    | succ x => exact lv_astore_n hF.1 hF.2.1 (hd rfl) rfl (hL.has hl) hi rfl fun ls' h' => hK _ _ _ _ h_19 H locs ls' (ab_st1_LR (ls := ls) (v := .inr (.inr (x + 1))) hl h') ((ab_st1_len _ _ _).trans hl) hX
  | iinc i n =>
    obtain ⟨x, hx, h_20⟩ := ab_liE h
    intro H locs ls hL hl hX
    obtain ⟨kk, hkk⟩ := List.getElem?_of_mem (ab_tb_mem (ad := ab_ad sa wa B) hx)
    have hi : i < ab_mxl k := by rw [← hl]; exact (List.getElem?_eq_some_iff.mp hx).1
    exact lv_iinc hF.1 hF.2.1 (hd rfl) (hL.has hl) hkk rfl hi rfl fun ls' h' => hK _ _ _ _ h_20 H locs ls' (ab_st1_LR (ls := ls) (v := .inl (x + Int32.ofInt n)) hl h') ((ab_st1_len _ _ _).trans hl) hX
  | iadd => obtain ⟨y, st, rfl, h_21⟩ := ab_piE h; obtain ⟨x, st, rfl, h_22⟩ := ab_piE h_21; intro H locs ls hL hl hX; exact lv_iadd hF.1 hF.2.1 (hd rfl) (hK _ _ _ _ h_22 H locs ls hL hl hX)
  | isub => obtain ⟨y, st, rfl, h_23⟩ := ab_piE h; obtain ⟨x, st, rfl, h_24⟩ := ab_piE h_23; intro H locs ls hL hl hX; exact lv_isub hF.1 hF.2.1 (hd rfl) (hK _ _ _ _ h_24 H locs ls hL hl hX)
  | imul => obtain ⟨y, st, rfl, h_25⟩ := ab_piE h; obtain ⟨x, st, rfl, h_26⟩ := ab_piE h_25; intro H locs ls hL hl hX; exact lv_imul hF.1 hF.2.1 (hd rfl) (hK _ _ _ _ h_26 H locs ls hL hl hX)
  | iand => obtain ⟨y, st, rfl, h_27⟩ := ab_piE h; obtain ⟨x, st, rfl, h_28⟩ := ab_piE h_27; intro H locs ls hL hl hX; exact lv_iand hF.1 hF.2.1 (hd rfl) (hK _ _ _ _ h_28 H locs ls hL hl hX)
  | ior => obtain ⟨y, st, rfl, h_29⟩ := ab_piE h; obtain ⟨x, st, rfl, h_30⟩ := ab_piE h_29; intro H locs ls hL hl hX; exact lv_ior hF.1 hF.2.1 (hd rfl) (hK _ _ _ _ h_30 H locs ls hL hl hX)
  | ishl => obtain ⟨y, st, rfl, h_31⟩ := ab_piE h; obtain ⟨x, st, rfl, h_32⟩ := ab_piE h_31; intro H locs ls hL hl hX; exact lv_ishl hF.1 hF.2.1 (hd rfl) (hK _ _ _ _ h_32 H locs ls hL hl hX)
  | ishr => obtain ⟨y, st, rfl, h_33⟩ := ab_piE h; obtain ⟨x, st, rfl, h_34⟩ := ab_piE h_33; intro H locs ls hL hl hX; exact lv_ishr hF.1 hF.2.1 (hd rfl) (hK _ _ _ _ h_34 H locs ls hL hl hX)
  | iushr => obtain ⟨y, st, rfl, h_35⟩ := ab_piE h; obtain ⟨x, st, rfl, h_36⟩ := ab_piE h_35; intro H locs ls hL hl hX; exact lv_iushr hF.1 hF.2.1 (hd rfl) rfl (hK _ _ _ _ h_36 H locs ls hL hl hX)
  | idiv => obtain ⟨y, st, rfl, h_37⟩ := ab_piE h; obtain ⟨x, st, rfl, h_38⟩ := ab_piE h_37; obtain ⟨hy, h_39⟩ := ab_gE h_38; intro H locs ls hL hl hX; exact lv_idiv hF.1 hF.2.1 (hd rfl) (by simpa using hy) (hK _ _ _ _ h_39 H locs ls hL hl hX)
  | ineg => obtain ⟨x, st, rfl, h_40⟩ := ab_piE h; intro H locs ls hL hl hX; exact lv_ineg hF.1 hF.2.1 (hd rfl) (hK _ _ _ _ h_40 H locs ls hL hl hX)
  | i2l => obtain ⟨x, st, rfl, h_41⟩ := ab_piE h; intro H locs ls hL hl hX; exact lv_i2l hF.1 hF.2.1 (hd rfl) rfl (hK _ _ _ _ h_41 H locs ls hL hl hX)
  | i2c => obtain ⟨x, st, rfl, h_42⟩ := ab_piE h; intro H locs ls hL hl hX; exact lv_i2c hF.1 hF.2.1 (hd rfl) rfl (hK _ _ _ _ h_42 H locs ls hL hl hX)
  | l2i => obtain ⟨x, st, rfl, h_43⟩ := ab_plE h; intro H locs ls hL hl hX; exact lv_l2i hF.1 hF.2.1 (hd rfl) rfl (hK _ _ _ _ h_43 H locs ls hL hl hX)
  | ladd => obtain ⟨y, st, rfl, h_44⟩ := ab_plE h; obtain ⟨x, st, rfl, h_45⟩ := ab_plE h_44; intro H locs ls hL hl hX; exact lv_ladd hF.1 hF.2.1 (hd rfl) (hK _ _ _ _ h_45 H locs ls hL hl hX)
  | lsub => obtain ⟨y, st, rfl, h_46⟩ := ab_plE h; obtain ⟨x, st, rfl, h_47⟩ := ab_plE h_46; intro H locs ls hL hl hX; exact lv_lsub hF.1 hF.2.1 (hd rfl) (hK _ _ _ _ h_47 H locs ls hL hl hX)
  | lmul => obtain ⟨y, st, rfl, h_48⟩ := ab_plE h; obtain ⟨x, st, rfl, h_49⟩ := ab_plE h_48; intro H locs ls hL hl hX; exact lv_lmul hF.1 hF.2.1 (hd rfl) (hK _ _ _ _ h_49 H locs ls hL hl hX)
  | land => obtain ⟨y, st, rfl, h_50⟩ := ab_plE h; obtain ⟨x, st, rfl, h_51⟩ := ab_plE h_50; intro H locs ls hL hl hX; exact lv_land hF.1 hF.2.1 (hd rfl) (hK _ _ _ _ h_51 H locs ls hL hl hX)
  | lor => obtain ⟨y, st, rfl, h_52⟩ := ab_plE h; obtain ⟨x, st, rfl, h_53⟩ := ab_plE h_52; intro H locs ls hL hl hX; exact lv_lor hF.1 hF.2.1 (hd rfl) (hK _ _ _ _ h_53 H locs ls hL hl hX)
  | lxor => obtain ⟨y, st, rfl, h_54⟩ := ab_plE h; obtain ⟨x, st, rfl, h_55⟩ := ab_plE h_54; intro H locs ls hL hl hX; exact lv_lxor hF.1 hF.2.1 (hd rfl) (hK _ _ _ _ h_55 H locs ls hL hl hX)
  | lshl => obtain ⟨y, st, rfl, h_56⟩ := ab_piE h; obtain ⟨x, st, rfl, h_57⟩ := ab_plE h_56; intro H locs ls hL hl hX; exact lv_lshl hF.1 hF.2.1 (hd rfl) rfl (hK _ _ _ _ h_57 H locs ls hL hl hX)
  | lshr => obtain ⟨y, st, rfl, h_58⟩ := ab_piE h; obtain ⟨x, st, rfl, h_59⟩ := ab_plE h_58; intro H locs ls hL hl hX; exact lv_lshr hF.1 hF.2.1 (hd rfl) rfl (hK _ _ _ _ h_59 H locs ls hL hl hX)
  | lushr => obtain ⟨y, st, rfl, h_60⟩ := ab_piE h; obtain ⟨x, st, rfl, h_61⟩ := ab_plE h_60; intro H locs ls hL hl hX; exact lv_lushr hF.1 hF.2.1 (hd rfl) rfl (hK _ _ _ _ h_61 H locs ls hL hl hX)
  | lcmp => obtain ⟨y, st, rfl, h_62⟩ := ab_plE h; obtain ⟨x, st, rfl, h_63⟩ := ab_plE h_62; intro H locs ls hL hl hX; exact W.lcmp hF.1 hF.2.1 (hd rfl) (hK _ _ _ _ h_63 H locs ls hL hl hX)
  | dup2 => obtain ⟨y, st, rfl, h_64⟩ := ab_piE h; obtain ⟨x, st, rfl, h_65⟩ := ab_prE h_64; intro H locs ls hL hl hX; exact lv_dup2_11 hF.1 hF.2.1 (hd rfl) rfl (ab_cat1 fun z hz => by cases hz) (hK _ _ _ _ h_65 H locs ls hL hl hX)
  | goto o => intro H locs ls hL hl hX; exact lv_goto hF.1 hF.2.1 (hd rfl) (ab_tgE htk) (hK _ _ _ _ h H locs ls hL hl hX)
  | ldc_w i =>
    unfold ab_ex at h
    dsimp only at h
    split at h
    · cases h
    · rename_i v hv
      intro H locs ls hL hl hX
      exact lv_ldcw hF.1 hF.2.1 hF.2.2.2.2.2.2.1 (hE.word (ab_csi_ok hv hrv) args) (hd rfl) (hK _ _ _ _ h H locs ls hL hl hX)
  | ldc2_w i =>
    unfold ab_ex at h
    dsimp only at h
    split at h
    · cases h
    · rename_i v hv
      intro H locs ls hL hl hX
      exact lv_ldc2 hF.1 hF.2.1 hF.2.2.2.2.2.2.1 (hE.word (ab_cst_ok hv hrv) args) (hd rfl) (hK _ _ _ _ h H locs ls hL hl hX)
  | dup =>
    unfold ab_ex at h
    dsimp only at h
    split at h
    · intro H locs ls hL hl hX
      exact lv_dup hF.1 hF.2.1 (hd rfl) rfl (hK _ _ _ _ h H locs ls hL hl hX)
    · intro H locs ls hL hl hX
      exact lv_dup hF.1 hF.2.1 (hd rfl) (ab_cat1 fun z hz => by cases hz) (hK _ _ _ _ h H locs ls hL hl hX)
    · cases h
  | pop =>
    unfold ab_ex at h
    dsimp only at h
    split at h
    · intro H locs ls hL hl hX
      exact lv_pop hF.1 hF.2.1 (hd rfl) rfl (hK _ _ _ _ h H locs ls hL hl hX)
    · intro H locs ls hL hl hX
      exact lv_pop hF.1 hF.2.1 (hd rfl) (ab_cat1 fun z hz => by cases hz) (hK _ _ _ _ h H locs ls hL hl hX)
    · cases h
  | ifCond cd o =>
    obtain ⟨x, st, rfl, h_66⟩ := ab_piE h
    intro H locs ls hL hl hX
    have ht := ab_tgE htk
    unfold ab_cz at h_66
    cases cd with
    | eq => exact lv_if_eq hF.1 hF.2.1 (hd rfl) ht (fun hx => hK _ _ _ _ (by dsimp only at h_66; rw [if_pos hx] at h_66; exact h_66) H locs ls hL hl hX) (fun hx => hK _ _ _ _ (by dsimp only at h_66; rw [if_neg hx] at h_66; exact h_66) H locs ls hL hl hX)
    | ne => exact lv_if_ne hF.1 hF.2.1 (hd rfl) ht (fun hx => hK _ _ _ _ (by dsimp only at h_66; rw [if_neg hx] at h_66; exact h_66) H locs ls hL hl hX) (fun hx => hK _ _ _ _ (by dsimp only at h_66; rw [if_pos hx] at h_66; exact h_66) H locs ls hL hl hX)
    | lt => exact lv_if_lt hF.1 hF.2.1 (hd rfl) ht (fun hx => hK _ _ _ _ (by dsimp only at h_66; rw [if_pos hx] at h_66; exact h_66) H locs ls hL hl hX) (fun hx => hK _ _ _ _ (by dsimp only at h_66; rw [if_neg hx] at h_66; exact h_66) H locs ls hL hl hX)
    | ge => exact lv_if_ge hF.1 hF.2.1 (hd rfl) ht (fun hx => hK _ _ _ _ (by dsimp only at h_66; rw [if_neg (Int32.not_lt.mpr hx)] at h_66; exact h_66) H locs ls hL hl hX) (fun hx => hK _ _ _ _ (by dsimp only at h_66; rw [if_pos (Int32.not_le.mp hx)] at h_66; exact h_66) H locs ls hL hl hX)
    | gt => exact lv_if_gt hF.1 hF.2.1 (hd rfl) ht (fun hx => hK _ _ _ _ (by dsimp only at h_66; rw [if_pos hx] at h_66; exact h_66) H locs ls hL hl hX) (fun hx => hK _ _ _ _ (by dsimp only at h_66; rw [if_neg hx] at h_66; exact h_66) H locs ls hL hl hX)
    | le => exact lv_if_le hF.1 hF.2.1 (hd rfl) ht (fun hx => hK _ _ _ _ (by dsimp only at h_66; rw [if_neg (Int32.not_lt.mpr hx)] at h_66; exact h_66) H locs ls hL hl hX) (fun hx => hK _ _ _ _ (by dsimp only at h_66; rw [if_pos (Int32.not_le.mp hx)] at h_66; exact h_66) H locs ls hL hl hX)
  | if_icmp cd o =>
    obtain ⟨y, st, rfl, h_67⟩ := ab_piE h
    obtain ⟨x, st, rfl, h_68⟩ := ab_piE h_67
    intro H locs ls hL hl hX
    have ht := ab_tgE htk
    unfold ab_cz at h_68
    cases cd with
    | eq => exact lv_icmp_eq hF.1 hF.2.1 (hd rfl) ht (fun hx => hK _ _ _ _ (by dsimp only at h_68; rw [if_pos hx] at h_68; exact h_68) H locs ls hL hl hX) (fun hx => hK _ _ _ _ (by dsimp only at h_68; rw [if_neg hx] at h_68; exact h_68) H locs ls hL hl hX)
    | ne => exact lv_icmp_ne hF.1 hF.2.1 (hd rfl) ht (fun hx => hK _ _ _ _ (by dsimp only at h_68; rw [if_neg hx] at h_68; exact h_68) H locs ls hL hl hX) (fun hx => hK _ _ _ _ (by dsimp only at h_68; rw [if_pos hx] at h_68; exact h_68) H locs ls hL hl hX)
    | lt => exact lv_icmp_lt hF.1 hF.2.1 (hd rfl) ht (fun hx => hK _ _ _ _ (by dsimp only at h_68; rw [if_pos hx] at h_68; exact h_68) H locs ls hL hl hX) (fun hx => hK _ _ _ _ (by dsimp only at h_68; rw [if_neg hx] at h_68; exact h_68) H locs ls hL hl hX)
    | ge => exact lv_icmp_ge hF.1 hF.2.1 (hd rfl) ht (fun hx => hK _ _ _ _ (by dsimp only at h_68; rw [if_neg (Int32.not_lt.mpr hx)] at h_68; exact h_68) H locs ls hL hl hX) (fun hx => hK _ _ _ _ (by dsimp only at h_68; rw [if_pos (Int32.not_le.mp hx)] at h_68; exact h_68) H locs ls hL hl hX)
    | gt => exact lv_icmp_gt hF.1 hF.2.1 (hd rfl) ht (fun hx => hK _ _ _ _ (by dsimp only at h_68; rw [if_pos hx] at h_68; exact h_68) H locs ls hL hl hX) (fun hx => hK _ _ _ _ (by dsimp only at h_68; rw [if_neg hx] at h_68; exact h_68) H locs ls hL hl hX)
    | le => exact lv_icmp_le hF.1 hF.2.1 (hd rfl) ht (fun hx => hK _ _ _ _ (by dsimp only at h_68; rw [if_neg (Int32.not_lt.mpr hx)] at h_68; exact h_68) H locs ls hL hl hX) (fun hx => hK _ _ _ _ (by dsimp only at h_68; rw [if_pos (Int32.not_le.mp hx)] at h_68; exact h_68) H locs ls hL hl hX)
  | tableswitch df lo hi offs =>
    obtain ⟨x, st, rfl, h_69⟩ := ab_piE h
    intro H locs ls hL hl hX
    exact ab_xtab hF hd0 htk h_69 fun t ht => hK _ _ _ _ ht H locs ls hL hl hX
  | lookupswitch df ps =>
    obtain ⟨x, st, rfl, h_70⟩ := ab_piE h
    intro H locs ls hL hl hX
    exact ab_xlook hF hd0 htk h_70 fun t ht => hK _ _ _ _ ht H locs ls hL hl hX
  | getfield i =>
    obtain ⟨r, st, rfl, h_71⟩ := ab_prE h
    obtain ⟨hok, h_72⟩ := ab_gE h_71
    exact ab_xget hF hE (hd rfl) (ab_rvF (pc := pc) hrv) hok (hK _ _ _ _ h_72)
  | putfield i =>
    have hres := ab_rvF (pc := pc) hrv
    obtain ⟨hc7, hfk, hknd, -⟩ := ab_fll_ok _ hres
    unfold ab_ex at h
    dsimp only at h
    split at h
    · rename_i h2
      obtain ⟨x, st, rfl, h_73⟩ := ab_piE h
      obtain ⟨r, st, rfl, h_74⟩ := ab_prE h_73
      obtain ⟨hok, h_75⟩ := ab_gE h_74
      have h0 : ab_knd f.1 f.2.1 = 0 := hknd.trans h2
      have hty := ab_kind0 hc7 hfk h0
      exact ab_xput (S' := ab_wi S r f.2.1 x) hF hE hA (hd rfl) hres hok (by rw [hty.1]; rfl) (by rw [hty.1]; rfl) (Or.inl hty.2) (by rw [ab_fvi (by omega)]; show Value.int (ab_up _ _ _ _ _ _) = _; rw [ab_up_eq]; rfl) (fun g hg => by simp only [ab_fv, ab_wi, ab_up_nk _ _ hg]) rfl (fun x' k' hx => ab_up_ne _ _ hx) (fun _ _ _ => rfl) (fun _ _ _ => rfl) (fun _ hi => ab_inv_of hi rfl fun _ _ => rfl) (hK _ _ _ _ h_75)
    · rename_i h2
      obtain ⟨x, st, rfl, h_76⟩ := ab_piE h
      obtain ⟨r, st, rfl, h_77⟩ := ab_prE h_76
      obtain ⟨hok, h_78⟩ := ab_gE h_77
      obtain ⟨hok, hz⟩ := ab_ctE hok
      have h0 : ab_knd f.1 f.2.1 = 1 := hknd.trans h2
      have hty := ab_kind1 hc7 hfk h0
      have hx01 : x = 0 ∨ x = 1 := by simpa [ab_zb] using hz
      exact ab_xput (S' := ab_wi S r f.2.1 x) (v := .inl x) hF hE hA (hd rfl) hres hok (by rw [hty.1]; rcases hx01 with rfl | rfl <;> rfl) (by rw [hty.1]; rcases hx01 with rfl | rfl <;> rfl) (Or.inl hty.2) (by rw [ab_fvi (by omega)]; show Value.int (ab_up _ _ _ _ _ _) = _; rw [ab_up_eq]; rfl) (fun g hg => by simp only [ab_fv, ab_wi, ab_up_nk _ _ hg]) rfl (fun x' k' hx => ab_up_ne _ _ hx) (fun _ _ _ => rfl) (fun _ _ _ => rfl) (fun _ hi => ab_inv_of hi rfl fun _ _ => rfl) (hK _ _ _ _ h_78)
    · rename_i h2
      obtain ⟨x, st, rfl, h_79⟩ := ab_prE h
      obtain ⟨r, st, rfl, h_80⟩ := ab_prE h_79
      obtain ⟨hok, h_81⟩ := ab_gE h_80
      have h0 : ab_knd f.1 f.2.1 = 2 := hknd.trans h2
      obtain ⟨⟨C, hty⟩, hnf⟩ := ab_kind2 hc7 hfk h0
      exact ab_xput (S' := ab_wr S r f.2.1 x) (v := .inr (.inr x)) hF hE hA (hd rfl) hres hok (by rw [hty]; cases x <;> rfl) (by rw [hty]; cases x <;> rfl) (Or.inl hnf) (by rw [ab_fvr (by omega)]; show ab_cv _ (.inr (.inr (ab_up _ _ _ _ _ _))) = _; rw [ab_up_eq]) (fun g hg => by simp only [ab_fv, ab_wr, ab_up_nk _ _ hg]) rfl (fun _ _ _ => rfl) (fun _ _ _ => rfl) (fun x' k' hx => ab_up_ne _ _ hx) (fun hm hi => ab_inv_of hi rfl fun y hy => by
          by_cases e1 : y.1 = r
          · by_cases e2 : y.2.1 = f.2.1
            · have hT := (ab_okE hok (fun _ => hi)).1
              exact absurd h0 (ab_fin_no hy (e1 ▸ hT) e2)
            · show ab_up _ _ _ _ _ _ = _
              rw [e1]
              exact ab_up_nk _ _ e2
          · exact ab_up_ne _ _ e1) (hK _ _ _ _ h_81)
    · rename_i h20 h21 h22
      obtain ⟨x, st, rfl, h_82⟩ := ab_prE h
      obtain ⟨r, st, rfl, h_83⟩ := ab_prE h_82
      obtain ⟨hok, h_84⟩ := ab_gE h_83
      simp only [Bool.and_eq_true, Bool.not_eq_true'] at hok
      obtain ⟨hm, hown, hok⟩ := hok
      have h0 : ab_knd f.1 f.2.1 = 3 := by
        have := ab_knd_lt f.1 f.2.1
        have : ab_knd f.1 f.2.1 ≠ 0 := fun q => h20 (hknd.symm.trans q)
        have : ab_knd f.1 f.2.1 ≠ 1 := fun q => h21 (hknd.symm.trans q)
        have : ab_knd f.1 f.2.1 ≠ 2 := fun q => h22 (hknd.symm.trans q)
        omega
      have hty := ab_kind3 hc7 hfk h0
      have hown := Nat.eq_of_beq_eq_true hown
      exact ab_xput (S' := ab_wr S r f.2.1 x) (v := .inr (.inr x)) hF hE hA (hd rfl) hres hok (ab_nrw hty x) (ab_fit hty x) (Or.inr ⟨by rw [hF.2.2.2.2.2.1]; exact ab_mdC k hk hm (by rw [← hown]; exact hc7), hown⟩) (by rw [ab_fvr (by omega)]; show ab_cv _ (.inr (.inr (ab_up _ _ _ _ _ _))) = _; rw [ab_up_eq]) (fun g hg => by simp only [ab_fv, ab_wr, ab_up_nk _ _ hg]) rfl (fun _ _ _ => rfl) (fun _ _ _ => rfl) (fun x' k' hx => ab_up_ne _ _ hx) (fun hm' => by rw [hm] at hm'; cases hm') (hK _ _ _ _ h_84)
  | getstatic i =>
    exact ab_xsta hF hE (hd rfl) (by simpa [ab_rsv] using hrv) (hK _ _ _ _ h)
  | arraylength =>
    obtain ⟨r, st, rfl, h_85⟩ := ab_prE h
    obtain ⟨hok, h_86⟩ := ab_gE h_85
    intro H locs ls hL hl hX
    obtain ⟨hT, h0, hlt⟩ := ab_okE hok hX.2.1
    obtain ⟨cell, q1, q2, q3, q4, q5, q6⟩ := (hX.1.1 r h0 hlt).2 (by omega)
    rw [hT] at q2
    rw [List.map_cons, ab_cvr h0]
    exact W.alen hF.1 hF.2.1 q1 q2 q4.2 rfl rfl (hd rfl) (hK _ _ _ _ h_86 H locs ls hL hl hX)
  | iaload =>
    obtain ⟨i, st, rfl, h_87⟩ := ab_piE h
    obtain ⟨r, st, rfl, h_88⟩ := ab_prE h_87
    obtain ⟨hok, h_89⟩ := ab_gE h_88
    obtain ⟨hin, h_90⟩ := ab_gE h_89
    intro H locs ls hL hl hX
    obtain ⟨cell, q1, q2, q3, q4, q5, q6, q7, q8, hT, h0, hlt⟩ := ab_arr hX hok (by decide) hin
    rw [List.map_cons, List.map_cons, ab_cvr h0]
    exact W.iald hF.1 hF.2.1 q1 q2 q3 q4 q5 rfl rfl (hd rfl) (hK _ _ _ _ h_90 H locs ls hL hl hX)
  | laload =>
    obtain ⟨i, st, rfl, h_91⟩ := ab_piE h
    obtain ⟨r, st, rfl, h_92⟩ := ab_prE h_91
    obtain ⟨hok, h_93⟩ := ab_gE h_92
    obtain ⟨hin, h_94⟩ := ab_gE h_93
    intro H locs ls hL hl hX
    obtain ⟨cell, q1, q2, q3, q4, q5, q6, q7, q8, hT, h0, hlt⟩ := ab_arr hX hok (by decide) hin
    rw [List.map_cons, List.map_cons, ab_cvr h0]
    exact W.lald hF.1 hF.2.1 q1 q2 q3 q4 q5 rfl rfl (hd rfl) (hK _ _ _ _ h_94 H locs ls hL hl hX)
  | caload =>
    obtain ⟨i, st, rfl, h_95⟩ := ab_piE h
    obtain ⟨r, st, rfl, h_96⟩ := ab_prE h_95
    obtain ⟨hok, h_97⟩ := ab_gE h_96
    obtain ⟨hin, h_98⟩ := ab_gE h_97
    intro H locs ls hL hl hX
    obtain ⟨cell, q1, q2, q3, q4, q5, q6, q7, q8, hT, h0, hlt⟩ := ab_arr hX hok (by decide) hin
    rw [List.map_cons, List.map_cons, ab_cvr h0]
    exact W.cald hF.1 hF.2.1 q1 q2 q3 q4 q5 rfl rfl (hd rfl) (hK _ _ _ _ h_98 H locs ls hL hl hX)
  | baload =>
    obtain ⟨i, st, rfl, h_99⟩ := ab_piE h
    obtain ⟨r, st, rfl, h_100⟩ := ab_prE h_99
    obtain ⟨hok, h_101⟩ := ab_gE h_100
    obtain ⟨hin, h_102⟩ := ab_gE h_101
    intro H locs ls hL hl hX
    obtain ⟨cell, q1, q2, q3, q4, q5, q6, q7, q8, hT, h0, hlt⟩ := ab_arr hX hok (by decide) hin
    rw [List.map_cons, List.map_cons, ab_cvr h0]
    exact W.zald hF.1 hF.2.1 q1 q2 q3 q4 q5 rfl rfl (hd rfl) (hK _ _ _ _ h_102 H locs ls hL hl hX)
  | aaload =>
    obtain ⟨i, st, rfl, h_103⟩ := ab_piE h
    obtain ⟨r, st, rfl, h_104⟩ := ab_prE h_103
    obtain ⟨hok, h_105⟩ := ab_gE h_104
    obtain ⟨hin, h_106⟩ := ab_gE h_105
    intro H locs ls hL hl hX
    obtain ⟨cell, q1, q2, q3, q4, q5, q6, q7, q8, hT, h0, hlt⟩ := ab_arr hX hok (by decide) hin
    rw [List.map_cons, List.map_cons, ab_cvr h0]
    exact W.aald hF.1 hF.2.1 q1 q2 rfl q3 q4 q5 rfl rfl (hd rfl) (hK _ _ _ _ h_106 H locs ls hL hl hX)
  | iastore =>
    obtain ⟨x, st, rfl, h_107⟩ := ab_piE h
    obtain ⟨i, st, rfl, h_108⟩ := ab_piE h_107
    obtain ⟨r, st, rfl, h_109⟩ := ab_prE h_108
    obtain ⟨hok, h_110⟩ := ab_gE h_109
    obtain ⟨hok, hr2⟩ := ab_ctE hok
    obtain ⟨hin, h_111⟩ := ab_gE h_110
    have hr2 : 2 < r := ab_blt hr2
    intro H locs ls hL hl hX
    obtain ⟨cell, q1, q2, q3, q4, q5, q6, q7, q8, hT, h0, hlt⟩ := ab_arr hX hok (by decide) hin
    rw [List.map_cons, List.map_cons, List.map_cons, ab_cvr h0]
    refine W.iast hF.1 hF.2.1 q1 q2 q3 q4 rfl rfl (hd rfl) fun H' e1 e2 e3 => ?_
    exact ab_xst (S' := ab_wi S r i.toNatClampNeg x) hA hX hr2 hlt hT (by decide) q2 q3 q6 q7 q8 e1 e2 e3 (by simp [ab_xv, ab_wi, ab_up_eq]; try rfl) (fun j hj => by simp only [ab_xv, ab_wi, ab_up_nk _ _ hj]) rfl (fun _ _ hx => ab_up_ne _ _ hx) (fun _ _ _ => rfl) (fun _ _ _ => rfl) (fun _ hi => ab_inv_of hi rfl fun _ _ => rfl) hL hl (hK _ _ _ _ h_111)
  | lastore =>
    obtain ⟨x, st, rfl, h_112⟩ := ab_plE h
    obtain ⟨i, st, rfl, h_113⟩ := ab_piE h_112
    obtain ⟨r, st, rfl, h_114⟩ := ab_prE h_113
    obtain ⟨hok, h_115⟩ := ab_gE h_114
    obtain ⟨hok, hr2⟩ := ab_ctE hok
    obtain ⟨hin, h_116⟩ := ab_gE h_115
    have hr2 : 2 < r := ab_blt hr2
    intro H locs ls hL hl hX
    obtain ⟨cell, q1, q2, q3, q4, q5, q6, q7, q8, hT, h0, hlt⟩ := ab_arr hX hok (by decide) hin
    rw [List.map_cons, List.map_cons, List.map_cons, ab_cvr h0]
    refine W.last hF.1 hF.2.1 q1 q2 q3 q4 rfl rfl (hd rfl) fun H' e1 e2 e3 => ?_
    exact ab_xst (S' := ab_wl S r i.toNatClampNeg x) hA hX hr2 hlt hT (by decide) q2 q3 q6 q7 q8 e1 e2 e3 (by simp [ab_xv, ab_wl, ab_up_eq]; try rfl) (fun j hj => by simp only [ab_xv, ab_wl, ab_up_nk _ _ hj]) rfl (fun _ _ _ => rfl) (fun _ _ hx => ab_up_ne _ _ hx) (fun _ _ _ => rfl) (fun _ hi => ab_inv_of hi rfl fun _ _ => rfl) hL hl (hK _ _ _ _ h_116)
  | castore =>
    obtain ⟨x, st, rfl, h_117⟩ := ab_piE h
    obtain ⟨i, st, rfl, h_118⟩ := ab_piE h_117
    obtain ⟨r, st, rfl, h_119⟩ := ab_prE h_118
    obtain ⟨hok, h_120⟩ := ab_gE h_119
    obtain ⟨hok, hr2⟩ := ab_ctE hok
    obtain ⟨hin, h_121⟩ := ab_gE h_120
    have hr2 : 2 < r := ab_blt hr2
    intro H locs ls hL hl hX
    obtain ⟨cell, q1, q2, q3, q4, q5, q6, q7, q8, hT, h0, hlt⟩ := ab_arr hX hok (by decide) hin
    rw [List.map_cons, List.map_cons, List.map_cons, ab_cvr h0]
    refine W.cast hF.1 hF.2.1 q1 q2 q3 q4 rfl rfl (hd rfl) fun H' e1 e2 e3 => ?_
    exact ab_xst (S' := ab_wi S r i.toNatClampNeg (ab_nc x)) hA hX hr2 hlt hT (by decide) q2 q3 q6 q7 q8 e1 e2 e3 (by simp [ab_xv, ab_wi, ab_up_eq]; try rfl) (fun j hj => by simp only [ab_xv, ab_wi, ab_up_nk _ _ hj]) rfl (fun _ _ hx => ab_up_ne _ _ hx) (fun _ _ _ => rfl) (fun _ _ _ => rfl) (fun _ hi => ab_inv_of hi rfl fun _ _ => rfl) hL hl (hK _ _ _ _ h_121)
  | bastore =>
    obtain ⟨x, st, rfl, h_122⟩ := ab_piE h
    obtain ⟨i, st, rfl, h_123⟩ := ab_piE h_122
    obtain ⟨r, st, rfl, h_124⟩ := ab_prE h_123
    obtain ⟨hok, h_125⟩ := ab_gE h_124
    obtain ⟨hok, hr2⟩ := ab_ctE hok
    obtain ⟨hin, h_126⟩ := ab_gE h_125
    have hr2 : 2 < r := ab_blt hr2
    intro H locs ls hL hl hX
    obtain ⟨cell, q1, q2, q3, q4, q5, q6, q7, q8, hT, h0, hlt⟩ := ab_arr hX hok (by decide) hin
    rw [List.map_cons, List.map_cons, List.map_cons, ab_cvr h0]
    refine W.zast hF.1 hF.2.1 q1 q2 q3 q4 rfl rfl (hd rfl) fun H' e1 e2 e3 => ?_
    exact ab_xst (S' := ab_wi S r i.toNatClampNeg (ab_nz x)) hA hX hr2 hlt hT (by decide) q2 q3 q6 q7 q8 e1 e2 e3 (by simp [ab_xv, ab_wi, ab_up_eq]; try rfl) (fun j hj => by simp only [ab_xv, ab_wi, ab_up_nk _ _ hj]) rfl (fun _ _ hx => ab_up_ne _ _ hx) (fun _ _ _ => rfl) (fun _ _ _ => rfl) (fun _ hi => ab_inv_of hi rfl fun _ _ => rfl) hL hl (hK _ _ _ _ h_126)
  | aastore =>
    obtain ⟨x, st, rfl, h_127⟩ := ab_prE h
    obtain ⟨i, st, rfl, h_128⟩ := ab_piE h_127
    obtain ⟨r, st, rfl, h_129⟩ := ab_prE h_128
    obtain ⟨hok, h_130⟩ := ab_gE h_129
    simp only [Bool.and_eq_true] at hok
    obtain ⟨hok, hr2, hokx⟩ := hok
    obtain ⟨hin, h_131⟩ := ab_gE h_130
    have hr2 : 2 < r := ab_blt hr2
    intro H locs ls hL hl hX
    obtain ⟨cell, q1, q2, q3, q4, q5, q6, q7, q8, hT, h0, hlt⟩ := ab_arr hX hok (by decide) hin
    obtain ⟨hTx, hx0, hxlt⟩ := ab_okE hokx hX.2.1
    obtain ⟨cellV, v1, v2, v3, -⟩ := (hX.1.1 x hx0 hxlt).1 (by rw [hTx]; decide)
    rw [hTx] at v2
    obtain ⟨kA, g1, g2⟩ := q8 rfl
    have hcls := (hE.2.1.1 2 _ (ab_cl_at (by decide))).2
    obtain ⟨kC, hkC, -⟩ := hcls.2
    rw [List.map_cons, List.map_cons, List.map_cons, ab_cvr h0, ab_cvr hx0]
    have q4' : ¬ i < 0 ∧ i.toNatClampNeg < cell.slots.size := ⟨fun z => q4 (Or.inl z), Nat.not_le.mp fun z => q4 (Or.inr z)⟩
    refine W.aast hF.1 hF.2.1 q1 q2.1 q3 g1 g2 rfl hkC q4' v1 (fun z hz => by rw [v3] at hz; cases hz) (by rw [v2]; exact hkC) (by rw [v2]; exact va_assign hcls) rfl rfl (hd rfl) fun H' e1 e2 e3 => ?_
    exact ab_xst (S' := ab_wr S r i.toNatClampNeg x) hA hX hr2 hlt hT (by decide) q2 q3 q6 q7 q8 e1 e2 e3 (by show ab_cv _ (.inr (.inr (ab_up _ _ _ _ _ _))) = _; rw [ab_up_eq, ab_cvr hx0]) (fun j hj => by show ab_cv _ (.inr (.inr (ab_up _ _ _ _ _ _))) = _; rw [ab_up_nk _ _ hj]; rfl) rfl (fun _ _ _ => rfl) (fun _ _ _ => rfl) (fun _ _ hx => ab_up_ne _ _ hx) (fun _ hi => ab_inv_of hi rfl fun y hy => ab_up_ne _ _ fun e1 => absurd hT (by rw [← e1]; exact ab_fin_ob hy)) hL hl (hK _ _ _ _ h_131)
  | new i =>
    unfold ab_ex at h
    dsimp only at h
    split at h
    · rename_i hf0
      obtain ⟨hg, h_132⟩ := ab_gE h
      simp only [Bool.and_eq_true, Bool.not_eq_true'] at hg
      have hmm := hKm _ _ _ _ h_132
      have m1 : S.2.2.2.2.1 + 1 ≤ r.2.2.2.2.2.1 := hmm.1
      have m2 : S.2.2.2.2.2 + f.2.2 ≤ r.2.2.2.2.2.2 := hmm.2
      exact ab_xnew hF hE hA (hd rfl) (ab_rvC (ab_ctE hrv).1) hf0 hg.1 (ab_blt hg.2.1) (Nat.eq_of_beq_eq_true hg.2.2) (by omega) (by omega) (hK _ _ _ _ h_132)
    · rename_i hf1
      obtain ⟨hg, h_133⟩ := ab_gE h
      simp only [Bool.and_eq_true] at hg
      cases h_133
      exact hHT p e R s m args below meth c n0 z0 k pc i f L st S hF hE hch hf1 hg.1 (Nat.le_of_ble_eq_true hg.2) (by omega) (by omega) hce hsl
    · cases h
  | newarray t =>
    obtain ⟨n, st, rfl, h_134⟩ := ab_piE h
    obtain ⟨hg, h_135⟩ := ab_gE h_134
    simp only [Bool.and_eq_true, Bool.not_eq_true', decide_eq_false_iff_not] at hg
    obtain ⟨hm, hlt, hT, hn, hN⟩ := hg
    have hlt : S.2.2.2.1 < ab_C := ab_blt hlt
    have hT := Nat.eq_of_beq_eq_true hT
    have hN := Nat.eq_of_beq_eq_true hN
    have hmm := hKm _ _ _ _ h_135
    have m1 : S.2.2.2.2.1 + 1 ≤ r.2.2.2.2.2.1 := hmm.1
    have m2 : S.2.2.2.2.2 + n.toNatClampNeg ≤ r.2.2.2.2.2.2 := hmm.2
    intro H locs ls hL hl hX
    have h3 := hX.1.2.1
    exact ab_xnewa hF hE hA (hd rfl) hm hlt hT (ab_atF h3 hlt hT) hn hN (by rw [hN]; exact ab_NF q h3 hlt) (by omega) (by omega) (hK _ _ _ _ h_135) H locs ls hL hl hX
  | anewarray i =>
    obtain ⟨n, st, rfl, h_136⟩ := ab_piE h
    obtain ⟨hg, h_137⟩ := ab_gE h_136
    simp only [Bool.and_eq_true, Bool.not_eq_true', decide_eq_false_iff_not] at hg
    obtain ⟨hf2, hm, hlt, hT, hn, hN⟩ := hg
    have hlt : S.2.2.2.1 < ab_C := ab_blt hlt
    have hT := Nat.eq_of_beq_eq_true hT
    have hN := Nat.eq_of_beq_eq_true hN
    have hmm := hKm _ _ _ _ h_137
    have m1 : S.2.2.2.2.1 + 1 ≤ r.2.2.2.2.2.1 := hmm.1
    have m2 : S.2.2.2.2.2 + n.toNatClampNeg ≤ r.2.2.2.2.2.2 := hmm.2
    intro H locs ls hL hl hX
    have h3 := hX.1.2.1
    exact ab_xanew hF hE hA (hd rfl) (ab_rvC hrv) (Nat.eq_of_beq_eq_true hf2) hm hlt hT hn hN (by rw [hN]; exact ab_NF q h3 hlt) (by omega) (by omega) (hK _ _ _ _ h_137) H locs ls hL hl hX
  | invokevirtual i =>
    obtain ⟨hf0, h_138⟩ := ab_gE h
    obtain ⟨hth, h_139⟩ := ab_gE h_138
    have hf0 := Nat.eq_of_beq_eq_true hf0
    have hres : (ab_own k, i, 0, f.2.1, f.2.2) ∈ ab_mtl := by have := ab_rvM hrv (by omega); rw [← hf0]; exact this
    refine ab_doW hHC hF hE hA ih hch rfl (hd rfl) (ab_mtl_v hres).1 (fun H locs ls hX hls T hT X hn => ?_) h_139 hfr hlo hce hsl hKm hK
    obtain ⟨r', e1, e2, e3⟩ := ab_thkE hth hn (ab_mtl_p hres (by decide))
    obtain ⟨hTr, h0, hlt⟩ := ab_okE e3 hX.2.1
    have hj := (ab_mtl_v hres).1
    obtain ⟨cell, q1, q2, q3, -⟩ := (hX.1.1 r' h0 hlt).1 (by omega)
    rw [hTr, Nat.add_sub_cancel_left] at q2
    rw [e1, List.map_cons, ab_cvr h0]
    refine ab_inV hF hE X hres rfl (b := ab_ad sa wa B r') (by have := ab_mtl_p hres (by decide); simp; omega) ?_ (by rw [hF.2.1]; exact hd rfl) (by rw [hT]; exact q1) q3 ?_
    · show st.map _ = _
      rw [e2, ab_cvr h0]
    · rw [q2, ← ab_cnF hj]
      exact ((hE.2.1.1 (ab_own f.2.1) _ (ab_cl_at (ab_mtl_c hres (by decide)))).2).1
  | invokestatic i =>
    unfold ab_ex at h
    dsimp only at h
    split at h
    · rename_i hf1
      have hres : (ab_own k, i, 1, f.2.1, f.2.2) ∈ ab_mtl := by have := ab_rvM hrv (by omega); rw [← hf1]; exact this
      refine ab_doW hHC hF hE hA ih hch rfl (hd rfl) (ab_mtl_s hres).1 (fun H locs ls hX hls T hT X hn => ?_) h hfr hlo hce hsl hKm hK
      refine ab_inS hF hE X hres rfl (by simp; omega) ?_ (by rw [hF.2.1]; exact hd rfl)
      show st.map _ = _
      rw [← List.map_reverse, List.reverse_reverse, ← List.map_append, List.take_append_drop]
    · rename_i hf9
      obtain ⟨n, st, rfl, h_140⟩ := ab_piE h
      obtain ⟨dp, st, rfl, h_141⟩ := ab_piE h_140
      obtain ⟨o, st, rfl, h_142⟩ := ab_prE h_141
      obtain ⟨sp, st, rfl, h_143⟩ := ab_piE h_142
      obtain ⟨a, st, rfl, h_144⟩ := ab_prE h_143
      obtain ⟨hg1, h_145⟩ := ab_gE h_144
      obtain ⟨hg2, h_146⟩ := ab_gE h_145
      exact ab_xcopy hF hE hA (hd rfl) (by have := ab_rvM hrv (by omega); rw [← hf9]; exact this) (by omega) (by omega) hg1 hg2 (hK _ _ _ _ h_146)
    · cases h
  | invokespecial i =>
    unfold ab_ex at h
    dsimp only at h
    split at h
    · rename_i hf2
      obtain ⟨hth, h_147⟩ := ab_gE h
      have hres : (ab_own k, i, 2, f.2.1, f.2.2) ∈ ab_mtl := by have := ab_rvM hrv (by omega); rw [← hf2]; exact this
      refine ab_doW hHC hF hE hA ih hch rfl (hd rfl) (ab_mtl_i hres).1 (fun H locs ls hX hls T hT X hn => ?_) h_147 hfr hlo hce hsl hKm hK
      obtain ⟨r', e1, e2, e3⟩ := ab_thkE hth hn (ab_mtl_p hres (by decide))
      obtain ⟨hTr, h0, hlt⟩ := ab_okE e3 hX.2.1
      rw [e1, List.map_cons, ab_cvr h0]
      refine ab_inI hF hE X hres rfl (b := ab_ad sa wa B r') (by have := ab_mtl_p hres (by decide); simp; omega) ?_ (by rw [hF.2.1]; exact hd rfl)
      show st.map _ = _
      rw [e2, ab_cvr h0]
    · rename_i hf8
      obtain ⟨r', st, rfl, h_148⟩ := ab_prE h
      obtain ⟨hg, h_149⟩ := ab_gE h_148
      simp only [Bool.and_eq_true] at hg
      have h0 : 0 < r' := ab_blt hg.1
      intro H locs ls hL hl hX
      obtain ⟨w1, w2, w3⟩ := ab_mtl_o (by have := ab_rvM hrv (by omega); rw [← hf8]; exact this)
      rw [List.map_cons, ab_cvr h0]
      have hcat := ab_cats (ab_ad sa wa B) st
      have h8 := Nat.le_of_ble_eq_true hg.2
      exact W.objInit hF.1 hF.2.1 hF.2.2.2.2.2.2.1 (hE.word w1 args) (hE.word w2 args) (hE.word w3 args) rfl (by rw [hF.2.2.1, ← hl]; exact hL.1) rfl (hd rfl) (by omega) (by show 2 * 0 + _ + 12 ≤ _; omega) (hK _ _ _ _ h_149 H locs ls hL hl hX)
    · cases h
  | ireturn =>
    unfold ab_ex at h
    dsimp only at h
    split at h
    · split at h
      · rename_i hr
        cases h
        exact ab_xiret hF (hd rfl) (ab_ret1C k hk hr) rfl rfl (by unfold ab_ov; rw [hr]; rfl)
      · rename_i hr
        cases h
        exact ab_xiret hF (hd rfl) (ab_ret4C k hk hr) rfl rfl (by unfold ab_ov; rw [hr]; rfl)
      · rename_i hr
        cases h
        exact ab_xiret hF (hd rfl) (ab_ret5C k hk hr) rfl rfl (by unfold ab_ov; rw [hr]; rfl)
      · cases h
    · cases h
  | lreturn =>
    unfold ab_ex at h
    dsimp only at h
    split at h
    · cases hb : Nat.beq (ab_ret k) 2 with
      | true =>
        rw [hb] at h
        cases h
        have hr := Nat.eq_of_beq_eq_true hb
        exact ab_xlret hF (hd rfl) (ab_ret2C k hk hr) rfl (by simp [ab_ov, hr])
      | false => rw [hb] at h; cases h
    · cases h
  | areturn =>
    unfold ab_ex at h
    dsimp only at h
    split at h
    · cases hb : Nat.beq (ab_ret k) 3 with
      | true =>
        rw [hb] at h
        cases h
        have hr := Nat.eq_of_beq_eq_true hb
        exact ab_xaret hF (hd rfl) (ab_ret3C k hk hr) rfl (by simp [ab_ov, hr])
      | false => rw [hb] at h; cases h
    · cases h
  | return_ =>
    unfold ab_ex at h
    dsimp only at h
    split at h
    · cases hb : Nat.beq (ab_ret k) 0 with
      | true =>
        rw [hb] at h
        cases h
        have hr := Nat.eq_of_beq_eq_true hb
        exact ab_xvret hF (hd rfl) (ab_ret0C k hk hr) rfl (by simp [ab_ov, hr])
      | false => rw [hb] at h; cases h
    · cases h
  | _ => exact nomatch (show (none : ab_R) = some r from h)
end ab_all
end
section
-- The words of the exceptions.
def ab_ta : List Jvm.Cond := Bundle.throwableAtoms ++ Bundle.throwableSAtoms ++ Bundle.chainSAtoms "java/lang/RuntimeException" ["java/lang/Exception"]
theorem ab_taW : ∀ w ∈ ab_ta, w ∈ lw_tbl := ab_zipW id _ [8, 285, 294, 299, 302, 304, 286, 287, 24, 25, 288, 293, 300, 320, 275, 321, 277, 322, 279, 289, 290, 291, 292, 281, 316, 317, 319, 281, 310, 311, 312, 313, 269, 313, 314, 315, 316, 271] (by decide +kernel) (by decide +kernel)
def ab_xi (x : Nat) : Nat := bif Nat.beq x 3 then 13 else 7
def ab_xb (x : Nat) : ByteArray := bif Nat.beq x 3 then ⟨#[0x2a, 0x2b, 0xb7, 0x00, 0x0d, 0xb1]⟩ else ⟨#[0x2a, 0x2b, 0xb7, 0x00, 0x07, 0xb1]⟩
def ab_xa (X : String) (ix : Nat) (rx : ByteArray) : List Jvm.Cond := Bundle.passSAtoms X "java/lang/RuntimeException" ix rx ++
  [.instantiable X 6, .initialized X, .selects X Bundle.tFill0 Bundle.tFill0, .selects X Bundle.tFill Bundle.tFill, .lays X Bundle.tN "cause" "Ljava/lang/Throwable;", .lays X Bundle.tN "stackTrace" Bundle.steD, .lays X Bundle.tN "suppressedExceptions" Bundle.listD, .lays X Bundle.tN "detailMessage" "Ljava/lang/String;",
   .fieldLink Bundle.tN 198 Bundle.tN "backtrace" "Ljava/lang/Object;", .lays Bundle.tN Bundle.tN "backtrace" "Ljava/lang/Object;", .lays X Bundle.tN "backtrace" "Ljava/lang/Object;"]
theorem ab_xaW1 : ∀ w ∈ ab_xa (ab_xn 1) (ab_xi 1) (ab_xb 1), w ∈ lw_tbl := ab_zipW id _ [307, 308, 309, 310, 267, 264, 11, 272, 273, 274, 276, 278, 280, 284, 283, 282] (by decide +kernel) (by decide +kernel)
theorem ab_xaW2 : ∀ w ∈ ab_xa (ab_xn 2) (ab_xi 2) (ab_xb 2), w ∈ lw_tbl := ab_zipW id _ [354, 355, 356, 310, 267, 344, 12, 346, 297, 347, 348, 349, 350, 284, 283, 351] (by decide +kernel) (by decide +kernel)
theorem ab_xaW3 : ∀ w ∈ ab_xa (ab_xn 3) (ab_xi 3) (ab_xb 3), w ∈ lw_tbl := ab_zipW id _ [562, 563, 564, 310, 267, 552, 14, 554, 298, 555, 556, 557, 558, 284, 283, 559] (by decide +kernel) (by decide +kernel)
theorem ab_xaW4 : ∀ w ∈ ab_xa (ab_xn 4) (ab_xi 4) (ab_xb 4), w ∈ lw_tbl := ab_zipW id _ [583, 584, 585, 310, 267, 573, 15, 575, 296, 576, 577, 578, 579, 284, 283, 580] (by decide +kernel) (by decide +kernel)
theorem ab_xaW {x : Nat} (h : 1 ≤ x) (h4 : x ≤ 4) : ∀ w ∈ ab_xa (ab_xn x) (ab_xi x) (ab_xb x), w ∈ lw_tbl := by
  match x, h, h4 with
  | 1, _, _ => exact ab_xaW1
  | 2, _, _ => exact ab_xaW2
  | 3, _, _ => exact ab_xaW3
  | 4, _, _ => exact ab_xaW4
theorem ab_xbD : ∀ x, x < 5 → decode (ab_xb x) 0 = .ok (.aload_n 0, 1) ∧ decode (ab_xb x) 1 = .ok (.aload_n 1, 1) ∧ decode (ab_xb x) 2 = .ok (.invokespecial (ab_xi x), 3) ∧ decode (ab_xb x) 5 = .ok (.return_, 1) := by decide +kernel
theorem ab_xnF : ∀ x, x < 5 → 1 ≤ x → Bundle.fit (ab_xn x) = true := by decide +kernel
def ab_t1 (y : Nat × Nat × Nat × Nat × Nat × Nat) : Jvm.Cond := .classLink (ab_cn (ab_own y.1)) y.2.2.2.1 (ab_xn y.2.2.1)
theorem ab_t1W : ∀ y ∈ ab_thl, ab_t1 y ∈ lw_tbl := ab_zipW _ _ [263, 343, 263, 343, 551, 572, 393] (by decide +kernel) (by decide +kernel)
def ab_tx (c i : Nat) : String := bif Nat.beq c 0 && Nat.beq i 125 then "a character is not 32 .. 126" else bif Nat.beq c 0 && Nat.beq i 132 then "a rule is not 0 .. 7" else bif Nat.beq c 0 && Nat.beq i 139 then "the bytes are not well formed" else bif Nat.beq c 0 && Nat.beq i 141 then "there is no such item" else bif Nat.beq c 0 && Nat.beq i 152 then "a rule is undefined" else bif Nat.beq c 0 && Nat.beq i 160 then "a rule comes back to itself barely" else bif Nat.beq c 3 && Nat.beq i 63 then "what was typed is no TYPE" else ""
def ab_t2 (y : Nat × Nat × Nat × Nat × Nat × Nat) : Jvm.Cond := .stringRef (ab_cn (ab_own y.1)) y.2.2.2.2.1 (ab_tx (ab_own y.1) y.2.2.2.2.1)
theorem ab_t2W : ∀ y ∈ ab_thl, ab_t2 y ∈ lw_tbl := ab_zipW _ _ [305, 352, 496, 508, 560, 581, 394] (by decide +kernel) (by decide +kernel)
def ab_t3 (y : Nat × Nat × Nat × Nat × Nat × Nat) : Jvm.Cond := .methodLink (ab_cn (ab_own y.1)) y.2.2.2.2.2 (Bundle.initS (ab_xn y.2.2.1))
theorem ab_t3W : ∀ y ∈ ab_thl, ab_t3 y ∈ lw_tbl := ab_zipW _ _ [306, 353, 306, 353, 561, 582, 395] (by decide +kernel) (by decide +kernel)
theorem ab_thD : ∀ y ∈ ab_thl, (1 ≤ y.2.2.1 ∧ y.2.2.1 < 5) ∧ ab_ht y.1 = [] ∧ decode (ab_by y.1) (y.2.1 + 3) = .ok (.dup, 1) ∧ decode (ab_by y.1) (y.2.1 + 4) = .ok (.ldc y.2.2.2.2.1, 2) ∧ decode (ab_by y.1) (y.2.1 + 6) = .ok (.invokespecial y.2.2.2.2.2, 3) ∧ decode (ab_by y.1) (y.2.1 + 9) = .ok (.athrow, 1) := by decide +kernel
end
section
-- A method makes an exception and throws it.
theorem ab_inv_wx {S : ab_S} (h : ab_inv S = true) : ab_inv (ab_wx S) = true := h
section ab_throw
variable {p : Program} {l : Launch} {e : Env} {R : Room} {s : State} {m : MethodId} {args : Array Value} {below : List Frame} {meth : Method} {c : Code} {T : State} {locs : List Loc} {cells slots : Nat}
/-- a static that holds a reference or null, at the walk's present state -/
theorem ab_zq {C n d : String} {B : Nat} {Hb : Heap} (h : va_Zq C n d (fun a => B ≤ a) s Hb) : ∃ (cf : ClassId) (kf : Class) (fi : Nat) (f : Field) (a : Nat) (cell : Cell) (u : RefV), s.fieldFound? C n d = some (cf, kf, fi, f) ∧ kf.statics = some a ∧ Hb[a]? = some cell ∧ cell.vm.isStatics = true ∧ cell.slots[f.slot]? = some u.v ∧ a < B := by
  rcases h with ⟨cf, kf, fi, f, a, cell, h1, h2, h3, h4, h5, h6, h7, h8⟩ | ⟨t, cf, kf, fi, f, a, cell, h1, h2, h3, h4, h5, h6, h7, h8⟩
  · exact ⟨cf, kf, fi, f, a, cell, ⟨.null, rfl⟩, h1, h4, h5, h6, h7, Nat.not_le.mp h8⟩
  · exact ⟨cf, kf, fi, f, a, cell, ⟨.ref t, rfl⟩, h1, h4, h5, h6, h7, Nat.not_le.mp h8⟩
set_option maxHeartbeats 1000000 in
/-- 'invokespecial X.<init>(String); athrow' on a fresh X: the method has thrown it; of the heap that cell alone has changed -/
theorem ab_cthrow {B : Nat} {Hb : Heap} (X : Stand p l e R s m args below meth c T locs cells slots) (hexec : p.tables.exec = Jvm.exec) (htr : e.platform.stackTraces = false) {own : String} {x ic : Nat} (hown : s.vm.findClass own = some m.cls) (hx1 : 1 ≤ x) (hx5 : x < 5)
    (hw : ∀ w ∈ lw_tbl, w.before args s = true) (hic : Jvm.Cond.methodLink own ic (Bundle.initS (ab_xn x)) ∈ lw_tbl)
    (hz1 : va_Zq "java/lang/Throwable" "UNASSIGNED_STACK" "[Ljava/lang/StackTraceElement;" (fun a => B ≤ a) s Hb) (hz2 : va_Zq "java/lang/Throwable" "SUPPRESSED_SENTINEL" "Ljava/util/List;" (fun a => B ≤ a) s Hb) (hold : ∀ a, a < B → T.heap[a]? = Hb[a]?)
    {a : Addr} {cX : ClassId} {kX : Class} (hfX : s.vm.findClass (ab_xn x) = some cX) (hkX : s.vm.classes[cX]? = some kX) (hcell : T.heap[a]? = some (freshCell cX kX)) (hnew : B ≤ a)
    {msg : Value} (hmsg : msg.isRef = true) {g : JFrame} (hg : g.method = m) (hsize : g.locals.size = c.maxLocals) (hlocked : g.locked = none) (hentered : g.entered = []) {rest : List Value} (hstack : g.stack = msg :: .ref a :: .ref a :: rest)
    (hd6 : decode c.code g.pc = .ok (.invokespecial ic, 3)) (hd9 : decode c.code (g.pc + 3) = .ok (.athrow, 1)) (hout : c.exceptionTable.toList = []) (hRf : 6 < R.frames) (hRl : 2 * g.monitorRoom + ((Value.ref a :: rest).map fun v => v.category).sum + 81 ≤ R.locals) (hlocks : meth.locks = false) :
    ∃ (U : State) (L : List Loc) (ce : Cell), Steps p.tables e below (T.setTop g) U ∧ U.status = .running ∧ Ended U below (.threw a) ∧ s.WarmedH U.vm ∧ s.sameButNew ({ U with vm := s.vm } : State) (locs ++ L) cells slots ∧ (∀ y ∈ L, y.base = a) ∧
      U.heap = T.heap.setIfInBounds a ce ∧ ce.cls = cX ∧ ce.vm = .none := by
  have howns : e.platform.frameOwnsMonitors = true := by rw [X.admits.platform]
  have hfin : e.platform.finalization = false := by rw [X.admits.platform]
  have hpl : e.platform.magicAccessors = ({} : Platform).magicAccessors := by rw [X.admits.platform]
  have hta : ∀ w ∈ ab_ta, w.before args s = true := fun w h => hw w (ab_taW w h)
  have hxa : ∀ w ∈ ab_xa (ab_xn x) (ab_xi x) (ab_xb x), w.before args s = true := fun w h => hw w (ab_xaW hx1 (by omega) w h)
  obtain ⟨d0, d1, d2, d5⟩ := ab_xbD x hx5
  have hfit := Bundle.fit_spec (ab_xnF x hx5 hx1)
  obtain ⟨Th, Z0, LT, -, Y⟩ := ThrowableC.of_atoms (args := args) howns hfin hpl (fun w h => hta w (by simp [ab_ta, h]))
  obtain ⟨Z, M, LZ, LM, hnZ⟩ := Init0T.ofS_atoms (args := args) hpl LT Y (fun w h => hta w (by simp [ab_ta, h]))
  obtain ⟨P1, Ps, hlen, L1, hL, hP1m, hlink1, hlink⟩ := Bundle.chainS (args := args) hpl hnZ ["java/lang/Exception"] "java/lang/RuntimeException" (by decide +kernel) (by decide +kernel) (fun w h => hta w (by simp [ab_ta, h]))
  obtain ⟨P0, L0, hP0m, hP0s⟩ := PassC.ofS_atoms (args := args) (X := ab_xn x) (Y := "java/lang/RuntimeException") hpl hfit.1 (by decide +kernel) d0 d1 d2 d5 (fun w h => hxa w (by unfold ab_xa; exact List.mem_append_left _ h))
  have hsup : P0.sup = P1.m := Option.some.inj (hP0s.symm.trans hP1m)
  have hfound : s.vm.findClass (ab_xn x) = some P0.m.cls := findClass_of_methodNamed hP0m
  cases Option.some.inj (hfX.symm.trans hfound)
  have a' : ∀ w ∈ ab_xa (ab_xn x) (ab_xi x) (ab_xb x), w.holds args s none s [] = true := hxa
  obtain ⟨c1, kX', hc1, hk, hord, -, -, hn6⟩ := Cond.instantiable_spec (a' (.instantiable (ab_xn x) 6) (by simp [ab_xa]))
  cases Option.some.inj (hc1.symm.trans hfound)
  cases Option.some.inj (hkX.symm.trans hk)
  have hsel0 : selectMethod e.platform s.vm P0.m.cls Th.fill0 = .method Th.fill0 := by
    obtain ⟨c2, r2, m2, q1, q2, q3, q4, -⟩ := Cond.selects_spec (a' (.selects (ab_xn x) Bundle.tFill0 Bundle.tFill0) (by simp [ab_xa]))
    cases Option.some.inj (q1.symm.trans hfound)
    cases Option.some.inj (q2.symm.trans (State.methodFound?_of_named Y.fill0 (by decide)))
    cases Option.some.inj (q3.symm.trans Y.fill0)
    rw [Launch.admits_selectMethod X.admits]; exact q4
  have hselF : selectMethod e.platform s.vm P0.m.cls Th.fill = .method Th.fill := by
    obtain ⟨c2, r2, m2, q1, q2, q3, q4, -⟩ := Cond.selects_spec (a' (.selects (ab_xn x) Bundle.tFill Bundle.tFill) (by simp [ab_xa]))
    cases Option.some.inj (q1.symm.trans hfound)
    cases Option.some.inj (q2.symm.trans (State.methodFound?_of_named Y.fill (by decide)))
    cases Option.some.inj (q3.symm.trans Y.fill)
    rw [Launch.admits_selectMethod X.admits]; exact q4
  obtain ⟨cf1, kf1, fi1, f1, a1, cell1, u0, z1, z2, z3, z4, z5, z6⟩ := ab_zq hz1
  obtain ⟨cf2, kf2, fi2, f2, a2, cell2, sen, y1, y2, y3, y4, y5, y6⟩ := ab_zq hz2
  have e1 := z1.symm.trans Y.unassigned
  simp only [Option.some.injEq, Prod.mk.injEq] at e1
  obtain ⟨-, e12, -, e14⟩ := e1
  have e2 := y1.symm.trans Y.sentinel
  simp only [Option.some.injEq, Prod.mk.injEq] at e2
  obtain ⟨-, e22, -, e24⟩ := e2
  rw [e12, LT.statics] at z2
  rw [e22, LT.statics] at y2
  rw [e14] at z5
  rw [e24] at y5
  have ea1 := Option.some.inj z2
  have ea2 := Option.some.inj y2
  rw [← ea1] at z3 z6
  rw [← ea2] at y3
  have ec : cell2 = cell1 := Option.some.inj (y3.symm.trans z3)
  rw [ec] at y5
  have hcellS : T.heap[Th.aS]? = some cell1 := (hold _ z6).trans z3
  have hneS : Th.aS ≠ a := Nat.ne_of_lt (Nat.lt_of_lt_of_le z6 hnew)
  have hknownS : cell1.vm ≠ .unknown := fun h => by rw [h] at z4; cases z4
  obtain ⟨iM, hffM⟩ := Y.msg
  obtain ⟨ci198, i198, fB, hk198, hg198, ha198, hsB, -, hnB, htB, hffB⟩ := Cond.ownField (t := .object "java/lang/Object") Y.found LT.cls (by decide +kernel) (a' (.fieldLink Bundle.tN 198 Bundle.tN "backtrace" "Ljava/lang/Object;") (by simp [ab_xa])) (a' (.lays Bundle.tN Bundle.tN "backtrace" "Ljava/lang/Object;") (by simp [ab_xa])) e.platform hpl
  obtain ⟨tyC, dC, hdC, hdnC⟩ := Cond.laysAt hfound hk Y.cause (a' (.lays (ab_xn x) Bundle.tN "cause" "Ljava/lang/Throwable;") (by simp [ab_xa]))
  obtain ⟨tyS, dS, hdS, hdnS⟩ := Cond.laysAt hfound hk Y.stack (a' (.lays (ab_xn x) Bundle.tN "stackTrace" Bundle.steD) (by simp [ab_xa]))
  obtain ⟨tyP, dP, hdP, hdnP⟩ := Cond.laysAt hfound hk Y.supp (a' (.lays (ab_xn x) Bundle.tN "suppressedExceptions" Bundle.listD) (by simp [ab_xa]))
  obtain ⟨tyM, dM, hdM, hdnM⟩ := Cond.laysAt hfound hk hffM (a' (.lays (ab_xn x) Bundle.tN "detailMessage" "Ljava/lang/String;") (by simp [ab_xa]))
  obtain ⟨tyB, dB, hdB, hdnB⟩ := Cond.laysAt hfound hk hffB (a' (.lays (ab_xn x) Bundle.tN "backtrace" "Ljava/lang/Object;") (by simp [ab_xa]))
  have bC := Cond.laysApart hdB hdC hdnB hdnC (by rw [hnB, Y.causeName]; decide)
  have bS := Cond.laysApart hdB hdS hdnB hdnS (by rw [hnB, Y.stackName]; decide)
  have bP := Cond.laysApart hdB hdP hdnB hdnP (by rw [hnB, Y.suppName]; decide)
  have hback : ((preparedCellV Th.toThrowableT (freshCell P0.m.cls kX) a u0 sen).withEntry T.cur).slots[fB.slot]? = some .null := by
    have h0 := fresh_default (c := P0.m.cls) tyB
    rw [htB] at h0
    simpa [preparedCellV, Cell.setSlot, Cell.withEntry, Array.getElem?_setIfInBounds, bC, bS, bP, bC.symm, bS.symm, bP.symm, defaultValue] using h0
  obtain ⟨tm, methC, cdC, kC, vm₁, hnC, -, -, -, -, -, -, -, hW₁, st1⟩ := Steps.initColdS (tb := p.tables) (e := e) (below := below) (s := s) (U := T) X.here hexec X.warmed hpl hown (t := Bundle.initS (ab_xn x)) rfl rfl hfit.2
    (hw _ hic) (hxa (.instanceMethod (Bundle.initS (ab_xn x))) (by simp [ab_xa, Bundle.passSAtoms])) (bytes := ab_xb x) (maxL := 2) (hxa (.code (Bundle.initS (ab_xn x)) (ab_xb x) 2 none) (by simp [ab_xa, Bundle.passSAtoms]))
    (f := g) hg (a := a) (msg := msg) (rest := .ref a :: rest) hstack hd6
  cases Option.some.inj (hnC.symm.trans hP0m)
  have X₁ := X.noted hW₁
  have hlen' : Ps.length = 1 := hlen
  obtain ⟨vm₂, X₂, st2⟩ := X₁.ctorMessageOffV hexec (g := { g with stack := .ref a :: rest }) hg hsize Th LT Z LZ M LM (P0 :: P1 :: Ps)
    (fun P hP => by
      rcases List.mem_cons.mp hP with rfl | hP
      · exact L0
      rcases List.mem_cons.mp hP with rfl | hP
      · exact L1
      · exact hL P hP) ⟨hsup, hlink1, hlink⟩ (u0 := u0) (sen := sen) (self := a) hmsg (cell := freshCell P0.m.cls kX) (cellS := cell1)
    hcell (fun _ => by simp) (by simp) rfl rfl hsel0 hselF hcellS hneS hknownS z5 y5
    (Takes.of_laid hk hord tyC (by rw [Y.causeType]; rfl)) (Takes.of_laid hk hord tyS (by rw [Y.stackType]; exact fits_refV_array _ u0)) (Takes.of_laid hk hord tyP (by rw [Y.suppType]; exact fits_refV_object _ sen))
    (Takes.of_laid hk hord tyM (by rw [Y.msgType]; exact fits_refV_object _ ⟨msg, hmsg⟩)) Y.objLocals ⟨{ ci198 := ci198, i198 := i198, fBack := fB }, ⟨hk198, hg198, ha198, hsB⟩, hback, fun _ _ => rfl⟩ htr [] hd6
    (by simp only [List.length_cons, hlen']; omega) (by simp only [List.length_cons, hlen']; exact hRl)
  obtain ⟨hwalk, hrun, hended, hWU, hsame⟩ := X₂.athrowLeaves hexec (g := { g with stack := .ref a :: rest, pc := g.pc + 3 }) hg hlocked hentered (fun y hy => by rw [hout] at hy; cases hy) (a := a) (rest := rest) rfl hd9 hlocks
  refine ⟨_, _, _, st1 _ (fun acts => ?_), hrun, hended, hWU, hsame, ?_, rfl, rfl, rfl⟩
  · rw [doInvoke_state]
    exact st2 _ hwalk
  · intro y hy
    simp only [List.mem_cons, List.not_mem_nil, or_false] at hy
    rcases hy with rfl | rfl | rfl | rfl | rfl <;> rfl
theorem ab_HTof {D : va_G} {q sa wa B : Nat} {Hb : Heap} (hl : ∀ e, l.admits e → e.platform.stackTraces = false) (hA : sa < B ∧ wa < B ∧ sa ≠ wa) : ab_HT l D q sa wa B Hb := by
  intro p e R s m args below meth c n0 z0 k pc i f L st S hF hE hch hf1 hmd hst hRf hRl hRc hRs H locs ls hL hl' hX
  obtain ⟨len, hd0, hdl, -, hrv⟩ := ab_chkE hch
  have hd : decode (ab_by k) pc = .ok (.new i, 3) := by
    rcases hdl with h | h
    · rw [hd0, h]; rfl
    · cases h
  obtain ⟨-, h2⟩ := ab_ctE hrv
  have h2 : ∃ y ∈ ab_thl, y.1 = k ∧ y.2.1 = pc ∧ y.2.2.1 = f.2.1 ∧ y.2.2.2.1 = i := by
    simp only [hf1, Bool.or_eq_true, Bool.not_eq_true', List.any_eq_true, Bool.and_eq_true] at h2
    rcases h2 with h2 | ⟨y, hy, q1, q2, q3, q4⟩
    · exact absurd h2 (by decide)
    · exact ⟨y, hy, Nat.eq_of_beq_eq_true q1, Nat.eq_of_beq_eq_true q2, Nat.eq_of_beq_eq_true q3, Nat.eq_of_beq_eq_true q4⟩
  obtain ⟨⟨k', pc', x, i', js, ic⟩, hy, e1, e2, e3, e4⟩ := h2
  simp only at e1 e2 e3 e4
  subst e1 e2 e4
  obtain ⟨⟨hx1, hx5⟩, hht, d3, d4, d6, d9⟩ := ab_thD _ hy
  simp only at hx1 hx5 hht d3 d4 d6 d9
  have w1 : Jvm.Cond.classLink (ab_cn (ab_own k')) i' (ab_xn x) ∈ lw_tbl := ab_t1W _ hy
  have w2 : Jvm.Cond.stringRef (ab_cn (ab_own k')) js (ab_tx (ab_own k') js) ∈ lw_tbl := ab_t2W _ hy
  have w3 : Jvm.Cond.methodLink (ab_cn (ab_own k')) ic (Bundle.initS (ab_xn x)) ∈ lw_tbl := ab_t3W _ hy
  have hxa : ∀ w ∈ ab_xa (ab_xn x) (ab_xi x) (ab_xb x), w ∈ lw_tbl := ab_xaW hx1 (by omega)
  have w4 : Jvm.Cond.instantiable (ab_xn x) 6 ∈ lw_tbl := hxa _ (by simp [ab_xa])
  have w5 : Jvm.Cond.initialized (ab_xn x) ∈ lw_tbl := hxa _ (by simp [ab_xa])
  obtain ⟨cX, hcX⟩ := classAt_of (hE.word w4 args)
  have h5 := hX.2.2.2.2.1
  have h6 := hX.2.2.2.2.2
  have r1 : S.2.2.2.2.1 + 1 - n0 ≤ R.cells := hRc
  have r2 : S.2.2.2.2.2 + 6 - z0 ≤ R.slots := hRs
  have hown := hF.2.2.2.2.2.2.1
  obtain ⟨ks, cfs, is, adr, -, -, -, -, -, hev⟩ := Cond.stringRef_spec hown (hE.word w2 args)
  have hemp : c.exceptionTable.toList = [] := by
    have h8 := hF.2.2.2.2.2.2.2
    rw [hht] at h8
    exact List.map_eq_nil_iff.mp h8
  have hS := hX.2.1 hmd
  simp only [ab_inv, Bool.and_eq_true] at hS
  have hfC := Nat.eq_of_beq_eq_true hS.1
  have hBH : B ≤ H.size := by have := hX.1.2.2.2.1; omega
  have hcat := ab_cats (ab_ad sa wa B) st
  refine W.newcK hF.1 hF.2.1 hown (hE.word w1 args) (hE.word w4 args) (hE.word w5 args) rfl hd (by omega) (by omega) hcX.1 rfl fun H' kC hkC g1 g2 g3 => ?_
  refine lv_dup hF.1 hF.2.1 d3 rfl ?_
  intro T hT X
  have st4 := X.ldcString hF.1 hown (text := ab_tx (ab_own k') js) (a := adr) (hE.word w2 args) hev (g := F0 m (pc' + 4) ls (.ref H.size :: .ref H.size :: st.map (ab_cv (ab_ad sa wa B)))) rfl (by rw [hF.2.1]; exact d4)
  obtain ⟨U, L', ce, s1, s2, s3, s4, s5, s6, s7, s8, s9⟩ := ab_cthrow (x := x) (ic := ic) (a := H.size) (B := B) (Hb := Hb) (msg := .ref adr) (rest := st.map (ab_cv (ab_ad sa wa B))) (g := F0 m (pc' + 6) ls (.ref adr :: .ref H.size :: .ref H.size :: st.map (ab_cv (ab_ad sa wa B)))) X hF.1 (hl e X.admits) hown hx1 hx5 (fun w hw => hE.word hw args) w3 hE.2.2.2.1 hE.2.2.2.2.1
    (fun a ha => by rw [hT, g3 a (by omega)]; exact hX.2.2.1 a ha) hcX.1 hkC (by rw [hT]; exact g1) hBH rfl rfl (by rw [hF.2.2.1, ← hl']; exact hL.1) rfl rfl rfl (by rw [hF.2.1]; exact d6) (by rw [hF.2.1]; exact d9) hemp (by omega)
    (by show 2 * 0 + (1 + ((st.map (ab_cv (ab_ad sa wa B))).map fun v => v.category).sum) + 81 ≤ _; omega) hF.2.2.2.2.1
  have hU : ∀ a, a < H.size → U.heap[a]? = H[a]? := fun a ha => by
    rw [s7, hT, ← g3 a ha]
    simp [Array.getElem?_setIfInBounds, Nat.ne_of_gt ha]
  have hUz : U.heap.size = H.size + 1 := by rw [s7, hT]; simp [g2]
  refine ⟨U, st4 U s1, .threw H.size, s2, s3, Or.inr ⟨by show f.2.1 ≠ 0; omega, H.size, rfl, ce, by rw [s7, hT]; simp [g2], ?_, fun z hz => by rw [s9] at hz; cases hz⟩, s4, ⟨locs ++ L', ?_, fun y hy => ?_⟩, ⟨fun r a b => ?_, hX.1.2.1, hX.1.2.2.1, by rw [hUz]; have := hX.1.2.2.2.1; show B + (S.2.2.2.1 - 3) ≤ _; omega, fun hlt => ?_, hX.1.2.2.2.2.2⟩, fun hm => ab_inv_wx (hX.2.1 hm), fun a ha => by rw [hU a (by omega)]; exact hX.2.2.1 a ha, by show n0 ≤ _ + 1; omega, by show z0 ≤ _ + 6; omega⟩
  · rw [s8, ← e3, s4.alike.findClass]
    exact hcX.1
  · have e5 : S.2.2.2.2.1 - n0 + 1 = (ab_wx S).2.2.2.2.1 - n0 := by show _ = _ + 1 - n0; omega
    have e6 : S.2.2.2.2.2 - z0 + 6 = (ab_wx S).2.2.2.2.2 - z0 := by show _ = _ + 6 - z0; omega
    rw [← e5, ← e6]
    exact s5
  · rcases List.mem_append.mp hy with h | h
    · exact hX.2.2.2.1 y h
    · rw [s6 y h]; exact hBH
  · refine (hX.1.1 r a b).kept (hU _ ?_) (fun _ => rfl) (fun _ => rfl) (fun _ => rfl)
    have b' : r < S.2.2.2.1 := b
    have := hX.1.2.2.2.1
    match r, a with
    | 1, _ => show sa < _; omega
    | 2, _ => show wa < _; omega
    | r + 3, _ => show B + r < _; omega
  · have : S.2.2.2.1 < ab_C := hlt
    omega
end ab_throw
end
section
-- Catching: where, what, and the int that is answered: method, exception, entry, place, local, length of the store, answer.
def ab_hdl : List (Nat × Nat × Nat × Nat × Nat × Nat × Int32) := [(121, 1, 0, 19, 3, 1, 1), (122, 2, 0, 12, 3, 1, 1), (122, 1, 1, 15, 3, 1, 2), (123, 2, 0, 19, 3, 1, 1), (124, 1, 0, 11, 2, 1, 1), (125, 1, 0, 12, 3, 1, 1), (125, 2, 1, 15, 3, 1, 2), (126, 1, 0, 11, 3, 1, 1), (126, 2, 1, 14, 3, 1, 2), (127, 1, 0, 12, 3, 1, 1), (127, 2, 1, 15, 3, 1, 2), (128, 2, 0, 12, 3, 1, 1), (128, 3, 1, 15, 3, 1, 2), (128, 4, 2, 18, 3, 1, 3), (129, 2, 0, 19, 3, 1, 1), (129, 3, 1, 22, 3, 1, 2), (129, 4, 2, 25, 3, 1, 3), (129, 1, 3, 28, 3, 1, 4), (130, 2, 0, 20, 4, 2, 1), (130, 3, 1, 24, 4, 2, 2), (130, 4, 2, 28, 4, 2, 3), (130, 1, 3, 32, 4, 2, 4)]
def ab_hx (k : Nat) : List Nat := (ab_br k 126 (ab_br k 123 (ab_br k 122 (ab_le0 k 121 [1] []) (ab_le0 k 122 [2, 1] [])) (ab_br k 124 (ab_le0 k 123 [2] []) (ab_br k 125 (ab_le0 k 124 [1] []) (ab_le0 k 125 [1, 2] [])))) (ab_br k 128 (ab_br k 127 (ab_le0 k 126 [1, 2] []) (ab_le0 k 127 [1, 2] [])) (ab_br k 129 (ab_le0 k 128 [2, 3, 4] []) (ab_br k 130 (ab_le0 k 129 [2, 3, 4, 1] []) (ab_le0 k 130 [2, 3, 4, 1] [])))))
theorem ab_brE {α : Type} {i c : Nat} {a b : Option α} {v : α} (h : ab_br i c a b = some v) : a = some v ∨ b = some v := by
  unfold ab_br at h
  cases hb : Nat.blt i c with
  | true => rw [hb] at h; exact Or.inl h
  | false => rw [hb] at h; exact Or.inr h
theorem ab_leE {α : Type} {i c : Nat} {a b : Option α} {v : α} (h : ab_le0 i c a b = some v) : (i = c ∧ a = some v) ∨ b = some v := by
  unfold ab_le0 at h
  cases hb : Nat.beq i c with
  | true => rw [hb] at h; exact Or.inl ⟨Nat.eq_of_beq_eq_true hb, h⟩
  | false => rw [hb] at h; exact Or.inr h
theorem ab_hndE {k x : Nat} {v : Int32} (h : ab_hnd k x = some v) : ∃ n hp ai sz, (k, x, n, hp, ai, sz, v) ∈ ab_hdl := by
  unfold ab_hnd at h
  rcases ab_brE h with h_1 | h_2
  · skip
    rcases ab_brE h_1 with h_3 | h_4
    · skip
      rcases ab_brE h_3 with h_5 | h_6
      · skip
        rcases ab_leE h_5 with ⟨e_7, h_8⟩ | h_9
        · skip
          rcases ab_leE h_8 with ⟨e_10, h_11⟩ | h_12
          · skip
            have := Option.some.inj h_11
            exact ⟨0, 19, 3, 1, by rw [e_7, e_10, ← this]; simp [ab_hdl]⟩
          · exact nomatch h_12
        · exact nomatch h_9
      · skip
        rcases ab_leE h_6 with ⟨e_13, h_14⟩ | h_15
        · skip
          rcases ab_brE h_14 with h_16 | h_17
          · skip
            rcases ab_leE h_16 with ⟨e_18, h_19⟩ | h_20
            · skip
              have := Option.some.inj h_19
              exact ⟨1, 15, 3, 1, by rw [e_13, e_18, ← this]; simp [ab_hdl]⟩
            · exact nomatch h_20
          · skip
            rcases ab_leE h_17 with ⟨e_21, h_22⟩ | h_23
            · skip
              have := Option.some.inj h_22
              exact ⟨0, 12, 3, 1, by rw [e_13, e_21, ← this]; simp [ab_hdl]⟩
            · exact nomatch h_23
        · exact nomatch h_15
    · skip
      rcases ab_brE h_4 with h_24 | h_25
      · skip
        rcases ab_leE h_24 with ⟨e_26, h_27⟩ | h_28
        · skip
          rcases ab_leE h_27 with ⟨e_29, h_30⟩ | h_31
          · skip
            have := Option.some.inj h_30
            exact ⟨0, 19, 3, 1, by rw [e_26, e_29, ← this]; simp [ab_hdl]⟩
          · exact nomatch h_31
        · exact nomatch h_28
      · skip
        rcases ab_brE h_25 with h_32 | h_33
        · skip
          rcases ab_leE h_32 with ⟨e_34, h_35⟩ | h_36
          · skip
            rcases ab_leE h_35 with ⟨e_37, h_38⟩ | h_39
            · skip
              have := Option.some.inj h_38
              exact ⟨0, 11, 2, 1, by rw [e_34, e_37, ← this]; simp [ab_hdl]⟩
            · exact nomatch h_39
          · exact nomatch h_36
        · skip
          rcases ab_leE h_33 with ⟨e_40, h_41⟩ | h_42
          · skip
            rcases ab_brE h_41 with h_43 | h_44
            · skip
              rcases ab_leE h_43 with ⟨e_45, h_46⟩ | h_47
              · skip
                have := Option.some.inj h_46
                exact ⟨0, 12, 3, 1, by rw [e_40, e_45, ← this]; simp [ab_hdl]⟩
              · exact nomatch h_47
            · skip
              rcases ab_leE h_44 with ⟨e_48, h_49⟩ | h_50
              · skip
                have := Option.some.inj h_49
                exact ⟨1, 15, 3, 1, by rw [e_40, e_48, ← this]; simp [ab_hdl]⟩
              · exact nomatch h_50
          · exact nomatch h_42
  · skip
    rcases ab_brE h_2 with h_51 | h_52
    · skip
      rcases ab_brE h_51 with h_53 | h_54
      · skip
        rcases ab_leE h_53 with ⟨e_55, h_56⟩ | h_57
        · skip
          rcases ab_brE h_56 with h_58 | h_59
          · skip
            rcases ab_leE h_58 with ⟨e_60, h_61⟩ | h_62
            · skip
              have := Option.some.inj h_61
              exact ⟨0, 11, 3, 1, by rw [e_55, e_60, ← this]; simp [ab_hdl]⟩
            · exact nomatch h_62
          · skip
            rcases ab_leE h_59 with ⟨e_63, h_64⟩ | h_65
            · skip
              have := Option.some.inj h_64
              exact ⟨1, 14, 3, 1, by rw [e_55, e_63, ← this]; simp [ab_hdl]⟩
            · exact nomatch h_65
        · exact nomatch h_57
      · skip
        rcases ab_leE h_54 with ⟨e_66, h_67⟩ | h_68
        · skip
          rcases ab_brE h_67 with h_69 | h_70
          · skip
            rcases ab_leE h_69 with ⟨e_71, h_72⟩ | h_73
            · skip
              have := Option.some.inj h_72
              exact ⟨0, 12, 3, 1, by rw [e_66, e_71, ← this]; simp [ab_hdl]⟩
            · exact nomatch h_73
          · skip
            rcases ab_leE h_70 with ⟨e_74, h_75⟩ | h_76
            · skip
              have := Option.some.inj h_75
              exact ⟨1, 15, 3, 1, by rw [e_66, e_74, ← this]; simp [ab_hdl]⟩
            · exact nomatch h_76
        · exact nomatch h_68
    · skip
      rcases ab_brE h_52 with h_77 | h_78
      · skip
        rcases ab_leE h_77 with ⟨e_79, h_80⟩ | h_81
        · skip
          rcases ab_brE h_80 with h_82 | h_83
          · skip
            rcases ab_leE h_82 with ⟨e_84, h_85⟩ | h_86
            · skip
              have := Option.some.inj h_85
              exact ⟨0, 12, 3, 1, by rw [e_79, e_84, ← this]; simp [ab_hdl]⟩
            · exact nomatch h_86
          · skip
            rcases ab_brE h_83 with h_87 | h_88
            · skip
              rcases ab_leE h_87 with ⟨e_89, h_90⟩ | h_91
              · skip
                have := Option.some.inj h_90
                exact ⟨1, 15, 3, 1, by rw [e_79, e_89, ← this]; simp [ab_hdl]⟩
              · exact nomatch h_91
            · skip
              rcases ab_leE h_88 with ⟨e_92, h_93⟩ | h_94
              · skip
                have := Option.some.inj h_93
                exact ⟨2, 18, 3, 1, by rw [e_79, e_92, ← this]; simp [ab_hdl]⟩
              · exact nomatch h_94
        · exact nomatch h_81
      · skip
        rcases ab_brE h_78 with h_95 | h_96
        · skip
          rcases ab_leE h_95 with ⟨e_97, h_98⟩ | h_99
          · skip
            rcases ab_brE h_98 with h_100 | h_101
            · skip
              rcases ab_brE h_100 with h_102 | h_103
              · skip
                rcases ab_leE h_102 with ⟨e_104, h_105⟩ | h_106
                · skip
                  have := Option.some.inj h_105
                  exact ⟨3, 28, 3, 1, by rw [e_97, e_104, ← this]; simp [ab_hdl]⟩
                · exact nomatch h_106
              · skip
                rcases ab_leE h_103 with ⟨e_107, h_108⟩ | h_109
                · skip
                  have := Option.some.inj h_108
                  exact ⟨0, 19, 3, 1, by rw [e_97, e_107, ← this]; simp [ab_hdl]⟩
                · exact nomatch h_109
            · skip
              rcases ab_brE h_101 with h_110 | h_111
              · skip
                rcases ab_leE h_110 with ⟨e_112, h_113⟩ | h_114
                · skip
                  have := Option.some.inj h_113
                  exact ⟨1, 22, 3, 1, by rw [e_97, e_112, ← this]; simp [ab_hdl]⟩
                · exact nomatch h_114
              · skip
                rcases ab_leE h_111 with ⟨e_115, h_116⟩ | h_117
                · skip
                  have := Option.some.inj h_116
                  exact ⟨2, 25, 3, 1, by rw [e_97, e_115, ← this]; simp [ab_hdl]⟩
                · exact nomatch h_117
          · exact nomatch h_99
        · skip
          rcases ab_leE h_96 with ⟨e_118, h_119⟩ | h_120
          · skip
            rcases ab_brE h_119 with h_121 | h_122
            · skip
              rcases ab_brE h_121 with h_123 | h_124
              · skip
                rcases ab_leE h_123 with ⟨e_125, h_126⟩ | h_127
                · skip
                  have := Option.some.inj h_126
                  exact ⟨3, 32, 4, 2, by rw [e_118, e_125, ← this]; simp [ab_hdl]⟩
                · exact nomatch h_127
              · skip
                rcases ab_leE h_124 with ⟨e_128, h_129⟩ | h_130
                · skip
                  have := Option.some.inj h_129
                  exact ⟨0, 20, 4, 2, by rw [e_118, e_128, ← this]; simp [ab_hdl]⟩
                · exact nomatch h_130
            · skip
              rcases ab_brE h_122 with h_131 | h_132
              · skip
                rcases ab_leE h_131 with ⟨e_133, h_134⟩ | h_135
                · skip
                  have := Option.some.inj h_134
                  exact ⟨1, 24, 4, 2, by rw [e_118, e_133, ← this]; simp [ab_hdl]⟩
                · exact nomatch h_135
              · skip
                rcases ab_leE h_132 with ⟨e_136, h_137⟩ | h_138
                · skip
                  have := Option.some.inj h_137
                  exact ⟨2, 28, 4, 2, by rw [e_118, e_136, ← this]; simp [ab_hdl]⟩
                · exact nomatch h_138
          · exact nomatch h_120
theorem ab_hdD : ∀ y ∈ ab_hdl, (y.2.2.2.2.2.1 = 1 ∨ y.2.2.2.2.2.1 = 2) ∧ y.2.2.2.2.1 < ab_mxl y.1 ∧ (ab_hx y.1)[y.2.2.1]? = some y.2.1 ∧ (ab_hx y.1).length = (ab_ht y.1).length ∧ ((ab_ht y.1)[y.2.2.1]?).map (fun h => h.2.2.1) = some y.2.2.2.1 ∧ ab_ret y.1 = 1 ∧ (1 ≤ y.2.1 ∧ y.2.1 < 5) ∧
    (∀ i, i < y.2.2.1 → ∀ z ∈ (ab_hx y.1)[i]?, (y.2.1, z) ∈ ab_ncl) := by decide +kernel
theorem ab_hdE : ∀ y ∈ ab_hdl, (match decode (ab_by y.1) y.2.2.2.1 with | .ok (.astore_n i, 1) => Nat.beq y.2.2.2.2.2.1 1 && Nat.beq i.val y.2.2.2.2.1 | .ok (.astore i, 2) => Nat.beq y.2.2.2.2.2.1 2 && Nat.beq i y.2.2.2.2.1 | _ => false) = true ∧
    (match decode (ab_by y.1) (y.2.2.2.1 + y.2.2.2.2.2.1) with | .ok (.iconst n, 1) => decide (Int32.ofInt n = y.2.2.2.2.2.2) | _ => false) = true ∧ decode (ab_by y.1) (y.2.2.2.1 + y.2.2.2.2.2.1 + 1) = .ok (.ireturn, 1) := by decide +kernel
def ab_hlk : List (Nat × Nat × Nat) := [(121, 0, 1), (122, 0, 2), (122, 1, 1), (123, 0, 2), (124, 0, 1), (125, 0, 1), (125, 1, 2), (126, 0, 1), (126, 1, 2), (127, 0, 1), (127, 1, 2), (128, 0, 2), (128, 1, 3), (128, 2, 4), (129, 0, 2), (129, 1, 3), (129, 2, 4), (129, 3, 1), (130, 0, 2), (130, 1, 3), (130, 2, 4), (130, 3, 1)]
def ab_hw (y : Nat × Nat × Nat) : Jvm.Cond := .classLink "ShapedItemsLaw" (((ab_ht y.1)[y.2.1]?).map (fun h => h.2.2.2)).get! (ab_xn y.2.2)
theorem ab_hwW : ∀ y ∈ ab_hlk, ab_hw y ∈ lw_tbl := ab_zipW _ _ [251, 335, 251, 335, 251, 251, 335, 251, 335, 251, 335, 335, 526, 527, 335, 526, 527, 251, 335, 526, 527, 251] (by decide +kernel) (by decide +kernel)
theorem ab_hlC : ∀ k, k < ab_M + 1 → ∀ n, n < (ab_hx k).length → ab_hlk.contains (k, n, ((ab_hx k)[n]?).getD 0) = true ∧ ab_own k = 7 ∧ ¬ (((ab_ht k)[n]?).map (fun h => h.2.2.2)).get! = 0 := by decide +kernel
end
section
-- A method of the law catches.
section ab_catch
variable {p : Program} {l : Launch} {e : Env} {R : Room} {s : State} {m : MethodId} {args : Array Value} {below : List Frame} {meth : Method} {c : Code} {T : State} {locs : List Loc} {cells slots : Nat} {f : JFrame} {a : Addr}
/-- an entry whose class links: taken, or passed; the pool's entry is resolved then -/
theorem ab_go1 {Q : Handler → Pre} {E : CtlPost} {d : Bool} {acts : List Action} {u : State} {x : ExceptionTableEntry} {t : List ExceptionTableEntry} {cT : ClassId} {cell : Cell} (hx : covers x f.pc = true) (h0 : x.catchType ≠ 0)
    (hl : u.vm.ClassLinks e.platform f.method.cls x.catchType cT) (hcell : u.heap[a]? = some cell) (hobj : ∀ z, cell.vm ≠ .statics z) (hk : ∃ k, u.vm.classes[cell.cls]? = some k) (hc : ∃ k, u.vm.classes[cT]? = some k) :
    wp (findHandler.go f a (x :: t)) Q E e d acts u ↔ if u.vm.assignable cell.cls cT = true then Q (.found x.handlerPc) d acts (u.setVm (u.vm.noted f.method.cls x.catchType (.cls cT))) else wp (findHandler.go f a t) Q E e d acts (u.setVm (u.vm.noted f.method.cls x.catchType (.cls cT))) := by
  simp only [covers] at hx
  obtain ⟨ha, ht⟩ := (resolveClass_links e.toSetting hl).op (op := VmOp.resolveClass f.method.cls x.catchType) rfl
  have hal : u.vm.Alike (u.vm.noted f.method.cls x.catchType (.cls cT)) := (Vm.Alike.refl u.vm).noted _ _ _
  obtain ⟨k1, hk1⟩ := hk
  obtain ⟨k2, hk2⟩ := hc
  obtain ⟨k1', hk1', -⟩ := hal.2.2 _ _ hk1
  obtain ⟨k2', hk2', -⟩ := hal.2.2 _ _ hk2
  cases hfit : u.vm.assignable cell.cls cT with
  | true =>
    have hfit' : (u.vm.noted f.method.cls x.catchType (.cls cT)).assignable cell.cls cT = true := by rw [hal.assignable]; exact hfit
    simp [findHandler.go, hx, h0, ha, ht, hcell, hobj, hk1', hk2', hfit', VmOp.dirties, VmOp.acts]
  | false =>
    have hfit' : (u.vm.noted f.method.cls x.catchType (.cls cT)).assignable cell.cls cT = false := by rw [hal.assignable]; exact hfit
    simp [findHandler.go, hx, h0, ha, ht, hcell, hobj, hk1', hk2', hfit', VmOp.dirties, VmOp.acts]
/-- the search: entries that all cover the place, one class each; the n-th is the first that takes the object -/
theorem ab_goN {cell : Cell} (hobj : ∀ z, cell.vm ≠ .statics z) (hk : ∃ k, s.vm.classes[cell.cls]? = some k) : ∀ (es : List ExceptionTableEntry) (n : Nat) (u : State), s.WarmedH u.vm → u.heap[a]? = some cell →
    (∀ (i : Nat) (x : ExceptionTableEntry), i ≤ n → es[i]? = some x → covers x f.pc = true ∧ x.catchType ≠ 0 ∧ ∃ cT, s.vm.ClassLinks e.platform f.method.cls x.catchType cT ∧ s.vm.assignable cell.cls cT = decide (i = n)) → ∀ (x : ExceptionTableEntry), es[n]? = some x →
    ∃ vm', s.WarmedH vm' ∧ ∀ (Q : Handler → Pre) (E : CtlPost) (d : Bool) (acts : List Action), wp (findHandler.go f a es) Q E e d acts u ↔ Q (.found x.handlerPc) d acts (u.setVm vm')
  | [], n, u, _, _, _, x, hx => by simp at hx
  | y :: es, n, u, hW, hcell, hp, x, hx => by
    obtain ⟨h1, h2, cT, h3, h4⟩ := hp 0 y (Nat.zero_le _) rfl
    obtain ⟨dk, _, _, kt, hd, _, _, _, _, hkt, _, hopen⟩ := h3.here
    have hW' : s.WarmedH (u.vm.noted f.method.cls y.catchType (.cls cT)) := hW.noted hd hopen (State.rightAt_cls h3)
    obtain ⟨k0, hk0⟩ := hk
    obtain ⟨k0', hk0', -⟩ := hW.alike.2.2 _ _ hk0
    obtain ⟨kt', hkt', -⟩ := hW.alike.2.2 _ _ hkt
    have hfit : u.vm.assignable cell.cls cT = decide (0 = n) := by rw [hW.alike.assignable]; exact h4
    cases n with
    | zero =>
      cases hx
      refine ⟨_, hW', fun Q E d acts => ?_⟩
      rw [ab_go1 h1 h2 (hW.classLinks h3) hcell hobj ⟨k0', hk0'⟩ ⟨kt', hkt'⟩, if_pos (by rw [hfit]; rfl)]
    | succ n =>
      obtain ⟨vm', hv, hq⟩ := ab_goN hobj ⟨k0, hk0⟩ es n (u.setVm (u.vm.noted f.method.cls y.catchType (.cls cT))) hW' hcell (fun i z hi hz => by
        obtain ⟨g1, g2, cZ, g3, g4⟩ := hp (i + 1) z (by omega) hz
        exact ⟨g1, g2, cZ, g3, by rw [g4]; simp⟩) x hx
      refine ⟨vm', hv, fun Q E d acts => ?_⟩
      rw [ab_go1 h1 h2 (hW.classLinks h3) hcell hobj ⟨k0', hk0'⟩ ⟨kt', hkt'⟩, if_neg (by rw [hfit]; simp)]
      exact hq Q E d acts
/-- from the note that an exception is thrown to the handler, the tables warmer -/
theorem ab_caught (X : Stand p l e R s m args below meth c T locs cells slots) {g : JFrame} (hg : g.method = m) {pc : Nat} {vm' : Vm}
    (hfind : ∀ (Q : Handler → Pre) (E : CtlPost) (d : Bool) (acts : List Action), wp (findHandler g a) Q E e d acts ((T.setTop g).pushFrame (.throwing a)) ↔ Q (.found pc) d acts (((T.setTop g).pushFrame (.throwing a)).setVm vm')) {target : State}
    (hrest : Steps p.tables e below ((T.setVm vm').setTop { g with pc := pc, stack := [.ref a] }) target) : Steps p.tables e below ((T.setTop g).pushFrame (.throwing a)) target := by
  have h : At T g.method c below := by rw [hg]; exact X.here
  obtain ⟨hgo, hw⟩ := h.throwing a
  refine Steps.head hgo hw ?_
  have hst : (stepThrowing e ((T.setTop g).pushFrame (.throwing a)) a (.java g :: T.frames.tail)).Is ((((T.setTop g).pushFrame (.throwing a)).setVm vm').setFrames (.java { g with pc := pc, stack := [.ref a] } :: T.frames.tail)) [] := by
    simp only [stepThrowing, searchFrame, vmDo]
    generalize hr : Sem.go _ e false [] ((T.setTop g).pushFrame (.throwing a)) = res
    obtain ⟨as, rfl, ha⟩ := Sem.eq_ok_of hr (a := Handler.found pc) (s' := ((T.setTop g).pushFrame (.throwing a)).setVm vm') (acts' := []) (by simp [hfind _ _ _ _])
    exact ⟨rfl, ha⟩
  rw [stepThread_throwing (frames_entered h.top _), hst.1]
  obtain ⟨g₀, hg0⟩ := Option.isSome_iff_exists.mp h.top
  obtain ⟨r, hr⟩ := State.topJava?_eq_some.mp hg0
  have hr' : (T.setVm vm').frames = .java g₀ :: r := hr
  rw [State.setTop_of_frames _ hr'] at hrest
  have hz : (((T.setTop g).pushFrame (.throwing a)).setVm vm').setFrames (.java { g with pc := pc, stack := [.ref a] } :: T.frames.tail) = (T.setVm vm').setFrames (.java { g with pc := pc, stack := [.ref a] } :: r) := by
    rw [State.pushFrame, State.setTop_of_frames _ hr, hr]
    show ((((T.setFrames _).setVm vm').setFrames _).setFrames _) = _
    rw [State.setFrames_setFrames]
    show (((T.setVm vm').setFrames _).setFrames _) = _
    rw [State.setFrames_setFrames]
    rfl
  rw [hz]
  exact hrest
theorem ab_hdK : ∀ y ∈ ab_hdl, y.1 < ab_M + 1 := by decide +kernel
theorem ab_HCof {D : va_G} {q sa wa B : Nat} {Hb : Heap} : ab_HC l D q sa wa B Hb := by
  intro p e R s m args below meth c n0 z0 k pc x v i f S L ls locs T a stk hF hE hch hi1 hv hL hl hX X hexc
  obtain ⟨n, hp, ai, sz, hy⟩ := ab_hndE hv
  obtain ⟨hsz, hai, hxn, hlen, hpc, hret, ⟨hx1, hx5⟩, hnc⟩ := ab_hdD _ hy
  obtain ⟨d1, d2, d3⟩ := ab_hdE _ hy
  have hk := ab_hdK _ hy
  simp only at hsz hai hxn hlen hpc hret hx1 hx5 hnc d1 d2 d3 hk
  obtain ⟨len, hd0, hdl, -, hrv⟩ := ab_chkE hch
  have hcov : ab_cov k pc = true := by cases i <;> first | exact (ab_ctE hrv).2 | exact nomatch hi1
  obtain ⟨cell, hc1, hc2, hc3⟩ := hexc
  have hcls : s.vm.findClass (ab_xn x) = some cell.cls := by rw [← X.warmed.alike.findClass]; exact hc2
  have hAt : ClassAt s (ab_xn x) cell.cls := by
    obtain ⟨cC, h⟩ := classAt_of (hE.word (ab_xaW hx1 (by omega) (.instantiable (ab_xn x) 6) (by simp [ab_xa])) args)
    cases h.1.symm.trans hcls
    exact h
  have hpl : e.platform.magicAccessors = ({} : Platform).magicAccessors := by rw [X.admits.platform]
  have htab := hF.2.2.2.2.2.2.2
  have hlen2 : c.exceptionTable.toList.length = (ab_hx k).length := by rw [hlen, ← htab, List.length_map]
  have hnl : n < (ab_hx k).length := (List.getElem?_eq_some_iff.mp hxn).1
  obtain ⟨en, hen⟩ : ∃ en, c.exceptionTable.toList[n]? = some en := ⟨_, List.getElem?_eq_getElem (by omega)⟩
  have hat : ∀ (j : Nat) (y : ExceptionTableEntry), c.exceptionTable.toList[j]? = some y → (ab_ht k)[j]? = some (y.startPc, y.endPc, y.handlerPc, y.catchType) := fun j y hj => by
    rw [← htab, List.getElem?_map, hj]
    rfl
  have hph : en.handlerPc = hp := by
    rw [hat n en hen] at hpc
    exact Option.some.inj hpc
  have hown : s.vm.findClass "ShapedItemsLaw" = some m.cls := by
    have h7 := (ab_hlC k hk n hnl).2.1
    have := hF.2.2.2.2.2.2.1
    rw [h7] at this
    exact this
  have hall : ∀ (j : Nat) (y : ExceptionTableEntry), j ≤ n → c.exceptionTable.toList[j]? = some y → covers y (F0 m pc ls stk).pc = true ∧ y.catchType ≠ 0 ∧ ∃ cT, s.vm.ClassLinks e.platform (F0 m pc ls stk).method.cls y.catchType cT ∧ s.vm.assignable cell.cls cT = decide (j = n) := by
    intro j y hj hjy
    have hjt := hat j y hjy
    have hjl : j < (ab_hx k).length := by omega
    obtain ⟨q1, q2, q3⟩ := ab_hlC k hk j hjl
    have hcx : ∃ cx, (ab_hx k)[j]? = some cx := ⟨_, List.getElem?_eq_getElem hjl⟩
    obtain ⟨cx, hcx⟩ := hcx
    rw [hcx] at q1
    rw [hjt] at q3
    have hw := ab_hwW (k, j, cx) (by simpa using q1)
    unfold ab_hw at hw
    simp only [hjt] at hw
    have hw' : Jvm.Cond.classLink "ShapedItemsLaw" y.catchType (ab_xn cx) ∈ lw_tbl := hw
    obtain ⟨cT, hcT, hcl⟩ := Cond.classLink_spec hown (hE.word hw' args) e.platform hpl
    refine ⟨?_, q3, cT, hcl, ?_⟩
    · have := List.all_eq_true.mp hcov _ (List.mem_of_getElem? hjt)
      simp only [Bool.and_eq_true] at this
      have h1 := Nat.le_of_ble_eq_true this.1
      have h2 := ab_blt this.2
      simp only [covers, Bool.and_eq_true, decide_eq_true_eq]
      exact ⟨h1, h2⟩
    · by_cases hjn : j = n
      · subst hjn
        cases hxn.symm.trans hcx
        cases hcT.symm.trans hcls
        rw [va_assign hAt]
        simp
      · have := hnc j (by omega) cx (by rw [hcx]; rfl)
        obtain ⟨c1, t1, g1, g2, g3⟩ := hE.2.2.2.2.2 x cx this
        cases g1.symm.trans hcls
        cases g2.symm.trans hcT
        rw [g3]
        simp [hjn]
  have hvm0 : ((T.setTop (F0 m pc ls stk)).pushFrame (.throwing a)).vm = T.vm := Stand.throwing_vm T _ a
  have hh0 : ((T.setTop (F0 m pc ls stk)).pushFrame (.throwing a)).heap = T.heap := Stand.throwing_heap T _ a
  obtain ⟨kx, hkx, -⟩ := hAt.2
  obtain ⟨vm', hW', hq⟩ := ab_goN (e := e) (s := s) (f := F0 m pc ls stk) (a := a) hc3 ⟨kx, hkx⟩ c.exceptionTable.toList n ((T.setTop (F0 m pc ls stk)).pushFrame (.throwing a)) (by rw [hvm0]; exact X.warmed) (by rw [hh0]; exact hc1) hall en hen
  rw [hph] at hq
  have X' := X.noted hW'
  have hend : ∀ ls' : Array Slot, W p l e R s m args below meth c T.heap locs (S.2.2.2.2.1 - n0) (S.2.2.2.2.2 - z0) (ab_Q s below D q sa wa B n0 z0 k Hb (0, v, 0, 0) S) (F0 m (hp + sz) ls' []) := by
    intro ls'
    split at d2
    · rename_i nn hdd
      have hnn := of_decide_eq_true d2
      refine lv_iconst hF.1 hF.2.1 hdd hnn ?_
      exact ab_ofMQ hX rfl (by unfold ab_ov; rw [hret]; rfl) (ab_zret hF.1 hF.2.1 (by rw [hF.2.2.2.1]; exact ab_ret1C k hk hret) rfl (fun t h _ => ⟨rfl, h⟩) hX.2.2.2.1 d3 hF.2.2.2.2.1)
    · cases d2
  have hgo : W p l e R s m args below meth c T.heap locs (S.2.2.2.2.1 - n0) (S.2.2.2.2.2 - z0) (ab_Q s below D q sa wa B n0 z0 k Hb (0, v, 0, 0) S) (F0 m hp ls [.ref a]) := by
    split at d1
    · rename_i ii hdd
      simp only [Bool.and_eq_true] at d1
      have e1 := Nat.eq_of_beq_eq_true d1.1
      have e2 := Nat.eq_of_beq_eq_true d1.2
      subst e1
      exact lv_astore_n hF.1 hF.2.1 hdd e2 (hL.has hl) hai rfl fun ls' _ => hend ls'
    · rename_i ii hdd
      simp only [Bool.and_eq_true] at d1
      have e1 := Nat.eq_of_beq_eq_true d1.1
      have e2 := Nat.eq_of_beq_eq_true d1.2
      subst e1 e2
      exact lv_astore hF.1 hF.2.1 hdd (hL.has hl) hai rfl fun ls' _ => hend ls'
    · cases d1
  obtain ⟨t, s1, s2⟩ := hgo (T.setVm vm') rfl X'
  exact ⟨t, ab_caught X rfl (pc := hp) (vm' := vm') (fun Q E d acts => by rw [W.findHandler_eq (meth := meth) (code := c) (by rw [hvm0]; exact X.method') X.code]; exact hq Q E d acts) s1, s2⟩
end ab_catch
end
section
-- The abstract machine is sound.
section ab_snd
variable {l : Launch} {D : va_G} {q sa wa B : Nat} {Hb : Heap}
theorem ab_sound (hHT : ab_HT l D q sa wa B Hb) (hHC : ab_HC l D q sa wa B Hb) (hA : sa < B ∧ wa < B ∧ sa ≠ wa) : ∀ n, ab_Snd l D q sa wa B Hb n
  | 0 => fun _ _ _ _ _ _ _ _ h => nomatch (show (none : ab_R) = some _ from h)
  | n + 1 => by
    intro d k pc L st S o S' h p e R s m args below meth c n0 z0 hF hE hfr hlo hce hsl
    unfold ab_run at h
    split at h
    · cases h
    · rename_i x hx
      have ih := ab_sound hHT hHC hA n
      refine ab_exW (r := (o, S')) hHT hHC hF hE hA ih (ab_ins_ok hx).2 (ab_ins_ok hx).1 h hfr hlo hce hsl (fun pc' L' st' S1 h' => ab_mono q n _ _ _ _ _ _ _ h') (fun pc' L' st' S1 h' => ?_)
      intro H locs ls hL hl hX
      exact ih d k pc' _ st' S1 o S' h' p e R s m args below meth c n0 z0 hF hE hfr hlo hce hsl H locs ls (hL.zip _) ((ab_zip_len _ _).trans hl) hX
end ab_snd
end
section
-- The claim out of one run of the abstract machine.
def ab_wo (j : Nat) : Int64 := ([6148914691236517205, 3689348814741910323, 1085102592571150095, 71777214294589695, 281470681808895, 4294967295] : List Int64).getD j 0
def ab_S0 (xs : Nat → Int32) : ab_S := (fun r j => if r = 1 then xs j else 0, fun r j => if r = 2 then ab_wo j else 0, fun _ _ => 0, 3, 0, 0)
/-- what is to be shown of the abstract machine: on every script the law's run ends, and answers 1 -/
def ab_Law : Prop := ∀ (q : Nat) (xs : Nat → Int32), q ≤ 2048 → ∃ (n : Nat) (S' : ab_S), ab_run q n 600 133 0 (ab_ent 133 [.inr (.inr 1)]) [] (ab_S0 xs) = some ((0, 1, 0, 0), S') ∧ S'.2.2.2.2.1 ≤ 601024 ∧ S'.2.2.2.2.2 ≤ 7293034
/-- words that stay true where the tables grow warmer and the old cells stay -/
def ab_gw (w : Jvm.Cond) : Bool := goodWord w || (w.onTables && w.keepsFace) || match w with
  | .methodLinkNest _ _ _ _ => true
  | .stringRef _ _ _ => true
  | .laysStatic _ _ _ => true
  | .arrayOver (.object _) => true
  | _ => false
theorem ab_good : lw_tbl.all ab_gw = true := by decide +kernel
theorem ab_warm {w : Jvm.Cond} (hg : ab_gw w = true) {args a' : Array Value} {s U : State} (hW : s.WarmedH U.vm) (hh : ∀ a, a < s.heap.size → U.heap[a]? = s.heap[a]?) (h : w.before args s = true) : w.before a' U = true := by
  simp only [ab_gw, Bool.or_eq_true] at hg
  rcases hg with (hg | hg) | hg
  · exact word_at hW (good_of_word hg) h
  · obtain ⟨h1, h2⟩ := ab_ctE hg
    have h3 := Cond.before_shiftedFace (State.Shifted.of_warmed hW) w h2 h
    have h4 := (Cond.onTables_vm (A := a') (A' := args) (U := U) (U' := s) U.vm w h1).trans h3
    rwa [State.setVm_self] at h4
  · split at hg
    · exact va_Nw.use rfl (va_Nw.warmM hW (va_Nw.of rfl h))
    · rename_i own k tx
      have hcur : ∃ cur, s.vm.findClass own = some cur := by
        have h1 := h
        simp only [Cond.before, Cond.holds, Cond.value] at h1
        cases hc : s.vm.findClass own with
        | none => simp [hc] at h1
        | some cur => exact ⟨cur, rfl⟩
      obtain ⟨cur, hcur⟩ := hcur
      obtain ⟨ks, cfs, is, adr, -, -, -, -, -, hev⟩ := Cond.stringRef_spec hcur h
      exact (vk_R.warm hW (vk_R.of h hev)).1
    · rename_i owner name desc
      obtain ⟨c, k, i, f, a, cell, hc, hi, hst, ha, hcell, hs, hcls, hlt, hty⟩ := Cond.laysStatic_spec h
      obtain ⟨k', hi', hek⟩ := State.fieldFound?_setVm hW.alike hi
      exact Cond.laysStatic_of (s := U) (c := c) (k := k') (i := i) (f := f) (a := a) (cell := cell) (by rw [hW.alike.findClass]; exact hc) hi' hst (by rw [hek]; exact ha) (by rw [hh a (Array.getElem?_eq_some_iff.mp hcell).1]; exact hcell) hs hcls hlt (by rw [hek]; exact hty)
    · exact va_AO.use (va_AO.moved hW.alike (va_AO.of h))
    · cases hg
theorem ab_insC : ∀ c, c < 7 → ∃ x ∈ ab_cl0, x.2.2.2.1 = c := by decide +kernel
def R_law : String := "ShapedItemsLaw"
def lw_P (b : Addr) (xs : List Int32) (args : Array Value) (s : State) : Prop := args = #[.ref b] ∧ s.IntsAt b xs ∧ xs.length ≤ 2048 ∧ (Jvm.Cond.and given_1 narrow_1).before args s = true
def lw_Q (_ : Array Value) (s : State) (o : Outcome) (t : State) : Prop := o = .returned (some (.int 1)) ∧ Framed s o t [] 601024 7293034
def lw_Z (below : List Frame) (a : Array Value) (s : State) : State → Prop := fun t => ∃ o, t.status = .running ∧ Ended t below o ∧ lw_Q a s o t
def lw_At (p : Program) (s : State) (m : MethodId) (meth : Method) (c : Code) (b L : Nat) (xs : Nat → Int32) : Prop :=
  p.tables.exec = Jvm.exec ∧ c.code = code ∧ meth.sig.returnType = ret ∧ c.maxLocals = 8 ∧ s.vm.findClass R_law = some m.cls ∧ (∀ w ∈ lw_tbl, w.before #[Value.ref b] s = true) ∧ va_X b L xs s s.heap ∧ b < s.heap.size ∧ meth.locks = false ∧ (Jvm.Cond.and given_1 narrow_1).before #[Value.ref b] s = true ∧ meth.name = "law" ∧ c.exceptionTable.isEmpty = true
theorem ab_ncN : ab_ncl.all (fun y => decide (Jvm.Cond.not (.castable (ab_xn y.1) (ab_xn y.2)) ∈ flatC (Jvm.Cond.and given_1 narrow_1))) = true := by decide +kernel
theorem ab_woF : ∀ j, j < 6 → Jvm.Cond.eq (.elem (.static "ShapedItems$Matcher" "WITHOUT" "[J") (.int (Int32.ofNat j))) (.long (ab_wo j)) ∈ flatC (Jvm.Cond.and given_1 narrow_1) := by decide +kernel
set_option maxHeartbeats 1000000 in
theorem whole_start (hLaw : ab_Law) {p : Program} {e : Env} {s : State} {m : MethodId} {below : List Frame} {meth : Method} {c : Code} (l : Launch) (hfl : l.flags = flags0) {b L : Nat} {xs : Nat → Int32} (hL : L ≤ 2048) (C0 : lw_At p s m meth c b L xs) : W p l e room_1 s m #[Value.ref b] below meth c s.heap [] 0 0 (lw_Z below #[Value.ref b] s) (entryFrame m ([Value.ref b] : List Value).toArray 8) := by
  obtain ⟨hexec, hcode, hret, hml, hown, hts, hscr, hbl, hlocks, hgv, hnm, hex⟩ := C0
  have hflat := flat_of_before _ hgv
  have hA0 : ∀ a : Nat, a < s.heap.size → ¬ s.heap.size ≤ a := fun a h => by omega
  -- the static array
  have hw1 : Jvm.Cond.laysStatic "ShapedItems$Matcher" "WITHOUT" "[J" ∈ lw_tbl := List.mem_append_right _ (List.mem_of_getElem? (i := 662) (by decide +kernel))
  have hw2 : Jvm.Cond.initialized "ShapedItems$Matcher" ∈ lw_tbl := by
    obtain ⟨x, hx, h5⟩ := ab_insC 5 (by decide)
    have := ab_w3W x hx
    unfold ab_w3 at this
    rw [h5] at this
    exact this
  obtain ⟨wa, hwa, hwT⟩ := va_Tof (args := #[Value.ref b]) (s := s) (tm := .static "ShapedItems$Matcher" "WITHOUT" "[J") (ty := .long) (N := 6) (f := fun j => .long (ab_wo j)) (A := fun a => s.heap.size ≤ a) (by decide) (hflat _ (by decide +kernel)) (va_eqt (z := 6) (hflat _ (by decide +kernel))) (fun j hj => va_eqtl (hflat _ (ab_woF j hj))) hA0
  have hZ := va_Zref (A := fun a => s.heap.size ≤ a) (hts _ hw1) (hts _ hw2) hwa hA0
  have hT1 := va_Zqof (args := #[Value.ref b]) (s := s) (C := "java/lang/Throwable") (n := "UNASSIGNED_STACK") (d := "[Ljava/lang/StackTraceElement;") (A := fun a => s.heap.size ≤ a) (hts _ (ab_taW _ (by decide +kernel))) (hts _ (ab_taW _ (by decide +kernel))) (hflat _ (by decide +kernel)) hA0
  have hT2 := va_Zqof (args := #[Value.ref b]) (s := s) (C := "java/lang/Throwable") (n := "SUPPRESSED_SENTINEL") (d := "Ljava/util/List;") (A := fun a => s.heap.size ≤ a) (hts _ (ab_taW _ (by decide +kernel))) (hts _ (ab_taW _ (by decide +kernel))) (hflat _ (by decide +kernel)) hA0
  -- the classes
  have hD : ∀ c : Nat, ∃ (cC : ClassId) (iS : Nat → Nat), c < 7 → u_Kn s (ab_cn c) (ab_ft c) (ab_nf c) cC iS := by
    intro c
    by_cases hc : c < 7
    · obtain ⟨x, hx, hxc⟩ := ab_insC c hc
      have hi := ab_w2W x hx
      unfold ab_w2 at hi
      rw [hxc] at hi
      obtain ⟨cC, iS, h⟩ := u_known hts (ab_uws hc) (hts _ hi)
      exact ⟨cC, iS, fun _ => h⟩
    · exact ⟨0, fun _ => 0, fun h => absurd h hc⟩
  obtain ⟨D1, hD1⟩ := Classical.axiomOfChoice hD
  obtain ⟨D2, hD2⟩ := Classical.axiomOfChoice hD1
  have hK : va_K (D1, D2) ab_cl [] s := by
    refine ⟨fun c q hq => ?_, fun k q hk => by cases hk⟩
    have hc : c < 7 := by
      have := (List.getElem?_eq_some_iff.mp hq).1
      simpa [ab_cl] using this
    rw [ab_cl_at hc] at hq
    cases hq
    exact hD2 c hc
  have hE : ab_E (D1, D2) wa s.heap.size s.heap s := by
    refine ⟨⟨fun _ _ => rfl, fun w hw a' U hU hh => ab_warm (List.all_eq_true.mp ab_good w hw) hU hh (hts w hw)⟩, hK, hZ, hT1, hT2, fun x y hxy => ?_⟩
    exact va_Nc.of (hflat _ (by simpa using List.all_eq_true.mp ab_ncN (x, y) hxy))
  obtain ⟨cw, w1, w2, w3, w4, w5, w6, w7⟩ := hwT
  obtain ⟨scr, r1, r2, r3, r4, r5⟩ := hscr
  have hwl : wa < s.heap.size := (Array.getElem?_eq_some_iff.mp w1).1
  have hne : b ≠ wa := by
    rintro rfl
    cases r1.symm.trans w1
    obtain ⟨-, k1, q1, c1, q2⟩ := r2
    obtain ⟨-, k2, q3, c2, q4⟩ := w2
    cases q1.symm.trans q3
    rw [q2] at q4
    cases q4
  have hF : ab_F 133 p s m meth c := by
    refine ⟨hexec, hcode, hml, hret, hlocks, hnm, hown, ?_⟩
    have : c.exceptionTable = #[] := by simpa using hex
    rw [this]
    rfl
  obtain ⟨n, S', hrun, hc, hsl⟩ := hLaw L xs hL
  have hst : ∀ e, l.admits e → e.platform.stackTraces = false := fun e he => by
    have h1 : e.platform.stackTraces = l.stackTraces := by rw [he.platform]
    rw [h1, Launch.stackTraces, hfl]
    decide +kernel
  have hA : b < s.heap.size ∧ wa < s.heap.size ∧ b ≠ wa := ⟨hbl, hwl, hne⟩
  have hG := ab_sound (l := l) (D := (D1, D2)) (q := L) (sa := b) (wa := wa) (B := s.heap.size) (Hb := s.heap) (ab_HTof hst hA) ab_HCof hA n 600 133 0 _ [] _ _ _ hrun p e room_1 s m #[Value.ref b] below meth c 0 0 hF hE (by decide) (by decide) (by show S'.2.2.2.2.1 - 0 ≤ 601024; omega) (by show S'.2.2.2.2.2 - 0 ≤ 7293034; omega)
  have hent := ab_ent_LR (ad := ab_ad b wa s.heap.size) (vs := [.inr (.inr 1)]) (j := 133) (by decide)
  have hX : ab_X (D1, D2) L b wa s.heap.size 0 0 133 s.heap s (ab_S0 xs) s.heap [] := by
    refine ⟨⟨fun r h0 h3 => ?_, Nat.le_refl _, (by decide : 3 ≤ 148), by show s.heap.size + (3 - 3) ≤ _; omega, fun _ => by show _ = s.heap.size + (3 - 3); omega, fun r k hr => ?_⟩, fun h => (by cases h), fun _ _ => rfl, fun x hx => (by cases hx), Nat.le_refl _, Nat.le_refl _⟩
    · have h3 : r < 3 := h3
      match r, h0, h3 with
      | 1, _, _ =>
        refine ⟨fun h => absurd h (by decide), fun _ => ⟨scr, r1, r2, r3, ⟨?_, ?_⟩, fun j hj => ?_, fun h => absurd h (by decide)⟩⟩
        · show L ≤ _; omega
        · rw [r4]; rfl
        · exact r5 j hj
      | 2, _, _ =>
        refine ⟨fun h => absurd h (by decide), fun _ => ⟨cw, w1, w2, w3, ⟨w4, w5⟩, fun j hj => ?_, fun h => absurd h (by decide)⟩⟩
        exact w6 j hj
    · have hr : 3 ≤ r := hr
      refine ⟨?_, ?_, rfl⟩
      · show (if r = 1 then xs k else 0) = 0
        rw [if_neg (by omega)]
      · show (if r = 2 then ab_wo k else 0) = 0
        rw [if_neg (by omega)]
  have hW := hG s.heap [] _ hent.1 hent.2 hX
  have he : entryFrame m ([Value.ref b] : List Value).toArray 8 = F0 m 0 ((lg_sl (([.inr (.inr 1)] : List ab_V).map (ab_cv (ab_ad b wa s.heap.size))) ++ List.replicate (ab_mxl 133 - (lg_sl (([.inr (.inr 1)] : List ab_V).map (ab_cv (ab_ad b wa s.heap.size)))).length) Slot.unset).toArray) (([] : List ab_V).map (ab_cv (ab_ad b wa s.heap.size))) := lg_entry_eq m [Value.ref b] 8
  rw [he]
  intro T hT X
  obtain ⟨t, s1, out, b1, b2, b3, b4, ⟨L', b5, b6⟩, -⟩ := hW T hT X
  refine ⟨t, s1, out, b1, b2, ?_⟩
  rcases b3 with ⟨-, ho⟩ | ⟨h, -⟩
  · refine ⟨ho, ⟨_, ho⟩, b4, b5.weaken (fun x hx hlt => absurd (b6 x hx) (Nat.not_le.mpr hlt)) (by omega) (by omega)⟩
  · exact absurd rfl h
set_option maxHeartbeats 4000000 in
theorem lw_walk (hLaw : ab_Law) (l : Launch) (hfl : l.flags = flags0) (b : Addr) (xs : List Int32) : MetFree l x (headSpec (Jvm.Cond.code x code maxLocals ret :: tables_1) room_1) (lw_P b xs) (fun _ _ _ _ _ => True) lw_Q := by
  refine MetFree.of_bodyS (code := code) (maxLocals := maxLocals) (ret := ret) (by decide) ?_ ?_
  · intro args s m h hn
    obtain ⟨meth, c, h1, h2, h3, h4, h5, h6, -, -⟩ := Cond.code_spec hn (atoms_spec (ws := Jvm.Cond.code x code maxLocals ret :: tables_1) h _ List.mem_cons_self)
    exact ⟨meth, c, h1, h2, h3, h4, h5, h6⟩
  · intro p e s m args below meth c s₁ B hml0 hP _
    obtain ⟨rfl, hx, hbd, hgv⟩ := hP
    obtain ⟨scr, harrAt, hlist, hof, hsmall⟩ := hx
    obtain ⟨hcb, hkn, -, -⟩ := State.arrayAt?_spec harrAt
    have hown : s.vm.findClass R_law = some m.cls := findClass_of_methodNamed B.named
    have hts0 : ∀ c ∈ (Jvm.Cond.code x code maxLocals ret :: tables_1), c.before #[Value.ref b] s = true := atoms_spec (ws := Jvm.Cond.code x code maxLocals ret :: tables_1) B.pre
    have hts : ∀ w ∈ lw_tbl, w.before #[Value.ref b] s = true := k2_hts_sels lw_privs (fun w hw => hts0 w (List.mem_cons_of_mem _ hw)) lw_privs_ok
    have hml : c.maxLocals = 8 := B.maxLocals_eq (hts0 _ List.mem_cons_self)
    have X₀ : Stand p l e room_1 s m #[Value.ref b] below meth c s₁ [] 0 0 := Stand.of_body B
    have hh0 : s₁.heap = s.heap := by rw [B.state]; rfl
    have hsz : scr.slots.size = xs.length := by rw [← Array.length_toList, hlist, List.length_map]
    have hval : ∀ j : Nat, j < xs.length → scr.slots[j]? = some (.int (xs.getD j 0)) := fun j hj => by
      rw [← Array.getElem?_toList, hlist]
      simp [hj]
    have hbl : b < s.heap.size := (Array.getElem?_eq_some_iff.mp hcb).1
    have hX : va_X b xs.length (fun j => xs.getD j 0) s s.heap := ⟨scr, hcb, hof, hkn, hsz, hval⟩
    have hnm : meth.name = "law" := (name_of_methodNamed B.named B.method).1
    have hex := B.noHandlers (hts0 _ List.mem_cons_self)
    have K : W p l e room_1 s m #[Value.ref b] below meth c s₁.heap [] 0 0 (lw_Z below #[Value.ref b] s) (entryFrame m ([Value.ref b] : List Value).toArray 8) := by
      rw [hh0]
      exact whole_start hLaw l hfl hbd ⟨B.exec, B.bytes, B.returns, hml, hown, hts, hX, hbl, B.notSynchronized, hgv, hnm, hex⟩
    obtain ⟨t, a1, o, b1, b2, b3⟩ := K s₁ rfl X₀
    exact ⟨t, o, a1, b1, b2, b3⟩
theorem lw_pre_spec {args : Array Value} {s : State} (h : (Jvm.Cond.and given_1 narrow_1).before args s = true) (hr : rest_1_c.before args s = true) : ∃ (b : Addr) (xs : List Int32), lw_P b xs args s := by
  have hs := flat_of_before _ h
  have hq := flat_of_before _ hr
  have hc : (Cond.count 1).before args s = true := hs _ (by decide +kernel)
  have harr : (Cond.arrayOf (.arg 0) .int).before args s = true := hs _ (by decide +kernel)
  have hle : (Cond.le (.length (.arg 0)) (.int 2048)).before args s = true := hs _ (by decide +kernel)
  have hlen : (Cond.isInt (.length (.arg 0))).before args s = true := hq _ (by decide +kernel)
  have hall : (Cond.all (.arg 0) (.isInt (.elem (.arg 0) (.index 0)))).before args s = true := hq _ (by decide +kernel)
  obtain ⟨b, xs, hb, hx⟩ := State.ints_of_pre rfl harr hlen hall
  have hsm : xs.length < 2 ^ 31 := hx.choose_spec.2.2.2
  have hev : (Term.length (.arg 0)).eval args s none [] s = some (.int xs.length.toInt32) := hx.length_eval hb
  have hv := Cond.le_ints hev (show (Term.int 2048).eval args s none [] s = some (.int 2048) from rfl)
  have hd : xs.length.toInt32 ≤ 2048 := by
    simpa [Cond.before, Cond.holds, hv] using hle
  have hN : xs.length ≤ 2048 := (Int32.ofNat_le_ofNat hsm (by decide)).mp (show Int32.ofNat xs.length ≤ Int32.ofNat 2048 from hd)
  exact ⟨b, xs, Cond.one_arg hc (show args[0]? = some (.ref b) from hb), hx, hN, h⟩
theorem lw_comes (hLaw : ab_Law) (l : Launch) (hfl : l.flags = flags0) : Comes l x (Jvm.Cond.code x code maxLocals ret :: tables_1) room_1 (fun tb e args s => Calls_1 tb e args s ∧ rest_1 tb e args s ∧ Pre_1 tb e args s)
    (fun _ _ args s o t => lw_Q args s o t) := by
  intro p e ha hc hk s m args below hf hfit hheap happ hpre
  obtain ⟨b, xs, hP⟩ := lw_pre_spec hpre.2.2 hpre.2.1
  obtain ⟨k, o, h1, h2, h3, hQ⟩ := lw_walk hLaw l hfl b xs p e ha hc hk s m args below hf ((Spec.applies_iff_loose hf).mp happ).1 hP trivial
  exact ⟨k, o, h1, h2, h3, hQ⟩
theorem lw_frame {s t : State} {o : Outcome} {args : Array Value} (h : Framed s o t [] 601024 7293034) :
    Framed s o t (fieldLocs frame_1_writes args s ++ arrayLocs frame_1_arrays args s ++ staticLocs frame_1_statics s) 601024 7293034 := h
theorem lw_limb (hLaw : ab_Law) (L : Cond) (hL : ∀ (args : Array Value) (s t : State), L.after args s (.returned (some (.int 1))) t = true) :
    ArmFor flags0 classFile x code maxLocals ret World_1 tables_1 room_1 Calls_1 rest_1 Pre_1
      (fun tb e a s o t => postC L tb e a s o t ∧ Framed s o t (fieldLocs frame_1_writes a s ++ arrayLocs frame_1_arrays a s ++ staticLocs frame_1_statics s) 601024 7293034) := by
  intro l hfl _ _ p e ha hc hk s m args below hf hfit hheap happ hpre
  obtain ⟨k, o, h1, h2, h3, rfl, hF⟩ := lw_comes hLaw l hfl p e ha hc hk s m args below hf hfit hheap happ hpre
  exact ⟨k, _, h1, h2, h3, hL args s _, lw_frame hF⟩
theorem ab_vc (hLaw : ab_Law) : Claimed_1_1 ∧ Claimed_1_2 := ⟨lw_limb hLaw limb_1_1 (fun args s t => by simp [limb_1_1, Cond.after, Cond.holds, Cond.value]), lw_limb hLaw limb_1_2 (fun args s t => Cond.after_iff.mpr (by
  first | (rw [show limb_1_2 = Cond.eq .result (.int 1) from rfl, Cond.eq_ints (x := 1) (y := 1) rfl rfl]; simp; done) | (simp [limb_1_2, Cond.value, Term.eval]; done)))⟩
end
section
-- More steps and deeper calls change nothing.
theorem ab_gM {α : Type} {b : Bool} {x y : Option α} {v : α} (hxy : x = some v → y = some v) (h : ab_g b x = some v) : ab_g b y = some v := by
  cases b with
  | false => exact h
  | true => exact hxy h
theorem ab_piM {α : Type} {st : List ab_V} {f g : Int32 → List ab_V → Option α} {v : α} (hfg : ∀ a r, f a r = some v → g a r = some v) (h : ab_pi st f = some v) : ab_pi st g = some v := by
  obtain ⟨x, r, rfl, h⟩ := ab_piE h
  exact hfg _ _ h
theorem ab_plM {α : Type} {st : List ab_V} {f g : Int64 → List ab_V → Option α} {v : α} (hfg : ∀ a r, f a r = some v → g a r = some v) (h : ab_pl st f = some v) : ab_pl st g = some v := by
  obtain ⟨x, r, rfl, h⟩ := ab_plE h
  exact hfg _ _ h
theorem ab_prM {α : Type} {st : List ab_V} {f g : Nat → List ab_V → Option α} {v : α} (hfg : ∀ a r, f a r = some v → g a r = some v) (h : ab_pr st f = some v) : ab_pr st g = some v := by
  obtain ⟨x, r, rfl, h⟩ := ab_prE h
  exact hfg _ _ h
theorem ab_liM {α : Type} {L : ab_L} {i : Nat} {f g : Int32 → Option α} {v : α} (hfg : ∀ a, f a = some v → g a = some v) (h : ab_li L i f = some v) : ab_li L i g = some v := by
  obtain ⟨x, hx, h⟩ := ab_liE h
  unfold ab_li
  rw [hx]
  exact hfg _ h
theorem ab_llM {α : Type} {L : ab_L} {i : Nat} {f g : Int64 → Option α} {v : α} (hfg : ∀ a, f a = some v → g a = some v) (h : ab_ll L i f = some v) : ab_ll L i g = some v := by
  obtain ⟨x, hx, h⟩ := ab_llE h
  unfold ab_ll
  rw [hx]
  exact hfg _ h
theorem ab_lrM {α : Type} {L : ab_L} {i : Nat} {f g : Nat → Option α} {v : α} (hfg : ∀ a, f a = some v → g a = some v) (h : ab_lr L i f = some v) : ab_lr L i g = some v := by
  obtain ⟨x, hx, h⟩ := ab_lrE h
  unfold ab_lr
  rw [hx]
  exact hfg _ h
theorem ab_czM {α : Type} {c : ClassFile.Cond} {x y : Int32} {a b a' b' : Option α} {v : α} (ha : a = some v → a' = some v) (hb : b = some v → b' = some v) (h : ab_cz c x y a b = some v) : ab_cz c x y a' b' = some v := by
  unfold ab_cz at h ⊢
  cases c <;> (dsimp only at h ⊢; split at h <;> simp only [*, if_true, if_false] <;> first | exact ha h | exact hb h)
theorem ab_swM {α : Type} {x : Int32} {df : Nat} {f g : Nat → Option α} {v : α} (hfg : ∀ t, f t = some v → g t = some v) : ∀ (cs : List (Int × Nat)), ab_sw x df f cs = some v → ab_sw x df g cs = some v
  | [], h => hfg _ h
  | w :: cs, h => by
    unfold ab_sw at h ⊢
    split at h
    · rename_i hx
      rw [if_pos hx]
      exact hfg _ h
    · rename_i hx
      rw [if_neg hx]
      exact ab_swM hfg cs h
theorem ab_doN {k pc : Nat} {L : ab_L} {st : List ab_V} {S : ab_S} {K K' : Nat → ab_L → List ab_V → ab_S → ab_R} {C C' : Nat → ab_L → ab_S → ab_R} {r : ab_O × ab_S} (hK : ∀ pc L st S, K pc L st S = some r → K' pc L st S = some r) (hC : ∀ j L S r, C j L S = some r → C' j L S = some r) {j n : Nat} (h : ab_do k pc K C L st S j n = some r) : ab_do k pc K' C' L st S j n = some r := by
  unfold ab_do at h ⊢
  refine ab_gM (fun h => ?_) h
  obtain ⟨r1, hr1, h⟩ := ab_bdE h
  rw [hC _ _ _ _ hr1]
  show (if _ then _ else _) = _
  split at h
  · rename_i h0
    rw [if_pos h0]
    exact hK _ _ _ _ h
  · rename_i h0
    rw [if_neg h0]
    exact h
theorem ab_exN {q k pc : Nat} {L : ab_L} {st : List ab_V} {S : ab_S} {K K' : Nat → ab_L → List ab_V → ab_S → ab_R} {C C' : Nat → ab_L → ab_S → ab_R} {i : Instr} {f : Nat × Nat × Nat} {r : ab_O × ab_S} (hK : ∀ pc L st S, K pc L st S = some r → K' pc L st S = some r) (hC : ∀ j L S r, C j L S = some r → C' j L S = some r) (h : ab_ex q k pc K C L st S i f = some r) : ab_ex q k pc K' C' L st S i f = some r := by
  cases i with
  | iconst n => exact hK _ _ _ _ h
  | bipush n => exact hK _ _ _ _ h
  | sipush n => exact hK _ _ _ _ h
  | lconst n => exact hK _ _ _ _ h
  | goto o => exact hK _ _ _ _ h
  | iload i => exact ab_liM (fun _ h => hK _ _ _ _ h) h
  | iload_n i => exact ab_liM (fun _ h => hK _ _ _ _ h) h
  | iinc i n => exact ab_liM (fun _ h => hK _ _ _ _ h) h
  | lload i => exact ab_llM (fun _ h => hK _ _ _ _ h) h
  | lload_n i => exact ab_llM (fun _ h => hK _ _ _ _ h) h
  | aload i => exact ab_lrM (fun _ h => hK _ _ _ _ h) h
  | aload_n i => exact ab_lrM (fun _ h => hK _ _ _ _ h) h
  | istore i => exact ab_piM (fun _ _ h => ab_gM (fun h => hK _ _ _ _ h) h) h
  | istore_n i => exact ab_piM (fun _ _ h => ab_gM (fun h => hK _ _ _ _ h) h) h
  | lstore i => exact ab_plM (fun _ _ h => ab_gM (fun h => hK _ _ _ _ h) h) h
  | lstore_n i => exact ab_plM (fun _ _ h => ab_gM (fun h => hK _ _ _ _ h) h) h
  | astore i => exact ab_prM (fun _ _ h => ab_gM (fun h => hK _ _ _ _ h) h) h
  | astore_n i => exact ab_prM (fun _ _ h => ab_gM (fun h => hK _ _ _ _ h) h) h
  | iadd => exact ab_piM (fun _ _ h => ab_piM (fun _ _ h => hK _ _ _ _ h) h) h
  | isub => exact ab_piM (fun _ _ h => ab_piM (fun _ _ h => hK _ _ _ _ h) h) h
  | imul => exact ab_piM (fun _ _ h => ab_piM (fun _ _ h => hK _ _ _ _ h) h) h
  | iand => exact ab_piM (fun _ _ h => ab_piM (fun _ _ h => hK _ _ _ _ h) h) h
  | ior => exact ab_piM (fun _ _ h => ab_piM (fun _ _ h => hK _ _ _ _ h) h) h
  | ishl => exact ab_piM (fun _ _ h => ab_piM (fun _ _ h => hK _ _ _ _ h) h) h
  | ishr => exact ab_piM (fun _ _ h => ab_piM (fun _ _ h => hK _ _ _ _ h) h) h
  | iushr => exact ab_piM (fun _ _ h => ab_piM (fun _ _ h => hK _ _ _ _ h) h) h
  | idiv => exact ab_piM (fun _ _ h => ab_piM (fun _ _ h => ab_gM (fun h => hK _ _ _ _ h) h) h) h
  | ineg => exact ab_piM (fun _ _ h => hK _ _ _ _ h) h
  | i2l => exact ab_piM (fun _ _ h => hK _ _ _ _ h) h
  | i2c => exact ab_piM (fun _ _ h => hK _ _ _ _ h) h
  | l2i => exact ab_plM (fun _ _ h => hK _ _ _ _ h) h
  | ladd => exact ab_plM (fun _ _ h => ab_plM (fun _ _ h => hK _ _ _ _ h) h) h
  | lsub => exact ab_plM (fun _ _ h => ab_plM (fun _ _ h => hK _ _ _ _ h) h) h
  | lmul => exact ab_plM (fun _ _ h => ab_plM (fun _ _ h => hK _ _ _ _ h) h) h
  | land => exact ab_plM (fun _ _ h => ab_plM (fun _ _ h => hK _ _ _ _ h) h) h
  | lor => exact ab_plM (fun _ _ h => ab_plM (fun _ _ h => hK _ _ _ _ h) h) h
  | lxor => exact ab_plM (fun _ _ h => ab_plM (fun _ _ h => hK _ _ _ _ h) h) h
  | lcmp => exact ab_plM (fun _ _ h => ab_plM (fun _ _ h => hK _ _ _ _ h) h) h
  | lshl => exact ab_piM (fun _ _ h => ab_plM (fun _ _ h => hK _ _ _ _ h) h) h
  | lshr => exact ab_piM (fun _ _ h => ab_plM (fun _ _ h => hK _ _ _ _ h) h) h
  | lushr => exact ab_piM (fun _ _ h => ab_plM (fun _ _ h => hK _ _ _ _ h) h) h
  | dup2 => exact ab_piM (fun _ _ h => ab_prM (fun _ _ h => hK _ _ _ _ h) h) h
  | getfield i => exact ab_prM (fun _ _ h => ab_gM (fun h => hK _ _ _ _ h) h) h
  | getstatic i => exact hK _ _ _ _ h
  | arraylength => exact ab_prM (fun _ _ h => ab_gM (fun h => hK _ _ _ _ h) h) h
  | iaload => exact ab_piM (fun _ _ h => ab_prM (fun _ _ h => ab_gM (fun h => ab_gM (fun h => hK _ _ _ _ h) h) h) h) h
  | laload => exact ab_piM (fun _ _ h => ab_prM (fun _ _ h => ab_gM (fun h => ab_gM (fun h => hK _ _ _ _ h) h) h) h) h
  | caload => exact ab_piM (fun _ _ h => ab_prM (fun _ _ h => ab_gM (fun h => ab_gM (fun h => hK _ _ _ _ h) h) h) h) h
  | baload => exact ab_piM (fun _ _ h => ab_prM (fun _ _ h => ab_gM (fun h => ab_gM (fun h => hK _ _ _ _ h) h) h) h) h
  | aaload => exact ab_piM (fun _ _ h => ab_prM (fun _ _ h => ab_gM (fun h => ab_gM (fun h => hK _ _ _ _ h) h) h) h) h
  | iastore => exact ab_piM (fun _ _ h => ab_piM (fun _ _ h => ab_prM (fun _ _ h => ab_gM (fun h => ab_gM (fun h => hK _ _ _ _ h) h) h) h) h) h
  | lastore => exact ab_plM (fun _ _ h => ab_piM (fun _ _ h => ab_prM (fun _ _ h => ab_gM (fun h => ab_gM (fun h => hK _ _ _ _ h) h) h) h) h) h
  | castore => exact ab_piM (fun _ _ h => ab_piM (fun _ _ h => ab_prM (fun _ _ h => ab_gM (fun h => ab_gM (fun h => hK _ _ _ _ h) h) h) h) h) h
  | bastore => exact ab_piM (fun _ _ h => ab_piM (fun _ _ h => ab_prM (fun _ _ h => ab_gM (fun h => ab_gM (fun h => hK _ _ _ _ h) h) h) h) h) h
  | aastore => exact ab_prM (fun _ _ h => ab_piM (fun _ _ h => ab_prM (fun _ _ h => ab_gM (fun h => ab_gM (fun h => hK _ _ _ _ h) h) h) h) h) h
  | newarray t => exact ab_piM (fun _ _ h => ab_gM (fun h => hK _ _ _ _ h) h) h
  | anewarray i => exact ab_piM (fun _ _ h => ab_gM (fun h => hK _ _ _ _ h) h) h
  | ldc_w i =>
    unfold ab_ex at h ⊢
    dsimp only at h ⊢
    split at h
    · cases h
    · exact hK _ _ _ _ h
  | ldc2_w i =>
    unfold ab_ex at h ⊢
    dsimp only at h ⊢
    split at h
    · cases h
    · exact hK _ _ _ _ h
  | dup =>
    unfold ab_ex at h ⊢
    dsimp only at h ⊢
    split at h
    · exact hK _ _ _ _ h
    · exact hK _ _ _ _ h
    · cases h
  | pop =>
    unfold ab_ex at h ⊢
    dsimp only at h ⊢
    split at h
    · exact hK _ _ _ _ h
    · exact hK _ _ _ _ h
    · cases h
  | ifCond c o => exact ab_piM (fun _ _ h => ab_czM (fun h => hK _ _ _ _ h) (fun h => hK _ _ _ _ h) h) h
  | if_icmp c o => exact ab_piM (fun _ _ h => ab_piM (fun _ _ h => ab_czM (fun h => hK _ _ _ _ h) (fun h => hK _ _ _ _ h) h) h) h
  | tableswitch df lo hi offs => exact ab_piM (fun _ _ h => ab_swM (fun _ h => hK _ _ _ _ h) _ h) h
  | lookupswitch df ps => exact ab_piM (fun _ _ h => ab_swM (fun _ h => hK _ _ _ _ h) _ h) h
  | putfield i =>
    unfold ab_ex at h ⊢
    dsimp only at h ⊢
    split at h
    · exact ab_piM (fun _ _ h => ab_prM (fun _ _ h => ab_gM (fun h => hK _ _ _ _ h) h) h) h
    · exact ab_piM (fun _ _ h => ab_prM (fun _ _ h => ab_gM (fun h => hK _ _ _ _ h) h) h) h
    · exact ab_prM (fun _ _ h => ab_prM (fun _ _ h => ab_gM (fun h => hK _ _ _ _ h) h) h) h
    · exact ab_prM (fun _ _ h => ab_prM (fun _ _ h => ab_gM (fun h => hK _ _ _ _ h) h) h) h
  | new i =>
    unfold ab_ex at h ⊢
    dsimp only at h ⊢
    split at h
    · exact ab_gM (fun h => hK _ _ _ _ h) h
    · exact h
    · cases h
  | invokevirtual i => exact ab_gM (fun h => ab_gM (fun h => ab_doN hK hC h) h) h
  | invokestatic i =>
    unfold ab_ex at h ⊢
    dsimp only at h ⊢
    split at h
    · exact ab_doN hK hC h
    · exact ab_piM (fun _ _ h => ab_piM (fun _ _ h => ab_prM (fun _ _ h => ab_piM (fun _ _ h => ab_prM (fun _ _ h => ab_gM (fun h => ab_gM (fun h => hK _ _ _ _ h) h) h) h) h) h) h) h
    · cases h
  | invokespecial i =>
    unfold ab_ex at h ⊢
    dsimp only at h ⊢
    split at h
    · exact ab_gM (fun h => ab_doN hK hC h) h
    · exact ab_prM (fun _ _ h => ab_gM (fun h => hK _ _ _ _ h) h) h
    · cases h
  | ireturn => exact h
  | lreturn => exact h
  | areturn => exact h
  | return_ => exact h
  | _ => exact nomatch (show (none : ab_R) = some r from h)
theorem ab_more (q : Nat) : ∀ (n n' d d' k pc : Nat) (L : ab_L) (st : List ab_V) (S : ab_S) (r : ab_O × ab_S), n ≤ n' → d ≤ d' → ab_run q n d k pc L st S = some r → ab_run q n' d' k pc L st S = some r
  | 0, _, _, _, _, _, _, _, _, _, _, _, h => nomatch (show (none : ab_R) = some _ from h)
  | n + 1, 0, _, _, _, _, _, _, _, _, h1, _, _ => absurd h1 (by omega)
  | n + 1, n' + 1, d, d', k, pc, L, st, S, r, h1, h2, h => by
    unfold ab_run at h ⊢
    split at h
    · cases h
    · refine ab_exN (fun pc L st S h => ab_more q n n' d d' _ _ _ _ _ _ (by omega) h2 h) (fun j L S r h => ?_) h
      cases d with
      | zero => cases h
      | succ d =>
        cases d' with
        | zero => omega
        | succ d' => exact ab_more q n n' d d' _ _ _ _ _ _ (by omega) (by omega) h
/-- a run from a place of a method comes to an end -/
def pu (q d k pc : Nat) (L : ab_L) (st : List ab_V) (S : ab_S) (r : ab_O × ab_S) : Prop := ∃ n, ab_run q n d k pc L st S = some r
theorem pu_up {q n d k pc : Nat} {L : ab_L} {st : List ab_V} {S : ab_S} {r : ab_O × ab_S} (h : ab_run q n d k pc L st S = some r) {n' d' : Nat} (h1 : n ≤ n') (h2 : d ≤ d') : ab_run q n' d' k pc L st S = some r := ab_more q n n' d d' k pc L st S r h1 h2 h
theorem pu_more {q d d' k pc : Nat} {L : ab_L} {st : List ab_V} {S : ab_S} {r : ab_O × ab_S} (h : pu q d k pc L st S r) (h2 : d ≤ d') : pu q d' k pc L st S r := by
  obtain ⟨n, h⟩ := h
  exact ⟨n, pu_up h (Nat.le_refl _) h2⟩
end
section
-- The value of a run: steps no longer counted.
theorem ab_gC {α : Type} {b : Bool} {x : Option α} {y : Nat → Option α} {v : α} (hxy : x = some v → ∃ n, y n = some v) (h : ab_g b x = some v) : ∃ n, ab_g b (y n) = some v := by
  cases b with
  | false => exact ⟨0, h⟩
  | true => exact hxy h
theorem ab_piC {α : Type} {st : List ab_V} {f : Int32 → List ab_V → Option α} {g : Nat → Int32 → List ab_V → Option α} {v : α} (hfg : ∀ a r, f a r = some v → ∃ n, g n a r = some v) (h : ab_pi st f = some v) : ∃ n, ab_pi st (g n) = some v := by
  obtain ⟨x, r, rfl, h⟩ := ab_piE h
  exact hfg _ _ h
theorem ab_plC {α : Type} {st : List ab_V} {f : Int64 → List ab_V → Option α} {g : Nat → Int64 → List ab_V → Option α} {v : α} (hfg : ∀ a r, f a r = some v → ∃ n, g n a r = some v) (h : ab_pl st f = some v) : ∃ n, ab_pl st (g n) = some v := by
  obtain ⟨x, r, rfl, h⟩ := ab_plE h
  exact hfg _ _ h
theorem ab_prC {α : Type} {st : List ab_V} {f : Nat → List ab_V → Option α} {g : Nat → Nat → List ab_V → Option α} {v : α} (hfg : ∀ a r, f a r = some v → ∃ n, g n a r = some v) (h : ab_pr st f = some v) : ∃ n, ab_pr st (g n) = some v := by
  obtain ⟨x, r, rfl, h⟩ := ab_prE h
  exact hfg _ _ h
theorem ab_liC {α : Type} {L : ab_L} {i : Nat} {f : Int32 → Option α} {g : Nat → Int32 → Option α} {v : α} (hfg : ∀ a, f a = some v → ∃ n, g n a = some v) (h : ab_li L i f = some v) : ∃ n, ab_li L i (g n) = some v := by
  obtain ⟨x, hx, h⟩ := ab_liE h
  unfold ab_li
  rw [hx]
  exact hfg _ h
theorem ab_llC {α : Type} {L : ab_L} {i : Nat} {f : Int64 → Option α} {g : Nat → Int64 → Option α} {v : α} (hfg : ∀ a, f a = some v → ∃ n, g n a = some v) (h : ab_ll L i f = some v) : ∃ n, ab_ll L i (g n) = some v := by
  obtain ⟨x, hx, h⟩ := ab_llE h
  unfold ab_ll
  rw [hx]
  exact hfg _ h
theorem ab_lrC {α : Type} {L : ab_L} {i : Nat} {f : Nat → Option α} {g : Nat → Nat → Option α} {v : α} (hfg : ∀ a, f a = some v → ∃ n, g n a = some v) (h : ab_lr L i f = some v) : ∃ n, ab_lr L i (g n) = some v := by
  obtain ⟨x, hx, h⟩ := ab_lrE h
  unfold ab_lr
  rw [hx]
  exact hfg _ h
theorem ab_czC {α : Type} {c : ClassFile.Cond} {x y : Int32} {a b : Option α} {a' b' : Nat → Option α} {v : α} (ha : a = some v → ∃ n, a' n = some v) (hb : b = some v → ∃ n, b' n = some v) (h : ab_cz c x y a b = some v) : ∃ n, ab_cz c x y (a' n) (b' n) = some v := by
  unfold ab_cz at h ⊢
  cases c <;> (dsimp only at h ⊢; split at h <;> simp only [*, if_true, if_false] <;> first | exact ha h | exact hb h)
theorem ab_swC {α : Type} {x : Int32} {df : Nat} {f : Nat → Option α} {g : Nat → Nat → Option α} {v : α} (hfg : ∀ t, f t = some v → ∃ n, g n t = some v) : ∀ (cs : List (Int × Nat)), ab_sw x df f cs = some v → ∃ n, ab_sw x df (g n) cs = some v
  | [], h => hfg _ h
  | w :: cs, h => by
    unfold ab_sw at h ⊢
    split at h
    · rename_i hx
      simp only [if_pos hx]
      exact hfg _ h
    · rename_i hx
      simp only [if_neg hx]
      exact ab_swC hfg cs h
theorem ab_doC {k pc : Nat} {L : ab_L} {st : List ab_V} {S : ab_S} {K : Nat → ab_L → List ab_V → ab_S → ab_R} {C : Nat → ab_L → ab_S → ab_R} {K' : Nat → Nat → ab_L → List ab_V → ab_S → ab_R} {C' : Nat → Nat → ab_L → ab_S → ab_R} {r : ab_O × ab_S} (hK : ∀ pc L st S, K pc L st S = some r → ∃ n, K' n pc L st S = some r) (hC : ∀ j L S r, C j L S = some r → ∃ n, C' n j L S = some r) (mK : ∀ n m pc L st S r, n ≤ m → K' n pc L st S = some r → K' m pc L st S = some r) (mC : ∀ n m j L S r, n ≤ m → C' n j L S = some r → C' m j L S = some r) {j n : Nat} (h : ab_do k pc K C L st S j n = some r) : ∃ m, ab_do k pc (K' m) (C' m) L st S j n = some r := by
  unfold ab_do at h ⊢
  refine ab_gC (fun h => ?_) h
  obtain ⟨r1, hr1, h⟩ := ab_bdE h
  obtain ⟨n1, h1⟩ := hC _ _ _ _ hr1
  split at h
  · rename_i h0
    obtain ⟨n2, h2⟩ := hK _ _ _ _ h
    refine ⟨n1 + n2, ?_⟩
    rw [mC n1 (n1 + n2) _ _ _ _ (by omega) h1]
    show (if _ then _ else _) = _
    rw [if_pos h0]
    exact mK n2 (n1 + n2) _ _ _ _ _ (by omega) h2
  · rename_i h0
    refine ⟨n1, ?_⟩
    rw [h1]
    show (if _ then _ else _) = _
    rw [if_neg h0]
    exact h
theorem ab_exC {q k pc : Nat} {L : ab_L} {st : List ab_V} {S : ab_S} {K : Nat → ab_L → List ab_V → ab_S → ab_R} {C : Nat → ab_L → ab_S → ab_R} {K' : Nat → Nat → ab_L → List ab_V → ab_S → ab_R} {C' : Nat → Nat → ab_L → ab_S → ab_R} {i : Instr} {f : Nat × Nat × Nat} {r : ab_O × ab_S} (hK : ∀ pc L st S, K pc L st S = some r → ∃ n, K' n pc L st S = some r) (hC : ∀ j L S r, C j L S = some r → ∃ n, C' n j L S = some r) (mK : ∀ n m pc L st S r, n ≤ m → K' n pc L st S = some r → K' m pc L st S = some r) (mC : ∀ n m j L S r, n ≤ m → C' n j L S = some r → C' m j L S = some r) (h : ab_ex q k pc K C L st S i f = some r) : ∃ n, ab_ex q k pc (K' n) (C' n) L st S i f = some r := by
  cases i with
  | iconst n => exact hK _ _ _ _ h
  | bipush n => exact hK _ _ _ _ h
  | sipush n => exact hK _ _ _ _ h
  | lconst n => exact hK _ _ _ _ h
  | goto o => exact hK _ _ _ _ h
  | iload i => exact ab_liC (fun _ h => hK _ _ _ _ h) h
  | iload_n i => exact ab_liC (fun _ h => hK _ _ _ _ h) h
  | iinc i n => exact ab_liC (fun _ h => hK _ _ _ _ h) h
  | lload i => exact ab_llC (fun _ h => hK _ _ _ _ h) h
  | lload_n i => exact ab_llC (fun _ h => hK _ _ _ _ h) h
  | aload i => exact ab_lrC (fun _ h => hK _ _ _ _ h) h
  | aload_n i => exact ab_lrC (fun _ h => hK _ _ _ _ h) h
  | istore i => exact ab_piC (fun _ _ h => ab_gC (fun h => hK _ _ _ _ h) h) h
  | istore_n i => exact ab_piC (fun _ _ h => ab_gC (fun h => hK _ _ _ _ h) h) h
  | lstore i => exact ab_plC (fun _ _ h => ab_gC (fun h => hK _ _ _ _ h) h) h
  | lstore_n i => exact ab_plC (fun _ _ h => ab_gC (fun h => hK _ _ _ _ h) h) h
  | astore i => exact ab_prC (fun _ _ h => ab_gC (fun h => hK _ _ _ _ h) h) h
  | astore_n i => exact ab_prC (fun _ _ h => ab_gC (fun h => hK _ _ _ _ h) h) h
  | iadd => exact ab_piC (fun _ _ h => ab_piC (fun _ _ h => hK _ _ _ _ h) h) h
  | isub => exact ab_piC (fun _ _ h => ab_piC (fun _ _ h => hK _ _ _ _ h) h) h
  | imul => exact ab_piC (fun _ _ h => ab_piC (fun _ _ h => hK _ _ _ _ h) h) h
  | iand => exact ab_piC (fun _ _ h => ab_piC (fun _ _ h => hK _ _ _ _ h) h) h
  | ior => exact ab_piC (fun _ _ h => ab_piC (fun _ _ h => hK _ _ _ _ h) h) h
  | ishl => exact ab_piC (fun _ _ h => ab_piC (fun _ _ h => hK _ _ _ _ h) h) h
  | ishr => exact ab_piC (fun _ _ h => ab_piC (fun _ _ h => hK _ _ _ _ h) h) h
  | iushr => exact ab_piC (fun _ _ h => ab_piC (fun _ _ h => hK _ _ _ _ h) h) h
  | idiv => exact ab_piC (fun _ _ h => ab_piC (fun _ _ h => ab_gC (fun h => hK _ _ _ _ h) h) h) h
  | ineg => exact ab_piC (fun _ _ h => hK _ _ _ _ h) h
  | i2l => exact ab_piC (fun _ _ h => hK _ _ _ _ h) h
  | i2c => exact ab_piC (fun _ _ h => hK _ _ _ _ h) h
  | l2i => exact ab_plC (fun _ _ h => hK _ _ _ _ h) h
  | ladd => exact ab_plC (fun _ _ h => ab_plC (fun _ _ h => hK _ _ _ _ h) h) h
  | lsub => exact ab_plC (fun _ _ h => ab_plC (fun _ _ h => hK _ _ _ _ h) h) h
  | lmul => exact ab_plC (fun _ _ h => ab_plC (fun _ _ h => hK _ _ _ _ h) h) h
  | land => exact ab_plC (fun _ _ h => ab_plC (fun _ _ h => hK _ _ _ _ h) h) h
  | lor => exact ab_plC (fun _ _ h => ab_plC (fun _ _ h => hK _ _ _ _ h) h) h
  | lxor => exact ab_plC (fun _ _ h => ab_plC (fun _ _ h => hK _ _ _ _ h) h) h
  | lcmp => exact ab_plC (fun _ _ h => ab_plC (fun _ _ h => hK _ _ _ _ h) h) h
  | lshl => exact ab_piC (fun _ _ h => ab_plC (fun _ _ h => hK _ _ _ _ h) h) h
  | lshr => exact ab_piC (fun _ _ h => ab_plC (fun _ _ h => hK _ _ _ _ h) h) h
  | lushr => exact ab_piC (fun _ _ h => ab_plC (fun _ _ h => hK _ _ _ _ h) h) h
  | dup2 => exact ab_piC (fun _ _ h => ab_prC (fun _ _ h => hK _ _ _ _ h) h) h
  | getfield i => exact ab_prC (fun _ _ h => ab_gC (fun h => hK _ _ _ _ h) h) h
  | getstatic i => exact hK _ _ _ _ h
  | arraylength => exact ab_prC (fun _ _ h => ab_gC (fun h => hK _ _ _ _ h) h) h
  | iaload => exact ab_piC (fun _ _ h => ab_prC (fun _ _ h => ab_gC (fun h => ab_gC (fun h => hK _ _ _ _ h) h) h) h) h
  | laload => exact ab_piC (fun _ _ h => ab_prC (fun _ _ h => ab_gC (fun h => ab_gC (fun h => hK _ _ _ _ h) h) h) h) h
  | caload => exact ab_piC (fun _ _ h => ab_prC (fun _ _ h => ab_gC (fun h => ab_gC (fun h => hK _ _ _ _ h) h) h) h) h
  | baload => exact ab_piC (fun _ _ h => ab_prC (fun _ _ h => ab_gC (fun h => ab_gC (fun h => hK _ _ _ _ h) h) h) h) h
  | aaload => exact ab_piC (fun _ _ h => ab_prC (fun _ _ h => ab_gC (fun h => ab_gC (fun h => hK _ _ _ _ h) h) h) h) h
  | iastore => exact ab_piC (fun _ _ h => ab_piC (fun _ _ h => ab_prC (fun _ _ h => ab_gC (fun h => ab_gC (fun h => hK _ _ _ _ h) h) h) h) h) h
  | lastore => exact ab_plC (fun _ _ h => ab_piC (fun _ _ h => ab_prC (fun _ _ h => ab_gC (fun h => ab_gC (fun h => hK _ _ _ _ h) h) h) h) h) h
  | castore => exact ab_piC (fun _ _ h => ab_piC (fun _ _ h => ab_prC (fun _ _ h => ab_gC (fun h => ab_gC (fun h => hK _ _ _ _ h) h) h) h) h) h
  | bastore => exact ab_piC (fun _ _ h => ab_piC (fun _ _ h => ab_prC (fun _ _ h => ab_gC (fun h => ab_gC (fun h => hK _ _ _ _ h) h) h) h) h) h
  | aastore => exact ab_prC (fun _ _ h => ab_piC (fun _ _ h => ab_prC (fun _ _ h => ab_gC (fun h => ab_gC (fun h => hK _ _ _ _ h) h) h) h) h) h
  | newarray t => exact ab_piC (fun _ _ h => ab_gC (fun h => hK _ _ _ _ h) h) h
  | anewarray i => exact ab_piC (fun _ _ h => ab_gC (fun h => hK _ _ _ _ h) h) h
  | ldc_w i =>
    unfold ab_ex at h ⊢
    dsimp only at h ⊢
    split at h
    · cases h
    · exact hK _ _ _ _ h
  | ldc2_w i =>
    unfold ab_ex at h ⊢
    dsimp only at h ⊢
    split at h
    · cases h
    · exact hK _ _ _ _ h
  | dup =>
    unfold ab_ex at h ⊢
    dsimp only at h ⊢
    split at h
    · exact hK _ _ _ _ h
    · exact hK _ _ _ _ h
    · cases h
  | pop =>
    unfold ab_ex at h ⊢
    dsimp only at h ⊢
    split at h
    · exact hK _ _ _ _ h
    · exact hK _ _ _ _ h
    · cases h
  | ifCond c o => exact ab_piC (fun _ _ h => ab_czC (fun h => hK _ _ _ _ h) (fun h => hK _ _ _ _ h) h) h
  | if_icmp c o => exact ab_piC (fun _ _ h => ab_piC (fun _ _ h => ab_czC (fun h => hK _ _ _ _ h) (fun h => hK _ _ _ _ h) h) h) h
  | tableswitch df lo hi offs => exact ab_piC (fun _ _ h => ab_swC (fun _ h => hK _ _ _ _ h) _ h) h
  | lookupswitch df ps => exact ab_piC (fun _ _ h => ab_swC (fun _ h => hK _ _ _ _ h) _ h) h
  | putfield i =>
    unfold ab_ex at h ⊢
    dsimp only at h ⊢
    split at h
    · exact ab_piC (fun _ _ h => ab_prC (fun _ _ h => ab_gC (fun h => hK _ _ _ _ h) h) h) h
    · exact ab_piC (fun _ _ h => ab_prC (fun _ _ h => ab_gC (fun h => hK _ _ _ _ h) h) h) h
    · exact ab_prC (fun _ _ h => ab_prC (fun _ _ h => ab_gC (fun h => hK _ _ _ _ h) h) h) h
    · exact ab_prC (fun _ _ h => ab_prC (fun _ _ h => ab_gC (fun h => hK _ _ _ _ h) h) h) h
  | new i =>
    unfold ab_ex at h ⊢
    dsimp only at h ⊢
    split at h
    · exact ab_gC (fun h => hK _ _ _ _ h) h
    · exact ⟨0, h⟩
    · cases h
  | invokevirtual i => exact ab_gC (fun h => ab_gC (fun h => ab_doC hK hC mK mC h) h) h
  | invokestatic i =>
    unfold ab_ex at h ⊢
    dsimp only at h ⊢
    split at h
    · exact ab_doC hK hC mK mC h
    · exact ab_piC (fun _ _ h => ab_piC (fun _ _ h => ab_prC (fun _ _ h => ab_piC (fun _ _ h => ab_prC (fun _ _ h => ab_gC (fun h => ab_gC (fun h => hK _ _ _ _ h) h) h) h) h) h) h) h
    · cases h
  | invokespecial i =>
    unfold ab_ex at h ⊢
    dsimp only at h ⊢
    split at h
    · exact ab_gC (fun h => ab_doC hK hC mK mC h) h
    · exact ab_prC (fun _ _ h => ab_gC (fun h => hK _ _ _ _ h) h) h
    · cases h
  | ireturn => exact ⟨0, h⟩
  | lreturn => exact ⟨0, h⟩
  | areturn => exact ⟨0, h⟩
  | return_ => exact ⟨0, h⟩
  | _ => exact nomatch (show (none : ab_R) = some r from h)
theorem ab_one {q n d k pc : Nat} {L : ab_L} {st : List ab_V} {S : ab_S} {x : Instr × Nat × Nat × Nat} (h : ab_ins k pc = some x) : ab_run q (n + 1) d k pc L st S = ab_ex q k pc (fun pc' L' st' S' => ab_run q n d k pc' (ab_zip (ab_msk k pc') L') st' S') (fun j L' S' => match d with
      | 0 => none
      | d + 1 => ab_run q n d j 0 L' [] S') L st S x.1 x.2 := by
  rw [ab_run, h]
  rfl
/-- what a run comes to -/
noncomputable def vl (q d k pc : Nat) (L : ab_L) (st : List ab_V) (S : ab_S) : ab_R := by
  classical
  exact if h : ∃ r, pu q d k pc L st S r then some (Classical.choose h) else none
theorem vl_of {q d k pc : Nat} {L : ab_L} {st : List ab_V} {S : ab_S} {r : ab_O × ab_S} (h : pu q d k pc L st S r) : vl q d k pc L st S = some r := by
  have he : ∃ r, pu q d k pc L st S r := ⟨r, h⟩
  unfold vl
  rw [dif_pos he]
  obtain ⟨n1, h1⟩ := Classical.choose_spec he
  obtain ⟨n2, h2⟩ := h
  have a := pu_up h1 (Nat.le_add_right n1 n2) (Nat.le_refl _)
  have b := pu_up h2 (Nat.le_add_left n2 n1) (Nat.le_refl _)
  rw [a] at b
  exact b
theorem vl_pu {q d k pc : Nat} {L : ab_L} {st : List ab_V} {S : ab_S} {r : ab_O × ab_S} (h : vl q d k pc L st S = some r) : pu q d k pc L st S r := by
  unfold vl at h
  split at h
  · rename_i he
    cases h
    exact Classical.choose_spec he
  · cases h
theorem vl_more {q d d' k pc : Nat} {L : ab_L} {st : List ab_V} {S : ab_S} {r : ab_O × ab_S} (h2 : d ≤ d') (h : vl q d k pc L st S = some r) : vl q d' k pc L st S = some r := vl_of (pu_more (vl_pu h) h2)
theorem ab_ext {x y : ab_R} (h1 : ∀ r, x = some r → y = some r) (h2 : ∀ r, y = some r → x = some r) : x = y := by
  cases x with
  | some r => exact (h1 r rfl).symm
  | none =>
    cases y with
    | none => rfl
    | some r => exact h2 r rfl
def ab_cd (C : Nat → Nat → ab_L → ab_S → ab_R) (d : Nat) : Nat → ab_L → ab_S → ab_R := fun j L' S' => match d with
      | 0 => none
      | d + 1 => C d j L' S'
theorem vl_one {q d k pc : Nat} {L : ab_L} {st : List ab_V} {S : ab_S} {x : Instr × Nat × Nat × Nat} (h : ab_ins k pc = some x) : vl q d k pc L st S = ab_ex q k pc (fun pc' L' st' S' => vl q d k pc' (ab_zip (ab_msk k pc') L') st' S') (ab_cd (fun d j L' S' => vl q d j 0 L' [] S') d) L st S x.1 x.2 := by
  refine ab_ext (fun r hr => ?_) (fun r hr => ?_)
  · obtain ⟨n, hn⟩ := vl_pu hr
    cases n with
    | zero => cases hn
    | succ n =>
      rw [ab_one h] at hn
      refine ab_exN (fun pc L st S h => vl_of ⟨n, h⟩) (fun j L S r h => ?_) hn
      cases d with
      | zero => cases h
      | succ d => exact vl_of ⟨n, h⟩
  · obtain ⟨n, hn⟩ := ab_exC (K' := fun n pc' L' st' S' => ab_run q n d k pc' (ab_zip (ab_msk k pc') L') st' S') (C' := fun n => ab_cd (fun d j L' S' => ab_run q n d j 0 L' [] S') d) (fun pc L st S h => vl_pu h) (fun j L S r h => by
      cases d with
      | zero => cases h
      | succ d => exact vl_pu h) (fun n m pc L st S r hnm h => pu_up h hnm (Nat.le_refl _)) (fun n m j L S r hnm h => by
      cases d with
      | zero => cases h
      | succ d => exact pu_up h hnm (Nat.le_refl _)) hr
    exact vl_of ⟨n + 1, (ab_one h).trans hn⟩
/-- steps up to the next joins -/
noncomputable def ab_rv (q : Nat) : Nat → Nat → Nat → Nat → ab_L → List ab_V → ab_S → ab_R
  | 0, d, k, pc, L, st, S => vl q d k pc L st S
  | n + 1, d, k, pc, L, st, S => match ab_ins k pc with
    | none => vl q d k pc L st S
    | some x => ab_ex q k pc (fun pc' L' st' S' => match ab_msk k pc' with
      | [] => ab_rv q n d k pc' L' st' S'
      | m => vl q d k pc' (ab_zip m L') st' S') (ab_cd (fun d j L' S' => vl q d j 0 L' [] S') d) L st S x.1 x.2
theorem vl_rv (q : Nat) : ∀ (n d k pc : Nat) (L : ab_L) (st : List ab_V) (S : ab_S), vl q d k pc L st S = ab_rv q n d k pc L st S
  | 0, _, _, _, _, _, _ => rfl
  | n + 1, d, k, pc, L, st, S => by
    unfold ab_rv
    split
    · rfl
    · rename_i x hx
      rw [vl_one hx]
      congr 1
      funext pc' L' st' S'
      split
      · rename_i hm
        rw [hm]
        exact vl_rv q n d k pc' L' st' S'
      · rfl
end
