-- ===== PART A: goes FIRST, ahead of the names: the tables' words, and 'selects' of the private methods out of them =====
/-- a private method of a class that the tables say can be made, by its rows of tables_1 -/
def lw_okq (q : MethodName × Nat) : Prop := (q.1.cls ≠ "java/lang/invoke/MethodHandle" ∧ q.1.cls ≠ "java/lang/invoke/VarHandle") ∧ Cond.instantiable q.1.cls q.2 ∈ tables_1 ∧ Cond.privateMethod q.1 ∈ tables_1 ∧ Cond.instanceMethod q.1 ∈ tables_1
theorem lw_p0 : lw_okq (⟨"LifeGrants$World", "isPerson", "(I)Z"⟩, 15) := ⟨⟨by decide +kernel, by decide +kernel⟩, List.mem_of_getElem? (i := 26) (by decide +kernel), List.mem_of_getElem? (i := 276) (by decide +kernel), List.mem_of_getElem? (i := 277) (by decide +kernel)⟩
theorem lw_p1 : lw_okq (⟨"LifeGrants", "forgetCourses", "()V"⟩, 9) := ⟨⟨by decide +kernel, by decide +kernel⟩, List.mem_of_getElem? (i := 18) (by decide +kernel), List.mem_of_getElem? (i := 286) (by decide +kernel), List.mem_of_getElem? (i := 287) (by decide +kernel)⟩
theorem lw_p2 : lw_okq (⟨"LifeGrants$World", "isChild", "(I)Z"⟩, 15) := ⟨⟨by decide +kernel, by decide +kernel⟩, List.mem_of_getElem? (i := 26) (by decide +kernel), List.mem_of_getElem? (i := 294) (by decide +kernel), List.mem_of_getElem? (i := 295) (by decide +kernel)⟩
theorem lw_p3 : lw_okq (⟨"LifeGrants", "isCourse", "(I)Z"⟩, 9) := ⟨⟨by decide +kernel, by decide +kernel⟩, List.mem_of_getElem? (i := 18) (by decide +kernel), List.mem_of_getElem? (i := 306) (by decide +kernel), List.mem_of_getElem? (i := 307) (by decide +kernel)⟩
theorem lw_p4 : lw_okq (⟨"LifeGrants", "coursesThereAre", "()I"⟩, 9) := ⟨⟨by decide +kernel, by decide +kernel⟩, List.mem_of_getElem? (i := 18) (by decide +kernel), List.mem_of_getElem? (i := 310) (by decide +kernel), List.mem_of_getElem? (i := 311) (by decide +kernel)⟩
theorem lw_p5 : lw_okq (⟨"LifeGrants", "courseOf", "(I)LLifeGrants$Course;"⟩, 9) := ⟨⟨by decide +kernel, by decide +kernel⟩, List.mem_of_getElem? (i := 18) (by decide +kernel), List.mem_of_getElem? (i := 317) (by decide +kernel), List.mem_of_getElem? (i := 318) (by decide +kernel)⟩
theorem lw_p6 : lw_okq (⟨"LifeGrants$Course", "learn", "(LLifeGrants$World;I)V"⟩, 12) := ⟨⟨by decide +kernel, by decide +kernel⟩, List.mem_of_getElem? (i := 193) (by decide +kernel), List.mem_of_getElem? (i := 321) (by decide +kernel), List.mem_of_getElem? (i := 322) (by decide +kernel)⟩
theorem lw_p7 : lw_okq (⟨"LifeGrants$Course", "start", "(LLifeGrants$World;)V"⟩, 12) := ⟨⟨by decide +kernel, by decide +kernel⟩, List.mem_of_getElem? (i := 193) (by decide +kernel), List.mem_of_getElem? (i := 325) (by decide +kernel), List.mem_of_getElem? (i := 326) (by decide +kernel)⟩
theorem lw_p8 : lw_okq (⟨"LifeGrants$Course", "addChild", "(II)V"⟩, 12) := ⟨⟨by decide +kernel, by decide +kernel⟩, List.mem_of_getElem? (i := 193) (by decide +kernel), List.mem_of_getElem? (i := 334) (by decide +kernel), List.mem_of_getElem? (i := 335) (by decide +kernel)⟩
theorem lw_p9 : lw_okq (⟨"LifeGrants$Course", "come", "(IIII)V"⟩, 12) := ⟨⟨by decide +kernel, by decide +kernel⟩, List.mem_of_getElem? (i := 193) (by decide +kernel), List.mem_of_getElem? (i := 338) (by decide +kernel), List.mem_of_getElem? (i := 339) (by decide +kernel)⟩
theorem lw_p10 : lw_okq (⟨"LifeGrants$Course", "findLast", "(I)V"⟩, 12) := ⟨⟨by decide +kernel, by decide +kernel⟩, List.mem_of_getElem? (i := 193) (by decide +kernel), List.mem_of_getElem? (i := 342) (by decide +kernel), List.mem_of_getElem? (i := 343) (by decide +kernel)⟩
theorem lw_p11 : lw_okq (⟨"LifeGrants$Reader", "read", "([II)I"⟩, 4) := ⟨⟨by decide +kernel, by decide +kernel⟩, List.mem_of_getElem? (i := 154) (by decide +kernel), List.mem_of_getElem? (i := 355) (by decide +kernel), List.mem_of_getElem? (i := 356) (by decide +kernel)⟩
theorem lw_p12 : lw_okq (⟨"LifeGrants$Grant", "clear", "()V"⟩, 3) := ⟨⟨by decide +kernel, by decide +kernel⟩, List.mem_of_getElem? (i := 33) (by decide +kernel), List.mem_of_getElem? (i := 368) (by decide +kernel), List.mem_of_getElem? (i := 369) (by decide +kernel)⟩
theorem lw_p13 : lw_okq (⟨"LifeGrants$Reader", "readClause", "(I)Z"⟩, 4) := ⟨⟨by decide +kernel, by decide +kernel⟩, List.mem_of_getElem? (i := 154) (by decide +kernel), List.mem_of_getElem? (i := 373) (by decide +kernel), List.mem_of_getElem? (i := 374) (by decide +kernel)⟩
theorem lw_p14 : lw_okq (⟨"LifeGrants$Reader", "take", "(I)Z"⟩, 4) := ⟨⟨by decide +kernel, by decide +kernel⟩, List.mem_of_getElem? (i := 154) (by decide +kernel), List.mem_of_getElem? (i := 377) (by decide +kernel), List.mem_of_getElem? (i := 378) (by decide +kernel)⟩
theorem lw_p15 : lw_okq (⟨"LifeGrants$Reader", "next", "()I"⟩, 4) := ⟨⟨by decide +kernel, by decide +kernel⟩, List.mem_of_getElem? (i := 154) (by decide +kernel), List.mem_of_getElem? (i := 381) (by decide +kernel), List.mem_of_getElem? (i := 382) (by decide +kernel)⟩
def lw_privs_1 : List (MethodName × Nat) := [(⟨"LifeGrants$World", "isPerson", "(I)Z"⟩, 15), (⟨"LifeGrants", "forgetCourses", "()V"⟩, 9), (⟨"LifeGrants$World", "isChild", "(I)Z"⟩, 15), (⟨"LifeGrants", "isCourse", "(I)Z"⟩, 9), (⟨"LifeGrants", "coursesThereAre", "()I"⟩, 9), (⟨"LifeGrants", "courseOf", "(I)LLifeGrants$Course;"⟩, 9), (⟨"LifeGrants$Course", "learn", "(LLifeGrants$World;I)V"⟩, 12), (⟨"LifeGrants$Course", "start", "(LLifeGrants$World;)V"⟩, 12), (⟨"LifeGrants$Course", "addChild", "(II)V"⟩, 12), (⟨"LifeGrants$Course", "come", "(IIII)V"⟩, 12), (⟨"LifeGrants$Course", "findLast", "(I)V"⟩, 12), (⟨"LifeGrants$Reader", "read", "([II)I"⟩, 4), (⟨"LifeGrants$Grant", "clear", "()V"⟩, 3), (⟨"LifeGrants$Reader", "readClause", "(I)Z"⟩, 4), (⟨"LifeGrants$Reader", "take", "(I)Z"⟩, 4), (⟨"LifeGrants$Reader", "next", "()I"⟩, 4)]
theorem lw_r1 : ∀ q ∈ lw_privs_1, lw_okq q := List.forall_mem_cons.mpr ⟨lw_p0, List.forall_mem_cons.mpr ⟨lw_p1, List.forall_mem_cons.mpr ⟨lw_p2, List.forall_mem_cons.mpr ⟨lw_p3, List.forall_mem_cons.mpr ⟨lw_p4, List.forall_mem_cons.mpr ⟨lw_p5, List.forall_mem_cons.mpr ⟨lw_p6, List.forall_mem_cons.mpr ⟨lw_p7, List.forall_mem_cons.mpr ⟨lw_p8, List.forall_mem_cons.mpr ⟨lw_p9, List.forall_mem_cons.mpr ⟨lw_p10, List.forall_mem_cons.mpr ⟨lw_p11, List.forall_mem_cons.mpr ⟨lw_p12, List.forall_mem_cons.mpr ⟨lw_p13, List.forall_mem_cons.mpr ⟨lw_p14, List.forall_mem_cons.mpr ⟨lw_p15, fun _ h => absurd h List.not_mem_nil⟩⟩⟩⟩⟩⟩⟩⟩⟩⟩⟩⟩⟩⟩⟩⟩
theorem lw_p16 : lw_okq (⟨"LifeGrants$Reader", "readCond", "(II)Z"⟩, 4) := ⟨⟨by decide +kernel, by decide +kernel⟩, List.mem_of_getElem? (i := 154) (by decide +kernel), List.mem_of_getElem? (i := 385) (by decide +kernel), List.mem_of_getElem? (i := 386) (by decide +kernel)⟩
theorem lw_p17 : lw_okq (⟨"LifeGrants$Reader", "readPart", "(IIII)Z"⟩, 4) := ⟨⟨by decide +kernel, by decide +kernel⟩, List.mem_of_getElem? (i := 154) (by decide +kernel), List.mem_of_getElem? (i := 389) (by decide +kernel), List.mem_of_getElem? (i := 390) (by decide +kernel)⟩
theorem lw_p18 : lw_okq (⟨"LifeGrants$Grant", "say", "(IIII)V"⟩, 3) := ⟨⟨by decide +kernel, by decide +kernel⟩, List.mem_of_getElem? (i := 33) (by decide +kernel), List.mem_of_getElem? (i := 393) (by decide +kernel), List.mem_of_getElem? (i := 394) (by decide +kernel)⟩
theorem lw_p19 : lw_okq (⟨"LifeGrants$Reader", "readNumber", "()I"⟩, 4) := ⟨⟨by decide +kernel, by decide +kernel⟩, List.mem_of_getElem? (i := 154) (by decide +kernel), List.mem_of_getElem? (i := 398) (by decide +kernel), List.mem_of_getElem? (i := 399) (by decide +kernel)⟩
theorem lw_p20 : lw_okq (⟨"LifeGrants$Reader", "readDigit", "(I)I"⟩, 4) := ⟨⟨by decide +kernel, by decide +kernel⟩, List.mem_of_getElem? (i := 154) (by decide +kernel), List.mem_of_getElem? (i := 402) (by decide +kernel), List.mem_of_getElem? (i := 403) (by decide +kernel)⟩
theorem lw_p21 : lw_okq (⟨"LifeGrants$Reader", "readWho", "(I)Z"⟩, 4) := ⟨⟨by decide +kernel, by decide +kernel⟩, List.mem_of_getElem? (i := 154) (by decide +kernel), List.mem_of_getElem? (i := 406) (by decide +kernel), List.mem_of_getElem? (i := 407) (by decide +kernel)⟩
theorem lw_p22 : lw_okq (⟨"LifeGrants$Reader", "readTerm", "(I)Z"⟩, 4) := ⟨⟨by decide +kernel, by decide +kernel⟩, List.mem_of_getElem? (i := 154) (by decide +kernel), List.mem_of_getElem? (i := 410) (by decide +kernel), List.mem_of_getElem? (i := 411) (by decide +kernel)⟩
theorem lw_p23 : lw_okq (⟨"LifeGrants$Reader", "readWord", "(Ljava/lang/String;)Z"⟩, 4) := ⟨⟨by decide +kernel, by decide +kernel⟩, List.mem_of_getElem? (i := 154) (by decide +kernel), List.mem_of_getElem? (i := 415) (by decide +kernel), List.mem_of_getElem? (i := 416) (by decide +kernel)⟩
theorem lw_p24 : lw_okq (⟨"LifeGrants$World", "keep", "(LLifeGrants$Grant;)I"⟩, 15) := ⟨⟨by decide +kernel, by decide +kernel⟩, List.mem_of_getElem? (i := 26) (by decide +kernel), List.mem_of_getElem? (i := 468) (by decide +kernel), List.mem_of_getElem? (i := 469) (by decide +kernel)⟩
theorem lw_p25 : lw_okq (⟨"LifeGrants$Grant", "repeat", "(LLifeGrants$Grant;)V"⟩, 3) := ⟨⟨by decide +kernel, by decide +kernel⟩, List.mem_of_getElem? (i := 33) (by decide +kernel), List.mem_of_getElem? (i := 472) (by decide +kernel), List.mem_of_getElem? (i := 473) (by decide +kernel)⟩
theorem lw_p26 : lw_okq (⟨"LifeGrants$World", "grantAt", "(I)LLifeGrants$Grant;"⟩, 15) := ⟨⟨by decide +kernel, by decide +kernel⟩, List.mem_of_getElem? (i := 26) (by decide +kernel), List.mem_of_getElem? (i := 482) (by decide +kernel), List.mem_of_getElem? (i := 483) (by decide +kernel)⟩
theorem lw_p27 : lw_okq (⟨"LifeGrants$Grant", "numbersIn", "()I"⟩, 3) := ⟨⟨by decide +kernel, by decide +kernel⟩, List.mem_of_getElem? (i := 33) (by decide +kernel), List.mem_of_getElem? (i := 486) (by decide +kernel), List.mem_of_getElem? (i := 487) (by decide +kernel)⟩
theorem lw_p28 : lw_okq (⟨"LifeGrants$Grant", "isNumberAt", "(I)Z"⟩, 3) := ⟨⟨by decide +kernel, by decide +kernel⟩, List.mem_of_getElem? (i := 33) (by decide +kernel), List.mem_of_getElem? (i := 490) (by decide +kernel), List.mem_of_getElem? (i := 491) (by decide +kernel)⟩
theorem lw_p29 : lw_okq (⟨"LifeGrants$Grant", "placeOfNumber", "(I)I"⟩, 3) := ⟨⟨by decide +kernel, by decide +kernel⟩, List.mem_of_getElem? (i := 33) (by decide +kernel), List.mem_of_getElem? (i := 495) (by decide +kernel), List.mem_of_getElem? (i := 496) (by decide +kernel)⟩
theorem lw_p30 : lw_okq (⟨"LifeGrants$Run", "go", "(LLifeGrants$Grant;LLifeGrants$Course;)V"⟩, 7) := ⟨⟨by decide +kernel, by decide +kernel⟩, List.mem_of_getElem? (i := 123) (by decide +kernel), List.mem_of_getElem? (i := 503) (by decide +kernel), List.mem_of_getElem? (i := 504) (by decide +kernel)⟩
theorem lw_p31 : lw_okq (⟨"LifeGrants$Run", "turnTo", "(I)V"⟩, 7) := ⟨⟨by decide +kernel, by decide +kernel⟩, List.mem_of_getElem? (i := 123) (by decide +kernel), List.mem_of_getElem? (i := 508) (by decide +kernel), List.mem_of_getElem? (i := 509) (by decide +kernel)⟩
def lw_privs_2 : List (MethodName × Nat) := [(⟨"LifeGrants$Reader", "readCond", "(II)Z"⟩, 4), (⟨"LifeGrants$Reader", "readPart", "(IIII)Z"⟩, 4), (⟨"LifeGrants$Grant", "say", "(IIII)V"⟩, 3), (⟨"LifeGrants$Reader", "readNumber", "()I"⟩, 4), (⟨"LifeGrants$Reader", "readDigit", "(I)I"⟩, 4), (⟨"LifeGrants$Reader", "readWho", "(I)Z"⟩, 4), (⟨"LifeGrants$Reader", "readTerm", "(I)Z"⟩, 4), (⟨"LifeGrants$Reader", "readWord", "(Ljava/lang/String;)Z"⟩, 4), (⟨"LifeGrants$World", "keep", "(LLifeGrants$Grant;)I"⟩, 15), (⟨"LifeGrants$Grant", "repeat", "(LLifeGrants$Grant;)V"⟩, 3), (⟨"LifeGrants$World", "grantAt", "(I)LLifeGrants$Grant;"⟩, 15), (⟨"LifeGrants$Grant", "numbersIn", "()I"⟩, 3), (⟨"LifeGrants$Grant", "isNumberAt", "(I)Z"⟩, 3), (⟨"LifeGrants$Grant", "placeOfNumber", "(I)I"⟩, 3), (⟨"LifeGrants$Run", "go", "(LLifeGrants$Grant;LLifeGrants$Course;)V"⟩, 7), (⟨"LifeGrants$Run", "turnTo", "(I)V"⟩, 7)]
theorem lw_r2 : ∀ q ∈ lw_privs_2, lw_okq q := List.forall_mem_cons.mpr ⟨lw_p16, List.forall_mem_cons.mpr ⟨lw_p17, List.forall_mem_cons.mpr ⟨lw_p18, List.forall_mem_cons.mpr ⟨lw_p19, List.forall_mem_cons.mpr ⟨lw_p20, List.forall_mem_cons.mpr ⟨lw_p21, List.forall_mem_cons.mpr ⟨lw_p22, List.forall_mem_cons.mpr ⟨lw_p23, List.forall_mem_cons.mpr ⟨lw_p24, List.forall_mem_cons.mpr ⟨lw_p25, List.forall_mem_cons.mpr ⟨lw_p26, List.forall_mem_cons.mpr ⟨lw_p27, List.forall_mem_cons.mpr ⟨lw_p28, List.forall_mem_cons.mpr ⟨lw_p29, List.forall_mem_cons.mpr ⟨lw_p30, List.forall_mem_cons.mpr ⟨lw_p31, fun _ h => absurd h List.not_mem_nil⟩⟩⟩⟩⟩⟩⟩⟩⟩⟩⟩⟩⟩⟩⟩⟩
theorem lw_p32 : lw_okq (⟨"LifeGrants$Run", "shift", "(LLifeGrants$Grant;LLifeGrants$Course;I)V"⟩, 7) := ⟨⟨by decide +kernel, by decide +kernel⟩, List.mem_of_getElem? (i := 123) (by decide +kernel), List.mem_of_getElem? (i := 512) (by decide +kernel), List.mem_of_getElem? (i := 513) (by decide +kernel)⟩
theorem lw_p33 : lw_okq (⟨"LifeGrants$Grant", "letter", "(II)I"⟩, 3) := ⟨⟨by decide +kernel, by decide +kernel⟩, List.mem_of_getElem? (i := 33) (by decide +kernel), List.mem_of_getElem? (i := 516) (by decide +kernel), List.mem_of_getElem? (i := 517) (by decide +kernel)⟩
theorem lw_p34 : lw_okq (⟨"LifeGrants$Grant", "number", "(II)I"⟩, 3) := ⟨⟨by decide +kernel, by decide +kernel⟩, List.mem_of_getElem? (i := 33) (by decide +kernel), List.mem_of_getElem? (i := 520) (by decide +kernel), List.mem_of_getElem? (i := 521) (by decide +kernel)⟩
theorem lw_p35 : lw_okq (⟨"LifeGrants$Course", "isDone", "(II)Z"⟩, 12) := ⟨⟨by decide +kernel, by decide +kernel⟩, List.mem_of_getElem? (i := 193) (by decide +kernel), List.mem_of_getElem? (i := 524) (by decide +kernel), List.mem_of_getElem? (i := 525) (by decide +kernel)⟩
theorem lw_p36 : lw_okq (⟨"LifeGrants$Run", "settle", "(LLifeGrants$Grant;LLifeGrants$Course;I)V"⟩, 7) := ⟨⟨by decide +kernel, by decide +kernel⟩, List.mem_of_getElem? (i := 123) (by decide +kernel), List.mem_of_getElem? (i := 528) (by decide +kernel), List.mem_of_getElem? (i := 529) (by decide +kernel)⟩
theorem lw_p37 : lw_okq (⟨"LifeGrants$Run", "begin", "(LLifeGrants$Grant;LLifeGrants$Course;I)V"⟩, 7) := ⟨⟨by decide +kernel, by decide +kernel⟩, List.mem_of_getElem? (i := 123) (by decide +kernel), List.mem_of_getElem? (i := 532) (by decide +kernel), List.mem_of_getElem? (i := 533) (by decide +kernel)⟩
theorem lw_p38 : lw_okq (⟨"LifeGrants$Run", "named", "(LLifeGrants$Grant;LLifeGrants$Course;)I"⟩, 7) := ⟨⟨by decide +kernel, by decide +kernel⟩, List.mem_of_getElem? (i := 123) (by decide +kernel), List.mem_of_getElem? (i := 536) (by decide +kernel), List.mem_of_getElem? (i := 537) (by decide +kernel)⟩
theorem lw_p39 : lw_okq (⟨"LifeGrants$Course", "meeting", "(IIII)I"⟩, 12) := ⟨⟨by decide +kernel, by decide +kernel⟩, List.mem_of_getElem? (i := 193) (by decide +kernel), List.mem_of_getElem? (i := 541) (by decide +kernel), List.mem_of_getElem? (i := 542) (by decide +kernel)⟩
theorem lw_p40 : lw_okq (⟨"LifeGrants$Course", "thoseBornBy", "(II)I"⟩, 12) := ⟨⟨by decide +kernel, by decide +kernel⟩, List.mem_of_getElem? (i := 193) (by decide +kernel), List.mem_of_getElem? (i := 546) (by decide +kernel), List.mem_of_getElem? (i := 547) (by decide +kernel)⟩
theorem lw_p41 : lw_okq (⟨"LifeGrants$Course", "firstBorn", "(I)I"⟩, 12) := ⟨⟨by decide +kernel, by decide +kernel⟩, List.mem_of_getElem? (i := 193) (by decide +kernel), List.mem_of_getElem? (i := 550) (by decide +kernel), List.mem_of_getElem? (i := 551) (by decide +kernel)⟩
theorem lw_p42 : lw_okq (⟨"LifeGrants$Run", "hasEnded", "(LLifeGrants$Grant;LLifeGrants$Course;I)Z"⟩, 7) := ⟨⟨by decide +kernel, by decide +kernel⟩, List.mem_of_getElem? (i := 123) (by decide +kernel), List.mem_of_getElem? (i := 555) (by decide +kernel), List.mem_of_getElem? (i := 556) (by decide +kernel)⟩
theorem lw_p43 : lw_okq (⟨"LifeGrants$Run", "hasFailed", "(LLifeGrants$Grant;LLifeGrants$Course;I)Z"⟩, 7) := ⟨⟨by decide +kernel, by decide +kernel⟩, List.mem_of_getElem? (i := 123) (by decide +kernel), List.mem_of_getElem? (i := 559) (by decide +kernel), List.mem_of_getElem? (i := 560) (by decide +kernel)⟩
theorem lw_p44 : lw_okq (⟨"LifeGrants$Run", "turnToNext", "(LLifeGrants$Grant;)V"⟩, 7) := ⟨⟨by decide +kernel, by decide +kernel⟩, List.mem_of_getElem? (i := 123) (by decide +kernel), List.mem_of_getElem? (i := 563) (by decide +kernel), List.mem_of_getElem? (i := 564) (by decide +kernel)⟩
theorem lw_p45 : lw_okq (⟨"LifeGrants$Grant", "isShift", "(I)Z"⟩, 3) := ⟨⟨by decide +kernel, by decide +kernel⟩, List.mem_of_getElem? (i := 33) (by decide +kernel), List.mem_of_getElem? (i := 567) (by decide +kernel), List.mem_of_getElem? (i := 568) (by decide +kernel)⟩
theorem lw_p46 : lw_okq (⟨"LifeGrants$Grant", "hasClause", "(I)Z"⟩, 3) := ⟨⟨by decide +kernel, by decide +kernel⟩, List.mem_of_getElem? (i := 33) (by decide +kernel), List.mem_of_getElem? (i := 576) (by decide +kernel), List.mem_of_getElem? (i := 577) (by decide +kernel)⟩
theorem lw_p47 : lw_okq (⟨"LifeGrants", "coursesOfLate", "(LLifeGrants$Grant;II)J"⟩, 9) := ⟨⟨by decide +kernel, by decide +kernel⟩, List.mem_of_getElem? (i := 18) (by decide +kernel), List.mem_of_getElem? (i := 619) (by decide +kernel), List.mem_of_getElem? (i := 620) (by decide +kernel)⟩
def lw_privs_3 : List (MethodName × Nat) := [(⟨"LifeGrants$Run", "shift", "(LLifeGrants$Grant;LLifeGrants$Course;I)V"⟩, 7), (⟨"LifeGrants$Grant", "letter", "(II)I"⟩, 3), (⟨"LifeGrants$Grant", "number", "(II)I"⟩, 3), (⟨"LifeGrants$Course", "isDone", "(II)Z"⟩, 12), (⟨"LifeGrants$Run", "settle", "(LLifeGrants$Grant;LLifeGrants$Course;I)V"⟩, 7), (⟨"LifeGrants$Run", "begin", "(LLifeGrants$Grant;LLifeGrants$Course;I)V"⟩, 7), (⟨"LifeGrants$Run", "named", "(LLifeGrants$Grant;LLifeGrants$Course;)I"⟩, 7), (⟨"LifeGrants$Course", "meeting", "(IIII)I"⟩, 12), (⟨"LifeGrants$Course", "thoseBornBy", "(II)I"⟩, 12), (⟨"LifeGrants$Course", "firstBorn", "(I)I"⟩, 12), (⟨"LifeGrants$Run", "hasEnded", "(LLifeGrants$Grant;LLifeGrants$Course;I)Z"⟩, 7), (⟨"LifeGrants$Run", "hasFailed", "(LLifeGrants$Grant;LLifeGrants$Course;I)Z"⟩, 7), (⟨"LifeGrants$Run", "turnToNext", "(LLifeGrants$Grant;)V"⟩, 7), (⟨"LifeGrants$Grant", "isShift", "(I)Z"⟩, 3), (⟨"LifeGrants$Grant", "hasClause", "(I)Z"⟩, 3), (⟨"LifeGrants", "coursesOfLate", "(LLifeGrants$Grant;II)J"⟩, 9)]
theorem lw_r3 : ∀ q ∈ lw_privs_3, lw_okq q := List.forall_mem_cons.mpr ⟨lw_p32, List.forall_mem_cons.mpr ⟨lw_p33, List.forall_mem_cons.mpr ⟨lw_p34, List.forall_mem_cons.mpr ⟨lw_p35, List.forall_mem_cons.mpr ⟨lw_p36, List.forall_mem_cons.mpr ⟨lw_p37, List.forall_mem_cons.mpr ⟨lw_p38, List.forall_mem_cons.mpr ⟨lw_p39, List.forall_mem_cons.mpr ⟨lw_p40, List.forall_mem_cons.mpr ⟨lw_p41, List.forall_mem_cons.mpr ⟨lw_p42, List.forall_mem_cons.mpr ⟨lw_p43, List.forall_mem_cons.mpr ⟨lw_p44, List.forall_mem_cons.mpr ⟨lw_p45, List.forall_mem_cons.mpr ⟨lw_p46, List.forall_mem_cons.mpr ⟨lw_p47, fun _ h => absurd h List.not_mem_nil⟩⟩⟩⟩⟩⟩⟩⟩⟩⟩⟩⟩⟩⟩⟩⟩
theorem lw_p48 : lw_okq (⟨"LifeGrants$World", "maybesUpTo", "(I)I"⟩, 15) := ⟨⟨by decide +kernel, by decide +kernel⟩, List.mem_of_getElem? (i := 26) (by decide +kernel), List.mem_of_getElem? (i := 631) (by decide +kernel), List.mem_of_getElem? (i := 632) (by decide +kernel)⟩
theorem lw_p49 : lw_okq (⟨"LifeGrants", "isSettled", "(JII)Z"⟩, 9) := ⟨⟨by decide +kernel, by decide +kernel⟩, List.mem_of_getElem? (i := 18) (by decide +kernel), List.mem_of_getElem? (i := 635) (by decide +kernel), List.mem_of_getElem? (i := 636) (by decide +kernel)⟩
theorem lw_p50 : lw_okq (⟨"LifeGrants", "lateClauses", "(LLifeGrants$Grant;I)I"⟩, 9) := ⟨⟨by decide +kernel, by decide +kernel⟩, List.mem_of_getElem? (i := 18) (by decide +kernel), List.mem_of_getElem? (i := 643) (by decide +kernel), List.mem_of_getElem? (i := 644) (by decide +kernel)⟩
theorem lw_p51 : lw_okq (⟨"LifeGrants$Run", "begunBehind", "(I)I"⟩, 7) := ⟨⟨by decide +kernel, by decide +kernel⟩, List.mem_of_getElem? (i := 123) (by decide +kernel), List.mem_of_getElem? (i := 647) (by decide +kernel), List.mem_of_getElem? (i := 648) (by decide +kernel)⟩
theorem lw_p52 : lw_okq (⟨"LifeGrants$Grant", "repeatWithout", "(LLifeGrants$Grant;I)V"⟩, 3) := ⟨⟨by decide +kernel, by decide +kernel⟩, List.mem_of_getElem? (i := 33) (by decide +kernel), List.mem_of_getElem? (i := 651) (by decide +kernel), List.mem_of_getElem? (i := 652) (by decide +kernel)⟩
theorem lw_p53 : lw_okq (⟨"LifeGrants", "goBoth", "(III)V"⟩, 9) := ⟨⟨by decide +kernel, by decide +kernel⟩, List.mem_of_getElem? (i := 18) (by decide +kernel), List.mem_of_getElem? (i := 670) (by decide +kernel), List.mem_of_getElem? (i := 671) (by decide +kernel)⟩
theorem lw_p54 : lw_okq (⟨"LifeGrants$Grant", "kindOf", "(I)I"⟩, 3) := ⟨⟨by decide +kernel, by decide +kernel⟩, List.mem_of_getElem? (i := 33) (by decide +kernel), List.mem_of_getElem? (i := 686) (by decide +kernel), List.mem_of_getElem? (i := 687) (by decide +kernel)⟩
theorem lw_p55 : lw_okq (⟨"LifeGrants$Interest", "be", "(III)V"⟩, 3) := ⟨⟨by decide +kernel, by decide +kernel⟩, List.mem_of_getElem? (i := 178) (by decide +kernel), List.mem_of_getElem? (i := 691) (by decide +kernel), List.mem_of_getElem? (i := 692) (by decide +kernel)⟩
theorem lw_p56 : lw_okq (⟨"LifeGrants$Interest", "doHas", "(LLifeGrants$World;I)I"⟩, 3) := ⟨⟨by decide +kernel, by decide +kernel⟩, List.mem_of_getElem? (i := 178) (by decide +kernel), List.mem_of_getElem? (i := 695) (by decide +kernel), List.mem_of_getElem? (i := 696) (by decide +kernel)⟩
theorem lw_p57 : lw_okq (⟨"LifeGrants$World", "ranBody", "(I)V"⟩, 15) := ⟨⟨by decide +kernel, by decide +kernel⟩, List.mem_of_getElem? (i := 26) (by decide +kernel), List.mem_of_getElem? (i := 699) (by decide +kernel), List.mem_of_getElem? (i := 700) (by decide +kernel)⟩
theorem lw_p58 : lw_okq (⟨"LifeGrants$Interest", "doWaits", "(LLifeGrants$World;I)I"⟩, 3) := ⟨⟨by decide +kernel, by decide +kernel⟩, List.mem_of_getElem? (i := 178) (by decide +kernel), List.mem_of_getElem? (i := 703) (by decide +kernel), List.mem_of_getElem? (i := 704) (by decide +kernel)⟩
theorem lw_p59 : lw_okq (⟨"LifeGrants$Interest", "waitsOfInterest", "(LLifeGrants$World;I)I"⟩, 3) := ⟨⟨by decide +kernel, by decide +kernel⟩, List.mem_of_getElem? (i := 178) (by decide +kernel), List.mem_of_getElem? (i := 712) (by decide +kernel), List.mem_of_getElem? (i := 713) (by decide +kernel)⟩
theorem lw_p60 : lw_okq (⟨"LifeGrants$Interest", "doEnds", "(LLifeGrants$World;I)I"⟩, 3) := ⟨⟨by decide +kernel, by decide +kernel⟩, List.mem_of_getElem? (i := 178) (by decide +kernel), List.mem_of_getElem? (i := 717) (by decide +kernel), List.mem_of_getElem? (i := 718) (by decide +kernel)⟩
theorem lw_p61 : lw_okq (⟨"LifeGrants$Interest", "endsOfInterest", "(LLifeGrants$World;I)I"⟩, 3) := ⟨⟨by decide +kernel, by decide +kernel⟩, List.mem_of_getElem? (i := 178) (by decide +kernel), List.mem_of_getElem? (i := 721) (by decide +kernel), List.mem_of_getElem? (i := 722) (by decide +kernel)⟩
theorem lw_p62 : lw_okq (⟨"LifeGrants$World", "become", "(LLifeGrants$World;)V"⟩, 15) := ⟨⟨by decide +kernel, by decide +kernel⟩, List.mem_of_getElem? (i := 26) (by decide +kernel), List.mem_of_getElem? (i := 739) (by decide +kernel), List.mem_of_getElem? (i := 740) (by decide +kernel)⟩
theorem lw_p63 : lw_okq (⟨"LifeGrantsModel", "isThere", "(I)Z"⟩, 25) := ⟨⟨by decide +kernel, by decide +kernel⟩, List.mem_of_getElem? (i := 752) (by decide +kernel), List.mem_of_getElem? (i := 845) (by decide +kernel), List.mem_of_getElem? (i := 846) (by decide +kernel)⟩
def lw_privs_4 : List (MethodName × Nat) := [(⟨"LifeGrants$World", "maybesUpTo", "(I)I"⟩, 15), (⟨"LifeGrants", "isSettled", "(JII)Z"⟩, 9), (⟨"LifeGrants", "lateClauses", "(LLifeGrants$Grant;I)I"⟩, 9), (⟨"LifeGrants$Run", "begunBehind", "(I)I"⟩, 7), (⟨"LifeGrants$Grant", "repeatWithout", "(LLifeGrants$Grant;I)V"⟩, 3), (⟨"LifeGrants", "goBoth", "(III)V"⟩, 9), (⟨"LifeGrants$Grant", "kindOf", "(I)I"⟩, 3), (⟨"LifeGrants$Interest", "be", "(III)V"⟩, 3), (⟨"LifeGrants$Interest", "doHas", "(LLifeGrants$World;I)I"⟩, 3), (⟨"LifeGrants$World", "ranBody", "(I)V"⟩, 15), (⟨"LifeGrants$Interest", "doWaits", "(LLifeGrants$World;I)I"⟩, 3), (⟨"LifeGrants$Interest", "waitsOfInterest", "(LLifeGrants$World;I)I"⟩, 3), (⟨"LifeGrants$Interest", "doEnds", "(LLifeGrants$World;I)I"⟩, 3), (⟨"LifeGrants$Interest", "endsOfInterest", "(LLifeGrants$World;I)I"⟩, 3), (⟨"LifeGrants$World", "become", "(LLifeGrants$World;)V"⟩, 15), (⟨"LifeGrantsModel", "isThere", "(I)Z"⟩, 25)]
theorem lw_r4 : ∀ q ∈ lw_privs_4, lw_okq q := List.forall_mem_cons.mpr ⟨lw_p48, List.forall_mem_cons.mpr ⟨lw_p49, List.forall_mem_cons.mpr ⟨lw_p50, List.forall_mem_cons.mpr ⟨lw_p51, List.forall_mem_cons.mpr ⟨lw_p52, List.forall_mem_cons.mpr ⟨lw_p53, List.forall_mem_cons.mpr ⟨lw_p54, List.forall_mem_cons.mpr ⟨lw_p55, List.forall_mem_cons.mpr ⟨lw_p56, List.forall_mem_cons.mpr ⟨lw_p57, List.forall_mem_cons.mpr ⟨lw_p58, List.forall_mem_cons.mpr ⟨lw_p59, List.forall_mem_cons.mpr ⟨lw_p60, List.forall_mem_cons.mpr ⟨lw_p61, List.forall_mem_cons.mpr ⟨lw_p62, List.forall_mem_cons.mpr ⟨lw_p63, fun _ h => absurd h List.not_mem_nil⟩⟩⟩⟩⟩⟩⟩⟩⟩⟩⟩⟩⟩⟩⟩⟩
theorem lw_p64 : lw_okq (⟨"LifeGrantsModel", "isCourse", "(I)Z"⟩, 25) := ⟨⟨by decide +kernel, by decide +kernel⟩, List.mem_of_getElem? (i := 752) (by decide +kernel), List.mem_of_getElem? (i := 853) (by decide +kernel), List.mem_of_getElem? (i := 854) (by decide +kernel)⟩
theorem lw_p65 : lw_okq (⟨"LifeGrantsModel", "lives", "(I)V"⟩, 25) := ⟨⟨by decide +kernel, by decide +kernel⟩, List.mem_of_getElem? (i := 752) (by decide +kernel), List.mem_of_getElem? (i := 857) (by decide +kernel), List.mem_of_getElem? (i := 858) (by decide +kernel)⟩
theorem lw_p66 : lw_okq (⟨"LifeGrantsModel", "comes", "(I)V"⟩, 25) := ⟨⟨by decide +kernel, by decide +kernel⟩, List.mem_of_getElem? (i := 752) (by decide +kernel), List.mem_of_getElem? (i := 861) (by decide +kernel), List.mem_of_getElem? (i := 862) (by decide +kernel)⟩
theorem lw_p67 : lw_okq (⟨"LifeGrantsModel", "isAlive", "(II)Z"⟩, 25) := ⟨⟨by decide +kernel, by decide +kernel⟩, List.mem_of_getElem? (i := 752) (by decide +kernel), List.mem_of_getElem? (i := 865) (by decide +kernel), List.mem_of_getElem? (i := 866) (by decide +kernel)⟩
theorem lw_p68 : lw_okq (⟨"LifeGrantsModel", "ageOf", "(II)I"⟩, 25) := ⟨⟨by decide +kernel, by decide +kernel⟩, List.mem_of_getElem? (i := 752) (by decide +kernel), List.mem_of_getElem? (i := 869) (by decide +kernel), List.mem_of_getElem? (i := 870) (by decide +kernel)⟩
theorem lw_p69 : lw_okq (⟨"LifeGrantsModel", "clause", "(IZ)V"⟩, 25) := ⟨⟨by decide +kernel, by decide +kernel⟩, List.mem_of_getElem? (i := 752) (by decide +kernel), List.mem_of_getElem? (i := 885) (by decide +kernel), List.mem_of_getElem? (i := 886) (by decide +kernel)⟩
theorem lw_p70 : lw_okq (⟨"LifeGrantsModel", "here", "()I"⟩, 25) := ⟨⟨by decide +kernel, by decide +kernel⟩, List.mem_of_getElem? (i := 752) (by decide +kernel), List.mem_of_getElem? (i := 889) (by decide +kernel), List.mem_of_getElem? (i := 890) (by decide +kernel)⟩
theorem lw_p71 : lw_okq (⟨"LifeGrantsModel", "cond", "(I)V"⟩, 25) := ⟨⟨by decide +kernel, by decide +kernel⟩, List.mem_of_getElem? (i := 752) (by decide +kernel), List.mem_of_getElem? (i := 893) (by decide +kernel), List.mem_of_getElem? (i := 894) (by decide +kernel)⟩
theorem lw_p72 : lw_okq (⟨"LifeGrantsModel", "figures", "()I"⟩, 25) := ⟨⟨by decide +kernel, by decide +kernel⟩, List.mem_of_getElem? (i := 752) (by decide +kernel), List.mem_of_getElem? (i := 897) (by decide +kernel), List.mem_of_getElem? (i := 898) (by decide +kernel)⟩
theorem lw_p73 : lw_okq (⟨"LifeGrantsModel", "figure", "(I)I"⟩, 25) := ⟨⟨by decide +kernel, by decide +kernel⟩, List.mem_of_getElem? (i := 752) (by decide +kernel), List.mem_of_getElem? (i := 901) (by decide +kernel), List.mem_of_getElem? (i := 902) (by decide +kernel)⟩
theorem lw_p74 : lw_okq (⟨"LifeGrantsModel", "must", "(I)V"⟩, 25) := ⟨⟨by decide +kernel, by decide +kernel⟩, List.mem_of_getElem? (i := 752) (by decide +kernel), List.mem_of_getElem? (i := 905) (by decide +kernel), List.mem_of_getElem? (i := 906) (by decide +kernel)⟩
theorem lw_p75 : lw_okq (⟨"LifeGrantsModel", "howLong", "(I)V"⟩, 25) := ⟨⟨by decide +kernel, by decide +kernel⟩, List.mem_of_getElem? (i := 752) (by decide +kernel), List.mem_of_getElem? (i := 909) (by decide +kernel), List.mem_of_getElem? (i := 910) (by decide +kernel)⟩
theorem lw_p76 : lw_okq (⟨"LifeGrantsModel", "spells", "(Ljava/lang/String;)V"⟩, 25) := ⟨⟨by decide +kernel, by decide +kernel⟩, List.mem_of_getElem? (i := 752) (by decide +kernel), List.mem_of_getElem? (i := 914) (by decide +kernel), List.mem_of_getElem? (i := 915) (by decide +kernel)⟩
theorem lw_p77 : lw_okq (⟨"LifeGrantsModel", "isGrant", "(I)Z"⟩, 25) := ⟨⟨by decide +kernel, by decide +kernel⟩, List.mem_of_getElem? (i := 752) (by decide +kernel), List.mem_of_getElem? (i := 926) (by decide +kernel), List.mem_of_getElem? (i := 927) (by decide +kernel)⟩
theorem lw_p78 : lw_okq (⟨"LifeGrantsModel", "placeOf", "(II)I"⟩, 25) := ⟨⟨by decide +kernel, by decide +kernel⟩, List.mem_of_getElem? (i := 752) (by decide +kernel), List.mem_of_getElem? (i := 930) (by decide +kernel), List.mem_of_getElem? (i := 931) (by decide +kernel)⟩
theorem lw_p79 : lw_okq (⟨"LifeGrantsModel", "goes", "(II)V"⟩, 25) := ⟨⟨by decide +kernel, by decide +kernel⟩, List.mem_of_getElem? (i := 752) (by decide +kernel), List.mem_of_getElem? (i := 938) (by decide +kernel), List.mem_of_getElem? (i := 939) (by decide +kernel)⟩
def lw_privs_5 : List (MethodName × Nat) := [(⟨"LifeGrantsModel", "isCourse", "(I)Z"⟩, 25), (⟨"LifeGrantsModel", "lives", "(I)V"⟩, 25), (⟨"LifeGrantsModel", "comes", "(I)V"⟩, 25), (⟨"LifeGrantsModel", "isAlive", "(II)Z"⟩, 25), (⟨"LifeGrantsModel", "ageOf", "(II)I"⟩, 25), (⟨"LifeGrantsModel", "clause", "(IZ)V"⟩, 25), (⟨"LifeGrantsModel", "here", "()I"⟩, 25), (⟨"LifeGrantsModel", "cond", "(I)V"⟩, 25), (⟨"LifeGrantsModel", "figures", "()I"⟩, 25), (⟨"LifeGrantsModel", "figure", "(I)I"⟩, 25), (⟨"LifeGrantsModel", "must", "(I)V"⟩, 25), (⟨"LifeGrantsModel", "howLong", "(I)V"⟩, 25), (⟨"LifeGrantsModel", "spells", "(Ljava/lang/String;)V"⟩, 25), (⟨"LifeGrantsModel", "isGrant", "(I)Z"⟩, 25), (⟨"LifeGrantsModel", "placeOf", "(II)I"⟩, 25), (⟨"LifeGrantsModel", "goes", "(II)V"⟩, 25)]
theorem lw_r5 : ∀ q ∈ lw_privs_5, lw_okq q := List.forall_mem_cons.mpr ⟨lw_p64, List.forall_mem_cons.mpr ⟨lw_p65, List.forall_mem_cons.mpr ⟨lw_p66, List.forall_mem_cons.mpr ⟨lw_p67, List.forall_mem_cons.mpr ⟨lw_p68, List.forall_mem_cons.mpr ⟨lw_p69, List.forall_mem_cons.mpr ⟨lw_p70, List.forall_mem_cons.mpr ⟨lw_p71, List.forall_mem_cons.mpr ⟨lw_p72, List.forall_mem_cons.mpr ⟨lw_p73, List.forall_mem_cons.mpr ⟨lw_p74, List.forall_mem_cons.mpr ⟨lw_p75, List.forall_mem_cons.mpr ⟨lw_p76, List.forall_mem_cons.mpr ⟨lw_p77, List.forall_mem_cons.mpr ⟨lw_p78, List.forall_mem_cons.mpr ⟨lw_p79, fun _ h => absurd h List.not_mem_nil⟩⟩⟩⟩⟩⟩⟩⟩⟩⟩⟩⟩⟩⟩⟩⟩
theorem lw_p80 : lw_okq (⟨"LifeGrantsModel", "runsNext", "(I)V"⟩, 25) := ⟨⟨by decide +kernel, by decide +kernel⟩, List.mem_of_getElem? (i := 752) (by decide +kernel), List.mem_of_getElem? (i := 942) (by decide +kernel), List.mem_of_getElem? (i := 943) (by decide +kernel)⟩
theorem lw_p81 : lw_okq (⟨"LifeGrantsModel", "yearGoes", "(II)V"⟩, 25) := ⟨⟨by decide +kernel, by decide +kernel⟩, List.mem_of_getElem? (i := 752) (by decide +kernel), List.mem_of_getElem? (i := 946) (by decide +kernel), List.mem_of_getElem? (i := 947) (by decide +kernel)⟩
theorem lw_p82 : lw_okq (⟨"LifeGrantsModel", "shiftOf", "(III)I"⟩, 25) := ⟨⟨by decide +kernel, by decide +kernel⟩, List.mem_of_getElem? (i := 752) (by decide +kernel), List.mem_of_getElem? (i := 950) (by decide +kernel), List.mem_of_getElem? (i := 951) (by decide +kernel)⟩
theorem lw_p83 : lw_okq (⟨"LifeGrantsModel", "takers", "(II)I"⟩, 25) := ⟨⟨by decide +kernel, by decide +kernel⟩, List.mem_of_getElem? (i := 752) (by decide +kernel), List.mem_of_getElem? (i := 954) (by decide +kernel), List.mem_of_getElem? (i := 955) (by decide +kernel)⟩
theorem lw_p84 : lw_okq (⟨"LifeGrantsModel", "holdsFor", "(IIII)Z"⟩, 25) := ⟨⟨by decide +kernel, by decide +kernel⟩, List.mem_of_getElem? (i := 752) (by decide +kernel), List.mem_of_getElem? (i := 958) (by decide +kernel), List.mem_of_getElem? (i := 959) (by decide +kernel)⟩
theorem lw_p85 : lw_okq (⟨"LifeGrantsModel", "children", "(IIII)I"⟩, 25) := ⟨⟨by decide +kernel, by decide +kernel⟩, List.mem_of_getElem? (i := 752) (by decide +kernel), List.mem_of_getElem? (i := 962) (by decide +kernel), List.mem_of_getElem? (i := 963) (by decide +kernel)⟩
theorem lw_p86 : lw_okq (⟨"LifeGrantsModel", "isChild", "(II)Z"⟩, 25) := ⟨⟨by decide +kernel, by decide +kernel⟩, List.mem_of_getElem? (i := 752) (by decide +kernel), List.mem_of_getElem? (i := 966) (by decide +kernel), List.mem_of_getElem? (i := 967) (by decide +kernel)⟩
theorem lw_p87 : lw_okq (⟨"LifeGrantsModel", "eldest", "(I)I"⟩, 25) := ⟨⟨by decide +kernel, by decide +kernel⟩, List.mem_of_getElem? (i := 752) (by decide +kernel), List.mem_of_getElem? (i := 970) (by decide +kernel), List.mem_of_getElem? (i := 971) (by decide +kernel)⟩
theorem lw_p88 : lw_okq (⟨"LifeGrantsModel", "isOlder", "(II)Z"⟩, 25) := ⟨⟨by decide +kernel, by decide +kernel⟩, List.mem_of_getElem? (i := 752) (by decide +kernel), List.mem_of_getElem? (i := 974) (by decide +kernel), List.mem_of_getElem? (i := 975) (by decide +kernel)⟩
theorem lw_p89 : lw_okq (⟨"LifeGrantsModel", "fails", "(II)Z"⟩, 25) := ⟨⟨by decide +kernel, by decide +kernel⟩, List.mem_of_getElem? (i := 752) (by decide +kernel), List.mem_of_getElem? (i := 978) (by decide +kernel), List.mem_of_getElem? (i := 979) (by decide +kernel)⟩
theorem lw_p90 : lw_okq (⟨"LifeGrantsModel", "nextOf", "(II)I"⟩, 25) := ⟨⟨by decide +kernel, by decide +kernel⟩, List.mem_of_getElem? (i := 752) (by decide +kernel), List.mem_of_getElem? (i := 982) (by decide +kernel), List.mem_of_getElem? (i := 983) (by decide +kernel)⟩
theorem lw_p91 : lw_okq (⟨"LifeGrantsModel", "ends", "(IIII)Z"⟩, 25) := ⟨⟨by decide +kernel, by decide +kernel⟩, List.mem_of_getElem? (i := 752) (by decide +kernel), List.mem_of_getElem? (i := 986) (by decide +kernel), List.mem_of_getElem? (i := 987) (by decide +kernel)⟩
theorem lw_p92 : lw_okq (⟨"LifeGrantsModel", "aliveOf", "(II)I"⟩, 25) := ⟨⟨by decide +kernel, by decide +kernel⟩, List.mem_of_getElem? (i := 752) (by decide +kernel), List.mem_of_getElem? (i := 990) (by decide +kernel), List.mem_of_getElem? (i := 991) (by decide +kernel)⟩
theorem lw_p93 : lw_okq (⟨"LifeGrantsModel", "isClause", "(II)Z"⟩, 25) := ⟨⟨by decide +kernel, by decide +kernel⟩, List.mem_of_getElem? (i := 752) (by decide +kernel), List.mem_of_getElem? (i := 998) (by decide +kernel), List.mem_of_getElem? (i := 999) (by decide +kernel)⟩
theorem lw_p94 : lw_okq (⟨"LifeGrantsModel", "courses", "()I"⟩, 25) := ⟨⟨by decide +kernel, by decide +kernel⟩, List.mem_of_getElem? (i := 752) (by decide +kernel), List.mem_of_getElem? (i := 1006) (by decide +kernel), List.mem_of_getElem? (i := 1007) (by decide +kernel)⟩
theorem lw_p95 : lw_okq (⟨"LifeGrantsModel", "lateShown", "(III)I"⟩, 25) := ⟨⟨by decide +kernel, by decide +kernel⟩, List.mem_of_getElem? (i := 752) (by decide +kernel), List.mem_of_getElem? (i := 1033) (by decide +kernel), List.mem_of_getElem? (i := 1034) (by decide +kernel)⟩
def lw_privs_6 : List (MethodName × Nat) := [(⟨"LifeGrantsModel", "runsNext", "(I)V"⟩, 25), (⟨"LifeGrantsModel", "yearGoes", "(II)V"⟩, 25), (⟨"LifeGrantsModel", "shiftOf", "(III)I"⟩, 25), (⟨"LifeGrantsModel", "takers", "(II)I"⟩, 25), (⟨"LifeGrantsModel", "holdsFor", "(IIII)Z"⟩, 25), (⟨"LifeGrantsModel", "children", "(IIII)I"⟩, 25), (⟨"LifeGrantsModel", "isChild", "(II)Z"⟩, 25), (⟨"LifeGrantsModel", "eldest", "(I)I"⟩, 25), (⟨"LifeGrantsModel", "isOlder", "(II)Z"⟩, 25), (⟨"LifeGrantsModel", "fails", "(II)Z"⟩, 25), (⟨"LifeGrantsModel", "nextOf", "(II)I"⟩, 25), (⟨"LifeGrantsModel", "ends", "(IIII)Z"⟩, 25), (⟨"LifeGrantsModel", "aliveOf", "(II)I"⟩, 25), (⟨"LifeGrantsModel", "isClause", "(II)Z"⟩, 25), (⟨"LifeGrantsModel", "courses", "()I"⟩, 25), (⟨"LifeGrantsModel", "lateShown", "(III)I"⟩, 25)]
theorem lw_r6 : ∀ q ∈ lw_privs_6, lw_okq q := List.forall_mem_cons.mpr ⟨lw_p80, List.forall_mem_cons.mpr ⟨lw_p81, List.forall_mem_cons.mpr ⟨lw_p82, List.forall_mem_cons.mpr ⟨lw_p83, List.forall_mem_cons.mpr ⟨lw_p84, List.forall_mem_cons.mpr ⟨lw_p85, List.forall_mem_cons.mpr ⟨lw_p86, List.forall_mem_cons.mpr ⟨lw_p87, List.forall_mem_cons.mpr ⟨lw_p88, List.forall_mem_cons.mpr ⟨lw_p89, List.forall_mem_cons.mpr ⟨lw_p90, List.forall_mem_cons.mpr ⟨lw_p91, List.forall_mem_cons.mpr ⟨lw_p92, List.forall_mem_cons.mpr ⟨lw_p93, List.forall_mem_cons.mpr ⟨lw_p94, List.forall_mem_cons.mpr ⟨lw_p95, fun _ h => absurd h List.not_mem_nil⟩⟩⟩⟩⟩⟩⟩⟩⟩⟩⟩⟩⟩⟩⟩⟩
theorem lw_p96 : lw_okq (⟨"LifeGrantsModel", "isLate", "(II)Z"⟩, 25) := ⟨⟨by decide +kernel, by decide +kernel⟩, List.mem_of_getElem? (i := 752) (by decide +kernel), List.mem_of_getElem? (i := 1037) (by decide +kernel), List.mem_of_getElem? (i := 1038) (by decide +kernel)⟩
theorem lw_p97 : lw_okq (⟨"LifeGrantsModel", "lastLife", "()I"⟩, 25) := ⟨⟨by decide +kernel, by decide +kernel⟩, List.mem_of_getElem? (i := 752) (by decide +kernel), List.mem_of_getElem? (i := 1041) (by decide +kernel), List.mem_of_getElem? (i := 1042) (by decide +kernel)⟩
theorem lw_p98 : lw_okq (⟨"LifeGrantsModel", "lates", "(II)I"⟩, 25) := ⟨⟨by decide +kernel, by decide +kernel⟩, List.mem_of_getElem? (i := 752) (by decide +kernel), List.mem_of_getElem? (i := 1057) (by decide +kernel), List.mem_of_getElem? (i := 1058) (by decide +kernel)⟩
theorem lw_p99 : lw_okq (⟨"LifeGrantsModel", "goesBoth", "(III)V"⟩, 25) := ⟨⟨by decide +kernel, by decide +kernel⟩, List.mem_of_getElem? (i := 752) (by decide +kernel), List.mem_of_getElem? (i := 1069) (by decide +kernel), List.mem_of_getElem? (i := 1070) (by decide +kernel)⟩
theorem lw_p100 : lw_okq (⟨"LifeGrantsModel", "kindOf", "(II)I"⟩, 25) := ⟨⟨by decide +kernel, by decide +kernel⟩, List.mem_of_getElem? (i := 752) (by decide +kernel), List.mem_of_getElem? (i := 1085) (by decide +kernel), List.mem_of_getElem? (i := 1086) (by decide +kernel)⟩
theorem lw_p101 : lw_okq (⟨"LifeGrantsModel", "hasActs", "(I)I"⟩, 25) := ⟨⟨by decide +kernel, by decide +kernel⟩, List.mem_of_getElem? (i := 752) (by decide +kernel), List.mem_of_getElem? (i := 1089) (by decide +kernel), List.mem_of_getElem? (i := 1090) (by decide +kernel)⟩
theorem lw_p102 : lw_okq (⟨"LifeGrantsModel", "runs", "(I)V"⟩, 25) := ⟨⟨by decide +kernel, by decide +kernel⟩, List.mem_of_getElem? (i := 752) (by decide +kernel), List.mem_of_getElem? (i := 1093) (by decide +kernel), List.mem_of_getElem? (i := 1094) (by decide +kernel)⟩
theorem lw_p103 : lw_okq (⟨"LifeGrantsModel", "plainHas", "(I)I"⟩, 25) := ⟨⟨by decide +kernel, by decide +kernel⟩, List.mem_of_getElem? (i := 752) (by decide +kernel), List.mem_of_getElem? (i := 1097) (by decide +kernel), List.mem_of_getElem? (i := 1098) (by decide +kernel)⟩
theorem lw_p104 : lw_okq (⟨"LifeGrantsModel", "waitsActs", "(I)I"⟩, 25) := ⟨⟨by decide +kernel, by decide +kernel⟩, List.mem_of_getElem? (i := 752) (by decide +kernel), List.mem_of_getElem? (i := 1101) (by decide +kernel), List.mem_of_getElem? (i := 1102) (by decide +kernel)⟩
theorem lw_p105 : lw_okq (⟨"LifeGrantsModel", "plainWaits", "(I)I"⟩, 25) := ⟨⟨by decide +kernel, by decide +kernel⟩, List.mem_of_getElem? (i := 752) (by decide +kernel), List.mem_of_getElem? (i := 1105) (by decide +kernel), List.mem_of_getElem? (i := 1106) (by decide +kernel)⟩
theorem lw_p106 : lw_okq (⟨"LifeGrantsModel", "endsActs", "(I)I"⟩, 25) := ⟨⟨by decide +kernel, by decide +kernel⟩, List.mem_of_getElem? (i := 752) (by decide +kernel), List.mem_of_getElem? (i := 1112) (by decide +kernel), List.mem_of_getElem? (i := 1113) (by decide +kernel)⟩
theorem lw_p107 : lw_okq (⟨"LifeGrantsModel", "plainEnds", "(I)I"⟩, 25) := ⟨⟨by decide +kernel, by decide +kernel⟩, List.mem_of_getElem? (i := 752) (by decide +kernel), List.mem_of_getElem? (i := 1116) (by decide +kernel), List.mem_of_getElem? (i := 1117) (by decide +kernel)⟩
def lw_privs_7 : List (MethodName × Nat) := [(⟨"LifeGrantsModel", "isLate", "(II)Z"⟩, 25), (⟨"LifeGrantsModel", "lastLife", "()I"⟩, 25), (⟨"LifeGrantsModel", "lates", "(II)I"⟩, 25), (⟨"LifeGrantsModel", "goesBoth", "(III)V"⟩, 25), (⟨"LifeGrantsModel", "kindOf", "(II)I"⟩, 25), (⟨"LifeGrantsModel", "hasActs", "(I)I"⟩, 25), (⟨"LifeGrantsModel", "runs", "(I)V"⟩, 25), (⟨"LifeGrantsModel", "plainHas", "(I)I"⟩, 25), (⟨"LifeGrantsModel", "waitsActs", "(I)I"⟩, 25), (⟨"LifeGrantsModel", "plainWaits", "(I)I"⟩, 25), (⟨"LifeGrantsModel", "endsActs", "(I)I"⟩, 25), (⟨"LifeGrantsModel", "plainEnds", "(I)I"⟩, 25)]
theorem lw_r7 : ∀ q ∈ lw_privs_7, lw_okq q := List.forall_mem_cons.mpr ⟨lw_p96, List.forall_mem_cons.mpr ⟨lw_p97, List.forall_mem_cons.mpr ⟨lw_p98, List.forall_mem_cons.mpr ⟨lw_p99, List.forall_mem_cons.mpr ⟨lw_p100, List.forall_mem_cons.mpr ⟨lw_p101, List.forall_mem_cons.mpr ⟨lw_p102, List.forall_mem_cons.mpr ⟨lw_p103, List.forall_mem_cons.mpr ⟨lw_p104, List.forall_mem_cons.mpr ⟨lw_p105, List.forall_mem_cons.mpr ⟨lw_p106, List.forall_mem_cons.mpr ⟨lw_p107, fun _ h => absurd h List.not_mem_nil⟩⟩⟩⟩⟩⟩⟩⟩⟩⟩⟩⟩
def lw_privs : List (MethodName × Nat) := lw_privs_1 ++ (lw_privs_2 ++ (lw_privs_3 ++ (lw_privs_4 ++ (lw_privs_5 ++ (lw_privs_6 ++ (lw_privs_7))))))
def lw_tbl : List Cond := k2_sels lw_privs ++ tables_1
theorem lw_privs_ok : ∀ q ∈ lw_privs, lw_okq q := by
  show ∀ q ∈ lw_privs_1 ++ (lw_privs_2 ++ (lw_privs_3 ++ (lw_privs_4 ++ (lw_privs_5 ++ (lw_privs_6 ++ (lw_privs_7)))))), lw_okq q
  exact List.forall_mem_append.mpr ⟨lw_r1, List.forall_mem_append.mpr ⟨lw_r2, List.forall_mem_append.mpr ⟨lw_r3, List.forall_mem_append.mpr ⟨lw_r4, List.forall_mem_append.mpr ⟨lw_r5, List.forall_mem_append.mpr ⟨lw_r6, lw_r7⟩⟩⟩⟩⟩⟩
theorem goodIn_r {big : List Cond} (ws : List Cond) (ps : List Nat) (hp : ws = ps.filterMap (fun i => big[i]?)) (h : ws.all goodWord = true) : GoodIn big ws := by
  intro w hw
  have h1 := List.all_eq_true.mp h w hw
  rw [hp] at hw
  obtain ⟨i, -, hi⟩ := List.mem_filterMap.mp hw
  have hm : w ∈ big := by first | exact List.mem_of_getElem? hi | exact List.getElem?_mem hi
  exact ⟨hm, good_of_word h1⟩
theorem goodIn_sub {big ws : List Cond} (hm : ∀ w ∈ ws, w ∈ big) (h : ws.all goodWord = true) : GoodIn big ws := fun w hw => ⟨hm w hw, good_of_word (List.all_eq_true.mp h w hw)⟩
def RX0 : String := "LifeGrants$Course"
def TX0 : u_T := fun k => match k with
  | 0 => ("LifeGrants$Course", "isLearnt", "Z", false)
  | 1 => ("LifeGrants$Course", "alive", "[I", true)
  | 2 => ("LifeGrants$Course", "wed", "[I", true)
  | 3 => ("LifeGrants$Course", "deeds", "[I", true)
  | 4 => ("LifeGrants$Course", "birth", "[I", true)
  | 5 => ("LifeGrants$Course", "death", "[I", true)
  | 6 => ("LifeGrants$Course", "children", "[I", true)
  | 7 => ("LifeGrants$Course", "lastToDie", "I", false)
  | 8 => ("LifeGrants$Course", "lastDeath", "I", false)
  | 9 => ("LifeGrants$Course", "aliveNow", "I", false)
  | 10 => ("LifeGrants$Course", "wedNow", "I", false)
  | _ => ("LifeGrants$Course", "deedsNow", "I", false)
def tyX0 : Nat → FieldType := fun k => match k with
  | 0 => .boolean
  | 1 => .array .int
  | 2 => .array .int
  | 3 => .array .int
  | 4 => .array .int
  | 5 => .array .int
  | 6 => .array .int
  | 7 => .int
  | 8 => .int
  | 9 => .int
  | 10 => .int
  | _ => .int
abbrev wsX00 : List Cond := u_ws RX0 TX0 12
theorem nmX0 : ∀ a, a < 12 → ∀ b, b < 12 → a ≠ b → (TX0 a).2.1 ≠ (TX0 b).2.1 := by decide +kernel
theorem tyX0_ok : ∀ k, k < 12 → parseFieldDescriptor (TX0 k).2.2.1 = some (tyX0 k) := by decide +kernel
abbrev cX0_init : ByteArray := prog_2_method_1_code
def yX0_init : MethodName := ⟨RX0, "<init>", "()V"⟩
abbrev cX0_learn : ByteArray := prog_2_method_2_code
def yX0_learn : MethodName := ⟨RX0, "learn", "(LLifeGrants$World;I)V"⟩
abbrev cX0_start : ByteArray := prog_2_method_3_code
def yX0_start : MethodName := ⟨RX0, "start", "(LLifeGrants$World;)V"⟩
abbrev cX0_addChild : ByteArray := prog_2_method_4_code
def yX0_addChild : MethodName := ⟨RX0, "addChild", "(II)V"⟩
abbrev cX0_come : ByteArray := prog_2_method_5_code
def yX0_come : MethodName := ⟨RX0, "come", "(IIII)V"⟩
abbrev cX0_findLast : ByteArray := prog_2_method_6_code
def yX0_findLast : MethodName := ⟨RX0, "findLast", "(I)V"⟩
abbrev cX0_meeting : ByteArray := prog_2_method_7_code
def yX0_meeting : MethodName := ⟨RX0, "meeting", "(IIII)I"⟩
abbrev cX0_isDone : ByteArray := prog_2_method_8_code
def yX0_isDone : MethodName := ⟨RX0, "isDone", "(II)Z"⟩
abbrev cX0_thoseBornBy : ByteArray := prog_2_method_9_code
def yX0_thoseBornBy : MethodName := ⟨RX0, "thoseBornBy", "(II)I"⟩
abbrev cX0_firstBorn : ByteArray := prog_2_method_10_code
def yX0_firstBorn : MethodName := ⟨RX0, "firstBorn", "(I)I"⟩
def RX1 : String := "LifeGrants$Grant"
def TX1 : u_T := fun k => match k with
  | 0 => ("LifeGrants$Grant", "clauses", "I", false)
  | 1 => ("LifeGrants$Grant", "letters", "[I", true)
  | _ => ("LifeGrants$Grant", "numbers", "[I", true)
def tyX1 : Nat → FieldType := fun k => match k with
  | 0 => .int
  | 1 => .array .int
  | _ => .array .int
abbrev wsX10 : List Cond := u_ws RX1 TX1 3
theorem nmX1 : ∀ a, a < 3 → ∀ b, b < 3 → a ≠ b → (TX1 a).2.1 ≠ (TX1 b).2.1 := by decide +kernel
theorem tyX1_ok : ∀ k, k < 3 → parseFieldDescriptor (TX1 k).2.2.1 = some (tyX1 k) := by decide +kernel
abbrev cX1_init : ByteArray := prog_3_method_1_code
def yX1_init : MethodName := ⟨RX1, "<init>", "()V"⟩
abbrev cX1_clear : ByteArray := prog_3_method_2_code
def yX1_clear : MethodName := ⟨RX1, "clear", "()V"⟩
abbrev cX1_repeat : ByteArray := prog_3_method_3_code
def yX1_repeat : MethodName := ⟨RX1, "repeat", "(LLifeGrants$Grant;)V"⟩
abbrev cX1_repeatWithout : ByteArray := prog_3_method_4_code
def yX1_repeatWithout : MethodName := ⟨RX1, "repeatWithout", "(LLifeGrants$Grant;I)V"⟩
abbrev cX1_say : ByteArray := prog_3_method_5_code
def yX1_say : MethodName := ⟨RX1, "say", "(IIII)V"⟩
abbrev cX1_letter : ByteArray := prog_3_method_6_code
def yX1_letter : MethodName := ⟨RX1, "letter", "(II)I"⟩
abbrev cX1_number : ByteArray := prog_3_method_7_code
def yX1_number : MethodName := ⟨RX1, "number", "(II)I"⟩
abbrev cX1_hasClause : ByteArray := prog_3_method_8_code
def yX1_hasClause : MethodName := ⟨RX1, "hasClause", "(I)Z"⟩
abbrev cX1_isShift : ByteArray := prog_3_method_9_code
def yX1_isShift : MethodName := ⟨RX1, "isShift", "(I)Z"⟩
abbrev cX1_isNumberAt : ByteArray := prog_3_method_10_code
def yX1_isNumberAt : MethodName := ⟨RX1, "isNumberAt", "(I)Z"⟩
abbrev cX1_numbersIn : ByteArray := prog_3_method_11_code
def yX1_numbersIn : MethodName := ⟨RX1, "numbersIn", "()I"⟩
abbrev cX1_placeOfNumber : ByteArray := prog_3_method_12_code
def yX1_placeOfNumber : MethodName := ⟨RX1, "placeOfNumber", "(I)I"⟩
abbrev cX1_kindOf : ByteArray := prog_3_method_13_code
def yX1_kindOf : MethodName := ⟨RX1, "kindOf", "(I)I"⟩
def RX2 : String := "LifeGrants$Interest"
def TX2 : u_T := fun k => match k with
  | 0 => ("LifeGrants$Interest", "kind", "I", false)
  | 1 => ("LifeGrants$Interest", "grant", "I", false)
  | _ => ("LifeGrants$Interest", "clause", "I", false)
def tyX2 : Nat → FieldType := fun k => match k with
  | 0 => .int
  | 1 => .int
  | _ => .int
abbrev wsX20 : List Cond := u_ws RX2 TX2 3
theorem nmX2 : ∀ a, a < 3 → ∀ b, b < 3 → a ≠ b → (TX2 a).2.1 ≠ (TX2 b).2.1 := by decide +kernel
theorem tyX2_ok : ∀ k, k < 3 → parseFieldDescriptor (TX2 k).2.2.1 = some (tyX2 k) := by decide +kernel
abbrev cX2_init : ByteArray := prog_4_method_1_code
def yX2_init : MethodName := ⟨RX2, "<init>", "()V"⟩
abbrev cX2_be : ByteArray := prog_4_method_2_code
def yX2_be : MethodName := ⟨RX2, "be", "(III)V"⟩
abbrev cX2_doHas : ByteArray := prog_4_method_3_code
def yX2_doHas : MethodName := ⟨RX2, "doHas", "(LLifeGrants$World;I)I"⟩
abbrev cX2_doWaits : ByteArray := prog_4_method_4_code
def yX2_doWaits : MethodName := ⟨RX2, "doWaits", "(LLifeGrants$World;I)I"⟩
abbrev cX2_waitsOfInterest : ByteArray := prog_4_method_5_code
def yX2_waitsOfInterest : MethodName := ⟨RX2, "waitsOfInterest", "(LLifeGrants$World;I)I"⟩
abbrev cX2_doEnds : ByteArray := prog_4_method_6_code
def yX2_doEnds : MethodName := ⟨RX2, "doEnds", "(LLifeGrants$World;I)I"⟩
abbrev cX2_endsOfInterest : ByteArray := prog_4_method_7_code
def yX2_endsOfInterest : MethodName := ⟨RX2, "endsOfInterest", "(LLifeGrants$World;I)I"⟩
def RX3 : String := "LifeGrants$Reader"
def TX3 : u_T := fun k => match k with
  | 0 => ("LifeGrants$Reader", "grant", "LLifeGrants$Grant;", true)
  | 1 => ("LifeGrants$Reader", "text", "[I", true)
  | 2 => ("LifeGrants$Reader", "size", "I", false)
  | _ => ("LifeGrants$Reader", "place", "I", false)
def tyX3 : Nat → FieldType := fun k => match k with
  | 0 => .object "LifeGrants$Grant"
  | 1 => .array .int
  | 2 => .int
  | _ => .int
abbrev wsX30 : List Cond := u_ws RX3 TX3 4
theorem nmX3 : ∀ a, a < 4 → ∀ b, b < 4 → a ≠ b → (TX3 a).2.1 ≠ (TX3 b).2.1 := by decide +kernel
theorem tyX3_ok : ∀ k, k < 4 → parseFieldDescriptor (TX3 k).2.2.1 = some (tyX3 k) := by decide +kernel
abbrev cX3_init : ByteArray := prog_5_method_1_code
def yX3_init : MethodName := ⟨RX3, "<init>", "()V"⟩
abbrev cX3_read : ByteArray := prog_5_method_2_code
def yX3_read : MethodName := ⟨RX3, "read", "([II)I"⟩
abbrev cX3_readClause : ByteArray := prog_5_method_3_code
def yX3_readClause : MethodName := ⟨RX3, "readClause", "(I)Z"⟩
abbrev cX3_readWho : ByteArray := prog_5_method_4_code
def yX3_readWho : MethodName := ⟨RX3, "readWho", "(I)Z"⟩
abbrev cX3_readTerm : ByteArray := prog_5_method_5_code
def yX3_readTerm : MethodName := ⟨RX3, "readTerm", "(I)Z"⟩
abbrev cX3_readCond : ByteArray := prog_5_method_6_code
def yX3_readCond : MethodName := ⟨RX3, "readCond", "(II)Z"⟩
abbrev cX3_readPart : ByteArray := prog_5_method_7_code
def yX3_readPart : MethodName := ⟨RX3, "readPart", "(IIII)Z"⟩
abbrev cX3_readWord : ByteArray := prog_5_method_8_code
def yX3_readWord : MethodName := ⟨RX3, "readWord", "(Ljava/lang/String;)Z"⟩
abbrev cX3_readNumber : ByteArray := prog_5_method_9_code
def yX3_readNumber : MethodName := ⟨RX3, "readNumber", "()I"⟩
abbrev cX3_readDigit : ByteArray := prog_5_method_10_code
def yX3_readDigit : MethodName := ⟨RX3, "readDigit", "(I)I"⟩
abbrev cX3_take : ByteArray := prog_5_method_11_code
def yX3_take : MethodName := ⟨RX3, "take", "(I)Z"⟩
abbrev cX3_next : ByteArray := prog_5_method_12_code
def yX3_next : MethodName := ⟨RX3, "next", "()I"⟩
def RX4 : String := "LifeGrants$Run"
def TX4 : u_T := fun k => match k with
  | 0 => ("LifeGrants$Run", "holders", "[I", true)
  | 1 => ("LifeGrants$Run", "clauses", "[I", true)
  | 2 => ("LifeGrants$Run", "began", "[I", true)
  | 3 => ("LifeGrants$Run", "clause", "I", false)
  | 4 => ("LifeGrants$Run", "isRunning", "Z", false)
  | 5 => ("LifeGrants$Run", "hasBegun", "Z", false)
  | _ => ("LifeGrants$Run", "having", "I", false)
def tyX4 : Nat → FieldType := fun k => match k with
  | 0 => .array .int
  | 1 => .array .int
  | 2 => .array .int
  | 3 => .int
  | 4 => .boolean
  | 5 => .boolean
  | _ => .int
abbrev wsX40 : List Cond := u_ws RX4 TX4 7
theorem nmX4 : ∀ a, a < 7 → ∀ b, b < 7 → a ≠ b → (TX4 a).2.1 ≠ (TX4 b).2.1 := by decide +kernel
theorem tyX4_ok : ∀ k, k < 7 → parseFieldDescriptor (TX4 k).2.2.1 = some (tyX4 k) := by decide +kernel
abbrev cX4_init : ByteArray := prog_6_method_1_code
def yX4_init : MethodName := ⟨RX4, "<init>", "()V"⟩
abbrev cX4_go : ByteArray := prog_6_method_2_code
def yX4_go : MethodName := ⟨RX4, "go", "(LLifeGrants$Grant;LLifeGrants$Course;)V"⟩
abbrev cX4_begunBehind : ByteArray := prog_6_method_3_code
def yX4_begunBehind : MethodName := ⟨RX4, "begunBehind", "(I)I"⟩
abbrev cX4_turnTo : ByteArray := prog_6_method_4_code
def yX4_turnTo : MethodName := ⟨RX4, "turnTo", "(I)V"⟩
abbrev cX4_shift : ByteArray := prog_6_method_5_code
def yX4_shift : MethodName := ⟨RX4, "shift", "(LLifeGrants$Grant;LLifeGrants$Course;I)V"⟩
abbrev cX4_settle : ByteArray := prog_6_method_6_code
def yX4_settle : MethodName := ⟨RX4, "settle", "(LLifeGrants$Grant;LLifeGrants$Course;I)V"⟩
abbrev cX4_begin : ByteArray := prog_6_method_7_code
def yX4_begin : MethodName := ⟨RX4, "begin", "(LLifeGrants$Grant;LLifeGrants$Course;I)V"⟩
abbrev cX4_hasEnded : ByteArray := prog_6_method_8_code
def yX4_hasEnded : MethodName := ⟨RX4, "hasEnded", "(LLifeGrants$Grant;LLifeGrants$Course;I)Z"⟩
abbrev cX4_hasFailed : ByteArray := prog_6_method_9_code
def yX4_hasFailed : MethodName := ⟨RX4, "hasFailed", "(LLifeGrants$Grant;LLifeGrants$Course;I)Z"⟩
abbrev cX4_named : ByteArray := prog_6_method_10_code
def yX4_named : MethodName := ⟨RX4, "named", "(LLifeGrants$Grant;LLifeGrants$Course;)I"⟩
abbrev cX4_turnToNext : ByteArray := prog_6_method_11_code
def yX4_turnToNext : MethodName := ⟨RX4, "turnToNext", "(LLifeGrants$Grant;)V"⟩
def RX5 : String := "LifeGrants$World"
def TX5 : u_T := fun k => match k with
  | 0 => ("LifeGrants$World", "persons", "I", false)
  | 1 => ("LifeGrants$World", "age", "[I", true)
  | 2 => ("LifeGrants$World", "parent", "[I", true)
  | 3 => ("LifeGrants$World", "maybes", "I", false)
  | 4 => ("LifeGrants$World", "kind", "[I", true)
  | 5 => ("LifeGrants$World", "who", "[I", true)
  | 6 => ("LifeGrants$World", "year", "[I", true)
  | 7 => ("LifeGrants$World", "grants", "I", false)
  | 8 => ("LifeGrants$World", "given", "[LLifeGrants$Grant;", true)
  | 9 => ("LifeGrants$World", "tapeSize", "I", false)
  | 10 => ("LifeGrants$World", "tape", "[I", true)
  | 11 => ("LifeGrants$World", "rowSize", "I", false)
  | 12 => ("LifeGrants$World", "row", "[I", true)
  | 13 => ("LifeGrants$World", "ran", "I", false)
  | _ => ("LifeGrants$World", "trace", "[I", true)
def tyX5 : Nat → FieldType := fun k => match k with
  | 0 => .int
  | 1 => .array .int
  | 2 => .array .int
  | 3 => .int
  | 4 => .array .int
  | 5 => .array .int
  | 6 => .array .int
  | 7 => .int
  | 8 => .array (.object "LifeGrants$Grant")
  | 9 => .int
  | 10 => .array .int
  | 11 => .int
  | 12 => .array .int
  | 13 => .int
  | _ => .array .int
abbrev wsX50 : List Cond := u_ws RX5 TX5 15
theorem nmX5 : ∀ a, a < 15 → ∀ b, b < 15 → a ≠ b → (TX5 a).2.1 ≠ (TX5 b).2.1 := by decide +kernel
theorem tyX5_ok : ∀ k, k < 15 → parseFieldDescriptor (TX5 k).2.2.1 = some (tyX5 k) := by decide +kernel
abbrev cX5_init : ByteArray := prog_7_method_1_code
def yX5_init : MethodName := ⟨RX5, "<init>", "()V"⟩
abbrev cX5_become : ByteArray := prog_7_method_2_code
def yX5_become : MethodName := ⟨RX5, "become", "(LLifeGrants$World;)V"⟩
abbrev cX5_isPerson : ByteArray := prog_7_method_3_code
def yX5_isPerson : MethodName := ⟨RX5, "isPerson", "(I)Z"⟩
abbrev cX5_isChild : ByteArray := prog_7_method_4_code
def yX5_isChild : MethodName := ⟨RX5, "isChild", "(I)Z"⟩
abbrev cX5_maybesUpTo : ByteArray := prog_7_method_5_code
def yX5_maybesUpTo : MethodName := ⟨RX5, "maybesUpTo", "(I)I"⟩
abbrev cX5_grantAt : ByteArray := prog_7_method_6_code
def yX5_grantAt : MethodName := ⟨RX5, "grantAt", "(I)LLifeGrants$Grant;"⟩
abbrev cX5_keep : ByteArray := prog_7_method_7_code
def yX5_keep : MethodName := ⟨RX5, "keep", "(LLifeGrants$Grant;)I"⟩
abbrev cX5_ranBody : ByteArray := prog_7_method_8_code
def yX5_ranBody : MethodName := ⟨RX5, "ranBody", "(I)V"⟩
def RX6 : String := "LifeGrants"
def TX6 : u_T := fun k => match k with
  | 0 => ("LifeGrants", "world", "LLifeGrants$World;", true)
  | 1 => ("LifeGrants", "kept", "LLifeGrants$World;", true)
  | 2 => ("LifeGrants", "isKept", "Z", false)
  | 3 => ("LifeGrants", "courses", "[LLifeGrants$Course;", true)
  | 4 => ("LifeGrants", "run", "LLifeGrants$Run;", true)
  | 5 => ("LifeGrants", "secondRun", "LLifeGrants$Run;", true)
  | 6 => ("LifeGrants", "reader", "LLifeGrants$Reader;", true)
  | 7 => ("LifeGrants", "draft", "LLifeGrants$Grant;", true)
  | _ => ("LifeGrants", "interest", "LLifeGrants$Interest;", true)
def tyX6 : Nat → FieldType := fun k => match k with
  | 0 => .object "LifeGrants$World"
  | 1 => .object "LifeGrants$World"
  | 2 => .boolean
  | 3 => .array (.object "LifeGrants$Course")
  | 4 => .object "LifeGrants$Run"
  | 5 => .object "LifeGrants$Run"
  | 6 => .object "LifeGrants$Reader"
  | 7 => .object "LifeGrants$Grant"
  | _ => .object "LifeGrants$Interest"
abbrev wsX60 : List Cond := u_ws RX6 TX6 9
theorem nmX6 : ∀ a, a < 9 → ∀ b, b < 9 → a ≠ b → (TX6 a).2.1 ≠ (TX6 b).2.1 := by decide +kernel
theorem tyX6_ok : ∀ k, k < 9 → parseFieldDescriptor (TX6 k).2.2.1 = some (tyX6 k) := by decide +kernel
abbrev cX6_init : ByteArray := prog_1_method_1_code
def yX6_init : MethodName := ⟨RX6, "<init>", "()V"⟩
abbrev cX6_person : ByteArray := prog_1_method_2_code
def yX6_person : MethodName := ⟨RX6, "person", "(II)I"⟩
abbrev cX6_maybe : ByteArray := prog_1_method_3_code
def yX6_maybe : MethodName := ⟨RX6, "maybe", "(III)I"⟩
abbrev cX6_life : ByteArray := prog_1_method_4_code
def yX6_life : MethodName := ⟨RX6, "life", "(IIII)I"⟩
abbrev cX6_feed : ByteArray := prog_1_method_5_code
def yX6_feed : MethodName := ⟨RX6, "feed", "(JI)I"⟩
abbrev cX6_grant : ByteArray := prog_1_method_6_code
def yX6_grant : MethodName := ⟨RX6, "grant", "()I"⟩
abbrev cX6_told : ByteArray := prog_1_method_7_code
def yX6_told : MethodName := ⟨RX6, "told", "(II)I"⟩
abbrev cX6_has : ByteArray := prog_1_method_8_code
def yX6_has : MethodName := ⟨RX6, "has", "(IIII)I"⟩
abbrev cX6_began : ByteArray := prog_1_method_9_code
def yX6_began : MethodName := ⟨RX6, "began", "(III)I"⟩
abbrev cX6_sure : ByteArray := prog_1_method_10_code
def yX6_sure : MethodName := ⟨RX6, "sure", "(III)I"⟩
abbrev cX6_holders : ByteArray := prog_1_method_11_code
def yX6_holders : MethodName := ⟨RX6, "holders", "(II)I"⟩
abbrev cX6_share : ByteArray := prog_1_method_12_code
def yX6_share : MethodName := ⟨RX6, "share", "(IIII)I"⟩
abbrev cX6_judged : ByteArray := prog_1_method_13_code
def yX6_judged : MethodName := ⟨RX6, "judged", "(II)I"⟩
abbrev cX6_row : ByteArray := prog_1_method_14_code
def yX6_row : MethodName := ⟨RX6, "row", "(I)I"⟩
abbrev cX6_late : ByteArray := prog_1_method_15_code
def yX6_late : MethodName := ⟨RX6, "late", "(IIII)I"⟩
abbrev cX6_measure : ByteArray := prog_1_method_16_code
def yX6_measure : MethodName := ⟨RX6, "measure", "(I)I"⟩
abbrev cX6_see : ByteArray := prog_1_method_17_code
def yX6_see : MethodName := ⟨RX6, "see", "(IIII)I"⟩
abbrev cX6_strike : ByteArray := prog_1_method_18_code
def yX6_strike : MethodName := ⟨RX6, "strike", "(II)I"⟩
abbrev cX6_mend : ByteArray := prog_1_method_19_code
def yX6_mend : MethodName := ⟨RX6, "mend", "(III)I"⟩
abbrev cX6_both : ByteArray := prog_1_method_20_code
def yX6_both : MethodName := ⟨RX6, "both", "(IIII)I"⟩
abbrev cX6_clash : ByteArray := prog_1_method_21_code
def yX6_clash : MethodName := ⟨RX6, "clash", "(III)I"⟩
abbrev cX6_same : ByteArray := prog_1_method_22_code
def yX6_same : MethodName := ⟨RX6, "same", "(II)I"⟩
abbrev cX6_act : ByteArray := prog_1_method_23_code
def yX6_act : MethodName := ⟨RX6, "act", "(IIII)I"⟩
abbrev cX6_trace : ByteArray := prog_1_method_24_code
def yX6_trace : MethodName := ⟨RX6, "trace", "(I)I"⟩
abbrev cX6_as : ByteArray := prog_1_method_25_code
def yX6_as : MethodName := ⟨RX6, "as", "(III)I"⟩
abbrev cX6_image : ByteArray := prog_1_method_26_code
def yX6_image : MethodName := ⟨RX6, "image", "()I"⟩
abbrev cX6_undo : ByteArray := prog_1_method_27_code
def yX6_undo : MethodName := ⟨RX6, "undo", "()I"⟩
abbrev cX6_count : ByteArray := prog_1_method_28_code
def yX6_count : MethodName := ⟨RX6, "count", "(I)I"⟩
abbrev cX6_isOneOfPeople : ByteArray := prog_1_method_29_code
def yX6_isOneOfPeople : MethodName := ⟨RX6, "isOneOfPeople", "(I)Z"⟩
abbrev cX6_isYear : ByteArray := prog_1_method_30_code
def yX6_isYear : MethodName := ⟨RX6, "isYear", "(I)Z"⟩
abbrev cX6_isNumber : ByteArray := prog_1_method_31_code
def yX6_isNumber : MethodName := ⟨RX6, "isNumber", "(I)Z"⟩
abbrev cX6_isCourse : ByteArray := prog_1_method_32_code
def yX6_isCourse : MethodName := ⟨RX6, "isCourse", "(I)Z"⟩
abbrev cX6_coursesThereAre : ByteArray := prog_1_method_33_code
def yX6_coursesThereAre : MethodName := ⟨RX6, "coursesThereAre", "()I"⟩
abbrev cX6_isUnder : ByteArray := prog_1_method_34_code
def yX6_isUnder : MethodName := ⟨RX6, "isUnder", "(II)Z"⟩
abbrev cX6_fewest : ByteArray := prog_1_method_35_code
def yX6_fewest : MethodName := ⟨RX6, "fewest", "(J)I"⟩
abbrev cX6_forgetCourses : ByteArray := prog_1_method_36_code
def yX6_forgetCourses : MethodName := ⟨RX6, "forgetCourses", "()V"⟩
abbrev cX6_courseOf : ByteArray := prog_1_method_37_code
def yX6_courseOf : MethodName := ⟨RX6, "courseOf", "(I)LLifeGrants$Course;"⟩
abbrev cX6_goBoth : ByteArray := prog_1_method_38_code
def yX6_goBoth : MethodName := ⟨RX6, "goBoth", "(III)V"⟩
abbrev cX6_lateClauses : ByteArray := prog_1_method_39_code
def yX6_lateClauses : MethodName := ⟨RX6, "lateClauses", "(LLifeGrants$Grant;I)I"⟩
abbrev cX6_coursesOfLate : ByteArray := prog_1_method_40_code
def yX6_coursesOfLate : MethodName := ⟨RX6, "coursesOfLate", "(LLifeGrants$Grant;II)J"⟩
abbrev cX6_isSettled : ByteArray := prog_1_method_41_code
def yX6_isSettled : MethodName := ⟨RX6, "isSettled", "(JII)Z"⟩
abbrev cX6_at : ByteArray := prog_1_method_42_code
def yX6_at : MethodName := ⟨RX6, "at", "([II)I"⟩
abbrev cX6_put : ByteArray := prog_1_method_43_code
def yX6_put : MethodName := ⟨RX6, "put", "([III)V"⟩
abbrev cX6_copy : ByteArray := prog_1_method_44_code
def yX6_copy : MethodName := ⟨RX6, "copy", "([I[I)V"⟩
abbrev cX6_fill : ByteArray := prog_1_method_45_code
def yX6_fill : MethodName := ⟨RX6, "fill", "([II)V"⟩
def RX7 : String := "LifeGrantsModel"
def TX7 : u_T := fun k => match k with
  | 0 => ("LifeGrantsModel", "thrown", "I", false)
  | 1 => ("LifeGrantsModel", "s", "[I", true)
  | 2 => ("LifeGrantsModel", "image", "[I", true)
  | 3 => ("LifeGrantsModel", "hasImage", "Z", false)
  | 4 => ("LifeGrantsModel", "born", "[I", true)
  | 5 => ("LifeGrantsModel", "dead", "[I", true)
  | 6 => ("LifeGrantsModel", "wed", "[I", true)
  | 7 => ("LifeGrantsModel", "deeds", "[I", true)
  | 8 => ("LifeGrantsModel", "spot", "I", false)
  | 9 => ("LifeGrantsModel", "size", "I", false)
  | 10 => ("LifeGrantsModel", "isWrong", "Z", false)
  | 11 => ("LifeGrantsModel", "hasSet", "[I", true)
  | 12 => ("LifeGrantsModel", "hasClause", "[I", true)
  | 13 => ("LifeGrantsModel", "beganAt", "[I", true)
  | 14 => ("LifeGrantsModel", "running", "I", false)
  | 15 => ("LifeGrantsModel", "ranLast", "I", false)
  | 16 => ("LifeGrantsModel", "hasBegun", "Z", false)
  | 17 => ("LifeGrantsModel", "taken", "I", false)
  | 18 => ("LifeGrantsModel", "lateIn", "[Z", true)
  | 19 => ("LifeGrantsModel", "firstSet", "[I", true)
  | 20 => ("LifeGrantsModel", "bodies", "[I", true)
  | 21 => ("LifeGrantsModel", "ran", "I", false)
  | 22 => ("LifeGrantsModel", "kind", "I", false)
  | 23 => ("LifeGrantsModel", "number", "I", false)
  | _ => ("LifeGrantsModel", "whose", "I", false)
def tyX7 : Nat → FieldType := fun k => match k with
  | 0 => .int
  | 1 => .array .int
  | 2 => .array .int
  | 3 => .boolean
  | 4 => .array .int
  | 5 => .array .int
  | 6 => .array .int
  | 7 => .array .int
  | 8 => .int
  | 9 => .int
  | 10 => .boolean
  | 11 => .array .int
  | 12 => .array .int
  | 13 => .array .int
  | 14 => .int
  | 15 => .int
  | 16 => .boolean
  | 17 => .int
  | 18 => .array .boolean
  | 19 => .array .int
  | 20 => .array .int
  | 21 => .int
  | 22 => .int
  | 23 => .int
  | _ => .int
abbrev wsX70 : List Cond := u_ws RX7 TX7 25
theorem nmX7 : ∀ a, a < 25 → ∀ b, b < 25 → a ≠ b → (TX7 a).2.1 ≠ (TX7 b).2.1 := by decide +kernel
theorem tyX7_ok : ∀ k, k < 25 → parseFieldDescriptor (TX7 k).2.2.1 = some (tyX7 k) := by decide +kernel
abbrev cX7_init : ByteArray := prog_9_method_1_code
def yX7_init : MethodName := ⟨RX7, "<init>", "()V"⟩
abbrev cX7_in : ByteArray := prog_9_method_3_code
def yX7_in : MethodName := ⟨RX7, "in", "(III)Z"⟩
abbrev cX7_isGrant : ByteArray := prog_9_method_4_code
def yX7_isGrant : MethodName := ⟨RX7, "isGrant", "(I)Z"⟩
abbrev cX7_isClause : ByteArray := prog_9_method_5_code
def yX7_isClause : MethodName := ⟨RX7, "isClause", "(II)Z"⟩
abbrev cX7_isCourse : ByteArray := prog_9_method_6_code
def yX7_isCourse : MethodName := ⟨RX7, "isCourse", "(I)Z"⟩
abbrev cX7_isThere : ByteArray := prog_9_method_7_code
def yX7_isThere : MethodName := ⟨RX7, "isThere", "(I)Z"⟩
abbrev cX7_count1 : ByteArray := prog_9_method_8_code
def yX7_count1 : MethodName := ⟨RX7, "count1", "(I)I"⟩
abbrev cX7_person : ByteArray := prog_9_method_9_code
def yX7_person : MethodName := ⟨RX7, "person", "(II)I"⟩
abbrev cX7_maybe : ByteArray := prog_9_method_10_code
def yX7_maybe : MethodName := ⟨RX7, "maybe", "(III)I"⟩
abbrev cX7_comes : ByteArray := prog_9_method_11_code
def yX7_comes : MethodName := ⟨RX7, "comes", "(I)V"⟩
abbrev cX7_lives : ByteArray := prog_9_method_12_code
def yX7_lives : MethodName := ⟨RX7, "lives", "(I)V"⟩
abbrev cX7_isAlive : ByteArray := prog_9_method_13_code
def yX7_isAlive : MethodName := ⟨RX7, "isAlive", "(II)Z"⟩
abbrev cX7_ageOf : ByteArray := prog_9_method_14_code
def yX7_ageOf : MethodName := ⟨RX7, "ageOf", "(II)I"⟩
abbrev cX7_life : ByteArray := prog_9_method_15_code
def yX7_life : MethodName := ⟨RX7, "life", "(IIII)I"⟩
abbrev cX7_feed : ByteArray := prog_9_method_16_code
def yX7_feed : MethodName := ⟨RX7, "feed", "(JI)I"⟩
abbrev cX7_here : ByteArray := prog_9_method_17_code
def yX7_here : MethodName := ⟨RX7, "here", "()I"⟩
abbrev cX7_must : ByteArray := prog_9_method_18_code
def yX7_must : MethodName := ⟨RX7, "must", "(I)V"⟩
abbrev cX7_spells : ByteArray := prog_9_method_19_code
def yX7_spells : MethodName := ⟨RX7, "spells", "(Ljava/lang/String;)V"⟩
abbrev cX7_figures : ByteArray := prog_9_method_20_code
def yX7_figures : MethodName := ⟨RX7, "figures", "()I"⟩
abbrev cX7_figure : ByteArray := prog_9_method_21_code
def yX7_figure : MethodName := ⟨RX7, "figure", "(I)I"⟩
abbrev cX7_cond : ByteArray := prog_9_method_22_code
def yX7_cond : MethodName := ⟨RX7, "cond", "(I)V"⟩
abbrev cX7_howLong : ByteArray := prog_9_method_23_code
def yX7_howLong : MethodName := ⟨RX7, "howLong", "(I)V"⟩
abbrev cX7_clause : ByteArray := prog_9_method_24_code
def yX7_clause : MethodName := ⟨RX7, "clause", "(IZ)V"⟩
abbrev cX7_at : ByteArray := prog_9_method_25_code
def yX7_at : MethodName := ⟨RX7, "at", "(II)I"⟩
abbrev cX7_grant : ByteArray := prog_9_method_26_code
def yX7_grant : MethodName := ⟨RX7, "grant", "()I"⟩
abbrev cX7_placeOf : ByteArray := prog_9_method_27_code
def yX7_placeOf : MethodName := ⟨RX7, "placeOf", "(II)I"⟩
abbrev cX7_told : ByteArray := prog_9_method_28_code
def yX7_told : MethodName := ⟨RX7, "told", "(II)I"⟩
abbrev cX7_holdsFor : ByteArray := prog_9_method_29_code
def yX7_holdsFor : MethodName := ⟨RX7, "holdsFor", "(IIII)Z"⟩
abbrev cX7_isChild : ByteArray := prog_9_method_30_code
def yX7_isChild : MethodName := ⟨RX7, "isChild", "(II)Z"⟩
abbrev cX7_children : ByteArray := prog_9_method_31_code
def yX7_children : MethodName := ⟨RX7, "children", "(IIII)I"⟩
abbrev cX7_isOlder : ByteArray := prog_9_method_32_code
def yX7_isOlder : MethodName := ⟨RX7, "isOlder", "(II)Z"⟩
abbrev cX7_eldest : ByteArray := prog_9_method_33_code
def yX7_eldest : MethodName := ⟨RX7, "eldest", "(I)I"⟩
abbrev cX7_takers : ByteArray := prog_9_method_34_code
def yX7_takers : MethodName := ⟨RX7, "takers", "(II)I"⟩
abbrev cX7_fails : ByteArray := prog_9_method_35_code
def yX7_fails : MethodName := ⟨RX7, "fails", "(II)Z"⟩
abbrev cX7_aliveOf : ByteArray := prog_9_method_36_code
def yX7_aliveOf : MethodName := ⟨RX7, "aliveOf", "(II)I"⟩
abbrev cX7_ends : ByteArray := prog_9_method_37_code
def yX7_ends : MethodName := ⟨RX7, "ends", "(IIII)Z"⟩
abbrev cX7_shiftOf : ByteArray := prog_9_method_38_code
def yX7_shiftOf : MethodName := ⟨RX7, "shiftOf", "(III)I"⟩
abbrev cX7_nextOf : ByteArray := prog_9_method_39_code
def yX7_nextOf : MethodName := ⟨RX7, "nextOf", "(II)I"⟩
abbrev cX7_runsNext : ByteArray := prog_9_method_40_code
def yX7_runsNext : MethodName := ⟨RX7, "runsNext", "(I)V"⟩
abbrev cX7_yearGoes : ByteArray := prog_9_method_41_code
def yX7_yearGoes : MethodName := ⟨RX7, "yearGoes", "(II)V"⟩
abbrev cX7_goes : ByteArray := prog_9_method_42_code
def yX7_goes : MethodName := ⟨RX7, "goes", "(II)V"⟩
abbrev cX7_has : ByteArray := prog_9_method_43_code
def yX7_has : MethodName := ⟨RX7, "has", "(IIII)I"⟩
abbrev cX7_began : ByteArray := prog_9_method_44_code
def yX7_began : MethodName := ⟨RX7, "began", "(III)I"⟩
abbrev cX7_courses : ByteArray := prog_9_method_45_code
def yX7_courses : MethodName := ⟨RX7, "courses", "()I"⟩
abbrev cX7_sure : ByteArray := prog_9_method_46_code
def yX7_sure : MethodName := ⟨RX7, "sure", "(III)I"⟩
abbrev cX7_holders : ByteArray := prog_9_method_47_code
def yX7_holders : MethodName := ⟨RX7, "holders", "(II)I"⟩
abbrev cX7_share : ByteArray := prog_9_method_48_code
def yX7_share : MethodName := ⟨RX7, "share", "(IIII)I"⟩
abbrev cX7_judged : ByteArray := prog_9_method_49_code
def yX7_judged : MethodName := ⟨RX7, "judged", "(II)I"⟩
abbrev cX7_row : ByteArray := prog_9_method_50_code
def yX7_row : MethodName := ⟨RX7, "row", "(I)I"⟩
abbrev cX7_lastLife : ByteArray := prog_9_method_51_code
def yX7_lastLife : MethodName := ⟨RX7, "lastLife", "()I"⟩
abbrev cX7_isLate : ByteArray := prog_9_method_52_code
def yX7_isLate : MethodName := ⟨RX7, "isLate", "(II)Z"⟩
abbrev cX7_lateShown : ByteArray := prog_9_method_53_code
def yX7_lateShown : MethodName := ⟨RX7, "lateShown", "(III)I"⟩
abbrev cX7_late : ByteArray := prog_9_method_54_code
def yX7_late : MethodName := ⟨RX7, "late", "(IIII)I"⟩
abbrev cX7_measure : ByteArray := prog_9_method_55_code
def yX7_measure : MethodName := ⟨RX7, "measure", "(I)I"⟩
abbrev cX7_see : ByteArray := prog_9_method_56_code
def yX7_see : MethodName := ⟨RX7, "see", "(IIII)I"⟩
abbrev cX7_lates : ByteArray := prog_9_method_57_code
def yX7_lates : MethodName := ⟨RX7, "lates", "(II)I"⟩
abbrev cX7_strike : ByteArray := prog_9_method_58_code
def yX7_strike : MethodName := ⟨RX7, "strike", "(II)I"⟩
abbrev cX7_mend : ByteArray := prog_9_method_59_code
def yX7_mend : MethodName := ⟨RX7, "mend", "(III)I"⟩
abbrev cX7_goesBoth : ByteArray := prog_9_method_60_code
def yX7_goesBoth : MethodName := ⟨RX7, "goesBoth", "(III)V"⟩
abbrev cX7_both : ByteArray := prog_9_method_61_code
def yX7_both : MethodName := ⟨RX7, "both", "(IIII)I"⟩
abbrev cX7_clash : ByteArray := prog_9_method_62_code
def yX7_clash : MethodName := ⟨RX7, "clash", "(III)I"⟩
abbrev cX7_same : ByteArray := prog_9_method_63_code
def yX7_same : MethodName := ⟨RX7, "same", "(II)I"⟩
abbrev cX7_runs : ByteArray := prog_9_method_64_code
def yX7_runs : MethodName := ⟨RX7, "runs", "(I)V"⟩
abbrev cX7_kindOf : ByteArray := prog_9_method_65_code
def yX7_kindOf : MethodName := ⟨RX7, "kindOf", "(II)I"⟩
abbrev cX7_isUnder : ByteArray := prog_9_method_66_code
def yX7_isUnder : MethodName := ⟨RX7, "isUnder", "(II)Z"⟩
abbrev cX7_plainHas : ByteArray := prog_9_method_67_code
def yX7_plainHas : MethodName := ⟨RX7, "plainHas", "(I)I"⟩
abbrev cX7_hasActs : ByteArray := prog_9_method_68_code
def yX7_hasActs : MethodName := ⟨RX7, "hasActs", "(I)I"⟩
abbrev cX7_plainWaits : ByteArray := prog_9_method_69_code
def yX7_plainWaits : MethodName := ⟨RX7, "plainWaits", "(I)I"⟩
abbrev cX7_waitsActs : ByteArray := prog_9_method_70_code
def yX7_waitsActs : MethodName := ⟨RX7, "waitsActs", "(I)I"⟩
abbrev cX7_plainEnds : ByteArray := prog_9_method_71_code
def yX7_plainEnds : MethodName := ⟨RX7, "plainEnds", "(I)I"⟩
abbrev cX7_endsActs : ByteArray := prog_9_method_72_code
def yX7_endsActs : MethodName := ⟨RX7, "endsActs", "(I)I"⟩
abbrev cX7_act : ByteArray := prog_9_method_73_code
def yX7_act : MethodName := ⟨RX7, "act", "(IIII)I"⟩
abbrev cX7_trace : ByteArray := prog_9_method_74_code
def yX7_trace : MethodName := ⟨RX7, "trace", "(I)I"⟩
abbrev cX7_as : ByteArray := prog_9_method_75_code
def yX7_as : MethodName := ⟨RX7, "as", "(III)I"⟩
abbrev cX7_image : ByteArray := prog_9_method_76_code
def yX7_image : MethodName := ⟨RX7, "image", "()I"⟩
abbrev cX7_undo : ByteArray := prog_9_method_77_code
def yX7_undo : MethodName := ⟨RX7, "undo", "()I"⟩
abbrev cX7_count : ByteArray := prog_9_method_78_code
def yX7_count : MethodName := ⟨RX7, "count", "(I)I"⟩
def RJ6 : String := "java/lang/Integer"
abbrev cJ6_bitCount_0f7a4 : ByteArray := prog_10_method_49_code
def yJ6_bitCount_0f7a4 : MethodName := ⟨RJ6, "bitCount", "(I)I"⟩
def RJ13 : String := "java/lang/Long"
abbrev cJ13_bitCount_95d88 : ByteArray := prog_11_method_50_code
def yJ13_bitCount_95d88 : MethodName := ⟨RJ13, "bitCount", "(J)I"⟩
def RJ9 : String := "java/lang/Math"
abbrev cJ9_min_7cf53 : ByteArray := prog_12_method_69_code
def yJ9_min_7cf53 : MethodName := ⟨RJ9, "min", "(II)I"⟩
def RJ0 : String := "java/lang/String"
abbrev cJ0_length_8abf5 : ByteArray := prog_13_method_54_code
def yJ0_length_8abf5 : MethodName := ⟨RJ0, "length", "()I"⟩
abbrev cJ0_charAt_5068e : ByteArray := prog_13_method_56_code
def yJ0_charAt_5068e : MethodName := ⟨RJ0, "charAt", "(I)C"⟩
abbrev cJ0_coder_7d493 : ByteArray := prog_13_method_152_code
def yJ0_coder_7d493 : MethodName := ⟨RJ0, "coder", "()B"⟩
abbrev cJ0_isLatin1_aae02 : ByteArray := prog_13_method_154_code
def yJ0_isLatin1_aae02 : MethodName := ⟨RJ0, "isLatin1", "()Z"⟩
abbrev cJ0_checkIndex_df160 : ByteArray := prog_13_method_155_code
def yJ0_checkIndex_df160 : MethodName := ⟨RJ0, "checkIndex", "(II)V"⟩
def RJ1 : String := "java/lang/StringLatin1"
abbrev cJ1_charAt_3b067 : ByteArray := prog_14_method_2_code
def yJ1_charAt_3b067 : MethodName := ⟨RJ1, "charAt", "([BI)C"⟩
def RJ2 : String := "java/lang/StringUTF16"
abbrev cJ2_getChar_3b067 : ByteArray := prog_15_method_5_code
def yJ2_getChar_3b067 : MethodName := ⟨RJ2, "getChar", "([BI)C"⟩
abbrev cJ2_length_9d52b : ByteArray := prog_15_method_6_code
def yJ2_length_9d52b : MethodName := ⟨RJ2, "length", "([B)I"⟩
abbrev cJ2_charAt_3b067 : ByteArray := prog_15_method_83_code
def yJ2_charAt_3b067 : MethodName := ⟨RJ2, "charAt", "([BI)C"⟩
abbrev cJ2_checkIndex_2214a : ByteArray := prog_15_method_91_code
def yJ2_checkIndex_2214a : MethodName := ⟨RJ2, "checkIndex", "(I[B)V"⟩
def RJ10 : String := "java/lang/System"
def RJ3 : String := "jdk/internal/util/Preconditions"
abbrev cJ3_checkIndex_8e157 : ByteArray := prog_17_method_11_code
def yJ3_checkIndex_8e157 : MethodName := ⟨RJ3, "checkIndex", "(IILjava/util/function/BiFunction;)I"⟩
def RL : String := "LifeGrantsLaw"
abbrev cL_law : ByteArray := code
def yL_law : MethodName := ⟨RL, "law", "([I)Z"⟩
abbrev vwCl : List vw_C := [(RX0, TX0, 12), (RX1, TX1, 3), (RX2, TX2, 3), (RX3, TX3, 4), (RX4, TX4, 7), (RX5, TX5, 15), (RX6, TX6, 9), (RX7, TX7, 25)]
