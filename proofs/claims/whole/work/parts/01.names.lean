-- ===== PART A: goes FIRST, ahead of the names: the tables' words, and 'selects' of the private methods out of them =====
/-- a private method of a class that the tables say can be made, by its rows of tables_1 -/
def lw_okq (q : MethodName × Nat) : Prop := (q.1.cls ≠ "java/lang/invoke/MethodHandle" ∧ q.1.cls ≠ "java/lang/invoke/VarHandle") ∧ Cond.instantiable q.1.cls q.2 ∈ tables_1 ∧ Cond.privateMethod q.1 ∈ tables_1 ∧ Cond.instanceMethod q.1 ∈ tables_1
theorem lw_p0 : lw_okq (⟨"FourOnOne", "refuse", "(I)I"⟩, 16) := ⟨⟨by decide +kernel, by decide +kernel⟩, List.mem_of_getElem? (i := 16) (by decide +kernel), List.mem_of_getElem? (i := 377) (by decide +kernel), List.mem_of_getElem? (i := 378) (by decide +kernel)⟩
theorem lw_p1 : lw_okq (⟨"FourOnOne", "feedNumber", "(I)V"⟩, 16) := ⟨⟨by decide +kernel, by decide +kernel⟩, List.mem_of_getElem? (i := 16) (by decide +kernel), List.mem_of_getElem? (i := 381) (by decide +kernel), List.mem_of_getElem? (i := 382) (by decide +kernel)⟩
theorem lw_p2 : lw_okq (⟨"FourOnOne", "takeTape", "()I"⟩, 16) := ⟨⟨by decide +kernel, by decide +kernel⟩, List.mem_of_getElem? (i := 16) (by decide +kernel), List.mem_of_getElem? (i := 393) (by decide +kernel), List.mem_of_getElem? (i := 394) (by decide +kernel)⟩
theorem lw_p3 : lw_okq (⟨"FourOnOne$Reader", "begin", "(I[I)V"⟩, 17) := ⟨⟨by decide +kernel, by decide +kernel⟩, List.mem_of_getElem? (i := 24) (by decide +kernel), List.mem_of_getElem? (i := 405) (by decide +kernel), List.mem_of_getElem? (i := 406) (by decide +kernel)⟩
theorem lw_p4 : lw_okq (⟨"FourOnOne$Reader", "next", "()V"⟩, 17) := ⟨⟨by decide +kernel, by decide +kernel⟩, List.mem_of_getElem? (i := 24) (by decide +kernel), List.mem_of_getElem? (i := 412) (by decide +kernel), List.mem_of_getElem? (i := 413) (by decide +kernel)⟩
theorem lw_p5 : lw_okq (⟨"FourOnOne$Reader", "knowWord", "()V"⟩, 17) := ⟨⟨by decide +kernel, by decide +kernel⟩, List.mem_of_getElem? (i := 24) (by decide +kernel), List.mem_of_getElem? (i := 416) (by decide +kernel), List.mem_of_getElem? (i := 417) (by decide +kernel)⟩
theorem lw_p6 : lw_okq (⟨"FourOnOne$Reader", "fail", "(II)V"⟩, 17) := ⟨⟨by decide +kernel, by decide +kernel⟩, List.mem_of_getElem? (i := 24) (by decide +kernel), List.mem_of_getElem? (i := 420) (by decide +kernel), List.mem_of_getElem? (i := 421) (by decide +kernel)⟩
theorem lw_p7 : lw_okq (⟨"FourOnOne$Reader", "readStatement", "()V"⟩, 17) := ⟨⟨by decide +kernel, by decide +kernel⟩, List.mem_of_getElem? (i := 24) (by decide +kernel), List.mem_of_getElem? (i := 424) (by decide +kernel), List.mem_of_getElem? (i := 425) (by decide +kernel)⟩
theorem lw_p8 : lw_okq (⟨"FourOnOne$Reader", "takeNewName", "(II)I"⟩, 17) := ⟨⟨by decide +kernel, by decide +kernel⟩, List.mem_of_getElem? (i := 24) (by decide +kernel), List.mem_of_getElem? (i := 428) (by decide +kernel), List.mem_of_getElem? (i := 429) (by decide +kernel)⟩
theorem lw_p9 : lw_okq (⟨"FourOnOne$Reader", "nameHere", "()I"⟩, 17) := ⟨⟨by decide +kernel, by decide +kernel⟩, List.mem_of_getElem? (i := 24) (by decide +kernel), List.mem_of_getElem? (i := 432) (by decide +kernel), List.mem_of_getElem? (i := 433) (by decide +kernel)⟩
theorem lw_p10 : lw_okq (⟨"FourOnOne$Reader", "readFilm", "()V"⟩, 17) := ⟨⟨by decide +kernel, by decide +kernel⟩, List.mem_of_getElem? (i := 24) (by decide +kernel), List.mem_of_getElem? (i := 440) (by decide +kernel), List.mem_of_getElem? (i := 441) (by decide +kernel)⟩
theorem lw_p11 : lw_okq (⟨"FourOnOne$Reader", "takeWord", "(I)V"⟩, 17) := ⟨⟨by decide +kernel, by decide +kernel⟩, List.mem_of_getElem? (i := 24) (by decide +kernel), List.mem_of_getElem? (i := 444) (by decide +kernel), List.mem_of_getElem? (i := 445) (by decide +kernel)⟩
theorem lw_p12 : lw_okq (⟨"FourOnOne$Reader", "isWord", "(I)Z"⟩, 17) := ⟨⟨by decide +kernel, by decide +kernel⟩, List.mem_of_getElem? (i := 24) (by decide +kernel), List.mem_of_getElem? (i := 448) (by decide +kernel), List.mem_of_getElem? (i := 449) (by decide +kernel)⟩
theorem lw_p13 : lw_okq (⟨"FourOnOne$Reader", "takeNumber", "(II)I"⟩, 17) := ⟨⟨by decide +kernel, by decide +kernel⟩, List.mem_of_getElem? (i := 24) (by decide +kernel), List.mem_of_getElem? (i := 452) (by decide +kernel), List.mem_of_getElem? (i := 453) (by decide +kernel)⟩
theorem lw_p14 : lw_okq (⟨"FourOnOne$Reader", "takeKnownName", "(I)I"⟩, 17) := ⟨⟨by decide +kernel, by decide +kernel⟩, List.mem_of_getElem? (i := 24) (by decide +kernel), List.mem_of_getElem? (i := 456) (by decide +kernel), List.mem_of_getElem? (i := 457) (by decide +kernel)⟩
theorem lw_p15 : lw_okq (⟨"FourOnOne$Reader", "readPerson", "()V"⟩, 17) := ⟨⟨by decide +kernel, by decide +kernel⟩, List.mem_of_getElem? (i := 24) (by decide +kernel), List.mem_of_getElem? (i := 460) (by decide +kernel), List.mem_of_getElem? (i := 461) (by decide +kernel)⟩
def lw_privs_1 : List (MethodName × Nat) := [(⟨"FourOnOne", "refuse", "(I)I"⟩, 16), (⟨"FourOnOne", "feedNumber", "(I)V"⟩, 16), (⟨"FourOnOne", "takeTape", "()I"⟩, 16), (⟨"FourOnOne$Reader", "begin", "(I[I)V"⟩, 17), (⟨"FourOnOne$Reader", "next", "()V"⟩, 17), (⟨"FourOnOne$Reader", "knowWord", "()V"⟩, 17), (⟨"FourOnOne$Reader", "fail", "(II)V"⟩, 17), (⟨"FourOnOne$Reader", "readStatement", "()V"⟩, 17), (⟨"FourOnOne$Reader", "takeNewName", "(II)I"⟩, 17), (⟨"FourOnOne$Reader", "nameHere", "()I"⟩, 17), (⟨"FourOnOne$Reader", "readFilm", "()V"⟩, 17), (⟨"FourOnOne$Reader", "takeWord", "(I)V"⟩, 17), (⟨"FourOnOne$Reader", "isWord", "(I)Z"⟩, 17), (⟨"FourOnOne$Reader", "takeNumber", "(II)I"⟩, 17), (⟨"FourOnOne$Reader", "takeKnownName", "(I)I"⟩, 17), (⟨"FourOnOne$Reader", "readPerson", "()V"⟩, 17)]
theorem lw_r1 : ∀ q ∈ lw_privs_1, lw_okq q := List.forall_mem_cons.mpr ⟨lw_p0, List.forall_mem_cons.mpr ⟨lw_p1, List.forall_mem_cons.mpr ⟨lw_p2, List.forall_mem_cons.mpr ⟨lw_p3, List.forall_mem_cons.mpr ⟨lw_p4, List.forall_mem_cons.mpr ⟨lw_p5, List.forall_mem_cons.mpr ⟨lw_p6, List.forall_mem_cons.mpr ⟨lw_p7, List.forall_mem_cons.mpr ⟨lw_p8, List.forall_mem_cons.mpr ⟨lw_p9, List.forall_mem_cons.mpr ⟨lw_p10, List.forall_mem_cons.mpr ⟨lw_p11, List.forall_mem_cons.mpr ⟨lw_p12, List.forall_mem_cons.mpr ⟨lw_p13, List.forall_mem_cons.mpr ⟨lw_p14, List.forall_mem_cons.mpr ⟨lw_p15, fun _ h => absurd h List.not_mem_nil⟩⟩⟩⟩⟩⟩⟩⟩⟩⟩⟩⟩⟩⟩⟩⟩
theorem lw_p16 : lw_okq (⟨"FourOnOne$Reader", "readLikes", "()V"⟩, 17) := ⟨⟨by decide +kernel, by decide +kernel⟩, List.mem_of_getElem? (i := 24) (by decide +kernel), List.mem_of_getElem? (i := 464) (by decide +kernel), List.mem_of_getElem? (i := 465) (by decide +kernel)⟩
theorem lw_p17 : lw_okq (⟨"FourOnOne$Reader", "readPress", "()V"⟩, 17) := ⟨⟨by decide +kernel, by decide +kernel⟩, List.mem_of_getElem? (i := 24) (by decide +kernel), List.mem_of_getElem? (i := 468) (by decide +kernel), List.mem_of_getElem? (i := 469) (by decide +kernel)⟩
theorem lw_p18 : lw_okq (⟨"FourOnOne$Reader", "beginFormula", "(II)I"⟩, 17) := ⟨⟨by decide +kernel, by decide +kernel⟩, List.mem_of_getElem? (i := 24) (by decide +kernel), List.mem_of_getElem? (i := 472) (by decide +kernel), List.mem_of_getElem? (i := 473) (by decide +kernel)⟩
theorem lw_p19 : lw_okq (⟨"FourOnOne$Reader", "readSum", "()V"⟩, 17) := ⟨⟨by decide +kernel, by decide +kernel⟩, List.mem_of_getElem? (i := 24) (by decide +kernel), List.mem_of_getElem? (i := 476) (by decide +kernel), List.mem_of_getElem? (i := 477) (by decide +kernel)⟩
theorem lw_p20 : lw_okq (⟨"FourOnOne$Reader", "readProduct", "()V"⟩, 17) := ⟨⟨by decide +kernel, by decide +kernel⟩, List.mem_of_getElem? (i := 24) (by decide +kernel), List.mem_of_getElem? (i := 480) (by decide +kernel), List.mem_of_getElem? (i := 481) (by decide +kernel)⟩
theorem lw_p21 : lw_okq (⟨"FourOnOne$Reader", "readPart", "()V"⟩, 17) := ⟨⟨by decide +kernel, by decide +kernel⟩, List.mem_of_getElem? (i := 24) (by decide +kernel), List.mem_of_getElem? (i := 484) (by decide +kernel), List.mem_of_getElem? (i := 485) (by decide +kernel)⟩
theorem lw_p22 : lw_okq (⟨"FourOnOne$Reader", "put", "(I)V"⟩, 17) := ⟨⟨by decide +kernel, by decide +kernel⟩, List.mem_of_getElem? (i := 24) (by decide +kernel), List.mem_of_getElem? (i := 488) (by decide +kernel), List.mem_of_getElem? (i := 489) (by decide +kernel)⟩
theorem lw_p23 : lw_okq (⟨"FourOnOne$Reader", "isSign", "(C)Z"⟩, 17) := ⟨⟨by decide +kernel, by decide +kernel⟩, List.mem_of_getElem? (i := 24) (by decide +kernel), List.mem_of_getElem? (i := 492) (by decide +kernel), List.mem_of_getElem? (i := 493) (by decide +kernel)⟩
theorem lw_p24 : lw_okq (⟨"FourOnOne$Reader", "opens", "()Z"⟩, 17) := ⟨⟨by decide +kernel, by decide +kernel⟩, List.mem_of_getElem? (i := 24) (by decide +kernel), List.mem_of_getElem? (i := 496) (by decide +kernel), List.mem_of_getElem? (i := 497) (by decide +kernel)⟩
theorem lw_p25 : lw_okq (⟨"FourOnOne$Reader", "takeSign", "(C)V"⟩, 17) := ⟨⟨by decide +kernel, by decide +kernel⟩, List.mem_of_getElem? (i := 24) (by decide +kernel), List.mem_of_getElem? (i := 500) (by decide +kernel), List.mem_of_getElem? (i := 501) (by decide +kernel)⟩
theorem lw_p26 : lw_okq (⟨"FourOnOne$Reader", "readLesserOrGreater", "(I)V"⟩, 17) := ⟨⟨by decide +kernel, by decide +kernel⟩, List.mem_of_getElem? (i := 24) (by decide +kernel), List.mem_of_getElem? (i := 504) (by decide +kernel), List.mem_of_getElem? (i := 505) (by decide +kernel)⟩
theorem lw_p27 : lw_okq (⟨"FourOnOne$Reader", "isFactHere", "()Z"⟩, 17) := ⟨⟨by decide +kernel, by decide +kernel⟩, List.mem_of_getElem? (i := 24) (by decide +kernel), List.mem_of_getElem? (i := 508) (by decide +kernel), List.mem_of_getElem? (i := 509) (by decide +kernel)⟩
theorem lw_p28 : lw_okq (⟨"FourOnOne$Reader", "readTest", "()V"⟩, 17) := ⟨⟨by decide +kernel, by decide +kernel⟩, List.mem_of_getElem? (i := 24) (by decide +kernel), List.mem_of_getElem? (i := 512) (by decide +kernel), List.mem_of_getElem? (i := 513) (by decide +kernel)⟩
theorem lw_p29 : lw_okq (⟨"FourOnOne$Reader", "readBoth", "()V"⟩, 17) := ⟨⟨by decide +kernel, by decide +kernel⟩, List.mem_of_getElem? (i := 24) (by decide +kernel), List.mem_of_getElem? (i := 516) (by decide +kernel), List.mem_of_getElem? (i := 517) (by decide +kernel)⟩
theorem lw_p30 : lw_okq (⟨"FourOnOne$Reader", "readFact", "()V"⟩, 17) := ⟨⟨by decide +kernel, by decide +kernel⟩, List.mem_of_getElem? (i := 24) (by decide +kernel), List.mem_of_getElem? (i := 520) (by decide +kernel), List.mem_of_getElem? (i := 521) (by decide +kernel)⟩
theorem lw_p31 : lw_okq (⟨"FourOnOne", "forgetActs", "()V"⟩, 16) := ⟨⟨by decide +kernel, by decide +kernel⟩, List.mem_of_getElem? (i := 16) (by decide +kernel), List.mem_of_getElem? (i := 528) (by decide +kernel), List.mem_of_getElem? (i := 529) (by decide +kernel)⟩
def lw_privs_2 : List (MethodName × Nat) := [(⟨"FourOnOne$Reader", "readLikes", "()V"⟩, 17), (⟨"FourOnOne$Reader", "readPress", "()V"⟩, 17), (⟨"FourOnOne$Reader", "beginFormula", "(II)I"⟩, 17), (⟨"FourOnOne$Reader", "readSum", "()V"⟩, 17), (⟨"FourOnOne$Reader", "readProduct", "()V"⟩, 17), (⟨"FourOnOne$Reader", "readPart", "()V"⟩, 17), (⟨"FourOnOne$Reader", "put", "(I)V"⟩, 17), (⟨"FourOnOne$Reader", "isSign", "(C)Z"⟩, 17), (⟨"FourOnOne$Reader", "opens", "()Z"⟩, 17), (⟨"FourOnOne$Reader", "takeSign", "(C)V"⟩, 17), (⟨"FourOnOne$Reader", "readLesserOrGreater", "(I)V"⟩, 17), (⟨"FourOnOne$Reader", "isFactHere", "()Z"⟩, 17), (⟨"FourOnOne$Reader", "readTest", "()V"⟩, 17), (⟨"FourOnOne$Reader", "readBoth", "()V"⟩, 17), (⟨"FourOnOne$Reader", "readFact", "()V"⟩, 17), (⟨"FourOnOne", "forgetActs", "()V"⟩, 16)]
theorem lw_r2 : ∀ q ∈ lw_privs_2, lw_okq q := List.forall_mem_cons.mpr ⟨lw_p16, List.forall_mem_cons.mpr ⟨lw_p17, List.forall_mem_cons.mpr ⟨lw_p18, List.forall_mem_cons.mpr ⟨lw_p19, List.forall_mem_cons.mpr ⟨lw_p20, List.forall_mem_cons.mpr ⟨lw_p21, List.forall_mem_cons.mpr ⟨lw_p22, List.forall_mem_cons.mpr ⟨lw_p23, List.forall_mem_cons.mpr ⟨lw_p24, List.forall_mem_cons.mpr ⟨lw_p25, List.forall_mem_cons.mpr ⟨lw_p26, List.forall_mem_cons.mpr ⟨lw_p27, List.forall_mem_cons.mpr ⟨lw_p28, List.forall_mem_cons.mpr ⟨lw_p29, List.forall_mem_cons.mpr ⟨lw_p30, List.forall_mem_cons.mpr ⟨lw_p31, fun _ h => absurd h List.not_mem_nil⟩⟩⟩⟩⟩⟩⟩⟩⟩⟩⟩⟩⟩⟩⟩⟩
theorem lw_p32 : lw_okq (⟨"FourOnOne", "sawTogether", "()I"⟩, 16) := ⟨⟨by decide +kernel, by decide +kernel⟩, List.mem_of_getElem? (i := 16) (by decide +kernel), List.mem_of_getElem? (i := 546) (by decide +kernel), List.mem_of_getElem? (i := 547) (by decide +kernel)⟩
theorem lw_p33 : lw_okq (⟨"FourOnOne", "isOne", "(II)Z"⟩, 16) := ⟨⟨by decide +kernel, by decide +kernel⟩, List.mem_of_getElem? (i := 16) (by decide +kernel), List.mem_of_getElem? (i := 559) (by decide +kernel), List.mem_of_getElem? (i := 560) (by decide +kernel)⟩
theorem lw_p34 : lw_okq (⟨"FourOnOne$Course", "scoreOf", "(II)I"⟩, 6) := ⟨⟨by decide +kernel, by decide +kernel⟩, List.mem_of_getElem? (i := 237) (by decide +kernel), List.mem_of_getElem? (i := 591) (by decide +kernel), List.mem_of_getElem? (i := 592) (by decide +kernel)⟩
theorem lw_p35 : lw_okq (⟨"FourOnOne$Course", "mayBe", "(III)Z"⟩, 6) := ⟨⟨by decide +kernel, by decide +kernel⟩, List.mem_of_getElem? (i := 237) (by decide +kernel), List.mem_of_getElem? (i := 595) (by decide +kernel), List.mem_of_getElem? (i := 596) (by decide +kernel)⟩
theorem lw_p36 : lw_okq (⟨"FourOnOne$Course", "setFilmFacts", "(III)V"⟩, 6) := ⟨⟨by decide +kernel, by decide +kernel⟩, List.mem_of_getElem? (i := 237) (by decide +kernel), List.mem_of_getElem? (i := 599) (by decide +kernel), List.mem_of_getElem? (i := 600) (by decide +kernel)⟩
theorem lw_p37 : lw_okq (⟨"FourOnOne$Machine", "given", "(I)I"⟩, 3) := ⟨⟨by decide +kernel, by decide +kernel⟩, List.mem_of_getElem? (i := 281) (by decide +kernel), List.mem_of_getElem? (i := 610) (by decide +kernel), List.mem_of_getElem? (i := 611) (by decide +kernel)⟩
theorem lw_p38 : lw_okq (⟨"FourOnOne$Machine", "weightOf", "(I)I"⟩, 3) := ⟨⟨by decide +kernel, by decide +kernel⟩, List.mem_of_getElem? (i := 281) (by decide +kernel), List.mem_of_getElem? (i := 614) (by decide +kernel), List.mem_of_getElem? (i := 615) (by decide +kernel)⟩
theorem lw_p39 : lw_okq (⟨"FourOnOne$Machine", "joined", "(IJJ)I"⟩, 3) := ⟨⟨by decide +kernel, by decide +kernel⟩, List.mem_of_getElem? (i := 281) (by decide +kernel), List.mem_of_getElem? (i := 618) (by decide +kernel), List.mem_of_getElem? (i := 619) (by decide +kernel)⟩
theorem lw_p40 : lw_okq (⟨"FourOnOne", "canPass", "(III)Z"⟩, 16) := ⟨⟨by decide +kernel, by decide +kernel⟩, List.mem_of_getElem? (i := 16) (by decide +kernel), List.mem_of_getElem? (i := 654) (by decide +kernel), List.mem_of_getElem? (i := 655) (by decide +kernel)⟩
theorem lw_p41 : lw_okq (⟨"FourOnOne", "lookAhead", "(II)V"⟩, 16) := ⟨⟨by decide +kernel, by decide +kernel⟩, List.mem_of_getElem? (i := 16) (by decide +kernel), List.mem_of_getElem? (i := 659) (by decide +kernel), List.mem_of_getElem? (i := 660) (by decide +kernel)⟩
theorem lw_p42 : lw_okq (⟨"FourOnOne$Course", "heldTaste", "(I)I"⟩, 6) := ⟨⟨by decide +kernel, by decide +kernel⟩, List.mem_of_getElem? (i := 237) (by decide +kernel), List.mem_of_getElem? (i := 691) (by decide +kernel), List.mem_of_getElem? (i := 692) (by decide +kernel)⟩
theorem lw_p43 : lw_okq (⟨"FourOnOne$Course", "fadeAll", "(I)V"⟩, 6) := ⟨⟨by decide +kernel, by decide +kernel⟩, List.mem_of_getElem? (i := 237) (by decide +kernel), List.mem_of_getElem? (i := 702) (by decide +kernel), List.mem_of_getElem? (i := 703) (by decide +kernel)⟩
theorem lw_p44 : lw_okq (⟨"FourOnOne", "isAtRest", "(II)Z"⟩, 16) := ⟨⟨by decide +kernel, by decide +kernel⟩, List.mem_of_getElem? (i := 16) (by decide +kernel), List.mem_of_getElem? (i := 719) (by decide +kernel), List.mem_of_getElem? (i := 720) (by decide +kernel)⟩
theorem lw_p45 : lw_okq (⟨"FourOnOne", "countVotes", "(I)V"⟩, 16) := ⟨⟨by decide +kernel, by decide +kernel⟩, List.mem_of_getElem? (i := 16) (by decide +kernel), List.mem_of_getElem? (i := 748) (by decide +kernel), List.mem_of_getElem? (i := 749) (by decide +kernel)⟩
theorem lw_p46 : lw_okq (⟨"FourOnOne", "sofaWorth", "(IIZ)I"⟩, 16) := ⟨⟨by decide +kernel, by decide +kernel⟩, List.mem_of_getElem? (i := 16) (by decide +kernel), List.mem_of_getElem? (i := 757) (by decide +kernel), List.mem_of_getElem? (i := 758) (by decide +kernel)⟩
theorem lw_p47 : lw_okq (⟨"FourOnOne", "toldHours", "()I"⟩, 16) := ⟨⟨by decide +kernel, by decide +kernel⟩, List.mem_of_getElem? (i := 16) (by decide +kernel), List.mem_of_getElem? (i := 773) (by decide +kernel), List.mem_of_getElem? (i := 774) (by decide +kernel)⟩
def lw_privs_3 : List (MethodName × Nat) := [(⟨"FourOnOne", "sawTogether", "()I"⟩, 16), (⟨"FourOnOne", "isOne", "(II)Z"⟩, 16), (⟨"FourOnOne$Course", "scoreOf", "(II)I"⟩, 6), (⟨"FourOnOne$Course", "mayBe", "(III)Z"⟩, 6), (⟨"FourOnOne$Course", "setFilmFacts", "(III)V"⟩, 6), (⟨"FourOnOne$Machine", "given", "(I)I"⟩, 3), (⟨"FourOnOne$Machine", "weightOf", "(I)I"⟩, 3), (⟨"FourOnOne$Machine", "joined", "(IJJ)I"⟩, 3), (⟨"FourOnOne", "canPass", "(III)Z"⟩, 16), (⟨"FourOnOne", "lookAhead", "(II)V"⟩, 16), (⟨"FourOnOne$Course", "heldTaste", "(I)I"⟩, 6), (⟨"FourOnOne$Course", "fadeAll", "(I)V"⟩, 6), (⟨"FourOnOne", "isAtRest", "(II)Z"⟩, 16), (⟨"FourOnOne", "countVotes", "(I)V"⟩, 16), (⟨"FourOnOne", "sofaWorth", "(IIZ)I"⟩, 16), (⟨"FourOnOne", "toldHours", "()I"⟩, 16)]
theorem lw_r3 : ∀ q ∈ lw_privs_3, lw_okq q := List.forall_mem_cons.mpr ⟨lw_p32, List.forall_mem_cons.mpr ⟨lw_p33, List.forall_mem_cons.mpr ⟨lw_p34, List.forall_mem_cons.mpr ⟨lw_p35, List.forall_mem_cons.mpr ⟨lw_p36, List.forall_mem_cons.mpr ⟨lw_p37, List.forall_mem_cons.mpr ⟨lw_p38, List.forall_mem_cons.mpr ⟨lw_p39, List.forall_mem_cons.mpr ⟨lw_p40, List.forall_mem_cons.mpr ⟨lw_p41, List.forall_mem_cons.mpr ⟨lw_p42, List.forall_mem_cons.mpr ⟨lw_p43, List.forall_mem_cons.mpr ⟨lw_p44, List.forall_mem_cons.mpr ⟨lw_p45, List.forall_mem_cons.mpr ⟨lw_p46, List.forall_mem_cons.mpr ⟨lw_p47, fun _ h => absurd h List.not_mem_nil⟩⟩⟩⟩⟩⟩⟩⟩⟩⟩⟩⟩⟩⟩⟩⟩
theorem lw_p48 : lw_okq (⟨"FourOnOne", "isAsTold", "(II)Z"⟩, 16) := ⟨⟨by decide +kernel, by decide +kernel⟩, List.mem_of_getElem? (i := 16) (by decide +kernel), List.mem_of_getElem? (i := 778) (by decide +kernel), List.mem_of_getElem? (i := 779) (by decide +kernel)⟩
theorem lw_p49 : lw_okq (⟨"FourOnOne", "rememberAct", "()V"⟩, 16) := ⟨⟨by decide +kernel, by decide +kernel⟩, List.mem_of_getElem? (i := 16) (by decide +kernel), List.mem_of_getElem? (i := 786) (by decide +kernel), List.mem_of_getElem? (i := 787) (by decide +kernel)⟩
theorem lw_p50 : lw_okq (⟨"FourOnOne", "strangerSees", "()Z"⟩, 16) := ⟨⟨by decide +kernel, by decide +kernel⟩, List.mem_of_getElem? (i := 16) (by decide +kernel), List.mem_of_getElem? (i := 803) (by decide +kernel), List.mem_of_getElem? (i := 804) (by decide +kernel)⟩
theorem lw_p51 : lw_okq (⟨"FourOnOne", "draw", "(I)I"⟩, 16) := ⟨⟨by decide +kernel, by decide +kernel⟩, List.mem_of_getElem? (i := 16) (by decide +kernel), List.mem_of_getElem? (i := 807) (by decide +kernel), List.mem_of_getElem? (i := 808) (by decide +kernel)⟩
theorem lw_p52 : lw_okq (⟨"FourOnOne", "filmThatHolds", "(IZ)J"⟩, 16) := ⟨⟨by decide +kernel, by decide +kernel⟩, List.mem_of_getElem? (i := 16) (by decide +kernel), List.mem_of_getElem? (i := 831) (by decide +kernel), List.mem_of_getElem? (i := 832) (by decide +kernel)⟩
theorem lw_p53 : lw_okq (⟨"FourOnOne", "totalOf", "(I)J"⟩, 16) := ⟨⟨by decide +kernel, by decide +kernel⟩, List.mem_of_getElem? (i := 16) (by decide +kernel), List.mem_of_getElem? (i := 840) (by decide +kernel), List.mem_of_getElem? (i := 841) (by decide +kernel)⟩
theorem lw_p54 : lw_okq (⟨"FourOnOne", "extremeOf", "(IZ)J"⟩, 16) := ⟨⟨by decide +kernel, by decide +kernel⟩, List.mem_of_getElem? (i := 16) (by decide +kernel), List.mem_of_getElem? (i := 844) (by decide +kernel), List.mem_of_getElem? (i := 845) (by decide +kernel)⟩
theorem lw_p55 : lw_okq (⟨"FourOnOne", "putTwo", "(I)V"⟩, 16) := ⟨⟨by decide +kernel, by decide +kernel⟩, List.mem_of_getElem? (i := 16) (by decide +kernel), List.mem_of_getElem? (i := 852) (by decide +kernel), List.mem_of_getElem? (i := 853) (by decide +kernel)⟩
theorem lw_p56 : lw_okq (⟨"FourOnOne", "putByte", "(I)V"⟩, 16) := ⟨⟨by decide +kernel, by decide +kernel⟩, List.mem_of_getElem? (i := 16) (by decide +kernel), List.mem_of_getElem? (i := 856) (by decide +kernel), List.mem_of_getElem? (i := 857) (by decide +kernel)⟩
theorem lw_p57 : lw_okq (⟨"FourOnOne", "checkByte", "([II)I"⟩, 16) := ⟨⟨by decide +kernel, by decide +kernel⟩, List.mem_of_getElem? (i := 16) (by decide +kernel), List.mem_of_getElem? (i := 860) (by decide +kernel), List.mem_of_getElem? (i := 861) (by decide +kernel)⟩
theorem lw_p58 : lw_okq (⟨"FourOnOne", "lengthOfImage", "()I"⟩, 16) := ⟨⟨by decide +kernel, by decide +kernel⟩, List.mem_of_getElem? (i := 16) (by decide +kernel), List.mem_of_getElem? (i := 872) (by decide +kernel), List.mem_of_getElem? (i := 873) (by decide +kernel)⟩
theorem lw_p59 : lw_okq (⟨"FourOnOne", "tapeByte", "(I)I"⟩, 16) := ⟨⟨by decide +kernel, by decide +kernel⟩, List.mem_of_getElem? (i := 16) (by decide +kernel), List.mem_of_getElem? (i := 876) (by decide +kernel), List.mem_of_getElem? (i := 877) (by decide +kernel)⟩
theorem lw_p60 : lw_okq (⟨"FourOnOne", "readProfiles", "(LFourOnOne$Account;)Z"⟩, 16) := ⟨⟨by decide +kernel, by decide +kernel⟩, List.mem_of_getElem? (i := 16) (by decide +kernel), List.mem_of_getElem? (i := 880) (by decide +kernel), List.mem_of_getElem? (i := 881) (by decide +kernel)⟩
theorem lw_p61 : lw_okq (⟨"FourOnOne", "tapeTwo", "(I)I"⟩, 16) := ⟨⟨by decide +kernel, by decide +kernel⟩, List.mem_of_getElem? (i := 16) (by decide +kernel), List.mem_of_getElem? (i := 884) (by decide +kernel), List.mem_of_getElem? (i := 885) (by decide +kernel)⟩
theorem lw_p62 : lw_okq (⟨"FourOnOne", "readPeople", "(LFourOnOne$Account;I)Z"⟩, 16) := ⟨⟨by decide +kernel, by decide +kernel⟩, List.mem_of_getElem? (i := 16) (by decide +kernel), List.mem_of_getElem? (i := 888) (by decide +kernel), List.mem_of_getElem? (i := 889) (by decide +kernel)⟩
theorem lw_p63 : lw_okq (⟨"FourOnOneModel", "look", "()I"⟩, 103) := ⟨⟨by decide +kernel, by decide +kernel⟩, List.mem_of_getElem? (i := 896) (by decide +kernel), List.mem_of_getElem? (i := 1225) (by decide +kernel), List.mem_of_getElem? (i := 1226) (by decide +kernel)⟩
def lw_privs_4 : List (MethodName × Nat) := [(⟨"FourOnOne", "isAsTold", "(II)Z"⟩, 16), (⟨"FourOnOne", "rememberAct", "()V"⟩, 16), (⟨"FourOnOne", "strangerSees", "()Z"⟩, 16), (⟨"FourOnOne", "draw", "(I)I"⟩, 16), (⟨"FourOnOne", "filmThatHolds", "(IZ)J"⟩, 16), (⟨"FourOnOne", "totalOf", "(I)J"⟩, 16), (⟨"FourOnOne", "extremeOf", "(IZ)J"⟩, 16), (⟨"FourOnOne", "putTwo", "(I)V"⟩, 16), (⟨"FourOnOne", "putByte", "(I)V"⟩, 16), (⟨"FourOnOne", "checkByte", "([II)I"⟩, 16), (⟨"FourOnOne", "lengthOfImage", "()I"⟩, 16), (⟨"FourOnOne", "tapeByte", "(I)I"⟩, 16), (⟨"FourOnOne", "readProfiles", "(LFourOnOne$Account;)Z"⟩, 16), (⟨"FourOnOne", "tapeTwo", "(I)I"⟩, 16), (⟨"FourOnOne", "readPeople", "(LFourOnOne$Account;I)Z"⟩, 16), (⟨"FourOnOneModel", "look", "()I"⟩, 103)]
theorem lw_r4 : ∀ q ∈ lw_privs_4, lw_okq q := List.forall_mem_cons.mpr ⟨lw_p48, List.forall_mem_cons.mpr ⟨lw_p49, List.forall_mem_cons.mpr ⟨lw_p50, List.forall_mem_cons.mpr ⟨lw_p51, List.forall_mem_cons.mpr ⟨lw_p52, List.forall_mem_cons.mpr ⟨lw_p53, List.forall_mem_cons.mpr ⟨lw_p54, List.forall_mem_cons.mpr ⟨lw_p55, List.forall_mem_cons.mpr ⟨lw_p56, List.forall_mem_cons.mpr ⟨lw_p57, List.forall_mem_cons.mpr ⟨lw_p58, List.forall_mem_cons.mpr ⟨lw_p59, List.forall_mem_cons.mpr ⟨lw_p60, List.forall_mem_cons.mpr ⟨lw_p61, List.forall_mem_cons.mpr ⟨lw_p62, List.forall_mem_cons.mpr ⟨lw_p63, fun _ h => absurd h List.not_mem_nil⟩⟩⟩⟩⟩⟩⟩⟩⟩⟩⟩⟩⟩⟩⟩⟩
theorem lw_p64 : lw_okq (⟨"FourOnOneModel", "statementTold", "()V"⟩, 103) := ⟨⟨by decide +kernel, by decide +kernel⟩, List.mem_of_getElem? (i := 896) (by decide +kernel), List.mem_of_getElem? (i := 1229) (by decide +kernel), List.mem_of_getElem? (i := 1230) (by decide +kernel)⟩
theorem lw_p65 : lw_okq (⟨"FourOnOneModel", "fail", "(II)V"⟩, 103) := ⟨⟨by decide +kernel, by decide +kernel⟩, List.mem_of_getElem? (i := 896) (by decide +kernel), List.mem_of_getElem? (i := 1233) (by decide +kernel), List.mem_of_getElem? (i := 1234) (by decide +kernel)⟩
theorem lw_p66 : lw_okq (⟨"FourOnOneModel", "takes", "([C)Z"⟩, 103) := ⟨⟨by decide +kernel, by decide +kernel⟩, List.mem_of_getElem? (i := 896) (by decide +kernel), List.mem_of_getElem? (i := 1237) (by decide +kernel), List.mem_of_getElem? (i := 1238) (by decide +kernel)⟩
theorem lw_p67 : lw_okq (⟨"FourOnOneModel", "isHere", "([C)Z"⟩, 103) := ⟨⟨by decide +kernel, by decide +kernel⟩, List.mem_of_getElem? (i := 896) (by decide +kernel), List.mem_of_getElem? (i := 1241) (by decide +kernel), List.mem_of_getElem? (i := 1242) (by decide +kernel)⟩
theorem lw_p68 : lw_okq (⟨"FourOnOneModel", "kindTold", "(I)V"⟩, 103) := ⟨⟨by decide +kernel, by decide +kernel⟩, List.mem_of_getElem? (i := 896) (by decide +kernel), List.mem_of_getElem? (i := 1248) (by decide +kernel), List.mem_of_getElem? (i := 1249) (by decide +kernel)⟩
theorem lw_p69 : lw_okq (⟨"FourOnOneModel", "isFull", "(III)Z"⟩, 103) := ⟨⟨by decide +kernel, by decide +kernel⟩, List.mem_of_getElem? (i := 896) (by decide +kernel), List.mem_of_getElem? (i := 1252) (by decide +kernel), List.mem_of_getElem? (i := 1253) (by decide +kernel)⟩
theorem lw_p70 : lw_okq (⟨"FourOnOneModel", "newName", "()J"⟩, 103) := ⟨⟨by decide +kernel, by decide +kernel⟩, List.mem_of_getElem? (i := 896) (by decide +kernel), List.mem_of_getElem? (i := 1256) (by decide +kernel), List.mem_of_getElem? (i := 1257) (by decide +kernel)⟩
theorem lw_p71 : lw_okq (⟨"FourOnOneModel", "name", "()J"⟩, 103) := ⟨⟨by decide +kernel, by decide +kernel⟩, List.mem_of_getElem? (i := 896) (by decide +kernel), List.mem_of_getElem? (i := 1260) (by decide +kernel), List.mem_of_getElem? (i := 1261) (by decide +kernel)⟩
theorem lw_p72 : lw_okq (⟨"FourOnOneModel", "isOwnHere", "()Z"⟩, 103) := ⟨⟨by decide +kernel, by decide +kernel⟩, List.mem_of_getElem? (i := 896) (by decide +kernel), List.mem_of_getElem? (i := 1264) (by decide +kernel), List.mem_of_getElem? (i := 1265) (by decide +kernel)⟩
theorem lw_p73 : lw_okq (⟨"FourOnOneModel", "nameOf", "(IJ)I"⟩, 103) := ⟨⟨by decide +kernel, by decide +kernel⟩, List.mem_of_getElem? (i := 896) (by decide +kernel), List.mem_of_getElem? (i := 1270) (by decide +kernel), List.mem_of_getElem? (i := 1271) (by decide +kernel)⟩
theorem lw_p74 : lw_okq (⟨"FourOnOneModel", "adds", "(IJ)V"⟩, 103) := ⟨⟨by decide +kernel, by decide +kernel⟩, List.mem_of_getElem? (i := 896) (by decide +kernel), List.mem_of_getElem? (i := 1274) (by decide +kernel), List.mem_of_getElem? (i := 1275) (by decide +kernel)⟩
theorem lw_p75 : lw_okq (⟨"FourOnOneModel", "filmTold", "(I)V"⟩, 103) := ⟨⟨by decide +kernel, by decide +kernel⟩, List.mem_of_getElem? (i := 896) (by decide +kernel), List.mem_of_getElem? (i := 1278) (by decide +kernel), List.mem_of_getElem? (i := 1279) (by decide +kernel)⟩
theorem lw_p76 : lw_okq (⟨"FourOnOneModel", "asks", "([C)V"⟩, 103) := ⟨⟨by decide +kernel, by decide +kernel⟩, List.mem_of_getElem? (i := 896) (by decide +kernel), List.mem_of_getElem? (i := 1282) (by decide +kernel), List.mem_of_getElem? (i := 1283) (by decide +kernel)⟩
theorem lw_p77 : lw_okq (⟨"FourOnOneModel", "number", "(II)I"⟩, 103) := ⟨⟨by decide +kernel, by decide +kernel⟩, List.mem_of_getElem? (i := 896) (by decide +kernel), List.mem_of_getElem? (i := 1286) (by decide +kernel), List.mem_of_getElem? (i := 1287) (by decide +kernel)⟩
theorem lw_p78 : lw_okq (⟨"FourOnOneModel", "oneOf", "(I)I"⟩, 103) := ⟨⟨by decide +kernel, by decide +kernel⟩, List.mem_of_getElem? (i := 896) (by decide +kernel), List.mem_of_getElem? (i := 1296) (by decide +kernel), List.mem_of_getElem? (i := 1297) (by decide +kernel)⟩
theorem lw_p79 : lw_okq (⟨"FourOnOneModel", "personTold", "(I)V"⟩, 103) := ⟨⟨by decide +kernel, by decide +kernel⟩, List.mem_of_getElem? (i := 896) (by decide +kernel), List.mem_of_getElem? (i := 1300) (by decide +kernel), List.mem_of_getElem? (i := 1301) (by decide +kernel)⟩
def lw_privs_5 : List (MethodName × Nat) := [(⟨"FourOnOneModel", "statementTold", "()V"⟩, 103), (⟨"FourOnOneModel", "fail", "(II)V"⟩, 103), (⟨"FourOnOneModel", "takes", "([C)Z"⟩, 103), (⟨"FourOnOneModel", "isHere", "([C)Z"⟩, 103), (⟨"FourOnOneModel", "kindTold", "(I)V"⟩, 103), (⟨"FourOnOneModel", "isFull", "(III)Z"⟩, 103), (⟨"FourOnOneModel", "newName", "()J"⟩, 103), (⟨"FourOnOneModel", "name", "()J"⟩, 103), (⟨"FourOnOneModel", "isOwnHere", "()Z"⟩, 103), (⟨"FourOnOneModel", "nameOf", "(IJ)I"⟩, 103), (⟨"FourOnOneModel", "adds", "(IJ)V"⟩, 103), (⟨"FourOnOneModel", "filmTold", "(I)V"⟩, 103), (⟨"FourOnOneModel", "asks", "([C)V"⟩, 103), (⟨"FourOnOneModel", "number", "(II)I"⟩, 103), (⟨"FourOnOneModel", "oneOf", "(I)I"⟩, 103), (⟨"FourOnOneModel", "personTold", "(I)V"⟩, 103)]
theorem lw_r5 : ∀ q ∈ lw_privs_5, lw_okq q := List.forall_mem_cons.mpr ⟨lw_p64, List.forall_mem_cons.mpr ⟨lw_p65, List.forall_mem_cons.mpr ⟨lw_p66, List.forall_mem_cons.mpr ⟨lw_p67, List.forall_mem_cons.mpr ⟨lw_p68, List.forall_mem_cons.mpr ⟨lw_p69, List.forall_mem_cons.mpr ⟨lw_p70, List.forall_mem_cons.mpr ⟨lw_p71, List.forall_mem_cons.mpr ⟨lw_p72, List.forall_mem_cons.mpr ⟨lw_p73, List.forall_mem_cons.mpr ⟨lw_p74, List.forall_mem_cons.mpr ⟨lw_p75, List.forall_mem_cons.mpr ⟨lw_p76, List.forall_mem_cons.mpr ⟨lw_p77, List.forall_mem_cons.mpr ⟨lw_p78, List.forall_mem_cons.mpr ⟨lw_p79, fun _ h => absurd h List.not_mem_nil⟩⟩⟩⟩⟩⟩⟩⟩⟩⟩⟩⟩⟩⟩⟩⟩
theorem lw_p80 : lw_okq (⟨"FourOnOneModel", "likesTold", "()V"⟩, 103) := ⟨⟨by decide +kernel, by decide +kernel⟩, List.mem_of_getElem? (i := 896) (by decide +kernel), List.mem_of_getElem? (i := 1304) (by decide +kernel), List.mem_of_getElem? (i := 1305) (by decide +kernel)⟩
theorem lw_p81 : lw_okq (⟨"FourOnOneModel", "pressTold", "()V"⟩, 103) := ⟨⟨by decide +kernel, by decide +kernel⟩, List.mem_of_getElem? (i := 896) (by decide +kernel), List.mem_of_getElem? (i := 1308) (by decide +kernel), List.mem_of_getElem? (i := 1309) (by decide +kernel)⟩
theorem lw_p82 : lw_okq (⟨"FourOnOneModel", "codesTold", "(II)V"⟩, 103) := ⟨⟨by decide +kernel, by decide +kernel⟩, List.mem_of_getElem? (i := 896) (by decide +kernel), List.mem_of_getElem? (i := 1312) (by decide +kernel), List.mem_of_getElem? (i := 1313) (by decide +kernel)⟩
theorem lw_p83 : lw_okq (⟨"FourOnOneModel", "qTest", "()V"⟩, 103) := ⟨⟨by decide +kernel, by decide +kernel⟩, List.mem_of_getElem? (i := 896) (by decide +kernel), List.mem_of_getElem? (i := 1316) (by decide +kernel), List.mem_of_getElem? (i := 1317) (by decide +kernel)⟩
theorem lw_p84 : lw_okq (⟨"FourOnOneModel", "qOpens", "(II)V"⟩, 103) := ⟨⟨by decide +kernel, by decide +kernel⟩, List.mem_of_getElem? (i := 896) (by decide +kernel), List.mem_of_getElem? (i := 1320) (by decide +kernel), List.mem_of_getElem? (i := 1321) (by decide +kernel)⟩
theorem lw_p85 : lw_okq (⟨"FourOnOneModel", "qFact", "()V"⟩, 103) := ⟨⟨by decide +kernel, by decide +kernel⟩, List.mem_of_getElem? (i := 896) (by decide +kernel), List.mem_of_getElem? (i := 1324) (by decide +kernel), List.mem_of_getElem? (i := 1325) (by decide +kernel)⟩
theorem lw_p86 : lw_okq (⟨"FourOnOneModel", "qCode", "(I)V"⟩, 103) := ⟨⟨by decide +kernel, by decide +kernel⟩, List.mem_of_getElem? (i := 896) (by decide +kernel), List.mem_of_getElem? (i := 1328) (by decide +kernel), List.mem_of_getElem? (i := 1329) (by decide +kernel)⟩
theorem lw_p87 : lw_okq (⟨"FourOnOneModel", "qSums", "()V"⟩, 103) := ⟨⟨by decide +kernel, by decide +kernel⟩, List.mem_of_getElem? (i := 896) (by decide +kernel), List.mem_of_getElem? (i := 1332) (by decide +kernel), List.mem_of_getElem? (i := 1333) (by decide +kernel)⟩
theorem lw_p88 : lw_okq (⟨"FourOnOneModel", "qPartTold", "()V"⟩, 103) := ⟨⟨by decide +kernel, by decide +kernel⟩, List.mem_of_getElem? (i := 896) (by decide +kernel), List.mem_of_getElem? (i := 1336) (by decide +kernel), List.mem_of_getElem? (i := 1337) (by decide +kernel)⟩
theorem lw_p89 : lw_okq (⟨"FourOnOneModel", "qWordOf", "(II)I"⟩, 103) := ⟨⟨by decide +kernel, by decide +kernel⟩, List.mem_of_getElem? (i := 896) (by decide +kernel), List.mem_of_getElem? (i := 1340) (by decide +kernel), List.mem_of_getElem? (i := 1341) (by decide +kernel)⟩
theorem lw_p90 : lw_okq (⟨"FourOnOneModel", "qWordHere", "()I"⟩, 103) := ⟨⟨by decide +kernel, by decide +kernel⟩, List.mem_of_getElem? (i := 896) (by decide +kernel), List.mem_of_getElem? (i := 1344) (by decide +kernel), List.mem_of_getElem? (i := 1345) (by decide +kernel)⟩
theorem lw_p91 : lw_okq (⟨"FourOnOneModel", "isAllowed", "(I)Z"⟩, 103) := ⟨⟨by decide +kernel, by decide +kernel⟩, List.mem_of_getElem? (i := 896) (by decide +kernel), List.mem_of_getElem? (i := 1348) (by decide +kernel), List.mem_of_getElem? (i := 1349) (by decide +kernel)⟩
theorem lw_p92 : lw_okq (⟨"FourOnOneModel", "asksSign", "(I)V"⟩, 103) := ⟨⟨by decide +kernel, by decide +kernel⟩, List.mem_of_getElem? (i := 896) (by decide +kernel), List.mem_of_getElem? (i := 1354) (by decide +kernel), List.mem_of_getElem? (i := 1355) (by decide +kernel)⟩
theorem lw_p93 : lw_okq (⟨"FourOnOneModel", "takesSign", "(I)Z"⟩, 103) := ⟨⟨by decide +kernel, by decide +kernel⟩, List.mem_of_getElem? (i := 896) (by decide +kernel), List.mem_of_getElem? (i := 1358) (by decide +kernel), List.mem_of_getElem? (i := 1359) (by decide +kernel)⟩
theorem lw_p94 : lw_okq (⟨"FourOnOneModel", "qAsksWord", "(I)V"⟩, 103) := ⟨⟨by decide +kernel, by decide +kernel⟩, List.mem_of_getElem? (i := 896) (by decide +kernel), List.mem_of_getElem? (i := 1362) (by decide +kernel), List.mem_of_getElem? (i := 1363) (by decide +kernel)⟩
theorem lw_p95 : lw_okq (⟨"FourOnOneModel", "qEndsPart", "()V"⟩, 103) := ⟨⟨by decide +kernel, by decide +kernel⟩, List.mem_of_getElem? (i := 896) (by decide +kernel), List.mem_of_getElem? (i := 1366) (by decide +kernel), List.mem_of_getElem? (i := 1367) (by decide +kernel)⟩
def lw_privs_6 : List (MethodName × Nat) := [(⟨"FourOnOneModel", "likesTold", "()V"⟩, 103), (⟨"FourOnOneModel", "pressTold", "()V"⟩, 103), (⟨"FourOnOneModel", "codesTold", "(II)V"⟩, 103), (⟨"FourOnOneModel", "qTest", "()V"⟩, 103), (⟨"FourOnOneModel", "qOpens", "(II)V"⟩, 103), (⟨"FourOnOneModel", "qFact", "()V"⟩, 103), (⟨"FourOnOneModel", "qCode", "(I)V"⟩, 103), (⟨"FourOnOneModel", "qSums", "()V"⟩, 103), (⟨"FourOnOneModel", "qPartTold", "()V"⟩, 103), (⟨"FourOnOneModel", "qWordOf", "(II)I"⟩, 103), (⟨"FourOnOneModel", "qWordHere", "()I"⟩, 103), (⟨"FourOnOneModel", "isAllowed", "(I)Z"⟩, 103), (⟨"FourOnOneModel", "asksSign", "(I)V"⟩, 103), (⟨"FourOnOneModel", "takesSign", "(I)Z"⟩, 103), (⟨"FourOnOneModel", "qAsksWord", "(I)V"⟩, 103), (⟨"FourOnOneModel", "qEndsPart", "()V"⟩, 103)]
theorem lw_r6 : ∀ q ∈ lw_privs_6, lw_okq q := List.forall_mem_cons.mpr ⟨lw_p80, List.forall_mem_cons.mpr ⟨lw_p81, List.forall_mem_cons.mpr ⟨lw_p82, List.forall_mem_cons.mpr ⟨lw_p83, List.forall_mem_cons.mpr ⟨lw_p84, List.forall_mem_cons.mpr ⟨lw_p85, List.forall_mem_cons.mpr ⟨lw_p86, List.forall_mem_cons.mpr ⟨lw_p87, List.forall_mem_cons.mpr ⟨lw_p88, List.forall_mem_cons.mpr ⟨lw_p89, List.forall_mem_cons.mpr ⟨lw_p90, List.forall_mem_cons.mpr ⟨lw_p91, List.forall_mem_cons.mpr ⟨lw_p92, List.forall_mem_cons.mpr ⟨lw_p93, List.forall_mem_cons.mpr ⟨lw_p94, List.forall_mem_cons.mpr ⟨lw_p95, fun _ h => absurd h List.not_mem_nil⟩⟩⟩⟩⟩⟩⟩⟩⟩⟩⟩⟩⟩⟩⟩⟩
theorem lw_p96 : lw_okq (⟨"FourOnOneModel", "qDrops", "()V"⟩, 103) := ⟨⟨by decide +kernel, by decide +kernel⟩, List.mem_of_getElem? (i := 896) (by decide +kernel), List.mem_of_getElem? (i := 1370) (by decide +kernel), List.mem_of_getElem? (i := 1371) (by decide +kernel)⟩
theorem lw_p97 : lw_okq (⟨"FourOnOneModel", "qGoesOn", "()Z"⟩, 103) := ⟨⟨by decide +kernel, by decide +kernel⟩, List.mem_of_getElem? (i := 896) (by decide +kernel), List.mem_of_getElem? (i := 1374) (by decide +kernel), List.mem_of_getElem? (i := 1375) (by decide +kernel)⟩
theorem lw_p98 : lw_okq (⟨"FourOnOneModel", "qBracket", "()I"⟩, 103) := ⟨⟨by decide +kernel, by decide +kernel⟩, List.mem_of_getElem? (i := 896) (by decide +kernel), List.mem_of_getElem? (i := 1378) (by decide +kernel), List.mem_of_getElem? (i := 1379) (by decide +kernel)⟩
theorem lw_p99 : lw_okq (⟨"FourOnOneModel", "qDropsToBracket", "()V"⟩, 103) := ⟨⟨by decide +kernel, by decide +kernel⟩, List.mem_of_getElem? (i := 896) (by decide +kernel), List.mem_of_getElem? (i := 1385) (by decide +kernel), List.mem_of_getElem? (i := 1386) (by decide +kernel)⟩
theorem lw_p100 : lw_okq (⟨"FourOnOneModel", "qIsOn", "(I)Z"⟩, 103) := ⟨⟨by decide +kernel, by decide +kernel⟩, List.mem_of_getElem? (i := 896) (by decide +kernel), List.mem_of_getElem? (i := 1389) (by decide +kernel), List.mem_of_getElem? (i := 1390) (by decide +kernel)⟩
theorem lw_p101 : lw_okq (⟨"FourOnOneModel", "qDropsNots", "()V"⟩, 103) := ⟨⟨by decide +kernel, by decide +kernel⟩, List.mem_of_getElem? (i := 896) (by decide +kernel), List.mem_of_getElem? (i := 1393) (by decide +kernel), List.mem_of_getElem? (i := 1394) (by decide +kernel)⟩
theorem lw_p102 : lw_okq (⟨"FourOnOneModel", "qGoesOnTest", "()Z"⟩, 103) := ⟨⟨by decide +kernel, by decide +kernel⟩, List.mem_of_getElem? (i := 896) (by decide +kernel), List.mem_of_getElem? (i := 1397) (by decide +kernel), List.mem_of_getElem? (i := 1398) (by decide +kernel)⟩
theorem lw_p103 : lw_okq (⟨"FourOnOneModel", "qHasSquare", "()Z"⟩, 103) := ⟨⟨by decide +kernel, by decide +kernel⟩, List.mem_of_getElem? (i := 896) (by decide +kernel), List.mem_of_getElem? (i := 1401) (by decide +kernel), List.mem_of_getElem? (i := 1402) (by decide +kernel)⟩
theorem lw_p104 : lw_okq (⟨"FourOnOneModel", "stands", "()V"⟩, 103) := ⟨⟨by decide +kernel, by decide +kernel⟩, List.mem_of_getElem? (i := 896) (by decide +kernel), List.mem_of_getElem? (i := 1405) (by decide +kernel), List.mem_of_getElem? (i := 1406) (by decide +kernel)⟩
theorem lw_p105 : lw_okq (⟨"FourOnOneModel", "pressAll", "(I)V"⟩, 103) := ⟨⟨by decide +kernel, by decide +kernel⟩, List.mem_of_getElem? (i := 896) (by decide +kernel), List.mem_of_getElem? (i := 1409) (by decide +kernel), List.mem_of_getElem? (i := 1410) (by decide +kernel)⟩
theorem lw_p106 : lw_okq (⟨"FourOnOneModel", "personMany", "()I"⟩, 103) := ⟨⟨by decide +kernel, by decide +kernel⟩, List.mem_of_getElem? (i := 896) (by decide +kernel), List.mem_of_getElem? (i := 1413) (by decide +kernel), List.mem_of_getElem? (i := 1414) (by decide +kernel)⟩
theorem lw_p107 : lw_okq (⟨"FourOnOneModel", "pressers", "()I"⟩, 103) := ⟨⟨by decide +kernel, by decide +kernel⟩, List.mem_of_getElem? (i := 896) (by decide +kernel), List.mem_of_getElem? (i := 1425) (by decide +kernel), List.mem_of_getElem? (i := 1426) (by decide +kernel)⟩
theorem lw_p108 : lw_okq (⟨"FourOnOneModel", "doesPress", "(I)Z"⟩, 103) := ⟨⟨by decide +kernel, by decide +kernel⟩, List.mem_of_getElem? (i := 896) (by decide +kernel), List.mem_of_getElem? (i := 1429) (by decide +kernel), List.mem_of_getElem? (i := 1430) (by decide +kernel)⟩
theorem lw_p109 : lw_okq (⟨"FourOnOneModel", "hoursAll", "()I"⟩, 103) := ⟨⟨by decide +kernel, by decide +kernel⟩, List.mem_of_getElem? (i := 896) (by decide +kernel), List.mem_of_getElem? (i := 1436) (by decide +kernel), List.mem_of_getElem? (i := 1437) (by decide +kernel)⟩
theorem lw_p110 : lw_okq (⟨"FourOnOneModel", "hoursOf", "(I)I"⟩, 103) := ⟨⟨by decide +kernel, by decide +kernel⟩, List.mem_of_getElem? (i := 896) (by decide +kernel), List.mem_of_getElem? (i := 1440) (by decide +kernel), List.mem_of_getElem? (i := 1441) (by decide +kernel)⟩
theorem lw_p111 : lw_okq (⟨"FourOnOneModel", "isFilm", "(I)Z"⟩, 103) := ⟨⟨by decide +kernel, by decide +kernel⟩, List.mem_of_getElem? (i := 896) (by decide +kernel), List.mem_of_getElem? (i := 1453) (by decide +kernel), List.mem_of_getElem? (i := 1454) (by decide +kernel)⟩
def lw_privs_7 : List (MethodName × Nat) := [(⟨"FourOnOneModel", "qDrops", "()V"⟩, 103), (⟨"FourOnOneModel", "qGoesOn", "()Z"⟩, 103), (⟨"FourOnOneModel", "qBracket", "()I"⟩, 103), (⟨"FourOnOneModel", "qDropsToBracket", "()V"⟩, 103), (⟨"FourOnOneModel", "qIsOn", "(I)Z"⟩, 103), (⟨"FourOnOneModel", "qDropsNots", "()V"⟩, 103), (⟨"FourOnOneModel", "qGoesOnTest", "()Z"⟩, 103), (⟨"FourOnOneModel", "qHasSquare", "()Z"⟩, 103), (⟨"FourOnOneModel", "stands", "()V"⟩, 103), (⟨"FourOnOneModel", "pressAll", "(I)V"⟩, 103), (⟨"FourOnOneModel", "personMany", "()I"⟩, 103), (⟨"FourOnOneModel", "pressers", "()I"⟩, 103), (⟨"FourOnOneModel", "doesPress", "(I)Z"⟩, 103), (⟨"FourOnOneModel", "hoursAll", "()I"⟩, 103), (⟨"FourOnOneModel", "hoursOf", "(I)I"⟩, 103), (⟨"FourOnOneModel", "isFilm", "(I)Z"⟩, 103)]
theorem lw_r7 : ∀ q ∈ lw_privs_7, lw_okq q := List.forall_mem_cons.mpr ⟨lw_p96, List.forall_mem_cons.mpr ⟨lw_p97, List.forall_mem_cons.mpr ⟨lw_p98, List.forall_mem_cons.mpr ⟨lw_p99, List.forall_mem_cons.mpr ⟨lw_p100, List.forall_mem_cons.mpr ⟨lw_p101, List.forall_mem_cons.mpr ⟨lw_p102, List.forall_mem_cons.mpr ⟨lw_p103, List.forall_mem_cons.mpr ⟨lw_p104, List.forall_mem_cons.mpr ⟨lw_p105, List.forall_mem_cons.mpr ⟨lw_p106, List.forall_mem_cons.mpr ⟨lw_p107, List.forall_mem_cons.mpr ⟨lw_p108, List.forall_mem_cons.mpr ⟨lw_p109, List.forall_mem_cons.mpr ⟨lw_p110, List.forall_mem_cons.mpr ⟨lw_p111, fun _ h => absurd h List.not_mem_nil⟩⟩⟩⟩⟩⟩⟩⟩⟩⟩⟩⟩⟩⟩⟩⟩
theorem lw_p112 : lw_okq (⟨"FourOnOneModel", "filmMany", "()I"⟩, 103) := ⟨⟨by decide +kernel, by decide +kernel⟩, List.mem_of_getElem? (i := 896) (by decide +kernel), List.mem_of_getElem? (i := 1457) (by decide +kernel), List.mem_of_getElem? (i := 1458) (by decide +kernel)⟩
theorem lw_p113 : lw_okq (⟨"FourOnOneModel", "isKind", "(I)Z"⟩, 103) := ⟨⟨by decide +kernel, by decide +kernel⟩, List.mem_of_getElem? (i := 896) (by decide +kernel), List.mem_of_getElem? (i := 1461) (by decide +kernel), List.mem_of_getElem? (i := 1462) (by decide +kernel)⟩
theorem lw_p114 : lw_okq (⟨"FourOnOneModel", "kindMany", "()I"⟩, 103) := ⟨⟨by decide +kernel, by decide +kernel⟩, List.mem_of_getElem? (i := 896) (by decide +kernel), List.mem_of_getElem? (i := 1465) (by decide +kernel), List.mem_of_getElem? (i := 1466) (by decide +kernel)⟩
theorem lw_p115 : lw_okq (⟨"FourOnOneModel", "weightOf", "(II)I"⟩, 103) := ⟨⟨by decide +kernel, by decide +kernel⟩, List.mem_of_getElem? (i := 896) (by decide +kernel), List.mem_of_getElem? (i := 1469) (by decide +kernel), List.mem_of_getElem? (i := 1470) (by decide +kernel)⟩
theorem lw_p116 : lw_okq (⟨"FourOnOneModel", "partsOf", "(I)I"⟩, 103) := ⟨⟨by decide +kernel, by decide +kernel⟩, List.mem_of_getElem? (i := 896) (by decide +kernel), List.mem_of_getElem? (i := 1473) (by decide +kernel), List.mem_of_getElem? (i := 1474) (by decide +kernel)⟩
theorem lw_p117 : lw_okq (⟨"FourOnOneModel", "isPerson", "(I)Z"⟩, 103) := ⟨⟨by decide +kernel, by decide +kernel⟩, List.mem_of_getElem? (i := 896) (by decide +kernel), List.mem_of_getElem? (i := 1481) (by decide +kernel), List.mem_of_getElem? (i := 1482) (by decide +kernel)⟩
theorem lw_p118 : lw_okq (⟨"FourOnOneModel", "likesOf", "(II)I"⟩, 103) := ⟨⟨by decide +kernel, by decide +kernel⟩, List.mem_of_getElem? (i := 896) (by decide +kernel), List.mem_of_getElem? (i := 1485) (by decide +kernel), List.mem_of_getElem? (i := 1486) (by decide +kernel)⟩
theorem lw_p119 : lw_okq (⟨"FourOnOneModel", "tasteAt", "(II)I"⟩, 103) := ⟨⟨by decide +kernel, by decide +kernel⟩, List.mem_of_getElem? (i := 896) (by decide +kernel), List.mem_of_getElem? (i := 1493) (by decide +kernel), List.mem_of_getElem? (i := 1494) (by decide +kernel)⟩
theorem lw_p120 : lw_okq (⟨"FourOnOneModel", "seenBy", "(II)I"⟩, 103) := ⟨⟨by decide +kernel, by decide +kernel⟩, List.mem_of_getElem? (i := 896) (by decide +kernel), List.mem_of_getElem? (i := 1501) (by decide +kernel), List.mem_of_getElem? (i := 1502) (by decide +kernel)⟩
theorem lw_p121 : lw_okq (⟨"FourOnOneModel", "seenAt", "(II)I"⟩, 103) := ⟨⟨by decide +kernel, by decide +kernel⟩, List.mem_of_getElem? (i := 896) (by decide +kernel), List.mem_of_getElem? (i := 1505) (by decide +kernel), List.mem_of_getElem? (i := 1506) (by decide +kernel)⟩
theorem lw_p122 : lw_okq (⟨"FourOnOneModel", "suggestedTo", "(I)I"⟩, 103) := ⟨⟨by decide +kernel, by decide +kernel⟩, List.mem_of_getElem? (i := 896) (by decide +kernel), List.mem_of_getElem? (i := 1513) (by decide +kernel), List.mem_of_getElem? (i := 1514) (by decide +kernel)⟩
theorem lw_p123 : lw_okq (⟨"FourOnOneModel", "profileOf", "(I)I"⟩, 103) := ⟨⟨by decide +kernel, by decide +kernel⟩, List.mem_of_getElem? (i := 896) (by decide +kernel), List.mem_of_getElem? (i := 1517) (by decide +kernel), List.mem_of_getElem? (i := 1518) (by decide +kernel)⟩
theorem lw_p124 : lw_okq (⟨"FourOnOneModel", "may", "(II)Z"⟩, 103) := ⟨⟨by decide +kernel, by decide +kernel⟩, List.mem_of_getElem? (i := 896) (by decide +kernel), List.mem_of_getElem? (i := 1521) (by decide +kernel), List.mem_of_getElem? (i := 1522) (by decide +kernel)⟩
theorem lw_p125 : lw_okq (⟨"FourOnOneModel", "codesTell", "(II)J"⟩, 103) := ⟨⟨by decide +kernel, by decide +kernel⟩, List.mem_of_getElem? (i := 896) (by decide +kernel), List.mem_of_getElem? (i := 1525) (by decide +kernel), List.mem_of_getElem? (i := 1526) (by decide +kernel)⟩
theorem lw_p126 : lw_okq (⟨"FourOnOneModel", "qPuts", "(J)V"⟩, 103) := ⟨⟨by decide +kernel, by decide +kernel⟩, List.mem_of_getElem? (i := 896) (by decide +kernel), List.mem_of_getElem? (i := 1529) (by decide +kernel), List.mem_of_getElem? (i := 1530) (by decide +kernel)⟩
theorem lw_p127 : lw_okq (⟨"FourOnOneModel", "qPartOf", "(II)J"⟩, 103) := ⟨⟨by decide +kernel, by decide +kernel⟩, List.mem_of_getElem? (i := 896) (by decide +kernel), List.mem_of_getElem? (i := 1533) (by decide +kernel), List.mem_of_getElem? (i := 1534) (by decide +kernel)⟩
def lw_privs_8 : List (MethodName × Nat) := [(⟨"FourOnOneModel", "filmMany", "()I"⟩, 103), (⟨"FourOnOneModel", "isKind", "(I)Z"⟩, 103), (⟨"FourOnOneModel", "kindMany", "()I"⟩, 103), (⟨"FourOnOneModel", "weightOf", "(II)I"⟩, 103), (⟨"FourOnOneModel", "partsOf", "(I)I"⟩, 103), (⟨"FourOnOneModel", "isPerson", "(I)Z"⟩, 103), (⟨"FourOnOneModel", "likesOf", "(II)I"⟩, 103), (⟨"FourOnOneModel", "tasteAt", "(II)I"⟩, 103), (⟨"FourOnOneModel", "seenBy", "(II)I"⟩, 103), (⟨"FourOnOneModel", "seenAt", "(II)I"⟩, 103), (⟨"FourOnOneModel", "suggestedTo", "(I)I"⟩, 103), (⟨"FourOnOneModel", "profileOf", "(I)I"⟩, 103), (⟨"FourOnOneModel", "may", "(II)Z"⟩, 103), (⟨"FourOnOneModel", "codesTell", "(II)J"⟩, 103), (⟨"FourOnOneModel", "qPuts", "(J)V"⟩, 103), (⟨"FourOnOneModel", "qPartOf", "(II)J"⟩, 103)]
theorem lw_r8 : ∀ q ∈ lw_privs_8, lw_okq q := List.forall_mem_cons.mpr ⟨lw_p112, List.forall_mem_cons.mpr ⟨lw_p113, List.forall_mem_cons.mpr ⟨lw_p114, List.forall_mem_cons.mpr ⟨lw_p115, List.forall_mem_cons.mpr ⟨lw_p116, List.forall_mem_cons.mpr ⟨lw_p117, List.forall_mem_cons.mpr ⟨lw_p118, List.forall_mem_cons.mpr ⟨lw_p119, List.forall_mem_cons.mpr ⟨lw_p120, List.forall_mem_cons.mpr ⟨lw_p121, List.forall_mem_cons.mpr ⟨lw_p122, List.forall_mem_cons.mpr ⟨lw_p123, List.forall_mem_cons.mpr ⟨lw_p124, List.forall_mem_cons.mpr ⟨lw_p125, List.forall_mem_cons.mpr ⟨lw_p126, List.forall_mem_cons.mpr ⟨lw_p127, fun _ h => absurd h List.not_mem_nil⟩⟩⟩⟩⟩⟩⟩⟩⟩⟩⟩⟩⟩⟩⟩⟩
theorem lw_p128 : lw_okq (⟨"FourOnOneModel", "scoreOf", "(II)I"⟩, 103) := ⟨⟨by decide +kernel, by decide +kernel⟩, List.mem_of_getElem? (i := 896) (by decide +kernel), List.mem_of_getElem? (i := 1537) (by decide +kernel), List.mem_of_getElem? (i := 1538) (by decide +kernel)⟩
theorem lw_p129 : lw_okq (⟨"FourOnOneModel", "worthOf", "(II)I"⟩, 103) := ⟨⟨by decide +kernel, by decide +kernel⟩, List.mem_of_getElem? (i := 896) (by decide +kernel), List.mem_of_getElem? (i := 1541) (by decide +kernel), List.mem_of_getElem? (i := 1542) (by decide +kernel)⟩
theorem lw_p130 : lw_okq (⟨"FourOnOneModel", "qJoins", "(I)V"⟩, 103) := ⟨⟨by decide +kernel, by decide +kernel⟩, List.mem_of_getElem? (i := 896) (by decide +kernel), List.mem_of_getElem? (i := 1545) (by decide +kernel), List.mem_of_getElem? (i := 1546) (by decide +kernel)⟩
theorem lw_p131 : lw_okq (⟨"FourOnOneModel", "isAhead", "(III)Z"⟩, 103) := ⟨⟨by decide +kernel, by decide +kernel⟩, List.mem_of_getElem? (i := 896) (by decide +kernel), List.mem_of_getElem? (i := 1569) (by decide +kernel), List.mem_of_getElem? (i := 1570) (by decide +kernel)⟩
theorem lw_p132 : lw_okq (⟨"FourOnOneModel", "putsAside", "()V"⟩, 103) := ⟨⟨by decide +kernel, by decide +kernel⟩, List.mem_of_getElem? (i := 896) (by decide +kernel), List.mem_of_getElem? (i := 1574) (by decide +kernel), List.mem_of_getElem? (i := 1575) (by decide +kernel)⟩
theorem lw_p133 : lw_okq (⟨"FourOnOneModel", "hoursGo", "(I)I"⟩, 103) := ⟨⟨by decide +kernel, by decide +kernel⟩, List.mem_of_getElem? (i := 896) (by decide +kernel), List.mem_of_getElem? (i := 1578) (by decide +kernel), List.mem_of_getElem? (i := 1579) (by decide +kernel)⟩
theorem lw_p134 : lw_okq (⟨"FourOnOneModel", "hourGoes", "()I"⟩, 103) := ⟨⟨by decide +kernel, by decide +kernel⟩, List.mem_of_getElem? (i := 896) (by decide +kernel), List.mem_of_getElem? (i := 1582) (by decide +kernel), List.mem_of_getElem? (i := 1583) (by decide +kernel)⟩
theorem lw_p135 : lw_okq (⟨"FourOnOneModel", "isFree", "(II)Z"⟩, 103) := ⟨⟨by decide +kernel, by decide +kernel⟩, List.mem_of_getElem? (i := 896) (by decide +kernel), List.mem_of_getElem? (i := 1586) (by decide +kernel), List.mem_of_getElem? (i := 1587) (by decide +kernel)⟩
theorem lw_p136 : lw_okq (⟨"FourOnOneModel", "pleasedBy", "(II)I"⟩, 103) := ⟨⟨by decide +kernel, by decide +kernel⟩, List.mem_of_getElem? (i := 896) (by decide +kernel), List.mem_of_getElem? (i := 1590) (by decide +kernel), List.mem_of_getElem? (i := 1591) (by decide +kernel)⟩
theorem lw_p137 : lw_okq (⟨"FourOnOneModel", "partSeen", "(II)V"⟩, 103) := ⟨⟨by decide +kernel, by decide +kernel⟩, List.mem_of_getElem? (i := 896) (by decide +kernel), List.mem_of_getElem? (i := 1594) (by decide +kernel), List.mem_of_getElem? (i := 1595) (by decide +kernel)⟩
theorem lw_p138 : lw_okq (⟨"FourOnOneModel", "hasSeen", "(I)V"⟩, 103) := ⟨⟨by decide +kernel, by decide +kernel⟩, List.mem_of_getElem? (i := 896) (by decide +kernel), List.mem_of_getElem? (i := 1602) (by decide +kernel), List.mem_of_getElem? (i := 1603) (by decide +kernel)⟩
theorem lw_p139 : lw_okq (⟨"FourOnOneModel", "isKept", "(II)V"⟩, 103) := ⟨⟨by decide +kernel, by decide +kernel⟩, List.mem_of_getElem? (i := 896) (by decide +kernel), List.mem_of_getElem? (i := 1606) (by decide +kernel), List.mem_of_getElem? (i := 1607) (by decide +kernel)⟩
theorem lw_p140 : lw_okq (⟨"FourOnOneModel", "fade", "()V"⟩, 103) := ⟨⟨by decide +kernel, by decide +kernel⟩, List.mem_of_getElem? (i := 896) (by decide +kernel), List.mem_of_getElem? (i := 1610) (by decide +kernel), List.mem_of_getElem? (i := 1611) (by decide +kernel)⟩
theorem lw_p141 : lw_okq (⟨"FourOnOneModel", "takesBack", "()V"⟩, 103) := ⟨⟨by decide +kernel, by decide +kernel⟩, List.mem_of_getElem? (i := 896) (by decide +kernel), List.mem_of_getElem? (i := 1614) (by decide +kernel), List.mem_of_getElem? (i := 1615) (by decide +kernel)⟩
theorem lw_p142 : lw_okq (⟨"FourOnOneModel", "triesAnew", "()V"⟩, 103) := ⟨⟨by decide +kernel, by decide +kernel⟩, List.mem_of_getElem? (i := 896) (by decide +kernel), List.mem_of_getElem? (i := 1618) (by decide +kernel), List.mem_of_getElem? (i := 1619) (by decide +kernel)⟩
theorem lw_p143 : lw_okq (⟨"FourOnOneModel", "pleasureBy", "(III)J"⟩, 103) := ⟨⟨by decide +kernel, by decide +kernel⟩, List.mem_of_getElem? (i := 896) (by decide +kernel), List.mem_of_getElem? (i := 1630) (by decide +kernel), List.mem_of_getElem? (i := 1631) (by decide +kernel)⟩
def lw_privs_9 : List (MethodName × Nat) := [(⟨"FourOnOneModel", "scoreOf", "(II)I"⟩, 103), (⟨"FourOnOneModel", "worthOf", "(II)I"⟩, 103), (⟨"FourOnOneModel", "qJoins", "(I)V"⟩, 103), (⟨"FourOnOneModel", "isAhead", "(III)Z"⟩, 103), (⟨"FourOnOneModel", "putsAside", "()V"⟩, 103), (⟨"FourOnOneModel", "hoursGo", "(I)I"⟩, 103), (⟨"FourOnOneModel", "hourGoes", "()I"⟩, 103), (⟨"FourOnOneModel", "isFree", "(II)Z"⟩, 103), (⟨"FourOnOneModel", "pleasedBy", "(II)I"⟩, 103), (⟨"FourOnOneModel", "partSeen", "(II)V"⟩, 103), (⟨"FourOnOneModel", "hasSeen", "(I)V"⟩, 103), (⟨"FourOnOneModel", "isKept", "(II)V"⟩, 103), (⟨"FourOnOneModel", "fade", "()V"⟩, 103), (⟨"FourOnOneModel", "takesBack", "()V"⟩, 103), (⟨"FourOnOneModel", "triesAnew", "()V"⟩, 103), (⟨"FourOnOneModel", "pleasureBy", "(III)J"⟩, 103)]
theorem lw_r9 : ∀ q ∈ lw_privs_9, lw_okq q := List.forall_mem_cons.mpr ⟨lw_p128, List.forall_mem_cons.mpr ⟨lw_p129, List.forall_mem_cons.mpr ⟨lw_p130, List.forall_mem_cons.mpr ⟨lw_p131, List.forall_mem_cons.mpr ⟨lw_p132, List.forall_mem_cons.mpr ⟨lw_p133, List.forall_mem_cons.mpr ⟨lw_p134, List.forall_mem_cons.mpr ⟨lw_p135, List.forall_mem_cons.mpr ⟨lw_p136, List.forall_mem_cons.mpr ⟨lw_p137, List.forall_mem_cons.mpr ⟨lw_p138, List.forall_mem_cons.mpr ⟨lw_p139, List.forall_mem_cons.mpr ⟨lw_p140, List.forall_mem_cons.mpr ⟨lw_p141, List.forall_mem_cons.mpr ⟨lw_p142, List.forall_mem_cons.mpr ⟨lw_p143, fun _ h => absurd h List.not_mem_nil⟩⟩⟩⟩⟩⟩⟩⟩⟩⟩⟩⟩⟩⟩⟩⟩
theorem lw_p144 : lw_okq (⟨"FourOnOneModel", "isRest", "(I)Z"⟩, 103) := ⟨⟨by decide +kernel, by decide +kernel⟩, List.mem_of_getElem? (i := 896) (by decide +kernel), List.mem_of_getElem? (i := 1638) (by decide +kernel), List.mem_of_getElem? (i := 1639) (by decide +kernel)⟩
theorem lw_p145 : lw_okq (⟨"FourOnOneModel", "byRule", "(III)I"⟩, 103) := ⟨⟨by decide +kernel, by decide +kernel⟩, List.mem_of_getElem? (i := 896) (by decide +kernel), List.mem_of_getElem? (i := 1659) (by decide +kernel), List.mem_of_getElem? (i := 1660) (by decide +kernel)⟩
theorem lw_p146 : lw_okq (⟨"FourOnOneModel", "firstOf", "(I)I"⟩, 103) := ⟨⟨by decide +kernel, by decide +kernel⟩, List.mem_of_getElem? (i := 896) (by decide +kernel), List.mem_of_getElem? (i := 1663) (by decide +kernel), List.mem_of_getElem? (i := 1664) (by decide +kernel)⟩
theorem lw_p147 : lw_okq (⟨"FourOnOneModel", "lastHour", "()I"⟩, 103) := ⟨⟨by decide +kernel, by decide +kernel⟩, List.mem_of_getElem? (i := 896) (by decide +kernel), List.mem_of_getElem? (i := 1679) (by decide +kernel), List.mem_of_getElem? (i := 1680) (by decide +kernel)⟩
theorem lw_p148 : lw_okq (⟨"FourOnOneModel", "isAsTold", "(I)Z"⟩, 103) := ⟨⟨by decide +kernel, by decide +kernel⟩, List.mem_of_getElem? (i := 896) (by decide +kernel), List.mem_of_getElem? (i := 1683) (by decide +kernel), List.mem_of_getElem? (i := 1684) (by decide +kernel)⟩
theorem lw_p149 : lw_okq (⟨"FourOnOneModel", "isSeenNow", "(I)Z"⟩, 103) := ⟨⟨by decide +kernel, by decide +kernel⟩, List.mem_of_getElem? (i := 896) (by decide +kernel), List.mem_of_getElem? (i := 1687) (by decide +kernel), List.mem_of_getElem? (i := 1688) (by decide +kernel)⟩
theorem lw_p150 : lw_okq (⟨"FourOnOneModel", "keeps", "()V"⟩, 103) := ⟨⟨by decide +kernel, by decide +kernel⟩, List.mem_of_getElem? (i := 896) (by decide +kernel), List.mem_of_getElem? (i := 1699) (by decide +kernel), List.mem_of_getElem? (i := 1700) (by decide +kernel)⟩
theorem lw_p151 : lw_okq (⟨"FourOnOneModel", "refuses", "(I)I"⟩, 103) := ⟨⟨by decide +kernel, by decide +kernel⟩, List.mem_of_getElem? (i := 896) (by decide +kernel), List.mem_of_getElem? (i := 1711) (by decide +kernel), List.mem_of_getElem? (i := 1712) (by decide +kernel)⟩
theorem lw_p152 : lw_okq (⟨"FourOnOneModel", "isStranger", "()Z"⟩, 103) := ⟨⟨by decide +kernel, by decide +kernel⟩, List.mem_of_getElem? (i := 896) (by decide +kernel), List.mem_of_getElem? (i := 1723) (by decide +kernel), List.mem_of_getElem? (i := 1724) (by decide +kernel)⟩
theorem lw_p153 : lw_okq (⟨"FourOnOneModel", "drawOf", "(I)I"⟩, 103) := ⟨⟨by decide +kernel, by decide +kernel⟩, List.mem_of_getElem? (i := 896) (by decide +kernel), List.mem_of_getElem? (i := 1727) (by decide +kernel), List.mem_of_getElem? (i := 1728) (by decide +kernel)⟩
theorem lw_p154 : lw_okq (⟨"FourOnOneModel", "qKind", "()I"⟩, 103) := ⟨⟨by decide +kernel, by decide +kernel⟩, List.mem_of_getElem? (i := 896) (by decide +kernel), List.mem_of_getElem? (i := 1739) (by decide +kernel), List.mem_of_getElem? (i := 1740) (by decide +kernel)⟩
theorem lw_p155 : lw_okq (⟨"FourOnOneModel", "qTold", "(I)J"⟩, 103) := ⟨⟨by decide +kernel, by decide +kernel⟩, List.mem_of_getElem? (i := 896) (by decide +kernel), List.mem_of_getElem? (i := 1744) (by decide +kernel), List.mem_of_getElem? (i := 1745) (by decide +kernel)⟩
theorem lw_p156 : lw_okq (⟨"FourOnOneModel", "qOf", "(IJI)J"⟩, 103) := ⟨⟨by decide +kernel, by decide +kernel⟩, List.mem_of_getElem? (i := 896) (by decide +kernel), List.mem_of_getElem? (i := 1748) (by decide +kernel), List.mem_of_getElem? (i := 1749) (by decide +kernel)⟩
theorem lw_p157 : lw_okq (⟨"FourOnOneModel", "qTakes", "(IJI)V"⟩, 103) := ⟨⟨by decide +kernel, by decide +kernel⟩, List.mem_of_getElem? (i := 896) (by decide +kernel), List.mem_of_getElem? (i := 1752) (by decide +kernel), List.mem_of_getElem? (i := 1753) (by decide +kernel)⟩
theorem lw_p158 : lw_okq (⟨"FourOnOneModel", "writesTwo", "(I)V"⟩, 103) := ⟨⟨by decide +kernel, by decide +kernel⟩, List.mem_of_getElem? (i := 896) (by decide +kernel), List.mem_of_getElem? (i := 1760) (by decide +kernel), List.mem_of_getElem? (i := 1761) (by decide +kernel)⟩
theorem lw_p159 : lw_okq (⟨"FourOnOneModel", "writes", "(I)V"⟩, 103) := ⟨⟨by decide +kernel, by decide +kernel⟩, List.mem_of_getElem? (i := 896) (by decide +kernel), List.mem_of_getElem? (i := 1764) (by decide +kernel), List.mem_of_getElem? (i := 1765) (by decide +kernel)⟩
def lw_privs_10 : List (MethodName × Nat) := [(⟨"FourOnOneModel", "isRest", "(I)Z"⟩, 103), (⟨"FourOnOneModel", "byRule", "(III)I"⟩, 103), (⟨"FourOnOneModel", "firstOf", "(I)I"⟩, 103), (⟨"FourOnOneModel", "lastHour", "()I"⟩, 103), (⟨"FourOnOneModel", "isAsTold", "(I)Z"⟩, 103), (⟨"FourOnOneModel", "isSeenNow", "(I)Z"⟩, 103), (⟨"FourOnOneModel", "keeps", "()V"⟩, 103), (⟨"FourOnOneModel", "refuses", "(I)I"⟩, 103), (⟨"FourOnOneModel", "isStranger", "()Z"⟩, 103), (⟨"FourOnOneModel", "drawOf", "(I)I"⟩, 103), (⟨"FourOnOneModel", "qKind", "()I"⟩, 103), (⟨"FourOnOneModel", "qTold", "(I)J"⟩, 103), (⟨"FourOnOneModel", "qOf", "(IJI)J"⟩, 103), (⟨"FourOnOneModel", "qTakes", "(IJI)V"⟩, 103), (⟨"FourOnOneModel", "writesTwo", "(I)V"⟩, 103), (⟨"FourOnOneModel", "writes", "(I)V"⟩, 103)]
theorem lw_r10 : ∀ q ∈ lw_privs_10, lw_okq q := List.forall_mem_cons.mpr ⟨lw_p144, List.forall_mem_cons.mpr ⟨lw_p145, List.forall_mem_cons.mpr ⟨lw_p146, List.forall_mem_cons.mpr ⟨lw_p147, List.forall_mem_cons.mpr ⟨lw_p148, List.forall_mem_cons.mpr ⟨lw_p149, List.forall_mem_cons.mpr ⟨lw_p150, List.forall_mem_cons.mpr ⟨lw_p151, List.forall_mem_cons.mpr ⟨lw_p152, List.forall_mem_cons.mpr ⟨lw_p153, List.forall_mem_cons.mpr ⟨lw_p154, List.forall_mem_cons.mpr ⟨lw_p155, List.forall_mem_cons.mpr ⟨lw_p156, List.forall_mem_cons.mpr ⟨lw_p157, List.forall_mem_cons.mpr ⟨lw_p158, List.forall_mem_cons.mpr ⟨lw_p159, fun _ h => absurd h List.not_mem_nil⟩⟩⟩⟩⟩⟩⟩⟩⟩⟩⟩⟩⟩⟩⟩⟩
theorem lw_p160 : lw_okq (⟨"FourOnOneModel", "isImage", "(I)Z"⟩, 103) := ⟨⟨by decide +kernel, by decide +kernel⟩, List.mem_of_getElem? (i := 896) (by decide +kernel), List.mem_of_getElem? (i := 1779) (by decide +kernel), List.mem_of_getElem? (i := 1780) (by decide +kernel)⟩
theorem lw_p161 : lw_okq (⟨"FourOnOneModel", "profileFrom", "(I)I"⟩, 103) := ⟨⟨by decide +kernel, by decide +kernel⟩, List.mem_of_getElem? (i := 896) (by decide +kernel), List.mem_of_getElem? (i := 1783) (by decide +kernel), List.mem_of_getElem? (i := 1784) (by decide +kernel)⟩
theorem lw_p162 : lw_okq (⟨"FourOnOneModel", "twoAt", "(I)I"⟩, 103) := ⟨⟨by decide +kernel, by decide +kernel⟩, List.mem_of_getElem? (i := 896) (by decide +kernel), List.mem_of_getElem? (i := 1787) (by decide +kernel), List.mem_of_getElem? (i := 1788) (by decide +kernel)⟩
theorem lw_p163 : lw_okq (⟨"FourOnOneModel", "isProfileTold", "(I)Z"⟩, 103) := ⟨⟨by decide +kernel, by decide +kernel⟩, List.mem_of_getElem? (i := 896) (by decide +kernel), List.mem_of_getElem? (i := 1791) (by decide +kernel), List.mem_of_getElem? (i := 1792) (by decide +kernel)⟩
def lw_privs_11 : List (MethodName × Nat) := [(⟨"FourOnOneModel", "isImage", "(I)Z"⟩, 103), (⟨"FourOnOneModel", "profileFrom", "(I)I"⟩, 103), (⟨"FourOnOneModel", "twoAt", "(I)I"⟩, 103), (⟨"FourOnOneModel", "isProfileTold", "(I)Z"⟩, 103)]
theorem lw_r11 : ∀ q ∈ lw_privs_11, lw_okq q := List.forall_mem_cons.mpr ⟨lw_p160, List.forall_mem_cons.mpr ⟨lw_p161, List.forall_mem_cons.mpr ⟨lw_p162, List.forall_mem_cons.mpr ⟨lw_p163, fun _ h => absurd h List.not_mem_nil⟩⟩⟩⟩
def lw_privs : List (MethodName × Nat) := lw_privs_1 ++ (lw_privs_2 ++ (lw_privs_3 ++ (lw_privs_4 ++ (lw_privs_5 ++ (lw_privs_6 ++ (lw_privs_7 ++ (lw_privs_8 ++ (lw_privs_9 ++ (lw_privs_10 ++ (lw_privs_11))))))))))
def lw_tbl : List Cond := k2_sels lw_privs ++ tables_1
theorem lw_privs_ok : ∀ q ∈ lw_privs, lw_okq q := by
  show ∀ q ∈ lw_privs_1 ++ (lw_privs_2 ++ (lw_privs_3 ++ (lw_privs_4 ++ (lw_privs_5 ++ (lw_privs_6 ++ (lw_privs_7 ++ (lw_privs_8 ++ (lw_privs_9 ++ (lw_privs_10 ++ (lw_privs_11)))))))))), lw_okq q
  exact List.forall_mem_append.mpr ⟨lw_r1, List.forall_mem_append.mpr ⟨lw_r2, List.forall_mem_append.mpr ⟨lw_r3, List.forall_mem_append.mpr ⟨lw_r4, List.forall_mem_append.mpr ⟨lw_r5, List.forall_mem_append.mpr ⟨lw_r6, List.forall_mem_append.mpr ⟨lw_r7, List.forall_mem_append.mpr ⟨lw_r8, List.forall_mem_append.mpr ⟨lw_r9, List.forall_mem_append.mpr ⟨lw_r10, lw_r11⟩⟩⟩⟩⟩⟩⟩⟩⟩⟩
-- ===== end of PART A; then your names; then what follows =====
/-! ===== BEGIN printed: names, fields, word lists, decode rows ===== -/
def RX0 : String := "FourOnOne$Account"
def TX0 : u_T := fun k => match k with
  | 0 => ("FourOnOne$Account", "time", "I", false)
  | 1 => ("FourOnOne$Account", "presses", "I", false)
  | 2 => ("FourOnOne$Account", "taste", "[I", true)
  | 3 => ("FourOnOne$Account", "seen", "[I", true)
  | 4 => ("FourOnOne$Account", "saw", "[I", true)
  | 5 => ("FourOnOne$Account", "kept", "[I", true)
  | _ => ("FourOnOne$Account", "keptEver", "I", false)
def tyX0 : Nat → FieldType := fun k => match k with
  | 0 => .int
  | 1 => .int
  | 2 => .array .int
  | 3 => .array .int
  | 4 => .array .int
  | 5 => .array .int
  | _ => .int
abbrev wsX00 : List Cond := u_ws RX0 TX0 7
theorem nmX0 : ∀ a, a < 7 → ∀ b, b < 7 → a ≠ b → (TX0 a).2.1 ≠ (TX0 b).2.1 := by decide +kernel
theorem tyX0_ok : ∀ k, k < 7 → parseFieldDescriptor (TX0 k).2.2.1 = some (tyX0 k) := by decide +kernel
abbrev cX0_init : ByteArray := prog_2_method_1_code
def yX0_init : MethodName := ⟨RX0, "<init>", "()V"⟩
abbrev cX0_clear : ByteArray := prog_2_method_2_code
def yX0_clear : MethodName := ⟨RX0, "clear", "()V"⟩
abbrev cX0_copyFrom : ByteArray := prog_2_method_3_code
def yX0_copyFrom : MethodName := ⟨RX0, "copyFrom", "(LFourOnOne$Account;)V"⟩
abbrev cX0_profileOf : ByteArray := prog_2_method_4_code
def yX0_profileOf : MethodName := ⟨RX0, "profileOf", "(I)I"⟩
abbrev cX0_keptCount : ByteArray := prog_2_method_5_code
def yX0_keptCount : MethodName := ⟨RX0, "keptCount", "()I"⟩
abbrev cX0_keptRow : ByteArray := prog_2_method_6_code
def yX0_keptRow : MethodName := ⟨RX0, "keptRow", "(I)I"⟩
abbrev cX0_keep : ByteArray := prog_2_method_7_code
def yX0_keep : MethodName := ⟨RX0, "keep", "(II)V"⟩
def RX1 : String := "FourOnOne$Course"
def TX1 : u_T := fun k => match k with
  | 0 => ("FourOnOne$Course", "house", "LFourOnOne$House;", false)
  | 1 => ("FourOnOne$Course", "account", "LFourOnOne$Account;", true)
  | 2 => ("FourOnOne$Course", "pleased", "[I", true)
  | 3 => ("FourOnOne$Course", "refused", "[I", true)
  | 4 => ("FourOnOne$Course", "filmsSeen", "I", false)
  | _ => ("FourOnOne$Course", "machine", "LFourOnOne$Machine;", true)
def tyX1 : Nat → FieldType := fun k => match k with
  | 0 => .object "FourOnOne$House"
  | 1 => .object "FourOnOne$Account"
  | 2 => .array .int
  | 3 => .array .int
  | 4 => .int
  | _ => .object "FourOnOne$Machine"
abbrev wsX10 : List Cond := u_ws RX1 TX1 6
theorem nmX1 : ∀ a, a < 6 → ∀ b, b < 6 → a ≠ b → (TX1 a).2.1 ≠ (TX1 b).2.1 := by decide +kernel
theorem tyX1_ok : ∀ k, k < 6 → parseFieldDescriptor (TX1 k).2.2.1 = some (tyX1 k) := by decide +kernel
abbrev cX1_init : ByteArray := prog_3_method_1_code
def yX1_init : MethodName := ⟨RX1, "<init>", "(LFourOnOne$House;)V"⟩
abbrev cX1_begin : ByteArray := prog_3_method_2_code
def yX1_begin : MethodName := ⟨RX1, "begin", "(LFourOnOne$Course;I)V"⟩
abbrev cX1_passHour : ByteArray := prog_3_method_3_code
def yX1_passHour : MethodName := ⟨RX1, "passHour", "()I"⟩
abbrev cX1_suggested : ByteArray := prog_3_method_4_code
def yX1_suggested : MethodName := ⟨RX1, "suggested", "(I)I"⟩
abbrev cX1_hasPartFor : ByteArray := prog_3_method_5_code
def yX1_hasPartFor : MethodName := ⟨RX1, "hasPartFor", "(II)Z"⟩
abbrev cX1_watch : ByteArray := prog_3_method_6_code
def yX1_watch : MethodName := ⟨RX1, "watch", "(II)I"⟩
abbrev cX1_seePart : ByteArray := prog_3_method_7_code
def yX1_seePart : MethodName := ⟨RX1, "seePart", "(III)V"⟩
abbrev cX1_valueFor : ByteArray := prog_3_method_8_code
def yX1_valueFor : MethodName := ⟨RX1, "valueFor", "([III)I"⟩
abbrev cX1_scoreOf : ByteArray := prog_3_method_9_code
def yX1_scoreOf : MethodName := ⟨RX1, "scoreOf", "(II)I"⟩
abbrev cX1_setFilmFacts : ByteArray := prog_3_method_10_code
def yX1_setFilmFacts : MethodName := ⟨RX1, "setFilmFacts", "(III)V"⟩
abbrev cX1_mayBe : ByteArray := prog_3_method_11_code
def yX1_mayBe : MethodName := ⟨RX1, "mayBe", "(III)Z"⟩
abbrev cX1_fadeAll : ByteArray := prog_3_method_12_code
def yX1_fadeAll : MethodName := ⟨RX1, "fadeAll", "(I)V"⟩
abbrev cX1_heldTaste : ByteArray := prog_3_method_13_code
def yX1_heldTaste : MethodName := ⟨RX1, "heldTaste", "(I)I"⟩
def RX2 : String := "FourOnOne$House"
def TX2 : u_T := fun k => match k with
  | 0 => ("FourOnOne$House", "counts", "[I", true)
  | 1 => ("FourOnOne$House", "names", "[[I", true)
  | 2 => ("FourOnOne$House", "parts", "[I", true)
  | 3 => ("FourOnOne$House", "weights", "[[I", true)
  | 4 => ("FourOnOne$House", "firstHour", "[I", true)
  | 5 => ("FourOnOne$House", "lastHour", "[I", true)
  | 6 => ("FourOnOne$House", "likes", "[[I", true)
  | 7 => ("FourOnOne$House", "presses", "I", false)
  | 8 => ("FourOnOne$House", "screens", "I", false)
  | 9 => ("FourOnOne$House", "price", "I", false)
  | 10 => ("FourOnOne$House", "bother", "I", false)
  | 11 => ("FourOnOne$House", "strange", "I", false)
  | 12 => ("FourOnOne$House", "learns", "I", false)
  | 13 => ("FourOnOne$House", "fades", "I", false)
  | 14 => ("FourOnOne$House", "may", "I", false)
  | _ => ("FourOnOne$House", "steps", "[I", true)
def tyX2 : Nat → FieldType := fun k => match k with
  | 0 => .array .int
  | 1 => .array (.array .int)
  | 2 => .array .int
  | 3 => .array (.array .int)
  | 4 => .array .int
  | 5 => .array .int
  | 6 => .array (.array .int)
  | 7 => .int
  | 8 => .int
  | 9 => .int
  | 10 => .int
  | 11 => .int
  | 12 => .int
  | 13 => .int
  | 14 => .int
  | _ => .array .int
abbrev wsX20 : List Cond := u_ws RX2 TX2 16
theorem nmX2 : ∀ a, a < 16 → ∀ b, b < 16 → a ≠ b → (TX2 a).2.1 ≠ (TX2 b).2.1 := by decide +kernel
theorem tyX2_ok : ∀ k, k < 16 → parseFieldDescriptor (TX2 k).2.2.1 = some (tyX2 k) := by decide +kernel
abbrev cX2_init : ByteArray := prog_4_method_1_code
def yX2_init : MethodName := ⟨RX2, "<init>", "()V"⟩
abbrev cX2_clear : ByteArray := prog_4_method_2_code
def yX2_clear : MethodName := ⟨RX2, "clear", "()V"⟩
abbrev cX2_find : ByteArray := prog_4_method_3_code
def yX2_find : MethodName := ⟨RX2, "find", "(II)I"⟩
abbrev cX2_isFree : ByteArray := prog_4_method_4_code
def yX2_isFree : MethodName := ⟨RX2, "isFree", "(II)Z"⟩
abbrev cX2_worthOf : ByteArray := prog_4_method_5_code
def yX2_worthOf : MethodName := ⟨RX2, "worthOf", "(II)I"⟩
abbrev cX2_filmOfMostWorth : ByteArray := prog_4_method_6_code
def yX2_filmOfMostWorth : MethodName := ⟨RX2, "filmOfMostWorth", "(I)I"⟩
def RX3 : String := "FourOnOne$Machine"
def TX3 : u_T := fun k => match k with
  | 0 => ("FourOnOne$Machine", "stack", "[I", true)
  | 1 => ("FourOnOne$Machine", "facts", "[I", true)
  | _ => ("FourOnOne$Machine", "weights", "[I", true)
def tyX3 : Nat → FieldType := fun k => match k with
  | 0 => .array .int
  | 1 => .array .int
  | _ => .array .int
abbrev wsX30 : List Cond := u_ws RX3 TX3 3
theorem nmX3 : ∀ a, a < 3 → ∀ b, b < 3 → a ≠ b → (TX3 a).2.1 ≠ (TX3 b).2.1 := by decide +kernel
theorem tyX3_ok : ∀ k, k < 3 → parseFieldDescriptor (TX3 k).2.2.1 = some (tyX3 k) := by decide +kernel
abbrev cX3_init : ByteArray := prog_5_method_1_code
def yX3_init : MethodName := ⟨RX3, "<init>", "()V"⟩
abbrev cX3_value : ByteArray := prog_5_method_2_code
def yX3_value : MethodName := ⟨RX3, "value", "([II)I"⟩
abbrev cX3_given : ByteArray := prog_5_method_3_code
def yX3_given : MethodName := ⟨RX3, "given", "(I)I"⟩
abbrev cX3_weightOf : ByteArray := prog_5_method_4_code
def yX3_weightOf : MethodName := ⟨RX3, "weightOf", "(I)I"⟩
abbrev cX3_joined : ByteArray := prog_5_method_5_code
def yX3_joined : MethodName := ⟨RX3, "joined", "(IJJ)I"⟩
def RX4 : String := "FourOnOne$Reader"
def TX4 : u_T := fun k => match k with
  | 0 => ("FourOnOne$Reader", "fault", "I", false)
  | 1 => ("FourOnOne$Reader", "place", "I", false)
  | 2 => ("FourOnOne$Reader", "house", "LFourOnOne$House;", false)
  | 3 => ("FourOnOne$Reader", "asked", "I", false)
  | 4 => ("FourOnOne$Reader", "question", "[I", true)
  | 5 => ("FourOnOne$Reader", "text", "[I", true)
  | 6 => ("FourOnOne$Reader", "length", "I", false)
  | 7 => ("FourOnOne$Reader", "words", "[J", true)
  | 8 => ("FourOnOne$Reader", "token", "I", false)
  | 9 => ("FourOnOne$Reader", "from", "I", false)
  | 10 => ("FourOnOne$Reader", "to", "I", false)
  | 11 => ("FourOnOne$Reader", "letters", "J", false)
  | 12 => ("FourOnOne$Reader", "word", "I", false)
  | 13 => ("FourOnOne$Reader", "formula", "I", false)
  | 14 => ("FourOnOne$Reader", "steps", "[I", false)
  | 15 => ("FourOnOne$Reader", "stepCount", "I", false)
  | _ => ("FourOnOne$Reader", "open", "I", false)
def tyX4 : Nat → FieldType := fun k => match k with
  | 0 => .int
  | 1 => .int
  | 2 => .object "FourOnOne$House"
  | 3 => .int
  | 4 => .array .int
  | 5 => .array .int
  | 6 => .int
  | 7 => .array .long
  | 8 => .int
  | 9 => .int
  | 10 => .int
  | 11 => .long
  | 12 => .int
  | 13 => .int
  | 14 => .array .int
  | 15 => .int
  | _ => .int
abbrev wsX40 : List Cond := u_ws RX4 TX4 17
theorem nmX4 : ∀ a, a < 17 → ∀ b, b < 17 → a ≠ b → (TX4 a).2.1 ≠ (TX4 b).2.1 := by decide +kernel
theorem tyX4_ok : ∀ k, k < 17 → parseFieldDescriptor (TX4 k).2.2.1 = some (tyX4 k) := by decide +kernel
abbrev cX4_init : ByteArray := prog_6_method_1_code
def yX4_init : MethodName := ⟨RX4, "<init>", "()V"⟩
abbrev cX4_readHouse : ByteArray := prog_6_method_2_code
def yX4_readHouse : MethodName := ⟨RX4, "readHouse", "(I)I"⟩
abbrev cX4_readQuestion : ByteArray := prog_6_method_3_code
def yX4_readQuestion : MethodName := ⟨RX4, "readQuestion", "(I)Z"⟩
abbrev cX4_begin : ByteArray := prog_6_method_4_code
def yX4_begin : MethodName := ⟨RX4, "begin", "(I[I)V"⟩
abbrev cX4_fail : ByteArray := prog_6_method_5_code
def yX4_fail : MethodName := ⟨RX4, "fail", "(II)V"⟩
abbrev cX4_next : ByteArray := prog_6_method_6_code
def yX4_next : MethodName := ⟨RX4, "next", "()V"⟩
abbrev cX4_knowWord : ByteArray := prog_6_method_7_code
def yX4_knowWord : MethodName := ⟨RX4, "knowWord", "()V"⟩
abbrev cX4_isWord : ByteArray := prog_6_method_8_code
def yX4_isWord : MethodName := ⟨RX4, "isWord", "(I)Z"⟩
abbrev cX4_isSign : ByteArray := prog_6_method_9_code
def yX4_isSign : MethodName := ⟨RX4, "isSign", "(C)Z"⟩
abbrev cX4_takeWord : ByteArray := prog_6_method_10_code
def yX4_takeWord : MethodName := ⟨RX4, "takeWord", "(I)V"⟩
abbrev cX4_takeSign : ByteArray := prog_6_method_11_code
def yX4_takeSign : MethodName := ⟨RX4, "takeSign", "(C)V"⟩
abbrev cX4_takeNumber : ByteArray := prog_6_method_12_code
def yX4_takeNumber : MethodName := ⟨RX4, "takeNumber", "(II)I"⟩
abbrev cX4_nameHere : ByteArray := prog_6_method_13_code
def yX4_nameHere : MethodName := ⟨RX4, "nameHere", "()I"⟩
abbrev cX4_readStatement : ByteArray := prog_6_method_14_code
def yX4_readStatement : MethodName := ⟨RX4, "readStatement", "()V"⟩
abbrev cX4_takeNewName : ByteArray := prog_6_method_15_code
def yX4_takeNewName : MethodName := ⟨RX4, "takeNewName", "(II)I"⟩
abbrev cX4_takeKnownName : ByteArray := prog_6_method_16_code
def yX4_takeKnownName : MethodName := ⟨RX4, "takeKnownName", "(I)I"⟩
abbrev cX4_readFilm : ByteArray := prog_6_method_17_code
def yX4_readFilm : MethodName := ⟨RX4, "readFilm", "()V"⟩
abbrev cX4_readPerson : ByteArray := prog_6_method_18_code
def yX4_readPerson : MethodName := ⟨RX4, "readPerson", "()V"⟩
abbrev cX4_readLikes : ByteArray := prog_6_method_19_code
def yX4_readLikes : MethodName := ⟨RX4, "readLikes", "()V"⟩
abbrev cX4_readPress : ByteArray := prog_6_method_20_code
def yX4_readPress : MethodName := ⟨RX4, "readPress", "()V"⟩
abbrev cX4_beginFormula : ByteArray := prog_6_method_21_code
def yX4_beginFormula : MethodName := ⟨RX4, "beginFormula", "(II)I"⟩
abbrev cX4_put : ByteArray := prog_6_method_22_code
def yX4_put : MethodName := ⟨RX4, "put", "(I)V"⟩
abbrev cX4_opens : ByteArray := prog_6_method_23_code
def yX4_opens : MethodName := ⟨RX4, "opens", "()Z"⟩
abbrev cX4_readTest : ByteArray := prog_6_method_24_code
def yX4_readTest : MethodName := ⟨RX4, "readTest", "()V"⟩
abbrev cX4_readBoth : ByteArray := prog_6_method_25_code
def yX4_readBoth : MethodName := ⟨RX4, "readBoth", "()V"⟩
abbrev cX4_readFact : ByteArray := prog_6_method_26_code
def yX4_readFact : MethodName := ⟨RX4, "readFact", "()V"⟩
abbrev cX4_readSum : ByteArray := prog_6_method_27_code
def yX4_readSum : MethodName := ⟨RX4, "readSum", "()V"⟩
abbrev cX4_readProduct : ByteArray := prog_6_method_28_code
def yX4_readProduct : MethodName := ⟨RX4, "readProduct", "()V"⟩
abbrev cX4_readPart : ByteArray := prog_6_method_29_code
def yX4_readPart : MethodName := ⟨RX4, "readPart", "()V"⟩
abbrev cX4_readLesserOrGreater : ByteArray := prog_6_method_30_code
def yX4_readLesserOrGreater : MethodName := ⟨RX4, "readLesserOrGreater", "(I)V"⟩
abbrev cX4_isFactHere : ByteArray := prog_6_method_31_code
def yX4_isFactHere : MethodName := ⟨RX4, "isFactHere", "()Z"⟩
def RX5 : String := "FourOnOne"
def TX5 : u_T := fun k => match k with
  | 0 => ("FourOnOne", "reader", "LFourOnOne$Reader;", true)
  | 1 => ("FourOnOne", "tape", "[I", true)
  | 2 => ("FourOnOne", "fed", "I", false)
  | 3 => ("FourOnOne", "now", "LFourOnOne$Course;", true)
  | 4 => ("FourOnOne", "ahead", "LFourOnOne$Course;", true)
  | 5 => ("FourOnOne", "past", "[LFourOnOne$Account;", true)
  | 6 => ("FourOnOne", "oldestPast", "I", false)
  | 7 => ("FourOnOne", "pastActs", "I", false)
  | 8 => ("FourOnOne", "toldRows", "[I", true)
  | 9 => ("FourOnOne", "toldCount", "I", false)
  | 10 => ("FourOnOne", "imageBytes", "[I", true)
  | 11 => ("FourOnOne", "imageLength", "I", false)
  | 12 => ("FourOnOne", "setPleasures", "[I", true)
  | 13 => ("FourOnOne", "votes", "[I", true)
  | 14 => ("FourOnOne", "refusals", "[I", true)
  | _ => ("FourOnOne", "drawn", "I", false)
def tyX5 : Nat → FieldType := fun k => match k with
  | 0 => .object "FourOnOne$Reader"
  | 1 => .array .int
  | 2 => .int
  | 3 => .object "FourOnOne$Course"
  | 4 => .object "FourOnOne$Course"
  | 5 => .array (.object "FourOnOne$Account")
  | 6 => .int
  | 7 => .int
  | 8 => .array .int
  | 9 => .int
  | 10 => .array .int
  | 11 => .int
  | 12 => .array .int
  | 13 => .array .int
  | 14 => .array .int
  | _ => .int
abbrev wsX50 : List Cond := u_ws RX5 TX5 16
theorem nmX5 : ∀ a, a < 16 → ∀ b, b < 16 → a ≠ b → (TX5 a).2.1 ≠ (TX5 b).2.1 := by decide +kernel
theorem tyX5_ok : ∀ k, k < 16 → parseFieldDescriptor (TX5 k).2.2.1 = some (tyX5 k) := by decide +kernel
abbrev cX5_init : ByteArray := prog_1_method_1_code
def yX5_init : MethodName := ⟨RX5, "<init>", "()V"⟩
abbrev cX5_feed : ByteArray := prog_1_method_2_code
def yX5_feed : MethodName := ⟨RX5, "feed", "(IIIII)I"⟩
abbrev cX5_end : ByteArray := prog_1_method_3_code
def yX5_end : MethodName := ⟨RX5, "end", "(I)Z"⟩
abbrev cX5_house : ByteArray := prog_1_method_4_code
def yX5_house : MethodName := ⟨RX5, "house", "()I"⟩
abbrev cX5_fault : ByteArray := prog_1_method_5_code
def yX5_fault : MethodName := ⟨RX5, "fault", "(I)I"⟩
abbrev cX5_has : ByteArray := prog_1_method_6_code
def yX5_has : MethodName := ⟨RX5, "has", "(I)I"⟩
abbrev cX5_letter : ByteArray := prog_1_method_7_code
def yX5_letter : MethodName := ⟨RX5, "letter", "(III)I"⟩
abbrev cX5_film : ByteArray := prog_1_method_8_code
def yX5_film : MethodName := ⟨RX5, "film", "(II)I"⟩
abbrev cX5_person : ByteArray := prog_1_method_9_code
def yX5_person : MethodName := ⟨RX5, "person", "(II)I"⟩
abbrev cX5_taste : ByteArray := prog_1_method_10_code
def yX5_taste : MethodName := ⟨RX5, "taste", "(II)I"⟩
abbrev cX5_seen : ByteArray := prog_1_method_11_code
def yX5_seen : MethodName := ⟨RX5, "seen", "(II)I"⟩
abbrev cX5_suggest : ByteArray := prog_1_method_12_code
def yX5_suggest : MethodName := ⟨RX5, "suggest", "(I)I"⟩
abbrev cX5_worth : ByteArray := prog_1_method_13_code
def yX5_worth : MethodName := ⟨RX5, "worth", "(II)I"⟩
abbrev cX5_kept : ByteArray := prog_1_method_14_code
def yX5_kept : MethodName := ⟨RX5, "kept", "(II)I"⟩
abbrev cX5_pleased : ByteArray := prog_1_method_15_code
def yX5_pleased : MethodName := ⟨RX5, "pleased", "(II)J"⟩
abbrev cX5_refused : ByteArray := prog_1_method_16_code
def yX5_refused : MethodName := ⟨RX5, "refused", "(II)I"⟩
abbrev cX5_pressing : ByteArray := prog_1_method_17_code
def yX5_pressing : MethodName := ⟨RX5, "pressing", "(II)J"⟩
abbrev cX5_rest : ByteArray := prog_1_method_18_code
def yX5_rest : MethodName := ⟨RX5, "rest", "(I)I"⟩
abbrev cX5_gone : ByteArray := prog_1_method_19_code
def yX5_gone : MethodName := ⟨RX5, "gone", "(II)I"⟩
abbrev cX5_sow : ByteArray := prog_1_method_20_code
def yX5_sow : MethodName := ⟨RX5, "sow", "(II)I"⟩
abbrev cX5_who : ByteArray := prog_1_method_21_code
def yX5_who : MethodName := ⟨RX5, "who", "(III)I"⟩
abbrev cX5_sofa : ByteArray := prog_1_method_22_code
def yX5_sofa : MethodName := ⟨RX5, "sofa", "(II)I"⟩
abbrev cX5_share : ByteArray := prog_1_method_23_code
def yX5_share : MethodName := ⟨RX5, "share", "(I)I"⟩
abbrev cX5_tell : ByteArray := prog_1_method_24_code
def yX5_tell : MethodName := ⟨RX5, "tell", "()I"⟩
abbrev cX5_pressed : ByteArray := prog_1_method_25_code
def yX5_pressed : MethodName := ⟨RX5, "pressed", "(I)I"⟩
abbrev cX5_press : ByteArray := prog_1_method_26_code
def yX5_press : MethodName := ⟨RX5, "press", "(II)Z"⟩
abbrev cX5_show : ByteArray := prog_1_method_27_code
def yX5_show : MethodName := ⟨RX5, "show", "(II)J"⟩
abbrev cX5_hours : ByteArray := prog_1_method_28_code
def yX5_hours : MethodName := ⟨RX5, "hours", "(I)I"⟩
abbrev cX5_chance : ByteArray := prog_1_method_29_code
def yX5_chance : MethodName := ⟨RX5, "chance", "(I)I"⟩
abbrev cX5_undo : ByteArray := prog_1_method_30_code
def yX5_undo : MethodName := ⟨RX5, "undo", "()Z"⟩
abbrev cX5_seed : ByteArray := prog_1_method_31_code
def yX5_seed : MethodName := ⟨RX5, "seed", "(I)Z"⟩
abbrev cX5_ask : ByteArray := prog_1_method_32_code
def yX5_ask : MethodName := ⟨RX5, "ask", "(I)J"⟩
abbrev cX5_image : ByteArray := prog_1_method_33_code
def yX5_image : MethodName := ⟨RX5, "image", "()I"⟩
abbrev cX5_octet : ByteArray := prog_1_method_34_code
def yX5_octet : MethodName := ⟨RX5, "octet", "(I)I"⟩
abbrev cX5_on : ByteArray := prog_1_method_35_code
def yX5_on : MethodName := ⟨RX5, "on", "()Z"⟩
abbrev cX5_status : ByteArray := prog_1_method_36_code
def yX5_status : MethodName := ⟨RX5, "status", "(I)I"⟩
abbrev cX5_refuse : ByteArray := prog_1_method_37_code
def yX5_refuse : MethodName := ⟨RX5, "refuse", "(I)I"⟩
abbrev cX5_feedNumber : ByteArray := prog_1_method_38_code
def yX5_feedNumber : MethodName := ⟨RX5, "feedNumber", "(I)V"⟩
abbrev cX5_takeTape : ByteArray := prog_1_method_39_code
def yX5_takeTape : MethodName := ⟨RX5, "takeTape", "()I"⟩
abbrev cX5_isOne : ByteArray := prog_1_method_40_code
def yX5_isOne : MethodName := ⟨RX5, "isOne", "(II)Z"⟩
abbrev cX5_canPass : ByteArray := prog_1_method_41_code
def yX5_canPass : MethodName := ⟨RX5, "canPass", "(III)Z"⟩
abbrev cX5_sawTogether : ByteArray := prog_1_method_42_code
def yX5_sawTogether : MethodName := ⟨RX5, "sawTogether", "()I"⟩
abbrev cX5_rememberAct : ByteArray := prog_1_method_43_code
def yX5_rememberAct : MethodName := ⟨RX5, "rememberAct", "()V"⟩
abbrev cX5_forgetActs : ByteArray := prog_1_method_44_code
def yX5_forgetActs : MethodName := ⟨RX5, "forgetActs", "()V"⟩
abbrev cX5_lookAhead : ByteArray := prog_1_method_45_code
def yX5_lookAhead : MethodName := ⟨RX5, "lookAhead", "(II)V"⟩
abbrev cX5_isAtRest : ByteArray := prog_1_method_46_code
def yX5_isAtRest : MethodName := ⟨RX5, "isAtRest", "(II)Z"⟩
abbrev cX5_sofaWorth : ByteArray := prog_1_method_47_code
def yX5_sofaWorth : MethodName := ⟨RX5, "sofaWorth", "(IIZ)I"⟩
abbrev cX5_countVotes : ByteArray := prog_1_method_48_code
def yX5_countVotes : MethodName := ⟨RX5, "countVotes", "(I)V"⟩
abbrev cX5_toldHours : ByteArray := prog_1_method_49_code
def yX5_toldHours : MethodName := ⟨RX5, "toldHours", "()I"⟩
abbrev cX5_isAsTold : ByteArray := prog_1_method_50_code
def yX5_isAsTold : MethodName := ⟨RX5, "isAsTold", "(II)Z"⟩
abbrev cX5_strangerSees : ByteArray := prog_1_method_51_code
def yX5_strangerSees : MethodName := ⟨RX5, "strangerSees", "()Z"⟩
abbrev cX5_draw : ByteArray := prog_1_method_52_code
def yX5_draw : MethodName := ⟨RX5, "draw", "(I)I"⟩
abbrev cX5_filmThatHolds : ByteArray := prog_1_method_53_code
def yX5_filmThatHolds : MethodName := ⟨RX5, "filmThatHolds", "(IZ)J"⟩
abbrev cX5_totalOf : ByteArray := prog_1_method_54_code
def yX5_totalOf : MethodName := ⟨RX5, "totalOf", "(I)J"⟩
abbrev cX5_extremeOf : ByteArray := prog_1_method_55_code
def yX5_extremeOf : MethodName := ⟨RX5, "extremeOf", "(IZ)J"⟩
abbrev cX5_putTwo : ByteArray := prog_1_method_56_code
def yX5_putTwo : MethodName := ⟨RX5, "putTwo", "(I)V"⟩
abbrev cX5_putByte : ByteArray := prog_1_method_57_code
def yX5_putByte : MethodName := ⟨RX5, "putByte", "(I)V"⟩
abbrev cX5_checkByte : ByteArray := prog_1_method_58_code
def yX5_checkByte : MethodName := ⟨RX5, "checkByte", "([II)I"⟩
abbrev cX5_lengthOfImage : ByteArray := prog_1_method_59_code
def yX5_lengthOfImage : MethodName := ⟨RX5, "lengthOfImage", "()I"⟩
abbrev cX5_tapeByte : ByteArray := prog_1_method_60_code
def yX5_tapeByte : MethodName := ⟨RX5, "tapeByte", "(I)I"⟩
abbrev cX5_tapeTwo : ByteArray := prog_1_method_61_code
def yX5_tapeTwo : MethodName := ⟨RX5, "tapeTwo", "(I)I"⟩
abbrev cX5_readProfiles : ByteArray := prog_1_method_62_code
def yX5_readProfiles : MethodName := ⟨RX5, "readProfiles", "(LFourOnOne$Account;)Z"⟩
abbrev cX5_readPeople : ByteArray := prog_1_method_63_code
def yX5_readPeople : MethodName := ⟨RX5, "readPeople", "(LFourOnOne$Account;I)Z"⟩
def RX6 : String := "FourOnOneModel"
def TX6 : u_T := fun k => match k with
  | 0 => ("FourOnOneModel", "tape", "[I", true)
  | 1 => ("FourOnOneModel", "taped", "I", false)
  | 2 => ("FourOnOneModel", "at", "I", false)
  | 3 => ("FourOnOneModel", "end", "I", false)
  | 4 => ("FourOnOneModel", "ended", "I", false)
  | 5 => ("FourOnOneModel", "bad", "I", false)
  | 6 => ("FourOnOneModel", "badPlace", "I", false)
  | 7 => ("FourOnOneModel", "fault", "I", false)
  | 8 => ("FourOnOneModel", "faultPlace", "I", false)
  | 9 => ("FourOnOneModel", "refused", "[I", true)
  | 10 => ("FourOnOneModel", "kindWord", "[C", true)
  | 11 => ("FourOnOneModel", "filmWord", "[C", true)
  | 12 => ("FourOnOneModel", "partsWord", "[C", true)
  | 13 => ("FourOnOneModel", "isWord", "[C", true)
  | 14 => ("FourOnOneModel", "personWord", "[C", true)
  | 15 => ("FourOnOneModel", "atWord", "[C", true)
  | 16 => ("FourOnOneModel", "toWord", "[C", true)
  | 17 => ("FourOnOneModel", "likesWord", "[C", true)
  | 18 => ("FourOnOneModel", "pressWord", "[C", true)
  | 19 => ("FourOnOneModel", "learnsWord", "[C", true)
  | 20 => ("FourOnOneModel", "fadesWord", "[C", true)
  | 21 => ("FourOnOneModel", "mayWord", "[C", true)
  | 22 => ("FourOnOneModel", "screensWord", "[C", true)
  | 23 => ("FourOnOneModel", "priceWord", "[C", true)
  | 24 => ("FourOnOneModel", "botherWord", "[C", true)
  | 25 => ("FourOnOneModel", "strangeWord", "[C", true)
  | 26 => ("FourOnOneModel", "hourWord", "[C", true)
  | 27 => ("FourOnOneModel", "tasteWord", "[C", true)
  | 28 => ("FourOnOneModel", "weightWord", "[C", true)
  | 29 => ("FourOnOneModel", "seenWord", "[C", true)
  | 30 => ("FourOnOneModel", "scoreWord", "[C", true)
  | 31 => ("FourOnOneModel", "worthWord", "[C", true)
  | 32 => ("FourOnOneModel", "numberWord", "[C", true)
  | 33 => ("FourOnOneModel", "orWord", "[C", true)
  | 34 => ("FourOnOneModel", "andWord", "[C", true)
  | 35 => ("FourOnOneModel", "notWord", "[C", true)
  | 36 => ("FourOnOneModel", "allWord", "[C", true)
  | 37 => ("FourOnOneModel", "minWord", "[C", true)
  | 38 => ("FourOnOneModel", "maxWord", "[C", true)
  | 39 => ("FourOnOneModel", "namePlace", "I", false)
  | 40 => ("FourOnOneModel", "many", "[I", true)
  | 41 => ("FourOnOneModel", "names", "[J", true)
  | 42 => ("FourOnOneModel", "parts", "[I", true)
  | 43 => ("FourOnOneModel", "weights", "[I", true)
  | 44 => ("FourOnOneModel", "frees", "[I", true)
  | 45 => ("FourOnOneModel", "liked", "[I", true)
  | 46 => ("FourOnOneModel", "pressing0", "I", false)
  | 47 => ("FourOnOneModel", "settings", "[I", true)
  | 48 => ("FourOnOneModel", "codeFrom", "[I", true)
  | 49 => ("FourOnOneModel", "codeEnd", "[I", true)
  | 50 => ("FourOnOneModel", "codes", "[I", true)
  | 51 => ("FourOnOneModel", "coded", "I", false)
  | 52 => ("FourOnOneModel", "statements", "I", false)
  | 53 => ("FourOnOneModel", "textKind", "I", false)
  | 54 => ("FourOnOneModel", "now", "[I", true)
  | 55 => ("FourOnOneModel", "aside", "[I", true)
  | 56 => ("FourOnOneModel", "askWho", "I", false)
  | 57 => ("FourOnOneModel", "askProfile", "I", false)
  | 58 => ("FourOnOneModel", "askTaste", "I", false)
  | 59 => ("FourOnOneModel", "askWeight", "I", false)
  | 60 => ("FourOnOneModel", "isThought", "Z", false)
  | 61 => ("FourOnOneModel", "saw", "[I", true)
  | 62 => ("FourOnOneModel", "pleased0", "[J", true)
  | 63 => ("FourOnOneModel", "refused0", "[I", true)
  | 64 => ("FourOnOneModel", "pleasures", "[J", true)
  | 65 => ("FourOnOneModel", "rowMany", "I", false)
  | 66 => ("FourOnOneModel", "rows", "[I", true)
  | 67 => ("FourOnOneModel", "kept0", "[I", true)
  | 68 => ("FourOnOneModel", "undoable", "I", false)
  | 69 => ("FourOnOneModel", "newest", "I", false)
  | 70 => ("FourOnOneModel", "seeded", "J", false)
  | 71 => ("FourOnOneModel", "firstAsked", "[C", true)
  | 72 => ("FourOnOneModel", "lastAsked", "[C", true)
  | 73 => ("FourOnOneModel", "oftenAsked", "[C", true)
  | 74 => ("FourOnOneModel", "totalAsked", "[C", true)
  | 75 => ("FourOnOneModel", "mostAsked", "[C", true)
  | 76 => ("FourOnOneModel", "leastAsked", "[C", true)
  | 77 => ("FourOnOneModel", "notAsked", "[C", true)
  | 78 => ("FourOnOneModel", "andAsked", "[C", true)
  | 79 => ("FourOnOneModel", "orAsked", "[C", true)
  | 80 => ("FourOnOneModel", "allAsked", "[C", true)
  | 81 => ("FourOnOneModel", "minAsked", "[C", true)
  | 82 => ("FourOnOneModel", "maxAsked", "[C", true)
  | 83 => ("FourOnOneModel", "hourAsked", "[C", true)
  | 84 => ("FourOnOneModel", "tasteAsked", "[C", true)
  | 85 => ("FourOnOneModel", "weightAsked", "[C", true)
  | 86 => ("FourOnOneModel", "partsAsked", "[C", true)
  | 87 => ("FourOnOneModel", "seenAsked", "[C", true)
  | 88 => ("FourOnOneModel", "scoreAsked", "[C", true)
  | 89 => ("FourOnOneModel", "numberAsked", "[C", true)
  | 90 => ("FourOnOneModel", "worthAsked", "[C", true)
  | 91 => ("FourOnOneModel", "qCodes", "[I", true)
  | 92 => ("FourOnOneModel", "qCoded", "I", false)
  | 93 => ("FourOnOneModel", "qWait", "[I", true)
  | 94 => ("FourOnOneModel", "qWaits", "I", false)
  | 95 => ("FourOnOneModel", "qOpened", "I", false)
  | 96 => ("FourOnOneModel", "qBase", "I", false)
  | 97 => ("FourOnOneModel", "qPile", "[J", true)
  | 98 => ("FourOnOneModel", "qPiled", "I", false)
  | 99 => ("FourOnOneModel", "qAnswer", "J", false)
  | 100 => ("FourOnOneModel", "qIsNew", "Z", false)
  | 101 => ("FourOnOneModel", "octet", "[I", true)
  | _ => ("FourOnOneModel", "octets", "I", false)
def tyX6 : Nat → FieldType := fun k => match k with
  | 0 => .array .int
  | 1 => .int
  | 2 => .int
  | 3 => .int
  | 4 => .int
  | 5 => .int
  | 6 => .int
  | 7 => .int
  | 8 => .int
  | 9 => .array .int
  | 10 => .array .char
  | 11 => .array .char
  | 12 => .array .char
  | 13 => .array .char
  | 14 => .array .char
  | 15 => .array .char
  | 16 => .array .char
  | 17 => .array .char
  | 18 => .array .char
  | 19 => .array .char
  | 20 => .array .char
  | 21 => .array .char
  | 22 => .array .char
  | 23 => .array .char
  | 24 => .array .char
  | 25 => .array .char
  | 26 => .array .char
  | 27 => .array .char
  | 28 => .array .char
  | 29 => .array .char
  | 30 => .array .char
  | 31 => .array .char
  | 32 => .array .char
  | 33 => .array .char
  | 34 => .array .char
  | 35 => .array .char
  | 36 => .array .char
  | 37 => .array .char
  | 38 => .array .char
  | 39 => .int
  | 40 => .array .int
  | 41 => .array .long
  | 42 => .array .int
  | 43 => .array .int
  | 44 => .array .int
  | 45 => .array .int
  | 46 => .int
  | 47 => .array .int
  | 48 => .array .int
  | 49 => .array .int
  | 50 => .array .int
  | 51 => .int
  | 52 => .int
  | 53 => .int
  | 54 => .array .int
  | 55 => .array .int
  | 56 => .int
  | 57 => .int
  | 58 => .int
  | 59 => .int
  | 60 => .boolean
  | 61 => .array .int
  | 62 => .array .long
  | 63 => .array .int
  | 64 => .array .long
  | 65 => .int
  | 66 => .array .int
  | 67 => .array .int
  | 68 => .int
  | 69 => .int
  | 70 => .long
  | 71 => .array .char
  | 72 => .array .char
  | 73 => .array .char
  | 74 => .array .char
  | 75 => .array .char
  | 76 => .array .char
  | 77 => .array .char
  | 78 => .array .char
  | 79 => .array .char
  | 80 => .array .char
  | 81 => .array .char
  | 82 => .array .char
  | 83 => .array .char
  | 84 => .array .char
  | 85 => .array .char
  | 86 => .array .char
  | 87 => .array .char
  | 88 => .array .char
  | 89 => .array .char
  | 90 => .array .char
  | 91 => .array .int
  | 92 => .int
  | 93 => .array .int
  | 94 => .int
  | 95 => .int
  | 96 => .int
  | 97 => .array .long
  | 98 => .int
  | 99 => .long
  | 100 => .boolean
  | 101 => .array .int
  | _ => .int
abbrev wsX60 : List Cond := u_ws RX6 TX6 103
theorem nmX6 : ∀ a, a < 103 → ∀ b, b < 103 → a ≠ b → (TX6 a).2.1 ≠ (TX6 b).2.1 := by decide +kernel
theorem tyX6_ok : ∀ k, k < 103 → parseFieldDescriptor (TX6 k).2.2.1 = some (tyX6 k) := by decide +kernel
abbrev cX6_init : ByteArray := prog_8_method_1_code
def yX6_init : MethodName := ⟨RX6, "<init>", "()V"⟩
abbrev cX6_isIn : ByteArray := prog_8_method_2_code
def yX6_isIn : MethodName := ⟨RX6, "isIn", "(JJJ)Z"⟩
abbrev cX6_feed : ByteArray := prog_8_method_3_code
def yX6_feed : MethodName := ⟨RX6, "feed", "(IIIII)I"⟩
abbrev cX6_end : ByteArray := prog_8_method_4_code
def yX6_end : MethodName := ⟨RX6, "end", "(I)Z"⟩
abbrev cX6_fail : ByteArray := prog_8_method_5_code
def yX6_fail : MethodName := ⟨RX6, "fail", "(II)V"⟩
abbrev cX6_isLetter : ByteArray := prog_8_method_6_code
def yX6_isLetter : MethodName := ⟨RX6, "isLetter", "(I)Z"⟩
abbrev cX6_isDigit : ByteArray := prog_8_method_7_code
def yX6_isDigit : MethodName := ⟨RX6, "isDigit", "(I)Z"⟩
abbrev cX6_look : ByteArray := prog_8_method_8_code
def yX6_look : MethodName := ⟨RX6, "look", "()I"⟩
abbrev cX6_isHere : ByteArray := prog_8_method_9_code
def yX6_isHere : MethodName := ⟨RX6, "isHere", "([C)Z"⟩
abbrev cX6_takes : ByteArray := prog_8_method_10_code
def yX6_takes : MethodName := ⟨RX6, "takes", "([C)Z"⟩
abbrev cX6_asks : ByteArray := prog_8_method_11_code
def yX6_asks : MethodName := ⟨RX6, "asks", "([C)V"⟩
abbrev cX6_takesSign : ByteArray := prog_8_method_12_code
def yX6_takesSign : MethodName := ⟨RX6, "takesSign", "(I)Z"⟩
abbrev cX6_asksSign : ByteArray := prog_8_method_13_code
def yX6_asksSign : MethodName := ⟨RX6, "asksSign", "(I)V"⟩
abbrev cX6_number : ByteArray := prog_8_method_14_code
def yX6_number : MethodName := ⟨RX6, "number", "(II)I"⟩
abbrev cX6_isOwnHere : ByteArray := prog_8_method_15_code
def yX6_isOwnHere : MethodName := ⟨RX6, "isOwnHere", "()Z"⟩
abbrev cX6_name : ByteArray := prog_8_method_16_code
def yX6_name : MethodName := ⟨RX6, "name", "()J"⟩
abbrev cX6_isAllowed : ByteArray := prog_8_method_17_code
def yX6_isAllowed : MethodName := ⟨RX6, "isAllowed", "(I)Z"⟩
abbrev cX6_isFull : ByteArray := prog_8_method_18_code
def yX6_isFull : MethodName := ⟨RX6, "isFull", "(III)Z"⟩
abbrev cX6_nameOf : ByteArray := prog_8_method_19_code
def yX6_nameOf : MethodName := ⟨RX6, "nameOf", "(IJ)I"⟩
abbrev cX6_newName : ByteArray := prog_8_method_20_code
def yX6_newName : MethodName := ⟨RX6, "newName", "()J"⟩
abbrev cX6_oneOf : ByteArray := prog_8_method_21_code
def yX6_oneOf : MethodName := ⟨RX6, "oneOf", "(I)I"⟩
abbrev cX6_adds : ByteArray := prog_8_method_22_code
def yX6_adds : MethodName := ⟨RX6, "adds", "(IJ)V"⟩
abbrev cX6_kindTold : ByteArray := prog_8_method_23_code
def yX6_kindTold : MethodName := ⟨RX6, "kindTold", "(I)V"⟩
abbrev cX6_filmTold : ByteArray := prog_8_method_24_code
def yX6_filmTold : MethodName := ⟨RX6, "filmTold", "(I)V"⟩
abbrev cX6_personTold : ByteArray := prog_8_method_25_code
def yX6_personTold : MethodName := ⟨RX6, "personTold", "(I)V"⟩
abbrev cX6_likesTold : ByteArray := prog_8_method_26_code
def yX6_likesTold : MethodName := ⟨RX6, "likesTold", "()V"⟩
abbrev cX6_pressTold : ByteArray := prog_8_method_27_code
def yX6_pressTold : MethodName := ⟨RX6, "pressTold", "()V"⟩
abbrev cX6_codesTold : ByteArray := prog_8_method_28_code
def yX6_codesTold : MethodName := ⟨RX6, "codesTold", "(II)V"⟩
abbrev cX6_statementTold : ByteArray := prog_8_method_29_code
def yX6_statementTold : MethodName := ⟨RX6, "statementTold", "()V"⟩
abbrev cX6_house : ByteArray := prog_8_method_30_code
def yX6_house : MethodName := ⟨RX6, "house", "()I"⟩
abbrev cX6_stands : ByteArray := prog_8_method_31_code
def yX6_stands : MethodName := ⟨RX6, "stands", "()V"⟩
abbrev cX6_fault : ByteArray := prog_8_method_32_code
def yX6_fault : MethodName := ⟨RX6, "fault", "(I)I"⟩
abbrev cX6_kindMany : ByteArray := prog_8_method_33_code
def yX6_kindMany : MethodName := ⟨RX6, "kindMany", "()I"⟩
abbrev cX6_filmMany : ByteArray := prog_8_method_34_code
def yX6_filmMany : MethodName := ⟨RX6, "filmMany", "()I"⟩
abbrev cX6_personMany : ByteArray := prog_8_method_35_code
def yX6_personMany : MethodName := ⟨RX6, "personMany", "()I"⟩
abbrev cX6_isKind : ByteArray := prog_8_method_36_code
def yX6_isKind : MethodName := ⟨RX6, "isKind", "(I)Z"⟩
abbrev cX6_isFilm : ByteArray := prog_8_method_37_code
def yX6_isFilm : MethodName := ⟨RX6, "isFilm", "(I)Z"⟩
abbrev cX6_isPerson : ByteArray := prog_8_method_38_code
def yX6_isPerson : MethodName := ⟨RX6, "isPerson", "(I)Z"⟩
abbrev cX6_partsOf : ByteArray := prog_8_method_39_code
def yX6_partsOf : MethodName := ⟨RX6, "partsOf", "(I)I"⟩
abbrev cX6_weightOf : ByteArray := prog_8_method_40_code
def yX6_weightOf : MethodName := ⟨RX6, "weightOf", "(II)I"⟩
abbrev cX6_likesOf : ByteArray := prog_8_method_41_code
def yX6_likesOf : MethodName := ⟨RX6, "likesOf", "(II)I"⟩
abbrev cX6_doesPress : ByteArray := prog_8_method_42_code
def yX6_doesPress : MethodName := ⟨RX6, "doesPress", "(I)Z"⟩
abbrev cX6_pressAll : ByteArray := prog_8_method_43_code
def yX6_pressAll : MethodName := ⟨RX6, "pressAll", "(I)V"⟩
abbrev cX6_pressers : ByteArray := prog_8_method_44_code
def yX6_pressers : MethodName := ⟨RX6, "pressers", "()I"⟩
abbrev cX6_profileOf : ByteArray := prog_8_method_45_code
def yX6_profileOf : MethodName := ⟨RX6, "profileOf", "(I)I"⟩
abbrev cX6_tasteAt : ByteArray := prog_8_method_46_code
def yX6_tasteAt : MethodName := ⟨RX6, "tasteAt", "(II)I"⟩
abbrev cX6_seenAt : ByteArray := prog_8_method_47_code
def yX6_seenAt : MethodName := ⟨RX6, "seenAt", "(II)I"⟩
abbrev cX6_seenBy : ByteArray := prog_8_method_48_code
def yX6_seenBy : MethodName := ⟨RX6, "seenBy", "(II)I"⟩
abbrev cX6_scoreOf : ByteArray := prog_8_method_49_code
def yX6_scoreOf : MethodName := ⟨RX6, "scoreOf", "(II)I"⟩
abbrev cX6_worthOf : ByteArray := prog_8_method_50_code
def yX6_worthOf : MethodName := ⟨RX6, "worthOf", "(II)I"⟩
abbrev cX6_cut : ByteArray := prog_8_method_51_code
def yX6_cut : MethodName := ⟨RX6, "cut", "(J)I"⟩
abbrev cX6_codesTell : ByteArray := prog_8_method_52_code
def yX6_codesTell : MethodName := ⟨RX6, "codesTell", "(II)J"⟩
abbrev cX6_may : ByteArray := prog_8_method_53_code
def yX6_may : MethodName := ⟨RX6, "may", "(II)Z"⟩
abbrev cX6_suggestedTo : ByteArray := prog_8_method_54_code
def yX6_suggestedTo : MethodName := ⟨RX6, "suggestedTo", "(I)I"⟩
abbrev cX6_partSeen : ByteArray := prog_8_method_55_code
def yX6_partSeen : MethodName := ⟨RX6, "partSeen", "(II)V"⟩
abbrev cX6_isKept : ByteArray := prog_8_method_56_code
def yX6_isKept : MethodName := ⟨RX6, "isKept", "(II)V"⟩
abbrev cX6_hasSeen : ByteArray := prog_8_method_57_code
def yX6_hasSeen : MethodName := ⟨RX6, "hasSeen", "(I)V"⟩
abbrev cX6_pleasedBy : ByteArray := prog_8_method_58_code
def yX6_pleasedBy : MethodName := ⟨RX6, "pleasedBy", "(II)I"⟩
abbrev cX6_fade : ByteArray := prog_8_method_59_code
def yX6_fade : MethodName := ⟨RX6, "fade", "()V"⟩
abbrev cX6_isFree : ByteArray := prog_8_method_60_code
def yX6_isFree : MethodName := ⟨RX6, "isFree", "(II)Z"⟩
abbrev cX6_hourGoes : ByteArray := prog_8_method_61_code
def yX6_hourGoes : MethodName := ⟨RX6, "hourGoes", "()I"⟩
abbrev cX6_hoursGo : ByteArray := prog_8_method_62_code
def yX6_hoursGo : MethodName := ⟨RX6, "hoursGo", "(I)I"⟩
abbrev cX6_putsAside : ByteArray := prog_8_method_63_code
def yX6_putsAside : MethodName := ⟨RX6, "putsAside", "()V"⟩
abbrev cX6_triesAnew : ByteArray := prog_8_method_64_code
def yX6_triesAnew : MethodName := ⟨RX6, "triesAnew", "()V"⟩
abbrev cX6_takesBack : ByteArray := prog_8_method_65_code
def yX6_takesBack : MethodName := ⟨RX6, "takesBack", "()V"⟩
abbrev cX6_isAhead : ByteArray := prog_8_method_66_code
def yX6_isAhead : MethodName := ⟨RX6, "isAhead", "(III)Z"⟩
abbrev cX6_bits : ByteArray := prog_8_method_67_code
def yX6_bits : MethodName := ⟨RX6, "bits", "(I)I"⟩
abbrev cX6_hoursOf : ByteArray := prog_8_method_68_code
def yX6_hoursOf : MethodName := ⟨RX6, "hoursOf", "(I)I"⟩
abbrev cX6_hoursAll : ByteArray := prog_8_method_69_code
def yX6_hoursAll : MethodName := ⟨RX6, "hoursAll", "()I"⟩
abbrev cX6_has : ByteArray := prog_8_method_70_code
def yX6_has : MethodName := ⟨RX6, "has", "(I)I"⟩
abbrev cX6_letter : ByteArray := prog_8_method_71_code
def yX6_letter : MethodName := ⟨RX6, "letter", "(III)I"⟩
abbrev cX6_film : ByteArray := prog_8_method_72_code
def yX6_film : MethodName := ⟨RX6, "film", "(II)I"⟩
abbrev cX6_person : ByteArray := prog_8_method_73_code
def yX6_person : MethodName := ⟨RX6, "person", "(II)I"⟩
abbrev cX6_taste : ByteArray := prog_8_method_74_code
def yX6_taste : MethodName := ⟨RX6, "taste", "(II)I"⟩
abbrev cX6_seen : ByteArray := prog_8_method_75_code
def yX6_seen : MethodName := ⟨RX6, "seen", "(II)I"⟩
abbrev cX6_suggest : ByteArray := prog_8_method_76_code
def yX6_suggest : MethodName := ⟨RX6, "suggest", "(I)I"⟩
abbrev cX6_worth : ByteArray := prog_8_method_77_code
def yX6_worth : MethodName := ⟨RX6, "worth", "(II)I"⟩
abbrev cX6_kept : ByteArray := prog_8_method_78_code
def yX6_kept : MethodName := ⟨RX6, "kept", "(II)I"⟩
abbrev cX6_pleased : ByteArray := prog_8_method_79_code
def yX6_pleased : MethodName := ⟨RX6, "pleased", "(II)J"⟩
abbrev cX6_refused : ByteArray := prog_8_method_80_code
def yX6_refused : MethodName := ⟨RX6, "refused", "(II)I"⟩
abbrev cX6_pleasureBy : ByteArray := prog_8_method_81_code
def yX6_pleasureBy : MethodName := ⟨RX6, "pleasureBy", "(III)J"⟩
abbrev cX6_pressing : ByteArray := prog_8_method_82_code
def yX6_pressing : MethodName := ⟨RX6, "pressing", "(II)J"⟩
abbrev cX6_isRest : ByteArray := prog_8_method_83_code
def yX6_isRest : MethodName := ⟨RX6, "isRest", "(I)Z"⟩
abbrev cX6_rest : ByteArray := prog_8_method_84_code
def yX6_rest : MethodName := ⟨RX6, "rest", "(I)I"⟩
abbrev cX6_gone : ByteArray := prog_8_method_85_code
def yX6_gone : MethodName := ⟨RX6, "gone", "(II)I"⟩
abbrev cX6_sow : ByteArray := prog_8_method_86_code
def yX6_sow : MethodName := ⟨RX6, "sow", "(II)I"⟩
abbrev cX6_who : ByteArray := prog_8_method_87_code
def yX6_who : MethodName := ⟨RX6, "who", "(III)I"⟩
abbrev cX6_firstOf : ByteArray := prog_8_method_88_code
def yX6_firstOf : MethodName := ⟨RX6, "firstOf", "(I)I"⟩
abbrev cX6_byRule : ByteArray := prog_8_method_89_code
def yX6_byRule : MethodName := ⟨RX6, "byRule", "(III)I"⟩
abbrev cX6_sofa : ByteArray := prog_8_method_90_code
def yX6_sofa : MethodName := ⟨RX6, "sofa", "(II)I"⟩
abbrev cX6_share : ByteArray := prog_8_method_91_code
def yX6_share : MethodName := ⟨RX6, "share", "(I)I"⟩
abbrev cX6_tell : ByteArray := prog_8_method_92_code
def yX6_tell : MethodName := ⟨RX6, "tell", "()I"⟩
abbrev cX6_isSeenNow : ByteArray := prog_8_method_93_code
def yX6_isSeenNow : MethodName := ⟨RX6, "isSeenNow", "(I)Z"⟩
abbrev cX6_lastHour : ByteArray := prog_8_method_94_code
def yX6_lastHour : MethodName := ⟨RX6, "lastHour", "()I"⟩
abbrev cX6_isAsTold : ByteArray := prog_8_method_95_code
def yX6_isAsTold : MethodName := ⟨RX6, "isAsTold", "(I)Z"⟩
abbrev cX6_pressed : ByteArray := prog_8_method_96_code
def yX6_pressed : MethodName := ⟨RX6, "pressed", "(I)I"⟩
abbrev cX6_keeps : ByteArray := prog_8_method_97_code
def yX6_keeps : MethodName := ⟨RX6, "keeps", "()V"⟩
abbrev cX6_undo : ByteArray := prog_8_method_98_code
def yX6_undo : MethodName := ⟨RX6, "undo", "()Z"⟩
abbrev cX6_press : ByteArray := prog_8_method_99_code
def yX6_press : MethodName := ⟨RX6, "press", "(II)Z"⟩
abbrev cX6_show : ByteArray := prog_8_method_100_code
def yX6_show : MethodName := ⟨RX6, "show", "(II)J"⟩
abbrev cX6_refuses : ByteArray := prog_8_method_101_code
def yX6_refuses : MethodName := ⟨RX6, "refuses", "(I)I"⟩
abbrev cX6_hours : ByteArray := prog_8_method_102_code
def yX6_hours : MethodName := ⟨RX6, "hours", "(I)I"⟩
abbrev cX6_seed : ByteArray := prog_8_method_103_code
def yX6_seed : MethodName := ⟨RX6, "seed", "(I)Z"⟩
abbrev cX6_drawOf : ByteArray := prog_8_method_104_code
def yX6_drawOf : MethodName := ⟨RX6, "drawOf", "(I)I"⟩
abbrev cX6_isStranger : ByteArray := prog_8_method_105_code
def yX6_isStranger : MethodName := ⟨RX6, "isStranger", "()Z"⟩
abbrev cX6_chance : ByteArray := prog_8_method_106_code
def yX6_chance : MethodName := ⟨RX6, "chance", "(I)I"⟩
abbrev cX6_qCode : ByteArray := prog_8_method_107_code
def yX6_qCode : MethodName := ⟨RX6, "qCode", "(I)V"⟩
abbrev cX6_qOpens : ByteArray := prog_8_method_108_code
def yX6_qOpens : MethodName := ⟨RX6, "qOpens", "(II)V"⟩
abbrev cX6_qIsOn : ByteArray := prog_8_method_109_code
def yX6_qIsOn : MethodName := ⟨RX6, "qIsOn", "(I)Z"⟩
abbrev cX6_qDrops : ByteArray := prog_8_method_110_code
def yX6_qDrops : MethodName := ⟨RX6, "qDrops", "()V"⟩
abbrev cX6_qIsBracket : ByteArray := prog_8_method_111_code
def yX6_qIsBracket : MethodName := ⟨RX6, "qIsBracket", "(I)Z"⟩
abbrev cX6_qBracket : ByteArray := prog_8_method_112_code
def yX6_qBracket : MethodName := ⟨RX6, "qBracket", "()I"⟩
abbrev cX6_qDropsToBracket : ByteArray := prog_8_method_113_code
def yX6_qDropsToBracket : MethodName := ⟨RX6, "qDropsToBracket", "()V"⟩
abbrev cX6_qWordHere : ByteArray := prog_8_method_114_code
def yX6_qWordHere : MethodName := ⟨RX6, "qWordHere", "()I"⟩
abbrev cX6_qWordOf : ByteArray := prog_8_method_115_code
def yX6_qWordOf : MethodName := ⟨RX6, "qWordOf", "(II)I"⟩
abbrev cX6_qAsksWord : ByteArray := prog_8_method_116_code
def yX6_qAsksWord : MethodName := ⟨RX6, "qAsksWord", "(I)V"⟩
abbrev cX6_qEndsPart : ByteArray := prog_8_method_117_code
def yX6_qEndsPart : MethodName := ⟨RX6, "qEndsPart", "()V"⟩
abbrev cX6_qPartTold : ByteArray := prog_8_method_118_code
def yX6_qPartTold : MethodName := ⟨RX6, "qPartTold", "()V"⟩
abbrev cX6_qGoesOn : ByteArray := prog_8_method_119_code
def yX6_qGoesOn : MethodName := ⟨RX6, "qGoesOn", "()Z"⟩
abbrev cX6_qSums : ByteArray := prog_8_method_120_code
def yX6_qSums : MethodName := ⟨RX6, "qSums", "()V"⟩
abbrev cX6_qFact : ByteArray := prog_8_method_121_code
def yX6_qFact : MethodName := ⟨RX6, "qFact", "()V"⟩
abbrev cX6_qHasSquare : ByteArray := prog_8_method_122_code
def yX6_qHasSquare : MethodName := ⟨RX6, "qHasSquare", "()Z"⟩
abbrev cX6_qDropsNots : ByteArray := prog_8_method_123_code
def yX6_qDropsNots : MethodName := ⟨RX6, "qDropsNots", "()V"⟩
abbrev cX6_qTest : ByteArray := prog_8_method_124_code
def yX6_qTest : MethodName := ⟨RX6, "qTest", "()V"⟩
abbrev cX6_qGoesOnTest : ByteArray := prog_8_method_125_code
def yX6_qGoesOnTest : MethodName := ⟨RX6, "qGoesOnTest", "()Z"⟩
abbrev cX6_qClip : ByteArray := prog_8_method_126_code
def yX6_qClip : MethodName := ⟨RX6, "qClip", "(J)J"⟩
abbrev cX6_qFloor : ByteArray := prog_8_method_127_code
def yX6_qFloor : MethodName := ⟨RX6, "qFloor", "(JJ)J"⟩
abbrev cX6_qPuts : ByteArray := prog_8_method_128_code
def yX6_qPuts : MethodName := ⟨RX6, "qPuts", "(J)V"⟩
abbrev cX6_qJoins : ByteArray := prog_8_method_129_code
def yX6_qJoins : MethodName := ⟨RX6, "qJoins", "(I)V"⟩
abbrev cX6_qPartOf : ByteArray := prog_8_method_130_code
def yX6_qPartOf : MethodName := ⟨RX6, "qPartOf", "(II)J"⟩
abbrev cX6_qOf : ByteArray := prog_8_method_131_code
def yX6_qOf : MethodName := ⟨RX6, "qOf", "(IJI)J"⟩
abbrev cX6_qTold : ByteArray := prog_8_method_132_code
def yX6_qTold : MethodName := ⟨RX6, "qTold", "(I)J"⟩
abbrev cX6_qKind : ByteArray := prog_8_method_133_code
def yX6_qKind : MethodName := ⟨RX6, "qKind", "()I"⟩
abbrev cX6_qTakes : ByteArray := prog_8_method_134_code
def yX6_qTakes : MethodName := ⟨RX6, "qTakes", "(IJI)V"⟩
abbrev cX6_ask : ByteArray := prog_8_method_135_code
def yX6_ask : MethodName := ⟨RX6, "ask", "(I)J"⟩
abbrev cX6_checked : ByteArray := prog_8_method_136_code
def yX6_checked : MethodName := ⟨RX6, "checked", "([II)I"⟩
abbrev cX6_writes : ByteArray := prog_8_method_137_code
def yX6_writes : MethodName := ⟨RX6, "writes", "(I)V"⟩
abbrev cX6_writesTwo : ByteArray := prog_8_method_138_code
def yX6_writesTwo : MethodName := ⟨RX6, "writesTwo", "(I)V"⟩
abbrev cX6_image : ByteArray := prog_8_method_139_code
def yX6_image : MethodName := ⟨RX6, "image", "()I"⟩
abbrev cX6_octet : ByteArray := prog_8_method_140_code
def yX6_octet : MethodName := ⟨RX6, "octet", "(I)I"⟩
abbrev cX6_twoAt : ByteArray := prog_8_method_141_code
def yX6_twoAt : MethodName := ⟨RX6, "twoAt", "(I)I"⟩
abbrev cX6_profileFrom : ByteArray := prog_8_method_142_code
def yX6_profileFrom : MethodName := ⟨RX6, "profileFrom", "(I)I"⟩
abbrev cX6_isProfileTold : ByteArray := prog_8_method_143_code
def yX6_isProfileTold : MethodName := ⟨RX6, "isProfileTold", "(I)Z"⟩
abbrev cX6_isImage : ByteArray := prog_8_method_144_code
def yX6_isImage : MethodName := ⟨RX6, "isImage", "(I)Z"⟩
abbrev cX6_on : ByteArray := prog_8_method_145_code
def yX6_on : MethodName := ⟨RX6, "on", "()Z"⟩
abbrev cX6_status : ByteArray := prog_8_method_146_code
def yX6_status : MethodName := ⟨RX6, "status", "(I)I"⟩
def RJ6 : String := "java/lang/Integer"
def TJ6 : u_T := fun k => match k with
  | _ => ("", "", "", false)
def tyJ6 : Nat → FieldType := fun k => match k with
  | _ => .int
abbrev wsJ60 : List Cond := u_ws RJ6 TJ6 0
theorem nmJ6 : ∀ a, a < 0 → ∀ b, b < 0 → a ≠ b → (TJ6 a).2.1 ≠ (TJ6 b).2.1 := by decide +kernel
theorem tyJ6_ok : ∀ k, k < 0 → parseFieldDescriptor (TJ6 k).2.2.1 = some (tyJ6 k) := by decide +kernel
abbrev cJ6_bitCount_0f7a4 : ByteArray := prog_9_method_49_code
def yJ6_bitCount_0f7a4 : MethodName := ⟨RJ6, "bitCount", "(I)I"⟩
def RJ9 : String := "java/lang/Math"
def TJ9 : u_T := fun k => match k with
  | _ => ("", "", "", false)
def tyJ9 : Nat → FieldType := fun k => match k with
  | _ => .int
abbrev wsJ90 : List Cond := u_ws RJ9 TJ9 0
theorem nmJ9 : ∀ a, a < 0 → ∀ b, b < 0 → a ≠ b → (TJ9 a).2.1 ≠ (TJ9 b).2.1 := by decide +kernel
theorem tyJ9_ok : ∀ k, k < 0 → parseFieldDescriptor (TJ9 k).2.2.1 = some (tyJ9 k) := by decide +kernel
abbrev cJ9_floorDiv_f86c9 : ByteArray := prog_10_method_49_code
def yJ9_floorDiv_f86c9 : MethodName := ⟨RJ9, "floorDiv", "(JJ)J"⟩
abbrev cJ9_max_7cf53 : ByteArray := prog_10_method_65_code
def yJ9_max_7cf53 : MethodName := ⟨RJ9, "max", "(II)I"⟩
abbrev cJ9_max_f86c9 : ByteArray := prog_10_method_66_code
def yJ9_max_f86c9 : MethodName := ⟨RJ9, "max", "(JJ)J"⟩
abbrev cJ9_min_7cf53 : ByteArray := prog_10_method_69_code
def yJ9_min_7cf53 : MethodName := ⟨RJ9, "min", "(II)I"⟩
abbrev cJ9_min_f86c9 : ByteArray := prog_10_method_70_code
def yJ9_min_f86c9 : MethodName := ⟨RJ9, "min", "(JJ)J"⟩
def RJ0 : String := "java/lang/String"
def TJ0 : u_T := fun k => match k with
  | _ => ("", "", "", false)
def tyJ0 : Nat → FieldType := fun k => match k with
  | _ => .int
abbrev wsJ00 : List Cond := u_ws RJ0 TJ0 0
theorem nmJ0 : ∀ a, a < 0 → ∀ b, b < 0 → a ≠ b → (TJ0 a).2.1 ≠ (TJ0 b).2.1 := by decide +kernel
theorem tyJ0_ok : ∀ k, k < 0 → parseFieldDescriptor (TJ0 k).2.2.1 = some (tyJ0 k) := by decide +kernel
abbrev cJ0_length_8abf5 : ByteArray := prog_11_method_54_code
def yJ0_length_8abf5 : MethodName := ⟨RJ0, "length", "()I"⟩
abbrev cJ0_charAt_5068e : ByteArray := prog_11_method_56_code
def yJ0_charAt_5068e : MethodName := ⟨RJ0, "charAt", "(I)C"⟩
abbrev cJ0_coder_7d493 : ByteArray := prog_11_method_152_code
def yJ0_coder_7d493 : MethodName := ⟨RJ0, "coder", "()B"⟩
abbrev cJ0_isLatin1_aae02 : ByteArray := prog_11_method_154_code
def yJ0_isLatin1_aae02 : MethodName := ⟨RJ0, "isLatin1", "()Z"⟩
abbrev cJ0_checkIndex_df160 : ByteArray := prog_11_method_155_code
def yJ0_checkIndex_df160 : MethodName := ⟨RJ0, "checkIndex", "(II)V"⟩
def RJ1 : String := "java/lang/StringLatin1"
def TJ1 : u_T := fun k => match k with
  | _ => ("", "", "", false)
def tyJ1 : Nat → FieldType := fun k => match k with
  | _ => .int
abbrev wsJ10 : List Cond := u_ws RJ1 TJ1 0
theorem nmJ1 : ∀ a, a < 0 → ∀ b, b < 0 → a ≠ b → (TJ1 a).2.1 ≠ (TJ1 b).2.1 := by decide +kernel
theorem tyJ1_ok : ∀ k, k < 0 → parseFieldDescriptor (TJ1 k).2.2.1 = some (tyJ1 k) := by decide +kernel
abbrev cJ1_charAt_3b067 : ByteArray := prog_12_method_2_code
def yJ1_charAt_3b067 : MethodName := ⟨RJ1, "charAt", "([BI)C"⟩
def RJ2 : String := "java/lang/StringUTF16"
def TJ2 : u_T := fun k => match k with
  | _ => ("", "", "", false)
def tyJ2 : Nat → FieldType := fun k => match k with
  | _ => .int
abbrev wsJ20 : List Cond := u_ws RJ2 TJ2 0
theorem nmJ2 : ∀ a, a < 0 → ∀ b, b < 0 → a ≠ b → (TJ2 a).2.1 ≠ (TJ2 b).2.1 := by decide +kernel
theorem tyJ2_ok : ∀ k, k < 0 → parseFieldDescriptor (TJ2 k).2.2.1 = some (tyJ2 k) := by decide +kernel
abbrev cJ2_getChar_3b067 : ByteArray := prog_13_method_5_code
def yJ2_getChar_3b067 : MethodName := ⟨RJ2, "getChar", "([BI)C"⟩
abbrev cJ2_length_9d52b : ByteArray := prog_13_method_6_code
def yJ2_length_9d52b : MethodName := ⟨RJ2, "length", "([B)I"⟩
abbrev cJ2_charAt_3b067 : ByteArray := prog_13_method_83_code
def yJ2_charAt_3b067 : MethodName := ⟨RJ2, "charAt", "([BI)C"⟩
abbrev cJ2_checkIndex_2214a : ByteArray := prog_13_method_91_code
def yJ2_checkIndex_2214a : MethodName := ⟨RJ2, "checkIndex", "(I[B)V"⟩
def RJ10 : String := "java/lang/System"
def TJ10 : u_T := fun k => match k with
  | _ => ("", "", "", false)
def tyJ10 : Nat → FieldType := fun k => match k with
  | _ => .int
abbrev wsJ100 : List Cond := u_ws RJ10 TJ10 0
theorem nmJ10 : ∀ a, a < 0 → ∀ b, b < 0 → a ≠ b → (TJ10 a).2.1 ≠ (TJ10 b).2.1 := by decide +kernel
theorem tyJ10_ok : ∀ k, k < 0 → parseFieldDescriptor (TJ10 k).2.2.1 = some (tyJ10 k) := by decide +kernel
def RJ3 : String := "jdk/internal/util/Preconditions"
def TJ3 : u_T := fun k => match k with
  | _ => ("", "", "", false)
def tyJ3 : Nat → FieldType := fun k => match k with
  | _ => .int
abbrev wsJ30 : List Cond := u_ws RJ3 TJ3 0
theorem nmJ3 : ∀ a, a < 0 → ∀ b, b < 0 → a ≠ b → (TJ3 a).2.1 ≠ (TJ3 b).2.1 := by decide +kernel
theorem tyJ3_ok : ∀ k, k < 0 → parseFieldDescriptor (TJ3 k).2.2.1 = some (tyJ3 k) := by decide +kernel
abbrev cJ3_checkIndex_8e157 : ByteArray := prog_15_method_11_code
def yJ3_checkIndex_8e157 : MethodName := ⟨RJ3, "checkIndex", "(IILjava/util/function/BiFunction;)I"⟩
def RL : String := "FourOnOneLaw"
abbrev cL_law : ByteArray := code
def yL_law : MethodName := ⟨RL, "law", "([I)Z"⟩
def wsX0_init : List Cond := .code yX0_init cX0_init 1 none :: ([.methodLink RX0 3 objectInit, .instanceMethod objectInit, .code objectInit ⟨#[0xb1]⟩ 1 none, .fieldLink RX0 9 "FourOnOne$Account" "time" "I", .fieldLink RX0 15 "FourOnOne$Account" "presses" "I", .arrayClass .int, .fieldLink RX0 18 "FourOnOne$Account" "taste" "[I", .fieldLink RX0 22 "FourOnOne$Account" "seen" "[I", .fieldLink RX0 25 "FourOnOne$Account" "saw" "[I", .fieldLink RX0 28 "FourOnOne$Account" "kept" "[I", .fieldLink RX0 31 "FourOnOne$Account" "keptEver" "I"] ++ wsX00)
abbrev vwCl : List vw_C := [(RX0, TX0, 7), (RX1, TX1, 6), (RX2, TX2, 16), (RX3, TX3, 3), (RX4, TX4, 17), (RX5, TX5, 16), (RX6, TX6, 103)]
