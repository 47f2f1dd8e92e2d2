section
-- ===== PART A: goes FIRST, ahead of the names: the tables' words, and 'selects' of the private methods out of them =====
/-- a private method of a class that the tables say can be made, by its rows of tables_1 -/
def lw_okq (q : MethodName × Nat) : Prop := (q.1.cls ≠ "java/lang/invoke/MethodHandle" ∧ q.1.cls ≠ "java/lang/invoke/VarHandle") ∧ Cond.instantiable q.1.cls q.2 ∈ tables_1 ∧ Cond.privateMethod q.1 ∈ tables_1 ∧ Cond.instanceMethod q.1 ∈ tables_1
theorem lw_p0 : lw_okq (⟨"FourOnOne", "refuse", "(I)I"⟩, 16) := ⟨⟨by decide +kernel, by decide +kernel⟩, List.mem_of_getElem? (i := 16) (by decide +kernel), List.mem_of_getElem? (i := 377) (by decide +kernel), List.mem_of_getElem? (i := 378) (by decide +kernel)⟩
theorem lw_p1 : lw_okq (⟨"FourOnOne", "feedNumber", "(I)V"⟩, 16) := ⟨⟨by decide +kernel, by decide +kernel⟩, List.mem_of_getElem? (i := 16) (by decide +kernel), List.mem_of_getElem? (i := 381) (by decide +kernel), List.mem_of_getElem? (i := 382) (by decide +kernel)⟩
theorem lw_p2 : lw_okq (⟨"FourOnOne", "takeTape", "()I"⟩, 16) := ⟨⟨by decide +kernel, by decide +kernel⟩, List.mem_of_getElem? (i := 16) (by decide +kernel), List.mem_of_getElem? (i := 393) (by decide +kernel), List.mem_of_getElem? (i := 394) (by decide +kernel)⟩
theorem lw_p3 : lw_okq (⟨"FourOnOne$Reader", "begin", "(I[I)V"⟩, 17) := ⟨⟨by decide +kernel, by decide +kernel⟩, List.mem_of_getElem? (i := 24) (by decide +kernel), List.mem_of_getElem? (i := 405) (by decide +kernel), List.mem_of_getElem? (i := 406) (by decide +kernel)⟩
theorem lw_p4 : lw_okq (⟨"FourOnOne$Reader", "next", "()V"⟩, 17) := ⟨⟨by decide +kernel, by decide +kernel⟩, List.mem_of_getElem? (i := 24) (by decide +kernel), List.mem_of_getElem? (i := 412) (by decide +kernel), List.mem_of_getElem? (i := 413) (by decide +kernel)⟩
theorem lw_p5 : lw_okq (⟨"FourOnOne$Reader", "knowWord", "()V"⟩, 17) := ⟨⟨by decide +kernel, by decide +kernel⟩, List.mem_of_getElem? (i := 24) (by decide +kernel), List.mem_of_getElem? (i := 416) (by decide +kernel), List.mem_of_getElem? (i := 417) (by decide +kernel)⟩
theorem lw_p6 : lw_okq (⟨"FourOnOne$Reader", "fail", "(II)V"⟩, 17) := ⟨⟨by decide +kernel, by decide +kernel⟩, List.mem_of_getElem? (i := 24) (by decide +kernel), List.mem_of_getElem? (i := 420) (by decide +kernel), List.mem_of_getElem? (i := 421) (by decide +kernel)⟩
theorem lw_p7 : lw_okq (⟨"FourOnOne$Reader", "readStatement", "()V"⟩, 17) := ⟨⟨by decide +kernel, by decide +kernel⟩, List.mem_of_getElem? (i := 24) (by decide +kernel), List.mem_of_getElem? (i := 424) (by decide +kernel), List.mem_of_getElem? (i := 425) (by decide +kernel)⟩
theorem lw_p8 : lw_okq (⟨"FourOnOne$Reader", "takeNewName", "(II)I"⟩, 17) := ⟨⟨by decide +kernel, by decide +kernel⟩, List.mem_of_getElem? (i := 24) (by decide +kernel), List.mem_of_getElem? (i := 428) (by decide +kernel), List.mem_of_getElem? (i := 429) (by decide +kernel)⟩
theorem lw_p9 : lw_okq (⟨"FourOnOne$Reader", "nameHere", "()I"⟩, 17) := ⟨⟨by decide +kernel, by decide +kernel⟩, List.mem_of_getElem? (i := 24) (by decide +kernel), List.mem_of_getElem? (i := 432) (by decide +kernel), List.mem_of_getElem? (i := 433) (by decide +kernel)⟩
theorem lw_p10 : lw_okq (⟨"FourOnOne$Reader", "readFilm", "()V"⟩, 17) := ⟨⟨by decide +kernel, by decide +kernel⟩, List.mem_of_getElem? (i := 24) (by decide +kernel), List.mem_of_getElem? (i := 440) (by decide +kernel), List.mem_of_getElem? (i := 441) (by decide +kernel)⟩
theorem lw_p11 : lw_okq (⟨"FourOnOne$Reader", "takeWord", "(I)V"⟩, 17) := ⟨⟨by decide +kernel, by decide +kernel⟩, List.mem_of_getElem? (i := 24) (by decide +kernel), List.mem_of_getElem? (i := 444) (by decide +kernel), List.mem_of_getElem? (i := 445) (by decide +kernel)⟩
theorem lw_p12 : lw_okq (⟨"FourOnOne$Reader", "isWord", "(I)Z"⟩, 17) := ⟨⟨by decide +kernel, by decide +kernel⟩, List.mem_of_getElem? (i := 24) (by decide +kernel), List.mem_of_getElem? (i := 448) (by decide +kernel), List.mem_of_getElem? (i := 449) (by decide +kernel)⟩
theorem lw_p13 : lw_okq (⟨"FourOnOne$Reader", "takeNumber", "(II)I"⟩, 17) := ⟨⟨by decide +kernel, by decide +kernel⟩, List.mem_of_getElem? (i := 24) (by decide +kernel), List.mem_of_getElem? (i := 452) (by decide +kernel), List.mem_of_getElem? (i := 453) (by decide +kernel)⟩
theorem lw_p14 : lw_okq (⟨"FourOnOne$Reader", "takeKnownName", "(I)I"⟩, 17) := ⟨⟨by decide +kernel, by decide +kernel⟩, List.mem_of_getElem? (i := 24) (by decide +kernel), List.mem_of_getElem? (i := 456) (by decide +kernel), List.mem_of_getElem? (i := 457) (by decide +kernel)⟩
theorem lw_p15 : lw_okq (⟨"FourOnOne$Reader", "readPerson", "()V"⟩, 17) := ⟨⟨by decide +kernel, by decide +kernel⟩, List.mem_of_getElem? (i := 24) (by decide +kernel), List.mem_of_getElem? (i := 460) (by decide +kernel), List.mem_of_getElem? (i := 461) (by decide +kernel)⟩
def lw_privs_1 : List (MethodName × Nat) := [(⟨"FourOnOne", "refuse", "(I)I"⟩, 16), (⟨"FourOnOne", "feedNumber", "(I)V"⟩, 16), (⟨"FourOnOne", "takeTape", "()I"⟩, 16), (⟨"FourOnOne$Reader", "begin", "(I[I)V"⟩, 17), (⟨"FourOnOne$Reader", "next", "()V"⟩, 17), (⟨"FourOnOne$Reader", "knowWord", "()V"⟩, 17), (⟨"FourOnOne$Reader", "fail", "(II)V"⟩, 17), (⟨"FourOnOne$Reader", "readStatement", "()V"⟩, 17), (⟨"FourOnOne$Reader", "takeNewName", "(II)I"⟩, 17), (⟨"FourOnOne$Reader", "nameHere", "()I"⟩, 17), (⟨"FourOnOne$Reader", "readFilm", "()V"⟩, 17), (⟨"FourOnOne$Reader", "takeWord", "(I)V"⟩, 17), (⟨"FourOnOne$Reader", "isWord", "(I)Z"⟩, 17), (⟨"FourOnOne$Reader", "takeNumber", "(II)I"⟩, 17), (⟨"FourOnOne$Reader", "takeKnownName", "(I)I"⟩, 17), (⟨"FourOnOne$Reader", "readPerson", "()V"⟩, 17)]
theorem lw_r1 : ∀ q ∈ lw_privs_1, lw_okq q := List.forall_mem_cons.mpr ⟨lw_p0, List.forall_mem_cons.mpr ⟨lw_p1, List.forall_mem_cons.mpr ⟨lw_p2, List.forall_mem_cons.mpr ⟨lw_p3, List.forall_mem_cons.mpr ⟨lw_p4, List.forall_mem_cons.mpr ⟨lw_p5, List.forall_mem_cons.mpr ⟨lw_p6, List.forall_mem_cons.mpr ⟨lw_p7, List.forall_mem_cons.mpr ⟨lw_p8, List.forall_mem_cons.mpr ⟨lw_p9, List.forall_mem_cons.mpr ⟨lw_p10, List.forall_mem_cons.mpr ⟨lw_p11, List.forall_mem_cons.mpr ⟨lw_p12, List.forall_mem_cons.mpr ⟨lw_p13, List.forall_mem_cons.mpr ⟨lw_p14, List.forall_mem_cons.mpr ⟨lw_p15, fun _ h => absurd h List.not_mem_nil⟩⟩⟩⟩⟩⟩⟩⟩⟩⟩⟩⟩⟩⟩⟩⟩
theorem lw_p16 : lw_okq (⟨"FourOnOne$Reader", "readLikes", "()V"⟩, 17) := ⟨⟨by decide +kernel, by decide +kernel⟩, List.mem_of_getElem? (i := 24) (by decide +kernel), List.mem_of_getElem? (i := 464) (by decide +kernel), List.mem_of_getElem? (i := 465) (by decide +kernel)⟩
theorem lw_p17 : lw_okq (⟨"FourOnOne$Reader", "readPress", "()V"⟩, 17) := ⟨⟨by decide +kernel, by decide +kernel⟩, List.mem_of_getElem? (i := 24) (by decide +kernel), List.mem_of_getElem? (i := 468) (by decide +kernel), List.mem_of_getElem? (i := 469) (by decide +kernel)⟩
theorem lw_p18 : lw_okq (⟨"FourOnOne$Reader", "beginFormula", "(II)I"⟩, 17) := ⟨⟨by decide +kernel, by decide +kernel⟩, List.mem_of_getElem? (i := 24) (by decide +kernel), List.mem_of_getElem? (i := 472) (by decide +kernel), List.mem_of_getElem? (i := 473) (by decide +kernel)⟩
theorem lw_p19 : lw_okq (⟨"FourOnOne$Reader", "readSum", "()V"⟩, 17) := ⟨⟨by decide +kernel, by decide +kernel⟩, List.mem_of_getElem? (i := 24) (by decide +kernel), List.mem_of_getElem? (i := 476) (by decide +kernel), List.mem_of_getElem? (i := 477) (by decide +kernel)⟩
theorem lw_p20 : lw_okq (⟨"FourOnOne$Reader", "readProduct", "()V"⟩, 17) := ⟨⟨by decide +kernel, by decide +kernel⟩, List.mem_of_getElem? (i := 24) (by decide +kernel), List.mem_of_getElem? (i := 480) (by decide +kernel), List.mem_of_getElem? (i := 481) (by decide +kernel)⟩
theorem lw_p21 : lw_okq (⟨"FourOnOne$Reader", "readPart", "()V"⟩, 17) := ⟨⟨by decide +kernel, by decide +kernel⟩, List.mem_of_getElem? (i := 24) (by decide +kernel), List.mem_of_getElem? (i := 484) (by decide +kernel), List.mem_of_getElem? (i := 485) (by decide +kernel)⟩
theorem lw_p22 : lw_okq (⟨"FourOnOne$Reader", "put", "(I)V"⟩, 17) := ⟨⟨by decide +kernel, by decide +kernel⟩, List.mem_of_getElem? (i := 24) (by decide +kernel), List.mem_of_getElem? (i := 488) (by decide +kernel), List.mem_of_getElem? (i := 489) (by decide +kernel)⟩
theorem lw_p23 : lw_okq (⟨"FourOnOne$Reader", "isSign", "(C)Z"⟩, 17) := ⟨⟨by decide +kernel, by decide +kernel⟩, List.mem_of_getElem? (i := 24) (by decide +kernel), List.mem_of_getElem? (i := 492) (by decide +kernel), List.mem_of_getElem? (i := 493) (by decide +kernel)⟩
theorem lw_p24 : lw_okq (⟨"FourOnOne$Reader", "opens", "()Z"⟩, 17) := ⟨⟨by decide +kernel, by decide +kernel⟩, List.mem_of_getElem? (i := 24) (by decide +kernel), List.mem_of_getElem? (i := 496) (by decide +kernel), List.mem_of_getElem? (i := 497) (by decide +kernel)⟩
theorem lw_p25 : lw_okq (⟨"FourOnOne$Reader", "takeSign", "(C)V"⟩, 17) := ⟨⟨by decide +kernel, by decide +kernel⟩, List.mem_of_getElem? (i := 24) (by decide +kernel), List.mem_of_getElem? (i := 500) (by decide +kernel), List.mem_of_getElem? (i := 501) (by decide +kernel)⟩
theorem lw_p26 : lw_okq (⟨"FourOnOne$Reader", "readLesserOrGreater", "(I)V"⟩, 17) := ⟨⟨by decide +kernel, by decide +kernel⟩, List.mem_of_getElem? (i := 24) (by decide +kernel), List.mem_of_getElem? (i := 504) (by decide +kernel), List.mem_of_getElem? (i := 505) (by decide +kernel)⟩
theorem lw_p27 : lw_okq (⟨"FourOnOne$Reader", "isFactHere", "()Z"⟩, 17) := ⟨⟨by decide +kernel, by decide +kernel⟩, List.mem_of_getElem? (i := 24) (by decide +kernel), List.mem_of_getElem? (i := 508) (by decide +kernel), List.mem_of_getElem? (i := 509) (by decide +kernel)⟩
theorem lw_p28 : lw_okq (⟨"FourOnOne$Reader", "readTest", "()V"⟩, 17) := ⟨⟨by decide +kernel, by decide +kernel⟩, List.mem_of_getElem? (i := 24) (by decide +kernel), List.mem_of_getElem? (i := 512) (by decide +kernel), List.mem_of_getElem? (i := 513) (by decide +kernel)⟩
theorem lw_p29 : lw_okq (⟨"FourOnOne$Reader", "readBoth", "()V"⟩, 17) := ⟨⟨by decide +kernel, by decide +kernel⟩, List.mem_of_getElem? (i := 24) (by decide +kernel), List.mem_of_getElem? (i := 516) (by decide +kernel), List.mem_of_getElem? (i := 517) (by decide +kernel)⟩
theorem lw_p30 : lw_okq (⟨"FourOnOne$Reader", "readFact", "()V"⟩, 17) := ⟨⟨by decide +kernel, by decide +kernel⟩, List.mem_of_getElem? (i := 24) (by decide +kernel), List.mem_of_getElem? (i := 520) (by decide +kernel), List.mem_of_getElem? (i := 521) (by decide +kernel)⟩
theorem lw_p31 : lw_okq (⟨"FourOnOne", "forgetActs", "()V"⟩, 16) := ⟨⟨by decide +kernel, by decide +kernel⟩, List.mem_of_getElem? (i := 16) (by decide +kernel), List.mem_of_getElem? (i := 528) (by decide +kernel), List.mem_of_getElem? (i := 529) (by decide +kernel)⟩
def lw_privs_2 : List (MethodName × Nat) := [(⟨"FourOnOne$Reader", "readLikes", "()V"⟩, 17), (⟨"FourOnOne$Reader", "readPress", "()V"⟩, 17), (⟨"FourOnOne$Reader", "beginFormula", "(II)I"⟩, 17), (⟨"FourOnOne$Reader", "readSum", "()V"⟩, 17), (⟨"FourOnOne$Reader", "readProduct", "()V"⟩, 17), (⟨"FourOnOne$Reader", "readPart", "()V"⟩, 17), (⟨"FourOnOne$Reader", "put", "(I)V"⟩, 17), (⟨"FourOnOne$Reader", "isSign", "(C)Z"⟩, 17), (⟨"FourOnOne$Reader", "opens", "()Z"⟩, 17), (⟨"FourOnOne$Reader", "takeSign", "(C)V"⟩, 17), (⟨"FourOnOne$Reader", "readLesserOrGreater", "(I)V"⟩, 17), (⟨"FourOnOne$Reader", "isFactHere", "()Z"⟩, 17), (⟨"FourOnOne$Reader", "readTest", "()V"⟩, 17), (⟨"FourOnOne$Reader", "readBoth", "()V"⟩, 17), (⟨"FourOnOne$Reader", "readFact", "()V"⟩, 17), (⟨"FourOnOne", "forgetActs", "()V"⟩, 16)]
theorem lw_r2 : ∀ q ∈ lw_privs_2, lw_okq q := List.forall_mem_cons.mpr ⟨lw_p16, List.forall_mem_cons.mpr ⟨lw_p17, List.forall_mem_cons.mpr ⟨lw_p18, List.forall_mem_cons.mpr ⟨lw_p19, List.forall_mem_cons.mpr ⟨lw_p20, List.forall_mem_cons.mpr ⟨lw_p21, List.forall_mem_cons.mpr ⟨lw_p22, List.forall_mem_cons.mpr ⟨lw_p23, List.forall_mem_cons.mpr ⟨lw_p24, List.forall_mem_cons.mpr ⟨lw_p25, List.forall_mem_cons.mpr ⟨lw_p26, List.forall_mem_cons.mpr ⟨lw_p27, List.forall_mem_cons.mpr ⟨lw_p28, List.forall_mem_cons.mpr ⟨lw_p29, List.forall_mem_cons.mpr ⟨lw_p30, List.forall_mem_cons.mpr ⟨lw_p31, fun _ h => absurd h List.not_mem_nil⟩⟩⟩⟩⟩⟩⟩⟩⟩⟩⟩⟩⟩⟩⟩⟩
theorem lw_p32 : lw_okq (⟨"FourOnOne", "sawTogether", "()I"⟩, 16) := ⟨⟨by decide +kernel, by decide +kernel⟩, List.mem_of_getElem? (i := 16) (by decide +kernel), List.mem_of_getElem? (i := 546) (by decide +kernel), List.mem_of_getElem? (i := 547) (by decide +kernel)⟩
theorem lw_p33 : lw_okq (⟨"FourOnOne", "isOne", "(II)Z"⟩, 16) := ⟨⟨by decide +kernel, by decide +kernel⟩, List.mem_of_getElem? (i := 16) (by decide +kernel), List.mem_of_getElem? (i := 559) (by decide +kernel), List.mem_of_getElem? (i := 560) (by decide +kernel)⟩
theorem lw_p34 : lw_okq (⟨"FourOnOne$Course", "scoreOf", "(II)I"⟩, 6) := ⟨⟨by decide +kernel, by decide +kernel⟩, List.mem_of_getElem? (i := 237) (by decide +kernel), List.mem_of_getElem? (i := 591) (by decide +kernel), List.mem_of_getElem? (i := 592) (by decide +kernel)⟩
theorem lw_p35 : lw_okq (⟨"FourOnOne$Course", "mayBe", "(III)Z"⟩, 6) := ⟨⟨by decide +kernel, by decide +kernel⟩, List.mem_of_getElem? (i := 237) (by decide +kernel), List.mem_of_getElem? (i := 595) (by decide +kernel), List.mem_of_getElem? (i := 596) (by decide +kernel)⟩
theorem lw_p36 : lw_okq (⟨"FourOnOne$Course", "setFilmFacts", "(III)V"⟩, 6) := ⟨⟨by decide +kernel, by decide +kernel⟩, List.mem_of_getElem? (i := 237) (by decide +kernel), List.mem_of_getElem? (i := 599) (by decide +kernel), List.mem_of_getElem? (i := 600) (by decide +kernel)⟩
theorem lw_p37 : lw_okq (⟨"FourOnOne$Machine", "given", "(I)I"⟩, 3) := ⟨⟨by decide +kernel, by decide +kernel⟩, List.mem_of_getElem? (i := 281) (by decide +kernel), List.mem_of_getElem? (i := 610) (by decide +kernel), List.mem_of_getElem? (i := 611) (by decide +kernel)⟩
theorem lw_p38 : lw_okq (⟨"FourOnOne$Machine", "weightOf", "(I)I"⟩, 3) := ⟨⟨by decide +kernel, by decide +kernel⟩, List.mem_of_getElem? (i := 281) (by decide +kernel), List.mem_of_getElem? (i := 614) (by decide +kernel), List.mem_of_getElem? (i := 615) (by decide +kernel)⟩
theorem lw_p39 : lw_okq (⟨"FourOnOne$Machine", "joined", "(IJJ)I"⟩, 3) := ⟨⟨by decide +kernel, by decide +kernel⟩, List.mem_of_getElem? (i := 281) (by decide +kernel), List.mem_of_getElem? (i := 618) (by decide +kernel), List.mem_of_getElem? (i := 619) (by decide +kernel)⟩
theorem lw_p40 : lw_okq (⟨"FourOnOne", "canPass", "(III)Z"⟩, 16) := ⟨⟨by decide +kernel, by decide +kernel⟩, List.mem_of_getElem? (i := 16) (by decide +kernel), List.mem_of_getElem? (i := 654) (by decide +kernel), List.mem_of_getElem? (i := 655) (by decide +kernel)⟩
theorem lw_p41 : lw_okq (⟨"FourOnOne", "lookAhead", "(II)V"⟩, 16) := ⟨⟨by decide +kernel, by decide +kernel⟩, List.mem_of_getElem? (i := 16) (by decide +kernel), List.mem_of_getElem? (i := 659) (by decide +kernel), List.mem_of_getElem? (i := 660) (by decide +kernel)⟩
theorem lw_p42 : lw_okq (⟨"FourOnOne$Course", "heldTaste", "(I)I"⟩, 6) := ⟨⟨by decide +kernel, by decide +kernel⟩, List.mem_of_getElem? (i := 237) (by decide +kernel), List.mem_of_getElem? (i := 691) (by decide +kernel), List.mem_of_getElem? (i := 692) (by decide +kernel)⟩
theorem lw_p43 : lw_okq (⟨"FourOnOne$Course", "fadeAll", "(I)V"⟩, 6) := ⟨⟨by decide +kernel, by decide +kernel⟩, List.mem_of_getElem? (i := 237) (by decide +kernel), List.mem_of_getElem? (i := 702) (by decide +kernel), List.mem_of_getElem? (i := 703) (by decide +kernel)⟩
theorem lw_p44 : lw_okq (⟨"FourOnOne", "isAtRest", "(II)Z"⟩, 16) := ⟨⟨by decide +kernel, by decide +kernel⟩, List.mem_of_getElem? (i := 16) (by decide +kernel), List.mem_of_getElem? (i := 719) (by decide +kernel), List.mem_of_getElem? (i := 720) (by decide +kernel)⟩
theorem lw_p45 : lw_okq (⟨"FourOnOne", "countVotes", "(I)V"⟩, 16) := ⟨⟨by decide +kernel, by decide +kernel⟩, List.mem_of_getElem? (i := 16) (by decide +kernel), List.mem_of_getElem? (i := 748) (by decide +kernel), List.mem_of_getElem? (i := 749) (by decide +kernel)⟩
theorem lw_p46 : lw_okq (⟨"FourOnOne", "sofaWorth", "(IIZ)I"⟩, 16) := ⟨⟨by decide +kernel, by decide +kernel⟩, List.mem_of_getElem? (i := 16) (by decide +kernel), List.mem_of_getElem? (i := 757) (by decide +kernel), List.mem_of_getElem? (i := 758) (by decide +kernel)⟩
theorem lw_p47 : lw_okq (⟨"FourOnOne", "toldHours", "()I"⟩, 16) := ⟨⟨by decide +kernel, by decide +kernel⟩, List.mem_of_getElem? (i := 16) (by decide +kernel), List.mem_of_getElem? (i := 773) (by decide +kernel), List.mem_of_getElem? (i := 774) (by decide +kernel)⟩
def lw_privs_3 : List (MethodName × Nat) := [(⟨"FourOnOne", "sawTogether", "()I"⟩, 16), (⟨"FourOnOne", "isOne", "(II)Z"⟩, 16), (⟨"FourOnOne$Course", "scoreOf", "(II)I"⟩, 6), (⟨"FourOnOne$Course", "mayBe", "(III)Z"⟩, 6), (⟨"FourOnOne$Course", "setFilmFacts", "(III)V"⟩, 6), (⟨"FourOnOne$Machine", "given", "(I)I"⟩, 3), (⟨"FourOnOne$Machine", "weightOf", "(I)I"⟩, 3), (⟨"FourOnOne$Machine", "joined", "(IJJ)I"⟩, 3), (⟨"FourOnOne", "canPass", "(III)Z"⟩, 16), (⟨"FourOnOne", "lookAhead", "(II)V"⟩, 16), (⟨"FourOnOne$Course", "heldTaste", "(I)I"⟩, 6), (⟨"FourOnOne$Course", "fadeAll", "(I)V"⟩, 6), (⟨"FourOnOne", "isAtRest", "(II)Z"⟩, 16), (⟨"FourOnOne", "countVotes", "(I)V"⟩, 16), (⟨"FourOnOne", "sofaWorth", "(IIZ)I"⟩, 16), (⟨"FourOnOne", "toldHours", "()I"⟩, 16)]
theorem lw_r3 : ∀ q ∈ lw_privs_3, lw_okq q := List.forall_mem_cons.mpr ⟨lw_p32, List.forall_mem_cons.mpr ⟨lw_p33, List.forall_mem_cons.mpr ⟨lw_p34, List.forall_mem_cons.mpr ⟨lw_p35, List.forall_mem_cons.mpr ⟨lw_p36, List.forall_mem_cons.mpr ⟨lw_p37, List.forall_mem_cons.mpr ⟨lw_p38, List.forall_mem_cons.mpr ⟨lw_p39, List.forall_mem_cons.mpr ⟨lw_p40, List.forall_mem_cons.mpr ⟨lw_p41, List.forall_mem_cons.mpr ⟨lw_p42, List.forall_mem_cons.mpr ⟨lw_p43, List.forall_mem_cons.mpr ⟨lw_p44, List.forall_mem_cons.mpr ⟨lw_p45, List.forall_mem_cons.mpr ⟨lw_p46, List.forall_mem_cons.mpr ⟨lw_p47, fun _ h => absurd h List.not_mem_nil⟩⟩⟩⟩⟩⟩⟩⟩⟩⟩⟩⟩⟩⟩⟩⟩
theorem lw_p48 : lw_okq (⟨"FourOnOne", "isAsTold", "(II)Z"⟩, 16) := ⟨⟨by decide +kernel, by decide +kernel⟩, List.mem_of_getElem? (i := 16) (by decide +kernel), List.mem_of_getElem? (i := 778) (by decide +kernel), List.mem_of_getElem? (i := 779) (by decide +kernel)⟩
theorem lw_p49 : lw_okq (⟨"FourOnOne", "rememberAct", "()V"⟩, 16) := ⟨⟨by decide +kernel, by decide +kernel⟩, List.mem_of_getElem? (i := 16) (by decide +kernel), List.mem_of_getElem? (i := 786) (by decide +kernel), List.mem_of_getElem? (i := 787) (by decide +kernel)⟩
theorem lw_p50 : lw_okq (⟨"FourOnOne", "strangerSees", "()Z"⟩, 16) := ⟨⟨by decide +kernel, by decide +kernel⟩, List.mem_of_getElem? (i := 16) (by decide +kernel), List.mem_of_getElem? (i := 803) (by decide +kernel), List.mem_of_getElem? (i := 804) (by decide +kernel)⟩
theorem lw_p51 : lw_okq (⟨"FourOnOne", "draw", "(I)I"⟩, 16) := ⟨⟨by decide +kernel, by decide +kernel⟩, List.mem_of_getElem? (i := 16) (by decide +kernel), List.mem_of_getElem? (i := 807) (by decide +kernel), List.mem_of_getElem? (i := 808) (by decide +kernel)⟩
theorem lw_p52 : lw_okq (⟨"FourOnOne", "filmThatHolds", "(IZ)J"⟩, 16) := ⟨⟨by decide +kernel, by decide +kernel⟩, List.mem_of_getElem? (i := 16) (by decide +kernel), List.mem_of_getElem? (i := 831) (by decide +kernel), List.mem_of_getElem? (i := 832) (by decide +kernel)⟩
theorem lw_p53 : lw_okq (⟨"FourOnOne", "totalOf", "(I)J"⟩, 16) := ⟨⟨by decide +kernel, by decide +kernel⟩, List.mem_of_getElem? (i := 16) (by decide +kernel), List.mem_of_getElem? (i := 840) (by decide +kernel), List.mem_of_getElem? (i := 841) (by decide +kernel)⟩
theorem lw_p54 : lw_okq (⟨"FourOnOne", "extremeOf", "(IZ)J"⟩, 16) := ⟨⟨by decide +kernel, by decide +kernel⟩, List.mem_of_getElem? (i := 16) (by decide +kernel), List.mem_of_getElem? (i := 844) (by decide +kernel), List.mem_of_getElem? (i := 845) (by decide +kernel)⟩
theorem lw_p55 : lw_okq (⟨"FourOnOne", "putTwo", "(I)V"⟩, 16) := ⟨⟨by decide +kernel, by decide +kernel⟩, List.mem_of_getElem? (i := 16) (by decide +kernel), List.mem_of_getElem? (i := 852) (by decide +kernel), List.mem_of_getElem? (i := 853) (by decide +kernel)⟩
theorem lw_p56 : lw_okq (⟨"FourOnOne", "putByte", "(I)V"⟩, 16) := ⟨⟨by decide +kernel, by decide +kernel⟩, List.mem_of_getElem? (i := 16) (by decide +kernel), List.mem_of_getElem? (i := 856) (by decide +kernel), List.mem_of_getElem? (i := 857) (by decide +kernel)⟩
theorem lw_p57 : lw_okq (⟨"FourOnOne", "checkByte", "([II)I"⟩, 16) := ⟨⟨by decide +kernel, by decide +kernel⟩, List.mem_of_getElem? (i := 16) (by decide +kernel), List.mem_of_getElem? (i := 860) (by decide +kernel), List.mem_of_getElem? (i := 861) (by decide +kernel)⟩
theorem lw_p58 : lw_okq (⟨"FourOnOne", "lengthOfImage", "()I"⟩, 16) := ⟨⟨by decide +kernel, by decide +kernel⟩, List.mem_of_getElem? (i := 16) (by decide +kernel), List.mem_of_getElem? (i := 872) (by decide +kernel), List.mem_of_getElem? (i := 873) (by decide +kernel)⟩
theorem lw_p59 : lw_okq (⟨"FourOnOne", "tapeByte", "(I)I"⟩, 16) := ⟨⟨by decide +kernel, by decide +kernel⟩, List.mem_of_getElem? (i := 16) (by decide +kernel), List.mem_of_getElem? (i := 876) (by decide +kernel), List.mem_of_getElem? (i := 877) (by decide +kernel)⟩
theorem lw_p60 : lw_okq (⟨"FourOnOne", "readProfiles", "(LFourOnOne$Account;)Z"⟩, 16) := ⟨⟨by decide +kernel, by decide +kernel⟩, List.mem_of_getElem? (i := 16) (by decide +kernel), List.mem_of_getElem? (i := 880) (by decide +kernel), List.mem_of_getElem? (i := 881) (by decide +kernel)⟩
theorem lw_p61 : lw_okq (⟨"FourOnOne", "tapeTwo", "(I)I"⟩, 16) := ⟨⟨by decide +kernel, by decide +kernel⟩, List.mem_of_getElem? (i := 16) (by decide +kernel), List.mem_of_getElem? (i := 884) (by decide +kernel), List.mem_of_getElem? (i := 885) (by decide +kernel)⟩
theorem lw_p62 : lw_okq (⟨"FourOnOne", "readPeople", "(LFourOnOne$Account;I)Z"⟩, 16) := ⟨⟨by decide +kernel, by decide +kernel⟩, List.mem_of_getElem? (i := 16) (by decide +kernel), List.mem_of_getElem? (i := 888) (by decide +kernel), List.mem_of_getElem? (i := 889) (by decide +kernel)⟩
theorem lw_p63 : lw_okq (⟨"FourOnOneModel", "look", "()I"⟩, 103) := ⟨⟨by decide +kernel, by decide +kernel⟩, List.mem_of_getElem? (i := 896) (by decide +kernel), List.mem_of_getElem? (i := 1225) (by decide +kernel), List.mem_of_getElem? (i := 1226) (by decide +kernel)⟩
def lw_privs_4 : List (MethodName × Nat) := [(⟨"FourOnOne", "isAsTold", "(II)Z"⟩, 16), (⟨"FourOnOne", "rememberAct", "()V"⟩, 16), (⟨"FourOnOne", "strangerSees", "()Z"⟩, 16), (⟨"FourOnOne", "draw", "(I)I"⟩, 16), (⟨"FourOnOne", "filmThatHolds", "(IZ)J"⟩, 16), (⟨"FourOnOne", "totalOf", "(I)J"⟩, 16), (⟨"FourOnOne", "extremeOf", "(IZ)J"⟩, 16), (⟨"FourOnOne", "putTwo", "(I)V"⟩, 16), (⟨"FourOnOne", "putByte", "(I)V"⟩, 16), (⟨"FourOnOne", "checkByte", "([II)I"⟩, 16), (⟨"FourOnOne", "lengthOfImage", "()I"⟩, 16), (⟨"FourOnOne", "tapeByte", "(I)I"⟩, 16), (⟨"FourOnOne", "readProfiles", "(LFourOnOne$Account;)Z"⟩, 16), (⟨"FourOnOne", "tapeTwo", "(I)I"⟩, 16), (⟨"FourOnOne", "readPeople", "(LFourOnOne$Account;I)Z"⟩, 16), (⟨"FourOnOneModel", "look", "()I"⟩, 103)]
theorem lw_r4 : ∀ q ∈ lw_privs_4, lw_okq q := List.forall_mem_cons.mpr ⟨lw_p48, List.forall_mem_cons.mpr ⟨lw_p49, List.forall_mem_cons.mpr ⟨lw_p50, List.forall_mem_cons.mpr ⟨lw_p51, List.forall_mem_cons.mpr ⟨lw_p52, List.forall_mem_cons.mpr ⟨lw_p53, List.forall_mem_cons.mpr ⟨lw_p54, List.forall_mem_cons.mpr ⟨lw_p55, List.forall_mem_cons.mpr ⟨lw_p56, List.forall_mem_cons.mpr ⟨lw_p57, List.forall_mem_cons.mpr ⟨lw_p58, List.forall_mem_cons.mpr ⟨lw_p59, List.forall_mem_cons.mpr ⟨lw_p60, List.forall_mem_cons.mpr ⟨lw_p61, List.forall_mem_cons.mpr ⟨lw_p62, List.forall_mem_cons.mpr ⟨lw_p63, fun _ h => absurd h List.not_mem_nil⟩⟩⟩⟩⟩⟩⟩⟩⟩⟩⟩⟩⟩⟩⟩⟩
theorem lw_p64 : lw_okq (⟨"FourOnOneModel", "statementTold", "()V"⟩, 103) := ⟨⟨by decide +kernel, by decide +kernel⟩, List.mem_of_getElem? (i := 896) (by decide +kernel), List.mem_of_getElem? (i := 1229) (by decide +kernel), List.mem_of_getElem? (i := 1230) (by decide +kernel)⟩
theorem lw_p65 : lw_okq (⟨"FourOnOneModel", "fail", "(II)V"⟩, 103) := ⟨⟨by decide +kernel, by decide +kernel⟩, List.mem_of_getElem? (i := 896) (by decide +kernel), List.mem_of_getElem? (i := 1233) (by decide +kernel), List.mem_of_getElem? (i := 1234) (by decide +kernel)⟩
theorem lw_p66 : lw_okq (⟨"FourOnOneModel", "takes", "([C)Z"⟩, 103) := ⟨⟨by decide +kernel, by decide +kernel⟩, List.mem_of_getElem? (i := 896) (by decide +kernel), List.mem_of_getElem? (i := 1237) (by decide +kernel), List.mem_of_getElem? (i := 1238) (by decide +kernel)⟩
theorem lw_p67 : lw_okq (⟨"FourOnOneModel", "isHere", "([C)Z"⟩, 103) := ⟨⟨by decide +kernel, by decide +kernel⟩, List.mem_of_getElem? (i := 896) (by decide +kernel), List.mem_of_getElem? (i := 1241) (by decide +kernel), List.mem_of_getElem? (i := 1242) (by decide +kernel)⟩
theorem lw_p68 : lw_okq (⟨"FourOnOneModel", "kindTold", "(I)V"⟩, 103) := ⟨⟨by decide +kernel, by decide +kernel⟩, List.mem_of_getElem? (i := 896) (by decide +kernel), List.mem_of_getElem? (i := 1248) (by decide +kernel), List.mem_of_getElem? (i := 1249) (by decide +kernel)⟩
theorem lw_p69 : lw_okq (⟨"FourOnOneModel", "isFull", "(III)Z"⟩, 103) := ⟨⟨by decide +kernel, by decide +kernel⟩, List.mem_of_getElem? (i := 896) (by decide +kernel), List.mem_of_getElem? (i := 1252) (by decide +kernel), List.mem_of_getElem? (i := 1253) (by decide +kernel)⟩
theorem lw_p70 : lw_okq (⟨"FourOnOneModel", "newName", "()J"⟩, 103) := ⟨⟨by decide +kernel, by decide +kernel⟩, List.mem_of_getElem? (i := 896) (by decide +kernel), List.mem_of_getElem? (i := 1256) (by decide +kernel), List.mem_of_getElem? (i := 1257) (by decide +kernel)⟩
theorem lw_p71 : lw_okq (⟨"FourOnOneModel", "name", "()J"⟩, 103) := ⟨⟨by decide +kernel, by decide +kernel⟩, List.mem_of_getElem? (i := 896) (by decide +kernel), List.mem_of_getElem? (i := 1260) (by decide +kernel), List.mem_of_getElem? (i := 1261) (by decide +kernel)⟩
theorem lw_p72 : lw_okq (⟨"FourOnOneModel", "isOwnHere", "()Z"⟩, 103) := ⟨⟨by decide +kernel, by decide +kernel⟩, List.mem_of_getElem? (i := 896) (by decide +kernel), List.mem_of_getElem? (i := 1264) (by decide +kernel), List.mem_of_getElem? (i := 1265) (by decide +kernel)⟩
theorem lw_p73 : lw_okq (⟨"FourOnOneModel", "nameOf", "(IJ)I"⟩, 103) := ⟨⟨by decide +kernel, by decide +kernel⟩, List.mem_of_getElem? (i := 896) (by decide +kernel), List.mem_of_getElem? (i := 1270) (by decide +kernel), List.mem_of_getElem? (i := 1271) (by decide +kernel)⟩
theorem lw_p74 : lw_okq (⟨"FourOnOneModel", "adds", "(IJ)V"⟩, 103) := ⟨⟨by decide +kernel, by decide +kernel⟩, List.mem_of_getElem? (i := 896) (by decide +kernel), List.mem_of_getElem? (i := 1274) (by decide +kernel), List.mem_of_getElem? (i := 1275) (by decide +kernel)⟩
theorem lw_p75 : lw_okq (⟨"FourOnOneModel", "filmTold", "(I)V"⟩, 103) := ⟨⟨by decide +kernel, by decide +kernel⟩, List.mem_of_getElem? (i := 896) (by decide +kernel), List.mem_of_getElem? (i := 1278) (by decide +kernel), List.mem_of_getElem? (i := 1279) (by decide +kernel)⟩
theorem lw_p76 : lw_okq (⟨"FourOnOneModel", "asks", "([C)V"⟩, 103) := ⟨⟨by decide +kernel, by decide +kernel⟩, List.mem_of_getElem? (i := 896) (by decide +kernel), List.mem_of_getElem? (i := 1282) (by decide +kernel), List.mem_of_getElem? (i := 1283) (by decide +kernel)⟩
theorem lw_p77 : lw_okq (⟨"FourOnOneModel", "number", "(II)I"⟩, 103) := ⟨⟨by decide +kernel, by decide +kernel⟩, List.mem_of_getElem? (i := 896) (by decide +kernel), List.mem_of_getElem? (i := 1286) (by decide +kernel), List.mem_of_getElem? (i := 1287) (by decide +kernel)⟩
theorem lw_p78 : lw_okq (⟨"FourOnOneModel", "oneOf", "(I)I"⟩, 103) := ⟨⟨by decide +kernel, by decide +kernel⟩, List.mem_of_getElem? (i := 896) (by decide +kernel), List.mem_of_getElem? (i := 1296) (by decide +kernel), List.mem_of_getElem? (i := 1297) (by decide +kernel)⟩
theorem lw_p79 : lw_okq (⟨"FourOnOneModel", "personTold", "(I)V"⟩, 103) := ⟨⟨by decide +kernel, by decide +kernel⟩, List.mem_of_getElem? (i := 896) (by decide +kernel), List.mem_of_getElem? (i := 1300) (by decide +kernel), List.mem_of_getElem? (i := 1301) (by decide +kernel)⟩
def lw_privs_5 : List (MethodName × Nat) := [(⟨"FourOnOneModel", "statementTold", "()V"⟩, 103), (⟨"FourOnOneModel", "fail", "(II)V"⟩, 103), (⟨"FourOnOneModel", "takes", "([C)Z"⟩, 103), (⟨"FourOnOneModel", "isHere", "([C)Z"⟩, 103), (⟨"FourOnOneModel", "kindTold", "(I)V"⟩, 103), (⟨"FourOnOneModel", "isFull", "(III)Z"⟩, 103), (⟨"FourOnOneModel", "newName", "()J"⟩, 103), (⟨"FourOnOneModel", "name", "()J"⟩, 103), (⟨"FourOnOneModel", "isOwnHere", "()Z"⟩, 103), (⟨"FourOnOneModel", "nameOf", "(IJ)I"⟩, 103), (⟨"FourOnOneModel", "adds", "(IJ)V"⟩, 103), (⟨"FourOnOneModel", "filmTold", "(I)V"⟩, 103), (⟨"FourOnOneModel", "asks", "([C)V"⟩, 103), (⟨"FourOnOneModel", "number", "(II)I"⟩, 103), (⟨"FourOnOneModel", "oneOf", "(I)I"⟩, 103), (⟨"FourOnOneModel", "personTold", "(I)V"⟩, 103)]
theorem lw_r5 : ∀ q ∈ lw_privs_5, lw_okq q := List.forall_mem_cons.mpr ⟨lw_p64, List.forall_mem_cons.mpr ⟨lw_p65, List.forall_mem_cons.mpr ⟨lw_p66, List.forall_mem_cons.mpr ⟨lw_p67, List.forall_mem_cons.mpr ⟨lw_p68, List.forall_mem_cons.mpr ⟨lw_p69, List.forall_mem_cons.mpr ⟨lw_p70, List.forall_mem_cons.mpr ⟨lw_p71, List.forall_mem_cons.mpr ⟨lw_p72, List.forall_mem_cons.mpr ⟨lw_p73, List.forall_mem_cons.mpr ⟨lw_p74, List.forall_mem_cons.mpr ⟨lw_p75, List.forall_mem_cons.mpr ⟨lw_p76, List.forall_mem_cons.mpr ⟨lw_p77, List.forall_mem_cons.mpr ⟨lw_p78, List.forall_mem_cons.mpr ⟨lw_p79, fun _ h => absurd h List.not_mem_nil⟩⟩⟩⟩⟩⟩⟩⟩⟩⟩⟩⟩⟩⟩⟩⟩
theorem lw_p80 : lw_okq (⟨"FourOnOneModel", "likesTold", "()V"⟩, 103) := ⟨⟨by decide +kernel, by decide +kernel⟩, List.mem_of_getElem? (i := 896) (by decide +kernel), List.mem_of_getElem? (i := 1304) (by decide +kernel), List.mem_of_getElem? (i := 1305) (by decide +kernel)⟩
theorem lw_p81 : lw_okq (⟨"FourOnOneModel", "pressTold", "()V"⟩, 103) := ⟨⟨by decide +kernel, by decide +kernel⟩, List.mem_of_getElem? (i := 896) (by decide +kernel), List.mem_of_getElem? (i := 1308) (by decide +kernel), List.mem_of_getElem? (i := 1309) (by decide +kernel)⟩
theorem lw_p82 : lw_okq (⟨"FourOnOneModel", "codesTold", "(II)V"⟩, 103) := ⟨⟨by decide +kernel, by decide +kernel⟩, List.mem_of_getElem? (i := 896) (by decide +kernel), List.mem_of_getElem? (i := 1312) (by decide +kernel), List.mem_of_getElem? (i := 1313) (by decide +kernel)⟩
theorem lw_p83 : lw_okq (⟨"FourOnOneModel", "qTest", "()V"⟩, 103) := ⟨⟨by decide +kernel, by decide +kernel⟩, List.mem_of_getElem? (i := 896) (by decide +kernel), List.mem_of_getElem? (i := 1316) (by decide +kernel), List.mem_of_getElem? (i := 1317) (by decide +kernel)⟩
theorem lw_p84 : lw_okq (⟨"FourOnOneModel", "qOpens", "(II)V"⟩, 103) := ⟨⟨by decide +kernel, by decide +kernel⟩, List.mem_of_getElem? (i := 896) (by decide +kernel), List.mem_of_getElem? (i := 1320) (by decide +kernel), List.mem_of_getElem? (i := 1321) (by decide +kernel)⟩
theorem lw_p85 : lw_okq (⟨"FourOnOneModel", "qFact", "()V"⟩, 103) := ⟨⟨by decide +kernel, by decide +kernel⟩, List.mem_of_getElem? (i := 896) (by decide +kernel), List.mem_of_getElem? (i := 1324) (by decide +kernel), List.mem_of_getElem? (i := 1325) (by decide +kernel)⟩
theorem lw_p86 : lw_okq (⟨"FourOnOneModel", "qCode", "(I)V"⟩, 103) := ⟨⟨by decide +kernel, by decide +kernel⟩, List.mem_of_getElem? (i := 896) (by decide +kernel), List.mem_of_getElem? (i := 1328) (by decide +kernel), List.mem_of_getElem? (i := 1329) (by decide +kernel)⟩
theorem lw_p87 : lw_okq (⟨"FourOnOneModel", "qSums", "()V"⟩, 103) := ⟨⟨by decide +kernel, by decide +kernel⟩, List.mem_of_getElem? (i := 896) (by decide +kernel), List.mem_of_getElem? (i := 1332) (by decide +kernel), List.mem_of_getElem? (i := 1333) (by decide +kernel)⟩
theorem lw_p88 : lw_okq (⟨"FourOnOneModel", "qPartTold", "()V"⟩, 103) := ⟨⟨by decide +kernel, by decide +kernel⟩, List.mem_of_getElem? (i := 896) (by decide +kernel), List.mem_of_getElem? (i := 1336) (by decide +kernel), List.mem_of_getElem? (i := 1337) (by decide +kernel)⟩
theorem lw_p89 : lw_okq (⟨"FourOnOneModel", "qWordOf", "(II)I"⟩, 103) := ⟨⟨by decide +kernel, by decide +kernel⟩, List.mem_of_getElem? (i := 896) (by decide +kernel), List.mem_of_getElem? (i := 1340) (by decide +kernel), List.mem_of_getElem? (i := 1341) (by decide +kernel)⟩
theorem lw_p90 : lw_okq (⟨"FourOnOneModel", "qWordHere", "()I"⟩, 103) := ⟨⟨by decide +kernel, by decide +kernel⟩, List.mem_of_getElem? (i := 896) (by decide +kernel), List.mem_of_getElem? (i := 1344) (by decide +kernel), List.mem_of_getElem? (i := 1345) (by decide +kernel)⟩
theorem lw_p91 : lw_okq (⟨"FourOnOneModel", "isAllowed", "(I)Z"⟩, 103) := ⟨⟨by decide +kernel, by decide +kernel⟩, List.mem_of_getElem? (i := 896) (by decide +kernel), List.mem_of_getElem? (i := 1348) (by decide +kernel), List.mem_of_getElem? (i := 1349) (by decide +kernel)⟩
theorem lw_p92 : lw_okq (⟨"FourOnOneModel", "asksSign", "(I)V"⟩, 103) := ⟨⟨by decide +kernel, by decide +kernel⟩, List.mem_of_getElem? (i := 896) (by decide +kernel), List.mem_of_getElem? (i := 1354) (by decide +kernel), List.mem_of_getElem? (i := 1355) (by decide +kernel)⟩
theorem lw_p93 : lw_okq (⟨"FourOnOneModel", "takesSign", "(I)Z"⟩, 103) := ⟨⟨by decide +kernel, by decide +kernel⟩, List.mem_of_getElem? (i := 896) (by decide +kernel), List.mem_of_getElem? (i := 1358) (by decide +kernel), List.mem_of_getElem? (i := 1359) (by decide +kernel)⟩
theorem lw_p94 : lw_okq (⟨"FourOnOneModel", "qAsksWord", "(I)V"⟩, 103) := ⟨⟨by decide +kernel, by decide +kernel⟩, List.mem_of_getElem? (i := 896) (by decide +kernel), List.mem_of_getElem? (i := 1362) (by decide +kernel), List.mem_of_getElem? (i := 1363) (by decide +kernel)⟩
theorem lw_p95 : lw_okq (⟨"FourOnOneModel", "qEndsPart", "()V"⟩, 103) := ⟨⟨by decide +kernel, by decide +kernel⟩, List.mem_of_getElem? (i := 896) (by decide +kernel), List.mem_of_getElem? (i := 1366) (by decide +kernel), List.mem_of_getElem? (i := 1367) (by decide +kernel)⟩
def lw_privs_6 : List (MethodName × Nat) := [(⟨"FourOnOneModel", "likesTold", "()V"⟩, 103), (⟨"FourOnOneModel", "pressTold", "()V"⟩, 103), (⟨"FourOnOneModel", "codesTold", "(II)V"⟩, 103), (⟨"FourOnOneModel", "qTest", "()V"⟩, 103), (⟨"FourOnOneModel", "qOpens", "(II)V"⟩, 103), (⟨"FourOnOneModel", "qFact", "()V"⟩, 103), (⟨"FourOnOneModel", "qCode", "(I)V"⟩, 103), (⟨"FourOnOneModel", "qSums", "()V"⟩, 103), (⟨"FourOnOneModel", "qPartTold", "()V"⟩, 103), (⟨"FourOnOneModel", "qWordOf", "(II)I"⟩, 103), (⟨"FourOnOneModel", "qWordHere", "()I"⟩, 103), (⟨"FourOnOneModel", "isAllowed", "(I)Z"⟩, 103), (⟨"FourOnOneModel", "asksSign", "(I)V"⟩, 103), (⟨"FourOnOneModel", "takesSign", "(I)Z"⟩, 103), (⟨"FourOnOneModel", "qAsksWord", "(I)V"⟩, 103), (⟨"FourOnOneModel", "qEndsPart", "()V"⟩, 103)]
theorem lw_r6 : ∀ q ∈ lw_privs_6, lw_okq q := List.forall_mem_cons.mpr ⟨lw_p80, List.forall_mem_cons.mpr ⟨lw_p81, List.forall_mem_cons.mpr ⟨lw_p82, List.forall_mem_cons.mpr ⟨lw_p83, List.forall_mem_cons.mpr ⟨lw_p84, List.forall_mem_cons.mpr ⟨lw_p85, List.forall_mem_cons.mpr ⟨lw_p86, List.forall_mem_cons.mpr ⟨lw_p87, List.forall_mem_cons.mpr ⟨lw_p88, List.forall_mem_cons.mpr ⟨lw_p89, List.forall_mem_cons.mpr ⟨lw_p90, List.forall_mem_cons.mpr ⟨lw_p91, List.forall_mem_cons.mpr ⟨lw_p92, List.forall_mem_cons.mpr ⟨lw_p93, List.forall_mem_cons.mpr ⟨lw_p94, List.forall_mem_cons.mpr ⟨lw_p95, fun _ h => absurd h List.not_mem_nil⟩⟩⟩⟩⟩⟩⟩⟩⟩⟩⟩⟩⟩⟩⟩⟩
theorem lw_p96 : lw_okq (⟨"FourOnOneModel", "qDrops", "()V"⟩, 103) := ⟨⟨by decide +kernel, by decide +kernel⟩, List.mem_of_getElem? (i := 896) (by decide +kernel), List.mem_of_getElem? (i := 1370) (by decide +kernel), List.mem_of_getElem? (i := 1371) (by decide +kernel)⟩
theorem lw_p97 : lw_okq (⟨"FourOnOneModel", "qGoesOn", "()Z"⟩, 103) := ⟨⟨by decide +kernel, by decide +kernel⟩, List.mem_of_getElem? (i := 896) (by decide +kernel), List.mem_of_getElem? (i := 1374) (by decide +kernel), List.mem_of_getElem? (i := 1375) (by decide +kernel)⟩
theorem lw_p98 : lw_okq (⟨"FourOnOneModel", "qBracket", "()I"⟩, 103) := ⟨⟨by decide +kernel, by decide +kernel⟩, List.mem_of_getElem? (i := 896) (by decide +kernel), List.mem_of_getElem? (i := 1378) (by decide +kernel), List.mem_of_getElem? (i := 1379) (by decide +kernel)⟩
theorem lw_p99 : lw_okq (⟨"FourOnOneModel", "qDropsToBracket", "()V"⟩, 103) := ⟨⟨by decide +kernel, by decide +kernel⟩, List.mem_of_getElem? (i := 896) (by decide +kernel), List.mem_of_getElem? (i := 1385) (by decide +kernel), List.mem_of_getElem? (i := 1386) (by decide +kernel)⟩
theorem lw_p100 : lw_okq (⟨"FourOnOneModel", "qIsOn", "(I)Z"⟩, 103) := ⟨⟨by decide +kernel, by decide +kernel⟩, List.mem_of_getElem? (i := 896) (by decide +kernel), List.mem_of_getElem? (i := 1389) (by decide +kernel), List.mem_of_getElem? (i := 1390) (by decide +kernel)⟩
theorem lw_p101 : lw_okq (⟨"FourOnOneModel", "qDropsNots", "()V"⟩, 103) := ⟨⟨by decide +kernel, by decide +kernel⟩, List.mem_of_getElem? (i := 896) (by decide +kernel), List.mem_of_getElem? (i := 1393) (by decide +kernel), List.mem_of_getElem? (i := 1394) (by decide +kernel)⟩
theorem lw_p102 : lw_okq (⟨"FourOnOneModel", "qGoesOnTest", "()Z"⟩, 103) := ⟨⟨by decide +kernel, by decide +kernel⟩, List.mem_of_getElem? (i := 896) (by decide +kernel), List.mem_of_getElem? (i := 1397) (by decide +kernel), List.mem_of_getElem? (i := 1398) (by decide +kernel)⟩
theorem lw_p103 : lw_okq (⟨"FourOnOneModel", "qHasSquare", "()Z"⟩, 103) := ⟨⟨by decide +kernel, by decide +kernel⟩, List.mem_of_getElem? (i := 896) (by decide +kernel), List.mem_of_getElem? (i := 1401) (by decide +kernel), List.mem_of_getElem? (i := 1402) (by decide +kernel)⟩
theorem lw_p104 : lw_okq (⟨"FourOnOneModel", "stands", "()V"⟩, 103) := ⟨⟨by decide +kernel, by decide +kernel⟩, List.mem_of_getElem? (i := 896) (by decide +kernel), List.mem_of_getElem? (i := 1405) (by decide +kernel), List.mem_of_getElem? (i := 1406) (by decide +kernel)⟩
theorem lw_p105 : lw_okq (⟨"FourOnOneModel", "pressAll", "(I)V"⟩, 103) := ⟨⟨by decide +kernel, by decide +kernel⟩, List.mem_of_getElem? (i := 896) (by decide +kernel), List.mem_of_getElem? (i := 1409) (by decide +kernel), List.mem_of_getElem? (i := 1410) (by decide +kernel)⟩
theorem lw_p106 : lw_okq (⟨"FourOnOneModel", "personMany", "()I"⟩, 103) := ⟨⟨by decide +kernel, by decide +kernel⟩, List.mem_of_getElem? (i := 896) (by decide +kernel), List.mem_of_getElem? (i := 1413) (by decide +kernel), List.mem_of_getElem? (i := 1414) (by decide +kernel)⟩
theorem lw_p107 : lw_okq (⟨"FourOnOneModel", "pressers", "()I"⟩, 103) := ⟨⟨by decide +kernel, by decide +kernel⟩, List.mem_of_getElem? (i := 896) (by decide +kernel), List.mem_of_getElem? (i := 1425) (by decide +kernel), List.mem_of_getElem? (i := 1426) (by decide +kernel)⟩
theorem lw_p108 : lw_okq (⟨"FourOnOneModel", "doesPress", "(I)Z"⟩, 103) := ⟨⟨by decide +kernel, by decide +kernel⟩, List.mem_of_getElem? (i := 896) (by decide +kernel), List.mem_of_getElem? (i := 1429) (by decide +kernel), List.mem_of_getElem? (i := 1430) (by decide +kernel)⟩
theorem lw_p109 : lw_okq (⟨"FourOnOneModel", "hoursAll", "()I"⟩, 103) := ⟨⟨by decide +kernel, by decide +kernel⟩, List.mem_of_getElem? (i := 896) (by decide +kernel), List.mem_of_getElem? (i := 1436) (by decide +kernel), List.mem_of_getElem? (i := 1437) (by decide +kernel)⟩
theorem lw_p110 : lw_okq (⟨"FourOnOneModel", "hoursOf", "(I)I"⟩, 103) := ⟨⟨by decide +kernel, by decide +kernel⟩, List.mem_of_getElem? (i := 896) (by decide +kernel), List.mem_of_getElem? (i := 1440) (by decide +kernel), List.mem_of_getElem? (i := 1441) (by decide +kernel)⟩
theorem lw_p111 : lw_okq (⟨"FourOnOneModel", "isFilm", "(I)Z"⟩, 103) := ⟨⟨by decide +kernel, by decide +kernel⟩, List.mem_of_getElem? (i := 896) (by decide +kernel), List.mem_of_getElem? (i := 1453) (by decide +kernel), List.mem_of_getElem? (i := 1454) (by decide +kernel)⟩
def lw_privs_7 : List (MethodName × Nat) := [(⟨"FourOnOneModel", "qDrops", "()V"⟩, 103), (⟨"FourOnOneModel", "qGoesOn", "()Z"⟩, 103), (⟨"FourOnOneModel", "qBracket", "()I"⟩, 103), (⟨"FourOnOneModel", "qDropsToBracket", "()V"⟩, 103), (⟨"FourOnOneModel", "qIsOn", "(I)Z"⟩, 103), (⟨"FourOnOneModel", "qDropsNots", "()V"⟩, 103), (⟨"FourOnOneModel", "qGoesOnTest", "()Z"⟩, 103), (⟨"FourOnOneModel", "qHasSquare", "()Z"⟩, 103), (⟨"FourOnOneModel", "stands", "()V"⟩, 103), (⟨"FourOnOneModel", "pressAll", "(I)V"⟩, 103), (⟨"FourOnOneModel", "personMany", "()I"⟩, 103), (⟨"FourOnOneModel", "pressers", "()I"⟩, 103), (⟨"FourOnOneModel", "doesPress", "(I)Z"⟩, 103), (⟨"FourOnOneModel", "hoursAll", "()I"⟩, 103), (⟨"FourOnOneModel", "hoursOf", "(I)I"⟩, 103), (⟨"FourOnOneModel", "isFilm", "(I)Z"⟩, 103)]
theorem lw_r7 : ∀ q ∈ lw_privs_7, lw_okq q := List.forall_mem_cons.mpr ⟨lw_p96, List.forall_mem_cons.mpr ⟨lw_p97, List.forall_mem_cons.mpr ⟨lw_p98, List.forall_mem_cons.mpr ⟨lw_p99, List.forall_mem_cons.mpr ⟨lw_p100, List.forall_mem_cons.mpr ⟨lw_p101, List.forall_mem_cons.mpr ⟨lw_p102, List.forall_mem_cons.mpr ⟨lw_p103, List.forall_mem_cons.mpr ⟨lw_p104, List.forall_mem_cons.mpr ⟨lw_p105, List.forall_mem_cons.mpr ⟨lw_p106, List.forall_mem_cons.mpr ⟨lw_p107, List.forall_mem_cons.mpr ⟨lw_p108, List.forall_mem_cons.mpr ⟨lw_p109, List.forall_mem_cons.mpr ⟨lw_p110, List.forall_mem_cons.mpr ⟨lw_p111, fun _ h => absurd h List.not_mem_nil⟩⟩⟩⟩⟩⟩⟩⟩⟩⟩⟩⟩⟩⟩⟩⟩
theorem lw_p112 : lw_okq (⟨"FourOnOneModel", "filmMany", "()I"⟩, 103) := ⟨⟨by decide +kernel, by decide +kernel⟩, List.mem_of_getElem? (i := 896) (by decide +kernel), List.mem_of_getElem? (i := 1457) (by decide +kernel), List.mem_of_getElem? (i := 1458) (by decide +kernel)⟩
theorem lw_p113 : lw_okq (⟨"FourOnOneModel", "isKind", "(I)Z"⟩, 103) := ⟨⟨by decide +kernel, by decide +kernel⟩, List.mem_of_getElem? (i := 896) (by decide +kernel), List.mem_of_getElem? (i := 1461) (by decide +kernel), List.mem_of_getElem? (i := 1462) (by decide +kernel)⟩
theorem lw_p114 : lw_okq (⟨"FourOnOneModel", "kindMany", "()I"⟩, 103) := ⟨⟨by decide +kernel, by decide +kernel⟩, List.mem_of_getElem? (i := 896) (by decide +kernel), List.mem_of_getElem? (i := 1465) (by decide +kernel), List.mem_of_getElem? (i := 1466) (by decide +kernel)⟩
theorem lw_p115 : lw_okq (⟨"FourOnOneModel", "weightOf", "(II)I"⟩, 103) := ⟨⟨by decide +kernel, by decide +kernel⟩, List.mem_of_getElem? (i := 896) (by decide +kernel), List.mem_of_getElem? (i := 1469) (by decide +kernel), List.mem_of_getElem? (i := 1470) (by decide +kernel)⟩
theorem lw_p116 : lw_okq (⟨"FourOnOneModel", "partsOf", "(I)I"⟩, 103) := ⟨⟨by decide +kernel, by decide +kernel⟩, List.mem_of_getElem? (i := 896) (by decide +kernel), List.mem_of_getElem? (i := 1473) (by decide +kernel), List.mem_of_getElem? (i := 1474) (by decide +kernel)⟩
theorem lw_p117 : lw_okq (⟨"FourOnOneModel", "isPerson", "(I)Z"⟩, 103) := ⟨⟨by decide +kernel, by decide +kernel⟩, List.mem_of_getElem? (i := 896) (by decide +kernel), List.mem_of_getElem? (i := 1481) (by decide +kernel), List.mem_of_getElem? (i := 1482) (by decide +kernel)⟩
theorem lw_p118 : lw_okq (⟨"FourOnOneModel", "likesOf", "(II)I"⟩, 103) := ⟨⟨by decide +kernel, by decide +kernel⟩, List.mem_of_getElem? (i := 896) (by decide +kernel), List.mem_of_getElem? (i := 1485) (by decide +kernel), List.mem_of_getElem? (i := 1486) (by decide +kernel)⟩
theorem lw_p119 : lw_okq (⟨"FourOnOneModel", "tasteAt", "(II)I"⟩, 103) := ⟨⟨by decide +kernel, by decide +kernel⟩, List.mem_of_getElem? (i := 896) (by decide +kernel), List.mem_of_getElem? (i := 1493) (by decide +kernel), List.mem_of_getElem? (i := 1494) (by decide +kernel)⟩
theorem lw_p120 : lw_okq (⟨"FourOnOneModel", "seenBy", "(II)I"⟩, 103) := ⟨⟨by decide +kernel, by decide +kernel⟩, List.mem_of_getElem? (i := 896) (by decide +kernel), List.mem_of_getElem? (i := 1501) (by decide +kernel), List.mem_of_getElem? (i := 1502) (by decide +kernel)⟩
theorem lw_p121 : lw_okq (⟨"FourOnOneModel", "seenAt", "(II)I"⟩, 103) := ⟨⟨by decide +kernel, by decide +kernel⟩, List.mem_of_getElem? (i := 896) (by decide +kernel), List.mem_of_getElem? (i := 1505) (by decide +kernel), List.mem_of_getElem? (i := 1506) (by decide +kernel)⟩
theorem lw_p122 : lw_okq (⟨"FourOnOneModel", "suggestedTo", "(I)I"⟩, 103) := ⟨⟨by decide +kernel, by decide +kernel⟩, List.mem_of_getElem? (i := 896) (by decide +kernel), List.mem_of_getElem? (i := 1513) (by decide +kernel), List.mem_of_getElem? (i := 1514) (by decide +kernel)⟩
theorem lw_p123 : lw_okq (⟨"FourOnOneModel", "profileOf", "(I)I"⟩, 103) := ⟨⟨by decide +kernel, by decide +kernel⟩, List.mem_of_getElem? (i := 896) (by decide +kernel), List.mem_of_getElem? (i := 1517) (by decide +kernel), List.mem_of_getElem? (i := 1518) (by decide +kernel)⟩
theorem lw_p124 : lw_okq (⟨"FourOnOneModel", "may", "(II)Z"⟩, 103) := ⟨⟨by decide +kernel, by decide +kernel⟩, List.mem_of_getElem? (i := 896) (by decide +kernel), List.mem_of_getElem? (i := 1521) (by decide +kernel), List.mem_of_getElem? (i := 1522) (by decide +kernel)⟩
theorem lw_p125 : lw_okq (⟨"FourOnOneModel", "codesTell", "(II)J"⟩, 103) := ⟨⟨by decide +kernel, by decide +kernel⟩, List.mem_of_getElem? (i := 896) (by decide +kernel), List.mem_of_getElem? (i := 1525) (by decide +kernel), List.mem_of_getElem? (i := 1526) (by decide +kernel)⟩
theorem lw_p126 : lw_okq (⟨"FourOnOneModel", "qPuts", "(J)V"⟩, 103) := ⟨⟨by decide +kernel, by decide +kernel⟩, List.mem_of_getElem? (i := 896) (by decide +kernel), List.mem_of_getElem? (i := 1529) (by decide +kernel), List.mem_of_getElem? (i := 1530) (by decide +kernel)⟩
theorem lw_p127 : lw_okq (⟨"FourOnOneModel", "qPartOf", "(II)J"⟩, 103) := ⟨⟨by decide +kernel, by decide +kernel⟩, List.mem_of_getElem? (i := 896) (by decide +kernel), List.mem_of_getElem? (i := 1533) (by decide +kernel), List.mem_of_getElem? (i := 1534) (by decide +kernel)⟩
def lw_privs_8 : List (MethodName × Nat) := [(⟨"FourOnOneModel", "filmMany", "()I"⟩, 103), (⟨"FourOnOneModel", "isKind", "(I)Z"⟩, 103), (⟨"FourOnOneModel", "kindMany", "()I"⟩, 103), (⟨"FourOnOneModel", "weightOf", "(II)I"⟩, 103), (⟨"FourOnOneModel", "partsOf", "(I)I"⟩, 103), (⟨"FourOnOneModel", "isPerson", "(I)Z"⟩, 103), (⟨"FourOnOneModel", "likesOf", "(II)I"⟩, 103), (⟨"FourOnOneModel", "tasteAt", "(II)I"⟩, 103), (⟨"FourOnOneModel", "seenBy", "(II)I"⟩, 103), (⟨"FourOnOneModel", "seenAt", "(II)I"⟩, 103), (⟨"FourOnOneModel", "suggestedTo", "(I)I"⟩, 103), (⟨"FourOnOneModel", "profileOf", "(I)I"⟩, 103), (⟨"FourOnOneModel", "may", "(II)Z"⟩, 103), (⟨"FourOnOneModel", "codesTell", "(II)J"⟩, 103), (⟨"FourOnOneModel", "qPuts", "(J)V"⟩, 103), (⟨"FourOnOneModel", "qPartOf", "(II)J"⟩, 103)]
theorem lw_r8 : ∀ q ∈ lw_privs_8, lw_okq q := List.forall_mem_cons.mpr ⟨lw_p112, List.forall_mem_cons.mpr ⟨lw_p113, List.forall_mem_cons.mpr ⟨lw_p114, List.forall_mem_cons.mpr ⟨lw_p115, List.forall_mem_cons.mpr ⟨lw_p116, List.forall_mem_cons.mpr ⟨lw_p117, List.forall_mem_cons.mpr ⟨lw_p118, List.forall_mem_cons.mpr ⟨lw_p119, List.forall_mem_cons.mpr ⟨lw_p120, List.forall_mem_cons.mpr ⟨lw_p121, List.forall_mem_cons.mpr ⟨lw_p122, List.forall_mem_cons.mpr ⟨lw_p123, List.forall_mem_cons.mpr ⟨lw_p124, List.forall_mem_cons.mpr ⟨lw_p125, List.forall_mem_cons.mpr ⟨lw_p126, List.forall_mem_cons.mpr ⟨lw_p127, fun _ h => absurd h List.not_mem_nil⟩⟩⟩⟩⟩⟩⟩⟩⟩⟩⟩⟩⟩⟩⟩⟩
theorem lw_p128 : lw_okq (⟨"FourOnOneModel", "scoreOf", "(II)I"⟩, 103) := ⟨⟨by decide +kernel, by decide +kernel⟩, List.mem_of_getElem? (i := 896) (by decide +kernel), List.mem_of_getElem? (i := 1537) (by decide +kernel), List.mem_of_getElem? (i := 1538) (by decide +kernel)⟩
theorem lw_p129 : lw_okq (⟨"FourOnOneModel", "worthOf", "(II)I"⟩, 103) := ⟨⟨by decide +kernel, by decide +kernel⟩, List.mem_of_getElem? (i := 896) (by decide +kernel), List.mem_of_getElem? (i := 1541) (by decide +kernel), List.mem_of_getElem? (i := 1542) (by decide +kernel)⟩
theorem lw_p130 : lw_okq (⟨"FourOnOneModel", "qJoins", "(I)V"⟩, 103) := ⟨⟨by decide +kernel, by decide +kernel⟩, List.mem_of_getElem? (i := 896) (by decide +kernel), List.mem_of_getElem? (i := 1545) (by decide +kernel), List.mem_of_getElem? (i := 1546) (by decide +kernel)⟩
theorem lw_p131 : lw_okq (⟨"FourOnOneModel", "isAhead", "(III)Z"⟩, 103) := ⟨⟨by decide +kernel, by decide +kernel⟩, List.mem_of_getElem? (i := 896) (by decide +kernel), List.mem_of_getElem? (i := 1569) (by decide +kernel), List.mem_of_getElem? (i := 1570) (by decide +kernel)⟩
theorem lw_p132 : lw_okq (⟨"FourOnOneModel", "putsAside", "()V"⟩, 103) := ⟨⟨by decide +kernel, by decide +kernel⟩, List.mem_of_getElem? (i := 896) (by decide +kernel), List.mem_of_getElem? (i := 1574) (by decide +kernel), List.mem_of_getElem? (i := 1575) (by decide +kernel)⟩
theorem lw_p133 : lw_okq (⟨"FourOnOneModel", "hoursGo", "(I)I"⟩, 103) := ⟨⟨by decide +kernel, by decide +kernel⟩, List.mem_of_getElem? (i := 896) (by decide +kernel), List.mem_of_getElem? (i := 1578) (by decide +kernel), List.mem_of_getElem? (i := 1579) (by decide +kernel)⟩
theorem lw_p134 : lw_okq (⟨"FourOnOneModel", "hourGoes", "()I"⟩, 103) := ⟨⟨by decide +kernel, by decide +kernel⟩, List.mem_of_getElem? (i := 896) (by decide +kernel), List.mem_of_getElem? (i := 1582) (by decide +kernel), List.mem_of_getElem? (i := 1583) (by decide +kernel)⟩
theorem lw_p135 : lw_okq (⟨"FourOnOneModel", "isFree", "(II)Z"⟩, 103) := ⟨⟨by decide +kernel, by decide +kernel⟩, List.mem_of_getElem? (i := 896) (by decide +kernel), List.mem_of_getElem? (i := 1586) (by decide +kernel), List.mem_of_getElem? (i := 1587) (by decide +kernel)⟩
theorem lw_p136 : lw_okq (⟨"FourOnOneModel", "pleasedBy", "(II)I"⟩, 103) := ⟨⟨by decide +kernel, by decide +kernel⟩, List.mem_of_getElem? (i := 896) (by decide +kernel), List.mem_of_getElem? (i := 1590) (by decide +kernel), List.mem_of_getElem? (i := 1591) (by decide +kernel)⟩
theorem lw_p137 : lw_okq (⟨"FourOnOneModel", "partSeen", "(II)V"⟩, 103) := ⟨⟨by decide +kernel, by decide +kernel⟩, List.mem_of_getElem? (i := 896) (by decide +kernel), List.mem_of_getElem? (i := 1594) (by decide +kernel), List.mem_of_getElem? (i := 1595) (by decide +kernel)⟩
theorem lw_p138 : lw_okq (⟨"FourOnOneModel", "hasSeen", "(I)V"⟩, 103) := ⟨⟨by decide +kernel, by decide +kernel⟩, List.mem_of_getElem? (i := 896) (by decide +kernel), List.mem_of_getElem? (i := 1602) (by decide +kernel), List.mem_of_getElem? (i := 1603) (by decide +kernel)⟩
theorem lw_p139 : lw_okq (⟨"FourOnOneModel", "isKept", "(II)V"⟩, 103) := ⟨⟨by decide +kernel, by decide +kernel⟩, List.mem_of_getElem? (i := 896) (by decide +kernel), List.mem_of_getElem? (i := 1606) (by decide +kernel), List.mem_of_getElem? (i := 1607) (by decide +kernel)⟩
theorem lw_p140 : lw_okq (⟨"FourOnOneModel", "fade", "()V"⟩, 103) := ⟨⟨by decide +kernel, by decide +kernel⟩, List.mem_of_getElem? (i := 896) (by decide +kernel), List.mem_of_getElem? (i := 1610) (by decide +kernel), List.mem_of_getElem? (i := 1611) (by decide +kernel)⟩
theorem lw_p141 : lw_okq (⟨"FourOnOneModel", "takesBack", "()V"⟩, 103) := ⟨⟨by decide +kernel, by decide +kernel⟩, List.mem_of_getElem? (i := 896) (by decide +kernel), List.mem_of_getElem? (i := 1614) (by decide +kernel), List.mem_of_getElem? (i := 1615) (by decide +kernel)⟩
theorem lw_p142 : lw_okq (⟨"FourOnOneModel", "triesAnew", "()V"⟩, 103) := ⟨⟨by decide +kernel, by decide +kernel⟩, List.mem_of_getElem? (i := 896) (by decide +kernel), List.mem_of_getElem? (i := 1618) (by decide +kernel), List.mem_of_getElem? (i := 1619) (by decide +kernel)⟩
theorem lw_p143 : lw_okq (⟨"FourOnOneModel", "pleasureBy", "(III)J"⟩, 103) := ⟨⟨by decide +kernel, by decide +kernel⟩, List.mem_of_getElem? (i := 896) (by decide +kernel), List.mem_of_getElem? (i := 1630) (by decide +kernel), List.mem_of_getElem? (i := 1631) (by decide +kernel)⟩
def lw_privs_9 : List (MethodName × Nat) := [(⟨"FourOnOneModel", "scoreOf", "(II)I"⟩, 103), (⟨"FourOnOneModel", "worthOf", "(II)I"⟩, 103), (⟨"FourOnOneModel", "qJoins", "(I)V"⟩, 103), (⟨"FourOnOneModel", "isAhead", "(III)Z"⟩, 103), (⟨"FourOnOneModel", "putsAside", "()V"⟩, 103), (⟨"FourOnOneModel", "hoursGo", "(I)I"⟩, 103), (⟨"FourOnOneModel", "hourGoes", "()I"⟩, 103), (⟨"FourOnOneModel", "isFree", "(II)Z"⟩, 103), (⟨"FourOnOneModel", "pleasedBy", "(II)I"⟩, 103), (⟨"FourOnOneModel", "partSeen", "(II)V"⟩, 103), (⟨"FourOnOneModel", "hasSeen", "(I)V"⟩, 103), (⟨"FourOnOneModel", "isKept", "(II)V"⟩, 103), (⟨"FourOnOneModel", "fade", "()V"⟩, 103), (⟨"FourOnOneModel", "takesBack", "()V"⟩, 103), (⟨"FourOnOneModel", "triesAnew", "()V"⟩, 103), (⟨"FourOnOneModel", "pleasureBy", "(III)J"⟩, 103)]
theorem lw_r9 : ∀ q ∈ lw_privs_9, lw_okq q := List.forall_mem_cons.mpr ⟨lw_p128, List.forall_mem_cons.mpr ⟨lw_p129, List.forall_mem_cons.mpr ⟨lw_p130, List.forall_mem_cons.mpr ⟨lw_p131, List.forall_mem_cons.mpr ⟨lw_p132, List.forall_mem_cons.mpr ⟨lw_p133, List.forall_mem_cons.mpr ⟨lw_p134, List.forall_mem_cons.mpr ⟨lw_p135, List.forall_mem_cons.mpr ⟨lw_p136, List.forall_mem_cons.mpr ⟨lw_p137, List.forall_mem_cons.mpr ⟨lw_p138, List.forall_mem_cons.mpr ⟨lw_p139, List.forall_mem_cons.mpr ⟨lw_p140, List.forall_mem_cons.mpr ⟨lw_p141, List.forall_mem_cons.mpr ⟨lw_p142, List.forall_mem_cons.mpr ⟨lw_p143, fun _ h => absurd h List.not_mem_nil⟩⟩⟩⟩⟩⟩⟩⟩⟩⟩⟩⟩⟩⟩⟩⟩
theorem lw_p144 : lw_okq (⟨"FourOnOneModel", "isRest", "(I)Z"⟩, 103) := ⟨⟨by decide +kernel, by decide +kernel⟩, List.mem_of_getElem? (i := 896) (by decide +kernel), List.mem_of_getElem? (i := 1638) (by decide +kernel), List.mem_of_getElem? (i := 1639) (by decide +kernel)⟩
theorem lw_p145 : lw_okq (⟨"FourOnOneModel", "byRule", "(III)I"⟩, 103) := ⟨⟨by decide +kernel, by decide +kernel⟩, List.mem_of_getElem? (i := 896) (by decide +kernel), List.mem_of_getElem? (i := 1659) (by decide +kernel), List.mem_of_getElem? (i := 1660) (by decide +kernel)⟩
theorem lw_p146 : lw_okq (⟨"FourOnOneModel", "firstOf", "(I)I"⟩, 103) := ⟨⟨by decide +kernel, by decide +kernel⟩, List.mem_of_getElem? (i := 896) (by decide +kernel), List.mem_of_getElem? (i := 1663) (by decide +kernel), List.mem_of_getElem? (i := 1664) (by decide +kernel)⟩
theorem lw_p147 : lw_okq (⟨"FourOnOneModel", "lastHour", "()I"⟩, 103) := ⟨⟨by decide +kernel, by decide +kernel⟩, List.mem_of_getElem? (i := 896) (by decide +kernel), List.mem_of_getElem? (i := 1679) (by decide +kernel), List.mem_of_getElem? (i := 1680) (by decide +kernel)⟩
theorem lw_p148 : lw_okq (⟨"FourOnOneModel", "isAsTold", "(I)Z"⟩, 103) := ⟨⟨by decide +kernel, by decide +kernel⟩, List.mem_of_getElem? (i := 896) (by decide +kernel), List.mem_of_getElem? (i := 1683) (by decide +kernel), List.mem_of_getElem? (i := 1684) (by decide +kernel)⟩
theorem lw_p149 : lw_okq (⟨"FourOnOneModel", "isSeenNow", "(I)Z"⟩, 103) := ⟨⟨by decide +kernel, by decide +kernel⟩, List.mem_of_getElem? (i := 896) (by decide +kernel), List.mem_of_getElem? (i := 1687) (by decide +kernel), List.mem_of_getElem? (i := 1688) (by decide +kernel)⟩
theorem lw_p150 : lw_okq (⟨"FourOnOneModel", "keeps", "()V"⟩, 103) := ⟨⟨by decide +kernel, by decide +kernel⟩, List.mem_of_getElem? (i := 896) (by decide +kernel), List.mem_of_getElem? (i := 1699) (by decide +kernel), List.mem_of_getElem? (i := 1700) (by decide +kernel)⟩
theorem lw_p151 : lw_okq (⟨"FourOnOneModel", "refuses", "(I)I"⟩, 103) := ⟨⟨by decide +kernel, by decide +kernel⟩, List.mem_of_getElem? (i := 896) (by decide +kernel), List.mem_of_getElem? (i := 1711) (by decide +kernel), List.mem_of_getElem? (i := 1712) (by decide +kernel)⟩
theorem lw_p152 : lw_okq (⟨"FourOnOneModel", "isStranger", "()Z"⟩, 103) := ⟨⟨by decide +kernel, by decide +kernel⟩, List.mem_of_getElem? (i := 896) (by decide +kernel), List.mem_of_getElem? (i := 1723) (by decide +kernel), List.mem_of_getElem? (i := 1724) (by decide +kernel)⟩
theorem lw_p153 : lw_okq (⟨"FourOnOneModel", "drawOf", "(I)I"⟩, 103) := ⟨⟨by decide +kernel, by decide +kernel⟩, List.mem_of_getElem? (i := 896) (by decide +kernel), List.mem_of_getElem? (i := 1727) (by decide +kernel), List.mem_of_getElem? (i := 1728) (by decide +kernel)⟩
theorem lw_p154 : lw_okq (⟨"FourOnOneModel", "qKind", "()I"⟩, 103) := ⟨⟨by decide +kernel, by decide +kernel⟩, List.mem_of_getElem? (i := 896) (by decide +kernel), List.mem_of_getElem? (i := 1739) (by decide +kernel), List.mem_of_getElem? (i := 1740) (by decide +kernel)⟩
theorem lw_p155 : lw_okq (⟨"FourOnOneModel", "qTold", "(I)J"⟩, 103) := ⟨⟨by decide +kernel, by decide +kernel⟩, List.mem_of_getElem? (i := 896) (by decide +kernel), List.mem_of_getElem? (i := 1744) (by decide +kernel), List.mem_of_getElem? (i := 1745) (by decide +kernel)⟩
theorem lw_p156 : lw_okq (⟨"FourOnOneModel", "qOf", "(IJI)J"⟩, 103) := ⟨⟨by decide +kernel, by decide +kernel⟩, List.mem_of_getElem? (i := 896) (by decide +kernel), List.mem_of_getElem? (i := 1748) (by decide +kernel), List.mem_of_getElem? (i := 1749) (by decide +kernel)⟩
theorem lw_p157 : lw_okq (⟨"FourOnOneModel", "qTakes", "(IJI)V"⟩, 103) := ⟨⟨by decide +kernel, by decide +kernel⟩, List.mem_of_getElem? (i := 896) (by decide +kernel), List.mem_of_getElem? (i := 1752) (by decide +kernel), List.mem_of_getElem? (i := 1753) (by decide +kernel)⟩
theorem lw_p158 : lw_okq (⟨"FourOnOneModel", "writesTwo", "(I)V"⟩, 103) := ⟨⟨by decide +kernel, by decide +kernel⟩, List.mem_of_getElem? (i := 896) (by decide +kernel), List.mem_of_getElem? (i := 1760) (by decide +kernel), List.mem_of_getElem? (i := 1761) (by decide +kernel)⟩
theorem lw_p159 : lw_okq (⟨"FourOnOneModel", "writes", "(I)V"⟩, 103) := ⟨⟨by decide +kernel, by decide +kernel⟩, List.mem_of_getElem? (i := 896) (by decide +kernel), List.mem_of_getElem? (i := 1764) (by decide +kernel), List.mem_of_getElem? (i := 1765) (by decide +kernel)⟩
def lw_privs_10 : List (MethodName × Nat) := [(⟨"FourOnOneModel", "isRest", "(I)Z"⟩, 103), (⟨"FourOnOneModel", "byRule", "(III)I"⟩, 103), (⟨"FourOnOneModel", "firstOf", "(I)I"⟩, 103), (⟨"FourOnOneModel", "lastHour", "()I"⟩, 103), (⟨"FourOnOneModel", "isAsTold", "(I)Z"⟩, 103), (⟨"FourOnOneModel", "isSeenNow", "(I)Z"⟩, 103), (⟨"FourOnOneModel", "keeps", "()V"⟩, 103), (⟨"FourOnOneModel", "refuses", "(I)I"⟩, 103), (⟨"FourOnOneModel", "isStranger", "()Z"⟩, 103), (⟨"FourOnOneModel", "drawOf", "(I)I"⟩, 103), (⟨"FourOnOneModel", "qKind", "()I"⟩, 103), (⟨"FourOnOneModel", "qTold", "(I)J"⟩, 103), (⟨"FourOnOneModel", "qOf", "(IJI)J"⟩, 103), (⟨"FourOnOneModel", "qTakes", "(IJI)V"⟩, 103), (⟨"FourOnOneModel", "writesTwo", "(I)V"⟩, 103), (⟨"FourOnOneModel", "writes", "(I)V"⟩, 103)]
theorem lw_r10 : ∀ q ∈ lw_privs_10, lw_okq q := List.forall_mem_cons.mpr ⟨lw_p144, List.forall_mem_cons.mpr ⟨lw_p145, List.forall_mem_cons.mpr ⟨lw_p146, List.forall_mem_cons.mpr ⟨lw_p147, List.forall_mem_cons.mpr ⟨lw_p148, List.forall_mem_cons.mpr ⟨lw_p149, List.forall_mem_cons.mpr ⟨lw_p150, List.forall_mem_cons.mpr ⟨lw_p151, List.forall_mem_cons.mpr ⟨lw_p152, List.forall_mem_cons.mpr ⟨lw_p153, List.forall_mem_cons.mpr ⟨lw_p154, List.forall_mem_cons.mpr ⟨lw_p155, List.forall_mem_cons.mpr ⟨lw_p156, List.forall_mem_cons.mpr ⟨lw_p157, List.forall_mem_cons.mpr ⟨lw_p158, List.forall_mem_cons.mpr ⟨lw_p159, fun _ h => absurd h List.not_mem_nil⟩⟩⟩⟩⟩⟩⟩⟩⟩⟩⟩⟩⟩⟩⟩⟩
theorem lw_p160 : lw_okq (⟨"FourOnOneModel", "isImage", "(I)Z"⟩, 103) := ⟨⟨by decide +kernel, by decide +kernel⟩, List.mem_of_getElem? (i := 896) (by decide +kernel), List.mem_of_getElem? (i := 1779) (by decide +kernel), List.mem_of_getElem? (i := 1780) (by decide +kernel)⟩
theorem lw_p161 : lw_okq (⟨"FourOnOneModel", "profileFrom", "(I)I"⟩, 103) := ⟨⟨by decide +kernel, by decide +kernel⟩, List.mem_of_getElem? (i := 896) (by decide +kernel), List.mem_of_getElem? (i := 1783) (by decide +kernel), List.mem_of_getElem? (i := 1784) (by decide +kernel)⟩
theorem lw_p162 : lw_okq (⟨"FourOnOneModel", "twoAt", "(I)I"⟩, 103) := ⟨⟨by decide +kernel, by decide +kernel⟩, List.mem_of_getElem? (i := 896) (by decide +kernel), List.mem_of_getElem? (i := 1787) (by decide +kernel), List.mem_of_getElem? (i := 1788) (by decide +kernel)⟩
theorem lw_p163 : lw_okq (⟨"FourOnOneModel", "isProfileTold", "(I)Z"⟩, 103) := ⟨⟨by decide +kernel, by decide +kernel⟩, List.mem_of_getElem? (i := 896) (by decide +kernel), List.mem_of_getElem? (i := 1791) (by decide +kernel), List.mem_of_getElem? (i := 1792) (by decide +kernel)⟩
def lw_privs_11 : List (MethodName × Nat) := [(⟨"FourOnOneModel", "isImage", "(I)Z"⟩, 103), (⟨"FourOnOneModel", "profileFrom", "(I)I"⟩, 103), (⟨"FourOnOneModel", "twoAt", "(I)I"⟩, 103), (⟨"FourOnOneModel", "isProfileTold", "(I)Z"⟩, 103)]
theorem lw_r11 : ∀ q ∈ lw_privs_11, lw_okq q := List.forall_mem_cons.mpr ⟨lw_p160, List.forall_mem_cons.mpr ⟨lw_p161, List.forall_mem_cons.mpr ⟨lw_p162, List.forall_mem_cons.mpr ⟨lw_p163, fun _ h => absurd h List.not_mem_nil⟩⟩⟩⟩
def lw_privs : List (MethodName × Nat) := lw_privs_1 ++ (lw_privs_2 ++ (lw_privs_3 ++ (lw_privs_4 ++ (lw_privs_5 ++ (lw_privs_6 ++ (lw_privs_7 ++ (lw_privs_8 ++ (lw_privs_9 ++ (lw_privs_10 ++ (lw_privs_11))))))))))
def lw_tbl : List Cond := k2_sels lw_privs ++ tables_1
theorem lw_privs_ok : ∀ q ∈ lw_privs, lw_okq q := by
  show ∀ q ∈ lw_privs_1 ++ (lw_privs_2 ++ (lw_privs_3 ++ (lw_privs_4 ++ (lw_privs_5 ++ (lw_privs_6 ++ (lw_privs_7 ++ (lw_privs_8 ++ (lw_privs_9 ++ (lw_privs_10 ++ (lw_privs_11)))))))))), lw_okq q
  exact List.forall_mem_append.mpr ⟨lw_r1, List.forall_mem_append.mpr ⟨lw_r2, List.forall_mem_append.mpr ⟨lw_r3, List.forall_mem_append.mpr ⟨lw_r4, List.forall_mem_append.mpr ⟨lw_r5, List.forall_mem_append.mpr ⟨lw_r6, List.forall_mem_append.mpr ⟨lw_r7, List.forall_mem_append.mpr ⟨lw_r8, List.forall_mem_append.mpr ⟨lw_r9, List.forall_mem_append.mpr ⟨lw_r10, lw_r11⟩⟩⟩⟩⟩⟩⟩⟩⟩⟩
-- ===== end of PART A; then your names; then what follows =====
/-! ===== BEGIN printed: names, fields, word lists, decode rows ===== -/
def RX0 : String := "FourOnOne$Account"
def TX0 : u_T := fun k => match k with
  | 0 => ("FourOnOne$Account", "time", "I", false)
  | 1 => ("FourOnOne$Account", "presses", "I", false)
  | 2 => ("FourOnOne$Account", "taste", "[I", true)
  | 3 => ("FourOnOne$Account", "seen", "[I", true)
  | 4 => ("FourOnOne$Account", "saw", "[I", true)
  | 5 => ("FourOnOne$Account", "kept", "[I", true)
  | _ => ("FourOnOne$Account", "keptEver", "I", false)
def tyX0 : Nat → FieldType := fun k => match k with
  | 0 => .int
  | 1 => .int
  | 2 => .array .int
  | 3 => .array .int
  | 4 => .array .int
  | 5 => .array .int
  | _ => .int
abbrev wsX00 : List Cond := u_ws RX0 TX0 7
theorem nmX0 : ∀ a, a < 7 → ∀ b, b < 7 → a ≠ b → (TX0 a).2.1 ≠ (TX0 b).2.1 := by decide +kernel
theorem tyX0_ok : ∀ k, k < 7 → parseFieldDescriptor (TX0 k).2.2.1 = some (tyX0 k) := by decide +kernel
abbrev cX0_init : ByteArray := prog_2_method_1_code
def yX0_init : MethodName := ⟨RX0, "<init>", "()V"⟩
abbrev cX0_clear : ByteArray := prog_2_method_2_code
def yX0_clear : MethodName := ⟨RX0, "clear", "()V"⟩
abbrev cX0_copyFrom : ByteArray := prog_2_method_3_code
def yX0_copyFrom : MethodName := ⟨RX0, "copyFrom", "(LFourOnOne$Account;)V"⟩
abbrev cX0_profileOf : ByteArray := prog_2_method_4_code
def yX0_profileOf : MethodName := ⟨RX0, "profileOf", "(I)I"⟩
abbrev cX0_keptCount : ByteArray := prog_2_method_5_code
def yX0_keptCount : MethodName := ⟨RX0, "keptCount", "()I"⟩
abbrev cX0_keptRow : ByteArray := prog_2_method_6_code
def yX0_keptRow : MethodName := ⟨RX0, "keptRow", "(I)I"⟩
abbrev cX0_keep : ByteArray := prog_2_method_7_code
def yX0_keep : MethodName := ⟨RX0, "keep", "(II)V"⟩
def RX1 : String := "FourOnOne$Course"
def TX1 : u_T := fun k => match k with
  | 0 => ("FourOnOne$Course", "house", "LFourOnOne$House;", false)
  | 1 => ("FourOnOne$Course", "account", "LFourOnOne$Account;", true)
  | 2 => ("FourOnOne$Course", "pleased", "[I", true)
  | 3 => ("FourOnOne$Course", "refused", "[I", true)
  | 4 => ("FourOnOne$Course", "filmsSeen", "I", false)
  | _ => ("FourOnOne$Course", "machine", "LFourOnOne$Machine;", true)
def tyX1 : Nat → FieldType := fun k => match k with
  | 0 => .object "FourOnOne$House"
  | 1 => .object "FourOnOne$Account"
  | 2 => .array .int
  | 3 => .array .int
  | 4 => .int
  | _ => .object "FourOnOne$Machine"
abbrev wsX10 : List Cond := u_ws RX1 TX1 6
theorem nmX1 : ∀ a, a < 6 → ∀ b, b < 6 → a ≠ b → (TX1 a).2.1 ≠ (TX1 b).2.1 := by decide +kernel
theorem tyX1_ok : ∀ k, k < 6 → parseFieldDescriptor (TX1 k).2.2.1 = some (tyX1 k) := by decide +kernel
abbrev cX1_init : ByteArray := prog_3_method_1_code
def yX1_init : MethodName := ⟨RX1, "<init>", "(LFourOnOne$House;)V"⟩
abbrev cX1_begin : ByteArray := prog_3_method_2_code
def yX1_begin : MethodName := ⟨RX1, "begin", "(LFourOnOne$Course;I)V"⟩
abbrev cX1_passHour : ByteArray := prog_3_method_3_code
def yX1_passHour : MethodName := ⟨RX1, "passHour", "()I"⟩
abbrev cX1_suggested : ByteArray := prog_3_method_4_code
def yX1_suggested : MethodName := ⟨RX1, "suggested", "(I)I"⟩
abbrev cX1_hasPartFor : ByteArray := prog_3_method_5_code
def yX1_hasPartFor : MethodName := ⟨RX1, "hasPartFor", "(II)Z"⟩
abbrev cX1_watch : ByteArray := prog_3_method_6_code
def yX1_watch : MethodName := ⟨RX1, "watch", "(II)I"⟩
abbrev cX1_seePart : ByteArray := prog_3_method_7_code
def yX1_seePart : MethodName := ⟨RX1, "seePart", "(III)V"⟩
abbrev cX1_valueFor : ByteArray := prog_3_method_8_code
def yX1_valueFor : MethodName := ⟨RX1, "valueFor", "([III)I"⟩
abbrev cX1_scoreOf : ByteArray := prog_3_method_9_code
def yX1_scoreOf : MethodName := ⟨RX1, "scoreOf", "(II)I"⟩
abbrev cX1_setFilmFacts : ByteArray := prog_3_method_10_code
def yX1_setFilmFacts : MethodName := ⟨RX1, "setFilmFacts", "(III)V"⟩
abbrev cX1_mayBe : ByteArray := prog_3_method_11_code
def yX1_mayBe : MethodName := ⟨RX1, "mayBe", "(III)Z"⟩
abbrev cX1_fadeAll : ByteArray := prog_3_method_12_code
def yX1_fadeAll : MethodName := ⟨RX1, "fadeAll", "(I)V"⟩
abbrev cX1_heldTaste : ByteArray := prog_3_method_13_code
def yX1_heldTaste : MethodName := ⟨RX1, "heldTaste", "(I)I"⟩
def RX2 : String := "FourOnOne$House"
def TX2 : u_T := fun k => match k with
  | 0 => ("FourOnOne$House", "counts", "[I", true)
  | 1 => ("FourOnOne$House", "names", "[[I", true)
  | 2 => ("FourOnOne$House", "parts", "[I", true)
  | 3 => ("FourOnOne$House", "weights", "[[I", true)
  | 4 => ("FourOnOne$House", "firstHour", "[I", true)
  | 5 => ("FourOnOne$House", "lastHour", "[I", true)
  | 6 => ("FourOnOne$House", "likes", "[[I", true)
  | 7 => ("FourOnOne$House", "presses", "I", false)
  | 8 => ("FourOnOne$House", "screens", "I", false)
  | 9 => ("FourOnOne$House", "price", "I", false)
  | 10 => ("FourOnOne$House", "bother", "I", false)
  | 11 => ("FourOnOne$House", "strange", "I", false)
  | 12 => ("FourOnOne$House", "learns", "I", false)
  | 13 => ("FourOnOne$House", "fades", "I", false)
  | 14 => ("FourOnOne$House", "may", "I", false)
  | _ => ("FourOnOne$House", "steps", "[I", true)
def tyX2 : Nat → FieldType := fun k => match k with
  | 0 => .array .int
  | 1 => .array (.array .int)
  | 2 => .array .int
  | 3 => .array (.array .int)
  | 4 => .array .int
  | 5 => .array .int
  | 6 => .array (.array .int)
  | 7 => .int
  | 8 => .int
  | 9 => .int
  | 10 => .int
  | 11 => .int
  | 12 => .int
  | 13 => .int
  | 14 => .int
  | _ => .array .int
abbrev wsX20 : List Cond := u_ws RX2 TX2 16
theorem nmX2 : ∀ a, a < 16 → ∀ b, b < 16 → a ≠ b → (TX2 a).2.1 ≠ (TX2 b).2.1 := by decide +kernel
theorem tyX2_ok : ∀ k, k < 16 → parseFieldDescriptor (TX2 k).2.2.1 = some (tyX2 k) := by decide +kernel
abbrev cX2_init : ByteArray := prog_4_method_1_code
def yX2_init : MethodName := ⟨RX2, "<init>", "()V"⟩
abbrev cX2_clear : ByteArray := prog_4_method_2_code
def yX2_clear : MethodName := ⟨RX2, "clear", "()V"⟩
abbrev cX2_find : ByteArray := prog_4_method_3_code
def yX2_find : MethodName := ⟨RX2, "find", "(II)I"⟩
abbrev cX2_isFree : ByteArray := prog_4_method_4_code
def yX2_isFree : MethodName := ⟨RX2, "isFree", "(II)Z"⟩
abbrev cX2_worthOf : ByteArray := prog_4_method_5_code
def yX2_worthOf : MethodName := ⟨RX2, "worthOf", "(II)I"⟩
abbrev cX2_filmOfMostWorth : ByteArray := prog_4_method_6_code
def yX2_filmOfMostWorth : MethodName := ⟨RX2, "filmOfMostWorth", "(I)I"⟩
def RX3 : String := "FourOnOne$Machine"
def TX3 : u_T := fun k => match k with
  | 0 => ("FourOnOne$Machine", "stack", "[I", true)
  | 1 => ("FourOnOne$Machine", "facts", "[I", true)
  | _ => ("FourOnOne$Machine", "weights", "[I", true)
def tyX3 : Nat → FieldType := fun k => match k with
  | 0 => .array .int
  | 1 => .array .int
  | _ => .array .int
abbrev wsX30 : List Cond := u_ws RX3 TX3 3
theorem nmX3 : ∀ a, a < 3 → ∀ b, b < 3 → a ≠ b → (TX3 a).2.1 ≠ (TX3 b).2.1 := by decide +kernel
theorem tyX3_ok : ∀ k, k < 3 → parseFieldDescriptor (TX3 k).2.2.1 = some (tyX3 k) := by decide +kernel
abbrev cX3_init : ByteArray := prog_5_method_1_code
def yX3_init : MethodName := ⟨RX3, "<init>", "()V"⟩
abbrev cX3_value : ByteArray := prog_5_method_2_code
def yX3_value : MethodName := ⟨RX3, "value", "([II)I"⟩
abbrev cX3_given : ByteArray := prog_5_method_3_code
def yX3_given : MethodName := ⟨RX3, "given", "(I)I"⟩
abbrev cX3_weightOf : ByteArray := prog_5_method_4_code
def yX3_weightOf : MethodName := ⟨RX3, "weightOf", "(I)I"⟩
abbrev cX3_joined : ByteArray := prog_5_method_5_code
def yX3_joined : MethodName := ⟨RX3, "joined", "(IJJ)I"⟩
def RX4 : String := "FourOnOne$Reader"
def TX4 : u_T := fun k => match k with
  | 0 => ("FourOnOne$Reader", "fault", "I", false)
  | 1 => ("FourOnOne$Reader", "place", "I", false)
  | 2 => ("FourOnOne$Reader", "house", "LFourOnOne$House;", false)
  | 3 => ("FourOnOne$Reader", "asked", "I", false)
  | 4 => ("FourOnOne$Reader", "question", "[I", true)
  | 5 => ("FourOnOne$Reader", "text", "[I", true)
  | 6 => ("FourOnOne$Reader", "length", "I", false)
  | 7 => ("FourOnOne$Reader", "words", "[J", true)
  | 8 => ("FourOnOne$Reader", "token", "I", false)
  | 9 => ("FourOnOne$Reader", "from", "I", false)
  | 10 => ("FourOnOne$Reader", "to", "I", false)
  | 11 => ("FourOnOne$Reader", "letters", "J", false)
  | 12 => ("FourOnOne$Reader", "word", "I", false)
  | 13 => ("FourOnOne$Reader", "formula", "I", false)
  | 14 => ("FourOnOne$Reader", "steps", "[I", false)
  | 15 => ("FourOnOne$Reader", "stepCount", "I", false)
  | _ => ("FourOnOne$Reader", "open", "I", false)
def tyX4 : Nat → FieldType := fun k => match k with
  | 0 => .int
  | 1 => .int
  | 2 => .object "FourOnOne$House"
  | 3 => .int
  | 4 => .array .int
  | 5 => .array .int
  | 6 => .int
  | 7 => .array .long
  | 8 => .int
  | 9 => .int
  | 10 => .int
  | 11 => .long
  | 12 => .int
  | 13 => .int
  | 14 => .array .int
  | 15 => .int
  | _ => .int
abbrev wsX40 : List Cond := u_ws RX4 TX4 17
theorem nmX4 : ∀ a, a < 17 → ∀ b, b < 17 → a ≠ b → (TX4 a).2.1 ≠ (TX4 b).2.1 := by decide +kernel
theorem tyX4_ok : ∀ k, k < 17 → parseFieldDescriptor (TX4 k).2.2.1 = some (tyX4 k) := by decide +kernel
abbrev cX4_init : ByteArray := prog_6_method_1_code
def yX4_init : MethodName := ⟨RX4, "<init>", "()V"⟩
abbrev cX4_readHouse : ByteArray := prog_6_method_2_code
def yX4_readHouse : MethodName := ⟨RX4, "readHouse", "(I)I"⟩
abbrev cX4_readQuestion : ByteArray := prog_6_method_3_code
def yX4_readQuestion : MethodName := ⟨RX4, "readQuestion", "(I)Z"⟩
abbrev cX4_begin : ByteArray := prog_6_method_4_code
def yX4_begin : MethodName := ⟨RX4, "begin", "(I[I)V"⟩
abbrev cX4_fail : ByteArray := prog_6_method_5_code
def yX4_fail : MethodName := ⟨RX4, "fail", "(II)V"⟩
abbrev cX4_next : ByteArray := prog_6_method_6_code
def yX4_next : MethodName := ⟨RX4, "next", "()V"⟩
abbrev cX4_knowWord : ByteArray := prog_6_method_7_code
def yX4_knowWord : MethodName := ⟨RX4, "knowWord", "()V"⟩
abbrev cX4_isWord : ByteArray := prog_6_method_8_code
def yX4_isWord : MethodName := ⟨RX4, "isWord", "(I)Z"⟩
abbrev cX4_isSign : ByteArray := prog_6_method_9_code
def yX4_isSign : MethodName := ⟨RX4, "isSign", "(C)Z"⟩
abbrev cX4_takeWord : ByteArray := prog_6_method_10_code
def yX4_takeWord : MethodName := ⟨RX4, "takeWord", "(I)V"⟩
abbrev cX4_takeSign : ByteArray := prog_6_method_11_code
def yX4_takeSign : MethodName := ⟨RX4, "takeSign", "(C)V"⟩
abbrev cX4_takeNumber : ByteArray := prog_6_method_12_code
def yX4_takeNumber : MethodName := ⟨RX4, "takeNumber", "(II)I"⟩
abbrev cX4_nameHere : ByteArray := prog_6_method_13_code
def yX4_nameHere : MethodName := ⟨RX4, "nameHere", "()I"⟩
abbrev cX4_readStatement : ByteArray := prog_6_method_14_code
def yX4_readStatement : MethodName := ⟨RX4, "readStatement", "()V"⟩
abbrev cX4_takeNewName : ByteArray := prog_6_method_15_code
def yX4_takeNewName : MethodName := ⟨RX4, "takeNewName", "(II)I"⟩
abbrev cX4_takeKnownName : ByteArray := prog_6_method_16_code
def yX4_takeKnownName : MethodName := ⟨RX4, "takeKnownName", "(I)I"⟩
abbrev cX4_readFilm : ByteArray := prog_6_method_17_code
def yX4_readFilm : MethodName := ⟨RX4, "readFilm", "()V"⟩
abbrev cX4_readPerson : ByteArray := prog_6_method_18_code
def yX4_readPerson : MethodName := ⟨RX4, "readPerson", "()V"⟩
abbrev cX4_readLikes : ByteArray := prog_6_method_19_code
def yX4_readLikes : MethodName := ⟨RX4, "readLikes", "()V"⟩
abbrev cX4_readPress : ByteArray := prog_6_method_20_code
def yX4_readPress : MethodName := ⟨RX4, "readPress", "()V"⟩
abbrev cX4_beginFormula : ByteArray := prog_6_method_21_code
def yX4_beginFormula : MethodName := ⟨RX4, "beginFormula", "(II)I"⟩
abbrev cX4_put : ByteArray := prog_6_method_22_code
def yX4_put : MethodName := ⟨RX4, "put", "(I)V"⟩
abbrev cX4_opens : ByteArray := prog_6_method_23_code
def yX4_opens : MethodName := ⟨RX4, "opens", "()Z"⟩
abbrev cX4_readTest : ByteArray := prog_6_method_24_code
def yX4_readTest : MethodName := ⟨RX4, "readTest", "()V"⟩
abbrev cX4_readBoth : ByteArray := prog_6_method_25_code
def yX4_readBoth : MethodName := ⟨RX4, "readBoth", "()V"⟩
abbrev cX4_readFact : ByteArray := prog_6_method_26_code
def yX4_readFact : MethodName := ⟨RX4, "readFact", "()V"⟩
abbrev cX4_readSum : ByteArray := prog_6_method_27_code
def yX4_readSum : MethodName := ⟨RX4, "readSum", "()V"⟩
abbrev cX4_readProduct : ByteArray := prog_6_method_28_code
def yX4_readProduct : MethodName := ⟨RX4, "readProduct", "()V"⟩
abbrev cX4_readPart : ByteArray := prog_6_method_29_code
def yX4_readPart : MethodName := ⟨RX4, "readPart", "()V"⟩
abbrev cX4_readLesserOrGreater : ByteArray := prog_6_method_30_code
def yX4_readLesserOrGreater : MethodName := ⟨RX4, "readLesserOrGreater", "(I)V"⟩
abbrev cX4_isFactHere : ByteArray := prog_6_method_31_code
def yX4_isFactHere : MethodName := ⟨RX4, "isFactHere", "()Z"⟩
def RX5 : String := "FourOnOne"
def TX5 : u_T := fun k => match k with
  | 0 => ("FourOnOne", "reader", "LFourOnOne$Reader;", true)
  | 1 => ("FourOnOne", "tape", "[I", true)
  | 2 => ("FourOnOne", "fed", "I", false)
  | 3 => ("FourOnOne", "now", "LFourOnOne$Course;", true)
  | 4 => ("FourOnOne", "ahead", "LFourOnOne$Course;", true)
  | 5 => ("FourOnOne", "past", "[LFourOnOne$Account;", true)
  | 6 => ("FourOnOne", "oldestPast", "I", false)
  | 7 => ("FourOnOne", "pastActs", "I", false)
  | 8 => ("FourOnOne", "toldRows", "[I", true)
  | 9 => ("FourOnOne", "toldCount", "I", false)
  | 10 => ("FourOnOne", "imageBytes", "[I", true)
  | 11 => ("FourOnOne", "imageLength", "I", false)
  | 12 => ("FourOnOne", "setPleasures", "[I", true)
  | 13 => ("FourOnOne", "votes", "[I", true)
  | 14 => ("FourOnOne", "refusals", "[I", true)
  | _ => ("FourOnOne", "drawn", "I", false)
def tyX5 : Nat → FieldType := fun k => match k with
  | 0 => .object "FourOnOne$Reader"
  | 1 => .array .int
  | 2 => .int
  | 3 => .object "FourOnOne$Course"
  | 4 => .object "FourOnOne$Course"
  | 5 => .array (.object "FourOnOne$Account")
  | 6 => .int
  | 7 => .int
  | 8 => .array .int
  | 9 => .int
  | 10 => .array .int
  | 11 => .int
  | 12 => .array .int
  | 13 => .array .int
  | 14 => .array .int
  | _ => .int
abbrev wsX50 : List Cond := u_ws RX5 TX5 16
theorem nmX5 : ∀ a, a < 16 → ∀ b, b < 16 → a ≠ b → (TX5 a).2.1 ≠ (TX5 b).2.1 := by decide +kernel
theorem tyX5_ok : ∀ k, k < 16 → parseFieldDescriptor (TX5 k).2.2.1 = some (tyX5 k) := by decide +kernel
abbrev cX5_init : ByteArray := prog_1_method_1_code
def yX5_init : MethodName := ⟨RX5, "<init>", "()V"⟩
abbrev cX5_feed : ByteArray := prog_1_method_2_code
def yX5_feed : MethodName := ⟨RX5, "feed", "(IIIII)I"⟩
abbrev cX5_end : ByteArray := prog_1_method_3_code
def yX5_end : MethodName := ⟨RX5, "end", "(I)Z"⟩
abbrev cX5_house : ByteArray := prog_1_method_4_code
def yX5_house : MethodName := ⟨RX5, "house", "()I"⟩
abbrev cX5_fault : ByteArray := prog_1_method_5_code
def yX5_fault : MethodName := ⟨RX5, "fault", "(I)I"⟩
abbrev cX5_has : ByteArray := prog_1_method_6_code
def yX5_has : MethodName := ⟨RX5, "has", "(I)I"⟩
abbrev cX5_letter : ByteArray := prog_1_method_7_code
def yX5_letter : MethodName := ⟨RX5, "letter", "(III)I"⟩
abbrev cX5_film : ByteArray := prog_1_method_8_code
def yX5_film : MethodName := ⟨RX5, "film", "(II)I"⟩
abbrev cX5_person : ByteArray := prog_1_method_9_code
def yX5_person : MethodName := ⟨RX5, "person", "(II)I"⟩
abbrev cX5_taste : ByteArray := prog_1_method_10_code
def yX5_taste : MethodName := ⟨RX5, "taste", "(II)I"⟩
abbrev cX5_seen : ByteArray := prog_1_method_11_code
def yX5_seen : MethodName := ⟨RX5, "seen", "(II)I"⟩
abbrev cX5_suggest : ByteArray := prog_1_method_12_code
def yX5_suggest : MethodName := ⟨RX5, "suggest", "(I)I"⟩
abbrev cX5_worth : ByteArray := prog_1_method_13_code
def yX5_worth : MethodName := ⟨RX5, "worth", "(II)I"⟩
abbrev cX5_kept : ByteArray := prog_1_method_14_code
def yX5_kept : MethodName := ⟨RX5, "kept", "(II)I"⟩
abbrev cX5_pleased : ByteArray := prog_1_method_15_code
def yX5_pleased : MethodName := ⟨RX5, "pleased", "(II)J"⟩
abbrev cX5_refused : ByteArray := prog_1_method_16_code
def yX5_refused : MethodName := ⟨RX5, "refused", "(II)I"⟩
abbrev cX5_pressing : ByteArray := prog_1_method_17_code
def yX5_pressing : MethodName := ⟨RX5, "pressing", "(II)J"⟩
abbrev cX5_rest : ByteArray := prog_1_method_18_code
def yX5_rest : MethodName := ⟨RX5, "rest", "(I)I"⟩
abbrev cX5_gone : ByteArray := prog_1_method_19_code
def yX5_gone : MethodName := ⟨RX5, "gone", "(II)I"⟩
abbrev cX5_sow : ByteArray := prog_1_method_20_code
def yX5_sow : MethodName := ⟨RX5, "sow", "(II)I"⟩
abbrev cX5_who : ByteArray := prog_1_method_21_code
def yX5_who : MethodName := ⟨RX5, "who", "(III)I"⟩
abbrev cX5_sofa : ByteArray := prog_1_method_22_code
def yX5_sofa : MethodName := ⟨RX5, "sofa", "(II)I"⟩
abbrev cX5_share : ByteArray := prog_1_method_23_code
def yX5_share : MethodName := ⟨RX5, "share", "(I)I"⟩
abbrev cX5_tell : ByteArray := prog_1_method_24_code
def yX5_tell : MethodName := ⟨RX5, "tell", "()I"⟩
abbrev cX5_pressed : ByteArray := prog_1_method_25_code
def yX5_pressed : MethodName := ⟨RX5, "pressed", "(I)I"⟩
abbrev cX5_press : ByteArray := prog_1_method_26_code
def yX5_press : MethodName := ⟨RX5, "press", "(II)Z"⟩
abbrev cX5_show : ByteArray := prog_1_method_27_code
def yX5_show : MethodName := ⟨RX5, "show", "(II)J"⟩
abbrev cX5_hours : ByteArray := prog_1_method_28_code
def yX5_hours : MethodName := ⟨RX5, "hours", "(I)I"⟩
abbrev cX5_chance : ByteArray := prog_1_method_29_code
def yX5_chance : MethodName := ⟨RX5, "chance", "(I)I"⟩
abbrev cX5_undo : ByteArray := prog_1_method_30_code
def yX5_undo : MethodName := ⟨RX5, "undo", "()Z"⟩
abbrev cX5_seed : ByteArray := prog_1_method_31_code
def yX5_seed : MethodName := ⟨RX5, "seed", "(I)Z"⟩
abbrev cX5_ask : ByteArray := prog_1_method_32_code
def yX5_ask : MethodName := ⟨RX5, "ask", "(I)J"⟩
abbrev cX5_image : ByteArray := prog_1_method_33_code
def yX5_image : MethodName := ⟨RX5, "image", "()I"⟩
abbrev cX5_octet : ByteArray := prog_1_method_34_code
def yX5_octet : MethodName := ⟨RX5, "octet", "(I)I"⟩
abbrev cX5_on : ByteArray := prog_1_method_35_code
def yX5_on : MethodName := ⟨RX5, "on", "()Z"⟩
abbrev cX5_status : ByteArray := prog_1_method_36_code
def yX5_status : MethodName := ⟨RX5, "status", "(I)I"⟩
abbrev cX5_refuse : ByteArray := prog_1_method_37_code
def yX5_refuse : MethodName := ⟨RX5, "refuse", "(I)I"⟩
abbrev cX5_feedNumber : ByteArray := prog_1_method_38_code
def yX5_feedNumber : MethodName := ⟨RX5, "feedNumber", "(I)V"⟩
abbrev cX5_takeTape : ByteArray := prog_1_method_39_code
def yX5_takeTape : MethodName := ⟨RX5, "takeTape", "()I"⟩
abbrev cX5_isOne : ByteArray := prog_1_method_40_code
def yX5_isOne : MethodName := ⟨RX5, "isOne", "(II)Z"⟩
abbrev cX5_canPass : ByteArray := prog_1_method_41_code
def yX5_canPass : MethodName := ⟨RX5, "canPass", "(III)Z"⟩
abbrev cX5_sawTogether : ByteArray := prog_1_method_42_code
def yX5_sawTogether : MethodName := ⟨RX5, "sawTogether", "()I"⟩
abbrev cX5_rememberAct : ByteArray := prog_1_method_43_code
def yX5_rememberAct : MethodName := ⟨RX5, "rememberAct", "()V"⟩
abbrev cX5_forgetActs : ByteArray := prog_1_method_44_code
def yX5_forgetActs : MethodName := ⟨RX5, "forgetActs", "()V"⟩
abbrev cX5_lookAhead : ByteArray := prog_1_method_45_code
def yX5_lookAhead : MethodName := ⟨RX5, "lookAhead", "(II)V"⟩
abbrev cX5_isAtRest : ByteArray := prog_1_method_46_code
def yX5_isAtRest : MethodName := ⟨RX5, "isAtRest", "(II)Z"⟩
abbrev cX5_sofaWorth : ByteArray := prog_1_method_47_code
def yX5_sofaWorth : MethodName := ⟨RX5, "sofaWorth", "(IIZ)I"⟩
abbrev cX5_countVotes : ByteArray := prog_1_method_48_code
def yX5_countVotes : MethodName := ⟨RX5, "countVotes", "(I)V"⟩
abbrev cX5_toldHours : ByteArray := prog_1_method_49_code
def yX5_toldHours : MethodName := ⟨RX5, "toldHours", "()I"⟩
abbrev cX5_isAsTold : ByteArray := prog_1_method_50_code
def yX5_isAsTold : MethodName := ⟨RX5, "isAsTold", "(II)Z"⟩
abbrev cX5_strangerSees : ByteArray := prog_1_method_51_code
def yX5_strangerSees : MethodName := ⟨RX5, "strangerSees", "()Z"⟩
abbrev cX5_draw : ByteArray := prog_1_method_52_code
def yX5_draw : MethodName := ⟨RX5, "draw", "(I)I"⟩
abbrev cX5_filmThatHolds : ByteArray := prog_1_method_53_code
def yX5_filmThatHolds : MethodName := ⟨RX5, "filmThatHolds", "(IZ)J"⟩
abbrev cX5_totalOf : ByteArray := prog_1_method_54_code
def yX5_totalOf : MethodName := ⟨RX5, "totalOf", "(I)J"⟩
abbrev cX5_extremeOf : ByteArray := prog_1_method_55_code
def yX5_extremeOf : MethodName := ⟨RX5, "extremeOf", "(IZ)J"⟩
abbrev cX5_putTwo : ByteArray := prog_1_method_56_code
def yX5_putTwo : MethodName := ⟨RX5, "putTwo", "(I)V"⟩
abbrev cX5_putByte : ByteArray := prog_1_method_57_code
def yX5_putByte : MethodName := ⟨RX5, "putByte", "(I)V"⟩
abbrev cX5_checkByte : ByteArray := prog_1_method_58_code
def yX5_checkByte : MethodName := ⟨RX5, "checkByte", "([II)I"⟩
abbrev cX5_lengthOfImage : ByteArray := prog_1_method_59_code
def yX5_lengthOfImage : MethodName := ⟨RX5, "lengthOfImage", "()I"⟩
abbrev cX5_tapeByte : ByteArray := prog_1_method_60_code
def yX5_tapeByte : MethodName := ⟨RX5, "tapeByte", "(I)I"⟩
abbrev cX5_tapeTwo : ByteArray := prog_1_method_61_code
def yX5_tapeTwo : MethodName := ⟨RX5, "tapeTwo", "(I)I"⟩
abbrev cX5_readProfiles : ByteArray := prog_1_method_62_code
def yX5_readProfiles : MethodName := ⟨RX5, "readProfiles", "(LFourOnOne$Account;)Z"⟩
abbrev cX5_readPeople : ByteArray := prog_1_method_63_code
def yX5_readPeople : MethodName := ⟨RX5, "readPeople", "(LFourOnOne$Account;I)Z"⟩
def RX6 : String := "FourOnOneModel"
def TX6 : u_T := fun k => match k with
  | 0 => ("FourOnOneModel", "tape", "[I", true)
  | 1 => ("FourOnOneModel", "taped", "I", false)
  | 2 => ("FourOnOneModel", "at", "I", false)
  | 3 => ("FourOnOneModel", "end", "I", false)
  | 4 => ("FourOnOneModel", "ended", "I", false)
  | 5 => ("FourOnOneModel", "bad", "I", false)
  | 6 => ("FourOnOneModel", "badPlace", "I", false)
  | 7 => ("FourOnOneModel", "fault", "I", false)
  | 8 => ("FourOnOneModel", "faultPlace", "I", false)
  | 9 => ("FourOnOneModel", "refused", "[I", true)
  | 10 => ("FourOnOneModel", "kindWord", "[C", true)
  | 11 => ("FourOnOneModel", "filmWord", "[C", true)
  | 12 => ("FourOnOneModel", "partsWord", "[C", true)
  | 13 => ("FourOnOneModel", "isWord", "[C", true)
  | 14 => ("FourOnOneModel", "personWord", "[C", true)
  | 15 => ("FourOnOneModel", "atWord", "[C", true)
  | 16 => ("FourOnOneModel", "toWord", "[C", true)
  | 17 => ("FourOnOneModel", "likesWord", "[C", true)
  | 18 => ("FourOnOneModel", "pressWord", "[C", true)
  | 19 => ("FourOnOneModel", "learnsWord", "[C", true)
  | 20 => ("FourOnOneModel", "fadesWord", "[C", true)
  | 21 => ("FourOnOneModel", "mayWord", "[C", true)
  | 22 => ("FourOnOneModel", "screensWord", "[C", true)
  | 23 => ("FourOnOneModel", "priceWord", "[C", true)
  | 24 => ("FourOnOneModel", "botherWord", "[C", true)
  | 25 => ("FourOnOneModel", "strangeWord", "[C", true)
  | 26 => ("FourOnOneModel", "hourWord", "[C", true)
  | 27 => ("FourOnOneModel", "tasteWord", "[C", true)
  | 28 => ("FourOnOneModel", "weightWord", "[C", true)
  | 29 => ("FourOnOneModel", "seenWord", "[C", true)
  | 30 => ("FourOnOneModel", "scoreWord", "[C", true)
  | 31 => ("FourOnOneModel", "worthWord", "[C", true)
  | 32 => ("FourOnOneModel", "numberWord", "[C", true)
  | 33 => ("FourOnOneModel", "orWord", "[C", true)
  | 34 => ("FourOnOneModel", "andWord", "[C", true)
  | 35 => ("FourOnOneModel", "notWord", "[C", true)
  | 36 => ("FourOnOneModel", "allWord", "[C", true)
  | 37 => ("FourOnOneModel", "minWord", "[C", true)
  | 38 => ("FourOnOneModel", "maxWord", "[C", true)
  | 39 => ("FourOnOneModel", "namePlace", "I", false)
  | 40 => ("FourOnOneModel", "many", "[I", true)
  | 41 => ("FourOnOneModel", "names", "[J", true)
  | 42 => ("FourOnOneModel", "parts", "[I", true)
  | 43 => ("FourOnOneModel", "weights", "[I", true)
  | 44 => ("FourOnOneModel", "frees", "[I", true)
  | 45 => ("FourOnOneModel", "liked", "[I", true)
  | 46 => ("FourOnOneModel", "pressing0", "I", false)
  | 47 => ("FourOnOneModel", "settings", "[I", true)
  | 48 => ("FourOnOneModel", "codeFrom", "[I", true)
  | 49 => ("FourOnOneModel", "codeEnd", "[I", true)
  | 50 => ("FourOnOneModel", "codes", "[I", true)
  | 51 => ("FourOnOneModel", "coded", "I", false)
  | 52 => ("FourOnOneModel", "statements", "I", false)
  | 53 => ("FourOnOneModel", "textKind", "I", false)
  | 54 => ("FourOnOneModel", "now", "[I", true)
  | 55 => ("FourOnOneModel", "aside", "[I", true)
  | 56 => ("FourOnOneModel", "askWho", "I", false)
  | 57 => ("FourOnOneModel", "askProfile", "I", false)
  | 58 => ("FourOnOneModel", "askTaste", "I", false)
  | 59 => ("FourOnOneModel", "askWeight", "I", false)
  | 60 => ("FourOnOneModel", "isThought", "Z", false)
  | 61 => ("FourOnOneModel", "saw", "[I", true)
  | 62 => ("FourOnOneModel", "pleased0", "[J", true)
  | 63 => ("FourOnOneModel", "refused0", "[I", true)
  | 64 => ("FourOnOneModel", "pleasures", "[J", true)
  | 65 => ("FourOnOneModel", "rowMany", "I", false)
  | 66 => ("FourOnOneModel", "rows", "[I", true)
  | 67 => ("FourOnOneModel", "kept0", "[I", true)
  | 68 => ("FourOnOneModel", "undoable", "I", false)
  | 69 => ("FourOnOneModel", "newest", "I", false)
  | 70 => ("FourOnOneModel", "seeded", "J", false)
  | 71 => ("FourOnOneModel", "firstAsked", "[C", true)
  | 72 => ("FourOnOneModel", "lastAsked", "[C", true)
  | 73 => ("FourOnOneModel", "oftenAsked", "[C", true)
  | 74 => ("FourOnOneModel", "totalAsked", "[C", true)
  | 75 => ("FourOnOneModel", "mostAsked", "[C", true)
  | 76 => ("FourOnOneModel", "leastAsked", "[C", true)
  | 77 => ("FourOnOneModel", "notAsked", "[C", true)
  | 78 => ("FourOnOneModel", "andAsked", "[C", true)
  | 79 => ("FourOnOneModel", "orAsked", "[C", true)
  | 80 => ("FourOnOneModel", "allAsked", "[C", true)
  | 81 => ("FourOnOneModel", "minAsked", "[C", true)
  | 82 => ("FourOnOneModel", "maxAsked", "[C", true)
  | 83 => ("FourOnOneModel", "hourAsked", "[C", true)
  | 84 => ("FourOnOneModel", "tasteAsked", "[C", true)
  | 85 => ("FourOnOneModel", "weightAsked", "[C", true)
  | 86 => ("FourOnOneModel", "partsAsked", "[C", true)
  | 87 => ("FourOnOneModel", "seenAsked", "[C", true)
  | 88 => ("FourOnOneModel", "scoreAsked", "[C", true)
  | 89 => ("FourOnOneModel", "numberAsked", "[C", true)
  | 90 => ("FourOnOneModel", "worthAsked", "[C", true)
  | 91 => ("FourOnOneModel", "qCodes", "[I", true)
  | 92 => ("FourOnOneModel", "qCoded", "I", false)
  | 93 => ("FourOnOneModel", "qWait", "[I", true)
  | 94 => ("FourOnOneModel", "qWaits", "I", false)
  | 95 => ("FourOnOneModel", "qOpened", "I", false)
  | 96 => ("FourOnOneModel", "qBase", "I", false)
  | 97 => ("FourOnOneModel", "qPile", "[J", true)
  | 98 => ("FourOnOneModel", "qPiled", "I", false)
  | 99 => ("FourOnOneModel", "qAnswer", "J", false)
  | 100 => ("FourOnOneModel", "qIsNew", "Z", false)
  | 101 => ("FourOnOneModel", "octet", "[I", true)
  | _ => ("FourOnOneModel", "octets", "I", false)
def tyX6 : Nat → FieldType := fun k => match k with
  | 0 => .array .int
  | 1 => .int
  | 2 => .int
  | 3 => .int
  | 4 => .int
  | 5 => .int
  | 6 => .int
  | 7 => .int
  | 8 => .int
  | 9 => .array .int
  | 10 => .array .char
  | 11 => .array .char
  | 12 => .array .char
  | 13 => .array .char
  | 14 => .array .char
  | 15 => .array .char
  | 16 => .array .char
  | 17 => .array .char
  | 18 => .array .char
  | 19 => .array .char
  | 20 => .array .char
  | 21 => .array .char
  | 22 => .array .char
  | 23 => .array .char
  | 24 => .array .char
  | 25 => .array .char
  | 26 => .array .char
  | 27 => .array .char
  | 28 => .array .char
  | 29 => .array .char
  | 30 => .array .char
  | 31 => .array .char
  | 32 => .array .char
  | 33 => .array .char
  | 34 => .array .char
  | 35 => .array .char
  | 36 => .array .char
  | 37 => .array .char
  | 38 => .array .char
  | 39 => .int
  | 40 => .array .int
  | 41 => .array .long
  | 42 => .array .int
  | 43 => .array .int
  | 44 => .array .int
  | 45 => .array .int
  | 46 => .int
  | 47 => .array .int
  | 48 => .array .int
  | 49 => .array .int
  | 50 => .array .int
  | 51 => .int
  | 52 => .int
  | 53 => .int
  | 54 => .array .int
  | 55 => .array .int
  | 56 => .int
  | 57 => .int
  | 58 => .int
  | 59 => .int
  | 60 => .boolean
  | 61 => .array .int
  | 62 => .array .long
  | 63 => .array .int
  | 64 => .array .long
  | 65 => .int
  | 66 => .array .int
  | 67 => .array .int
  | 68 => .int
  | 69 => .int
  | 70 => .long
  | 71 => .array .char
  | 72 => .array .char
  | 73 => .array .char
  | 74 => .array .char
  | 75 => .array .char
  | 76 => .array .char
  | 77 => .array .char
  | 78 => .array .char
  | 79 => .array .char
  | 80 => .array .char
  | 81 => .array .char
  | 82 => .array .char
  | 83 => .array .char
  | 84 => .array .char
  | 85 => .array .char
  | 86 => .array .char
  | 87 => .array .char
  | 88 => .array .char
  | 89 => .array .char
  | 90 => .array .char
  | 91 => .array .int
  | 92 => .int
  | 93 => .array .int
  | 94 => .int
  | 95 => .int
  | 96 => .int
  | 97 => .array .long
  | 98 => .int
  | 99 => .long
  | 100 => .boolean
  | 101 => .array .int
  | _ => .int
abbrev wsX60 : List Cond := u_ws RX6 TX6 103
theorem nmX6 : ∀ a, a < 103 → ∀ b, b < 103 → a ≠ b → (TX6 a).2.1 ≠ (TX6 b).2.1 := by decide +kernel
theorem tyX6_ok : ∀ k, k < 103 → parseFieldDescriptor (TX6 k).2.2.1 = some (tyX6 k) := by decide +kernel
abbrev cX6_init : ByteArray := prog_8_method_1_code
def yX6_init : MethodName := ⟨RX6, "<init>", "()V"⟩
abbrev cX6_isIn : ByteArray := prog_8_method_2_code
def yX6_isIn : MethodName := ⟨RX6, "isIn", "(JJJ)Z"⟩
abbrev cX6_feed : ByteArray := prog_8_method_3_code
def yX6_feed : MethodName := ⟨RX6, "feed", "(IIIII)I"⟩
abbrev cX6_end : ByteArray := prog_8_method_4_code
def yX6_end : MethodName := ⟨RX6, "end", "(I)Z"⟩
abbrev cX6_fail : ByteArray := prog_8_method_5_code
def yX6_fail : MethodName := ⟨RX6, "fail", "(II)V"⟩
abbrev cX6_isLetter : ByteArray := prog_8_method_6_code
def yX6_isLetter : MethodName := ⟨RX6, "isLetter", "(I)Z"⟩
abbrev cX6_isDigit : ByteArray := prog_8_method_7_code
def yX6_isDigit : MethodName := ⟨RX6, "isDigit", "(I)Z"⟩
abbrev cX6_look : ByteArray := prog_8_method_8_code
def yX6_look : MethodName := ⟨RX6, "look", "()I"⟩
abbrev cX6_isHere : ByteArray := prog_8_method_9_code
def yX6_isHere : MethodName := ⟨RX6, "isHere", "([C)Z"⟩
abbrev cX6_takes : ByteArray := prog_8_method_10_code
def yX6_takes : MethodName := ⟨RX6, "takes", "([C)Z"⟩
abbrev cX6_asks : ByteArray := prog_8_method_11_code
def yX6_asks : MethodName := ⟨RX6, "asks", "([C)V"⟩
abbrev cX6_takesSign : ByteArray := prog_8_method_12_code
def yX6_takesSign : MethodName := ⟨RX6, "takesSign", "(I)Z"⟩
abbrev cX6_asksSign : ByteArray := prog_8_method_13_code
def yX6_asksSign : MethodName := ⟨RX6, "asksSign", "(I)V"⟩
abbrev cX6_number : ByteArray := prog_8_method_14_code
def yX6_number : MethodName := ⟨RX6, "number", "(II)I"⟩
abbrev cX6_isOwnHere : ByteArray := prog_8_method_15_code
def yX6_isOwnHere : MethodName := ⟨RX6, "isOwnHere", "()Z"⟩
abbrev cX6_name : ByteArray := prog_8_method_16_code
def yX6_name : MethodName := ⟨RX6, "name", "()J"⟩
abbrev cX6_isAllowed : ByteArray := prog_8_method_17_code
def yX6_isAllowed : MethodName := ⟨RX6, "isAllowed", "(I)Z"⟩
abbrev cX6_isFull : ByteArray := prog_8_method_18_code
def yX6_isFull : MethodName := ⟨RX6, "isFull", "(III)Z"⟩
abbrev cX6_nameOf : ByteArray := prog_8_method_19_code
def yX6_nameOf : MethodName := ⟨RX6, "nameOf", "(IJ)I"⟩
abbrev cX6_newName : ByteArray := prog_8_method_20_code
def yX6_newName : MethodName := ⟨RX6, "newName", "()J"⟩
abbrev cX6_oneOf : ByteArray := prog_8_method_21_code
def yX6_oneOf : MethodName := ⟨RX6, "oneOf", "(I)I"⟩
abbrev cX6_adds : ByteArray := prog_8_method_22_code
def yX6_adds : MethodName := ⟨RX6, "adds", "(IJ)V"⟩
abbrev cX6_kindTold : ByteArray := prog_8_method_23_code
def yX6_kindTold : MethodName := ⟨RX6, "kindTold", "(I)V"⟩
abbrev cX6_filmTold : ByteArray := prog_8_method_24_code
def yX6_filmTold : MethodName := ⟨RX6, "filmTold", "(I)V"⟩
abbrev cX6_personTold : ByteArray := prog_8_method_25_code
def yX6_personTold : MethodName := ⟨RX6, "personTold", "(I)V"⟩
abbrev cX6_likesTold : ByteArray := prog_8_method_26_code
def yX6_likesTold : MethodName := ⟨RX6, "likesTold", "()V"⟩
abbrev cX6_pressTold : ByteArray := prog_8_method_27_code
def yX6_pressTold : MethodName := ⟨RX6, "pressTold", "()V"⟩
abbrev cX6_codesTold : ByteArray := prog_8_method_28_code
def yX6_codesTold : MethodName := ⟨RX6, "codesTold", "(II)V"⟩
abbrev cX6_statementTold : ByteArray := prog_8_method_29_code
def yX6_statementTold : MethodName := ⟨RX6, "statementTold", "()V"⟩
abbrev cX6_house : ByteArray := prog_8_method_30_code
def yX6_house : MethodName := ⟨RX6, "house", "()I"⟩
abbrev cX6_stands : ByteArray := prog_8_method_31_code
def yX6_stands : MethodName := ⟨RX6, "stands", "()V"⟩
abbrev cX6_fault : ByteArray := prog_8_method_32_code
def yX6_fault : MethodName := ⟨RX6, "fault", "(I)I"⟩
abbrev cX6_kindMany : ByteArray := prog_8_method_33_code
def yX6_kindMany : MethodName := ⟨RX6, "kindMany", "()I"⟩
abbrev cX6_filmMany : ByteArray := prog_8_method_34_code
def yX6_filmMany : MethodName := ⟨RX6, "filmMany", "()I"⟩
abbrev cX6_personMany : ByteArray := prog_8_method_35_code
def yX6_personMany : MethodName := ⟨RX6, "personMany", "()I"⟩
abbrev cX6_isKind : ByteArray := prog_8_method_36_code
def yX6_isKind : MethodName := ⟨RX6, "isKind", "(I)Z"⟩
abbrev cX6_isFilm : ByteArray := prog_8_method_37_code
def yX6_isFilm : MethodName := ⟨RX6, "isFilm", "(I)Z"⟩
abbrev cX6_isPerson : ByteArray := prog_8_method_38_code
def yX6_isPerson : MethodName := ⟨RX6, "isPerson", "(I)Z"⟩
abbrev cX6_partsOf : ByteArray := prog_8_method_39_code
def yX6_partsOf : MethodName := ⟨RX6, "partsOf", "(I)I"⟩
abbrev cX6_weightOf : ByteArray := prog_8_method_40_code
def yX6_weightOf : MethodName := ⟨RX6, "weightOf", "(II)I"⟩
abbrev cX6_likesOf : ByteArray := prog_8_method_41_code
def yX6_likesOf : MethodName := ⟨RX6, "likesOf", "(II)I"⟩
abbrev cX6_doesPress : ByteArray := prog_8_method_42_code
def yX6_doesPress : MethodName := ⟨RX6, "doesPress", "(I)Z"⟩
abbrev cX6_pressAll : ByteArray := prog_8_method_43_code
def yX6_pressAll : MethodName := ⟨RX6, "pressAll", "(I)V"⟩
abbrev cX6_pressers : ByteArray := prog_8_method_44_code
def yX6_pressers : MethodName := ⟨RX6, "pressers", "()I"⟩
abbrev cX6_profileOf : ByteArray := prog_8_method_45_code
def yX6_profileOf : MethodName := ⟨RX6, "profileOf", "(I)I"⟩
abbrev cX6_tasteAt : ByteArray := prog_8_method_46_code
def yX6_tasteAt : MethodName := ⟨RX6, "tasteAt", "(II)I"⟩
abbrev cX6_seenAt : ByteArray := prog_8_method_47_code
def yX6_seenAt : MethodName := ⟨RX6, "seenAt", "(II)I"⟩
abbrev cX6_seenBy : ByteArray := prog_8_method_48_code
def yX6_seenBy : MethodName := ⟨RX6, "seenBy", "(II)I"⟩
abbrev cX6_scoreOf : ByteArray := prog_8_method_49_code
def yX6_scoreOf : MethodName := ⟨RX6, "scoreOf", "(II)I"⟩
abbrev cX6_worthOf : ByteArray := prog_8_method_50_code
def yX6_worthOf : MethodName := ⟨RX6, "worthOf", "(II)I"⟩
abbrev cX6_cut : ByteArray := prog_8_method_51_code
def yX6_cut : MethodName := ⟨RX6, "cut", "(J)I"⟩
abbrev cX6_codesTell : ByteArray := prog_8_method_52_code
def yX6_codesTell : MethodName := ⟨RX6, "codesTell", "(II)J"⟩
abbrev cX6_may : ByteArray := prog_8_method_53_code
def yX6_may : MethodName := ⟨RX6, "may", "(II)Z"⟩
abbrev cX6_suggestedTo : ByteArray := prog_8_method_54_code
def yX6_suggestedTo : MethodName := ⟨RX6, "suggestedTo", "(I)I"⟩
abbrev cX6_partSeen : ByteArray := prog_8_method_55_code
def yX6_partSeen : MethodName := ⟨RX6, "partSeen", "(II)V"⟩
abbrev cX6_isKept : ByteArray := prog_8_method_56_code
def yX6_isKept : MethodName := ⟨RX6, "isKept", "(II)V"⟩
abbrev cX6_hasSeen : ByteArray := prog_8_method_57_code
def yX6_hasSeen : MethodName := ⟨RX6, "hasSeen", "(I)V"⟩
abbrev cX6_pleasedBy : ByteArray := prog_8_method_58_code
def yX6_pleasedBy : MethodName := ⟨RX6, "pleasedBy", "(II)I"⟩
abbrev cX6_fade : ByteArray := prog_8_method_59_code
def yX6_fade : MethodName := ⟨RX6, "fade", "()V"⟩
abbrev cX6_isFree : ByteArray := prog_8_method_60_code
def yX6_isFree : MethodName := ⟨RX6, "isFree", "(II)Z"⟩
abbrev cX6_hourGoes : ByteArray := prog_8_method_61_code
def yX6_hourGoes : MethodName := ⟨RX6, "hourGoes", "()I"⟩
abbrev cX6_hoursGo : ByteArray := prog_8_method_62_code
def yX6_hoursGo : MethodName := ⟨RX6, "hoursGo", "(I)I"⟩
abbrev cX6_putsAside : ByteArray := prog_8_method_63_code
def yX6_putsAside : MethodName := ⟨RX6, "putsAside", "()V"⟩
abbrev cX6_triesAnew : ByteArray := prog_8_method_64_code
def yX6_triesAnew : MethodName := ⟨RX6, "triesAnew", "()V"⟩
abbrev cX6_takesBack : ByteArray := prog_8_method_65_code
def yX6_takesBack : MethodName := ⟨RX6, "takesBack", "()V"⟩
abbrev cX6_isAhead : ByteArray := prog_8_method_66_code
def yX6_isAhead : MethodName := ⟨RX6, "isAhead", "(III)Z"⟩
abbrev cX6_bits : ByteArray := prog_8_method_67_code
def yX6_bits : MethodName := ⟨RX6, "bits", "(I)I"⟩
abbrev cX6_hoursOf : ByteArray := prog_8_method_68_code
def yX6_hoursOf : MethodName := ⟨RX6, "hoursOf", "(I)I"⟩
abbrev cX6_hoursAll : ByteArray := prog_8_method_69_code
def yX6_hoursAll : MethodName := ⟨RX6, "hoursAll", "()I"⟩
abbrev cX6_has : ByteArray := prog_8_method_70_code
def yX6_has : MethodName := ⟨RX6, "has", "(I)I"⟩
abbrev cX6_letter : ByteArray := prog_8_method_71_code
def yX6_letter : MethodName := ⟨RX6, "letter", "(III)I"⟩
abbrev cX6_film : ByteArray := prog_8_method_72_code
def yX6_film : MethodName := ⟨RX6, "film", "(II)I"⟩
abbrev cX6_person : ByteArray := prog_8_method_73_code
def yX6_person : MethodName := ⟨RX6, "person", "(II)I"⟩
abbrev cX6_taste : ByteArray := prog_8_method_74_code
def yX6_taste : MethodName := ⟨RX6, "taste", "(II)I"⟩
abbrev cX6_seen : ByteArray := prog_8_method_75_code
def yX6_seen : MethodName := ⟨RX6, "seen", "(II)I"⟩
abbrev cX6_suggest : ByteArray := prog_8_method_76_code
def yX6_suggest : MethodName := ⟨RX6, "suggest", "(I)I"⟩
abbrev cX6_worth : ByteArray := prog_8_method_77_code
def yX6_worth : MethodName := ⟨RX6, "worth", "(II)I"⟩
abbrev cX6_kept : ByteArray := prog_8_method_78_code
def yX6_kept : MethodName := ⟨RX6, "kept", "(II)I"⟩
abbrev cX6_pleased : ByteArray := prog_8_method_79_code
def yX6_pleased : MethodName := ⟨RX6, "pleased", "(II)J"⟩
abbrev cX6_refused : ByteArray := prog_8_method_80_code
def yX6_refused : MethodName := ⟨RX6, "refused", "(II)I"⟩
abbrev cX6_pleasureBy : ByteArray := prog_8_method_81_code
def yX6_pleasureBy : MethodName := ⟨RX6, "pleasureBy", "(III)J"⟩
abbrev cX6_pressing : ByteArray := prog_8_method_82_code
def yX6_pressing : MethodName := ⟨RX6, "pressing", "(II)J"⟩
abbrev cX6_isRest : ByteArray := prog_8_method_83_code
def yX6_isRest : MethodName := ⟨RX6, "isRest", "(I)Z"⟩
abbrev cX6_rest : ByteArray := prog_8_method_84_code
def yX6_rest : MethodName := ⟨RX6, "rest", "(I)I"⟩
abbrev cX6_gone : ByteArray := prog_8_method_85_code
def yX6_gone : MethodName := ⟨RX6, "gone", "(II)I"⟩
abbrev cX6_sow : ByteArray := prog_8_method_86_code
def yX6_sow : MethodName := ⟨RX6, "sow", "(II)I"⟩
abbrev cX6_who : ByteArray := prog_8_method_87_code
def yX6_who : MethodName := ⟨RX6, "who", "(III)I"⟩
abbrev cX6_firstOf : ByteArray := prog_8_method_88_code
def yX6_firstOf : MethodName := ⟨RX6, "firstOf", "(I)I"⟩
abbrev cX6_byRule : ByteArray := prog_8_method_89_code
def yX6_byRule : MethodName := ⟨RX6, "byRule", "(III)I"⟩
abbrev cX6_sofa : ByteArray := prog_8_method_90_code
def yX6_sofa : MethodName := ⟨RX6, "sofa", "(II)I"⟩
abbrev cX6_share : ByteArray := prog_8_method_91_code
def yX6_share : MethodName := ⟨RX6, "share", "(I)I"⟩
abbrev cX6_tell : ByteArray := prog_8_method_92_code
def yX6_tell : MethodName := ⟨RX6, "tell", "()I"⟩
abbrev cX6_isSeenNow : ByteArray := prog_8_method_93_code
def yX6_isSeenNow : MethodName := ⟨RX6, "isSeenNow", "(I)Z"⟩
abbrev cX6_lastHour : ByteArray := prog_8_method_94_code
def yX6_lastHour : MethodName := ⟨RX6, "lastHour", "()I"⟩
abbrev cX6_isAsTold : ByteArray := prog_8_method_95_code
def yX6_isAsTold : MethodName := ⟨RX6, "isAsTold", "(I)Z"⟩
abbrev cX6_pressed : ByteArray := prog_8_method_96_code
def yX6_pressed : MethodName := ⟨RX6, "pressed", "(I)I"⟩
abbrev cX6_keeps : ByteArray := prog_8_method_97_code
def yX6_keeps : MethodName := ⟨RX6, "keeps", "()V"⟩
abbrev cX6_undo : ByteArray := prog_8_method_98_code
def yX6_undo : MethodName := ⟨RX6, "undo", "()Z"⟩
abbrev cX6_press : ByteArray := prog_8_method_99_code
def yX6_press : MethodName := ⟨RX6, "press", "(II)Z"⟩
abbrev cX6_show : ByteArray := prog_8_method_100_code
def yX6_show : MethodName := ⟨RX6, "show", "(II)J"⟩
abbrev cX6_refuses : ByteArray := prog_8_method_101_code
def yX6_refuses : MethodName := ⟨RX6, "refuses", "(I)I"⟩
abbrev cX6_hours : ByteArray := prog_8_method_102_code
def yX6_hours : MethodName := ⟨RX6, "hours", "(I)I"⟩
abbrev cX6_seed : ByteArray := prog_8_method_103_code
def yX6_seed : MethodName := ⟨RX6, "seed", "(I)Z"⟩
abbrev cX6_drawOf : ByteArray := prog_8_method_104_code
def yX6_drawOf : MethodName := ⟨RX6, "drawOf", "(I)I"⟩
abbrev cX6_isStranger : ByteArray := prog_8_method_105_code
def yX6_isStranger : MethodName := ⟨RX6, "isStranger", "()Z"⟩
abbrev cX6_chance : ByteArray := prog_8_method_106_code
def yX6_chance : MethodName := ⟨RX6, "chance", "(I)I"⟩
abbrev cX6_qCode : ByteArray := prog_8_method_107_code
def yX6_qCode : MethodName := ⟨RX6, "qCode", "(I)V"⟩
abbrev cX6_qOpens : ByteArray := prog_8_method_108_code
def yX6_qOpens : MethodName := ⟨RX6, "qOpens", "(II)V"⟩
abbrev cX6_qIsOn : ByteArray := prog_8_method_109_code
def yX6_qIsOn : MethodName := ⟨RX6, "qIsOn", "(I)Z"⟩
abbrev cX6_qDrops : ByteArray := prog_8_method_110_code
def yX6_qDrops : MethodName := ⟨RX6, "qDrops", "()V"⟩
abbrev cX6_qIsBracket : ByteArray := prog_8_method_111_code
def yX6_qIsBracket : MethodName := ⟨RX6, "qIsBracket", "(I)Z"⟩
abbrev cX6_qBracket : ByteArray := prog_8_method_112_code
def yX6_qBracket : MethodName := ⟨RX6, "qBracket", "()I"⟩
abbrev cX6_qDropsToBracket : ByteArray := prog_8_method_113_code
def yX6_qDropsToBracket : MethodName := ⟨RX6, "qDropsToBracket", "()V"⟩
abbrev cX6_qWordHere : ByteArray := prog_8_method_114_code
def yX6_qWordHere : MethodName := ⟨RX6, "qWordHere", "()I"⟩
abbrev cX6_qWordOf : ByteArray := prog_8_method_115_code
def yX6_qWordOf : MethodName := ⟨RX6, "qWordOf", "(II)I"⟩
abbrev cX6_qAsksWord : ByteArray := prog_8_method_116_code
def yX6_qAsksWord : MethodName := ⟨RX6, "qAsksWord", "(I)V"⟩
abbrev cX6_qEndsPart : ByteArray := prog_8_method_117_code
def yX6_qEndsPart : MethodName := ⟨RX6, "qEndsPart", "()V"⟩
abbrev cX6_qPartTold : ByteArray := prog_8_method_118_code
def yX6_qPartTold : MethodName := ⟨RX6, "qPartTold", "()V"⟩
abbrev cX6_qGoesOn : ByteArray := prog_8_method_119_code
def yX6_qGoesOn : MethodName := ⟨RX6, "qGoesOn", "()Z"⟩
abbrev cX6_qSums : ByteArray := prog_8_method_120_code
def yX6_qSums : MethodName := ⟨RX6, "qSums", "()V"⟩
abbrev cX6_qFact : ByteArray := prog_8_method_121_code
def yX6_qFact : MethodName := ⟨RX6, "qFact", "()V"⟩
abbrev cX6_qHasSquare : ByteArray := prog_8_method_122_code
def yX6_qHasSquare : MethodName := ⟨RX6, "qHasSquare", "()Z"⟩
abbrev cX6_qDropsNots : ByteArray := prog_8_method_123_code
def yX6_qDropsNots : MethodName := ⟨RX6, "qDropsNots", "()V"⟩
abbrev cX6_qTest : ByteArray := prog_8_method_124_code
def yX6_qTest : MethodName := ⟨RX6, "qTest", "()V"⟩
abbrev cX6_qGoesOnTest : ByteArray := prog_8_method_125_code
def yX6_qGoesOnTest : MethodName := ⟨RX6, "qGoesOnTest", "()Z"⟩
abbrev cX6_qClip : ByteArray := prog_8_method_126_code
def yX6_qClip : MethodName := ⟨RX6, "qClip", "(J)J"⟩
abbrev cX6_qFloor : ByteArray := prog_8_method_127_code
def yX6_qFloor : MethodName := ⟨RX6, "qFloor", "(JJ)J"⟩
abbrev cX6_qPuts : ByteArray := prog_8_method_128_code
def yX6_qPuts : MethodName := ⟨RX6, "qPuts", "(J)V"⟩
abbrev cX6_qJoins : ByteArray := prog_8_method_129_code
def yX6_qJoins : MethodName := ⟨RX6, "qJoins", "(I)V"⟩
abbrev cX6_qPartOf : ByteArray := prog_8_method_130_code
def yX6_qPartOf : MethodName := ⟨RX6, "qPartOf", "(II)J"⟩
abbrev cX6_qOf : ByteArray := prog_8_method_131_code
def yX6_qOf : MethodName := ⟨RX6, "qOf", "(IJI)J"⟩
abbrev cX6_qTold : ByteArray := prog_8_method_132_code
def yX6_qTold : MethodName := ⟨RX6, "qTold", "(I)J"⟩
abbrev cX6_qKind : ByteArray := prog_8_method_133_code
def yX6_qKind : MethodName := ⟨RX6, "qKind", "()I"⟩
abbrev cX6_qTakes : ByteArray := prog_8_method_134_code
def yX6_qTakes : MethodName := ⟨RX6, "qTakes", "(IJI)V"⟩
abbrev cX6_ask : ByteArray := prog_8_method_135_code
def yX6_ask : MethodName := ⟨RX6, "ask", "(I)J"⟩
abbrev cX6_checked : ByteArray := prog_8_method_136_code
def yX6_checked : MethodName := ⟨RX6, "checked", "([II)I"⟩
abbrev cX6_writes : ByteArray := prog_8_method_137_code
def yX6_writes : MethodName := ⟨RX6, "writes", "(I)V"⟩
abbrev cX6_writesTwo : ByteArray := prog_8_method_138_code
def yX6_writesTwo : MethodName := ⟨RX6, "writesTwo", "(I)V"⟩
abbrev cX6_image : ByteArray := prog_8_method_139_code
def yX6_image : MethodName := ⟨RX6, "image", "()I"⟩
abbrev cX6_octet : ByteArray := prog_8_method_140_code
def yX6_octet : MethodName := ⟨RX6, "octet", "(I)I"⟩
abbrev cX6_twoAt : ByteArray := prog_8_method_141_code
def yX6_twoAt : MethodName := ⟨RX6, "twoAt", "(I)I"⟩
abbrev cX6_profileFrom : ByteArray := prog_8_method_142_code
def yX6_profileFrom : MethodName := ⟨RX6, "profileFrom", "(I)I"⟩
abbrev cX6_isProfileTold : ByteArray := prog_8_method_143_code
def yX6_isProfileTold : MethodName := ⟨RX6, "isProfileTold", "(I)Z"⟩
abbrev cX6_isImage : ByteArray := prog_8_method_144_code
def yX6_isImage : MethodName := ⟨RX6, "isImage", "(I)Z"⟩
abbrev cX6_on : ByteArray := prog_8_method_145_code
def yX6_on : MethodName := ⟨RX6, "on", "()Z"⟩
abbrev cX6_status : ByteArray := prog_8_method_146_code
def yX6_status : MethodName := ⟨RX6, "status", "(I)I"⟩
def RJ6 : String := "java/lang/Integer"
def TJ6 : u_T := fun k => match k with
  | _ => ("", "", "", false)
def tyJ6 : Nat → FieldType := fun k => match k with
  | _ => .int
abbrev wsJ60 : List Cond := u_ws RJ6 TJ6 0
theorem nmJ6 : ∀ a, a < 0 → ∀ b, b < 0 → a ≠ b → (TJ6 a).2.1 ≠ (TJ6 b).2.1 := by decide +kernel
theorem tyJ6_ok : ∀ k, k < 0 → parseFieldDescriptor (TJ6 k).2.2.1 = some (tyJ6 k) := by decide +kernel
abbrev cJ6_bitCount_0f7a4 : ByteArray := prog_9_method_49_code
def yJ6_bitCount_0f7a4 : MethodName := ⟨RJ6, "bitCount", "(I)I"⟩
def RJ9 : String := "java/lang/Math"
def TJ9 : u_T := fun k => match k with
  | _ => ("", "", "", false)
def tyJ9 : Nat → FieldType := fun k => match k with
  | _ => .int
abbrev wsJ90 : List Cond := u_ws RJ9 TJ9 0
theorem nmJ9 : ∀ a, a < 0 → ∀ b, b < 0 → a ≠ b → (TJ9 a).2.1 ≠ (TJ9 b).2.1 := by decide +kernel
theorem tyJ9_ok : ∀ k, k < 0 → parseFieldDescriptor (TJ9 k).2.2.1 = some (tyJ9 k) := by decide +kernel
abbrev cJ9_floorDiv_f86c9 : ByteArray := prog_10_method_49_code
def yJ9_floorDiv_f86c9 : MethodName := ⟨RJ9, "floorDiv", "(JJ)J"⟩
abbrev cJ9_max_7cf53 : ByteArray := prog_10_method_65_code
def yJ9_max_7cf53 : MethodName := ⟨RJ9, "max", "(II)I"⟩
abbrev cJ9_max_f86c9 : ByteArray := prog_10_method_66_code
def yJ9_max_f86c9 : MethodName := ⟨RJ9, "max", "(JJ)J"⟩
abbrev cJ9_min_7cf53 : ByteArray := prog_10_method_69_code
def yJ9_min_7cf53 : MethodName := ⟨RJ9, "min", "(II)I"⟩
abbrev cJ9_min_f86c9 : ByteArray := prog_10_method_70_code
def yJ9_min_f86c9 : MethodName := ⟨RJ9, "min", "(JJ)J"⟩
def RJ0 : String := "java/lang/String"
def TJ0 : u_T := fun k => match k with
  | _ => ("", "", "", false)
def tyJ0 : Nat → FieldType := fun k => match k with
  | _ => .int
abbrev wsJ00 : List Cond := u_ws RJ0 TJ0 0
theorem nmJ0 : ∀ a, a < 0 → ∀ b, b < 0 → a ≠ b → (TJ0 a).2.1 ≠ (TJ0 b).2.1 := by decide +kernel
theorem tyJ0_ok : ∀ k, k < 0 → parseFieldDescriptor (TJ0 k).2.2.1 = some (tyJ0 k) := by decide +kernel
abbrev cJ0_length_8abf5 : ByteArray := prog_11_method_54_code
def yJ0_length_8abf5 : MethodName := ⟨RJ0, "length", "()I"⟩
abbrev cJ0_charAt_5068e : ByteArray := prog_11_method_56_code
def yJ0_charAt_5068e : MethodName := ⟨RJ0, "charAt", "(I)C"⟩
abbrev cJ0_coder_7d493 : ByteArray := prog_11_method_152_code
def yJ0_coder_7d493 : MethodName := ⟨RJ0, "coder", "()B"⟩
abbrev cJ0_isLatin1_aae02 : ByteArray := prog_11_method_154_code
def yJ0_isLatin1_aae02 : MethodName := ⟨RJ0, "isLatin1", "()Z"⟩
abbrev cJ0_checkIndex_df160 : ByteArray := prog_11_method_155_code
def yJ0_checkIndex_df160 : MethodName := ⟨RJ0, "checkIndex", "(II)V"⟩
def RJ1 : String := "java/lang/StringLatin1"
def TJ1 : u_T := fun k => match k with
  | _ => ("", "", "", false)
def tyJ1 : Nat → FieldType := fun k => match k with
  | _ => .int
abbrev wsJ10 : List Cond := u_ws RJ1 TJ1 0
theorem nmJ1 : ∀ a, a < 0 → ∀ b, b < 0 → a ≠ b → (TJ1 a).2.1 ≠ (TJ1 b).2.1 := by decide +kernel
theorem tyJ1_ok : ∀ k, k < 0 → parseFieldDescriptor (TJ1 k).2.2.1 = some (tyJ1 k) := by decide +kernel
abbrev cJ1_charAt_3b067 : ByteArray := prog_12_method_2_code
def yJ1_charAt_3b067 : MethodName := ⟨RJ1, "charAt", "([BI)C"⟩
def RJ2 : String := "java/lang/StringUTF16"
def TJ2 : u_T := fun k => match k with
  | _ => ("", "", "", false)
def tyJ2 : Nat → FieldType := fun k => match k with
  | _ => .int
abbrev wsJ20 : List Cond := u_ws RJ2 TJ2 0
theorem nmJ2 : ∀ a, a < 0 → ∀ b, b < 0 → a ≠ b → (TJ2 a).2.1 ≠ (TJ2 b).2.1 := by decide +kernel
theorem tyJ2_ok : ∀ k, k < 0 → parseFieldDescriptor (TJ2 k).2.2.1 = some (tyJ2 k) := by decide +kernel
abbrev cJ2_getChar_3b067 : ByteArray := prog_13_method_5_code
def yJ2_getChar_3b067 : MethodName := ⟨RJ2, "getChar", "([BI)C"⟩
abbrev cJ2_length_9d52b : ByteArray := prog_13_method_6_code
def yJ2_length_9d52b : MethodName := ⟨RJ2, "length", "([B)I"⟩
abbrev cJ2_charAt_3b067 : ByteArray := prog_13_method_83_code
def yJ2_charAt_3b067 : MethodName := ⟨RJ2, "charAt", "([BI)C"⟩
abbrev cJ2_checkIndex_2214a : ByteArray := prog_13_method_91_code
def yJ2_checkIndex_2214a : MethodName := ⟨RJ2, "checkIndex", "(I[B)V"⟩
def RJ10 : String := "java/lang/System"
def TJ10 : u_T := fun k => match k with
  | _ => ("", "", "", false)
def tyJ10 : Nat → FieldType := fun k => match k with
  | _ => .int
abbrev wsJ100 : List Cond := u_ws RJ10 TJ10 0
theorem nmJ10 : ∀ a, a < 0 → ∀ b, b < 0 → a ≠ b → (TJ10 a).2.1 ≠ (TJ10 b).2.1 := by decide +kernel
theorem tyJ10_ok : ∀ k, k < 0 → parseFieldDescriptor (TJ10 k).2.2.1 = some (tyJ10 k) := by decide +kernel
def RJ3 : String := "jdk/internal/util/Preconditions"
def TJ3 : u_T := fun k => match k with
  | _ => ("", "", "", false)
def tyJ3 : Nat → FieldType := fun k => match k with
  | _ => .int
abbrev wsJ30 : List Cond := u_ws RJ3 TJ3 0
theorem nmJ3 : ∀ a, a < 0 → ∀ b, b < 0 → a ≠ b → (TJ3 a).2.1 ≠ (TJ3 b).2.1 := by decide +kernel
theorem tyJ3_ok : ∀ k, k < 0 → parseFieldDescriptor (TJ3 k).2.2.1 = some (tyJ3 k) := by decide +kernel
abbrev cJ3_checkIndex_8e157 : ByteArray := prog_15_method_11_code
def yJ3_checkIndex_8e157 : MethodName := ⟨RJ3, "checkIndex", "(IILjava/util/function/BiFunction;)I"⟩
def RL : String := "FourOnOneLaw"
abbrev cL_law : ByteArray := code
def yL_law : MethodName := ⟨RL, "law", "([I)Z"⟩
def wsX0_init : List Cond := .code yX0_init cX0_init 1 none :: ([.methodLink RX0 3 objectInit, .instanceMethod objectInit, .code objectInit ⟨#[0xb1]⟩ 1 none, .fieldLink RX0 9 "FourOnOne$Account" "time" "I", .fieldLink RX0 15 "FourOnOne$Account" "presses" "I", .arrayClass .int, .fieldLink RX0 18 "FourOnOne$Account" "taste" "[I", .fieldLink RX0 22 "FourOnOne$Account" "seen" "[I", .fieldLink RX0 25 "FourOnOne$Account" "saw" "[I", .fieldLink RX0 28 "FourOnOne$Account" "kept" "[I", .fieldLink RX0 31 "FourOnOne$Account" "keptEver" "I"] ++ wsX00)
abbrev vwCl : List vw_C := [(RX0, TX0, 7), (RX1, TX1, 6), (RX2, TX2, 16), (RX3, TX3, 3), (RX4, TX4, 17), (RX5, TX5, 16), (RX6, TX6, 103)]
end
section
/-! An abstract machine: memory by indices, one step of a method by its table, and its runs. -/
/-- kinds (0: none; 1, c: an object of class c; 2, n: ints; 3, n: longs; 4, n: chars; 5, n: accounts; 6, n: rows of ints), ints, longs, references, the next index, slots made -/
abbrev am_M : Type := (Nat → Nat × Nat) × (Nat → Nat → Int32) × (Nat → Nat → Int64) × (Nat → Nat → Option Nat) × Nat × Nat
def am_K (M : am_M) : Nat → Nat × Nat := M.1
def am_I (M : am_M) : Nat → Nat → Int32 := M.2.1
def am_L (M : am_M) : Nat → Nat → Int64 := M.2.2.1
def am_R (M : am_M) : Nat → Nat → Option Nat := M.2.2.2.1
def am_n (M : am_M) : Nat := M.2.2.2.2.1
def am_s (M : am_M) : Nat := M.2.2.2.2.2
def am_w {α : Type} (f : Nat → Nat → α) (a j : Nat) (v : α) : Nat → Nat → α := fun b k => if b = a ∧ k = j then v else f b k
def am_sI (M : am_M) (a j : Nat) (v : Int32) : am_M := (am_K M, am_w (am_I M) a j v, am_L M, am_R M, am_n M, am_s M)
def am_sL (M : am_M) (a j : Nat) (v : Int64) : am_M := (am_K M, am_I M, am_w (am_L M) a j v, am_R M, am_n M, am_s M)
def am_sR (M : am_M) (a j : Nat) (v : Nat) : am_M := (am_K M, am_I M, am_L M, am_w (am_R M) a j (some v), am_n M, am_s M)
/-- n slots of a row of ints, over those of another -/
def am_cp (M : am_M) (a sp b dp n : Nat) : am_M := (am_K M, fun c k => if c = b ∧ dp ≤ k ∧ k < dp + n then am_I M a (sp + (k - dp)) else am_I M c k, am_L M, am_R M, am_n M, am_s M)
/-- a new cell of kind q, with w slots -/
def am_nw (M : am_M) (q : Nat × Nat) (w : Nat) : am_M := (fun b => if b = am_n M then q else am_K M b, fun b k => if b = am_n M then 0 else am_I M b k, fun b k => if b = am_n M then 0 else am_L M b k, fun b k => if b = am_n M then none else am_R M b k, am_n M + 1, am_s M + w)
/-- n rows of k ints, and the row of them ahead -/
def am_nm (M : am_M) (n k : Nat) : am_M := (fun b => if b = am_n M then (6, n) else if am_n M < b ∧ b < am_n M + 1 + n then (2, k) else am_K M b, fun b j => if am_n M ≤ b ∧ b < am_n M + 1 + n then 0 else am_I M b j, fun b j => if am_n M ≤ b ∧ b < am_n M + 1 + n then 0 else am_L M b j, fun b j => if b = am_n M then (if j < n then some (am_n M + 1 + j) else none) else if am_n M < b ∧ b < am_n M + 1 + n then none else am_R M b j, am_n M + 1 + n, am_s M + n + n * k)
def am_i (z : Int) : Int32 := Int32.ofInt z
def am_l (z : Int) : Int64 := Int64.ofInt z
def am_nth : List Value → Nat → Value
  | [], _ => .null
  | v :: _, 0 => v
  | _ :: l, k + 1 => am_nth l k
def am_kl : Value → Value
  | .long _ => .null
  | .double _ => .null
  | v => v
/-- a local of one word; a long whose second word it is goes -/
def am_st1 : List Value → Nat → Value → List Value
  | [], _, _ => []
  | _ :: l, 0, v => v :: l
  | x :: l, 1, v => am_kl x :: am_st1 l 0 v
  | x :: l, k + 2, v => x :: am_st1 l (k + 1) v
def am_kh : List Value → List Value
  | [] => []
  | _ :: l => .null :: l
/-- a local of two words -/
def am_st2 : List Value → Nat → Value → List Value
  | [], _, _ => []
  | _ :: l, 0, v => v :: am_kh l
  | x :: l, 1, v => am_kl x :: am_st2 l 0 v
  | x :: l, k + 2, v => x :: am_st2 l (k + 1) v
/-- a method's first locals -/
def am_loc : List Value → List Value
  | [] => []
  | .long x :: l => .long x :: .null :: am_loc l
  | .double x :: l => .double x :: .null :: am_loc l
  | v :: l => v :: am_loc l
def am_pad : List Value → Nat → List Value
  | l, 0 => l
  | [], n + 1 => .null :: am_pad [] n
  | v :: l, n + 1 => v :: am_pad l n
def am_cat : List Value → Nat
  | [] => 0
  | v :: l => v.category + am_cat l
def am_find {α : Type} : List (Nat × α) → Nat → Option α
  | [], _ => none
  | (a, x) :: l, k => bif Nat.beq a k then some x else am_find l k
end
section
/-! every method: its head, its table -/
def am_cR : Nat → String := fun c => match c with
  | 0 => RX0
  | 1 => RX1
  | 2 => RX2
  | 3 => RX3
  | 4 => RX4
  | 5 => RX5
  | _ => RX6
def am_cT : Nat → u_T := fun c => match c with
  | 0 => TX0
  | 1 => TX1
  | 2 => TX2
  | 3 => TX3
  | 4 => TX4
  | 5 => TX5
  | _ => TX6
def am_ty : Nat → Nat → FieldType := fun c => match c with
  | 0 => tyX0
  | 1 => tyX1
  | 2 => tyX2
  | 3 => tyX3
  | 4 => tyX4
  | 5 => tyX5
  | _ => tyX6
def am_nf : Nat → Nat := fun c => match c with
  | 0 => 7
  | 1 => 6
  | 2 => 16
  | 3 => 3
  | 4 => 17
  | 5 => 16
  | _ => 103
/-- a field's sort: 1 int, 2 long, 3 a reference, 4 a truth -/
def am_tf : FieldType → Nat
  | .int => 1
  | .long => 2
  | .boolean => 4
  | _ => 3
def am_ft (c k : Nat) : Nat := am_tf (am_ty c k)
def am_words : String := "kind film parts is person at to likes press learns fades may screens price bother strange hour taste weight seen score worth number or and not all min max first last often total most least "
/-- an instruction of a table: it, its length, three numbers, the place of its word, a number, a switch's rows -/
abbrev am_E : Type := Instr × Nat × Nat × Nat × Nat × Nat × Int × List (Int × Nat)
/-- a method's head: name, bytes, locals, what it answers, kind (0 static, 1 virtual, 2 a constructor, 3 the law), sort of answer, arguments, class, places of its words -/
abbrev am_S : Type := MethodName × ByteArray × Nat × Option FieldType × Nat × Nat × Nat × Nat × Nat × Nat × Nat × Nat
noncomputable def am_s0 : am_S := (yL_law, cL_law, 4, (some .boolean), 3, 4, 1, 99, 0, 0, 0, 0)
noncomputable def am_c0_0 : List (Nat × am_E) := [(0, .new 7, 3, 5, 16, 0, 179, 0, []), (3, .dup, 1, 0, 0, 0, 0, 0, []), (4, .invokespecial 9, 3, 1, 1, 0, 181, 0, []), (7, .astore_n 1, 1, 1, 0, 0, 0, 0, []), (8, .new 10, 3, 6, 103, 0, 1059, 0, []), (11, .dup, 1, 0, 0, 0, 0, 0, []),
  (12, .invokespecial 12, 3, 126, 1, 0, 1061, 0, []), (15, .astore_n 2, 1, 2, 0, 0, 0, 0, []), (16, .iconst 0, 1, 0, 0, 0, 0, 0, []), (17, .istore_n 3, 1, 3, 0, 0, 0, 0, []), (18, .iload_n 3, 1, 3, 0, 0, 0, 0, []), (19, .aload_n 0, 1, 0, 0, 0, 0, 0, []),
  (20, .arraylength, 1, 0, 0, 0, 0, 0, []), (21, .bipush 6, 2, 0, 0, 0, 0, 6, []), (23, .isub, 1, 0, 0, 0, 0, 0, []), (24, .if_icmp .gt 1149, 3, 1173, 0, 0, 0, 0, []), (27, .aload_n 0, 1, 0, 0, 0, 0, 0, []), (28, .iload_n 3, 1, 3, 0, 0, 0, 0, []),
  (29, .iaload, 1, 0, 0, 0, 0, 0, []), (30, .bipush 63, 2, 0, 0, 0, 0, 63, []), (32, .iand, 1, 0, 0, 0, 0, 0, []), (33, .tableswitch 1134 0 34 #[155, 218, 241, 254, 277, 300, 343, 376, 409, 442, 475, 498, 531, 564, 598, 631, 665, 688, 721, 754, 797, 830, 853, 866, 889, 922, 956, 979, 1002, 1015, 1038, 1062, 1075, 1098, 1111], 155, 1167, 0, 0, 0, 0, [(0, 188), (1, 251), (2, 274), (3, 287), (4, 310), (5, 333), (6, 376), (7, 409), (8, 442), (9, 475), (10, 508), (11, 531), (12, 564), (13, 597), (14, 631), (15, 664), (16, 698), (17, 721), (18, 754), (19, 787), (20, 830), (21, 863), (22, 886), (23, 899), (24, 922), (25, 955), (26, 989), (27, 1012), (28, 1035), (29, 1048), (30, 1071), (31, 1095), (32, 1108), (33, 1131), (34, 1144)]), (188, .aload_n 1, 1, 1, 0, 0, 0, 0, []), (189, .aload_n 0, 1, 0, 0, 0, 0, 0, []),
  (190, .iload_n 3, 1, 3, 0, 0, 0, 0, []), (191, .iconst 1, 1, 0, 0, 0, 0, 1, []), (192, .iadd, 1, 0, 0, 0, 0, 0, []), (193, .iaload, 1, 0, 0, 0, 0, 0, []), (194, .aload_n 0, 1, 0, 0, 0, 0, 0, []), (195, .iload_n 3, 1, 3, 0, 0, 0, 0, []),
  (196, .iconst 2, 1, 0, 0, 0, 0, 2, []), (197, .iadd, 1, 0, 0, 0, 0, 0, []), (198, .iaload, 1, 0, 0, 0, 0, 0, []), (199, .aload_n 0, 1, 0, 0, 0, 0, 0, []), (200, .iload_n 3, 1, 3, 0, 0, 0, 0, []), (201, .iconst 3, 1, 0, 0, 0, 0, 3, []),
  (202, .iadd, 1, 0, 0, 0, 0, 0, []), (203, .iaload, 1, 0, 0, 0, 0, 0, []), (204, .aload_n 0, 1, 0, 0, 0, 0, 0, []), (205, .iload_n 3, 1, 3, 0, 0, 0, 0, []), (206, .iconst 4, 1, 0, 0, 0, 0, 4, []), (207, .iadd, 1, 0, 0, 0, 0, 0, []),
  (208, .iaload, 1, 0, 0, 0, 0, 0, []), (209, .aload_n 0, 1, 0, 0, 0, 0, 0, []), (210, .iload_n 3, 1, 3, 0, 0, 0, 0, []), (211, .iconst 5, 1, 0, 0, 0, 0, 5, []), (212, .iadd, 1, 0, 0, 0, 0, 0, []), (213, .iaload, 1, 0, 0, 0, 0, 0, []),
  (214, .invokevirtual 13, 3, 2, 6, 1, 536, 5, []), (217, .aload_n 2, 1, 2, 0, 0, 0, 0, []), (218, .aload_n 0, 1, 0, 0, 0, 0, 0, []), (219, .iload_n 3, 1, 3, 0, 0, 0, 0, []), (220, .iconst 1, 1, 0, 0, 0, 0, 1, []), (221, .iadd, 1, 0, 0, 0, 0, 0, []),
  (222, .iaload, 1, 0, 0, 0, 0, 0, []), (223, .aload_n 0, 1, 0, 0, 0, 0, 0, []), (224, .iload_n 3, 1, 3, 0, 0, 0, 0, []), (225, .iconst 2, 1, 0, 0, 0, 0, 2, []), (226, .iadd, 1, 0, 0, 0, 0, 0, []), (227, .iaload, 1, 0, 0, 0, 0, 0, []),
  (228, .aload_n 0, 1, 0, 0, 0, 0, 0, []), (229, .iload_n 3, 1, 3, 0, 0, 0, 0, []), (230, .iconst 3, 1, 0, 0, 0, 0, 3, []), (231, .iadd, 1, 0, 0, 0, 0, 0, []), (232, .iaload, 1, 0, 0, 0, 0, 0, []), (233, .aload_n 0, 1, 0, 0, 0, 0, 0, []),
  (234, .iload_n 3, 1, 3, 0, 0, 0, 0, []), (235, .iconst 4, 1, 0, 0, 0, 0, 4, []), (236, .iadd, 1, 0, 0, 0, 0, 0, []), (237, .iaload, 1, 0, 0, 0, 0, 0, []), (238, .aload_n 0, 1, 0, 0, 0, 0, 0, []), (239, .iload_n 3, 1, 3, 0, 0, 0, 0, []),
  (240, .iconst 5, 1, 0, 0, 0, 0, 5, []), (241, .iadd, 1, 0, 0, 0, 0, 0, []), (242, .iaload, 1, 0, 0, 0, 0, 0, []), (243, .invokevirtual 17, 3, 128, 6, 1, 1376, 6, []), (246, .if_icmp .eq 921, 3, 1167, 0, 0, 0, 0, []), (249, .iconst 0, 1, 0, 0, 0, 0, 0, []),
  (250, .ireturn, 1, 0, 0, 4, 0, 0, []), (251, .aload_n 1, 1, 1, 0, 0, 0, 0, []), (252, .aload_n 0, 1, 0, 0, 0, 0, 0, []), (253, .iload_n 3, 1, 3, 0, 0, 0, 0, []), (254, .iconst 1, 1, 0, 0, 0, 0, 1, []), (255, .iadd, 1, 0, 0, 0, 0, 0, []),
  (256, .iaload, 1, 0, 0, 0, 0, 0, []), (257, .invokevirtual 18, 3, 3, 2, 4, 548, 5, []), (260, .aload_n 2, 1, 2, 0, 0, 0, 0, []), (261, .aload_n 0, 1, 0, 0, 0, 0, 0, []), (262, .iload_n 3, 1, 3, 0, 0, 0, 0, []), (263, .iconst 1, 1, 0, 0, 0, 0, 1, []),
  (264, .iadd, 1, 0, 0, 0, 0, 0, []), (265, .iaload, 1, 0, 0, 0, 0, 0, []), (266, .invokevirtual 22, 3, 129, 2, 4, 1380, 6, []), (269, .if_icmp .eq 898, 3, 1167, 0, 0, 0, 0, []), (272, .iconst 0, 1, 0, 0, 0, 0, 0, []), (273, .ireturn, 1, 0, 0, 4, 0, 0, []),
  (274, .aload_n 1, 1, 1, 0, 0, 0, 0, []), (275, .invokevirtual 23, 3, 4, 1, 1, 552, 5, []), (278, .aload_n 2, 1, 2, 0, 0, 0, 0, []), (279, .invokevirtual 27, 3, 155, 1, 1, 1384, 6, [])]
noncomputable def am_c0_1 : List (Nat × am_E) := [(282, .if_icmp .eq 885, 3, 1167, 0, 0, 0, 0, []), (285, .iconst 0, 1, 0, 0, 0, 0, 0, []), (286, .ireturn, 1, 0, 0, 4, 0, 0, []), (287, .aload_n 1, 1, 1, 0, 0, 0, 0, []), (288, .aload_n 0, 1, 0, 0, 0, 0, 0, []), (289, .iload_n 3, 1, 3, 0, 0, 0, 0, []),
  (290, .iconst 1, 1, 0, 0, 0, 0, 1, []), (291, .iadd, 1, 0, 0, 0, 0, 0, []), (292, .iaload, 1, 0, 0, 0, 0, 0, []), (293, .invokevirtual 28, 3, 5, 2, 1, 695, 5, []), (296, .aload_n 2, 1, 2, 0, 0, 0, 0, []), (297, .aload_n 0, 1, 0, 0, 0, 0, 0, []),
  (298, .iload_n 3, 1, 3, 0, 0, 0, 0, []), (299, .iconst 1, 1, 0, 0, 0, 0, 1, []), (300, .iadd, 1, 0, 0, 0, 0, 0, []), (301, .iaload, 1, 0, 0, 0, 0, 0, []), (302, .invokevirtual 32, 3, 157, 2, 1, 1580, 6, []), (305, .if_icmp .eq 862, 3, 1167, 0, 0, 0, 0, []),
  (308, .iconst 0, 1, 0, 0, 0, 0, 0, []), (309, .ireturn, 1, 0, 0, 4, 0, 0, []), (310, .aload_n 1, 1, 1, 0, 0, 0, 0, []), (311, .aload_n 0, 1, 0, 0, 0, 0, 0, []), (312, .iload_n 3, 1, 3, 0, 0, 0, 0, []), (313, .iconst 1, 1, 0, 0, 0, 0, 1, []),
  (314, .iadd, 1, 0, 0, 0, 0, 0, []), (315, .iaload, 1, 0, 0, 0, 0, 0, []), (316, .invokevirtual 33, 3, 6, 2, 1, 699, 5, []), (319, .aload_n 2, 1, 2, 0, 0, 0, 0, []), (320, .aload_n 0, 1, 0, 0, 0, 0, 0, []), (321, .iload_n 3, 1, 3, 0, 0, 0, 0, []),
  (322, .iconst 1, 1, 0, 0, 0, 0, 1, []), (323, .iadd, 1, 0, 0, 0, 0, 0, []), (324, .iaload, 1, 0, 0, 0, 0, 0, []), (325, .invokevirtual 36, 3, 195, 2, 1, 1584, 6, []), (328, .if_icmp .eq 839, 3, 1167, 0, 0, 0, 0, []), (331, .iconst 0, 1, 0, 0, 0, 0, 0, []),
  (332, .ireturn, 1, 0, 0, 4, 0, 0, []), (333, .aload_n 1, 1, 1, 0, 0, 0, 0, []), (334, .aload_n 0, 1, 0, 0, 0, 0, 0, []), (335, .iload_n 3, 1, 3, 0, 0, 0, 0, []), (336, .iconst 1, 1, 0, 0, 0, 0, 1, []), (337, .iadd, 1, 0, 0, 0, 0, 0, []),
  (338, .iaload, 1, 0, 0, 0, 0, 0, []), (339, .aload_n 0, 1, 0, 0, 0, 0, 0, []), (340, .iload_n 3, 1, 3, 0, 0, 0, 0, []), (341, .iconst 2, 1, 0, 0, 0, 0, 2, []), (342, .iadd, 1, 0, 0, 0, 0, 0, []), (343, .iaload, 1, 0, 0, 0, 0, 0, []),
  (344, .aload_n 0, 1, 0, 0, 0, 0, 0, []), (345, .iload_n 3, 1, 3, 0, 0, 0, 0, []), (346, .iconst 3, 1, 0, 0, 0, 0, 3, []), (347, .iadd, 1, 0, 0, 0, 0, 0, []), (348, .iaload, 1, 0, 0, 0, 0, 0, []), (349, .invokevirtual 37, 3, 7, 4, 1, 718, 5, []),
  (352, .aload_n 2, 1, 2, 0, 0, 0, 0, []), (353, .aload_n 0, 1, 0, 0, 0, 0, 0, []), (354, .iload_n 3, 1, 3, 0, 0, 0, 0, []), (355, .iconst 1, 1, 0, 0, 0, 0, 1, []), (356, .iadd, 1, 0, 0, 0, 0, 0, []), (357, .iaload, 1, 0, 0, 0, 0, 0, []),
  (358, .aload_n 0, 1, 0, 0, 0, 0, 0, []), (359, .iload_n 3, 1, 3, 0, 0, 0, 0, []), (360, .iconst 2, 1, 0, 0, 0, 0, 2, []), (361, .iadd, 1, 0, 0, 0, 0, 0, []), (362, .iaload, 1, 0, 0, 0, 0, 0, []), (363, .aload_n 0, 1, 0, 0, 0, 0, 0, []),
  (364, .iload_n 3, 1, 3, 0, 0, 0, 0, []), (365, .iconst 3, 1, 0, 0, 0, 0, 3, []), (366, .iadd, 1, 0, 0, 0, 0, 0, []), (367, .iaload, 1, 0, 0, 0, 0, 0, []), (368, .invokevirtual 41, 3, 196, 4, 1, 1607, 6, []), (371, .if_icmp .eq 796, 3, 1167, 0, 0, 0, 0, []),
  (374, .iconst 0, 1, 0, 0, 0, 0, 0, []), (375, .ireturn, 1, 0, 0, 4, 0, 0, []), (376, .aload_n 1, 1, 1, 0, 0, 0, 0, []), (377, .aload_n 0, 1, 0, 0, 0, 0, 0, []), (378, .iload_n 3, 1, 3, 0, 0, 0, 0, []), (379, .iconst 1, 1, 0, 0, 0, 0, 1, []),
  (380, .iadd, 1, 0, 0, 0, 0, 0, []), (381, .iaload, 1, 0, 0, 0, 0, 0, []), (382, .aload_n 0, 1, 0, 0, 0, 0, 0, []), (383, .iload_n 3, 1, 3, 0, 0, 0, 0, []), (384, .iconst 2, 1, 0, 0, 0, 0, 2, []), (385, .iadd, 1, 0, 0, 0, 0, 0, []),
  (386, .iaload, 1, 0, 0, 0, 0, 0, []), (387, .invokevirtual 42, 3, 8, 3, 1, 726, 5, []), (390, .aload_n 2, 1, 2, 0, 0, 0, 0, []), (391, .aload_n 0, 1, 0, 0, 0, 0, 0, []), (392, .iload_n 3, 1, 3, 0, 0, 0, 0, []), (393, .iconst 1, 1, 0, 0, 0, 0, 1, []),
  (394, .iadd, 1, 0, 0, 0, 0, 0, []), (395, .iaload, 1, 0, 0, 0, 0, 0, []), (396, .aload_n 0, 1, 0, 0, 0, 0, 0, []), (397, .iload_n 3, 1, 3, 0, 0, 0, 0, []), (398, .iconst 2, 1, 0, 0, 0, 0, 2, []), (399, .iadd, 1, 0, 0, 0, 0, 0, []),
  (400, .iaload, 1, 0, 0, 0, 0, 0, []), (401, .invokevirtual 46, 3, 197, 3, 1, 1612, 6, []), (404, .if_icmp .eq 763, 3, 1167, 0, 0, 0, 0, []), (407, .iconst 0, 1, 0, 0, 0, 0, 0, [])]
noncomputable def am_c0_2 : List (Nat × am_E) := [(408, .ireturn, 1, 0, 0, 4, 0, 0, []), (409, .aload_n 1, 1, 1, 0, 0, 0, 0, []), (410, .aload_n 0, 1, 0, 0, 0, 0, 0, []), (411, .iload_n 3, 1, 3, 0, 0, 0, 0, []), (412, .iconst 1, 1, 0, 0, 0, 0, 1, []), (413, .iadd, 1, 0, 0, 0, 0, 0, []),
  (414, .iaload, 1, 0, 0, 0, 0, 0, []), (415, .aload_n 0, 1, 0, 0, 0, 0, 0, []), (416, .iload_n 3, 1, 3, 0, 0, 0, 0, []), (417, .iconst 2, 1, 0, 0, 0, 0, 2, []), (418, .iadd, 1, 0, 0, 0, 0, 0, []), (419, .iaload, 1, 0, 0, 0, 0, 0, []),
  (420, .invokevirtual 47, 3, 9, 3, 1, 730, 5, []), (423, .aload_n 2, 1, 2, 0, 0, 0, 0, []), (424, .aload_n 0, 1, 0, 0, 0, 0, 0, []), (425, .iload_n 3, 1, 3, 0, 0, 0, 0, []), (426, .iconst 1, 1, 0, 0, 0, 0, 1, []), (427, .iadd, 1, 0, 0, 0, 0, 0, []),
  (428, .iaload, 1, 0, 0, 0, 0, 0, []), (429, .aload_n 0, 1, 0, 0, 0, 0, 0, []), (430, .iload_n 3, 1, 3, 0, 0, 0, 0, []), (431, .iconst 2, 1, 0, 0, 0, 0, 2, []), (432, .iadd, 1, 0, 0, 0, 0, 0, []), (433, .iaload, 1, 0, 0, 0, 0, 0, []),
  (434, .invokevirtual 50, 3, 198, 3, 1, 1640, 6, []), (437, .if_icmp .eq 730, 3, 1167, 0, 0, 0, 0, []), (440, .iconst 0, 1, 0, 0, 0, 0, 0, []), (441, .ireturn, 1, 0, 0, 4, 0, 0, []), (442, .aload_n 1, 1, 1, 0, 0, 0, 0, []), (443, .aload_n 0, 1, 0, 0, 0, 0, 0, []),
  (444, .iload_n 3, 1, 3, 0, 0, 0, 0, []), (445, .iconst 1, 1, 0, 0, 0, 0, 1, []), (446, .iadd, 1, 0, 0, 0, 0, 0, []), (447, .iaload, 1, 0, 0, 0, 0, 0, []), (448, .aload_n 0, 1, 0, 0, 0, 0, 0, []), (449, .iload_n 3, 1, 3, 0, 0, 0, 0, []),
  (450, .iconst 2, 1, 0, 0, 0, 0, 2, []), (451, .iadd, 1, 0, 0, 0, 0, 0, []), (452, .iaload, 1, 0, 0, 0, 0, 0, []), (453, .invokevirtual 51, 3, 10, 3, 1, 734, 5, []), (456, .aload_n 2, 1, 2, 0, 0, 0, 0, []), (457, .aload_n 0, 1, 0, 0, 0, 0, 0, []),
  (458, .iload_n 3, 1, 3, 0, 0, 0, 0, []), (459, .iconst 1, 1, 0, 0, 0, 0, 1, []), (460, .iadd, 1, 0, 0, 0, 0, 0, []), (461, .iaload, 1, 0, 0, 0, 0, 0, []), (462, .aload_n 0, 1, 0, 0, 0, 0, 0, []), (463, .iload_n 3, 1, 3, 0, 0, 0, 0, []),
  (464, .iconst 2, 1, 0, 0, 0, 0, 2, []), (465, .iadd, 1, 0, 0, 0, 0, 0, []), (466, .iaload, 1, 0, 0, 0, 0, 0, []), (467, .invokevirtual 54, 3, 199, 3, 1, 1652, 6, []), (470, .if_icmp .eq 697, 3, 1167, 0, 0, 0, 0, []), (473, .iconst 0, 1, 0, 0, 0, 0, 0, []),
  (474, .ireturn, 1, 0, 0, 4, 0, 0, []), (475, .aload_n 1, 1, 1, 0, 0, 0, 0, []), (476, .aload_n 0, 1, 0, 0, 0, 0, 0, []), (477, .iload_n 3, 1, 3, 0, 0, 0, 0, []), (478, .iconst 1, 1, 0, 0, 0, 0, 1, []), (479, .iadd, 1, 0, 0, 0, 0, 0, []),
  (480, .iaload, 1, 0, 0, 0, 0, 0, []), (481, .aload_n 0, 1, 0, 0, 0, 0, 0, []), (482, .iload_n 3, 1, 3, 0, 0, 0, 0, []), (483, .iconst 2, 1, 0, 0, 0, 0, 2, []), (484, .iadd, 1, 0, 0, 0, 0, 0, []), (485, .iaload, 1, 0, 0, 0, 0, 0, []),
  (486, .invokevirtual 55, 3, 11, 3, 1, 738, 5, []), (489, .aload_n 2, 1, 2, 0, 0, 0, 0, []), (490, .aload_n 0, 1, 0, 0, 0, 0, 0, []), (491, .iload_n 3, 1, 3, 0, 0, 0, 0, []), (492, .iconst 1, 1, 0, 0, 0, 0, 1, []), (493, .iadd, 1, 0, 0, 0, 0, 0, []),
  (494, .iaload, 1, 0, 0, 0, 0, 0, []), (495, .aload_n 0, 1, 0, 0, 0, 0, 0, []), (496, .iload_n 3, 1, 3, 0, 0, 0, 0, []), (497, .iconst 2, 1, 0, 0, 0, 0, 2, []), (498, .iadd, 1, 0, 0, 0, 0, 0, []), (499, .iaload, 1, 0, 0, 0, 0, 0, []),
  (500, .invokevirtual 58, 3, 200, 3, 1, 1660, 6, []), (503, .if_icmp .eq 664, 3, 1167, 0, 0, 0, 0, []), (506, .iconst 0, 1, 0, 0, 0, 0, 0, []), (507, .ireturn, 1, 0, 0, 4, 0, 0, []), (508, .aload_n 1, 1, 1, 0, 0, 0, 0, []), (509, .aload_n 0, 1, 0, 0, 0, 0, 0, []),
  (510, .iload_n 3, 1, 3, 0, 0, 0, 0, []), (511, .iconst 1, 1, 0, 0, 0, 0, 1, []), (512, .iadd, 1, 0, 0, 0, 0, 0, []), (513, .iaload, 1, 0, 0, 0, 0, 0, []), (514, .invokevirtual 59, 3, 12, 2, 1, 742, 5, []), (517, .aload_n 2, 1, 2, 0, 0, 0, 0, []),
  (518, .aload_n 0, 1, 0, 0, 0, 0, 0, []), (519, .iload_n 3, 1, 3, 0, 0, 0, 0, []), (520, .iconst 1, 1, 0, 0, 0, 0, 1, []), (521, .iadd, 1, 0, 0, 0, 0, 0, []), (522, .iaload, 1, 0, 0, 0, 0, 0, []), (523, .invokevirtual 62, 3, 201, 2, 1, 1672, 6, []),
  (526, .if_icmp .eq 641, 3, 1167, 0, 0, 0, 0, []), (529, .iconst 0, 1, 0, 0, 0, 0, 0, []), (530, .ireturn, 1, 0, 0, 4, 0, 0, []), (531, .aload_n 1, 1, 1, 0, 0, 0, 0, [])]
noncomputable def am_c0_3 : List (Nat × am_E) := [(532, .aload_n 0, 1, 0, 0, 0, 0, 0, []), (533, .iload_n 3, 1, 3, 0, 0, 0, 0, []), (534, .iconst 1, 1, 0, 0, 0, 0, 1, []), (535, .iadd, 1, 0, 0, 0, 0, 0, []), (536, .iaload, 1, 0, 0, 0, 0, 0, []), (537, .aload_n 0, 1, 0, 0, 0, 0, 0, []),
  (538, .iload_n 3, 1, 3, 0, 0, 0, 0, []), (539, .iconst 2, 1, 0, 0, 0, 0, 2, []), (540, .iadd, 1, 0, 0, 0, 0, 0, []), (541, .iaload, 1, 0, 0, 0, 0, 0, []), (542, .invokevirtual 63, 3, 13, 3, 1, 796, 5, []), (545, .aload_n 2, 1, 2, 0, 0, 0, 0, []),
  (546, .aload_n 0, 1, 0, 0, 0, 0, 0, []), (547, .iload_n 3, 1, 3, 0, 0, 0, 0, []), (548, .iconst 1, 1, 0, 0, 0, 0, 1, []), (549, .iadd, 1, 0, 0, 0, 0, 0, []), (550, .iaload, 1, 0, 0, 0, 0, 0, []), (551, .aload_n 0, 1, 0, 0, 0, 0, 0, []),
  (552, .iload_n 3, 1, 3, 0, 0, 0, 0, []), (553, .iconst 2, 1, 0, 0, 0, 0, 2, []), (554, .iadd, 1, 0, 0, 0, 0, 0, []), (555, .iaload, 1, 0, 0, 0, 0, 0, []), (556, .invokevirtual 66, 3, 202, 3, 1, 1720, 6, []), (559, .if_icmp .eq 608, 3, 1167, 0, 0, 0, 0, []),
  (562, .iconst 0, 1, 0, 0, 0, 0, 0, []), (563, .ireturn, 1, 0, 0, 4, 0, 0, []), (564, .aload_n 1, 1, 1, 0, 0, 0, 0, []), (565, .aload_n 0, 1, 0, 0, 0, 0, 0, []), (566, .iload_n 3, 1, 3, 0, 0, 0, 0, []), (567, .iconst 1, 1, 0, 0, 0, 0, 1, []),
  (568, .iadd, 1, 0, 0, 0, 0, 0, []), (569, .iaload, 1, 0, 0, 0, 0, 0, []), (570, .aload_n 0, 1, 0, 0, 0, 0, 0, []), (571, .iload_n 3, 1, 3, 0, 0, 0, 0, []), (572, .iconst 2, 1, 0, 0, 0, 0, 2, []), (573, .iadd, 1, 0, 0, 0, 0, 0, []),
  (574, .iaload, 1, 0, 0, 0, 0, 0, []), (575, .invokevirtual 67, 3, 14, 3, 1, 804, 5, []), (578, .aload_n 2, 1, 2, 0, 0, 0, 0, []), (579, .aload_n 0, 1, 0, 0, 0, 0, 0, []), (580, .iload_n 3, 1, 3, 0, 0, 0, 0, []), (581, .iconst 1, 1, 0, 0, 0, 0, 1, []),
  (582, .iadd, 1, 0, 0, 0, 0, 0, []), (583, .iaload, 1, 0, 0, 0, 0, 0, []), (584, .aload_n 0, 1, 0, 0, 0, 0, 0, []), (585, .iload_n 3, 1, 3, 0, 0, 0, 0, []), (586, .iconst 2, 1, 0, 0, 0, 0, 2, []), (587, .iadd, 1, 0, 0, 0, 0, 0, []),
  (588, .iaload, 1, 0, 0, 0, 0, 0, []), (589, .invokevirtual 70, 3, 203, 3, 1, 1724, 6, []), (592, .if_icmp .eq 575, 3, 1167, 0, 0, 0, 0, []), (595, .iconst 0, 1, 0, 0, 0, 0, 0, []), (596, .ireturn, 1, 0, 0, 4, 0, 0, []), (597, .aload_n 1, 1, 1, 0, 0, 0, 0, []),
  (598, .aload_n 0, 1, 0, 0, 0, 0, 0, []), (599, .iload_n 3, 1, 3, 0, 0, 0, 0, []), (600, .iconst 1, 1, 0, 0, 0, 0, 1, []), (601, .iadd, 1, 0, 0, 0, 0, 0, []), (602, .iaload, 1, 0, 0, 0, 0, 0, []), (603, .aload_n 0, 1, 0, 0, 0, 0, 0, []),
  (604, .iload_n 3, 1, 3, 0, 0, 0, 0, []), (605, .iconst 2, 1, 0, 0, 0, 0, 2, []), (606, .iadd, 1, 0, 0, 0, 0, 0, []), (607, .iaload, 1, 0, 0, 0, 0, 0, []), (608, .invokevirtual 71, 3, 15, 3, 2, 813, 5, []), (611, .aload_n 2, 1, 2, 0, 0, 0, 0, []),
  (612, .aload_n 0, 1, 0, 0, 0, 0, 0, []), (613, .iload_n 3, 1, 3, 0, 0, 0, 0, []), (614, .iconst 1, 1, 0, 0, 0, 0, 1, []), (615, .iadd, 1, 0, 0, 0, 0, 0, []), (616, .iaload, 1, 0, 0, 0, 0, 0, []), (617, .aload_n 0, 1, 0, 0, 0, 0, 0, []),
  (618, .iload_n 3, 1, 3, 0, 0, 0, 0, []), (619, .iconst 2, 1, 0, 0, 0, 0, 2, []), (620, .iadd, 1, 0, 0, 0, 0, 0, []), (621, .iaload, 1, 0, 0, 0, 0, 0, []), (622, .invokevirtual 75, 3, 204, 3, 2, 1728, 6, []), (625, .lcmp, 1, 0, 0, 0, 0, 0, []),
  (626, .ifCond .eq 541, 3, 1167, 0, 0, 0, 0, []), (629, .iconst 0, 1, 0, 0, 0, 0, 0, []), (630, .ireturn, 1, 0, 0, 4, 0, 0, []), (631, .aload_n 1, 1, 1, 0, 0, 0, 0, []), (632, .aload_n 0, 1, 0, 0, 0, 0, 0, []), (633, .iload_n 3, 1, 3, 0, 0, 0, 0, []),
  (634, .iconst 1, 1, 0, 0, 0, 0, 1, []), (635, .iadd, 1, 0, 0, 0, 0, 0, []), (636, .iaload, 1, 0, 0, 0, 0, 0, []), (637, .aload_n 0, 1, 0, 0, 0, 0, 0, []), (638, .iload_n 3, 1, 3, 0, 0, 0, 0, []), (639, .iconst 2, 1, 0, 0, 0, 0, 2, []),
  (640, .iadd, 1, 0, 0, 0, 0, 0, []), (641, .iaload, 1, 0, 0, 0, 0, 0, []), (642, .invokevirtual 76, 3, 16, 3, 1, 869, 5, []), (645, .aload_n 2, 1, 2, 0, 0, 0, 0, []), (646, .aload_n 0, 1, 0, 0, 0, 0, 0, []), (647, .iload_n 3, 1, 3, 0, 0, 0, 0, []),
  (648, .iconst 1, 1, 0, 0, 0, 0, 1, []), (649, .iadd, 1, 0, 0, 0, 0, 0, []), (650, .iaload, 1, 0, 0, 0, 0, 0, []), (651, .aload_n 0, 1, 0, 0, 0, 0, 0, [])]
noncomputable def am_c0_4 : List (Nat × am_E) := [(652, .iload_n 3, 1, 3, 0, 0, 0, 0, []), (653, .iconst 2, 1, 0, 0, 0, 0, 2, []), (654, .iadd, 1, 0, 0, 0, 0, 0, []), (655, .iaload, 1, 0, 0, 0, 0, 0, []), (656, .invokevirtual 79, 3, 205, 3, 1, 1785, 6, []), (659, .if_icmp .eq 508, 3, 1167, 0, 0, 0, 0, []),
  (662, .iconst 0, 1, 0, 0, 0, 0, 0, []), (663, .ireturn, 1, 0, 0, 4, 0, 0, []), (664, .aload_n 1, 1, 1, 0, 0, 0, 0, []), (665, .aload_n 0, 1, 0, 0, 0, 0, 0, []), (666, .iload_n 3, 1, 3, 0, 0, 0, 0, []), (667, .iconst 1, 1, 0, 0, 0, 0, 1, []),
  (668, .iadd, 1, 0, 0, 0, 0, 0, []), (669, .iaload, 1, 0, 0, 0, 0, 0, []), (670, .aload_n 0, 1, 0, 0, 0, 0, 0, []), (671, .iload_n 3, 1, 3, 0, 0, 0, 0, []), (672, .iconst 2, 1, 0, 0, 0, 0, 2, []), (673, .iadd, 1, 0, 0, 0, 0, 0, []),
  (674, .iaload, 1, 0, 0, 0, 0, 0, []), (675, .invokevirtual 80, 3, 17, 3, 2, 873, 5, []), (678, .aload_n 2, 1, 2, 0, 0, 0, 0, []), (679, .aload_n 0, 1, 0, 0, 0, 0, 0, []), (680, .iload_n 3, 1, 3, 0, 0, 0, 0, []), (681, .iconst 1, 1, 0, 0, 0, 0, 1, []),
  (682, .iadd, 1, 0, 0, 0, 0, 0, []), (683, .iaload, 1, 0, 0, 0, 0, 0, []), (684, .aload_n 0, 1, 0, 0, 0, 0, 0, []), (685, .iload_n 3, 1, 3, 0, 0, 0, 0, []), (686, .iconst 2, 1, 0, 0, 0, 0, 2, []), (687, .iadd, 1, 0, 0, 0, 0, 0, []),
  (688, .iaload, 1, 0, 0, 0, 0, 0, []), (689, .invokevirtual 83, 3, 207, 3, 2, 1789, 6, []), (692, .lcmp, 1, 0, 0, 0, 0, 0, []), (693, .ifCond .eq 474, 3, 1167, 0, 0, 0, 0, []), (696, .iconst 0, 1, 0, 0, 0, 0, 0, []), (697, .ireturn, 1, 0, 0, 4, 0, 0, []),
  (698, .aload_n 1, 1, 1, 0, 0, 0, 0, []), (699, .aload_n 0, 1, 0, 0, 0, 0, 0, []), (700, .iload_n 3, 1, 3, 0, 0, 0, 0, []), (701, .iconst 1, 1, 0, 0, 0, 0, 1, []), (702, .iadd, 1, 0, 0, 0, 0, 0, []), (703, .iaload, 1, 0, 0, 0, 0, 0, []),
  (704, .invokevirtual 84, 3, 18, 2, 1, 877, 5, []), (707, .aload_n 2, 1, 2, 0, 0, 0, 0, []), (708, .aload_n 0, 1, 0, 0, 0, 0, 0, []), (709, .iload_n 3, 1, 3, 0, 0, 0, 0, []), (710, .iconst 1, 1, 0, 0, 0, 0, 1, []), (711, .iadd, 1, 0, 0, 0, 0, 0, []),
  (712, .iaload, 1, 0, 0, 0, 0, 0, []), (713, .invokevirtual 87, 3, 209, 2, 1, 1797, 6, []), (716, .if_icmp .eq 451, 3, 1167, 0, 0, 0, 0, []), (719, .iconst 0, 1, 0, 0, 0, 0, 0, []), (720, .ireturn, 1, 0, 0, 4, 0, 0, []), (721, .aload_n 1, 1, 1, 0, 0, 0, 0, []),
  (722, .aload_n 0, 1, 0, 0, 0, 0, 0, []), (723, .iload_n 3, 1, 3, 0, 0, 0, 0, []), (724, .iconst 1, 1, 0, 0, 0, 0, 1, []), (725, .iadd, 1, 0, 0, 0, 0, 0, []), (726, .iaload, 1, 0, 0, 0, 0, 0, []), (727, .aload_n 0, 1, 0, 0, 0, 0, 0, []),
  (728, .iload_n 3, 1, 3, 0, 0, 0, 0, []), (729, .iconst 2, 1, 0, 0, 0, 0, 2, []), (730, .iadd, 1, 0, 0, 0, 0, 0, []), (731, .iaload, 1, 0, 0, 0, 0, 0, []), (732, .invokevirtual 88, 3, 19, 3, 1, 886, 5, []), (735, .aload_n 2, 1, 2, 0, 0, 0, 0, []),
  (736, .aload_n 0, 1, 0, 0, 0, 0, 0, []), (737, .iload_n 3, 1, 3, 0, 0, 0, 0, []), (738, .iconst 1, 1, 0, 0, 0, 0, 1, []), (739, .iadd, 1, 0, 0, 0, 0, 0, []), (740, .iaload, 1, 0, 0, 0, 0, 0, []), (741, .aload_n 0, 1, 0, 0, 0, 0, 0, []),
  (742, .iload_n 3, 1, 3, 0, 0, 0, 0, []), (743, .iconst 2, 1, 0, 0, 0, 0, 2, []), (744, .iadd, 1, 0, 0, 0, 0, 0, []), (745, .iaload, 1, 0, 0, 0, 0, 0, []), (746, .invokevirtual 91, 3, 210, 3, 1, 1805, 6, []), (749, .if_icmp .eq 418, 3, 1167, 0, 0, 0, 0, []),
  (752, .iconst 0, 1, 0, 0, 0, 0, 0, []), (753, .ireturn, 1, 0, 0, 4, 0, 0, []), (754, .aload_n 1, 1, 1, 0, 0, 0, 0, []), (755, .aload_n 0, 1, 0, 0, 0, 0, 0, []), (756, .iload_n 3, 1, 3, 0, 0, 0, 0, []), (757, .iconst 1, 1, 0, 0, 0, 0, 1, []),
  (758, .iadd, 1, 0, 0, 0, 0, 0, []), (759, .iaload, 1, 0, 0, 0, 0, 0, []), (760, .aload_n 0, 1, 0, 0, 0, 0, 0, []), (761, .iload_n 3, 1, 3, 0, 0, 0, 0, []), (762, .iconst 2, 1, 0, 0, 0, 0, 2, []), (763, .iadd, 1, 0, 0, 0, 0, 0, []),
  (764, .iaload, 1, 0, 0, 0, 0, 0, []), (765, .invokevirtual 92, 3, 20, 3, 1, 892, 5, []), (768, .aload_n 2, 1, 2, 0, 0, 0, 0, []), (769, .aload_n 0, 1, 0, 0, 0, 0, 0, []), (770, .iload_n 3, 1, 3, 0, 0, 0, 0, []), (771, .iconst 1, 1, 0, 0, 0, 0, 1, []),
  (772, .iadd, 1, 0, 0, 0, 0, 0, []), (773, .iaload, 1, 0, 0, 0, 0, 0, []), (774, .aload_n 0, 1, 0, 0, 0, 0, 0, []), (775, .iload_n 3, 1, 3, 0, 0, 0, 0, [])]
noncomputable def am_c0_5 : List (Nat × am_E) := [(776, .iconst 2, 1, 0, 0, 0, 0, 2, []), (777, .iadd, 1, 0, 0, 0, 0, 0, []), (778, .iaload, 1, 0, 0, 0, 0, 0, []), (779, .invokevirtual 95, 3, 211, 3, 1, 1809, 6, []), (782, .if_icmp .eq 385, 3, 1167, 0, 0, 0, 0, []), (785, .iconst 0, 1, 0, 0, 0, 0, 0, []),
  (786, .ireturn, 1, 0, 0, 4, 0, 0, []), (787, .aload_n 1, 1, 1, 0, 0, 0, 0, []), (788, .aload_n 0, 1, 0, 0, 0, 0, 0, []), (789, .iload_n 3, 1, 3, 0, 0, 0, 0, []), (790, .iconst 1, 1, 0, 0, 0, 0, 1, []), (791, .iadd, 1, 0, 0, 0, 0, 0, []),
  (792, .iaload, 1, 0, 0, 0, 0, 0, []), (793, .aload_n 0, 1, 0, 0, 0, 0, 0, []), (794, .iload_n 3, 1, 3, 0, 0, 0, 0, []), (795, .iconst 2, 1, 0, 0, 0, 0, 2, []), (796, .iadd, 1, 0, 0, 0, 0, 0, []), (797, .iaload, 1, 0, 0, 0, 0, 0, []),
  (798, .aload_n 0, 1, 0, 0, 0, 0, 0, []), (799, .iload_n 3, 1, 3, 0, 0, 0, 0, []), (800, .iconst 3, 1, 0, 0, 0, 0, 3, []), (801, .iadd, 1, 0, 0, 0, 0, 0, []), (802, .iaload, 1, 0, 0, 0, 0, 0, []), (803, .invokevirtual 96, 3, 21, 4, 1, 901, 5, []),
  (806, .aload_n 2, 1, 2, 0, 0, 0, 0, []), (807, .aload_n 0, 1, 0, 0, 0, 0, 0, []), (808, .iload_n 3, 1, 3, 0, 0, 0, 0, []), (809, .iconst 1, 1, 0, 0, 0, 0, 1, []), (810, .iadd, 1, 0, 0, 0, 0, 0, []), (811, .iaload, 1, 0, 0, 0, 0, 0, []),
  (812, .aload_n 0, 1, 0, 0, 0, 0, 0, []), (813, .iload_n 3, 1, 3, 0, 0, 0, 0, []), (814, .iconst 2, 1, 0, 0, 0, 0, 2, []), (815, .iadd, 1, 0, 0, 0, 0, 0, []), (816, .iaload, 1, 0, 0, 0, 0, 0, []), (817, .aload_n 0, 1, 0, 0, 0, 0, 0, []),
  (818, .iload_n 3, 1, 3, 0, 0, 0, 0, []), (819, .iconst 3, 1, 0, 0, 0, 0, 3, []), (820, .iadd, 1, 0, 0, 0, 0, 0, []), (821, .iaload, 1, 0, 0, 0, 0, 0, []), (822, .invokevirtual 99, 3, 212, 4, 1, 1813, 6, []), (825, .if_icmp .eq 342, 3, 1167, 0, 0, 0, 0, []),
  (828, .iconst 0, 1, 0, 0, 0, 0, 0, []), (829, .ireturn, 1, 0, 0, 4, 0, 0, []), (830, .aload_n 1, 1, 1, 0, 0, 0, 0, []), (831, .aload_n 0, 1, 0, 0, 0, 0, 0, []), (832, .iload_n 3, 1, 3, 0, 0, 0, 0, []), (833, .iconst 1, 1, 0, 0, 0, 0, 1, []),
  (834, .iadd, 1, 0, 0, 0, 0, 0, []), (835, .iaload, 1, 0, 0, 0, 0, 0, []), (836, .aload_n 0, 1, 0, 0, 0, 0, 0, []), (837, .iload_n 3, 1, 3, 0, 0, 0, 0, []), (838, .iconst 2, 1, 0, 0, 0, 0, 2, []), (839, .iadd, 1, 0, 0, 0, 0, 0, []),
  (840, .iaload, 1, 0, 0, 0, 0, 0, []), (841, .invokevirtual 100, 3, 22, 3, 1, 907, 5, []), (844, .aload_n 2, 1, 2, 0, 0, 0, 0, []), (845, .aload_n 0, 1, 0, 0, 0, 0, 0, []), (846, .iload_n 3, 1, 3, 0, 0, 0, 0, []), (847, .iconst 1, 1, 0, 0, 0, 0, 1, []),
  (848, .iadd, 1, 0, 0, 0, 0, 0, []), (849, .iaload, 1, 0, 0, 0, 0, 0, []), (850, .aload_n 0, 1, 0, 0, 0, 0, 0, []), (851, .iload_n 3, 1, 3, 0, 0, 0, 0, []), (852, .iconst 2, 1, 0, 0, 0, 0, 2, []), (853, .iadd, 1, 0, 0, 0, 0, 0, []),
  (854, .iaload, 1, 0, 0, 0, 0, 0, []), (855, .invokevirtual 103, 3, 215, 3, 1, 1818, 6, []), (858, .if_icmp .eq 309, 3, 1167, 0, 0, 0, 0, []), (861, .iconst 0, 1, 0, 0, 0, 0, 0, []), (862, .ireturn, 1, 0, 0, 4, 0, 0, []), (863, .aload_n 1, 1, 1, 0, 0, 0, 0, []),
  (864, .aload_n 0, 1, 0, 0, 0, 0, 0, []), (865, .iload_n 3, 1, 3, 0, 0, 0, 0, []), (866, .iconst 1, 1, 0, 0, 0, 0, 1, []), (867, .iadd, 1, 0, 0, 0, 0, 0, []), (868, .iaload, 1, 0, 0, 0, 0, 0, []), (869, .invokevirtual 104, 3, 23, 2, 1, 924, 5, []),
  (872, .aload_n 2, 1, 2, 0, 0, 0, 0, []), (873, .aload_n 0, 1, 0, 0, 0, 0, 0, []), (874, .iload_n 3, 1, 3, 0, 0, 0, 0, []), (875, .iconst 1, 1, 0, 0, 0, 0, 1, []), (876, .iadd, 1, 0, 0, 0, 0, 0, []), (877, .iaload, 1, 0, 0, 0, 0, 0, []),
  (878, .invokevirtual 107, 3, 216, 2, 1, 1830, 6, []), (881, .if_icmp .eq 286, 3, 1167, 0, 0, 0, 0, []), (884, .iconst 0, 1, 0, 0, 0, 0, 0, []), (885, .ireturn, 1, 0, 0, 4, 0, 0, []), (886, .aload_n 1, 1, 1, 0, 0, 0, 0, []), (887, .invokevirtual 108, 3, 24, 1, 1, 928, 5, []),
  (890, .aload_n 2, 1, 2, 0, 0, 0, 0, []), (891, .invokevirtual 111, 3, 217, 1, 1, 1834, 6, []), (894, .if_icmp .eq 273, 3, 1167, 0, 0, 0, 0, []), (897, .iconst 0, 1, 0, 0, 0, 0, 0, []), (898, .ireturn, 1, 0, 0, 4, 0, 0, []), (899, .aload_n 1, 1, 1, 0, 0, 0, 0, []),
  (900, .aload_n 0, 1, 0, 0, 0, 0, 0, []), (901, .iload_n 3, 1, 3, 0, 0, 0, 0, []), (902, .iconst 1, 1, 0, 0, 0, 0, 1, []), (903, .iadd, 1, 0, 0, 0, 0, 0, [])]
noncomputable def am_c0_6 : List (Nat × am_E) := [(904, .iaload, 1, 0, 0, 0, 0, 0, []), (905, .invokevirtual 112, 3, 25, 2, 1, 932, 5, []), (908, .aload_n 2, 1, 2, 0, 0, 0, 0, []), (909, .aload_n 0, 1, 0, 0, 0, 0, 0, []), (910, .iload_n 3, 1, 3, 0, 0, 0, 0, []), (911, .iconst 1, 1, 0, 0, 0, 0, 1, []),
  (912, .iadd, 1, 0, 0, 0, 0, 0, []), (913, .iaload, 1, 0, 0, 0, 0, 0, []), (914, .invokevirtual 115, 3, 221, 2, 1, 1838, 6, []), (917, .if_icmp .eq 250, 3, 1167, 0, 0, 0, 0, []), (920, .iconst 0, 1, 0, 0, 0, 0, 0, []), (921, .ireturn, 1, 0, 0, 4, 0, 0, []),
  (922, .aload_n 1, 1, 1, 0, 0, 0, 0, []), (923, .aload_n 0, 1, 0, 0, 0, 0, 0, []), (924, .iload_n 3, 1, 3, 0, 0, 0, 0, []), (925, .iconst 1, 1, 0, 0, 0, 0, 1, []), (926, .iadd, 1, 0, 0, 0, 0, 0, []), (927, .iaload, 1, 0, 0, 0, 0, 0, []),
  (928, .aload_n 0, 1, 0, 0, 0, 0, 0, []), (929, .iload_n 3, 1, 3, 0, 0, 0, 0, []), (930, .iconst 2, 1, 0, 0, 0, 0, 2, []), (931, .iadd, 1, 0, 0, 0, 0, 0, []), (932, .iaload, 1, 0, 0, 0, 0, 0, []), (933, .invokevirtual 116, 3, 26, 3, 4, 945, 5, []),
  (936, .aload_n 2, 1, 2, 0, 0, 0, 0, []), (937, .aload_n 0, 1, 0, 0, 0, 0, 0, []), (938, .iload_n 3, 1, 3, 0, 0, 0, 0, []), (939, .iconst 1, 1, 0, 0, 0, 0, 1, []), (940, .iadd, 1, 0, 0, 0, 0, 0, []), (941, .iaload, 1, 0, 0, 0, 0, 0, []),
  (942, .aload_n 0, 1, 0, 0, 0, 0, 0, []), (943, .iload_n 3, 1, 3, 0, 0, 0, 0, []), (944, .iconst 2, 1, 0, 0, 0, 0, 2, []), (945, .iadd, 1, 0, 0, 0, 0, 0, []), (946, .iaload, 1, 0, 0, 0, 0, 0, []), (947, .invokevirtual 120, 3, 224, 3, 4, 1858, 6, []),
  (950, .if_icmp .eq 217, 3, 1167, 0, 0, 0, 0, []), (953, .iconst 0, 1, 0, 0, 0, 0, 0, []), (954, .ireturn, 1, 0, 0, 4, 0, 0, []), (955, .aload_n 1, 1, 1, 0, 0, 0, 0, []), (956, .aload_n 0, 1, 0, 0, 0, 0, 0, []), (957, .iload_n 3, 1, 3, 0, 0, 0, 0, []),
  (958, .iconst 1, 1, 0, 0, 0, 0, 1, []), (959, .iadd, 1, 0, 0, 0, 0, 0, []), (960, .iaload, 1, 0, 0, 0, 0, 0, []), (961, .aload_n 0, 1, 0, 0, 0, 0, 0, []), (962, .iload_n 3, 1, 3, 0, 0, 0, 0, []), (963, .iconst 2, 1, 0, 0, 0, 0, 2, []),
  (964, .iadd, 1, 0, 0, 0, 0, 0, []), (965, .iaload, 1, 0, 0, 0, 0, 0, []), (966, .invokevirtual 121, 3, 27, 3, 2, 954, 5, []), (969, .aload_n 2, 1, 2, 0, 0, 0, 0, []), (970, .aload_n 0, 1, 0, 0, 0, 0, 0, []), (971, .iload_n 3, 1, 3, 0, 0, 0, 0, []),
  (972, .iconst 1, 1, 0, 0, 0, 0, 1, []), (973, .iadd, 1, 0, 0, 0, 0, 0, []), (974, .iaload, 1, 0, 0, 0, 0, 0, []), (975, .aload_n 0, 1, 0, 0, 0, 0, 0, []), (976, .iload_n 3, 1, 3, 0, 0, 0, 0, []), (977, .iconst 2, 1, 0, 0, 0, 0, 2, []),
  (978, .iadd, 1, 0, 0, 0, 0, 0, []), (979, .iaload, 1, 0, 0, 0, 0, 0, []), (980, .invokevirtual 124, 3, 225, 3, 2, 1866, 6, []), (983, .lcmp, 1, 0, 0, 0, 0, 0, []), (984, .ifCond .eq 183, 3, 1167, 0, 0, 0, 0, []), (987, .iconst 0, 1, 0, 0, 0, 0, 0, []),
  (988, .ireturn, 1, 0, 0, 4, 0, 0, []), (989, .aload_n 1, 1, 1, 0, 0, 0, 0, []), (990, .aload_n 0, 1, 0, 0, 0, 0, 0, []), (991, .iload_n 3, 1, 3, 0, 0, 0, 0, []), (992, .iconst 1, 1, 0, 0, 0, 0, 1, []), (993, .iadd, 1, 0, 0, 0, 0, 0, []),
  (994, .iaload, 1, 0, 0, 0, 0, 0, []), (995, .invokevirtual 125, 3, 28, 2, 1, 958, 5, []), (998, .aload_n 2, 1, 2, 0, 0, 0, 0, []), (999, .aload_n 0, 1, 0, 0, 0, 0, 0, []), (1000, .iload_n 3, 1, 3, 0, 0, 0, 0, []), (1001, .iconst 1, 1, 0, 0, 0, 0, 1, []),
  (1002, .iadd, 1, 0, 0, 0, 0, 0, []), (1003, .iaload, 1, 0, 0, 0, 0, 0, []), (1004, .invokevirtual 128, 3, 227, 2, 1, 1870, 6, []), (1007, .if_icmp .eq 160, 3, 1167, 0, 0, 0, 0, []), (1010, .iconst 0, 1, 0, 0, 0, 0, 0, []), (1011, .ireturn, 1, 0, 0, 4, 0, 0, []),
  (1012, .aload_n 1, 1, 1, 0, 0, 0, 0, []), (1013, .aload_n 0, 1, 0, 0, 0, 0, 0, []), (1014, .iload_n 3, 1, 3, 0, 0, 0, 0, []), (1015, .iconst 1, 1, 0, 0, 0, 0, 1, []), (1016, .iadd, 1, 0, 0, 0, 0, 0, []), (1017, .iaload, 1, 0, 0, 0, 0, 0, []),
  (1018, .invokevirtual 129, 3, 29, 2, 1, 962, 5, []), (1021, .aload_n 2, 1, 2, 0, 0, 0, 0, []), (1022, .aload_n 0, 1, 0, 0, 0, 0, 0, []), (1023, .iload_n 3, 1, 3, 0, 0, 0, 0, []), (1024, .iconst 1, 1, 0, 0, 0, 0, 1, []), (1025, .iadd, 1, 0, 0, 0, 0, 0, []),
  (1026, .iaload, 1, 0, 0, 0, 0, 0, []), (1027, .invokevirtual 132, 3, 231, 2, 1, 1882, 6, []), (1030, .if_icmp .eq 137, 3, 1167, 0, 0, 0, 0, []), (1033, .iconst 0, 1, 0, 0, 0, 0, 0, [])]
noncomputable def am_c0_7 : List (Nat × am_E) := [(1034, .ireturn, 1, 0, 0, 4, 0, 0, []), (1035, .aload_n 1, 1, 1, 0, 0, 0, 0, []), (1036, .invokevirtual 133, 3, 30, 1, 4, 978, 5, []), (1039, .aload_n 2, 1, 2, 0, 0, 0, 0, []), (1040, .invokevirtual 137, 3, 223, 1, 4, 1854, 6, []), (1043, .if_icmp .eq 124, 3, 1167, 0, 0, 0, 0, []),
  (1046, .iconst 0, 1, 0, 0, 0, 0, 0, []), (1047, .ireturn, 1, 0, 0, 4, 0, 0, []), (1048, .aload_n 1, 1, 1, 0, 0, 0, 0, []), (1049, .aload_n 0, 1, 0, 0, 0, 0, 0, []), (1050, .iload_n 3, 1, 3, 0, 0, 0, 0, []), (1051, .iconst 1, 1, 0, 0, 0, 0, 1, []),
  (1052, .iadd, 1, 0, 0, 0, 0, 0, []), (1053, .iaload, 1, 0, 0, 0, 0, 0, []), (1054, .invokevirtual 138, 3, 31, 2, 4, 982, 5, []), (1057, .aload_n 2, 1, 2, 0, 0, 0, 0, []), (1058, .aload_n 0, 1, 0, 0, 0, 0, 0, []), (1059, .iload_n 3, 1, 3, 0, 0, 0, 0, []),
  (1060, .iconst 1, 1, 0, 0, 0, 0, 1, []), (1061, .iadd, 1, 0, 0, 0, 0, 0, []), (1062, .iaload, 1, 0, 0, 0, 0, 0, []), (1063, .invokevirtual 141, 3, 228, 2, 4, 1878, 6, []), (1066, .if_icmp .eq 101, 3, 1167, 0, 0, 0, 0, []), (1069, .iconst 0, 1, 0, 0, 0, 0, 0, []),
  (1070, .ireturn, 1, 0, 0, 4, 0, 0, []), (1071, .aload_n 1, 1, 1, 0, 0, 0, 0, []), (1072, .aload_n 0, 1, 0, 0, 0, 0, 0, []), (1073, .iload_n 3, 1, 3, 0, 0, 0, 0, []), (1074, .iconst 1, 1, 0, 0, 0, 0, 1, []), (1075, .iadd, 1, 0, 0, 0, 0, 0, []),
  (1076, .iaload, 1, 0, 0, 0, 0, 0, []), (1077, .invokevirtual 142, 3, 32, 2, 2, 986, 5, []), (1080, .aload_n 2, 1, 2, 0, 0, 0, 0, []), (1081, .aload_n 0, 1, 0, 0, 0, 0, 0, []), (1082, .iload_n 3, 1, 3, 0, 0, 0, 0, []), (1083, .iconst 1, 1, 0, 0, 0, 0, 1, []),
  (1084, .iadd, 1, 0, 0, 0, 0, 0, []), (1085, .iaload, 1, 0, 0, 0, 0, 0, []), (1086, .invokevirtual 146, 3, 260, 2, 2, 1898, 6, []), (1089, .lcmp, 1, 0, 0, 0, 0, 0, []), (1090, .ifCond .eq 77, 3, 1167, 0, 0, 0, 0, []), (1093, .iconst 0, 1, 0, 0, 0, 0, 0, []),
  (1094, .ireturn, 1, 0, 0, 4, 0, 0, []), (1095, .aload_n 1, 1, 1, 0, 0, 0, 0, []), (1096, .invokevirtual 147, 3, 33, 1, 1, 1011, 5, []), (1099, .aload_n 2, 1, 2, 0, 0, 0, 0, []), (1100, .invokevirtual 150, 3, 264, 1, 1, 1919, 6, []), (1103, .if_icmp .eq 64, 3, 1167, 0, 0, 0, 0, []),
  (1106, .iconst 0, 1, 0, 0, 0, 0, 0, []), (1107, .ireturn, 1, 0, 0, 4, 0, 0, []), (1108, .aload_n 1, 1, 1, 0, 0, 0, 0, []), (1109, .aload_n 0, 1, 0, 0, 0, 0, 0, []), (1110, .iload_n 3, 1, 3, 0, 0, 0, 0, []), (1111, .iconst 1, 1, 0, 0, 0, 0, 1, []),
  (1112, .iadd, 1, 0, 0, 0, 0, 0, []), (1113, .iaload, 1, 0, 0, 0, 0, 0, []), (1114, .invokevirtual 151, 3, 34, 2, 1, 1027, 5, []), (1117, .aload_n 2, 1, 2, 0, 0, 0, 0, []), (1118, .aload_n 0, 1, 0, 0, 0, 0, 0, []), (1119, .iload_n 3, 1, 3, 0, 0, 0, 0, []),
  (1120, .iconst 1, 1, 0, 0, 0, 0, 1, []), (1121, .iadd, 1, 0, 0, 0, 0, 0, []), (1122, .iaload, 1, 0, 0, 0, 0, 0, []), (1123, .invokevirtual 154, 3, 265, 2, 1, 1934, 6, []), (1126, .if_icmp .eq 41, 3, 1167, 0, 0, 0, 0, []), (1129, .iconst 0, 1, 0, 0, 0, 0, 0, []),
  (1130, .ireturn, 1, 0, 0, 4, 0, 0, []), (1131, .aload_n 1, 1, 1, 0, 0, 0, 0, []), (1132, .invokevirtual 155, 3, 35, 1, 4, 1031, 5, []), (1135, .aload_n 2, 1, 2, 0, 0, 0, 0, []), (1136, .invokevirtual 158, 3, 270, 1, 4, 1938, 6, []), (1139, .if_icmp .eq 28, 3, 1167, 0, 0, 0, 0, []),
  (1142, .iconst 0, 1, 0, 0, 0, 0, 0, []), (1143, .ireturn, 1, 0, 0, 4, 0, 0, []), (1144, .aload_n 1, 1, 1, 0, 0, 0, 0, []), (1145, .aload_n 0, 1, 0, 0, 0, 0, 0, []), (1146, .iload_n 3, 1, 3, 0, 0, 0, 0, []), (1147, .iconst 1, 1, 0, 0, 0, 0, 1, []),
  (1148, .iadd, 1, 0, 0, 0, 0, 0, []), (1149, .iaload, 1, 0, 0, 0, 0, 0, []), (1150, .invokevirtual 159, 3, 36, 2, 1, 1055, 5, []), (1153, .aload_n 2, 1, 2, 0, 0, 0, 0, []), (1154, .aload_n 0, 1, 0, 0, 0, 0, 0, []), (1155, .iload_n 3, 1, 3, 0, 0, 0, 0, []),
  (1156, .iconst 1, 1, 0, 0, 0, 0, 1, []), (1157, .iadd, 1, 0, 0, 0, 0, 0, []), (1158, .iaload, 1, 0, 0, 0, 0, 0, []), (1159, .invokevirtual 162, 3, 271, 2, 1, 1958, 6, []), (1162, .if_icmp .eq 5, 3, 1167, 0, 0, 0, 0, []), (1165, .iconst 0, 1, 0, 0, 0, 0, 0, []),
  (1166, .ireturn, 1, 0, 0, 4, 0, 0, []), (1167, .iinc 3 6, 3, 3, 0, 0, 0, 6, []), (1170, .goto (-1152), 3, 18, 0, 0, 0, 0, []), (1173, .iconst 1, 1, 0, 0, 0, 0, 1, []), (1174, .ireturn, 1, 0, 0, 4, 0, 0, [])]
noncomputable def am_c0 : List (Nat × am_E) := am_c0_0 ++ (am_c0_1 ++ (am_c0_2 ++ (am_c0_3 ++ (am_c0_4 ++ (am_c0_5 ++ (am_c0_6 ++ (am_c0_7)))))))
noncomputable def am_s1 : am_S := (yX5_init, cX5_init, 3, none, 2, 0, 1, 5, 183, 182, 0, 165)
noncomputable def am_c1 : List (Nat × am_E) := [(0, .aload_n 0, 1, 0, 0, 0, 0, 0, []), (1, .invokespecial 3, 3, 0, 1, 9, 184, 0, []), (4, .aload_n 0, 1, 0, 0, 0, 0, 0, []), (5, .new 9, 3, 4, 17, 0, 187, 0, []), (8, .dup, 1, 0, 0, 0, 0, 0, []), (9, .invokespecial 11, 3, 95, 1, 0, 189, 0, []),
  (12, .putfield 12, 3, 5, 0, 3, 487, 0, []), (15, .aload_n 0, 1, 0, 0, 0, 0, 0, []), (16, .aload_n 0, 1, 0, 0, 0, 0, 0, []), (17, .getfield 12, 3, 5, 0, 3, 487, 0, []), (20, .getfield 16, 3, 4, 5, 3, 346, 0, []), (23, .putfield 20, 3, 5, 1, 3, 488, 0, []),
  (26, .aload_n 0, 1, 0, 0, 0, 0, 0, []), (27, .iconst 0, 1, 0, 0, 0, 0, 0, []), (28, .putfield 23, 3, 5, 2, 1, 489, 0, []), (31, .aload_n 0, 1, 0, 0, 0, 0, 0, []), (32, .bipush 20, 2, 0, 0, 0, 0, 20, []), (34, .anewarray 27, 3, 5, 0, 0, 396, 0, []),
  (37, .putfield 29, 3, 5, 5, 3, 492, 0, []), (40, .aload_n 0, 1, 0, 0, 0, 0, 0, []), (41, .iconst 0, 1, 0, 0, 0, 0, 0, []), (42, .putfield 33, 3, 5, 6, 1, 493, 0, []), (45, .aload_n 0, 1, 0, 0, 0, 0, 0, []), (46, .iconst 0, 1, 0, 0, 0, 0, 0, []),
  (47, .putfield 36, 3, 5, 7, 1, 494, 0, []), (50, .aload_n 0, 1, 0, 0, 0, 0, 0, []), (51, .bipush 48, 2, 0, 0, 0, 0, 48, []), (53, .newarray .int, 2, 2, 0, 0, 0, 0, []), (55, .putfield 39, 3, 5, 8, 3, 495, 0, []), (58, .aload_n 0, 1, 0, 0, 0, 0, 0, []),
  (59, .iconst 0, 1, 0, 0, 0, 0, 0, []), (60, .putfield 42, 3, 5, 9, 1, 496, 0, []), (63, .aload_n 0, 1, 0, 0, 0, 0, 0, []), (64, .sipush 139, 3, 0, 0, 0, 0, 139, []), (67, .newarray .int, 2, 2, 0, 0, 0, 0, []), (69, .putfield 45, 3, 5, 10, 3, 497, 0, []),
  (72, .aload_n 0, 1, 0, 0, 0, 0, 0, []), (73, .iconst 0, 1, 0, 0, 0, 0, 0, []), (74, .putfield 48, 3, 5, 11, 1, 498, 0, []), (77, .aload_n 0, 1, 0, 0, 0, 0, 0, []), (78, .sipush 160, 3, 0, 0, 0, 0, 160, []), (81, .newarray .int, 2, 2, 0, 0, 0, 0, []),
  (83, .putfield 51, 3, 5, 12, 3, 499, 0, []), (86, .aload_n 0, 1, 0, 0, 0, 0, 0, []), (87, .bipush 8, 2, 0, 0, 0, 0, 8, []), (89, .newarray .int, 2, 2, 0, 0, 0, 0, []), (91, .putfield 54, 3, 5, 13, 3, 500, 0, []), (94, .aload_n 0, 1, 0, 0, 0, 0, 0, []),
  (95, .bipush 6, 2, 0, 0, 0, 0, 6, []), (97, .newarray .int, 2, 2, 0, 0, 0, 0, []), (99, .putfield 57, 3, 5, 14, 3, 501, 0, []), (102, .aload_n 0, 1, 0, 0, 0, 0, 0, []), (103, .iconst 1, 1, 0, 0, 0, 0, 1, []), (104, .putfield 60, 3, 5, 15, 1, 502, 0, []),
  (107, .new 63, 3, 2, 16, 0, 398, 0, []), (110, .dup, 1, 0, 0, 0, 0, 0, []), (111, .invokespecial 65, 3, 84, 1, 0, 399, 0, [(1, 0)]), (114, .astore_n 1, 1, 1, 0, 0, 0, 0, []), (115, .aload_n 0, 1, 0, 0, 0, 0, 0, []), (116, .new 66, 3, 1, 6, 0, 400, 0, []),
  (119, .dup, 1, 0, 0, 0, 0, 0, []), (120, .aload_n 1, 1, 1, 0, 0, 0, 0, []), (121, .invokespecial 68, 3, 71, 2, 0, 402, 0, []), (124, .putfield 71, 3, 5, 3, 3, 490, 0, []), (127, .aload_n 0, 1, 0, 0, 0, 0, 0, []), (128, .new 66, 3, 1, 6, 0, 400, 0, []),
  (131, .dup, 1, 0, 0, 0, 0, 0, []), (132, .aload_n 1, 1, 1, 0, 0, 0, 0, []), (133, .invokespecial 68, 3, 71, 2, 0, 402, 0, []), (136, .putfield 75, 3, 5, 4, 3, 491, 0, []), (139, .iconst 0, 1, 0, 0, 0, 0, 0, []), (140, .istore_n 2, 1, 2, 0, 0, 0, 0, []),
  (141, .iload_n 2, 1, 2, 0, 0, 0, 0, []), (142, .bipush 20, 2, 0, 0, 0, 0, 20, []), (144, .if_icmp .ge 22, 3, 166, 0, 0, 0, 0, []), (147, .aload_n 0, 1, 0, 0, 0, 0, 0, []), (148, .getfield 29, 3, 5, 5, 3, 492, 0, []), (151, .iload_n 2, 1, 2, 0, 0, 0, 0, []),
  (152, .new 27, 3, 0, 7, 0, 396, 0, []), (155, .dup, 1, 0, 0, 0, 0, 0, []), (156, .invokespecial 78, 3, 64, 1, 0, 486, 0, [(1, 0)]), (159, .aastore, 1, 0, 0, 0, 0, 0, []), (160, .iinc 2 1, 3, 2, 0, 0, 0, 1, []), (163, .goto (-22), 3, 141, 0, 0, 0, 0, []),
  (166, .return_, 1, 0, 0, 0, 0, 0, [])]
noncomputable def am_s2 : am_S := (yX5_feed, cX5_feed, 6, (some .int), 1, 1, 6, 5, 539, 537, 538, 165)
noncomputable def am_c2 : List (Nat × am_E) := [(0, .aload_n 0, 1, 0, 0, 0, 0, 0, []), (1, .getfield 23, 3, 5, 2, 1, 489, 0, []), (4, .bipush 20, 2, 0, 0, 0, 0, 20, []), (6, .iadd, 1, 0, 0, 0, 0, 0, []), (7, .sipush 1600, 3, 0, 0, 0, 0, 1600, []), (10, .if_icmp .le 9, 3, 19, 0, 0, 0, 0, []),
  (13, .aload_n 0, 1, 0, 0, 0, 0, 0, []), (14, .iconst 0, 1, 0, 0, 0, 0, 0, []), (15, .invokevirtual 79, 3, 37, 2, 1, 540, 5, []), (18, .ireturn, 1, 0, 0, 1, 0, 0, []), (19, .aload_n 0, 1, 0, 0, 0, 0, 0, []), (20, .iload_n 1, 1, 1, 0, 0, 0, 0, []),
  (21, .invokevirtual 83, 3, 38, 2, 0, 544, 5, []), (24, .aload_n 0, 1, 0, 0, 0, 0, 0, []), (25, .iload_n 2, 1, 2, 0, 0, 0, 0, []), (26, .invokevirtual 83, 3, 38, 2, 0, 544, 5, []), (29, .aload_n 0, 1, 0, 0, 0, 0, 0, []), (30, .iload_n 3, 1, 3, 0, 0, 0, 0, []),
  (31, .invokevirtual 83, 3, 38, 2, 0, 544, 5, []), (34, .aload_n 0, 1, 0, 0, 0, 0, 0, []), (35, .iload 4, 2, 4, 0, 0, 0, 0, []), (37, .invokevirtual 83, 3, 38, 2, 0, 544, 5, []), (40, .aload_n 0, 1, 0, 0, 0, 0, 0, []), (41, .iload 5, 2, 5, 0, 0, 0, 0, []),
  (43, .invokevirtual 83, 3, 38, 2, 0, 544, 5, []), (46, .aload_n 0, 1, 0, 0, 0, 0, 0, []), (47, .getfield 23, 3, 5, 2, 1, 489, 0, []), (50, .ireturn, 1, 0, 0, 1, 0, 0, [])]
noncomputable def am_s3 : am_S := (yX5_end, cX5_end, 2, (some .boolean), 1, 4, 2, 5, 551, 549, 550, 165)
noncomputable def am_c3 : List (Nat × am_E) := [(0, .iload_n 1, 1, 1, 0, 0, 0, 0, []), (1, .ifCond .lt 11, 3, 12, 0, 0, 0, 0, []), (4, .iload_n 1, 1, 1, 0, 0, 0, 0, []), (5, .aload_n 0, 1, 0, 0, 0, 0, 0, []), (6, .getfield 23, 3, 5, 2, 1, 489, 0, []), (9, .if_icmp .le 11, 3, 20, 0, 0, 0, 0, []),
  (12, .aload_n 0, 1, 0, 0, 0, 0, 0, []), (13, .iconst 0, 1, 0, 0, 0, 0, 0, []), (14, .invokevirtual 79, 3, 37, 2, 1, 540, 5, []), (17, .pop, 1, 0, 0, 0, 0, 0, []), (18, .iconst 0, 1, 0, 0, 0, 0, 0, []), (19, .ireturn, 1, 0, 0, 4, 0, 0, []),
  (20, .aload_n 0, 1, 0, 0, 0, 0, 0, []), (21, .iload_n 1, 1, 1, 0, 0, 0, 0, []), (22, .putfield 23, 3, 5, 2, 1, 489, 0, []), (25, .iconst 1, 1, 0, 0, 0, 0, 1, []), (26, .ireturn, 1, 0, 0, 4, 0, 0, [])]
noncomputable def am_s4 : am_S := (yX5_house, cX5_house, 3, (some .int), 1, 1, 1, 5, 555, 553, 554, 165)
noncomputable def am_c4 : List (Nat × am_E) := [(0, .aload_n 0, 1, 0, 0, 0, 0, 0, []), (1, .getfield 12, 3, 5, 0, 3, 487, 0, []), (4, .aload_n 0, 1, 0, 0, 0, 0, 0, []), (5, .invokevirtual 87, 3, 39, 1, 1, 556, 5, []), (8, .invokevirtual 91, 3, 96, 2, 1, 560, 4, []), (11, .istore_n 1, 1, 1, 0, 0, 0, 0, []),
  (12, .iload_n 1, 1, 1, 0, 0, 0, 0, []), (13, .iconst (-1), 1, 0, 0, 0, 0, (-1), []), (14, .if_icmp .ne 9, 3, 23, 0, 0, 0, 0, []), (17, .aload_n 0, 1, 0, 0, 0, 0, 0, []), (18, .iconst 1, 1, 0, 0, 0, 0, 1, []), (19, .invokevirtual 79, 3, 37, 2, 1, 540, 5, []),
  (22, .ireturn, 1, 0, 0, 1, 0, 0, []), (23, .aload_n 0, 1, 0, 0, 0, 0, 0, []), (24, .getfield 71, 3, 5, 3, 3, 490, 0, []), (27, .getfield 94, 3, 1, 0, 3, 463, 0, []), (30, .astore_n 2, 1, 2, 0, 0, 0, 0, []), (31, .aload_n 0, 1, 0, 0, 0, 0, 0, []),
  (32, .getfield 71, 3, 5, 3, 3, 490, 0, []), (35, .aload_n 0, 1, 0, 0, 0, 0, 0, []), (36, .getfield 12, 3, 5, 0, 3, 487, 0, []), (39, .getfield 98, 3, 4, 2, 3, 341, 0, []), (42, .putfield 94, 3, 1, 0, 3, 463, 0, []), (45, .aload_n 0, 1, 0, 0, 0, 0, 0, []),
  (46, .getfield 12, 3, 5, 0, 3, 487, 0, []), (49, .aload_n 2, 1, 2, 0, 0, 0, 0, []), (50, .putfield 98, 3, 4, 2, 3, 341, 0, []), (53, .aload_n 0, 1, 0, 0, 0, 0, 0, []), (54, .getfield 71, 3, 5, 3, 3, 490, 0, []), (57, .getfield 99, 3, 1, 1, 3, 465, 0, []),
  (60, .invokevirtual 103, 3, 65, 1, 0, 687, 0, []), (63, .aload_n 0, 1, 0, 0, 0, 0, 0, []), (64, .getfield 71, 3, 5, 3, 3, 490, 0, []), (67, .getfield 99, 3, 1, 1, 3, 465, 0, []), (70, .aload_n 0, 1, 0, 0, 0, 0, 0, []), (71, .getfield 71, 3, 5, 3, 3, 490, 0, []),
  (74, .getfield 94, 3, 1, 0, 3, 463, 0, []), (77, .getfield 106, 3, 2, 7, 1, 226, 0, []), (80, .putfield 109, 3, 0, 1, 1, 417, 0, []), (83, .aload_n 0, 1, 0, 0, 0, 0, 0, []), (84, .iconst 0, 1, 0, 0, 0, 0, 0, []), (85, .putfield 42, 3, 5, 9, 1, 496, 0, []),
  (88, .aload_n 0, 1, 0, 0, 0, 0, 0, []), (89, .invokevirtual 110, 3, 44, 1, 0, 691, 5, []), (92, .iload_n 1, 1, 1, 0, 0, 0, 0, []), (93, .ireturn, 1, 0, 0, 1, 0, 0, [])]
noncomputable def am_s5 : am_S := (yX5_fault, cX5_fault, 2, (some .int), 1, 1, 2, 5, 698, 696, 697, 165)
noncomputable def am_c5 : List (Nat × am_E) := [(0, .iload_n 1, 1, 1, 0, 0, 0, 0, []), (1, .ifCond .ne 11, 3, 12, 0, 0, 0, 0, []), (4, .aload_n 0, 1, 0, 0, 0, 0, 0, []), (5, .getfield 12, 3, 5, 0, 3, 487, 0, []), (8, .getfield 113, 3, 4, 0, 1, 337, 0, []), (11, .ireturn, 1, 0, 0, 1, 0, 0, []),
  (12, .iload_n 1, 1, 1, 0, 0, 0, 0, []), (13, .iconst 1, 1, 0, 0, 0, 0, 1, []), (14, .if_icmp .ne 13, 3, 27, 0, 0, 0, 0, []), (17, .aload_n 0, 1, 0, 0, 0, 0, 0, []), (18, .getfield 12, 3, 5, 0, 3, 487, 0, []), (21, .getfield 116, 3, 4, 1, 1, 339, 0, []),
  (24, .goto 4, 3, 28, 0, 0, 0, 0, []), (27, .iconst (-1), 1, 0, 0, 0, 0, (-1), []), (28, .ireturn, 1, 0, 0, 1, 0, 0, [])]
noncomputable def am_s6 : am_S := (yX5_has, cX5_has, 2, (some .int), 1, 1, 2, 5, 702, 700, 701, 165)
noncomputable def am_c6 : List (Nat × am_E) := [(0, .iload_n 1, 1, 1, 0, 0, 0, 0, []), (1, .tableswitch 177 0 10 #[59, 72, 85, 98, 109, 123, 137, 151, 156, 167, 172], 59, 178, 0, 0, 0, 0, [(0, 60), (1, 73), (2, 86), (3, 99), (4, 110), (5, 124), (6, 138), (7, 152), (8, 157), (9, 168), (10, 173)]), (60, .aload_n 0, 1, 0, 0, 0, 0, 0, []), (61, .getfield 71, 3, 5, 3, 3, 490, 0, []), (64, .getfield 94, 3, 1, 0, 3, 463, 0, []), (67, .getfield 119, 3, 2, 0, 3, 203, 0, []),
  (70, .iconst 0, 1, 0, 0, 0, 0, 0, []), (71, .iaload, 1, 0, 0, 0, 0, 0, []), (72, .ireturn, 1, 0, 0, 1, 0, 0, []), (73, .aload_n 0, 1, 0, 0, 0, 0, 0, []), (74, .getfield 71, 3, 5, 3, 3, 490, 0, []), (77, .getfield 94, 3, 1, 0, 3, 463, 0, []),
  (80, .getfield 119, 3, 2, 0, 3, 203, 0, []), (83, .iconst 1, 1, 0, 0, 0, 0, 1, []), (84, .iaload, 1, 0, 0, 0, 0, 0, []), (85, .ireturn, 1, 0, 0, 1, 0, 0, []), (86, .aload_n 0, 1, 0, 0, 0, 0, 0, []), (87, .getfield 71, 3, 5, 3, 3, 490, 0, []),
  (90, .getfield 94, 3, 1, 0, 3, 463, 0, []), (93, .getfield 119, 3, 2, 0, 3, 203, 0, []), (96, .iconst 2, 1, 0, 0, 0, 0, 2, []), (97, .iaload, 1, 0, 0, 0, 0, 0, []), (98, .ireturn, 1, 0, 0, 1, 0, 0, []), (99, .aload_n 0, 1, 0, 0, 0, 0, 0, []),
  (100, .getfield 71, 3, 5, 3, 3, 490, 0, []), (103, .getfield 94, 3, 1, 0, 3, 463, 0, []), (106, .getfield 122, 3, 2, 8, 1, 230, 0, []), (109, .ireturn, 1, 0, 0, 1, 0, 0, []), (110, .aload_n 0, 1, 0, 0, 0, 0, 0, []), (111, .getfield 71, 3, 5, 3, 3, 490, 0, []),
  (114, .getfield 99, 3, 1, 1, 3, 465, 0, []), (117, .getfield 125, 3, 0, 0, 1, 414, 0, []), (120, .bipush 24, 2, 0, 0, 0, 0, 24, []), (122, .idiv, 1, 0, 0, 0, 0, 0, []), (123, .ireturn, 1, 0, 0, 1, 0, 0, []), (124, .aload_n 0, 1, 0, 0, 0, 0, 0, []),
  (125, .getfield 71, 3, 5, 3, 3, 490, 0, []), (128, .getfield 99, 3, 1, 1, 3, 465, 0, []), (131, .getfield 125, 3, 0, 0, 1, 414, 0, []), (134, .bipush 24, 2, 0, 0, 0, 0, 24, []), (136, .irem, 1, 0, 0, 0, 0, 0, []), (137, .ireturn, 1, 0, 0, 1, 0, 0, []),
  (138, .aload_n 0, 1, 0, 0, 0, 0, 0, []), (139, .getfield 71, 3, 5, 3, 3, 490, 0, []), (142, .getfield 99, 3, 1, 1, 3, 465, 0, []), (145, .getfield 109, 3, 0, 1, 1, 417, 0, []), (148, .invokestatic 128, 3, 272, 1, 1, 703, 0, []), (151, .ireturn, 1, 0, 0, 1, 0, 0, []),
  (152, .aload_n 0, 1, 0, 0, 0, 0, 0, []), (153, .invokevirtual 133, 3, 42, 1, 1, 709, 5, []), (156, .ireturn, 1, 0, 0, 1, 0, 0, []), (157, .aload_n 0, 1, 0, 0, 0, 0, 0, []), (158, .getfield 71, 3, 5, 3, 3, 490, 0, []), (161, .getfield 99, 3, 1, 1, 3, 465, 0, []),
  (164, .invokevirtual 136, 3, 68, 1, 1, 713, 0, []), (167, .ireturn, 1, 0, 0, 1, 0, 0, []), (168, .aload_n 0, 1, 0, 0, 0, 0, 0, []), (169, .getfield 42, 3, 5, 9, 1, 496, 0, []), (172, .ireturn, 1, 0, 0, 1, 0, 0, []), (173, .aload_n 0, 1, 0, 0, 0, 0, 0, []),
  (174, .getfield 36, 3, 5, 7, 1, 494, 0, []), (177, .ireturn, 1, 0, 0, 1, 0, 0, []), (178, .iconst (-1), 1, 0, 0, 0, 0, (-1), []), (179, .ireturn, 1, 0, 0, 1, 0, 0, [])]
noncomputable def am_s7 : am_S := (yX5_letter, cX5_letter, 4, (some .int), 1, 1, 4, 5, 721, 719, 720, 165)
noncomputable def am_c7 : List (Nat × am_E) := [(0, .iload_n 1, 1, 1, 0, 0, 0, 0, []), (1, .ifCond .lt 26, 3, 27, 0, 0, 0, 0, []), (4, .iload_n 1, 1, 1, 0, 0, 0, 0, []), (5, .iconst 2, 1, 0, 0, 0, 0, 2, []), (6, .if_icmp .gt 21, 3, 27, 0, 0, 0, 0, []), (9, .aload_n 0, 1, 0, 0, 0, 0, 0, []),
  (10, .iload_n 1, 1, 1, 0, 0, 0, 0, []), (11, .iload_n 2, 1, 2, 0, 0, 0, 0, []), (12, .invokevirtual 139, 3, 40, 3, 4, 722, 5, []), (15, .ifCond .eq 12, 3, 27, 0, 0, 0, 0, []), (18, .iload_n 3, 1, 3, 0, 0, 0, 0, []), (19, .ifCond .lt 8, 3, 27, 0, 0, 0, 0, []),
  (22, .iload_n 3, 1, 3, 0, 0, 0, 0, []), (23, .iconst 5, 1, 0, 0, 0, 0, 5, []), (24, .if_icmp .le 5, 3, 29, 0, 0, 0, 0, []), (27, .iconst (-1), 1, 0, 0, 0, 0, (-1), []), (28, .ireturn, 1, 0, 0, 1, 0, 0, []), (29, .aload_n 0, 1, 0, 0, 0, 0, 0, []),
  (30, .getfield 71, 3, 5, 3, 3, 490, 0, []), (33, .getfield 94, 3, 1, 0, 3, 463, 0, []), (36, .getfield 143, 3, 2, 1, 3, 206, 0, []), (39, .iload_n 1, 1, 1, 0, 0, 0, 0, []), (40, .aaload, 1, 0, 0, 0, 0, 0, []), (41, .iload_n 2, 1, 2, 0, 0, 0, 0, []),
  (42, .iaload, 1, 0, 0, 0, 0, 0, []), (43, .iconst 5, 1, 0, 0, 0, 0, 5, []), (44, .iload_n 3, 1, 3, 0, 0, 0, 0, []), (45, .imul, 1, 0, 0, 0, 0, 0, []), (46, .ishr, 1, 0, 0, 0, 0, 0, []), (47, .bipush 31, 2, 0, 0, 0, 0, 31, []),
  (49, .iand, 1, 0, 0, 0, 0, 0, []), (50, .ireturn, 1, 0, 0, 1, 0, 0, [])]
noncomputable def am_s8 : am_S := (yX5_film, cX5_film, 3, (some .int), 1, 1, 3, 5, 729, 727, 728, 165)
noncomputable def am_c8 : List (Nat × am_E) := [(0, .aload_n 0, 1, 0, 0, 0, 0, 0, []), (1, .iconst 1, 1, 0, 0, 0, 0, 1, []), (2, .iload_n 1, 1, 1, 0, 0, 0, 0, []), (3, .invokevirtual 139, 3, 40, 3, 4, 722, 5, []), (6, .ifCond .ne 5, 3, 11, 0, 0, 0, 0, []), (9, .iconst (-1), 1, 0, 0, 0, 0, (-1), []),
  (10, .ireturn, 1, 0, 0, 1, 0, 0, []), (11, .iload_n 2, 1, 2, 0, 0, 0, 0, []), (12, .ifCond .ne 16, 3, 28, 0, 0, 0, 0, []), (15, .aload_n 0, 1, 0, 0, 0, 0, 0, []), (16, .getfield 71, 3, 5, 3, 3, 490, 0, []), (19, .getfield 94, 3, 1, 0, 3, 463, 0, []),
  (22, .getfield 147, 3, 2, 2, 3, 210, 0, []), (25, .iload_n 1, 1, 1, 0, 0, 0, 0, []), (26, .iaload, 1, 0, 0, 0, 0, 0, []), (27, .ireturn, 1, 0, 0, 1, 0, 0, []), (28, .iload_n 2, 1, 2, 0, 0, 0, 0, []), (29, .bipush 10, 2, 0, 0, 0, 0, 10, []),
  (31, .if_icmp .lt 35, 3, 66, 0, 0, 0, 0, []), (34, .aload_n 0, 1, 0, 0, 0, 0, 0, []), (35, .iconst 0, 1, 0, 0, 0, 0, 0, []), (36, .iload_n 2, 1, 2, 0, 0, 0, 0, []), (37, .bipush 10, 2, 0, 0, 0, 0, 10, []), (39, .isub, 1, 0, 0, 0, 0, 0, []),
  (40, .invokevirtual 139, 3, 40, 3, 4, 722, 5, []), (43, .ifCond .eq 23, 3, 66, 0, 0, 0, 0, []), (46, .aload_n 0, 1, 0, 0, 0, 0, 0, []), (47, .getfield 71, 3, 5, 3, 3, 490, 0, []), (50, .getfield 94, 3, 1, 0, 3, 463, 0, []), (53, .getfield 150, 3, 2, 3, 3, 214, 0, []),
  (56, .iload_n 1, 1, 1, 0, 0, 0, 0, []), (57, .aaload, 1, 0, 0, 0, 0, 0, []), (58, .iload_n 2, 1, 2, 0, 0, 0, 0, []), (59, .bipush 10, 2, 0, 0, 0, 0, 10, []), (61, .isub, 1, 0, 0, 0, 0, 0, []), (62, .iaload, 1, 0, 0, 0, 0, 0, []),
  (63, .goto 4, 3, 67, 0, 0, 0, 0, []), (66, .iconst (-1), 1, 0, 0, 0, 0, (-1), []), (67, .ireturn, 1, 0, 0, 1, 0, 0, [])]
noncomputable def am_s9 : am_S := (yX5_person, cX5_person, 3, (some .int), 1, 1, 3, 5, 733, 731, 732, 165)
noncomputable def am_c9 : List (Nat × am_E) := [(0, .aload_n 0, 1, 0, 0, 0, 0, 0, []), (1, .iconst 2, 1, 0, 0, 0, 0, 2, []), (2, .iload_n 1, 1, 1, 0, 0, 0, 0, []), (3, .invokevirtual 139, 3, 40, 3, 4, 722, 5, []), (6, .ifCond .ne 5, 3, 11, 0, 0, 0, 0, []), (9, .iconst (-1), 1, 0, 0, 0, 0, (-1), []),
  (10, .ireturn, 1, 0, 0, 1, 0, 0, []), (11, .iload_n 2, 1, 2, 0, 0, 0, 0, []), (12, .tableswitch 86 0 3 #[32, 45, 58, 73], 32, 98, 0, 0, 0, 0, [(0, 44), (1, 57), (2, 70), (3, 85)]), (44, .aload_n 0, 1, 0, 0, 0, 0, 0, []), (45, .getfield 71, 3, 5, 3, 3, 490, 0, []), (48, .getfield 94, 3, 1, 0, 3, 463, 0, []),
  (51, .getfield 153, 3, 2, 4, 3, 217, 0, []), (54, .iload_n 1, 1, 1, 0, 0, 0, 0, []), (55, .iaload, 1, 0, 0, 0, 0, 0, []), (56, .ireturn, 1, 0, 0, 1, 0, 0, []), (57, .aload_n 0, 1, 0, 0, 0, 0, 0, []), (58, .getfield 71, 3, 5, 3, 3, 490, 0, []),
  (61, .getfield 94, 3, 1, 0, 3, 463, 0, []), (64, .getfield 156, 3, 2, 5, 3, 220, 0, []), (67, .iload_n 1, 1, 1, 0, 0, 0, 0, []), (68, .iaload, 1, 0, 0, 0, 0, 0, []), (69, .ireturn, 1, 0, 0, 1, 0, 0, []), (70, .aload_n 0, 1, 0, 0, 0, 0, 0, []),
  (71, .getfield 71, 3, 5, 3, 3, 490, 0, []), (74, .getfield 99, 3, 1, 1, 3, 465, 0, []), (77, .getfield 109, 3, 0, 1, 1, 417, 0, []), (80, .iload_n 1, 1, 1, 0, 0, 0, 0, []), (81, .ishr, 1, 0, 0, 0, 0, 0, []), (82, .iconst 1, 1, 0, 0, 0, 0, 1, []),
  (83, .iand, 1, 0, 0, 0, 0, 0, []), (84, .ireturn, 1, 0, 0, 1, 0, 0, []), (85, .aload_n 0, 1, 0, 0, 0, 0, 0, []), (86, .getfield 71, 3, 5, 3, 3, 490, 0, []), (89, .getfield 99, 3, 1, 1, 3, 465, 0, []), (92, .getfield 159, 3, 0, 4, 3, 426, 0, []),
  (95, .iload_n 1, 1, 1, 0, 0, 0, 0, []), (96, .iaload, 1, 0, 0, 0, 0, 0, []), (97, .ireturn, 1, 0, 0, 1, 0, 0, []), (98, .iload_n 2, 1, 2, 0, 0, 0, 0, []), (99, .bipush 10, 2, 0, 0, 0, 0, 10, []), (101, .if_icmp .lt 35, 3, 136, 0, 0, 0, 0, []),
  (104, .aload_n 0, 1, 0, 0, 0, 0, 0, []), (105, .iconst 0, 1, 0, 0, 0, 0, 0, []), (106, .iload_n 2, 1, 2, 0, 0, 0, 0, []), (107, .bipush 10, 2, 0, 0, 0, 0, 10, []), (109, .isub, 1, 0, 0, 0, 0, 0, []), (110, .invokevirtual 139, 3, 40, 3, 4, 722, 5, []),
  (113, .ifCond .eq 23, 3, 136, 0, 0, 0, 0, []), (116, .aload_n 0, 1, 0, 0, 0, 0, 0, []), (117, .getfield 71, 3, 5, 3, 3, 490, 0, []), (120, .getfield 94, 3, 1, 0, 3, 463, 0, []), (123, .getfield 162, 3, 2, 6, 3, 223, 0, []), (126, .iload_n 1, 1, 1, 0, 0, 0, 0, []),
  (127, .aaload, 1, 0, 0, 0, 0, 0, []), (128, .iload_n 2, 1, 2, 0, 0, 0, 0, []), (129, .bipush 10, 2, 0, 0, 0, 0, 10, []), (131, .isub, 1, 0, 0, 0, 0, 0, []), (132, .iaload, 1, 0, 0, 0, 0, 0, []), (133, .goto 4, 3, 137, 0, 0, 0, 0, []),
  (136, .iconst (-1), 1, 0, 0, 0, 0, (-1), []), (137, .ireturn, 1, 0, 0, 1, 0, 0, [])]
noncomputable def am_s10 : am_S := (yX5_taste, cX5_taste, 3, (some .int), 1, 1, 3, 5, 737, 735, 736, 165)
noncomputable def am_c10 : List (Nat × am_E) := [(0, .iload_n 1, 1, 1, 0, 0, 0, 0, []), (1, .iconst (-1), 1, 0, 0, 0, 0, (-1), []), (2, .if_icmp .eq 12, 3, 14, 0, 0, 0, 0, []), (5, .aload_n 0, 1, 0, 0, 0, 0, 0, []), (6, .iconst 2, 1, 0, 0, 0, 0, 2, []), (7, .iload_n 1, 1, 1, 0, 0, 0, 0, []),
  (8, .invokevirtual 139, 3, 40, 3, 4, 722, 5, []), (11, .ifCond .eq 12, 3, 23, 0, 0, 0, 0, []), (14, .aload_n 0, 1, 0, 0, 0, 0, 0, []), (15, .iconst 0, 1, 0, 0, 0, 0, 0, []), (16, .iload_n 2, 1, 2, 0, 0, 0, 0, []), (17, .invokevirtual 139, 3, 40, 3, 4, 722, 5, []),
  (20, .ifCond .ne 5, 3, 25, 0, 0, 0, 0, []), (23, .iconst (-1), 1, 0, 0, 0, 0, (-1), []), (24, .ireturn, 1, 0, 0, 1, 0, 0, []), (25, .aload_n 0, 1, 0, 0, 0, 0, 0, []), (26, .getfield 71, 3, 5, 3, 3, 490, 0, []), (29, .getfield 99, 3, 1, 1, 3, 465, 0, []),
  (32, .getfield 165, 3, 0, 2, 3, 420, 0, []), (35, .iload_n 1, 1, 1, 0, 0, 0, 0, []), (36, .iconst 1, 1, 0, 0, 0, 0, 1, []), (37, .iadd, 1, 0, 0, 0, 0, 0, []), (38, .bipush 6, 2, 0, 0, 0, 0, 6, []), (40, .imul, 1, 0, 0, 0, 0, 0, []),
  (41, .iload_n 2, 1, 2, 0, 0, 0, 0, []), (42, .iadd, 1, 0, 0, 0, 0, 0, []), (43, .iaload, 1, 0, 0, 0, 0, 0, []), (44, .ireturn, 1, 0, 0, 1, 0, 0, [])]
noncomputable def am_s11 : am_S := (yX5_seen, cX5_seen, 3, (some .int), 1, 1, 3, 5, 741, 739, 740, 165)
noncomputable def am_c11 : List (Nat × am_E) := [(0, .iload_n 1, 1, 1, 0, 0, 0, 0, []), (1, .iconst (-1), 1, 0, 0, 0, 0, (-1), []), (2, .if_icmp .eq 12, 3, 14, 0, 0, 0, 0, []), (5, .aload_n 0, 1, 0, 0, 0, 0, 0, []), (6, .iconst 2, 1, 0, 0, 0, 0, 2, []), (7, .iload_n 1, 1, 1, 0, 0, 0, 0, []),
  (8, .invokevirtual 139, 3, 40, 3, 4, 722, 5, []), (11, .ifCond .eq 12, 3, 23, 0, 0, 0, 0, []), (14, .aload_n 0, 1, 0, 0, 0, 0, 0, []), (15, .iconst 1, 1, 0, 0, 0, 0, 1, []), (16, .iload_n 2, 1, 2, 0, 0, 0, 0, []), (17, .invokevirtual 139, 3, 40, 3, 4, 722, 5, []),
  (20, .ifCond .ne 5, 3, 25, 0, 0, 0, 0, []), (23, .iconst (-1), 1, 0, 0, 0, 0, (-1), []), (24, .ireturn, 1, 0, 0, 1, 0, 0, []), (25, .aload_n 0, 1, 0, 0, 0, 0, 0, []), (26, .getfield 71, 3, 5, 3, 3, 490, 0, []), (29, .getfield 99, 3, 1, 1, 3, 465, 0, []),
  (32, .getfield 168, 3, 0, 3, 3, 423, 0, []), (35, .iload_n 1, 1, 1, 0, 0, 0, 0, []), (36, .iconst 1, 1, 0, 0, 0, 0, 1, []), (37, .iadd, 1, 0, 0, 0, 0, 0, []), (38, .bipush 8, 2, 0, 0, 0, 0, 8, []), (40, .imul, 1, 0, 0, 0, 0, 0, []),
  (41, .iload_n 2, 1, 2, 0, 0, 0, 0, []), (42, .iadd, 1, 0, 0, 0, 0, 0, []), (43, .iaload, 1, 0, 0, 0, 0, 0, []), (44, .ireturn, 1, 0, 0, 1, 0, 0, [])]
noncomputable def am_s12 : am_S := (yX5_suggest, cX5_suggest, 2, (some .int), 1, 1, 2, 5, 745, 743, 744, 165)
noncomputable def am_c12 : List (Nat × am_E) := [(0, .aload_n 0, 1, 0, 0, 0, 0, 0, []), (1, .iconst 2, 1, 0, 0, 0, 0, 2, []), (2, .iload_n 1, 1, 1, 0, 0, 0, 0, []), (3, .invokevirtual 139, 3, 40, 3, 4, 722, 5, []), (6, .ifCond .eq 14, 3, 20, 0, 0, 0, 0, []), (9, .aload_n 0, 1, 0, 0, 0, 0, 0, []),
  (10, .getfield 71, 3, 5, 3, 3, 490, 0, []), (13, .iload_n 1, 1, 1, 0, 0, 0, 0, []), (14, .invokevirtual 171, 3, 74, 2, 1, 746, 1, []), (17, .goto 4, 3, 21, 0, 0, 0, 0, []), (20, .iconst (-1), 1, 0, 0, 0, 0, (-1), []), (21, .ireturn, 1, 0, 0, 1, 0, 0, [])]
noncomputable def am_s13 : am_S := (yX5_worth, cX5_worth, 3, (some .int), 1, 1, 3, 5, 799, 797, 798, 165)
noncomputable def am_c13 : List (Nat × am_E) := [(0, .aload_n 0, 1, 0, 0, 0, 0, 0, []), (1, .iconst 2, 1, 0, 0, 0, 0, 2, []), (2, .iload_n 1, 1, 1, 0, 0, 0, 0, []), (3, .invokevirtual 139, 3, 40, 3, 4, 722, 5, []), (6, .ifCond .eq 27, 3, 33, 0, 0, 0, 0, []), (9, .aload_n 0, 1, 0, 0, 0, 0, 0, []),
  (10, .iconst 1, 1, 0, 0, 0, 0, 1, []), (11, .iload_n 2, 1, 2, 0, 0, 0, 0, []), (12, .invokevirtual 139, 3, 40, 3, 4, 722, 5, []), (15, .ifCond .eq 18, 3, 33, 0, 0, 0, 0, []), (18, .aload_n 0, 1, 0, 0, 0, 0, 0, []), (19, .getfield 71, 3, 5, 3, 3, 490, 0, []),
  (22, .getfield 94, 3, 1, 0, 3, 463, 0, []), (25, .iload_n 1, 1, 1, 0, 0, 0, 0, []), (26, .iload_n 2, 1, 2, 0, 0, 0, 0, []), (27, .invokevirtual 174, 3, 88, 3, 1, 800, 2, []), (30, .goto 4, 3, 34, 0, 0, 0, 0, []), (33, .iconst (-1), 1, 0, 0, 0, 0, (-1), []),
  (34, .ireturn, 1, 0, 0, 1, 0, 0, [])]
noncomputable def am_s14 : am_S := (yX5_kept, cX5_kept, 5, (some .int), 1, 1, 3, 5, 807, 805, 806, 165)
noncomputable def am_c14 : List (Nat × am_E) := [(0, .iload_n 1, 1, 1, 0, 0, 0, 0, []), (1, .ifCond .lt 17, 3, 18, 0, 0, 0, 0, []), (4, .iload_n 1, 1, 1, 0, 0, 0, 0, []), (5, .aload_n 0, 1, 0, 0, 0, 0, 0, []), (6, .getfield 71, 3, 5, 3, 3, 490, 0, []), (9, .getfield 99, 3, 1, 1, 3, 465, 0, []),
  (12, .invokevirtual 136, 3, 68, 1, 1, 713, 0, []), (15, .if_icmp .lt 5, 3, 20, 0, 0, 0, 0, []), (18, .iconst (-1), 1, 0, 0, 0, 0, (-1), []), (19, .ireturn, 1, 0, 0, 1, 0, 0, []), (20, .aload_n 0, 1, 0, 0, 0, 0, 0, []), (21, .getfield 71, 3, 5, 3, 3, 490, 0, []),
  (24, .getfield 99, 3, 1, 1, 3, 465, 0, []), (27, .iload_n 1, 1, 1, 0, 0, 0, 0, []), (28, .invokevirtual 178, 3, 69, 2, 1, 808, 0, []), (31, .istore_n 3, 1, 3, 0, 0, 0, 0, []), (32, .iload_n 3, 1, 3, 0, 0, 0, 0, []), (33, .sipush 128, 3, 0, 0, 0, 0, 128, []),
  (36, .idiv, 1, 0, 0, 0, 0, 0, []), (37, .istore 4, 2, 4, 0, 0, 0, 0, []), (39, .iload_n 2, 1, 2, 0, 0, 0, 0, []), (40, .tableswitch 57 0 3 #[32, 38, 44, 52], 32, 97, 0, 0, 0, 0, [(0, 72), (1, 78), (2, 84), (3, 92)]), (72, .iload 4, 2, 4, 0, 0, 0, 0, []), (74, .bipush 24, 2, 0, 0, 0, 0, 24, []),
  (76, .idiv, 1, 0, 0, 0, 0, 0, []), (77, .ireturn, 1, 0, 0, 1, 0, 0, []), (78, .iload 4, 2, 4, 0, 0, 0, 0, []), (80, .bipush 24, 2, 0, 0, 0, 0, 24, []), (82, .irem, 1, 0, 0, 0, 0, 0, []), (83, .ireturn, 1, 0, 0, 1, 0, 0, []),
  (84, .iload_n 3, 1, 3, 0, 0, 0, 0, []), (85, .bipush 8, 2, 0, 0, 0, 0, 8, []), (87, .idiv, 1, 0, 0, 0, 0, 0, []), (88, .bipush 16, 2, 0, 0, 0, 0, 16, []), (90, .irem, 1, 0, 0, 0, 0, 0, []), (91, .ireturn, 1, 0, 0, 1, 0, 0, []),
  (92, .iload_n 3, 1, 3, 0, 0, 0, 0, []), (93, .bipush 8, 2, 0, 0, 0, 0, 8, []), (95, .irem, 1, 0, 0, 0, 0, 0, []), (96, .ireturn, 1, 0, 0, 1, 0, 0, []), (97, .iconst (-1), 1, 0, 0, 0, 0, (-1), []), (98, .ireturn, 1, 0, 0, 1, 0, 0, [])]
noncomputable def am_s15 : am_S := (yX5_pleased, cX5_pleased, 3, (some .long), 1, 2, 3, 5, 816, 814, 815, 165)
noncomputable def am_c15 : List (Nat × am_E) := [(0, .aload_n 0, 1, 0, 0, 0, 0, 0, []), (1, .iconst 2, 1, 0, 0, 0, 0, 2, []), (2, .iload_n 1, 1, 1, 0, 0, 0, 0, []), (3, .invokevirtual 139, 3, 40, 3, 4, 722, 5, []), (6, .ifCond .eq 14, 3, 20, 0, 0, 0, 0, []), (9, .aload_n 0, 1, 0, 0, 0, 0, 0, []),
  (10, .iload_n 2, 1, 2, 0, 0, 0, 0, []), (11, .iconst 0, 1, 0, 0, 0, 0, 0, []), (12, .bipush 72, 2, 0, 0, 0, 0, 72, []), (14, .invokevirtual 181, 3, 41, 4, 4, 817, 5, []), (17, .ifCond .ne 7, 3, 24, 0, 0, 0, 0, []), (20, .ldc2_w 185, 3, 0, 0, 0, 821, (-1000000000000000), []),
  (23, .lreturn, 1, 0, 0, 2, 0, 0, []), (24, .aload_n 0, 1, 0, 0, 0, 0, 0, []), (25, .aload_n 0, 1, 0, 0, 0, 0, 0, []), (26, .getfield 71, 3, 5, 3, 3, 490, 0, []), (29, .getfield 99, 3, 1, 1, 3, 465, 0, []), (32, .getfield 109, 3, 0, 1, 1, 417, 0, []),
  (35, .iload_n 2, 1, 2, 0, 0, 0, 0, []), (36, .invokevirtual 187, 3, 45, 3, 0, 822, 5, []), (39, .aload_n 0, 1, 0, 0, 0, 0, 0, []), (40, .getfield 75, 3, 5, 4, 3, 491, 0, []), (43, .getfield 191, 3, 1, 2, 3, 467, 0, []), (46, .iload_n 1, 1, 1, 0, 0, 0, 0, []),
  (47, .iaload, 1, 0, 0, 0, 0, 0, []), (48, .i2l, 1, 0, 0, 0, 0, 0, []), (49, .lreturn, 1, 0, 0, 2, 0, 0, [])]
noncomputable def am_s16 : am_S := (yX5_refused, cX5_refused, 3, (some .int), 1, 1, 3, 5, 872, 870, 871, 165)
noncomputable def am_c16 : List (Nat × am_E) := [(0, .aload_n 0, 1, 0, 0, 0, 0, 0, []), (1, .iconst 2, 1, 0, 0, 0, 0, 2, []), (2, .iload_n 1, 1, 1, 0, 0, 0, 0, []), (3, .invokevirtual 139, 3, 40, 3, 4, 722, 5, []), (6, .ifCond .eq 14, 3, 20, 0, 0, 0, 0, []), (9, .aload_n 0, 1, 0, 0, 0, 0, 0, []),
  (10, .iload_n 2, 1, 2, 0, 0, 0, 0, []), (11, .iconst 0, 1, 0, 0, 0, 0, 0, []), (12, .bipush 72, 2, 0, 0, 0, 0, 72, []), (14, .invokevirtual 181, 3, 41, 4, 4, 817, 5, []), (17, .ifCond .ne 5, 3, 22, 0, 0, 0, 0, []), (20, .iconst (-1), 1, 0, 0, 0, 0, (-1), []),
  (21, .ireturn, 1, 0, 0, 1, 0, 0, []), (22, .aload_n 0, 1, 0, 0, 0, 0, 0, []), (23, .aload_n 0, 1, 0, 0, 0, 0, 0, []), (24, .getfield 71, 3, 5, 3, 3, 490, 0, []), (27, .getfield 99, 3, 1, 1, 3, 465, 0, []), (30, .getfield 109, 3, 0, 1, 1, 417, 0, []),
  (33, .iload_n 2, 1, 2, 0, 0, 0, 0, []), (34, .invokevirtual 187, 3, 45, 3, 0, 822, 5, []), (37, .aload_n 0, 1, 0, 0, 0, 0, 0, []), (38, .getfield 75, 3, 5, 4, 3, 491, 0, []), (41, .getfield 194, 3, 1, 3, 3, 469, 0, []), (44, .iload_n 1, 1, 1, 0, 0, 0, 0, []),
  (45, .iaload, 1, 0, 0, 0, 0, 0, []), (46, .ireturn, 1, 0, 0, 1, 0, 0, [])]
noncomputable def am_s17 : am_S := (yX5_pressing, cX5_pressing, 6, (some .long), 1, 2, 3, 5, 876, 874, 875, 165)
noncomputable def am_c17 : List (Nat × am_E) := [(0, .aload_n 0, 1, 0, 0, 0, 0, 0, []), (1, .iconst 2, 1, 0, 0, 0, 0, 2, []), (2, .iload_n 1, 1, 1, 0, 0, 0, 0, []), (3, .invokevirtual 139, 3, 40, 3, 4, 722, 5, []), (6, .ifCond .eq 14, 3, 20, 0, 0, 0, 0, []), (9, .aload_n 0, 1, 0, 0, 0, 0, 0, []),
  (10, .iload_n 2, 1, 2, 0, 0, 0, 0, []), (11, .iconst 0, 1, 0, 0, 0, 0, 0, []), (12, .bipush 72, 2, 0, 0, 0, 0, 72, []), (14, .invokevirtual 181, 3, 41, 4, 4, 817, 5, []), (17, .ifCond .ne 7, 3, 24, 0, 0, 0, 0, []), (20, .ldc2_w 185, 3, 0, 0, 0, 821, (-1000000000000000), []),
  (23, .lreturn, 1, 0, 0, 2, 0, 0, []), (24, .iconst 1, 1, 0, 0, 0, 0, 1, []), (25, .iload_n 1, 1, 1, 0, 0, 0, 0, []), (26, .ishl, 1, 0, 0, 0, 0, 0, []), (27, .istore_n 3, 1, 3, 0, 0, 0, 0, []), (28, .aload_n 0, 1, 0, 0, 0, 0, 0, []),
  (29, .aload_n 0, 1, 0, 0, 0, 0, 0, []), (30, .getfield 71, 3, 5, 3, 3, 490, 0, []), (33, .getfield 99, 3, 1, 1, 3, 465, 0, []), (36, .getfield 109, 3, 0, 1, 1, 417, 0, []), (39, .iload_n 3, 1, 3, 0, 0, 0, 0, []), (40, .ior, 1, 0, 0, 0, 0, 0, []),
  (41, .iload_n 2, 1, 2, 0, 0, 0, 0, []), (42, .invokevirtual 187, 3, 45, 3, 0, 822, 5, []), (45, .aload_n 0, 1, 0, 0, 0, 0, 0, []), (46, .getfield 75, 3, 5, 4, 3, 491, 0, []), (49, .getfield 191, 3, 1, 2, 3, 467, 0, []), (52, .iload_n 1, 1, 1, 0, 0, 0, 0, []),
  (53, .iaload, 1, 0, 0, 0, 0, 0, []), (54, .i2l, 1, 0, 0, 0, 0, 0, []), (55, .lstore 4, 2, 4, 0, 0, 0, 0, []), (57, .aload_n 0, 1, 0, 0, 0, 0, 0, []), (58, .aload_n 0, 1, 0, 0, 0, 0, 0, []), (59, .getfield 71, 3, 5, 3, 3, 490, 0, []),
  (62, .getfield 99, 3, 1, 1, 3, 465, 0, []), (65, .getfield 109, 3, 0, 1, 1, 417, 0, []), (68, .iload_n 3, 1, 3, 0, 0, 0, 0, []), (69, .iconst (-1), 1, 0, 0, 0, 0, (-1), []), (70, .ixor, 1, 0, 0, 0, 0, 0, []), (71, .iand, 1, 0, 0, 0, 0, 0, []),
  (72, .iload_n 2, 1, 2, 0, 0, 0, 0, []), (73, .invokevirtual 187, 3, 45, 3, 0, 822, 5, []), (76, .lload 4, 2, 4, 0, 0, 0, 0, []), (78, .aload_n 0, 1, 0, 0, 0, 0, 0, []), (79, .getfield 75, 3, 5, 4, 3, 491, 0, []), (82, .getfield 191, 3, 1, 2, 3, 467, 0, []),
  (85, .iload_n 1, 1, 1, 0, 0, 0, 0, []), (86, .iaload, 1, 0, 0, 0, 0, 0, []), (87, .i2l, 1, 0, 0, 0, 0, 0, []), (88, .lsub, 1, 0, 0, 0, 0, 0, []), (89, .lreturn, 1, 0, 0, 2, 0, 0, [])]
noncomputable def am_s18 : am_S := (yX5_rest, cX5_rest, 7, (some .int), 1, 1, 2, 5, 880, 878, 879, 165)
noncomputable def am_c18 : List (Nat × am_E) := [(0, .aload_n 0, 1, 0, 0, 0, 0, 0, []), (1, .iload_n 1, 1, 1, 0, 0, 0, 0, []), (2, .iconst 0, 1, 0, 0, 0, 0, 0, []), (3, .bipush 48, 2, 0, 0, 0, 0, 48, []), (5, .invokevirtual 181, 3, 41, 4, 4, 817, 5, []), (8, .ifCond .ne 5, 3, 13, 0, 0, 0, 0, []),
  (11, .iconst (-1), 1, 0, 0, 0, 0, (-1), []), (12, .ireturn, 1, 0, 0, 1, 0, 0, []), (13, .aload_n 0, 1, 0, 0, 0, 0, 0, []), (14, .getfield 71, 3, 5, 3, 3, 490, 0, []), (17, .getfield 94, 3, 1, 0, 3, 463, 0, []), (20, .getfield 119, 3, 2, 0, 3, 203, 0, []),
  (23, .iconst 2, 1, 0, 0, 0, 0, 2, []), (24, .iaload, 1, 0, 0, 0, 0, 0, []), (25, .istore_n 2, 1, 2, 0, 0, 0, 0, []), (26, .iconst 1, 1, 0, 0, 0, 0, 1, []), (27, .iload_n 2, 1, 2, 0, 0, 0, 0, []), (28, .ishl, 1, 0, 0, 0, 0, 0, []),
  (29, .istore_n 3, 1, 3, 0, 0, 0, 0, []), (30, .iconst 0, 1, 0, 0, 0, 0, 0, []), (31, .istore 4, 2, 4, 0, 0, 0, 0, []), (33, .iload 4, 2, 4, 0, 0, 0, 0, []), (35, .iload_n 3, 1, 3, 0, 0, 0, 0, []), (36, .if_icmp .ge 36, 3, 72, 0, 0, 0, 0, []),
  (39, .aload_n 0, 1, 0, 0, 0, 0, 0, []), (40, .iload 4, 2, 4, 0, 0, 0, 0, []), (42, .iload_n 1, 1, 1, 0, 0, 0, 0, []), (43, .invokevirtual 187, 3, 45, 3, 0, 822, 5, []), (46, .aload_n 0, 1, 0, 0, 0, 0, 0, []), (47, .getfield 75, 3, 5, 4, 3, 491, 0, []),
  (50, .getfield 191, 3, 1, 2, 3, 467, 0, []), (53, .iconst 0, 1, 0, 0, 0, 0, 0, []), (54, .aload_n 0, 1, 0, 0, 0, 0, 0, []), (55, .getfield 51, 3, 5, 12, 3, 499, 0, []), (58, .iload 4, 2, 4, 0, 0, 0, 0, []), (60, .iconst 5, 1, 0, 0, 0, 0, 5, []),
  (61, .imul, 1, 0, 0, 0, 0, 0, []), (62, .iconst 5, 1, 0, 0, 0, 0, 5, []), (63, .invokestatic 197, 3, 0, 5, 8, 881, 0, []), (66, .iinc 4 1, 3, 4, 0, 0, 0, 1, []), (69, .goto (-36), 3, 33, 0, 0, 0, 0, []), (72, .iconst (-1), 1, 0, 0, 0, 0, (-1), []),
  (73, .istore 4, 2, 4, 0, 0, 0, 0, []), (75, .iconst 0, 1, 0, 0, 0, 0, 0, []), (76, .istore 5, 2, 5, 0, 0, 0, 0, []), (78, .iload 5, 2, 5, 0, 0, 0, 0, []), (80, .iload_n 3, 1, 3, 0, 0, 0, 0, []), (81, .if_icmp .ge 54, 3, 135, 0, 0, 0, 0, []),
  (84, .iload 4, 2, 4, 0, 0, 0, 0, []), (86, .iconst (-1), 1, 0, 0, 0, 0, (-1), []), (87, .if_icmp .eq 16, 3, 103, 0, 0, 0, 0, []), (90, .iload 5, 2, 5, 0, 0, 0, 0, []), (92, .invokestatic 128, 3, 272, 1, 1, 703, 0, []), (95, .iload 4, 2, 4, 0, 0, 0, 0, []),
  (97, .invokestatic 128, 3, 272, 1, 1, 703, 0, []), (100, .if_icmp .ge 7, 3, 107, 0, 0, 0, 0, []), (103, .iconst 1, 1, 0, 0, 0, 0, 1, []), (104, .goto 4, 3, 108, 0, 0, 0, 0, []), (107, .iconst 0, 1, 0, 0, 0, 0, 0, []), (108, .istore 6, 2, 6, 0, 0, 0, 0, []),
  (110, .iload 6, 2, 6, 0, 0, 0, 0, []), (112, .ifCond .eq 17, 3, 129, 0, 0, 0, 0, []), (115, .aload_n 0, 1, 0, 0, 0, 0, 0, []), (116, .iload 5, 2, 5, 0, 0, 0, 0, []), (118, .iload_n 2, 1, 2, 0, 0, 0, 0, []), (119, .invokevirtual 203, 3, 46, 3, 4, 882, 5, []),
  (122, .ifCond .eq 7, 3, 129, 0, 0, 0, 0, []), (125, .iload 5, 2, 5, 0, 0, 0, 0, []), (127, .istore 4, 2, 4, 0, 0, 0, 0, []), (129, .iinc 5 1, 3, 5, 0, 0, 0, 1, []), (132, .goto (-54), 3, 78, 0, 0, 0, 0, []), (135, .iload 4, 2, 4, 0, 0, 0, 0, []),
  (137, .ireturn, 1, 0, 0, 1, 0, 0, [])]
noncomputable def am_s19 : am_S := (yX5_gone, cX5_gone, 6, (some .int), 1, 1, 3, 5, 889, 887, 888, 165)
noncomputable def am_c19 : List (Nat × am_E) := [(0, .aload_n 0, 1, 0, 0, 0, 0, 0, []), (1, .iconst 2, 1, 0, 0, 0, 0, 2, []), (2, .iload_n 1, 1, 1, 0, 0, 0, 0, []), (3, .invokevirtual 139, 3, 40, 3, 4, 722, 5, []), (6, .ifCond .eq 12, 3, 18, 0, 0, 0, 0, []), (9, .aload_n 0, 1, 0, 0, 0, 0, 0, []),
  (10, .iconst 0, 1, 0, 0, 0, 0, 0, []), (11, .iload_n 2, 1, 2, 0, 0, 0, 0, []), (12, .invokevirtual 139, 3, 40, 3, 4, 722, 5, []), (15, .ifCond .ne 5, 3, 20, 0, 0, 0, 0, []), (18, .iconst (-1), 1, 0, 0, 0, 0, (-1), []), (19, .ireturn, 1, 0, 0, 1, 0, 0, []),
  (20, .aload_n 0, 1, 0, 0, 0, 0, 0, []), (21, .aload_n 0, 1, 0, 0, 0, 0, 0, []), (22, .getfield 71, 3, 5, 3, 3, 490, 0, []), (25, .getfield 99, 3, 1, 1, 3, 465, 0, []), (28, .getfield 109, 3, 0, 1, 1, 417, 0, []), (31, .iconst 0, 1, 0, 0, 0, 0, 0, []),
  (32, .invokevirtual 187, 3, 45, 3, 0, 822, 5, []), (35, .aload_n 0, 1, 0, 0, 0, 0, 0, []), (36, .getfield 75, 3, 5, 4, 3, 491, 0, []), (39, .getfield 99, 3, 1, 1, 3, 465, 0, []), (42, .iload_n 1, 1, 1, 0, 0, 0, 0, []), (43, .invokevirtual 206, 3, 67, 2, 1, 890, 0, []),
  (46, .bipush 6, 2, 0, 0, 0, 0, 6, []), (48, .imul, 1, 0, 0, 0, 0, 0, []), (49, .iload_n 2, 1, 2, 0, 0, 0, 0, []), (50, .iadd, 1, 0, 0, 0, 0, 0, []), (51, .istore_n 3, 1, 3, 0, 0, 0, 0, []), (52, .bipush 72, 2, 0, 0, 0, 0, 72, []),
  (54, .sipush 23999, 3, 0, 0, 0, 0, 23999, []), (57, .aload_n 0, 1, 0, 0, 0, 0, 0, []), (58, .getfield 71, 3, 5, 3, 3, 490, 0, []), (61, .getfield 99, 3, 1, 1, 3, 465, 0, []), (64, .getfield 125, 3, 0, 0, 1, 414, 0, []), (67, .isub, 1, 0, 0, 0, 0, 0, []),
  (68, .invokestatic 209, 3, 276, 2, 1, 891, 0, []), (71, .istore 4, 2, 4, 0, 0, 0, 0, []), (73, .iconst 0, 1, 0, 0, 0, 0, 0, []), (74, .istore 5, 2, 5, 0, 0, 0, 0, []), (76, .iload 5, 2, 5, 0, 0, 0, 0, []), (78, .iload 4, 2, 4, 0, 0, 0, 0, []),
  (80, .if_icmp .gt 42, 3, 122, 0, 0, 0, 0, []), (83, .aload_n 0, 1, 0, 0, 0, 0, 0, []), (84, .getfield 75, 3, 5, 4, 3, 491, 0, []), (87, .getfield 99, 3, 1, 1, 3, 465, 0, []), (90, .getfield 165, 3, 0, 2, 3, 420, 0, []), (93, .iload_n 3, 1, 3, 0, 0, 0, 0, []),
  (94, .iaload, 1, 0, 0, 0, 0, 0, []), (95, .ifCond .ne 6, 3, 101, 0, 0, 0, 0, []), (98, .iload 5, 2, 5, 0, 0, 0, 0, []), (100, .ireturn, 1, 0, 0, 1, 0, 0, []), (101, .iload 5, 2, 5, 0, 0, 0, 0, []), (103, .iload 4, 2, 4, 0, 0, 0, 0, []),
  (105, .if_icmp .ge 11, 3, 116, 0, 0, 0, 0, []), (108, .aload_n 0, 1, 0, 0, 0, 0, 0, []), (109, .getfield 75, 3, 5, 4, 3, 491, 0, []), (112, .invokevirtual 214, 3, 73, 1, 1, 837, 1, []), (115, .pop, 1, 0, 0, 0, 0, 0, []), (116, .iinc 5 1, 3, 5, 0, 0, 0, 1, []),
  (119, .goto (-43), 3, 76, 0, 0, 0, 0, []), (122, .iconst (-1), 1, 0, 0, 0, 0, (-1), []), (123, .ireturn, 1, 0, 0, 1, 0, 0, [])]
noncomputable def am_s20 : am_S := (yX5_sow, cX5_sow, 7, (some .int), 1, 1, 3, 5, 895, 893, 894, 165)
noncomputable def am_c20 : List (Nat × am_E) := [(0, .aload_n 0, 1, 0, 0, 0, 0, 0, []), (1, .iconst 2, 1, 0, 0, 0, 0, 2, []), (2, .iload_n 1, 1, 1, 0, 0, 0, 0, []), (3, .invokevirtual 139, 3, 40, 3, 4, 722, 5, []), (6, .ifCond .eq 14, 3, 20, 0, 0, 0, 0, []), (9, .aload_n 0, 1, 0, 0, 0, 0, 0, []),
  (10, .iload_n 2, 1, 2, 0, 0, 0, 0, []), (11, .iconst 0, 1, 0, 0, 0, 0, 0, []), (12, .bipush 72, 2, 0, 0, 0, 0, 72, []), (14, .invokevirtual 181, 3, 41, 4, 4, 817, 5, []), (17, .ifCond .ne 5, 3, 22, 0, 0, 0, 0, []), (20, .iconst (-1), 1, 0, 0, 0, 0, (-1), []),
  (21, .ireturn, 1, 0, 0, 1, 0, 0, []), (22, .iconst (-1), 1, 0, 0, 0, 0, (-1), []), (23, .istore_n 3, 1, 3, 0, 0, 0, 0, []), (24, .iconst 0, 1, 0, 0, 0, 0, 0, []), (25, .istore 4, 2, 4, 0, 0, 0, 0, []), (27, .iconst 0, 1, 0, 0, 0, 0, 0, []),
  (28, .istore 5, 2, 5, 0, 0, 0, 0, []), (30, .iload 5, 2, 5, 0, 0, 0, 0, []), (32, .aload_n 0, 1, 0, 0, 0, 0, 0, []), (33, .getfield 71, 3, 5, 3, 3, 490, 0, []), (36, .getfield 94, 3, 1, 0, 3, 463, 0, []), (39, .getfield 119, 3, 2, 0, 3, 203, 0, []),
  (42, .iconst 1, 1, 0, 0, 0, 0, 1, []), (43, .iaload, 1, 0, 0, 0, 0, 0, []), (44, .if_icmp .ge 117, 3, 161, 0, 0, 0, 0, []), (47, .aload_n 0, 1, 0, 0, 0, 0, 0, []), (48, .getfield 71, 3, 5, 3, 3, 490, 0, []), (51, .iload_n 1, 1, 1, 0, 0, 0, 0, []),
  (52, .iload 5, 2, 5, 0, 0, 0, 0, []), (54, .invokevirtual 217, 3, 75, 3, 4, 896, 1, []), (57, .ifCond .ne 6, 3, 63, 0, 0, 0, 0, []), (60, .goto 95, 3, 155, 0, 0, 0, 0, []), (63, .aload_n 0, 1, 0, 0, 0, 0, 0, []), (64, .aload_n 0, 1, 0, 0, 0, 0, 0, []),
  (65, .getfield 71, 3, 5, 3, 3, 490, 0, []), (68, .getfield 99, 3, 1, 1, 3, 465, 0, []), (71, .getfield 109, 3, 0, 1, 1, 417, 0, []), (74, .iconst 0, 1, 0, 0, 0, 0, 0, []), (75, .invokevirtual 187, 3, 45, 3, 0, 822, 5, []), (78, .aload_n 0, 1, 0, 0, 0, 0, 0, []),
  (79, .getfield 75, 3, 5, 4, 3, 491, 0, []), (82, .iload_n 1, 1, 1, 0, 0, 0, 0, []), (83, .iload 5, 2, 5, 0, 0, 0, 0, []), (85, .invokevirtual 220, 3, 76, 3, 1, 900, 1, []), (88, .pop, 1, 0, 0, 0, 0, 0, []), (89, .aload_n 0, 1, 0, 0, 0, 0, 0, []),
  (90, .getfield 75, 3, 5, 4, 3, 491, 0, []), (93, .getfield 191, 3, 1, 2, 3, 467, 0, []), (96, .iload_n 1, 1, 1, 0, 0, 0, 0, []), (97, .iconst 0, 1, 0, 0, 0, 0, 0, []), (98, .iastore, 1, 0, 0, 0, 0, 0, []), (99, .iconst 0, 1, 0, 0, 0, 0, 0, []),
  (100, .istore 6, 2, 6, 0, 0, 0, 0, []), (102, .iload 6, 2, 6, 0, 0, 0, 0, []), (104, .iload_n 2, 1, 2, 0, 0, 0, 0, []), (105, .if_icmp .ge 17, 3, 122, 0, 0, 0, 0, []), (108, .aload_n 0, 1, 0, 0, 0, 0, 0, []), (109, .getfield 75, 3, 5, 4, 3, 491, 0, []),
  (112, .invokevirtual 214, 3, 73, 1, 1, 837, 1, []), (115, .pop, 1, 0, 0, 0, 0, 0, []), (116, .iinc 6 1, 3, 6, 0, 0, 0, 1, []), (119, .goto (-17), 3, 102, 0, 0, 0, 0, []), (122, .iload_n 3, 1, 3, 0, 0, 0, 0, []), (123, .iconst (-1), 1, 0, 0, 0, 0, (-1), []),
  (124, .if_icmp .eq 17, 3, 141, 0, 0, 0, 0, []), (127, .aload_n 0, 1, 0, 0, 0, 0, 0, []), (128, .getfield 75, 3, 5, 4, 3, 491, 0, []), (131, .getfield 191, 3, 1, 2, 3, 467, 0, []), (134, .iload_n 1, 1, 1, 0, 0, 0, 0, []), (135, .iaload, 1, 0, 0, 0, 0, 0, []),
  (136, .iload 4, 2, 4, 0, 0, 0, 0, []), (138, .if_icmp .le 17, 3, 155, 0, 0, 0, 0, []), (141, .iload 5, 2, 5, 0, 0, 0, 0, []), (143, .istore_n 3, 1, 3, 0, 0, 0, 0, []), (144, .aload_n 0, 1, 0, 0, 0, 0, 0, []), (145, .getfield 75, 3, 5, 4, 3, 491, 0, []),
  (148, .getfield 191, 3, 1, 2, 3, 467, 0, []), (151, .iload_n 1, 1, 1, 0, 0, 0, 0, []), (152, .iaload, 1, 0, 0, 0, 0, 0, []), (153, .istore 4, 2, 4, 0, 0, 0, 0, []), (155, .iinc 5 1, 3, 5, 0, 0, 0, 1, []), (158, .goto (-128), 3, 30, 0, 0, 0, 0, []),
  (161, .iload_n 3, 1, 3, 0, 0, 0, 0, []), (162, .ireturn, 1, 0, 0, 1, 0, 0, [])]
noncomputable def am_s21 : am_S := (yX5_who, cX5_who, 10, (some .int), 1, 1, 4, 5, 904, 902, 903, 165)
noncomputable def am_c21 : List (Nat × am_E) := [(0, .aload_n 0, 1, 0, 0, 0, 0, 0, []), (1, .iconst 2, 1, 0, 0, 0, 0, 2, []), (2, .iload_n 1, 1, 1, 0, 0, 0, 0, []), (3, .invokevirtual 139, 3, 40, 3, 4, 722, 5, []), (6, .ifCond .eq 22, 3, 28, 0, 0, 0, 0, []), (9, .aload_n 0, 1, 0, 0, 0, 0, 0, []),
  (10, .iconst 1, 1, 0, 0, 0, 0, 1, []), (11, .iload_n 2, 1, 2, 0, 0, 0, 0, []), (12, .invokevirtual 139, 3, 40, 3, 4, 722, 5, []), (15, .ifCond .eq 13, 3, 28, 0, 0, 0, 0, []), (18, .iload_n 3, 1, 3, 0, 0, 0, 0, []), (19, .ifCond .lt 9, 3, 28, 0, 0, 0, 0, []),
  (22, .iload_n 3, 1, 3, 0, 0, 0, 0, []), (23, .bipush 24, 2, 0, 0, 0, 0, 24, []), (25, .if_icmp .lt 5, 3, 30, 0, 0, 0, 0, []), (28, .iconst (-1), 1, 0, 0, 0, 0, (-1), []), (29, .ireturn, 1, 0, 0, 1, 0, 0, []), (30, .lconst 0, 1, 0, 0, 0, 0, 0, []),
  (31, .lstore 4, 2, 4, 0, 0, 0, 0, []), (33, .lconst 0, 1, 0, 0, 0, 0, 0, []), (34, .lstore 6, 2, 6, 0, 0, 0, 0, []), (36, .iconst 0, 1, 0, 0, 0, 0, 0, []), (37, .istore 8, 2, 8, 0, 0, 0, 0, []), (39, .iload 8, 2, 8, 0, 0, 0, 0, []),
  (41, .aload_n 0, 1, 0, 0, 0, 0, 0, []), (42, .getfield 71, 3, 5, 3, 3, 490, 0, []), (45, .getfield 94, 3, 1, 0, 3, 463, 0, []), (48, .getfield 119, 3, 2, 0, 3, 203, 0, []), (51, .iconst 2, 1, 0, 0, 0, 0, 2, []), (52, .iaload, 1, 0, 0, 0, 0, 0, []),
  (53, .if_icmp .ge 68, 3, 121, 0, 0, 0, 0, []), (56, .aload_n 0, 1, 0, 0, 0, 0, 0, []), (57, .getfield 71, 3, 5, 3, 3, 490, 0, []), (60, .getfield 94, 3, 1, 0, 3, 463, 0, []), (63, .iload 8, 2, 8, 0, 0, 0, 0, []), (65, .iload_n 3, 1, 3, 0, 0, 0, 0, []),
  (66, .invokevirtual 223, 3, 87, 3, 4, 905, 2, []), (69, .ifCond .eq 46, 3, 115, 0, 0, 0, 0, []), (72, .aload_n 0, 1, 0, 0, 0, 0, 0, []), (73, .getfield 71, 3, 5, 3, 3, 490, 0, []), (76, .getfield 94, 3, 1, 0, 3, 463, 0, []), (79, .iload 8, 2, 8, 0, 0, 0, 0, []),
  (81, .iload_n 2, 1, 2, 0, 0, 0, 0, []), (82, .invokevirtual 174, 3, 88, 3, 1, 800, 2, []), (85, .iconst 1, 1, 0, 0, 0, 0, 1, []), (86, .iadd, 1, 0, 0, 0, 0, 0, []), (87, .istore 9, 2, 9, 0, 0, 0, 0, []), (89, .lload 4, 2, 4, 0, 0, 0, 0, []),
  (91, .iload 9, 2, 9, 0, 0, 0, 0, []), (93, .i2l, 1, 0, 0, 0, 0, 0, []), (94, .ladd, 1, 0, 0, 0, 0, 0, []), (95, .lstore 4, 2, 4, 0, 0, 0, 0, []), (97, .lload 6, 2, 6, 0, 0, 0, 0, []), (99, .iload 8, 2, 8, 0, 0, 0, 0, []),
  (101, .iload_n 1, 1, 1, 0, 0, 0, 0, []), (102, .if_icmp .ne 9, 3, 111, 0, 0, 0, 0, []), (105, .iload 9, 2, 9, 0, 0, 0, 0, []), (107, .i2l, 1, 0, 0, 0, 0, 0, []), (108, .goto 4, 3, 112, 0, 0, 0, 0, []), (111, .lconst 0, 1, 0, 0, 0, 0, 0, []),
  (112, .ladd, 1, 0, 0, 0, 0, 0, []), (113, .lstore 6, 2, 6, 0, 0, 0, 0, []), (115, .iinc 8 1, 3, 8, 0, 0, 0, 1, []), (118, .goto (-79), 3, 39, 0, 0, 0, 0, []), (121, .lload 4, 2, 4, 0, 0, 0, 0, []), (123, .lconst 0, 1, 0, 0, 0, 0, 0, []),
  (124, .lcmp, 1, 0, 0, 0, 0, 0, []), (125, .ifCond .ne 7, 3, 132, 0, 0, 0, 0, []), (128, .iconst (-1), 1, 0, 0, 0, 0, (-1), []), (129, .goto 13, 3, 142, 0, 0, 0, 0, []), (132, .lload 6, 2, 6, 0, 0, 0, 0, []), (134, .ldc2_w 226, 3, 0, 0, 0, 906, 1000000, []),
  (137, .lmul, 1, 0, 0, 0, 0, 0, []), (138, .lload 4, 2, 4, 0, 0, 0, 0, []), (140, .ldiv, 1, 0, 0, 0, 0, 0, []), (141, .l2i, 1, 0, 0, 0, 0, 0, []), (142, .ireturn, 1, 0, 0, 1, 0, 0, [])]
noncomputable def am_s22 : am_S := (yX5_sofa, cX5_sofa, 7, (some .int), 1, 1, 3, 5, 910, 908, 909, 165)
noncomputable def am_c22 : List (Nat × am_E) := [(0, .iload_n 1, 1, 1, 0, 0, 0, 0, []), (1, .iconst 1, 1, 0, 0, 0, 0, 1, []), (2, .if_icmp .lt 30, 3, 32, 0, 0, 0, 0, []), (5, .iload_n 1, 1, 1, 0, 0, 0, 0, []), (6, .iconst 1, 1, 0, 0, 0, 0, 1, []), (7, .aload_n 0, 1, 0, 0, 0, 0, 0, []),
  (8, .getfield 71, 3, 5, 3, 3, 490, 0, []), (11, .getfield 94, 3, 1, 0, 3, 463, 0, []), (14, .getfield 119, 3, 2, 0, 3, 203, 0, []), (17, .iconst 2, 1, 0, 0, 0, 0, 2, []), (18, .iaload, 1, 0, 0, 0, 0, 0, []), (19, .ishl, 1, 0, 0, 0, 0, 0, []),
  (20, .if_icmp .ge 12, 3, 32, 0, 0, 0, 0, []), (23, .iload_n 2, 1, 2, 0, 0, 0, 0, []), (24, .ifCond .lt 8, 3, 32, 0, 0, 0, 0, []), (27, .iload_n 2, 1, 2, 0, 0, 0, 0, []), (28, .iconst 2, 1, 0, 0, 0, 0, 2, []), (29, .if_icmp .le 5, 3, 34, 0, 0, 0, 0, []),
  (32, .iconst (-1), 1, 0, 0, 0, 0, (-1), []), (33, .ireturn, 1, 0, 0, 1, 0, 0, []), (34, .iload_n 2, 1, 2, 0, 0, 0, 0, []), (35, .iconst 2, 1, 0, 0, 0, 0, 2, []), (36, .if_icmp .ne 8, 3, 44, 0, 0, 0, 0, []), (39, .aload_n 0, 1, 0, 0, 0, 0, 0, []),
  (40, .iload_n 1, 1, 1, 0, 0, 0, 0, []), (41, .invokevirtual 228, 3, 48, 2, 0, 911, 5, []), (44, .iconst (-1), 1, 0, 0, 0, 0, (-1), []), (45, .istore_n 3, 1, 3, 0, 0, 0, 0, []), (46, .iconst 0, 1, 0, 0, 0, 0, 0, []), (47, .istore 4, 2, 4, 0, 0, 0, 0, []),
  (49, .iconst 0, 1, 0, 0, 0, 0, 0, []), (50, .istore 5, 2, 5, 0, 0, 0, 0, []), (52, .iload 5, 2, 5, 0, 0, 0, 0, []), (54, .aload_n 0, 1, 0, 0, 0, 0, 0, []), (55, .getfield 71, 3, 5, 3, 3, 490, 0, []), (58, .getfield 94, 3, 1, 0, 3, 463, 0, []),
  (61, .getfield 119, 3, 2, 0, 3, 203, 0, []), (64, .iconst 1, 1, 0, 0, 0, 0, 1, []), (65, .iaload, 1, 0, 0, 0, 0, 0, []), (66, .if_icmp .ge 62, 3, 128, 0, 0, 0, 0, []), (69, .iload_n 2, 1, 2, 0, 0, 0, 0, []), (70, .iconst 2, 1, 0, 0, 0, 0, 2, []),
  (71, .if_icmp .ne 13, 3, 84, 0, 0, 0, 0, []), (74, .aload_n 0, 1, 0, 0, 0, 0, 0, []), (75, .getfield 54, 3, 5, 13, 3, 500, 0, []), (78, .iload 5, 2, 5, 0, 0, 0, 0, []), (80, .iaload, 1, 0, 0, 0, 0, 0, []), (81, .goto 20, 3, 101, 0, 0, 0, 0, []),
  (84, .aload_n 0, 1, 0, 0, 0, 0, 0, []), (85, .iload_n 1, 1, 1, 0, 0, 0, 0, []), (86, .iload 5, 2, 5, 0, 0, 0, 0, []), (88, .iload_n 2, 1, 2, 0, 0, 0, 0, []), (89, .iconst 1, 1, 0, 0, 0, 0, 1, []), (90, .if_icmp .ne 7, 3, 97, 0, 0, 0, 0, []),
  (93, .iconst 1, 1, 0, 0, 0, 0, 1, []), (94, .goto 4, 3, 98, 0, 0, 0, 0, []), (97, .iconst 0, 1, 0, 0, 0, 0, 0, []), (98, .invokevirtual 231, 3, 47, 4, 1, 920, 5, []), (101, .istore 6, 2, 6, 0, 0, 0, 0, []), (103, .iload_n 3, 1, 3, 0, 0, 0, 0, []),
  (104, .iconst (-1), 1, 0, 0, 0, 0, (-1), []), (105, .if_icmp .eq 10, 3, 115, 0, 0, 0, 0, []), (108, .iload 6, 2, 6, 0, 0, 0, 0, []), (110, .iload 4, 2, 4, 0, 0, 0, 0, []), (112, .if_icmp .le 10, 3, 122, 0, 0, 0, 0, []), (115, .iload 5, 2, 5, 0, 0, 0, 0, []),
  (117, .istore_n 3, 1, 3, 0, 0, 0, 0, []), (118, .iload 6, 2, 6, 0, 0, 0, 0, []), (120, .istore 4, 2, 4, 0, 0, 0, 0, []), (122, .iinc 5 1, 3, 5, 0, 0, 0, 1, []), (125, .goto (-73), 3, 52, 0, 0, 0, 0, []), (128, .iload_n 3, 1, 3, 0, 0, 0, 0, []),
  (129, .ireturn, 1, 0, 0, 1, 0, 0, [])]
noncomputable def am_s23 : am_S := (yX5_share, cX5_share, 7, (some .int), 1, 1, 2, 5, 927, 925, 926, 165)
noncomputable def am_c23 : List (Nat × am_E) := [(0, .aload_n 0, 1, 0, 0, 0, 0, 0, []), (1, .invokevirtual 133, 3, 42, 1, 1, 709, 5, []), (4, .istore_n 2, 1, 2, 0, 0, 0, 0, []), (5, .aload_n 0, 1, 0, 0, 0, 0, 0, []), (6, .iconst 2, 1, 0, 0, 0, 0, 2, []), (7, .iload_n 1, 1, 1, 0, 0, 0, 0, []),
  (8, .invokevirtual 139, 3, 40, 3, 4, 722, 5, []), (11, .ifCond .eq 7, 3, 18, 0, 0, 0, 0, []), (14, .iload_n 2, 1, 2, 0, 0, 0, 0, []), (15, .ifCond .ne 5, 3, 20, 0, 0, 0, 0, []), (18, .iconst (-1), 1, 0, 0, 0, 0, (-1), []), (19, .ireturn, 1, 0, 0, 1, 0, 0, []),
  (20, .aload_n 0, 1, 0, 0, 0, 0, 0, []), (21, .getfield 71, 3, 5, 3, 3, 490, 0, []), (24, .getfield 94, 3, 1, 0, 3, 463, 0, []), (27, .getfield 235, 3, 2, 9, 1, 234, 0, []), (30, .istore_n 3, 1, 3, 0, 0, 0, 0, []), (31, .iload_n 3, 1, 3, 0, 0, 0, 0, []),
  (32, .istore 4, 2, 4, 0, 0, 0, 0, []), (34, .iconst 0, 1, 0, 0, 0, 0, 0, []), (35, .istore 5, 2, 5, 0, 0, 0, 0, []), (37, .iconst 0, 1, 0, 0, 0, 0, 0, []), (38, .istore 6, 2, 6, 0, 0, 0, 0, []), (40, .iload 6, 2, 6, 0, 0, 0, 0, []),
  (42, .aload_n 0, 1, 0, 0, 0, 0, 0, []), (43, .getfield 71, 3, 5, 3, 3, 490, 0, []), (46, .getfield 94, 3, 1, 0, 3, 463, 0, []), (49, .getfield 119, 3, 2, 0, 3, 203, 0, []), (52, .iconst 2, 1, 0, 0, 0, 0, 2, []), (53, .iaload, 1, 0, 0, 0, 0, 0, []),
  (54, .if_icmp .ge 64, 3, 118, 0, 0, 0, 0, []), (57, .iload 4, 2, 4, 0, 0, 0, 0, []), (59, .iload_n 3, 1, 3, 0, 0, 0, 0, []), (60, .aload_n 0, 1, 0, 0, 0, 0, 0, []), (61, .getfield 71, 3, 5, 3, 3, 490, 0, []), (64, .getfield 99, 3, 1, 1, 3, 465, 0, []),
  (67, .getfield 159, 3, 0, 4, 3, 426, 0, []), (70, .iload 6, 2, 6, 0, 0, 0, 0, []), (72, .iaload, 1, 0, 0, 0, 0, 0, []), (73, .imul, 1, 0, 0, 0, 0, 0, []), (74, .iload_n 2, 1, 2, 0, 0, 0, 0, []), (75, .idiv, 1, 0, 0, 0, 0, 0, []),
  (76, .isub, 1, 0, 0, 0, 0, 0, []), (77, .istore 4, 2, 4, 0, 0, 0, 0, []), (79, .aload_n 0, 1, 0, 0, 0, 0, 0, []), (80, .getfield 71, 3, 5, 3, 3, 490, 0, []), (83, .getfield 99, 3, 1, 1, 3, 465, 0, []), (86, .getfield 159, 3, 0, 4, 3, 426, 0, []),
  (89, .iload 6, 2, 6, 0, 0, 0, 0, []), (91, .iaload, 1, 0, 0, 0, 0, 0, []), (92, .aload_n 0, 1, 0, 0, 0, 0, 0, []), (93, .getfield 71, 3, 5, 3, 3, 490, 0, []), (96, .getfield 99, 3, 1, 1, 3, 465, 0, []), (99, .getfield 159, 3, 0, 4, 3, 426, 0, []),
  (102, .iload 5, 2, 5, 0, 0, 0, 0, []), (104, .iaload, 1, 0, 0, 0, 0, 0, []), (105, .if_icmp .le 7, 3, 112, 0, 0, 0, 0, []), (108, .iload 6, 2, 6, 0, 0, 0, 0, []), (110, .istore 5, 2, 5, 0, 0, 0, 0, []), (112, .iinc 6 1, 3, 6, 0, 0, 0, 1, []),
  (115, .goto (-75), 3, 40, 0, 0, 0, 0, []), (118, .iload_n 3, 1, 3, 0, 0, 0, 0, []), (119, .aload_n 0, 1, 0, 0, 0, 0, 0, []), (120, .getfield 71, 3, 5, 3, 3, 490, 0, []), (123, .getfield 99, 3, 1, 1, 3, 465, 0, []), (126, .getfield 159, 3, 0, 4, 3, 426, 0, []),
  (129, .iload_n 1, 1, 1, 0, 0, 0, 0, []), (130, .iaload, 1, 0, 0, 0, 0, 0, []), (131, .imul, 1, 0, 0, 0, 0, 0, []), (132, .iload_n 2, 1, 2, 0, 0, 0, 0, []), (133, .idiv, 1, 0, 0, 0, 0, 0, []), (134, .istore 6, 2, 6, 0, 0, 0, 0, []),
  (136, .iload_n 1, 1, 1, 0, 0, 0, 0, []), (137, .iload 5, 2, 5, 0, 0, 0, 0, []), (139, .if_icmp .ne 11, 3, 150, 0, 0, 0, 0, []), (142, .iload 6, 2, 6, 0, 0, 0, 0, []), (144, .iload 4, 2, 4, 0, 0, 0, 0, []), (146, .iadd, 1, 0, 0, 0, 0, 0, []),
  (147, .goto 5, 3, 152, 0, 0, 0, 0, []), (150, .iload 6, 2, 6, 0, 0, 0, 0, []), (152, .ireturn, 1, 0, 0, 1, 0, 0, [])]
noncomputable def am_s24 : am_S := (yX5_tell, cX5_tell, 4, (some .int), 1, 1, 1, 5, 931, 929, 930, 165)
noncomputable def am_c24 : List (Nat × am_E) := [(0, .aload_n 0, 1, 0, 0, 0, 0, 0, []), (1, .invokevirtual 87, 3, 39, 1, 1, 556, 5, []), (4, .istore_n 1, 1, 1, 0, 0, 0, 0, []), (5, .iload_n 1, 1, 1, 0, 0, 0, 0, []), (6, .iconst 3, 1, 0, 0, 0, 0, 3, []), (7, .idiv, 1, 0, 0, 0, 0, 0, []),
  (8, .istore_n 2, 1, 2, 0, 0, 0, 0, []), (9, .iload_n 2, 1, 2, 0, 0, 0, 0, []), (10, .iconst 1, 1, 0, 0, 0, 0, 1, []), (11, .if_icmp .lt 16, 3, 27, 0, 0, 0, 0, []), (14, .iload_n 2, 1, 2, 0, 0, 0, 0, []), (15, .bipush 16, 2, 0, 0, 0, 0, 16, []),
  (17, .if_icmp .gt 10, 3, 27, 0, 0, 0, 0, []), (20, .iload_n 2, 1, 2, 0, 0, 0, 0, []), (21, .iconst 3, 1, 0, 0, 0, 0, 3, []), (22, .imul, 1, 0, 0, 0, 0, 0, []), (23, .iload_n 1, 1, 1, 0, 0, 0, 0, []), (24, .if_icmp .eq 9, 3, 33, 0, 0, 0, 0, []),
  (27, .aload_n 0, 1, 0, 0, 0, 0, 0, []), (28, .iconst 1, 1, 0, 0, 0, 0, 1, []), (29, .invokevirtual 79, 3, 37, 2, 1, 540, 5, []), (32, .ireturn, 1, 0, 0, 1, 0, 0, []), (33, .iconst 0, 1, 0, 0, 0, 0, 0, []), (34, .istore_n 3, 1, 3, 0, 0, 0, 0, []),
  (35, .iload_n 3, 1, 3, 0, 0, 0, 0, []), (36, .iload_n 1, 1, 1, 0, 0, 0, 0, []), (37, .if_icmp .ge 54, 3, 91, 0, 0, 0, 0, []), (40, .aload_n 0, 1, 0, 0, 0, 0, 0, []), (41, .getfield 20, 3, 5, 1, 3, 488, 0, []), (44, .iload_n 3, 1, 3, 0, 0, 0, 0, []),
  (45, .iaload, 1, 0, 0, 0, 0, 0, []), (46, .bipush 24, 2, 0, 0, 0, 0, 24, []), (48, .if_icmp .ge 31, 3, 79, 0, 0, 0, 0, []), (51, .aload_n 0, 1, 0, 0, 0, 0, 0, []), (52, .iconst 1, 1, 0, 0, 0, 0, 1, []), (53, .aload_n 0, 1, 0, 0, 0, 0, 0, []),
  (54, .getfield 20, 3, 5, 1, 3, 488, 0, []), (57, .iload_n 3, 1, 3, 0, 0, 0, 0, []), (58, .iconst 1, 1, 0, 0, 0, 0, 1, []), (59, .iadd, 1, 0, 0, 0, 0, 0, []), (60, .iaload, 1, 0, 0, 0, 0, 0, []), (61, .invokevirtual 139, 3, 40, 3, 4, 722, 5, []),
  (64, .ifCond .eq 15, 3, 79, 0, 0, 0, 0, []), (67, .aload_n 0, 1, 0, 0, 0, 0, 0, []), (68, .getfield 20, 3, 5, 1, 3, 488, 0, []), (71, .iload_n 3, 1, 3, 0, 0, 0, 0, []), (72, .iconst 2, 1, 0, 0, 0, 0, 2, []), (73, .iadd, 1, 0, 0, 0, 0, 0, []),
  (74, .iaload, 1, 0, 0, 0, 0, 0, []), (75, .iconst 1, 1, 0, 0, 0, 0, 1, []), (76, .if_icmp .le 9, 3, 85, 0, 0, 0, 0, []), (79, .aload_n 0, 1, 0, 0, 0, 0, 0, []), (80, .iconst 1, 1, 0, 0, 0, 0, 1, []), (81, .invokevirtual 79, 3, 37, 2, 1, 540, 5, []),
  (84, .ireturn, 1, 0, 0, 1, 0, 0, []), (85, .iinc 3 3, 3, 3, 0, 0, 0, 3, []), (88, .goto (-53), 3, 35, 0, 0, 0, 0, []), (91, .aload_n 0, 1, 0, 0, 0, 0, 0, []), (92, .getfield 20, 3, 5, 1, 3, 488, 0, []), (95, .iconst 0, 1, 0, 0, 0, 0, 0, []),
  (96, .aload_n 0, 1, 0, 0, 0, 0, 0, []), (97, .getfield 39, 3, 5, 8, 3, 495, 0, []), (100, .iconst 0, 1, 0, 0, 0, 0, 0, []), (101, .iload_n 1, 1, 1, 0, 0, 0, 0, []), (102, .invokestatic 197, 3, 0, 5, 8, 881, 0, []), (105, .aload_n 0, 1, 0, 0, 0, 0, 0, []),
  (106, .iload_n 2, 1, 2, 0, 0, 0, 0, []), (107, .putfield 42, 3, 5, 9, 1, 496, 0, []), (110, .iload_n 2, 1, 2, 0, 0, 0, 0, []), (111, .ireturn, 1, 0, 0, 1, 0, 0, [])]
noncomputable def am_s25 : am_S := (yX5_pressed, cX5_pressed, 8, (some .int), 1, 1, 2, 5, 935, 933, 934, 165)
noncomputable def am_c25 : List (Nat × am_E) := [(0, .aload_n 0, 1, 0, 0, 0, 0, 0, []), (1, .invokevirtual 238, 3, 49, 1, 1, 936, 5, []), (4, .istore_n 2, 1, 2, 0, 0, 0, 0, []), (5, .iload_n 1, 1, 1, 0, 0, 0, 0, []), (6, .ifCond .lt 19, 3, 25, 0, 0, 0, 0, []), (9, .iload_n 1, 1, 1, 0, 0, 0, 0, []),
  (10, .iconst 2, 1, 0, 0, 0, 0, 2, []), (11, .if_icmp .gt 14, 3, 25, 0, 0, 0, 0, []), (14, .aload_n 0, 1, 0, 0, 0, 0, 0, []), (15, .iload_n 2, 1, 2, 0, 0, 0, 0, []), (16, .iconst 0, 1, 0, 0, 0, 0, 0, []), (17, .bipush 24, 2, 0, 0, 0, 0, 24, []),
  (19, .invokevirtual 181, 3, 41, 4, 4, 817, 5, []), (22, .ifCond .ne 5, 3, 27, 0, 0, 0, 0, []), (25, .iconst (-1), 1, 0, 0, 0, 0, (-1), []), (26, .ireturn, 1, 0, 0, 1, 0, 0, []), (27, .iconst 1, 1, 0, 0, 0, 0, 1, []), (28, .aload_n 0, 1, 0, 0, 0, 0, 0, []),
  (29, .getfield 71, 3, 5, 3, 3, 490, 0, []), (32, .getfield 94, 3, 1, 0, 3, 463, 0, []), (35, .getfield 119, 3, 2, 0, 3, 203, 0, []), (38, .iconst 2, 1, 0, 0, 0, 0, 2, []), (39, .iaload, 1, 0, 0, 0, 0, 0, []), (40, .ishl, 1, 0, 0, 0, 0, 0, []),
  (41, .istore_n 3, 1, 3, 0, 0, 0, 0, []), (42, .iconst 0, 1, 0, 0, 0, 0, 0, []), (43, .istore 4, 2, 4, 0, 0, 0, 0, []), (45, .iload_n 3, 1, 3, 0, 0, 0, 0, []), (46, .iconst 1, 1, 0, 0, 0, 0, 1, []), (47, .isub, 1, 0, 0, 0, 0, 0, []),
  (48, .istore 5, 2, 5, 0, 0, 0, 0, []), (50, .iconst 0, 1, 0, 0, 0, 0, 0, []), (51, .istore 6, 2, 6, 0, 0, 0, 0, []), (53, .iconst 0, 1, 0, 0, 0, 0, 0, []), (54, .istore 7, 2, 7, 0, 0, 0, 0, []), (56, .iload 7, 2, 7, 0, 0, 0, 0, []),
  (58, .iload_n 3, 1, 3, 0, 0, 0, 0, []), (59, .if_icmp .ge 36, 3, 95, 0, 0, 0, 0, []), (62, .aload_n 0, 1, 0, 0, 0, 0, 0, []), (63, .iload 7, 2, 7, 0, 0, 0, 0, []), (65, .iload_n 2, 1, 2, 0, 0, 0, 0, []), (66, .invokevirtual 241, 3, 50, 3, 4, 941, 5, []),
  (69, .ifCond .eq 20, 3, 89, 0, 0, 0, 0, []), (72, .iinc 4 1, 3, 4, 0, 0, 0, 1, []), (75, .iload 5, 2, 5, 0, 0, 0, 0, []), (77, .iload 7, 2, 7, 0, 0, 0, 0, []), (79, .iand, 1, 0, 0, 0, 0, 0, []), (80, .istore 5, 2, 5, 0, 0, 0, 0, []),
  (82, .iload 6, 2, 6, 0, 0, 0, 0, []), (84, .iload 7, 2, 7, 0, 0, 0, 0, []), (86, .ior, 1, 0, 0, 0, 0, 0, []), (87, .istore 6, 2, 6, 0, 0, 0, 0, []), (89, .iinc 7 1, 3, 7, 0, 0, 0, 1, []), (92, .goto (-36), 3, 56, 0, 0, 0, 0, []),
  (95, .iload_n 1, 1, 1, 0, 0, 0, 0, []), (96, .ifCond .ne 6, 3, 102, 0, 0, 0, 0, []), (99, .iload 4, 2, 4, 0, 0, 0, 0, []), (101, .ireturn, 1, 0, 0, 1, 0, 0, []), (102, .iload_n 1, 1, 1, 0, 0, 0, 0, []), (103, .iconst 2, 1, 0, 0, 0, 0, 2, []),
  (104, .if_icmp .ne 8, 3, 112, 0, 0, 0, 0, []), (107, .iload 6, 2, 6, 0, 0, 0, 0, []), (109, .goto 14, 3, 123, 0, 0, 0, 0, []), (112, .iload 4, 2, 4, 0, 0, 0, 0, []), (114, .ifCond .ne 7, 3, 121, 0, 0, 0, 0, []), (117, .iconst 0, 1, 0, 0, 0, 0, 0, []),
  (118, .goto 5, 3, 123, 0, 0, 0, 0, []), (121, .iload 5, 2, 5, 0, 0, 0, 0, []), (123, .ireturn, 1, 0, 0, 1, 0, 0, [])]
noncomputable def am_s26 : am_S := (yX5_press, cX5_press, 3, (some .boolean), 1, 4, 3, 5, 948, 946, 947, 165)
noncomputable def am_c26 : List (Nat × am_E) := [(0, .aload_n 0, 1, 0, 0, 0, 0, 0, []), (1, .iconst 2, 1, 0, 0, 0, 0, 2, []), (2, .iload_n 1, 1, 1, 0, 0, 0, 0, []), (3, .invokevirtual 139, 3, 40, 3, 4, 722, 5, []), (6, .ifCond .eq 30, 3, 36, 0, 0, 0, 0, []), (9, .iload_n 2, 1, 2, 0, 0, 0, 0, []),
  (10, .ifCond .lt 26, 3, 36, 0, 0, 0, 0, []), (13, .iload_n 2, 1, 2, 0, 0, 0, 0, []), (14, .iconst 1, 1, 0, 0, 0, 0, 1, []), (15, .if_icmp .gt 21, 3, 36, 0, 0, 0, 0, []), (18, .aload_n 0, 1, 0, 0, 0, 0, 0, []), (19, .getfield 71, 3, 5, 3, 3, 490, 0, []),
  (22, .getfield 99, 3, 1, 1, 3, 465, 0, []), (25, .getfield 109, 3, 0, 1, 1, 417, 0, []), (28, .iload_n 1, 1, 1, 0, 0, 0, 0, []), (29, .ishr, 1, 0, 0, 0, 0, 0, []), (30, .iconst 1, 1, 0, 0, 0, 0, 1, []), (31, .iand, 1, 0, 0, 0, 0, 0, []),
  (32, .iload_n 2, 1, 2, 0, 0, 0, 0, []), (33, .if_icmp .ne 11, 3, 44, 0, 0, 0, 0, []), (36, .aload_n 0, 1, 0, 0, 0, 0, 0, []), (37, .iconst 2, 1, 0, 0, 0, 0, 2, []), (38, .invokevirtual 79, 3, 37, 2, 1, 540, 5, []), (41, .pop, 1, 0, 0, 0, 0, 0, []),
  (42, .iconst 0, 1, 0, 0, 0, 0, 0, []), (43, .ireturn, 1, 0, 0, 4, 0, 0, []), (44, .aload_n 0, 1, 0, 0, 0, 0, 0, []), (45, .invokevirtual 244, 3, 43, 1, 0, 949, 5, []), (48, .aload_n 0, 1, 0, 0, 0, 0, 0, []), (49, .getfield 71, 3, 5, 3, 3, 490, 0, []),
  (52, .getfield 99, 3, 1, 1, 3, 465, 0, []), (55, .dup, 1, 0, 0, 0, 0, 0, []), (56, .getfield 109, 3, 0, 1, 1, 417, 0, []), (59, .iconst 1, 1, 0, 0, 0, 0, 1, []), (60, .iload_n 1, 1, 1, 0, 0, 0, 0, []), (61, .ishl, 1, 0, 0, 0, 0, 0, []),
  (62, .ixor, 1, 0, 0, 0, 0, 0, []), (63, .putfield 109, 3, 0, 1, 1, 417, 0, []), (66, .iconst 1, 1, 0, 0, 0, 0, 1, []), (67, .ireturn, 1, 0, 0, 4, 0, 0, [])]
noncomputable def am_s27 : am_S := (yX5_show, cX5_show, 3, (some .long), 1, 2, 3, 5, 957, 955, 956, 165)
noncomputable def am_c27 : List (Nat × am_E) := [(0, .aload_n 0, 1, 0, 0, 0, 0, 0, []), (1, .iconst 2, 1, 0, 0, 0, 0, 2, []), (2, .iload_n 1, 1, 1, 0, 0, 0, 0, []), (3, .invokevirtual 139, 3, 40, 3, 4, 722, 5, []), (6, .ifCond .eq 24, 3, 30, 0, 0, 0, 0, []), (9, .aload_n 0, 1, 0, 0, 0, 0, 0, []),
  (10, .iconst 1, 1, 0, 0, 0, 0, 1, []), (11, .iload_n 2, 1, 2, 0, 0, 0, 0, []), (12, .invokevirtual 139, 3, 40, 3, 4, 722, 5, []), (15, .ifCond .eq 15, 3, 30, 0, 0, 0, 0, []), (18, .aload_n 0, 1, 0, 0, 0, 0, 0, []), (19, .getfield 71, 3, 5, 3, 3, 490, 0, []),
  (22, .iload_n 1, 1, 1, 0, 0, 0, 0, []), (23, .iload_n 2, 1, 2, 0, 0, 0, 0, []), (24, .invokevirtual 217, 3, 75, 3, 4, 896, 1, []), (27, .ifCond .ne 13, 3, 40, 0, 0, 0, 0, []), (30, .aload_n 0, 1, 0, 0, 0, 0, 0, []), (31, .iconst 2, 1, 0, 0, 0, 0, 2, []),
  (32, .invokevirtual 79, 3, 37, 2, 1, 540, 5, []), (35, .pop, 1, 0, 0, 0, 0, 0, []), (36, .ldc2_w 185, 3, 0, 0, 0, 821, (-1000000000000000), []), (39, .lreturn, 1, 0, 0, 2, 0, 0, []), (40, .aload_n 0, 1, 0, 0, 0, 0, 0, []), (41, .invokevirtual 244, 3, 43, 1, 0, 949, 5, []),
  (44, .aload_n 0, 1, 0, 0, 0, 0, 0, []), (45, .getfield 71, 3, 5, 3, 3, 490, 0, []), (48, .iload_n 1, 1, 1, 0, 0, 0, 0, []), (49, .iload_n 2, 1, 2, 0, 0, 0, 0, []), (50, .invokevirtual 220, 3, 76, 3, 1, 900, 1, []), (53, .i2l, 1, 0, 0, 0, 0, 0, []),
  (54, .lreturn, 1, 0, 0, 2, 0, 0, [])]
noncomputable def am_s28 : am_S := (yX5_hours, cX5_hours, 4, (some .int), 1, 1, 2, 5, 961, 959, 960, 165)
noncomputable def am_c28 : List (Nat × am_E) := [(0, .aload_n 0, 1, 0, 0, 0, 0, 0, []), (1, .iload_n 1, 1, 1, 0, 0, 0, 0, []), (2, .iconst 1, 1, 0, 0, 0, 0, 1, []), (3, .bipush 100, 2, 0, 0, 0, 0, 100, []), (5, .invokevirtual 181, 3, 41, 4, 4, 817, 5, []), (8, .ifCond .ne 9, 3, 17, 0, 0, 0, 0, []),
  (11, .aload_n 0, 1, 0, 0, 0, 0, 0, []), (12, .iconst 3, 1, 0, 0, 0, 0, 3, []), (13, .invokevirtual 79, 3, 37, 2, 1, 540, 5, []), (16, .ireturn, 1, 0, 0, 1, 0, 0, []), (17, .aload_n 0, 1, 0, 0, 0, 0, 0, []), (18, .invokevirtual 244, 3, 43, 1, 0, 949, 5, []),
  (21, .iconst 0, 1, 0, 0, 0, 0, 0, []), (22, .istore_n 2, 1, 2, 0, 0, 0, 0, []), (23, .iconst 0, 1, 0, 0, 0, 0, 0, []), (24, .istore_n 3, 1, 3, 0, 0, 0, 0, []), (25, .iload_n 3, 1, 3, 0, 0, 0, 0, []), (26, .iload_n 1, 1, 1, 0, 0, 0, 0, []),
  (27, .if_icmp .ge 19, 3, 46, 0, 0, 0, 0, []), (30, .iload_n 2, 1, 2, 0, 0, 0, 0, []), (31, .aload_n 0, 1, 0, 0, 0, 0, 0, []), (32, .getfield 71, 3, 5, 3, 3, 490, 0, []), (35, .invokevirtual 214, 3, 73, 1, 1, 837, 1, []), (38, .iadd, 1, 0, 0, 0, 0, 0, []),
  (39, .istore_n 2, 1, 2, 0, 0, 0, 0, []), (40, .iinc 3 1, 3, 3, 0, 0, 0, 1, []), (43, .goto (-18), 3, 25, 0, 0, 0, 0, []), (46, .iload_n 2, 1, 2, 0, 0, 0, 0, []), (47, .ireturn, 1, 0, 0, 1, 0, 0, [])]
noncomputable def am_s29 : am_S := (yX5_chance, cX5_chance, 4, (some .int), 1, 1, 2, 5, 965, 963, 964, 165)
noncomputable def am_c29 : List (Nat × am_E) := [(0, .aload_n 0, 1, 0, 0, 0, 0, 0, []), (1, .iload_n 1, 1, 1, 0, 0, 0, 0, []), (2, .iconst 1, 1, 0, 0, 0, 0, 1, []), (3, .bipush 100, 2, 0, 0, 0, 0, 100, []), (5, .invokevirtual 181, 3, 41, 4, 4, 817, 5, []), (8, .ifCond .ne 9, 3, 17, 0, 0, 0, 0, []),
  (11, .aload_n 0, 1, 0, 0, 0, 0, 0, []), (12, .iconst 3, 1, 0, 0, 0, 0, 3, []), (13, .invokevirtual 79, 3, 37, 2, 1, 540, 5, []), (16, .ireturn, 1, 0, 0, 1, 0, 0, []), (17, .aload_n 0, 1, 0, 0, 0, 0, 0, []), (18, .invokevirtual 244, 3, 43, 1, 0, 949, 5, []),
  (21, .iconst 0, 1, 0, 0, 0, 0, 0, []), (22, .istore_n 2, 1, 2, 0, 0, 0, 0, []), (23, .iconst 0, 1, 0, 0, 0, 0, 0, []), (24, .istore_n 3, 1, 3, 0, 0, 0, 0, []), (25, .iload_n 3, 1, 3, 0, 0, 0, 0, []), (26, .iload_n 1, 1, 1, 0, 0, 0, 0, []),
  (27, .if_icmp .ge 27, 3, 54, 0, 0, 0, 0, []), (30, .aload_n 0, 1, 0, 0, 0, 0, 0, []), (31, .invokevirtual 247, 3, 51, 1, 4, 966, 5, []), (34, .ifCond .eq 6, 3, 40, 0, 0, 0, 0, []), (37, .iinc 2 1, 3, 2, 0, 0, 0, 1, []), (40, .aload_n 0, 1, 0, 0, 0, 0, 0, []),
  (41, .getfield 71, 3, 5, 3, 3, 490, 0, []), (44, .invokevirtual 214, 3, 73, 1, 1, 837, 1, []), (47, .pop, 1, 0, 0, 0, 0, 0, []), (48, .iinc 3 1, 3, 3, 0, 0, 0, 1, []), (51, .goto (-26), 3, 25, 0, 0, 0, 0, []), (54, .iload_n 2, 1, 2, 0, 0, 0, 0, []),
  (55, .ireturn, 1, 0, 0, 1, 0, 0, [])]
noncomputable def am_s30 : am_S := (yX5_undo, cX5_undo, 1, (some .boolean), 1, 4, 1, 5, 981, 979, 980, 165)
noncomputable def am_c30 : List (Nat × am_E) := [(0, .aload_n 0, 1, 0, 0, 0, 0, 0, []), (1, .getfield 36, 3, 5, 7, 1, 494, 0, []), (4, .ifCond .ne 11, 3, 15, 0, 0, 0, 0, []), (7, .aload_n 0, 1, 0, 0, 0, 0, 0, []), (8, .iconst 4, 1, 0, 0, 0, 0, 4, []), (9, .invokevirtual 79, 3, 37, 2, 1, 540, 5, []),
  (12, .pop, 1, 0, 0, 0, 0, 0, []), (13, .iconst 0, 1, 0, 0, 0, 0, 0, []), (14, .ireturn, 1, 0, 0, 4, 0, 0, []), (15, .aload_n 0, 1, 0, 0, 0, 0, 0, []), (16, .dup, 1, 0, 0, 0, 0, 0, []), (17, .getfield 36, 3, 5, 7, 1, 494, 0, []),
  (20, .iconst 1, 1, 0, 0, 0, 0, 1, []), (21, .isub, 1, 0, 0, 0, 0, 0, []), (22, .putfield 36, 3, 5, 7, 1, 494, 0, []), (25, .aload_n 0, 1, 0, 0, 0, 0, 0, []), (26, .getfield 71, 3, 5, 3, 3, 490, 0, []), (29, .getfield 99, 3, 1, 1, 3, 465, 0, []),
  (32, .aload_n 0, 1, 0, 0, 0, 0, 0, []), (33, .getfield 29, 3, 5, 5, 3, 492, 0, []), (36, .aload_n 0, 1, 0, 0, 0, 0, 0, []), (37, .getfield 33, 3, 5, 6, 1, 493, 0, []), (40, .aload_n 0, 1, 0, 0, 0, 0, 0, []), (41, .getfield 36, 3, 5, 7, 1, 494, 0, []),
  (44, .iadd, 1, 0, 0, 0, 0, 0, []), (45, .bipush 20, 2, 0, 0, 0, 0, 20, []), (47, .irem, 1, 0, 0, 0, 0, 0, []), (48, .aaload, 1, 0, 0, 0, 0, 0, []), (49, .invokevirtual 251, 3, 66, 2, 0, 953, 0, []), (52, .iconst 1, 1, 0, 0, 0, 0, 1, []),
  (53, .ireturn, 1, 0, 0, 4, 0, 0, [])]
noncomputable def am_s31 : am_S := (yX5_seed, cX5_seed, 2, (some .boolean), 1, 4, 2, 5, 985, 983, 984, 165)
noncomputable def am_c31 : List (Nat × am_E) := [(0, .iload_n 1, 1, 1, 0, 0, 0, 0, []), (1, .ifCond .ge 11, 3, 12, 0, 0, 0, 0, []), (4, .aload_n 0, 1, 0, 0, 0, 0, 0, []), (5, .iconst 5, 1, 0, 0, 0, 0, 5, []), (6, .invokevirtual 79, 3, 37, 2, 1, 540, 5, []), (9, .pop, 1, 0, 0, 0, 0, 0, []),
  (10, .iconst 0, 1, 0, 0, 0, 0, 0, []), (11, .ireturn, 1, 0, 0, 4, 0, 0, []), (12, .aload_n 0, 1, 0, 0, 0, 0, 0, []), (13, .iload_n 1, 1, 1, 0, 0, 0, 0, []), (14, .putfield 60, 3, 5, 15, 1, 502, 0, []), (17, .iconst 1, 1, 0, 0, 0, 0, 1, []),
  (18, .ireturn, 1, 0, 0, 4, 0, 0, [])]
noncomputable def am_s32 : am_S := (yX5_ask, cX5_ask, 3, (some .long), 1, 2, 2, 5, 989, 987, 988, 165)
noncomputable def am_c32 : List (Nat × am_E) := [(0, .aload_n 0, 1, 0, 0, 0, 0, 0, []), (1, .invokevirtual 87, 3, 39, 1, 1, 556, 5, []), (4, .istore_n 2, 1, 2, 0, 0, 0, 0, []), (5, .aload_n 0, 1, 0, 0, 0, 0, 0, []), (6, .iconst 2, 1, 0, 0, 0, 0, 2, []), (7, .iload_n 1, 1, 1, 0, 0, 0, 0, []),
  (8, .invokevirtual 139, 3, 40, 3, 4, 722, 5, []), (11, .ifCond .eq 14, 3, 25, 0, 0, 0, 0, []), (14, .aload_n 0, 1, 0, 0, 0, 0, 0, []), (15, .getfield 12, 3, 5, 0, 3, 487, 0, []), (18, .iload_n 2, 1, 2, 0, 0, 0, 0, []), (19, .invokevirtual 255, 3, 97, 2, 4, 990, 4, []),
  (22, .ifCond .ne 7, 3, 29, 0, 0, 0, 0, []), (25, .ldc2_w 185, 3, 0, 0, 0, 821, (-1000000000000000), []), (28, .lreturn, 1, 0, 0, 2, 0, 0, []), (29, .aload_n 0, 1, 0, 0, 0, 0, 0, []), (30, .getfield 12, 3, 5, 0, 3, 487, 0, []), (33, .getfield 259, 3, 4, 3, 1, 343, 0, []),
  (36, .tableswitch 69 29 33 #[36, 43, 50, 56, 62], 36, 105, 0, 0, 0, 0, [(29, 72), (30, 79), (31, 86), (32, 92), (33, 98)]), (72, .aload_n 0, 1, 0, 0, 0, 0, 0, []), (73, .iload_n 1, 1, 1, 0, 0, 0, 0, []), (74, .iconst 1, 1, 0, 0, 0, 0, 1, []), (75, .invokevirtual 262, 3, 53, 3, 2, 994, 5, []), (78, .lreturn, 1, 0, 0, 2, 0, 0, []),
  (79, .aload_n 0, 1, 0, 0, 0, 0, 0, []), (80, .iload_n 1, 1, 1, 0, 0, 0, 0, []), (81, .iconst 0, 1, 0, 0, 0, 0, 0, []), (82, .invokevirtual 262, 3, 53, 3, 2, 994, 5, []), (85, .lreturn, 1, 0, 0, 2, 0, 0, []), (86, .aload_n 0, 1, 0, 0, 0, 0, 0, []),
  (87, .iload_n 1, 1, 1, 0, 0, 0, 0, []), (88, .invokevirtual 266, 3, 54, 2, 2, 1003, 5, []), (91, .lreturn, 1, 0, 0, 2, 0, 0, []), (92, .aload_n 0, 1, 0, 0, 0, 0, 0, []), (93, .iload_n 1, 1, 1, 0, 0, 0, 0, []), (94, .invokevirtual 266, 3, 54, 2, 2, 1003, 5, []),
  (97, .lreturn, 1, 0, 0, 2, 0, 0, []), (98, .aload_n 0, 1, 0, 0, 0, 0, 0, []), (99, .iload_n 1, 1, 1, 0, 0, 0, 0, []), (100, .iconst 1, 1, 0, 0, 0, 0, 1, []), (101, .invokevirtual 270, 3, 55, 3, 2, 1007, 5, []), (104, .lreturn, 1, 0, 0, 2, 0, 0, []),
  (105, .aload_n 0, 1, 0, 0, 0, 0, 0, []), (106, .iload_n 1, 1, 1, 0, 0, 0, 0, []), (107, .iconst 0, 1, 0, 0, 0, 0, 0, []), (108, .invokevirtual 270, 3, 55, 3, 2, 1007, 5, []), (111, .lreturn, 1, 0, 0, 2, 0, 0, [])]
noncomputable def am_s33 : am_S := (yX5_image, cX5_image, 5, (some .int), 1, 1, 1, 5, 1014, 1012, 1013, 165)
noncomputable def am_c33_0 : List (Nat × am_E) := [(0, .aload_n 0, 1, 0, 0, 0, 0, 0, []), (1, .getfield 71, 3, 5, 3, 3, 490, 0, []), (4, .getfield 99, 3, 1, 1, 3, 465, 0, []), (7, .astore_n 1, 1, 1, 0, 0, 0, 0, []), (8, .aload_n 0, 1, 0, 0, 0, 0, 0, []), (9, .getfield 71, 3, 5, 3, 3, 490, 0, []),
  (12, .getfield 94, 3, 1, 0, 3, 463, 0, []), (15, .getfield 119, 3, 2, 0, 3, 203, 0, []), (18, .iconst 2, 1, 0, 0, 0, 0, 2, []), (19, .iaload, 1, 0, 0, 0, 0, 0, []), (20, .istore_n 2, 1, 2, 0, 0, 0, 0, []), (21, .aload_n 0, 1, 0, 0, 0, 0, 0, []),
  (22, .iconst 0, 1, 0, 0, 0, 0, 0, []), (23, .putfield 48, 3, 5, 11, 1, 498, 0, []), (26, .aload_n 0, 1, 0, 0, 0, 0, 0, []), (27, .aload_n 1, 1, 1, 0, 0, 0, 0, []), (28, .getfield 125, 3, 0, 0, 1, 414, 0, []), (31, .bipush 24, 2, 0, 0, 0, 0, 24, []),
  (33, .idiv, 1, 0, 0, 0, 0, 0, []), (34, .invokevirtual 273, 3, 56, 2, 0, 1015, 5, []), (37, .aload_n 0, 1, 0, 0, 0, 0, 0, []), (38, .aload_n 1, 1, 1, 0, 0, 0, 0, []), (39, .getfield 125, 3, 0, 0, 1, 414, 0, []), (42, .bipush 24, 2, 0, 0, 0, 0, 24, []),
  (44, .irem, 1, 0, 0, 0, 0, 0, []), (45, .invokevirtual 276, 3, 57, 2, 0, 1019, 5, []), (48, .iconst 0, 1, 0, 0, 0, 0, 0, []), (49, .istore_n 3, 1, 3, 0, 0, 0, 0, []), (50, .iload_n 3, 1, 3, 0, 0, 0, 0, []), (51, .iload_n 2, 1, 2, 0, 0, 0, 0, []),
  (52, .if_icmp .gt 93, 3, 145, 0, 0, 0, 0, []), (55, .iconst 0, 1, 0, 0, 0, 0, 0, []), (56, .istore 4, 2, 4, 0, 0, 0, 0, []), (58, .iload 4, 2, 4, 0, 0, 0, 0, []), (60, .aload_n 0, 1, 0, 0, 0, 0, 0, []), (61, .getfield 71, 3, 5, 3, 3, 490, 0, []),
  (64, .getfield 94, 3, 1, 0, 3, 463, 0, []), (67, .getfield 119, 3, 2, 0, 3, 203, 0, []), (70, .iconst 0, 1, 0, 0, 0, 0, 0, []), (71, .iaload, 1, 0, 0, 0, 0, 0, []), (72, .if_icmp .ge 25, 3, 97, 0, 0, 0, 0, []), (75, .aload_n 0, 1, 0, 0, 0, 0, 0, []),
  (76, .aload_n 1, 1, 1, 0, 0, 0, 0, []), (77, .getfield 165, 3, 0, 2, 3, 420, 0, []), (80, .iload_n 3, 1, 3, 0, 0, 0, 0, []), (81, .bipush 6, 2, 0, 0, 0, 0, 6, []), (83, .imul, 1, 0, 0, 0, 0, 0, []), (84, .iload 4, 2, 4, 0, 0, 0, 0, []),
  (86, .iadd, 1, 0, 0, 0, 0, 0, []), (87, .iaload, 1, 0, 0, 0, 0, 0, []), (88, .invokevirtual 273, 3, 56, 2, 0, 1015, 5, []), (91, .iinc 4 1, 3, 4, 0, 0, 0, 1, []), (94, .goto (-36), 3, 58, 0, 0, 0, 0, []), (97, .iconst 0, 1, 0, 0, 0, 0, 0, []),
  (98, .istore 4, 2, 4, 0, 0, 0, 0, []), (100, .iload 4, 2, 4, 0, 0, 0, 0, []), (102, .aload_n 0, 1, 0, 0, 0, 0, 0, []), (103, .getfield 71, 3, 5, 3, 3, 490, 0, []), (106, .getfield 94, 3, 1, 0, 3, 463, 0, []), (109, .getfield 119, 3, 2, 0, 3, 203, 0, []),
  (112, .iconst 1, 1, 0, 0, 0, 0, 1, []), (113, .iaload, 1, 0, 0, 0, 0, 0, []), (114, .if_icmp .ge 25, 3, 139, 0, 0, 0, 0, []), (117, .aload_n 0, 1, 0, 0, 0, 0, 0, []), (118, .aload_n 1, 1, 1, 0, 0, 0, 0, []), (119, .getfield 168, 3, 0, 3, 3, 423, 0, []),
  (122, .iload_n 3, 1, 3, 0, 0, 0, 0, []), (123, .bipush 8, 2, 0, 0, 0, 0, 8, []), (125, .imul, 1, 0, 0, 0, 0, 0, []), (126, .iload 4, 2, 4, 0, 0, 0, 0, []), (128, .iadd, 1, 0, 0, 0, 0, 0, []), (129, .iaload, 1, 0, 0, 0, 0, 0, []),
  (130, .invokevirtual 276, 3, 57, 2, 0, 1019, 5, []), (133, .iinc 4 1, 3, 4, 0, 0, 0, 1, []), (136, .goto (-36), 3, 100, 0, 0, 0, 0, []), (139, .iinc 3 1, 3, 3, 0, 0, 0, 1, []), (142, .goto (-92), 3, 50, 0, 0, 0, 0, []), (145, .iconst 0, 1, 0, 0, 0, 0, 0, []),
  (146, .istore_n 3, 1, 3, 0, 0, 0, 0, []), (147, .iload_n 3, 1, 3, 0, 0, 0, 0, []), (148, .iload_n 2, 1, 2, 0, 0, 0, 0, []), (149, .if_icmp .ge 31, 3, 180, 0, 0, 0, 0, []), (152, .aload_n 0, 1, 0, 0, 0, 0, 0, []), (153, .aload_n 1, 1, 1, 0, 0, 0, 0, []),
  (154, .getfield 109, 3, 0, 1, 1, 417, 0, []), (157, .iload_n 3, 1, 3, 0, 0, 0, 0, []), (158, .ishr, 1, 0, 0, 0, 0, 0, []), (159, .iconst 1, 1, 0, 0, 0, 0, 1, []), (160, .iand, 1, 0, 0, 0, 0, 0, []), (161, .invokevirtual 276, 3, 57, 2, 0, 1019, 5, []),
  (164, .aload_n 0, 1, 0, 0, 0, 0, 0, []), (165, .aload_n 1, 1, 1, 0, 0, 0, 0, []), (166, .getfield 159, 3, 0, 4, 3, 426, 0, []), (169, .iload_n 3, 1, 3, 0, 0, 0, 0, []), (170, .iaload, 1, 0, 0, 0, 0, 0, []), (171, .invokevirtual 273, 3, 56, 2, 0, 1015, 5, []),
  (174, .iinc 3 1, 3, 3, 0, 0, 0, 1, []), (177, .goto (-30), 3, 147, 0, 0, 0, 0, []), (180, .aload_n 0, 1, 0, 0, 0, 0, 0, []), (181, .aload_n 0, 1, 0, 0, 0, 0, 0, [])]
noncomputable def am_c33_1 : List (Nat × am_E) := [(182, .aload_n 0, 1, 0, 0, 0, 0, 0, []), (183, .getfield 45, 3, 5, 10, 3, 497, 0, []), (186, .aload_n 0, 1, 0, 0, 0, 0, 0, []), (187, .getfield 48, 3, 5, 11, 1, 498, 0, []), (190, .invokevirtual 279, 3, 58, 3, 1, 1023, 5, []), (193, .invokevirtual 276, 3, 57, 2, 0, 1019, 5, []),
  (196, .aload_n 0, 1, 0, 0, 0, 0, 0, []), (197, .getfield 48, 3, 5, 11, 1, 498, 0, []), (200, .ireturn, 1, 0, 0, 1, 0, 0, [])]
noncomputable def am_c33 : List (Nat × am_E) := am_c33_0 ++ (am_c33_1)
noncomputable def am_s34 : am_S := (yX5_octet, cX5_octet, 2, (some .int), 1, 1, 2, 5, 1030, 1028, 1029, 165)
noncomputable def am_c34 : List (Nat × am_E) := [(0, .iload_n 1, 1, 1, 0, 0, 0, 0, []), (1, .ifCond .lt 11, 3, 12, 0, 0, 0, 0, []), (4, .iload_n 1, 1, 1, 0, 0, 0, 0, []), (5, .aload_n 0, 1, 0, 0, 0, 0, 0, []), (6, .getfield 48, 3, 5, 11, 1, 498, 0, []), (9, .if_icmp .lt 7, 3, 16, 0, 0, 0, 0, []),
  (12, .iconst (-1), 1, 0, 0, 0, 0, (-1), []), (13, .goto 9, 3, 22, 0, 0, 0, 0, []), (16, .aload_n 0, 1, 0, 0, 0, 0, 0, []), (17, .getfield 45, 3, 5, 10, 3, 497, 0, []), (20, .iload_n 1, 1, 1, 0, 0, 0, 0, []), (21, .iaload, 1, 0, 0, 0, 0, 0, []),
  (22, .ireturn, 1, 0, 0, 1, 0, 0, [])]
noncomputable def am_s35 : am_S := (yX5_on, cX5_on, 2, (some .boolean), 1, 4, 1, 5, 1034, 1032, 1033, 165)
noncomputable def am_c35 : List (Nat × am_E) := [(0, .aload_n 0, 1, 0, 0, 0, 0, 0, []), (1, .invokevirtual 87, 3, 39, 1, 1, 556, 5, []), (4, .istore_n 1, 1, 1, 0, 0, 0, 0, []), (5, .iload_n 1, 1, 1, 0, 0, 0, 0, []), (6, .aload_n 0, 1, 0, 0, 0, 0, 0, []), (7, .invokevirtual 283, 3, 59, 1, 1, 1035, 5, []),
  (10, .if_icmp .ne 55, 3, 65, 0, 0, 0, 0, []), (13, .aload_n 0, 1, 0, 0, 0, 0, 0, []), (14, .aload_n 0, 1, 0, 0, 0, 0, 0, []), (15, .getfield 20, 3, 5, 1, 3, 488, 0, []), (18, .iload_n 1, 1, 1, 0, 0, 0, 0, []), (19, .iconst 1, 1, 0, 0, 0, 0, 1, []),
  (20, .isub, 1, 0, 0, 0, 0, 0, []), (21, .invokevirtual 279, 3, 58, 3, 1, 1023, 5, []), (24, .aload_n 0, 1, 0, 0, 0, 0, 0, []), (25, .iload_n 1, 1, 1, 0, 0, 0, 0, []), (26, .iconst 1, 1, 0, 0, 0, 0, 1, []), (27, .isub, 1, 0, 0, 0, 0, 0, []),
  (28, .invokevirtual 286, 3, 60, 2, 1, 1039, 5, []), (31, .if_icmp .ne 34, 3, 65, 0, 0, 0, 0, []), (34, .aload_n 0, 1, 0, 0, 0, 0, 0, []), (35, .aload_n 0, 1, 0, 0, 0, 0, 0, []), (36, .getfield 75, 3, 5, 4, 3, 491, 0, []), (39, .getfield 99, 3, 1, 1, 3, 465, 0, []),
  (42, .invokevirtual 289, 3, 62, 2, 4, 1043, 5, []), (45, .ifCond .eq 20, 3, 65, 0, 0, 0, 0, []), (48, .aload_n 0, 1, 0, 0, 0, 0, 0, []), (49, .aload_n 0, 1, 0, 0, 0, 0, 0, []), (50, .getfield 75, 3, 5, 4, 3, 491, 0, []), (53, .getfield 99, 3, 1, 1, 3, 465, 0, []),
  (56, .iload_n 1, 1, 1, 0, 0, 0, 0, []), (57, .iconst 1, 1, 0, 0, 0, 0, 1, []), (58, .isub, 1, 0, 0, 0, 0, 0, []), (59, .invokevirtual 293, 3, 63, 3, 4, 1051, 5, []), (62, .ifCond .ne 11, 3, 73, 0, 0, 0, 0, []), (65, .aload_n 0, 1, 0, 0, 0, 0, 0, []),
  (66, .iconst 5, 1, 0, 0, 0, 0, 5, []), (67, .invokevirtual 79, 3, 37, 2, 1, 540, 5, []), (70, .pop, 1, 0, 0, 0, 0, 0, []), (71, .iconst 0, 1, 0, 0, 0, 0, 0, []), (72, .ireturn, 1, 0, 0, 4, 0, 0, []), (73, .aload_n 0, 1, 0, 0, 0, 0, 0, []),
  (74, .getfield 71, 3, 5, 3, 3, 490, 0, []), (77, .getfield 99, 3, 1, 1, 3, 465, 0, []), (80, .aload_n 0, 1, 0, 0, 0, 0, 0, []), (81, .getfield 75, 3, 5, 4, 3, 491, 0, []), (84, .getfield 99, 3, 1, 1, 3, 465, 0, []), (87, .invokevirtual 251, 3, 66, 2, 0, 953, 0, []),
  (90, .aload_n 0, 1, 0, 0, 0, 0, 0, []), (91, .invokevirtual 110, 3, 44, 1, 0, 691, 5, []), (94, .iconst 1, 1, 0, 0, 0, 0, 1, []), (95, .ireturn, 1, 0, 0, 4, 0, 0, [])]
noncomputable def am_s36 : am_S := (yX5_status, cX5_status, 2, (some .int), 1, 1, 2, 5, 1058, 1056, 1057, 165)
noncomputable def am_c36 : List (Nat × am_E) := [(0, .iload_n 1, 1, 1, 0, 0, 0, 0, []), (1, .ifCond .lt 12, 3, 13, 0, 0, 0, 0, []), (4, .iload_n 1, 1, 1, 0, 0, 0, 0, []), (5, .aload_n 0, 1, 0, 0, 0, 0, 0, []), (6, .getfield 57, 3, 5, 14, 3, 501, 0, []), (9, .arraylength, 1, 0, 0, 0, 0, 0, []),
  (10, .if_icmp .lt 7, 3, 17, 0, 0, 0, 0, []), (13, .iconst (-1), 1, 0, 0, 0, 0, (-1), []), (14, .goto 9, 3, 23, 0, 0, 0, 0, []), (17, .aload_n 0, 1, 0, 0, 0, 0, 0, []), (18, .getfield 57, 3, 5, 14, 3, 501, 0, []), (21, .iload_n 1, 1, 1, 0, 0, 0, 0, []),
  (22, .iaload, 1, 0, 0, 0, 0, 0, []), (23, .ireturn, 1, 0, 0, 1, 0, 0, [])]
noncomputable def am_s37 : am_S := (yX5_refuse, cX5_refuse, 2, (some .int), 1, 1, 2, 5, 543, 542, 0, 165)
noncomputable def am_c37 : List (Nat × am_E) := [(0, .aload_n 0, 1, 0, 0, 0, 0, 0, []), (1, .getfield 57, 3, 5, 14, 3, 501, 0, []), (4, .iload_n 1, 1, 1, 0, 0, 0, 0, []), (5, .dup2, 1, 0, 0, 0, 0, 0, []), (6, .iaload, 1, 0, 0, 0, 0, 0, []), (7, .iconst 1, 1, 0, 0, 0, 0, 1, []),
  (8, .iadd, 1, 0, 0, 0, 0, 0, []), (9, .iastore, 1, 0, 0, 0, 0, 0, []), (10, .iconst (-1), 1, 0, 0, 0, 0, (-1), []), (11, .ireturn, 1, 0, 0, 1, 0, 0, [])]
noncomputable def am_s38 : am_S := (yX5_feedNumber, cX5_feedNumber, 3, none, 1, 0, 2, 5, 547, 546, 1, 165)
noncomputable def am_c38 : List (Nat × am_E) := [(0, .bipush 24, 2, 0, 0, 0, 0, 24, []), (2, .istore_n 2, 1, 2, 0, 0, 0, 0, []), (3, .iload_n 2, 1, 2, 0, 0, 0, 0, []), (4, .ifCond .lt 45, 3, 49, 0, 0, 0, 0, []), (7, .aload_n 0, 1, 0, 0, 0, 0, 0, []), (8, .getfield 23, 3, 5, 2, 1, 489, 0, []),
  (11, .sipush 1600, 3, 0, 0, 0, 0, 1600, []), (14, .if_icmp .ge 29, 3, 43, 0, 0, 0, 0, []), (17, .aload_n 0, 1, 0, 0, 0, 0, 0, []), (18, .getfield 20, 3, 5, 1, 3, 488, 0, []), (21, .aload_n 0, 1, 0, 0, 0, 0, 0, []), (22, .getfield 23, 3, 5, 2, 1, 489, 0, []),
  (25, .iload_n 1, 1, 1, 0, 0, 0, 0, []), (26, .iload_n 2, 1, 2, 0, 0, 0, 0, []), (27, .ishr, 1, 0, 0, 0, 0, 0, []), (28, .sipush 255, 3, 0, 0, 0, 0, 255, []), (31, .iand, 1, 0, 0, 0, 0, 0, []), (32, .iastore, 1, 0, 0, 0, 0, 0, []),
  (33, .aload_n 0, 1, 0, 0, 0, 0, 0, []), (34, .dup, 1, 0, 0, 0, 0, 0, []), (35, .getfield 23, 3, 5, 2, 1, 489, 0, []), (38, .iconst 1, 1, 0, 0, 0, 0, 1, []), (39, .iadd, 1, 0, 0, 0, 0, 0, []), (40, .putfield 23, 3, 5, 2, 1, 489, 0, []),
  (43, .iinc 2 (-8), 3, 2, 0, 0, 0, (-8), []), (46, .goto (-43), 3, 3, 0, 0, 0, 0, []), (49, .return_, 1, 0, 0, 0, 0, 0, [])]
noncomputable def am_s39 : am_S := (yX5_takeTape, cX5_takeTape, 2, (some .int), 1, 1, 1, 5, 559, 558, 2, 165)
noncomputable def am_c39 : List (Nat × am_E) := [(0, .aload_n 0, 1, 0, 0, 0, 0, 0, []), (1, .getfield 23, 3, 5, 2, 1, 489, 0, []), (4, .istore_n 1, 1, 1, 0, 0, 0, 0, []), (5, .aload_n 0, 1, 0, 0, 0, 0, 0, []), (6, .iconst 0, 1, 0, 0, 0, 0, 0, []), (7, .putfield 23, 3, 5, 2, 1, 489, 0, []),
  (10, .iload_n 1, 1, 1, 0, 0, 0, 0, []), (11, .ireturn, 1, 0, 0, 1, 0, 0, [])]
noncomputable def am_s40 : am_S := (yX5_isOne, cX5_isOne, 3, (some .boolean), 1, 4, 3, 5, 725, 724, 33, 165)
noncomputable def am_c40 : List (Nat × am_E) := [(0, .iload_n 2, 1, 2, 0, 0, 0, 0, []), (1, .ifCond .lt 23, 3, 24, 0, 0, 0, 0, []), (4, .iload_n 2, 1, 2, 0, 0, 0, 0, []), (5, .aload_n 0, 1, 0, 0, 0, 0, 0, []), (6, .getfield 71, 3, 5, 3, 3, 490, 0, []), (9, .getfield 94, 3, 1, 0, 3, 463, 0, []),
  (12, .getfield 119, 3, 2, 0, 3, 203, 0, []), (15, .iload_n 1, 1, 1, 0, 0, 0, 0, []), (16, .iaload, 1, 0, 0, 0, 0, 0, []), (17, .if_icmp .ge 7, 3, 24, 0, 0, 0, 0, []), (20, .iconst 1, 1, 0, 0, 0, 0, 1, []), (21, .goto 4, 3, 25, 0, 0, 0, 0, []),
  (24, .iconst 0, 1, 0, 0, 0, 0, 0, []), (25, .ireturn, 1, 0, 0, 4, 0, 0, [])]
noncomputable def am_s41 : am_S := (yX5_canPass, cX5_canPass, 4, (some .boolean), 1, 4, 4, 5, 820, 819, 40, 165)
noncomputable def am_c41 : List (Nat × am_E) := [(0, .iload_n 1, 1, 1, 0, 0, 0, 0, []), (1, .iload_n 2, 1, 2, 0, 0, 0, 0, []), (2, .if_icmp .lt 30, 3, 32, 0, 0, 0, 0, []), (5, .iload_n 1, 1, 1, 0, 0, 0, 0, []), (6, .iload_n 3, 1, 3, 0, 0, 0, 0, []), (7, .if_icmp .gt 25, 3, 32, 0, 0, 0, 0, []),
  (10, .iload_n 1, 1, 1, 0, 0, 0, 0, []), (11, .sipush 23999, 3, 0, 0, 0, 0, 23999, []), (14, .aload_n 0, 1, 0, 0, 0, 0, 0, []), (15, .getfield 71, 3, 5, 3, 3, 490, 0, []), (18, .getfield 99, 3, 1, 1, 3, 465, 0, []), (21, .getfield 125, 3, 0, 0, 1, 414, 0, []),
  (24, .isub, 1, 0, 0, 0, 0, 0, []), (25, .if_icmp .gt 7, 3, 32, 0, 0, 0, 0, []), (28, .iconst 1, 1, 0, 0, 0, 0, 1, []), (29, .goto 4, 3, 33, 0, 0, 0, 0, []), (32, .iconst 0, 1, 0, 0, 0, 0, 0, []), (33, .ireturn, 1, 0, 0, 4, 0, 0, [])]
noncomputable def am_s42 : am_S := (yX5_sawTogether, cX5_sawTogether, 3, (some .int), 1, 1, 1, 5, 712, 711, 32, 165)
noncomputable def am_c42 : List (Nat × am_E) := [(0, .iconst 0, 1, 0, 0, 0, 0, 0, []), (1, .istore_n 1, 1, 1, 0, 0, 0, 0, []), (2, .iconst 0, 1, 0, 0, 0, 0, 0, []), (3, .istore_n 2, 1, 2, 0, 0, 0, 0, []), (4, .iload_n 2, 1, 2, 0, 0, 0, 0, []), (5, .aload_n 0, 1, 0, 0, 0, 0, 0, []),
  (6, .getfield 71, 3, 5, 3, 3, 490, 0, []), (9, .getfield 94, 3, 1, 0, 3, 463, 0, []), (12, .getfield 119, 3, 2, 0, 3, 203, 0, []), (15, .iconst 2, 1, 0, 0, 0, 0, 2, []), (16, .iaload, 1, 0, 0, 0, 0, 0, []), (17, .if_icmp .ge 24, 3, 41, 0, 0, 0, 0, []),
  (20, .iload_n 1, 1, 1, 0, 0, 0, 0, []), (21, .aload_n 0, 1, 0, 0, 0, 0, 0, []), (22, .getfield 71, 3, 5, 3, 3, 490, 0, []), (25, .getfield 99, 3, 1, 1, 3, 465, 0, []), (28, .getfield 159, 3, 0, 4, 3, 426, 0, []), (31, .iload_n 2, 1, 2, 0, 0, 0, 0, []),
  (32, .iaload, 1, 0, 0, 0, 0, 0, []), (33, .iadd, 1, 0, 0, 0, 0, 0, []), (34, .istore_n 1, 1, 1, 0, 0, 0, 0, []), (35, .iinc 2 1, 3, 2, 0, 0, 0, 1, []), (38, .goto (-34), 3, 4, 0, 0, 0, 0, []), (41, .iload_n 1, 1, 1, 0, 0, 0, 0, []),
  (42, .ireturn, 1, 0, 0, 1, 0, 0, [])]
noncomputable def am_s43 : am_S := (yX5_rememberAct, cX5_rememberAct, 1, none, 1, 0, 1, 5, 952, 951, 49, 165)
noncomputable def am_c43 : List (Nat × am_E) := [(0, .aload_n 0, 1, 0, 0, 0, 0, 0, []), (1, .getfield 36, 3, 5, 7, 1, 494, 0, []), (4, .bipush 20, 2, 0, 0, 0, 0, 20, []), (6, .if_icmp .ne 26, 3, 32, 0, 0, 0, 0, []), (9, .aload_n 0, 1, 0, 0, 0, 0, 0, []), (10, .aload_n 0, 1, 0, 0, 0, 0, 0, []),
  (11, .getfield 33, 3, 5, 6, 1, 493, 0, []), (14, .iconst 1, 1, 0, 0, 0, 0, 1, []), (15, .iadd, 1, 0, 0, 0, 0, 0, []), (16, .bipush 20, 2, 0, 0, 0, 0, 20, []), (18, .irem, 1, 0, 0, 0, 0, 0, []), (19, .putfield 33, 3, 5, 6, 1, 493, 0, []),
  (22, .aload_n 0, 1, 0, 0, 0, 0, 0, []), (23, .dup, 1, 0, 0, 0, 0, 0, []), (24, .getfield 36, 3, 5, 7, 1, 494, 0, []), (27, .iconst 1, 1, 0, 0, 0, 0, 1, []), (28, .isub, 1, 0, 0, 0, 0, 0, []), (29, .putfield 36, 3, 5, 7, 1, 494, 0, []),
  (32, .aload_n 0, 1, 0, 0, 0, 0, 0, []), (33, .getfield 29, 3, 5, 5, 3, 492, 0, []), (36, .aload_n 0, 1, 0, 0, 0, 0, 0, []), (37, .getfield 33, 3, 5, 6, 1, 493, 0, []), (40, .aload_n 0, 1, 0, 0, 0, 0, 0, []), (41, .getfield 36, 3, 5, 7, 1, 494, 0, []),
  (44, .iadd, 1, 0, 0, 0, 0, 0, []), (45, .bipush 20, 2, 0, 0, 0, 0, 20, []), (47, .irem, 1, 0, 0, 0, 0, 0, []), (48, .aaload, 1, 0, 0, 0, 0, 0, []), (49, .aload_n 0, 1, 0, 0, 0, 0, 0, []), (50, .getfield 71, 3, 5, 3, 3, 490, 0, []),
  (53, .getfield 99, 3, 1, 1, 3, 465, 0, []), (56, .invokevirtual 251, 3, 66, 2, 0, 953, 0, []), (59, .aload_n 0, 1, 0, 0, 0, 0, 0, []), (60, .dup, 1, 0, 0, 0, 0, 0, []), (61, .getfield 36, 3, 5, 7, 1, 494, 0, []), (64, .iconst 1, 1, 0, 0, 0, 0, 1, []),
  (65, .iadd, 1, 0, 0, 0, 0, 0, []), (66, .putfield 36, 3, 5, 7, 1, 494, 0, []), (69, .return_, 1, 0, 0, 0, 0, 0, [])]
noncomputable def am_s44 : am_S := (yX5_forgetActs, cX5_forgetActs, 1, none, 1, 0, 1, 5, 694, 693, 31, 165)
noncomputable def am_c44 : List (Nat × am_E) := [(0, .aload_n 0, 1, 0, 0, 0, 0, 0, []), (1, .iconst 0, 1, 0, 0, 0, 0, 0, []), (2, .putfield 36, 3, 5, 7, 1, 494, 0, []), (5, .return_, 1, 0, 0, 0, 0, 0, [])]
noncomputable def am_s45 : am_S := (yX5_lookAhead, cX5_lookAhead, 4, none, 1, 0, 3, 5, 825, 824, 41, 165)
noncomputable def am_c45 : List (Nat × am_E) := [(0, .aload_n 0, 1, 0, 0, 0, 0, 0, []), (1, .getfield 75, 3, 5, 4, 3, 491, 0, []), (4, .aload_n 0, 1, 0, 0, 0, 0, 0, []), (5, .getfield 71, 3, 5, 3, 3, 490, 0, []), (8, .iload_n 1, 1, 1, 0, 0, 0, 0, []), (9, .invokevirtual 297, 3, 72, 3, 0, 826, 1, []),
  (12, .iconst 0, 1, 0, 0, 0, 0, 0, []), (13, .istore_n 3, 1, 3, 0, 0, 0, 0, []), (14, .iload_n 3, 1, 3, 0, 0, 0, 0, []), (15, .iload_n 2, 1, 2, 0, 0, 0, 0, []), (16, .if_icmp .ge 17, 3, 33, 0, 0, 0, 0, []), (19, .aload_n 0, 1, 0, 0, 0, 0, 0, []),
  (20, .getfield 75, 3, 5, 4, 3, 491, 0, []), (23, .invokevirtual 214, 3, 73, 1, 1, 837, 1, []), (26, .pop, 1, 0, 0, 0, 0, 0, []), (27, .iinc 3 1, 3, 3, 0, 0, 0, 1, []), (30, .goto (-16), 3, 14, 0, 0, 0, 0, []), (33, .return_, 1, 0, 0, 0, 0, 0, [])]
noncomputable def am_s46 : am_S := (yX5_isAtRest, cX5_isAtRest, 5, (some .boolean), 1, 4, 3, 5, 885, 884, 44, 165)
noncomputable def am_c46 : List (Nat × am_E) := [(0, .iconst 0, 1, 0, 0, 0, 0, 0, []), (1, .istore_n 3, 1, 3, 0, 0, 0, 0, []), (2, .iload_n 3, 1, 3, 0, 0, 0, 0, []), (3, .iload_n 2, 1, 2, 0, 0, 0, 0, []), (4, .if_icmp .ge 42, 3, 46, 0, 0, 0, 0, []), (7, .iload_n 1, 1, 1, 0, 0, 0, 0, []),
  (8, .iconst 1, 1, 0, 0, 0, 0, 1, []), (9, .iload_n 3, 1, 3, 0, 0, 0, 0, []), (10, .ishl, 1, 0, 0, 0, 0, 0, []), (11, .ixor, 1, 0, 0, 0, 0, 0, []), (12, .istore 4, 2, 4, 0, 0, 0, 0, []), (14, .aload_n 0, 1, 0, 0, 0, 0, 0, []),
  (15, .getfield 51, 3, 5, 12, 3, 499, 0, []), (18, .iload 4, 2, 4, 0, 0, 0, 0, []), (20, .iconst 5, 1, 0, 0, 0, 0, 5, []), (21, .imul, 1, 0, 0, 0, 0, 0, []), (22, .iload_n 3, 1, 3, 0, 0, 0, 0, []), (23, .iadd, 1, 0, 0, 0, 0, 0, []),
  (24, .iaload, 1, 0, 0, 0, 0, 0, []), (25, .aload_n 0, 1, 0, 0, 0, 0, 0, []), (26, .getfield 51, 3, 5, 12, 3, 499, 0, []), (29, .iload_n 1, 1, 1, 0, 0, 0, 0, []), (30, .iconst 5, 1, 0, 0, 0, 0, 5, []), (31, .imul, 1, 0, 0, 0, 0, 0, []),
  (32, .iload_n 3, 1, 3, 0, 0, 0, 0, []), (33, .iadd, 1, 0, 0, 0, 0, 0, []), (34, .iaload, 1, 0, 0, 0, 0, 0, []), (35, .if_icmp .le 5, 3, 40, 0, 0, 0, 0, []), (38, .iconst 0, 1, 0, 0, 0, 0, 0, []), (39, .ireturn, 1, 0, 0, 4, 0, 0, []),
  (40, .iinc 3 1, 3, 3, 0, 0, 0, 1, []), (43, .goto (-41), 3, 2, 0, 0, 0, 0, []), (46, .iconst 1, 1, 0, 0, 0, 0, 1, []), (47, .ireturn, 1, 0, 0, 4, 0, 0, [])]
noncomputable def am_s47 : am_S := (yX5_sofaWorth, cX5_sofaWorth, 8, (some .int), 1, 1, 4, 5, 923, 922, 46, 165)
noncomputable def am_c47 : List (Nat × am_E) := [(0, .iconst 0, 1, 0, 0, 0, 0, 0, []), (1, .istore 4, 2, 4, 0, 0, 0, 0, []), (3, .iconst (-1), 1, 0, 0, 0, 0, (-1), []), (4, .istore 5, 2, 5, 0, 0, 0, 0, []), (6, .iconst 0, 1, 0, 0, 0, 0, 0, []), (7, .istore 6, 2, 6, 0, 0, 0, 0, []),
  (9, .iload 6, 2, 6, 0, 0, 0, 0, []), (11, .aload_n 0, 1, 0, 0, 0, 0, 0, []), (12, .getfield 71, 3, 5, 3, 3, 490, 0, []), (15, .getfield 94, 3, 1, 0, 3, 463, 0, []), (18, .getfield 119, 3, 2, 0, 3, 203, 0, []), (21, .iconst 2, 1, 0, 0, 0, 0, 2, []),
  (22, .iaload, 1, 0, 0, 0, 0, 0, []), (23, .if_icmp .ge 61, 3, 84, 0, 0, 0, 0, []), (26, .iload_n 1, 1, 1, 0, 0, 0, 0, []), (27, .iload 6, 2, 6, 0, 0, 0, 0, []), (29, .ishr, 1, 0, 0, 0, 0, 0, []), (30, .iconst 1, 1, 0, 0, 0, 0, 1, []),
  (31, .iand, 1, 0, 0, 0, 0, 0, []), (32, .iconst 1, 1, 0, 0, 0, 0, 1, []), (33, .if_icmp .ne 45, 3, 78, 0, 0, 0, 0, []), (36, .aload_n 0, 1, 0, 0, 0, 0, 0, []), (37, .getfield 71, 3, 5, 3, 3, 490, 0, []), (40, .getfield 94, 3, 1, 0, 3, 463, 0, []),
  (43, .iload 6, 2, 6, 0, 0, 0, 0, []), (45, .iload_n 2, 1, 2, 0, 0, 0, 0, []), (46, .invokevirtual 174, 3, 88, 3, 1, 800, 2, []), (49, .istore 7, 2, 7, 0, 0, 0, 0, []), (51, .iload 4, 2, 4, 0, 0, 0, 0, []), (53, .iload 7, 2, 7, 0, 0, 0, 0, []),
  (55, .iadd, 1, 0, 0, 0, 0, 0, []), (56, .istore 4, 2, 4, 0, 0, 0, 0, []), (58, .iload 5, 2, 5, 0, 0, 0, 0, []), (60, .iconst (-1), 1, 0, 0, 0, 0, (-1), []), (61, .if_icmp .ne 8, 3, 69, 0, 0, 0, 0, []), (64, .iload 7, 2, 7, 0, 0, 0, 0, []),
  (66, .goto 10, 3, 76, 0, 0, 0, 0, []), (69, .iload 5, 2, 5, 0, 0, 0, 0, []), (71, .iload 7, 2, 7, 0, 0, 0, 0, []), (73, .invokestatic 209, 3, 276, 2, 1, 891, 0, []), (76, .istore 5, 2, 5, 0, 0, 0, 0, []), (78, .iinc 6 1, 3, 6, 0, 0, 0, 1, []),
  (81, .goto (-72), 3, 9, 0, 0, 0, 0, []), (84, .iload_n 3, 1, 3, 0, 0, 0, 0, []), (85, .ifCond .eq 8, 3, 93, 0, 0, 0, 0, []), (88, .iload 5, 2, 5, 0, 0, 0, 0, []), (90, .goto 5, 3, 95, 0, 0, 0, 0, []), (93, .iload 4, 2, 4, 0, 0, 0, 0, []),
  (95, .ireturn, 1, 0, 0, 1, 0, 0, [])]
noncomputable def am_s48 : am_S := (yX5_countVotes, cX5_countVotes, 4, none, 1, 0, 2, 5, 914, 913, 45, 165)
noncomputable def am_c48 : List (Nat × am_E) := [(0, .iconst 0, 1, 0, 0, 0, 0, 0, []), (1, .istore_n 2, 1, 2, 0, 0, 0, 0, []), (2, .iload_n 2, 1, 2, 0, 0, 0, 0, []), (3, .bipush 8, 2, 0, 0, 0, 0, 8, []), (5, .if_icmp .ge 16, 3, 21, 0, 0, 0, 0, []), (8, .aload_n 0, 1, 0, 0, 0, 0, 0, []),
  (9, .getfield 54, 3, 5, 13, 3, 500, 0, []), (12, .iload_n 2, 1, 2, 0, 0, 0, 0, []), (13, .iconst 0, 1, 0, 0, 0, 0, 0, []), (14, .iastore, 1, 0, 0, 0, 0, 0, []), (15, .iinc 2 1, 3, 2, 0, 0, 0, 1, []), (18, .goto (-16), 3, 2, 0, 0, 0, 0, []),
  (21, .iconst 0, 1, 0, 0, 0, 0, 0, []), (22, .istore_n 2, 1, 2, 0, 0, 0, 0, []), (23, .iload_n 2, 1, 2, 0, 0, 0, 0, []), (24, .aload_n 0, 1, 0, 0, 0, 0, 0, []), (25, .getfield 71, 3, 5, 3, 3, 490, 0, []), (28, .getfield 94, 3, 1, 0, 3, 463, 0, []),
  (31, .getfield 119, 3, 2, 0, 3, 203, 0, []), (34, .iconst 2, 1, 0, 0, 0, 0, 2, []), (35, .iaload, 1, 0, 0, 0, 0, 0, []), (36, .if_icmp .ge 49, 3, 85, 0, 0, 0, 0, []), (39, .iload_n 1, 1, 1, 0, 0, 0, 0, []), (40, .iload_n 2, 1, 2, 0, 0, 0, 0, []),
  (41, .ishr, 1, 0, 0, 0, 0, 0, []), (42, .iconst 1, 1, 0, 0, 0, 0, 1, []), (43, .iand, 1, 0, 0, 0, 0, 0, []), (44, .iconst 1, 1, 0, 0, 0, 0, 1, []), (45, .if_icmp .ne 17, 3, 62, 0, 0, 0, 0, []), (48, .aload_n 0, 1, 0, 0, 0, 0, 0, []),
  (49, .getfield 71, 3, 5, 3, 3, 490, 0, []), (52, .getfield 94, 3, 1, 0, 3, 463, 0, []), (55, .iload_n 2, 1, 2, 0, 0, 0, 0, []), (56, .invokevirtual 301, 3, 89, 2, 1, 915, 2, []), (59, .goto 4, 3, 63, 0, 0, 0, 0, []), (62, .iconst (-1), 1, 0, 0, 0, 0, (-1), []),
  (63, .istore_n 3, 1, 3, 0, 0, 0, 0, []), (64, .iload_n 3, 1, 3, 0, 0, 0, 0, []), (65, .iconst (-1), 1, 0, 0, 0, 0, (-1), []), (66, .if_icmp .eq 13, 3, 79, 0, 0, 0, 0, []), (69, .aload_n 0, 1, 0, 0, 0, 0, 0, []), (70, .getfield 54, 3, 5, 13, 3, 500, 0, []),
  (73, .iload_n 3, 1, 3, 0, 0, 0, 0, []), (74, .dup2, 1, 0, 0, 0, 0, 0, []), (75, .iaload, 1, 0, 0, 0, 0, 0, []), (76, .iconst 1, 1, 0, 0, 0, 0, 1, []), (77, .iadd, 1, 0, 0, 0, 0, 0, []), (78, .iastore, 1, 0, 0, 0, 0, 0, []),
  (79, .iinc 2 1, 3, 2, 0, 0, 0, 1, []), (82, .goto (-59), 3, 23, 0, 0, 0, 0, []), (85, .return_, 1, 0, 0, 0, 0, 0, [])]
noncomputable def am_s49 : am_S := (yX5_toldHours, cX5_toldHours, 3, (some .int), 1, 1, 1, 5, 939, 938, 47, 165)
noncomputable def am_c49 : List (Nat × am_E) := [(0, .iconst 0, 1, 0, 0, 0, 0, 0, []), (1, .istore_n 1, 1, 1, 0, 0, 0, 0, []), (2, .iconst 0, 1, 0, 0, 0, 0, 0, []), (3, .istore_n 2, 1, 2, 0, 0, 0, 0, []), (4, .iload_n 2, 1, 2, 0, 0, 0, 0, []), (5, .aload_n 0, 1, 0, 0, 0, 0, 0, []),
  (6, .getfield 42, 3, 5, 9, 1, 496, 0, []), (9, .if_icmp .ge 24, 3, 33, 0, 0, 0, 0, []), (12, .iload_n 1, 1, 1, 0, 0, 0, 0, []), (13, .aload_n 0, 1, 0, 0, 0, 0, 0, []), (14, .getfield 39, 3, 5, 8, 3, 495, 0, []), (17, .iconst 3, 1, 0, 0, 0, 0, 3, []),
  (18, .iload_n 2, 1, 2, 0, 0, 0, 0, []), (19, .imul, 1, 0, 0, 0, 0, 0, []), (20, .iaload, 1, 0, 0, 0, 0, 0, []), (21, .iconst 1, 1, 0, 0, 0, 0, 1, []), (22, .iadd, 1, 0, 0, 0, 0, 0, []), (23, .invokestatic 304, 3, 274, 2, 1, 940, 0, []),
  (26, .istore_n 1, 1, 1, 0, 0, 0, 0, []), (27, .iinc 2 1, 3, 2, 0, 0, 0, 1, []), (30, .goto (-26), 3, 4, 0, 0, 0, 0, []), (33, .iload_n 1, 1, 1, 0, 0, 0, 0, []), (34, .ireturn, 1, 0, 0, 1, 0, 0, [])]
noncomputable def am_s50 : am_S := (yX5_isAsTold, cX5_isAsTold, 6, (some .boolean), 1, 4, 3, 5, 944, 943, 48, 165)
noncomputable def am_c50 : List (Nat × am_E) := [(0, .aload_n 0, 1, 0, 0, 0, 0, 0, []), (1, .getfield 75, 3, 5, 4, 3, 491, 0, []), (4, .aload_n 0, 1, 0, 0, 0, 0, 0, []), (5, .getfield 71, 3, 5, 3, 3, 490, 0, []), (8, .iload_n 1, 1, 1, 0, 0, 0, 0, []), (9, .invokevirtual 297, 3, 72, 3, 0, 826, 1, []),
  (12, .iconst 0, 1, 0, 0, 0, 0, 0, []), (13, .istore_n 3, 1, 3, 0, 0, 0, 0, []), (14, .iload_n 3, 1, 3, 0, 0, 0, 0, []), (15, .iload_n 2, 1, 2, 0, 0, 0, 0, []), (16, .if_icmp .ge 97, 3, 113, 0, 0, 0, 0, []), (19, .aload_n 0, 1, 0, 0, 0, 0, 0, []),
  (20, .getfield 75, 3, 5, 4, 3, 491, 0, []), (23, .invokevirtual 214, 3, 73, 1, 1, 837, 1, []), (26, .pop, 1, 0, 0, 0, 0, 0, []), (27, .iconst 0, 1, 0, 0, 0, 0, 0, []), (28, .istore 4, 2, 4, 0, 0, 0, 0, []), (30, .iload 4, 2, 4, 0, 0, 0, 0, []),
  (32, .aload_n 0, 1, 0, 0, 0, 0, 0, []), (33, .getfield 42, 3, 5, 9, 1, 496, 0, []), (36, .if_icmp .ge 71, 3, 107, 0, 0, 0, 0, []), (39, .aload_n 0, 1, 0, 0, 0, 0, 0, []), (40, .getfield 39, 3, 5, 8, 3, 495, 0, []), (43, .iconst 3, 1, 0, 0, 0, 0, 3, []),
  (44, .iload 4, 2, 4, 0, 0, 0, 0, []), (46, .imul, 1, 0, 0, 0, 0, 0, []), (47, .iaload, 1, 0, 0, 0, 0, 0, []), (48, .iload_n 3, 1, 3, 0, 0, 0, 0, []), (49, .if_icmp .ne 7, 3, 56, 0, 0, 0, 0, []), (52, .iconst 1, 1, 0, 0, 0, 0, 1, []),
  (53, .goto 4, 3, 57, 0, 0, 0, 0, []), (56, .iconst 0, 1, 0, 0, 0, 0, 0, []), (57, .istore 5, 2, 5, 0, 0, 0, 0, []), (59, .iload 5, 2, 5, 0, 0, 0, 0, []), (61, .ifCond .eq 40, 3, 101, 0, 0, 0, 0, []), (64, .aload_n 0, 1, 0, 0, 0, 0, 0, []),
  (65, .getfield 75, 3, 5, 4, 3, 491, 0, []), (68, .getfield 307, 3, 1, 4, 1, 471, 0, []), (71, .aload_n 0, 1, 0, 0, 0, 0, 0, []), (72, .getfield 39, 3, 5, 8, 3, 495, 0, []), (75, .iconst 3, 1, 0, 0, 0, 0, 3, []), (76, .iload 4, 2, 4, 0, 0, 0, 0, []),
  (78, .imul, 1, 0, 0, 0, 0, 0, []), (79, .iconst 1, 1, 0, 0, 0, 0, 1, []), (80, .iadd, 1, 0, 0, 0, 0, 0, []), (81, .iaload, 1, 0, 0, 0, 0, 0, []), (82, .ishr, 1, 0, 0, 0, 0, 0, []), (83, .iconst 1, 1, 0, 0, 0, 0, 1, []),
  (84, .iand, 1, 0, 0, 0, 0, 0, []), (85, .aload_n 0, 1, 0, 0, 0, 0, 0, []), (86, .getfield 39, 3, 5, 8, 3, 495, 0, []), (89, .iconst 3, 1, 0, 0, 0, 0, 3, []), (90, .iload 4, 2, 4, 0, 0, 0, 0, []), (92, .imul, 1, 0, 0, 0, 0, 0, []),
  (93, .iconst 2, 1, 0, 0, 0, 0, 2, []), (94, .iadd, 1, 0, 0, 0, 0, 0, []), (95, .iaload, 1, 0, 0, 0, 0, 0, []), (96, .if_icmp .eq 5, 3, 101, 0, 0, 0, 0, []), (99, .iconst 0, 1, 0, 0, 0, 0, 0, []), (100, .ireturn, 1, 0, 0, 4, 0, 0, []),
  (101, .iinc 4 1, 3, 4, 0, 0, 0, 1, []), (104, .goto (-74), 3, 30, 0, 0, 0, 0, []), (107, .iinc 3 1, 3, 3, 0, 0, 0, 1, []), (110, .goto (-96), 3, 14, 0, 0, 0, 0, []), (113, .iconst 1, 1, 0, 0, 0, 0, 1, []), (114, .ireturn, 1, 0, 0, 4, 0, 0, [])]
noncomputable def am_s51 : am_S := (yX5_strangerSees, cX5_strangerSees, 3, (some .boolean), 1, 4, 1, 5, 969, 968, 50, 165)
noncomputable def am_c51 : List (Nat × am_E) := [(0, .aload_n 0, 1, 0, 0, 0, 0, 0, []), (1, .getfield 71, 3, 5, 3, 3, 490, 0, []), (4, .getfield 94, 3, 1, 0, 3, 463, 0, []), (7, .getfield 119, 3, 2, 0, 3, 203, 0, []), (10, .iconst 1, 1, 0, 0, 0, 0, 1, []), (11, .iaload, 1, 0, 0, 0, 0, 0, []),
  (12, .istore_n 1, 1, 1, 0, 0, 0, 0, []), (13, .aload_n 0, 1, 0, 0, 0, 0, 0, []), (14, .bipush 100, 2, 0, 0, 0, 0, 100, []), (16, .invokevirtual 310, 3, 52, 2, 1, 970, 5, []), (19, .aload_n 0, 1, 0, 0, 0, 0, 0, []), (20, .getfield 71, 3, 5, 3, 3, 490, 0, []),
  (23, .getfield 94, 3, 1, 0, 3, 463, 0, []), (26, .getfield 313, 3, 2, 11, 1, 240, 0, []), (29, .if_icmp .ge 7, 3, 36, 0, 0, 0, 0, []), (32, .iload_n 1, 1, 1, 0, 0, 0, 0, []), (33, .ifCond .ne 5, 3, 38, 0, 0, 0, 0, []), (36, .iconst 0, 1, 0, 0, 0, 0, 0, []),
  (37, .ireturn, 1, 0, 0, 4, 0, 0, []), (38, .aload_n 0, 1, 0, 0, 0, 0, 0, []), (39, .iload_n 1, 1, 1, 0, 0, 0, 0, []), (40, .invokevirtual 310, 3, 52, 2, 1, 970, 5, []), (43, .istore_n 2, 1, 2, 0, 0, 0, 0, []), (44, .aload_n 0, 1, 0, 0, 0, 0, 0, []),
  (45, .getfield 71, 3, 5, 3, 3, 490, 0, []), (48, .getfield 99, 3, 1, 1, 3, 465, 0, []), (51, .getfield 168, 3, 0, 3, 3, 423, 0, []), (54, .iload_n 2, 1, 2, 0, 0, 0, 0, []), (55, .iaload, 1, 0, 0, 0, 0, 0, []), (56, .aload_n 0, 1, 0, 0, 0, 0, 0, []),
  (57, .getfield 71, 3, 5, 3, 3, 490, 0, []), (60, .getfield 94, 3, 1, 0, 3, 463, 0, []), (63, .getfield 147, 3, 2, 2, 3, 210, 0, []), (66, .iload_n 2, 1, 2, 0, 0, 0, 0, []), (67, .iaload, 1, 0, 0, 0, 0, 0, []), (68, .if_icmp .lt 5, 3, 73, 0, 0, 0, 0, []),
  (71, .iconst 0, 1, 0, 0, 0, 0, 0, []), (72, .ireturn, 1, 0, 0, 4, 0, 0, []), (73, .aload_n 0, 1, 0, 0, 0, 0, 0, []), (74, .getfield 71, 3, 5, 3, 3, 490, 0, []), (77, .iconst 0, 1, 0, 0, 0, 0, 0, []), (78, .iload_n 2, 1, 2, 0, 0, 0, 0, []),
  (79, .bipush 9, 2, 0, 0, 0, 0, 9, []), (81, .invokevirtual 316, 3, 77, 4, 0, 977, 1, []), (84, .iconst 1, 1, 0, 0, 0, 0, 1, []), (85, .ireturn, 1, 0, 0, 4, 0, 0, [])]
noncomputable def am_s52 : am_S := (yX5_draw, cX5_draw, 2, (some .int), 1, 1, 2, 5, 973, 972, 51, 165)
noncomputable def am_c52 : List (Nat × am_E) := [(0, .aload_n 0, 1, 0, 0, 0, 0, 0, []), (1, .ldc2_w 320, 3, 0, 0, 0, 974, 1103515245, []), (4, .aload_n 0, 1, 0, 0, 0, 0, 0, []), (5, .getfield 60, 3, 5, 15, 1, 502, 0, []), (8, .i2l, 1, 0, 0, 0, 0, 0, []), (9, .lmul, 1, 0, 0, 0, 0, 0, []),
  (10, .ldc2_w 322, 3, 0, 0, 0, 975, 12345, []), (13, .ladd, 1, 0, 0, 0, 0, 0, []), (14, .ldc2_w 324, 3, 0, 0, 0, 976, 2147483647, []), (17, .land, 1, 0, 0, 0, 0, 0, []), (18, .l2i, 1, 0, 0, 0, 0, 0, []), (19, .putfield 60, 3, 5, 15, 1, 502, 0, []),
  (22, .iload_n 1, 1, 1, 0, 0, 0, 0, []), (23, .iconst 1, 1, 0, 0, 0, 0, 1, []), (24, .if_icmp .ge 7, 3, 31, 0, 0, 0, 0, []), (27, .iconst 0, 1, 0, 0, 0, 0, 0, []), (28, .goto 12, 3, 40, 0, 0, 0, 0, []), (31, .aload_n 0, 1, 0, 0, 0, 0, 0, []),
  (32, .getfield 60, 3, 5, 15, 1, 502, 0, []), (35, .bipush 64, 2, 0, 0, 0, 0, 64, []), (37, .idiv, 1, 0, 0, 0, 0, 0, []), (38, .iload_n 1, 1, 1, 0, 0, 0, 0, []), (39, .irem, 1, 0, 0, 0, 0, 0, []), (40, .ireturn, 1, 0, 0, 1, 0, 0, [])]
noncomputable def am_s53 : am_S := (yX5_filmThatHolds, cX5_filmThatHolds, 6, (some .long), 1, 2, 3, 5, 997, 996, 52, 165)
noncomputable def am_c53 : List (Nat × am_E) := [(0, .aload_n 0, 1, 0, 0, 0, 0, 0, []), (1, .getfield 71, 3, 5, 3, 3, 490, 0, []), (4, .getfield 94, 3, 1, 0, 3, 463, 0, []), (7, .getfield 119, 3, 2, 0, 3, 203, 0, []), (10, .iconst 1, 1, 0, 0, 0, 0, 1, []), (11, .iaload, 1, 0, 0, 0, 0, 0, []),
  (12, .istore_n 3, 1, 3, 0, 0, 0, 0, []), (13, .iconst 0, 1, 0, 0, 0, 0, 0, []), (14, .istore 4, 2, 4, 0, 0, 0, 0, []), (16, .iload 4, 2, 4, 0, 0, 0, 0, []), (18, .iload_n 3, 1, 3, 0, 0, 0, 0, []), (19, .if_icmp .ge 50, 3, 69, 0, 0, 0, 0, []),
  (22, .iload_n 2, 1, 2, 0, 0, 0, 0, []), (23, .ifCond .eq 8, 3, 31, 0, 0, 0, 0, []), (26, .iload 4, 2, 4, 0, 0, 0, 0, []), (28, .goto 9, 3, 37, 0, 0, 0, 0, []), (31, .iload_n 3, 1, 3, 0, 0, 0, 0, []), (32, .iconst 1, 1, 0, 0, 0, 0, 1, []),
  (33, .isub, 1, 0, 0, 0, 0, 0, []), (34, .iload 4, 2, 4, 0, 0, 0, 0, []), (36, .isub, 1, 0, 0, 0, 0, 0, []), (37, .istore 5, 2, 5, 0, 0, 0, 0, []), (39, .aload_n 0, 1, 0, 0, 0, 0, 0, []), (40, .getfield 71, 3, 5, 3, 3, 490, 0, []),
  (43, .aload_n 0, 1, 0, 0, 0, 0, 0, []), (44, .getfield 12, 3, 5, 0, 3, 487, 0, []), (47, .getfield 326, 3, 4, 4, 3, 345, 0, []), (50, .iload_n 1, 1, 1, 0, 0, 0, 0, []), (51, .iload 5, 2, 5, 0, 0, 0, 0, []), (53, .invokevirtual 329, 3, 78, 4, 1, 998, 1, []),
  (56, .ifCond .eq 7, 3, 63, 0, 0, 0, 0, []), (59, .iload 5, 2, 5, 0, 0, 0, 0, []), (61, .i2l, 1, 0, 0, 0, 0, 0, []), (62, .lreturn, 1, 0, 0, 2, 0, 0, []), (63, .iinc 4 1, 3, 4, 0, 0, 0, 1, []), (66, .goto (-50), 3, 16, 0, 0, 0, 0, []),
  (69, .ldc2_w 333, 3, 0, 0, 0, 1002, (-1), []), (72, .lreturn, 1, 0, 0, 2, 0, 0, [])]
noncomputable def am_s54 : am_S := (yX5_totalOf, cX5_totalOf, 5, (some .long), 1, 2, 2, 5, 1006, 1005, 53, 165)
noncomputable def am_c54 : List (Nat × am_E) := [(0, .lconst 0, 1, 0, 0, 0, 0, 0, []), (1, .lstore_n 2, 1, 2, 0, 0, 0, 0, []), (2, .iconst 0, 1, 0, 0, 0, 0, 0, []), (3, .istore 4, 2, 4, 0, 0, 0, 0, []), (5, .iload 4, 2, 4, 0, 0, 0, 0, []), (7, .aload_n 0, 1, 0, 0, 0, 0, 0, []),
  (8, .getfield 71, 3, 5, 3, 3, 490, 0, []), (11, .getfield 94, 3, 1, 0, 3, 463, 0, []), (14, .getfield 119, 3, 2, 0, 3, 203, 0, []), (17, .iconst 1, 1, 0, 0, 0, 0, 1, []), (18, .iaload, 1, 0, 0, 0, 0, 0, []), (19, .if_icmp .ge 30, 3, 49, 0, 0, 0, 0, []),
  (22, .lload_n 2, 1, 2, 0, 0, 0, 0, []), (23, .aload_n 0, 1, 0, 0, 0, 0, 0, []), (24, .getfield 71, 3, 5, 3, 3, 490, 0, []), (27, .aload_n 0, 1, 0, 0, 0, 0, 0, []), (28, .getfield 12, 3, 5, 0, 3, 487, 0, []), (31, .getfield 326, 3, 4, 4, 3, 345, 0, []),
  (34, .iload_n 1, 1, 1, 0, 0, 0, 0, []), (35, .iload 4, 2, 4, 0, 0, 0, 0, []), (37, .invokevirtual 329, 3, 78, 4, 1, 998, 1, []), (40, .i2l, 1, 0, 0, 0, 0, 0, []), (41, .ladd, 1, 0, 0, 0, 0, 0, []), (42, .lstore_n 2, 1, 2, 0, 0, 0, 0, []),
  (43, .iinc 4 1, 3, 4, 0, 0, 0, 1, []), (46, .goto (-41), 3, 5, 0, 0, 0, 0, []), (49, .lload_n 2, 1, 2, 0, 0, 0, 0, []), (50, .lreturn, 1, 0, 0, 2, 0, 0, [])]
noncomputable def am_s55 : am_S := (yX5_extremeOf, cX5_extremeOf, 6, (some .long), 1, 2, 3, 5, 1010, 1009, 54, 165)
noncomputable def am_c55 : List (Nat × am_E) := [(0, .iconst 0, 1, 0, 0, 0, 0, 0, []), (1, .istore_n 3, 1, 3, 0, 0, 0, 0, []), (2, .iconst 0, 1, 0, 0, 0, 0, 0, []), (3, .istore 4, 2, 4, 0, 0, 0, 0, []), (5, .iload 4, 2, 4, 0, 0, 0, 0, []), (7, .aload_n 0, 1, 0, 0, 0, 0, 0, []),
  (8, .getfield 71, 3, 5, 3, 3, 490, 0, []), (11, .getfield 94, 3, 1, 0, 3, 463, 0, []), (14, .getfield 119, 3, 2, 0, 3, 203, 0, []), (17, .iconst 1, 1, 0, 0, 0, 0, 1, []), (18, .iaload, 1, 0, 0, 0, 0, 0, []), (19, .if_icmp .ge 55, 3, 74, 0, 0, 0, 0, []),
  (22, .aload_n 0, 1, 0, 0, 0, 0, 0, []), (23, .getfield 71, 3, 5, 3, 3, 490, 0, []), (26, .aload_n 0, 1, 0, 0, 0, 0, 0, []), (27, .getfield 12, 3, 5, 0, 3, 487, 0, []), (30, .getfield 326, 3, 4, 4, 3, 345, 0, []), (33, .iload_n 1, 1, 1, 0, 0, 0, 0, []),
  (34, .iload 4, 2, 4, 0, 0, 0, 0, []), (36, .invokevirtual 329, 3, 78, 4, 1, 998, 1, []), (39, .istore 5, 2, 5, 0, 0, 0, 0, []), (41, .iload 4, 2, 4, 0, 0, 0, 0, []), (43, .ifCond .eq 22, 3, 65, 0, 0, 0, 0, []), (46, .iload_n 2, 1, 2, 0, 0, 0, 0, []),
  (47, .ifCond .eq 12, 3, 59, 0, 0, 0, 0, []), (50, .iload 5, 2, 5, 0, 0, 0, 0, []), (52, .iload_n 3, 1, 3, 0, 0, 0, 0, []), (53, .if_icmp .le 15, 3, 68, 0, 0, 0, 0, []), (56, .goto 9, 3, 65, 0, 0, 0, 0, []), (59, .iload 5, 2, 5, 0, 0, 0, 0, []),
  (61, .iload_n 3, 1, 3, 0, 0, 0, 0, []), (62, .if_icmp .ge 6, 3, 68, 0, 0, 0, 0, []), (65, .iload 5, 2, 5, 0, 0, 0, 0, []), (67, .istore_n 3, 1, 3, 0, 0, 0, 0, []), (68, .iinc 4 1, 3, 4, 0, 0, 0, 1, []), (71, .goto (-66), 3, 5, 0, 0, 0, 0, []),
  (74, .iload_n 3, 1, 3, 0, 0, 0, 0, []), (75, .i2l, 1, 0, 0, 0, 0, 0, []), (76, .lreturn, 1, 0, 0, 2, 0, 0, [])]
noncomputable def am_s56 : am_S := (yX5_putTwo, cX5_putTwo, 2, none, 1, 0, 2, 5, 1018, 1017, 55, 165)
noncomputable def am_c56 : List (Nat × am_E) := [(0, .aload_n 0, 1, 0, 0, 0, 0, 0, []), (1, .iload_n 1, 1, 1, 0, 0, 0, 0, []), (2, .bipush 8, 2, 0, 0, 0, 0, 8, []), (4, .ishr, 1, 0, 0, 0, 0, 0, []), (5, .invokevirtual 276, 3, 57, 2, 0, 1019, 5, []), (8, .aload_n 0, 1, 0, 0, 0, 0, 0, []),
  (9, .iload_n 1, 1, 1, 0, 0, 0, 0, []), (10, .sipush 255, 3, 0, 0, 0, 0, 255, []), (13, .iand, 1, 0, 0, 0, 0, 0, []), (14, .invokevirtual 276, 3, 57, 2, 0, 1019, 5, []), (17, .return_, 1, 0, 0, 0, 0, 0, [])]
noncomputable def am_s57 : am_S := (yX5_putByte, cX5_putByte, 2, none, 1, 0, 2, 5, 1022, 1021, 56, 165)
noncomputable def am_c57 : List (Nat × am_E) := [(0, .aload_n 0, 1, 0, 0, 0, 0, 0, []), (1, .getfield 48, 3, 5, 11, 1, 498, 0, []), (4, .sipush 139, 3, 0, 0, 0, 0, 139, []), (7, .if_icmp .ge 23, 3, 30, 0, 0, 0, 0, []), (10, .aload_n 0, 1, 0, 0, 0, 0, 0, []), (11, .getfield 45, 3, 5, 10, 3, 497, 0, []),
  (14, .aload_n 0, 1, 0, 0, 0, 0, 0, []), (15, .getfield 48, 3, 5, 11, 1, 498, 0, []), (18, .iload_n 1, 1, 1, 0, 0, 0, 0, []), (19, .iastore, 1, 0, 0, 0, 0, 0, []), (20, .aload_n 0, 1, 0, 0, 0, 0, 0, []), (21, .dup, 1, 0, 0, 0, 0, 0, []),
  (22, .getfield 48, 3, 5, 11, 1, 498, 0, []), (25, .iconst 1, 1, 0, 0, 0, 0, 1, []), (26, .iadd, 1, 0, 0, 0, 0, 0, []), (27, .putfield 48, 3, 5, 11, 1, 498, 0, []), (30, .return_, 1, 0, 0, 0, 0, 0, [])]
noncomputable def am_s58 : am_S := (yX5_checkByte, cX5_checkByte, 5, (some .int), 1, 1, 3, 5, 1026, 1025, 57, 165)
noncomputable def am_c58 : List (Nat × am_E) := [(0, .bipush 53, 2, 0, 0, 0, 0, 53, []), (2, .istore_n 3, 1, 3, 0, 0, 0, 0, []), (3, .iconst 0, 1, 0, 0, 0, 0, 0, []), (4, .istore 4, 2, 4, 0, 0, 0, 0, []), (6, .iload 4, 2, 4, 0, 0, 0, 0, []), (8, .iload_n 2, 1, 2, 0, 0, 0, 0, []),
  (9, .if_icmp .ge 29, 3, 38, 0, 0, 0, 0, []), (12, .iload 4, 2, 4, 0, 0, 0, 0, []), (14, .aload_n 1, 1, 1, 0, 0, 0, 0, []), (15, .arraylength, 1, 0, 0, 0, 0, 0, []), (16, .if_icmp .ge 22, 3, 38, 0, 0, 0, 0, []), (19, .iconst 3, 1, 0, 0, 0, 0, 3, []),
  (20, .iload_n 3, 1, 3, 0, 0, 0, 0, []), (21, .imul, 1, 0, 0, 0, 0, 0, []), (22, .aload_n 1, 1, 1, 0, 0, 0, 0, []), (23, .iload 4, 2, 4, 0, 0, 0, 0, []), (25, .iaload, 1, 0, 0, 0, 0, 0, []), (26, .iadd, 1, 0, 0, 0, 0, 0, []),
  (27, .sipush 251, 3, 0, 0, 0, 0, 251, []), (30, .irem, 1, 0, 0, 0, 0, 0, []), (31, .istore_n 3, 1, 3, 0, 0, 0, 0, []), (32, .iinc 4 1, 3, 4, 0, 0, 0, 1, []), (35, .goto (-29), 3, 6, 0, 0, 0, 0, []), (38, .iload_n 3, 1, 3, 0, 0, 0, 0, []),
  (39, .ireturn, 1, 0, 0, 1, 0, 0, [])]
noncomputable def am_s59 : am_S := (yX5_lengthOfImage, cX5_lengthOfImage, 3, (some .int), 1, 1, 1, 5, 1038, 1037, 58, 165)
noncomputable def am_c59 : List (Nat × am_E) := [(0, .aload_n 0, 1, 0, 0, 0, 0, 0, []), (1, .getfield 71, 3, 5, 3, 3, 490, 0, []), (4, .getfield 94, 3, 1, 0, 3, 463, 0, []), (7, .getfield 119, 3, 2, 0, 3, 203, 0, []), (10, .iconst 2, 1, 0, 0, 0, 0, 2, []), (11, .iaload, 1, 0, 0, 0, 0, 0, []),
  (12, .istore_n 1, 1, 1, 0, 0, 0, 0, []), (13, .iconst 2, 1, 0, 0, 0, 0, 2, []), (14, .aload_n 0, 1, 0, 0, 0, 0, 0, []), (15, .getfield 71, 3, 5, 3, 3, 490, 0, []), (18, .getfield 94, 3, 1, 0, 3, 463, 0, []), (21, .getfield 119, 3, 2, 0, 3, 203, 0, []),
  (24, .iconst 0, 1, 0, 0, 0, 0, 0, []), (25, .iaload, 1, 0, 0, 0, 0, 0, []), (26, .imul, 1, 0, 0, 0, 0, 0, []), (27, .aload_n 0, 1, 0, 0, 0, 0, 0, []), (28, .getfield 71, 3, 5, 3, 3, 490, 0, []), (31, .getfield 94, 3, 1, 0, 3, 463, 0, []),
  (34, .getfield 119, 3, 2, 0, 3, 203, 0, []), (37, .iconst 1, 1, 0, 0, 0, 0, 1, []), (38, .iaload, 1, 0, 0, 0, 0, 0, []), (39, .iadd, 1, 0, 0, 0, 0, 0, []), (40, .istore_n 2, 1, 2, 0, 0, 0, 0, []), (41, .iconst 4, 1, 0, 0, 0, 0, 4, []),
  (42, .iload_n 1, 1, 1, 0, 0, 0, 0, []), (43, .iconst 1, 1, 0, 0, 0, 0, 1, []), (44, .iadd, 1, 0, 0, 0, 0, 0, []), (45, .iload_n 2, 1, 2, 0, 0, 0, 0, []), (46, .imul, 1, 0, 0, 0, 0, 0, []), (47, .iadd, 1, 0, 0, 0, 0, 0, []),
  (48, .iconst 3, 1, 0, 0, 0, 0, 3, []), (49, .iload_n 1, 1, 1, 0, 0, 0, 0, []), (50, .imul, 1, 0, 0, 0, 0, 0, []), (51, .iadd, 1, 0, 0, 0, 0, 0, []), (52, .ireturn, 1, 0, 0, 1, 0, 0, [])]
noncomputable def am_s60 : am_S := (yX5_tapeByte, cX5_tapeByte, 2, (some .int), 1, 1, 2, 5, 1042, 1041, 59, 165)
noncomputable def am_c60 : List (Nat × am_E) := [(0, .iload_n 1, 1, 1, 0, 0, 0, 0, []), (1, .ifCond .lt 19, 3, 20, 0, 0, 0, 0, []), (4, .iload_n 1, 1, 1, 0, 0, 0, 0, []), (5, .sipush 1600, 3, 0, 0, 0, 0, 1600, []), (8, .if_icmp .ge 12, 3, 20, 0, 0, 0, 0, []), (11, .aload_n 0, 1, 0, 0, 0, 0, 0, []),
  (12, .getfield 20, 3, 5, 1, 3, 488, 0, []), (15, .iload_n 1, 1, 1, 0, 0, 0, 0, []), (16, .iaload, 1, 0, 0, 0, 0, 0, []), (17, .goto 4, 3, 21, 0, 0, 0, 0, []), (20, .iconst 0, 1, 0, 0, 0, 0, 0, []), (21, .ireturn, 1, 0, 0, 1, 0, 0, [])]
noncomputable def am_s61 : am_S := (yX5_tapeTwo, cX5_tapeTwo, 2, (some .int), 1, 1, 2, 5, 1050, 1049, 61, 165)
noncomputable def am_c61 : List (Nat × am_E) := [(0, .aload_n 0, 1, 0, 0, 0, 0, 0, []), (1, .iload_n 1, 1, 1, 0, 0, 0, 0, []), (2, .invokevirtual 286, 3, 60, 2, 1, 1039, 5, []), (5, .sipush 256, 3, 0, 0, 0, 0, 256, []), (8, .imul, 1, 0, 0, 0, 0, 0, []), (9, .aload_n 0, 1, 0, 0, 0, 0, 0, []),
  (10, .iload_n 1, 1, 1, 0, 0, 0, 0, []), (11, .iconst 1, 1, 0, 0, 0, 0, 1, []), (12, .iadd, 1, 0, 0, 0, 0, 0, []), (13, .invokevirtual 286, 3, 60, 2, 1, 1039, 5, []), (16, .iadd, 1, 0, 0, 0, 0, 0, []), (17, .ireturn, 1, 0, 0, 1, 0, 0, [])]
noncomputable def am_s62 : am_S := (yX5_readProfiles, cX5_readProfiles, 8, (some .boolean), 1, 4, 2, 5, 1046, 1045, 60, 165)
noncomputable def am_c62_0 : List (Nat × am_E) := [(0, .aload_n 1, 1, 1, 0, 0, 0, 0, []), (1, .invokevirtual 103, 3, 65, 1, 0, 687, 0, []), (4, .aload_n 0, 1, 0, 0, 0, 0, 0, []), (5, .iconst 0, 1, 0, 0, 0, 0, 0, []), (6, .invokevirtual 335, 3, 61, 2, 1, 1047, 5, []), (9, .istore_n 2, 1, 2, 0, 0, 0, 0, []),
  (10, .aload_n 0, 1, 0, 0, 0, 0, 0, []), (11, .iconst 2, 1, 0, 0, 0, 0, 2, []), (12, .invokevirtual 286, 3, 60, 2, 1, 1039, 5, []), (15, .istore_n 3, 1, 3, 0, 0, 0, 0, []), (16, .iload_n 2, 1, 2, 0, 0, 0, 0, []), (17, .sipush 999, 3, 0, 0, 0, 0, 999, []),
  (20, .if_icmp .gt 13, 3, 33, 0, 0, 0, 0, []), (23, .iload_n 3, 1, 3, 0, 0, 0, 0, []), (24, .bipush 24, 2, 0, 0, 0, 0, 24, []), (26, .if_icmp .ge 7, 3, 33, 0, 0, 0, 0, []), (29, .iconst 1, 1, 0, 0, 0, 0, 1, []), (30, .goto 4, 3, 34, 0, 0, 0, 0, []),
  (33, .iconst 0, 1, 0, 0, 0, 0, 0, []), (34, .istore 4, 2, 4, 0, 0, 0, 0, []), (36, .aload_n 1, 1, 1, 0, 0, 0, 0, []), (37, .iload 4, 2, 4, 0, 0, 0, 0, []), (39, .ifCond .eq 12, 3, 51, 0, 0, 0, 0, []), (42, .iload_n 2, 1, 2, 0, 0, 0, 0, []),
  (43, .bipush 24, 2, 0, 0, 0, 0, 24, []), (45, .imul, 1, 0, 0, 0, 0, 0, []), (46, .iload_n 3, 1, 3, 0, 0, 0, 0, []), (47, .iadd, 1, 0, 0, 0, 0, 0, []), (48, .goto 4, 3, 52, 0, 0, 0, 0, []), (51, .iconst 0, 1, 0, 0, 0, 0, 0, []),
  (52, .putfield 125, 3, 0, 0, 1, 414, 0, []), (55, .iconst 3, 1, 0, 0, 0, 0, 3, []), (56, .istore 5, 2, 5, 0, 0, 0, 0, []), (58, .iconst 0, 1, 0, 0, 0, 0, 0, []), (59, .istore 6, 2, 6, 0, 0, 0, 0, []), (61, .iload 6, 2, 6, 0, 0, 0, 0, []),
  (63, .aload_n 0, 1, 0, 0, 0, 0, 0, []), (64, .getfield 71, 3, 5, 3, 3, 490, 0, []), (67, .getfield 94, 3, 1, 0, 3, 463, 0, []), (70, .getfield 119, 3, 2, 0, 3, 203, 0, []), (73, .iconst 2, 1, 0, 0, 0, 0, 2, []), (74, .iaload, 1, 0, 0, 0, 0, 0, []),
  (75, .if_icmp .gt 163, 3, 238, 0, 0, 0, 0, []), (78, .iconst 0, 1, 0, 0, 0, 0, 0, []), (79, .istore 7, 2, 7, 0, 0, 0, 0, []), (81, .iload 7, 2, 7, 0, 0, 0, 0, []), (83, .aload_n 0, 1, 0, 0, 0, 0, 0, []), (84, .getfield 71, 3, 5, 3, 3, 490, 0, []),
  (87, .getfield 94, 3, 1, 0, 3, 463, 0, []), (90, .getfield 119, 3, 2, 0, 3, 203, 0, []), (93, .iconst 0, 1, 0, 0, 0, 0, 0, []), (94, .iaload, 1, 0, 0, 0, 0, 0, []), (95, .if_icmp .ge 55, 3, 150, 0, 0, 0, 0, []), (98, .aload_n 1, 1, 1, 0, 0, 0, 0, []),
  (99, .getfield 165, 3, 0, 2, 3, 420, 0, []), (102, .iload 6, 2, 6, 0, 0, 0, 0, []), (104, .bipush 6, 2, 0, 0, 0, 0, 6, []), (106, .imul, 1, 0, 0, 0, 0, 0, []), (107, .iload 7, 2, 7, 0, 0, 0, 0, []), (109, .iadd, 1, 0, 0, 0, 0, 0, []),
  (110, .aload_n 0, 1, 0, 0, 0, 0, 0, []), (111, .iload 5, 2, 5, 0, 0, 0, 0, []), (113, .invokevirtual 335, 3, 61, 2, 1, 1047, 5, []), (116, .iastore, 1, 0, 0, 0, 0, 0, []), (117, .iload 4, 2, 4, 0, 0, 0, 0, []), (119, .ifCond .eq 19, 3, 138, 0, 0, 0, 0, []),
  (122, .aload_n 0, 1, 0, 0, 0, 0, 0, []), (123, .iload 5, 2, 5, 0, 0, 0, 0, []), (125, .invokevirtual 335, 3, 61, 2, 1, 1047, 5, []), (128, .sipush 999, 3, 0, 0, 0, 0, 999, []), (131, .if_icmp .gt 7, 3, 138, 0, 0, 0, 0, []), (134, .iconst 1, 1, 0, 0, 0, 0, 1, []),
  (135, .goto 4, 3, 139, 0, 0, 0, 0, []), (138, .iconst 0, 1, 0, 0, 0, 0, 0, []), (139, .istore 4, 2, 4, 0, 0, 0, 0, []), (141, .iinc 5 2, 3, 5, 0, 0, 0, 2, []), (144, .iinc 7 1, 3, 7, 0, 0, 0, 1, []), (147, .goto (-66), 3, 81, 0, 0, 0, 0, []),
  (150, .iconst 0, 1, 0, 0, 0, 0, 0, []), (151, .istore 7, 2, 7, 0, 0, 0, 0, []), (153, .iload 7, 2, 7, 0, 0, 0, 0, []), (155, .aload_n 0, 1, 0, 0, 0, 0, 0, []), (156, .getfield 71, 3, 5, 3, 3, 490, 0, []), (159, .getfield 94, 3, 1, 0, 3, 463, 0, []),
  (162, .getfield 119, 3, 2, 0, 3, 203, 0, []), (165, .iconst 1, 1, 0, 0, 0, 0, 1, []), (166, .iaload, 1, 0, 0, 0, 0, 0, []), (167, .if_icmp .ge 65, 3, 232, 0, 0, 0, 0, []), (170, .aload_n 1, 1, 1, 0, 0, 0, 0, []), (171, .getfield 168, 3, 0, 3, 3, 423, 0, []),
  (174, .iload 6, 2, 6, 0, 0, 0, 0, []), (176, .bipush 8, 2, 0, 0, 0, 0, 8, []), (178, .imul, 1, 0, 0, 0, 0, 0, []), (179, .iload 7, 2, 7, 0, 0, 0, 0, []), (181, .iadd, 1, 0, 0, 0, 0, 0, []), (182, .aload_n 0, 1, 0, 0, 0, 0, 0, []),
  (183, .iload 5, 2, 5, 0, 0, 0, 0, []), (185, .invokevirtual 286, 3, 60, 2, 1, 1039, 5, []), (188, .iastore, 1, 0, 0, 0, 0, 0, []), (189, .iload 4, 2, 4, 0, 0, 0, 0, [])]
noncomputable def am_c62_1 : List (Nat × am_E) := [(191, .ifCond .eq 29, 3, 220, 0, 0, 0, 0, []), (194, .aload_n 0, 1, 0, 0, 0, 0, 0, []), (195, .iload 5, 2, 5, 0, 0, 0, 0, []), (197, .invokevirtual 286, 3, 60, 2, 1, 1039, 5, []), (200, .aload_n 0, 1, 0, 0, 0, 0, 0, []), (201, .getfield 71, 3, 5, 3, 3, 490, 0, []),
  (204, .getfield 94, 3, 1, 0, 3, 463, 0, []), (207, .getfield 147, 3, 2, 2, 3, 210, 0, []), (210, .iload 7, 2, 7, 0, 0, 0, 0, []), (212, .iaload, 1, 0, 0, 0, 0, 0, []), (213, .if_icmp .gt 7, 3, 220, 0, 0, 0, 0, []), (216, .iconst 1, 1, 0, 0, 0, 0, 1, []),
  (217, .goto 4, 3, 221, 0, 0, 0, 0, []), (220, .iconst 0, 1, 0, 0, 0, 0, 0, []), (221, .istore 4, 2, 4, 0, 0, 0, 0, []), (223, .iinc 5 1, 3, 5, 0, 0, 0, 1, []), (226, .iinc 7 1, 3, 7, 0, 0, 0, 1, []), (229, .goto (-76), 3, 153, 0, 0, 0, 0, []),
  (232, .iinc 6 1, 3, 6, 0, 0, 0, 1, []), (235, .goto (-174), 3, 61, 0, 0, 0, 0, []), (238, .iload 4, 2, 4, 0, 0, 0, 0, []), (240, .ireturn, 1, 0, 0, 4, 0, 0, [])]
noncomputable def am_c62 : List (Nat × am_E) := am_c62_0 ++ (am_c62_1)
noncomputable def am_s63 : am_S := (yX5_readPeople, cX5_readPeople, 7, (some .boolean), 1, 4, 3, 5, 1054, 1053, 62, 165)
noncomputable def am_c63 : List (Nat × am_E) := [(0, .aload_n 0, 1, 0, 0, 0, 0, 0, []), (1, .getfield 71, 3, 5, 3, 3, 490, 0, []), (4, .getfield 94, 3, 1, 0, 3, 463, 0, []), (7, .getfield 119, 3, 2, 0, 3, 203, 0, []), (10, .iconst 2, 1, 0, 0, 0, 0, 2, []), (11, .iaload, 1, 0, 0, 0, 0, 0, []),
  (12, .istore_n 3, 1, 3, 0, 0, 0, 0, []), (13, .iconst 1, 1, 0, 0, 0, 0, 1, []), (14, .istore 4, 2, 4, 0, 0, 0, 0, []), (16, .iconst 0, 1, 0, 0, 0, 0, 0, []), (17, .istore 5, 2, 5, 0, 0, 0, 0, []), (19, .iload 5, 2, 5, 0, 0, 0, 0, []),
  (21, .iload_n 3, 1, 3, 0, 0, 0, 0, []), (22, .if_icmp .ge 88, 3, 110, 0, 0, 0, 0, []), (25, .iload_n 2, 1, 2, 0, 0, 0, 0, []), (26, .iconst 3, 1, 0, 0, 0, 0, 3, []), (27, .iload_n 3, 1, 3, 0, 0, 0, 0, []), (28, .iload 5, 2, 5, 0, 0, 0, 0, []),
  (30, .isub, 1, 0, 0, 0, 0, 0, []), (31, .imul, 1, 0, 0, 0, 0, 0, []), (32, .isub, 1, 0, 0, 0, 0, 0, []), (33, .istore 6, 2, 6, 0, 0, 0, 0, []), (35, .iload 4, 2, 4, 0, 0, 0, 0, []), (37, .ifCond .eq 31, 3, 68, 0, 0, 0, 0, []),
  (40, .aload_n 0, 1, 0, 0, 0, 0, 0, []), (41, .iload 6, 2, 6, 0, 0, 0, 0, []), (43, .invokevirtual 286, 3, 60, 2, 1, 1039, 5, []), (46, .iconst 1, 1, 0, 0, 0, 0, 1, []), (47, .if_icmp .gt 21, 3, 68, 0, 0, 0, 0, []), (50, .aload_n 0, 1, 0, 0, 0, 0, 0, []),
  (51, .iload 6, 2, 6, 0, 0, 0, 0, []), (53, .iconst 1, 1, 0, 0, 0, 0, 1, []), (54, .iadd, 1, 0, 0, 0, 0, 0, []), (55, .invokevirtual 335, 3, 61, 2, 1, 1047, 5, []), (58, .sipush 9999, 3, 0, 0, 0, 0, 9999, []), (61, .if_icmp .gt 7, 3, 68, 0, 0, 0, 0, []),
  (64, .iconst 1, 1, 0, 0, 0, 0, 1, []), (65, .goto 4, 3, 69, 0, 0, 0, 0, []), (68, .iconst 0, 1, 0, 0, 0, 0, 0, []), (69, .istore 4, 2, 4, 0, 0, 0, 0, []), (71, .aload_n 1, 1, 1, 0, 0, 0, 0, []), (72, .dup, 1, 0, 0, 0, 0, 0, []),
  (73, .getfield 109, 3, 0, 1, 1, 417, 0, []), (76, .aload_n 0, 1, 0, 0, 0, 0, 0, []), (77, .iload 6, 2, 6, 0, 0, 0, 0, []), (79, .invokevirtual 286, 3, 60, 2, 1, 1039, 5, []), (82, .iload 5, 2, 5, 0, 0, 0, 0, []), (84, .ishl, 1, 0, 0, 0, 0, 0, []),
  (85, .ior, 1, 0, 0, 0, 0, 0, []), (86, .putfield 109, 3, 0, 1, 1, 417, 0, []), (89, .aload_n 1, 1, 1, 0, 0, 0, 0, []), (90, .getfield 159, 3, 0, 4, 3, 426, 0, []), (93, .iload 5, 2, 5, 0, 0, 0, 0, []), (95, .aload_n 0, 1, 0, 0, 0, 0, 0, []),
  (96, .iload 6, 2, 6, 0, 0, 0, 0, []), (98, .iconst 1, 1, 0, 0, 0, 0, 1, []), (99, .iadd, 1, 0, 0, 0, 0, 0, []), (100, .invokevirtual 335, 3, 61, 2, 1, 1047, 5, []), (103, .iastore, 1, 0, 0, 0, 0, 0, []), (104, .iinc 5 1, 3, 5, 0, 0, 0, 1, []),
  (107, .goto (-88), 3, 19, 0, 0, 0, 0, []), (110, .iload 4, 2, 4, 0, 0, 0, 0, []), (112, .ireturn, 1, 0, 0, 4, 0, 0, [])]
noncomputable def am_s64 : am_S := (yX0_init, cX0_init, 1, none, 2, 0, 1, 0, 410, 409, 0, 173)
noncomputable def am_c64 : List (Nat × am_E) := [(0, .aload_n 0, 1, 0, 0, 0, 0, 0, []), (1, .invokespecial 3, 3, 0, 1, 9, 411, 0, []), (4, .aload_n 0, 1, 0, 0, 0, 0, 0, []), (5, .iconst 0, 1, 0, 0, 0, 0, 0, []), (6, .putfield 9, 3, 0, 0, 1, 412, 0, []), (9, .aload_n 0, 1, 0, 0, 0, 0, 0, []),
  (10, .iconst 0, 1, 0, 0, 0, 0, 0, []), (11, .putfield 15, 3, 0, 1, 1, 415, 0, []), (14, .aload_n 0, 1, 0, 0, 0, 0, 0, []), (15, .bipush 36, 2, 0, 0, 0, 0, 36, []), (17, .newarray .int, 2, 2, 0, 0, 0, 0, []), (19, .putfield 18, 3, 0, 2, 3, 418, 0, []),
  (22, .aload_n 0, 1, 0, 0, 0, 0, 0, []), (23, .bipush 48, 2, 0, 0, 0, 0, 48, []), (25, .newarray .int, 2, 2, 0, 0, 0, 0, []), (27, .putfield 22, 3, 0, 3, 3, 421, 0, []), (30, .aload_n 0, 1, 0, 0, 0, 0, 0, []), (31, .iconst 5, 1, 0, 0, 0, 0, 5, []),
  (32, .newarray .int, 2, 2, 0, 0, 0, 0, []), (34, .putfield 25, 3, 0, 4, 3, 424, 0, []), (37, .aload_n 0, 1, 0, 0, 0, 0, 0, []), (38, .bipush 40, 2, 0, 0, 0, 0, 40, []), (40, .newarray .int, 2, 2, 0, 0, 0, 0, []), (42, .putfield 28, 3, 0, 5, 3, 427, 0, []),
  (45, .aload_n 0, 1, 0, 0, 0, 0, 0, []), (46, .iconst 0, 1, 0, 0, 0, 0, 0, []), (47, .putfield 31, 3, 0, 6, 1, 428, 0, []), (50, .return_, 1, 0, 0, 0, 0, 0, [])]
noncomputable def am_s65 : am_S := (yX0_clear, cX0_clear, 2, none, 1, 0, 1, 0, 690, 688, 689, 173)
noncomputable def am_c65 : List (Nat × am_E) := [(0, .aload_n 0, 1, 0, 0, 0, 0, 0, []), (1, .iconst 0, 1, 0, 0, 0, 0, 0, []), (2, .putfield 9, 3, 0, 0, 1, 412, 0, []), (5, .aload_n 0, 1, 0, 0, 0, 0, 0, []), (6, .iconst 0, 1, 0, 0, 0, 0, 0, []), (7, .putfield 15, 3, 0, 1, 1, 415, 0, []),
  (10, .iconst 0, 1, 0, 0, 0, 0, 0, []), (11, .istore_n 1, 1, 1, 0, 0, 0, 0, []), (12, .iload_n 1, 1, 1, 0, 0, 0, 0, []), (13, .aload_n 0, 1, 0, 0, 0, 0, 0, []), (14, .getfield 18, 3, 0, 2, 3, 418, 0, []), (17, .arraylength, 1, 0, 0, 0, 0, 0, []),
  (18, .if_icmp .ge 16, 3, 34, 0, 0, 0, 0, []), (21, .aload_n 0, 1, 0, 0, 0, 0, 0, []), (22, .getfield 18, 3, 0, 2, 3, 418, 0, []), (25, .iload_n 1, 1, 1, 0, 0, 0, 0, []), (26, .iconst 0, 1, 0, 0, 0, 0, 0, []), (27, .iastore, 1, 0, 0, 0, 0, 0, []),
  (28, .iinc 1 1, 3, 1, 0, 0, 0, 1, []), (31, .goto (-19), 3, 12, 0, 0, 0, 0, []), (34, .iconst 0, 1, 0, 0, 0, 0, 0, []), (35, .istore_n 1, 1, 1, 0, 0, 0, 0, []), (36, .iload_n 1, 1, 1, 0, 0, 0, 0, []), (37, .aload_n 0, 1, 0, 0, 0, 0, 0, []),
  (38, .getfield 22, 3, 0, 3, 3, 421, 0, []), (41, .arraylength, 1, 0, 0, 0, 0, 0, []), (42, .if_icmp .ge 16, 3, 58, 0, 0, 0, 0, []), (45, .aload_n 0, 1, 0, 0, 0, 0, 0, []), (46, .getfield 22, 3, 0, 3, 3, 421, 0, []), (49, .iload_n 1, 1, 1, 0, 0, 0, 0, []),
  (50, .iconst 0, 1, 0, 0, 0, 0, 0, []), (51, .iastore, 1, 0, 0, 0, 0, 0, []), (52, .iinc 1 1, 3, 1, 0, 0, 0, 1, []), (55, .goto (-19), 3, 36, 0, 0, 0, 0, []), (58, .iconst 0, 1, 0, 0, 0, 0, 0, []), (59, .istore_n 1, 1, 1, 0, 0, 0, 0, []),
  (60, .iload_n 1, 1, 1, 0, 0, 0, 0, []), (61, .iconst 5, 1, 0, 0, 0, 0, 5, []), (62, .if_icmp .ge 16, 3, 78, 0, 0, 0, 0, []), (65, .aload_n 0, 1, 0, 0, 0, 0, 0, []), (66, .getfield 25, 3, 0, 4, 3, 424, 0, []), (69, .iload_n 1, 1, 1, 0, 0, 0, 0, []),
  (70, .iconst 0, 1, 0, 0, 0, 0, 0, []), (71, .iastore, 1, 0, 0, 0, 0, 0, []), (72, .iinc 1 1, 3, 1, 0, 0, 0, 1, []), (75, .goto (-15), 3, 60, 0, 0, 0, 0, []), (78, .aload_n 0, 1, 0, 0, 0, 0, 0, []), (79, .iconst 0, 1, 0, 0, 0, 0, 0, []),
  (80, .putfield 31, 3, 0, 6, 1, 428, 0, []), (83, .return_, 1, 0, 0, 0, 0, 0, [])]
noncomputable def am_s66 : am_S := (yX0_copyFrom, cX0_copyFrom, 2, none, 1, 0, 2, 0, 833, 831, 832, 173)
noncomputable def am_c66 : List (Nat × am_E) := [(0, .aload_n 0, 1, 0, 0, 0, 0, 0, []), (1, .aload_n 1, 1, 1, 0, 0, 0, 0, []), (2, .getfield 9, 3, 0, 0, 1, 412, 0, []), (5, .putfield 9, 3, 0, 0, 1, 412, 0, []), (8, .aload_n 0, 1, 0, 0, 0, 0, 0, []), (9, .aload_n 1, 1, 1, 0, 0, 0, 0, []),
  (10, .getfield 15, 3, 0, 1, 1, 415, 0, []), (13, .putfield 15, 3, 0, 1, 1, 415, 0, []), (16, .aload_n 1, 1, 1, 0, 0, 0, 0, []), (17, .getfield 18, 3, 0, 2, 3, 418, 0, []), (20, .iconst 0, 1, 0, 0, 0, 0, 0, []), (21, .aload_n 0, 1, 0, 0, 0, 0, 0, []),
  (22, .getfield 18, 3, 0, 2, 3, 418, 0, []), (25, .iconst 0, 1, 0, 0, 0, 0, 0, []), (26, .aload_n 0, 1, 0, 0, 0, 0, 0, []), (27, .getfield 18, 3, 0, 2, 3, 418, 0, []), (30, .arraylength, 1, 0, 0, 0, 0, 0, []), (31, .invokestatic 34, 3, 0, 5, 8, 834, 0, []),
  (34, .aload_n 1, 1, 1, 0, 0, 0, 0, []), (35, .getfield 22, 3, 0, 3, 3, 421, 0, []), (38, .iconst 0, 1, 0, 0, 0, 0, 0, []), (39, .aload_n 0, 1, 0, 0, 0, 0, 0, []), (40, .getfield 22, 3, 0, 3, 3, 421, 0, []), (43, .iconst 0, 1, 0, 0, 0, 0, 0, []),
  (44, .aload_n 0, 1, 0, 0, 0, 0, 0, []), (45, .getfield 22, 3, 0, 3, 3, 421, 0, []), (48, .arraylength, 1, 0, 0, 0, 0, 0, []), (49, .invokestatic 34, 3, 0, 5, 8, 834, 0, []), (52, .aload_n 1, 1, 1, 0, 0, 0, 0, []), (53, .getfield 25, 3, 0, 4, 3, 424, 0, []),
  (56, .iconst 0, 1, 0, 0, 0, 0, 0, []), (57, .aload_n 0, 1, 0, 0, 0, 0, 0, []), (58, .getfield 25, 3, 0, 4, 3, 424, 0, []), (61, .iconst 0, 1, 0, 0, 0, 0, 0, []), (62, .iconst 5, 1, 0, 0, 0, 0, 5, []), (63, .invokestatic 34, 3, 0, 5, 8, 834, 0, []),
  (66, .aload_n 1, 1, 1, 0, 0, 0, 0, []), (67, .getfield 28, 3, 0, 5, 3, 427, 0, []), (70, .iconst 0, 1, 0, 0, 0, 0, 0, []), (71, .aload_n 0, 1, 0, 0, 0, 0, 0, []), (72, .getfield 28, 3, 0, 5, 3, 427, 0, []), (75, .iconst 0, 1, 0, 0, 0, 0, 0, []),
  (76, .bipush 40, 2, 0, 0, 0, 0, 40, []), (78, .invokestatic 34, 3, 0, 5, 8, 834, 0, []), (81, .aload_n 0, 1, 0, 0, 0, 0, 0, []), (82, .aload_n 1, 1, 1, 0, 0, 0, 0, []), (83, .getfield 31, 3, 0, 6, 1, 428, 0, []), (86, .putfield 31, 3, 0, 6, 1, 428, 0, []),
  (89, .return_, 1, 0, 0, 0, 0, 0, [])]
noncomputable def am_s67 : am_S := (yX0_profileOf, cX0_profileOf, 2, (some .int), 1, 1, 2, 0, 753, 751, 752, 173)
noncomputable def am_c67 : List (Nat × am_E) := [(0, .aload_n 0, 1, 0, 0, 0, 0, 0, []), (1, .getfield 15, 3, 0, 1, 1, 415, 0, []), (4, .iload_n 1, 1, 1, 0, 0, 0, 0, []), (5, .ishr, 1, 0, 0, 0, 0, 0, []), (6, .iconst 1, 1, 0, 0, 0, 0, 1, []), (7, .iand, 1, 0, 0, 0, 0, 0, []),
  (8, .iconst 1, 1, 0, 0, 0, 0, 1, []), (9, .if_icmp .ne 9, 3, 18, 0, 0, 0, 0, []), (12, .iload_n 1, 1, 1, 0, 0, 0, 0, []), (13, .iconst 1, 1, 0, 0, 0, 0, 1, []), (14, .iadd, 1, 0, 0, 0, 0, 0, []), (15, .goto 4, 3, 19, 0, 0, 0, 0, []),
  (18, .iconst 0, 1, 0, 0, 0, 0, 0, []), (19, .ireturn, 1, 0, 0, 1, 0, 0, [])]
noncomputable def am_s68 : am_S := (yX0_keptCount, cX0_keptCount, 1, (some .int), 1, 1, 1, 0, 716, 714, 715, 173)
noncomputable def am_c68 : List (Nat × am_E) := [(0, .aload_n 0, 1, 0, 0, 0, 0, 0, []), (1, .getfield 31, 3, 0, 6, 1, 428, 0, []), (4, .bipush 40, 2, 0, 0, 0, 0, 40, []), (6, .invokestatic 40, 3, 276, 2, 1, 717, 0, []), (9, .ireturn, 1, 0, 0, 1, 0, 0, [])]
noncomputable def am_s69 : am_S := (yX0_keptRow, cX0_keptRow, 2, (some .int), 1, 1, 2, 0, 811, 809, 810, 173)
noncomputable def am_c69 : List (Nat × am_E) := [(0, .aload_n 0, 1, 0, 0, 0, 0, 0, []), (1, .getfield 28, 3, 0, 5, 3, 427, 0, []), (4, .aload_n 0, 1, 0, 0, 0, 0, 0, []), (5, .getfield 31, 3, 0, 6, 1, 428, 0, []), (8, .aload_n 0, 1, 0, 0, 0, 0, 0, []), (9, .invokevirtual 46, 3, 68, 1, 1, 812, 0, []),
  (12, .isub, 1, 0, 0, 0, 0, 0, []), (13, .iload_n 1, 1, 1, 0, 0, 0, 0, []), (14, .iadd, 1, 0, 0, 0, 0, 0, []), (15, .bipush 40, 2, 0, 0, 0, 0, 40, []), (17, .irem, 1, 0, 0, 0, 0, 0, []), (18, .iaload, 1, 0, 0, 0, 0, 0, []),
  (19, .ireturn, 1, 0, 0, 1, 0, 0, [])]
noncomputable def am_s70 : am_S := (yX0_keep, cX0_keep, 3, none, 1, 0, 3, 0, 863, 861, 862, 173)
noncomputable def am_c70 : List (Nat × am_E) := [(0, .aload_n 0, 1, 0, 0, 0, 0, 0, []), (1, .getfield 28, 3, 0, 5, 3, 427, 0, []), (4, .aload_n 0, 1, 0, 0, 0, 0, 0, []), (5, .getfield 31, 3, 0, 6, 1, 428, 0, []), (8, .bipush 40, 2, 0, 0, 0, 0, 40, []), (10, .irem, 1, 0, 0, 0, 0, 0, []),
  (11, .aload_n 0, 1, 0, 0, 0, 0, 0, []), (12, .getfield 9, 3, 0, 0, 1, 412, 0, []), (15, .bipush 16, 2, 0, 0, 0, 0, 16, []), (17, .imul, 1, 0, 0, 0, 0, 0, []), (18, .iload_n 1, 1, 1, 0, 0, 0, 0, []), (19, .iadd, 1, 0, 0, 0, 0, 0, []),
  (20, .bipush 8, 2, 0, 0, 0, 0, 8, []), (22, .imul, 1, 0, 0, 0, 0, 0, []), (23, .iload_n 2, 1, 2, 0, 0, 0, 0, []), (24, .iadd, 1, 0, 0, 0, 0, 0, []), (25, .iastore, 1, 0, 0, 0, 0, 0, []), (26, .aload_n 0, 1, 0, 0, 0, 0, 0, []),
  (27, .dup, 1, 0, 0, 0, 0, 0, []), (28, .getfield 31, 3, 0, 6, 1, 428, 0, []), (31, .iconst 1, 1, 0, 0, 0, 0, 1, []), (32, .iadd, 1, 0, 0, 0, 0, 0, []), (33, .putfield 31, 3, 0, 6, 1, 428, 0, []), (36, .return_, 1, 0, 0, 0, 0, 0, [])]
noncomputable def am_s71 : am_S := (yX1_init, cX1_init, 2, none, 2, 0, 2, 1, 404, 403, 0, 172)
noncomputable def am_c71 : List (Nat × am_E) := [(0, .aload_n 0, 1, 0, 0, 0, 0, 0, []), (1, .invokespecial 3, 3, 0, 1, 9, 405, 0, []), (4, .aload_n 0, 1, 0, 0, 0, 0, 0, []), (5, .new 9, 3, 0, 7, 0, 406, 0, []), (8, .dup, 1, 0, 0, 0, 0, 0, []), (9, .invokespecial 11, 3, 64, 1, 0, 408, 0, [(1, 0)]),
  (12, .putfield 12, 3, 1, 1, 3, 464, 0, []), (15, .aload_n 0, 1, 0, 0, 0, 0, 0, []), (16, .iconst 5, 1, 0, 0, 0, 0, 5, []), (17, .newarray .int, 2, 2, 0, 0, 0, 0, []), (19, .putfield 18, 3, 1, 2, 3, 466, 0, []), (22, .aload_n 0, 1, 0, 0, 0, 0, 0, []),
  (23, .iconst 5, 1, 0, 0, 0, 0, 5, []), (24, .newarray .int, 2, 2, 0, 0, 0, 0, []), (26, .putfield 22, 3, 1, 3, 3, 468, 0, []), (29, .aload_n 0, 1, 0, 0, 0, 0, 0, []), (30, .iconst 0, 1, 0, 0, 0, 0, 0, []), (31, .putfield 25, 3, 1, 4, 1, 470, 0, []),
  (34, .aload_n 0, 1, 0, 0, 0, 0, 0, []), (35, .new 29, 3, 3, 3, 0, 444, 0, []), (38, .dup, 1, 0, 0, 0, 0, 0, []), (39, .invokespecial 31, 3, 90, 1, 0, 446, 0, [(1, 0)]), (42, .putfield 32, 3, 1, 5, 3, 472, 0, []), (45, .aload_n 0, 1, 0, 0, 0, 0, 0, []),
  (46, .aload_n 1, 1, 1, 0, 0, 0, 0, []), (47, .putfield 36, 3, 1, 0, 3, 462, 0, []), (50, .return_, 1, 0, 0, 0, 0, 0, [])]
noncomputable def am_s72 : am_S := (yX1_begin, cX1_begin, 4, none, 1, 0, 3, 1, 829, 827, 828, 172)
noncomputable def am_c72 : List (Nat × am_E) := [(0, .aload_n 0, 1, 0, 0, 0, 0, 0, []), (1, .aload_n 1, 1, 1, 0, 0, 0, 0, []), (2, .getfield 36, 3, 1, 0, 3, 462, 0, []), (5, .putfield 36, 3, 1, 0, 3, 462, 0, []), (8, .aload_n 0, 1, 0, 0, 0, 0, 0, []), (9, .getfield 12, 3, 1, 1, 3, 464, 0, []),
  (12, .aload_n 1, 1, 1, 0, 0, 0, 0, []), (13, .getfield 12, 3, 1, 1, 3, 464, 0, []), (16, .invokevirtual 40, 3, 66, 2, 0, 830, 0, []), (19, .aload_n 0, 1, 0, 0, 0, 0, 0, []), (20, .getfield 12, 3, 1, 1, 3, 464, 0, []), (23, .iload_n 2, 1, 2, 0, 0, 0, 0, []),
  (24, .putfield 44, 3, 0, 1, 1, 416, 0, []), (27, .iconst 0, 1, 0, 0, 0, 0, 0, []), (28, .istore_n 3, 1, 3, 0, 0, 0, 0, []), (29, .iload_n 3, 1, 3, 0, 0, 0, 0, []), (30, .iconst 5, 1, 0, 0, 0, 0, 5, []), (31, .if_icmp .ge 23, 3, 54, 0, 0, 0, 0, []),
  (34, .aload_n 0, 1, 0, 0, 0, 0, 0, []), (35, .getfield 18, 3, 1, 2, 3, 466, 0, []), (38, .iload_n 3, 1, 3, 0, 0, 0, 0, []), (39, .iconst 0, 1, 0, 0, 0, 0, 0, []), (40, .iastore, 1, 0, 0, 0, 0, 0, []), (41, .aload_n 0, 1, 0, 0, 0, 0, 0, []),
  (42, .getfield 22, 3, 1, 3, 3, 468, 0, []), (45, .iload_n 3, 1, 3, 0, 0, 0, 0, []), (46, .iconst 0, 1, 0, 0, 0, 0, 0, []), (47, .iastore, 1, 0, 0, 0, 0, 0, []), (48, .iinc 3 1, 3, 3, 0, 0, 0, 1, []), (51, .goto (-22), 3, 29, 0, 0, 0, 0, []),
  (54, .return_, 1, 0, 0, 0, 0, 0, [])]
noncomputable def am_s73 : am_S := (yX1_passHour, cX1_passHour, 5, (some .int), 1, 1, 1, 1, 840, 838, 839, 172)
noncomputable def am_c73 : List (Nat × am_E) := [(0, .iconst 0, 1, 0, 0, 0, 0, 0, []), (1, .istore_n 1, 1, 1, 0, 0, 0, 0, []), (2, .aload_n 0, 1, 0, 0, 0, 0, 0, []), (3, .iconst 0, 1, 0, 0, 0, 0, 0, []), (4, .putfield 25, 3, 1, 4, 1, 470, 0, []), (7, .aload_n 0, 1, 0, 0, 0, 0, 0, []),
  (8, .getfield 12, 3, 1, 1, 3, 464, 0, []), (11, .getfield 47, 3, 0, 0, 1, 413, 0, []), (14, .bipush 24, 2, 0, 0, 0, 0, 24, []), (16, .irem, 1, 0, 0, 0, 0, 0, []), (17, .istore_n 2, 1, 2, 0, 0, 0, 0, []), (18, .iconst 0, 1, 0, 0, 0, 0, 0, []),
  (19, .istore_n 3, 1, 3, 0, 0, 0, 0, []), (20, .iload_n 3, 1, 3, 0, 0, 0, 0, []), (21, .aload_n 0, 1, 0, 0, 0, 0, 0, []), (22, .getfield 36, 3, 1, 0, 3, 462, 0, []), (25, .getfield 50, 3, 2, 0, 3, 202, 0, []), (28, .iconst 2, 1, 0, 0, 0, 0, 2, []),
  (29, .iaload, 1, 0, 0, 0, 0, 0, []), (30, .if_icmp .ge 92, 3, 122, 0, 0, 0, 0, []), (33, .aload_n 0, 1, 0, 0, 0, 0, 0, []), (34, .getfield 36, 3, 1, 0, 3, 462, 0, []), (37, .iload_n 3, 1, 3, 0, 0, 0, 0, []), (38, .iload_n 2, 1, 2, 0, 0, 0, 0, []),
  (39, .invokevirtual 55, 3, 87, 3, 4, 841, 2, []), (42, .ifCond .eq 11, 3, 53, 0, 0, 0, 0, []), (45, .aload_n 0, 1, 0, 0, 0, 0, 0, []), (46, .iload_n 3, 1, 3, 0, 0, 0, 0, []), (47, .invokevirtual 59, 3, 74, 2, 1, 845, 1, []), (50, .goto 4, 3, 54, 0, 0, 0, 0, []),
  (53, .iconst (-1), 1, 0, 0, 0, 0, (-1), []), (54, .istore 4, 2, 4, 0, 0, 0, 0, []), (56, .iload 4, 2, 4, 0, 0, 0, 0, []), (58, .iconst (-1), 1, 0, 0, 0, 0, (-1), []), (59, .if_icmp .eq 27, 3, 86, 0, 0, 0, 0, []), (62, .iload_n 1, 1, 1, 0, 0, 0, 0, []),
  (63, .aload_n 0, 1, 0, 0, 0, 0, 0, []), (64, .getfield 36, 3, 1, 0, 3, 462, 0, []), (67, .getfield 63, 3, 2, 8, 1, 229, 0, []), (70, .if_icmp .lt 16, 3, 86, 0, 0, 0, 0, []), (73, .aload_n 0, 1, 0, 0, 0, 0, 0, []), (74, .getfield 22, 3, 1, 3, 3, 468, 0, []),
  (77, .iload_n 3, 1, 3, 0, 0, 0, 0, []), (78, .dup2, 1, 0, 0, 0, 0, 0, []), (79, .iaload, 1, 0, 0, 0, 0, 0, []), (80, .iconst 1, 1, 0, 0, 0, 0, 1, []), (81, .iadd, 1, 0, 0, 0, 0, 0, []), (82, .iastore, 1, 0, 0, 0, 0, 0, []),
  (83, .goto 33, 3, 116, 0, 0, 0, 0, []), (86, .iload 4, 2, 4, 0, 0, 0, 0, []), (88, .iconst (-1), 1, 0, 0, 0, 0, (-1), []), (89, .if_icmp .eq 27, 3, 116, 0, 0, 0, 0, []), (92, .aload_n 0, 1, 0, 0, 0, 0, 0, []), (93, .iload_n 3, 1, 3, 0, 0, 0, 0, []),
  (94, .iload 4, 2, 4, 0, 0, 0, 0, []), (96, .invokevirtual 66, 3, 76, 3, 1, 846, 1, []), (99, .pop, 1, 0, 0, 0, 0, 0, []), (100, .aload_n 0, 1, 0, 0, 0, 0, 0, []), (101, .dup, 1, 0, 0, 0, 0, 0, []), (102, .getfield 25, 3, 1, 4, 1, 470, 0, []),
  (105, .iconst 1, 1, 0, 0, 0, 0, 1, []), (106, .iload 4, 2, 4, 0, 0, 0, 0, []), (108, .ishl, 1, 0, 0, 0, 0, 0, []), (109, .ior, 1, 0, 0, 0, 0, 0, []), (110, .putfield 25, 3, 1, 4, 1, 470, 0, []), (113, .iinc 1 1, 3, 1, 0, 0, 0, 1, []),
  (116, .iinc 3 1, 3, 3, 0, 0, 0, 1, []), (119, .goto (-99), 3, 20, 0, 0, 0, 0, []), (122, .aload_n 0, 1, 0, 0, 0, 0, 0, []), (123, .getfield 36, 3, 1, 0, 3, 462, 0, []), (126, .getfield 70, 3, 2, 13, 1, 245, 0, []), (129, .iconst (-1), 1, 0, 0, 0, 0, (-1), []),
  (130, .if_icmp .eq 8, 3, 138, 0, 0, 0, 0, []), (133, .aload_n 0, 1, 0, 0, 0, 0, 0, []), (134, .iload_n 2, 1, 2, 0, 0, 0, 0, []), (135, .invokevirtual 73, 3, 82, 2, 0, 865, 1, []), (138, .aload_n 0, 1, 0, 0, 0, 0, 0, []), (139, .getfield 12, 3, 1, 1, 3, 464, 0, []),
  (142, .dup, 1, 0, 0, 0, 0, 0, []), (143, .getfield 47, 3, 0, 0, 1, 413, 0, []), (146, .iconst 1, 1, 0, 0, 0, 0, 1, []), (147, .iadd, 1, 0, 0, 0, 0, 0, []), (148, .putfield 47, 3, 0, 0, 1, 413, 0, []), (151, .iload_n 1, 1, 1, 0, 0, 0, 0, []),
  (152, .ireturn, 1, 0, 0, 1, 0, 0, [])]
noncomputable def am_s74 : am_S := (yX1_suggested, cX1_suggested, 7, (some .int), 1, 1, 2, 1, 749, 747, 748, 172)
noncomputable def am_c74 : List (Nat × am_E) := [(0, .aload_n 0, 1, 0, 0, 0, 0, 0, []), (1, .getfield 12, 3, 1, 1, 3, 464, 0, []), (4, .iload_n 1, 1, 1, 0, 0, 0, 0, []), (5, .invokevirtual 77, 3, 67, 2, 1, 750, 0, []), (8, .istore_n 2, 1, 2, 0, 0, 0, 0, []), (9, .iconst (-1), 1, 0, 0, 0, 0, (-1), []),
  (10, .istore_n 3, 1, 3, 0, 0, 0, 0, []), (11, .iconst 0, 1, 0, 0, 0, 0, 0, []), (12, .istore 4, 2, 4, 0, 0, 0, 0, []), (14, .iconst 0, 1, 0, 0, 0, 0, 0, []), (15, .istore 5, 2, 5, 0, 0, 0, 0, []), (17, .iload 5, 2, 5, 0, 0, 0, 0, []),
  (19, .aload_n 0, 1, 0, 0, 0, 0, 0, []), (20, .getfield 36, 3, 1, 0, 3, 462, 0, []), (23, .getfield 50, 3, 2, 0, 3, 202, 0, []), (26, .iconst 1, 1, 0, 0, 0, 0, 1, []), (27, .iaload, 1, 0, 0, 0, 0, 0, []), (28, .if_icmp .ge 72, 3, 100, 0, 0, 0, 0, []),
  (31, .aload_n 0, 1, 0, 0, 0, 0, 0, []), (32, .getfield 12, 3, 1, 1, 3, 464, 0, []), (35, .getfield 80, 3, 0, 3, 3, 422, 0, []), (38, .iload_n 2, 1, 2, 0, 0, 0, 0, []), (39, .bipush 8, 2, 0, 0, 0, 0, 8, []), (41, .imul, 1, 0, 0, 0, 0, 0, []),
  (42, .iload 5, 2, 5, 0, 0, 0, 0, []), (44, .iadd, 1, 0, 0, 0, 0, 0, []), (45, .iaload, 1, 0, 0, 0, 0, 0, []), (46, .aload_n 0, 1, 0, 0, 0, 0, 0, []), (47, .getfield 36, 3, 1, 0, 3, 462, 0, []), (50, .getfield 83, 3, 2, 2, 3, 209, 0, []),
  (53, .iload 5, 2, 5, 0, 0, 0, 0, []), (55, .iaload, 1, 0, 0, 0, 0, 0, []), (56, .if_icmp .ge 38, 3, 94, 0, 0, 0, 0, []), (59, .aload_n 0, 1, 0, 0, 0, 0, 0, []), (60, .iload_n 2, 1, 2, 0, 0, 0, 0, []), (61, .iload 5, 2, 5, 0, 0, 0, 0, []),
  (63, .invokevirtual 86, 3, 79, 3, 1, 754, 1, []), (66, .istore 6, 2, 6, 0, 0, 0, 0, []), (68, .iload 6, 2, 6, 0, 0, 0, 0, []), (70, .iload 4, 2, 4, 0, 0, 0, 0, []), (72, .if_icmp .le 22, 3, 94, 0, 0, 0, 0, []), (75, .aload_n 0, 1, 0, 0, 0, 0, 0, []),
  (76, .iload_n 2, 1, 2, 0, 0, 0, 0, []), (77, .iload 5, 2, 5, 0, 0, 0, 0, []), (79, .iload 6, 2, 6, 0, 0, 0, 0, []), (81, .invokevirtual 89, 3, 81, 4, 4, 758, 1, []), (84, .ifCond .eq 10, 3, 94, 0, 0, 0, 0, []), (87, .iload 5, 2, 5, 0, 0, 0, 0, []),
  (89, .istore_n 3, 1, 3, 0, 0, 0, 0, []), (90, .iload 6, 2, 6, 0, 0, 0, 0, []), (92, .istore 4, 2, 4, 0, 0, 0, 0, []), (94, .iinc 5 1, 3, 5, 0, 0, 0, 1, []), (97, .goto (-80), 3, 17, 0, 0, 0, 0, []), (100, .iload_n 3, 1, 3, 0, 0, 0, 0, []),
  (101, .ireturn, 1, 0, 0, 1, 0, 0, [])]
noncomputable def am_s75 : am_S := (yX1_hasPartFor, cX1_hasPartFor, 3, (some .boolean), 1, 4, 3, 1, 899, 897, 898, 172)
noncomputable def am_c75 : List (Nat × am_E) := [(0, .aload_n 0, 1, 0, 0, 0, 0, 0, []), (1, .getfield 12, 3, 1, 1, 3, 464, 0, []), (4, .getfield 80, 3, 0, 3, 3, 422, 0, []), (7, .aload_n 0, 1, 0, 0, 0, 0, 0, []), (8, .getfield 12, 3, 1, 1, 3, 464, 0, []), (11, .iload_n 1, 1, 1, 0, 0, 0, 0, []),
  (12, .invokevirtual 77, 3, 67, 2, 1, 750, 0, []), (15, .bipush 8, 2, 0, 0, 0, 0, 8, []), (17, .imul, 1, 0, 0, 0, 0, 0, []), (18, .iload_n 2, 1, 2, 0, 0, 0, 0, []), (19, .iadd, 1, 0, 0, 0, 0, 0, []), (20, .iaload, 1, 0, 0, 0, 0, 0, []),
  (21, .aload_n 0, 1, 0, 0, 0, 0, 0, []), (22, .getfield 36, 3, 1, 0, 3, 462, 0, []), (25, .getfield 83, 3, 2, 2, 3, 209, 0, []), (28, .iload_n 2, 1, 2, 0, 0, 0, 0, []), (29, .iaload, 1, 0, 0, 0, 0, 0, []), (30, .if_icmp .ge 7, 3, 37, 0, 0, 0, 0, []),
  (33, .iconst 1, 1, 0, 0, 0, 0, 1, []), (34, .goto 4, 3, 38, 0, 0, 0, 0, []), (37, .iconst 0, 1, 0, 0, 0, 0, 0, []), (38, .ireturn, 1, 0, 0, 4, 0, 0, [])]
noncomputable def am_s76 : am_S := (yX1_watch, cX1_watch, 5, (some .int), 1, 1, 3, 1, 849, 847, 848, 172)
noncomputable def am_c76 : List (Nat × am_E) := [(0, .aload_n 0, 1, 0, 0, 0, 0, 0, []), (1, .getfield 12, 3, 1, 1, 3, 464, 0, []), (4, .iload_n 1, 1, 1, 0, 0, 0, 0, []), (5, .invokevirtual 77, 3, 67, 2, 1, 750, 0, []), (8, .istore_n 3, 1, 3, 0, 0, 0, 0, []), (9, .aload_n 0, 1, 0, 0, 0, 0, 0, []),
  (10, .iload_n 3, 1, 3, 0, 0, 0, 0, []), (11, .iload_n 2, 1, 2, 0, 0, 0, 0, []), (12, .iload_n 1, 1, 1, 0, 0, 0, 0, []), (13, .invokevirtual 93, 3, 77, 4, 0, 850, 1, []), (16, .aload_n 0, 1, 0, 0, 0, 0, 0, []), (17, .getfield 12, 3, 1, 1, 3, 464, 0, []),
  (20, .getfield 97, 3, 0, 4, 3, 425, 0, []), (23, .iload_n 1, 1, 1, 0, 0, 0, 0, []), (24, .aload_n 0, 1, 0, 0, 0, 0, 0, []), (25, .getfield 12, 3, 1, 1, 3, 464, 0, []), (28, .getfield 97, 3, 0, 4, 3, 425, 0, []), (31, .iload_n 1, 1, 1, 0, 0, 0, 0, []),
  (32, .iaload, 1, 0, 0, 0, 0, 0, []), (33, .iconst 1, 1, 0, 0, 0, 0, 1, []), (34, .iadd, 1, 0, 0, 0, 0, 0, []), (35, .sipush 9999, 3, 0, 0, 0, 0, 9999, []), (38, .invokestatic 100, 3, 276, 2, 1, 858, 0, []), (41, .iastore, 1, 0, 0, 0, 0, 0, []),
  (42, .aload_n 0, 1, 0, 0, 0, 0, 0, []), (43, .getfield 36, 3, 1, 0, 3, 462, 0, []), (46, .iload_n 1, 1, 1, 0, 0, 0, 0, []), (47, .iload_n 2, 1, 2, 0, 0, 0, 0, []), (48, .invokevirtual 105, 3, 88, 3, 1, 864, 2, []), (51, .iload_n 3, 1, 3, 0, 0, 0, 0, []),
  (52, .ifCond .ne 7, 3, 59, 0, 0, 0, 0, []), (55, .iconst 0, 1, 0, 0, 0, 0, 0, []), (56, .goto 10, 3, 66, 0, 0, 0, 0, []), (59, .aload_n 0, 1, 0, 0, 0, 0, 0, []), (60, .getfield 36, 3, 1, 0, 3, 462, 0, []), (63, .getfield 108, 3, 2, 10, 1, 236, 0, []),
  (66, .isub, 1, 0, 0, 0, 0, 0, []), (67, .istore 4, 2, 4, 0, 0, 0, 0, []), (69, .aload_n 0, 1, 0, 0, 0, 0, 0, []), (70, .getfield 18, 3, 1, 2, 3, 466, 0, []), (73, .iload_n 1, 1, 1, 0, 0, 0, 0, []), (74, .dup2, 1, 0, 0, 0, 0, 0, []),
  (75, .iaload, 1, 0, 0, 0, 0, 0, []), (76, .iload 4, 2, 4, 0, 0, 0, 0, []), (78, .iadd, 1, 0, 0, 0, 0, 0, []), (79, .iastore, 1, 0, 0, 0, 0, 0, []), (80, .iload 4, 2, 4, 0, 0, 0, 0, []), (82, .ireturn, 1, 0, 0, 1, 0, 0, [])]
noncomputable def am_s77 : am_S := (yX1_seePart, cX1_seePart, 7, none, 1, 0, 4, 1, 853, 851, 852, 172)
noncomputable def am_c77_0 : List (Nat × am_E) := [(0, .aload_n 0, 1, 0, 0, 0, 0, 0, []), (1, .getfield 12, 3, 1, 1, 3, 464, 0, []), (4, .getfield 80, 3, 0, 3, 3, 422, 0, []), (7, .iload_n 1, 1, 1, 0, 0, 0, 0, []), (8, .bipush 8, 2, 0, 0, 0, 0, 8, []), (10, .imul, 1, 0, 0, 0, 0, 0, []),
  (11, .iload_n 2, 1, 2, 0, 0, 0, 0, []), (12, .iadd, 1, 0, 0, 0, 0, 0, []), (13, .dup2, 1, 0, 0, 0, 0, 0, []), (14, .iaload, 1, 0, 0, 0, 0, 0, []), (15, .iconst 1, 1, 0, 0, 0, 0, 1, []), (16, .iadd, 1, 0, 0, 0, 0, 0, []),
  (17, .iastore, 1, 0, 0, 0, 0, 0, []), (18, .iconst 0, 1, 0, 0, 0, 0, 0, []), (19, .istore 4, 2, 4, 0, 0, 0, 0, []), (21, .iload 4, 2, 4, 0, 0, 0, 0, []), (23, .aload_n 0, 1, 0, 0, 0, 0, 0, []), (24, .getfield 36, 3, 1, 0, 3, 462, 0, []),
  (27, .getfield 50, 3, 2, 0, 3, 202, 0, []), (30, .iconst 0, 1, 0, 0, 0, 0, 0, []), (31, .iaload, 1, 0, 0, 0, 0, 0, []), (32, .if_icmp .ge 150, 3, 182, 0, 0, 0, 0, []), (35, .aload_n 0, 1, 0, 0, 0, 0, 0, []), (36, .getfield 36, 3, 1, 0, 3, 462, 0, []),
  (39, .getfield 111, 3, 2, 3, 3, 213, 0, []), (42, .iload_n 2, 1, 2, 0, 0, 0, 0, []), (43, .aaload, 1, 0, 0, 0, 0, 0, []), (44, .iload 4, 2, 4, 0, 0, 0, 0, []), (46, .iaload, 1, 0, 0, 0, 0, 0, []), (47, .istore 5, 2, 5, 0, 0, 0, 0, []),
  (49, .iload 5, 2, 5, 0, 0, 0, 0, []), (51, .ifCond .le 125, 3, 176, 0, 0, 0, 0, []), (54, .iload_n 1, 1, 1, 0, 0, 0, 0, []), (55, .bipush 6, 2, 0, 0, 0, 0, 6, []), (57, .imul, 1, 0, 0, 0, 0, 0, []), (58, .iload 4, 2, 4, 0, 0, 0, 0, []),
  (60, .iadd, 1, 0, 0, 0, 0, 0, []), (61, .istore 6, 2, 6, 0, 0, 0, 0, []), (63, .aload_n 0, 1, 0, 0, 0, 0, 0, []), (64, .getfield 36, 3, 1, 0, 3, 462, 0, []), (67, .getfield 115, 3, 2, 12, 1, 242, 0, []), (70, .iconst (-1), 1, 0, 0, 0, 0, (-1), []),
  (71, .if_icmp .eq 78, 3, 149, 0, 0, 0, 0, []), (74, .aload_n 0, 1, 0, 0, 0, 0, 0, []), (75, .getfield 32, 3, 1, 5, 3, 472, 0, []), (78, .getfield 118, 3, 3, 1, 3, 452, 0, []), (81, .bipush 16, 2, 0, 0, 0, 0, 16, []), (83, .aload_n 0, 1, 0, 0, 0, 0, 0, []),
  (84, .getfield 12, 3, 1, 1, 3, 464, 0, []), (87, .getfield 47, 3, 0, 0, 1, 413, 0, []), (90, .bipush 24, 2, 0, 0, 0, 0, 24, []), (92, .irem, 1, 0, 0, 0, 0, 0, []), (93, .iastore, 1, 0, 0, 0, 0, 0, []), (94, .aload_n 0, 1, 0, 0, 0, 0, 0, []),
  (95, .getfield 32, 3, 1, 5, 3, 472, 0, []), (98, .getfield 118, 3, 3, 1, 3, 452, 0, []), (101, .bipush 17, 2, 0, 0, 0, 0, 17, []), (103, .aload_n 0, 1, 0, 0, 0, 0, 0, []), (104, .getfield 12, 3, 1, 1, 3, 464, 0, []), (107, .getfield 121, 3, 0, 2, 3, 419, 0, []),
  (110, .iload 6, 2, 6, 0, 0, 0, 0, []), (112, .iaload, 1, 0, 0, 0, 0, 0, []), (113, .iastore, 1, 0, 0, 0, 0, 0, []), (114, .aload_n 0, 1, 0, 0, 0, 0, 0, []), (115, .getfield 32, 3, 1, 5, 3, 472, 0, []), (118, .getfield 118, 3, 3, 1, 3, 452, 0, []),
  (121, .bipush 18, 2, 0, 0, 0, 0, 18, []), (123, .iload 5, 2, 5, 0, 0, 0, 0, []), (125, .iastore, 1, 0, 0, 0, 0, 0, []), (126, .aload_n 0, 1, 0, 0, 0, 0, 0, []), (127, .getfield 32, 3, 1, 5, 3, 472, 0, []), (130, .aload_n 0, 1, 0, 0, 0, 0, 0, []),
  (131, .getfield 36, 3, 1, 0, 3, 462, 0, []), (134, .getfield 124, 3, 2, 15, 3, 252, 0, []), (137, .aload_n 0, 1, 0, 0, 0, 0, 0, []), (138, .getfield 36, 3, 1, 0, 3, 462, 0, []), (141, .getfield 115, 3, 2, 12, 1, 242, 0, []), (144, .invokevirtual 127, 3, 91, 3, 1, 766, 3, []),
  (147, .istore 5, 2, 5, 0, 0, 0, 0, []), (149, .aload_n 0, 1, 0, 0, 0, 0, 0, []), (150, .getfield 12, 3, 1, 1, 3, 464, 0, []), (153, .getfield 121, 3, 0, 2, 3, 419, 0, []), (156, .iload 6, 2, 6, 0, 0, 0, 0, []), (158, .aload_n 0, 1, 0, 0, 0, 0, 0, []),
  (159, .aload_n 0, 1, 0, 0, 0, 0, 0, []), (160, .getfield 12, 3, 1, 1, 3, 464, 0, []), (163, .getfield 121, 3, 0, 2, 3, 419, 0, []), (166, .iload 6, 2, 6, 0, 0, 0, 0, []), (168, .iaload, 1, 0, 0, 0, 0, 0, []), (169, .iload 5, 2, 5, 0, 0, 0, 0, []),
  (171, .iadd, 1, 0, 0, 0, 0, 0, []), (172, .invokevirtual 131, 3, 83, 2, 1, 854, 1, []), (175, .iastore, 1, 0, 0, 0, 0, 0, []), (176, .iinc 4 1, 3, 4, 0, 0, 0, 1, []), (179, .goto (-158), 3, 21, 0, 0, 0, 0, []), (182, .aload_n 0, 1, 0, 0, 0, 0, 0, []),
  (183, .getfield 12, 3, 1, 1, 3, 464, 0, []), (186, .iload_n 3, 1, 3, 0, 0, 0, 0, []), (187, .iload_n 2, 1, 2, 0, 0, 0, 0, []), (188, .invokevirtual 134, 3, 70, 3, 0, 860, 0, [])]
noncomputable def am_c77_1 : List (Nat × am_E) := [(191, .return_, 1, 0, 0, 0, 0, 0, [])]
noncomputable def am_c77 : List (Nat × am_E) := am_c77_0 ++ (am_c77_1)
noncomputable def am_s78 : am_S := (yX1_valueFor, cX1_valueFor, 6, (some .int), 1, 1, 4, 1, 1001, 999, 1000, 172)
noncomputable def am_c78 : List (Nat × am_E) := [(0, .aload_n 0, 1, 0, 0, 0, 0, 0, []), (1, .getfield 12, 3, 1, 1, 3, 464, 0, []), (4, .iload_n 2, 1, 2, 0, 0, 0, 0, []), (5, .invokevirtual 77, 3, 67, 2, 1, 750, 0, []), (8, .istore 4, 2, 4, 0, 0, 0, 0, []), (10, .aload_n 0, 1, 0, 0, 0, 0, 0, []),
  (11, .iload 4, 2, 4, 0, 0, 0, 0, []), (13, .iload_n 3, 1, 3, 0, 0, 0, 0, []), (14, .aload_n 0, 1, 0, 0, 0, 0, 0, []), (15, .iload 4, 2, 4, 0, 0, 0, 0, []), (17, .iload_n 3, 1, 3, 0, 0, 0, 0, []), (18, .invokevirtual 86, 3, 79, 3, 1, 754, 1, []),
  (21, .invokevirtual 138, 3, 80, 4, 0, 762, 1, []), (24, .aload_n 0, 1, 0, 0, 0, 0, 0, []), (25, .getfield 32, 3, 1, 5, 3, 472, 0, []), (28, .getfield 118, 3, 3, 1, 3, 452, 0, []), (31, .bipush 21, 2, 0, 0, 0, 0, 21, []), (33, .aload_n 0, 1, 0, 0, 0, 0, 0, []),
  (34, .getfield 36, 3, 1, 0, 3, 462, 0, []), (37, .iload_n 2, 1, 2, 0, 0, 0, 0, []), (38, .iload_n 3, 1, 3, 0, 0, 0, 0, []), (39, .invokevirtual 105, 3, 88, 3, 1, 864, 2, []), (42, .iastore, 1, 0, 0, 0, 0, 0, []), (43, .aload_n 0, 1, 0, 0, 0, 0, 0, []),
  (44, .getfield 32, 3, 1, 5, 3, 472, 0, []), (47, .getfield 118, 3, 3, 1, 3, 452, 0, []), (50, .bipush 22, 2, 0, 0, 0, 0, 22, []), (52, .iload_n 3, 1, 3, 0, 0, 0, 0, []), (53, .iastore, 1, 0, 0, 0, 0, 0, []), (54, .iconst 0, 1, 0, 0, 0, 0, 0, []),
  (55, .istore 5, 2, 5, 0, 0, 0, 0, []), (57, .iload 5, 2, 5, 0, 0, 0, 0, []), (59, .bipush 6, 2, 0, 0, 0, 0, 6, []), (61, .if_icmp .ge 31, 3, 92, 0, 0, 0, 0, []), (64, .aload_n 0, 1, 0, 0, 0, 0, 0, []), (65, .getfield 32, 3, 1, 5, 3, 472, 0, []),
  (68, .getfield 141, 3, 3, 2, 3, 454, 0, []), (71, .iload 5, 2, 5, 0, 0, 0, 0, []), (73, .aload_n 0, 1, 0, 0, 0, 0, 0, []), (74, .getfield 36, 3, 1, 0, 3, 462, 0, []), (77, .getfield 111, 3, 2, 3, 3, 213, 0, []), (80, .iload_n 3, 1, 3, 0, 0, 0, 0, []),
  (81, .aaload, 1, 0, 0, 0, 0, 0, []), (82, .iload 5, 2, 5, 0, 0, 0, 0, []), (84, .iaload, 1, 0, 0, 0, 0, 0, []), (85, .iastore, 1, 0, 0, 0, 0, 0, []), (86, .iinc 5 1, 3, 5, 0, 0, 0, 1, []), (89, .goto (-32), 3, 57, 0, 0, 0, 0, []),
  (92, .aload_n 0, 1, 0, 0, 0, 0, 0, []), (93, .getfield 32, 3, 1, 5, 3, 472, 0, []), (96, .aload_n 1, 1, 1, 0, 0, 0, 0, []), (97, .iconst 0, 1, 0, 0, 0, 0, 0, []), (98, .invokevirtual 127, 3, 91, 3, 1, 766, 3, []), (101, .ireturn, 1, 0, 0, 1, 0, 0, [])]
noncomputable def am_s79 : am_S := (yX1_scoreOf, cX1_scoreOf, 5, (some .int), 1, 1, 3, 1, 757, 756, 34, 172)
noncomputable def am_c79 : List (Nat × am_E) := [(0, .iconst 1, 1, 0, 0, 0, 0, 1, []), (1, .istore_n 3, 1, 3, 0, 0, 0, 0, []), (2, .iconst 0, 1, 0, 0, 0, 0, 0, []), (3, .istore 4, 2, 4, 0, 0, 0, 0, []), (5, .iload 4, 2, 4, 0, 0, 0, 0, []), (7, .aload_n 0, 1, 0, 0, 0, 0, 0, []),
  (8, .getfield 36, 3, 1, 0, 3, 462, 0, []), (11, .getfield 50, 3, 2, 0, 3, 202, 0, []), (14, .iconst 0, 1, 0, 0, 0, 0, 0, []), (15, .iaload, 1, 0, 0, 0, 0, 0, []), (16, .if_icmp .ge 40, 3, 56, 0, 0, 0, 0, []), (19, .iload_n 3, 1, 3, 0, 0, 0, 0, []),
  (20, .aload_n 0, 1, 0, 0, 0, 0, 0, []), (21, .getfield 36, 3, 1, 0, 3, 462, 0, []), (24, .getfield 111, 3, 2, 3, 3, 213, 0, []), (27, .iload_n 2, 1, 2, 0, 0, 0, 0, []), (28, .aaload, 1, 0, 0, 0, 0, 0, []), (29, .iload 4, 2, 4, 0, 0, 0, 0, []),
  (31, .iaload, 1, 0, 0, 0, 0, 0, []), (32, .aload_n 0, 1, 0, 0, 0, 0, 0, []), (33, .getfield 12, 3, 1, 1, 3, 464, 0, []), (36, .getfield 121, 3, 0, 2, 3, 419, 0, []), (39, .iload_n 1, 1, 1, 0, 0, 0, 0, []), (40, .bipush 6, 2, 0, 0, 0, 0, 6, []),
  (42, .imul, 1, 0, 0, 0, 0, 0, []), (43, .iload 4, 2, 4, 0, 0, 0, 0, []), (45, .iadd, 1, 0, 0, 0, 0, 0, []), (46, .iaload, 1, 0, 0, 0, 0, 0, []), (47, .imul, 1, 0, 0, 0, 0, 0, []), (48, .iadd, 1, 0, 0, 0, 0, 0, []),
  (49, .istore_n 3, 1, 3, 0, 0, 0, 0, []), (50, .iinc 4 1, 3, 4, 0, 0, 0, 1, []), (53, .goto (-48), 3, 5, 0, 0, 0, 0, []), (56, .iload_n 3, 1, 3, 0, 0, 0, 0, []), (57, .ireturn, 1, 0, 0, 1, 0, 0, [])]
noncomputable def am_s80 : am_S := (yX1_setFilmFacts, cX1_setFilmFacts, 4, none, 1, 0, 4, 1, 765, 764, 36, 172)
noncomputable def am_c80 : List (Nat × am_E) := [(0, .aload_n 0, 1, 0, 0, 0, 0, 0, []), (1, .getfield 32, 3, 1, 5, 3, 472, 0, []), (4, .getfield 118, 3, 3, 1, 3, 452, 0, []), (7, .bipush 16, 2, 0, 0, 0, 0, 16, []), (9, .aload_n 0, 1, 0, 0, 0, 0, 0, []), (10, .getfield 12, 3, 1, 1, 3, 464, 0, []),
  (13, .getfield 47, 3, 0, 0, 1, 413, 0, []), (16, .bipush 24, 2, 0, 0, 0, 0, 24, []), (18, .irem, 1, 0, 0, 0, 0, 0, []), (19, .iastore, 1, 0, 0, 0, 0, 0, []), (20, .aload_n 0, 1, 0, 0, 0, 0, 0, []), (21, .getfield 32, 3, 1, 5, 3, 472, 0, []),
  (24, .getfield 118, 3, 3, 1, 3, 452, 0, []), (27, .iconst 2, 1, 0, 0, 0, 0, 2, []), (28, .aload_n 0, 1, 0, 0, 0, 0, 0, []), (29, .getfield 36, 3, 1, 0, 3, 462, 0, []), (32, .getfield 83, 3, 2, 2, 3, 209, 0, []), (35, .iload_n 2, 1, 2, 0, 0, 0, 0, []),
  (36, .iaload, 1, 0, 0, 0, 0, 0, []), (37, .iastore, 1, 0, 0, 0, 0, 0, []), (38, .aload_n 0, 1, 0, 0, 0, 0, 0, []), (39, .getfield 32, 3, 1, 5, 3, 472, 0, []), (42, .getfield 118, 3, 3, 1, 3, 452, 0, []), (45, .bipush 19, 2, 0, 0, 0, 0, 19, []),
  (47, .aload_n 0, 1, 0, 0, 0, 0, 0, []), (48, .getfield 12, 3, 1, 1, 3, 464, 0, []), (51, .getfield 80, 3, 0, 3, 3, 422, 0, []), (54, .iload_n 1, 1, 1, 0, 0, 0, 0, []), (55, .bipush 8, 2, 0, 0, 0, 0, 8, []), (57, .imul, 1, 0, 0, 0, 0, 0, []),
  (58, .iload_n 2, 1, 2, 0, 0, 0, 0, []), (59, .iadd, 1, 0, 0, 0, 0, 0, []), (60, .iaload, 1, 0, 0, 0, 0, 0, []), (61, .iastore, 1, 0, 0, 0, 0, 0, []), (62, .aload_n 0, 1, 0, 0, 0, 0, 0, []), (63, .getfield 32, 3, 1, 5, 3, 472, 0, []),
  (66, .getfield 118, 3, 3, 1, 3, 452, 0, []), (69, .bipush 20, 2, 0, 0, 0, 0, 20, []), (71, .iload_n 3, 1, 3, 0, 0, 0, 0, []), (72, .iastore, 1, 0, 0, 0, 0, 0, []), (73, .return_, 1, 0, 0, 0, 0, 0, [])]
noncomputable def am_s81 : am_S := (yX1_mayBe, cX1_mayBe, 4, (some .boolean), 1, 4, 4, 1, 761, 760, 35, 172)
noncomputable def am_c81 : List (Nat × am_E) := [(0, .aload_n 0, 1, 0, 0, 0, 0, 0, []), (1, .getfield 36, 3, 1, 0, 3, 462, 0, []), (4, .getfield 143, 3, 2, 14, 1, 248, 0, []), (7, .iconst (-1), 1, 0, 0, 0, 0, (-1), []), (8, .if_icmp .ne 5, 3, 13, 0, 0, 0, 0, []), (11, .iconst 1, 1, 0, 0, 0, 0, 1, []),
  (12, .ireturn, 1, 0, 0, 4, 0, 0, []), (13, .aload_n 0, 1, 0, 0, 0, 0, 0, []), (14, .iload_n 1, 1, 1, 0, 0, 0, 0, []), (15, .iload_n 2, 1, 2, 0, 0, 0, 0, []), (16, .iload_n 3, 1, 3, 0, 0, 0, 0, []), (17, .invokevirtual 138, 3, 80, 4, 0, 762, 1, []),
  (20, .aload_n 0, 1, 0, 0, 0, 0, 0, []), (21, .getfield 32, 3, 1, 5, 3, 472, 0, []), (24, .aload_n 0, 1, 0, 0, 0, 0, 0, []), (25, .getfield 36, 3, 1, 0, 3, 462, 0, []), (28, .getfield 124, 3, 2, 15, 3, 252, 0, []), (31, .aload_n 0, 1, 0, 0, 0, 0, 0, []),
  (32, .getfield 36, 3, 1, 0, 3, 462, 0, []), (35, .getfield 143, 3, 2, 14, 1, 248, 0, []), (38, .invokevirtual 127, 3, 91, 3, 1, 766, 3, []), (41, .ifCond .eq 7, 3, 48, 0, 0, 0, 0, []), (44, .iconst 1, 1, 0, 0, 0, 0, 1, []), (45, .goto 4, 3, 49, 0, 0, 0, 0, []),
  (48, .iconst 0, 1, 0, 0, 0, 0, 0, []), (49, .ireturn, 1, 0, 0, 4, 0, 0, [])]
noncomputable def am_s82 : am_S := (yX1_fadeAll, cX1_fadeAll, 5, none, 1, 0, 2, 1, 868, 867, 43, 172)
noncomputable def am_c82 : List (Nat × am_E) := [(0, .aload_n 0, 1, 0, 0, 0, 0, 0, []), (1, .getfield 32, 3, 1, 5, 3, 472, 0, []), (4, .getfield 118, 3, 3, 1, 3, 452, 0, []), (7, .bipush 16, 2, 0, 0, 0, 0, 16, []), (9, .iload_n 1, 1, 1, 0, 0, 0, 0, []), (10, .iastore, 1, 0, 0, 0, 0, 0, []),
  (11, .iconst 0, 1, 0, 0, 0, 0, 0, []), (12, .istore_n 2, 1, 2, 0, 0, 0, 0, []), (13, .iload_n 2, 1, 2, 0, 0, 0, 0, []), (14, .aload_n 0, 1, 0, 0, 0, 0, 0, []), (15, .getfield 36, 3, 1, 0, 3, 462, 0, []), (18, .getfield 50, 3, 2, 0, 3, 202, 0, []),
  (21, .iconst 2, 1, 0, 0, 0, 0, 2, []), (22, .iaload, 1, 0, 0, 0, 0, 0, []), (23, .if_icmp .gt 93, 3, 116, 0, 0, 0, 0, []), (26, .iconst 0, 1, 0, 0, 0, 0, 0, []), (27, .istore_n 3, 1, 3, 0, 0, 0, 0, []), (28, .iload_n 3, 1, 3, 0, 0, 0, 0, []),
  (29, .aload_n 0, 1, 0, 0, 0, 0, 0, []), (30, .getfield 36, 3, 1, 0, 3, 462, 0, []), (33, .getfield 50, 3, 2, 0, 3, 202, 0, []), (36, .iconst 0, 1, 0, 0, 0, 0, 0, []), (37, .iaload, 1, 0, 0, 0, 0, 0, []), (38, .if_icmp .ge 72, 3, 110, 0, 0, 0, 0, []),
  (41, .iload_n 2, 1, 2, 0, 0, 0, 0, []), (42, .bipush 6, 2, 0, 0, 0, 0, 6, []), (44, .imul, 1, 0, 0, 0, 0, 0, []), (45, .iload_n 3, 1, 3, 0, 0, 0, 0, []), (46, .iadd, 1, 0, 0, 0, 0, 0, []), (47, .istore 4, 2, 4, 0, 0, 0, 0, []),
  (49, .aload_n 0, 1, 0, 0, 0, 0, 0, []), (50, .getfield 32, 3, 1, 5, 3, 472, 0, []), (53, .getfield 118, 3, 3, 1, 3, 452, 0, []), (56, .bipush 17, 2, 0, 0, 0, 0, 17, []), (58, .aload_n 0, 1, 0, 0, 0, 0, 0, []), (59, .getfield 12, 3, 1, 1, 3, 464, 0, []),
  (62, .getfield 121, 3, 0, 2, 3, 419, 0, []), (65, .iload 4, 2, 4, 0, 0, 0, 0, []), (67, .iaload, 1, 0, 0, 0, 0, 0, []), (68, .iastore, 1, 0, 0, 0, 0, 0, []), (69, .aload_n 0, 1, 0, 0, 0, 0, 0, []), (70, .getfield 12, 3, 1, 1, 3, 464, 0, []),
  (73, .getfield 121, 3, 0, 2, 3, 419, 0, []), (76, .iload 4, 2, 4, 0, 0, 0, 0, []), (78, .aload_n 0, 1, 0, 0, 0, 0, 0, []), (79, .aload_n 0, 1, 0, 0, 0, 0, 0, []), (80, .getfield 32, 3, 1, 5, 3, 472, 0, []), (83, .aload_n 0, 1, 0, 0, 0, 0, 0, []),
  (84, .getfield 36, 3, 1, 0, 3, 462, 0, []), (87, .getfield 124, 3, 2, 15, 3, 252, 0, []), (90, .aload_n 0, 1, 0, 0, 0, 0, 0, []), (91, .getfield 36, 3, 1, 0, 3, 462, 0, []), (94, .getfield 70, 3, 2, 13, 1, 245, 0, []), (97, .invokevirtual 127, 3, 91, 3, 1, 766, 3, []),
  (100, .invokevirtual 131, 3, 83, 2, 1, 854, 1, []), (103, .iastore, 1, 0, 0, 0, 0, 0, []), (104, .iinc 3 1, 3, 3, 0, 0, 0, 1, []), (107, .goto (-79), 3, 28, 0, 0, 0, 0, []), (110, .iinc 2 1, 3, 2, 0, 0, 0, 1, []), (113, .goto (-100), 3, 13, 0, 0, 0, 0, []),
  (116, .return_, 1, 0, 0, 0, 0, 0, [])]
noncomputable def am_s83 : am_S := (yX1_heldTaste, cX1_heldTaste, 2, (some .int), 1, 1, 2, 1, 857, 856, 42, 172)
noncomputable def am_c83 : List (Nat × am_E) := [(0, .iconst 0, 1, 0, 0, 0, 0, 0, []), (1, .sipush 999, 3, 0, 0, 0, 0, 999, []), (4, .iload_n 1, 1, 1, 0, 0, 0, 0, []), (5, .invokestatic 100, 3, 276, 2, 1, 858, 0, []), (8, .invokestatic 146, 3, 274, 2, 1, 859, 0, []), (11, .ireturn, 1, 0, 0, 1, 0, 0, [])]
noncomputable def am_s84 : am_S := (yX2_init, cX2_init, 1, none, 2, 0, 1, 2, 197, 196, 0, 167)
noncomputable def am_c84 : List (Nat × am_E) := [(0, .aload_n 0, 1, 0, 0, 0, 0, 0, []), (1, .invokespecial 3, 3, 0, 1, 9, 198, 0, []), (4, .aload_n 0, 1, 0, 0, 0, 0, 0, []), (5, .iconst 3, 1, 0, 0, 0, 0, 3, []), (6, .newarray .int, 2, 2, 0, 0, 0, 0, []), (8, .putfield 9, 3, 2, 0, 3, 201, 0, []),
  (11, .aload_n 0, 1, 0, 0, 0, 0, 0, []), (12, .iconst 3, 1, 0, 0, 0, 0, 3, []), (13, .bipush 8, 2, 0, 0, 0, 0, 8, []), (15, .multianewarray 15 2, 4, 6, 0, 0, 199, 0, []), (19, .putfield 17, 3, 2, 1, 3, 205, 0, []), (22, .aload_n 0, 1, 0, 0, 0, 0, 0, []),
  (23, .bipush 8, 2, 0, 0, 0, 0, 8, []), (25, .newarray .int, 2, 2, 0, 0, 0, 0, []), (27, .putfield 20, 3, 2, 2, 3, 208, 0, []), (30, .aload_n 0, 1, 0, 0, 0, 0, 0, []), (31, .bipush 8, 2, 0, 0, 0, 0, 8, []), (33, .bipush 6, 2, 0, 0, 0, 0, 6, []),
  (35, .multianewarray 15 2, 4, 6, 0, 0, 199, 0, []), (39, .putfield 23, 3, 2, 3, 3, 212, 0, []), (42, .aload_n 0, 1, 0, 0, 0, 0, 0, []), (43, .iconst 5, 1, 0, 0, 0, 0, 5, []), (44, .newarray .int, 2, 2, 0, 0, 0, 0, []), (46, .putfield 26, 3, 2, 4, 3, 216, 0, []),
  (49, .aload_n 0, 1, 0, 0, 0, 0, 0, []), (50, .iconst 5, 1, 0, 0, 0, 0, 5, []), (51, .newarray .int, 2, 2, 0, 0, 0, 0, []), (53, .putfield 29, 3, 2, 5, 3, 219, 0, []), (56, .aload_n 0, 1, 0, 0, 0, 0, 0, []), (57, .iconst 5, 1, 0, 0, 0, 0, 5, []),
  (58, .bipush 6, 2, 0, 0, 0, 0, 6, []), (60, .multianewarray 15 2, 4, 6, 0, 0, 199, 0, []), (64, .putfield 32, 3, 2, 6, 3, 222, 0, []), (67, .aload_n 0, 1, 0, 0, 0, 0, 0, []), (68, .iconst 0, 1, 0, 0, 0, 0, 0, []), (69, .putfield 35, 3, 2, 7, 1, 225, 0, []),
  (72, .aload_n 0, 1, 0, 0, 0, 0, 0, []), (73, .iconst 5, 1, 0, 0, 0, 0, 5, []), (74, .putfield 39, 3, 2, 8, 1, 228, 0, []), (77, .aload_n 0, 1, 0, 0, 0, 0, 0, []), (78, .iconst 0, 1, 0, 0, 0, 0, 0, []), (79, .putfield 42, 3, 2, 9, 1, 232, 0, []),
  (82, .aload_n 0, 1, 0, 0, 0, 0, 0, []), (83, .iconst 0, 1, 0, 0, 0, 0, 0, []), (84, .putfield 45, 3, 2, 10, 1, 235, 0, []), (87, .aload_n 0, 1, 0, 0, 0, 0, 0, []), (88, .iconst 0, 1, 0, 0, 0, 0, 0, []), (89, .putfield 48, 3, 2, 11, 1, 238, 0, []),
  (92, .aload_n 0, 1, 0, 0, 0, 0, 0, []), (93, .iconst (-1), 1, 0, 0, 0, 0, (-1), []), (94, .putfield 51, 3, 2, 12, 1, 241, 0, []), (97, .aload_n 0, 1, 0, 0, 0, 0, 0, []), (98, .iconst (-1), 1, 0, 0, 0, 0, (-1), []), (99, .putfield 54, 3, 2, 13, 1, 244, 0, []),
  (102, .aload_n 0, 1, 0, 0, 0, 0, 0, []), (103, .iconst (-1), 1, 0, 0, 0, 0, (-1), []), (104, .putfield 57, 3, 2, 14, 1, 247, 0, []), (107, .aload_n 0, 1, 0, 0, 0, 0, 0, []), (108, .sipush 1600, 3, 0, 0, 0, 0, 1600, []), (111, .newarray .int, 2, 2, 0, 0, 0, 0, []),
  (113, .putfield 60, 3, 2, 15, 3, 250, 0, []), (116, .return_, 1, 0, 0, 0, 0, 0, [])]
noncomputable def am_s85 : am_S := (yX2_clear, cX2_clear, 3, none, 1, 0, 1, 2, 567, 565, 566, 167)
noncomputable def am_c85 : List (Nat × am_E) := [(0, .iconst 0, 1, 0, 0, 0, 0, 0, []), (1, .istore_n 1, 1, 1, 0, 0, 0, 0, []), (2, .iload_n 1, 1, 1, 0, 0, 0, 0, []), (3, .iconst 2, 1, 0, 0, 0, 0, 2, []), (4, .if_icmp .gt 16, 3, 20, 0, 0, 0, 0, []), (7, .aload_n 0, 1, 0, 0, 0, 0, 0, []),
  (8, .getfield 9, 3, 2, 0, 3, 201, 0, []), (11, .iload_n 1, 1, 1, 0, 0, 0, 0, []), (12, .iconst 0, 1, 0, 0, 0, 0, 0, []), (13, .iastore, 1, 0, 0, 0, 0, 0, []), (14, .iinc 1 1, 3, 1, 0, 0, 0, 1, []), (17, .goto (-15), 3, 2, 0, 0, 0, 0, []),
  (20, .iconst 0, 1, 0, 0, 0, 0, 0, []), (21, .istore_n 1, 1, 1, 0, 0, 0, 0, []), (22, .iload_n 1, 1, 1, 0, 0, 0, 0, []), (23, .bipush 6, 2, 0, 0, 0, 0, 6, []), (25, .if_icmp .ge 54, 3, 79, 0, 0, 0, 0, []), (28, .iconst 0, 1, 0, 0, 0, 0, 0, []),
  (29, .istore_n 2, 1, 2, 0, 0, 0, 0, []), (30, .iload_n 2, 1, 2, 0, 0, 0, 0, []), (31, .bipush 8, 2, 0, 0, 0, 0, 8, []), (33, .if_icmp .ge 18, 3, 51, 0, 0, 0, 0, []), (36, .aload_n 0, 1, 0, 0, 0, 0, 0, []), (37, .getfield 23, 3, 2, 3, 3, 212, 0, []),
  (40, .iload_n 2, 1, 2, 0, 0, 0, 0, []), (41, .aaload, 1, 0, 0, 0, 0, 0, []), (42, .iload_n 1, 1, 1, 0, 0, 0, 0, []), (43, .iconst 0, 1, 0, 0, 0, 0, 0, []), (44, .iastore, 1, 0, 0, 0, 0, 0, []), (45, .iinc 2 1, 3, 2, 0, 0, 0, 1, []),
  (48, .goto (-18), 3, 30, 0, 0, 0, 0, []), (51, .iconst 0, 1, 0, 0, 0, 0, 0, []), (52, .istore_n 2, 1, 2, 0, 0, 0, 0, []), (53, .iload_n 2, 1, 2, 0, 0, 0, 0, []), (54, .iconst 5, 1, 0, 0, 0, 0, 5, []), (55, .if_icmp .ge 18, 3, 73, 0, 0, 0, 0, []),
  (58, .aload_n 0, 1, 0, 0, 0, 0, 0, []), (59, .getfield 32, 3, 2, 6, 3, 222, 0, []), (62, .iload_n 2, 1, 2, 0, 0, 0, 0, []), (63, .aaload, 1, 0, 0, 0, 0, 0, []), (64, .iload_n 1, 1, 1, 0, 0, 0, 0, []), (65, .iconst 0, 1, 0, 0, 0, 0, 0, []),
  (66, .iastore, 1, 0, 0, 0, 0, 0, []), (67, .iinc 2 1, 3, 2, 0, 0, 0, 1, []), (70, .goto (-17), 3, 53, 0, 0, 0, 0, []), (73, .iinc 1 1, 3, 1, 0, 0, 0, 1, []), (76, .goto (-54), 3, 22, 0, 0, 0, 0, []), (79, .aload_n 0, 1, 0, 0, 0, 0, 0, []),
  (80, .iconst 0, 1, 0, 0, 0, 0, 0, []), (81, .putfield 35, 3, 2, 7, 1, 225, 0, []), (84, .aload_n 0, 1, 0, 0, 0, 0, 0, []), (85, .iconst 5, 1, 0, 0, 0, 0, 5, []), (86, .putfield 39, 3, 2, 8, 1, 228, 0, []), (89, .aload_n 0, 1, 0, 0, 0, 0, 0, []),
  (90, .iconst 0, 1, 0, 0, 0, 0, 0, []), (91, .putfield 42, 3, 2, 9, 1, 232, 0, []), (94, .aload_n 0, 1, 0, 0, 0, 0, 0, []), (95, .iconst 0, 1, 0, 0, 0, 0, 0, []), (96, .putfield 45, 3, 2, 10, 1, 235, 0, []), (99, .aload_n 0, 1, 0, 0, 0, 0, 0, []),
  (100, .iconst 0, 1, 0, 0, 0, 0, 0, []), (101, .putfield 48, 3, 2, 11, 1, 238, 0, []), (104, .aload_n 0, 1, 0, 0, 0, 0, 0, []), (105, .iconst (-1), 1, 0, 0, 0, 0, (-1), []), (106, .putfield 51, 3, 2, 12, 1, 241, 0, []), (109, .aload_n 0, 1, 0, 0, 0, 0, 0, []),
  (110, .iconst (-1), 1, 0, 0, 0, 0, (-1), []), (111, .putfield 54, 3, 2, 13, 1, 244, 0, []), (114, .aload_n 0, 1, 0, 0, 0, 0, 0, []), (115, .iconst (-1), 1, 0, 0, 0, 0, (-1), []), (116, .putfield 57, 3, 2, 14, 1, 247, 0, []), (119, .return_, 1, 0, 0, 0, 0, 0, [])]
noncomputable def am_s86 : am_S := (yX2_find, cX2_find, 4, (some .int), 1, 1, 3, 2, 602, 600, 601, 167)
noncomputable def am_c86 : List (Nat × am_E) := [(0, .iconst 0, 1, 0, 0, 0, 0, 0, []), (1, .istore_n 3, 1, 3, 0, 0, 0, 0, []), (2, .iload_n 3, 1, 3, 0, 0, 0, 0, []), (3, .aload_n 0, 1, 0, 0, 0, 0, 0, []), (4, .getfield 9, 3, 2, 0, 3, 201, 0, []), (7, .iload_n 1, 1, 1, 0, 0, 0, 0, []),
  (8, .iaload, 1, 0, 0, 0, 0, 0, []), (9, .if_icmp .ge 23, 3, 32, 0, 0, 0, 0, []), (12, .aload_n 0, 1, 0, 0, 0, 0, 0, []), (13, .getfield 17, 3, 2, 1, 3, 205, 0, []), (16, .iload_n 1, 1, 1, 0, 0, 0, 0, []), (17, .aaload, 1, 0, 0, 0, 0, 0, []),
  (18, .iload_n 3, 1, 3, 0, 0, 0, 0, []), (19, .iaload, 1, 0, 0, 0, 0, 0, []), (20, .iload_n 2, 1, 2, 0, 0, 0, 0, []), (21, .if_icmp .ne 5, 3, 26, 0, 0, 0, 0, []), (24, .iload_n 3, 1, 3, 0, 0, 0, 0, []), (25, .ireturn, 1, 0, 0, 1, 0, 0, []),
  (26, .iinc 3 1, 3, 3, 0, 0, 0, 1, []), (29, .goto (-27), 3, 2, 0, 0, 0, 0, []), (32, .iconst (-1), 1, 0, 0, 0, 0, (-1), []), (33, .ireturn, 1, 0, 0, 1, 0, 0, [])]
noncomputable def am_s87 : am_S := (yX2_isFree, cX2_isFree, 3, (some .boolean), 1, 4, 3, 2, 844, 842, 843, 167)
noncomputable def am_c87 : List (Nat × am_E) := [(0, .iload_n 2, 1, 2, 0, 0, 0, 0, []), (1, .aload_n 0, 1, 0, 0, 0, 0, 0, []), (2, .getfield 26, 3, 2, 4, 3, 216, 0, []), (5, .iload_n 1, 1, 1, 0, 0, 0, 0, []), (6, .iaload, 1, 0, 0, 0, 0, 0, []), (7, .if_icmp .lt 17, 3, 24, 0, 0, 0, 0, []),
  (10, .iload_n 2, 1, 2, 0, 0, 0, 0, []), (11, .aload_n 0, 1, 0, 0, 0, 0, 0, []), (12, .getfield 29, 3, 2, 5, 3, 219, 0, []), (15, .iload_n 1, 1, 1, 0, 0, 0, 0, []), (16, .iaload, 1, 0, 0, 0, 0, 0, []), (17, .if_icmp .gt 7, 3, 24, 0, 0, 0, 0, []),
  (20, .iconst 1, 1, 0, 0, 0, 0, 1, []), (21, .goto 4, 3, 25, 0, 0, 0, 0, []), (24, .iconst 0, 1, 0, 0, 0, 0, 0, []), (25, .ireturn, 1, 0, 0, 4, 0, 0, [])]
noncomputable def am_s88 : am_S := (yX2_worthOf, cX2_worthOf, 5, (some .int), 1, 1, 3, 2, 803, 801, 802, 167)
noncomputable def am_c88 : List (Nat × am_E) := [(0, .iconst 0, 1, 0, 0, 0, 0, 0, []), (1, .istore_n 3, 1, 3, 0, 0, 0, 0, []), (2, .iconst 0, 1, 0, 0, 0, 0, 0, []), (3, .istore 4, 2, 4, 0, 0, 0, 0, []), (5, .iload 4, 2, 4, 0, 0, 0, 0, []), (7, .aload_n 0, 1, 0, 0, 0, 0, 0, []),
  (8, .getfield 9, 3, 2, 0, 3, 201, 0, []), (11, .iconst 0, 1, 0, 0, 0, 0, 0, []), (12, .iaload, 1, 0, 0, 0, 0, 0, []), (13, .if_icmp .ge 31, 3, 44, 0, 0, 0, 0, []), (16, .iload_n 3, 1, 3, 0, 0, 0, 0, []), (17, .aload_n 0, 1, 0, 0, 0, 0, 0, []),
  (18, .getfield 23, 3, 2, 3, 3, 212, 0, []), (21, .iload_n 2, 1, 2, 0, 0, 0, 0, []), (22, .aaload, 1, 0, 0, 0, 0, 0, []), (23, .iload 4, 2, 4, 0, 0, 0, 0, []), (25, .iaload, 1, 0, 0, 0, 0, 0, []), (26, .aload_n 0, 1, 0, 0, 0, 0, 0, []),
  (27, .getfield 32, 3, 2, 6, 3, 222, 0, []), (30, .iload_n 1, 1, 1, 0, 0, 0, 0, []), (31, .aaload, 1, 0, 0, 0, 0, 0, []), (32, .iload 4, 2, 4, 0, 0, 0, 0, []), (34, .iaload, 1, 0, 0, 0, 0, 0, []), (35, .imul, 1, 0, 0, 0, 0, 0, []),
  (36, .iadd, 1, 0, 0, 0, 0, 0, []), (37, .istore_n 3, 1, 3, 0, 0, 0, 0, []), (38, .iinc 4 1, 3, 4, 0, 0, 0, 1, []), (41, .goto (-36), 3, 5, 0, 0, 0, 0, []), (44, .iload_n 3, 1, 3, 0, 0, 0, 0, []), (45, .ireturn, 1, 0, 0, 1, 0, 0, [])]
noncomputable def am_s89 : am_S := (yX2_filmOfMostWorth, cX2_filmOfMostWorth, 6, (some .int), 1, 1, 2, 2, 918, 916, 917, 167)
noncomputable def am_c89 : List (Nat × am_E) := [(0, .iconst (-1), 1, 0, 0, 0, 0, (-1), []), (1, .istore_n 2, 1, 2, 0, 0, 0, 0, []), (2, .iconst 0, 1, 0, 0, 0, 0, 0, []), (3, .istore_n 3, 1, 3, 0, 0, 0, 0, []), (4, .iconst 0, 1, 0, 0, 0, 0, 0, []), (5, .istore 4, 2, 4, 0, 0, 0, 0, []),
  (7, .iload 4, 2, 4, 0, 0, 0, 0, []), (9, .aload_n 0, 1, 0, 0, 0, 0, 0, []), (10, .getfield 9, 3, 2, 0, 3, 201, 0, []), (13, .iconst 1, 1, 0, 0, 0, 0, 1, []), (14, .iaload, 1, 0, 0, 0, 0, 0, []), (15, .if_icmp .ge 35, 3, 50, 0, 0, 0, 0, []),
  (18, .aload_n 0, 1, 0, 0, 0, 0, 0, []), (19, .iload_n 1, 1, 1, 0, 0, 0, 0, []), (20, .iload 4, 2, 4, 0, 0, 0, 0, []), (22, .invokevirtual 63, 3, 88, 3, 1, 919, 2, []), (25, .istore 5, 2, 5, 0, 0, 0, 0, []), (27, .iload_n 2, 1, 2, 0, 0, 0, 0, []),
  (28, .iconst (-1), 1, 0, 0, 0, 0, (-1), []), (29, .if_icmp .eq 9, 3, 38, 0, 0, 0, 0, []), (32, .iload 5, 2, 5, 0, 0, 0, 0, []), (34, .iload_n 3, 1, 3, 0, 0, 0, 0, []), (35, .if_icmp .le 9, 3, 44, 0, 0, 0, 0, []), (38, .iload 4, 2, 4, 0, 0, 0, 0, []),
  (40, .istore_n 2, 1, 2, 0, 0, 0, 0, []), (41, .iload 5, 2, 5, 0, 0, 0, 0, []), (43, .istore_n 3, 1, 3, 0, 0, 0, 0, []), (44, .iinc 4 1, 3, 4, 0, 0, 0, 1, []), (47, .goto (-40), 3, 7, 0, 0, 0, 0, []), (50, .iload_n 2, 1, 2, 0, 0, 0, 0, []),
  (51, .ireturn, 1, 0, 0, 1, 0, 0, [])]
noncomputable def am_s90 : am_S := (yX3_init, cX3_init, 1, none, 2, 0, 1, 3, 448, 447, 0, 174)
noncomputable def am_c90 : List (Nat × am_E) := [(0, .aload_n 0, 1, 0, 0, 0, 0, 0, []), (1, .invokespecial 3, 3, 0, 1, 9, 449, 0, []), (4, .aload_n 0, 1, 0, 0, 0, 0, 0, []), (5, .bipush 64, 2, 0, 0, 0, 0, 64, []), (7, .newarray .int, 2, 2, 0, 0, 0, 0, []), (9, .putfield 9, 3, 3, 0, 3, 450, 0, []),
  (12, .aload_n 0, 1, 0, 0, 0, 0, 0, []), (13, .bipush 29, 2, 0, 0, 0, 0, 29, []), (15, .newarray .int, 2, 2, 0, 0, 0, 0, []), (17, .putfield 15, 3, 3, 1, 3, 451, 0, []), (20, .aload_n 0, 1, 0, 0, 0, 0, 0, []), (21, .bipush 6, 2, 0, 0, 0, 0, 6, []),
  (23, .newarray .int, 2, 2, 0, 0, 0, 0, []), (25, .putfield 18, 3, 3, 2, 3, 453, 0, []), (28, .return_, 1, 0, 0, 0, 0, 0, [])]
noncomputable def am_s91 : am_S := (yX3_value, cX3_value, 6, (some .int), 1, 1, 3, 3, 769, 767, 768, 174)
noncomputable def am_c91_0 : List (Nat × am_E) := [(0, .iconst 0, 1, 0, 0, 0, 0, 0, []), (1, .istore_n 3, 1, 3, 0, 0, 0, 0, []), (2, .iload_n 2, 1, 2, 0, 0, 0, 0, []), (3, .iconst 0, 1, 0, 0, 0, 0, 0, []), (4, .invokestatic 21, 3, 274, 2, 1, 770, 0, []), (7, .istore 4, 2, 4, 0, 0, 0, 0, []),
  (9, .iload 4, 2, 4, 0, 0, 0, 0, []), (11, .aload_n 1, 1, 1, 0, 0, 0, 0, []), (12, .arraylength, 1, 0, 0, 0, 0, 0, []), (13, .if_icmp .ge 162, 3, 175, 0, 0, 0, 0, []), (16, .aload_n 1, 1, 1, 0, 0, 0, 0, []), (17, .iload 4, 2, 4, 0, 0, 0, 0, []),
  (19, .iaload, 1, 0, 0, 0, 0, 0, []), (20, .sipush 20000, 3, 0, 0, 0, 0, 20000, []), (23, .if_icmp .eq 152, 3, 175, 0, 0, 0, 0, []), (26, .aload_n 1, 1, 1, 0, 0, 0, 0, []), (27, .iload 4, 2, 4, 0, 0, 0, 0, []), (29, .iaload, 1, 0, 0, 0, 0, 0, []),
  (30, .istore 5, 2, 5, 0, 0, 0, 0, []), (32, .iload 5, 2, 5, 0, 0, 0, 0, []), (34, .sipush 20000, 3, 0, 0, 0, 0, 20000, []), (37, .if_icmp .ge 30, 3, 67, 0, 0, 0, 0, []), (40, .iload_n 3, 1, 3, 0, 0, 0, 0, []), (41, .aload_n 0, 1, 0, 0, 0, 0, 0, []),
  (42, .getfield 9, 3, 3, 0, 3, 450, 0, []), (45, .arraylength, 1, 0, 0, 0, 0, 0, []), (46, .if_icmp .ge 123, 3, 169, 0, 0, 0, 0, []), (49, .aload_n 0, 1, 0, 0, 0, 0, 0, []), (50, .getfield 9, 3, 3, 0, 3, 450, 0, []), (53, .iload_n 3, 1, 3, 0, 0, 0, 0, []),
  (54, .aload_n 0, 1, 0, 0, 0, 0, 0, []), (55, .iload 5, 2, 5, 0, 0, 0, 0, []), (57, .invokevirtual 27, 3, 92, 2, 1, 773, 3, []), (60, .iastore, 1, 0, 0, 0, 0, 0, []), (61, .iinc 3 1, 3, 3, 0, 0, 0, 1, []), (64, .goto 105, 3, 169, 0, 0, 0, 0, []),
  (67, .iload 5, 2, 5, 0, 0, 0, 0, []), (69, .sipush 20001, 3, 0, 0, 0, 0, 20001, []), (72, .if_icmp .eq 11, 3, 83, 0, 0, 0, 0, []), (75, .iload 5, 2, 5, 0, 0, 0, 0, []), (77, .sipush 20002, 3, 0, 0, 0, 0, 20002, []), (80, .if_icmp .ne 51, 3, 131, 0, 0, 0, 0, []),
  (83, .iload_n 3, 1, 3, 0, 0, 0, 0, []), (84, .ifCond .le 85, 3, 169, 0, 0, 0, 0, []), (87, .aload_n 0, 1, 0, 0, 0, 0, 0, []), (88, .getfield 9, 3, 3, 0, 3, 450, 0, []), (91, .iload_n 3, 1, 3, 0, 0, 0, 0, []), (92, .iconst 1, 1, 0, 0, 0, 0, 1, []),
  (93, .isub, 1, 0, 0, 0, 0, 0, []), (94, .iload 5, 2, 5, 0, 0, 0, 0, []), (96, .sipush 20001, 3, 0, 0, 0, 0, 20001, []), (99, .if_icmp .ne 16, 3, 115, 0, 0, 0, 0, []), (102, .iconst 1, 1, 0, 0, 0, 0, 1, []), (103, .aload_n 0, 1, 0, 0, 0, 0, 0, []),
  (104, .getfield 9, 3, 3, 0, 3, 450, 0, []), (107, .iload_n 3, 1, 3, 0, 0, 0, 0, []), (108, .iconst 1, 1, 0, 0, 0, 0, 1, []), (109, .isub, 1, 0, 0, 0, 0, 0, []), (110, .iaload, 1, 0, 0, 0, 0, 0, []), (111, .isub, 1, 0, 0, 0, 0, 0, []),
  (112, .goto 15, 3, 127, 0, 0, 0, 0, []), (115, .aload_n 0, 1, 0, 0, 0, 0, 0, []), (116, .aload_n 0, 1, 0, 0, 0, 0, 0, []), (117, .getfield 9, 3, 3, 0, 3, 450, 0, []), (120, .iload_n 3, 1, 3, 0, 0, 0, 0, []), (121, .iconst 1, 1, 0, 0, 0, 0, 1, []),
  (122, .isub, 1, 0, 0, 0, 0, 0, []), (123, .iaload, 1, 0, 0, 0, 0, 0, []), (124, .invokevirtual 31, 3, 93, 2, 1, 777, 3, []), (127, .iastore, 1, 0, 0, 0, 0, 0, []), (128, .goto 41, 3, 169, 0, 0, 0, 0, []), (131, .iload_n 3, 1, 3, 0, 0, 0, 0, []),
  (132, .iconst 1, 1, 0, 0, 0, 0, 1, []), (133, .if_icmp .le 36, 3, 169, 0, 0, 0, 0, []), (136, .iinc 3 (-1), 3, 3, 0, 0, 0, (-1), []), (139, .aload_n 0, 1, 0, 0, 0, 0, 0, []), (140, .getfield 9, 3, 3, 0, 3, 450, 0, []), (143, .iload_n 3, 1, 3, 0, 0, 0, 0, []),
  (144, .iconst 1, 1, 0, 0, 0, 0, 1, []), (145, .isub, 1, 0, 0, 0, 0, 0, []), (146, .aload_n 0, 1, 0, 0, 0, 0, 0, []), (147, .iload 5, 2, 5, 0, 0, 0, 0, []), (149, .aload_n 0, 1, 0, 0, 0, 0, 0, []), (150, .getfield 9, 3, 3, 0, 3, 450, 0, []),
  (153, .iload_n 3, 1, 3, 0, 0, 0, 0, []), (154, .iconst 1, 1, 0, 0, 0, 0, 1, []), (155, .isub, 1, 0, 0, 0, 0, 0, []), (156, .iaload, 1, 0, 0, 0, 0, 0, []), (157, .i2l, 1, 0, 0, 0, 0, 0, []), (158, .aload_n 0, 1, 0, 0, 0, 0, 0, []),
  (159, .getfield 9, 3, 3, 0, 3, 450, 0, []), (162, .iload_n 3, 1, 3, 0, 0, 0, 0, []), (163, .iaload, 1, 0, 0, 0, 0, 0, []), (164, .i2l, 1, 0, 0, 0, 0, 0, []), (165, .invokevirtual 34, 3, 94, 4, 1, 781, 3, []), (168, .iastore, 1, 0, 0, 0, 0, 0, []),
  (169, .iinc 4 1, 3, 4, 0, 0, 0, 1, []), (172, .goto (-163), 3, 9, 0, 0, 0, 0, []), (175, .aload_n 0, 1, 0, 0, 0, 0, 0, []), (176, .getfield 9, 3, 3, 0, 3, 450, 0, [])]
noncomputable def am_c91_1 : List (Nat × am_E) := [(179, .iconst 0, 1, 0, 0, 0, 0, 0, []), (180, .iaload, 1, 0, 0, 0, 0, 0, []), (181, .ireturn, 1, 0, 0, 1, 0, 0, [])]
noncomputable def am_c91 : List (Nat × am_E) := am_c91_0 ++ (am_c91_1)
noncomputable def am_s92 : am_S := (yX3_given, cX3_given, 3, (some .int), 1, 1, 2, 3, 776, 775, 37, 174)
noncomputable def am_c92 : List (Nat × am_E) := [(0, .iload_n 1, 1, 1, 0, 0, 0, 0, []), (1, .sipush 10000, 3, 0, 0, 0, 0, 10000, []), (4, .isub, 1, 0, 0, 0, 0, 0, []), (5, .istore_n 2, 1, 2, 0, 0, 0, 0, []), (6, .iload_n 2, 1, 2, 0, 0, 0, 0, []), (7, .ifCond .lt 18, 3, 25, 0, 0, 0, 0, []),
  (10, .iload_n 2, 1, 2, 0, 0, 0, 0, []), (11, .bipush 29, 2, 0, 0, 0, 0, 29, []), (13, .if_icmp .ge 12, 3, 25, 0, 0, 0, 0, []), (16, .aload_n 0, 1, 0, 0, 0, 0, 0, []), (17, .getfield 15, 3, 3, 1, 3, 451, 0, []), (20, .iload_n 2, 1, 2, 0, 0, 0, 0, []),
  (21, .iaload, 1, 0, 0, 0, 0, 0, []), (22, .goto 4, 3, 26, 0, 0, 0, 0, []), (25, .iload_n 1, 1, 1, 0, 0, 0, 0, []), (26, .ireturn, 1, 0, 0, 1, 0, 0, [])]
noncomputable def am_s93 : am_S := (yX3_weightOf, cX3_weightOf, 2, (some .int), 1, 1, 2, 3, 780, 779, 38, 174)
noncomputable def am_c93 : List (Nat × am_E) := [(0, .iload_n 1, 1, 1, 0, 0, 0, 0, []), (1, .ifCond .lt 18, 3, 19, 0, 0, 0, 0, []), (4, .iload_n 1, 1, 1, 0, 0, 0, 0, []), (5, .bipush 6, 2, 0, 0, 0, 0, 6, []), (7, .if_icmp .ge 12, 3, 19, 0, 0, 0, 0, []), (10, .aload_n 0, 1, 0, 0, 0, 0, 0, []),
  (11, .getfield 18, 3, 3, 2, 3, 453, 0, []), (14, .iload_n 1, 1, 1, 0, 0, 0, 0, []), (15, .iaload, 1, 0, 0, 0, 0, 0, []), (16, .goto 4, 3, 20, 0, 0, 0, 0, []), (19, .iconst 0, 1, 0, 0, 0, 0, 0, []), (20, .ireturn, 1, 0, 0, 1, 0, 0, [])]
noncomputable def am_s94 : am_S := (yX3_joined, cX3_joined, 8, (some .int), 1, 1, 4, 3, 784, 783, 39, 174)
noncomputable def am_c94 : List (Nat × am_E) := [(0, .iload_n 1, 1, 1, 0, 0, 0, 0, []), (1, .tableswitch 199 20003 20013 #[59, 68, 77, 86, 108, 119, 130, 147, 164, 181, 190], 59, 200, 0, 0, 0, 0, [(20003, 60), (20004, 69), (20005, 78), (20006, 87), (20007, 109), (20008, 120), (20009, 131), (20010, 148), (20011, 165), (20012, 182), (20013, 191)]), (60, .lload_n 2, 1, 2, 0, 0, 0, 0, []), (61, .lload 4, 2, 4, 0, 0, 0, 0, []), (63, .ladd, 1, 0, 0, 0, 0, 0, []), (64, .lstore 6, 2, 6, 0, 0, 0, 0, []),
  (66, .goto 137, 3, 203, 0, 0, 0, 0, []), (69, .lload_n 2, 1, 2, 0, 0, 0, 0, []), (70, .lload 4, 2, 4, 0, 0, 0, 0, []), (72, .lsub, 1, 0, 0, 0, 0, 0, []), (73, .lstore 6, 2, 6, 0, 0, 0, 0, []), (75, .goto 128, 3, 203, 0, 0, 0, 0, []),
  (78, .lload_n 2, 1, 2, 0, 0, 0, 0, []), (79, .lload 4, 2, 4, 0, 0, 0, 0, []), (81, .lmul, 1, 0, 0, 0, 0, 0, []), (82, .lstore 6, 2, 6, 0, 0, 0, 0, []), (84, .goto 119, 3, 203, 0, 0, 0, 0, []), (87, .lload 4, 2, 4, 0, 0, 0, 0, []),
  (89, .lconst 0, 1, 0, 0, 0, 0, 0, []), (90, .lcmp, 1, 0, 0, 0, 0, 0, []), (91, .ifCond .ne 7, 3, 98, 0, 0, 0, 0, []), (94, .lconst 0, 1, 0, 0, 0, 0, 0, []), (95, .goto 9, 3, 104, 0, 0, 0, 0, []), (98, .lload_n 2, 1, 2, 0, 0, 0, 0, []),
  (99, .lload 4, 2, 4, 0, 0, 0, 0, []), (101, .invokestatic 38, 3, 273, 2, 2, 785, 0, []), (104, .lstore 6, 2, 6, 0, 0, 0, 0, []), (106, .goto 97, 3, 203, 0, 0, 0, 0, []), (109, .lload_n 2, 1, 2, 0, 0, 0, 0, []), (110, .lload 4, 2, 4, 0, 0, 0, 0, []),
  (112, .invokestatic 42, 3, 277, 2, 2, 788, 0, []), (115, .lstore 6, 2, 6, 0, 0, 0, 0, []), (117, .goto 86, 3, 203, 0, 0, 0, 0, []), (120, .lload_n 2, 1, 2, 0, 0, 0, 0, []), (121, .lload 4, 2, 4, 0, 0, 0, 0, []), (123, .invokestatic 45, 3, 275, 2, 2, 791, 0, []),
  (126, .lstore 6, 2, 6, 0, 0, 0, 0, []), (128, .goto 75, 3, 203, 0, 0, 0, 0, []), (131, .lload_n 2, 1, 2, 0, 0, 0, 0, []), (132, .lload 4, 2, 4, 0, 0, 0, 0, []), (134, .lcmp, 1, 0, 0, 0, 0, 0, []), (135, .ifCond .ge 7, 3, 142, 0, 0, 0, 0, []),
  (138, .lconst 1, 1, 0, 0, 0, 0, 1, []), (139, .goto 4, 3, 143, 0, 0, 0, 0, []), (142, .lconst 0, 1, 0, 0, 0, 0, 0, []), (143, .lstore 6, 2, 6, 0, 0, 0, 0, []), (145, .goto 58, 3, 203, 0, 0, 0, 0, []), (148, .lload_n 2, 1, 2, 0, 0, 0, 0, []),
  (149, .lload 4, 2, 4, 0, 0, 0, 0, []), (151, .lcmp, 1, 0, 0, 0, 0, 0, []), (152, .ifCond .le 7, 3, 159, 0, 0, 0, 0, []), (155, .lconst 1, 1, 0, 0, 0, 0, 1, []), (156, .goto 4, 3, 160, 0, 0, 0, 0, []), (159, .lconst 0, 1, 0, 0, 0, 0, 0, []),
  (160, .lstore 6, 2, 6, 0, 0, 0, 0, []), (162, .goto 41, 3, 203, 0, 0, 0, 0, []), (165, .lload_n 2, 1, 2, 0, 0, 0, 0, []), (166, .lload 4, 2, 4, 0, 0, 0, 0, []), (168, .lcmp, 1, 0, 0, 0, 0, 0, []), (169, .ifCond .ne 7, 3, 176, 0, 0, 0, 0, []),
  (172, .lconst 1, 1, 0, 0, 0, 0, 1, []), (173, .goto 4, 3, 177, 0, 0, 0, 0, []), (176, .lconst 0, 1, 0, 0, 0, 0, 0, []), (177, .lstore 6, 2, 6, 0, 0, 0, 0, []), (179, .goto 24, 3, 203, 0, 0, 0, 0, []), (182, .lload_n 2, 1, 2, 0, 0, 0, 0, []),
  (183, .lload 4, 2, 4, 0, 0, 0, 0, []), (185, .land, 1, 0, 0, 0, 0, 0, []), (186, .lstore 6, 2, 6, 0, 0, 0, 0, []), (188, .goto 15, 3, 203, 0, 0, 0, 0, []), (191, .lload_n 2, 1, 2, 0, 0, 0, 0, []), (192, .lload 4, 2, 4, 0, 0, 0, 0, []),
  (194, .lor, 1, 0, 0, 0, 0, 0, []), (195, .lstore 6, 2, 6, 0, 0, 0, 0, []), (197, .goto 6, 3, 203, 0, 0, 0, 0, []), (200, .lconst 0, 1, 0, 0, 0, 0, 0, []), (201, .lstore 6, 2, 6, 0, 0, 0, 0, []), (203, .ldc2_w 47, 3, 0, 0, 0, 794, (-1000000), []),
  (206, .ldc2_w 49, 3, 0, 0, 0, 795, 1000000, []), (209, .lload 6, 2, 6, 0, 0, 0, 0, []), (211, .invokestatic 42, 3, 277, 2, 2, 788, 0, []), (214, .invokestatic 45, 3, 275, 2, 2, 791, 0, []), (217, .l2i, 1, 0, 0, 0, 0, 0, []), (218, .ireturn, 1, 0, 0, 1, 0, 0, [])]
noncomputable def am_s95 : am_S := (yX4_init, cX4_init, 5, none, 2, 0, 1, 4, 191, 190, 0, 166)
noncomputable def am_c95_0 : List (Nat × am_E) := [(0, .aload_n 0, 1, 0, 0, 0, 0, 0, []), (1, .invokespecial 3, 3, 0, 1, 9, 192, 0, []), (4, .aload_n 0, 1, 0, 0, 0, 0, 0, []), (5, .iconst 0, 1, 0, 0, 0, 0, 0, []), (6, .putfield 9, 3, 4, 0, 1, 336, 0, []), (9, .aload_n 0, 1, 0, 0, 0, 0, 0, []),
  (10, .iconst (-1), 1, 0, 0, 0, 0, (-1), []), (11, .putfield 15, 3, 4, 1, 1, 338, 0, []), (14, .aload_n 0, 1, 0, 0, 0, 0, 0, []), (15, .new 18, 3, 2, 16, 0, 193, 0, []), (18, .dup, 1, 0, 0, 0, 0, 0, []), (19, .invokespecial 20, 3, 84, 1, 0, 195, 0, [(1, 0)]),
  (22, .putfield 21, 3, 4, 2, 3, 340, 0, []), (25, .aload_n 0, 1, 0, 0, 0, 0, 0, []), (26, .iconst (-1), 1, 0, 0, 0, 0, (-1), []), (27, .putfield 25, 3, 4, 3, 1, 342, 0, []), (30, .aload_n 0, 1, 0, 0, 0, 0, 0, []), (31, .sipush 1600, 3, 0, 0, 0, 0, 1600, []),
  (34, .newarray .int, 2, 2, 0, 0, 0, 0, []), (36, .putfield 28, 3, 4, 4, 3, 344, 0, []), (39, .aload_n 0, 1, 0, 0, 0, 0, 0, []), (40, .sipush 1600, 3, 0, 0, 0, 0, 1600, []), (43, .newarray .int, 2, 2, 0, 0, 0, 0, []), (45, .putfield 32, 3, 4, 5, 3, 347, 0, []),
  (48, .aload_n 0, 1, 0, 0, 0, 0, 0, []), (49, .iconst 0, 1, 0, 0, 0, 0, 0, []), (50, .putfield 35, 3, 4, 6, 1, 348, 0, []), (53, .aload_n 0, 1, 0, 0, 0, 0, 0, []), (54, .bipush 35, 2, 0, 0, 0, 0, 35, []), (56, .newarray .long, 2, 3, 0, 0, 0, 0, []),
  (58, .putfield 38, 3, 4, 7, 3, 349, 0, []), (61, .aload_n 0, 1, 0, 0, 0, 0, 0, []), (62, .iconst 0, 1, 0, 0, 0, 0, 0, []), (63, .putfield 42, 3, 4, 8, 1, 350, 0, []), (66, .aload_n 0, 1, 0, 0, 0, 0, 0, []), (67, .iconst 0, 1, 0, 0, 0, 0, 0, []),
  (68, .putfield 45, 3, 4, 9, 1, 351, 0, []), (71, .aload_n 0, 1, 0, 0, 0, 0, 0, []), (72, .iconst 0, 1, 0, 0, 0, 0, 0, []), (73, .putfield 48, 3, 4, 10, 1, 352, 0, []), (76, .aload_n 0, 1, 0, 0, 0, 0, 0, []), (77, .lconst 0, 1, 0, 0, 0, 0, 0, []),
  (78, .putfield 51, 3, 4, 11, 2, 353, 0, []), (81, .aload_n 0, 1, 0, 0, 0, 0, 0, []), (82, .iconst (-1), 1, 0, 0, 0, 0, (-1), []), (83, .putfield 55, 3, 4, 12, 1, 354, 0, []), (86, .aload_n 0, 1, 0, 0, 0, 0, 0, []), (87, .iconst (-1), 1, 0, 0, 0, 0, (-1), []),
  (88, .putfield 58, 3, 4, 13, 1, 355, 0, []), (91, .aload_n 0, 1, 0, 0, 0, 0, 0, []), (92, .aload_n 0, 1, 0, 0, 0, 0, 0, []), (93, .getfield 28, 3, 4, 4, 3, 344, 0, []), (96, .putfield 61, 3, 4, 14, 3, 356, 0, []), (99, .aload_n 0, 1, 0, 0, 0, 0, 0, []),
  (100, .iconst 0, 1, 0, 0, 0, 0, 0, []), (101, .putfield 64, 3, 4, 15, 1, 357, 0, []), (104, .aload_n 0, 1, 0, 0, 0, 0, 0, []), (105, .iconst 0, 1, 0, 0, 0, 0, 0, []), (106, .putfield 67, 3, 4, 16, 1, 358, 0, []), (109, .iconst 0, 1, 0, 0, 0, 0, 0, []),
  (110, .istore_n 1, 1, 1, 0, 0, 0, 0, []), (111, .iconst 0, 1, 0, 0, 0, 0, 0, []), (112, .istore_n 2, 1, 2, 0, 0, 0, 0, []), (113, .iconst 0, 1, 0, 0, 0, 0, 0, []), (114, .istore_n 3, 1, 3, 0, 0, 0, 0, []), (115, .iload_n 3, 1, 3, 0, 0, 0, 0, []),
  (116, .ldc 70, 2, 0, 1, 0, 287, 0, []), (118, .invokevirtual 72, 3, 0, 1, 10, 288, 0, []), (121, .if_icmp .ge 62, 3, 183, 0, 0, 0, 0, []), (124, .ldc 70, 2, 0, 1, 0, 287, 0, []), (126, .iload_n 3, 1, 3, 0, 0, 0, 0, []), (127, .invokevirtual 77, 3, 0, 2, 11, 298, 0, []),
  (130, .istore 4, 2, 4, 0, 0, 0, 0, []), (132, .iload 4, 2, 4, 0, 0, 0, 0, []), (134, .bipush 32, 2, 0, 0, 0, 0, 32, []), (136, .if_icmp .eq 30, 3, 166, 0, 0, 0, 0, []), (139, .aload_n 0, 1, 0, 0, 0, 0, 0, []), (140, .getfield 38, 3, 4, 7, 3, 349, 0, []),
  (143, .iload_n 1, 1, 1, 0, 0, 0, 0, []), (144, .dup2, 1, 0, 0, 0, 0, 0, []), (145, .laload, 1, 0, 0, 0, 0, 0, []), (146, .iload 4, 2, 4, 0, 0, 0, 0, []), (148, .bipush 97, 2, 0, 0, 0, 0, 97, []), (150, .isub, 1, 0, 0, 0, 0, 0, []),
  (151, .iconst 1, 1, 0, 0, 0, 0, 1, []), (152, .iadd, 1, 0, 0, 0, 0, 0, []), (153, .i2l, 1, 0, 0, 0, 0, 0, []), (154, .iconst 5, 1, 0, 0, 0, 0, 5, []), (155, .iload_n 2, 1, 2, 0, 0, 0, 0, []), (156, .imul, 1, 0, 0, 0, 0, 0, []),
  (157, .lshl, 1, 0, 0, 0, 0, 0, []), (158, .lor, 1, 0, 0, 0, 0, 0, []), (159, .lastore, 1, 0, 0, 0, 0, 0, []), (160, .iinc 2 1, 3, 2, 0, 0, 0, 1, []), (163, .goto 14, 3, 177, 0, 0, 0, 0, []), (166, .iload_n 1, 1, 1, 0, 0, 0, 0, []),
  (167, .bipush 34, 2, 0, 0, 0, 0, 34, []), (169, .if_icmp .ge 8, 3, 177, 0, 0, 0, 0, []), (172, .iinc 1 1, 3, 1, 0, 0, 0, 1, []), (175, .iconst 0, 1, 0, 0, 0, 0, 0, [])]
noncomputable def am_c95_1 : List (Nat × am_E) := [(176, .istore_n 2, 1, 2, 0, 0, 0, 0, []), (177, .iinc 3 1, 3, 3, 0, 0, 0, 1, []), (180, .goto (-65), 3, 115, 0, 0, 0, 0, []), (183, .return_, 1, 0, 0, 0, 0, 0, [])]
noncomputable def am_c95 : List (Nat × am_E) := am_c95_0 ++ (am_c95_1)
noncomputable def am_s96 : am_S := (yX4_readHouse, cX4_readHouse, 3, (some .int), 1, 1, 2, 4, 563, 561, 562, 166)
noncomputable def am_c96 : List (Nat × am_E) := [(0, .aload_n 0, 1, 0, 0, 0, 0, 0, []), (1, .getfield 21, 3, 4, 2, 3, 340, 0, []), (4, .invokevirtual 81, 3, 85, 1, 0, 564, 2, []), (7, .aload_n 0, 1, 0, 0, 0, 0, 0, []), (8, .iload_n 1, 1, 1, 0, 0, 0, 0, []), (9, .aload_n 0, 1, 0, 0, 0, 0, 0, []),
  (10, .getfield 21, 3, 4, 2, 3, 340, 0, []), (13, .getfield 84, 3, 2, 15, 3, 251, 0, []), (16, .invokevirtual 85, 3, 98, 3, 0, 568, 4, []), (19, .iconst 0, 1, 0, 0, 0, 0, 0, []), (20, .istore_n 2, 1, 2, 0, 0, 0, 0, []), (21, .aload_n 0, 1, 0, 0, 0, 0, 0, []),
  (22, .getfield 42, 3, 4, 8, 1, 350, 0, []), (25, .ifCond .eq 50, 3, 75, 0, 0, 0, 0, []), (28, .aload_n 0, 1, 0, 0, 0, 0, 0, []), (29, .getfield 9, 3, 4, 0, 1, 336, 0, []), (32, .ifCond .ne 43, 3, 75, 0, 0, 0, 0, []), (35, .iload_n 2, 1, 2, 0, 0, 0, 0, []),
  (36, .bipush 80, 2, 0, 0, 0, 0, 80, []), (38, .if_icmp .gt 37, 3, 75, 0, 0, 0, 0, []), (41, .iload_n 2, 1, 2, 0, 0, 0, 0, []), (42, .bipush 80, 2, 0, 0, 0, 0, 80, []), (44, .if_icmp .ne 15, 3, 59, 0, 0, 0, 0, []), (47, .aload_n 0, 1, 0, 0, 0, 0, 0, []),
  (48, .iconst 5, 1, 0, 0, 0, 0, 5, []), (49, .aload_n 0, 1, 0, 0, 0, 0, 0, []), (50, .getfield 45, 3, 4, 9, 1, 351, 0, []), (53, .invokevirtual 89, 3, 99, 3, 0, 583, 4, []), (56, .goto 13, 3, 69, 0, 0, 0, 0, []), (59, .aload_n 0, 1, 0, 0, 0, 0, 0, []),
  (60, .invokevirtual 93, 3, 108, 1, 0, 587, 4, []), (63, .aload_n 0, 1, 0, 0, 0, 0, 0, []), (64, .bipush 59, 2, 0, 0, 0, 0, 59, []), (66, .invokevirtual 96, 3, 105, 2, 0, 663, 4, []), (69, .iinc 2 1, 3, 2, 0, 0, 0, 1, []), (72, .goto (-51), 3, 21, 0, 0, 0, 0, []),
  (75, .aload_n 0, 1, 0, 0, 0, 0, 0, []), (76, .getfield 9, 3, 4, 0, 1, 336, 0, []), (79, .ifCond .ne 7, 3, 86, 0, 0, 0, 0, []), (82, .iload_n 2, 1, 2, 0, 0, 0, 0, []), (83, .goto 4, 3, 87, 0, 0, 0, 0, []), (86, .iconst (-1), 1, 0, 0, 0, 0, (-1), []),
  (87, .ireturn, 1, 0, 0, 1, 0, 0, [])]
noncomputable def am_s97 : am_S := (yX4_readQuestion, cX4_readQuestion, 2, (some .boolean), 1, 4, 2, 4, 993, 991, 992, 166)
noncomputable def am_c97 : List (Nat × am_E) := [(0, .aload_n 0, 1, 0, 0, 0, 0, 0, []), (1, .iload_n 1, 1, 1, 0, 0, 0, 0, []), (2, .aload_n 0, 1, 0, 0, 0, 0, 0, []), (3, .getfield 28, 3, 4, 4, 3, 344, 0, []), (6, .invokevirtual 85, 3, 98, 3, 0, 568, 4, []), (9, .aload_n 0, 1, 0, 0, 0, 0, 0, []),
  (10, .aload_n 0, 1, 0, 0, 0, 0, 0, []), (11, .getfield 42, 3, 4, 8, 1, 350, 0, []), (14, .iconst 1, 1, 0, 0, 0, 0, 1, []), (15, .if_icmp .ne 10, 3, 25, 0, 0, 0, 0, []), (18, .aload_n 0, 1, 0, 0, 0, 0, 0, []), (19, .getfield 55, 3, 4, 12, 1, 354, 0, []),
  (22, .goto 4, 3, 26, 0, 0, 0, 0, []), (25, .iconst (-1), 1, 0, 0, 0, 0, (-1), []), (26, .putfield 25, 3, 4, 3, 1, 342, 0, []), (29, .aload_n 0, 1, 0, 0, 0, 0, 0, []), (30, .getfield 25, 3, 4, 3, 1, 342, 0, []), (33, .bipush 29, 2, 0, 0, 0, 0, 29, []),
  (35, .if_icmp .ge 12, 3, 47, 0, 0, 0, 0, []), (38, .aload_n 0, 1, 0, 0, 0, 0, 0, []), (39, .iconst 1, 1, 0, 0, 0, 0, 1, []), (40, .aload_n 0, 1, 0, 0, 0, 0, 0, []), (41, .getfield 45, 3, 4, 9, 1, 351, 0, []), (44, .invokevirtual 89, 3, 99, 3, 0, 583, 4, []),
  (47, .aload_n 0, 1, 0, 0, 0, 0, 0, []), (48, .aload_n 0, 1, 0, 0, 0, 0, 0, []), (49, .getfield 25, 3, 4, 3, 1, 342, 0, []), (52, .iconst (-1), 1, 0, 0, 0, 0, (-1), []), (53, .invokevirtual 100, 3, 115, 3, 1, 635, 4, []), (56, .pop, 1, 0, 0, 0, 0, 0, []),
  (57, .aload_n 0, 1, 0, 0, 0, 0, 0, []), (58, .getfield 25, 3, 4, 3, 1, 342, 0, []), (61, .bipush 31, 2, 0, 0, 0, 0, 31, []), (63, .if_icmp .gt 10, 3, 73, 0, 0, 0, 0, []), (66, .aload_n 0, 1, 0, 0, 0, 0, 0, []), (67, .invokevirtual 104, 3, 118, 1, 0, 675, 4, []),
  (70, .goto 7, 3, 77, 0, 0, 0, 0, []), (73, .aload_n 0, 1, 0, 0, 0, 0, 0, []), (74, .invokevirtual 107, 3, 121, 1, 0, 639, 4, []), (77, .aload_n 0, 1, 0, 0, 0, 0, 0, []), (78, .sipush 20000, 3, 0, 0, 0, 0, 20000, []), (81, .invokevirtual 110, 3, 116, 2, 0, 651, 4, []),
  (84, .aload_n 0, 1, 0, 0, 0, 0, 0, []), (85, .getfield 42, 3, 4, 8, 1, 350, 0, []), (88, .ifCond .eq 12, 3, 100, 0, 0, 0, 0, []), (91, .aload_n 0, 1, 0, 0, 0, 0, 0, []), (92, .iconst 1, 1, 0, 0, 0, 0, 1, []), (93, .aload_n 0, 1, 0, 0, 0, 0, 0, []),
  (94, .getfield 45, 3, 4, 9, 1, 351, 0, []), (97, .invokevirtual 89, 3, 99, 3, 0, 583, 4, []), (100, .aload_n 0, 1, 0, 0, 0, 0, 0, []), (101, .getfield 9, 3, 4, 0, 1, 336, 0, []), (104, .ifCond .ne 7, 3, 111, 0, 0, 0, 0, []), (107, .iconst 1, 1, 0, 0, 0, 0, 1, []),
  (108, .goto 4, 3, 112, 0, 0, 0, 0, []), (111, .iconst 0, 1, 0, 0, 0, 0, 0, []), (112, .ireturn, 1, 0, 0, 4, 0, 0, [])]
noncomputable def am_s98 : am_S := (yX4_begin, cX4_begin, 3, none, 1, 0, 3, 4, 571, 570, 3, 166)
noncomputable def am_c98 : List (Nat × am_E) := [(0, .aload_n 0, 1, 0, 0, 0, 0, 0, []), (1, .iconst 0, 1, 0, 0, 0, 0, 0, []), (2, .putfield 9, 3, 4, 0, 1, 336, 0, []), (5, .aload_n 0, 1, 0, 0, 0, 0, 0, []), (6, .iconst (-1), 1, 0, 0, 0, 0, (-1), []), (7, .putfield 15, 3, 4, 1, 1, 338, 0, []),
  (10, .aload_n 0, 1, 0, 0, 0, 0, 0, []), (11, .iload_n 1, 1, 1, 0, 0, 0, 0, []), (12, .aload_n 0, 1, 0, 0, 0, 0, 0, []), (13, .getfield 32, 3, 4, 5, 3, 347, 0, []), (16, .arraylength, 1, 0, 0, 0, 0, 0, []), (17, .invokestatic 114, 3, 276, 2, 1, 572, 0, []),
  (20, .putfield 35, 3, 4, 6, 1, 348, 0, []), (23, .aload_n 0, 1, 0, 0, 0, 0, 0, []), (24, .aload_n 2, 1, 2, 0, 0, 0, 0, []), (25, .putfield 61, 3, 4, 14, 3, 356, 0, []), (28, .aload_n 0, 1, 0, 0, 0, 0, 0, []), (29, .iconst 0, 1, 0, 0, 0, 0, 0, []),
  (30, .putfield 64, 3, 4, 15, 1, 357, 0, []), (33, .aload_n 0, 1, 0, 0, 0, 0, 0, []), (34, .iconst 0, 1, 0, 0, 0, 0, 0, []), (35, .putfield 42, 3, 4, 8, 1, 350, 0, []), (38, .aload_n 0, 1, 0, 0, 0, 0, 0, []), (39, .iconst 0, 1, 0, 0, 0, 0, 0, []),
  (40, .putfield 48, 3, 4, 10, 1, 352, 0, []), (43, .aload_n 0, 1, 0, 0, 0, 0, 0, []), (44, .invokevirtual 119, 3, 100, 1, 0, 575, 4, []), (47, .return_, 1, 0, 0, 0, 0, 0, [])]
noncomputable def am_s99 : am_S := (yX4_fail, cX4_fail, 3, none, 1, 0, 3, 4, 586, 585, 6, 166)
noncomputable def am_c99 : List (Nat × am_E) := [(0, .aload_n 0, 1, 0, 0, 0, 0, 0, []), (1, .getfield 9, 3, 4, 0, 1, 336, 0, []), (4, .ifCond .ne 13, 3, 17, 0, 0, 0, 0, []), (7, .aload_n 0, 1, 0, 0, 0, 0, 0, []), (8, .iload_n 1, 1, 1, 0, 0, 0, 0, []), (9, .putfield 9, 3, 4, 0, 1, 336, 0, []),
  (12, .aload_n 0, 1, 0, 0, 0, 0, 0, []), (13, .iload_n 2, 1, 2, 0, 0, 0, 0, []), (14, .putfield 15, 3, 4, 1, 1, 338, 0, []), (17, .aload_n 0, 1, 0, 0, 0, 0, 0, []), (18, .iconst 4, 1, 0, 0, 0, 0, 4, []), (19, .putfield 42, 3, 4, 8, 1, 350, 0, []),
  (22, .return_, 1, 0, 0, 0, 0, 0, [])]
noncomputable def am_s100 : am_S := (yX4_next, cX4_next, 3, none, 1, 0, 1, 4, 578, 577, 4, 166)
noncomputable def am_c100_0 : List (Nat × am_E) := [(0, .aload_n 0, 1, 0, 0, 0, 0, 0, []), (1, .getfield 9, 3, 4, 0, 1, 336, 0, []), (4, .ifCond .eq 4, 3, 8, 0, 0, 0, 0, []), (7, .return_, 1, 0, 0, 0, 0, 0, []), (8, .aload_n 0, 1, 0, 0, 0, 0, 0, []), (9, .getfield 42, 3, 4, 8, 1, 350, 0, []),
  (12, .iconst 1, 1, 0, 0, 0, 0, 1, []), (13, .if_icmp .eq 11, 3, 24, 0, 0, 0, 0, []), (16, .aload_n 0, 1, 0, 0, 0, 0, 0, []), (17, .getfield 42, 3, 4, 8, 1, 350, 0, []), (20, .iconst 2, 1, 0, 0, 0, 0, 2, []), (21, .if_icmp .ne 10, 3, 31, 0, 0, 0, 0, []),
  (24, .aload_n 0, 1, 0, 0, 0, 0, 0, []), (25, .getfield 48, 3, 4, 10, 1, 352, 0, []), (28, .goto 4, 3, 32, 0, 0, 0, 0, []), (31, .iconst (-1), 1, 0, 0, 0, 0, (-1), []), (32, .istore_n 1, 1, 1, 0, 0, 0, 0, []), (33, .aload_n 0, 1, 0, 0, 0, 0, 0, []),
  (34, .aload_n 0, 1, 0, 0, 0, 0, 0, []), (35, .getfield 48, 3, 4, 10, 1, 352, 0, []), (38, .putfield 45, 3, 4, 9, 1, 351, 0, []), (41, .aload_n 0, 1, 0, 0, 0, 0, 0, []), (42, .getfield 45, 3, 4, 9, 1, 351, 0, []), (45, .aload_n 0, 1, 0, 0, 0, 0, 0, []),
  (46, .getfield 35, 3, 4, 6, 1, 348, 0, []), (49, .if_icmp .ge 44, 3, 93, 0, 0, 0, 0, []), (52, .aload_n 0, 1, 0, 0, 0, 0, 0, []), (53, .getfield 32, 3, 4, 5, 3, 347, 0, []), (56, .aload_n 0, 1, 0, 0, 0, 0, 0, []), (57, .getfield 45, 3, 4, 9, 1, 351, 0, []),
  (60, .iaload, 1, 0, 0, 0, 0, 0, []), (61, .bipush 10, 2, 0, 0, 0, 0, 10, []), (63, .if_icmp .eq 17, 3, 80, 0, 0, 0, 0, []), (66, .aload_n 0, 1, 0, 0, 0, 0, 0, []), (67, .getfield 32, 3, 4, 5, 3, 347, 0, []), (70, .aload_n 0, 1, 0, 0, 0, 0, 0, []),
  (71, .getfield 45, 3, 4, 9, 1, 351, 0, []), (74, .iaload, 1, 0, 0, 0, 0, 0, []), (75, .bipush 32, 2, 0, 0, 0, 0, 32, []), (77, .if_icmp .ne 16, 3, 93, 0, 0, 0, 0, []), (80, .aload_n 0, 1, 0, 0, 0, 0, 0, []), (81, .dup, 1, 0, 0, 0, 0, 0, []),
  (82, .getfield 45, 3, 4, 9, 1, 351, 0, []), (85, .iconst 1, 1, 0, 0, 0, 0, 1, []), (86, .iadd, 1, 0, 0, 0, 0, 0, []), (87, .putfield 45, 3, 4, 9, 1, 351, 0, []), (90, .goto (-49), 3, 41, 0, 0, 0, 0, []), (93, .aload_n 0, 1, 0, 0, 0, 0, 0, []),
  (94, .aload_n 0, 1, 0, 0, 0, 0, 0, []), (95, .getfield 45, 3, 4, 9, 1, 351, 0, []), (98, .putfield 48, 3, 4, 10, 1, 352, 0, []), (101, .aload_n 0, 1, 0, 0, 0, 0, 0, []), (102, .getfield 45, 3, 4, 9, 1, 351, 0, []), (105, .aload_n 0, 1, 0, 0, 0, 0, 0, []),
  (106, .getfield 35, 3, 4, 6, 1, 348, 0, []), (109, .if_icmp .ge 15, 3, 124, 0, 0, 0, 0, []), (112, .aload_n 0, 1, 0, 0, 0, 0, 0, []), (113, .getfield 32, 3, 4, 5, 3, 347, 0, []), (116, .aload_n 0, 1, 0, 0, 0, 0, 0, []), (117, .getfield 45, 3, 4, 9, 1, 351, 0, []),
  (120, .iaload, 1, 0, 0, 0, 0, 0, []), (121, .goto 4, 3, 125, 0, 0, 0, 0, []), (124, .iconst 0, 1, 0, 0, 0, 0, 0, []), (125, .istore_n 2, 1, 2, 0, 0, 0, 0, []), (126, .aload_n 0, 1, 0, 0, 0, 0, 0, []), (127, .getfield 45, 3, 4, 9, 1, 351, 0, []),
  (130, .aload_n 0, 1, 0, 0, 0, 0, 0, []), (131, .getfield 35, 3, 4, 6, 1, 348, 0, []), (134, .if_icmp .lt 11, 3, 145, 0, 0, 0, 0, []), (137, .aload_n 0, 1, 0, 0, 0, 0, 0, []), (138, .iconst 0, 1, 0, 0, 0, 0, 0, []), (139, .putfield 42, 3, 4, 8, 1, 350, 0, []),
  (142, .goto 163, 3, 305, 0, 0, 0, 0, []), (145, .iload_n 2, 1, 2, 0, 0, 0, 0, []), (146, .bipush 97, 2, 0, 0, 0, 0, 97, []), (148, .if_icmp .lt 73, 3, 221, 0, 0, 0, 0, []), (151, .iload_n 2, 1, 2, 0, 0, 0, 0, []), (152, .bipush 122, 2, 0, 0, 0, 0, 122, []),
  (154, .if_icmp .gt 67, 3, 221, 0, 0, 0, 0, []), (157, .aload_n 0, 1, 0, 0, 0, 0, 0, []), (158, .iconst 1, 1, 0, 0, 0, 0, 1, []), (159, .putfield 42, 3, 4, 8, 1, 350, 0, []), (162, .aload_n 0, 1, 0, 0, 0, 0, 0, []), (163, .getfield 48, 3, 4, 10, 1, 352, 0, []),
  (166, .aload_n 0, 1, 0, 0, 0, 0, 0, []), (167, .getfield 35, 3, 4, 6, 1, 348, 0, []), (170, .if_icmp .ge 44, 3, 214, 0, 0, 0, 0, []), (173, .aload_n 0, 1, 0, 0, 0, 0, 0, []), (174, .getfield 32, 3, 4, 5, 3, 347, 0, []), (177, .aload_n 0, 1, 0, 0, 0, 0, 0, []),
  (178, .getfield 48, 3, 4, 10, 1, 352, 0, []), (181, .iaload, 1, 0, 0, 0, 0, 0, []), (182, .bipush 97, 2, 0, 0, 0, 0, 97, []), (184, .if_icmp .lt 30, 3, 214, 0, 0, 0, 0, []), (187, .aload_n 0, 1, 0, 0, 0, 0, 0, []), (188, .getfield 32, 3, 4, 5, 3, 347, 0, []),
  (191, .aload_n 0, 1, 0, 0, 0, 0, 0, []), (192, .getfield 48, 3, 4, 10, 1, 352, 0, []), (195, .iaload, 1, 0, 0, 0, 0, 0, []), (196, .bipush 122, 2, 0, 0, 0, 0, 122, [])]
noncomputable def am_c100_1 : List (Nat × am_E) := [(198, .if_icmp .gt 16, 3, 214, 0, 0, 0, 0, []), (201, .aload_n 0, 1, 0, 0, 0, 0, 0, []), (202, .dup, 1, 0, 0, 0, 0, 0, []), (203, .getfield 48, 3, 4, 10, 1, 352, 0, []), (206, .iconst 1, 1, 0, 0, 0, 0, 1, []), (207, .iadd, 1, 0, 0, 0, 0, 0, []),
  (208, .putfield 48, 3, 4, 10, 1, 352, 0, []), (211, .goto (-49), 3, 162, 0, 0, 0, 0, []), (214, .aload_n 0, 1, 0, 0, 0, 0, 0, []), (215, .invokevirtual 122, 3, 101, 1, 0, 579, 4, []), (218, .goto 87, 3, 305, 0, 0, 0, 0, []), (221, .iload_n 2, 1, 2, 0, 0, 0, 0, []),
  (222, .bipush 48, 2, 0, 0, 0, 0, 48, []), (224, .if_icmp .lt 66, 3, 290, 0, 0, 0, 0, []), (227, .iload_n 2, 1, 2, 0, 0, 0, 0, []), (228, .bipush 57, 2, 0, 0, 0, 0, 57, []), (230, .if_icmp .gt 60, 3, 290, 0, 0, 0, 0, []), (233, .aload_n 0, 1, 0, 0, 0, 0, 0, []),
  (234, .iconst 2, 1, 0, 0, 0, 0, 2, []), (235, .putfield 42, 3, 4, 8, 1, 350, 0, []), (238, .aload_n 0, 1, 0, 0, 0, 0, 0, []), (239, .getfield 48, 3, 4, 10, 1, 352, 0, []), (242, .aload_n 0, 1, 0, 0, 0, 0, 0, []), (243, .getfield 35, 3, 4, 6, 1, 348, 0, []),
  (246, .if_icmp .ge 59, 3, 305, 0, 0, 0, 0, []), (249, .aload_n 0, 1, 0, 0, 0, 0, 0, []), (250, .getfield 32, 3, 4, 5, 3, 347, 0, []), (253, .aload_n 0, 1, 0, 0, 0, 0, 0, []), (254, .getfield 48, 3, 4, 10, 1, 352, 0, []), (257, .iaload, 1, 0, 0, 0, 0, 0, []),
  (258, .bipush 48, 2, 0, 0, 0, 0, 48, []), (260, .if_icmp .lt 45, 3, 305, 0, 0, 0, 0, []), (263, .aload_n 0, 1, 0, 0, 0, 0, 0, []), (264, .getfield 32, 3, 4, 5, 3, 347, 0, []), (267, .aload_n 0, 1, 0, 0, 0, 0, 0, []), (268, .getfield 48, 3, 4, 10, 1, 352, 0, []),
  (271, .iaload, 1, 0, 0, 0, 0, 0, []), (272, .bipush 57, 2, 0, 0, 0, 0, 57, []), (274, .if_icmp .gt 31, 3, 305, 0, 0, 0, 0, []), (277, .aload_n 0, 1, 0, 0, 0, 0, 0, []), (278, .dup, 1, 0, 0, 0, 0, 0, []), (279, .getfield 48, 3, 4, 10, 1, 352, 0, []),
  (282, .iconst 1, 1, 0, 0, 0, 0, 1, []), (283, .iadd, 1, 0, 0, 0, 0, 0, []), (284, .putfield 48, 3, 4, 10, 1, 352, 0, []), (287, .goto (-49), 3, 238, 0, 0, 0, 0, []), (290, .aload_n 0, 1, 0, 0, 0, 0, 0, []), (291, .iconst 3, 1, 0, 0, 0, 0, 3, []),
  (292, .putfield 42, 3, 4, 8, 1, 350, 0, []), (295, .aload_n 0, 1, 0, 0, 0, 0, 0, []), (296, .dup, 1, 0, 0, 0, 0, 0, []), (297, .getfield 48, 3, 4, 10, 1, 352, 0, []), (300, .iconst 1, 1, 0, 0, 0, 0, 1, []), (301, .iadd, 1, 0, 0, 0, 0, 0, []),
  (302, .putfield 48, 3, 4, 10, 1, 352, 0, []), (305, .iload_n 1, 1, 1, 0, 0, 0, 0, []), (306, .aload_n 0, 1, 0, 0, 0, 0, 0, []), (307, .getfield 45, 3, 4, 9, 1, 351, 0, []), (310, .if_icmp .ne 24, 3, 334, 0, 0, 0, 0, []), (313, .aload_n 0, 1, 0, 0, 0, 0, 0, []),
  (314, .getfield 42, 3, 4, 8, 1, 350, 0, []), (317, .iconst 1, 1, 0, 0, 0, 0, 1, []), (318, .if_icmp .eq 11, 3, 329, 0, 0, 0, 0, []), (321, .aload_n 0, 1, 0, 0, 0, 0, 0, []), (322, .getfield 42, 3, 4, 8, 1, 350, 0, []), (325, .iconst 2, 1, 0, 0, 0, 0, 2, []),
  (326, .if_icmp .ne 8, 3, 334, 0, 0, 0, 0, []), (329, .aload_n 0, 1, 0, 0, 0, 0, 0, []), (330, .iconst 4, 1, 0, 0, 0, 0, 4, []), (331, .putfield 42, 3, 4, 8, 1, 350, 0, []), (334, .return_, 1, 0, 0, 0, 0, 0, [])]
noncomputable def am_c100 : List (Nat × am_E) := am_c100_0 ++ (am_c100_1)
noncomputable def am_s101 : am_S := (yX4_knowWord, cX4_knowWord, 2, none, 1, 0, 1, 4, 582, 581, 5, 166)
noncomputable def am_c101 : List (Nat × am_E) := [(0, .aload_n 0, 1, 0, 0, 0, 0, 0, []), (1, .lconst 0, 1, 0, 0, 0, 0, 0, []), (2, .putfield 51, 3, 4, 11, 2, 353, 0, []), (5, .aload_n 0, 1, 0, 0, 0, 0, 0, []), (6, .iconst (-1), 1, 0, 0, 0, 0, (-1), []), (7, .putfield 55, 3, 4, 12, 1, 354, 0, []),
  (10, .aload_n 0, 1, 0, 0, 0, 0, 0, []), (11, .getfield 45, 3, 4, 9, 1, 351, 0, []), (14, .istore_n 1, 1, 1, 0, 0, 0, 0, []), (15, .iload_n 1, 1, 1, 0, 0, 0, 0, []), (16, .aload_n 0, 1, 0, 0, 0, 0, 0, []), (17, .getfield 48, 3, 4, 10, 1, 352, 0, []),
  (20, .if_icmp .ge 50, 3, 70, 0, 0, 0, 0, []), (23, .iload_n 1, 1, 1, 0, 0, 0, 0, []), (24, .aload_n 0, 1, 0, 0, 0, 0, 0, []), (25, .getfield 45, 3, 4, 9, 1, 351, 0, []), (28, .bipush 7, 2, 0, 0, 0, 0, 7, []), (30, .iadd, 1, 0, 0, 0, 0, 0, []),
  (31, .if_icmp .ge 39, 3, 70, 0, 0, 0, 0, []), (34, .aload_n 0, 1, 0, 0, 0, 0, 0, []), (35, .dup, 1, 0, 0, 0, 0, 0, []), (36, .getfield 51, 3, 4, 11, 2, 353, 0, []), (39, .aload_n 0, 1, 0, 0, 0, 0, 0, []), (40, .getfield 32, 3, 4, 5, 3, 347, 0, []),
  (43, .iload_n 1, 1, 1, 0, 0, 0, 0, []), (44, .iaload, 1, 0, 0, 0, 0, 0, []), (45, .bipush 97, 2, 0, 0, 0, 0, 97, []), (47, .isub, 1, 0, 0, 0, 0, 0, []), (48, .iconst 1, 1, 0, 0, 0, 0, 1, []), (49, .iadd, 1, 0, 0, 0, 0, 0, []),
  (50, .i2l, 1, 0, 0, 0, 0, 0, []), (51, .iconst 5, 1, 0, 0, 0, 0, 5, []), (52, .iload_n 1, 1, 1, 0, 0, 0, 0, []), (53, .aload_n 0, 1, 0, 0, 0, 0, 0, []), (54, .getfield 45, 3, 4, 9, 1, 351, 0, []), (57, .isub, 1, 0, 0, 0, 0, 0, []),
  (58, .imul, 1, 0, 0, 0, 0, 0, []), (59, .lshl, 1, 0, 0, 0, 0, 0, []), (60, .lor, 1, 0, 0, 0, 0, 0, []), (61, .putfield 51, 3, 4, 11, 2, 353, 0, []), (64, .iinc 1 1, 3, 1, 0, 0, 0, 1, []), (67, .goto (-52), 3, 15, 0, 0, 0, 0, []),
  (70, .iconst 0, 1, 0, 0, 0, 0, 0, []), (71, .istore_n 1, 1, 1, 0, 0, 0, 0, []), (72, .iload_n 1, 1, 1, 0, 0, 0, 0, []), (73, .bipush 35, 2, 0, 0, 0, 0, 35, []), (75, .if_icmp .ge 42, 3, 117, 0, 0, 0, 0, []), (78, .aload_n 0, 1, 0, 0, 0, 0, 0, []),
  (79, .getfield 48, 3, 4, 10, 1, 352, 0, []), (82, .aload_n 0, 1, 0, 0, 0, 0, 0, []), (83, .getfield 45, 3, 4, 9, 1, 351, 0, []), (86, .isub, 1, 0, 0, 0, 0, 0, []), (87, .bipush 7, 2, 0, 0, 0, 0, 7, []), (89, .if_icmp .gt 28, 3, 117, 0, 0, 0, 0, []),
  (92, .aload_n 0, 1, 0, 0, 0, 0, 0, []), (93, .getfield 38, 3, 4, 7, 3, 349, 0, []), (96, .iload_n 1, 1, 1, 0, 0, 0, 0, []), (97, .laload, 1, 0, 0, 0, 0, 0, []), (98, .aload_n 0, 1, 0, 0, 0, 0, 0, []), (99, .getfield 51, 3, 4, 11, 2, 353, 0, []),
  (102, .lcmp, 1, 0, 0, 0, 0, 0, []), (103, .ifCond .ne 8, 3, 111, 0, 0, 0, 0, []), (106, .aload_n 0, 1, 0, 0, 0, 0, 0, []), (107, .iload_n 1, 1, 1, 0, 0, 0, 0, []), (108, .putfield 55, 3, 4, 12, 1, 354, 0, []), (111, .iinc 1 1, 3, 1, 0, 0, 0, 1, []),
  (114, .goto (-42), 3, 72, 0, 0, 0, 0, []), (117, .return_, 1, 0, 0, 0, 0, 0, [])]
noncomputable def am_s102 : am_S := (yX4_isWord, cX4_isWord, 2, (some .boolean), 1, 4, 2, 4, 614, 613, 12, 166)
noncomputable def am_c102 : List (Nat × am_E) := [(0, .aload_n 0, 1, 0, 0, 0, 0, 0, []), (1, .getfield 42, 3, 4, 8, 1, 350, 0, []), (4, .iconst 1, 1, 0, 0, 0, 0, 1, []), (5, .if_icmp .ne 15, 3, 20, 0, 0, 0, 0, []), (8, .aload_n 0, 1, 0, 0, 0, 0, 0, []), (9, .getfield 55, 3, 4, 12, 1, 354, 0, []),
  (12, .iload_n 1, 1, 1, 0, 0, 0, 0, []), (13, .if_icmp .ne 7, 3, 20, 0, 0, 0, 0, []), (16, .iconst 1, 1, 0, 0, 0, 0, 1, []), (17, .goto 4, 3, 21, 0, 0, 0, 0, []), (20, .iconst 0, 1, 0, 0, 0, 0, 0, []), (21, .ireturn, 1, 0, 0, 4, 0, 0, [])]
noncomputable def am_s103 : am_S := (yX4_isSign, cX4_isSign, 2, (some .boolean), 1, 4, 2, 4, 658, 657, 23, 166)
noncomputable def am_c103 : List (Nat × am_E) := [(0, .aload_n 0, 1, 0, 0, 0, 0, 0, []), (1, .getfield 42, 3, 4, 8, 1, 350, 0, []), (4, .iconst 3, 1, 0, 0, 0, 0, 3, []), (5, .if_icmp .ne 31, 3, 36, 0, 0, 0, 0, []), (8, .aload_n 0, 1, 0, 0, 0, 0, 0, []), (9, .getfield 45, 3, 4, 9, 1, 351, 0, []),
  (12, .aload_n 0, 1, 0, 0, 0, 0, 0, []), (13, .getfield 35, 3, 4, 6, 1, 348, 0, []), (16, .if_icmp .ge 20, 3, 36, 0, 0, 0, 0, []), (19, .aload_n 0, 1, 0, 0, 0, 0, 0, []), (20, .getfield 32, 3, 4, 5, 3, 347, 0, []), (23, .aload_n 0, 1, 0, 0, 0, 0, 0, []),
  (24, .getfield 45, 3, 4, 9, 1, 351, 0, []), (27, .iaload, 1, 0, 0, 0, 0, 0, []), (28, .iload_n 1, 1, 1, 0, 0, 0, 0, []), (29, .if_icmp .ne 7, 3, 36, 0, 0, 0, 0, []), (32, .iconst 1, 1, 0, 0, 0, 0, 1, []), (33, .goto 4, 3, 37, 0, 0, 0, 0, []),
  (36, .iconst 0, 1, 0, 0, 0, 0, 0, []), (37, .ireturn, 1, 0, 0, 4, 0, 0, [])]
noncomputable def am_s104 : am_S := (yX4_takeWord, cX4_takeWord, 2, none, 1, 0, 2, 4, 610, 609, 11, 166)
noncomputable def am_c104 : List (Nat × am_E) := [(0, .aload_n 0, 1, 0, 0, 0, 0, 0, []), (1, .iload_n 1, 1, 1, 0, 0, 0, 0, []), (2, .invokevirtual 125, 3, 102, 2, 4, 611, 4, []), (5, .ifCond .eq 10, 3, 15, 0, 0, 0, 0, []), (8, .aload_n 0, 1, 0, 0, 0, 0, 0, []), (9, .invokevirtual 119, 3, 100, 1, 0, 575, 4, []),
  (12, .goto 12, 3, 24, 0, 0, 0, 0, []), (15, .aload_n 0, 1, 0, 0, 0, 0, 0, []), (16, .iconst 1, 1, 0, 0, 0, 0, 1, []), (17, .aload_n 0, 1, 0, 0, 0, 0, 0, []), (18, .getfield 45, 3, 4, 9, 1, 351, 0, []), (21, .invokevirtual 89, 3, 99, 3, 0, 583, 4, []),
  (24, .return_, 1, 0, 0, 0, 0, 0, [])]
noncomputable def am_s105 : am_S := (yX4_takeSign, cX4_takeSign, 2, none, 1, 0, 2, 4, 666, 665, 25, 166)
noncomputable def am_c105 : List (Nat × am_E) := [(0, .aload_n 0, 1, 0, 0, 0, 0, 0, []), (1, .iload_n 1, 1, 1, 0, 0, 0, 0, []), (2, .invokevirtual 129, 3, 103, 2, 4, 655, 4, []), (5, .ifCond .eq 10, 3, 15, 0, 0, 0, 0, []), (8, .aload_n 0, 1, 0, 0, 0, 0, 0, []), (9, .invokevirtual 119, 3, 100, 1, 0, 575, 4, []),
  (12, .goto 12, 3, 24, 0, 0, 0, 0, []), (15, .aload_n 0, 1, 0, 0, 0, 0, 0, []), (16, .iconst 1, 1, 0, 0, 0, 0, 1, []), (17, .aload_n 0, 1, 0, 0, 0, 0, 0, []), (18, .getfield 45, 3, 4, 9, 1, 351, 0, []), (21, .invokevirtual 89, 3, 99, 3, 0, 583, 4, []),
  (24, .return_, 1, 0, 0, 0, 0, 0, [])]
noncomputable def am_s106 : am_S := (yX4_takeNumber, cX4_takeNumber, 5, (some .int), 1, 1, 3, 4, 618, 617, 13, 166)
noncomputable def am_c106 : List (Nat × am_E) := [(0, .aload_n 0, 1, 0, 0, 0, 0, 0, []), (1, .getfield 42, 3, 4, 8, 1, 350, 0, []), (4, .iconst 2, 1, 0, 0, 0, 0, 2, []), (5, .if_icmp .eq 14, 3, 19, 0, 0, 0, 0, []), (8, .aload_n 0, 1, 0, 0, 0, 0, 0, []), (9, .iconst 1, 1, 0, 0, 0, 0, 1, []),
  (10, .aload_n 0, 1, 0, 0, 0, 0, 0, []), (11, .getfield 45, 3, 4, 9, 1, 351, 0, []), (14, .invokevirtual 89, 3, 99, 3, 0, 583, 4, []), (17, .iload_n 1, 1, 1, 0, 0, 0, 0, []), (18, .ireturn, 1, 0, 0, 1, 0, 0, []), (19, .aload_n 0, 1, 0, 0, 0, 0, 0, []),
  (20, .getfield 48, 3, 4, 10, 1, 352, 0, []), (23, .aload_n 0, 1, 0, 0, 0, 0, 0, []), (24, .getfield 45, 3, 4, 9, 1, 351, 0, []), (27, .isub, 1, 0, 0, 0, 0, 0, []), (28, .iconst 4, 1, 0, 0, 0, 0, 4, []), (29, .if_icmp .le 16, 3, 45, 0, 0, 0, 0, []),
  (32, .aload_n 0, 1, 0, 0, 0, 0, 0, []), (33, .iconst 1, 1, 0, 0, 0, 0, 1, []), (34, .aload_n 0, 1, 0, 0, 0, 0, 0, []), (35, .getfield 45, 3, 4, 9, 1, 351, 0, []), (38, .iconst 4, 1, 0, 0, 0, 0, 4, []), (39, .iadd, 1, 0, 0, 0, 0, 0, []),
  (40, .invokevirtual 89, 3, 99, 3, 0, 583, 4, []), (43, .iload_n 1, 1, 1, 0, 0, 0, 0, []), (44, .ireturn, 1, 0, 0, 1, 0, 0, []), (45, .iconst 0, 1, 0, 0, 0, 0, 0, []), (46, .istore_n 3, 1, 3, 0, 0, 0, 0, []), (47, .aload_n 0, 1, 0, 0, 0, 0, 0, []),
  (48, .getfield 45, 3, 4, 9, 1, 351, 0, []), (51, .istore 4, 2, 4, 0, 0, 0, 0, []), (53, .iload 4, 2, 4, 0, 0, 0, 0, []), (55, .aload_n 0, 1, 0, 0, 0, 0, 0, []), (56, .getfield 48, 3, 4, 10, 1, 352, 0, []), (59, .if_icmp .ge 25, 3, 84, 0, 0, 0, 0, []),
  (62, .iload_n 3, 1, 3, 0, 0, 0, 0, []), (63, .bipush 10, 2, 0, 0, 0, 0, 10, []), (65, .imul, 1, 0, 0, 0, 0, 0, []), (66, .aload_n 0, 1, 0, 0, 0, 0, 0, []), (67, .getfield 32, 3, 4, 5, 3, 347, 0, []), (70, .iload 4, 2, 4, 0, 0, 0, 0, []),
  (72, .iaload, 1, 0, 0, 0, 0, 0, []), (73, .iadd, 1, 0, 0, 0, 0, 0, []), (74, .bipush 48, 2, 0, 0, 0, 0, 48, []), (76, .isub, 1, 0, 0, 0, 0, 0, []), (77, .istore_n 3, 1, 3, 0, 0, 0, 0, []), (78, .iinc 4 1, 3, 4, 0, 0, 0, 1, []),
  (81, .goto (-28), 3, 53, 0, 0, 0, 0, []), (84, .iload_n 3, 1, 3, 0, 0, 0, 0, []), (85, .iload_n 1, 1, 1, 0, 0, 0, 0, []), (86, .if_icmp .lt 8, 3, 94, 0, 0, 0, 0, []), (89, .iload_n 3, 1, 3, 0, 0, 0, 0, []), (90, .iload_n 2, 1, 2, 0, 0, 0, 0, []),
  (91, .if_icmp .le 14, 3, 105, 0, 0, 0, 0, []), (94, .aload_n 0, 1, 0, 0, 0, 0, 0, []), (95, .iconst 2, 1, 0, 0, 0, 0, 2, []), (96, .aload_n 0, 1, 0, 0, 0, 0, 0, []), (97, .getfield 45, 3, 4, 9, 1, 351, 0, []), (100, .invokevirtual 89, 3, 99, 3, 0, 583, 4, []),
  (103, .iload_n 1, 1, 1, 0, 0, 0, 0, []), (104, .ireturn, 1, 0, 0, 1, 0, 0, []), (105, .aload_n 0, 1, 0, 0, 0, 0, 0, []), (106, .invokevirtual 119, 3, 100, 1, 0, 575, 4, []), (109, .iload_n 3, 1, 3, 0, 0, 0, 0, []), (110, .ireturn, 1, 0, 0, 1, 0, 0, [])]
noncomputable def am_s107 : am_S := (yX4_nameHere, cX4_nameHere, 1, (some .int), 1, 1, 1, 4, 598, 597, 9, 166)
noncomputable def am_c107 : List (Nat × am_E) := [(0, .aload_n 0, 1, 0, 0, 0, 0, 0, []), (1, .getfield 42, 3, 4, 8, 1, 350, 0, []), (4, .iconst 1, 1, 0, 0, 0, 0, 1, []), (5, .if_icmp .ne 19, 3, 24, 0, 0, 0, 0, []), (8, .aload_n 0, 1, 0, 0, 0, 0, 0, []), (9, .getfield 55, 3, 4, 12, 1, 354, 0, []),
  (12, .ifCond .lt 23, 3, 35, 0, 0, 0, 0, []), (15, .aload_n 0, 1, 0, 0, 0, 0, 0, []), (16, .getfield 55, 3, 4, 12, 1, 354, 0, []), (19, .bipush 29, 2, 0, 0, 0, 0, 29, []), (21, .if_icmp .ge 14, 3, 35, 0, 0, 0, 0, []), (24, .aload_n 0, 1, 0, 0, 0, 0, 0, []),
  (25, .iconst 1, 1, 0, 0, 0, 0, 1, []), (26, .aload_n 0, 1, 0, 0, 0, 0, 0, []), (27, .getfield 45, 3, 4, 9, 1, 351, 0, []), (30, .invokevirtual 89, 3, 99, 3, 0, 583, 4, []), (33, .iconst 0, 1, 0, 0, 0, 0, 0, []), (34, .ireturn, 1, 0, 0, 1, 0, 0, []),
  (35, .aload_n 0, 1, 0, 0, 0, 0, 0, []), (36, .getfield 48, 3, 4, 10, 1, 352, 0, []), (39, .aload_n 0, 1, 0, 0, 0, 0, 0, []), (40, .getfield 45, 3, 4, 9, 1, 351, 0, []), (43, .isub, 1, 0, 0, 0, 0, 0, []), (44, .bipush 6, 2, 0, 0, 0, 0, 6, []),
  (46, .if_icmp .le 17, 3, 63, 0, 0, 0, 0, []), (49, .aload_n 0, 1, 0, 0, 0, 0, 0, []), (50, .iconst 1, 1, 0, 0, 0, 0, 1, []), (51, .aload_n 0, 1, 0, 0, 0, 0, 0, []), (52, .getfield 45, 3, 4, 9, 1, 351, 0, []), (55, .bipush 6, 2, 0, 0, 0, 0, 6, []),
  (57, .iadd, 1, 0, 0, 0, 0, 0, []), (58, .invokevirtual 89, 3, 99, 3, 0, 583, 4, []), (61, .iconst 0, 1, 0, 0, 0, 0, 0, []), (62, .ireturn, 1, 0, 0, 1, 0, 0, []), (63, .aload_n 0, 1, 0, 0, 0, 0, 0, []), (64, .getfield 51, 3, 4, 11, 2, 353, 0, []),
  (67, .l2i, 1, 0, 0, 0, 0, 0, []), (68, .ireturn, 1, 0, 0, 1, 0, 0, [])]
noncomputable def am_s108 : am_S := (yX4_readStatement, cX4_readStatement, 2, none, 1, 0, 1, 4, 590, 589, 7, 166)
noncomputable def am_c108_0 : List (Nat × am_E) := [(0, .aload_n 0, 1, 0, 0, 0, 0, 0, []), (1, .getfield 42, 3, 4, 8, 1, 350, 0, []), (4, .iconst 1, 1, 0, 0, 0, 0, 1, []), (5, .if_icmp .ne 10, 3, 15, 0, 0, 0, 0, []), (8, .aload_n 0, 1, 0, 0, 0, 0, 0, []), (9, .getfield 55, 3, 4, 12, 1, 354, 0, []),
  (12, .goto 4, 3, 16, 0, 0, 0, 0, []), (15, .iconst (-1), 1, 0, 0, 0, 0, (-1), []), (16, .istore_n 1, 1, 1, 0, 0, 0, 0, []), (17, .iload_n 1, 1, 1, 0, 0, 0, 0, []), (18, .tableswitch 300 0 15 #[78, 89, 300, 300, 96, 300, 300, 103, 110, 117, 150, 183, 216, 236, 258, 279], 78, 318, 0, 0, 0, 0, [(0, 96), (1, 107), (2, 318), (3, 318), (4, 114), (5, 318), (6, 318), (7, 121), (8, 128), (9, 135), (10, 168), (11, 201), (12, 234), (13, 254), (14, 276), (15, 297)]), (96, .aload_n 0, 1, 0, 0, 0, 0, 0, []),
  (97, .iconst 0, 1, 0, 0, 0, 0, 0, []), (98, .bipush 6, 2, 0, 0, 0, 0, 6, []), (100, .invokevirtual 133, 3, 109, 3, 1, 591, 4, []), (103, .pop, 1, 0, 0, 0, 0, 0, []), (104, .goto 223, 3, 327, 0, 0, 0, 0, []), (107, .aload_n 0, 1, 0, 0, 0, 0, 0, []),
  (108, .invokevirtual 136, 3, 111, 1, 0, 603, 4, []), (111, .goto 216, 3, 327, 0, 0, 0, 0, []), (114, .aload_n 0, 1, 0, 0, 0, 0, 0, []), (115, .invokevirtual 139, 3, 112, 1, 0, 623, 4, []), (118, .goto 209, 3, 327, 0, 0, 0, 0, []), (121, .aload_n 0, 1, 0, 0, 0, 0, 0, []),
  (122, .invokevirtual 142, 3, 113, 1, 0, 627, 4, []), (125, .goto 202, 3, 327, 0, 0, 0, 0, []), (128, .aload_n 0, 1, 0, 0, 0, 0, 0, []), (129, .invokevirtual 145, 3, 114, 1, 0, 631, 4, []), (132, .goto 195, 3, 327, 0, 0, 0, 0, []), (135, .aload_n 0, 1, 0, 0, 0, 0, 0, []),
  (136, .getfield 21, 3, 4, 2, 3, 340, 0, []), (139, .aload_n 0, 1, 0, 0, 0, 0, 0, []), (140, .iload_n 1, 1, 1, 0, 0, 0, 0, []), (141, .aload_n 0, 1, 0, 0, 0, 0, 0, []), (142, .getfield 21, 3, 4, 2, 3, 340, 0, []), (145, .getfield 148, 3, 2, 12, 1, 243, 0, []),
  (148, .invokevirtual 100, 3, 115, 3, 1, 635, 4, []), (151, .putfield 148, 3, 2, 12, 1, 243, 0, []), (154, .aload_n 0, 1, 0, 0, 0, 0, 0, []), (155, .invokevirtual 107, 3, 121, 1, 0, 639, 4, []), (158, .aload_n 0, 1, 0, 0, 0, 0, 0, []), (159, .sipush 20000, 3, 0, 0, 0, 0, 20000, []),
  (162, .invokevirtual 110, 3, 116, 2, 0, 651, 4, []), (165, .goto 162, 3, 327, 0, 0, 0, 0, []), (168, .aload_n 0, 1, 0, 0, 0, 0, 0, []), (169, .getfield 21, 3, 4, 2, 3, 340, 0, []), (172, .aload_n 0, 1, 0, 0, 0, 0, 0, []), (173, .iload_n 1, 1, 1, 0, 0, 0, 0, []),
  (174, .aload_n 0, 1, 0, 0, 0, 0, 0, []), (175, .getfield 21, 3, 4, 2, 3, 340, 0, []), (178, .getfield 151, 3, 2, 13, 1, 246, 0, []), (181, .invokevirtual 100, 3, 115, 3, 1, 635, 4, []), (184, .putfield 151, 3, 2, 13, 1, 246, 0, []), (187, .aload_n 0, 1, 0, 0, 0, 0, 0, []),
  (188, .invokevirtual 107, 3, 121, 1, 0, 639, 4, []), (191, .aload_n 0, 1, 0, 0, 0, 0, 0, []), (192, .sipush 20000, 3, 0, 0, 0, 0, 20000, []), (195, .invokevirtual 110, 3, 116, 2, 0, 651, 4, []), (198, .goto 129, 3, 327, 0, 0, 0, 0, []), (201, .aload_n 0, 1, 0, 0, 0, 0, 0, []),
  (202, .getfield 21, 3, 4, 2, 3, 340, 0, []), (205, .aload_n 0, 1, 0, 0, 0, 0, 0, []), (206, .iload_n 1, 1, 1, 0, 0, 0, 0, []), (207, .aload_n 0, 1, 0, 0, 0, 0, 0, []), (208, .getfield 21, 3, 4, 2, 3, 340, 0, []), (211, .getfield 154, 3, 2, 14, 1, 249, 0, []),
  (214, .invokevirtual 100, 3, 115, 3, 1, 635, 4, []), (217, .putfield 154, 3, 2, 14, 1, 249, 0, []), (220, .aload_n 0, 1, 0, 0, 0, 0, 0, []), (221, .invokevirtual 104, 3, 118, 1, 0, 675, 4, []), (224, .aload_n 0, 1, 0, 0, 0, 0, 0, []), (225, .sipush 20000, 3, 0, 0, 0, 0, 20000, []),
  (228, .invokevirtual 110, 3, 116, 2, 0, 651, 4, []), (231, .goto 96, 3, 327, 0, 0, 0, 0, []), (234, .aload_n 0, 1, 0, 0, 0, 0, 0, []), (235, .invokevirtual 119, 3, 100, 1, 0, 575, 4, []), (238, .aload_n 0, 1, 0, 0, 0, 0, 0, []), (239, .getfield 21, 3, 4, 2, 3, 340, 0, []),
  (242, .aload_n 0, 1, 0, 0, 0, 0, 0, []), (243, .iconst 1, 1, 0, 0, 0, 0, 1, []), (244, .iconst 5, 1, 0, 0, 0, 0, 5, []), (245, .invokevirtual 157, 3, 106, 3, 1, 615, 4, []), (248, .putfield 160, 3, 2, 8, 1, 231, 0, []), (251, .goto 76, 3, 327, 0, 0, 0, 0, []),
  (254, .aload_n 0, 1, 0, 0, 0, 0, 0, []), (255, .invokevirtual 119, 3, 100, 1, 0, 575, 4, []), (258, .aload_n 0, 1, 0, 0, 0, 0, 0, []), (259, .getfield 21, 3, 4, 2, 3, 340, 0, []), (262, .aload_n 0, 1, 0, 0, 0, 0, 0, []), (263, .iconst 0, 1, 0, 0, 0, 0, 0, []),
  (264, .sipush 999, 3, 0, 0, 0, 0, 999, []), (267, .invokevirtual 157, 3, 106, 3, 1, 615, 4, []), (270, .putfield 163, 3, 2, 9, 1, 233, 0, []), (273, .goto 54, 3, 327, 0, 0, 0, 0, []), (276, .aload_n 0, 1, 0, 0, 0, 0, 0, []), (277, .invokevirtual 119, 3, 100, 1, 0, 575, 4, []),
  (280, .aload_n 0, 1, 0, 0, 0, 0, 0, []), (281, .getfield 21, 3, 4, 2, 3, 340, 0, []), (284, .aload_n 0, 1, 0, 0, 0, 0, 0, []), (285, .iconst 0, 1, 0, 0, 0, 0, 0, [])]
noncomputable def am_c108_1 : List (Nat × am_E) := [(286, .bipush 99, 2, 0, 0, 0, 0, 99, []), (288, .invokevirtual 157, 3, 106, 3, 1, 615, 4, []), (291, .putfield 166, 3, 2, 10, 1, 237, 0, []), (294, .goto 33, 3, 327, 0, 0, 0, 0, []), (297, .aload_n 0, 1, 0, 0, 0, 0, 0, []), (298, .invokevirtual 119, 3, 100, 1, 0, 575, 4, []),
  (301, .aload_n 0, 1, 0, 0, 0, 0, 0, []), (302, .getfield 21, 3, 4, 2, 3, 340, 0, []), (305, .aload_n 0, 1, 0, 0, 0, 0, 0, []), (306, .iconst 0, 1, 0, 0, 0, 0, 0, []), (307, .bipush 100, 2, 0, 0, 0, 0, 100, []), (309, .invokevirtual 157, 3, 106, 3, 1, 615, 4, []),
  (312, .putfield 169, 3, 2, 11, 1, 239, 0, []), (315, .goto 12, 3, 327, 0, 0, 0, 0, []), (318, .aload_n 0, 1, 0, 0, 0, 0, 0, []), (319, .iconst 1, 1, 0, 0, 0, 0, 1, []), (320, .aload_n 0, 1, 0, 0, 0, 0, 0, []), (321, .getfield 45, 3, 4, 9, 1, 351, 0, []),
  (324, .invokevirtual 89, 3, 99, 3, 0, 583, 4, []), (327, .return_, 1, 0, 0, 0, 0, 0, [])]
noncomputable def am_c108 : List (Nat × am_E) := am_c108_0 ++ (am_c108_1)
noncomputable def am_s109 : am_S := (yX4_takeNewName, cX4_takeNewName, 6, (some .int), 1, 1, 3, 4, 594, 593, 8, 166)
noncomputable def am_c109 : List (Nat × am_E) := [(0, .aload_n 0, 1, 0, 0, 0, 0, 0, []), (1, .getfield 21, 3, 4, 2, 3, 340, 0, []), (4, .getfield 172, 3, 2, 0, 3, 204, 0, []), (7, .iload_n 1, 1, 1, 0, 0, 0, 0, []), (8, .iaload, 1, 0, 0, 0, 0, 0, []), (9, .istore_n 3, 1, 3, 0, 0, 0, 0, []),
  (10, .iload_n 3, 1, 3, 0, 0, 0, 0, []), (11, .iload_n 2, 1, 2, 0, 0, 0, 0, []), (12, .if_icmp .lt 12, 3, 24, 0, 0, 0, 0, []), (15, .aload_n 0, 1, 0, 0, 0, 0, 0, []), (16, .iconst 5, 1, 0, 0, 0, 0, 5, []), (17, .aload_n 0, 1, 0, 0, 0, 0, 0, []),
  (18, .getfield 45, 3, 4, 9, 1, 351, 0, []), (21, .invokevirtual 89, 3, 99, 3, 0, 583, 4, []), (24, .aload_n 0, 1, 0, 0, 0, 0, 0, []), (25, .invokevirtual 119, 3, 100, 1, 0, 575, 4, []), (28, .aload_n 0, 1, 0, 0, 0, 0, 0, []), (29, .invokevirtual 175, 3, 107, 1, 1, 595, 4, []),
  (32, .istore 4, 2, 4, 0, 0, 0, 0, []), (34, .iconst 0, 1, 0, 0, 0, 0, 0, []), (35, .istore 5, 2, 5, 0, 0, 0, 0, []), (37, .iload 5, 2, 5, 0, 0, 0, 0, []), (39, .iconst 2, 1, 0, 0, 0, 0, 2, []), (40, .if_icmp .gt 33, 3, 73, 0, 0, 0, 0, []),
  (43, .aload_n 0, 1, 0, 0, 0, 0, 0, []), (44, .getfield 21, 3, 4, 2, 3, 340, 0, []), (47, .iload 5, 2, 5, 0, 0, 0, 0, []), (49, .iload 4, 2, 4, 0, 0, 0, 0, []), (51, .invokevirtual 178, 3, 86, 3, 1, 599, 2, []), (54, .iconst (-1), 1, 0, 0, 0, 0, (-1), []),
  (55, .if_icmp .eq 12, 3, 67, 0, 0, 0, 0, []), (58, .aload_n 0, 1, 0, 0, 0, 0, 0, []), (59, .iconst 3, 1, 0, 0, 0, 0, 3, []), (60, .aload_n 0, 1, 0, 0, 0, 0, 0, []), (61, .getfield 45, 3, 4, 9, 1, 351, 0, []), (64, .invokevirtual 89, 3, 99, 3, 0, 583, 4, []),
  (67, .iinc 5 1, 3, 5, 0, 0, 0, 1, []), (70, .goto (-33), 3, 37, 0, 0, 0, 0, []), (73, .aload_n 0, 1, 0, 0, 0, 0, 0, []), (74, .invokevirtual 119, 3, 100, 1, 0, 575, 4, []), (77, .aload_n 0, 1, 0, 0, 0, 0, 0, []), (78, .getfield 9, 3, 4, 0, 1, 336, 0, []),
  (81, .ifCond .eq 5, 3, 86, 0, 0, 0, 0, []), (84, .iconst (-1), 1, 0, 0, 0, 0, (-1), []), (85, .ireturn, 1, 0, 0, 1, 0, 0, []), (86, .aload_n 0, 1, 0, 0, 0, 0, 0, []), (87, .getfield 21, 3, 4, 2, 3, 340, 0, []), (90, .getfield 181, 3, 2, 1, 3, 207, 0, []),
  (93, .iload_n 1, 1, 1, 0, 0, 0, 0, []), (94, .aaload, 1, 0, 0, 0, 0, 0, []), (95, .iload_n 3, 1, 3, 0, 0, 0, 0, []), (96, .iload 4, 2, 4, 0, 0, 0, 0, []), (98, .iastore, 1, 0, 0, 0, 0, 0, []), (99, .aload_n 0, 1, 0, 0, 0, 0, 0, []),
  (100, .getfield 21, 3, 4, 2, 3, 340, 0, []), (103, .getfield 172, 3, 2, 0, 3, 204, 0, []), (106, .iload_n 1, 1, 1, 0, 0, 0, 0, []), (107, .dup2, 1, 0, 0, 0, 0, 0, []), (108, .iaload, 1, 0, 0, 0, 0, 0, []), (109, .iconst 1, 1, 0, 0, 0, 0, 1, []),
  (110, .iadd, 1, 0, 0, 0, 0, 0, []), (111, .iastore, 1, 0, 0, 0, 0, 0, []), (112, .iload_n 3, 1, 3, 0, 0, 0, 0, []), (113, .ireturn, 1, 0, 0, 1, 0, 0, [])]
noncomputable def am_s110 : am_S := (yX4_takeKnownName, cX4_takeKnownName, 3, (some .int), 1, 1, 2, 4, 622, 621, 14, 166)
noncomputable def am_c110 : List (Nat × am_E) := [(0, .aload_n 0, 1, 0, 0, 0, 0, 0, []), (1, .getfield 21, 3, 4, 2, 3, 340, 0, []), (4, .iload_n 1, 1, 1, 0, 0, 0, 0, []), (5, .aload_n 0, 1, 0, 0, 0, 0, 0, []), (6, .invokevirtual 175, 3, 107, 1, 1, 595, 4, []), (9, .invokevirtual 178, 3, 86, 3, 1, 599, 2, []),
  (12, .istore_n 2, 1, 2, 0, 0, 0, 0, []), (13, .iload_n 2, 1, 2, 0, 0, 0, 0, []), (14, .iconst (-1), 1, 0, 0, 0, 0, (-1), []), (15, .if_icmp .ne 12, 3, 27, 0, 0, 0, 0, []), (18, .aload_n 0, 1, 0, 0, 0, 0, 0, []), (19, .iconst 3, 1, 0, 0, 0, 0, 3, []),
  (20, .aload_n 0, 1, 0, 0, 0, 0, 0, []), (21, .getfield 45, 3, 4, 9, 1, 351, 0, []), (24, .invokevirtual 89, 3, 99, 3, 0, 583, 4, []), (27, .aload_n 0, 1, 0, 0, 0, 0, 0, []), (28, .invokevirtual 119, 3, 100, 1, 0, 575, 4, []), (31, .aload_n 0, 1, 0, 0, 0, 0, 0, []),
  (32, .getfield 9, 3, 4, 0, 1, 336, 0, []), (35, .ifCond .ne 7, 3, 42, 0, 0, 0, 0, []), (38, .iload_n 2, 1, 2, 0, 0, 0, 0, []), (39, .goto 4, 3, 43, 0, 0, 0, 0, []), (42, .iconst (-1), 1, 0, 0, 0, 0, (-1), []), (43, .ireturn, 1, 0, 0, 1, 0, 0, [])]
noncomputable def am_s111 : am_S := (yX4_readFilm, cX4_readFilm, 7, none, 1, 0, 1, 4, 606, 605, 10, 166)
noncomputable def am_c111 : List (Nat × am_E) := [(0, .aload_n 0, 1, 0, 0, 0, 0, 0, []), (1, .iconst 1, 1, 0, 0, 0, 0, 1, []), (2, .bipush 8, 2, 0, 0, 0, 0, 8, []), (4, .invokevirtual 133, 3, 109, 3, 1, 591, 4, []), (7, .istore_n 1, 1, 1, 0, 0, 0, 0, []), (8, .aload_n 0, 1, 0, 0, 0, 0, 0, []),
  (9, .iconst 2, 1, 0, 0, 0, 0, 2, []), (10, .invokevirtual 185, 3, 104, 2, 0, 607, 4, []), (13, .aload_n 0, 1, 0, 0, 0, 0, 0, []), (14, .iconst 1, 1, 0, 0, 0, 0, 1, []), (15, .bipush 9, 2, 0, 0, 0, 0, 9, []), (17, .invokevirtual 157, 3, 106, 3, 1, 615, 4, []),
  (20, .istore_n 2, 1, 2, 0, 0, 0, 0, []), (21, .aload_n 0, 1, 0, 0, 0, 0, 0, []), (22, .iconst 3, 1, 0, 0, 0, 0, 3, []), (23, .invokevirtual 185, 3, 104, 2, 0, 607, 4, []), (26, .iload_n 1, 1, 1, 0, 0, 0, 0, []), (27, .iconst (-1), 1, 0, 0, 0, 0, (-1), []),
  (28, .if_icmp .ne 4, 3, 32, 0, 0, 0, 0, []), (31, .return_, 1, 0, 0, 0, 0, 0, []), (32, .aload_n 0, 1, 0, 0, 0, 0, 0, []), (33, .getfield 21, 3, 4, 2, 3, 340, 0, []), (36, .getfield 188, 3, 2, 2, 3, 211, 0, []), (39, .iload_n 1, 1, 1, 0, 0, 0, 0, []),
  (40, .iload_n 2, 1, 2, 0, 0, 0, 0, []), (41, .iastore, 1, 0, 0, 0, 0, 0, []), (42, .iconst 0, 1, 0, 0, 0, 0, 0, []), (43, .istore_n 3, 1, 3, 0, 0, 0, 0, []), (44, .iload_n 3, 1, 3, 0, 0, 0, 0, []), (45, .aload_n 0, 1, 0, 0, 0, 0, 0, []),
  (46, .getfield 35, 3, 4, 6, 1, 348, 0, []), (49, .if_icmp .gt 91, 3, 140, 0, 0, 0, 0, []), (52, .iload_n 3, 1, 3, 0, 0, 0, 0, []), (53, .ifCond .eq 11, 3, 64, 0, 0, 0, 0, []), (56, .aload_n 0, 1, 0, 0, 0, 0, 0, []), (57, .getfield 42, 3, 4, 8, 1, 350, 0, []),
  (60, .iconst 1, 1, 0, 0, 0, 0, 1, []), (61, .if_icmp .ne 79, 3, 140, 0, 0, 0, 0, []), (64, .aload_n 0, 1, 0, 0, 0, 0, 0, []), (65, .getfield 45, 3, 4, 9, 1, 351, 0, []), (68, .istore 4, 2, 4, 0, 0, 0, 0, []), (70, .aload_n 0, 1, 0, 0, 0, 0, 0, []),
  (71, .iconst 0, 1, 0, 0, 0, 0, 0, []), (72, .invokevirtual 191, 3, 110, 2, 1, 619, 4, []), (75, .istore 5, 2, 5, 0, 0, 0, 0, []), (77, .iload 5, 2, 5, 0, 0, 0, 0, []), (79, .iconst (-1), 1, 0, 0, 0, 0, (-1), []), (80, .if_icmp .eq 25, 3, 105, 0, 0, 0, 0, []),
  (83, .aload_n 0, 1, 0, 0, 0, 0, 0, []), (84, .getfield 21, 3, 4, 2, 3, 340, 0, []), (87, .getfield 195, 3, 2, 3, 3, 215, 0, []), (90, .iload_n 1, 1, 1, 0, 0, 0, 0, []), (91, .aaload, 1, 0, 0, 0, 0, 0, []), (92, .iload 5, 2, 5, 0, 0, 0, 0, []),
  (94, .iaload, 1, 0, 0, 0, 0, 0, []), (95, .ifCond .le 10, 3, 105, 0, 0, 0, 0, []), (98, .aload_n 0, 1, 0, 0, 0, 0, 0, []), (99, .iconst 3, 1, 0, 0, 0, 0, 3, []), (100, .iload 4, 2, 4, 0, 0, 0, 0, []), (102, .invokevirtual 89, 3, 99, 3, 0, 583, 4, []),
  (105, .aload_n 0, 1, 0, 0, 0, 0, 0, []), (106, .iconst 1, 1, 0, 0, 0, 0, 1, []), (107, .bipush 9, 2, 0, 0, 0, 0, 9, []), (109, .invokevirtual 157, 3, 106, 3, 1, 615, 4, []), (112, .istore 6, 2, 6, 0, 0, 0, 0, []), (114, .iload 5, 2, 5, 0, 0, 0, 0, []),
  (116, .iconst (-1), 1, 0, 0, 0, 0, (-1), []), (117, .if_icmp .eq 17, 3, 134, 0, 0, 0, 0, []), (120, .aload_n 0, 1, 0, 0, 0, 0, 0, []), (121, .getfield 21, 3, 4, 2, 3, 340, 0, []), (124, .getfield 195, 3, 2, 3, 3, 215, 0, []), (127, .iload_n 1, 1, 1, 0, 0, 0, 0, []),
  (128, .aaload, 1, 0, 0, 0, 0, 0, []), (129, .iload 5, 2, 5, 0, 0, 0, 0, []), (131, .iload 6, 2, 6, 0, 0, 0, 0, []), (133, .iastore, 1, 0, 0, 0, 0, 0, []), (134, .iinc 3 1, 3, 3, 0, 0, 0, 1, []), (137, .goto (-93), 3, 44, 0, 0, 0, 0, []),
  (140, .return_, 1, 0, 0, 0, 0, 0, [])]
noncomputable def am_s112 : am_S := (yX4_readPerson, cX4_readPerson, 4, none, 1, 0, 1, 4, 626, 625, 15, 166)
noncomputable def am_c112 : List (Nat × am_E) := [(0, .aload_n 0, 1, 0, 0, 0, 0, 0, []), (1, .iconst 2, 1, 0, 0, 0, 0, 2, []), (2, .iconst 5, 1, 0, 0, 0, 0, 5, []), (3, .invokevirtual 133, 3, 109, 3, 1, 591, 4, []), (6, .istore_n 1, 1, 1, 0, 0, 0, 0, []), (7, .aload_n 0, 1, 0, 0, 0, 0, 0, []),
  (8, .iconst 5, 1, 0, 0, 0, 0, 5, []), (9, .invokevirtual 185, 3, 104, 2, 0, 607, 4, []), (12, .aload_n 0, 1, 0, 0, 0, 0, 0, []), (13, .iconst 0, 1, 0, 0, 0, 0, 0, []), (14, .bipush 23, 2, 0, 0, 0, 0, 23, []), (16, .invokevirtual 157, 3, 106, 3, 1, 615, 4, []),
  (19, .istore_n 2, 1, 2, 0, 0, 0, 0, []), (20, .aload_n 0, 1, 0, 0, 0, 0, 0, []), (21, .bipush 6, 2, 0, 0, 0, 0, 6, []), (23, .invokevirtual 185, 3, 104, 2, 0, 607, 4, []), (26, .aload_n 0, 1, 0, 0, 0, 0, 0, []), (27, .iload_n 2, 1, 2, 0, 0, 0, 0, []),
  (28, .bipush 23, 2, 0, 0, 0, 0, 23, []), (30, .invokevirtual 157, 3, 106, 3, 1, 615, 4, []), (33, .istore_n 3, 1, 3, 0, 0, 0, 0, []), (34, .iload_n 1, 1, 1, 0, 0, 0, 0, []), (35, .iconst (-1), 1, 0, 0, 0, 0, (-1), []), (36, .if_icmp .eq 23, 3, 59, 0, 0, 0, 0, []),
  (39, .aload_n 0, 1, 0, 0, 0, 0, 0, []), (40, .getfield 21, 3, 4, 2, 3, 340, 0, []), (43, .getfield 198, 3, 2, 4, 3, 218, 0, []), (46, .iload_n 1, 1, 1, 0, 0, 0, 0, []), (47, .iload_n 2, 1, 2, 0, 0, 0, 0, []), (48, .iastore, 1, 0, 0, 0, 0, 0, []),
  (49, .aload_n 0, 1, 0, 0, 0, 0, 0, []), (50, .getfield 21, 3, 4, 2, 3, 340, 0, []), (53, .getfield 201, 3, 2, 5, 3, 221, 0, []), (56, .iload_n 1, 1, 1, 0, 0, 0, 0, []), (57, .iload_n 3, 1, 3, 0, 0, 0, 0, []), (58, .iastore, 1, 0, 0, 0, 0, 0, []),
  (59, .return_, 1, 0, 0, 0, 0, 0, [])]
noncomputable def am_s113 : am_S := (yX4_readLikes, cX4_readLikes, 4, none, 1, 0, 1, 4, 630, 629, 16, 166)
noncomputable def am_c113 : List (Nat × am_E) := [(0, .aload_n 0, 1, 0, 0, 0, 0, 0, []), (1, .invokevirtual 119, 3, 100, 1, 0, 575, 4, []), (4, .aload_n 0, 1, 0, 0, 0, 0, 0, []), (5, .iconst 2, 1, 0, 0, 0, 0, 2, []), (6, .invokevirtual 191, 3, 110, 2, 1, 619, 4, []), (9, .istore_n 1, 1, 1, 0, 0, 0, 0, []),
  (10, .aload_n 0, 1, 0, 0, 0, 0, 0, []), (11, .iconst 0, 1, 0, 0, 0, 0, 0, []), (12, .invokevirtual 191, 3, 110, 2, 1, 619, 4, []), (15, .istore_n 2, 1, 2, 0, 0, 0, 0, []), (16, .aload_n 0, 1, 0, 0, 0, 0, 0, []), (17, .iconst 0, 1, 0, 0, 0, 0, 0, []),
  (18, .bipush 9, 2, 0, 0, 0, 0, 9, []), (20, .invokevirtual 157, 3, 106, 3, 1, 615, 4, []), (23, .istore_n 3, 1, 3, 0, 0, 0, 0, []), (24, .iload_n 1, 1, 1, 0, 0, 0, 0, []), (25, .iconst (-1), 1, 0, 0, 0, 0, (-1), []), (26, .if_icmp .eq 20, 3, 46, 0, 0, 0, 0, []),
  (29, .iload_n 2, 1, 2, 0, 0, 0, 0, []), (30, .iconst (-1), 1, 0, 0, 0, 0, (-1), []), (31, .if_icmp .eq 15, 3, 46, 0, 0, 0, 0, []), (34, .aload_n 0, 1, 0, 0, 0, 0, 0, []), (35, .getfield 21, 3, 4, 2, 3, 340, 0, []), (38, .getfield 204, 3, 2, 6, 3, 224, 0, []),
  (41, .iload_n 1, 1, 1, 0, 0, 0, 0, []), (42, .aaload, 1, 0, 0, 0, 0, 0, []), (43, .iload_n 2, 1, 2, 0, 0, 0, 0, []), (44, .iload_n 3, 1, 3, 0, 0, 0, 0, []), (45, .iastore, 1, 0, 0, 0, 0, 0, []), (46, .return_, 1, 0, 0, 0, 0, 0, [])]
noncomputable def am_s114 : am_S := (yX4_readPress, cX4_readPress, 3, none, 1, 0, 1, 4, 634, 633, 17, 166)
noncomputable def am_c114 : List (Nat × am_E) := [(0, .aload_n 0, 1, 0, 0, 0, 0, 0, []), (1, .invokevirtual 119, 3, 100, 1, 0, 575, 4, []), (4, .aload_n 0, 1, 0, 0, 0, 0, 0, []), (5, .getfield 45, 3, 4, 9, 1, 351, 0, []), (8, .istore_n 1, 1, 1, 0, 0, 0, 0, []), (9, .aload_n 0, 1, 0, 0, 0, 0, 0, []),
  (10, .iconst 2, 1, 0, 0, 0, 0, 2, []), (11, .invokevirtual 191, 3, 110, 2, 1, 619, 4, []), (14, .istore_n 2, 1, 2, 0, 0, 0, 0, []), (15, .iload_n 2, 1, 2, 0, 0, 0, 0, []), (16, .iconst (-1), 1, 0, 0, 0, 0, (-1), []), (17, .if_icmp .eq 24, 3, 41, 0, 0, 0, 0, []),
  (20, .aload_n 0, 1, 0, 0, 0, 0, 0, []), (21, .getfield 21, 3, 4, 2, 3, 340, 0, []), (24, .getfield 207, 3, 2, 7, 1, 227, 0, []), (27, .iload_n 2, 1, 2, 0, 0, 0, 0, []), (28, .ishr, 1, 0, 0, 0, 0, 0, []), (29, .iconst 1, 1, 0, 0, 0, 0, 1, []),
  (30, .iand, 1, 0, 0, 0, 0, 0, []), (31, .iconst 1, 1, 0, 0, 0, 0, 1, []), (32, .if_icmp .ne 9, 3, 41, 0, 0, 0, 0, []), (35, .aload_n 0, 1, 0, 0, 0, 0, 0, []), (36, .iconst 3, 1, 0, 0, 0, 0, 3, []), (37, .iload_n 1, 1, 1, 0, 0, 0, 0, []),
  (38, .invokevirtual 89, 3, 99, 3, 0, 583, 4, []), (41, .iload_n 2, 1, 2, 0, 0, 0, 0, []), (42, .iconst (-1), 1, 0, 0, 0, 0, (-1), []), (43, .if_icmp .eq 18, 3, 61, 0, 0, 0, 0, []), (46, .aload_n 0, 1, 0, 0, 0, 0, 0, []), (47, .getfield 21, 3, 4, 2, 3, 340, 0, []),
  (50, .dup, 1, 0, 0, 0, 0, 0, []), (51, .getfield 207, 3, 2, 7, 1, 227, 0, []), (54, .iconst 1, 1, 0, 0, 0, 0, 1, []), (55, .iload_n 2, 1, 2, 0, 0, 0, 0, []), (56, .ishl, 1, 0, 0, 0, 0, 0, []), (57, .ior, 1, 0, 0, 0, 0, 0, []),
  (58, .putfield 207, 3, 2, 7, 1, 227, 0, []), (61, .return_, 1, 0, 0, 0, 0, 0, [])]
noncomputable def am_s115 : am_S := (yX4_beginFormula, cX4_beginFormula, 3, (some .int), 1, 1, 3, 4, 638, 637, 18, 166)
noncomputable def am_c115 : List (Nat × am_E) := [(0, .iload_n 2, 1, 2, 0, 0, 0, 0, []), (1, .iconst (-1), 1, 0, 0, 0, 0, (-1), []), (2, .if_icmp .eq 12, 3, 14, 0, 0, 0, 0, []), (5, .aload_n 0, 1, 0, 0, 0, 0, 0, []), (6, .iconst 5, 1, 0, 0, 0, 0, 5, []), (7, .aload_n 0, 1, 0, 0, 0, 0, 0, []),
  (8, .getfield 45, 3, 4, 9, 1, 351, 0, []), (11, .invokevirtual 89, 3, 99, 3, 0, 583, 4, []), (14, .aload_n 0, 1, 0, 0, 0, 0, 0, []), (15, .iload_n 1, 1, 1, 0, 0, 0, 0, []), (16, .putfield 58, 3, 4, 13, 1, 355, 0, []), (19, .aload_n 0, 1, 0, 0, 0, 0, 0, []),
  (20, .iconst 0, 1, 0, 0, 0, 0, 0, []), (21, .putfield 67, 3, 4, 16, 1, 358, 0, []), (24, .aload_n 0, 1, 0, 0, 0, 0, 0, []), (25, .invokevirtual 119, 3, 100, 1, 0, 575, 4, []), (28, .aload_n 0, 1, 0, 0, 0, 0, 0, []), (29, .getfield 64, 3, 4, 15, 1, 357, 0, []),
  (32, .ireturn, 1, 0, 0, 1, 0, 0, [])]
noncomputable def am_s116 : am_S := (yX4_put, cX4_put, 2, none, 1, 0, 2, 4, 654, 653, 22, 166)
noncomputable def am_c116 : List (Nat × am_E) := [(0, .aload_n 0, 1, 0, 0, 0, 0, 0, []), (1, .getfield 64, 3, 4, 15, 1, 357, 0, []), (4, .aload_n 0, 1, 0, 0, 0, 0, 0, []), (5, .getfield 61, 3, 4, 14, 3, 356, 0, []), (8, .arraylength, 1, 0, 0, 0, 0, 0, []), (9, .if_icmp .ge 23, 3, 32, 0, 0, 0, 0, []),
  (12, .aload_n 0, 1, 0, 0, 0, 0, 0, []), (13, .getfield 61, 3, 4, 14, 3, 356, 0, []), (16, .aload_n 0, 1, 0, 0, 0, 0, 0, []), (17, .getfield 64, 3, 4, 15, 1, 357, 0, []), (20, .iload_n 1, 1, 1, 0, 0, 0, 0, []), (21, .iastore, 1, 0, 0, 0, 0, 0, []),
  (22, .aload_n 0, 1, 0, 0, 0, 0, 0, []), (23, .dup, 1, 0, 0, 0, 0, 0, []), (24, .getfield 64, 3, 4, 15, 1, 357, 0, []), (27, .iconst 1, 1, 0, 0, 0, 0, 1, []), (28, .iadd, 1, 0, 0, 0, 0, 0, []), (29, .putfield 64, 3, 4, 15, 1, 357, 0, []),
  (32, .return_, 1, 0, 0, 0, 0, 0, [])]
noncomputable def am_s117 : am_S := (yX4_opens, cX4_opens, 1, (some .boolean), 1, 4, 1, 4, 662, 661, 24, 166)
noncomputable def am_c117 : List (Nat × am_E) := [(0, .aload_n 0, 1, 0, 0, 0, 0, 0, []), (1, .getfield 67, 3, 4, 16, 1, 358, 0, []), (4, .bipush 6, 2, 0, 0, 0, 0, 6, []), (6, .if_icmp .lt 12, 3, 18, 0, 0, 0, 0, []), (9, .aload_n 0, 1, 0, 0, 0, 0, 0, []), (10, .iconst 4, 1, 0, 0, 0, 0, 4, []),
  (11, .aload_n 0, 1, 0, 0, 0, 0, 0, []), (12, .getfield 45, 3, 4, 9, 1, 351, 0, []), (15, .invokevirtual 89, 3, 99, 3, 0, 583, 4, []), (18, .aload_n 0, 1, 0, 0, 0, 0, 0, []), (19, .getfield 9, 3, 4, 0, 1, 336, 0, []), (22, .ifCond .eq 5, 3, 27, 0, 0, 0, 0, []),
  (25, .iconst 0, 1, 0, 0, 0, 0, 0, []), (26, .ireturn, 1, 0, 0, 4, 0, 0, []), (27, .aload_n 0, 1, 0, 0, 0, 0, 0, []), (28, .dup, 1, 0, 0, 0, 0, 0, []), (29, .getfield 67, 3, 4, 16, 1, 358, 0, []), (32, .iconst 1, 1, 0, 0, 0, 0, 1, []),
  (33, .iadd, 1, 0, 0, 0, 0, 0, []), (34, .putfield 67, 3, 4, 16, 1, 358, 0, []), (37, .aload_n 0, 1, 0, 0, 0, 0, 0, []), (38, .invokevirtual 119, 3, 100, 1, 0, 575, 4, []), (41, .iconst 1, 1, 0, 0, 0, 0, 1, []), (42, .ireturn, 1, 0, 0, 4, 0, 0, [])]
noncomputable def am_s118 : am_S := (yX4_readTest, cX4_readTest, 2, none, 1, 0, 1, 4, 678, 677, 28, 166)
noncomputable def am_c118 : List (Nat × am_E) := [(0, .aload_n 0, 1, 0, 0, 0, 0, 0, []), (1, .invokevirtual 210, 3, 119, 1, 0, 679, 4, []), (4, .iconst 0, 1, 0, 0, 0, 0, 0, []), (5, .istore_n 1, 1, 1, 0, 0, 0, 0, []), (6, .iload_n 1, 1, 1, 0, 0, 0, 0, []), (7, .aload_n 0, 1, 0, 0, 0, 0, 0, []),
  (8, .getfield 35, 3, 4, 6, 1, 348, 0, []), (11, .if_icmp .gt 33, 3, 44, 0, 0, 0, 0, []), (14, .aload_n 0, 1, 0, 0, 0, 0, 0, []), (15, .bipush 23, 2, 0, 0, 0, 0, 23, []), (17, .invokevirtual 125, 3, 102, 2, 4, 611, 4, []), (20, .ifCond .eq 24, 3, 44, 0, 0, 0, 0, []),
  (23, .aload_n 0, 1, 0, 0, 0, 0, 0, []), (24, .invokevirtual 119, 3, 100, 1, 0, 575, 4, []), (27, .aload_n 0, 1, 0, 0, 0, 0, 0, []), (28, .invokevirtual 210, 3, 119, 1, 0, 679, 4, []), (31, .aload_n 0, 1, 0, 0, 0, 0, 0, []), (32, .sipush 20013, 3, 0, 0, 0, 0, 20013, []),
  (35, .invokevirtual 110, 3, 116, 2, 0, 651, 4, []), (38, .iinc 1 1, 3, 1, 0, 0, 0, 1, []), (41, .goto (-35), 3, 6, 0, 0, 0, 0, []), (44, .return_, 1, 0, 0, 0, 0, 0, [])]
noncomputable def am_s119 : am_S := (yX4_readBoth, cX4_readBoth, 2, none, 1, 0, 1, 4, 682, 681, 29, 166)
noncomputable def am_c119 : List (Nat × am_E) := [(0, .aload_n 0, 1, 0, 0, 0, 0, 0, []), (1, .invokevirtual 213, 3, 120, 1, 0, 683, 4, []), (4, .iconst 0, 1, 0, 0, 0, 0, 0, []), (5, .istore_n 1, 1, 1, 0, 0, 0, 0, []), (6, .iload_n 1, 1, 1, 0, 0, 0, 0, []), (7, .aload_n 0, 1, 0, 0, 0, 0, 0, []),
  (8, .getfield 35, 3, 4, 6, 1, 348, 0, []), (11, .if_icmp .gt 33, 3, 44, 0, 0, 0, 0, []), (14, .aload_n 0, 1, 0, 0, 0, 0, 0, []), (15, .bipush 24, 2, 0, 0, 0, 0, 24, []), (17, .invokevirtual 125, 3, 102, 2, 4, 611, 4, []), (20, .ifCond .eq 24, 3, 44, 0, 0, 0, 0, []),
  (23, .aload_n 0, 1, 0, 0, 0, 0, 0, []), (24, .invokevirtual 119, 3, 100, 1, 0, 575, 4, []), (27, .aload_n 0, 1, 0, 0, 0, 0, 0, []), (28, .invokevirtual 213, 3, 120, 1, 0, 683, 4, []), (31, .aload_n 0, 1, 0, 0, 0, 0, 0, []), (32, .sipush 20012, 3, 0, 0, 0, 0, 20012, []),
  (35, .invokevirtual 110, 3, 116, 2, 0, 651, 4, []), (38, .iinc 1 1, 3, 1, 0, 0, 0, 1, []), (41, .goto (-35), 3, 6, 0, 0, 0, 0, []), (44, .return_, 1, 0, 0, 0, 0, 0, [])]
noncomputable def am_s120 : am_S := (yX4_readFact, cX4_readFact, 2, none, 1, 0, 1, 4, 686, 685, 30, 166)
noncomputable def am_c120 : List (Nat × am_E) := [(0, .aload_n 0, 1, 0, 0, 0, 0, 0, []), (1, .bipush 25, 2, 0, 0, 0, 0, 25, []), (3, .invokevirtual 125, 3, 102, 2, 4, 611, 4, []), (6, .ifCond .eq 34, 3, 40, 0, 0, 0, 0, []), (9, .aload_n 0, 1, 0, 0, 0, 0, 0, []), (10, .invokevirtual 216, 3, 117, 1, 4, 659, 4, []),
  (13, .ifCond .eq 163, 3, 176, 0, 0, 0, 0, []), (16, .aload_n 0, 1, 0, 0, 0, 0, 0, []), (17, .invokevirtual 213, 3, 120, 1, 0, 683, 4, []), (20, .aload_n 0, 1, 0, 0, 0, 0, 0, []), (21, .dup, 1, 0, 0, 0, 0, 0, []), (22, .getfield 67, 3, 4, 16, 1, 358, 0, []),
  (25, .iconst 1, 1, 0, 0, 0, 0, 1, []), (26, .isub, 1, 0, 0, 0, 0, 0, []), (27, .putfield 67, 3, 4, 16, 1, 358, 0, []), (30, .aload_n 0, 1, 0, 0, 0, 0, 0, []), (31, .sipush 20001, 3, 0, 0, 0, 0, 20001, []), (34, .invokevirtual 110, 3, 116, 2, 0, 651, 4, []),
  (37, .goto 139, 3, 176, 0, 0, 0, 0, []), (40, .aload_n 0, 1, 0, 0, 0, 0, 0, []), (41, .bipush 91, 2, 0, 0, 0, 0, 91, []), (43, .invokevirtual 129, 3, 103, 2, 4, 655, 4, []), (46, .ifCond .eq 33, 3, 79, 0, 0, 0, 0, []), (49, .aload_n 0, 1, 0, 0, 0, 0, 0, []),
  (50, .invokevirtual 216, 3, 117, 1, 4, 659, 4, []), (53, .ifCond .eq 123, 3, 176, 0, 0, 0, 0, []), (56, .aload_n 0, 1, 0, 0, 0, 0, 0, []), (57, .invokevirtual 104, 3, 118, 1, 0, 675, 4, []), (60, .aload_n 0, 1, 0, 0, 0, 0, 0, []), (61, .bipush 93, 2, 0, 0, 0, 0, 93, []),
  (63, .invokevirtual 96, 3, 105, 2, 0, 663, 4, []), (66, .aload_n 0, 1, 0, 0, 0, 0, 0, []), (67, .dup, 1, 0, 0, 0, 0, 0, []), (68, .getfield 67, 3, 4, 16, 1, 358, 0, []), (71, .iconst 1, 1, 0, 0, 0, 0, 1, []), (72, .isub, 1, 0, 0, 0, 0, 0, []),
  (73, .putfield 67, 3, 4, 16, 1, 358, 0, []), (76, .goto 100, 3, 176, 0, 0, 0, 0, []), (79, .aload_n 0, 1, 0, 0, 0, 0, 0, []), (80, .bipush 26, 2, 0, 0, 0, 0, 26, []), (82, .invokevirtual 125, 3, 102, 2, 4, 611, 4, []), (85, .ifCond .eq 15, 3, 100, 0, 0, 0, 0, []),
  (88, .aload_n 0, 1, 0, 0, 0, 0, 0, []), (89, .invokevirtual 119, 3, 100, 1, 0, 575, 4, []), (92, .aload_n 0, 1, 0, 0, 0, 0, 0, []), (93, .iconst 1, 1, 0, 0, 0, 0, 1, []), (94, .invokevirtual 110, 3, 116, 2, 0, 651, 4, []), (97, .goto 79, 3, 176, 0, 0, 0, 0, []),
  (100, .aload_n 0, 1, 0, 0, 0, 0, 0, []), (101, .invokevirtual 107, 3, 121, 1, 0, 639, 4, []), (104, .aload_n 0, 1, 0, 0, 0, 0, 0, []), (105, .bipush 60, 2, 0, 0, 0, 0, 60, []), (107, .invokevirtual 129, 3, 103, 2, 4, 655, 4, []), (110, .ifCond .eq 9, 3, 119, 0, 0, 0, 0, []),
  (113, .sipush 20009, 3, 0, 0, 0, 0, 20009, []), (116, .goto 21, 3, 137, 0, 0, 0, 0, []), (119, .aload_n 0, 1, 0, 0, 0, 0, 0, []), (120, .bipush 62, 2, 0, 0, 0, 0, 62, []), (122, .invokevirtual 129, 3, 103, 2, 4, 655, 4, []), (125, .ifCond .eq 9, 3, 134, 0, 0, 0, 0, []),
  (128, .sipush 20010, 3, 0, 0, 0, 0, 20010, []), (131, .goto 6, 3, 137, 0, 0, 0, 0, []), (134, .sipush 20011, 3, 0, 0, 0, 0, 20011, []), (137, .istore_n 1, 1, 1, 0, 0, 0, 0, []), (138, .iload_n 1, 1, 1, 0, 0, 0, 0, []), (139, .sipush 20011, 3, 0, 0, 0, 0, 20011, []),
  (142, .if_icmp .ne 21, 3, 163, 0, 0, 0, 0, []), (145, .aload_n 0, 1, 0, 0, 0, 0, 0, []), (146, .bipush 61, 2, 0, 0, 0, 0, 61, []), (148, .invokevirtual 129, 3, 103, 2, 4, 655, 4, []), (151, .ifCond .ne 12, 3, 163, 0, 0, 0, 0, []), (154, .aload_n 0, 1, 0, 0, 0, 0, 0, []),
  (155, .iconst 1, 1, 0, 0, 0, 0, 1, []), (156, .aload_n 0, 1, 0, 0, 0, 0, 0, []), (157, .getfield 45, 3, 4, 9, 1, 351, 0, []), (160, .invokevirtual 89, 3, 99, 3, 0, 583, 4, []), (163, .aload_n 0, 1, 0, 0, 0, 0, 0, []), (164, .invokevirtual 119, 3, 100, 1, 0, 575, 4, []),
  (167, .aload_n 0, 1, 0, 0, 0, 0, 0, []), (168, .invokevirtual 107, 3, 121, 1, 0, 639, 4, []), (171, .aload_n 0, 1, 0, 0, 0, 0, 0, []), (172, .iload_n 1, 1, 1, 0, 0, 0, 0, []), (173, .invokevirtual 110, 3, 116, 2, 0, 651, 4, []), (176, .return_, 1, 0, 0, 0, 0, 0, [])]
noncomputable def am_s121 : am_S := (yX4_readSum, cX4_readSum, 3, none, 1, 0, 1, 4, 642, 641, 19, 166)
noncomputable def am_c121 : List (Nat × am_E) := [(0, .aload_n 0, 1, 0, 0, 0, 0, 0, []), (1, .invokevirtual 220, 3, 122, 1, 0, 643, 4, []), (4, .iconst 0, 1, 0, 0, 0, 0, 0, []), (5, .istore_n 1, 1, 1, 0, 0, 0, 0, []), (6, .iload_n 1, 1, 1, 0, 0, 0, 0, []), (7, .aload_n 0, 1, 0, 0, 0, 0, 0, []),
  (8, .getfield 35, 3, 4, 6, 1, 348, 0, []), (11, .if_icmp .gt 59, 3, 70, 0, 0, 0, 0, []), (14, .aload_n 0, 1, 0, 0, 0, 0, 0, []), (15, .bipush 43, 2, 0, 0, 0, 0, 43, []), (17, .invokevirtual 129, 3, 103, 2, 4, 655, 4, []), (20, .ifCond .ne 12, 3, 32, 0, 0, 0, 0, []),
  (23, .aload_n 0, 1, 0, 0, 0, 0, 0, []), (24, .bipush 45, 2, 0, 0, 0, 0, 45, []), (26, .invokevirtual 129, 3, 103, 2, 4, 655, 4, []), (29, .ifCond .eq 41, 3, 70, 0, 0, 0, 0, []), (32, .aload_n 0, 1, 0, 0, 0, 0, 0, []), (33, .bipush 43, 2, 0, 0, 0, 0, 43, []),
  (35, .invokevirtual 129, 3, 103, 2, 4, 655, 4, []), (38, .ifCond .eq 9, 3, 47, 0, 0, 0, 0, []), (41, .sipush 20003, 3, 0, 0, 0, 0, 20003, []), (44, .goto 6, 3, 50, 0, 0, 0, 0, []), (47, .sipush 20004, 3, 0, 0, 0, 0, 20004, []), (50, .istore_n 2, 1, 2, 0, 0, 0, 0, []),
  (51, .aload_n 0, 1, 0, 0, 0, 0, 0, []), (52, .invokevirtual 119, 3, 100, 1, 0, 575, 4, []), (55, .aload_n 0, 1, 0, 0, 0, 0, 0, []), (56, .invokevirtual 220, 3, 122, 1, 0, 643, 4, []), (59, .aload_n 0, 1, 0, 0, 0, 0, 0, []), (60, .iload_n 2, 1, 2, 0, 0, 0, 0, []),
  (61, .invokevirtual 110, 3, 116, 2, 0, 651, 4, []), (64, .iinc 1 1, 3, 1, 0, 0, 0, 1, []), (67, .goto (-61), 3, 6, 0, 0, 0, 0, []), (70, .return_, 1, 0, 0, 0, 0, 0, [])]
noncomputable def am_s122 : am_S := (yX4_readProduct, cX4_readProduct, 3, none, 1, 0, 1, 4, 646, 645, 20, 166)
noncomputable def am_c122 : List (Nat × am_E) := [(0, .aload_n 0, 1, 0, 0, 0, 0, 0, []), (1, .invokevirtual 223, 3, 123, 1, 0, 647, 4, []), (4, .iconst 0, 1, 0, 0, 0, 0, 0, []), (5, .istore_n 1, 1, 1, 0, 0, 0, 0, []), (6, .iload_n 1, 1, 1, 0, 0, 0, 0, []), (7, .aload_n 0, 1, 0, 0, 0, 0, 0, []),
  (8, .getfield 35, 3, 4, 6, 1, 348, 0, []), (11, .if_icmp .gt 59, 3, 70, 0, 0, 0, 0, []), (14, .aload_n 0, 1, 0, 0, 0, 0, 0, []), (15, .bipush 42, 2, 0, 0, 0, 0, 42, []), (17, .invokevirtual 129, 3, 103, 2, 4, 655, 4, []), (20, .ifCond .ne 12, 3, 32, 0, 0, 0, 0, []),
  (23, .aload_n 0, 1, 0, 0, 0, 0, 0, []), (24, .bipush 47, 2, 0, 0, 0, 0, 47, []), (26, .invokevirtual 129, 3, 103, 2, 4, 655, 4, []), (29, .ifCond .eq 41, 3, 70, 0, 0, 0, 0, []), (32, .aload_n 0, 1, 0, 0, 0, 0, 0, []), (33, .bipush 42, 2, 0, 0, 0, 0, 42, []),
  (35, .invokevirtual 129, 3, 103, 2, 4, 655, 4, []), (38, .ifCond .eq 9, 3, 47, 0, 0, 0, 0, []), (41, .sipush 20005, 3, 0, 0, 0, 0, 20005, []), (44, .goto 6, 3, 50, 0, 0, 0, 0, []), (47, .sipush 20006, 3, 0, 0, 0, 0, 20006, []), (50, .istore_n 2, 1, 2, 0, 0, 0, 0, []),
  (51, .aload_n 0, 1, 0, 0, 0, 0, 0, []), (52, .invokevirtual 119, 3, 100, 1, 0, 575, 4, []), (55, .aload_n 0, 1, 0, 0, 0, 0, 0, []), (56, .invokevirtual 223, 3, 123, 1, 0, 647, 4, []), (59, .aload_n 0, 1, 0, 0, 0, 0, 0, []), (60, .iload_n 2, 1, 2, 0, 0, 0, 0, []),
  (61, .invokevirtual 110, 3, 116, 2, 0, 651, 4, []), (64, .iinc 1 1, 3, 1, 0, 0, 0, 1, []), (67, .goto (-61), 3, 6, 0, 0, 0, 0, []), (70, .return_, 1, 0, 0, 0, 0, 0, [])]
noncomputable def am_s123 : am_S := (yX4_readPart, cX4_readPart, 1, none, 1, 0, 1, 4, 650, 649, 21, 166)
noncomputable def am_c123 : List (Nat × am_E) := [(0, .aload_n 0, 1, 0, 0, 0, 0, 0, []), (1, .getfield 42, 3, 4, 8, 1, 350, 0, []), (4, .iconst 2, 1, 0, 0, 0, 0, 2, []), (5, .if_icmp .ne 18, 3, 23, 0, 0, 0, 0, []), (8, .aload_n 0, 1, 0, 0, 0, 0, 0, []), (9, .aload_n 0, 1, 0, 0, 0, 0, 0, []),
  (10, .iconst 0, 1, 0, 0, 0, 0, 0, []), (11, .sipush 9999, 3, 0, 0, 0, 0, 9999, []), (14, .invokevirtual 157, 3, 106, 3, 1, 615, 4, []), (17, .invokevirtual 110, 3, 116, 2, 0, 651, 4, []), (20, .goto 177, 3, 197, 0, 0, 0, 0, []), (23, .aload_n 0, 1, 0, 0, 0, 0, 0, []),
  (24, .bipush 40, 2, 0, 0, 0, 0, 40, []), (26, .invokevirtual 129, 3, 103, 2, 4, 655, 4, []), (29, .ifCond .eq 33, 3, 62, 0, 0, 0, 0, []), (32, .aload_n 0, 1, 0, 0, 0, 0, 0, []), (33, .invokevirtual 216, 3, 117, 1, 4, 659, 4, []), (36, .ifCond .eq 161, 3, 197, 0, 0, 0, 0, []),
  (39, .aload_n 0, 1, 0, 0, 0, 0, 0, []), (40, .invokevirtual 107, 3, 121, 1, 0, 639, 4, []), (43, .aload_n 0, 1, 0, 0, 0, 0, 0, []), (44, .bipush 41, 2, 0, 0, 0, 0, 41, []), (46, .invokevirtual 96, 3, 105, 2, 0, 663, 4, []), (49, .aload_n 0, 1, 0, 0, 0, 0, 0, []),
  (50, .dup, 1, 0, 0, 0, 0, 0, []), (51, .getfield 67, 3, 4, 16, 1, 358, 0, []), (54, .iconst 1, 1, 0, 0, 0, 0, 1, []), (55, .isub, 1, 0, 0, 0, 0, 0, []), (56, .putfield 67, 3, 4, 16, 1, 358, 0, []), (59, .goto 138, 3, 197, 0, 0, 0, 0, []),
  (62, .aload_n 0, 1, 0, 0, 0, 0, 0, []), (63, .bipush 27, 2, 0, 0, 0, 0, 27, []), (65, .invokevirtual 125, 3, 102, 2, 4, 611, 4, []), (68, .ifCond .ne 12, 3, 80, 0, 0, 0, 0, []), (71, .aload_n 0, 1, 0, 0, 0, 0, 0, []), (72, .bipush 28, 2, 0, 0, 0, 0, 28, []),
  (74, .invokevirtual 125, 3, 102, 2, 4, 611, 4, []), (77, .ifCond .eq 28, 3, 105, 0, 0, 0, 0, []), (80, .aload_n 0, 1, 0, 0, 0, 0, 0, []), (81, .aload_n 0, 1, 0, 0, 0, 0, 0, []), (82, .bipush 27, 2, 0, 0, 0, 0, 27, []), (84, .invokevirtual 125, 3, 102, 2, 4, 611, 4, []),
  (87, .ifCond .eq 9, 3, 96, 0, 0, 0, 0, []), (90, .sipush 20007, 3, 0, 0, 0, 0, 20007, []), (93, .goto 6, 3, 99, 0, 0, 0, 0, []), (96, .sipush 20008, 3, 0, 0, 0, 0, 20008, []), (99, .invokevirtual 226, 3, 124, 2, 0, 667, 4, []), (102, .goto 95, 3, 197, 0, 0, 0, 0, []),
  (105, .aload_n 0, 1, 0, 0, 0, 0, 0, []), (106, .bipush 18, 2, 0, 0, 0, 0, 18, []), (108, .invokevirtual 125, 3, 102, 2, 4, 611, 4, []), (111, .ifCond .eq 43, 3, 154, 0, 0, 0, 0, []), (114, .aload_n 0, 1, 0, 0, 0, 0, 0, []), (115, .getfield 58, 3, 4, 13, 1, 355, 0, []),
  (118, .bipush 29, 2, 0, 0, 0, 0, 29, []), (120, .if_icmp .lt 34, 3, 154, 0, 0, 0, 0, []), (123, .aload_n 0, 1, 0, 0, 0, 0, 0, []), (124, .invokevirtual 216, 3, 117, 1, 4, 659, 4, []), (127, .ifCond .eq 70, 3, 197, 0, 0, 0, 0, []), (130, .aload_n 0, 1, 0, 0, 0, 0, 0, []),
  (131, .invokevirtual 223, 3, 123, 1, 0, 647, 4, []), (134, .aload_n 0, 1, 0, 0, 0, 0, 0, []), (135, .dup, 1, 0, 0, 0, 0, 0, []), (136, .getfield 67, 3, 4, 16, 1, 358, 0, []), (139, .iconst 1, 1, 0, 0, 0, 0, 1, []), (140, .isub, 1, 0, 0, 0, 0, 0, []),
  (141, .putfield 67, 3, 4, 16, 1, 358, 0, []), (144, .aload_n 0, 1, 0, 0, 0, 0, 0, []), (145, .sipush 20002, 3, 0, 0, 0, 0, 20002, []), (148, .invokevirtual 110, 3, 116, 2, 0, 651, 4, []), (151, .goto 46, 3, 197, 0, 0, 0, 0, []), (154, .aload_n 0, 1, 0, 0, 0, 0, 0, []),
  (155, .getfield 42, 3, 4, 8, 1, 350, 0, []), (158, .iconst 1, 1, 0, 0, 0, 0, 1, []), (159, .if_icmp .ne 29, 3, 188, 0, 0, 0, 0, []), (162, .aload_n 0, 1, 0, 0, 0, 0, 0, []), (163, .invokevirtual 229, 3, 125, 1, 4, 671, 4, []), (166, .ifCond .eq 22, 3, 188, 0, 0, 0, 0, []),
  (169, .aload_n 0, 1, 0, 0, 0, 0, 0, []), (170, .sipush 10000, 3, 0, 0, 0, 0, 10000, []), (173, .aload_n 0, 1, 0, 0, 0, 0, 0, []), (174, .getfield 55, 3, 4, 12, 1, 354, 0, []), (177, .iadd, 1, 0, 0, 0, 0, 0, []), (178, .invokevirtual 110, 3, 116, 2, 0, 651, 4, []),
  (181, .aload_n 0, 1, 0, 0, 0, 0, 0, []), (182, .invokevirtual 119, 3, 100, 1, 0, 575, 4, []), (185, .goto 12, 3, 197, 0, 0, 0, 0, []), (188, .aload_n 0, 1, 0, 0, 0, 0, 0, []), (189, .iconst 1, 1, 0, 0, 0, 0, 1, []), (190, .aload_n 0, 1, 0, 0, 0, 0, 0, []),
  (191, .getfield 45, 3, 4, 9, 1, 351, 0, []), (194, .invokevirtual 89, 3, 99, 3, 0, 583, 4, []), (197, .return_, 1, 0, 0, 0, 0, 0, [])]
noncomputable def am_s124 : am_S := (yX4_readLesserOrGreater, cX4_readLesserOrGreater, 2, none, 1, 0, 2, 4, 670, 669, 26, 166)
noncomputable def am_c124 : List (Nat × am_E) := [(0, .aload_n 0, 1, 0, 0, 0, 0, 0, []), (1, .invokevirtual 119, 3, 100, 1, 0, 575, 4, []), (4, .aload_n 0, 1, 0, 0, 0, 0, 0, []), (5, .bipush 40, 2, 0, 0, 0, 0, 40, []), (7, .invokevirtual 129, 3, 103, 2, 4, 655, 4, []), (10, .ifCond .ne 12, 3, 22, 0, 0, 0, 0, []),
  (13, .aload_n 0, 1, 0, 0, 0, 0, 0, []), (14, .iconst 1, 1, 0, 0, 0, 0, 1, []), (15, .aload_n 0, 1, 0, 0, 0, 0, 0, []), (16, .getfield 45, 3, 4, 9, 1, 351, 0, []), (19, .invokevirtual 89, 3, 99, 3, 0, 583, 4, []), (22, .aload_n 0, 1, 0, 0, 0, 0, 0, []),
  (23, .invokevirtual 216, 3, 117, 1, 4, 659, 4, []), (26, .ifCond .eq 38, 3, 64, 0, 0, 0, 0, []), (29, .aload_n 0, 1, 0, 0, 0, 0, 0, []), (30, .invokevirtual 107, 3, 121, 1, 0, 639, 4, []), (33, .aload_n 0, 1, 0, 0, 0, 0, 0, []), (34, .bipush 44, 2, 0, 0, 0, 0, 44, []),
  (36, .invokevirtual 96, 3, 105, 2, 0, 663, 4, []), (39, .aload_n 0, 1, 0, 0, 0, 0, 0, []), (40, .invokevirtual 107, 3, 121, 1, 0, 639, 4, []), (43, .aload_n 0, 1, 0, 0, 0, 0, 0, []), (44, .bipush 41, 2, 0, 0, 0, 0, 41, []), (46, .invokevirtual 96, 3, 105, 2, 0, 663, 4, []),
  (49, .aload_n 0, 1, 0, 0, 0, 0, 0, []), (50, .dup, 1, 0, 0, 0, 0, 0, []), (51, .getfield 67, 3, 4, 16, 1, 358, 0, []), (54, .iconst 1, 1, 0, 0, 0, 0, 1, []), (55, .isub, 1, 0, 0, 0, 0, 0, []), (56, .putfield 67, 3, 4, 16, 1, 358, 0, []),
  (59, .aload_n 0, 1, 0, 0, 0, 0, 0, []), (60, .iload_n 1, 1, 1, 0, 0, 0, 0, []), (61, .invokevirtual 110, 3, 116, 2, 0, 651, 4, []), (64, .return_, 1, 0, 0, 0, 0, 0, [])]
noncomputable def am_s125 : am_S := (yX4_isFactHere, cX4_isFactHere, 1, (some .boolean), 1, 4, 1, 4, 674, 673, 27, 166)
noncomputable def am_c125 : List (Nat × am_E) := [(0, .aload_n 0, 1, 0, 0, 0, 0, 0, []), (1, .getfield 55, 3, 4, 12, 1, 354, 0, []), (4, .tableswitch 180 2 22 #[141, 180, 180, 180, 180, 180, 180, 180, 180, 180, 180, 180, 180, 180, 100, 102, 126, 141, 141, 165, 165], 100, 184, 0, 0, 0, 0, [(2, 145), (3, 184), (4, 184), (5, 184), (6, 184), (7, 184), (8, 184), (9, 184), (10, 184), (11, 184), (12, 184), (13, 184), (14, 184), (15, 184), (16, 104), (17, 106), (18, 130), (19, 145), (20, 145), (21, 169), (22, 169)]), (104, .iconst 1, 1, 0, 0, 0, 0, 1, []), (105, .ireturn, 1, 0, 0, 4, 0, 0, []), (106, .aload_n 0, 1, 0, 0, 0, 0, 0, []),
  (107, .getfield 58, 3, 4, 13, 1, 355, 0, []), (110, .bipush 9, 2, 0, 0, 0, 0, 9, []), (112, .if_icmp .eq 12, 3, 124, 0, 0, 0, 0, []), (115, .aload_n 0, 1, 0, 0, 0, 0, 0, []), (116, .getfield 58, 3, 4, 13, 1, 355, 0, []), (119, .bipush 10, 2, 0, 0, 0, 0, 10, []),
  (121, .if_icmp .ne 7, 3, 128, 0, 0, 0, 0, []), (124, .iconst 1, 1, 0, 0, 0, 0, 1, []), (125, .goto 4, 3, 129, 0, 0, 0, 0, []), (128, .iconst 0, 1, 0, 0, 0, 0, 0, []), (129, .ireturn, 1, 0, 0, 4, 0, 0, []), (130, .aload_n 0, 1, 0, 0, 0, 0, 0, []),
  (131, .getfield 58, 3, 4, 13, 1, 355, 0, []), (134, .bipush 9, 2, 0, 0, 0, 0, 9, []), (136, .if_icmp .ne 7, 3, 143, 0, 0, 0, 0, []), (139, .iconst 1, 1, 0, 0, 0, 0, 1, []), (140, .goto 4, 3, 144, 0, 0, 0, 0, []), (143, .iconst 0, 1, 0, 0, 0, 0, 0, []),
  (144, .ireturn, 1, 0, 0, 4, 0, 0, []), (145, .aload_n 0, 1, 0, 0, 0, 0, 0, []), (146, .getfield 58, 3, 4, 13, 1, 355, 0, []), (149, .bipush 11, 2, 0, 0, 0, 0, 11, []), (151, .if_icmp .eq 12, 3, 163, 0, 0, 0, 0, []), (154, .aload_n 0, 1, 0, 0, 0, 0, 0, []),
  (155, .getfield 58, 3, 4, 13, 1, 355, 0, []), (158, .bipush 29, 2, 0, 0, 0, 0, 29, []), (160, .if_icmp .lt 7, 3, 167, 0, 0, 0, 0, []), (163, .iconst 1, 1, 0, 0, 0, 0, 1, []), (164, .goto 4, 3, 168, 0, 0, 0, 0, []), (167, .iconst 0, 1, 0, 0, 0, 0, 0, []),
  (168, .ireturn, 1, 0, 0, 4, 0, 0, []), (169, .aload_n 0, 1, 0, 0, 0, 0, 0, []), (170, .getfield 58, 3, 4, 13, 1, 355, 0, []), (173, .bipush 29, 2, 0, 0, 0, 0, 29, []), (175, .if_icmp .lt 7, 3, 182, 0, 0, 0, 0, []), (178, .iconst 1, 1, 0, 0, 0, 0, 1, []),
  (179, .goto 4, 3, 183, 0, 0, 0, 0, []), (182, .iconst 0, 1, 0, 0, 0, 0, 0, []), (183, .ireturn, 1, 0, 0, 4, 0, 0, []), (184, .iconst 0, 1, 0, 0, 0, 0, 0, []), (185, .ireturn, 1, 0, 0, 4, 0, 0, [])]
noncomputable def am_s126 : am_S := (yX6_init, cX6_init, 1, none, 2, 0, 1, 6, 1063, 1062, 0, 175)
noncomputable def am_c126_0 : List (Nat × am_E) := [(0, .aload_n 0, 1, 0, 0, 0, 0, 0, []), (1, .invokespecial 1, 3, 0, 1, 9, 1064, 0, []), (4, .aload_n 0, 1, 0, 0, 0, 0, 0, []), (5, .sipush 1600, 3, 0, 0, 0, 0, 1600, []), (8, .newarray .int, 2, 2, 0, 0, 0, 0, []), (10, .putfield 7, 3, 6, 0, 3, 1065, 0, []),
  (13, .aload_n 0, 1, 0, 0, 0, 0, 0, []), (14, .iconst (-1), 1, 0, 0, 0, 0, (-1), []), (15, .putfield 13, 3, 6, 8, 1, 1073, 0, []), (18, .aload_n 0, 1, 0, 0, 0, 0, 0, []), (19, .bipush 6, 2, 0, 0, 0, 0, 6, []), (21, .newarray .int, 2, 2, 0, 0, 0, 0, []),
  (23, .putfield 17, 3, 6, 9, 3, 1074, 0, []), (26, .aload_n 0, 1, 0, 0, 0, 0, 0, []), (27, .iconst 4, 1, 0, 0, 0, 0, 4, []), (28, .newarray .char, 2, 4, 0, 0, 0, 0, []), (30, .dup, 1, 0, 0, 0, 0, 0, []), (31, .iconst 0, 1, 0, 0, 0, 0, 0, []),
  (32, .bipush 107, 2, 0, 0, 0, 0, 107, []), (34, .castore, 1, 0, 0, 0, 0, 0, []), (35, .dup, 1, 0, 0, 0, 0, 0, []), (36, .iconst 1, 1, 0, 0, 0, 0, 1, []), (37, .bipush 105, 2, 0, 0, 0, 0, 105, []), (39, .castore, 1, 0, 0, 0, 0, 0, []),
  (40, .dup, 1, 0, 0, 0, 0, 0, []), (41, .iconst 2, 1, 0, 0, 0, 0, 2, []), (42, .bipush 110, 2, 0, 0, 0, 0, 110, []), (44, .castore, 1, 0, 0, 0, 0, 0, []), (45, .dup, 1, 0, 0, 0, 0, 0, []), (46, .iconst 3, 1, 0, 0, 0, 0, 3, []),
  (47, .bipush 100, 2, 0, 0, 0, 0, 100, []), (49, .castore, 1, 0, 0, 0, 0, 0, []), (50, .putfield 20, 3, 6, 10, 3, 1075, 0, []), (53, .aload_n 0, 1, 0, 0, 0, 0, 0, []), (54, .iconst 4, 1, 0, 0, 0, 0, 4, []), (55, .newarray .char, 2, 4, 0, 0, 0, 0, []),
  (57, .dup, 1, 0, 0, 0, 0, 0, []), (58, .iconst 0, 1, 0, 0, 0, 0, 0, []), (59, .bipush 102, 2, 0, 0, 0, 0, 102, []), (61, .castore, 1, 0, 0, 0, 0, 0, []), (62, .dup, 1, 0, 0, 0, 0, 0, []), (63, .iconst 1, 1, 0, 0, 0, 0, 1, []),
  (64, .bipush 105, 2, 0, 0, 0, 0, 105, []), (66, .castore, 1, 0, 0, 0, 0, 0, []), (67, .dup, 1, 0, 0, 0, 0, 0, []), (68, .iconst 2, 1, 0, 0, 0, 0, 2, []), (69, .bipush 108, 2, 0, 0, 0, 0, 108, []), (71, .castore, 1, 0, 0, 0, 0, 0, []),
  (72, .dup, 1, 0, 0, 0, 0, 0, []), (73, .iconst 3, 1, 0, 0, 0, 0, 3, []), (74, .bipush 109, 2, 0, 0, 0, 0, 109, []), (76, .castore, 1, 0, 0, 0, 0, 0, []), (77, .putfield 24, 3, 6, 11, 3, 1076, 0, []), (80, .aload_n 0, 1, 0, 0, 0, 0, 0, []),
  (81, .iconst 5, 1, 0, 0, 0, 0, 5, []), (82, .newarray .char, 2, 4, 0, 0, 0, 0, []), (84, .dup, 1, 0, 0, 0, 0, 0, []), (85, .iconst 0, 1, 0, 0, 0, 0, 0, []), (86, .bipush 112, 2, 0, 0, 0, 0, 112, []), (88, .castore, 1, 0, 0, 0, 0, 0, []),
  (89, .dup, 1, 0, 0, 0, 0, 0, []), (90, .iconst 1, 1, 0, 0, 0, 0, 1, []), (91, .bipush 97, 2, 0, 0, 0, 0, 97, []), (93, .castore, 1, 0, 0, 0, 0, 0, []), (94, .dup, 1, 0, 0, 0, 0, 0, []), (95, .iconst 2, 1, 0, 0, 0, 0, 2, []),
  (96, .bipush 114, 2, 0, 0, 0, 0, 114, []), (98, .castore, 1, 0, 0, 0, 0, 0, []), (99, .dup, 1, 0, 0, 0, 0, 0, []), (100, .iconst 3, 1, 0, 0, 0, 0, 3, []), (101, .bipush 116, 2, 0, 0, 0, 0, 116, []), (103, .castore, 1, 0, 0, 0, 0, 0, []),
  (104, .dup, 1, 0, 0, 0, 0, 0, []), (105, .iconst 4, 1, 0, 0, 0, 0, 4, []), (106, .bipush 115, 2, 0, 0, 0, 0, 115, []), (108, .castore, 1, 0, 0, 0, 0, 0, []), (109, .putfield 27, 3, 6, 12, 3, 1077, 0, []), (112, .aload_n 0, 1, 0, 0, 0, 0, 0, []),
  (113, .iconst 2, 1, 0, 0, 0, 0, 2, []), (114, .newarray .char, 2, 4, 0, 0, 0, 0, []), (116, .dup, 1, 0, 0, 0, 0, 0, []), (117, .iconst 0, 1, 0, 0, 0, 0, 0, []), (118, .bipush 105, 2, 0, 0, 0, 0, 105, []), (120, .castore, 1, 0, 0, 0, 0, 0, []),
  (121, .dup, 1, 0, 0, 0, 0, 0, []), (122, .iconst 1, 1, 0, 0, 0, 0, 1, []), (123, .bipush 115, 2, 0, 0, 0, 0, 115, []), (125, .castore, 1, 0, 0, 0, 0, 0, []), (126, .putfield 30, 3, 6, 13, 3, 1078, 0, []), (129, .aload_n 0, 1, 0, 0, 0, 0, 0, []),
  (130, .bipush 6, 2, 0, 0, 0, 0, 6, []), (132, .newarray .char, 2, 4, 0, 0, 0, 0, []), (134, .dup, 1, 0, 0, 0, 0, 0, []), (135, .iconst 0, 1, 0, 0, 0, 0, 0, []), (136, .bipush 112, 2, 0, 0, 0, 0, 112, []), (138, .castore, 1, 0, 0, 0, 0, 0, []),
  (139, .dup, 1, 0, 0, 0, 0, 0, []), (140, .iconst 1, 1, 0, 0, 0, 0, 1, []), (141, .bipush 101, 2, 0, 0, 0, 0, 101, []), (143, .castore, 1, 0, 0, 0, 0, 0, [])]
noncomputable def am_c126_1 : List (Nat × am_E) := [(144, .dup, 1, 0, 0, 0, 0, 0, []), (145, .iconst 2, 1, 0, 0, 0, 0, 2, []), (146, .bipush 114, 2, 0, 0, 0, 0, 114, []), (148, .castore, 1, 0, 0, 0, 0, 0, []), (149, .dup, 1, 0, 0, 0, 0, 0, []), (150, .iconst 3, 1, 0, 0, 0, 0, 3, []),
  (151, .bipush 115, 2, 0, 0, 0, 0, 115, []), (153, .castore, 1, 0, 0, 0, 0, 0, []), (154, .dup, 1, 0, 0, 0, 0, 0, []), (155, .iconst 4, 1, 0, 0, 0, 0, 4, []), (156, .bipush 111, 2, 0, 0, 0, 0, 111, []), (158, .castore, 1, 0, 0, 0, 0, 0, []),
  (159, .dup, 1, 0, 0, 0, 0, 0, []), (160, .iconst 5, 1, 0, 0, 0, 0, 5, []), (161, .bipush 110, 2, 0, 0, 0, 0, 110, []), (163, .castore, 1, 0, 0, 0, 0, 0, []), (164, .putfield 33, 3, 6, 14, 3, 1079, 0, []), (167, .aload_n 0, 1, 0, 0, 0, 0, 0, []),
  (168, .iconst 2, 1, 0, 0, 0, 0, 2, []), (169, .newarray .char, 2, 4, 0, 0, 0, 0, []), (171, .dup, 1, 0, 0, 0, 0, 0, []), (172, .iconst 0, 1, 0, 0, 0, 0, 0, []), (173, .bipush 97, 2, 0, 0, 0, 0, 97, []), (175, .castore, 1, 0, 0, 0, 0, 0, []),
  (176, .dup, 1, 0, 0, 0, 0, 0, []), (177, .iconst 1, 1, 0, 0, 0, 0, 1, []), (178, .bipush 116, 2, 0, 0, 0, 0, 116, []), (180, .castore, 1, 0, 0, 0, 0, 0, []), (181, .putfield 36, 3, 6, 15, 3, 1080, 0, []), (184, .aload_n 0, 1, 0, 0, 0, 0, 0, []),
  (185, .iconst 2, 1, 0, 0, 0, 0, 2, []), (186, .newarray .char, 2, 4, 0, 0, 0, 0, []), (188, .dup, 1, 0, 0, 0, 0, 0, []), (189, .iconst 0, 1, 0, 0, 0, 0, 0, []), (190, .bipush 116, 2, 0, 0, 0, 0, 116, []), (192, .castore, 1, 0, 0, 0, 0, 0, []),
  (193, .dup, 1, 0, 0, 0, 0, 0, []), (194, .iconst 1, 1, 0, 0, 0, 0, 1, []), (195, .bipush 111, 2, 0, 0, 0, 0, 111, []), (197, .castore, 1, 0, 0, 0, 0, 0, []), (198, .putfield 39, 3, 6, 16, 3, 1081, 0, []), (201, .aload_n 0, 1, 0, 0, 0, 0, 0, []),
  (202, .iconst 5, 1, 0, 0, 0, 0, 5, []), (203, .newarray .char, 2, 4, 0, 0, 0, 0, []), (205, .dup, 1, 0, 0, 0, 0, 0, []), (206, .iconst 0, 1, 0, 0, 0, 0, 0, []), (207, .bipush 108, 2, 0, 0, 0, 0, 108, []), (209, .castore, 1, 0, 0, 0, 0, 0, []),
  (210, .dup, 1, 0, 0, 0, 0, 0, []), (211, .iconst 1, 1, 0, 0, 0, 0, 1, []), (212, .bipush 105, 2, 0, 0, 0, 0, 105, []), (214, .castore, 1, 0, 0, 0, 0, 0, []), (215, .dup, 1, 0, 0, 0, 0, 0, []), (216, .iconst 2, 1, 0, 0, 0, 0, 2, []),
  (217, .bipush 107, 2, 0, 0, 0, 0, 107, []), (219, .castore, 1, 0, 0, 0, 0, 0, []), (220, .dup, 1, 0, 0, 0, 0, 0, []), (221, .iconst 3, 1, 0, 0, 0, 0, 3, []), (222, .bipush 101, 2, 0, 0, 0, 0, 101, []), (224, .castore, 1, 0, 0, 0, 0, 0, []),
  (225, .dup, 1, 0, 0, 0, 0, 0, []), (226, .iconst 4, 1, 0, 0, 0, 0, 4, []), (227, .bipush 115, 2, 0, 0, 0, 0, 115, []), (229, .castore, 1, 0, 0, 0, 0, 0, []), (230, .putfield 42, 3, 6, 17, 3, 1082, 0, []), (233, .aload_n 0, 1, 0, 0, 0, 0, 0, []),
  (234, .iconst 5, 1, 0, 0, 0, 0, 5, []), (235, .newarray .char, 2, 4, 0, 0, 0, 0, []), (237, .dup, 1, 0, 0, 0, 0, 0, []), (238, .iconst 0, 1, 0, 0, 0, 0, 0, []), (239, .bipush 112, 2, 0, 0, 0, 0, 112, []), (241, .castore, 1, 0, 0, 0, 0, 0, []),
  (242, .dup, 1, 0, 0, 0, 0, 0, []), (243, .iconst 1, 1, 0, 0, 0, 0, 1, []), (244, .bipush 114, 2, 0, 0, 0, 0, 114, []), (246, .castore, 1, 0, 0, 0, 0, 0, []), (247, .dup, 1, 0, 0, 0, 0, 0, []), (248, .iconst 2, 1, 0, 0, 0, 0, 2, []),
  (249, .bipush 101, 2, 0, 0, 0, 0, 101, []), (251, .castore, 1, 0, 0, 0, 0, 0, []), (252, .dup, 1, 0, 0, 0, 0, 0, []), (253, .iconst 3, 1, 0, 0, 0, 0, 3, []), (254, .bipush 115, 2, 0, 0, 0, 0, 115, []), (256, .castore, 1, 0, 0, 0, 0, 0, []),
  (257, .dup, 1, 0, 0, 0, 0, 0, []), (258, .iconst 4, 1, 0, 0, 0, 0, 4, []), (259, .bipush 115, 2, 0, 0, 0, 0, 115, []), (261, .castore, 1, 0, 0, 0, 0, 0, []), (262, .putfield 45, 3, 6, 18, 3, 1083, 0, []), (265, .aload_n 0, 1, 0, 0, 0, 0, 0, []),
  (266, .bipush 6, 2, 0, 0, 0, 0, 6, []), (268, .newarray .char, 2, 4, 0, 0, 0, 0, []), (270, .dup, 1, 0, 0, 0, 0, 0, []), (271, .iconst 0, 1, 0, 0, 0, 0, 0, []), (272, .bipush 108, 2, 0, 0, 0, 0, 108, []), (274, .castore, 1, 0, 0, 0, 0, 0, []),
  (275, .dup, 1, 0, 0, 0, 0, 0, []), (276, .iconst 1, 1, 0, 0, 0, 0, 1, []), (277, .bipush 101, 2, 0, 0, 0, 0, 101, []), (279, .castore, 1, 0, 0, 0, 0, 0, [])]
noncomputable def am_c126_2 : List (Nat × am_E) := [(280, .dup, 1, 0, 0, 0, 0, 0, []), (281, .iconst 2, 1, 0, 0, 0, 0, 2, []), (282, .bipush 97, 2, 0, 0, 0, 0, 97, []), (284, .castore, 1, 0, 0, 0, 0, 0, []), (285, .dup, 1, 0, 0, 0, 0, 0, []), (286, .iconst 3, 1, 0, 0, 0, 0, 3, []),
  (287, .bipush 114, 2, 0, 0, 0, 0, 114, []), (289, .castore, 1, 0, 0, 0, 0, 0, []), (290, .dup, 1, 0, 0, 0, 0, 0, []), (291, .iconst 4, 1, 0, 0, 0, 0, 4, []), (292, .bipush 110, 2, 0, 0, 0, 0, 110, []), (294, .castore, 1, 0, 0, 0, 0, 0, []),
  (295, .dup, 1, 0, 0, 0, 0, 0, []), (296, .iconst 5, 1, 0, 0, 0, 0, 5, []), (297, .bipush 115, 2, 0, 0, 0, 0, 115, []), (299, .castore, 1, 0, 0, 0, 0, 0, []), (300, .putfield 48, 3, 6, 19, 3, 1084, 0, []), (303, .aload_n 0, 1, 0, 0, 0, 0, 0, []),
  (304, .iconst 5, 1, 0, 0, 0, 0, 5, []), (305, .newarray .char, 2, 4, 0, 0, 0, 0, []), (307, .dup, 1, 0, 0, 0, 0, 0, []), (308, .iconst 0, 1, 0, 0, 0, 0, 0, []), (309, .bipush 102, 2, 0, 0, 0, 0, 102, []), (311, .castore, 1, 0, 0, 0, 0, 0, []),
  (312, .dup, 1, 0, 0, 0, 0, 0, []), (313, .iconst 1, 1, 0, 0, 0, 0, 1, []), (314, .bipush 97, 2, 0, 0, 0, 0, 97, []), (316, .castore, 1, 0, 0, 0, 0, 0, []), (317, .dup, 1, 0, 0, 0, 0, 0, []), (318, .iconst 2, 1, 0, 0, 0, 0, 2, []),
  (319, .bipush 100, 2, 0, 0, 0, 0, 100, []), (321, .castore, 1, 0, 0, 0, 0, 0, []), (322, .dup, 1, 0, 0, 0, 0, 0, []), (323, .iconst 3, 1, 0, 0, 0, 0, 3, []), (324, .bipush 101, 2, 0, 0, 0, 0, 101, []), (326, .castore, 1, 0, 0, 0, 0, 0, []),
  (327, .dup, 1, 0, 0, 0, 0, 0, []), (328, .iconst 4, 1, 0, 0, 0, 0, 4, []), (329, .bipush 115, 2, 0, 0, 0, 0, 115, []), (331, .castore, 1, 0, 0, 0, 0, 0, []), (332, .putfield 51, 3, 6, 20, 3, 1085, 0, []), (335, .aload_n 0, 1, 0, 0, 0, 0, 0, []),
  (336, .iconst 3, 1, 0, 0, 0, 0, 3, []), (337, .newarray .char, 2, 4, 0, 0, 0, 0, []), (339, .dup, 1, 0, 0, 0, 0, 0, []), (340, .iconst 0, 1, 0, 0, 0, 0, 0, []), (341, .bipush 109, 2, 0, 0, 0, 0, 109, []), (343, .castore, 1, 0, 0, 0, 0, 0, []),
  (344, .dup, 1, 0, 0, 0, 0, 0, []), (345, .iconst 1, 1, 0, 0, 0, 0, 1, []), (346, .bipush 97, 2, 0, 0, 0, 0, 97, []), (348, .castore, 1, 0, 0, 0, 0, 0, []), (349, .dup, 1, 0, 0, 0, 0, 0, []), (350, .iconst 2, 1, 0, 0, 0, 0, 2, []),
  (351, .bipush 121, 2, 0, 0, 0, 0, 121, []), (353, .castore, 1, 0, 0, 0, 0, 0, []), (354, .putfield 54, 3, 6, 21, 3, 1086, 0, []), (357, .aload_n 0, 1, 0, 0, 0, 0, 0, []), (358, .bipush 7, 2, 0, 0, 0, 0, 7, []), (360, .newarray .char, 2, 4, 0, 0, 0, 0, []),
  (362, .dup, 1, 0, 0, 0, 0, 0, []), (363, .iconst 0, 1, 0, 0, 0, 0, 0, []), (364, .bipush 115, 2, 0, 0, 0, 0, 115, []), (366, .castore, 1, 0, 0, 0, 0, 0, []), (367, .dup, 1, 0, 0, 0, 0, 0, []), (368, .iconst 1, 1, 0, 0, 0, 0, 1, []),
  (369, .bipush 99, 2, 0, 0, 0, 0, 99, []), (371, .castore, 1, 0, 0, 0, 0, 0, []), (372, .dup, 1, 0, 0, 0, 0, 0, []), (373, .iconst 2, 1, 0, 0, 0, 0, 2, []), (374, .bipush 114, 2, 0, 0, 0, 0, 114, []), (376, .castore, 1, 0, 0, 0, 0, 0, []),
  (377, .dup, 1, 0, 0, 0, 0, 0, []), (378, .iconst 3, 1, 0, 0, 0, 0, 3, []), (379, .bipush 101, 2, 0, 0, 0, 0, 101, []), (381, .castore, 1, 0, 0, 0, 0, 0, []), (382, .dup, 1, 0, 0, 0, 0, 0, []), (383, .iconst 4, 1, 0, 0, 0, 0, 4, []),
  (384, .bipush 101, 2, 0, 0, 0, 0, 101, []), (386, .castore, 1, 0, 0, 0, 0, 0, []), (387, .dup, 1, 0, 0, 0, 0, 0, []), (388, .iconst 5, 1, 0, 0, 0, 0, 5, []), (389, .bipush 110, 2, 0, 0, 0, 0, 110, []), (391, .castore, 1, 0, 0, 0, 0, 0, []),
  (392, .dup, 1, 0, 0, 0, 0, 0, []), (393, .bipush 6, 2, 0, 0, 0, 0, 6, []), (395, .bipush 115, 2, 0, 0, 0, 0, 115, []), (397, .castore, 1, 0, 0, 0, 0, 0, []), (398, .putfield 57, 3, 6, 22, 3, 1087, 0, []), (401, .aload_n 0, 1, 0, 0, 0, 0, 0, []),
  (402, .iconst 5, 1, 0, 0, 0, 0, 5, []), (403, .newarray .char, 2, 4, 0, 0, 0, 0, []), (405, .dup, 1, 0, 0, 0, 0, 0, []), (406, .iconst 0, 1, 0, 0, 0, 0, 0, []), (407, .bipush 112, 2, 0, 0, 0, 0, 112, []), (409, .castore, 1, 0, 0, 0, 0, 0, []),
  (410, .dup, 1, 0, 0, 0, 0, 0, []), (411, .iconst 1, 1, 0, 0, 0, 0, 1, []), (412, .bipush 114, 2, 0, 0, 0, 0, 114, []), (414, .castore, 1, 0, 0, 0, 0, 0, [])]
noncomputable def am_c126_3 : List (Nat × am_E) := [(415, .dup, 1, 0, 0, 0, 0, 0, []), (416, .iconst 2, 1, 0, 0, 0, 0, 2, []), (417, .bipush 105, 2, 0, 0, 0, 0, 105, []), (419, .castore, 1, 0, 0, 0, 0, 0, []), (420, .dup, 1, 0, 0, 0, 0, 0, []), (421, .iconst 3, 1, 0, 0, 0, 0, 3, []),
  (422, .bipush 99, 2, 0, 0, 0, 0, 99, []), (424, .castore, 1, 0, 0, 0, 0, 0, []), (425, .dup, 1, 0, 0, 0, 0, 0, []), (426, .iconst 4, 1, 0, 0, 0, 0, 4, []), (427, .bipush 101, 2, 0, 0, 0, 0, 101, []), (429, .castore, 1, 0, 0, 0, 0, 0, []),
  (430, .putfield 60, 3, 6, 23, 3, 1088, 0, []), (433, .aload_n 0, 1, 0, 0, 0, 0, 0, []), (434, .bipush 6, 2, 0, 0, 0, 0, 6, []), (436, .newarray .char, 2, 4, 0, 0, 0, 0, []), (438, .dup, 1, 0, 0, 0, 0, 0, []), (439, .iconst 0, 1, 0, 0, 0, 0, 0, []),
  (440, .bipush 98, 2, 0, 0, 0, 0, 98, []), (442, .castore, 1, 0, 0, 0, 0, 0, []), (443, .dup, 1, 0, 0, 0, 0, 0, []), (444, .iconst 1, 1, 0, 0, 0, 0, 1, []), (445, .bipush 111, 2, 0, 0, 0, 0, 111, []), (447, .castore, 1, 0, 0, 0, 0, 0, []),
  (448, .dup, 1, 0, 0, 0, 0, 0, []), (449, .iconst 2, 1, 0, 0, 0, 0, 2, []), (450, .bipush 116, 2, 0, 0, 0, 0, 116, []), (452, .castore, 1, 0, 0, 0, 0, 0, []), (453, .dup, 1, 0, 0, 0, 0, 0, []), (454, .iconst 3, 1, 0, 0, 0, 0, 3, []),
  (455, .bipush 104, 2, 0, 0, 0, 0, 104, []), (457, .castore, 1, 0, 0, 0, 0, 0, []), (458, .dup, 1, 0, 0, 0, 0, 0, []), (459, .iconst 4, 1, 0, 0, 0, 0, 4, []), (460, .bipush 101, 2, 0, 0, 0, 0, 101, []), (462, .castore, 1, 0, 0, 0, 0, 0, []),
  (463, .dup, 1, 0, 0, 0, 0, 0, []), (464, .iconst 5, 1, 0, 0, 0, 0, 5, []), (465, .bipush 114, 2, 0, 0, 0, 0, 114, []), (467, .castore, 1, 0, 0, 0, 0, 0, []), (468, .putfield 63, 3, 6, 24, 3, 1089, 0, []), (471, .aload_n 0, 1, 0, 0, 0, 0, 0, []),
  (472, .bipush 7, 2, 0, 0, 0, 0, 7, []), (474, .newarray .char, 2, 4, 0, 0, 0, 0, []), (476, .dup, 1, 0, 0, 0, 0, 0, []), (477, .iconst 0, 1, 0, 0, 0, 0, 0, []), (478, .bipush 115, 2, 0, 0, 0, 0, 115, []), (480, .castore, 1, 0, 0, 0, 0, 0, []),
  (481, .dup, 1, 0, 0, 0, 0, 0, []), (482, .iconst 1, 1, 0, 0, 0, 0, 1, []), (483, .bipush 116, 2, 0, 0, 0, 0, 116, []), (485, .castore, 1, 0, 0, 0, 0, 0, []), (486, .dup, 1, 0, 0, 0, 0, 0, []), (487, .iconst 2, 1, 0, 0, 0, 0, 2, []),
  (488, .bipush 114, 2, 0, 0, 0, 0, 114, []), (490, .castore, 1, 0, 0, 0, 0, 0, []), (491, .dup, 1, 0, 0, 0, 0, 0, []), (492, .iconst 3, 1, 0, 0, 0, 0, 3, []), (493, .bipush 97, 2, 0, 0, 0, 0, 97, []), (495, .castore, 1, 0, 0, 0, 0, 0, []),
  (496, .dup, 1, 0, 0, 0, 0, 0, []), (497, .iconst 4, 1, 0, 0, 0, 0, 4, []), (498, .bipush 110, 2, 0, 0, 0, 0, 110, []), (500, .castore, 1, 0, 0, 0, 0, 0, []), (501, .dup, 1, 0, 0, 0, 0, 0, []), (502, .iconst 5, 1, 0, 0, 0, 0, 5, []),
  (503, .bipush 103, 2, 0, 0, 0, 0, 103, []), (505, .castore, 1, 0, 0, 0, 0, 0, []), (506, .dup, 1, 0, 0, 0, 0, 0, []), (507, .bipush 6, 2, 0, 0, 0, 0, 6, []), (509, .bipush 101, 2, 0, 0, 0, 0, 101, []), (511, .castore, 1, 0, 0, 0, 0, 0, []),
  (512, .putfield 66, 3, 6, 25, 3, 1090, 0, []), (515, .aload_n 0, 1, 0, 0, 0, 0, 0, []), (516, .iconst 4, 1, 0, 0, 0, 0, 4, []), (517, .newarray .char, 2, 4, 0, 0, 0, 0, []), (519, .dup, 1, 0, 0, 0, 0, 0, []), (520, .iconst 0, 1, 0, 0, 0, 0, 0, []),
  (521, .bipush 104, 2, 0, 0, 0, 0, 104, []), (523, .castore, 1, 0, 0, 0, 0, 0, []), (524, .dup, 1, 0, 0, 0, 0, 0, []), (525, .iconst 1, 1, 0, 0, 0, 0, 1, []), (526, .bipush 111, 2, 0, 0, 0, 0, 111, []), (528, .castore, 1, 0, 0, 0, 0, 0, []),
  (529, .dup, 1, 0, 0, 0, 0, 0, []), (530, .iconst 2, 1, 0, 0, 0, 0, 2, []), (531, .bipush 117, 2, 0, 0, 0, 0, 117, []), (533, .castore, 1, 0, 0, 0, 0, 0, []), (534, .dup, 1, 0, 0, 0, 0, 0, []), (535, .iconst 3, 1, 0, 0, 0, 0, 3, []),
  (536, .bipush 114, 2, 0, 0, 0, 0, 114, []), (538, .castore, 1, 0, 0, 0, 0, 0, []), (539, .putfield 69, 3, 6, 26, 3, 1091, 0, []), (542, .aload_n 0, 1, 0, 0, 0, 0, 0, []), (543, .iconst 5, 1, 0, 0, 0, 0, 5, []), (544, .newarray .char, 2, 4, 0, 0, 0, 0, []),
  (546, .dup, 1, 0, 0, 0, 0, 0, []), (547, .iconst 0, 1, 0, 0, 0, 0, 0, []), (548, .bipush 116, 2, 0, 0, 0, 0, 116, []), (550, .castore, 1, 0, 0, 0, 0, 0, [])]
noncomputable def am_c126_4 : List (Nat × am_E) := [(551, .dup, 1, 0, 0, 0, 0, 0, []), (552, .iconst 1, 1, 0, 0, 0, 0, 1, []), (553, .bipush 97, 2, 0, 0, 0, 0, 97, []), (555, .castore, 1, 0, 0, 0, 0, 0, []), (556, .dup, 1, 0, 0, 0, 0, 0, []), (557, .iconst 2, 1, 0, 0, 0, 0, 2, []),
  (558, .bipush 115, 2, 0, 0, 0, 0, 115, []), (560, .castore, 1, 0, 0, 0, 0, 0, []), (561, .dup, 1, 0, 0, 0, 0, 0, []), (562, .iconst 3, 1, 0, 0, 0, 0, 3, []), (563, .bipush 116, 2, 0, 0, 0, 0, 116, []), (565, .castore, 1, 0, 0, 0, 0, 0, []),
  (566, .dup, 1, 0, 0, 0, 0, 0, []), (567, .iconst 4, 1, 0, 0, 0, 0, 4, []), (568, .bipush 101, 2, 0, 0, 0, 0, 101, []), (570, .castore, 1, 0, 0, 0, 0, 0, []), (571, .putfield 72, 3, 6, 27, 3, 1092, 0, []), (574, .aload_n 0, 1, 0, 0, 0, 0, 0, []),
  (575, .bipush 6, 2, 0, 0, 0, 0, 6, []), (577, .newarray .char, 2, 4, 0, 0, 0, 0, []), (579, .dup, 1, 0, 0, 0, 0, 0, []), (580, .iconst 0, 1, 0, 0, 0, 0, 0, []), (581, .bipush 119, 2, 0, 0, 0, 0, 119, []), (583, .castore, 1, 0, 0, 0, 0, 0, []),
  (584, .dup, 1, 0, 0, 0, 0, 0, []), (585, .iconst 1, 1, 0, 0, 0, 0, 1, []), (586, .bipush 101, 2, 0, 0, 0, 0, 101, []), (588, .castore, 1, 0, 0, 0, 0, 0, []), (589, .dup, 1, 0, 0, 0, 0, 0, []), (590, .iconst 2, 1, 0, 0, 0, 0, 2, []),
  (591, .bipush 105, 2, 0, 0, 0, 0, 105, []), (593, .castore, 1, 0, 0, 0, 0, 0, []), (594, .dup, 1, 0, 0, 0, 0, 0, []), (595, .iconst 3, 1, 0, 0, 0, 0, 3, []), (596, .bipush 103, 2, 0, 0, 0, 0, 103, []), (598, .castore, 1, 0, 0, 0, 0, 0, []),
  (599, .dup, 1, 0, 0, 0, 0, 0, []), (600, .iconst 4, 1, 0, 0, 0, 0, 4, []), (601, .bipush 104, 2, 0, 0, 0, 0, 104, []), (603, .castore, 1, 0, 0, 0, 0, 0, []), (604, .dup, 1, 0, 0, 0, 0, 0, []), (605, .iconst 5, 1, 0, 0, 0, 0, 5, []),
  (606, .bipush 116, 2, 0, 0, 0, 0, 116, []), (608, .castore, 1, 0, 0, 0, 0, 0, []), (609, .putfield 75, 3, 6, 28, 3, 1093, 0, []), (612, .aload_n 0, 1, 0, 0, 0, 0, 0, []), (613, .iconst 4, 1, 0, 0, 0, 0, 4, []), (614, .newarray .char, 2, 4, 0, 0, 0, 0, []),
  (616, .dup, 1, 0, 0, 0, 0, 0, []), (617, .iconst 0, 1, 0, 0, 0, 0, 0, []), (618, .bipush 115, 2, 0, 0, 0, 0, 115, []), (620, .castore, 1, 0, 0, 0, 0, 0, []), (621, .dup, 1, 0, 0, 0, 0, 0, []), (622, .iconst 1, 1, 0, 0, 0, 0, 1, []),
  (623, .bipush 101, 2, 0, 0, 0, 0, 101, []), (625, .castore, 1, 0, 0, 0, 0, 0, []), (626, .dup, 1, 0, 0, 0, 0, 0, []), (627, .iconst 2, 1, 0, 0, 0, 0, 2, []), (628, .bipush 101, 2, 0, 0, 0, 0, 101, []), (630, .castore, 1, 0, 0, 0, 0, 0, []),
  (631, .dup, 1, 0, 0, 0, 0, 0, []), (632, .iconst 3, 1, 0, 0, 0, 0, 3, []), (633, .bipush 110, 2, 0, 0, 0, 0, 110, []), (635, .castore, 1, 0, 0, 0, 0, 0, []), (636, .putfield 78, 3, 6, 29, 3, 1094, 0, []), (639, .aload_n 0, 1, 0, 0, 0, 0, 0, []),
  (640, .iconst 5, 1, 0, 0, 0, 0, 5, []), (641, .newarray .char, 2, 4, 0, 0, 0, 0, []), (643, .dup, 1, 0, 0, 0, 0, 0, []), (644, .iconst 0, 1, 0, 0, 0, 0, 0, []), (645, .bipush 115, 2, 0, 0, 0, 0, 115, []), (647, .castore, 1, 0, 0, 0, 0, 0, []),
  (648, .dup, 1, 0, 0, 0, 0, 0, []), (649, .iconst 1, 1, 0, 0, 0, 0, 1, []), (650, .bipush 99, 2, 0, 0, 0, 0, 99, []), (652, .castore, 1, 0, 0, 0, 0, 0, []), (653, .dup, 1, 0, 0, 0, 0, 0, []), (654, .iconst 2, 1, 0, 0, 0, 0, 2, []),
  (655, .bipush 111, 2, 0, 0, 0, 0, 111, []), (657, .castore, 1, 0, 0, 0, 0, 0, []), (658, .dup, 1, 0, 0, 0, 0, 0, []), (659, .iconst 3, 1, 0, 0, 0, 0, 3, []), (660, .bipush 114, 2, 0, 0, 0, 0, 114, []), (662, .castore, 1, 0, 0, 0, 0, 0, []),
  (663, .dup, 1, 0, 0, 0, 0, 0, []), (664, .iconst 4, 1, 0, 0, 0, 0, 4, []), (665, .bipush 101, 2, 0, 0, 0, 0, 101, []), (667, .castore, 1, 0, 0, 0, 0, 0, []), (668, .putfield 81, 3, 6, 30, 3, 1095, 0, []), (671, .aload_n 0, 1, 0, 0, 0, 0, 0, []),
  (672, .iconst 5, 1, 0, 0, 0, 0, 5, []), (673, .newarray .char, 2, 4, 0, 0, 0, 0, []), (675, .dup, 1, 0, 0, 0, 0, 0, []), (676, .iconst 0, 1, 0, 0, 0, 0, 0, []), (677, .bipush 119, 2, 0, 0, 0, 0, 119, []), (679, .castore, 1, 0, 0, 0, 0, 0, []),
  (680, .dup, 1, 0, 0, 0, 0, 0, []), (681, .iconst 1, 1, 0, 0, 0, 0, 1, []), (682, .bipush 111, 2, 0, 0, 0, 0, 111, []), (684, .castore, 1, 0, 0, 0, 0, 0, [])]
noncomputable def am_c126_5 : List (Nat × am_E) := [(685, .dup, 1, 0, 0, 0, 0, 0, []), (686, .iconst 2, 1, 0, 0, 0, 0, 2, []), (687, .bipush 114, 2, 0, 0, 0, 0, 114, []), (689, .castore, 1, 0, 0, 0, 0, 0, []), (690, .dup, 1, 0, 0, 0, 0, 0, []), (691, .iconst 3, 1, 0, 0, 0, 0, 3, []),
  (692, .bipush 116, 2, 0, 0, 0, 0, 116, []), (694, .castore, 1, 0, 0, 0, 0, 0, []), (695, .dup, 1, 0, 0, 0, 0, 0, []), (696, .iconst 4, 1, 0, 0, 0, 0, 4, []), (697, .bipush 104, 2, 0, 0, 0, 0, 104, []), (699, .castore, 1, 0, 0, 0, 0, 0, []),
  (700, .putfield 84, 3, 6, 31, 3, 1096, 0, []), (703, .aload_n 0, 1, 0, 0, 0, 0, 0, []), (704, .bipush 6, 2, 0, 0, 0, 0, 6, []), (706, .newarray .char, 2, 4, 0, 0, 0, 0, []), (708, .dup, 1, 0, 0, 0, 0, 0, []), (709, .iconst 0, 1, 0, 0, 0, 0, 0, []),
  (710, .bipush 110, 2, 0, 0, 0, 0, 110, []), (712, .castore, 1, 0, 0, 0, 0, 0, []), (713, .dup, 1, 0, 0, 0, 0, 0, []), (714, .iconst 1, 1, 0, 0, 0, 0, 1, []), (715, .bipush 117, 2, 0, 0, 0, 0, 117, []), (717, .castore, 1, 0, 0, 0, 0, 0, []),
  (718, .dup, 1, 0, 0, 0, 0, 0, []), (719, .iconst 2, 1, 0, 0, 0, 0, 2, []), (720, .bipush 109, 2, 0, 0, 0, 0, 109, []), (722, .castore, 1, 0, 0, 0, 0, 0, []), (723, .dup, 1, 0, 0, 0, 0, 0, []), (724, .iconst 3, 1, 0, 0, 0, 0, 3, []),
  (725, .bipush 98, 2, 0, 0, 0, 0, 98, []), (727, .castore, 1, 0, 0, 0, 0, 0, []), (728, .dup, 1, 0, 0, 0, 0, 0, []), (729, .iconst 4, 1, 0, 0, 0, 0, 4, []), (730, .bipush 101, 2, 0, 0, 0, 0, 101, []), (732, .castore, 1, 0, 0, 0, 0, 0, []),
  (733, .dup, 1, 0, 0, 0, 0, 0, []), (734, .iconst 5, 1, 0, 0, 0, 0, 5, []), (735, .bipush 114, 2, 0, 0, 0, 0, 114, []), (737, .castore, 1, 0, 0, 0, 0, 0, []), (738, .putfield 87, 3, 6, 32, 3, 1097, 0, []), (741, .aload_n 0, 1, 0, 0, 0, 0, 0, []),
  (742, .iconst 2, 1, 0, 0, 0, 0, 2, []), (743, .newarray .char, 2, 4, 0, 0, 0, 0, []), (745, .dup, 1, 0, 0, 0, 0, 0, []), (746, .iconst 0, 1, 0, 0, 0, 0, 0, []), (747, .bipush 111, 2, 0, 0, 0, 0, 111, []), (749, .castore, 1, 0, 0, 0, 0, 0, []),
  (750, .dup, 1, 0, 0, 0, 0, 0, []), (751, .iconst 1, 1, 0, 0, 0, 0, 1, []), (752, .bipush 114, 2, 0, 0, 0, 0, 114, []), (754, .castore, 1, 0, 0, 0, 0, 0, []), (755, .putfield 90, 3, 6, 33, 3, 1098, 0, []), (758, .aload_n 0, 1, 0, 0, 0, 0, 0, []),
  (759, .iconst 3, 1, 0, 0, 0, 0, 3, []), (760, .newarray .char, 2, 4, 0, 0, 0, 0, []), (762, .dup, 1, 0, 0, 0, 0, 0, []), (763, .iconst 0, 1, 0, 0, 0, 0, 0, []), (764, .bipush 97, 2, 0, 0, 0, 0, 97, []), (766, .castore, 1, 0, 0, 0, 0, 0, []),
  (767, .dup, 1, 0, 0, 0, 0, 0, []), (768, .iconst 1, 1, 0, 0, 0, 0, 1, []), (769, .bipush 110, 2, 0, 0, 0, 0, 110, []), (771, .castore, 1, 0, 0, 0, 0, 0, []), (772, .dup, 1, 0, 0, 0, 0, 0, []), (773, .iconst 2, 1, 0, 0, 0, 0, 2, []),
  (774, .bipush 100, 2, 0, 0, 0, 0, 100, []), (776, .castore, 1, 0, 0, 0, 0, 0, []), (777, .putfield 93, 3, 6, 34, 3, 1099, 0, []), (780, .aload_n 0, 1, 0, 0, 0, 0, 0, []), (781, .iconst 3, 1, 0, 0, 0, 0, 3, []), (782, .newarray .char, 2, 4, 0, 0, 0, 0, []),
  (784, .dup, 1, 0, 0, 0, 0, 0, []), (785, .iconst 0, 1, 0, 0, 0, 0, 0, []), (786, .bipush 110, 2, 0, 0, 0, 0, 110, []), (788, .castore, 1, 0, 0, 0, 0, 0, []), (789, .dup, 1, 0, 0, 0, 0, 0, []), (790, .iconst 1, 1, 0, 0, 0, 0, 1, []),
  (791, .bipush 111, 2, 0, 0, 0, 0, 111, []), (793, .castore, 1, 0, 0, 0, 0, 0, []), (794, .dup, 1, 0, 0, 0, 0, 0, []), (795, .iconst 2, 1, 0, 0, 0, 0, 2, []), (796, .bipush 116, 2, 0, 0, 0, 0, 116, []), (798, .castore, 1, 0, 0, 0, 0, 0, []),
  (799, .putfield 96, 3, 6, 35, 3, 1100, 0, []), (802, .aload_n 0, 1, 0, 0, 0, 0, 0, []), (803, .iconst 3, 1, 0, 0, 0, 0, 3, []), (804, .newarray .char, 2, 4, 0, 0, 0, 0, []), (806, .dup, 1, 0, 0, 0, 0, 0, []), (807, .iconst 0, 1, 0, 0, 0, 0, 0, []),
  (808, .bipush 97, 2, 0, 0, 0, 0, 97, []), (810, .castore, 1, 0, 0, 0, 0, 0, []), (811, .dup, 1, 0, 0, 0, 0, 0, []), (812, .iconst 1, 1, 0, 0, 0, 0, 1, []), (813, .bipush 108, 2, 0, 0, 0, 0, 108, []), (815, .castore, 1, 0, 0, 0, 0, 0, []),
  (816, .dup, 1, 0, 0, 0, 0, 0, []), (817, .iconst 2, 1, 0, 0, 0, 0, 2, []), (818, .bipush 108, 2, 0, 0, 0, 0, 108, []), (820, .castore, 1, 0, 0, 0, 0, 0, [])]
noncomputable def am_c126_6 : List (Nat × am_E) := [(821, .putfield 99, 3, 6, 36, 3, 1101, 0, []), (824, .aload_n 0, 1, 0, 0, 0, 0, 0, []), (825, .iconst 3, 1, 0, 0, 0, 0, 3, []), (826, .newarray .char, 2, 4, 0, 0, 0, 0, []), (828, .dup, 1, 0, 0, 0, 0, 0, []), (829, .iconst 0, 1, 0, 0, 0, 0, 0, []),
  (830, .bipush 109, 2, 0, 0, 0, 0, 109, []), (832, .castore, 1, 0, 0, 0, 0, 0, []), (833, .dup, 1, 0, 0, 0, 0, 0, []), (834, .iconst 1, 1, 0, 0, 0, 0, 1, []), (835, .bipush 105, 2, 0, 0, 0, 0, 105, []), (837, .castore, 1, 0, 0, 0, 0, 0, []),
  (838, .dup, 1, 0, 0, 0, 0, 0, []), (839, .iconst 2, 1, 0, 0, 0, 0, 2, []), (840, .bipush 110, 2, 0, 0, 0, 0, 110, []), (842, .castore, 1, 0, 0, 0, 0, 0, []), (843, .putfield 102, 3, 6, 37, 3, 1102, 0, []), (846, .aload_n 0, 1, 0, 0, 0, 0, 0, []),
  (847, .iconst 3, 1, 0, 0, 0, 0, 3, []), (848, .newarray .char, 2, 4, 0, 0, 0, 0, []), (850, .dup, 1, 0, 0, 0, 0, 0, []), (851, .iconst 0, 1, 0, 0, 0, 0, 0, []), (852, .bipush 109, 2, 0, 0, 0, 0, 109, []), (854, .castore, 1, 0, 0, 0, 0, 0, []),
  (855, .dup, 1, 0, 0, 0, 0, 0, []), (856, .iconst 1, 1, 0, 0, 0, 0, 1, []), (857, .bipush 97, 2, 0, 0, 0, 0, 97, []), (859, .castore, 1, 0, 0, 0, 0, 0, []), (860, .dup, 1, 0, 0, 0, 0, 0, []), (861, .iconst 2, 1, 0, 0, 0, 0, 2, []),
  (862, .bipush 120, 2, 0, 0, 0, 0, 120, []), (864, .castore, 1, 0, 0, 0, 0, 0, []), (865, .putfield 105, 3, 6, 38, 3, 1103, 0, []), (868, .aload_n 0, 1, 0, 0, 0, 0, 0, []), (869, .bipush 6, 2, 0, 0, 0, 0, 6, []), (871, .newarray .int, 2, 2, 0, 0, 0, 0, []),
  (873, .putfield 108, 3, 6, 40, 3, 1105, 0, []), (876, .aload_n 0, 1, 0, 0, 0, 0, 0, []), (877, .bipush 48, 2, 0, 0, 0, 0, 48, []), (879, .newarray .long, 2, 3, 0, 0, 0, 0, []), (881, .putfield 111, 3, 6, 41, 3, 1106, 0, []), (884, .aload_n 0, 1, 0, 0, 0, 0, 0, []),
  (885, .bipush 16, 2, 0, 0, 0, 0, 16, []), (887, .newarray .int, 2, 2, 0, 0, 0, 0, []), (889, .putfield 115, 3, 6, 42, 3, 1107, 0, []), (892, .aload_n 0, 1, 0, 0, 0, 0, 0, []), (893, .bipush 96, 2, 0, 0, 0, 0, 96, []), (895, .newarray .int, 2, 2, 0, 0, 0, 0, []),
  (897, .putfield 118, 3, 6, 43, 3, 1108, 0, []), (900, .aload_n 0, 1, 0, 0, 0, 0, 0, []), (901, .bipush 20, 2, 0, 0, 0, 0, 20, []), (903, .newarray .int, 2, 2, 0, 0, 0, 0, []), (905, .putfield 121, 3, 6, 44, 3, 1109, 0, []), (908, .aload_n 0, 1, 0, 0, 0, 0, 0, []),
  (909, .bipush 60, 2, 0, 0, 0, 0, 60, []), (911, .newarray .int, 2, 2, 0, 0, 0, 0, []), (913, .putfield 124, 3, 6, 45, 3, 1110, 0, []), (916, .aload_n 0, 1, 0, 0, 0, 0, 0, []), (917, .bipush 8, 2, 0, 0, 0, 0, 8, []), (919, .newarray .int, 2, 2, 0, 0, 0, 0, []),
  (921, .dup, 1, 0, 0, 0, 0, 0, []), (922, .iconst 0, 1, 0, 0, 0, 0, 0, []), (923, .iconst 5, 1, 0, 0, 0, 0, 5, []), (924, .iastore, 1, 0, 0, 0, 0, 0, []), (925, .dup, 1, 0, 0, 0, 0, 0, []), (926, .iconst 1, 1, 0, 0, 0, 0, 1, []),
  (927, .iconst 0, 1, 0, 0, 0, 0, 0, []), (928, .iastore, 1, 0, 0, 0, 0, 0, []), (929, .dup, 1, 0, 0, 0, 0, 0, []), (930, .iconst 2, 1, 0, 0, 0, 0, 2, []), (931, .iconst 0, 1, 0, 0, 0, 0, 0, []), (932, .iastore, 1, 0, 0, 0, 0, 0, []),
  (933, .dup, 1, 0, 0, 0, 0, 0, []), (934, .iconst 3, 1, 0, 0, 0, 0, 3, []), (935, .iconst 0, 1, 0, 0, 0, 0, 0, []), (936, .iastore, 1, 0, 0, 0, 0, 0, []), (937, .dup, 1, 0, 0, 0, 0, 0, []), (938, .iconst 4, 1, 0, 0, 0, 0, 4, []),
  (939, .iconst 5, 1, 0, 0, 0, 0, 5, []), (940, .iastore, 1, 0, 0, 0, 0, 0, []), (941, .dup, 1, 0, 0, 0, 0, 0, []), (942, .iconst 5, 1, 0, 0, 0, 0, 5, []), (943, .iconst 0, 1, 0, 0, 0, 0, 0, []), (944, .iastore, 1, 0, 0, 0, 0, 0, []),
  (945, .dup, 1, 0, 0, 0, 0, 0, []), (946, .bipush 6, 2, 0, 0, 0, 0, 6, []), (948, .iconst 0, 1, 0, 0, 0, 0, 0, []), (949, .iastore, 1, 0, 0, 0, 0, 0, []), (950, .dup, 1, 0, 0, 0, 0, 0, []), (951, .bipush 7, 2, 0, 0, 0, 0, 7, []),
  (953, .iconst 0, 1, 0, 0, 0, 0, 0, []), (954, .iastore, 1, 0, 0, 0, 0, 0, []), (955, .putfield 127, 3, 6, 47, 3, 1112, 0, []), (958, .aload_n 0, 1, 0, 0, 0, 0, 0, []), (959, .bipush 6, 2, 0, 0, 0, 0, 6, []), (961, .newarray .int, 2, 2, 0, 0, 0, 0, []),
  (963, .dup, 1, 0, 0, 0, 0, 0, []), (964, .iconst 0, 1, 0, 0, 0, 0, 0, []), (965, .iconst (-1), 1, 0, 0, 0, 0, (-1), []), (966, .iastore, 1, 0, 0, 0, 0, 0, [])]
noncomputable def am_c126_7 : List (Nat × am_E) := [(967, .dup, 1, 0, 0, 0, 0, 0, []), (968, .iconst 1, 1, 0, 0, 0, 0, 1, []), (969, .iconst (-1), 1, 0, 0, 0, 0, (-1), []), (970, .iastore, 1, 0, 0, 0, 0, 0, []), (971, .dup, 1, 0, 0, 0, 0, 0, []), (972, .iconst 2, 1, 0, 0, 0, 0, 2, []),
  (973, .iconst (-1), 1, 0, 0, 0, 0, (-1), []), (974, .iastore, 1, 0, 0, 0, 0, 0, []), (975, .dup, 1, 0, 0, 0, 0, 0, []), (976, .iconst 3, 1, 0, 0, 0, 0, 3, []), (977, .iconst (-1), 1, 0, 0, 0, 0, (-1), []), (978, .iastore, 1, 0, 0, 0, 0, 0, []),
  (979, .dup, 1, 0, 0, 0, 0, 0, []), (980, .iconst 4, 1, 0, 0, 0, 0, 4, []), (981, .iconst (-1), 1, 0, 0, 0, 0, (-1), []), (982, .iastore, 1, 0, 0, 0, 0, 0, []), (983, .dup, 1, 0, 0, 0, 0, 0, []), (984, .iconst 5, 1, 0, 0, 0, 0, 5, []),
  (985, .iconst (-1), 1, 0, 0, 0, 0, (-1), []), (986, .iastore, 1, 0, 0, 0, 0, 0, []), (987, .putfield 130, 3, 6, 48, 3, 1113, 0, []), (990, .aload_n 0, 1, 0, 0, 0, 0, 0, []), (991, .bipush 6, 2, 0, 0, 0, 0, 6, []), (993, .newarray .int, 2, 2, 0, 0, 0, 0, []),
  (995, .putfield 133, 3, 6, 49, 3, 1114, 0, []), (998, .aload_n 0, 1, 0, 0, 0, 0, 0, []), (999, .sipush 3200, 3, 0, 0, 0, 0, 3200, []), (1002, .newarray .int, 2, 2, 0, 0, 0, 0, []), (1004, .putfield 136, 3, 6, 50, 3, 1115, 0, []), (1007, .aload_n 0, 1, 0, 0, 0, 0, 0, []),
  (1008, .sipush 257, 3, 0, 0, 0, 0, 257, []), (1011, .newarray .int, 2, 2, 0, 0, 0, 0, []), (1013, .putfield 139, 3, 6, 54, 3, 1119, 0, []), (1016, .aload_n 0, 1, 0, 0, 0, 0, 0, []), (1017, .bipush 96, 2, 0, 0, 0, 0, 96, []), (1019, .newarray .int, 2, 2, 0, 0, 0, 0, []),
  (1021, .putfield 142, 3, 6, 55, 3, 1120, 0, []), (1024, .aload_n 0, 1, 0, 0, 0, 0, 0, []), (1025, .iconst 5, 1, 0, 0, 0, 0, 5, []), (1026, .newarray .int, 2, 2, 0, 0, 0, 0, []), (1028, .putfield 145, 3, 6, 61, 3, 1126, 0, []), (1031, .aload_n 0, 1, 0, 0, 0, 0, 0, []),
  (1032, .iconst 5, 1, 0, 0, 0, 0, 5, []), (1033, .newarray .long, 2, 3, 0, 0, 0, 0, []), (1035, .putfield 148, 3, 6, 62, 3, 1127, 0, []), (1038, .aload_n 0, 1, 0, 0, 0, 0, 0, []), (1039, .iconst 5, 1, 0, 0, 0, 0, 5, []), (1040, .newarray .int, 2, 2, 0, 0, 0, 0, []),
  (1042, .putfield 151, 3, 6, 63, 3, 1128, 0, []), (1045, .aload_n 0, 1, 0, 0, 0, 0, 0, []), (1046, .sipush 160, 3, 0, 0, 0, 0, 160, []), (1049, .newarray .long, 2, 3, 0, 0, 0, 0, []), (1051, .putfield 154, 3, 6, 64, 3, 1129, 0, []), (1054, .aload_n 0, 1, 0, 0, 0, 0, 0, []),
  (1055, .bipush 48, 2, 0, 0, 0, 0, 48, []), (1057, .newarray .int, 2, 2, 0, 0, 0, 0, []), (1059, .putfield 157, 3, 6, 66, 3, 1131, 0, []), (1062, .aload_n 0, 1, 0, 0, 0, 0, 0, []), (1063, .sipush 5140, 3, 0, 0, 0, 0, 5140, []), (1066, .newarray .int, 2, 2, 0, 0, 0, 0, []),
  (1068, .putfield 160, 3, 6, 67, 3, 1132, 0, []), (1071, .aload_n 0, 1, 0, 0, 0, 0, 0, []), (1072, .lconst 1, 1, 0, 0, 0, 0, 1, []), (1073, .putfield 163, 3, 6, 70, 2, 1135, 0, []), (1076, .aload_n 0, 1, 0, 0, 0, 0, 0, []), (1077, .iconst 5, 1, 0, 0, 0, 0, 5, []),
  (1078, .newarray .char, 2, 4, 0, 0, 0, 0, []), (1080, .dup, 1, 0, 0, 0, 0, 0, []), (1081, .iconst 0, 1, 0, 0, 0, 0, 0, []), (1082, .bipush 102, 2, 0, 0, 0, 0, 102, []), (1084, .castore, 1, 0, 0, 0, 0, 0, []), (1085, .dup, 1, 0, 0, 0, 0, 0, []),
  (1086, .iconst 1, 1, 0, 0, 0, 0, 1, []), (1087, .bipush 105, 2, 0, 0, 0, 0, 105, []), (1089, .castore, 1, 0, 0, 0, 0, 0, []), (1090, .dup, 1, 0, 0, 0, 0, 0, []), (1091, .iconst 2, 1, 0, 0, 0, 0, 2, []), (1092, .bipush 114, 2, 0, 0, 0, 0, 114, []),
  (1094, .castore, 1, 0, 0, 0, 0, 0, []), (1095, .dup, 1, 0, 0, 0, 0, 0, []), (1096, .iconst 3, 1, 0, 0, 0, 0, 3, []), (1097, .bipush 115, 2, 0, 0, 0, 0, 115, []), (1099, .castore, 1, 0, 0, 0, 0, 0, []), (1100, .dup, 1, 0, 0, 0, 0, 0, []),
  (1101, .iconst 4, 1, 0, 0, 0, 0, 4, []), (1102, .bipush 116, 2, 0, 0, 0, 0, 116, []), (1104, .castore, 1, 0, 0, 0, 0, 0, []), (1105, .putfield 167, 3, 6, 71, 3, 1136, 0, []), (1108, .aload_n 0, 1, 0, 0, 0, 0, 0, []), (1109, .iconst 4, 1, 0, 0, 0, 0, 4, []),
  (1110, .newarray .char, 2, 4, 0, 0, 0, 0, []), (1112, .dup, 1, 0, 0, 0, 0, 0, []), (1113, .iconst 0, 1, 0, 0, 0, 0, 0, []), (1114, .bipush 108, 2, 0, 0, 0, 0, 108, []), (1116, .castore, 1, 0, 0, 0, 0, 0, []), (1117, .dup, 1, 0, 0, 0, 0, 0, []),
  (1118, .iconst 1, 1, 0, 0, 0, 0, 1, []), (1119, .bipush 97, 2, 0, 0, 0, 0, 97, []), (1121, .castore, 1, 0, 0, 0, 0, 0, []), (1122, .dup, 1, 0, 0, 0, 0, 0, [])]
noncomputable def am_c126_8 : List (Nat × am_E) := [(1123, .iconst 2, 1, 0, 0, 0, 0, 2, []), (1124, .bipush 115, 2, 0, 0, 0, 0, 115, []), (1126, .castore, 1, 0, 0, 0, 0, 0, []), (1127, .dup, 1, 0, 0, 0, 0, 0, []), (1128, .iconst 3, 1, 0, 0, 0, 0, 3, []), (1129, .bipush 116, 2, 0, 0, 0, 0, 116, []),
  (1131, .castore, 1, 0, 0, 0, 0, 0, []), (1132, .putfield 170, 3, 6, 72, 3, 1137, 0, []), (1135, .aload_n 0, 1, 0, 0, 0, 0, 0, []), (1136, .iconst 5, 1, 0, 0, 0, 0, 5, []), (1137, .newarray .char, 2, 4, 0, 0, 0, 0, []), (1139, .dup, 1, 0, 0, 0, 0, 0, []),
  (1140, .iconst 0, 1, 0, 0, 0, 0, 0, []), (1141, .bipush 111, 2, 0, 0, 0, 0, 111, []), (1143, .castore, 1, 0, 0, 0, 0, 0, []), (1144, .dup, 1, 0, 0, 0, 0, 0, []), (1145, .iconst 1, 1, 0, 0, 0, 0, 1, []), (1146, .bipush 102, 2, 0, 0, 0, 0, 102, []),
  (1148, .castore, 1, 0, 0, 0, 0, 0, []), (1149, .dup, 1, 0, 0, 0, 0, 0, []), (1150, .iconst 2, 1, 0, 0, 0, 0, 2, []), (1151, .bipush 116, 2, 0, 0, 0, 0, 116, []), (1153, .castore, 1, 0, 0, 0, 0, 0, []), (1154, .dup, 1, 0, 0, 0, 0, 0, []),
  (1155, .iconst 3, 1, 0, 0, 0, 0, 3, []), (1156, .bipush 101, 2, 0, 0, 0, 0, 101, []), (1158, .castore, 1, 0, 0, 0, 0, 0, []), (1159, .dup, 1, 0, 0, 0, 0, 0, []), (1160, .iconst 4, 1, 0, 0, 0, 0, 4, []), (1161, .bipush 110, 2, 0, 0, 0, 0, 110, []),
  (1163, .castore, 1, 0, 0, 0, 0, 0, []), (1164, .putfield 173, 3, 6, 73, 3, 1138, 0, []), (1167, .aload_n 0, 1, 0, 0, 0, 0, 0, []), (1168, .iconst 5, 1, 0, 0, 0, 0, 5, []), (1169, .newarray .char, 2, 4, 0, 0, 0, 0, []), (1171, .dup, 1, 0, 0, 0, 0, 0, []),
  (1172, .iconst 0, 1, 0, 0, 0, 0, 0, []), (1173, .bipush 116, 2, 0, 0, 0, 0, 116, []), (1175, .castore, 1, 0, 0, 0, 0, 0, []), (1176, .dup, 1, 0, 0, 0, 0, 0, []), (1177, .iconst 1, 1, 0, 0, 0, 0, 1, []), (1178, .bipush 111, 2, 0, 0, 0, 0, 111, []),
  (1180, .castore, 1, 0, 0, 0, 0, 0, []), (1181, .dup, 1, 0, 0, 0, 0, 0, []), (1182, .iconst 2, 1, 0, 0, 0, 0, 2, []), (1183, .bipush 116, 2, 0, 0, 0, 0, 116, []), (1185, .castore, 1, 0, 0, 0, 0, 0, []), (1186, .dup, 1, 0, 0, 0, 0, 0, []),
  (1187, .iconst 3, 1, 0, 0, 0, 0, 3, []), (1188, .bipush 97, 2, 0, 0, 0, 0, 97, []), (1190, .castore, 1, 0, 0, 0, 0, 0, []), (1191, .dup, 1, 0, 0, 0, 0, 0, []), (1192, .iconst 4, 1, 0, 0, 0, 0, 4, []), (1193, .bipush 108, 2, 0, 0, 0, 0, 108, []),
  (1195, .castore, 1, 0, 0, 0, 0, 0, []), (1196, .putfield 176, 3, 6, 74, 3, 1139, 0, []), (1199, .aload_n 0, 1, 0, 0, 0, 0, 0, []), (1200, .iconst 4, 1, 0, 0, 0, 0, 4, []), (1201, .newarray .char, 2, 4, 0, 0, 0, 0, []), (1203, .dup, 1, 0, 0, 0, 0, 0, []),
  (1204, .iconst 0, 1, 0, 0, 0, 0, 0, []), (1205, .bipush 109, 2, 0, 0, 0, 0, 109, []), (1207, .castore, 1, 0, 0, 0, 0, 0, []), (1208, .dup, 1, 0, 0, 0, 0, 0, []), (1209, .iconst 1, 1, 0, 0, 0, 0, 1, []), (1210, .bipush 111, 2, 0, 0, 0, 0, 111, []),
  (1212, .castore, 1, 0, 0, 0, 0, 0, []), (1213, .dup, 1, 0, 0, 0, 0, 0, []), (1214, .iconst 2, 1, 0, 0, 0, 0, 2, []), (1215, .bipush 115, 2, 0, 0, 0, 0, 115, []), (1217, .castore, 1, 0, 0, 0, 0, 0, []), (1218, .dup, 1, 0, 0, 0, 0, 0, []),
  (1219, .iconst 3, 1, 0, 0, 0, 0, 3, []), (1220, .bipush 116, 2, 0, 0, 0, 0, 116, []), (1222, .castore, 1, 0, 0, 0, 0, 0, []), (1223, .putfield 179, 3, 6, 75, 3, 1140, 0, []), (1226, .aload_n 0, 1, 0, 0, 0, 0, 0, []), (1227, .iconst 5, 1, 0, 0, 0, 0, 5, []),
  (1228, .newarray .char, 2, 4, 0, 0, 0, 0, []), (1230, .dup, 1, 0, 0, 0, 0, 0, []), (1231, .iconst 0, 1, 0, 0, 0, 0, 0, []), (1232, .bipush 108, 2, 0, 0, 0, 0, 108, []), (1234, .castore, 1, 0, 0, 0, 0, 0, []), (1235, .dup, 1, 0, 0, 0, 0, 0, []),
  (1236, .iconst 1, 1, 0, 0, 0, 0, 1, []), (1237, .bipush 101, 2, 0, 0, 0, 0, 101, []), (1239, .castore, 1, 0, 0, 0, 0, 0, []), (1240, .dup, 1, 0, 0, 0, 0, 0, []), (1241, .iconst 2, 1, 0, 0, 0, 0, 2, []), (1242, .bipush 97, 2, 0, 0, 0, 0, 97, []),
  (1244, .castore, 1, 0, 0, 0, 0, 0, []), (1245, .dup, 1, 0, 0, 0, 0, 0, []), (1246, .iconst 3, 1, 0, 0, 0, 0, 3, []), (1247, .bipush 115, 2, 0, 0, 0, 0, 115, []), (1249, .castore, 1, 0, 0, 0, 0, 0, []), (1250, .dup, 1, 0, 0, 0, 0, 0, []),
  (1251, .iconst 4, 1, 0, 0, 0, 0, 4, []), (1252, .bipush 116, 2, 0, 0, 0, 0, 116, []), (1254, .castore, 1, 0, 0, 0, 0, 0, []), (1255, .putfield 182, 3, 6, 76, 3, 1141, 0, [])]
noncomputable def am_c126_9 : List (Nat × am_E) := [(1258, .aload_n 0, 1, 0, 0, 0, 0, 0, []), (1259, .iconst 3, 1, 0, 0, 0, 0, 3, []), (1260, .newarray .char, 2, 4, 0, 0, 0, 0, []), (1262, .dup, 1, 0, 0, 0, 0, 0, []), (1263, .iconst 0, 1, 0, 0, 0, 0, 0, []), (1264, .bipush 110, 2, 0, 0, 0, 0, 110, []),
  (1266, .castore, 1, 0, 0, 0, 0, 0, []), (1267, .dup, 1, 0, 0, 0, 0, 0, []), (1268, .iconst 1, 1, 0, 0, 0, 0, 1, []), (1269, .bipush 111, 2, 0, 0, 0, 0, 111, []), (1271, .castore, 1, 0, 0, 0, 0, 0, []), (1272, .dup, 1, 0, 0, 0, 0, 0, []),
  (1273, .iconst 2, 1, 0, 0, 0, 0, 2, []), (1274, .bipush 116, 2, 0, 0, 0, 0, 116, []), (1276, .castore, 1, 0, 0, 0, 0, 0, []), (1277, .putfield 185, 3, 6, 77, 3, 1142, 0, []), (1280, .aload_n 0, 1, 0, 0, 0, 0, 0, []), (1281, .iconst 3, 1, 0, 0, 0, 0, 3, []),
  (1282, .newarray .char, 2, 4, 0, 0, 0, 0, []), (1284, .dup, 1, 0, 0, 0, 0, 0, []), (1285, .iconst 0, 1, 0, 0, 0, 0, 0, []), (1286, .bipush 97, 2, 0, 0, 0, 0, 97, []), (1288, .castore, 1, 0, 0, 0, 0, 0, []), (1289, .dup, 1, 0, 0, 0, 0, 0, []),
  (1290, .iconst 1, 1, 0, 0, 0, 0, 1, []), (1291, .bipush 110, 2, 0, 0, 0, 0, 110, []), (1293, .castore, 1, 0, 0, 0, 0, 0, []), (1294, .dup, 1, 0, 0, 0, 0, 0, []), (1295, .iconst 2, 1, 0, 0, 0, 0, 2, []), (1296, .bipush 100, 2, 0, 0, 0, 0, 100, []),
  (1298, .castore, 1, 0, 0, 0, 0, 0, []), (1299, .putfield 188, 3, 6, 78, 3, 1143, 0, []), (1302, .aload_n 0, 1, 0, 0, 0, 0, 0, []), (1303, .iconst 2, 1, 0, 0, 0, 0, 2, []), (1304, .newarray .char, 2, 4, 0, 0, 0, 0, []), (1306, .dup, 1, 0, 0, 0, 0, 0, []),
  (1307, .iconst 0, 1, 0, 0, 0, 0, 0, []), (1308, .bipush 111, 2, 0, 0, 0, 0, 111, []), (1310, .castore, 1, 0, 0, 0, 0, 0, []), (1311, .dup, 1, 0, 0, 0, 0, 0, []), (1312, .iconst 1, 1, 0, 0, 0, 0, 1, []), (1313, .bipush 114, 2, 0, 0, 0, 0, 114, []),
  (1315, .castore, 1, 0, 0, 0, 0, 0, []), (1316, .putfield 191, 3, 6, 79, 3, 1144, 0, []), (1319, .aload_n 0, 1, 0, 0, 0, 0, 0, []), (1320, .iconst 3, 1, 0, 0, 0, 0, 3, []), (1321, .newarray .char, 2, 4, 0, 0, 0, 0, []), (1323, .dup, 1, 0, 0, 0, 0, 0, []),
  (1324, .iconst 0, 1, 0, 0, 0, 0, 0, []), (1325, .bipush 97, 2, 0, 0, 0, 0, 97, []), (1327, .castore, 1, 0, 0, 0, 0, 0, []), (1328, .dup, 1, 0, 0, 0, 0, 0, []), (1329, .iconst 1, 1, 0, 0, 0, 0, 1, []), (1330, .bipush 108, 2, 0, 0, 0, 0, 108, []),
  (1332, .castore, 1, 0, 0, 0, 0, 0, []), (1333, .dup, 1, 0, 0, 0, 0, 0, []), (1334, .iconst 2, 1, 0, 0, 0, 0, 2, []), (1335, .bipush 108, 2, 0, 0, 0, 0, 108, []), (1337, .castore, 1, 0, 0, 0, 0, 0, []), (1338, .putfield 194, 3, 6, 80, 3, 1145, 0, []),
  (1341, .aload_n 0, 1, 0, 0, 0, 0, 0, []), (1342, .iconst 3, 1, 0, 0, 0, 0, 3, []), (1343, .newarray .char, 2, 4, 0, 0, 0, 0, []), (1345, .dup, 1, 0, 0, 0, 0, 0, []), (1346, .iconst 0, 1, 0, 0, 0, 0, 0, []), (1347, .bipush 109, 2, 0, 0, 0, 0, 109, []),
  (1349, .castore, 1, 0, 0, 0, 0, 0, []), (1350, .dup, 1, 0, 0, 0, 0, 0, []), (1351, .iconst 1, 1, 0, 0, 0, 0, 1, []), (1352, .bipush 105, 2, 0, 0, 0, 0, 105, []), (1354, .castore, 1, 0, 0, 0, 0, 0, []), (1355, .dup, 1, 0, 0, 0, 0, 0, []),
  (1356, .iconst 2, 1, 0, 0, 0, 0, 2, []), (1357, .bipush 110, 2, 0, 0, 0, 0, 110, []), (1359, .castore, 1, 0, 0, 0, 0, 0, []), (1360, .putfield 197, 3, 6, 81, 3, 1146, 0, []), (1363, .aload_n 0, 1, 0, 0, 0, 0, 0, []), (1364, .iconst 3, 1, 0, 0, 0, 0, 3, []),
  (1365, .newarray .char, 2, 4, 0, 0, 0, 0, []), (1367, .dup, 1, 0, 0, 0, 0, 0, []), (1368, .iconst 0, 1, 0, 0, 0, 0, 0, []), (1369, .bipush 109, 2, 0, 0, 0, 0, 109, []), (1371, .castore, 1, 0, 0, 0, 0, 0, []), (1372, .dup, 1, 0, 0, 0, 0, 0, []),
  (1373, .iconst 1, 1, 0, 0, 0, 0, 1, []), (1374, .bipush 97, 2, 0, 0, 0, 0, 97, []), (1376, .castore, 1, 0, 0, 0, 0, 0, []), (1377, .dup, 1, 0, 0, 0, 0, 0, []), (1378, .iconst 2, 1, 0, 0, 0, 0, 2, []), (1379, .bipush 120, 2, 0, 0, 0, 0, 120, []),
  (1381, .castore, 1, 0, 0, 0, 0, 0, []), (1382, .putfield 200, 3, 6, 82, 3, 1147, 0, []), (1385, .aload_n 0, 1, 0, 0, 0, 0, 0, []), (1386, .iconst 4, 1, 0, 0, 0, 0, 4, []), (1387, .newarray .char, 2, 4, 0, 0, 0, 0, []), (1389, .dup, 1, 0, 0, 0, 0, 0, []),
  (1390, .iconst 0, 1, 0, 0, 0, 0, 0, []), (1391, .bipush 104, 2, 0, 0, 0, 0, 104, []), (1393, .castore, 1, 0, 0, 0, 0, 0, []), (1394, .dup, 1, 0, 0, 0, 0, 0, [])]
noncomputable def am_c126_10 : List (Nat × am_E) := [(1395, .iconst 1, 1, 0, 0, 0, 0, 1, []), (1396, .bipush 111, 2, 0, 0, 0, 0, 111, []), (1398, .castore, 1, 0, 0, 0, 0, 0, []), (1399, .dup, 1, 0, 0, 0, 0, 0, []), (1400, .iconst 2, 1, 0, 0, 0, 0, 2, []), (1401, .bipush 117, 2, 0, 0, 0, 0, 117, []),
  (1403, .castore, 1, 0, 0, 0, 0, 0, []), (1404, .dup, 1, 0, 0, 0, 0, 0, []), (1405, .iconst 3, 1, 0, 0, 0, 0, 3, []), (1406, .bipush 114, 2, 0, 0, 0, 0, 114, []), (1408, .castore, 1, 0, 0, 0, 0, 0, []), (1409, .putfield 203, 3, 6, 83, 3, 1148, 0, []),
  (1412, .aload_n 0, 1, 0, 0, 0, 0, 0, []), (1413, .iconst 5, 1, 0, 0, 0, 0, 5, []), (1414, .newarray .char, 2, 4, 0, 0, 0, 0, []), (1416, .dup, 1, 0, 0, 0, 0, 0, []), (1417, .iconst 0, 1, 0, 0, 0, 0, 0, []), (1418, .bipush 116, 2, 0, 0, 0, 0, 116, []),
  (1420, .castore, 1, 0, 0, 0, 0, 0, []), (1421, .dup, 1, 0, 0, 0, 0, 0, []), (1422, .iconst 1, 1, 0, 0, 0, 0, 1, []), (1423, .bipush 97, 2, 0, 0, 0, 0, 97, []), (1425, .castore, 1, 0, 0, 0, 0, 0, []), (1426, .dup, 1, 0, 0, 0, 0, 0, []),
  (1427, .iconst 2, 1, 0, 0, 0, 0, 2, []), (1428, .bipush 115, 2, 0, 0, 0, 0, 115, []), (1430, .castore, 1, 0, 0, 0, 0, 0, []), (1431, .dup, 1, 0, 0, 0, 0, 0, []), (1432, .iconst 3, 1, 0, 0, 0, 0, 3, []), (1433, .bipush 116, 2, 0, 0, 0, 0, 116, []),
  (1435, .castore, 1, 0, 0, 0, 0, 0, []), (1436, .dup, 1, 0, 0, 0, 0, 0, []), (1437, .iconst 4, 1, 0, 0, 0, 0, 4, []), (1438, .bipush 101, 2, 0, 0, 0, 0, 101, []), (1440, .castore, 1, 0, 0, 0, 0, 0, []), (1441, .putfield 206, 3, 6, 84, 3, 1149, 0, []),
  (1444, .aload_n 0, 1, 0, 0, 0, 0, 0, []), (1445, .bipush 6, 2, 0, 0, 0, 0, 6, []), (1447, .newarray .char, 2, 4, 0, 0, 0, 0, []), (1449, .dup, 1, 0, 0, 0, 0, 0, []), (1450, .iconst 0, 1, 0, 0, 0, 0, 0, []), (1451, .bipush 119, 2, 0, 0, 0, 0, 119, []),
  (1453, .castore, 1, 0, 0, 0, 0, 0, []), (1454, .dup, 1, 0, 0, 0, 0, 0, []), (1455, .iconst 1, 1, 0, 0, 0, 0, 1, []), (1456, .bipush 101, 2, 0, 0, 0, 0, 101, []), (1458, .castore, 1, 0, 0, 0, 0, 0, []), (1459, .dup, 1, 0, 0, 0, 0, 0, []),
  (1460, .iconst 2, 1, 0, 0, 0, 0, 2, []), (1461, .bipush 105, 2, 0, 0, 0, 0, 105, []), (1463, .castore, 1, 0, 0, 0, 0, 0, []), (1464, .dup, 1, 0, 0, 0, 0, 0, []), (1465, .iconst 3, 1, 0, 0, 0, 0, 3, []), (1466, .bipush 103, 2, 0, 0, 0, 0, 103, []),
  (1468, .castore, 1, 0, 0, 0, 0, 0, []), (1469, .dup, 1, 0, 0, 0, 0, 0, []), (1470, .iconst 4, 1, 0, 0, 0, 0, 4, []), (1471, .bipush 104, 2, 0, 0, 0, 0, 104, []), (1473, .castore, 1, 0, 0, 0, 0, 0, []), (1474, .dup, 1, 0, 0, 0, 0, 0, []),
  (1475, .iconst 5, 1, 0, 0, 0, 0, 5, []), (1476, .bipush 116, 2, 0, 0, 0, 0, 116, []), (1478, .castore, 1, 0, 0, 0, 0, 0, []), (1479, .putfield 209, 3, 6, 85, 3, 1150, 0, []), (1482, .aload_n 0, 1, 0, 0, 0, 0, 0, []), (1483, .iconst 5, 1, 0, 0, 0, 0, 5, []),
  (1484, .newarray .char, 2, 4, 0, 0, 0, 0, []), (1486, .dup, 1, 0, 0, 0, 0, 0, []), (1487, .iconst 0, 1, 0, 0, 0, 0, 0, []), (1488, .bipush 112, 2, 0, 0, 0, 0, 112, []), (1490, .castore, 1, 0, 0, 0, 0, 0, []), (1491, .dup, 1, 0, 0, 0, 0, 0, []),
  (1492, .iconst 1, 1, 0, 0, 0, 0, 1, []), (1493, .bipush 97, 2, 0, 0, 0, 0, 97, []), (1495, .castore, 1, 0, 0, 0, 0, 0, []), (1496, .dup, 1, 0, 0, 0, 0, 0, []), (1497, .iconst 2, 1, 0, 0, 0, 0, 2, []), (1498, .bipush 114, 2, 0, 0, 0, 0, 114, []),
  (1500, .castore, 1, 0, 0, 0, 0, 0, []), (1501, .dup, 1, 0, 0, 0, 0, 0, []), (1502, .iconst 3, 1, 0, 0, 0, 0, 3, []), (1503, .bipush 116, 2, 0, 0, 0, 0, 116, []), (1505, .castore, 1, 0, 0, 0, 0, 0, []), (1506, .dup, 1, 0, 0, 0, 0, 0, []),
  (1507, .iconst 4, 1, 0, 0, 0, 0, 4, []), (1508, .bipush 115, 2, 0, 0, 0, 0, 115, []), (1510, .castore, 1, 0, 0, 0, 0, 0, []), (1511, .putfield 212, 3, 6, 86, 3, 1151, 0, []), (1514, .aload_n 0, 1, 0, 0, 0, 0, 0, []), (1515, .iconst 4, 1, 0, 0, 0, 0, 4, []),
  (1516, .newarray .char, 2, 4, 0, 0, 0, 0, []), (1518, .dup, 1, 0, 0, 0, 0, 0, []), (1519, .iconst 0, 1, 0, 0, 0, 0, 0, []), (1520, .bipush 115, 2, 0, 0, 0, 0, 115, []), (1522, .castore, 1, 0, 0, 0, 0, 0, []), (1523, .dup, 1, 0, 0, 0, 0, 0, []),
  (1524, .iconst 1, 1, 0, 0, 0, 0, 1, []), (1525, .bipush 101, 2, 0, 0, 0, 0, 101, []), (1527, .castore, 1, 0, 0, 0, 0, 0, []), (1528, .dup, 1, 0, 0, 0, 0, 0, [])]
noncomputable def am_c126_11 : List (Nat × am_E) := [(1529, .iconst 2, 1, 0, 0, 0, 0, 2, []), (1530, .bipush 101, 2, 0, 0, 0, 0, 101, []), (1532, .castore, 1, 0, 0, 0, 0, 0, []), (1533, .dup, 1, 0, 0, 0, 0, 0, []), (1534, .iconst 3, 1, 0, 0, 0, 0, 3, []), (1535, .bipush 110, 2, 0, 0, 0, 0, 110, []),
  (1537, .castore, 1, 0, 0, 0, 0, 0, []), (1538, .putfield 215, 3, 6, 87, 3, 1152, 0, []), (1541, .aload_n 0, 1, 0, 0, 0, 0, 0, []), (1542, .iconst 5, 1, 0, 0, 0, 0, 5, []), (1543, .newarray .char, 2, 4, 0, 0, 0, 0, []), (1545, .dup, 1, 0, 0, 0, 0, 0, []),
  (1546, .iconst 0, 1, 0, 0, 0, 0, 0, []), (1547, .bipush 115, 2, 0, 0, 0, 0, 115, []), (1549, .castore, 1, 0, 0, 0, 0, 0, []), (1550, .dup, 1, 0, 0, 0, 0, 0, []), (1551, .iconst 1, 1, 0, 0, 0, 0, 1, []), (1552, .bipush 99, 2, 0, 0, 0, 0, 99, []),
  (1554, .castore, 1, 0, 0, 0, 0, 0, []), (1555, .dup, 1, 0, 0, 0, 0, 0, []), (1556, .iconst 2, 1, 0, 0, 0, 0, 2, []), (1557, .bipush 111, 2, 0, 0, 0, 0, 111, []), (1559, .castore, 1, 0, 0, 0, 0, 0, []), (1560, .dup, 1, 0, 0, 0, 0, 0, []),
  (1561, .iconst 3, 1, 0, 0, 0, 0, 3, []), (1562, .bipush 114, 2, 0, 0, 0, 0, 114, []), (1564, .castore, 1, 0, 0, 0, 0, 0, []), (1565, .dup, 1, 0, 0, 0, 0, 0, []), (1566, .iconst 4, 1, 0, 0, 0, 0, 4, []), (1567, .bipush 101, 2, 0, 0, 0, 0, 101, []),
  (1569, .castore, 1, 0, 0, 0, 0, 0, []), (1570, .putfield 218, 3, 6, 88, 3, 1153, 0, []), (1573, .aload_n 0, 1, 0, 0, 0, 0, 0, []), (1574, .bipush 6, 2, 0, 0, 0, 0, 6, []), (1576, .newarray .char, 2, 4, 0, 0, 0, 0, []), (1578, .dup, 1, 0, 0, 0, 0, 0, []),
  (1579, .iconst 0, 1, 0, 0, 0, 0, 0, []), (1580, .bipush 110, 2, 0, 0, 0, 0, 110, []), (1582, .castore, 1, 0, 0, 0, 0, 0, []), (1583, .dup, 1, 0, 0, 0, 0, 0, []), (1584, .iconst 1, 1, 0, 0, 0, 0, 1, []), (1585, .bipush 117, 2, 0, 0, 0, 0, 117, []),
  (1587, .castore, 1, 0, 0, 0, 0, 0, []), (1588, .dup, 1, 0, 0, 0, 0, 0, []), (1589, .iconst 2, 1, 0, 0, 0, 0, 2, []), (1590, .bipush 109, 2, 0, 0, 0, 0, 109, []), (1592, .castore, 1, 0, 0, 0, 0, 0, []), (1593, .dup, 1, 0, 0, 0, 0, 0, []),
  (1594, .iconst 3, 1, 0, 0, 0, 0, 3, []), (1595, .bipush 98, 2, 0, 0, 0, 0, 98, []), (1597, .castore, 1, 0, 0, 0, 0, 0, []), (1598, .dup, 1, 0, 0, 0, 0, 0, []), (1599, .iconst 4, 1, 0, 0, 0, 0, 4, []), (1600, .bipush 101, 2, 0, 0, 0, 0, 101, []),
  (1602, .castore, 1, 0, 0, 0, 0, 0, []), (1603, .dup, 1, 0, 0, 0, 0, 0, []), (1604, .iconst 5, 1, 0, 0, 0, 0, 5, []), (1605, .bipush 114, 2, 0, 0, 0, 0, 114, []), (1607, .castore, 1, 0, 0, 0, 0, 0, []), (1608, .putfield 221, 3, 6, 89, 3, 1154, 0, []),
  (1611, .aload_n 0, 1, 0, 0, 0, 0, 0, []), (1612, .iconst 5, 1, 0, 0, 0, 0, 5, []), (1613, .newarray .char, 2, 4, 0, 0, 0, 0, []), (1615, .dup, 1, 0, 0, 0, 0, 0, []), (1616, .iconst 0, 1, 0, 0, 0, 0, 0, []), (1617, .bipush 119, 2, 0, 0, 0, 0, 119, []),
  (1619, .castore, 1, 0, 0, 0, 0, 0, []), (1620, .dup, 1, 0, 0, 0, 0, 0, []), (1621, .iconst 1, 1, 0, 0, 0, 0, 1, []), (1622, .bipush 111, 2, 0, 0, 0, 0, 111, []), (1624, .castore, 1, 0, 0, 0, 0, 0, []), (1625, .dup, 1, 0, 0, 0, 0, 0, []),
  (1626, .iconst 2, 1, 0, 0, 0, 0, 2, []), (1627, .bipush 114, 2, 0, 0, 0, 0, 114, []), (1629, .castore, 1, 0, 0, 0, 0, 0, []), (1630, .dup, 1, 0, 0, 0, 0, 0, []), (1631, .iconst 3, 1, 0, 0, 0, 0, 3, []), (1632, .bipush 116, 2, 0, 0, 0, 0, 116, []),
  (1634, .castore, 1, 0, 0, 0, 0, 0, []), (1635, .dup, 1, 0, 0, 0, 0, 0, []), (1636, .iconst 4, 1, 0, 0, 0, 0, 4, []), (1637, .bipush 104, 2, 0, 0, 0, 0, 104, []), (1639, .castore, 1, 0, 0, 0, 0, 0, []), (1640, .putfield 224, 3, 6, 90, 3, 1155, 0, []),
  (1643, .aload_n 0, 1, 0, 0, 0, 0, 0, []), (1644, .sipush 1700, 3, 0, 0, 0, 0, 1700, []), (1647, .newarray .int, 2, 2, 0, 0, 0, 0, []), (1649, .putfield 227, 3, 6, 91, 3, 1156, 0, []), (1652, .aload_n 0, 1, 0, 0, 0, 0, 0, []), (1653, .sipush 1700, 3, 0, 0, 0, 0, 1700, []),
  (1656, .newarray .int, 2, 2, 0, 0, 0, 0, []), (1658, .putfield 230, 3, 6, 93, 3, 1158, 0, []), (1661, .aload_n 0, 1, 0, 0, 0, 0, 0, []), (1662, .sipush 1700, 3, 0, 0, 0, 0, 1700, []), (1665, .newarray .long, 2, 3, 0, 0, 0, 0, []), (1667, .putfield 233, 3, 6, 97, 3, 1162, 0, []),
  (1670, .aload_n 0, 1, 0, 0, 0, 0, 0, []), (1671, .sipush 139, 3, 0, 0, 0, 0, 139, []), (1674, .newarray .int, 2, 2, 0, 0, 0, 0, []), (1676, .putfield 236, 3, 6, 101, 3, 1166, 0, [])]
noncomputable def am_c126_12 : List (Nat × am_E) := [(1679, .return_, 1, 0, 0, 0, 0, 0, [])]
noncomputable def am_c126 : List (Nat × am_E) := am_c126_0 ++ (am_c126_1 ++ (am_c126_2 ++ (am_c126_3 ++ (am_c126_4 ++ (am_c126_5 ++ (am_c126_6 ++ (am_c126_7 ++ (am_c126_8 ++ (am_c126_9 ++ (am_c126_10 ++ (am_c126_11 ++ (am_c126_12))))))))))))
noncomputable def am_s127 : am_S := (yX6_isIn, cX6_isIn, 6, (some .boolean), 0, 4, 3, 6, 1458, 1457, 0, 175)
noncomputable def am_c127 : List (Nat × am_E) := [(0, .lload_n 0, 1, 0, 0, 0, 0, 0, []), (1, .lload_n 2, 1, 2, 0, 0, 0, 0, []), (2, .lcmp, 1, 0, 0, 0, 0, 0, []), (3, .ifCond .lt 14, 3, 17, 0, 0, 0, 0, []), (6, .lload_n 0, 1, 0, 0, 0, 0, 0, []), (7, .lload 4, 2, 4, 0, 0, 0, 0, []),
  (9, .lcmp, 1, 0, 0, 0, 0, 0, []), (10, .ifCond .gt 7, 3, 17, 0, 0, 0, 0, []), (13, .iconst 1, 1, 0, 0, 0, 0, 1, []), (14, .goto 4, 3, 18, 0, 0, 0, 0, []), (17, .iconst 0, 1, 0, 0, 0, 0, 0, []), (18, .ireturn, 1, 0, 0, 4, 0, 0, [])]
noncomputable def am_s128 : am_S := (yX6_feed, cX6_feed, 8, (some .int), 1, 1, 6, 6, 1379, 1377, 1378, 175)
noncomputable def am_c128 : List (Nat × am_E) := [(0, .aload_n 0, 1, 0, 0, 0, 0, 0, []), (1, .getfield 239, 3, 6, 1, 1, 1066, 0, []), (4, .bipush 20, 2, 0, 0, 0, 0, 20, []), (6, .iadd, 1, 0, 0, 0, 0, 0, []), (7, .sipush 1600, 3, 0, 0, 0, 0, 1600, []), (10, .if_icmp .le 15, 3, 25, 0, 0, 0, 0, []),
  (13, .aload_n 0, 1, 0, 0, 0, 0, 0, []), (14, .getfield 17, 3, 6, 9, 3, 1074, 0, []), (17, .iconst 0, 1, 0, 0, 0, 0, 0, []), (18, .dup2, 1, 0, 0, 0, 0, 0, []), (19, .iaload, 1, 0, 0, 0, 0, 0, []), (20, .iconst 1, 1, 0, 0, 0, 0, 1, []),
  (21, .iadd, 1, 0, 0, 0, 0, 0, []), (22, .iastore, 1, 0, 0, 0, 0, 0, []), (23, .iconst (-1), 1, 0, 0, 0, 0, (-1), []), (24, .ireturn, 1, 0, 0, 1, 0, 0, []), (25, .iconst 0, 1, 0, 0, 0, 0, 0, []), (26, .istore 6, 2, 6, 0, 0, 0, 0, []),
  (28, .iload 6, 2, 6, 0, 0, 0, 0, []), (30, .bipush 20, 2, 0, 0, 0, 0, 20, []), (32, .if_icmp .ge 92, 3, 124, 0, 0, 0, 0, []), (35, .iload 6, 2, 6, 0, 0, 0, 0, []), (37, .iconst 4, 1, 0, 0, 0, 0, 4, []), (38, .if_icmp .ge 7, 3, 45, 0, 0, 0, 0, []),
  (41, .iload_n 1, 1, 1, 0, 0, 0, 0, []), (42, .goto 39, 3, 81, 0, 0, 0, 0, []), (45, .iload 6, 2, 6, 0, 0, 0, 0, []), (47, .bipush 8, 2, 0, 0, 0, 0, 8, []), (49, .if_icmp .ge 7, 3, 56, 0, 0, 0, 0, []), (52, .iload_n 2, 1, 2, 0, 0, 0, 0, []),
  (53, .goto 28, 3, 81, 0, 0, 0, 0, []), (56, .iload 6, 2, 6, 0, 0, 0, 0, []), (58, .bipush 12, 2, 0, 0, 0, 0, 12, []), (60, .if_icmp .ge 7, 3, 67, 0, 0, 0, 0, []), (63, .iload_n 3, 1, 3, 0, 0, 0, 0, []), (64, .goto 17, 3, 81, 0, 0, 0, 0, []),
  (67, .iload 6, 2, 6, 0, 0, 0, 0, []), (69, .bipush 16, 2, 0, 0, 0, 0, 16, []), (71, .if_icmp .ge 8, 3, 79, 0, 0, 0, 0, []), (74, .iload 4, 2, 4, 0, 0, 0, 0, []), (76, .goto 5, 3, 81, 0, 0, 0, 0, []), (79, .iload 5, 2, 5, 0, 0, 0, 0, []),
  (81, .istore 7, 2, 7, 0, 0, 0, 0, []), (83, .aload_n 0, 1, 0, 0, 0, 0, 0, []), (84, .getfield 7, 3, 6, 0, 3, 1065, 0, []), (87, .aload_n 0, 1, 0, 0, 0, 0, 0, []), (88, .getfield 239, 3, 6, 1, 1, 1066, 0, []), (91, .iload 7, 2, 7, 0, 0, 0, 0, []),
  (93, .bipush 8, 2, 0, 0, 0, 0, 8, []), (95, .iconst 3, 1, 0, 0, 0, 0, 3, []), (96, .iload 6, 2, 6, 0, 0, 0, 0, []), (98, .iconst 4, 1, 0, 0, 0, 0, 4, []), (99, .irem, 1, 0, 0, 0, 0, 0, []), (100, .isub, 1, 0, 0, 0, 0, 0, []),
  (101, .imul, 1, 0, 0, 0, 0, 0, []), (102, .ishr, 1, 0, 0, 0, 0, 0, []), (103, .sipush 255, 3, 0, 0, 0, 0, 255, []), (106, .iand, 1, 0, 0, 0, 0, 0, []), (107, .iastore, 1, 0, 0, 0, 0, 0, []), (108, .aload_n 0, 1, 0, 0, 0, 0, 0, []),
  (109, .dup, 1, 0, 0, 0, 0, 0, []), (110, .getfield 239, 3, 6, 1, 1, 1066, 0, []), (113, .iconst 1, 1, 0, 0, 0, 0, 1, []), (114, .iadd, 1, 0, 0, 0, 0, 0, []), (115, .putfield 239, 3, 6, 1, 1, 1066, 0, []), (118, .iinc 6 1, 3, 6, 0, 0, 0, 1, []),
  (121, .goto (-93), 3, 28, 0, 0, 0, 0, []), (124, .aload_n 0, 1, 0, 0, 0, 0, 0, []), (125, .getfield 239, 3, 6, 1, 1, 1066, 0, []), (128, .ireturn, 1, 0, 0, 1, 0, 0, [])]
noncomputable def am_s129 : am_S := (yX6_end, cX6_end, 2, (some .boolean), 1, 4, 2, 6, 1383, 1381, 1382, 175)
noncomputable def am_c129 : List (Nat × am_E) := [(0, .iload_n 1, 1, 1, 0, 0, 0, 0, []), (1, .ifCond .lt 11, 3, 12, 0, 0, 0, 0, []), (4, .iload_n 1, 1, 1, 0, 0, 0, 0, []), (5, .aload_n 0, 1, 0, 0, 0, 0, 0, []), (6, .getfield 239, 3, 6, 1, 1, 1066, 0, []), (9, .if_icmp .le 15, 3, 24, 0, 0, 0, 0, []),
  (12, .aload_n 0, 1, 0, 0, 0, 0, 0, []), (13, .getfield 17, 3, 6, 9, 3, 1074, 0, []), (16, .iconst 0, 1, 0, 0, 0, 0, 0, []), (17, .dup2, 1, 0, 0, 0, 0, 0, []), (18, .iaload, 1, 0, 0, 0, 0, 0, []), (19, .iconst 1, 1, 0, 0, 0, 0, 1, []),
  (20, .iadd, 1, 0, 0, 0, 0, 0, []), (21, .iastore, 1, 0, 0, 0, 0, 0, []), (22, .iconst 0, 1, 0, 0, 0, 0, 0, []), (23, .ireturn, 1, 0, 0, 4, 0, 0, []), (24, .aload_n 0, 1, 0, 0, 0, 0, 0, []), (25, .iload_n 1, 1, 1, 0, 0, 0, 0, []),
  (26, .putfield 239, 3, 6, 1, 1, 1066, 0, []), (29, .iconst 1, 1, 0, 0, 0, 0, 1, []), (30, .ireturn, 1, 0, 0, 4, 0, 0, [])]
noncomputable def am_s130 : am_S := (yX6_fail, cX6_fail, 3, none, 1, 0, 3, 6, 1399, 1398, 65, 175)
noncomputable def am_c130 : List (Nat × am_E) := [(0, .aload_n 0, 1, 0, 0, 0, 0, 0, []), (1, .getfield 242, 3, 6, 5, 1, 1070, 0, []), (4, .ifCond .eq 4, 3, 8, 0, 0, 0, 0, []), (7, .return_, 1, 0, 0, 0, 0, 0, []), (8, .aload_n 0, 1, 0, 0, 0, 0, 0, []), (9, .iload_n 1, 1, 1, 0, 0, 0, 0, []),
  (10, .putfield 242, 3, 6, 5, 1, 1070, 0, []), (13, .aload_n 0, 1, 0, 0, 0, 0, 0, []), (14, .iload_n 2, 1, 2, 0, 0, 0, 0, []), (15, .putfield 245, 3, 6, 6, 1, 1071, 0, []), (18, .return_, 1, 0, 0, 0, 0, 0, [])]
noncomputable def am_s131 : am_S := (yX6_isLetter, cX6_isLetter, 1, (some .boolean), 0, 4, 1, 6, 1410, 1409, 0, 175)
noncomputable def am_c131 : List (Nat × am_E) := [(0, .iload_n 0, 1, 0, 0, 0, 0, 0, []), (1, .bipush 97, 2, 0, 0, 0, 0, 97, []), (3, .if_icmp .lt 13, 3, 16, 0, 0, 0, 0, []), (6, .iload_n 0, 1, 0, 0, 0, 0, 0, []), (7, .bipush 122, 2, 0, 0, 0, 0, 122, []), (9, .if_icmp .gt 7, 3, 16, 0, 0, 0, 0, []),
  (12, .iconst 1, 1, 0, 0, 0, 0, 1, []), (13, .goto 4, 3, 17, 0, 0, 0, 0, []), (16, .iconst 0, 1, 0, 0, 0, 0, 0, []), (17, .ireturn, 1, 0, 0, 4, 0, 0, [])]
noncomputable def am_s132 : am_S := (yX6_isDigit, cX6_isDigit, 1, (some .boolean), 0, 4, 1, 6, 1455, 1454, 0, 175)
noncomputable def am_c132 : List (Nat × am_E) := [(0, .iload_n 0, 1, 0, 0, 0, 0, 0, []), (1, .bipush 48, 2, 0, 0, 0, 0, 48, []), (3, .if_icmp .lt 13, 3, 16, 0, 0, 0, 0, []), (6, .iload_n 0, 1, 0, 0, 0, 0, 0, []), (7, .bipush 57, 2, 0, 0, 0, 0, 57, []), (9, .if_icmp .gt 7, 3, 16, 0, 0, 0, 0, []),
  (12, .iconst 1, 1, 0, 0, 0, 0, 1, []), (13, .goto 4, 3, 17, 0, 0, 0, 0, []), (16, .iconst 0, 1, 0, 0, 0, 0, 0, []), (17, .ireturn, 1, 0, 0, 4, 0, 0, [])]
noncomputable def am_s133 : am_S := (yX6_look, cX6_look, 1, (some .int), 1, 1, 1, 6, 1391, 1390, 63, 175)
noncomputable def am_c133 : List (Nat × am_E) := [(0, .aload_n 0, 1, 0, 0, 0, 0, 0, []), (1, .getfield 248, 3, 6, 2, 1, 1067, 0, []), (4, .aload_n 0, 1, 0, 0, 0, 0, 0, []), (5, .getfield 251, 3, 6, 3, 1, 1068, 0, []), (8, .if_icmp .ge 44, 3, 52, 0, 0, 0, 0, []), (11, .aload_n 0, 1, 0, 0, 0, 0, 0, []),
  (12, .getfield 7, 3, 6, 0, 3, 1065, 0, []), (15, .aload_n 0, 1, 0, 0, 0, 0, 0, []), (16, .getfield 248, 3, 6, 2, 1, 1067, 0, []), (19, .iaload, 1, 0, 0, 0, 0, 0, []), (20, .bipush 10, 2, 0, 0, 0, 0, 10, []), (22, .if_icmp .eq 17, 3, 39, 0, 0, 0, 0, []),
  (25, .aload_n 0, 1, 0, 0, 0, 0, 0, []), (26, .getfield 7, 3, 6, 0, 3, 1065, 0, []), (29, .aload_n 0, 1, 0, 0, 0, 0, 0, []), (30, .getfield 248, 3, 6, 2, 1, 1067, 0, []), (33, .iaload, 1, 0, 0, 0, 0, 0, []), (34, .bipush 32, 2, 0, 0, 0, 0, 32, []),
  (36, .if_icmp .ne 16, 3, 52, 0, 0, 0, 0, []), (39, .aload_n 0, 1, 0, 0, 0, 0, 0, []), (40, .dup, 1, 0, 0, 0, 0, 0, []), (41, .getfield 248, 3, 6, 2, 1, 1067, 0, []), (44, .iconst 1, 1, 0, 0, 0, 0, 1, []), (45, .iadd, 1, 0, 0, 0, 0, 0, []),
  (46, .putfield 248, 3, 6, 2, 1, 1067, 0, []), (49, .goto (-49), 3, 0, 0, 0, 0, 0, []), (52, .aload_n 0, 1, 0, 0, 0, 0, 0, []), (53, .getfield 248, 3, 6, 2, 1, 1067, 0, []), (56, .aload_n 0, 1, 0, 0, 0, 0, 0, []), (57, .getfield 251, 3, 6, 3, 1, 1068, 0, []),
  (60, .if_icmp .ge 15, 3, 75, 0, 0, 0, 0, []), (63, .aload_n 0, 1, 0, 0, 0, 0, 0, []), (64, .getfield 7, 3, 6, 0, 3, 1065, 0, []), (67, .aload_n 0, 1, 0, 0, 0, 0, 0, []), (68, .getfield 248, 3, 6, 2, 1, 1067, 0, []), (71, .iaload, 1, 0, 0, 0, 0, 0, []),
  (72, .goto 4, 3, 76, 0, 0, 0, 0, []), (75, .iconst (-1), 1, 0, 0, 0, 0, (-1), []), (76, .ireturn, 1, 0, 0, 1, 0, 0, [])]
noncomputable def am_s134 : am_S := (yX6_isHere, cX6_isHere, 4, (some .boolean), 1, 4, 2, 6, 1407, 1406, 67, 175)
noncomputable def am_c134 : List (Nat × am_E) := [(0, .aload_n 0, 1, 0, 0, 0, 0, 0, []), (1, .getfield 242, 3, 6, 5, 1, 1070, 0, []), (4, .ifCond .ne 24, 3, 28, 0, 0, 0, 0, []), (7, .aload_n 0, 1, 0, 0, 0, 0, 0, []), (8, .invokevirtual 254, 3, 133, 1, 1, 1388, 6, []), (11, .invokestatic 258, 3, 131, 1, 4, 1408, 0, []),
  (14, .ifCond .eq 14, 3, 28, 0, 0, 0, 0, []), (17, .aload_n 0, 1, 0, 0, 0, 0, 0, []), (18, .getfield 248, 3, 6, 2, 1, 1067, 0, []), (21, .aload_n 0, 1, 0, 0, 0, 0, 0, []), (22, .getfield 262, 3, 6, 4, 1, 1069, 0, []), (25, .if_icmp .ne 5, 3, 30, 0, 0, 0, 0, []),
  (28, .iconst 0, 1, 0, 0, 0, 0, 0, []), (29, .ireturn, 1, 0, 0, 4, 0, 0, []), (30, .aload_n 0, 1, 0, 0, 0, 0, 0, []), (31, .getfield 248, 3, 6, 2, 1, 1067, 0, []), (34, .istore_n 2, 1, 2, 0, 0, 0, 0, []), (35, .iload_n 2, 1, 2, 0, 0, 0, 0, []),
  (36, .aload_n 0, 1, 0, 0, 0, 0, 0, []), (37, .getfield 251, 3, 6, 3, 1, 1068, 0, []), (40, .if_icmp .ge 21, 3, 61, 0, 0, 0, 0, []), (43, .aload_n 0, 1, 0, 0, 0, 0, 0, []), (44, .getfield 7, 3, 6, 0, 3, 1065, 0, []), (47, .iload_n 2, 1, 2, 0, 0, 0, 0, []),
  (48, .iaload, 1, 0, 0, 0, 0, 0, []), (49, .invokestatic 258, 3, 131, 1, 4, 1408, 0, []), (52, .ifCond .eq 9, 3, 61, 0, 0, 0, 0, []), (55, .iinc 2 1, 3, 2, 0, 0, 0, 1, []), (58, .goto (-23), 3, 35, 0, 0, 0, 0, []), (61, .iload_n 2, 1, 2, 0, 0, 0, 0, []),
  (62, .aload_n 0, 1, 0, 0, 0, 0, 0, []), (63, .getfield 248, 3, 6, 2, 1, 1067, 0, []), (66, .isub, 1, 0, 0, 0, 0, 0, []), (67, .aload_n 1, 1, 1, 0, 0, 0, 0, []), (68, .arraylength, 1, 0, 0, 0, 0, 0, []), (69, .if_icmp .eq 5, 3, 74, 0, 0, 0, 0, []),
  (72, .iconst 0, 1, 0, 0, 0, 0, 0, []), (73, .ireturn, 1, 0, 0, 4, 0, 0, []), (74, .iconst 0, 1, 0, 0, 0, 0, 0, []), (75, .istore_n 3, 1, 3, 0, 0, 0, 0, []), (76, .iload_n 3, 1, 3, 0, 0, 0, 0, []), (77, .aload_n 1, 1, 1, 0, 0, 0, 0, []),
  (78, .arraylength, 1, 0, 0, 0, 0, 0, []), (79, .if_icmp .ge 28, 3, 107, 0, 0, 0, 0, []), (82, .aload_n 0, 1, 0, 0, 0, 0, 0, []), (83, .getfield 7, 3, 6, 0, 3, 1065, 0, []), (86, .aload_n 0, 1, 0, 0, 0, 0, 0, []), (87, .getfield 248, 3, 6, 2, 1, 1067, 0, []),
  (90, .iload_n 3, 1, 3, 0, 0, 0, 0, []), (91, .iadd, 1, 0, 0, 0, 0, 0, []), (92, .iaload, 1, 0, 0, 0, 0, 0, []), (93, .aload_n 1, 1, 1, 0, 0, 0, 0, []), (94, .iload_n 3, 1, 3, 0, 0, 0, 0, []), (95, .caload, 1, 0, 0, 0, 0, 0, []),
  (96, .if_icmp .eq 5, 3, 101, 0, 0, 0, 0, []), (99, .iconst 0, 1, 0, 0, 0, 0, 0, []), (100, .ireturn, 1, 0, 0, 4, 0, 0, []), (101, .iinc 3 1, 3, 3, 0, 0, 0, 1, []), (104, .goto (-28), 3, 76, 0, 0, 0, 0, []), (107, .iconst 1, 1, 0, 0, 0, 0, 1, []),
  (108, .ireturn, 1, 0, 0, 4, 0, 0, [])]
noncomputable def am_s135 : am_S := (yX6_takes, cX6_takes, 2, (some .boolean), 1, 4, 2, 6, 1403, 1402, 66, 175)
noncomputable def am_c135 : List (Nat × am_E) := [(0, .aload_n 0, 1, 0, 0, 0, 0, 0, []), (1, .aload_n 1, 1, 1, 0, 0, 0, 0, []), (2, .invokevirtual 265, 3, 134, 2, 4, 1404, 6, []), (5, .ifCond .ne 5, 3, 10, 0, 0, 0, 0, []), (8, .iconst 0, 1, 0, 0, 0, 0, 0, []), (9, .ireturn, 1, 0, 0, 4, 0, 0, []),
  (10, .aload_n 0, 1, 0, 0, 0, 0, 0, []), (11, .dup, 1, 0, 0, 0, 0, 0, []), (12, .getfield 248, 3, 6, 2, 1, 1067, 0, []), (15, .aload_n 1, 1, 1, 0, 0, 0, 0, []), (16, .arraylength, 1, 0, 0, 0, 0, 0, []), (17, .iadd, 1, 0, 0, 0, 0, 0, []),
  (18, .putfield 248, 3, 6, 2, 1, 1067, 0, []), (21, .aload_n 0, 1, 0, 0, 0, 0, 0, []), (22, .aload_n 0, 1, 0, 0, 0, 0, 0, []), (23, .getfield 248, 3, 6, 2, 1, 1067, 0, []), (26, .putfield 262, 3, 6, 4, 1, 1069, 0, []), (29, .iconst 1, 1, 0, 0, 0, 0, 1, []),
  (30, .ireturn, 1, 0, 0, 4, 0, 0, [])]
noncomputable def am_s136 : am_S := (yX6_asks, cX6_asks, 2, none, 1, 0, 2, 6, 1448, 1447, 76, 175)
noncomputable def am_c136 : List (Nat × am_E) := [(0, .aload_n 0, 1, 0, 0, 0, 0, 0, []), (1, .getfield 242, 3, 6, 5, 1, 1070, 0, []), (4, .ifCond .ne 20, 3, 24, 0, 0, 0, 0, []), (7, .aload_n 0, 1, 0, 0, 0, 0, 0, []), (8, .aload_n 1, 1, 1, 0, 0, 0, 0, []), (9, .invokevirtual 269, 3, 135, 2, 4, 1400, 6, []),
  (12, .ifCond .ne 12, 3, 24, 0, 0, 0, 0, []), (15, .aload_n 0, 1, 0, 0, 0, 0, 0, []), (16, .iconst 1, 1, 0, 0, 0, 0, 1, []), (17, .aload_n 0, 1, 0, 0, 0, 0, 0, []), (18, .getfield 248, 3, 6, 2, 1, 1067, 0, []), (21, .invokevirtual 272, 3, 130, 3, 0, 1396, 6, []),
  (24, .return_, 1, 0, 0, 0, 0, 0, [])]
noncomputable def am_s137 : am_S := (yX6_takesSign, cX6_takesSign, 2, (some .boolean), 1, 4, 2, 6, 1524, 1523, 93, 175)
noncomputable def am_c137 : List (Nat × am_E) := [(0, .aload_n 0, 1, 0, 0, 0, 0, 0, []), (1, .getfield 242, 3, 6, 5, 1, 1070, 0, []), (4, .ifCond .ne 11, 3, 15, 0, 0, 0, 0, []), (7, .aload_n 0, 1, 0, 0, 0, 0, 0, []), (8, .invokevirtual 254, 3, 133, 1, 1, 1388, 6, []), (11, .iload_n 1, 1, 1, 0, 0, 0, 0, []),
  (12, .if_icmp .eq 5, 3, 17, 0, 0, 0, 0, []), (15, .iconst 0, 1, 0, 0, 0, 0, 0, []), (16, .ireturn, 1, 0, 0, 4, 0, 0, []), (17, .aload_n 0, 1, 0, 0, 0, 0, 0, []), (18, .dup, 1, 0, 0, 0, 0, 0, []), (19, .getfield 248, 3, 6, 2, 1, 1067, 0, []),
  (22, .iconst 1, 1, 0, 0, 0, 0, 1, []), (23, .iadd, 1, 0, 0, 0, 0, 0, []), (24, .putfield 248, 3, 6, 2, 1, 1067, 0, []), (27, .iconst 1, 1, 0, 0, 0, 0, 1, []), (28, .ireturn, 1, 0, 0, 4, 0, 0, [])]
noncomputable def am_s138 : am_S := (yX6_asksSign, cX6_asksSign, 2, none, 1, 0, 2, 6, 1520, 1519, 92, 175)
noncomputable def am_c138 : List (Nat × am_E) := [(0, .aload_n 0, 1, 0, 0, 0, 0, 0, []), (1, .getfield 242, 3, 6, 5, 1, 1070, 0, []), (4, .ifCond .ne 20, 3, 24, 0, 0, 0, 0, []), (7, .aload_n 0, 1, 0, 0, 0, 0, 0, []), (8, .iload_n 1, 1, 1, 0, 0, 0, 0, []), (9, .invokevirtual 276, 3, 137, 2, 4, 1521, 6, []),
  (12, .ifCond .ne 12, 3, 24, 0, 0, 0, 0, []), (15, .aload_n 0, 1, 0, 0, 0, 0, 0, []), (16, .iconst 1, 1, 0, 0, 0, 0, 1, []), (17, .aload_n 0, 1, 0, 0, 0, 0, 0, []), (18, .getfield 248, 3, 6, 2, 1, 1067, 0, []), (21, .invokevirtual 272, 3, 130, 3, 0, 1396, 6, []),
  (24, .return_, 1, 0, 0, 0, 0, 0, [])]
noncomputable def am_s139 : am_S := (yX6_number, cX6_number, 5, (some .int), 1, 1, 3, 6, 1452, 1451, 77, 175)
noncomputable def am_c139 : List (Nat × am_E) := [(0, .aload_n 0, 1, 0, 0, 0, 0, 0, []), (1, .getfield 242, 3, 6, 5, 1, 1070, 0, []), (4, .ifCond .eq 5, 3, 9, 0, 0, 0, 0, []), (7, .iconst 0, 1, 0, 0, 0, 0, 0, []), (8, .ireturn, 1, 0, 0, 1, 0, 0, []), (9, .aload_n 0, 1, 0, 0, 0, 0, 0, []),
  (10, .invokevirtual 254, 3, 133, 1, 1, 1388, 6, []), (13, .invokestatic 279, 3, 132, 1, 4, 1453, 0, []), (16, .ifCond .eq 14, 3, 30, 0, 0, 0, 0, []), (19, .aload_n 0, 1, 0, 0, 0, 0, 0, []), (20, .getfield 248, 3, 6, 2, 1, 1067, 0, []), (23, .aload_n 0, 1, 0, 0, 0, 0, 0, []),
  (24, .getfield 262, 3, 6, 4, 1, 1069, 0, []), (27, .if_icmp .ne 14, 3, 41, 0, 0, 0, 0, []), (30, .aload_n 0, 1, 0, 0, 0, 0, 0, []), (31, .iconst 1, 1, 0, 0, 0, 0, 1, []), (32, .aload_n 0, 1, 0, 0, 0, 0, 0, []), (33, .getfield 248, 3, 6, 2, 1, 1067, 0, []),
  (36, .invokevirtual 272, 3, 130, 3, 0, 1396, 6, []), (39, .iconst 0, 1, 0, 0, 0, 0, 0, []), (40, .ireturn, 1, 0, 0, 1, 0, 0, []), (41, .aload_n 0, 1, 0, 0, 0, 0, 0, []), (42, .getfield 248, 3, 6, 2, 1, 1067, 0, []), (45, .istore_n 3, 1, 3, 0, 0, 0, 0, []),
  (46, .iconst 0, 1, 0, 0, 0, 0, 0, []), (47, .istore 4, 2, 4, 0, 0, 0, 0, []), (49, .aload_n 0, 1, 0, 0, 0, 0, 0, []), (50, .getfield 248, 3, 6, 2, 1, 1067, 0, []), (53, .aload_n 0, 1, 0, 0, 0, 0, 0, []), (54, .getfield 251, 3, 6, 3, 1, 1068, 0, []),
  (57, .if_icmp .ge 72, 3, 129, 0, 0, 0, 0, []), (60, .aload_n 0, 1, 0, 0, 0, 0, 0, []), (61, .getfield 7, 3, 6, 0, 3, 1065, 0, []), (64, .aload_n 0, 1, 0, 0, 0, 0, 0, []), (65, .getfield 248, 3, 6, 2, 1, 1067, 0, []), (68, .iaload, 1, 0, 0, 0, 0, 0, []),
  (69, .invokestatic 279, 3, 132, 1, 4, 1453, 0, []), (72, .ifCond .eq 57, 3, 129, 0, 0, 0, 0, []), (75, .aload_n 0, 1, 0, 0, 0, 0, 0, []), (76, .getfield 248, 3, 6, 2, 1, 1067, 0, []), (79, .iload_n 3, 1, 3, 0, 0, 0, 0, []), (80, .isub, 1, 0, 0, 0, 0, 0, []),
  (81, .iconst 4, 1, 0, 0, 0, 0, 4, []), (82, .if_icmp .ne 14, 3, 96, 0, 0, 0, 0, []), (85, .aload_n 0, 1, 0, 0, 0, 0, 0, []), (86, .iconst 1, 1, 0, 0, 0, 0, 1, []), (87, .aload_n 0, 1, 0, 0, 0, 0, 0, []), (88, .getfield 248, 3, 6, 2, 1, 1067, 0, []),
  (91, .invokevirtual 272, 3, 130, 3, 0, 1396, 6, []), (94, .iconst 0, 1, 0, 0, 0, 0, 0, []), (95, .ireturn, 1, 0, 0, 1, 0, 0, []), (96, .bipush 10, 2, 0, 0, 0, 0, 10, []), (98, .iload 4, 2, 4, 0, 0, 0, 0, []), (100, .imul, 1, 0, 0, 0, 0, 0, []),
  (101, .aload_n 0, 1, 0, 0, 0, 0, 0, []), (102, .getfield 7, 3, 6, 0, 3, 1065, 0, []), (105, .aload_n 0, 1, 0, 0, 0, 0, 0, []), (106, .getfield 248, 3, 6, 2, 1, 1067, 0, []), (109, .iaload, 1, 0, 0, 0, 0, 0, []), (110, .iadd, 1, 0, 0, 0, 0, 0, []),
  (111, .bipush 48, 2, 0, 0, 0, 0, 48, []), (113, .isub, 1, 0, 0, 0, 0, 0, []), (114, .istore 4, 2, 4, 0, 0, 0, 0, []), (116, .aload_n 0, 1, 0, 0, 0, 0, 0, []), (117, .dup, 1, 0, 0, 0, 0, 0, []), (118, .getfield 248, 3, 6, 2, 1, 1067, 0, []),
  (121, .iconst 1, 1, 0, 0, 0, 0, 1, []), (122, .iadd, 1, 0, 0, 0, 0, 0, []), (123, .putfield 248, 3, 6, 2, 1, 1067, 0, []), (126, .goto (-77), 3, 49, 0, 0, 0, 0, []), (129, .aload_n 0, 1, 0, 0, 0, 0, 0, []), (130, .aload_n 0, 1, 0, 0, 0, 0, 0, []),
  (131, .getfield 248, 3, 6, 2, 1, 1067, 0, []), (134, .putfield 262, 3, 6, 4, 1, 1069, 0, []), (137, .iload 4, 2, 4, 0, 0, 0, 0, []), (139, .i2l, 1, 0, 0, 0, 0, 0, []), (140, .iload_n 1, 1, 1, 0, 0, 0, 0, []), (141, .i2l, 1, 0, 0, 0, 0, 0, []),
  (142, .iload_n 2, 1, 2, 0, 0, 0, 0, []), (143, .i2l, 1, 0, 0, 0, 0, 0, []), (144, .invokestatic 282, 3, 127, 3, 4, 1456, 0, []), (147, .ifCond .ne 9, 3, 156, 0, 0, 0, 0, []), (150, .aload_n 0, 1, 0, 0, 0, 0, 0, []), (151, .iconst 2, 1, 0, 0, 0, 0, 2, []),
  (152, .iload_n 3, 1, 3, 0, 0, 0, 0, []), (153, .invokevirtual 272, 3, 130, 3, 0, 1396, 6, []), (156, .iload 4, 2, 4, 0, 0, 0, 0, []), (158, .ireturn, 1, 0, 0, 1, 0, 0, [])]
noncomputable def am_s140 : am_S := (yX6_isOwnHere, cX6_isOwnHere, 2, (some .boolean), 1, 4, 1, 6, 1430, 1429, 72, 175)
noncomputable def am_c140_0 : List (Nat × am_E) := [(0, .aload_n 0, 1, 0, 0, 0, 0, 0, []), (1, .aload_n 0, 1, 0, 0, 0, 0, 0, []), (2, .getfield 20, 3, 6, 10, 3, 1075, 0, []), (5, .invokevirtual 265, 3, 134, 2, 4, 1404, 6, []), (8, .ifCond .ne 58, 3, 66, 0, 0, 0, 0, []), (11, .aload_n 0, 1, 0, 0, 0, 0, 0, []),
  (12, .aload_n 0, 1, 0, 0, 0, 0, 0, []), (13, .getfield 24, 3, 6, 11, 3, 1076, 0, []), (16, .invokevirtual 265, 3, 134, 2, 4, 1404, 6, []), (19, .ifCond .ne 47, 3, 66, 0, 0, 0, 0, []), (22, .aload_n 0, 1, 0, 0, 0, 0, 0, []), (23, .aload_n 0, 1, 0, 0, 0, 0, 0, []),
  (24, .getfield 27, 3, 6, 12, 3, 1077, 0, []), (27, .invokevirtual 265, 3, 134, 2, 4, 1404, 6, []), (30, .ifCond .ne 36, 3, 66, 0, 0, 0, 0, []), (33, .aload_n 0, 1, 0, 0, 0, 0, 0, []), (34, .aload_n 0, 1, 0, 0, 0, 0, 0, []), (35, .getfield 30, 3, 6, 13, 3, 1078, 0, []),
  (38, .invokevirtual 265, 3, 134, 2, 4, 1404, 6, []), (41, .ifCond .ne 25, 3, 66, 0, 0, 0, 0, []), (44, .aload_n 0, 1, 0, 0, 0, 0, 0, []), (45, .aload_n 0, 1, 0, 0, 0, 0, 0, []), (46, .getfield 33, 3, 6, 14, 3, 1079, 0, []), (49, .invokevirtual 265, 3, 134, 2, 4, 1404, 6, []),
  (52, .ifCond .ne 14, 3, 66, 0, 0, 0, 0, []), (55, .aload_n 0, 1, 0, 0, 0, 0, 0, []), (56, .aload_n 0, 1, 0, 0, 0, 0, 0, []), (57, .getfield 36, 3, 6, 15, 3, 1080, 0, []), (60, .invokevirtual 265, 3, 134, 2, 4, 1404, 6, []), (63, .ifCond .eq 7, 3, 70, 0, 0, 0, 0, []),
  (66, .iconst 1, 1, 0, 0, 0, 0, 1, []), (67, .goto 4, 3, 71, 0, 0, 0, 0, []), (70, .iconst 0, 1, 0, 0, 0, 0, 0, []), (71, .istore_n 1, 1, 1, 0, 0, 0, 0, []), (72, .iload_n 1, 1, 1, 0, 0, 0, 0, []), (73, .ifCond .ne 69, 3, 142, 0, 0, 0, 0, []),
  (76, .aload_n 0, 1, 0, 0, 0, 0, 0, []), (77, .aload_n 0, 1, 0, 0, 0, 0, 0, []), (78, .getfield 39, 3, 6, 16, 3, 1081, 0, []), (81, .invokevirtual 265, 3, 134, 2, 4, 1404, 6, []), (84, .ifCond .ne 58, 3, 142, 0, 0, 0, 0, []), (87, .aload_n 0, 1, 0, 0, 0, 0, 0, []),
  (88, .aload_n 0, 1, 0, 0, 0, 0, 0, []), (89, .getfield 42, 3, 6, 17, 3, 1082, 0, []), (92, .invokevirtual 265, 3, 134, 2, 4, 1404, 6, []), (95, .ifCond .ne 47, 3, 142, 0, 0, 0, 0, []), (98, .aload_n 0, 1, 0, 0, 0, 0, 0, []), (99, .aload_n 0, 1, 0, 0, 0, 0, 0, []),
  (100, .getfield 45, 3, 6, 18, 3, 1083, 0, []), (103, .invokevirtual 265, 3, 134, 2, 4, 1404, 6, []), (106, .ifCond .ne 36, 3, 142, 0, 0, 0, 0, []), (109, .aload_n 0, 1, 0, 0, 0, 0, 0, []), (110, .aload_n 0, 1, 0, 0, 0, 0, 0, []), (111, .getfield 48, 3, 6, 19, 3, 1084, 0, []),
  (114, .invokevirtual 265, 3, 134, 2, 4, 1404, 6, []), (117, .ifCond .ne 25, 3, 142, 0, 0, 0, 0, []), (120, .aload_n 0, 1, 0, 0, 0, 0, 0, []), (121, .aload_n 0, 1, 0, 0, 0, 0, 0, []), (122, .getfield 51, 3, 6, 20, 3, 1085, 0, []), (125, .invokevirtual 265, 3, 134, 2, 4, 1404, 6, []),
  (128, .ifCond .ne 14, 3, 142, 0, 0, 0, 0, []), (131, .aload_n 0, 1, 0, 0, 0, 0, 0, []), (132, .aload_n 0, 1, 0, 0, 0, 0, 0, []), (133, .getfield 54, 3, 6, 21, 3, 1086, 0, []), (136, .invokevirtual 265, 3, 134, 2, 4, 1404, 6, []), (139, .ifCond .eq 7, 3, 146, 0, 0, 0, 0, []),
  (142, .iconst 1, 1, 0, 0, 0, 0, 1, []), (143, .goto 4, 3, 147, 0, 0, 0, 0, []), (146, .iconst 0, 1, 0, 0, 0, 0, 0, []), (147, .istore_n 1, 1, 1, 0, 0, 0, 0, []), (148, .iload_n 1, 1, 1, 0, 0, 0, 0, []), (149, .ifCond .ne 69, 3, 218, 0, 0, 0, 0, []),
  (152, .aload_n 0, 1, 0, 0, 0, 0, 0, []), (153, .aload_n 0, 1, 0, 0, 0, 0, 0, []), (154, .getfield 57, 3, 6, 22, 3, 1087, 0, []), (157, .invokevirtual 265, 3, 134, 2, 4, 1404, 6, []), (160, .ifCond .ne 58, 3, 218, 0, 0, 0, 0, []), (163, .aload_n 0, 1, 0, 0, 0, 0, 0, []),
  (164, .aload_n 0, 1, 0, 0, 0, 0, 0, []), (165, .getfield 60, 3, 6, 23, 3, 1088, 0, []), (168, .invokevirtual 265, 3, 134, 2, 4, 1404, 6, []), (171, .ifCond .ne 47, 3, 218, 0, 0, 0, 0, []), (174, .aload_n 0, 1, 0, 0, 0, 0, 0, []), (175, .aload_n 0, 1, 0, 0, 0, 0, 0, []),
  (176, .getfield 63, 3, 6, 24, 3, 1089, 0, []), (179, .invokevirtual 265, 3, 134, 2, 4, 1404, 6, []), (182, .ifCond .ne 36, 3, 218, 0, 0, 0, 0, []), (185, .aload_n 0, 1, 0, 0, 0, 0, 0, []), (186, .aload_n 0, 1, 0, 0, 0, 0, 0, []), (187, .getfield 66, 3, 6, 25, 3, 1090, 0, []),
  (190, .invokevirtual 265, 3, 134, 2, 4, 1404, 6, []), (193, .ifCond .ne 25, 3, 218, 0, 0, 0, 0, []), (196, .aload_n 0, 1, 0, 0, 0, 0, 0, []), (197, .aload_n 0, 1, 0, 0, 0, 0, 0, []), (198, .getfield 69, 3, 6, 26, 3, 1091, 0, []), (201, .invokevirtual 265, 3, 134, 2, 4, 1404, 6, []),
  (204, .ifCond .ne 14, 3, 218, 0, 0, 0, 0, []), (207, .aload_n 0, 1, 0, 0, 0, 0, 0, []), (208, .aload_n 0, 1, 0, 0, 0, 0, 0, []), (209, .getfield 72, 3, 6, 27, 3, 1092, 0, [])]
noncomputable def am_c140_1 : List (Nat × am_E) := [(212, .invokevirtual 265, 3, 134, 2, 4, 1404, 6, []), (215, .ifCond .eq 7, 3, 222, 0, 0, 0, 0, []), (218, .iconst 1, 1, 0, 0, 0, 0, 1, []), (219, .goto 4, 3, 223, 0, 0, 0, 0, []), (222, .iconst 0, 1, 0, 0, 0, 0, 0, []), (223, .istore_n 1, 1, 1, 0, 0, 0, 0, []),
  (224, .iload_n 1, 1, 1, 0, 0, 0, 0, []), (225, .ifCond .ne 69, 3, 294, 0, 0, 0, 0, []), (228, .aload_n 0, 1, 0, 0, 0, 0, 0, []), (229, .aload_n 0, 1, 0, 0, 0, 0, 0, []), (230, .getfield 75, 3, 6, 28, 3, 1093, 0, []), (233, .invokevirtual 265, 3, 134, 2, 4, 1404, 6, []),
  (236, .ifCond .ne 58, 3, 294, 0, 0, 0, 0, []), (239, .aload_n 0, 1, 0, 0, 0, 0, 0, []), (240, .aload_n 0, 1, 0, 0, 0, 0, 0, []), (241, .getfield 78, 3, 6, 29, 3, 1094, 0, []), (244, .invokevirtual 265, 3, 134, 2, 4, 1404, 6, []), (247, .ifCond .ne 47, 3, 294, 0, 0, 0, 0, []),
  (250, .aload_n 0, 1, 0, 0, 0, 0, 0, []), (251, .aload_n 0, 1, 0, 0, 0, 0, 0, []), (252, .getfield 81, 3, 6, 30, 3, 1095, 0, []), (255, .invokevirtual 265, 3, 134, 2, 4, 1404, 6, []), (258, .ifCond .ne 36, 3, 294, 0, 0, 0, 0, []), (261, .aload_n 0, 1, 0, 0, 0, 0, 0, []),
  (262, .aload_n 0, 1, 0, 0, 0, 0, 0, []), (263, .getfield 84, 3, 6, 31, 3, 1096, 0, []), (266, .invokevirtual 265, 3, 134, 2, 4, 1404, 6, []), (269, .ifCond .ne 25, 3, 294, 0, 0, 0, 0, []), (272, .aload_n 0, 1, 0, 0, 0, 0, 0, []), (273, .aload_n 0, 1, 0, 0, 0, 0, 0, []),
  (274, .getfield 87, 3, 6, 32, 3, 1097, 0, []), (277, .invokevirtual 265, 3, 134, 2, 4, 1404, 6, []), (280, .ifCond .ne 14, 3, 294, 0, 0, 0, 0, []), (283, .aload_n 0, 1, 0, 0, 0, 0, 0, []), (284, .aload_n 0, 1, 0, 0, 0, 0, 0, []), (285, .getfield 90, 3, 6, 33, 3, 1098, 0, []),
  (288, .invokevirtual 265, 3, 134, 2, 4, 1404, 6, []), (291, .ifCond .eq 7, 3, 298, 0, 0, 0, 0, []), (294, .iconst 1, 1, 0, 0, 0, 0, 1, []), (295, .goto 4, 3, 299, 0, 0, 0, 0, []), (298, .iconst 0, 1, 0, 0, 0, 0, 0, []), (299, .istore_n 1, 1, 1, 0, 0, 0, 0, []),
  (300, .iload_n 1, 1, 1, 0, 0, 0, 0, []), (301, .ifCond .ne 58, 3, 359, 0, 0, 0, 0, []), (304, .aload_n 0, 1, 0, 0, 0, 0, 0, []), (305, .aload_n 0, 1, 0, 0, 0, 0, 0, []), (306, .getfield 93, 3, 6, 34, 3, 1099, 0, []), (309, .invokevirtual 265, 3, 134, 2, 4, 1404, 6, []),
  (312, .ifCond .ne 47, 3, 359, 0, 0, 0, 0, []), (315, .aload_n 0, 1, 0, 0, 0, 0, 0, []), (316, .aload_n 0, 1, 0, 0, 0, 0, 0, []), (317, .getfield 96, 3, 6, 35, 3, 1100, 0, []), (320, .invokevirtual 265, 3, 134, 2, 4, 1404, 6, []), (323, .ifCond .ne 36, 3, 359, 0, 0, 0, 0, []),
  (326, .aload_n 0, 1, 0, 0, 0, 0, 0, []), (327, .aload_n 0, 1, 0, 0, 0, 0, 0, []), (328, .getfield 99, 3, 6, 36, 3, 1101, 0, []), (331, .invokevirtual 265, 3, 134, 2, 4, 1404, 6, []), (334, .ifCond .ne 25, 3, 359, 0, 0, 0, 0, []), (337, .aload_n 0, 1, 0, 0, 0, 0, 0, []),
  (338, .aload_n 0, 1, 0, 0, 0, 0, 0, []), (339, .getfield 102, 3, 6, 37, 3, 1102, 0, []), (342, .invokevirtual 265, 3, 134, 2, 4, 1404, 6, []), (345, .ifCond .ne 14, 3, 359, 0, 0, 0, 0, []), (348, .aload_n 0, 1, 0, 0, 0, 0, 0, []), (349, .aload_n 0, 1, 0, 0, 0, 0, 0, []),
  (350, .getfield 105, 3, 6, 38, 3, 1103, 0, []), (353, .invokevirtual 265, 3, 134, 2, 4, 1404, 6, []), (356, .ifCond .eq 7, 3, 363, 0, 0, 0, 0, []), (359, .iconst 1, 1, 0, 0, 0, 0, 1, []), (360, .goto 4, 3, 364, 0, 0, 0, 0, []), (363, .iconst 0, 1, 0, 0, 0, 0, 0, []),
  (364, .istore_n 1, 1, 1, 0, 0, 0, 0, []), (365, .iload_n 1, 1, 1, 0, 0, 0, 0, []), (366, .ireturn, 1, 0, 0, 4, 0, 0, [])]
noncomputable def am_c140 : List (Nat × am_E) := am_c140_0 ++ (am_c140_1)
noncomputable def am_s141 : am_S := (yX6_name, cX6_name, 3, (some .long), 1, 2, 1, 6, 1426, 1425, 71, 175)
noncomputable def am_c141 : List (Nat × am_E) := [(0, .aload_n 0, 1, 0, 0, 0, 0, 0, []), (1, .getfield 242, 3, 6, 5, 1, 1070, 0, []), (4, .ifCond .eq 5, 3, 9, 0, 0, 0, 0, []), (7, .lconst 0, 1, 0, 0, 0, 0, 0, []), (8, .lreturn, 1, 0, 0, 2, 0, 0, []), (9, .aload_n 0, 1, 0, 0, 0, 0, 0, []),
  (10, .invokevirtual 254, 3, 133, 1, 1, 1388, 6, []), (13, .invokestatic 258, 3, 131, 1, 4, 1408, 0, []), (16, .ifCond .eq 21, 3, 37, 0, 0, 0, 0, []), (19, .aload_n 0, 1, 0, 0, 0, 0, 0, []), (20, .getfield 248, 3, 6, 2, 1, 1067, 0, []), (23, .aload_n 0, 1, 0, 0, 0, 0, 0, []),
  (24, .getfield 262, 3, 6, 4, 1, 1069, 0, []), (27, .if_icmp .eq 10, 3, 37, 0, 0, 0, 0, []), (30, .aload_n 0, 1, 0, 0, 0, 0, 0, []), (31, .invokevirtual 286, 3, 140, 1, 4, 1427, 6, []), (34, .ifCond .eq 14, 3, 48, 0, 0, 0, 0, []), (37, .aload_n 0, 1, 0, 0, 0, 0, 0, []),
  (38, .iconst 1, 1, 0, 0, 0, 0, 1, []), (39, .aload_n 0, 1, 0, 0, 0, 0, 0, []), (40, .getfield 248, 3, 6, 2, 1, 1067, 0, []), (43, .invokevirtual 272, 3, 130, 3, 0, 1396, 6, []), (46, .lconst 0, 1, 0, 0, 0, 0, 0, []), (47, .lreturn, 1, 0, 0, 2, 0, 0, []),
  (48, .aload_n 0, 1, 0, 0, 0, 0, 0, []), (49, .aload_n 0, 1, 0, 0, 0, 0, 0, []), (50, .getfield 248, 3, 6, 2, 1, 1067, 0, []), (53, .putfield 290, 3, 6, 39, 1, 1104, 0, []), (56, .lconst 0, 1, 0, 0, 0, 0, 0, []), (57, .lstore_n 1, 1, 1, 0, 0, 0, 0, []),
  (58, .aload_n 0, 1, 0, 0, 0, 0, 0, []), (59, .getfield 248, 3, 6, 2, 1, 1067, 0, []), (62, .aload_n 0, 1, 0, 0, 0, 0, 0, []), (63, .getfield 251, 3, 6, 3, 1, 1068, 0, []), (66, .if_icmp .ge 79, 3, 145, 0, 0, 0, 0, []), (69, .aload_n 0, 1, 0, 0, 0, 0, 0, []),
  (70, .getfield 7, 3, 6, 0, 3, 1065, 0, []), (73, .aload_n 0, 1, 0, 0, 0, 0, 0, []), (74, .getfield 248, 3, 6, 2, 1, 1067, 0, []), (77, .iaload, 1, 0, 0, 0, 0, 0, []), (78, .invokestatic 258, 3, 131, 1, 4, 1408, 0, []), (81, .ifCond .eq 64, 3, 145, 0, 0, 0, 0, []),
  (84, .aload_n 0, 1, 0, 0, 0, 0, 0, []), (85, .getfield 248, 3, 6, 2, 1, 1067, 0, []), (88, .aload_n 0, 1, 0, 0, 0, 0, 0, []), (89, .getfield 290, 3, 6, 39, 1, 1104, 0, []), (92, .isub, 1, 0, 0, 0, 0, 0, []), (93, .bipush 6, 2, 0, 0, 0, 0, 6, []),
  (95, .if_icmp .ne 14, 3, 109, 0, 0, 0, 0, []), (98, .aload_n 0, 1, 0, 0, 0, 0, 0, []), (99, .iconst 1, 1, 0, 0, 0, 0, 1, []), (100, .aload_n 0, 1, 0, 0, 0, 0, 0, []), (101, .getfield 248, 3, 6, 2, 1, 1067, 0, []), (104, .invokevirtual 272, 3, 130, 3, 0, 1396, 6, []),
  (107, .lconst 0, 1, 0, 0, 0, 0, 0, []), (108, .lreturn, 1, 0, 0, 2, 0, 0, []), (109, .ldc2_w 293, 3, 0, 0, 0, 1431, 27, []), (112, .lload_n 1, 1, 1, 0, 0, 0, 0, []), (113, .lmul, 1, 0, 0, 0, 0, 0, []), (114, .aload_n 0, 1, 0, 0, 0, 0, 0, []),
  (115, .getfield 7, 3, 6, 0, 3, 1065, 0, []), (118, .aload_n 0, 1, 0, 0, 0, 0, 0, []), (119, .getfield 248, 3, 6, 2, 1, 1067, 0, []), (122, .iaload, 1, 0, 0, 0, 0, 0, []), (123, .i2l, 1, 0, 0, 0, 0, 0, []), (124, .ladd, 1, 0, 0, 0, 0, 0, []),
  (125, .ldc2_w 295, 3, 0, 0, 0, 1432, 97, []), (128, .lsub, 1, 0, 0, 0, 0, 0, []), (129, .lconst 1, 1, 0, 0, 0, 0, 1, []), (130, .ladd, 1, 0, 0, 0, 0, 0, []), (131, .lstore_n 1, 1, 1, 0, 0, 0, 0, []), (132, .aload_n 0, 1, 0, 0, 0, 0, 0, []),
  (133, .dup, 1, 0, 0, 0, 0, 0, []), (134, .getfield 248, 3, 6, 2, 1, 1067, 0, []), (137, .iconst 1, 1, 0, 0, 0, 0, 1, []), (138, .iadd, 1, 0, 0, 0, 0, 0, []), (139, .putfield 248, 3, 6, 2, 1, 1067, 0, []), (142, .goto (-84), 3, 58, 0, 0, 0, 0, []),
  (145, .aload_n 0, 1, 0, 0, 0, 0, 0, []), (146, .aload_n 0, 1, 0, 0, 0, 0, 0, []), (147, .getfield 248, 3, 6, 2, 1, 1067, 0, []), (150, .putfield 262, 3, 6, 4, 1, 1069, 0, []), (153, .lload_n 1, 1, 1, 0, 0, 0, 0, []), (154, .lreturn, 1, 0, 0, 2, 0, 0, [])]
noncomputable def am_s142 : am_S := (yX6_isAllowed, cX6_isAllowed, 2, (some .boolean), 1, 4, 2, 6, 1514, 1513, 91, 175)
noncomputable def am_c142 : List (Nat × am_E) := [(0, .aload_n 0, 1, 0, 0, 0, 0, 0, []), (1, .getfield 297, 3, 6, 53, 1, 1118, 0, []), (4, .tableswitch 74 0 2 #[28, 39, 50], 28, 78, 0, 0, 0, 0, [(0, 32), (1, 43), (2, 54)]), (32, .iload_n 1, 1, 1, 0, 0, 0, 0, []), (33, .iconst 3, 1, 0, 0, 0, 0, 3, []), (34, .if_icmp .ge 7, 3, 41, 0, 0, 0, 0, []),
  (37, .iconst 1, 1, 0, 0, 0, 0, 1, []), (38, .goto 4, 3, 42, 0, 0, 0, 0, []), (41, .iconst 0, 1, 0, 0, 0, 0, 0, []), (42, .ireturn, 1, 0, 0, 4, 0, 0, []), (43, .iload_n 1, 1, 1, 0, 0, 0, 0, []), (44, .iconst 2, 1, 0, 0, 0, 0, 2, []),
  (45, .if_icmp .ge 7, 3, 52, 0, 0, 0, 0, []), (48, .iconst 1, 1, 0, 0, 0, 0, 1, []), (49, .goto 4, 3, 53, 0, 0, 0, 0, []), (52, .iconst 0, 1, 0, 0, 0, 0, 0, []), (53, .ireturn, 1, 0, 0, 4, 0, 0, []), (54, .iload_n 1, 1, 1, 0, 0, 0, 0, []),
  (55, .ifCond .eq 17, 3, 72, 0, 0, 0, 0, []), (58, .iload_n 1, 1, 1, 0, 0, 0, 0, []), (59, .i2l, 1, 0, 0, 0, 0, 0, []), (60, .ldc2_w 300, 3, 0, 0, 0, 1515, 3, []), (63, .ldc2_w 302, 3, 0, 0, 0, 1516, 5, []), (66, .invokestatic 282, 3, 127, 3, 4, 1456, 0, []),
  (69, .ifCond .eq 7, 3, 76, 0, 0, 0, 0, []), (72, .iconst 1, 1, 0, 0, 0, 0, 1, []), (73, .goto 4, 3, 77, 0, 0, 0, 0, []), (76, .iconst 0, 1, 0, 0, 0, 0, 0, []), (77, .ireturn, 1, 0, 0, 4, 0, 0, []), (78, .iload_n 1, 1, 1, 0, 0, 0, 0, []),
  (79, .ifCond .eq 8, 3, 87, 0, 0, 0, 0, []), (82, .iload_n 1, 1, 1, 0, 0, 0, 0, []), (83, .iconst 2, 1, 0, 0, 0, 0, 2, []), (84, .if_icmp .le 7, 3, 91, 0, 0, 0, 0, []), (87, .iconst 1, 1, 0, 0, 0, 0, 1, []), (88, .goto 4, 3, 92, 0, 0, 0, 0, []),
  (91, .iconst 0, 1, 0, 0, 0, 0, 0, []), (92, .ireturn, 1, 0, 0, 4, 0, 0, [])]
noncomputable def am_s143 : am_S := (yX6_isFull, cX6_isFull, 4, (some .boolean), 1, 4, 4, 6, 1418, 1417, 69, 175)
noncomputable def am_c143 : List (Nat × am_E) := [(0, .aload_n 0, 1, 0, 0, 0, 0, 0, []), (1, .getfield 242, 3, 6, 5, 1, 1070, 0, []), (4, .ifCond .ne 19, 3, 23, 0, 0, 0, 0, []), (7, .aload_n 0, 1, 0, 0, 0, 0, 0, []), (8, .getfield 108, 3, 6, 40, 3, 1105, 0, []), (11, .iload_n 1, 1, 1, 0, 0, 0, 0, []),
  (12, .iaload, 1, 0, 0, 0, 0, 0, []), (13, .iload_n 2, 1, 2, 0, 0, 0, 0, []), (14, .if_icmp .ne 9, 3, 23, 0, 0, 0, 0, []), (17, .aload_n 0, 1, 0, 0, 0, 0, 0, []), (18, .iconst 5, 1, 0, 0, 0, 0, 5, []), (19, .iload_n 3, 1, 3, 0, 0, 0, 0, []),
  (20, .invokevirtual 272, 3, 130, 3, 0, 1396, 6, []), (23, .aload_n 0, 1, 0, 0, 0, 0, 0, []), (24, .getfield 242, 3, 6, 5, 1, 1070, 0, []), (27, .ifCond .eq 7, 3, 34, 0, 0, 0, 0, []), (30, .iconst 1, 1, 0, 0, 0, 0, 1, []), (31, .goto 4, 3, 35, 0, 0, 0, 0, []),
  (34, .iconst 0, 1, 0, 0, 0, 0, 0, []), (35, .ireturn, 1, 0, 0, 4, 0, 0, [])]
noncomputable def am_s144 : am_S := (yX6_nameOf, cX6_nameOf, 5, (some .int), 1, 1, 3, 6, 1436, 1435, 73, 175)
noncomputable def am_c144 : List (Nat × am_E) := [(0, .iconst 0, 1, 0, 0, 0, 0, 0, []), (1, .istore 4, 2, 4, 0, 0, 0, 0, []), (3, .iload 4, 2, 4, 0, 0, 0, 0, []), (5, .aload_n 0, 1, 0, 0, 0, 0, 0, []), (6, .getfield 108, 3, 6, 40, 3, 1105, 0, []), (9, .iload_n 1, 1, 1, 0, 0, 0, 0, []),
  (10, .iaload, 1, 0, 0, 0, 0, 0, []), (11, .if_icmp .ge 29, 3, 40, 0, 0, 0, 0, []), (14, .aload_n 0, 1, 0, 0, 0, 0, 0, []), (15, .getfield 111, 3, 6, 41, 3, 1106, 0, []), (18, .bipush 8, 2, 0, 0, 0, 0, 8, []), (20, .iload_n 1, 1, 1, 0, 0, 0, 0, []),
  (21, .imul, 1, 0, 0, 0, 0, 0, []), (22, .iload 4, 2, 4, 0, 0, 0, 0, []), (24, .iadd, 1, 0, 0, 0, 0, 0, []), (25, .laload, 1, 0, 0, 0, 0, 0, []), (26, .lload_n 2, 1, 2, 0, 0, 0, 0, []), (27, .lcmp, 1, 0, 0, 0, 0, 0, []),
  (28, .ifCond .ne 6, 3, 34, 0, 0, 0, 0, []), (31, .iload 4, 2, 4, 0, 0, 0, 0, []), (33, .ireturn, 1, 0, 0, 1, 0, 0, []), (34, .iinc 4 1, 3, 4, 0, 0, 0, 1, []), (37, .goto (-34), 3, 3, 0, 0, 0, 0, []), (40, .iconst (-1), 1, 0, 0, 0, 0, (-1), []),
  (41, .ireturn, 1, 0, 0, 1, 0, 0, [])]
noncomputable def am_s145 : am_S := (yX6_newName, cX6_newName, 4, (some .long), 1, 2, 1, 6, 1422, 1421, 70, 175)
noncomputable def am_c145 : List (Nat × am_E) := [(0, .aload_n 0, 1, 0, 0, 0, 0, 0, []), (1, .invokevirtual 304, 3, 141, 1, 2, 1423, 6, []), (4, .lstore_n 1, 1, 1, 0, 0, 0, 0, []), (5, .iconst 0, 1, 0, 0, 0, 0, 0, []), (6, .istore_n 3, 1, 3, 0, 0, 0, 0, []), (7, .iload_n 3, 1, 3, 0, 0, 0, 0, []),
  (8, .iconst 3, 1, 0, 0, 0, 0, 3, []), (9, .if_icmp .ge 35, 3, 44, 0, 0, 0, 0, []), (12, .aload_n 0, 1, 0, 0, 0, 0, 0, []), (13, .getfield 242, 3, 6, 5, 1, 1070, 0, []), (16, .ifCond .ne 22, 3, 38, 0, 0, 0, 0, []), (19, .aload_n 0, 1, 0, 0, 0, 0, 0, []),
  (20, .iload_n 3, 1, 3, 0, 0, 0, 0, []), (21, .lload_n 1, 1, 1, 0, 0, 0, 0, []), (22, .invokevirtual 308, 3, 144, 3, 1, 1433, 6, []), (25, .iconst (-1), 1, 0, 0, 0, 0, (-1), []), (26, .if_icmp .eq 12, 3, 38, 0, 0, 0, 0, []), (29, .aload_n 0, 1, 0, 0, 0, 0, 0, []),
  (30, .iconst 3, 1, 0, 0, 0, 0, 3, []), (31, .aload_n 0, 1, 0, 0, 0, 0, 0, []), (32, .getfield 290, 3, 6, 39, 1, 1104, 0, []), (35, .invokevirtual 272, 3, 130, 3, 0, 1396, 6, []), (38, .iinc 3 1, 3, 3, 0, 0, 0, 1, []), (41, .goto (-34), 3, 7, 0, 0, 0, 0, []),
  (44, .lload_n 1, 1, 1, 0, 0, 0, 0, []), (45, .lreturn, 1, 0, 0, 2, 0, 0, [])]
noncomputable def am_s146 : am_S := (yX6_oneOf, cX6_oneOf, 5, (some .int), 1, 1, 2, 6, 1462, 1461, 78, 175)
noncomputable def am_c146 : List (Nat × am_E) := [(0, .aload_n 0, 1, 0, 0, 0, 0, 0, []), (1, .invokevirtual 304, 3, 141, 1, 2, 1423, 6, []), (4, .lstore_n 2, 1, 2, 0, 0, 0, 0, []), (5, .aload_n 0, 1, 0, 0, 0, 0, 0, []), (6, .iload_n 1, 1, 1, 0, 0, 0, 0, []), (7, .lload_n 2, 1, 2, 0, 0, 0, 0, []),
  (8, .invokevirtual 308, 3, 144, 3, 1, 1433, 6, []), (11, .istore 4, 2, 4, 0, 0, 0, 0, []), (13, .aload_n 0, 1, 0, 0, 0, 0, 0, []), (14, .getfield 242, 3, 6, 5, 1, 1070, 0, []), (17, .ifCond .ne 18, 3, 35, 0, 0, 0, 0, []), (20, .iload 4, 2, 4, 0, 0, 0, 0, []),
  (22, .iconst (-1), 1, 0, 0, 0, 0, (-1), []), (23, .if_icmp .ne 12, 3, 35, 0, 0, 0, 0, []), (26, .aload_n 0, 1, 0, 0, 0, 0, 0, []), (27, .iconst 3, 1, 0, 0, 0, 0, 3, []), (28, .aload_n 0, 1, 0, 0, 0, 0, 0, []), (29, .getfield 290, 3, 6, 39, 1, 1104, 0, []),
  (32, .invokevirtual 272, 3, 130, 3, 0, 1396, 6, []), (35, .aload_n 0, 1, 0, 0, 0, 0, 0, []), (36, .getfield 242, 3, 6, 5, 1, 1070, 0, []), (39, .ifCond .ne 8, 3, 47, 0, 0, 0, 0, []), (42, .iload 4, 2, 4, 0, 0, 0, 0, []), (44, .goto 4, 3, 48, 0, 0, 0, 0, []),
  (47, .iconst 0, 1, 0, 0, 0, 0, 0, []), (48, .ireturn, 1, 0, 0, 1, 0, 0, [])]
noncomputable def am_s147 : am_S := (yX6_adds, cX6_adds, 4, none, 1, 0, 3, 6, 1440, 1439, 74, 175)
noncomputable def am_c147 : List (Nat × am_E) := [(0, .aload_n 0, 1, 0, 0, 0, 0, 0, []), (1, .getfield 111, 3, 6, 41, 3, 1106, 0, []), (4, .bipush 8, 2, 0, 0, 0, 0, 8, []), (6, .iload_n 1, 1, 1, 0, 0, 0, 0, []), (7, .imul, 1, 0, 0, 0, 0, 0, []), (8, .aload_n 0, 1, 0, 0, 0, 0, 0, []),
  (9, .getfield 108, 3, 6, 40, 3, 1105, 0, []), (12, .iload_n 1, 1, 1, 0, 0, 0, 0, []), (13, .iaload, 1, 0, 0, 0, 0, 0, []), (14, .iadd, 1, 0, 0, 0, 0, 0, []), (15, .lload_n 2, 1, 2, 0, 0, 0, 0, []), (16, .lastore, 1, 0, 0, 0, 0, 0, []),
  (17, .aload_n 0, 1, 0, 0, 0, 0, 0, []), (18, .getfield 108, 3, 6, 40, 3, 1105, 0, []), (21, .iload_n 1, 1, 1, 0, 0, 0, 0, []), (22, .dup2, 1, 0, 0, 0, 0, 0, []), (23, .iaload, 1, 0, 0, 0, 0, 0, []), (24, .iconst 1, 1, 0, 0, 0, 0, 1, []),
  (25, .iadd, 1, 0, 0, 0, 0, 0, []), (26, .iastore, 1, 0, 0, 0, 0, 0, []), (27, .return_, 1, 0, 0, 0, 0, 0, [])]
noncomputable def am_s148 : am_S := (yX6_kindTold, cX6_kindTold, 4, none, 1, 0, 2, 6, 1414, 1413, 68, 175)
noncomputable def am_c148 : List (Nat × am_E) := [(0, .aload_n 0, 1, 0, 0, 0, 0, 0, []), (1, .iconst 0, 1, 0, 0, 0, 0, 0, []), (2, .bipush 6, 2, 0, 0, 0, 0, 6, []), (4, .iload_n 1, 1, 1, 0, 0, 0, 0, []), (5, .invokevirtual 312, 3, 143, 4, 4, 1415, 6, []), (8, .ifCond .eq 4, 3, 12, 0, 0, 0, 0, []),
  (11, .return_, 1, 0, 0, 0, 0, 0, []), (12, .aload_n 0, 1, 0, 0, 0, 0, 0, []), (13, .invokevirtual 316, 3, 145, 1, 2, 1419, 6, []), (16, .lstore_n 2, 1, 2, 0, 0, 0, 0, []), (17, .aload_n 0, 1, 0, 0, 0, 0, 0, []), (18, .getfield 242, 3, 6, 5, 1, 1070, 0, []),
  (21, .ifCond .ne 9, 3, 30, 0, 0, 0, 0, []), (24, .aload_n 0, 1, 0, 0, 0, 0, 0, []), (25, .iconst 0, 1, 0, 0, 0, 0, 0, []), (26, .lload_n 2, 1, 2, 0, 0, 0, 0, []), (27, .invokevirtual 319, 3, 147, 3, 0, 1437, 6, []), (30, .return_, 1, 0, 0, 0, 0, 0, [])]
noncomputable def am_s149 : am_S := (yX6_filmTold, cX6_filmTold, 9, none, 1, 0, 2, 6, 1444, 1443, 75, 175)
noncomputable def am_c149_0 : List (Nat × am_E) := [(0, .aload_n 0, 1, 0, 0, 0, 0, 0, []), (1, .iconst 1, 1, 0, 0, 0, 0, 1, []), (2, .bipush 8, 2, 0, 0, 0, 0, 8, []), (4, .iload_n 1, 1, 1, 0, 0, 0, 0, []), (5, .invokevirtual 312, 3, 143, 4, 4, 1415, 6, []), (8, .ifCond .eq 4, 3, 12, 0, 0, 0, 0, []),
  (11, .return_, 1, 0, 0, 0, 0, 0, []), (12, .aload_n 0, 1, 0, 0, 0, 0, 0, []), (13, .invokevirtual 316, 3, 145, 1, 2, 1419, 6, []), (16, .lstore_n 2, 1, 2, 0, 0, 0, 0, []), (17, .aload_n 0, 1, 0, 0, 0, 0, 0, []), (18, .aload_n 0, 1, 0, 0, 0, 0, 0, []),
  (19, .getfield 27, 3, 6, 12, 3, 1077, 0, []), (22, .invokevirtual 323, 3, 136, 2, 0, 1445, 6, []), (25, .aload_n 0, 1, 0, 0, 0, 0, 0, []), (26, .iconst 1, 1, 0, 0, 0, 0, 1, []), (27, .bipush 9, 2, 0, 0, 0, 0, 9, []), (29, .invokevirtual 327, 3, 139, 3, 1, 1449, 6, []),
  (32, .istore 4, 2, 4, 0, 0, 0, 0, []), (34, .aload_n 0, 1, 0, 0, 0, 0, 0, []), (35, .aload_n 0, 1, 0, 0, 0, 0, 0, []), (36, .getfield 30, 3, 6, 13, 3, 1078, 0, []), (39, .invokevirtual 323, 3, 136, 2, 0, 1445, 6, []), (42, .aload_n 0, 1, 0, 0, 0, 0, 0, []),
  (43, .getfield 108, 3, 6, 40, 3, 1105, 0, []), (46, .iconst 1, 1, 0, 0, 0, 0, 1, []), (47, .iaload, 1, 0, 0, 0, 0, 0, []), (48, .istore 5, 2, 5, 0, 0, 0, 0, []), (50, .iconst 0, 1, 0, 0, 0, 0, 0, []), (51, .istore 6, 2, 6, 0, 0, 0, 0, []),
  (53, .iload 6, 2, 6, 0, 0, 0, 0, []), (55, .bipush 6, 2, 0, 0, 0, 0, 6, []), (57, .if_icmp .ge 23, 3, 80, 0, 0, 0, 0, []), (60, .aload_n 0, 1, 0, 0, 0, 0, 0, []), (61, .getfield 118, 3, 6, 43, 3, 1108, 0, []), (64, .bipush 6, 2, 0, 0, 0, 0, 6, []),
  (66, .iload 5, 2, 5, 0, 0, 0, 0, []), (68, .imul, 1, 0, 0, 0, 0, 0, []), (69, .iload 6, 2, 6, 0, 0, 0, 0, []), (71, .iadd, 1, 0, 0, 0, 0, 0, []), (72, .iconst 0, 1, 0, 0, 0, 0, 0, []), (73, .iastore, 1, 0, 0, 0, 0, 0, []),
  (74, .iinc 6 1, 3, 6, 0, 0, 0, 1, []), (77, .goto (-24), 3, 53, 0, 0, 0, 0, []), (80, .iconst 1, 1, 0, 0, 0, 0, 1, []), (81, .istore 6, 2, 6, 0, 0, 0, 0, []), (83, .aload_n 0, 1, 0, 0, 0, 0, 0, []), (84, .getfield 242, 3, 6, 5, 1, 1070, 0, []),
  (87, .ifCond .ne 90, 3, 177, 0, 0, 0, 0, []), (90, .iload 6, 2, 6, 0, 0, 0, 0, []), (92, .ifCond .eq 85, 3, 177, 0, 0, 0, 0, []), (95, .aload_n 0, 1, 0, 0, 0, 0, 0, []), (96, .iconst 0, 1, 0, 0, 0, 0, 0, []), (97, .invokevirtual 331, 3, 146, 2, 1, 1459, 6, []),
  (100, .istore 7, 2, 7, 0, 0, 0, 0, []), (102, .aload_n 0, 1, 0, 0, 0, 0, 0, []), (103, .getfield 242, 3, 6, 5, 1, 1070, 0, []), (106, .ifCond .ne 28, 3, 134, 0, 0, 0, 0, []), (109, .aload_n 0, 1, 0, 0, 0, 0, 0, []), (110, .getfield 118, 3, 6, 43, 3, 1108, 0, []),
  (113, .bipush 6, 2, 0, 0, 0, 0, 6, []), (115, .iload 5, 2, 5, 0, 0, 0, 0, []), (117, .imul, 1, 0, 0, 0, 0, 0, []), (118, .iload 7, 2, 7, 0, 0, 0, 0, []), (120, .iadd, 1, 0, 0, 0, 0, 0, []), (121, .iaload, 1, 0, 0, 0, 0, 0, []),
  (122, .ifCond .le 12, 3, 134, 0, 0, 0, 0, []), (125, .aload_n 0, 1, 0, 0, 0, 0, 0, []), (126, .iconst 3, 1, 0, 0, 0, 0, 3, []), (127, .aload_n 0, 1, 0, 0, 0, 0, 0, []), (128, .getfield 290, 3, 6, 39, 1, 1104, 0, []), (131, .invokevirtual 272, 3, 130, 3, 0, 1396, 6, []),
  (134, .aload_n 0, 1, 0, 0, 0, 0, 0, []), (135, .iconst 1, 1, 0, 0, 0, 0, 1, []), (136, .bipush 9, 2, 0, 0, 0, 0, 9, []), (138, .invokevirtual 327, 3, 139, 3, 1, 1449, 6, []), (141, .istore 8, 2, 8, 0, 0, 0, 0, []), (143, .aload_n 0, 1, 0, 0, 0, 0, 0, []),
  (144, .getfield 242, 3, 6, 5, 1, 1070, 0, []), (147, .ifCond .ne 18, 3, 165, 0, 0, 0, 0, []), (150, .aload_n 0, 1, 0, 0, 0, 0, 0, []), (151, .getfield 118, 3, 6, 43, 3, 1108, 0, []), (154, .bipush 6, 2, 0, 0, 0, 0, 6, []), (156, .iload 5, 2, 5, 0, 0, 0, 0, []),
  (158, .imul, 1, 0, 0, 0, 0, 0, []), (159, .iload 7, 2, 7, 0, 0, 0, 0, []), (161, .iadd, 1, 0, 0, 0, 0, 0, []), (162, .iload 8, 2, 8, 0, 0, 0, 0, []), (164, .iastore, 1, 0, 0, 0, 0, 0, []), (165, .aload_n 0, 1, 0, 0, 0, 0, 0, []),
  (166, .invokevirtual 254, 3, 133, 1, 1, 1388, 6, []), (169, .invokestatic 258, 3, 131, 1, 4, 1408, 0, []), (172, .istore 6, 2, 6, 0, 0, 0, 0, []), (174, .goto (-91), 3, 83, 0, 0, 0, 0, []), (177, .aload_n 0, 1, 0, 0, 0, 0, 0, []), (178, .getfield 242, 3, 6, 5, 1, 1070, 0, []),
  (181, .ifCond .eq 4, 3, 185, 0, 0, 0, 0, []), (184, .return_, 1, 0, 0, 0, 0, 0, []), (185, .aload_n 0, 1, 0, 0, 0, 0, 0, []), (186, .getfield 115, 3, 6, 42, 3, 1107, 0, [])]
noncomputable def am_c149_1 : List (Nat × am_E) := [(189, .iload 5, 2, 5, 0, 0, 0, 0, []), (191, .iload 4, 2, 4, 0, 0, 0, 0, []), (193, .iastore, 1, 0, 0, 0, 0, 0, []), (194, .aload_n 0, 1, 0, 0, 0, 0, 0, []), (195, .iconst 1, 1, 0, 0, 0, 0, 1, []), (196, .lload_n 2, 1, 2, 0, 0, 0, 0, []),
  (197, .invokevirtual 319, 3, 147, 3, 0, 1437, 6, []), (200, .return_, 1, 0, 0, 0, 0, 0, [])]
noncomputable def am_c149 : List (Nat × am_E) := am_c149_0 ++ (am_c149_1)
noncomputable def am_s150 : am_S := (yX6_personTold, cX6_personTold, 6, none, 1, 0, 2, 6, 1466, 1465, 79, 175)
noncomputable def am_c150 : List (Nat × am_E) := [(0, .aload_n 0, 1, 0, 0, 0, 0, 0, []), (1, .iconst 2, 1, 0, 0, 0, 0, 2, []), (2, .iconst 5, 1, 0, 0, 0, 0, 5, []), (3, .iload_n 1, 1, 1, 0, 0, 0, 0, []), (4, .invokevirtual 312, 3, 143, 4, 4, 1415, 6, []), (7, .ifCond .eq 4, 3, 11, 0, 0, 0, 0, []),
  (10, .return_, 1, 0, 0, 0, 0, 0, []), (11, .aload_n 0, 1, 0, 0, 0, 0, 0, []), (12, .invokevirtual 316, 3, 145, 1, 2, 1419, 6, []), (15, .lstore_n 2, 1, 2, 0, 0, 0, 0, []), (16, .aload_n 0, 1, 0, 0, 0, 0, 0, []), (17, .aload_n 0, 1, 0, 0, 0, 0, 0, []),
  (18, .getfield 36, 3, 6, 15, 3, 1080, 0, []), (21, .invokevirtual 323, 3, 136, 2, 0, 1445, 6, []), (24, .aload_n 0, 1, 0, 0, 0, 0, 0, []), (25, .iconst 0, 1, 0, 0, 0, 0, 0, []), (26, .bipush 23, 2, 0, 0, 0, 0, 23, []), (28, .invokevirtual 327, 3, 139, 3, 1, 1449, 6, []),
  (31, .istore 4, 2, 4, 0, 0, 0, 0, []), (33, .aload_n 0, 1, 0, 0, 0, 0, 0, []), (34, .aload_n 0, 1, 0, 0, 0, 0, 0, []), (35, .getfield 39, 3, 6, 16, 3, 1081, 0, []), (38, .invokevirtual 323, 3, 136, 2, 0, 1445, 6, []), (41, .aload_n 0, 1, 0, 0, 0, 0, 0, []),
  (42, .iload 4, 2, 4, 0, 0, 0, 0, []), (44, .bipush 23, 2, 0, 0, 0, 0, 23, []), (46, .invokevirtual 327, 3, 139, 3, 1, 1449, 6, []), (49, .istore 5, 2, 5, 0, 0, 0, 0, []), (51, .aload_n 0, 1, 0, 0, 0, 0, 0, []), (52, .getfield 242, 3, 6, 5, 1, 1070, 0, []),
  (55, .ifCond .eq 4, 3, 59, 0, 0, 0, 0, []), (58, .return_, 1, 0, 0, 0, 0, 0, []), (59, .aload_n 0, 1, 0, 0, 0, 0, 0, []), (60, .getfield 121, 3, 6, 44, 3, 1109, 0, []), (63, .iconst 2, 1, 0, 0, 0, 0, 2, []), (64, .aload_n 0, 1, 0, 0, 0, 0, 0, []),
  (65, .getfield 108, 3, 6, 40, 3, 1105, 0, []), (68, .iconst 2, 1, 0, 0, 0, 0, 2, []), (69, .iaload, 1, 0, 0, 0, 0, 0, []), (70, .imul, 1, 0, 0, 0, 0, 0, []), (71, .iload 4, 2, 4, 0, 0, 0, 0, []), (73, .iastore, 1, 0, 0, 0, 0, 0, []),
  (74, .aload_n 0, 1, 0, 0, 0, 0, 0, []), (75, .getfield 121, 3, 6, 44, 3, 1109, 0, []), (78, .iconst 2, 1, 0, 0, 0, 0, 2, []), (79, .aload_n 0, 1, 0, 0, 0, 0, 0, []), (80, .getfield 108, 3, 6, 40, 3, 1105, 0, []), (83, .iconst 2, 1, 0, 0, 0, 0, 2, []),
  (84, .iaload, 1, 0, 0, 0, 0, 0, []), (85, .imul, 1, 0, 0, 0, 0, 0, []), (86, .iconst 1, 1, 0, 0, 0, 0, 1, []), (87, .iadd, 1, 0, 0, 0, 0, 0, []), (88, .iload 5, 2, 5, 0, 0, 0, 0, []), (90, .iastore, 1, 0, 0, 0, 0, 0, []),
  (91, .aload_n 0, 1, 0, 0, 0, 0, 0, []), (92, .iconst 2, 1, 0, 0, 0, 0, 2, []), (93, .lload_n 2, 1, 2, 0, 0, 0, 0, []), (94, .invokevirtual 319, 3, 147, 3, 0, 1437, 6, []), (97, .return_, 1, 0, 0, 0, 0, 0, [])]
noncomputable def am_s151 : am_S := (yX6_likesTold, cX6_likesTold, 4, none, 1, 0, 1, 6, 1470, 1469, 80, 175)
noncomputable def am_c151 : List (Nat × am_E) := [(0, .aload_n 0, 1, 0, 0, 0, 0, 0, []), (1, .iconst 2, 1, 0, 0, 0, 0, 2, []), (2, .invokevirtual 331, 3, 146, 2, 1, 1459, 6, []), (5, .istore_n 1, 1, 1, 0, 0, 0, 0, []), (6, .aload_n 0, 1, 0, 0, 0, 0, 0, []), (7, .iconst 0, 1, 0, 0, 0, 0, 0, []),
  (8, .invokevirtual 331, 3, 146, 2, 1, 1459, 6, []), (11, .istore_n 2, 1, 2, 0, 0, 0, 0, []), (12, .aload_n 0, 1, 0, 0, 0, 0, 0, []), (13, .iconst 0, 1, 0, 0, 0, 0, 0, []), (14, .bipush 9, 2, 0, 0, 0, 0, 9, []), (16, .invokevirtual 327, 3, 139, 3, 1, 1449, 6, []),
  (19, .istore_n 3, 1, 3, 0, 0, 0, 0, []), (20, .aload_n 0, 1, 0, 0, 0, 0, 0, []), (21, .getfield 242, 3, 6, 5, 1, 1070, 0, []), (24, .ifCond .ne 15, 3, 39, 0, 0, 0, 0, []), (27, .aload_n 0, 1, 0, 0, 0, 0, 0, []), (28, .getfield 124, 3, 6, 45, 3, 1110, 0, []),
  (31, .bipush 6, 2, 0, 0, 0, 0, 6, []), (33, .iload_n 1, 1, 1, 0, 0, 0, 0, []), (34, .imul, 1, 0, 0, 0, 0, 0, []), (35, .iload_n 2, 1, 2, 0, 0, 0, 0, []), (36, .iadd, 1, 0, 0, 0, 0, 0, []), (37, .iload_n 3, 1, 3, 0, 0, 0, 0, []),
  (38, .iastore, 1, 0, 0, 0, 0, 0, []), (39, .return_, 1, 0, 0, 0, 0, 0, [])]
noncomputable def am_s152 : am_S := (yX6_pressTold, cX6_pressTold, 2, none, 1, 0, 1, 6, 1474, 1473, 81, 175)
noncomputable def am_c152 : List (Nat × am_E) := [(0, .aload_n 0, 1, 0, 0, 0, 0, 0, []), (1, .iconst 2, 1, 0, 0, 0, 0, 2, []), (2, .invokevirtual 331, 3, 146, 2, 1, 1459, 6, []), (5, .istore_n 1, 1, 1, 0, 0, 0, 0, []), (6, .aload_n 0, 1, 0, 0, 0, 0, 0, []), (7, .getfield 242, 3, 6, 5, 1, 1070, 0, []),
  (10, .ifCond .ne 24, 3, 34, 0, 0, 0, 0, []), (13, .aload_n 0, 1, 0, 0, 0, 0, 0, []), (14, .getfield 335, 3, 6, 46, 1, 1111, 0, []), (17, .iload_n 1, 1, 1, 0, 0, 0, 0, []), (18, .ishr, 1, 0, 0, 0, 0, 0, []), (19, .iconst 1, 1, 0, 0, 0, 0, 1, []),
  (20, .iand, 1, 0, 0, 0, 0, 0, []), (21, .iconst 1, 1, 0, 0, 0, 0, 1, []), (22, .if_icmp .ne 12, 3, 34, 0, 0, 0, 0, []), (25, .aload_n 0, 1, 0, 0, 0, 0, 0, []), (26, .iconst 3, 1, 0, 0, 0, 0, 3, []), (27, .aload_n 0, 1, 0, 0, 0, 0, 0, []),
  (28, .getfield 290, 3, 6, 39, 1, 1104, 0, []), (31, .invokevirtual 272, 3, 130, 3, 0, 1396, 6, []), (34, .aload_n 0, 1, 0, 0, 0, 0, 0, []), (35, .getfield 242, 3, 6, 5, 1, 1070, 0, []), (38, .ifCond .ne 15, 3, 53, 0, 0, 0, 0, []), (41, .aload_n 0, 1, 0, 0, 0, 0, 0, []),
  (42, .dup, 1, 0, 0, 0, 0, 0, []), (43, .getfield 335, 3, 6, 46, 1, 1111, 0, []), (46, .iconst 1, 1, 0, 0, 0, 0, 1, []), (47, .iload_n 1, 1, 1, 0, 0, 0, 0, []), (48, .ishl, 1, 0, 0, 0, 0, 0, []), (49, .ior, 1, 0, 0, 0, 0, 0, []),
  (50, .putfield 335, 3, 6, 46, 1, 1111, 0, []), (53, .return_, 1, 0, 0, 0, 0, 0, [])]
noncomputable def am_s153 : am_S := (yX6_codesTold, cX6_codesTold, 4, none, 1, 0, 3, 6, 1478, 1477, 82, 175)
noncomputable def am_c153 : List (Nat × am_E) := [(0, .aload_n 0, 1, 0, 0, 0, 0, 0, []), (1, .getfield 242, 3, 6, 5, 1, 1070, 0, []), (4, .ifCond .ne 19, 3, 23, 0, 0, 0, 0, []), (7, .aload_n 0, 1, 0, 0, 0, 0, 0, []), (8, .getfield 130, 3, 6, 48, 3, 1113, 0, []), (11, .iload_n 1, 1, 1, 0, 0, 0, 0, []),
  (12, .iaload, 1, 0, 0, 0, 0, 0, []), (13, .iconst (-1), 1, 0, 0, 0, 0, (-1), []), (14, .if_icmp .eq 9, 3, 23, 0, 0, 0, 0, []), (17, .aload_n 0, 1, 0, 0, 0, 0, 0, []), (18, .iconst 5, 1, 0, 0, 0, 0, 5, []), (19, .iload_n 2, 1, 2, 0, 0, 0, 0, []),
  (20, .invokevirtual 272, 3, 130, 3, 0, 1396, 6, []), (23, .aload_n 0, 1, 0, 0, 0, 0, 0, []), (24, .getfield 242, 3, 6, 5, 1, 1070, 0, []), (27, .ifCond .eq 4, 3, 31, 0, 0, 0, 0, []), (30, .return_, 1, 0, 0, 0, 0, 0, []), (31, .aload_n 0, 1, 0, 0, 0, 0, 0, []),
  (32, .iload_n 1, 1, 1, 0, 0, 0, 0, []), (33, .putfield 297, 3, 6, 53, 1, 1118, 0, []), (36, .aload_n 0, 1, 0, 0, 0, 0, 0, []), (37, .iconst 0, 1, 0, 0, 0, 0, 0, []), (38, .putfield 338, 3, 6, 92, 1, 1157, 0, []), (41, .aload_n 0, 1, 0, 0, 0, 0, 0, []),
  (42, .iconst 0, 1, 0, 0, 0, 0, 0, []), (43, .putfield 341, 3, 6, 94, 1, 1159, 0, []), (46, .aload_n 0, 1, 0, 0, 0, 0, 0, []), (47, .iconst 0, 1, 0, 0, 0, 0, 0, []), (48, .putfield 344, 3, 6, 95, 1, 1160, 0, []), (51, .aload_n 0, 1, 0, 0, 0, 0, 0, []),
  (52, .iconst 0, 1, 0, 0, 0, 0, 0, []), (53, .putfield 347, 3, 6, 96, 1, 1161, 0, []), (56, .iload_n 1, 1, 1, 0, 0, 0, 0, []), (57, .iconst 2, 1, 0, 0, 0, 0, 2, []), (58, .if_icmp .ne 10, 3, 68, 0, 0, 0, 0, []), (61, .aload_n 0, 1, 0, 0, 0, 0, 0, []),
  (62, .invokevirtual 350, 3, 249, 1, 0, 1479, 6, []), (65, .goto 7, 3, 72, 0, 0, 0, 0, []), (68, .aload_n 0, 1, 0, 0, 0, 0, 0, []), (69, .invokevirtual 353, 3, 245, 1, 0, 1495, 6, []), (72, .aload_n 0, 1, 0, 0, 0, 0, 0, []), (73, .getfield 242, 3, 6, 5, 1, 1070, 0, []),
  (76, .ifCond .eq 4, 3, 80, 0, 0, 0, 0, []), (79, .return_, 1, 0, 0, 0, 0, 0, []), (80, .aload_n 0, 1, 0, 0, 0, 0, 0, []), (81, .getfield 130, 3, 6, 48, 3, 1113, 0, []), (84, .iload_n 1, 1, 1, 0, 0, 0, 0, []), (85, .aload_n 0, 1, 0, 0, 0, 0, 0, []),
  (86, .getfield 356, 3, 6, 51, 1, 1116, 0, []), (89, .iastore, 1, 0, 0, 0, 0, 0, []), (90, .iconst 0, 1, 0, 0, 0, 0, 0, []), (91, .istore_n 3, 1, 3, 0, 0, 0, 0, []), (92, .iload_n 3, 1, 3, 0, 0, 0, 0, []), (93, .aload_n 0, 1, 0, 0, 0, 0, 0, []),
  (94, .getfield 338, 3, 6, 92, 1, 1157, 0, []), (97, .if_icmp .ge 34, 3, 131, 0, 0, 0, 0, []), (100, .aload_n 0, 1, 0, 0, 0, 0, 0, []), (101, .getfield 136, 3, 6, 50, 3, 1115, 0, []), (104, .aload_n 0, 1, 0, 0, 0, 0, 0, []), (105, .getfield 356, 3, 6, 51, 1, 1116, 0, []),
  (108, .aload_n 0, 1, 0, 0, 0, 0, 0, []), (109, .getfield 227, 3, 6, 91, 3, 1156, 0, []), (112, .iload_n 3, 1, 3, 0, 0, 0, 0, []), (113, .iaload, 1, 0, 0, 0, 0, 0, []), (114, .iastore, 1, 0, 0, 0, 0, 0, []), (115, .aload_n 0, 1, 0, 0, 0, 0, 0, []),
  (116, .dup, 1, 0, 0, 0, 0, 0, []), (117, .getfield 356, 3, 6, 51, 1, 1116, 0, []), (120, .iconst 1, 1, 0, 0, 0, 0, 1, []), (121, .iadd, 1, 0, 0, 0, 0, 0, []), (122, .putfield 356, 3, 6, 51, 1, 1116, 0, []), (125, .iinc 3 1, 3, 3, 0, 0, 0, 1, []),
  (128, .goto (-36), 3, 92, 0, 0, 0, 0, []), (131, .aload_n 0, 1, 0, 0, 0, 0, 0, []), (132, .getfield 133, 3, 6, 49, 3, 1114, 0, []), (135, .iload_n 1, 1, 1, 0, 0, 0, 0, []), (136, .aload_n 0, 1, 0, 0, 0, 0, 0, []), (137, .getfield 356, 3, 6, 51, 1, 1116, 0, []),
  (140, .iastore, 1, 0, 0, 0, 0, 0, []), (141, .return_, 1, 0, 0, 0, 0, 0, [])]
noncomputable def am_s154 : am_S := (yX6_statementTold, cX6_statementTold, 2, none, 1, 0, 1, 6, 1395, 1394, 64, 175)
noncomputable def am_c154_0 : List (Nat × am_E) := [(0, .aload_n 0, 1, 0, 0, 0, 0, 0, []), (1, .getfield 248, 3, 6, 2, 1, 1067, 0, []), (4, .istore_n 1, 1, 1, 0, 0, 0, 0, []), (5, .aload_n 0, 1, 0, 0, 0, 0, 0, []), (6, .getfield 359, 3, 6, 52, 1, 1117, 0, []), (9, .bipush 80, 2, 0, 0, 0, 0, 80, []),
  (11, .if_icmp .ne 10, 3, 21, 0, 0, 0, 0, []), (14, .aload_n 0, 1, 0, 0, 0, 0, 0, []), (15, .iconst 5, 1, 0, 0, 0, 0, 5, []), (16, .iload_n 1, 1, 1, 0, 0, 0, 0, []), (17, .invokevirtual 272, 3, 130, 3, 0, 1396, 6, []), (20, .return_, 1, 0, 0, 0, 0, 0, []),
  (21, .aload_n 0, 1, 0, 0, 0, 0, 0, []), (22, .aload_n 0, 1, 0, 0, 0, 0, 0, []), (23, .getfield 20, 3, 6, 10, 3, 1075, 0, []), (26, .invokevirtual 269, 3, 135, 2, 4, 1400, 6, []), (29, .ifCond .eq 11, 3, 40, 0, 0, 0, 0, []), (32, .aload_n 0, 1, 0, 0, 0, 0, 0, []),
  (33, .iload_n 1, 1, 1, 0, 0, 0, 0, []), (34, .invokevirtual 362, 3, 148, 2, 0, 1411, 6, []), (37, .goto 239, 3, 276, 0, 0, 0, 0, []), (40, .aload_n 0, 1, 0, 0, 0, 0, 0, []), (41, .aload_n 0, 1, 0, 0, 0, 0, 0, []), (42, .getfield 24, 3, 6, 11, 3, 1076, 0, []),
  (45, .invokevirtual 269, 3, 135, 2, 4, 1400, 6, []), (48, .ifCond .eq 11, 3, 59, 0, 0, 0, 0, []), (51, .aload_n 0, 1, 0, 0, 0, 0, 0, []), (52, .iload_n 1, 1, 1, 0, 0, 0, 0, []), (53, .invokevirtual 366, 3, 149, 2, 0, 1441, 6, []), (56, .goto 220, 3, 276, 0, 0, 0, 0, []),
  (59, .aload_n 0, 1, 0, 0, 0, 0, 0, []), (60, .aload_n 0, 1, 0, 0, 0, 0, 0, []), (61, .getfield 33, 3, 6, 14, 3, 1079, 0, []), (64, .invokevirtual 269, 3, 135, 2, 4, 1400, 6, []), (67, .ifCond .eq 11, 3, 78, 0, 0, 0, 0, []), (70, .aload_n 0, 1, 0, 0, 0, 0, 0, []),
  (71, .iload_n 1, 1, 1, 0, 0, 0, 0, []), (72, .invokevirtual 369, 3, 150, 2, 0, 1463, 6, []), (75, .goto 201, 3, 276, 0, 0, 0, 0, []), (78, .aload_n 0, 1, 0, 0, 0, 0, 0, []), (79, .aload_n 0, 1, 0, 0, 0, 0, 0, []), (80, .getfield 42, 3, 6, 17, 3, 1082, 0, []),
  (83, .invokevirtual 269, 3, 135, 2, 4, 1400, 6, []), (86, .ifCond .eq 10, 3, 96, 0, 0, 0, 0, []), (89, .aload_n 0, 1, 0, 0, 0, 0, 0, []), (90, .invokevirtual 372, 3, 151, 1, 0, 1467, 6, []), (93, .goto 183, 3, 276, 0, 0, 0, 0, []), (96, .aload_n 0, 1, 0, 0, 0, 0, 0, []),
  (97, .aload_n 0, 1, 0, 0, 0, 0, 0, []), (98, .getfield 45, 3, 6, 18, 3, 1083, 0, []), (101, .invokevirtual 269, 3, 135, 2, 4, 1400, 6, []), (104, .ifCond .eq 10, 3, 114, 0, 0, 0, 0, []), (107, .aload_n 0, 1, 0, 0, 0, 0, 0, []), (108, .invokevirtual 375, 3, 152, 1, 0, 1471, 6, []),
  (111, .goto 165, 3, 276, 0, 0, 0, 0, []), (114, .aload_n 0, 1, 0, 0, 0, 0, 0, []), (115, .aload_n 0, 1, 0, 0, 0, 0, 0, []), (116, .getfield 48, 3, 6, 19, 3, 1084, 0, []), (119, .invokevirtual 269, 3, 135, 2, 4, 1400, 6, []), (122, .ifCond .eq 12, 3, 134, 0, 0, 0, 0, []),
  (125, .aload_n 0, 1, 0, 0, 0, 0, 0, []), (126, .iconst 0, 1, 0, 0, 0, 0, 0, []), (127, .iload_n 1, 1, 1, 0, 0, 0, 0, []), (128, .invokevirtual 378, 3, 153, 3, 0, 1475, 6, []), (131, .goto 145, 3, 276, 0, 0, 0, 0, []), (134, .aload_n 0, 1, 0, 0, 0, 0, 0, []),
  (135, .aload_n 0, 1, 0, 0, 0, 0, 0, []), (136, .getfield 51, 3, 6, 20, 3, 1085, 0, []), (139, .invokevirtual 269, 3, 135, 2, 4, 1400, 6, []), (142, .ifCond .eq 12, 3, 154, 0, 0, 0, 0, []), (145, .aload_n 0, 1, 0, 0, 0, 0, 0, []), (146, .iconst 1, 1, 0, 0, 0, 0, 1, []),
  (147, .iload_n 1, 1, 1, 0, 0, 0, 0, []), (148, .invokevirtual 378, 3, 153, 3, 0, 1475, 6, []), (151, .goto 125, 3, 276, 0, 0, 0, 0, []), (154, .aload_n 0, 1, 0, 0, 0, 0, 0, []), (155, .aload_n 0, 1, 0, 0, 0, 0, 0, []), (156, .getfield 54, 3, 6, 21, 3, 1086, 0, []),
  (159, .invokevirtual 269, 3, 135, 2, 4, 1400, 6, []), (162, .ifCond .eq 12, 3, 174, 0, 0, 0, 0, []), (165, .aload_n 0, 1, 0, 0, 0, 0, 0, []), (166, .iconst 2, 1, 0, 0, 0, 0, 2, []), (167, .iload_n 1, 1, 1, 0, 0, 0, 0, []), (168, .invokevirtual 378, 3, 153, 3, 0, 1475, 6, []),
  (171, .goto 105, 3, 276, 0, 0, 0, 0, []), (174, .aload_n 0, 1, 0, 0, 0, 0, 0, []), (175, .aload_n 0, 1, 0, 0, 0, 0, 0, []), (176, .getfield 57, 3, 6, 22, 3, 1087, 0, []), (179, .invokevirtual 269, 3, 135, 2, 4, 1400, 6, []), (182, .ifCond .eq 18, 3, 200, 0, 0, 0, 0, []),
  (185, .aload_n 0, 1, 0, 0, 0, 0, 0, []), (186, .getfield 127, 3, 6, 47, 3, 1112, 0, []), (189, .iconst 0, 1, 0, 0, 0, 0, 0, []), (190, .aload_n 0, 1, 0, 0, 0, 0, 0, []), (191, .iconst 1, 1, 0, 0, 0, 0, 1, []), (192, .iconst 5, 1, 0, 0, 0, 0, 5, []),
  (193, .invokevirtual 327, 3, 139, 3, 1, 1449, 6, []), (196, .iastore, 1, 0, 0, 0, 0, 0, []), (197, .goto 79, 3, 276, 0, 0, 0, 0, []), (200, .aload_n 0, 1, 0, 0, 0, 0, 0, [])]
noncomputable def am_c154_1 : List (Nat × am_E) := [(201, .aload_n 0, 1, 0, 0, 0, 0, 0, []), (202, .getfield 60, 3, 6, 23, 3, 1088, 0, []), (205, .invokevirtual 269, 3, 135, 2, 4, 1400, 6, []), (208, .ifCond .eq 20, 3, 228, 0, 0, 0, 0, []), (211, .aload_n 0, 1, 0, 0, 0, 0, 0, []), (212, .getfield 127, 3, 6, 47, 3, 1112, 0, []),
  (215, .iconst 1, 1, 0, 0, 0, 0, 1, []), (216, .aload_n 0, 1, 0, 0, 0, 0, 0, []), (217, .iconst 0, 1, 0, 0, 0, 0, 0, []), (218, .sipush 999, 3, 0, 0, 0, 0, 999, []), (221, .invokevirtual 327, 3, 139, 3, 1, 1449, 6, []), (224, .iastore, 1, 0, 0, 0, 0, 0, []),
  (225, .goto 51, 3, 276, 0, 0, 0, 0, []), (228, .aload_n 0, 1, 0, 0, 0, 0, 0, []), (229, .aload_n 0, 1, 0, 0, 0, 0, 0, []), (230, .getfield 63, 3, 6, 24, 3, 1089, 0, []), (233, .invokevirtual 269, 3, 135, 2, 4, 1400, 6, []), (236, .ifCond .eq 19, 3, 255, 0, 0, 0, 0, []),
  (239, .aload_n 0, 1, 0, 0, 0, 0, 0, []), (240, .getfield 127, 3, 6, 47, 3, 1112, 0, []), (243, .iconst 2, 1, 0, 0, 0, 0, 2, []), (244, .aload_n 0, 1, 0, 0, 0, 0, 0, []), (245, .iconst 0, 1, 0, 0, 0, 0, 0, []), (246, .bipush 99, 2, 0, 0, 0, 0, 99, []),
  (248, .invokevirtual 327, 3, 139, 3, 1, 1449, 6, []), (251, .iastore, 1, 0, 0, 0, 0, 0, []), (252, .goto 24, 3, 276, 0, 0, 0, 0, []), (255, .aload_n 0, 1, 0, 0, 0, 0, 0, []), (256, .aload_n 0, 1, 0, 0, 0, 0, 0, []), (257, .getfield 66, 3, 6, 25, 3, 1090, 0, []),
  (260, .invokevirtual 323, 3, 136, 2, 0, 1445, 6, []), (263, .aload_n 0, 1, 0, 0, 0, 0, 0, []), (264, .getfield 127, 3, 6, 47, 3, 1112, 0, []), (267, .iconst 3, 1, 0, 0, 0, 0, 3, []), (268, .aload_n 0, 1, 0, 0, 0, 0, 0, []), (269, .iconst 0, 1, 0, 0, 0, 0, 0, []),
  (270, .bipush 100, 2, 0, 0, 0, 0, 100, []), (272, .invokevirtual 327, 3, 139, 3, 1, 1449, 6, []), (275, .iastore, 1, 0, 0, 0, 0, 0, []), (276, .aload_n 0, 1, 0, 0, 0, 0, 0, []), (277, .bipush 59, 2, 0, 0, 0, 0, 59, []), (279, .invokevirtual 381, 3, 138, 2, 0, 1517, 6, []),
  (282, .aload_n 0, 1, 0, 0, 0, 0, 0, []), (283, .dup, 1, 0, 0, 0, 0, 0, []), (284, .getfield 359, 3, 6, 52, 1, 1117, 0, []), (287, .iconst 1, 1, 0, 0, 0, 0, 1, []), (288, .iadd, 1, 0, 0, 0, 0, 0, []), (289, .putfield 359, 3, 6, 52, 1, 1117, 0, []),
  (292, .return_, 1, 0, 0, 0, 0, 0, [])]
noncomputable def am_c154 : List (Nat × am_E) := am_c154_0 ++ (am_c154_1)
noncomputable def am_s155 : am_S := (yX6_house, cX6_house, 2, (some .int), 1, 1, 1, 6, 1387, 1385, 1386, 175)
noncomputable def am_c155_0 : List (Nat × am_E) := [(0, .aload_n 0, 1, 0, 0, 0, 0, 0, []), (1, .aload_n 0, 1, 0, 0, 0, 0, 0, []), (2, .getfield 239, 3, 6, 1, 1, 1066, 0, []), (5, .putfield 251, 3, 6, 3, 1, 1068, 0, []), (8, .aload_n 0, 1, 0, 0, 0, 0, 0, []), (9, .iconst 0, 1, 0, 0, 0, 0, 0, []),
  (10, .putfield 239, 3, 6, 1, 1, 1066, 0, []), (13, .aload_n 0, 1, 0, 0, 0, 0, 0, []), (14, .iconst 0, 1, 0, 0, 0, 0, 0, []), (15, .putfield 248, 3, 6, 2, 1, 1067, 0, []), (18, .aload_n 0, 1, 0, 0, 0, 0, 0, []), (19, .iconst (-1), 1, 0, 0, 0, 0, (-1), []),
  (20, .putfield 262, 3, 6, 4, 1, 1069, 0, []), (23, .aload_n 0, 1, 0, 0, 0, 0, 0, []), (24, .iconst 0, 1, 0, 0, 0, 0, 0, []), (25, .putfield 242, 3, 6, 5, 1, 1070, 0, []), (28, .aload_n 0, 1, 0, 0, 0, 0, 0, []), (29, .iconst (-1), 1, 0, 0, 0, 0, (-1), []),
  (30, .putfield 245, 3, 6, 6, 1, 1071, 0, []), (33, .aload_n 0, 1, 0, 0, 0, 0, 0, []), (34, .iconst 0, 1, 0, 0, 0, 0, 0, []), (35, .putfield 359, 3, 6, 52, 1, 1117, 0, []), (38, .aload_n 0, 1, 0, 0, 0, 0, 0, []), (39, .iconst 0, 1, 0, 0, 0, 0, 0, []),
  (40, .putfield 356, 3, 6, 51, 1, 1116, 0, []), (43, .aload_n 0, 1, 0, 0, 0, 0, 0, []), (44, .iconst 0, 1, 0, 0, 0, 0, 0, []), (45, .putfield 335, 3, 6, 46, 1, 1111, 0, []), (48, .iconst 0, 1, 0, 0, 0, 0, 0, []), (49, .istore_n 1, 1, 1, 0, 0, 0, 0, []),
  (50, .iload_n 1, 1, 1, 0, 0, 0, 0, []), (51, .iconst 3, 1, 0, 0, 0, 0, 3, []), (52, .if_icmp .ge 23, 3, 75, 0, 0, 0, 0, []), (55, .aload_n 0, 1, 0, 0, 0, 0, 0, []), (56, .getfield 108, 3, 6, 40, 3, 1105, 0, []), (59, .iload_n 1, 1, 1, 0, 0, 0, 0, []),
  (60, .iconst 0, 1, 0, 0, 0, 0, 0, []), (61, .iastore, 1, 0, 0, 0, 0, 0, []), (62, .aload_n 0, 1, 0, 0, 0, 0, 0, []), (63, .getfield 130, 3, 6, 48, 3, 1113, 0, []), (66, .iload_n 1, 1, 1, 0, 0, 0, 0, []), (67, .iconst (-1), 1, 0, 0, 0, 0, (-1), []),
  (68, .iastore, 1, 0, 0, 0, 0, 0, []), (69, .iinc 1 1, 3, 1, 0, 0, 0, 1, []), (72, .goto (-22), 3, 50, 0, 0, 0, 0, []), (75, .iconst 0, 1, 0, 0, 0, 0, 0, []), (76, .istore_n 1, 1, 1, 0, 0, 0, 0, []), (77, .iload_n 1, 1, 1, 0, 0, 0, 0, []),
  (78, .bipush 30, 2, 0, 0, 0, 0, 30, []), (80, .if_icmp .ge 16, 3, 96, 0, 0, 0, 0, []), (83, .aload_n 0, 1, 0, 0, 0, 0, 0, []), (84, .getfield 124, 3, 6, 45, 3, 1110, 0, []), (87, .iload_n 1, 1, 1, 0, 0, 0, 0, []), (88, .iconst 0, 1, 0, 0, 0, 0, 0, []),
  (89, .iastore, 1, 0, 0, 0, 0, 0, []), (90, .iinc 1 1, 3, 1, 0, 0, 0, 1, []), (93, .goto (-16), 3, 77, 0, 0, 0, 0, []), (96, .aload_n 0, 1, 0, 0, 0, 0, 0, []), (97, .getfield 127, 3, 6, 47, 3, 1112, 0, []), (100, .iconst 0, 1, 0, 0, 0, 0, 0, []),
  (101, .iconst 5, 1, 0, 0, 0, 0, 5, []), (102, .iastore, 1, 0, 0, 0, 0, 0, []), (103, .aload_n 0, 1, 0, 0, 0, 0, 0, []), (104, .getfield 127, 3, 6, 47, 3, 1112, 0, []), (107, .iconst 1, 1, 0, 0, 0, 0, 1, []), (108, .iconst 0, 1, 0, 0, 0, 0, 0, []),
  (109, .iastore, 1, 0, 0, 0, 0, 0, []), (110, .aload_n 0, 1, 0, 0, 0, 0, 0, []), (111, .getfield 127, 3, 6, 47, 3, 1112, 0, []), (114, .iconst 2, 1, 0, 0, 0, 0, 2, []), (115, .iconst 0, 1, 0, 0, 0, 0, 0, []), (116, .iastore, 1, 0, 0, 0, 0, 0, []),
  (117, .aload_n 0, 1, 0, 0, 0, 0, 0, []), (118, .getfield 127, 3, 6, 47, 3, 1112, 0, []), (121, .iconst 3, 1, 0, 0, 0, 0, 3, []), (122, .iconst 0, 1, 0, 0, 0, 0, 0, []), (123, .iastore, 1, 0, 0, 0, 0, 0, []), (124, .aload_n 0, 1, 0, 0, 0, 0, 0, []),
  (125, .getfield 242, 3, 6, 5, 1, 1070, 0, []), (128, .ifCond .ne 18, 3, 146, 0, 0, 0, 0, []), (131, .aload_n 0, 1, 0, 0, 0, 0, 0, []), (132, .invokevirtual 254, 3, 133, 1, 1, 1388, 6, []), (135, .iconst (-1), 1, 0, 0, 0, 0, (-1), []), (136, .if_icmp .eq 10, 3, 146, 0, 0, 0, 0, []),
  (139, .aload_n 0, 1, 0, 0, 0, 0, 0, []), (140, .invokevirtual 384, 3, 154, 1, 0, 1392, 6, []), (143, .goto (-19), 3, 124, 0, 0, 0, 0, []), (146, .aload_n 0, 1, 0, 0, 0, 0, 0, []), (147, .aload_n 0, 1, 0, 0, 0, 0, 0, []), (148, .getfield 242, 3, 6, 5, 1, 1070, 0, []),
  (151, .putfield 387, 3, 6, 7, 1, 1072, 0, []), (154, .aload_n 0, 1, 0, 0, 0, 0, 0, []), (155, .aload_n 0, 1, 0, 0, 0, 0, 0, []), (156, .getfield 245, 3, 6, 6, 1, 1071, 0, []), (159, .putfield 13, 3, 6, 8, 1, 1073, 0, []), (162, .aload_n 0, 1, 0, 0, 0, 0, 0, []),
  (163, .getfield 242, 3, 6, 5, 1, 1070, 0, []), (166, .ifCond .eq 15, 3, 181, 0, 0, 0, 0, []), (169, .aload_n 0, 1, 0, 0, 0, 0, 0, []), (170, .getfield 17, 3, 6, 9, 3, 1074, 0, [])]
noncomputable def am_c155_1 : List (Nat × am_E) := [(173, .iconst 1, 1, 0, 0, 0, 0, 1, []), (174, .dup2, 1, 0, 0, 0, 0, 0, []), (175, .iaload, 1, 0, 0, 0, 0, 0, []), (176, .iconst 1, 1, 0, 0, 0, 0, 1, []), (177, .iadd, 1, 0, 0, 0, 0, 0, []), (178, .iastore, 1, 0, 0, 0, 0, 0, []),
  (179, .iconst (-1), 1, 0, 0, 0, 0, (-1), []), (180, .ireturn, 1, 0, 0, 1, 0, 0, []), (181, .aload_n 0, 1, 0, 0, 0, 0, 0, []), (182, .invokevirtual 390, 3, 156, 1, 0, 1568, 6, []), (185, .aload_n 0, 1, 0, 0, 0, 0, 0, []), (186, .getfield 359, 3, 6, 52, 1, 1117, 0, []),
  (189, .ireturn, 1, 0, 0, 1, 0, 0, [])]
noncomputable def am_c155 : List (Nat × am_E) := am_c155_0 ++ (am_c155_1)
noncomputable def am_s156 : am_S := (yX6_stands, cX6_stands, 2, none, 1, 0, 1, 6, 1571, 1570, 104, 175)
noncomputable def am_c156_0 : List (Nat × am_E) := [(0, .iconst 0, 1, 0, 0, 0, 0, 0, []), (1, .istore_n 1, 1, 1, 0, 0, 0, 0, []), (2, .iload_n 1, 1, 1, 0, 0, 0, 0, []), (3, .iconst 3, 1, 0, 0, 0, 0, 3, []), (4, .if_icmp .ge 51, 3, 55, 0, 0, 0, 0, []), (7, .aload_n 0, 1, 0, 0, 0, 0, 0, []),
  (8, .getfield 108, 3, 6, 40, 3, 1105, 0, []), (11, .iconst 3, 1, 0, 0, 0, 0, 3, []), (12, .iload_n 1, 1, 1, 0, 0, 0, 0, []), (13, .iadd, 1, 0, 0, 0, 0, 0, []), (14, .aload_n 0, 1, 0, 0, 0, 0, 0, []), (15, .getfield 108, 3, 6, 40, 3, 1105, 0, []),
  (18, .iload_n 1, 1, 1, 0, 0, 0, 0, []), (19, .iaload, 1, 0, 0, 0, 0, 0, []), (20, .iastore, 1, 0, 0, 0, 0, 0, []), (21, .aload_n 0, 1, 0, 0, 0, 0, 0, []), (22, .getfield 130, 3, 6, 48, 3, 1113, 0, []), (25, .iconst 3, 1, 0, 0, 0, 0, 3, []),
  (26, .iload_n 1, 1, 1, 0, 0, 0, 0, []), (27, .iadd, 1, 0, 0, 0, 0, 0, []), (28, .aload_n 0, 1, 0, 0, 0, 0, 0, []), (29, .getfield 130, 3, 6, 48, 3, 1113, 0, []), (32, .iload_n 1, 1, 1, 0, 0, 0, 0, []), (33, .iaload, 1, 0, 0, 0, 0, 0, []),
  (34, .iastore, 1, 0, 0, 0, 0, 0, []), (35, .aload_n 0, 1, 0, 0, 0, 0, 0, []), (36, .getfield 133, 3, 6, 49, 3, 1114, 0, []), (39, .iconst 3, 1, 0, 0, 0, 0, 3, []), (40, .iload_n 1, 1, 1, 0, 0, 0, 0, []), (41, .iadd, 1, 0, 0, 0, 0, 0, []),
  (42, .aload_n 0, 1, 0, 0, 0, 0, 0, []), (43, .getfield 133, 3, 6, 49, 3, 1114, 0, []), (46, .iload_n 1, 1, 1, 0, 0, 0, 0, []), (47, .iaload, 1, 0, 0, 0, 0, 0, []), (48, .iastore, 1, 0, 0, 0, 0, 0, []), (49, .iinc 1 1, 3, 1, 0, 0, 0, 1, []),
  (52, .goto (-50), 3, 2, 0, 0, 0, 0, []), (55, .iconst 0, 1, 0, 0, 0, 0, 0, []), (56, .istore_n 1, 1, 1, 0, 0, 0, 0, []), (57, .iload_n 1, 1, 1, 0, 0, 0, 0, []), (58, .bipush 24, 2, 0, 0, 0, 0, 24, []), (60, .if_icmp .ge 24, 3, 84, 0, 0, 0, 0, []),
  (63, .aload_n 0, 1, 0, 0, 0, 0, 0, []), (64, .getfield 111, 3, 6, 41, 3, 1106, 0, []), (67, .bipush 24, 2, 0, 0, 0, 0, 24, []), (69, .iload_n 1, 1, 1, 0, 0, 0, 0, []), (70, .iadd, 1, 0, 0, 0, 0, 0, []), (71, .aload_n 0, 1, 0, 0, 0, 0, 0, []),
  (72, .getfield 111, 3, 6, 41, 3, 1106, 0, []), (75, .iload_n 1, 1, 1, 0, 0, 0, 0, []), (76, .laload, 1, 0, 0, 0, 0, 0, []), (77, .lastore, 1, 0, 0, 0, 0, 0, []), (78, .iinc 1 1, 3, 1, 0, 0, 0, 1, []), (81, .goto (-24), 3, 57, 0, 0, 0, 0, []),
  (84, .iconst 0, 1, 0, 0, 0, 0, 0, []), (85, .istore_n 1, 1, 1, 0, 0, 0, 0, []), (86, .iload_n 1, 1, 1, 0, 0, 0, 0, []), (87, .bipush 8, 2, 0, 0, 0, 0, 8, []), (89, .if_icmp .ge 24, 3, 113, 0, 0, 0, 0, []), (92, .aload_n 0, 1, 0, 0, 0, 0, 0, []),
  (93, .getfield 115, 3, 6, 42, 3, 1107, 0, []), (96, .bipush 8, 2, 0, 0, 0, 0, 8, []), (98, .iload_n 1, 1, 1, 0, 0, 0, 0, []), (99, .iadd, 1, 0, 0, 0, 0, 0, []), (100, .aload_n 0, 1, 0, 0, 0, 0, 0, []), (101, .getfield 115, 3, 6, 42, 3, 1107, 0, []),
  (104, .iload_n 1, 1, 1, 0, 0, 0, 0, []), (105, .iaload, 1, 0, 0, 0, 0, 0, []), (106, .iastore, 1, 0, 0, 0, 0, 0, []), (107, .iinc 1 1, 3, 1, 0, 0, 0, 1, []), (110, .goto (-24), 3, 86, 0, 0, 0, 0, []), (113, .iconst 0, 1, 0, 0, 0, 0, 0, []),
  (114, .istore_n 1, 1, 1, 0, 0, 0, 0, []), (115, .iload_n 1, 1, 1, 0, 0, 0, 0, []), (116, .bipush 48, 2, 0, 0, 0, 0, 48, []), (118, .if_icmp .ge 24, 3, 142, 0, 0, 0, 0, []), (121, .aload_n 0, 1, 0, 0, 0, 0, 0, []), (122, .getfield 118, 3, 6, 43, 3, 1108, 0, []),
  (125, .bipush 48, 2, 0, 0, 0, 0, 48, []), (127, .iload_n 1, 1, 1, 0, 0, 0, 0, []), (128, .iadd, 1, 0, 0, 0, 0, 0, []), (129, .aload_n 0, 1, 0, 0, 0, 0, 0, []), (130, .getfield 118, 3, 6, 43, 3, 1108, 0, []), (133, .iload_n 1, 1, 1, 0, 0, 0, 0, []),
  (134, .iaload, 1, 0, 0, 0, 0, 0, []), (135, .iastore, 1, 0, 0, 0, 0, 0, []), (136, .iinc 1 1, 3, 1, 0, 0, 0, 1, []), (139, .goto (-24), 3, 115, 0, 0, 0, 0, []), (142, .iconst 0, 1, 0, 0, 0, 0, 0, []), (143, .istore_n 1, 1, 1, 0, 0, 0, 0, []),
  (144, .iload_n 1, 1, 1, 0, 0, 0, 0, []), (145, .bipush 10, 2, 0, 0, 0, 0, 10, []), (147, .if_icmp .ge 24, 3, 171, 0, 0, 0, 0, []), (150, .aload_n 0, 1, 0, 0, 0, 0, 0, []), (151, .getfield 121, 3, 6, 44, 3, 1109, 0, []), (154, .bipush 10, 2, 0, 0, 0, 0, 10, []),
  (156, .iload_n 1, 1, 1, 0, 0, 0, 0, []), (157, .iadd, 1, 0, 0, 0, 0, 0, []), (158, .aload_n 0, 1, 0, 0, 0, 0, 0, []), (159, .getfield 121, 3, 6, 44, 3, 1109, 0, [])]
noncomputable def am_c156_1 : List (Nat × am_E) := [(162, .iload_n 1, 1, 1, 0, 0, 0, 0, []), (163, .iaload, 1, 0, 0, 0, 0, 0, []), (164, .iastore, 1, 0, 0, 0, 0, 0, []), (165, .iinc 1 1, 3, 1, 0, 0, 0, 1, []), (168, .goto (-24), 3, 144, 0, 0, 0, 0, []), (171, .iconst 0, 1, 0, 0, 0, 0, 0, []),
  (172, .istore_n 1, 1, 1, 0, 0, 0, 0, []), (173, .iload_n 1, 1, 1, 0, 0, 0, 0, []), (174, .bipush 30, 2, 0, 0, 0, 0, 30, []), (176, .if_icmp .ge 24, 3, 200, 0, 0, 0, 0, []), (179, .aload_n 0, 1, 0, 0, 0, 0, 0, []), (180, .getfield 124, 3, 6, 45, 3, 1110, 0, []),
  (183, .bipush 30, 2, 0, 0, 0, 0, 30, []), (185, .iload_n 1, 1, 1, 0, 0, 0, 0, []), (186, .iadd, 1, 0, 0, 0, 0, 0, []), (187, .aload_n 0, 1, 0, 0, 0, 0, 0, []), (188, .getfield 124, 3, 6, 45, 3, 1110, 0, []), (191, .iload_n 1, 1, 1, 0, 0, 0, 0, []),
  (192, .iaload, 1, 0, 0, 0, 0, 0, []), (193, .iastore, 1, 0, 0, 0, 0, 0, []), (194, .iinc 1 1, 3, 1, 0, 0, 0, 1, []), (197, .goto (-24), 3, 173, 0, 0, 0, 0, []), (200, .iconst 0, 1, 0, 0, 0, 0, 0, []), (201, .istore_n 1, 1, 1, 0, 0, 0, 0, []),
  (202, .iload_n 1, 1, 1, 0, 0, 0, 0, []), (203, .iconst 4, 1, 0, 0, 0, 0, 4, []), (204, .if_icmp .ge 23, 3, 227, 0, 0, 0, 0, []), (207, .aload_n 0, 1, 0, 0, 0, 0, 0, []), (208, .getfield 127, 3, 6, 47, 3, 1112, 0, []), (211, .iconst 4, 1, 0, 0, 0, 0, 4, []),
  (212, .iload_n 1, 1, 1, 0, 0, 0, 0, []), (213, .iadd, 1, 0, 0, 0, 0, 0, []), (214, .aload_n 0, 1, 0, 0, 0, 0, 0, []), (215, .getfield 127, 3, 6, 47, 3, 1112, 0, []), (218, .iload_n 1, 1, 1, 0, 0, 0, 0, []), (219, .iaload, 1, 0, 0, 0, 0, 0, []),
  (220, .iastore, 1, 0, 0, 0, 0, 0, []), (221, .iinc 1 1, 3, 1, 0, 0, 0, 1, []), (224, .goto (-22), 3, 202, 0, 0, 0, 0, []), (227, .iconst 0, 1, 0, 0, 0, 0, 0, []), (228, .istore_n 1, 1, 1, 0, 0, 0, 0, []), (229, .iload_n 1, 1, 1, 0, 0, 0, 0, []),
  (230, .aload_n 0, 1, 0, 0, 0, 0, 0, []), (231, .getfield 356, 3, 6, 51, 1, 1116, 0, []), (234, .if_icmp .ge 25, 3, 259, 0, 0, 0, 0, []), (237, .aload_n 0, 1, 0, 0, 0, 0, 0, []), (238, .getfield 136, 3, 6, 50, 3, 1115, 0, []), (241, .sipush 1600, 3, 0, 0, 0, 0, 1600, []),
  (244, .iload_n 1, 1, 1, 0, 0, 0, 0, []), (245, .iadd, 1, 0, 0, 0, 0, 0, []), (246, .aload_n 0, 1, 0, 0, 0, 0, 0, []), (247, .getfield 136, 3, 6, 50, 3, 1115, 0, []), (250, .iload_n 1, 1, 1, 0, 0, 0, 0, []), (251, .iaload, 1, 0, 0, 0, 0, 0, []),
  (252, .iastore, 1, 0, 0, 0, 0, 0, []), (253, .iinc 1 1, 3, 1, 0, 0, 0, 1, []), (256, .goto (-27), 3, 229, 0, 0, 0, 0, []), (259, .iconst 0, 1, 0, 0, 0, 0, 0, []), (260, .istore_n 1, 1, 1, 0, 0, 0, 0, []), (261, .iload_n 1, 1, 1, 0, 0, 0, 0, []),
  (262, .sipush 257, 3, 0, 0, 0, 0, 257, []), (265, .if_icmp .ge 16, 3, 281, 0, 0, 0, 0, []), (268, .aload_n 0, 1, 0, 0, 0, 0, 0, []), (269, .getfield 139, 3, 6, 54, 3, 1119, 0, []), (272, .iload_n 1, 1, 1, 0, 0, 0, 0, []), (273, .iconst 0, 1, 0, 0, 0, 0, 0, []),
  (274, .iastore, 1, 0, 0, 0, 0, 0, []), (275, .iinc 1 1, 3, 1, 0, 0, 0, 1, []), (278, .goto (-17), 3, 261, 0, 0, 0, 0, []), (281, .aload_n 0, 1, 0, 0, 0, 0, 0, []), (282, .aload_n 0, 1, 0, 0, 0, 0, 0, []), (283, .getfield 335, 3, 6, 46, 1, 1111, 0, []),
  (286, .invokevirtual 393, 3, 168, 2, 0, 1572, 6, []), (289, .aload_n 0, 1, 0, 0, 0, 0, 0, []), (290, .iconst 0, 1, 0, 0, 0, 0, 0, []), (291, .putfield 396, 3, 6, 68, 1, 1133, 0, []), (294, .aload_n 0, 1, 0, 0, 0, 0, 0, []), (295, .iconst 0, 1, 0, 0, 0, 0, 0, []),
  (296, .putfield 399, 3, 6, 65, 1, 1130, 0, []), (299, .return_, 1, 0, 0, 0, 0, 0, [])]
noncomputable def am_c156 : List (Nat × am_E) := am_c156_0 ++ (am_c156_1)
noncomputable def am_s157 : am_S := (yX6_fault, cX6_fault, 2, (some .int), 1, 1, 2, 6, 1583, 1581, 1582, 175)
noncomputable def am_c157 : List (Nat × am_E) := [(0, .iload_n 1, 1, 1, 0, 0, 0, 0, []), (1, .ifCond .ne 10, 3, 11, 0, 0, 0, 0, []), (4, .aload_n 0, 1, 0, 0, 0, 0, 0, []), (5, .getfield 387, 3, 6, 7, 1, 1072, 0, []), (8, .goto 16, 3, 24, 0, 0, 0, 0, []), (11, .iload_n 1, 1, 1, 0, 0, 0, 0, []),
  (12, .iconst 1, 1, 0, 0, 0, 0, 1, []), (13, .if_icmp .ne 10, 3, 23, 0, 0, 0, 0, []), (16, .aload_n 0, 1, 0, 0, 0, 0, 0, []), (17, .getfield 13, 3, 6, 8, 1, 1073, 0, []), (20, .goto 4, 3, 24, 0, 0, 0, 0, []), (23, .iconst (-1), 1, 0, 0, 0, 0, (-1), []),
  (24, .ireturn, 1, 0, 0, 1, 0, 0, [])]
noncomputable def am_s158 : am_S := (yX6_kindMany, cX6_kindMany, 1, (some .int), 1, 1, 1, 6, 1631, 1630, 114, 175)
noncomputable def am_c158 : List (Nat × am_E) := [(0, .aload_n 0, 1, 0, 0, 0, 0, 0, []), (1, .getfield 108, 3, 6, 40, 3, 1105, 0, []), (4, .iconst 3, 1, 0, 0, 0, 0, 3, []), (5, .iaload, 1, 0, 0, 0, 0, 0, []), (6, .ireturn, 1, 0, 0, 1, 0, 0, [])]
noncomputable def am_s159 : am_S := (yX6_filmMany, cX6_filmMany, 1, (some .int), 1, 1, 1, 6, 1623, 1622, 112, 175)
noncomputable def am_c159 : List (Nat × am_E) := [(0, .aload_n 0, 1, 0, 0, 0, 0, 0, []), (1, .getfield 108, 3, 6, 40, 3, 1105, 0, []), (4, .iconst 4, 1, 0, 0, 0, 0, 4, []), (5, .iaload, 1, 0, 0, 0, 0, 0, []), (6, .ireturn, 1, 0, 0, 1, 0, 0, [])]
noncomputable def am_s160 : am_S := (yX6_personMany, cX6_personMany, 1, (some .int), 1, 1, 1, 6, 1579, 1578, 106, 175)
noncomputable def am_c160 : List (Nat × am_E) := [(0, .aload_n 0, 1, 0, 0, 0, 0, 0, []), (1, .getfield 108, 3, 6, 40, 3, 1105, 0, []), (4, .iconst 5, 1, 0, 0, 0, 0, 5, []), (5, .iaload, 1, 0, 0, 0, 0, 0, []), (6, .ireturn, 1, 0, 0, 1, 0, 0, [])]
noncomputable def am_s161 : am_S := (yX6_isKind, cX6_isKind, 2, (some .boolean), 1, 4, 2, 6, 1627, 1626, 113, 175)
noncomputable def am_c161 : List (Nat × am_E) := [(0, .iload_n 1, 1, 1, 0, 0, 0, 0, []), (1, .i2l, 1, 0, 0, 0, 0, 0, []), (2, .lconst 0, 1, 0, 0, 0, 0, 0, []), (3, .aload_n 0, 1, 0, 0, 0, 0, 0, []), (4, .invokevirtual 402, 3, 158, 1, 1, 1628, 6, []), (7, .iconst 1, 1, 0, 0, 0, 0, 1, []),
  (8, .isub, 1, 0, 0, 0, 0, 0, []), (9, .i2l, 1, 0, 0, 0, 0, 0, []), (10, .invokestatic 282, 3, 127, 3, 4, 1456, 0, []), (13, .ireturn, 1, 0, 0, 4, 0, 0, [])]
noncomputable def am_s162 : am_S := (yX6_isFilm, cX6_isFilm, 2, (some .boolean), 1, 4, 2, 6, 1619, 1618, 111, 175)
noncomputable def am_c162 : List (Nat × am_E) := [(0, .iload_n 1, 1, 1, 0, 0, 0, 0, []), (1, .i2l, 1, 0, 0, 0, 0, 0, []), (2, .lconst 0, 1, 0, 0, 0, 0, 0, []), (3, .aload_n 0, 1, 0, 0, 0, 0, 0, []), (4, .invokevirtual 405, 3, 159, 1, 1, 1620, 6, []), (7, .iconst 1, 1, 0, 0, 0, 0, 1, []),
  (8, .isub, 1, 0, 0, 0, 0, 0, []), (9, .i2l, 1, 0, 0, 0, 0, 0, []), (10, .invokestatic 282, 3, 127, 3, 4, 1456, 0, []), (13, .ireturn, 1, 0, 0, 4, 0, 0, [])]
noncomputable def am_s163 : am_S := (yX6_isPerson, cX6_isPerson, 2, (some .boolean), 1, 4, 2, 6, 1647, 1646, 117, 175)
noncomputable def am_c163 : List (Nat × am_E) := [(0, .iload_n 1, 1, 1, 0, 0, 0, 0, []), (1, .i2l, 1, 0, 0, 0, 0, 0, []), (2, .lconst 0, 1, 0, 0, 0, 0, 0, []), (3, .aload_n 0, 1, 0, 0, 0, 0, 0, []), (4, .invokevirtual 408, 3, 160, 1, 1, 1576, 6, []), (7, .iconst 1, 1, 0, 0, 0, 0, 1, []),
  (8, .isub, 1, 0, 0, 0, 0, 0, []), (9, .i2l, 1, 0, 0, 0, 0, 0, []), (10, .invokestatic 282, 3, 127, 3, 4, 1456, 0, []), (13, .ireturn, 1, 0, 0, 4, 0, 0, [])]
noncomputable def am_s164 : am_S := (yX6_partsOf, cX6_partsOf, 2, (some .int), 1, 1, 2, 6, 1639, 1638, 116, 175)
noncomputable def am_c164 : List (Nat × am_E) := [(0, .aload_n 0, 1, 0, 0, 0, 0, 0, []), (1, .getfield 115, 3, 6, 42, 3, 1107, 0, []), (4, .bipush 8, 2, 0, 0, 0, 0, 8, []), (6, .iload_n 1, 1, 1, 0, 0, 0, 0, []), (7, .iadd, 1, 0, 0, 0, 0, 0, []), (8, .iaload, 1, 0, 0, 0, 0, 0, []),
  (9, .ireturn, 1, 0, 0, 1, 0, 0, [])]
noncomputable def am_s165 : am_S := (yX6_weightOf, cX6_weightOf, 3, (some .int), 1, 1, 3, 6, 1635, 1634, 115, 175)
noncomputable def am_c165 : List (Nat × am_E) := [(0, .aload_n 0, 1, 0, 0, 0, 0, 0, []), (1, .getfield 118, 3, 6, 43, 3, 1108, 0, []), (4, .bipush 48, 2, 0, 0, 0, 0, 48, []), (6, .bipush 6, 2, 0, 0, 0, 0, 6, []), (8, .iload_n 1, 1, 1, 0, 0, 0, 0, []), (9, .imul, 1, 0, 0, 0, 0, 0, []),
  (10, .iadd, 1, 0, 0, 0, 0, 0, []), (11, .iload_n 2, 1, 2, 0, 0, 0, 0, []), (12, .iadd, 1, 0, 0, 0, 0, 0, []), (13, .iaload, 1, 0, 0, 0, 0, 0, []), (14, .ireturn, 1, 0, 0, 1, 0, 0, [])]
noncomputable def am_s166 : am_S := (yX6_likesOf, cX6_likesOf, 3, (some .int), 1, 1, 3, 6, 1651, 1650, 118, 175)
noncomputable def am_c166 : List (Nat × am_E) := [(0, .aload_n 0, 1, 0, 0, 0, 0, 0, []), (1, .getfield 124, 3, 6, 45, 3, 1110, 0, []), (4, .bipush 30, 2, 0, 0, 0, 0, 30, []), (6, .bipush 6, 2, 0, 0, 0, 0, 6, []), (8, .iload_n 1, 1, 1, 0, 0, 0, 0, []), (9, .imul, 1, 0, 0, 0, 0, 0, []),
  (10, .iadd, 1, 0, 0, 0, 0, 0, []), (11, .iload_n 2, 1, 2, 0, 0, 0, 0, []), (12, .iadd, 1, 0, 0, 0, 0, 0, []), (13, .iaload, 1, 0, 0, 0, 0, 0, []), (14, .ireturn, 1, 0, 0, 1, 0, 0, [])]
noncomputable def am_s167 : am_S := (yX6_doesPress, cX6_doesPress, 2, (some .boolean), 1, 4, 2, 6, 1595, 1594, 108, 175)
noncomputable def am_c167 : List (Nat × am_E) := [(0, .aload_n 0, 1, 0, 0, 0, 0, 0, []), (1, .getfield 139, 3, 6, 54, 3, 1119, 0, []), (4, .bipush 86, 2, 0, 0, 0, 0, 86, []), (6, .iconst 2, 1, 0, 0, 0, 0, 2, []), (7, .iload_n 1, 1, 1, 0, 0, 0, 0, []), (8, .imul, 1, 0, 0, 0, 0, 0, []),
  (9, .iadd, 1, 0, 0, 0, 0, 0, []), (10, .iaload, 1, 0, 0, 0, 0, 0, []), (11, .iconst 1, 1, 0, 0, 0, 0, 1, []), (12, .if_icmp .ne 7, 3, 19, 0, 0, 0, 0, []), (15, .iconst 1, 1, 0, 0, 0, 0, 1, []), (16, .goto 4, 3, 20, 0, 0, 0, 0, []),
  (19, .iconst 0, 1, 0, 0, 0, 0, 0, []), (20, .ireturn, 1, 0, 0, 4, 0, 0, [])]
noncomputable def am_s168 : am_S := (yX6_pressAll, cX6_pressAll, 3, none, 1, 0, 2, 6, 1575, 1574, 105, 175)
noncomputable def am_c168 : List (Nat × am_E) := [(0, .iconst 0, 1, 0, 0, 0, 0, 0, []), (1, .istore_n 2, 1, 2, 0, 0, 0, 0, []), (2, .iload_n 2, 1, 2, 0, 0, 0, 0, []), (3, .aload_n 0, 1, 0, 0, 0, 0, 0, []), (4, .invokevirtual 408, 3, 160, 1, 1, 1576, 6, []), (7, .if_icmp .ge 25, 3, 32, 0, 0, 0, 0, []),
  (10, .aload_n 0, 1, 0, 0, 0, 0, 0, []), (11, .getfield 139, 3, 6, 54, 3, 1119, 0, []), (14, .bipush 86, 2, 0, 0, 0, 0, 86, []), (16, .iconst 2, 1, 0, 0, 0, 0, 2, []), (17, .iload_n 2, 1, 2, 0, 0, 0, 0, []), (18, .imul, 1, 0, 0, 0, 0, 0, []),
  (19, .iadd, 1, 0, 0, 0, 0, 0, []), (20, .iload_n 1, 1, 1, 0, 0, 0, 0, []), (21, .iload_n 2, 1, 2, 0, 0, 0, 0, []), (22, .ishr, 1, 0, 0, 0, 0, 0, []), (23, .iconst 1, 1, 0, 0, 0, 0, 1, []), (24, .iand, 1, 0, 0, 0, 0, 0, []),
  (25, .iastore, 1, 0, 0, 0, 0, 0, []), (26, .iinc 2 1, 3, 2, 0, 0, 0, 1, []), (29, .goto (-27), 3, 2, 0, 0, 0, 0, []), (32, .return_, 1, 0, 0, 0, 0, 0, [])]
noncomputable def am_s169 : am_S := (yX6_pressers, cX6_pressers, 3, (some .int), 1, 1, 1, 6, 1591, 1590, 107, 175)
noncomputable def am_c169 : List (Nat × am_E) := [(0, .iconst 0, 1, 0, 0, 0, 0, 0, []), (1, .istore_n 1, 1, 1, 0, 0, 0, 0, []), (2, .iconst 0, 1, 0, 0, 0, 0, 0, []), (3, .istore_n 2, 1, 2, 0, 0, 0, 0, []), (4, .iload_n 2, 1, 2, 0, 0, 0, 0, []), (5, .aload_n 0, 1, 0, 0, 0, 0, 0, []),
  (6, .invokevirtual 408, 3, 160, 1, 1, 1576, 6, []), (9, .if_icmp .ge 23, 3, 32, 0, 0, 0, 0, []), (12, .aload_n 0, 1, 0, 0, 0, 0, 0, []), (13, .iload_n 2, 1, 2, 0, 0, 0, 0, []), (14, .invokevirtual 411, 3, 167, 2, 4, 1592, 6, []), (17, .ifCond .eq 9, 3, 26, 0, 0, 0, 0, []),
  (20, .iload_n 1, 1, 1, 0, 0, 0, 0, []), (21, .iconst 1, 1, 0, 0, 0, 0, 1, []), (22, .iload_n 2, 1, 2, 0, 0, 0, 0, []), (23, .ishl, 1, 0, 0, 0, 0, 0, []), (24, .ior, 1, 0, 0, 0, 0, 0, []), (25, .istore_n 1, 1, 1, 0, 0, 0, 0, []),
  (26, .iinc 2 1, 3, 2, 0, 0, 0, 1, []), (29, .goto (-25), 3, 4, 0, 0, 0, 0, []), (32, .iload_n 1, 1, 1, 0, 0, 0, 0, []), (33, .ireturn, 1, 0, 0, 1, 0, 0, [])]
noncomputable def am_s170 : am_S := (yX6_profileOf, cX6_profileOf, 2, (some .int), 1, 1, 2, 6, 1683, 1682, 123, 175)
noncomputable def am_c170 : List (Nat × am_E) := [(0, .aload_n 0, 1, 0, 0, 0, 0, 0, []), (1, .iload_n 1, 1, 1, 0, 0, 0, 0, []), (2, .invokevirtual 411, 3, 167, 2, 4, 1592, 6, []), (5, .ifCond .eq 9, 3, 14, 0, 0, 0, 0, []), (8, .iconst 1, 1, 0, 0, 0, 0, 1, []), (9, .iload_n 1, 1, 1, 0, 0, 0, 0, []),
  (10, .iadd, 1, 0, 0, 0, 0, 0, []), (11, .goto 4, 3, 15, 0, 0, 0, 0, []), (14, .iconst 0, 1, 0, 0, 0, 0, 0, []), (15, .ireturn, 1, 0, 0, 1, 0, 0, [])]
noncomputable def am_s171 : am_S := (yX6_tasteAt, cX6_tasteAt, 3, (some .int), 1, 1, 3, 6, 1659, 1658, 119, 175)
noncomputable def am_c171 : List (Nat × am_E) := [(0, .iconst 2, 1, 0, 0, 0, 0, 2, []), (1, .bipush 14, 2, 0, 0, 0, 0, 14, []), (3, .iload_n 1, 1, 1, 0, 0, 0, 0, []), (4, .imul, 1, 0, 0, 0, 0, 0, []), (5, .iadd, 1, 0, 0, 0, 0, 0, []), (6, .iload_n 2, 1, 2, 0, 0, 0, 0, []),
  (7, .iadd, 1, 0, 0, 0, 0, 0, []), (8, .ireturn, 1, 0, 0, 1, 0, 0, [])]
noncomputable def am_s172 : am_S := (yX6_seenAt, cX6_seenAt, 3, (some .int), 1, 1, 3, 6, 1671, 1670, 121, 175)
noncomputable def am_c172 : List (Nat × am_E) := [(0, .iconst 2, 1, 0, 0, 0, 0, 2, []), (1, .bipush 14, 2, 0, 0, 0, 0, 14, []), (3, .iload_n 1, 1, 1, 0, 0, 0, 0, []), (4, .imul, 1, 0, 0, 0, 0, 0, []), (5, .iadd, 1, 0, 0, 0, 0, 0, []), (6, .bipush 6, 2, 0, 0, 0, 0, 6, []),
  (8, .iadd, 1, 0, 0, 0, 0, 0, []), (9, .iload_n 2, 1, 2, 0, 0, 0, 0, []), (10, .iadd, 1, 0, 0, 0, 0, 0, []), (11, .ireturn, 1, 0, 0, 1, 0, 0, [])]
noncomputable def am_s173 : am_S := (yX6_seenBy, cX6_seenBy, 3, (some .int), 1, 1, 3, 6, 1667, 1666, 120, 175)
noncomputable def am_c173 : List (Nat × am_E) := [(0, .aload_n 0, 1, 0, 0, 0, 0, 0, []), (1, .getfield 139, 3, 6, 54, 3, 1119, 0, []), (4, .aload_n 0, 1, 0, 0, 0, 0, 0, []), (5, .iload_n 1, 1, 1, 0, 0, 0, 0, []), (6, .iload_n 2, 1, 2, 0, 0, 0, 0, []), (7, .invokevirtual 414, 3, 172, 3, 1, 1668, 6, []),
  (10, .iaload, 1, 0, 0, 0, 0, 0, []), (11, .ireturn, 1, 0, 0, 1, 0, 0, [])]
noncomputable def am_s174 : am_S := (yX6_scoreOf, cX6_scoreOf, 5, (some .int), 1, 1, 3, 6, 1703, 1702, 128, 175)
noncomputable def am_c174 : List (Nat × am_E) := [(0, .iconst 1, 1, 0, 0, 0, 0, 1, []), (1, .istore_n 3, 1, 3, 0, 0, 0, 0, []), (2, .iconst 0, 1, 0, 0, 0, 0, 0, []), (3, .istore 4, 2, 4, 0, 0, 0, 0, []), (5, .iload 4, 2, 4, 0, 0, 0, 0, []), (7, .aload_n 0, 1, 0, 0, 0, 0, 0, []),
  (8, .invokevirtual 402, 3, 158, 1, 1, 1628, 6, []), (11, .if_icmp .ge 32, 3, 43, 0, 0, 0, 0, []), (14, .iload_n 3, 1, 3, 0, 0, 0, 0, []), (15, .aload_n 0, 1, 0, 0, 0, 0, 0, []), (16, .iload_n 2, 1, 2, 0, 0, 0, 0, []), (17, .iload 4, 2, 4, 0, 0, 0, 0, []),
  (19, .invokevirtual 417, 3, 165, 3, 1, 1632, 6, []), (22, .aload_n 0, 1, 0, 0, 0, 0, 0, []), (23, .getfield 139, 3, 6, 54, 3, 1119, 0, []), (26, .aload_n 0, 1, 0, 0, 0, 0, 0, []), (27, .iload_n 1, 1, 1, 0, 0, 0, 0, []), (28, .iload 4, 2, 4, 0, 0, 0, 0, []),
  (30, .invokevirtual 420, 3, 171, 3, 1, 1656, 6, []), (33, .iaload, 1, 0, 0, 0, 0, 0, []), (34, .imul, 1, 0, 0, 0, 0, 0, []), (35, .iadd, 1, 0, 0, 0, 0, 0, []), (36, .istore_n 3, 1, 3, 0, 0, 0, 0, []), (37, .iinc 4 1, 3, 4, 0, 0, 0, 1, []),
  (40, .goto (-35), 3, 5, 0, 0, 0, 0, []), (43, .iload_n 3, 1, 3, 0, 0, 0, 0, []), (44, .ireturn, 1, 0, 0, 1, 0, 0, [])]
noncomputable def am_s175 : am_S := (yX6_worthOf, cX6_worthOf, 5, (some .int), 1, 1, 3, 6, 1707, 1706, 129, 175)
noncomputable def am_c175 : List (Nat × am_E) := [(0, .iconst 0, 1, 0, 0, 0, 0, 0, []), (1, .istore_n 3, 1, 3, 0, 0, 0, 0, []), (2, .iconst 0, 1, 0, 0, 0, 0, 0, []), (3, .istore 4, 2, 4, 0, 0, 0, 0, []), (5, .iload 4, 2, 4, 0, 0, 0, 0, []), (7, .aload_n 0, 1, 0, 0, 0, 0, 0, []),
  (8, .invokevirtual 402, 3, 158, 1, 1, 1628, 6, []), (11, .if_icmp .ge 27, 3, 38, 0, 0, 0, 0, []), (14, .iload_n 3, 1, 3, 0, 0, 0, 0, []), (15, .aload_n 0, 1, 0, 0, 0, 0, 0, []), (16, .iload_n 2, 1, 2, 0, 0, 0, 0, []), (17, .iload 4, 2, 4, 0, 0, 0, 0, []),
  (19, .invokevirtual 417, 3, 165, 3, 1, 1632, 6, []), (22, .aload_n 0, 1, 0, 0, 0, 0, 0, []), (23, .iload_n 1, 1, 1, 0, 0, 0, 0, []), (24, .iload 4, 2, 4, 0, 0, 0, 0, []), (26, .invokevirtual 423, 3, 166, 3, 1, 1648, 6, []), (29, .imul, 1, 0, 0, 0, 0, 0, []),
  (30, .iadd, 1, 0, 0, 0, 0, 0, []), (31, .istore_n 3, 1, 3, 0, 0, 0, 0, []), (32, .iinc 4 1, 3, 4, 0, 0, 0, 1, []), (35, .goto (-30), 3, 5, 0, 0, 0, 0, []), (38, .iload_n 3, 1, 3, 0, 0, 0, 0, []), (39, .ireturn, 1, 0, 0, 1, 0, 0, [])]
noncomputable def am_s176 : am_S := (yX6_cut, cX6_cut, 2, (some .int), 0, 1, 1, 6, 1763, 1762, 0, 175)
noncomputable def am_c176 : List (Nat × am_E) := [(0, .lload_n 0, 1, 0, 0, 0, 0, 0, []), (1, .lconst 0, 1, 0, 0, 0, 0, 0, []), (2, .lcmp, 1, 0, 0, 0, 0, 0, []), (3, .ifCond .ge 7, 3, 10, 0, 0, 0, 0, []), (6, .iconst 0, 1, 0, 0, 0, 0, 0, []), (7, .goto 19, 3, 26, 0, 0, 0, 0, []),
  (10, .lload_n 0, 1, 0, 0, 0, 0, 0, []), (11, .ldc2_w 426, 3, 0, 0, 0, 1764, 999, []), (14, .lcmp, 1, 0, 0, 0, 0, 0, []), (15, .ifCond .le 9, 3, 24, 0, 0, 0, 0, []), (18, .sipush 999, 3, 0, 0, 0, 0, 999, []), (21, .goto 5, 3, 26, 0, 0, 0, 0, []),
  (24, .lload_n 0, 1, 0, 0, 0, 0, 0, []), (25, .l2i, 1, 0, 0, 0, 0, 0, []), (26, .ireturn, 1, 0, 0, 1, 0, 0, [])]
noncomputable def am_s177 : am_S := (yX6_codesTell, cX6_codesTell, 5, (some .long), 1, 2, 3, 6, 1691, 1690, 125, 175)
noncomputable def am_c177 : List (Nat × am_E) := [(0, .aload_n 0, 1, 0, 0, 0, 0, 0, []), (1, .iload_n 1, 1, 1, 0, 0, 0, 0, []), (2, .putfield 297, 3, 6, 53, 1, 1118, 0, []), (5, .aload_n 0, 1, 0, 0, 0, 0, 0, []), (6, .iconst 0, 1, 0, 0, 0, 0, 0, []), (7, .putfield 428, 3, 6, 98, 1, 1163, 0, []),
  (10, .aload_n 0, 1, 0, 0, 0, 0, 0, []), (11, .getfield 130, 3, 6, 48, 3, 1113, 0, []), (14, .iconst 3, 1, 0, 0, 0, 0, 3, []), (15, .iload_n 1, 1, 1, 0, 0, 0, 0, []), (16, .iadd, 1, 0, 0, 0, 0, 0, []), (17, .iaload, 1, 0, 0, 0, 0, 0, []),
  (18, .istore_n 3, 1, 3, 0, 0, 0, 0, []), (19, .iload_n 3, 1, 3, 0, 0, 0, 0, []), (20, .aload_n 0, 1, 0, 0, 0, 0, 0, []), (21, .getfield 133, 3, 6, 49, 3, 1114, 0, []), (24, .iconst 3, 1, 0, 0, 0, 0, 3, []), (25, .iload_n 1, 1, 1, 0, 0, 0, 0, []),
  (26, .iadd, 1, 0, 0, 0, 0, 0, []), (27, .iaload, 1, 0, 0, 0, 0, 0, []), (28, .if_icmp .ge 122, 3, 150, 0, 0, 0, 0, []), (31, .aload_n 0, 1, 0, 0, 0, 0, 0, []), (32, .getfield 136, 3, 6, 50, 3, 1115, 0, []), (35, .sipush 1600, 3, 0, 0, 0, 0, 1600, []),
  (38, .iload_n 3, 1, 3, 0, 0, 0, 0, []), (39, .iadd, 1, 0, 0, 0, 0, 0, []), (40, .iaload, 1, 0, 0, 0, 0, 0, []), (41, .istore 4, 2, 4, 0, 0, 0, 0, []), (43, .iload 4, 2, 4, 0, 0, 0, 0, []), (45, .sipush 1000, 3, 0, 0, 0, 0, 1000, []),
  (48, .if_icmp .lt 17, 3, 65, 0, 0, 0, 0, []), (51, .aload_n 0, 1, 0, 0, 0, 0, 0, []), (52, .iload 4, 2, 4, 0, 0, 0, 0, []), (54, .sipush 1000, 3, 0, 0, 0, 0, 1000, []), (57, .isub, 1, 0, 0, 0, 0, 0, []), (58, .i2l, 1, 0, 0, 0, 0, 0, []),
  (59, .invokevirtual 431, 3, 253, 2, 0, 1692, 6, []), (62, .goto 82, 3, 144, 0, 0, 0, 0, []), (65, .iload 4, 2, 4, 0, 0, 0, 0, []), (67, .bipush 40, 2, 0, 0, 0, 0, 40, []), (69, .if_icmp .lt 20, 3, 89, 0, 0, 0, 0, []), (72, .aload_n 0, 1, 0, 0, 0, 0, 0, []),
  (73, .aload_n 0, 1, 0, 0, 0, 0, 0, []), (74, .iload 4, 2, 4, 0, 0, 0, 0, []), (76, .bipush 40, 2, 0, 0, 0, 0, 40, []), (78, .isub, 1, 0, 0, 0, 0, 0, []), (79, .iload_n 2, 1, 2, 0, 0, 0, 0, []), (80, .invokevirtual 435, 3, 255, 3, 2, 1696, 6, []),
  (83, .invokevirtual 431, 3, 253, 2, 0, 1692, 6, []), (86, .goto 58, 3, 144, 0, 0, 0, 0, []), (89, .iload 4, 2, 4, 0, 0, 0, 0, []), (91, .bipush 13, 2, 0, 0, 0, 0, 13, []), (93, .if_icmp .ne 11, 3, 104, 0, 0, 0, 0, []), (96, .aload_n 0, 1, 0, 0, 0, 0, 0, []),
  (97, .lconst 1, 1, 0, 0, 0, 0, 1, []), (98, .invokevirtual 431, 3, 253, 2, 0, 1692, 6, []), (101, .goto 43, 3, 144, 0, 0, 0, 0, []), (104, .iload 4, 2, 4, 0, 0, 0, 0, []), (106, .bipush 12, 2, 0, 0, 0, 0, 12, []), (108, .if_icmp .ne 30, 3, 138, 0, 0, 0, 0, []),
  (111, .aload_n 0, 1, 0, 0, 0, 0, 0, []), (112, .getfield 233, 3, 6, 97, 3, 1162, 0, []), (115, .aload_n 0, 1, 0, 0, 0, 0, 0, []), (116, .getfield 428, 3, 6, 98, 1, 1163, 0, []), (119, .iconst 1, 1, 0, 0, 0, 0, 1, []), (120, .isub, 1, 0, 0, 0, 0, 0, []),
  (121, .lconst 1, 1, 0, 0, 0, 0, 1, []), (122, .aload_n 0, 1, 0, 0, 0, 0, 0, []), (123, .getfield 233, 3, 6, 97, 3, 1162, 0, []), (126, .aload_n 0, 1, 0, 0, 0, 0, 0, []), (127, .getfield 428, 3, 6, 98, 1, 1163, 0, []), (130, .iconst 1, 1, 0, 0, 0, 0, 1, []),
  (131, .isub, 1, 0, 0, 0, 0, 0, []), (132, .laload, 1, 0, 0, 0, 0, 0, []), (133, .lsub, 1, 0, 0, 0, 0, 0, []), (134, .lastore, 1, 0, 0, 0, 0, 0, []), (135, .goto 9, 3, 144, 0, 0, 0, 0, []), (138, .aload_n 0, 1, 0, 0, 0, 0, 0, []),
  (139, .iload 4, 2, 4, 0, 0, 0, 0, []), (141, .invokevirtual 439, 3, 254, 2, 0, 1708, 6, []), (144, .iinc 3 1, 3, 3, 0, 0, 0, 1, []), (147, .goto (-128), 3, 19, 0, 0, 0, 0, []), (150, .aload_n 0, 1, 0, 0, 0, 0, 0, []), (151, .getfield 233, 3, 6, 97, 3, 1162, 0, []),
  (154, .iconst 0, 1, 0, 0, 0, 0, 0, []), (155, .laload, 1, 0, 0, 0, 0, 0, []), (156, .lreturn, 1, 0, 0, 2, 0, 0, [])]
noncomputable def am_s178 : am_S := (yX6_may, cX6_may, 3, (some .boolean), 1, 4, 3, 6, 1687, 1686, 124, 175)
noncomputable def am_c178 : List (Nat × am_E) := [(0, .aload_n 0, 1, 0, 0, 0, 0, 0, []), (1, .iload_n 1, 1, 1, 0, 0, 0, 0, []), (2, .iload_n 2, 1, 2, 0, 0, 0, 0, []), (3, .invokevirtual 442, 3, 173, 3, 1, 1664, 6, []), (6, .aload_n 0, 1, 0, 0, 0, 0, 0, []), (7, .iload_n 2, 1, 2, 0, 0, 0, 0, []),
  (8, .invokevirtual 445, 3, 164, 2, 1, 1636, 6, []), (11, .if_icmp .ne 5, 3, 16, 0, 0, 0, 0, []), (14, .iconst 0, 1, 0, 0, 0, 0, 0, []), (15, .ireturn, 1, 0, 0, 4, 0, 0, []), (16, .aload_n 0, 1, 0, 0, 0, 0, 0, []), (17, .iload_n 1, 1, 1, 0, 0, 0, 0, []),
  (18, .putfield 448, 3, 6, 57, 1, 1122, 0, []), (21, .aload_n 0, 1, 0, 0, 0, 0, 0, []), (22, .getfield 130, 3, 6, 48, 3, 1113, 0, []), (25, .iconst 5, 1, 0, 0, 0, 0, 5, []), (26, .iaload, 1, 0, 0, 0, 0, 0, []), (27, .iconst (-1), 1, 0, 0, 0, 0, (-1), []),
  (28, .if_icmp .eq 14, 3, 42, 0, 0, 0, 0, []), (31, .aload_n 0, 1, 0, 0, 0, 0, 0, []), (32, .iconst 2, 1, 0, 0, 0, 0, 2, []), (33, .iload_n 2, 1, 2, 0, 0, 0, 0, []), (34, .invokevirtual 451, 3, 177, 3, 2, 1688, 6, []), (37, .lconst 1, 1, 0, 0, 0, 0, 1, []),
  (38, .lcmp, 1, 0, 0, 0, 0, 0, []), (39, .ifCond .ne 7, 3, 46, 0, 0, 0, 0, []), (42, .iconst 1, 1, 0, 0, 0, 0, 1, []), (43, .goto 4, 3, 47, 0, 0, 0, 0, []), (46, .iconst 0, 1, 0, 0, 0, 0, 0, []), (47, .ireturn, 1, 0, 0, 4, 0, 0, [])]
noncomputable def am_s179 : am_S := (yX6_suggestedTo, cX6_suggestedTo, 5, (some .int), 1, 1, 2, 6, 1679, 1678, 122, 175)
noncomputable def am_c179 : List (Nat × am_E) := [(0, .aload_n 0, 1, 0, 0, 0, 0, 0, []), (1, .iload_n 1, 1, 1, 0, 0, 0, 0, []), (2, .invokevirtual 454, 3, 170, 2, 1, 1680, 6, []), (5, .istore_n 2, 1, 2, 0, 0, 0, 0, []), (6, .iconst (-1), 1, 0, 0, 0, 0, (-1), []), (7, .istore_n 3, 1, 3, 0, 0, 0, 0, []),
  (8, .iconst 0, 1, 0, 0, 0, 0, 0, []), (9, .istore 4, 2, 4, 0, 0, 0, 0, []), (11, .iload 4, 2, 4, 0, 0, 0, 0, []), (13, .aload_n 0, 1, 0, 0, 0, 0, 0, []), (14, .invokevirtual 405, 3, 159, 1, 1, 1620, 6, []), (17, .if_icmp .ge 43, 3, 60, 0, 0, 0, 0, []),
  (20, .aload_n 0, 1, 0, 0, 0, 0, 0, []), (21, .iload_n 2, 1, 2, 0, 0, 0, 0, []), (22, .iload 4, 2, 4, 0, 0, 0, 0, []), (24, .invokevirtual 457, 3, 178, 3, 4, 1684, 6, []), (27, .ifCond .eq 27, 3, 54, 0, 0, 0, 0, []), (30, .iload_n 3, 1, 3, 0, 0, 0, 0, []),
  (31, .iconst (-1), 1, 0, 0, 0, 0, (-1), []), (32, .if_icmp .eq 19, 3, 51, 0, 0, 0, 0, []), (35, .aload_n 0, 1, 0, 0, 0, 0, 0, []), (36, .iload_n 2, 1, 2, 0, 0, 0, 0, []), (37, .iload 4, 2, 4, 0, 0, 0, 0, []), (39, .invokevirtual 461, 3, 174, 3, 1, 1700, 6, []),
  (42, .aload_n 0, 1, 0, 0, 0, 0, 0, []), (43, .iload_n 2, 1, 2, 0, 0, 0, 0, []), (44, .iload_n 3, 1, 3, 0, 0, 0, 0, []), (45, .invokevirtual 461, 3, 174, 3, 1, 1700, 6, []), (48, .if_icmp .le 6, 3, 54, 0, 0, 0, 0, []), (51, .iload 4, 2, 4, 0, 0, 0, 0, []),
  (53, .istore_n 3, 1, 3, 0, 0, 0, 0, []), (54, .iinc 4 1, 3, 4, 0, 0, 0, 1, []), (57, .goto (-46), 3, 11, 0, 0, 0, 0, []), (60, .iload_n 3, 1, 3, 0, 0, 0, 0, []), (61, .ireturn, 1, 0, 0, 1, 0, 0, [])]
noncomputable def am_s180 : am_S := (yX6_partSeen, cX6_partSeen, 6, none, 1, 0, 3, 6, 1760, 1759, 137, 175)
noncomputable def am_c180 : List (Nat × am_E) := [(0, .aload_n 0, 1, 0, 0, 0, 0, 0, []), (1, .getfield 139, 3, 6, 54, 3, 1119, 0, []), (4, .aload_n 0, 1, 0, 0, 0, 0, 0, []), (5, .iload_n 1, 1, 1, 0, 0, 0, 0, []), (6, .iload_n 2, 1, 2, 0, 0, 0, 0, []), (7, .invokevirtual 414, 3, 172, 3, 1, 1668, 6, []),
  (10, .dup2, 1, 0, 0, 0, 0, 0, []), (11, .iaload, 1, 0, 0, 0, 0, 0, []), (12, .iconst 1, 1, 0, 0, 0, 0, 1, []), (13, .iadd, 1, 0, 0, 0, 0, 0, []), (14, .iastore, 1, 0, 0, 0, 0, 0, []), (15, .iconst 0, 1, 0, 0, 0, 0, 0, []),
  (16, .istore_n 3, 1, 3, 0, 0, 0, 0, []), (17, .iload_n 3, 1, 3, 0, 0, 0, 0, []), (18, .aload_n 0, 1, 0, 0, 0, 0, 0, []), (19, .invokevirtual 402, 3, 158, 1, 1, 1628, 6, []), (22, .if_icmp .ge 101, 3, 123, 0, 0, 0, 0, []), (25, .aload_n 0, 1, 0, 0, 0, 0, 0, []),
  (26, .iload_n 2, 1, 2, 0, 0, 0, 0, []), (27, .iload_n 3, 1, 3, 0, 0, 0, 0, []), (28, .invokevirtual 417, 3, 165, 3, 1, 1632, 6, []), (31, .ifCond .ne 6, 3, 37, 0, 0, 0, 0, []), (34, .goto 83, 3, 117, 0, 0, 0, 0, []), (37, .aload_n 0, 1, 0, 0, 0, 0, 0, []),
  (38, .aload_n 0, 1, 0, 0, 0, 0, 0, []), (39, .getfield 139, 3, 6, 54, 3, 1119, 0, []), (42, .aload_n 0, 1, 0, 0, 0, 0, 0, []), (43, .iload_n 1, 1, 1, 0, 0, 0, 0, []), (44, .iload_n 3, 1, 3, 0, 0, 0, 0, []), (45, .invokevirtual 420, 3, 171, 3, 1, 1656, 6, []),
  (48, .iaload, 1, 0, 0, 0, 0, 0, []), (49, .putfield 464, 3, 6, 58, 1, 1123, 0, []), (52, .aload_n 0, 1, 0, 0, 0, 0, 0, []), (53, .aload_n 0, 1, 0, 0, 0, 0, 0, []), (54, .iload_n 2, 1, 2, 0, 0, 0, 0, []), (55, .iload_n 3, 1, 3, 0, 0, 0, 0, []),
  (56, .invokevirtual 417, 3, 165, 3, 1, 1632, 6, []), (59, .putfield 467, 3, 6, 59, 1, 1124, 0, []), (62, .aload_n 0, 1, 0, 0, 0, 0, 0, []), (63, .getfield 130, 3, 6, 48, 3, 1113, 0, []), (66, .iconst 3, 1, 0, 0, 0, 0, 3, []), (67, .iaload, 1, 0, 0, 0, 0, 0, []),
  (68, .iconst (-1), 1, 0, 0, 0, 0, (-1), []), (69, .if_icmp .ne 11, 3, 80, 0, 0, 0, 0, []), (72, .aload_n 0, 1, 0, 0, 0, 0, 0, []), (73, .getfield 467, 3, 6, 59, 1, 1124, 0, []), (76, .i2l, 1, 0, 0, 0, 0, 0, []), (77, .goto 9, 3, 86, 0, 0, 0, 0, []),
  (80, .aload_n 0, 1, 0, 0, 0, 0, 0, []), (81, .iconst 0, 1, 0, 0, 0, 0, 0, []), (82, .iload_n 2, 1, 2, 0, 0, 0, 0, []), (83, .invokevirtual 451, 3, 177, 3, 2, 1688, 6, []), (86, .lstore 4, 2, 4, 0, 0, 0, 0, []), (88, .lload 4, 2, 4, 0, 0, 0, 0, []),
  (90, .lconst 0, 1, 0, 0, 0, 0, 0, []), (91, .lcmp, 1, 0, 0, 0, 0, 0, []), (92, .ifCond .le 25, 3, 117, 0, 0, 0, 0, []), (95, .aload_n 0, 1, 0, 0, 0, 0, 0, []), (96, .getfield 139, 3, 6, 54, 3, 1119, 0, []), (99, .aload_n 0, 1, 0, 0, 0, 0, 0, []),
  (100, .iload_n 1, 1, 1, 0, 0, 0, 0, []), (101, .iload_n 3, 1, 3, 0, 0, 0, 0, []), (102, .invokevirtual 420, 3, 171, 3, 1, 1656, 6, []), (105, .aload_n 0, 1, 0, 0, 0, 0, 0, []), (106, .getfield 464, 3, 6, 58, 1, 1123, 0, []), (109, .i2l, 1, 0, 0, 0, 0, 0, []),
  (110, .lload 4, 2, 4, 0, 0, 0, 0, []), (112, .ladd, 1, 0, 0, 0, 0, 0, []), (113, .invokestatic 470, 3, 176, 1, 1, 1761, 0, []), (116, .iastore, 1, 0, 0, 0, 0, 0, []), (117, .iinc 3 1, 3, 3, 0, 0, 0, 1, []), (120, .goto (-103), 3, 17, 0, 0, 0, 0, []),
  (123, .return_, 1, 0, 0, 0, 0, 0, [])]
noncomputable def am_s181 : am_S := (yX6_isKept, cX6_isKept, 4, none, 1, 0, 3, 6, 1772, 1771, 139, 175)
noncomputable def am_c181 : List (Nat × am_E) := [(0, .aload_n 0, 1, 0, 0, 0, 0, 0, []), (1, .getfield 474, 3, 6, 60, 4, 1125, 0, []), (4, .ifCond .eq 4, 3, 8, 0, 0, 0, 0, []), (7, .return_, 1, 0, 0, 0, 0, 0, []), (8, .aload_n 0, 1, 0, 0, 0, 0, 0, []), (9, .getfield 139, 3, 6, 54, 3, 1119, 0, []),
  (12, .bipush 96, 2, 0, 0, 0, 0, 96, []), (14, .iaload, 1, 0, 0, 0, 0, 0, []), (15, .bipush 40, 2, 0, 0, 0, 0, 40, []), (17, .if_icmp .ne 36, 3, 53, 0, 0, 0, 0, []), (20, .bipush 97, 2, 0, 0, 0, 0, 97, []), (22, .istore_n 3, 1, 3, 0, 0, 0, 0, []),
  (23, .iload_n 3, 1, 3, 0, 0, 0, 0, []), (24, .sipush 253, 3, 0, 0, 0, 0, 253, []), (27, .if_icmp .ge 23, 3, 50, 0, 0, 0, 0, []), (30, .aload_n 0, 1, 0, 0, 0, 0, 0, []), (31, .getfield 139, 3, 6, 54, 3, 1119, 0, []), (34, .iload_n 3, 1, 3, 0, 0, 0, 0, []),
  (35, .aload_n 0, 1, 0, 0, 0, 0, 0, []), (36, .getfield 139, 3, 6, 54, 3, 1119, 0, []), (39, .iload_n 3, 1, 3, 0, 0, 0, 0, []), (40, .iconst 4, 1, 0, 0, 0, 0, 4, []), (41, .iadd, 1, 0, 0, 0, 0, 0, []), (42, .iaload, 1, 0, 0, 0, 0, 0, []),
  (43, .iastore, 1, 0, 0, 0, 0, 0, []), (44, .iinc 3 1, 3, 3, 0, 0, 0, 1, []), (47, .goto (-24), 3, 23, 0, 0, 0, 0, []), (50, .goto 14, 3, 64, 0, 0, 0, 0, []), (53, .aload_n 0, 1, 0, 0, 0, 0, 0, []), (54, .getfield 139, 3, 6, 54, 3, 1119, 0, []),
  (57, .bipush 96, 2, 0, 0, 0, 0, 96, []), (59, .dup2, 1, 0, 0, 0, 0, 0, []), (60, .iaload, 1, 0, 0, 0, 0, 0, []), (61, .iconst 1, 1, 0, 0, 0, 0, 1, []), (62, .iadd, 1, 0, 0, 0, 0, 0, []), (63, .iastore, 1, 0, 0, 0, 0, 0, []),
  (64, .bipush 97, 2, 0, 0, 0, 0, 97, []), (66, .iconst 4, 1, 0, 0, 0, 0, 4, []), (67, .aload_n 0, 1, 0, 0, 0, 0, 0, []), (68, .getfield 139, 3, 6, 54, 3, 1119, 0, []), (71, .bipush 96, 2, 0, 0, 0, 0, 96, []), (73, .iaload, 1, 0, 0, 0, 0, 0, []),
  (74, .imul, 1, 0, 0, 0, 0, 0, []), (75, .iadd, 1, 0, 0, 0, 0, 0, []), (76, .iconst 4, 1, 0, 0, 0, 0, 4, []), (77, .isub, 1, 0, 0, 0, 0, 0, []), (78, .istore_n 3, 1, 3, 0, 0, 0, 0, []), (79, .aload_n 0, 1, 0, 0, 0, 0, 0, []),
  (80, .getfield 139, 3, 6, 54, 3, 1119, 0, []), (83, .iload_n 3, 1, 3, 0, 0, 0, 0, []), (84, .aload_n 0, 1, 0, 0, 0, 0, 0, []), (85, .getfield 139, 3, 6, 54, 3, 1119, 0, []), (88, .iconst 0, 1, 0, 0, 0, 0, 0, []), (89, .iaload, 1, 0, 0, 0, 0, 0, []),
  (90, .iastore, 1, 0, 0, 0, 0, 0, []), (91, .aload_n 0, 1, 0, 0, 0, 0, 0, []), (92, .getfield 139, 3, 6, 54, 3, 1119, 0, []), (95, .iload_n 3, 1, 3, 0, 0, 0, 0, []), (96, .iconst 1, 1, 0, 0, 0, 0, 1, []), (97, .iadd, 1, 0, 0, 0, 0, 0, []),
  (98, .aload_n 0, 1, 0, 0, 0, 0, 0, []), (99, .getfield 139, 3, 6, 54, 3, 1119, 0, []), (102, .iconst 1, 1, 0, 0, 0, 0, 1, []), (103, .iaload, 1, 0, 0, 0, 0, 0, []), (104, .iastore, 1, 0, 0, 0, 0, 0, []), (105, .aload_n 0, 1, 0, 0, 0, 0, 0, []),
  (106, .getfield 139, 3, 6, 54, 3, 1119, 0, []), (109, .iload_n 3, 1, 3, 0, 0, 0, 0, []), (110, .iconst 2, 1, 0, 0, 0, 0, 2, []), (111, .iadd, 1, 0, 0, 0, 0, 0, []), (112, .iload_n 1, 1, 1, 0, 0, 0, 0, []), (113, .iastore, 1, 0, 0, 0, 0, 0, []),
  (114, .aload_n 0, 1, 0, 0, 0, 0, 0, []), (115, .getfield 139, 3, 6, 54, 3, 1119, 0, []), (118, .iload_n 3, 1, 3, 0, 0, 0, 0, []), (119, .iconst 3, 1, 0, 0, 0, 0, 3, []), (120, .iadd, 1, 0, 0, 0, 0, 0, []), (121, .iload_n 2, 1, 2, 0, 0, 0, 0, []),
  (122, .iastore, 1, 0, 0, 0, 0, 0, []), (123, .return_, 1, 0, 0, 0, 0, 0, [])]
noncomputable def am_s182 : am_S := (yX6_hasSeen, cX6_hasSeen, 2, none, 1, 0, 2, 6, 1768, 1767, 138, 175)
noncomputable def am_c182 : List (Nat × am_E) := [(0, .aload_n 0, 1, 0, 0, 0, 0, 0, []), (1, .getfield 139, 3, 6, 54, 3, 1119, 0, []), (4, .bipush 86, 2, 0, 0, 0, 0, 86, []), (6, .iconst 2, 1, 0, 0, 0, 0, 2, []), (7, .iload_n 1, 1, 1, 0, 0, 0, 0, []), (8, .imul, 1, 0, 0, 0, 0, 0, []),
  (9, .iadd, 1, 0, 0, 0, 0, 0, []), (10, .iconst 1, 1, 0, 0, 0, 0, 1, []), (11, .iadd, 1, 0, 0, 0, 0, 0, []), (12, .iaload, 1, 0, 0, 0, 0, 0, []), (13, .sipush 9999, 3, 0, 0, 0, 0, 9999, []), (16, .if_icmp .ge 20, 3, 36, 0, 0, 0, 0, []),
  (19, .aload_n 0, 1, 0, 0, 0, 0, 0, []), (20, .getfield 139, 3, 6, 54, 3, 1119, 0, []), (23, .bipush 86, 2, 0, 0, 0, 0, 86, []), (25, .iconst 2, 1, 0, 0, 0, 0, 2, []), (26, .iload_n 1, 1, 1, 0, 0, 0, 0, []), (27, .imul, 1, 0, 0, 0, 0, 0, []),
  (28, .iadd, 1, 0, 0, 0, 0, 0, []), (29, .iconst 1, 1, 0, 0, 0, 0, 1, []), (30, .iadd, 1, 0, 0, 0, 0, 0, []), (31, .dup2, 1, 0, 0, 0, 0, 0, []), (32, .iaload, 1, 0, 0, 0, 0, 0, []), (33, .iconst 1, 1, 0, 0, 0, 0, 1, []),
  (34, .iadd, 1, 0, 0, 0, 0, 0, []), (35, .iastore, 1, 0, 0, 0, 0, 0, []), (36, .return_, 1, 0, 0, 0, 0, 0, [])]
noncomputable def am_s183 : am_S := (yX6_pleasedBy, cX6_pleasedBy, 3, (some .int), 1, 1, 3, 6, 1756, 1755, 136, 175)
noncomputable def am_c183 : List (Nat × am_E) := [(0, .aload_n 0, 1, 0, 0, 0, 0, 0, []), (1, .iload_n 1, 1, 1, 0, 0, 0, 0, []), (2, .iload_n 2, 1, 2, 0, 0, 0, 0, []), (3, .invokevirtual 478, 3, 175, 3, 1, 1704, 6, []), (6, .aload_n 0, 1, 0, 0, 0, 0, 0, []), (7, .iload_n 1, 1, 1, 0, 0, 0, 0, []),
  (8, .invokevirtual 411, 3, 167, 2, 4, 1592, 6, []), (11, .ifCond .eq 13, 3, 24, 0, 0, 0, 0, []), (14, .aload_n 0, 1, 0, 0, 0, 0, 0, []), (15, .getfield 127, 3, 6, 47, 3, 1112, 0, []), (18, .bipush 6, 2, 0, 0, 0, 0, 6, []), (20, .iaload, 1, 0, 0, 0, 0, 0, []),
  (21, .goto 4, 3, 25, 0, 0, 0, 0, []), (24, .iconst 0, 1, 0, 0, 0, 0, 0, []), (25, .isub, 1, 0, 0, 0, 0, 0, []), (26, .ireturn, 1, 0, 0, 1, 0, 0, [])]
noncomputable def am_s184 : am_S := (yX6_fade, cX6_fade, 3, none, 1, 0, 1, 6, 1776, 1775, 140, 175)
noncomputable def am_c184 : List (Nat × am_E) := [(0, .aload_n 0, 1, 0, 0, 0, 0, 0, []), (1, .getfield 130, 3, 6, 48, 3, 1113, 0, []), (4, .iconst 4, 1, 0, 0, 0, 0, 4, []), (5, .iaload, 1, 0, 0, 0, 0, 0, []), (6, .iconst (-1), 1, 0, 0, 0, 0, (-1), []), (7, .if_icmp .ne 4, 3, 11, 0, 0, 0, 0, []),
  (10, .return_, 1, 0, 0, 0, 0, 0, []), (11, .iconst 0, 1, 0, 0, 0, 0, 0, []), (12, .istore_n 1, 1, 1, 0, 0, 0, 0, []), (13, .iload_n 1, 1, 1, 0, 0, 0, 0, []), (14, .aload_n 0, 1, 0, 0, 0, 0, 0, []), (15, .invokevirtual 408, 3, 160, 1, 1, 1576, 6, []),
  (18, .if_icmp .gt 60, 3, 78, 0, 0, 0, 0, []), (21, .iconst 0, 1, 0, 0, 0, 0, 0, []), (22, .istore_n 2, 1, 2, 0, 0, 0, 0, []), (23, .iload_n 2, 1, 2, 0, 0, 0, 0, []), (24, .aload_n 0, 1, 0, 0, 0, 0, 0, []), (25, .invokevirtual 402, 3, 158, 1, 1, 1628, 6, []),
  (28, .if_icmp .ge 44, 3, 72, 0, 0, 0, 0, []), (31, .aload_n 0, 1, 0, 0, 0, 0, 0, []), (32, .aload_n 0, 1, 0, 0, 0, 0, 0, []), (33, .getfield 139, 3, 6, 54, 3, 1119, 0, []), (36, .aload_n 0, 1, 0, 0, 0, 0, 0, []), (37, .iload_n 1, 1, 1, 0, 0, 0, 0, []),
  (38, .iload_n 2, 1, 2, 0, 0, 0, 0, []), (39, .invokevirtual 420, 3, 171, 3, 1, 1656, 6, []), (42, .iaload, 1, 0, 0, 0, 0, 0, []), (43, .putfield 464, 3, 6, 58, 1, 1123, 0, []), (46, .aload_n 0, 1, 0, 0, 0, 0, 0, []), (47, .getfield 139, 3, 6, 54, 3, 1119, 0, []),
  (50, .aload_n 0, 1, 0, 0, 0, 0, 0, []), (51, .iload_n 1, 1, 1, 0, 0, 0, 0, []), (52, .iload_n 2, 1, 2, 0, 0, 0, 0, []), (53, .invokevirtual 420, 3, 171, 3, 1, 1656, 6, []), (56, .aload_n 0, 1, 0, 0, 0, 0, 0, []), (57, .iconst 1, 1, 0, 0, 0, 0, 1, []),
  (58, .iconst 0, 1, 0, 0, 0, 0, 0, []), (59, .invokevirtual 451, 3, 177, 3, 2, 1688, 6, []), (62, .invokestatic 470, 3, 176, 1, 1, 1761, 0, []), (65, .iastore, 1, 0, 0, 0, 0, 0, []), (66, .iinc 2 1, 3, 2, 0, 0, 0, 1, []), (69, .goto (-46), 3, 23, 0, 0, 0, 0, []),
  (72, .iinc 1 1, 3, 1, 0, 0, 0, 1, []), (75, .goto (-62), 3, 13, 0, 0, 0, 0, []), (78, .return_, 1, 0, 0, 0, 0, 0, [])]
noncomputable def am_s185 : am_S := (yX6_isFree, cX6_isFree, 3, (some .boolean), 1, 4, 3, 6, 1752, 1751, 135, 175)
noncomputable def am_c185 : List (Nat × am_E) := [(0, .iload_n 2, 1, 2, 0, 0, 0, 0, []), (1, .i2l, 1, 0, 0, 0, 0, 0, []), (2, .aload_n 0, 1, 0, 0, 0, 0, 0, []), (3, .getfield 121, 3, 6, 44, 3, 1109, 0, []), (6, .bipush 10, 2, 0, 0, 0, 0, 10, []), (8, .iconst 2, 1, 0, 0, 0, 0, 2, []),
  (9, .iload_n 1, 1, 1, 0, 0, 0, 0, []), (10, .imul, 1, 0, 0, 0, 0, 0, []), (11, .iadd, 1, 0, 0, 0, 0, 0, []), (12, .iaload, 1, 0, 0, 0, 0, 0, []), (13, .i2l, 1, 0, 0, 0, 0, 0, []), (14, .aload_n 0, 1, 0, 0, 0, 0, 0, []),
  (15, .getfield 121, 3, 6, 44, 3, 1109, 0, []), (18, .bipush 11, 2, 0, 0, 0, 0, 11, []), (20, .iconst 2, 1, 0, 0, 0, 0, 2, []), (21, .iload_n 1, 1, 1, 0, 0, 0, 0, []), (22, .imul, 1, 0, 0, 0, 0, 0, []), (23, .iadd, 1, 0, 0, 0, 0, 0, []),
  (24, .iaload, 1, 0, 0, 0, 0, 0, []), (25, .i2l, 1, 0, 0, 0, 0, 0, []), (26, .invokestatic 282, 3, 127, 3, 4, 1456, 0, []), (29, .ireturn, 1, 0, 0, 4, 0, 0, [])]
noncomputable def am_s186 : am_S := (yX6_hourGoes, cX6_hourGoes, 4, (some .int), 1, 1, 1, 6, 1748, 1747, 134, 175)
noncomputable def am_c186_0 : List (Nat × am_E) := [(0, .iconst 0, 1, 0, 0, 0, 0, 0, []), (1, .istore_n 1, 1, 1, 0, 0, 0, 0, []), (2, .iconst 0, 1, 0, 0, 0, 0, 0, []), (3, .istore_n 2, 1, 2, 0, 0, 0, 0, []), (4, .iload_n 2, 1, 2, 0, 0, 0, 0, []), (5, .aload_n 0, 1, 0, 0, 0, 0, 0, []),
  (6, .invokevirtual 408, 3, 160, 1, 1, 1576, 6, []), (9, .if_icmp .ge 118, 3, 127, 0, 0, 0, 0, []), (12, .aload_n 0, 1, 0, 0, 0, 0, 0, []), (13, .getfield 145, 3, 6, 61, 3, 1126, 0, []), (16, .iload_n 2, 1, 2, 0, 0, 0, 0, []), (17, .iconst (-1), 1, 0, 0, 0, 0, (-1), []),
  (18, .iastore, 1, 0, 0, 0, 0, 0, []), (19, .aload_n 0, 1, 0, 0, 0, 0, 0, []), (20, .iload_n 2, 1, 2, 0, 0, 0, 0, []), (21, .aload_n 0, 1, 0, 0, 0, 0, 0, []), (22, .getfield 139, 3, 6, 54, 3, 1119, 0, []), (25, .iconst 1, 1, 0, 0, 0, 0, 1, []),
  (26, .iaload, 1, 0, 0, 0, 0, 0, []), (27, .invokevirtual 481, 3, 185, 3, 4, 1749, 6, []), (30, .ifCond .eq 11, 3, 41, 0, 0, 0, 0, []), (33, .aload_n 0, 1, 0, 0, 0, 0, 0, []), (34, .iload_n 2, 1, 2, 0, 0, 0, 0, []), (35, .invokevirtual 484, 3, 179, 2, 1, 1676, 6, []),
  (38, .goto 4, 3, 42, 0, 0, 0, 0, []), (41, .iconst (-1), 1, 0, 0, 0, 0, (-1), []), (42, .istore_n 3, 1, 3, 0, 0, 0, 0, []), (43, .iload_n 3, 1, 3, 0, 0, 0, 0, []), (44, .iconst (-1), 1, 0, 0, 0, 0, (-1), []), (45, .if_icmp .ne 6, 3, 51, 0, 0, 0, 0, []),
  (48, .goto 73, 3, 121, 0, 0, 0, 0, []), (51, .iload_n 1, 1, 1, 0, 0, 0, 0, []), (52, .aload_n 0, 1, 0, 0, 0, 0, 0, []), (53, .getfield 127, 3, 6, 47, 3, 1112, 0, []), (56, .iconst 4, 1, 0, 0, 0, 0, 4, []), (57, .iaload, 1, 0, 0, 0, 0, 0, []),
  (58, .if_icmp .ne 16, 3, 74, 0, 0, 0, 0, []), (61, .aload_n 0, 1, 0, 0, 0, 0, 0, []), (62, .getfield 151, 3, 6, 63, 3, 1128, 0, []), (65, .iload_n 2, 1, 2, 0, 0, 0, 0, []), (66, .dup2, 1, 0, 0, 0, 0, 0, []), (67, .iaload, 1, 0, 0, 0, 0, 0, []),
  (68, .iconst 1, 1, 0, 0, 0, 0, 1, []), (69, .iadd, 1, 0, 0, 0, 0, 0, []), (70, .iastore, 1, 0, 0, 0, 0, 0, []), (71, .goto 50, 3, 121, 0, 0, 0, 0, []), (74, .aload_n 0, 1, 0, 0, 0, 0, 0, []), (75, .getfield 145, 3, 6, 61, 3, 1126, 0, []),
  (78, .iload_n 2, 1, 2, 0, 0, 0, 0, []), (79, .iload_n 3, 1, 3, 0, 0, 0, 0, []), (80, .iastore, 1, 0, 0, 0, 0, 0, []), (81, .iinc 1 1, 3, 1, 0, 0, 0, 1, []), (84, .aload_n 0, 1, 0, 0, 0, 0, 0, []), (85, .getfield 148, 3, 6, 62, 3, 1127, 0, []),
  (88, .iload_n 2, 1, 2, 0, 0, 0, 0, []), (89, .dup2, 1, 0, 0, 0, 0, 0, []), (90, .laload, 1, 0, 0, 0, 0, 0, []), (91, .aload_n 0, 1, 0, 0, 0, 0, 0, []), (92, .iload_n 2, 1, 2, 0, 0, 0, 0, []), (93, .iload_n 3, 1, 3, 0, 0, 0, 0, []),
  (94, .invokevirtual 487, 3, 183, 3, 1, 1753, 6, []), (97, .i2l, 1, 0, 0, 0, 0, 0, []), (98, .ladd, 1, 0, 0, 0, 0, 0, []), (99, .lastore, 1, 0, 0, 0, 0, 0, []), (100, .aload_n 0, 1, 0, 0, 0, 0, 0, []), (101, .aload_n 0, 1, 0, 0, 0, 0, 0, []),
  (102, .iload_n 2, 1, 2, 0, 0, 0, 0, []), (103, .invokevirtual 454, 3, 170, 2, 1, 1680, 6, []), (106, .iload_n 3, 1, 3, 0, 0, 0, 0, []), (107, .invokevirtual 490, 3, 180, 3, 0, 1757, 6, []), (110, .aload_n 0, 1, 0, 0, 0, 0, 0, []), (111, .iload_n 2, 1, 2, 0, 0, 0, 0, []),
  (112, .invokevirtual 493, 3, 182, 2, 0, 1765, 6, []), (115, .aload_n 0, 1, 0, 0, 0, 0, 0, []), (116, .iload_n 2, 1, 2, 0, 0, 0, 0, []), (117, .iload_n 3, 1, 3, 0, 0, 0, 0, []), (118, .invokevirtual 496, 3, 181, 3, 0, 1769, 6, []), (121, .iinc 2 1, 3, 2, 0, 0, 0, 1, []),
  (124, .goto (-120), 3, 4, 0, 0, 0, 0, []), (127, .aload_n 0, 1, 0, 0, 0, 0, 0, []), (128, .invokevirtual 499, 3, 184, 1, 0, 1773, 6, []), (131, .aload_n 0, 1, 0, 0, 0, 0, 0, []), (132, .getfield 139, 3, 6, 54, 3, 1119, 0, []), (135, .iconst 1, 1, 0, 0, 0, 0, 1, []),
  (136, .dup2, 1, 0, 0, 0, 0, 0, []), (137, .iaload, 1, 0, 0, 0, 0, 0, []), (138, .iconst 1, 1, 0, 0, 0, 0, 1, []), (139, .iadd, 1, 0, 0, 0, 0, 0, []), (140, .iastore, 1, 0, 0, 0, 0, 0, []), (141, .aload_n 0, 1, 0, 0, 0, 0, 0, []),
  (142, .getfield 139, 3, 6, 54, 3, 1119, 0, []), (145, .iconst 1, 1, 0, 0, 0, 0, 1, []), (146, .iaload, 1, 0, 0, 0, 0, 0, []), (147, .bipush 24, 2, 0, 0, 0, 0, 24, []), (149, .if_icmp .ne 20, 3, 169, 0, 0, 0, 0, []), (152, .aload_n 0, 1, 0, 0, 0, 0, 0, []),
  (153, .getfield 139, 3, 6, 54, 3, 1119, 0, []), (156, .iconst 1, 1, 0, 0, 0, 0, 1, []), (157, .iconst 0, 1, 0, 0, 0, 0, 0, []), (158, .iastore, 1, 0, 0, 0, 0, 0, [])]
noncomputable def am_c186_1 : List (Nat × am_E) := [(159, .aload_n 0, 1, 0, 0, 0, 0, 0, []), (160, .getfield 139, 3, 6, 54, 3, 1119, 0, []), (163, .iconst 0, 1, 0, 0, 0, 0, 0, []), (164, .dup2, 1, 0, 0, 0, 0, 0, []), (165, .iaload, 1, 0, 0, 0, 0, 0, []), (166, .iconst 1, 1, 0, 0, 0, 0, 1, []),
  (167, .iadd, 1, 0, 0, 0, 0, 0, []), (168, .iastore, 1, 0, 0, 0, 0, 0, []), (169, .iload_n 1, 1, 1, 0, 0, 0, 0, []), (170, .ireturn, 1, 0, 0, 1, 0, 0, [])]
noncomputable def am_c186 : List (Nat × am_E) := am_c186_0 ++ (am_c186_1)
noncomputable def am_s187 : am_S := (yX6_hoursGo, cX6_hoursGo, 4, (some .int), 1, 1, 2, 6, 1744, 1743, 133, 175)
noncomputable def am_c187 : List (Nat × am_E) := [(0, .iconst 0, 1, 0, 0, 0, 0, 0, []), (1, .istore_n 2, 1, 2, 0, 0, 0, 0, []), (2, .iconst 0, 1, 0, 0, 0, 0, 0, []), (3, .istore_n 3, 1, 3, 0, 0, 0, 0, []), (4, .iload_n 3, 1, 3, 0, 0, 0, 0, []), (5, .iconst 5, 1, 0, 0, 0, 0, 5, []),
  (6, .if_icmp .ge 23, 3, 29, 0, 0, 0, 0, []), (9, .aload_n 0, 1, 0, 0, 0, 0, 0, []), (10, .getfield 148, 3, 6, 62, 3, 1127, 0, []), (13, .iload_n 3, 1, 3, 0, 0, 0, 0, []), (14, .lconst 0, 1, 0, 0, 0, 0, 0, []), (15, .lastore, 1, 0, 0, 0, 0, 0, []),
  (16, .aload_n 0, 1, 0, 0, 0, 0, 0, []), (17, .getfield 151, 3, 6, 63, 3, 1128, 0, []), (20, .iload_n 3, 1, 3, 0, 0, 0, 0, []), (21, .iconst 0, 1, 0, 0, 0, 0, 0, []), (22, .iastore, 1, 0, 0, 0, 0, 0, []), (23, .iinc 3 1, 3, 3, 0, 0, 0, 1, []),
  (26, .goto (-22), 3, 4, 0, 0, 0, 0, []), (29, .iconst 0, 1, 0, 0, 0, 0, 0, []), (30, .istore_n 3, 1, 3, 0, 0, 0, 0, []), (31, .iload_n 3, 1, 3, 0, 0, 0, 0, []), (32, .iload_n 1, 1, 1, 0, 0, 0, 0, []), (33, .if_icmp .ge 16, 3, 49, 0, 0, 0, 0, []),
  (36, .iload_n 2, 1, 2, 0, 0, 0, 0, []), (37, .aload_n 0, 1, 0, 0, 0, 0, 0, []), (38, .invokevirtual 502, 3, 186, 1, 1, 1745, 6, []), (41, .iadd, 1, 0, 0, 0, 0, 0, []), (42, .istore_n 2, 1, 2, 0, 0, 0, 0, []), (43, .iinc 3 1, 3, 3, 0, 0, 0, 1, []),
  (46, .goto (-15), 3, 31, 0, 0, 0, 0, []), (49, .iload_n 2, 1, 2, 0, 0, 0, 0, []), (50, .ireturn, 1, 0, 0, 1, 0, 0, [])]
noncomputable def am_s188 : am_S := (yX6_putsAside, cX6_putsAside, 2, none, 1, 0, 1, 6, 1740, 1739, 132, 175)
noncomputable def am_c188 : List (Nat × am_E) := [(0, .aload_n 0, 1, 0, 0, 0, 0, 0, []), (1, .iconst 1, 1, 0, 0, 0, 0, 1, []), (2, .putfield 474, 3, 6, 60, 4, 1125, 0, []), (5, .iconst 0, 1, 0, 0, 0, 0, 0, []), (6, .istore_n 1, 1, 1, 0, 0, 0, 0, []), (7, .iload_n 1, 1, 1, 0, 0, 0, 0, []),
  (8, .bipush 96, 2, 0, 0, 0, 0, 96, []), (10, .if_icmp .ge 21, 3, 31, 0, 0, 0, 0, []), (13, .aload_n 0, 1, 0, 0, 0, 0, 0, []), (14, .getfield 142, 3, 6, 55, 3, 1120, 0, []), (17, .iload_n 1, 1, 1, 0, 0, 0, 0, []), (18, .aload_n 0, 1, 0, 0, 0, 0, 0, []),
  (19, .getfield 139, 3, 6, 54, 3, 1119, 0, []), (22, .iload_n 1, 1, 1, 0, 0, 0, 0, []), (23, .iaload, 1, 0, 0, 0, 0, 0, []), (24, .iastore, 1, 0, 0, 0, 0, 0, []), (25, .iinc 1 1, 3, 1, 0, 0, 0, 1, []), (28, .goto (-21), 3, 7, 0, 0, 0, 0, []),
  (31, .return_, 1, 0, 0, 0, 0, 0, [])]
noncomputable def am_s189 : am_S := (yX6_triesAnew, cX6_triesAnew, 2, none, 1, 0, 1, 6, 1784, 1783, 142, 175)
noncomputable def am_c189 : List (Nat × am_E) := [(0, .iconst 0, 1, 0, 0, 0, 0, 0, []), (1, .istore_n 1, 1, 1, 0, 0, 0, 0, []), (2, .iload_n 1, 1, 1, 0, 0, 0, 0, []), (3, .bipush 96, 2, 0, 0, 0, 0, 96, []), (5, .if_icmp .ge 21, 3, 26, 0, 0, 0, 0, []), (8, .aload_n 0, 1, 0, 0, 0, 0, 0, []),
  (9, .getfield 139, 3, 6, 54, 3, 1119, 0, []), (12, .iload_n 1, 1, 1, 0, 0, 0, 0, []), (13, .aload_n 0, 1, 0, 0, 0, 0, 0, []), (14, .getfield 142, 3, 6, 55, 3, 1120, 0, []), (17, .iload_n 1, 1, 1, 0, 0, 0, 0, []), (18, .iaload, 1, 0, 0, 0, 0, 0, []),
  (19, .iastore, 1, 0, 0, 0, 0, 0, []), (20, .iinc 1 1, 3, 1, 0, 0, 0, 1, []), (23, .goto (-21), 3, 2, 0, 0, 0, 0, []), (26, .return_, 1, 0, 0, 0, 0, 0, [])]
noncomputable def am_s190 : am_S := (yX6_takesBack, cX6_takesBack, 1, none, 1, 0, 1, 6, 1780, 1779, 141, 175)
noncomputable def am_c190 : List (Nat × am_E) := [(0, .aload_n 0, 1, 0, 0, 0, 0, 0, []), (1, .invokevirtual 505, 3, 189, 1, 0, 1781, 6, []), (4, .aload_n 0, 1, 0, 0, 0, 0, 0, []), (5, .iconst 0, 1, 0, 0, 0, 0, 0, []), (6, .putfield 474, 3, 6, 60, 4, 1125, 0, []), (9, .return_, 1, 0, 0, 0, 0, 0, [])]
noncomputable def am_s191 : am_S := (yX6_isAhead, cX6_isAhead, 4, (some .boolean), 1, 4, 4, 6, 1735, 1734, 131, 175)
noncomputable def am_c191 : List (Nat × am_E) := [(0, .iload_n 1, 1, 1, 0, 0, 0, 0, []), (1, .i2l, 1, 0, 0, 0, 0, 0, []), (2, .iload_n 2, 1, 2, 0, 0, 0, 0, []), (3, .i2l, 1, 0, 0, 0, 0, 0, []), (4, .iload_n 3, 1, 3, 0, 0, 0, 0, []), (5, .i2l, 1, 0, 0, 0, 0, 0, []),
  (6, .invokestatic 282, 3, 127, 3, 4, 1456, 0, []), (9, .ifCond .eq 31, 3, 40, 0, 0, 0, 0, []), (12, .bipush 24, 2, 0, 0, 0, 0, 24, []), (14, .aload_n 0, 1, 0, 0, 0, 0, 0, []), (15, .getfield 139, 3, 6, 54, 3, 1119, 0, []), (18, .iconst 0, 1, 0, 0, 0, 0, 0, []),
  (19, .iaload, 1, 0, 0, 0, 0, 0, []), (20, .imul, 1, 0, 0, 0, 0, 0, []), (21, .aload_n 0, 1, 0, 0, 0, 0, 0, []), (22, .getfield 139, 3, 6, 54, 3, 1119, 0, []), (25, .iconst 1, 1, 0, 0, 0, 0, 1, []), (26, .iaload, 1, 0, 0, 0, 0, 0, []),
  (27, .iadd, 1, 0, 0, 0, 0, 0, []), (28, .iload_n 1, 1, 1, 0, 0, 0, 0, []), (29, .iadd, 1, 0, 0, 0, 0, 0, []), (30, .sipush 23999, 3, 0, 0, 0, 0, 23999, []), (33, .if_icmp .gt 7, 3, 40, 0, 0, 0, 0, []), (36, .iconst 1, 1, 0, 0, 0, 0, 1, []),
  (37, .goto 4, 3, 41, 0, 0, 0, 0, []), (40, .iconst 0, 1, 0, 0, 0, 0, 0, []), (41, .ireturn, 1, 0, 0, 4, 0, 0, [])]
noncomputable def am_s192 : am_S := (yX6_bits, cX6_bits, 3, (some .int), 0, 1, 1, 6, 1598, 1597, 0, 175)
noncomputable def am_c192 : List (Nat × am_E) := [(0, .iconst 0, 1, 0, 0, 0, 0, 0, []), (1, .istore_n 1, 1, 1, 0, 0, 0, 0, []), (2, .iload_n 0, 1, 0, 0, 0, 0, 0, []), (3, .istore_n 2, 1, 2, 0, 0, 0, 0, []), (4, .iload_n 2, 1, 2, 0, 0, 0, 0, []), (5, .ifCond .eq 15, 3, 20, 0, 0, 0, 0, []),
  (8, .iinc 1 1, 3, 1, 0, 0, 0, 1, []), (11, .iload_n 2, 1, 2, 0, 0, 0, 0, []), (12, .iload_n 2, 1, 2, 0, 0, 0, 0, []), (13, .iconst 1, 1, 0, 0, 0, 0, 1, []), (14, .isub, 1, 0, 0, 0, 0, 0, []), (15, .iand, 1, 0, 0, 0, 0, 0, []),
  (16, .istore_n 2, 1, 2, 0, 0, 0, 0, []), (17, .goto (-13), 3, 4, 0, 0, 0, 0, []), (20, .iload_n 1, 1, 1, 0, 0, 0, 0, []), (21, .ireturn, 1, 0, 0, 1, 0, 0, [])]
noncomputable def am_s193 : am_S := (yX6_hoursOf, cX6_hoursOf, 2, (some .int), 1, 1, 2, 6, 1606, 1605, 110, 175)
noncomputable def am_c193 : List (Nat × am_E) := [(0, .aload_n 0, 1, 0, 0, 0, 0, 0, []), (1, .getfield 139, 3, 6, 54, 3, 1119, 0, []), (4, .bipush 86, 2, 0, 0, 0, 0, 86, []), (6, .iconst 2, 1, 0, 0, 0, 0, 2, []), (7, .iload_n 1, 1, 1, 0, 0, 0, 0, []), (8, .imul, 1, 0, 0, 0, 0, 0, []),
  (9, .iadd, 1, 0, 0, 0, 0, 0, []), (10, .iconst 1, 1, 0, 0, 0, 0, 1, []), (11, .iadd, 1, 0, 0, 0, 0, 0, []), (12, .iaload, 1, 0, 0, 0, 0, 0, []), (13, .ireturn, 1, 0, 0, 1, 0, 0, [])]
noncomputable def am_s194 : am_S := (yX6_hoursAll, cX6_hoursAll, 3, (some .int), 1, 1, 1, 6, 1602, 1601, 109, 175)
noncomputable def am_c194 : List (Nat × am_E) := [(0, .iconst 0, 1, 0, 0, 0, 0, 0, []), (1, .istore_n 1, 1, 1, 0, 0, 0, 0, []), (2, .iconst 0, 1, 0, 0, 0, 0, 0, []), (3, .istore_n 2, 1, 2, 0, 0, 0, 0, []), (4, .iload_n 2, 1, 2, 0, 0, 0, 0, []), (5, .aload_n 0, 1, 0, 0, 0, 0, 0, []),
  (6, .invokevirtual 408, 3, 160, 1, 1, 1576, 6, []), (9, .if_icmp .ge 17, 3, 26, 0, 0, 0, 0, []), (12, .iload_n 1, 1, 1, 0, 0, 0, 0, []), (13, .aload_n 0, 1, 0, 0, 0, 0, 0, []), (14, .iload_n 2, 1, 2, 0, 0, 0, 0, []), (15, .invokevirtual 508, 3, 193, 2, 1, 1603, 6, []),
  (18, .iadd, 1, 0, 0, 0, 0, 0, []), (19, .istore_n 1, 1, 1, 0, 0, 0, 0, []), (20, .iinc 2 1, 3, 2, 0, 0, 0, 1, []), (23, .goto (-19), 3, 4, 0, 0, 0, 0, []), (26, .iload_n 1, 1, 1, 0, 0, 0, 0, []), (27, .ireturn, 1, 0, 0, 1, 0, 0, [])]
noncomputable def am_s195 : am_S := (yX6_has, cX6_has, 2, (some .int), 1, 1, 2, 6, 1587, 1585, 1586, 175)
noncomputable def am_c195 : List (Nat × am_E) := [(0, .iload_n 1, 1, 1, 0, 0, 0, 0, []), (1, .tableswitch 115 0 10 #[59, 59, 59, 68, 75, 75, 84, 92, 97, 105, 110], 59, 116, 0, 0, 0, 0, [(0, 60), (1, 60), (2, 60), (3, 69), (4, 76), (5, 76), (6, 85), (7, 93), (8, 98), (9, 106), (10, 111)]), (60, .aload_n 0, 1, 0, 0, 0, 0, 0, []), (61, .getfield 108, 3, 6, 40, 3, 1105, 0, []), (64, .iconst 3, 1, 0, 0, 0, 0, 3, []), (65, .iload_n 1, 1, 1, 0, 0, 0, 0, []),
  (66, .iadd, 1, 0, 0, 0, 0, 0, []), (67, .iaload, 1, 0, 0, 0, 0, 0, []), (68, .ireturn, 1, 0, 0, 1, 0, 0, []), (69, .aload_n 0, 1, 0, 0, 0, 0, 0, []), (70, .getfield 127, 3, 6, 47, 3, 1112, 0, []), (73, .iconst 4, 1, 0, 0, 0, 0, 4, []),
  (74, .iaload, 1, 0, 0, 0, 0, 0, []), (75, .ireturn, 1, 0, 0, 1, 0, 0, []), (76, .aload_n 0, 1, 0, 0, 0, 0, 0, []), (77, .getfield 139, 3, 6, 54, 3, 1119, 0, []), (80, .iload_n 1, 1, 1, 0, 0, 0, 0, []), (81, .iconst 4, 1, 0, 0, 0, 0, 4, []),
  (82, .isub, 1, 0, 0, 0, 0, 0, []), (83, .iaload, 1, 0, 0, 0, 0, 0, []), (84, .ireturn, 1, 0, 0, 1, 0, 0, []), (85, .aload_n 0, 1, 0, 0, 0, 0, 0, []), (86, .invokevirtual 511, 3, 169, 1, 1, 1588, 6, []), (89, .invokestatic 514, 3, 192, 1, 1, 1596, 0, []),
  (92, .ireturn, 1, 0, 0, 1, 0, 0, []), (93, .aload_n 0, 1, 0, 0, 0, 0, 0, []), (94, .invokevirtual 517, 3, 194, 1, 1, 1599, 6, []), (97, .ireturn, 1, 0, 0, 1, 0, 0, []), (98, .aload_n 0, 1, 0, 0, 0, 0, 0, []), (99, .getfield 139, 3, 6, 54, 3, 1119, 0, []),
  (102, .bipush 96, 2, 0, 0, 0, 0, 96, []), (104, .iaload, 1, 0, 0, 0, 0, 0, []), (105, .ireturn, 1, 0, 0, 1, 0, 0, []), (106, .aload_n 0, 1, 0, 0, 0, 0, 0, []), (107, .getfield 399, 3, 6, 65, 1, 1130, 0, []), (110, .ireturn, 1, 0, 0, 1, 0, 0, []),
  (111, .aload_n 0, 1, 0, 0, 0, 0, 0, []), (112, .getfield 396, 3, 6, 68, 1, 1133, 0, []), (115, .ireturn, 1, 0, 0, 1, 0, 0, []), (116, .iconst (-1), 1, 0, 0, 0, 0, (-1), []), (117, .ireturn, 1, 0, 0, 1, 0, 0, [])]
noncomputable def am_s196 : am_S := (yX6_letter, cX6_letter, 9, (some .int), 1, 1, 4, 6, 1610, 1608, 1609, 175)
noncomputable def am_c196 : List (Nat × am_E) := [(0, .iload_n 1, 1, 1, 0, 0, 0, 0, []), (1, .i2l, 1, 0, 0, 0, 0, 0, []), (2, .lconst 0, 1, 0, 0, 0, 0, 0, []), (3, .ldc2_w 520, 3, 0, 0, 0, 1611, 2, []), (6, .invokestatic 282, 3, 127, 3, 4, 1456, 0, []), (9, .ifCond .eq 35, 3, 44, 0, 0, 0, 0, []),
  (12, .iload_n 2, 1, 2, 0, 0, 0, 0, []), (13, .i2l, 1, 0, 0, 0, 0, 0, []), (14, .lconst 0, 1, 0, 0, 0, 0, 0, []), (15, .aload_n 0, 1, 0, 0, 0, 0, 0, []), (16, .getfield 108, 3, 6, 40, 3, 1105, 0, []), (19, .iconst 3, 1, 0, 0, 0, 0, 3, []),
  (20, .iload_n 1, 1, 1, 0, 0, 0, 0, []), (21, .iadd, 1, 0, 0, 0, 0, 0, []), (22, .iaload, 1, 0, 0, 0, 0, 0, []), (23, .iconst 1, 1, 0, 0, 0, 0, 1, []), (24, .isub, 1, 0, 0, 0, 0, 0, []), (25, .i2l, 1, 0, 0, 0, 0, 0, []),
  (26, .invokestatic 282, 3, 127, 3, 4, 1456, 0, []), (29, .ifCond .eq 15, 3, 44, 0, 0, 0, 0, []), (32, .iload_n 3, 1, 3, 0, 0, 0, 0, []), (33, .i2l, 1, 0, 0, 0, 0, 0, []), (34, .lconst 0, 1, 0, 0, 0, 0, 0, []), (35, .ldc2_w 302, 3, 0, 0, 0, 1516, 5, []),
  (38, .invokestatic 282, 3, 127, 3, 4, 1456, 0, []), (41, .ifCond .ne 5, 3, 46, 0, 0, 0, 0, []), (44, .iconst (-1), 1, 0, 0, 0, 0, (-1), []), (45, .ireturn, 1, 0, 0, 1, 0, 0, []), (46, .aload_n 0, 1, 0, 0, 0, 0, 0, []), (47, .getfield 111, 3, 6, 41, 3, 1106, 0, []),
  (50, .bipush 24, 2, 0, 0, 0, 0, 24, []), (52, .bipush 8, 2, 0, 0, 0, 0, 8, []), (54, .iload_n 1, 1, 1, 0, 0, 0, 0, []), (55, .imul, 1, 0, 0, 0, 0, 0, []), (56, .iadd, 1, 0, 0, 0, 0, 0, []), (57, .iload_n 2, 1, 2, 0, 0, 0, 0, []),
  (58, .iadd, 1, 0, 0, 0, 0, 0, []), (59, .laload, 1, 0, 0, 0, 0, 0, []), (60, .lstore 4, 2, 4, 0, 0, 0, 0, []), (62, .iconst 0, 1, 0, 0, 0, 0, 0, []), (63, .istore 6, 2, 6, 0, 0, 0, 0, []), (65, .lload 4, 2, 4, 0, 0, 0, 0, []),
  (67, .lstore 7, 2, 7, 0, 0, 0, 0, []), (69, .lload 7, 2, 7, 0, 0, 0, 0, []), (71, .lconst 0, 1, 0, 0, 0, 0, 0, []), (72, .lcmp, 1, 0, 0, 0, 0, 0, []), (73, .ifCond .le 17, 3, 90, 0, 0, 0, 0, []), (76, .iinc 6 1, 3, 6, 0, 0, 0, 1, []),
  (79, .lload 7, 2, 7, 0, 0, 0, 0, []), (81, .ldc2_w 293, 3, 0, 0, 0, 1431, 27, []), (84, .ldiv, 1, 0, 0, 0, 0, 0, []), (85, .lstore 7, 2, 7, 0, 0, 0, 0, []), (87, .goto (-18), 3, 69, 0, 0, 0, 0, []), (90, .iload_n 3, 1, 3, 0, 0, 0, 0, []),
  (91, .iload 6, 2, 6, 0, 0, 0, 0, []), (93, .if_icmp .lt 5, 3, 98, 0, 0, 0, 0, []), (96, .iconst 0, 1, 0, 0, 0, 0, 0, []), (97, .ireturn, 1, 0, 0, 1, 0, 0, []), (98, .iload 6, 2, 6, 0, 0, 0, 0, []), (100, .iconst 1, 1, 0, 0, 0, 0, 1, []),
  (101, .isub, 1, 0, 0, 0, 0, 0, []), (102, .istore 7, 2, 7, 0, 0, 0, 0, []), (104, .iload 7, 2, 7, 0, 0, 0, 0, []), (106, .iload_n 3, 1, 3, 0, 0, 0, 0, []), (107, .if_icmp .le 17, 3, 124, 0, 0, 0, 0, []), (110, .lload 4, 2, 4, 0, 0, 0, 0, []),
  (112, .ldc2_w 293, 3, 0, 0, 0, 1431, 27, []), (115, .ldiv, 1, 0, 0, 0, 0, 0, []), (116, .lstore 4, 2, 4, 0, 0, 0, 0, []), (118, .iinc 7 (-1), 3, 7, 0, 0, 0, (-1), []), (121, .goto (-17), 3, 104, 0, 0, 0, 0, []), (124, .lload 4, 2, 4, 0, 0, 0, 0, []),
  (126, .ldc2_w 293, 3, 0, 0, 0, 1431, 27, []), (129, .lrem, 1, 0, 0, 0, 0, 0, []), (130, .l2i, 1, 0, 0, 0, 0, 0, []), (131, .ireturn, 1, 0, 0, 1, 0, 0, [])]
noncomputable def am_s197 : am_S := (yX6_film, cX6_film, 3, (some .int), 1, 1, 3, 6, 1615, 1613, 1614, 175)
noncomputable def am_c197 : List (Nat × am_E) := [(0, .aload_n 0, 1, 0, 0, 0, 0, 0, []), (1, .iload_n 1, 1, 1, 0, 0, 0, 0, []), (2, .invokevirtual 522, 3, 162, 2, 4, 1616, 6, []), (5, .ifCond .ne 5, 3, 10, 0, 0, 0, 0, []), (8, .iconst (-1), 1, 0, 0, 0, 0, (-1), []), (9, .ireturn, 1, 0, 0, 1, 0, 0, []),
  (10, .iload_n 2, 1, 2, 0, 0, 0, 0, []), (11, .bipush 10, 2, 0, 0, 0, 0, 10, []), (13, .if_icmp .lt 24, 3, 37, 0, 0, 0, 0, []), (16, .aload_n 0, 1, 0, 0, 0, 0, 0, []), (17, .iload_n 2, 1, 2, 0, 0, 0, 0, []), (18, .bipush 10, 2, 0, 0, 0, 0, 10, []),
  (20, .isub, 1, 0, 0, 0, 0, 0, []), (21, .invokevirtual 525, 3, 161, 2, 4, 1624, 6, []), (24, .ifCond .eq 13, 3, 37, 0, 0, 0, 0, []), (27, .aload_n 0, 1, 0, 0, 0, 0, 0, []), (28, .iload_n 1, 1, 1, 0, 0, 0, 0, []), (29, .iload_n 2, 1, 2, 0, 0, 0, 0, []),
  (30, .bipush 10, 2, 0, 0, 0, 0, 10, []), (32, .isub, 1, 0, 0, 0, 0, 0, []), (33, .invokevirtual 417, 3, 165, 3, 1, 1632, 6, []), (36, .ireturn, 1, 0, 0, 1, 0, 0, []), (37, .iload_n 2, 1, 2, 0, 0, 0, 0, []), (38, .ifCond .ne 11, 3, 49, 0, 0, 0, 0, []),
  (41, .aload_n 0, 1, 0, 0, 0, 0, 0, []), (42, .iload_n 1, 1, 1, 0, 0, 0, 0, []), (43, .invokevirtual 445, 3, 164, 2, 1, 1636, 6, []), (46, .goto 4, 3, 50, 0, 0, 0, 0, []), (49, .iconst (-1), 1, 0, 0, 0, 0, (-1), []), (50, .ireturn, 1, 0, 0, 1, 0, 0, [])]
noncomputable def am_s198 : am_S := (yX6_person, cX6_person, 3, (some .int), 1, 1, 3, 6, 1643, 1641, 1642, 175)
noncomputable def am_c198 : List (Nat × am_E) := [(0, .aload_n 0, 1, 0, 0, 0, 0, 0, []), (1, .iload_n 1, 1, 1, 0, 0, 0, 0, []), (2, .invokevirtual 528, 3, 163, 2, 4, 1644, 6, []), (5, .ifCond .ne 5, 3, 10, 0, 0, 0, 0, []), (8, .iconst (-1), 1, 0, 0, 0, 0, (-1), []), (9, .ireturn, 1, 0, 0, 1, 0, 0, []),
  (10, .iload_n 2, 1, 2, 0, 0, 0, 0, []), (11, .bipush 10, 2, 0, 0, 0, 0, 10, []), (13, .if_icmp .lt 24, 3, 37, 0, 0, 0, 0, []), (16, .aload_n 0, 1, 0, 0, 0, 0, 0, []), (17, .iload_n 2, 1, 2, 0, 0, 0, 0, []), (18, .bipush 10, 2, 0, 0, 0, 0, 10, []),
  (20, .isub, 1, 0, 0, 0, 0, 0, []), (21, .invokevirtual 525, 3, 161, 2, 4, 1624, 6, []), (24, .ifCond .eq 13, 3, 37, 0, 0, 0, 0, []), (27, .aload_n 0, 1, 0, 0, 0, 0, 0, []), (28, .iload_n 1, 1, 1, 0, 0, 0, 0, []), (29, .iload_n 2, 1, 2, 0, 0, 0, 0, []),
  (30, .bipush 10, 2, 0, 0, 0, 0, 10, []), (32, .isub, 1, 0, 0, 0, 0, 0, []), (33, .invokevirtual 423, 3, 166, 3, 1, 1648, 6, []), (36, .ireturn, 1, 0, 0, 1, 0, 0, []), (37, .iload_n 2, 1, 2, 0, 0, 0, 0, []), (38, .tableswitch 64 0 3 #[30, 30, 44, 58], 30, 102, 0, 0, 0, 0, [(0, 68), (1, 68), (2, 82), (3, 96)]),
  (68, .aload_n 0, 1, 0, 0, 0, 0, 0, []), (69, .getfield 121, 3, 6, 44, 3, 1109, 0, []), (72, .bipush 10, 2, 0, 0, 0, 0, 10, []), (74, .iconst 2, 1, 0, 0, 0, 0, 2, []), (75, .iload_n 1, 1, 1, 0, 0, 0, 0, []), (76, .imul, 1, 0, 0, 0, 0, 0, []),
  (77, .iadd, 1, 0, 0, 0, 0, 0, []), (78, .iload_n 2, 1, 2, 0, 0, 0, 0, []), (79, .iadd, 1, 0, 0, 0, 0, 0, []), (80, .iaload, 1, 0, 0, 0, 0, 0, []), (81, .ireturn, 1, 0, 0, 1, 0, 0, []), (82, .aload_n 0, 1, 0, 0, 0, 0, 0, []),
  (83, .iload_n 1, 1, 1, 0, 0, 0, 0, []), (84, .invokevirtual 411, 3, 167, 2, 4, 1592, 6, []), (87, .ifCond .eq 7, 3, 94, 0, 0, 0, 0, []), (90, .iconst 1, 1, 0, 0, 0, 0, 1, []), (91, .goto 4, 3, 95, 0, 0, 0, 0, []), (94, .iconst 0, 1, 0, 0, 0, 0, 0, []),
  (95, .ireturn, 1, 0, 0, 1, 0, 0, []), (96, .aload_n 0, 1, 0, 0, 0, 0, 0, []), (97, .iload_n 1, 1, 1, 0, 0, 0, 0, []), (98, .invokevirtual 508, 3, 193, 2, 1, 1603, 6, []), (101, .ireturn, 1, 0, 0, 1, 0, 0, []), (102, .iconst (-1), 1, 0, 0, 0, 0, (-1), []),
  (103, .ireturn, 1, 0, 0, 1, 0, 0, [])]
noncomputable def am_s199 : am_S := (yX6_taste, cX6_taste, 3, (some .int), 1, 1, 3, 6, 1655, 1653, 1654, 175)
noncomputable def am_c199 : List (Nat × am_E) := [(0, .iload_n 1, 1, 1, 0, 0, 0, 0, []), (1, .iconst (-1), 1, 0, 0, 0, 0, (-1), []), (2, .if_icmp .eq 11, 3, 13, 0, 0, 0, 0, []), (5, .aload_n 0, 1, 0, 0, 0, 0, 0, []), (6, .iload_n 1, 1, 1, 0, 0, 0, 0, []), (7, .invokevirtual 528, 3, 163, 2, 4, 1644, 6, []),
  (10, .ifCond .eq 11, 3, 21, 0, 0, 0, 0, []), (13, .aload_n 0, 1, 0, 0, 0, 0, 0, []), (14, .iload_n 2, 1, 2, 0, 0, 0, 0, []), (15, .invokevirtual 525, 3, 161, 2, 4, 1624, 6, []), (18, .ifCond .ne 7, 3, 25, 0, 0, 0, 0, []), (21, .iconst (-1), 1, 0, 0, 0, 0, (-1), []),
  (22, .goto 16, 3, 38, 0, 0, 0, 0, []), (25, .aload_n 0, 1, 0, 0, 0, 0, 0, []), (26, .getfield 139, 3, 6, 54, 3, 1119, 0, []), (29, .aload_n 0, 1, 0, 0, 0, 0, 0, []), (30, .iconst 1, 1, 0, 0, 0, 0, 1, []), (31, .iload_n 1, 1, 1, 0, 0, 0, 0, []),
  (32, .iadd, 1, 0, 0, 0, 0, 0, []), (33, .iload_n 2, 1, 2, 0, 0, 0, 0, []), (34, .invokevirtual 420, 3, 171, 3, 1, 1656, 6, []), (37, .iaload, 1, 0, 0, 0, 0, 0, []), (38, .ireturn, 1, 0, 0, 1, 0, 0, [])]
noncomputable def am_s200 : am_S := (yX6_seen, cX6_seen, 3, (some .int), 1, 1, 3, 6, 1663, 1661, 1662, 175)
noncomputable def am_c200 : List (Nat × am_E) := [(0, .iload_n 1, 1, 1, 0, 0, 0, 0, []), (1, .iconst (-1), 1, 0, 0, 0, 0, (-1), []), (2, .if_icmp .eq 11, 3, 13, 0, 0, 0, 0, []), (5, .aload_n 0, 1, 0, 0, 0, 0, 0, []), (6, .iload_n 1, 1, 1, 0, 0, 0, 0, []), (7, .invokevirtual 528, 3, 163, 2, 4, 1644, 6, []),
  (10, .ifCond .eq 11, 3, 21, 0, 0, 0, 0, []), (13, .aload_n 0, 1, 0, 0, 0, 0, 0, []), (14, .iload_n 2, 1, 2, 0, 0, 0, 0, []), (15, .invokevirtual 522, 3, 162, 2, 4, 1616, 6, []), (18, .ifCond .ne 7, 3, 25, 0, 0, 0, 0, []), (21, .iconst (-1), 1, 0, 0, 0, 0, (-1), []),
  (22, .goto 11, 3, 33, 0, 0, 0, 0, []), (25, .aload_n 0, 1, 0, 0, 0, 0, 0, []), (26, .iconst 1, 1, 0, 0, 0, 0, 1, []), (27, .iload_n 1, 1, 1, 0, 0, 0, 0, []), (28, .iadd, 1, 0, 0, 0, 0, 0, []), (29, .iload_n 2, 1, 2, 0, 0, 0, 0, []),
  (30, .invokevirtual 442, 3, 173, 3, 1, 1664, 6, []), (33, .ireturn, 1, 0, 0, 1, 0, 0, [])]
noncomputable def am_s201 : am_S := (yX6_suggest, cX6_suggest, 2, (some .int), 1, 1, 2, 6, 1675, 1673, 1674, 175)
noncomputable def am_c201 : List (Nat × am_E) := [(0, .aload_n 0, 1, 0, 0, 0, 0, 0, []), (1, .iload_n 1, 1, 1, 0, 0, 0, 0, []), (2, .invokevirtual 528, 3, 163, 2, 4, 1644, 6, []), (5, .ifCond .eq 11, 3, 16, 0, 0, 0, 0, []), (8, .aload_n 0, 1, 0, 0, 0, 0, 0, []), (9, .iload_n 1, 1, 1, 0, 0, 0, 0, []),
  (10, .invokevirtual 484, 3, 179, 2, 1, 1676, 6, []), (13, .goto 4, 3, 17, 0, 0, 0, 0, []), (16, .iconst (-1), 1, 0, 0, 0, 0, (-1), []), (17, .ireturn, 1, 0, 0, 1, 0, 0, [])]
noncomputable def am_s202 : am_S := (yX6_worth, cX6_worth, 3, (some .int), 1, 1, 3, 6, 1723, 1721, 1722, 175)
noncomputable def am_c202 : List (Nat × am_E) := [(0, .aload_n 0, 1, 0, 0, 0, 0, 0, []), (1, .iload_n 1, 1, 1, 0, 0, 0, 0, []), (2, .invokevirtual 528, 3, 163, 2, 4, 1644, 6, []), (5, .ifCond .eq 20, 3, 25, 0, 0, 0, 0, []), (8, .aload_n 0, 1, 0, 0, 0, 0, 0, []), (9, .iload_n 2, 1, 2, 0, 0, 0, 0, []),
  (10, .invokevirtual 522, 3, 162, 2, 4, 1616, 6, []), (13, .ifCond .eq 12, 3, 25, 0, 0, 0, 0, []), (16, .aload_n 0, 1, 0, 0, 0, 0, 0, []), (17, .iload_n 1, 1, 1, 0, 0, 0, 0, []), (18, .iload_n 2, 1, 2, 0, 0, 0, 0, []), (19, .invokevirtual 478, 3, 175, 3, 1, 1704, 6, []),
  (22, .goto 4, 3, 26, 0, 0, 0, 0, []), (25, .iconst (-1), 1, 0, 0, 0, 0, (-1), []), (26, .ireturn, 1, 0, 0, 1, 0, 0, [])]
noncomputable def am_s203 : am_S := (yX6_kept, cX6_kept, 3, (some .int), 1, 1, 3, 6, 1727, 1725, 1726, 175)
noncomputable def am_c203 : List (Nat × am_E) := [(0, .iload_n 1, 1, 1, 0, 0, 0, 0, []), (1, .i2l, 1, 0, 0, 0, 0, 0, []), (2, .lconst 0, 1, 0, 0, 0, 0, 0, []), (3, .aload_n 0, 1, 0, 0, 0, 0, 0, []), (4, .getfield 139, 3, 6, 54, 3, 1119, 0, []), (7, .bipush 96, 2, 0, 0, 0, 0, 96, []),
  (9, .iaload, 1, 0, 0, 0, 0, 0, []), (10, .iconst 1, 1, 0, 0, 0, 0, 1, []), (11, .isub, 1, 0, 0, 0, 0, 0, []), (12, .i2l, 1, 0, 0, 0, 0, 0, []), (13, .invokestatic 282, 3, 127, 3, 4, 1456, 0, []), (16, .ifCond .eq 31, 3, 47, 0, 0, 0, 0, []),
  (19, .iload_n 2, 1, 2, 0, 0, 0, 0, []), (20, .i2l, 1, 0, 0, 0, 0, 0, []), (21, .lconst 0, 1, 0, 0, 0, 0, 0, []), (22, .ldc2_w 300, 3, 0, 0, 0, 1515, 3, []), (25, .invokestatic 282, 3, 127, 3, 4, 1456, 0, []), (28, .ifCond .eq 19, 3, 47, 0, 0, 0, 0, []),
  (31, .aload_n 0, 1, 0, 0, 0, 0, 0, []), (32, .getfield 139, 3, 6, 54, 3, 1119, 0, []), (35, .bipush 97, 2, 0, 0, 0, 0, 97, []), (37, .iconst 4, 1, 0, 0, 0, 0, 4, []), (38, .iload_n 1, 1, 1, 0, 0, 0, 0, []), (39, .imul, 1, 0, 0, 0, 0, 0, []),
  (40, .iadd, 1, 0, 0, 0, 0, 0, []), (41, .iload_n 2, 1, 2, 0, 0, 0, 0, []), (42, .iadd, 1, 0, 0, 0, 0, 0, []), (43, .iaload, 1, 0, 0, 0, 0, 0, []), (44, .goto 4, 3, 48, 0, 0, 0, 0, []), (47, .iconst (-1), 1, 0, 0, 0, 0, (-1), []),
  (48, .ireturn, 1, 0, 0, 1, 0, 0, [])]
noncomputable def am_s204 : am_S := (yX6_pleased, cX6_pleased, 3, (some .long), 1, 2, 3, 6, 1731, 1729, 1730, 175)
noncomputable def am_c204 : List (Nat × am_E) := [(0, .aload_n 0, 1, 0, 0, 0, 0, 0, []), (1, .iload_n 1, 1, 1, 0, 0, 0, 0, []), (2, .invokevirtual 528, 3, 163, 2, 4, 1644, 6, []), (5, .ifCond .eq 14, 3, 19, 0, 0, 0, 0, []), (8, .aload_n 0, 1, 0, 0, 0, 0, 0, []), (9, .iload_n 2, 1, 2, 0, 0, 0, 0, []),
  (10, .iconst 0, 1, 0, 0, 0, 0, 0, []), (11, .bipush 72, 2, 0, 0, 0, 0, 72, []), (13, .invokevirtual 531, 3, 191, 4, 4, 1732, 6, []), (16, .ifCond .ne 7, 3, 23, 0, 0, 0, 0, []), (19, .ldc2_w 534, 3, 0, 0, 0, 1736, (-1000000000000000), []), (22, .lreturn, 1, 0, 0, 2, 0, 0, []),
  (23, .aload_n 0, 1, 0, 0, 0, 0, 0, []), (24, .invokevirtual 536, 3, 188, 1, 0, 1737, 6, []), (27, .aload_n 0, 1, 0, 0, 0, 0, 0, []), (28, .iload_n 2, 1, 2, 0, 0, 0, 0, []), (29, .invokevirtual 539, 3, 187, 2, 1, 1741, 6, []), (32, .pop, 1, 0, 0, 0, 0, 0, []),
  (33, .aload_n 0, 1, 0, 0, 0, 0, 0, []), (34, .invokevirtual 542, 3, 190, 1, 0, 1777, 6, []), (37, .aload_n 0, 1, 0, 0, 0, 0, 0, []), (38, .getfield 148, 3, 6, 62, 3, 1127, 0, []), (41, .iload_n 1, 1, 1, 0, 0, 0, 0, []), (42, .laload, 1, 0, 0, 0, 0, 0, []),
  (43, .lreturn, 1, 0, 0, 2, 0, 0, [])]
noncomputable def am_s205 : am_S := (yX6_refused, cX6_refused, 3, (some .int), 1, 1, 3, 6, 1788, 1786, 1787, 175)
noncomputable def am_c205 : List (Nat × am_E) := [(0, .aload_n 0, 1, 0, 0, 0, 0, 0, []), (1, .iload_n 1, 1, 1, 0, 0, 0, 0, []), (2, .invokevirtual 528, 3, 163, 2, 4, 1644, 6, []), (5, .ifCond .eq 14, 3, 19, 0, 0, 0, 0, []), (8, .aload_n 0, 1, 0, 0, 0, 0, 0, []), (9, .iload_n 2, 1, 2, 0, 0, 0, 0, []),
  (10, .iconst 0, 1, 0, 0, 0, 0, 0, []), (11, .bipush 72, 2, 0, 0, 0, 0, 72, []), (13, .invokevirtual 531, 3, 191, 4, 4, 1732, 6, []), (16, .ifCond .ne 5, 3, 21, 0, 0, 0, 0, []), (19, .iconst (-1), 1, 0, 0, 0, 0, (-1), []), (20, .ireturn, 1, 0, 0, 1, 0, 0, []),
  (21, .aload_n 0, 1, 0, 0, 0, 0, 0, []), (22, .invokevirtual 536, 3, 188, 1, 0, 1737, 6, []), (25, .aload_n 0, 1, 0, 0, 0, 0, 0, []), (26, .iload_n 2, 1, 2, 0, 0, 0, 0, []), (27, .invokevirtual 539, 3, 187, 2, 1, 1741, 6, []), (30, .pop, 1, 0, 0, 0, 0, 0, []),
  (31, .aload_n 0, 1, 0, 0, 0, 0, 0, []), (32, .invokevirtual 542, 3, 190, 1, 0, 1777, 6, []), (35, .aload_n 0, 1, 0, 0, 0, 0, 0, []), (36, .getfield 151, 3, 6, 63, 3, 1128, 0, []), (39, .iload_n 1, 1, 1, 0, 0, 0, 0, []), (40, .iaload, 1, 0, 0, 0, 0, 0, []),
  (41, .ireturn, 1, 0, 0, 1, 0, 0, [])]
noncomputable def am_s206 : am_S := (yX6_pleasureBy, cX6_pleasureBy, 4, (some .long), 1, 2, 4, 6, 1796, 1795, 143, 175)
noncomputable def am_c206 : List (Nat × am_E) := [(0, .aload_n 0, 1, 0, 0, 0, 0, 0, []), (1, .iload_n 1, 1, 1, 0, 0, 0, 0, []), (2, .invokevirtual 393, 3, 168, 2, 0, 1572, 6, []), (5, .aload_n 0, 1, 0, 0, 0, 0, 0, []), (6, .iload_n 3, 1, 3, 0, 0, 0, 0, []), (7, .invokevirtual 539, 3, 187, 2, 1, 1741, 6, []),
  (10, .pop, 1, 0, 0, 0, 0, 0, []), (11, .aload_n 0, 1, 0, 0, 0, 0, 0, []), (12, .invokevirtual 505, 3, 189, 1, 0, 1781, 6, []), (15, .aload_n 0, 1, 0, 0, 0, 0, 0, []), (16, .getfield 148, 3, 6, 62, 3, 1127, 0, []), (19, .iload_n 2, 1, 2, 0, 0, 0, 0, []),
  (20, .laload, 1, 0, 0, 0, 0, 0, []), (21, .lreturn, 1, 0, 0, 2, 0, 0, [])]
noncomputable def am_s207 : am_S := (yX6_pressing, cX6_pressing, 8, (some .long), 1, 2, 3, 6, 1792, 1790, 1791, 175)
noncomputable def am_c207 : List (Nat × am_E) := [(0, .aload_n 0, 1, 0, 0, 0, 0, 0, []), (1, .iload_n 1, 1, 1, 0, 0, 0, 0, []), (2, .invokevirtual 528, 3, 163, 2, 4, 1644, 6, []), (5, .ifCond .eq 14, 3, 19, 0, 0, 0, 0, []), (8, .aload_n 0, 1, 0, 0, 0, 0, 0, []), (9, .iload_n 2, 1, 2, 0, 0, 0, 0, []),
  (10, .iconst 0, 1, 0, 0, 0, 0, 0, []), (11, .bipush 72, 2, 0, 0, 0, 0, 72, []), (13, .invokevirtual 531, 3, 191, 4, 4, 1732, 6, []), (16, .ifCond .ne 7, 3, 23, 0, 0, 0, 0, []), (19, .ldc2_w 534, 3, 0, 0, 0, 1736, (-1000000000000000), []), (22, .lreturn, 1, 0, 0, 2, 0, 0, []),
  (23, .aload_n 0, 1, 0, 0, 0, 0, 0, []), (24, .invokevirtual 511, 3, 169, 1, 1, 1588, 6, []), (27, .istore_n 3, 1, 3, 0, 0, 0, 0, []), (28, .aload_n 0, 1, 0, 0, 0, 0, 0, []), (29, .invokevirtual 536, 3, 188, 1, 0, 1737, 6, []), (32, .aload_n 0, 1, 0, 0, 0, 0, 0, []),
  (33, .iload_n 3, 1, 3, 0, 0, 0, 0, []), (34, .iconst 1, 1, 0, 0, 0, 0, 1, []), (35, .iload_n 1, 1, 1, 0, 0, 0, 0, []), (36, .ishl, 1, 0, 0, 0, 0, 0, []), (37, .ior, 1, 0, 0, 0, 0, 0, []), (38, .iload_n 1, 1, 1, 0, 0, 0, 0, []),
  (39, .iload_n 2, 1, 2, 0, 0, 0, 0, []), (40, .invokevirtual 545, 3, 206, 4, 2, 1793, 6, []), (43, .lstore 4, 2, 4, 0, 0, 0, 0, []), (45, .aload_n 0, 1, 0, 0, 0, 0, 0, []), (46, .iload_n 3, 1, 3, 0, 0, 0, 0, []), (47, .iconst 1, 1, 0, 0, 0, 0, 1, []),
  (48, .iload_n 1, 1, 1, 0, 0, 0, 0, []), (49, .ishl, 1, 0, 0, 0, 0, 0, []), (50, .iconst (-1), 1, 0, 0, 0, 0, (-1), []), (51, .ixor, 1, 0, 0, 0, 0, 0, []), (52, .iand, 1, 0, 0, 0, 0, 0, []), (53, .iload_n 1, 1, 1, 0, 0, 0, 0, []),
  (54, .iload_n 2, 1, 2, 0, 0, 0, 0, []), (55, .invokevirtual 545, 3, 206, 4, 2, 1793, 6, []), (58, .lstore 6, 2, 6, 0, 0, 0, 0, []), (60, .aload_n 0, 1, 0, 0, 0, 0, 0, []), (61, .invokevirtual 542, 3, 190, 1, 0, 1777, 6, []), (64, .lload 4, 2, 4, 0, 0, 0, 0, []),
  (66, .lload 6, 2, 6, 0, 0, 0, 0, []), (68, .lsub, 1, 0, 0, 0, 0, 0, []), (69, .lreturn, 1, 0, 0, 2, 0, 0, [])]
noncomputable def am_s208 : am_S := (yX6_isRest, cX6_isRest, 3, (some .boolean), 1, 4, 2, 6, 1804, 1803, 144, 175)
noncomputable def am_c208 : List (Nat × am_E) := [(0, .iconst 0, 1, 0, 0, 0, 0, 0, []), (1, .istore_n 2, 1, 2, 0, 0, 0, 0, []), (2, .iload_n 2, 1, 2, 0, 0, 0, 0, []), (3, .aload_n 0, 1, 0, 0, 0, 0, 0, []), (4, .invokevirtual 408, 3, 160, 1, 1, 1576, 6, []), (7, .if_icmp .ge 39, 3, 46, 0, 0, 0, 0, []),
  (10, .aload_n 0, 1, 0, 0, 0, 0, 0, []), (11, .getfield 154, 3, 6, 64, 3, 1129, 0, []), (14, .iconst 5, 1, 0, 0, 0, 0, 5, []), (15, .iload_n 1, 1, 1, 0, 0, 0, 0, []), (16, .iconst 1, 1, 0, 0, 0, 0, 1, []), (17, .iload_n 2, 1, 2, 0, 0, 0, 0, []),
  (18, .ishl, 1, 0, 0, 0, 0, 0, []), (19, .ixor, 1, 0, 0, 0, 0, 0, []), (20, .imul, 1, 0, 0, 0, 0, 0, []), (21, .iload_n 2, 1, 2, 0, 0, 0, 0, []), (22, .iadd, 1, 0, 0, 0, 0, 0, []), (23, .laload, 1, 0, 0, 0, 0, 0, []),
  (24, .aload_n 0, 1, 0, 0, 0, 0, 0, []), (25, .getfield 154, 3, 6, 64, 3, 1129, 0, []), (28, .iconst 5, 1, 0, 0, 0, 0, 5, []), (29, .iload_n 1, 1, 1, 0, 0, 0, 0, []), (30, .imul, 1, 0, 0, 0, 0, 0, []), (31, .iload_n 2, 1, 2, 0, 0, 0, 0, []),
  (32, .iadd, 1, 0, 0, 0, 0, 0, []), (33, .laload, 1, 0, 0, 0, 0, 0, []), (34, .lcmp, 1, 0, 0, 0, 0, 0, []), (35, .ifCond .le 5, 3, 40, 0, 0, 0, 0, []), (38, .iconst 0, 1, 0, 0, 0, 0, 0, []), (39, .ireturn, 1, 0, 0, 4, 0, 0, []),
  (40, .iinc 2 1, 3, 2, 0, 0, 0, 1, []), (43, .goto (-41), 3, 2, 0, 0, 0, 0, []), (46, .iconst 1, 1, 0, 0, 0, 0, 1, []), (47, .ireturn, 1, 0, 0, 4, 0, 0, [])]
noncomputable def am_s209 : am_S := (yX6_rest, cX6_rest, 5, (some .int), 1, 1, 2, 6, 1800, 1798, 1799, 175)
noncomputable def am_c209 : List (Nat × am_E) := [(0, .aload_n 0, 1, 0, 0, 0, 0, 0, []), (1, .iload_n 1, 1, 1, 0, 0, 0, 0, []), (2, .iconst 0, 1, 0, 0, 0, 0, 0, []), (3, .bipush 48, 2, 0, 0, 0, 0, 48, []), (5, .invokevirtual 531, 3, 191, 4, 4, 1732, 6, []), (8, .ifCond .ne 5, 3, 13, 0, 0, 0, 0, []),
  (11, .iconst (-1), 1, 0, 0, 0, 0, (-1), []), (12, .ireturn, 1, 0, 0, 1, 0, 0, []), (13, .iconst 1, 1, 0, 0, 0, 0, 1, []), (14, .aload_n 0, 1, 0, 0, 0, 0, 0, []), (15, .invokevirtual 408, 3, 160, 1, 1, 1576, 6, []), (18, .ishl, 1, 0, 0, 0, 0, 0, []),
  (19, .istore_n 2, 1, 2, 0, 0, 0, 0, []), (20, .aload_n 0, 1, 0, 0, 0, 0, 0, []), (21, .invokevirtual 536, 3, 188, 1, 0, 1737, 6, []), (24, .iconst 0, 1, 0, 0, 0, 0, 0, []), (25, .istore_n 3, 1, 3, 0, 0, 0, 0, []), (26, .iload_n 3, 1, 3, 0, 0, 0, 0, []),
  (27, .iload_n 2, 1, 2, 0, 0, 0, 0, []), (28, .if_icmp .ge 60, 3, 88, 0, 0, 0, 0, []), (31, .aload_n 0, 1, 0, 0, 0, 0, 0, []), (32, .iload_n 3, 1, 3, 0, 0, 0, 0, []), (33, .invokevirtual 393, 3, 168, 2, 0, 1572, 6, []), (36, .aload_n 0, 1, 0, 0, 0, 0, 0, []),
  (37, .iload_n 1, 1, 1, 0, 0, 0, 0, []), (38, .invokevirtual 539, 3, 187, 2, 1, 1741, 6, []), (41, .pop, 1, 0, 0, 0, 0, 0, []), (42, .aload_n 0, 1, 0, 0, 0, 0, 0, []), (43, .invokevirtual 505, 3, 189, 1, 0, 1781, 6, []), (46, .iconst 0, 1, 0, 0, 0, 0, 0, []),
  (47, .istore 4, 2, 4, 0, 0, 0, 0, []), (49, .iload 4, 2, 4, 0, 0, 0, 0, []), (51, .aload_n 0, 1, 0, 0, 0, 0, 0, []), (52, .invokevirtual 408, 3, 160, 1, 1, 1576, 6, []), (55, .if_icmp .ge 27, 3, 82, 0, 0, 0, 0, []), (58, .aload_n 0, 1, 0, 0, 0, 0, 0, []),
  (59, .getfield 154, 3, 6, 64, 3, 1129, 0, []), (62, .iconst 5, 1, 0, 0, 0, 0, 5, []), (63, .iload_n 3, 1, 3, 0, 0, 0, 0, []), (64, .imul, 1, 0, 0, 0, 0, 0, []), (65, .iload 4, 2, 4, 0, 0, 0, 0, []), (67, .iadd, 1, 0, 0, 0, 0, 0, []),
  (68, .aload_n 0, 1, 0, 0, 0, 0, 0, []), (69, .getfield 148, 3, 6, 62, 3, 1127, 0, []), (72, .iload 4, 2, 4, 0, 0, 0, 0, []), (74, .laload, 1, 0, 0, 0, 0, 0, []), (75, .lastore, 1, 0, 0, 0, 0, 0, []), (76, .iinc 4 1, 3, 4, 0, 0, 0, 1, []),
  (79, .goto (-30), 3, 49, 0, 0, 0, 0, []), (82, .iinc 3 1, 3, 3, 0, 0, 0, 1, []), (85, .goto (-59), 3, 26, 0, 0, 0, 0, []), (88, .aload_n 0, 1, 0, 0, 0, 0, 0, []), (89, .invokevirtual 542, 3, 190, 1, 0, 1777, 6, []), (92, .iconst (-1), 1, 0, 0, 0, 0, (-1), []),
  (93, .istore_n 3, 1, 3, 0, 0, 0, 0, []), (94, .iconst 0, 1, 0, 0, 0, 0, 0, []), (95, .istore 4, 2, 4, 0, 0, 0, 0, []), (97, .iload 4, 2, 4, 0, 0, 0, 0, []), (99, .iload_n 2, 1, 2, 0, 0, 0, 0, []), (100, .if_icmp .ge 38, 3, 138, 0, 0, 0, 0, []),
  (103, .iload_n 3, 1, 3, 0, 0, 0, 0, []), (104, .iconst (-1), 1, 0, 0, 0, 0, (-1), []), (105, .if_icmp .eq 15, 3, 120, 0, 0, 0, 0, []), (108, .iload 4, 2, 4, 0, 0, 0, 0, []), (110, .invokestatic 514, 3, 192, 1, 1, 1596, 0, []), (113, .iload_n 3, 1, 3, 0, 0, 0, 0, []),
  (114, .invokestatic 514, 3, 192, 1, 1, 1596, 0, []), (117, .if_icmp .ge 15, 3, 132, 0, 0, 0, 0, []), (120, .aload_n 0, 1, 0, 0, 0, 0, 0, []), (121, .iload 4, 2, 4, 0, 0, 0, 0, []), (123, .invokevirtual 549, 3, 208, 2, 4, 1801, 6, []), (126, .ifCond .eq 6, 3, 132, 0, 0, 0, 0, []),
  (129, .iload 4, 2, 4, 0, 0, 0, 0, []), (131, .istore_n 3, 1, 3, 0, 0, 0, 0, []), (132, .iinc 4 1, 3, 4, 0, 0, 0, 1, []), (135, .goto (-38), 3, 97, 0, 0, 0, 0, []), (138, .iload_n 3, 1, 3, 0, 0, 0, 0, []), (139, .ireturn, 1, 0, 0, 1, 0, 0, [])]
noncomputable def am_s210 : am_S := (yX6_gone, cX6_gone, 5, (some .int), 1, 1, 3, 6, 1808, 1806, 1807, 175)
noncomputable def am_c210 : List (Nat × am_E) := [(0, .aload_n 0, 1, 0, 0, 0, 0, 0, []), (1, .iload_n 1, 1, 1, 0, 0, 0, 0, []), (2, .invokevirtual 528, 3, 163, 2, 4, 1644, 6, []), (5, .ifCond .eq 11, 3, 16, 0, 0, 0, 0, []), (8, .aload_n 0, 1, 0, 0, 0, 0, 0, []), (9, .iload_n 2, 1, 2, 0, 0, 0, 0, []),
  (10, .invokevirtual 525, 3, 161, 2, 4, 1624, 6, []), (13, .ifCond .ne 5, 3, 18, 0, 0, 0, 0, []), (16, .iconst (-1), 1, 0, 0, 0, 0, (-1), []), (17, .ireturn, 1, 0, 0, 1, 0, 0, []), (18, .aload_n 0, 1, 0, 0, 0, 0, 0, []), (19, .invokevirtual 536, 3, 188, 1, 0, 1737, 6, []),
  (22, .iconst 0, 1, 0, 0, 0, 0, 0, []), (23, .istore_n 3, 1, 3, 0, 0, 0, 0, []), (24, .aload_n 0, 1, 0, 0, 0, 0, 0, []), (25, .getfield 139, 3, 6, 54, 3, 1119, 0, []), (28, .aload_n 0, 1, 0, 0, 0, 0, 0, []), (29, .aload_n 0, 1, 0, 0, 0, 0, 0, []),
  (30, .iload_n 1, 1, 1, 0, 0, 0, 0, []), (31, .invokevirtual 454, 3, 170, 2, 1, 1680, 6, []), (34, .iload_n 2, 1, 2, 0, 0, 0, 0, []), (35, .invokevirtual 420, 3, 171, 3, 1, 1656, 6, []), (38, .iaload, 1, 0, 0, 0, 0, 0, []), (39, .ifCond .le 30, 3, 69, 0, 0, 0, 0, []),
  (42, .iload_n 3, 1, 3, 0, 0, 0, 0, []), (43, .bipush 72, 2, 0, 0, 0, 0, 72, []), (45, .if_icmp .ge 24, 3, 69, 0, 0, 0, 0, []), (48, .aload_n 0, 1, 0, 0, 0, 0, 0, []), (49, .iconst 1, 1, 0, 0, 0, 0, 1, []), (50, .iconst 1, 1, 0, 0, 0, 0, 1, []),
  (51, .iconst 1, 1, 0, 0, 0, 0, 1, []), (52, .invokevirtual 531, 3, 191, 4, 4, 1732, 6, []), (55, .ifCond .eq 14, 3, 69, 0, 0, 0, 0, []), (58, .aload_n 0, 1, 0, 0, 0, 0, 0, []), (59, .invokevirtual 502, 3, 186, 1, 1, 1745, 6, []), (62, .pop, 1, 0, 0, 0, 0, 0, []),
  (63, .iinc 3 1, 3, 3, 0, 0, 0, 1, []), (66, .goto (-42), 3, 24, 0, 0, 0, 0, []), (69, .aload_n 0, 1, 0, 0, 0, 0, 0, []), (70, .getfield 139, 3, 6, 54, 3, 1119, 0, []), (73, .aload_n 0, 1, 0, 0, 0, 0, 0, []), (74, .aload_n 0, 1, 0, 0, 0, 0, 0, []),
  (75, .iload_n 1, 1, 1, 0, 0, 0, 0, []), (76, .invokevirtual 454, 3, 170, 2, 1, 1680, 6, []), (79, .iload_n 2, 1, 2, 0, 0, 0, 0, []), (80, .invokevirtual 420, 3, 171, 3, 1, 1656, 6, []), (83, .iaload, 1, 0, 0, 0, 0, 0, []), (84, .ifCond .ne 7, 3, 91, 0, 0, 0, 0, []),
  (87, .iconst 1, 1, 0, 0, 0, 0, 1, []), (88, .goto 4, 3, 92, 0, 0, 0, 0, []), (91, .iconst 0, 1, 0, 0, 0, 0, 0, []), (92, .istore 4, 2, 4, 0, 0, 0, 0, []), (94, .aload_n 0, 1, 0, 0, 0, 0, 0, []), (95, .invokevirtual 542, 3, 190, 1, 0, 1777, 6, []),
  (98, .iload 4, 2, 4, 0, 0, 0, 0, []), (100, .ifCond .eq 7, 3, 107, 0, 0, 0, 0, []), (103, .iload_n 3, 1, 3, 0, 0, 0, 0, []), (104, .goto 4, 3, 108, 0, 0, 0, 0, []), (107, .iconst (-1), 1, 0, 0, 0, 0, (-1), []), (108, .ireturn, 1, 0, 0, 1, 0, 0, [])]
noncomputable def am_s211 : am_S := (yX6_sow, cX6_sow, 8, (some .int), 1, 1, 3, 6, 1812, 1810, 1811, 175)
noncomputable def am_c211 : List (Nat × am_E) := [(0, .aload_n 0, 1, 0, 0, 0, 0, 0, []), (1, .iload_n 1, 1, 1, 0, 0, 0, 0, []), (2, .invokevirtual 528, 3, 163, 2, 4, 1644, 6, []), (5, .ifCond .eq 14, 3, 19, 0, 0, 0, 0, []), (8, .aload_n 0, 1, 0, 0, 0, 0, 0, []), (9, .iload_n 2, 1, 2, 0, 0, 0, 0, []),
  (10, .iconst 0, 1, 0, 0, 0, 0, 0, []), (11, .bipush 72, 2, 0, 0, 0, 0, 72, []), (13, .invokevirtual 531, 3, 191, 4, 4, 1732, 6, []), (16, .ifCond .ne 5, 3, 21, 0, 0, 0, 0, []), (19, .iconst (-1), 1, 0, 0, 0, 0, (-1), []), (20, .ireturn, 1, 0, 0, 1, 0, 0, []),
  (21, .aload_n 0, 1, 0, 0, 0, 0, 0, []), (22, .iload_n 1, 1, 1, 0, 0, 0, 0, []), (23, .invokevirtual 454, 3, 170, 2, 1, 1680, 6, []), (26, .istore_n 3, 1, 3, 0, 0, 0, 0, []), (27, .iconst (-1), 1, 0, 0, 0, 0, (-1), []), (28, .istore 4, 2, 4, 0, 0, 0, 0, []),
  (30, .lconst 0, 1, 0, 0, 0, 0, 0, []), (31, .lstore 5, 2, 5, 0, 0, 0, 0, []), (33, .aload_n 0, 1, 0, 0, 0, 0, 0, []), (34, .invokevirtual 536, 3, 188, 1, 0, 1737, 6, []), (37, .iconst 0, 1, 0, 0, 0, 0, 0, []), (38, .istore 7, 2, 7, 0, 0, 0, 0, []),
  (40, .iload 7, 2, 7, 0, 0, 0, 0, []), (42, .aload_n 0, 1, 0, 0, 0, 0, 0, []), (43, .invokevirtual 405, 3, 159, 1, 1, 1620, 6, []), (46, .if_icmp .ge 78, 3, 124, 0, 0, 0, 0, []), (49, .aload_n 0, 1, 0, 0, 0, 0, 0, []), (50, .iload_n 3, 1, 3, 0, 0, 0, 0, []),
  (51, .iload 7, 2, 7, 0, 0, 0, 0, []), (53, .invokevirtual 442, 3, 173, 3, 1, 1664, 6, []), (56, .aload_n 0, 1, 0, 0, 0, 0, 0, []), (57, .iload 7, 2, 7, 0, 0, 0, 0, []), (59, .invokevirtual 445, 3, 164, 2, 1, 1636, 6, []), (62, .if_icmp .ne 6, 3, 68, 0, 0, 0, 0, []),
  (65, .goto 53, 3, 118, 0, 0, 0, 0, []), (68, .aload_n 0, 1, 0, 0, 0, 0, 0, []), (69, .iload_n 3, 1, 3, 0, 0, 0, 0, []), (70, .iload 7, 2, 7, 0, 0, 0, 0, []), (72, .invokevirtual 490, 3, 180, 3, 0, 1757, 6, []), (75, .aload_n 0, 1, 0, 0, 0, 0, 0, []),
  (76, .iload_n 2, 1, 2, 0, 0, 0, 0, []), (77, .invokevirtual 539, 3, 187, 2, 1, 1741, 6, []), (80, .pop, 1, 0, 0, 0, 0, 0, []), (81, .aload_n 0, 1, 0, 0, 0, 0, 0, []), (82, .invokevirtual 505, 3, 189, 1, 0, 1781, 6, []), (85, .iload 4, 2, 4, 0, 0, 0, 0, []),
  (87, .iconst (-1), 1, 0, 0, 0, 0, (-1), []), (88, .if_icmp .eq 18, 3, 106, 0, 0, 0, 0, []), (91, .aload_n 0, 1, 0, 0, 0, 0, 0, []), (92, .getfield 148, 3, 6, 62, 3, 1127, 0, []), (95, .iload_n 1, 1, 1, 0, 0, 0, 0, []), (96, .laload, 1, 0, 0, 0, 0, 0, []),
  (97, .lload 5, 2, 5, 0, 0, 0, 0, []), (99, .lcmp, 1, 0, 0, 0, 0, 0, []), (100, .ifCond .gt 6, 3, 106, 0, 0, 0, 0, []), (103, .goto 15, 3, 118, 0, 0, 0, 0, []), (106, .iload 7, 2, 7, 0, 0, 0, 0, []), (108, .istore 4, 2, 4, 0, 0, 0, 0, []),
  (110, .aload_n 0, 1, 0, 0, 0, 0, 0, []), (111, .getfield 148, 3, 6, 62, 3, 1127, 0, []), (114, .iload_n 1, 1, 1, 0, 0, 0, 0, []), (115, .laload, 1, 0, 0, 0, 0, 0, []), (116, .lstore 5, 2, 5, 0, 0, 0, 0, []), (118, .iinc 7 1, 3, 7, 0, 0, 0, 1, []),
  (121, .goto (-81), 3, 40, 0, 0, 0, 0, []), (124, .aload_n 0, 1, 0, 0, 0, 0, 0, []), (125, .invokevirtual 542, 3, 190, 1, 0, 1777, 6, []), (128, .iload 4, 2, 4, 0, 0, 0, 0, []), (130, .ireturn, 1, 0, 0, 1, 0, 0, [])]
noncomputable def am_s212 : am_S := (yX6_who, cX6_who, 7, (some .int), 1, 1, 4, 6, 1816, 1814, 1815, 175)
noncomputable def am_c212 : List (Nat × am_E) := [(0, .aload_n 0, 1, 0, 0, 0, 0, 0, []), (1, .iload_n 1, 1, 1, 0, 0, 0, 0, []), (2, .invokevirtual 528, 3, 163, 2, 4, 1644, 6, []), (5, .ifCond .eq 23, 3, 28, 0, 0, 0, 0, []), (8, .aload_n 0, 1, 0, 0, 0, 0, 0, []), (9, .iload_n 2, 1, 2, 0, 0, 0, 0, []),
  (10, .invokevirtual 522, 3, 162, 2, 4, 1616, 6, []), (13, .ifCond .eq 15, 3, 28, 0, 0, 0, 0, []), (16, .iload_n 3, 1, 3, 0, 0, 0, 0, []), (17, .i2l, 1, 0, 0, 0, 0, 0, []), (18, .lconst 0, 1, 0, 0, 0, 0, 0, []), (19, .ldc2_w 552, 3, 0, 0, 0, 1817, 23, []),
  (22, .invokestatic 282, 3, 127, 3, 4, 1456, 0, []), (25, .ifCond .ne 5, 3, 30, 0, 0, 0, 0, []), (28, .iconst (-1), 1, 0, 0, 0, 0, (-1), []), (29, .ireturn, 1, 0, 0, 1, 0, 0, []), (30, .lconst 0, 1, 0, 0, 0, 0, 0, []), (31, .lstore 4, 2, 4, 0, 0, 0, 0, []),
  (33, .iconst 0, 1, 0, 0, 0, 0, 0, []), (34, .istore 6, 2, 6, 0, 0, 0, 0, []), (36, .iload 6, 2, 6, 0, 0, 0, 0, []), (38, .aload_n 0, 1, 0, 0, 0, 0, 0, []), (39, .invokevirtual 408, 3, 160, 1, 1, 1576, 6, []), (42, .if_icmp .ge 34, 3, 76, 0, 0, 0, 0, []),
  (45, .aload_n 0, 1, 0, 0, 0, 0, 0, []), (46, .iload 6, 2, 6, 0, 0, 0, 0, []), (48, .iload_n 3, 1, 3, 0, 0, 0, 0, []), (49, .invokevirtual 481, 3, 185, 3, 4, 1749, 6, []), (52, .ifCond .eq 18, 3, 70, 0, 0, 0, 0, []), (55, .lload 4, 2, 4, 0, 0, 0, 0, []),
  (57, .aload_n 0, 1, 0, 0, 0, 0, 0, []), (58, .iload 6, 2, 6, 0, 0, 0, 0, []), (60, .iload_n 2, 1, 2, 0, 0, 0, 0, []), (61, .invokevirtual 478, 3, 175, 3, 1, 1704, 6, []), (64, .iconst 1, 1, 0, 0, 0, 0, 1, []), (65, .iadd, 1, 0, 0, 0, 0, 0, []),
  (66, .i2l, 1, 0, 0, 0, 0, 0, []), (67, .ladd, 1, 0, 0, 0, 0, 0, []), (68, .lstore 4, 2, 4, 0, 0, 0, 0, []), (70, .iinc 6 1, 3, 6, 0, 0, 0, 1, []), (73, .goto (-37), 3, 36, 0, 0, 0, 0, []), (76, .lload 4, 2, 4, 0, 0, 0, 0, []),
  (78, .lconst 0, 1, 0, 0, 0, 0, 0, []), (79, .lcmp, 1, 0, 0, 0, 0, 0, []), (80, .ifCond .ne 5, 3, 85, 0, 0, 0, 0, []), (83, .iconst (-1), 1, 0, 0, 0, 0, (-1), []), (84, .ireturn, 1, 0, 0, 1, 0, 0, []), (85, .aload_n 0, 1, 0, 0, 0, 0, 0, []),
  (86, .iload_n 1, 1, 1, 0, 0, 0, 0, []), (87, .iload_n 3, 1, 3, 0, 0, 0, 0, []), (88, .invokevirtual 481, 3, 185, 3, 4, 1749, 6, []), (91, .ifCond .eq 23, 3, 114, 0, 0, 0, 0, []), (94, .ldc2_w 554, 3, 0, 0, 0, 1715, 1000000, []), (97, .aload_n 0, 1, 0, 0, 0, 0, 0, []),
  (98, .iload_n 1, 1, 1, 0, 0, 0, 0, []), (99, .iload_n 2, 1, 2, 0, 0, 0, 0, []), (100, .invokevirtual 478, 3, 175, 3, 1, 1704, 6, []), (103, .iconst 1, 1, 0, 0, 0, 0, 1, []), (104, .iadd, 1, 0, 0, 0, 0, 0, []), (105, .i2l, 1, 0, 0, 0, 0, 0, []),
  (106, .lmul, 1, 0, 0, 0, 0, 0, []), (107, .lload 4, 2, 4, 0, 0, 0, 0, []), (109, .ldiv, 1, 0, 0, 0, 0, 0, []), (110, .l2i, 1, 0, 0, 0, 0, 0, []), (111, .goto 4, 3, 115, 0, 0, 0, 0, []), (114, .iconst 0, 1, 0, 0, 0, 0, 0, []),
  (115, .ireturn, 1, 0, 0, 1, 0, 0, [])]
noncomputable def am_s213 : am_S := (yX6_firstOf, cX6_firstOf, 4, (some .int), 1, 1, 2, 6, 1829, 1828, 146, 175)
noncomputable def am_c213 : List (Nat × am_E) := [(0, .iconst 0, 1, 0, 0, 0, 0, 0, []), (1, .istore_n 2, 1, 2, 0, 0, 0, 0, []), (2, .iconst 1, 1, 0, 0, 0, 0, 1, []), (3, .istore_n 3, 1, 3, 0, 0, 0, 0, []), (4, .iload_n 3, 1, 3, 0, 0, 0, 0, []), (5, .aload_n 0, 1, 0, 0, 0, 0, 0, []),
  (6, .invokevirtual 405, 3, 159, 1, 1, 1620, 6, []), (9, .if_icmp .ge 26, 3, 35, 0, 0, 0, 0, []), (12, .aload_n 0, 1, 0, 0, 0, 0, 0, []), (13, .iload_n 1, 1, 1, 0, 0, 0, 0, []), (14, .iload_n 3, 1, 3, 0, 0, 0, 0, []), (15, .invokevirtual 478, 3, 175, 3, 1, 1704, 6, []),
  (18, .aload_n 0, 1, 0, 0, 0, 0, 0, []), (19, .iload_n 1, 1, 1, 0, 0, 0, 0, []), (20, .iload_n 2, 1, 2, 0, 0, 0, 0, []), (21, .invokevirtual 478, 3, 175, 3, 1, 1704, 6, []), (24, .if_icmp .le 5, 3, 29, 0, 0, 0, 0, []), (27, .iload_n 3, 1, 3, 0, 0, 0, 0, []),
  (28, .istore_n 2, 1, 2, 0, 0, 0, 0, []), (29, .iinc 3 1, 3, 3, 0, 0, 0, 1, []), (32, .goto (-28), 3, 4, 0, 0, 0, 0, []), (35, .iload_n 2, 1, 2, 0, 0, 0, 0, []), (36, .ireturn, 1, 0, 0, 1, 0, 0, [])]
noncomputable def am_s214 : am_S := (yX6_byRule, cX6_byRule, 9, (some .int), 1, 1, 4, 6, 1825, 1824, 145, 175)
noncomputable def am_c214 : List (Nat × am_E) := [(0, .iconst 0, 1, 0, 0, 0, 0, 0, []), (1, .istore 4, 2, 4, 0, 0, 0, 0, []), (3, .iconst (-1), 1, 0, 0, 0, 0, (-1), []), (4, .istore 5, 2, 5, 0, 0, 0, 0, []), (6, .iconst 0, 1, 0, 0, 0, 0, 0, []), (7, .istore 6, 2, 6, 0, 0, 0, 0, []),
  (9, .iconst 0, 1, 0, 0, 0, 0, 0, []), (10, .istore 7, 2, 7, 0, 0, 0, 0, []), (12, .iload 7, 2, 7, 0, 0, 0, 0, []), (14, .aload_n 0, 1, 0, 0, 0, 0, 0, []), (15, .invokevirtual 408, 3, 160, 1, 1, 1576, 6, []), (18, .if_icmp .ge 67, 3, 85, 0, 0, 0, 0, []),
  (21, .iload_n 1, 1, 1, 0, 0, 0, 0, []), (22, .iload 7, 2, 7, 0, 0, 0, 0, []), (24, .ishr, 1, 0, 0, 0, 0, 0, []), (25, .iconst 1, 1, 0, 0, 0, 0, 1, []), (26, .iand, 1, 0, 0, 0, 0, 0, []), (27, .ifCond .ne 6, 3, 33, 0, 0, 0, 0, []),
  (30, .goto 49, 3, 79, 0, 0, 0, 0, []), (33, .aload_n 0, 1, 0, 0, 0, 0, 0, []), (34, .iload 7, 2, 7, 0, 0, 0, 0, []), (36, .iload_n 2, 1, 2, 0, 0, 0, 0, []), (37, .invokevirtual 478, 3, 175, 3, 1, 1704, 6, []), (40, .istore 8, 2, 8, 0, 0, 0, 0, []),
  (42, .iload 4, 2, 4, 0, 0, 0, 0, []), (44, .iload 8, 2, 8, 0, 0, 0, 0, []), (46, .iadd, 1, 0, 0, 0, 0, 0, []), (47, .istore 4, 2, 4, 0, 0, 0, 0, []), (49, .iload 5, 2, 5, 0, 0, 0, 0, []), (51, .iconst (-1), 1, 0, 0, 0, 0, (-1), []),
  (52, .if_icmp .eq 10, 3, 62, 0, 0, 0, 0, []), (55, .iload 8, 2, 8, 0, 0, 0, 0, []), (57, .iload 5, 2, 5, 0, 0, 0, 0, []), (59, .if_icmp .ge 7, 3, 66, 0, 0, 0, 0, []), (62, .iload 8, 2, 8, 0, 0, 0, 0, []), (64, .istore 5, 2, 5, 0, 0, 0, 0, []),
  (66, .aload_n 0, 1, 0, 0, 0, 0, 0, []), (67, .iload 7, 2, 7, 0, 0, 0, 0, []), (69, .invokevirtual 556, 3, 213, 2, 1, 1826, 6, []), (72, .iload_n 2, 1, 2, 0, 0, 0, 0, []), (73, .if_icmp .ne 6, 3, 79, 0, 0, 0, 0, []), (76, .iinc 6 1, 3, 6, 0, 0, 0, 1, []),
  (79, .iinc 7 1, 3, 7, 0, 0, 0, 1, []), (82, .goto (-70), 3, 12, 0, 0, 0, 0, []), (85, .iload_n 3, 1, 3, 0, 0, 0, 0, []), (86, .ifCond .ne 8, 3, 94, 0, 0, 0, 0, []), (89, .iload 4, 2, 4, 0, 0, 0, 0, []), (91, .goto 15, 3, 106, 0, 0, 0, 0, []),
  (94, .iload_n 3, 1, 3, 0, 0, 0, 0, []), (95, .iconst 1, 1, 0, 0, 0, 0, 1, []), (96, .if_icmp .ne 8, 3, 104, 0, 0, 0, 0, []), (99, .iload 5, 2, 5, 0, 0, 0, 0, []), (101, .goto 5, 3, 106, 0, 0, 0, 0, []), (104, .iload 6, 2, 6, 0, 0, 0, 0, []),
  (106, .ireturn, 1, 0, 0, 1, 0, 0, [])]
noncomputable def am_s215 : am_S := (yX6_sofa, cX6_sofa, 5, (some .int), 1, 1, 3, 6, 1821, 1819, 1820, 175)
noncomputable def am_c215 : List (Nat × am_E) := [(0, .iload_n 1, 1, 1, 0, 0, 0, 0, []), (1, .i2l, 1, 0, 0, 0, 0, 0, []), (2, .lconst 1, 1, 0, 0, 0, 0, 1, []), (3, .iconst 1, 1, 0, 0, 0, 0, 1, []), (4, .aload_n 0, 1, 0, 0, 0, 0, 0, []), (5, .invokevirtual 408, 3, 160, 1, 1, 1576, 6, []),
  (8, .ishl, 1, 0, 0, 0, 0, 0, []), (9, .iconst 1, 1, 0, 0, 0, 0, 1, []), (10, .isub, 1, 0, 0, 0, 0, 0, []), (11, .i2l, 1, 0, 0, 0, 0, 0, []), (12, .invokestatic 282, 3, 127, 3, 4, 1456, 0, []), (15, .ifCond .eq 15, 3, 30, 0, 0, 0, 0, []),
  (18, .iload_n 2, 1, 2, 0, 0, 0, 0, []), (19, .i2l, 1, 0, 0, 0, 0, 0, []), (20, .lconst 0, 1, 0, 0, 0, 0, 0, []), (21, .ldc2_w 520, 3, 0, 0, 0, 1611, 2, []), (24, .invokestatic 282, 3, 127, 3, 4, 1456, 0, []), (27, .ifCond .ne 5, 3, 32, 0, 0, 0, 0, []),
  (30, .iconst (-1), 1, 0, 0, 0, 0, (-1), []), (31, .ireturn, 1, 0, 0, 1, 0, 0, []), (32, .iconst (-1), 1, 0, 0, 0, 0, (-1), []), (33, .istore_n 3, 1, 3, 0, 0, 0, 0, []), (34, .iconst 0, 1, 0, 0, 0, 0, 0, []), (35, .istore 4, 2, 4, 0, 0, 0, 0, []),
  (37, .iload 4, 2, 4, 0, 0, 0, 0, []), (39, .aload_n 0, 1, 0, 0, 0, 0, 0, []), (40, .invokevirtual 405, 3, 159, 1, 1, 1620, 6, []), (43, .if_icmp .ge 35, 3, 78, 0, 0, 0, 0, []), (46, .iload_n 3, 1, 3, 0, 0, 0, 0, []), (47, .iconst (-1), 1, 0, 0, 0, 0, (-1), []),
  (48, .if_icmp .eq 21, 3, 69, 0, 0, 0, 0, []), (51, .aload_n 0, 1, 0, 0, 0, 0, 0, []), (52, .iload_n 1, 1, 1, 0, 0, 0, 0, []), (53, .iload 4, 2, 4, 0, 0, 0, 0, []), (55, .iload_n 2, 1, 2, 0, 0, 0, 0, []), (56, .invokevirtual 559, 3, 214, 4, 1, 1822, 6, []),
  (59, .aload_n 0, 1, 0, 0, 0, 0, 0, []), (60, .iload_n 1, 1, 1, 0, 0, 0, 0, []), (61, .iload_n 3, 1, 3, 0, 0, 0, 0, []), (62, .iload_n 2, 1, 2, 0, 0, 0, 0, []), (63, .invokevirtual 559, 3, 214, 4, 1, 1822, 6, []), (66, .if_icmp .le 6, 3, 72, 0, 0, 0, 0, []),
  (69, .iload 4, 2, 4, 0, 0, 0, 0, []), (71, .istore_n 3, 1, 3, 0, 0, 0, 0, []), (72, .iinc 4 1, 3, 4, 0, 0, 0, 1, []), (75, .goto (-38), 3, 37, 0, 0, 0, 0, []), (78, .iload_n 3, 1, 3, 0, 0, 0, 0, []), (79, .ireturn, 1, 0, 0, 1, 0, 0, [])]
noncomputable def am_s216 : am_S := (yX6_share, cX6_share, 6, (some .int), 1, 1, 2, 6, 1833, 1831, 1832, 175)
noncomputable def am_c216 : List (Nat × am_E) := [(0, .aload_n 0, 1, 0, 0, 0, 0, 0, []), (1, .invokevirtual 517, 3, 194, 1, 1, 1599, 6, []), (4, .istore_n 2, 1, 2, 0, 0, 0, 0, []), (5, .aload_n 0, 1, 0, 0, 0, 0, 0, []), (6, .iload_n 1, 1, 1, 0, 0, 0, 0, []), (7, .invokevirtual 528, 3, 163, 2, 4, 1644, 6, []),
  (10, .ifCond .eq 7, 3, 17, 0, 0, 0, 0, []), (13, .iload_n 2, 1, 2, 0, 0, 0, 0, []), (14, .ifCond .ne 5, 3, 19, 0, 0, 0, 0, []), (17, .iconst (-1), 1, 0, 0, 0, 0, (-1), []), (18, .ireturn, 1, 0, 0, 1, 0, 0, []), (19, .aload_n 0, 1, 0, 0, 0, 0, 0, []),
  (20, .getfield 127, 3, 6, 47, 3, 1112, 0, []), (23, .iconst 5, 1, 0, 0, 0, 0, 5, []), (24, .iaload, 1, 0, 0, 0, 0, 0, []), (25, .istore_n 3, 1, 3, 0, 0, 0, 0, []), (26, .iconst 0, 1, 0, 0, 0, 0, 0, []), (27, .istore 4, 2, 4, 0, 0, 0, 0, []),
  (29, .iconst 0, 1, 0, 0, 0, 0, 0, []), (30, .istore 5, 2, 5, 0, 0, 0, 0, []), (32, .iload 5, 2, 5, 0, 0, 0, 0, []), (34, .aload_n 0, 1, 0, 0, 0, 0, 0, []), (35, .invokevirtual 408, 3, 160, 1, 1, 1576, 6, []), (38, .if_icmp .ge 46, 3, 84, 0, 0, 0, 0, []),
  (41, .iload_n 3, 1, 3, 0, 0, 0, 0, []), (42, .aload_n 0, 1, 0, 0, 0, 0, 0, []), (43, .getfield 127, 3, 6, 47, 3, 1112, 0, []), (46, .iconst 5, 1, 0, 0, 0, 0, 5, []), (47, .iaload, 1, 0, 0, 0, 0, 0, []), (48, .aload_n 0, 1, 0, 0, 0, 0, 0, []),
  (49, .iload 5, 2, 5, 0, 0, 0, 0, []), (51, .invokevirtual 508, 3, 193, 2, 1, 1603, 6, []), (54, .imul, 1, 0, 0, 0, 0, 0, []), (55, .iload_n 2, 1, 2, 0, 0, 0, 0, []), (56, .idiv, 1, 0, 0, 0, 0, 0, []), (57, .isub, 1, 0, 0, 0, 0, 0, []),
  (58, .istore_n 3, 1, 3, 0, 0, 0, 0, []), (59, .aload_n 0, 1, 0, 0, 0, 0, 0, []), (60, .iload 5, 2, 5, 0, 0, 0, 0, []), (62, .invokevirtual 508, 3, 193, 2, 1, 1603, 6, []), (65, .aload_n 0, 1, 0, 0, 0, 0, 0, []), (66, .iload 4, 2, 4, 0, 0, 0, 0, []),
  (68, .invokevirtual 508, 3, 193, 2, 1, 1603, 6, []), (71, .if_icmp .le 7, 3, 78, 0, 0, 0, 0, []), (74, .iload 5, 2, 5, 0, 0, 0, 0, []), (76, .istore 4, 2, 4, 0, 0, 0, 0, []), (78, .iinc 5 1, 3, 5, 0, 0, 0, 1, []), (81, .goto (-49), 3, 32, 0, 0, 0, 0, []),
  (84, .aload_n 0, 1, 0, 0, 0, 0, 0, []), (85, .getfield 127, 3, 6, 47, 3, 1112, 0, []), (88, .iconst 5, 1, 0, 0, 0, 0, 5, []), (89, .iaload, 1, 0, 0, 0, 0, 0, []), (90, .aload_n 0, 1, 0, 0, 0, 0, 0, []), (91, .iload_n 1, 1, 1, 0, 0, 0, 0, []),
  (92, .invokevirtual 508, 3, 193, 2, 1, 1603, 6, []), (95, .imul, 1, 0, 0, 0, 0, 0, []), (96, .iload_n 2, 1, 2, 0, 0, 0, 0, []), (97, .idiv, 1, 0, 0, 0, 0, 0, []), (98, .iload_n 1, 1, 1, 0, 0, 0, 0, []), (99, .iload 4, 2, 4, 0, 0, 0, 0, []),
  (101, .if_icmp .ne 7, 3, 108, 0, 0, 0, 0, []), (104, .iload_n 3, 1, 3, 0, 0, 0, 0, []), (105, .goto 4, 3, 109, 0, 0, 0, 0, []), (108, .iconst 0, 1, 0, 0, 0, 0, 0, []), (109, .iadd, 1, 0, 0, 0, 0, 0, []), (110, .ireturn, 1, 0, 0, 1, 0, 0, [])]
noncomputable def am_s217 : am_S := (yX6_tell, cX6_tell, 4, (some .int), 1, 1, 1, 6, 1837, 1835, 1836, 175)
noncomputable def am_c217 : List (Nat × am_E) := [(0, .aload_n 0, 1, 0, 0, 0, 0, 0, []), (1, .getfield 239, 3, 6, 1, 1, 1066, 0, []), (4, .istore_n 1, 1, 1, 0, 0, 0, 0, []), (5, .aload_n 0, 1, 0, 0, 0, 0, 0, []), (6, .iconst 0, 1, 0, 0, 0, 0, 0, []), (7, .putfield 239, 3, 6, 1, 1, 1066, 0, []),
  (10, .iload_n 1, 1, 1, 0, 0, 0, 0, []), (11, .ifCond .le 21, 3, 32, 0, 0, 0, 0, []), (14, .iload_n 1, 1, 1, 0, 0, 0, 0, []), (15, .iconst 3, 1, 0, 0, 0, 0, 3, []), (16, .irem, 1, 0, 0, 0, 0, 0, []), (17, .ifCond .ne 15, 3, 32, 0, 0, 0, 0, []),
  (20, .iload_n 1, 1, 1, 0, 0, 0, 0, []), (21, .iconst 3, 1, 0, 0, 0, 0, 3, []), (22, .idiv, 1, 0, 0, 0, 0, 0, []), (23, .bipush 16, 2, 0, 0, 0, 0, 16, []), (25, .if_icmp .gt 7, 3, 32, 0, 0, 0, 0, []), (28, .iconst 1, 1, 0, 0, 0, 0, 1, []),
  (29, .goto 4, 3, 33, 0, 0, 0, 0, []), (32, .iconst 0, 1, 0, 0, 0, 0, 0, []), (33, .istore_n 2, 1, 2, 0, 0, 0, 0, []), (34, .iconst 0, 1, 0, 0, 0, 0, 0, []), (35, .istore_n 3, 1, 3, 0, 0, 0, 0, []), (36, .iload_n 3, 1, 3, 0, 0, 0, 0, []),
  (37, .iload_n 1, 1, 1, 0, 0, 0, 0, []), (38, .if_icmp .ge 57, 3, 95, 0, 0, 0, 0, []), (41, .iload_n 2, 1, 2, 0, 0, 0, 0, []), (42, .ifCond .eq 53, 3, 95, 0, 0, 0, 0, []), (45, .aload_n 0, 1, 0, 0, 0, 0, 0, []), (46, .getfield 7, 3, 6, 0, 3, 1065, 0, []),
  (49, .iload_n 3, 1, 3, 0, 0, 0, 0, []), (50, .iaload, 1, 0, 0, 0, 0, 0, []), (51, .bipush 24, 2, 0, 0, 0, 0, 24, []), (53, .if_icmp .ge 34, 3, 87, 0, 0, 0, 0, []), (56, .aload_n 0, 1, 0, 0, 0, 0, 0, []), (57, .aload_n 0, 1, 0, 0, 0, 0, 0, []),
  (58, .getfield 7, 3, 6, 0, 3, 1065, 0, []), (61, .iload_n 3, 1, 3, 0, 0, 0, 0, []), (62, .iconst 1, 1, 0, 0, 0, 0, 1, []), (63, .iadd, 1, 0, 0, 0, 0, 0, []), (64, .iaload, 1, 0, 0, 0, 0, 0, []), (65, .invokevirtual 522, 3, 162, 2, 4, 1616, 6, []),
  (68, .ifCond .eq 19, 3, 87, 0, 0, 0, 0, []), (71, .aload_n 0, 1, 0, 0, 0, 0, 0, []), (72, .getfield 7, 3, 6, 0, 3, 1065, 0, []), (75, .iload_n 3, 1, 3, 0, 0, 0, 0, []), (76, .iconst 2, 1, 0, 0, 0, 0, 2, []), (77, .iadd, 1, 0, 0, 0, 0, 0, []),
  (78, .iaload, 1, 0, 0, 0, 0, 0, []), (79, .iconst 2, 1, 0, 0, 0, 0, 2, []), (80, .if_icmp .ge 7, 3, 87, 0, 0, 0, 0, []), (83, .iconst 1, 1, 0, 0, 0, 0, 1, []), (84, .goto 4, 3, 88, 0, 0, 0, 0, []), (87, .iconst 0, 1, 0, 0, 0, 0, 0, []),
  (88, .istore_n 2, 1, 2, 0, 0, 0, 0, []), (89, .iinc 3 3, 3, 3, 0, 0, 0, 3, []), (92, .goto (-56), 3, 36, 0, 0, 0, 0, []), (95, .iload_n 2, 1, 2, 0, 0, 0, 0, []), (96, .ifCond .ne 15, 3, 111, 0, 0, 0, 0, []), (99, .aload_n 0, 1, 0, 0, 0, 0, 0, []),
  (100, .getfield 17, 3, 6, 9, 3, 1074, 0, []), (103, .iconst 1, 1, 0, 0, 0, 0, 1, []), (104, .dup2, 1, 0, 0, 0, 0, 0, []), (105, .iaload, 1, 0, 0, 0, 0, 0, []), (106, .iconst 1, 1, 0, 0, 0, 0, 1, []), (107, .iadd, 1, 0, 0, 0, 0, 0, []),
  (108, .iastore, 1, 0, 0, 0, 0, 0, []), (109, .iconst (-1), 1, 0, 0, 0, 0, (-1), []), (110, .ireturn, 1, 0, 0, 1, 0, 0, []), (111, .iconst 0, 1, 0, 0, 0, 0, 0, []), (112, .istore_n 3, 1, 3, 0, 0, 0, 0, []), (113, .iload_n 3, 1, 3, 0, 0, 0, 0, []),
  (114, .iload_n 1, 1, 1, 0, 0, 0, 0, []), (115, .if_icmp .ge 21, 3, 136, 0, 0, 0, 0, []), (118, .aload_n 0, 1, 0, 0, 0, 0, 0, []), (119, .getfield 157, 3, 6, 66, 3, 1131, 0, []), (122, .iload_n 3, 1, 3, 0, 0, 0, 0, []), (123, .aload_n 0, 1, 0, 0, 0, 0, 0, []),
  (124, .getfield 7, 3, 6, 0, 3, 1065, 0, []), (127, .iload_n 3, 1, 3, 0, 0, 0, 0, []), (128, .iaload, 1, 0, 0, 0, 0, 0, []), (129, .iastore, 1, 0, 0, 0, 0, 0, []), (130, .iinc 3 1, 3, 3, 0, 0, 0, 1, []), (133, .goto (-20), 3, 113, 0, 0, 0, 0, []),
  (136, .aload_n 0, 1, 0, 0, 0, 0, 0, []), (137, .iload_n 1, 1, 1, 0, 0, 0, 0, []), (138, .iconst 3, 1, 0, 0, 0, 0, 3, []), (139, .idiv, 1, 0, 0, 0, 0, 0, []), (140, .putfield 399, 3, 6, 65, 1, 1130, 0, []), (143, .aload_n 0, 1, 0, 0, 0, 0, 0, []),
  (144, .getfield 399, 3, 6, 65, 1, 1130, 0, []), (147, .ireturn, 1, 0, 0, 1, 0, 0, [])]
noncomputable def am_s218 : am_S := (yX6_isSeenNow, cX6_isSeenNow, 3, (some .boolean), 1, 4, 2, 6, 1853, 1852, 149, 175)
noncomputable def am_c218 : List (Nat × am_E) := [(0, .iconst 0, 1, 0, 0, 0, 0, 0, []), (1, .istore_n 2, 1, 2, 0, 0, 0, 0, []), (2, .iload_n 2, 1, 2, 0, 0, 0, 0, []), (3, .aload_n 0, 1, 0, 0, 0, 0, 0, []), (4, .invokevirtual 408, 3, 160, 1, 1, 1576, 6, []), (7, .if_icmp .ge 21, 3, 28, 0, 0, 0, 0, []),
  (10, .aload_n 0, 1, 0, 0, 0, 0, 0, []), (11, .getfield 145, 3, 6, 61, 3, 1126, 0, []), (14, .iload_n 2, 1, 2, 0, 0, 0, 0, []), (15, .iaload, 1, 0, 0, 0, 0, 0, []), (16, .iload_n 1, 1, 1, 0, 0, 0, 0, []), (17, .if_icmp .ne 5, 3, 22, 0, 0, 0, 0, []),
  (20, .iconst 1, 1, 0, 0, 0, 0, 1, []), (21, .ireturn, 1, 0, 0, 4, 0, 0, []), (22, .iinc 2 1, 3, 2, 0, 0, 0, 1, []), (25, .goto (-23), 3, 2, 0, 0, 0, 0, []), (28, .iconst 0, 1, 0, 0, 0, 0, 0, []), (29, .ireturn, 1, 0, 0, 4, 0, 0, [])]
noncomputable def am_s219 : am_S := (yX6_lastHour, cX6_lastHour, 3, (some .int), 1, 1, 1, 6, 1845, 1844, 147, 175)
noncomputable def am_c219 : List (Nat × am_E) := [(0, .iconst (-1), 1, 0, 0, 0, 0, (-1), []), (1, .istore_n 1, 1, 1, 0, 0, 0, 0, []), (2, .iconst 0, 1, 0, 0, 0, 0, 0, []), (3, .istore_n 2, 1, 2, 0, 0, 0, 0, []), (4, .iload_n 2, 1, 2, 0, 0, 0, 0, []), (5, .aload_n 0, 1, 0, 0, 0, 0, 0, []),
  (6, .getfield 399, 3, 6, 65, 1, 1130, 0, []), (9, .if_icmp .ge 30, 3, 39, 0, 0, 0, 0, []), (12, .aload_n 0, 1, 0, 0, 0, 0, 0, []), (13, .getfield 157, 3, 6, 66, 3, 1131, 0, []), (16, .iconst 3, 1, 0, 0, 0, 0, 3, []), (17, .iload_n 2, 1, 2, 0, 0, 0, 0, []),
  (18, .imul, 1, 0, 0, 0, 0, 0, []), (19, .iaload, 1, 0, 0, 0, 0, 0, []), (20, .iload_n 1, 1, 1, 0, 0, 0, 0, []), (21, .if_icmp .le 12, 3, 33, 0, 0, 0, 0, []), (24, .aload_n 0, 1, 0, 0, 0, 0, 0, []), (25, .getfield 157, 3, 6, 66, 3, 1131, 0, []),
  (28, .iconst 3, 1, 0, 0, 0, 0, 3, []), (29, .iload_n 2, 1, 2, 0, 0, 0, 0, []), (30, .imul, 1, 0, 0, 0, 0, 0, []), (31, .iaload, 1, 0, 0, 0, 0, 0, []), (32, .istore_n 1, 1, 1, 0, 0, 0, 0, []), (33, .iinc 2 1, 3, 2, 0, 0, 0, 1, []),
  (36, .goto (-32), 3, 4, 0, 0, 0, 0, []), (39, .iload_n 1, 1, 1, 0, 0, 0, 0, []), (40, .ireturn, 1, 0, 0, 1, 0, 0, [])]
noncomputable def am_s220 : am_S := (yX6_isAsTold, cX6_isAsTold, 6, (some .boolean), 1, 4, 2, 6, 1849, 1848, 148, 175)
noncomputable def am_c220 : List (Nat × am_E) := [(0, .iconst 1, 1, 0, 0, 0, 0, 1, []), (1, .istore_n 2, 1, 2, 0, 0, 0, 0, []), (2, .aload_n 0, 1, 0, 0, 0, 0, 0, []), (3, .invokevirtual 563, 3, 219, 1, 1, 1842, 6, []), (6, .istore_n 3, 1, 3, 0, 0, 0, 0, []), (7, .aload_n 0, 1, 0, 0, 0, 0, 0, []),
  (8, .iload_n 1, 1, 1, 0, 0, 0, 0, []), (9, .invokevirtual 393, 3, 168, 2, 0, 1572, 6, []), (12, .iconst 0, 1, 0, 0, 0, 0, 0, []), (13, .istore 4, 2, 4, 0, 0, 0, 0, []), (15, .iload 4, 2, 4, 0, 0, 0, 0, []), (17, .iload_n 3, 1, 3, 0, 0, 0, 0, []),
  (18, .if_icmp .gt 90, 3, 108, 0, 0, 0, 0, []), (21, .iload_n 2, 1, 2, 0, 0, 0, 0, []), (22, .ifCond .eq 86, 3, 108, 0, 0, 0, 0, []), (25, .aload_n 0, 1, 0, 0, 0, 0, 0, []), (26, .invokevirtual 502, 3, 186, 1, 1, 1745, 6, []), (29, .pop, 1, 0, 0, 0, 0, 0, []),
  (30, .iconst 0, 1, 0, 0, 0, 0, 0, []), (31, .istore 5, 2, 5, 0, 0, 0, 0, []), (33, .iload 5, 2, 5, 0, 0, 0, 0, []), (35, .aload_n 0, 1, 0, 0, 0, 0, 0, []), (36, .getfield 399, 3, 6, 65, 1, 1130, 0, []), (39, .if_icmp .ge 63, 3, 102, 0, 0, 0, 0, []),
  (42, .aload_n 0, 1, 0, 0, 0, 0, 0, []), (43, .getfield 157, 3, 6, 66, 3, 1131, 0, []), (46, .iconst 3, 1, 0, 0, 0, 0, 3, []), (47, .iload 5, 2, 5, 0, 0, 0, 0, []), (49, .imul, 1, 0, 0, 0, 0, 0, []), (50, .iaload, 1, 0, 0, 0, 0, 0, []),
  (51, .iload 4, 2, 4, 0, 0, 0, 0, []), (53, .if_icmp .ne 43, 3, 96, 0, 0, 0, 0, []), (56, .aload_n 0, 1, 0, 0, 0, 0, 0, []), (57, .aload_n 0, 1, 0, 0, 0, 0, 0, []), (58, .getfield 157, 3, 6, 66, 3, 1131, 0, []), (61, .iconst 3, 1, 0, 0, 0, 0, 3, []),
  (62, .iload 5, 2, 5, 0, 0, 0, 0, []), (64, .imul, 1, 0, 0, 0, 0, 0, []), (65, .iconst 1, 1, 0, 0, 0, 0, 1, []), (66, .iadd, 1, 0, 0, 0, 0, 0, []), (67, .iaload, 1, 0, 0, 0, 0, 0, []), (68, .invokevirtual 566, 3, 218, 2, 4, 1850, 6, []),
  (71, .aload_n 0, 1, 0, 0, 0, 0, 0, []), (72, .getfield 157, 3, 6, 66, 3, 1131, 0, []), (75, .iconst 3, 1, 0, 0, 0, 0, 3, []), (76, .iload 5, 2, 5, 0, 0, 0, 0, []), (78, .imul, 1, 0, 0, 0, 0, 0, []), (79, .iconst 2, 1, 0, 0, 0, 0, 2, []),
  (80, .iadd, 1, 0, 0, 0, 0, 0, []), (81, .iaload, 1, 0, 0, 0, 0, 0, []), (82, .iconst 1, 1, 0, 0, 0, 0, 1, []), (83, .if_icmp .ne 7, 3, 90, 0, 0, 0, 0, []), (86, .iconst 1, 1, 0, 0, 0, 0, 1, []), (87, .goto 4, 3, 91, 0, 0, 0, 0, []),
  (90, .iconst 0, 1, 0, 0, 0, 0, 0, []), (91, .if_icmp .eq 5, 3, 96, 0, 0, 0, 0, []), (94, .iconst 0, 1, 0, 0, 0, 0, 0, []), (95, .istore_n 2, 1, 2, 0, 0, 0, 0, []), (96, .iinc 5 1, 3, 5, 0, 0, 0, 1, []), (99, .goto (-66), 3, 33, 0, 0, 0, 0, []),
  (102, .iinc 4 1, 3, 4, 0, 0, 0, 1, []), (105, .goto (-90), 3, 15, 0, 0, 0, 0, []), (108, .aload_n 0, 1, 0, 0, 0, 0, 0, []), (109, .invokevirtual 505, 3, 189, 1, 0, 1781, 6, []), (112, .iload_n 2, 1, 2, 0, 0, 0, 0, []), (113, .ireturn, 1, 0, 0, 4, 0, 0, [])]
noncomputable def am_s221 : am_S := (yX6_pressed, cX6_pressed, 6, (some .int), 1, 1, 2, 6, 1841, 1839, 1840, 175)
noncomputable def am_c221 : List (Nat × am_E) := [(0, .iload_n 1, 1, 1, 0, 0, 0, 0, []), (1, .i2l, 1, 0, 0, 0, 0, 0, []), (2, .lconst 0, 1, 0, 0, 0, 0, 0, []), (3, .ldc2_w 520, 3, 0, 0, 0, 1611, 2, []), (6, .invokestatic 282, 3, 127, 3, 4, 1456, 0, []), (9, .ifCond .eq 26, 3, 35, 0, 0, 0, 0, []),
  (12, .aload_n 0, 1, 0, 0, 0, 0, 0, []), (13, .getfield 399, 3, 6, 65, 1, 1130, 0, []), (16, .ifCond .le 21, 3, 37, 0, 0, 0, 0, []), (19, .aload_n 0, 1, 0, 0, 0, 0, 0, []), (20, .aload_n 0, 1, 0, 0, 0, 0, 0, []), (21, .invokevirtual 563, 3, 219, 1, 1, 1842, 6, []),
  (24, .iconst 1, 1, 0, 0, 0, 0, 1, []), (25, .iadd, 1, 0, 0, 0, 0, 0, []), (26, .iconst 0, 1, 0, 0, 0, 0, 0, []), (27, .bipush 24, 2, 0, 0, 0, 0, 24, []), (29, .invokevirtual 531, 3, 191, 4, 4, 1732, 6, []), (32, .ifCond .ne 5, 3, 37, 0, 0, 0, 0, []),
  (35, .iconst (-1), 1, 0, 0, 0, 0, (-1), []), (36, .ireturn, 1, 0, 0, 1, 0, 0, []), (37, .iconst 0, 1, 0, 0, 0, 0, 0, []), (38, .istore_n 2, 1, 2, 0, 0, 0, 0, []), (39, .iconst 1, 1, 0, 0, 0, 0, 1, []), (40, .aload_n 0, 1, 0, 0, 0, 0, 0, []),
  (41, .invokevirtual 408, 3, 160, 1, 1, 1576, 6, []), (44, .ishl, 1, 0, 0, 0, 0, 0, []), (45, .iconst 1, 1, 0, 0, 0, 0, 1, []), (46, .isub, 1, 0, 0, 0, 0, 0, []), (47, .istore_n 3, 1, 3, 0, 0, 0, 0, []), (48, .iconst 0, 1, 0, 0, 0, 0, 0, []),
  (49, .istore 4, 2, 4, 0, 0, 0, 0, []), (51, .aload_n 0, 1, 0, 0, 0, 0, 0, []), (52, .invokevirtual 536, 3, 188, 1, 0, 1737, 6, []), (55, .iconst 0, 1, 0, 0, 0, 0, 0, []), (56, .istore 5, 2, 5, 0, 0, 0, 0, []), (58, .iload 5, 2, 5, 0, 0, 0, 0, []),
  (60, .iconst 1, 1, 0, 0, 0, 0, 1, []), (61, .aload_n 0, 1, 0, 0, 0, 0, 0, []), (62, .invokevirtual 408, 3, 160, 1, 1, 1576, 6, []), (65, .ishl, 1, 0, 0, 0, 0, 0, []), (66, .if_icmp .ge 36, 3, 102, 0, 0, 0, 0, []), (69, .aload_n 0, 1, 0, 0, 0, 0, 0, []),
  (70, .iload 5, 2, 5, 0, 0, 0, 0, []), (72, .invokevirtual 569, 3, 220, 2, 4, 1846, 6, []), (75, .ifCond .ne 6, 3, 81, 0, 0, 0, 0, []), (78, .goto 18, 3, 96, 0, 0, 0, 0, []), (81, .iinc 2 1, 3, 2, 0, 0, 0, 1, []), (84, .iload_n 3, 1, 3, 0, 0, 0, 0, []),
  (85, .iload 5, 2, 5, 0, 0, 0, 0, []), (87, .iand, 1, 0, 0, 0, 0, 0, []), (88, .istore_n 3, 1, 3, 0, 0, 0, 0, []), (89, .iload 4, 2, 4, 0, 0, 0, 0, []), (91, .iload 5, 2, 5, 0, 0, 0, 0, []), (93, .ior, 1, 0, 0, 0, 0, 0, []),
  (94, .istore 4, 2, 4, 0, 0, 0, 0, []), (96, .iinc 5 1, 3, 5, 0, 0, 0, 1, []), (99, .goto (-41), 3, 58, 0, 0, 0, 0, []), (102, .aload_n 0, 1, 0, 0, 0, 0, 0, []), (103, .invokevirtual 542, 3, 190, 1, 0, 1777, 6, []), (106, .iload_n 1, 1, 1, 0, 0, 0, 0, []),
  (107, .ifCond .ne 7, 3, 114, 0, 0, 0, 0, []), (110, .iload_n 2, 1, 2, 0, 0, 0, 0, []), (111, .goto 22, 3, 133, 0, 0, 0, 0, []), (114, .iload_n 1, 1, 1, 0, 0, 0, 0, []), (115, .iconst 1, 1, 0, 0, 0, 0, 1, []), (116, .if_icmp .ne 15, 3, 131, 0, 0, 0, 0, []),
  (119, .iload_n 2, 1, 2, 0, 0, 0, 0, []), (120, .ifCond .ne 7, 3, 127, 0, 0, 0, 0, []), (123, .iconst 0, 1, 0, 0, 0, 0, 0, []), (124, .goto 9, 3, 133, 0, 0, 0, 0, []), (127, .iload_n 3, 1, 3, 0, 0, 0, 0, []), (128, .goto 5, 3, 133, 0, 0, 0, 0, []),
  (131, .iload 4, 2, 4, 0, 0, 0, 0, []), (133, .ireturn, 1, 0, 0, 1, 0, 0, [])]
noncomputable def am_s222 : am_S := (yX6_keeps, cX6_keeps, 2, none, 1, 0, 1, 6, 1865, 1864, 150, 175)
noncomputable def am_c222 : List (Nat × am_E) := [(0, .aload_n 0, 1, 0, 0, 0, 0, 0, []), (1, .aload_n 0, 1, 0, 0, 0, 0, 0, []), (2, .getfield 572, 3, 6, 69, 1, 1134, 0, []), (5, .iconst 1, 1, 0, 0, 0, 0, 1, []), (6, .iadd, 1, 0, 0, 0, 0, 0, []), (7, .bipush 20, 2, 0, 0, 0, 0, 20, []),
  (9, .irem, 1, 0, 0, 0, 0, 0, []), (10, .putfield 572, 3, 6, 69, 1, 1134, 0, []), (13, .iconst 0, 1, 0, 0, 0, 0, 0, []), (14, .istore_n 1, 1, 1, 0, 0, 0, 0, []), (15, .iload_n 1, 1, 1, 0, 0, 0, 0, []), (16, .sipush 257, 3, 0, 0, 0, 0, 257, []),
  (19, .if_icmp .ge 30, 3, 49, 0, 0, 0, 0, []), (22, .aload_n 0, 1, 0, 0, 0, 0, 0, []), (23, .getfield 160, 3, 6, 67, 3, 1132, 0, []), (26, .sipush 257, 3, 0, 0, 0, 0, 257, []), (29, .aload_n 0, 1, 0, 0, 0, 0, 0, []), (30, .getfield 572, 3, 6, 69, 1, 1134, 0, []),
  (33, .imul, 1, 0, 0, 0, 0, 0, []), (34, .iload_n 1, 1, 1, 0, 0, 0, 0, []), (35, .iadd, 1, 0, 0, 0, 0, 0, []), (36, .aload_n 0, 1, 0, 0, 0, 0, 0, []), (37, .getfield 139, 3, 6, 54, 3, 1119, 0, []), (40, .iload_n 1, 1, 1, 0, 0, 0, 0, []),
  (41, .iaload, 1, 0, 0, 0, 0, 0, []), (42, .iastore, 1, 0, 0, 0, 0, 0, []), (43, .iinc 1 1, 3, 1, 0, 0, 0, 1, []), (46, .goto (-31), 3, 15, 0, 0, 0, 0, []), (49, .aload_n 0, 1, 0, 0, 0, 0, 0, []), (50, .getfield 396, 3, 6, 68, 1, 1133, 0, []),
  (53, .bipush 20, 2, 0, 0, 0, 0, 20, []), (55, .if_icmp .ge 13, 3, 68, 0, 0, 0, 0, []), (58, .aload_n 0, 1, 0, 0, 0, 0, 0, []), (59, .dup, 1, 0, 0, 0, 0, 0, []), (60, .getfield 396, 3, 6, 68, 1, 1133, 0, []), (63, .iconst 1, 1, 0, 0, 0, 0, 1, []),
  (64, .iadd, 1, 0, 0, 0, 0, 0, []), (65, .putfield 396, 3, 6, 68, 1, 1133, 0, []), (68, .return_, 1, 0, 0, 0, 0, 0, [])]
noncomputable def am_s223 : am_S := (yX6_undo, cX6_undo, 2, (some .boolean), 1, 4, 1, 6, 1857, 1855, 1856, 175)
noncomputable def am_c223 : List (Nat × am_E) := [(0, .aload_n 0, 1, 0, 0, 0, 0, 0, []), (1, .getfield 396, 3, 6, 68, 1, 1133, 0, []), (4, .ifCond .ne 15, 3, 19, 0, 0, 0, 0, []), (7, .aload_n 0, 1, 0, 0, 0, 0, 0, []), (8, .getfield 17, 3, 6, 9, 3, 1074, 0, []), (11, .iconst 4, 1, 0, 0, 0, 0, 4, []),
  (12, .dup2, 1, 0, 0, 0, 0, 0, []), (13, .iaload, 1, 0, 0, 0, 0, 0, []), (14, .iconst 1, 1, 0, 0, 0, 0, 1, []), (15, .iadd, 1, 0, 0, 0, 0, 0, []), (16, .iastore, 1, 0, 0, 0, 0, 0, []), (17, .iconst 0, 1, 0, 0, 0, 0, 0, []),
  (18, .ireturn, 1, 0, 0, 4, 0, 0, []), (19, .iconst 0, 1, 0, 0, 0, 0, 0, []), (20, .istore_n 1, 1, 1, 0, 0, 0, 0, []), (21, .iload_n 1, 1, 1, 0, 0, 0, 0, []), (22, .sipush 257, 3, 0, 0, 0, 0, 257, []), (25, .if_icmp .ge 30, 3, 55, 0, 0, 0, 0, []),
  (28, .aload_n 0, 1, 0, 0, 0, 0, 0, []), (29, .getfield 139, 3, 6, 54, 3, 1119, 0, []), (32, .iload_n 1, 1, 1, 0, 0, 0, 0, []), (33, .aload_n 0, 1, 0, 0, 0, 0, 0, []), (34, .getfield 160, 3, 6, 67, 3, 1132, 0, []), (37, .sipush 257, 3, 0, 0, 0, 0, 257, []),
  (40, .aload_n 0, 1, 0, 0, 0, 0, 0, []), (41, .getfield 572, 3, 6, 69, 1, 1134, 0, []), (44, .imul, 1, 0, 0, 0, 0, 0, []), (45, .iload_n 1, 1, 1, 0, 0, 0, 0, []), (46, .iadd, 1, 0, 0, 0, 0, 0, []), (47, .iaload, 1, 0, 0, 0, 0, 0, []),
  (48, .iastore, 1, 0, 0, 0, 0, 0, []), (49, .iinc 1 1, 3, 1, 0, 0, 0, 1, []), (52, .goto (-31), 3, 21, 0, 0, 0, 0, []), (55, .aload_n 0, 1, 0, 0, 0, 0, 0, []), (56, .aload_n 0, 1, 0, 0, 0, 0, 0, []), (57, .getfield 572, 3, 6, 69, 1, 1134, 0, []),
  (60, .bipush 20, 2, 0, 0, 0, 0, 20, []), (62, .iadd, 1, 0, 0, 0, 0, 0, []), (63, .iconst 1, 1, 0, 0, 0, 0, 1, []), (64, .isub, 1, 0, 0, 0, 0, 0, []), (65, .bipush 20, 2, 0, 0, 0, 0, 20, []), (67, .irem, 1, 0, 0, 0, 0, 0, []),
  (68, .putfield 572, 3, 6, 69, 1, 1134, 0, []), (71, .aload_n 0, 1, 0, 0, 0, 0, 0, []), (72, .dup, 1, 0, 0, 0, 0, 0, []), (73, .getfield 396, 3, 6, 68, 1, 1133, 0, []), (76, .iconst 1, 1, 0, 0, 0, 0, 1, []), (77, .isub, 1, 0, 0, 0, 0, 0, []),
  (78, .putfield 396, 3, 6, 68, 1, 1133, 0, []), (81, .iconst 1, 1, 0, 0, 0, 0, 1, []), (82, .ireturn, 1, 0, 0, 4, 0, 0, [])]
noncomputable def am_s224 : am_S := (yX6_press, cX6_press, 3, (some .boolean), 1, 4, 3, 6, 1861, 1859, 1860, 175)
noncomputable def am_c224 : List (Nat × am_E) := [(0, .aload_n 0, 1, 0, 0, 0, 0, 0, []), (1, .iload_n 1, 1, 1, 0, 0, 0, 0, []), (2, .invokevirtual 528, 3, 163, 2, 4, 1644, 6, []), (5, .ifCond .eq 31, 3, 36, 0, 0, 0, 0, []), (8, .iload_n 2, 1, 2, 0, 0, 0, 0, []), (9, .i2l, 1, 0, 0, 0, 0, 0, []),
  (10, .lconst 0, 1, 0, 0, 0, 0, 0, []), (11, .lconst 1, 1, 0, 0, 0, 0, 1, []), (12, .invokestatic 282, 3, 127, 3, 4, 1456, 0, []), (15, .ifCond .eq 21, 3, 36, 0, 0, 0, 0, []), (18, .aload_n 0, 1, 0, 0, 0, 0, 0, []), (19, .iload_n 1, 1, 1, 0, 0, 0, 0, []),
  (20, .invokevirtual 411, 3, 167, 2, 4, 1592, 6, []), (23, .iload_n 2, 1, 2, 0, 0, 0, 0, []), (24, .iconst 1, 1, 0, 0, 0, 0, 1, []), (25, .if_icmp .ne 7, 3, 32, 0, 0, 0, 0, []), (28, .iconst 1, 1, 0, 0, 0, 0, 1, []), (29, .goto 4, 3, 33, 0, 0, 0, 0, []),
  (32, .iconst 0, 1, 0, 0, 0, 0, 0, []), (33, .if_icmp .ne 15, 3, 48, 0, 0, 0, 0, []), (36, .aload_n 0, 1, 0, 0, 0, 0, 0, []), (37, .getfield 17, 3, 6, 9, 3, 1074, 0, []), (40, .iconst 2, 1, 0, 0, 0, 0, 2, []), (41, .dup2, 1, 0, 0, 0, 0, 0, []),
  (42, .iaload, 1, 0, 0, 0, 0, 0, []), (43, .iconst 1, 1, 0, 0, 0, 0, 1, []), (44, .iadd, 1, 0, 0, 0, 0, 0, []), (45, .iastore, 1, 0, 0, 0, 0, 0, []), (46, .iconst 0, 1, 0, 0, 0, 0, 0, []), (47, .ireturn, 1, 0, 0, 4, 0, 0, []),
  (48, .aload_n 0, 1, 0, 0, 0, 0, 0, []), (49, .invokevirtual 575, 3, 222, 1, 0, 1862, 6, []), (52, .aload_n 0, 1, 0, 0, 0, 0, 0, []), (53, .getfield 139, 3, 6, 54, 3, 1119, 0, []), (56, .bipush 86, 2, 0, 0, 0, 0, 86, []), (58, .iconst 2, 1, 0, 0, 0, 0, 2, []),
  (59, .iload_n 1, 1, 1, 0, 0, 0, 0, []), (60, .imul, 1, 0, 0, 0, 0, 0, []), (61, .iadd, 1, 0, 0, 0, 0, 0, []), (62, .iload_n 2, 1, 2, 0, 0, 0, 0, []), (63, .iastore, 1, 0, 0, 0, 0, 0, []), (64, .iconst 1, 1, 0, 0, 0, 0, 1, []),
  (65, .ireturn, 1, 0, 0, 4, 0, 0, [])]
noncomputable def am_s225 : am_S := (yX6_show, cX6_show, 3, (some .long), 1, 2, 3, 6, 1869, 1867, 1868, 175)
noncomputable def am_c225 : List (Nat × am_E) := [(0, .aload_n 0, 1, 0, 0, 0, 0, 0, []), (1, .iload_n 1, 1, 1, 0, 0, 0, 0, []), (2, .invokevirtual 528, 3, 163, 2, 4, 1644, 6, []), (5, .ifCond .eq 29, 3, 34, 0, 0, 0, 0, []), (8, .aload_n 0, 1, 0, 0, 0, 0, 0, []), (9, .iload_n 2, 1, 2, 0, 0, 0, 0, []),
  (10, .invokevirtual 522, 3, 162, 2, 4, 1616, 6, []), (13, .ifCond .eq 21, 3, 34, 0, 0, 0, 0, []), (16, .aload_n 0, 1, 0, 0, 0, 0, 0, []), (17, .aload_n 0, 1, 0, 0, 0, 0, 0, []), (18, .iload_n 1, 1, 1, 0, 0, 0, 0, []), (19, .invokevirtual 454, 3, 170, 2, 1, 1680, 6, []),
  (22, .iload_n 2, 1, 2, 0, 0, 0, 0, []), (23, .invokevirtual 442, 3, 173, 3, 1, 1664, 6, []), (26, .aload_n 0, 1, 0, 0, 0, 0, 0, []), (27, .iload_n 2, 1, 2, 0, 0, 0, 0, []), (28, .invokevirtual 445, 3, 164, 2, 1, 1636, 6, []), (31, .if_icmp .ne 17, 3, 48, 0, 0, 0, 0, []),
  (34, .aload_n 0, 1, 0, 0, 0, 0, 0, []), (35, .getfield 17, 3, 6, 9, 3, 1074, 0, []), (38, .iconst 2, 1, 0, 0, 0, 0, 2, []), (39, .dup2, 1, 0, 0, 0, 0, 0, []), (40, .iaload, 1, 0, 0, 0, 0, 0, []), (41, .iconst 1, 1, 0, 0, 0, 0, 1, []),
  (42, .iadd, 1, 0, 0, 0, 0, 0, []), (43, .iastore, 1, 0, 0, 0, 0, 0, []), (44, .ldc2_w 534, 3, 0, 0, 0, 1736, (-1000000000000000), []), (47, .lreturn, 1, 0, 0, 2, 0, 0, []), (48, .aload_n 0, 1, 0, 0, 0, 0, 0, []), (49, .invokevirtual 575, 3, 222, 1, 0, 1862, 6, []),
  (52, .aload_n 0, 1, 0, 0, 0, 0, 0, []), (53, .aload_n 0, 1, 0, 0, 0, 0, 0, []), (54, .iload_n 1, 1, 1, 0, 0, 0, 0, []), (55, .invokevirtual 454, 3, 170, 2, 1, 1680, 6, []), (58, .iload_n 2, 1, 2, 0, 0, 0, 0, []), (59, .invokevirtual 490, 3, 180, 3, 0, 1757, 6, []),
  (62, .aload_n 0, 1, 0, 0, 0, 0, 0, []), (63, .iload_n 1, 1, 1, 0, 0, 0, 0, []), (64, .invokevirtual 493, 3, 182, 2, 0, 1765, 6, []), (67, .aload_n 0, 1, 0, 0, 0, 0, 0, []), (68, .iload_n 1, 1, 1, 0, 0, 0, 0, []), (69, .iload_n 2, 1, 2, 0, 0, 0, 0, []),
  (70, .invokevirtual 496, 3, 181, 3, 0, 1769, 6, []), (73, .aload_n 0, 1, 0, 0, 0, 0, 0, []), (74, .iload_n 1, 1, 1, 0, 0, 0, 0, []), (75, .iload_n 2, 1, 2, 0, 0, 0, 0, []), (76, .invokevirtual 487, 3, 183, 3, 1, 1753, 6, []), (79, .i2l, 1, 0, 0, 0, 0, 0, []),
  (80, .lreturn, 1, 0, 0, 2, 0, 0, [])]
noncomputable def am_s226 : am_S := (yX6_refuses, cX6_refuses, 2, (some .int), 1, 1, 2, 6, 1877, 1876, 151, 175)
noncomputable def am_c226 : List (Nat × am_E) := [(0, .aload_n 0, 1, 0, 0, 0, 0, 0, []), (1, .getfield 17, 3, 6, 9, 3, 1074, 0, []), (4, .iload_n 1, 1, 1, 0, 0, 0, 0, []), (5, .dup2, 1, 0, 0, 0, 0, 0, []), (6, .iaload, 1, 0, 0, 0, 0, 0, []), (7, .iconst 1, 1, 0, 0, 0, 0, 1, []),
  (8, .iadd, 1, 0, 0, 0, 0, 0, []), (9, .iastore, 1, 0, 0, 0, 0, 0, []), (10, .iconst (-1), 1, 0, 0, 0, 0, (-1), []), (11, .ireturn, 1, 0, 0, 1, 0, 0, [])]
noncomputable def am_s227 : am_S := (yX6_hours, cX6_hours, 2, (some .int), 1, 1, 2, 6, 1873, 1871, 1872, 175)
noncomputable def am_c227 : List (Nat × am_E) := [(0, .aload_n 0, 1, 0, 0, 0, 0, 0, []), (1, .iload_n 1, 1, 1, 0, 0, 0, 0, []), (2, .iconst 1, 1, 0, 0, 0, 0, 1, []), (3, .bipush 100, 2, 0, 0, 0, 0, 100, []), (5, .invokevirtual 531, 3, 191, 4, 4, 1732, 6, []), (8, .ifCond .ne 9, 3, 17, 0, 0, 0, 0, []),
  (11, .aload_n 0, 1, 0, 0, 0, 0, 0, []), (12, .iconst 3, 1, 0, 0, 0, 0, 3, []), (13, .invokevirtual 578, 3, 226, 2, 1, 1874, 6, []), (16, .ireturn, 1, 0, 0, 1, 0, 0, []), (17, .aload_n 0, 1, 0, 0, 0, 0, 0, []), (18, .invokevirtual 575, 3, 222, 1, 0, 1862, 6, []),
  (21, .aload_n 0, 1, 0, 0, 0, 0, 0, []), (22, .iload_n 1, 1, 1, 0, 0, 0, 0, []), (23, .invokevirtual 539, 3, 187, 2, 1, 1741, 6, []), (26, .ireturn, 1, 0, 0, 1, 0, 0, [])]
noncomputable def am_s228 : am_S := (yX6_seed, cX6_seed, 2, (some .boolean), 1, 4, 2, 6, 1881, 1879, 1880, 175)
noncomputable def am_c228 : List (Nat × am_E) := [(0, .iload_n 1, 1, 1, 0, 0, 0, 0, []), (1, .ifCond .ge 15, 3, 16, 0, 0, 0, 0, []), (4, .aload_n 0, 1, 0, 0, 0, 0, 0, []), (5, .getfield 17, 3, 6, 9, 3, 1074, 0, []), (8, .iconst 5, 1, 0, 0, 0, 0, 5, []), (9, .dup2, 1, 0, 0, 0, 0, 0, []),
  (10, .iaload, 1, 0, 0, 0, 0, 0, []), (11, .iconst 1, 1, 0, 0, 0, 0, 1, []), (12, .iadd, 1, 0, 0, 0, 0, 0, []), (13, .iastore, 1, 0, 0, 0, 0, 0, []), (14, .iconst 0, 1, 0, 0, 0, 0, 0, []), (15, .ireturn, 1, 0, 0, 4, 0, 0, []),
  (16, .aload_n 0, 1, 0, 0, 0, 0, 0, []), (17, .iload_n 1, 1, 1, 0, 0, 0, 0, []), (18, .i2l, 1, 0, 0, 0, 0, 0, []), (19, .putfield 163, 3, 6, 70, 2, 1135, 0, []), (22, .iconst 1, 1, 0, 0, 0, 0, 1, []), (23, .ireturn, 1, 0, 0, 4, 0, 0, [])]
noncomputable def am_s229 : am_S := (yX6_drawOf, cX6_drawOf, 2, (some .int), 1, 1, 2, 6, 1893, 1892, 153, 175)
noncomputable def am_c229 : List (Nat × am_E) := [(0, .aload_n 0, 1, 0, 0, 0, 0, 0, []), (1, .ldc2_w 581, 3, 0, 0, 0, 1894, 1103515245, []), (4, .aload_n 0, 1, 0, 0, 0, 0, 0, []), (5, .getfield 163, 3, 6, 70, 2, 1135, 0, []), (8, .lmul, 1, 0, 0, 0, 0, 0, []), (9, .ldc2_w 583, 3, 0, 0, 0, 1895, 12345, []),
  (12, .ladd, 1, 0, 0, 0, 0, 0, []), (13, .ldc2_w 585, 3, 0, 0, 0, 1896, 2147483648, []), (16, .lrem, 1, 0, 0, 0, 0, 0, []), (17, .putfield 163, 3, 6, 70, 2, 1135, 0, []), (20, .aload_n 0, 1, 0, 0, 0, 0, 0, []), (21, .getfield 163, 3, 6, 70, 2, 1135, 0, []),
  (24, .ldc2_w 587, 3, 0, 0, 0, 1897, 64, []), (27, .ldiv, 1, 0, 0, 0, 0, 0, []), (28, .iload_n 1, 1, 1, 0, 0, 0, 0, []), (29, .i2l, 1, 0, 0, 0, 0, 0, []), (30, .lrem, 1, 0, 0, 0, 0, 0, []), (31, .l2i, 1, 0, 0, 0, 0, 0, []),
  (32, .ireturn, 1, 0, 0, 1, 0, 0, [])]
noncomputable def am_s230 : am_S := (yX6_isStranger, cX6_isStranger, 2, (some .boolean), 1, 4, 1, 6, 1889, 1888, 152, 175)
noncomputable def am_c230 : List (Nat × am_E) := [(0, .aload_n 0, 1, 0, 0, 0, 0, 0, []), (1, .bipush 100, 2, 0, 0, 0, 0, 100, []), (3, .invokevirtual 589, 3, 229, 2, 1, 1890, 6, []), (6, .aload_n 0, 1, 0, 0, 0, 0, 0, []), (7, .getfield 127, 3, 6, 47, 3, 1112, 0, []), (10, .bipush 7, 2, 0, 0, 0, 0, 7, []),
  (12, .iaload, 1, 0, 0, 0, 0, 0, []), (13, .if_icmp .ge 10, 3, 23, 0, 0, 0, 0, []), (16, .aload_n 0, 1, 0, 0, 0, 0, 0, []), (17, .invokevirtual 405, 3, 159, 1, 1, 1620, 6, []), (20, .ifCond .ne 5, 3, 25, 0, 0, 0, 0, []), (23, .iconst 0, 1, 0, 0, 0, 0, 0, []),
  (24, .ireturn, 1, 0, 0, 4, 0, 0, []), (25, .aload_n 0, 1, 0, 0, 0, 0, 0, []), (26, .aload_n 0, 1, 0, 0, 0, 0, 0, []), (27, .invokevirtual 405, 3, 159, 1, 1, 1620, 6, []), (30, .invokevirtual 589, 3, 229, 2, 1, 1890, 6, []), (33, .istore_n 1, 1, 1, 0, 0, 0, 0, []),
  (34, .aload_n 0, 1, 0, 0, 0, 0, 0, []), (35, .iconst 0, 1, 0, 0, 0, 0, 0, []), (36, .iload_n 1, 1, 1, 0, 0, 0, 0, []), (37, .invokevirtual 442, 3, 173, 3, 1, 1664, 6, []), (40, .aload_n 0, 1, 0, 0, 0, 0, 0, []), (41, .iload_n 1, 1, 1, 0, 0, 0, 0, []),
  (42, .invokevirtual 445, 3, 164, 2, 1, 1636, 6, []), (45, .if_icmp .ne 5, 3, 50, 0, 0, 0, 0, []), (48, .iconst 0, 1, 0, 0, 0, 0, 0, []), (49, .ireturn, 1, 0, 0, 4, 0, 0, []), (50, .aload_n 0, 1, 0, 0, 0, 0, 0, []), (51, .iconst 0, 1, 0, 0, 0, 0, 0, []),
  (52, .iload_n 1, 1, 1, 0, 0, 0, 0, []), (53, .invokevirtual 490, 3, 180, 3, 0, 1757, 6, []), (56, .aload_n 0, 1, 0, 0, 0, 0, 0, []), (57, .bipush 9, 2, 0, 0, 0, 0, 9, []), (59, .iload_n 1, 1, 1, 0, 0, 0, 0, []), (60, .invokevirtual 496, 3, 181, 3, 0, 1769, 6, []),
  (63, .iconst 1, 1, 0, 0, 0, 0, 1, []), (64, .ireturn, 1, 0, 0, 4, 0, 0, [])]
noncomputable def am_s231 : am_S := (yX6_chance, cX6_chance, 4, (some .int), 1, 1, 2, 6, 1885, 1883, 1884, 175)
noncomputable def am_c231 : List (Nat × am_E) := [(0, .aload_n 0, 1, 0, 0, 0, 0, 0, []), (1, .iload_n 1, 1, 1, 0, 0, 0, 0, []), (2, .iconst 1, 1, 0, 0, 0, 0, 1, []), (3, .bipush 100, 2, 0, 0, 0, 0, 100, []), (5, .invokevirtual 531, 3, 191, 4, 4, 1732, 6, []), (8, .ifCond .ne 9, 3, 17, 0, 0, 0, 0, []),
  (11, .aload_n 0, 1, 0, 0, 0, 0, 0, []), (12, .iconst 3, 1, 0, 0, 0, 0, 3, []), (13, .invokevirtual 578, 3, 226, 2, 1, 1874, 6, []), (16, .ireturn, 1, 0, 0, 1, 0, 0, []), (17, .aload_n 0, 1, 0, 0, 0, 0, 0, []), (18, .invokevirtual 575, 3, 222, 1, 0, 1862, 6, []),
  (21, .iconst 0, 1, 0, 0, 0, 0, 0, []), (22, .istore_n 2, 1, 2, 0, 0, 0, 0, []), (23, .iconst 0, 1, 0, 0, 0, 0, 0, []), (24, .istore_n 3, 1, 3, 0, 0, 0, 0, []), (25, .iload_n 3, 1, 3, 0, 0, 0, 0, []), (26, .iload_n 1, 1, 1, 0, 0, 0, 0, []),
  (27, .if_icmp .ge 24, 3, 51, 0, 0, 0, 0, []), (30, .aload_n 0, 1, 0, 0, 0, 0, 0, []), (31, .invokevirtual 592, 3, 230, 1, 4, 1886, 6, []), (34, .ifCond .eq 6, 3, 40, 0, 0, 0, 0, []), (37, .iinc 2 1, 3, 2, 0, 0, 0, 1, []), (40, .aload_n 0, 1, 0, 0, 0, 0, 0, []),
  (41, .invokevirtual 502, 3, 186, 1, 1, 1745, 6, []), (44, .pop, 1, 0, 0, 0, 0, 0, []), (45, .iinc 3 1, 3, 3, 0, 0, 0, 1, []), (48, .goto (-23), 3, 25, 0, 0, 0, 0, []), (51, .iload_n 2, 1, 2, 0, 0, 0, 0, []), (52, .ireturn, 1, 0, 0, 1, 0, 0, [])]
noncomputable def am_s232 : am_S := (yX6_qCode, cX6_qCode, 2, none, 1, 0, 2, 6, 1494, 1493, 86, 175)
noncomputable def am_c232 : List (Nat × am_E) := [(0, .aload_n 0, 1, 0, 0, 0, 0, 0, []), (1, .getfield 227, 3, 6, 91, 3, 1156, 0, []), (4, .aload_n 0, 1, 0, 0, 0, 0, 0, []), (5, .getfield 338, 3, 6, 92, 1, 1157, 0, []), (8, .iload_n 1, 1, 1, 0, 0, 0, 0, []), (9, .iastore, 1, 0, 0, 0, 0, 0, []),
  (10, .aload_n 0, 1, 0, 0, 0, 0, 0, []), (11, .dup, 1, 0, 0, 0, 0, 0, []), (12, .getfield 338, 3, 6, 92, 1, 1157, 0, []), (15, .iconst 1, 1, 0, 0, 0, 0, 1, []), (16, .iadd, 1, 0, 0, 0, 0, 0, []), (17, .putfield 338, 3, 6, 92, 1, 1157, 0, []),
  (20, .return_, 1, 0, 0, 0, 0, 0, [])]
noncomputable def am_s233 : am_S := (yX6_qOpens, cX6_qOpens, 3, none, 1, 0, 3, 6, 1486, 1485, 84, 175)
noncomputable def am_c233 : List (Nat × am_E) := [(0, .aload_n 0, 1, 0, 0, 0, 0, 0, []), (1, .getfield 242, 3, 6, 5, 1, 1070, 0, []), (4, .ifCond .eq 4, 3, 8, 0, 0, 0, 0, []), (7, .return_, 1, 0, 0, 0, 0, 0, []), (8, .aload_n 0, 1, 0, 0, 0, 0, 0, []), (9, .getfield 344, 3, 6, 95, 1, 1160, 0, []),
  (12, .bipush 6, 2, 0, 0, 0, 0, 6, []), (14, .if_icmp .ne 10, 3, 24, 0, 0, 0, 0, []), (17, .aload_n 0, 1, 0, 0, 0, 0, 0, []), (18, .iconst 4, 1, 0, 0, 0, 0, 4, []), (19, .iload_n 2, 1, 2, 0, 0, 0, 0, []), (20, .invokevirtual 272, 3, 130, 3, 0, 1396, 6, []),
  (23, .return_, 1, 0, 0, 0, 0, 0, []), (24, .aload_n 0, 1, 0, 0, 0, 0, 0, []), (25, .dup, 1, 0, 0, 0, 0, 0, []), (26, .getfield 344, 3, 6, 95, 1, 1160, 0, []), (29, .iconst 1, 1, 0, 0, 0, 0, 1, []), (30, .iadd, 1, 0, 0, 0, 0, 0, []),
  (31, .putfield 344, 3, 6, 95, 1, 1160, 0, []), (34, .aload_n 0, 1, 0, 0, 0, 0, 0, []), (35, .getfield 230, 3, 6, 93, 3, 1158, 0, []), (38, .aload_n 0, 1, 0, 0, 0, 0, 0, []), (39, .getfield 341, 3, 6, 94, 1, 1159, 0, []), (42, .iload_n 1, 1, 1, 0, 0, 0, 0, []),
  (43, .iastore, 1, 0, 0, 0, 0, 0, []), (44, .aload_n 0, 1, 0, 0, 0, 0, 0, []), (45, .dup, 1, 0, 0, 0, 0, 0, []), (46, .getfield 341, 3, 6, 94, 1, 1159, 0, []), (49, .iconst 1, 1, 0, 0, 0, 0, 1, []), (50, .iadd, 1, 0, 0, 0, 0, 0, []),
  (51, .putfield 341, 3, 6, 94, 1, 1159, 0, []), (54, .return_, 1, 0, 0, 0, 0, 0, [])]
noncomputable def am_s234 : am_S := (yX6_qIsOn, cX6_qIsOn, 2, (some .boolean), 1, 4, 2, 6, 1555, 1554, 100, 175)
noncomputable def am_c234 : List (Nat × am_E) := [(0, .aload_n 0, 1, 0, 0, 0, 0, 0, []), (1, .getfield 341, 3, 6, 94, 1, 1159, 0, []), (4, .ifCond .le 22, 3, 26, 0, 0, 0, 0, []), (7, .aload_n 0, 1, 0, 0, 0, 0, 0, []), (8, .getfield 230, 3, 6, 93, 3, 1158, 0, []), (11, .aload_n 0, 1, 0, 0, 0, 0, 0, []),
  (12, .getfield 341, 3, 6, 94, 1, 1159, 0, []), (15, .iconst 1, 1, 0, 0, 0, 0, 1, []), (16, .isub, 1, 0, 0, 0, 0, 0, []), (17, .iaload, 1, 0, 0, 0, 0, 0, []), (18, .iload_n 1, 1, 1, 0, 0, 0, 0, []), (19, .if_icmp .ne 7, 3, 26, 0, 0, 0, 0, []),
  (22, .iconst 1, 1, 0, 0, 0, 0, 1, []), (23, .goto 4, 3, 27, 0, 0, 0, 0, []), (26, .iconst 0, 1, 0, 0, 0, 0, 0, []), (27, .ireturn, 1, 0, 0, 4, 0, 0, [])]
noncomputable def am_s235 : am_S := (yX6_qDrops, cX6_qDrops, 1, none, 1, 0, 1, 6, 1536, 1535, 96, 175)
noncomputable def am_c235 : List (Nat × am_E) := [(0, .aload_n 0, 1, 0, 0, 0, 0, 0, []), (1, .dup, 1, 0, 0, 0, 0, 0, []), (2, .getfield 341, 3, 6, 94, 1, 1159, 0, []), (5, .iconst 1, 1, 0, 0, 0, 0, 1, []), (6, .isub, 1, 0, 0, 0, 0, 0, []), (7, .putfield 341, 3, 6, 94, 1, 1159, 0, []),
  (10, .aload_n 0, 1, 0, 0, 0, 0, 0, []), (11, .aload_n 0, 1, 0, 0, 0, 0, 0, []), (12, .getfield 230, 3, 6, 93, 3, 1158, 0, []), (15, .aload_n 0, 1, 0, 0, 0, 0, 0, []), (16, .getfield 341, 3, 6, 94, 1, 1159, 0, []), (19, .iaload, 1, 0, 0, 0, 0, 0, []),
  (20, .invokevirtual 595, 3, 232, 2, 0, 1491, 6, []), (23, .return_, 1, 0, 0, 0, 0, 0, [])]
noncomputable def am_s236 : am_S := (yX6_qIsBracket, cX6_qIsBracket, 1, (some .boolean), 0, 4, 1, 6, 1547, 1546, 0, 175)
noncomputable def am_c236 : List (Nat × am_E) := [(0, .iload_n 0, 1, 0, 0, 0, 0, 0, []), (1, .bipush 20, 2, 0, 0, 0, 0, 20, []), (3, .if_icmp .lt 13, 3, 16, 0, 0, 0, 0, []), (6, .iload_n 0, 1, 0, 0, 0, 0, 0, []), (7, .bipush 24, 2, 0, 0, 0, 0, 24, []), (9, .if_icmp .gt 7, 3, 16, 0, 0, 0, 0, []),
  (12, .iconst 1, 1, 0, 0, 0, 0, 1, []), (13, .goto 4, 3, 17, 0, 0, 0, 0, []), (16, .iconst 0, 1, 0, 0, 0, 0, 0, []), (17, .ireturn, 1, 0, 0, 4, 0, 0, [])]
noncomputable def am_s237 : am_S := (yX6_qBracket, cX6_qBracket, 2, (some .int), 1, 1, 1, 6, 1544, 1543, 98, 175)
noncomputable def am_c237 : List (Nat × am_E) := [(0, .aload_n 0, 1, 0, 0, 0, 0, 0, []), (1, .getfield 341, 3, 6, 94, 1, 1159, 0, []), (4, .iconst 1, 1, 0, 0, 0, 0, 1, []), (5, .isub, 1, 0, 0, 0, 0, 0, []), (6, .istore_n 1, 1, 1, 0, 0, 0, 0, []), (7, .iload_n 1, 1, 1, 0, 0, 0, 0, []),
  (8, .aload_n 0, 1, 0, 0, 0, 0, 0, []), (9, .getfield 347, 3, 6, 96, 1, 1161, 0, []), (12, .if_icmp .lt 21, 3, 33, 0, 0, 0, 0, []), (15, .aload_n 0, 1, 0, 0, 0, 0, 0, []), (16, .getfield 230, 3, 6, 93, 3, 1158, 0, []), (19, .iload_n 1, 1, 1, 0, 0, 0, 0, []),
  (20, .iaload, 1, 0, 0, 0, 0, 0, []), (21, .invokestatic 598, 3, 236, 1, 4, 1545, 0, []), (24, .ifCond .ne 9, 3, 33, 0, 0, 0, 0, []), (27, .iinc 1 (-1), 3, 1, 0, 0, 0, (-1), []), (30, .goto (-23), 3, 7, 0, 0, 0, 0, []), (33, .iload_n 1, 1, 1, 0, 0, 0, 0, []),
  (34, .aload_n 0, 1, 0, 0, 0, 0, 0, []), (35, .getfield 347, 3, 6, 96, 1, 1161, 0, []), (38, .if_icmp .lt 12, 3, 50, 0, 0, 0, 0, []), (41, .aload_n 0, 1, 0, 0, 0, 0, 0, []), (42, .getfield 230, 3, 6, 93, 3, 1158, 0, []), (45, .iload_n 1, 1, 1, 0, 0, 0, 0, []),
  (46, .iaload, 1, 0, 0, 0, 0, 0, []), (47, .goto 4, 3, 51, 0, 0, 0, 0, []), (50, .iconst (-1), 1, 0, 0, 0, 0, (-1), []), (51, .ireturn, 1, 0, 0, 1, 0, 0, [])]
noncomputable def am_s238 : am_S := (yX6_qDropsToBracket, cX6_qDropsToBracket, 1, none, 1, 0, 1, 6, 1551, 1550, 99, 175)
noncomputable def am_c238 : List (Nat × am_E) := [(0, .aload_n 0, 1, 0, 0, 0, 0, 0, []), (1, .getfield 341, 3, 6, 94, 1, 1159, 0, []), (4, .aload_n 0, 1, 0, 0, 0, 0, 0, []), (5, .getfield 347, 3, 6, 96, 1, 1161, 0, []), (8, .if_icmp .le 27, 3, 35, 0, 0, 0, 0, []), (11, .aload_n 0, 1, 0, 0, 0, 0, 0, []),
  (12, .getfield 230, 3, 6, 93, 3, 1158, 0, []), (15, .aload_n 0, 1, 0, 0, 0, 0, 0, []), (16, .getfield 341, 3, 6, 94, 1, 1159, 0, []), (19, .iconst 1, 1, 0, 0, 0, 0, 1, []), (20, .isub, 1, 0, 0, 0, 0, 0, []), (21, .iaload, 1, 0, 0, 0, 0, 0, []),
  (22, .invokestatic 598, 3, 236, 1, 4, 1545, 0, []), (25, .ifCond .ne 10, 3, 35, 0, 0, 0, 0, []), (28, .aload_n 0, 1, 0, 0, 0, 0, 0, []), (29, .invokevirtual 601, 3, 235, 1, 0, 1533, 6, []), (32, .goto (-32), 3, 0, 0, 0, 0, 0, []), (35, .return_, 1, 0, 0, 0, 0, 0, [])]
noncomputable def am_s239 : am_S := (yX6_qWordHere, cX6_qWordHere, 1, (some .int), 1, 1, 1, 6, 1510, 1509, 90, 175)
noncomputable def am_c239 : List (Nat × am_E) := [(0, .aload_n 0, 1, 0, 0, 0, 0, 0, []), (1, .aload_n 0, 1, 0, 0, 0, 0, 0, []), (2, .getfield 203, 3, 6, 83, 3, 1148, 0, []), (5, .invokevirtual 265, 3, 134, 2, 4, 1404, 6, []), (8, .ifCond .eq 5, 3, 13, 0, 0, 0, 0, []), (11, .iconst 0, 1, 0, 0, 0, 0, 0, []),
  (12, .ireturn, 1, 0, 0, 1, 0, 0, []), (13, .aload_n 0, 1, 0, 0, 0, 0, 0, []), (14, .aload_n 0, 1, 0, 0, 0, 0, 0, []), (15, .getfield 206, 3, 6, 84, 3, 1149, 0, []), (18, .invokevirtual 265, 3, 134, 2, 4, 1404, 6, []), (21, .ifCond .eq 5, 3, 26, 0, 0, 0, 0, []),
  (24, .iconst 1, 1, 0, 0, 0, 0, 1, []), (25, .ireturn, 1, 0, 0, 1, 0, 0, []), (26, .aload_n 0, 1, 0, 0, 0, 0, 0, []), (27, .aload_n 0, 1, 0, 0, 0, 0, 0, []), (28, .getfield 209, 3, 6, 85, 3, 1150, 0, []), (31, .invokevirtual 265, 3, 134, 2, 4, 1404, 6, []),
  (34, .ifCond .eq 18, 3, 52, 0, 0, 0, 0, []), (37, .aload_n 0, 1, 0, 0, 0, 0, 0, []), (38, .getfield 297, 3, 6, 53, 1, 1118, 0, []), (41, .iconst 3, 1, 0, 0, 0, 0, 3, []), (42, .if_icmp .ne 8, 3, 50, 0, 0, 0, 0, []), (45, .bipush 8, 2, 0, 0, 0, 0, 8, []),
  (47, .goto 4, 3, 51, 0, 0, 0, 0, []), (50, .iconst 2, 1, 0, 0, 0, 0, 2, []), (51, .ireturn, 1, 0, 0, 1, 0, 0, []), (52, .aload_n 0, 1, 0, 0, 0, 0, 0, []), (53, .aload_n 0, 1, 0, 0, 0, 0, 0, []), (54, .getfield 212, 3, 6, 86, 3, 1151, 0, []),
  (57, .invokevirtual 265, 3, 134, 2, 4, 1404, 6, []), (60, .ifCond .eq 5, 3, 65, 0, 0, 0, 0, []), (63, .iconst 3, 1, 0, 0, 0, 0, 3, []), (64, .ireturn, 1, 0, 0, 1, 0, 0, []), (65, .aload_n 0, 1, 0, 0, 0, 0, 0, []), (66, .aload_n 0, 1, 0, 0, 0, 0, 0, []),
  (67, .getfield 215, 3, 6, 87, 3, 1152, 0, []), (70, .invokevirtual 265, 3, 134, 2, 4, 1404, 6, []), (73, .ifCond .eq 5, 3, 78, 0, 0, 0, 0, []), (76, .iconst 4, 1, 0, 0, 0, 0, 4, []), (77, .ireturn, 1, 0, 0, 1, 0, 0, []), (78, .aload_n 0, 1, 0, 0, 0, 0, 0, []),
  (79, .aload_n 0, 1, 0, 0, 0, 0, 0, []), (80, .getfield 218, 3, 6, 88, 3, 1153, 0, []), (83, .invokevirtual 265, 3, 134, 2, 4, 1404, 6, []), (86, .ifCond .eq 5, 3, 91, 0, 0, 0, 0, []), (89, .iconst 5, 1, 0, 0, 0, 0, 5, []), (90, .ireturn, 1, 0, 0, 1, 0, 0, []),
  (91, .aload_n 0, 1, 0, 0, 0, 0, 0, []), (92, .aload_n 0, 1, 0, 0, 0, 0, 0, []), (93, .getfield 221, 3, 6, 89, 3, 1154, 0, []), (96, .invokevirtual 265, 3, 134, 2, 4, 1404, 6, []), (99, .ifCond .eq 6, 3, 105, 0, 0, 0, 0, []), (102, .bipush 6, 2, 0, 0, 0, 0, 6, []),
  (104, .ireturn, 1, 0, 0, 1, 0, 0, []), (105, .aload_n 0, 1, 0, 0, 0, 0, 0, []), (106, .aload_n 0, 1, 0, 0, 0, 0, 0, []), (107, .getfield 224, 3, 6, 90, 3, 1155, 0, []), (110, .invokevirtual 265, 3, 134, 2, 4, 1404, 6, []), (113, .ifCond .eq 6, 3, 119, 0, 0, 0, 0, []),
  (116, .bipush 7, 2, 0, 0, 0, 0, 7, []), (118, .ireturn, 1, 0, 0, 1, 0, 0, []), (119, .iconst (-1), 1, 0, 0, 0, 0, (-1), []), (120, .ireturn, 1, 0, 0, 1, 0, 0, [])]
noncomputable def am_s240 : am_S := (yX6_qWordOf, cX6_qWordOf, 4, (some .int), 1, 1, 3, 6, 1506, 1505, 89, 175)
noncomputable def am_c240 : List (Nat × am_E) := [(0, .aload_n 0, 1, 0, 0, 0, 0, 0, []), (1, .invokevirtual 604, 3, 239, 1, 1, 1507, 6, []), (4, .istore_n 3, 1, 3, 0, 0, 0, 0, []), (5, .iload_n 3, 1, 3, 0, 0, 0, 0, []), (6, .iload_n 1, 1, 1, 0, 0, 0, 0, []), (7, .if_icmp .lt 20, 3, 27, 0, 0, 0, 0, []),
  (10, .iload_n 3, 1, 3, 0, 0, 0, 0, []), (11, .iload_n 2, 1, 2, 0, 0, 0, 0, []), (12, .if_icmp .ge 15, 3, 27, 0, 0, 0, 0, []), (15, .aload_n 0, 1, 0, 0, 0, 0, 0, []), (16, .iload_n 3, 1, 3, 0, 0, 0, 0, []), (17, .invokevirtual 607, 3, 142, 2, 4, 1511, 6, []),
  (20, .ifCond .eq 7, 3, 27, 0, 0, 0, 0, []), (23, .iload_n 3, 1, 3, 0, 0, 0, 0, []), (24, .goto 4, 3, 28, 0, 0, 0, 0, []), (27, .iconst (-1), 1, 0, 0, 0, 0, (-1), []), (28, .ireturn, 1, 0, 0, 1, 0, 0, [])]
noncomputable def am_s241 : am_S := (yX6_qAsksWord, cX6_qAsksWord, 2, none, 1, 0, 2, 6, 1528, 1527, 94, 175)
noncomputable def am_c241 : List (Nat × am_E) := [(0, .iload_n 1, 1, 1, 0, 0, 0, 0, []), (1, .tableswitch 135 0 7 #[47, 58, 69, 80, 91, 102, 113, 124], 47, 136, 0, 0, 0, 0, [(0, 48), (1, 59), (2, 70), (3, 81), (4, 92), (5, 103), (6, 114), (7, 125)]), (48, .aload_n 0, 1, 0, 0, 0, 0, 0, []), (49, .aload_n 0, 1, 0, 0, 0, 0, 0, []), (50, .getfield 203, 3, 6, 83, 3, 1148, 0, []), (53, .invokevirtual 323, 3, 136, 2, 0, 1445, 6, []),
  (56, .goto 88, 3, 144, 0, 0, 0, 0, []), (59, .aload_n 0, 1, 0, 0, 0, 0, 0, []), (60, .aload_n 0, 1, 0, 0, 0, 0, 0, []), (61, .getfield 206, 3, 6, 84, 3, 1149, 0, []), (64, .invokevirtual 323, 3, 136, 2, 0, 1445, 6, []), (67, .goto 77, 3, 144, 0, 0, 0, 0, []),
  (70, .aload_n 0, 1, 0, 0, 0, 0, 0, []), (71, .aload_n 0, 1, 0, 0, 0, 0, 0, []), (72, .getfield 209, 3, 6, 85, 3, 1150, 0, []), (75, .invokevirtual 323, 3, 136, 2, 0, 1445, 6, []), (78, .goto 66, 3, 144, 0, 0, 0, 0, []), (81, .aload_n 0, 1, 0, 0, 0, 0, 0, []),
  (82, .aload_n 0, 1, 0, 0, 0, 0, 0, []), (83, .getfield 212, 3, 6, 86, 3, 1151, 0, []), (86, .invokevirtual 323, 3, 136, 2, 0, 1445, 6, []), (89, .goto 55, 3, 144, 0, 0, 0, 0, []), (92, .aload_n 0, 1, 0, 0, 0, 0, 0, []), (93, .aload_n 0, 1, 0, 0, 0, 0, 0, []),
  (94, .getfield 215, 3, 6, 87, 3, 1152, 0, []), (97, .invokevirtual 323, 3, 136, 2, 0, 1445, 6, []), (100, .goto 44, 3, 144, 0, 0, 0, 0, []), (103, .aload_n 0, 1, 0, 0, 0, 0, 0, []), (104, .aload_n 0, 1, 0, 0, 0, 0, 0, []), (105, .getfield 218, 3, 6, 88, 3, 1153, 0, []),
  (108, .invokevirtual 323, 3, 136, 2, 0, 1445, 6, []), (111, .goto 33, 3, 144, 0, 0, 0, 0, []), (114, .aload_n 0, 1, 0, 0, 0, 0, 0, []), (115, .aload_n 0, 1, 0, 0, 0, 0, 0, []), (116, .getfield 221, 3, 6, 89, 3, 1154, 0, []), (119, .invokevirtual 323, 3, 136, 2, 0, 1445, 6, []),
  (122, .goto 22, 3, 144, 0, 0, 0, 0, []), (125, .aload_n 0, 1, 0, 0, 0, 0, 0, []), (126, .aload_n 0, 1, 0, 0, 0, 0, 0, []), (127, .getfield 224, 3, 6, 90, 3, 1155, 0, []), (130, .invokevirtual 323, 3, 136, 2, 0, 1445, 6, []), (133, .goto 11, 3, 144, 0, 0, 0, 0, []),
  (136, .aload_n 0, 1, 0, 0, 0, 0, 0, []), (137, .aload_n 0, 1, 0, 0, 0, 0, 0, []), (138, .getfield 209, 3, 6, 85, 3, 1150, 0, []), (141, .invokevirtual 323, 3, 136, 2, 0, 1445, 6, []), (144, .return_, 1, 0, 0, 0, 0, 0, [])]
noncomputable def am_s242 : am_S := (yX6_qEndsPart, cX6_qEndsPart, 1, none, 1, 0, 1, 6, 1532, 1531, 95, 175)
noncomputable def am_c242 : List (Nat × am_E) := [(0, .aload_n 0, 1, 0, 0, 0, 0, 0, []), (1, .getfield 242, 3, 6, 5, 1, 1070, 0, []), (4, .ifCond .ne 47, 3, 51, 0, 0, 0, 0, []), (7, .aload_n 0, 1, 0, 0, 0, 0, 0, []), (8, .getfield 341, 3, 6, 94, 1, 1159, 0, []), (11, .aload_n 0, 1, 0, 0, 0, 0, 0, []),
  (12, .getfield 347, 3, 6, 96, 1, 1161, 0, []), (15, .if_icmp .le 36, 3, 51, 0, 0, 0, 0, []), (18, .aload_n 0, 1, 0, 0, 0, 0, 0, []), (19, .getfield 230, 3, 6, 93, 3, 1158, 0, []), (22, .aload_n 0, 1, 0, 0, 0, 0, 0, []), (23, .getfield 341, 3, 6, 94, 1, 1159, 0, []),
  (26, .iconst 1, 1, 0, 0, 0, 0, 1, []), (27, .isub, 1, 0, 0, 0, 0, 0, []), (28, .iaload, 1, 0, 0, 0, 0, 0, []), (29, .bipush 60, 2, 0, 0, 0, 0, 60, []), (31, .if_icmp .lt 20, 3, 51, 0, 0, 0, 0, []), (34, .aload_n 0, 1, 0, 0, 0, 0, 0, []),
  (35, .dup, 1, 0, 0, 0, 0, 0, []), (36, .getfield 344, 3, 6, 95, 1, 1160, 0, []), (39, .iconst 1, 1, 0, 0, 0, 0, 1, []), (40, .isub, 1, 0, 0, 0, 0, 0, []), (41, .putfield 344, 3, 6, 95, 1, 1160, 0, []), (44, .aload_n 0, 1, 0, 0, 0, 0, 0, []),
  (45, .invokevirtual 601, 3, 235, 1, 0, 1533, 6, []), (48, .goto (-48), 3, 0, 0, 0, 0, 0, []), (51, .return_, 1, 0, 0, 0, 0, 0, [])]
noncomputable def am_s243 : am_S := (yX6_qPartTold, cX6_qPartTold, 6, none, 1, 0, 1, 6, 1502, 1501, 88, 175)
noncomputable def am_c243_0 : List (Nat × am_E) := [(0, .iconst 1, 1, 0, 0, 0, 0, 1, []), (1, .istore_n 1, 1, 1, 0, 0, 0, 0, []), (2, .iload_n 1, 1, 1, 0, 0, 0, 0, []), (3, .ifCond .eq 183, 3, 186, 0, 0, 0, 0, []), (6, .aload_n 0, 1, 0, 0, 0, 0, 0, []), (7, .getfield 242, 3, 6, 5, 1, 1070, 0, []),
  (10, .ifCond .ne 176, 3, 186, 0, 0, 0, 0, []), (13, .aload_n 0, 1, 0, 0, 0, 0, 0, []), (14, .invokevirtual 254, 3, 133, 1, 1, 1388, 6, []), (17, .istore_n 2, 1, 2, 0, 0, 0, 0, []), (18, .aload_n 0, 1, 0, 0, 0, 0, 0, []), (19, .bipush 8, 2, 0, 0, 0, 0, 8, []),
  (21, .bipush 9, 2, 0, 0, 0, 0, 9, []), (23, .invokevirtual 610, 3, 240, 3, 1, 1503, 6, []), (26, .istore_n 3, 1, 3, 0, 0, 0, 0, []), (27, .iload_n 2, 1, 2, 0, 0, 0, 0, []), (28, .bipush 40, 2, 0, 0, 0, 0, 40, []), (30, .if_icmp .ne 26, 3, 56, 0, 0, 0, 0, []),
  (33, .aload_n 0, 1, 0, 0, 0, 0, 0, []), (34, .bipush 20, 2, 0, 0, 0, 0, 20, []), (36, .aload_n 0, 1, 0, 0, 0, 0, 0, []), (37, .getfield 248, 3, 6, 2, 1, 1067, 0, []), (40, .invokevirtual 613, 3, 233, 3, 0, 1483, 6, []), (43, .aload_n 0, 1, 0, 0, 0, 0, 0, []),
  (44, .dup, 1, 0, 0, 0, 0, 0, []), (45, .getfield 248, 3, 6, 2, 1, 1067, 0, []), (48, .iconst 1, 1, 0, 0, 0, 0, 1, []), (49, .iadd, 1, 0, 0, 0, 0, 0, []), (50, .putfield 248, 3, 6, 2, 1, 1067, 0, []), (53, .goto 130, 3, 183, 0, 0, 0, 0, []),
  (56, .aload_n 0, 1, 0, 0, 0, 0, 0, []), (57, .aload_n 0, 1, 0, 0, 0, 0, 0, []), (58, .getfield 197, 3, 6, 81, 3, 1146, 0, []), (61, .invokevirtual 265, 3, 134, 2, 4, 1404, 6, []), (64, .ifCond .ne 14, 3, 78, 0, 0, 0, 0, []), (67, .aload_n 0, 1, 0, 0, 0, 0, 0, []),
  (68, .aload_n 0, 1, 0, 0, 0, 0, 0, []), (69, .getfield 200, 3, 6, 82, 3, 1147, 0, []), (72, .invokevirtual 265, 3, 134, 2, 4, 1404, 6, []), (75, .ifCond .eq 78, 3, 153, 0, 0, 0, 0, []), (78, .aload_n 0, 1, 0, 0, 0, 0, 0, []), (79, .aload_n 0, 1, 0, 0, 0, 0, 0, []),
  (80, .getfield 197, 3, 6, 81, 3, 1146, 0, []), (83, .invokevirtual 269, 3, 135, 2, 4, 1400, 6, []), (86, .istore 4, 2, 4, 0, 0, 0, 0, []), (88, .iload 4, 2, 4, 0, 0, 0, 0, []), (90, .ifCond .ne 11, 3, 101, 0, 0, 0, 0, []), (93, .aload_n 0, 1, 0, 0, 0, 0, 0, []),
  (94, .aload_n 0, 1, 0, 0, 0, 0, 0, []), (95, .getfield 200, 3, 6, 82, 3, 1147, 0, []), (98, .invokevirtual 323, 3, 136, 2, 0, 1445, 6, []), (101, .aload_n 0, 1, 0, 0, 0, 0, 0, []), (102, .invokevirtual 254, 3, 133, 1, 1, 1388, 6, []), (105, .bipush 40, 2, 0, 0, 0, 0, 40, []),
  (107, .if_icmp .ne 10, 3, 117, 0, 0, 0, 0, []), (110, .aload_n 0, 1, 0, 0, 0, 0, 0, []), (111, .getfield 248, 3, 6, 2, 1, 1067, 0, []), (114, .goto 4, 3, 118, 0, 0, 0, 0, []), (117, .iconst (-1), 1, 0, 0, 0, 0, (-1), []), (118, .istore 5, 2, 5, 0, 0, 0, 0, []),
  (120, .iload 5, 2, 5, 0, 0, 0, 0, []), (122, .iconst (-1), 1, 0, 0, 0, 0, (-1), []), (123, .if_icmp .eq 21, 3, 144, 0, 0, 0, 0, []), (126, .aload_n 0, 1, 0, 0, 0, 0, 0, []), (127, .iload 4, 2, 4, 0, 0, 0, 0, []), (129, .ifCond .eq 8, 3, 137, 0, 0, 0, 0, []),
  (132, .bipush 21, 2, 0, 0, 0, 0, 21, []), (134, .goto 5, 3, 139, 0, 0, 0, 0, []), (137, .bipush 22, 2, 0, 0, 0, 0, 22, []), (139, .iload 5, 2, 5, 0, 0, 0, 0, []), (141, .invokevirtual 613, 3, 233, 3, 0, 1483, 6, []), (144, .aload_n 0, 1, 0, 0, 0, 0, 0, []),
  (145, .bipush 40, 2, 0, 0, 0, 0, 40, []), (147, .invokevirtual 381, 3, 138, 2, 0, 1517, 6, []), (150, .goto 33, 3, 183, 0, 0, 0, 0, []), (153, .iload_n 3, 1, 3, 0, 0, 0, 0, []), (154, .iconst (-1), 1, 0, 0, 0, 0, (-1), []), (155, .if_icmp .eq 26, 3, 181, 0, 0, 0, 0, []),
  (158, .aload_n 0, 1, 0, 0, 0, 0, 0, []), (159, .bipush 60, 2, 0, 0, 0, 0, 60, []), (161, .iload_n 3, 1, 3, 0, 0, 0, 0, []), (162, .iadd, 1, 0, 0, 0, 0, 0, []), (163, .bipush 8, 2, 0, 0, 0, 0, 8, []), (165, .isub, 1, 0, 0, 0, 0, 0, []),
  (166, .aload_n 0, 1, 0, 0, 0, 0, 0, []), (167, .getfield 248, 3, 6, 2, 1, 1067, 0, []), (170, .invokevirtual 613, 3, 233, 3, 0, 1483, 6, []), (173, .aload_n 0, 1, 0, 0, 0, 0, 0, []), (174, .iload_n 3, 1, 3, 0, 0, 0, 0, []), (175, .invokevirtual 616, 3, 241, 2, 0, 1525, 6, []),
  (178, .goto 5, 3, 183, 0, 0, 0, 0, []), (181, .iconst 0, 1, 0, 0, 0, 0, 0, []), (182, .istore_n 1, 1, 1, 0, 0, 0, 0, []), (183, .goto (-181), 3, 2, 0, 0, 0, 0, []), (186, .aload_n 0, 1, 0, 0, 0, 0, 0, []), (187, .getfield 242, 3, 6, 5, 1, 1070, 0, []),
  (190, .ifCond .eq 4, 3, 194, 0, 0, 0, 0, []), (193, .return_, 1, 0, 0, 0, 0, 0, []), (194, .aload_n 0, 1, 0, 0, 0, 0, 0, []), (195, .iconst 0, 1, 0, 0, 0, 0, 0, [])]
noncomputable def am_c243_1 : List (Nat × am_E) := [(196, .bipush 8, 2, 0, 0, 0, 0, 8, []), (198, .invokevirtual 610, 3, 240, 3, 1, 1503, 6, []), (201, .istore_n 2, 1, 2, 0, 0, 0, 0, []), (202, .iload_n 2, 1, 2, 0, 0, 0, 0, []), (203, .iconst (-1), 1, 0, 0, 0, 0, (-1), []), (204, .if_icmp .eq 8, 3, 212, 0, 0, 0, 0, []),
  (207, .aload_n 0, 1, 0, 0, 0, 0, 0, []), (208, .iload_n 2, 1, 2, 0, 0, 0, 0, []), (209, .invokevirtual 616, 3, 241, 2, 0, 1525, 6, []), (212, .aload_n 0, 1, 0, 0, 0, 0, 0, []), (213, .iload_n 2, 1, 2, 0, 0, 0, 0, []), (214, .iconst (-1), 1, 0, 0, 0, 0, (-1), []),
  (215, .if_icmp .eq 10, 3, 225, 0, 0, 0, 0, []), (218, .bipush 40, 2, 0, 0, 0, 0, 40, []), (220, .iload_n 2, 1, 2, 0, 0, 0, 0, []), (221, .iadd, 1, 0, 0, 0, 0, 0, []), (222, .goto 15, 3, 237, 0, 0, 0, 0, []), (225, .sipush 1000, 3, 0, 0, 0, 0, 1000, []),
  (228, .aload_n 0, 1, 0, 0, 0, 0, 0, []), (229, .iconst 0, 1, 0, 0, 0, 0, 0, []), (230, .sipush 9999, 3, 0, 0, 0, 0, 9999, []), (233, .invokevirtual 327, 3, 139, 3, 1, 1449, 6, []), (236, .iadd, 1, 0, 0, 0, 0, 0, []), (237, .invokevirtual 595, 3, 232, 2, 0, 1491, 6, []),
  (240, .aload_n 0, 1, 0, 0, 0, 0, 0, []), (241, .invokevirtual 619, 3, 242, 1, 0, 1529, 6, []), (244, .return_, 1, 0, 0, 0, 0, 0, [])]
noncomputable def am_c243 : List (Nat × am_E) := am_c243_0 ++ (am_c243_1)
noncomputable def am_s244 : am_S := (yX6_qGoesOn, cX6_qGoesOn, 2, (some .boolean), 1, 4, 1, 6, 1540, 1539, 97, 175)
noncomputable def am_c244_0 : List (Nat × am_E) := [(0, .aload_n 0, 1, 0, 0, 0, 0, 0, []), (1, .getfield 242, 3, 6, 5, 1, 1070, 0, []), (4, .ifCond .ne 118, 3, 122, 0, 0, 0, 0, []), (7, .aload_n 0, 1, 0, 0, 0, 0, 0, []), (8, .invokevirtual 254, 3, 133, 1, 1, 1388, 6, []), (11, .bipush 41, 2, 0, 0, 0, 0, 41, []),
  (13, .if_icmp .ne 109, 3, 122, 0, 0, 0, 0, []), (16, .aload_n 0, 1, 0, 0, 0, 0, 0, []), (17, .invokevirtual 622, 3, 237, 1, 1, 1541, 6, []), (20, .bipush 20, 2, 0, 0, 0, 0, 20, []), (22, .if_icmp .eq 21, 3, 43, 0, 0, 0, 0, []), (25, .aload_n 0, 1, 0, 0, 0, 0, 0, []),
  (26, .invokevirtual 622, 3, 237, 1, 1, 1541, 6, []), (29, .bipush 23, 2, 0, 0, 0, 0, 23, []), (31, .if_icmp .eq 12, 3, 43, 0, 0, 0, 0, []), (34, .aload_n 0, 1, 0, 0, 0, 0, 0, []), (35, .invokevirtual 622, 3, 237, 1, 1, 1541, 6, []), (38, .bipush 24, 2, 0, 0, 0, 0, 24, []),
  (40, .if_icmp .ne 82, 3, 122, 0, 0, 0, 0, []), (43, .aload_n 0, 1, 0, 0, 0, 0, 0, []), (44, .dup, 1, 0, 0, 0, 0, 0, []), (45, .getfield 248, 3, 6, 2, 1, 1067, 0, []), (48, .iconst 1, 1, 0, 0, 0, 0, 1, []), (49, .iadd, 1, 0, 0, 0, 0, 0, []),
  (50, .putfield 248, 3, 6, 2, 1, 1067, 0, []), (53, .aload_n 0, 1, 0, 0, 0, 0, 0, []), (54, .invokevirtual 625, 3, 238, 1, 0, 1548, 6, []), (57, .aload_n 0, 1, 0, 0, 0, 0, 0, []), (58, .dup, 1, 0, 0, 0, 0, 0, []), (59, .getfield 341, 3, 6, 94, 1, 1159, 0, []),
  (62, .iconst 1, 1, 0, 0, 0, 0, 1, []), (63, .isub, 1, 0, 0, 0, 0, 0, []), (64, .putfield 341, 3, 6, 94, 1, 1159, 0, []), (67, .aload_n 0, 1, 0, 0, 0, 0, 0, []), (68, .dup, 1, 0, 0, 0, 0, 0, []), (69, .getfield 344, 3, 6, 95, 1, 1160, 0, []),
  (72, .iconst 1, 1, 0, 0, 0, 0, 1, []), (73, .isub, 1, 0, 0, 0, 0, 0, []), (74, .putfield 344, 3, 6, 95, 1, 1160, 0, []), (77, .aload_n 0, 1, 0, 0, 0, 0, 0, []), (78, .getfield 230, 3, 6, 93, 3, 1158, 0, []), (81, .aload_n 0, 1, 0, 0, 0, 0, 0, []),
  (82, .getfield 341, 3, 6, 94, 1, 1159, 0, []), (85, .iaload, 1, 0, 0, 0, 0, 0, []), (86, .bipush 20, 2, 0, 0, 0, 0, 20, []), (88, .if_icmp .eq 27, 3, 115, 0, 0, 0, 0, []), (91, .aload_n 0, 1, 0, 0, 0, 0, 0, []), (92, .aload_n 0, 1, 0, 0, 0, 0, 0, []),
  (93, .getfield 230, 3, 6, 93, 3, 1158, 0, []), (96, .aload_n 0, 1, 0, 0, 0, 0, 0, []), (97, .getfield 341, 3, 6, 94, 1, 1159, 0, []), (100, .iaload, 1, 0, 0, 0, 0, 0, []), (101, .bipush 23, 2, 0, 0, 0, 0, 23, []), (103, .if_icmp .ne 7, 3, 110, 0, 0, 0, 0, []),
  (106, .iconst 5, 1, 0, 0, 0, 0, 5, []), (107, .goto 5, 3, 112, 0, 0, 0, 0, []), (110, .bipush 6, 2, 0, 0, 0, 0, 6, []), (112, .invokevirtual 595, 3, 232, 2, 0, 1491, 6, []), (115, .aload_n 0, 1, 0, 0, 0, 0, 0, []), (116, .invokevirtual 619, 3, 242, 1, 0, 1529, 6, []),
  (119, .goto (-119), 3, 0, 0, 0, 0, 0, []), (122, .aload_n 0, 1, 0, 0, 0, 0, 0, []), (123, .bipush 42, 2, 0, 0, 0, 0, 42, []), (125, .invokevirtual 276, 3, 137, 2, 4, 1521, 6, []), (128, .ifCond .ne 12, 3, 140, 0, 0, 0, 0, []), (131, .aload_n 0, 1, 0, 0, 0, 0, 0, []),
  (132, .bipush 47, 2, 0, 0, 0, 0, 47, []), (134, .invokevirtual 276, 3, 137, 2, 4, 1521, 6, []), (137, .ifCond .eq 70, 3, 207, 0, 0, 0, 0, []), (140, .aload_n 0, 1, 0, 0, 0, 0, 0, []), (141, .getfield 7, 3, 6, 0, 3, 1065, 0, []), (144, .aload_n 0, 1, 0, 0, 0, 0, 0, []),
  (145, .getfield 248, 3, 6, 2, 1, 1067, 0, []), (148, .iconst 1, 1, 0, 0, 0, 0, 1, []), (149, .isub, 1, 0, 0, 0, 0, 0, []), (150, .iaload, 1, 0, 0, 0, 0, 0, []), (151, .bipush 42, 2, 0, 0, 0, 0, 42, []), (153, .if_icmp .ne 7, 3, 160, 0, 0, 0, 0, []),
  (156, .iconst 3, 1, 0, 0, 0, 0, 3, []), (157, .goto 4, 3, 161, 0, 0, 0, 0, []), (160, .iconst 4, 1, 0, 0, 0, 0, 4, []), (161, .istore_n 1, 1, 1, 0, 0, 0, 0, []), (162, .aload_n 0, 1, 0, 0, 0, 0, 0, []), (163, .iconst 3, 1, 0, 0, 0, 0, 3, []),
  (164, .invokevirtual 628, 3, 234, 2, 4, 1552, 6, []), (167, .ifCond .ne 11, 3, 178, 0, 0, 0, 0, []), (170, .aload_n 0, 1, 0, 0, 0, 0, 0, []), (171, .iconst 4, 1, 0, 0, 0, 0, 4, []), (172, .invokevirtual 628, 3, 234, 2, 4, 1552, 6, []), (175, .ifCond .eq 10, 3, 185, 0, 0, 0, 0, []),
  (178, .aload_n 0, 1, 0, 0, 0, 0, 0, []), (179, .invokevirtual 601, 3, 235, 1, 0, 1533, 6, []), (182, .goto (-20), 3, 162, 0, 0, 0, 0, []), (185, .aload_n 0, 1, 0, 0, 0, 0, 0, []), (186, .getfield 230, 3, 6, 93, 3, 1158, 0, []), (189, .aload_n 0, 1, 0, 0, 0, 0, 0, []),
  (190, .getfield 341, 3, 6, 94, 1, 1159, 0, []), (193, .iload_n 1, 1, 1, 0, 0, 0, 0, []), (194, .iastore, 1, 0, 0, 0, 0, 0, []), (195, .aload_n 0, 1, 0, 0, 0, 0, 0, [])]
noncomputable def am_c244_1 : List (Nat × am_E) := [(196, .dup, 1, 0, 0, 0, 0, 0, []), (197, .getfield 341, 3, 6, 94, 1, 1159, 0, []), (200, .iconst 1, 1, 0, 0, 0, 0, 1, []), (201, .iadd, 1, 0, 0, 0, 0, 0, []), (202, .putfield 341, 3, 6, 94, 1, 1159, 0, []), (205, .iconst 1, 1, 0, 0, 0, 0, 1, []),
  (206, .ireturn, 1, 0, 0, 4, 0, 0, []), (207, .aload_n 0, 1, 0, 0, 0, 0, 0, []), (208, .bipush 43, 2, 0, 0, 0, 0, 43, []), (210, .invokevirtual 276, 3, 137, 2, 4, 1521, 6, []), (213, .ifCond .ne 12, 3, 225, 0, 0, 0, 0, []), (216, .aload_n 0, 1, 0, 0, 0, 0, 0, []),
  (217, .bipush 45, 2, 0, 0, 0, 0, 45, []), (219, .invokevirtual 276, 3, 137, 2, 4, 1521, 6, []), (222, .ifCond .eq 86, 3, 308, 0, 0, 0, 0, []), (225, .aload_n 0, 1, 0, 0, 0, 0, 0, []), (226, .getfield 7, 3, 6, 0, 3, 1065, 0, []), (229, .aload_n 0, 1, 0, 0, 0, 0, 0, []),
  (230, .getfield 248, 3, 6, 2, 1, 1067, 0, []), (233, .iconst 1, 1, 0, 0, 0, 0, 1, []), (234, .isub, 1, 0, 0, 0, 0, 0, []), (235, .iaload, 1, 0, 0, 0, 0, 0, []), (236, .bipush 43, 2, 0, 0, 0, 0, 43, []), (238, .if_icmp .ne 7, 3, 245, 0, 0, 0, 0, []),
  (241, .iconst 1, 1, 0, 0, 0, 0, 1, []), (242, .goto 4, 3, 246, 0, 0, 0, 0, []), (245, .iconst 2, 1, 0, 0, 0, 0, 2, []), (246, .istore_n 1, 1, 1, 0, 0, 0, 0, []), (247, .aload_n 0, 1, 0, 0, 0, 0, 0, []), (248, .iconst 3, 1, 0, 0, 0, 0, 3, []),
  (249, .invokevirtual 628, 3, 234, 2, 4, 1552, 6, []), (252, .ifCond .ne 27, 3, 279, 0, 0, 0, 0, []), (255, .aload_n 0, 1, 0, 0, 0, 0, 0, []), (256, .iconst 4, 1, 0, 0, 0, 0, 4, []), (257, .invokevirtual 628, 3, 234, 2, 4, 1552, 6, []), (260, .ifCond .ne 19, 3, 279, 0, 0, 0, 0, []),
  (263, .aload_n 0, 1, 0, 0, 0, 0, 0, []), (264, .iconst 1, 1, 0, 0, 0, 0, 1, []), (265, .invokevirtual 628, 3, 234, 2, 4, 1552, 6, []), (268, .ifCond .ne 11, 3, 279, 0, 0, 0, 0, []), (271, .aload_n 0, 1, 0, 0, 0, 0, 0, []), (272, .iconst 2, 1, 0, 0, 0, 0, 2, []),
  (273, .invokevirtual 628, 3, 234, 2, 4, 1552, 6, []), (276, .ifCond .eq 10, 3, 286, 0, 0, 0, 0, []), (279, .aload_n 0, 1, 0, 0, 0, 0, 0, []), (280, .invokevirtual 601, 3, 235, 1, 0, 1533, 6, []), (283, .goto (-36), 3, 247, 0, 0, 0, 0, []), (286, .aload_n 0, 1, 0, 0, 0, 0, 0, []),
  (287, .getfield 230, 3, 6, 93, 3, 1158, 0, []), (290, .aload_n 0, 1, 0, 0, 0, 0, 0, []), (291, .getfield 341, 3, 6, 94, 1, 1159, 0, []), (294, .iload_n 1, 1, 1, 0, 0, 0, 0, []), (295, .iastore, 1, 0, 0, 0, 0, 0, []), (296, .aload_n 0, 1, 0, 0, 0, 0, 0, []),
  (297, .dup, 1, 0, 0, 0, 0, 0, []), (298, .getfield 341, 3, 6, 94, 1, 1159, 0, []), (301, .iconst 1, 1, 0, 0, 0, 0, 1, []), (302, .iadd, 1, 0, 0, 0, 0, 0, []), (303, .putfield 341, 3, 6, 94, 1, 1159, 0, []), (306, .iconst 1, 1, 0, 0, 0, 0, 1, []),
  (307, .ireturn, 1, 0, 0, 4, 0, 0, []), (308, .aload_n 0, 1, 0, 0, 0, 0, 0, []), (309, .invokevirtual 622, 3, 237, 1, 1, 1541, 6, []), (312, .bipush 21, 2, 0, 0, 0, 0, 21, []), (314, .if_icmp .eq 12, 3, 326, 0, 0, 0, 0, []), (317, .aload_n 0, 1, 0, 0, 0, 0, 0, []),
  (318, .invokevirtual 622, 3, 237, 1, 1, 1541, 6, []), (321, .bipush 22, 2, 0, 0, 0, 0, 22, []), (323, .if_icmp .ne 39, 3, 362, 0, 0, 0, 0, []), (326, .aload_n 0, 1, 0, 0, 0, 0, 0, []), (327, .bipush 44, 2, 0, 0, 0, 0, 44, []), (329, .invokevirtual 381, 3, 138, 2, 0, 1517, 6, []),
  (332, .aload_n 0, 1, 0, 0, 0, 0, 0, []), (333, .getfield 242, 3, 6, 5, 1, 1070, 0, []), (336, .ifCond .eq 5, 3, 341, 0, 0, 0, 0, []), (339, .iconst 0, 1, 0, 0, 0, 0, 0, []), (340, .ireturn, 1, 0, 0, 4, 0, 0, []), (341, .aload_n 0, 1, 0, 0, 0, 0, 0, []),
  (342, .invokevirtual 625, 3, 238, 1, 0, 1548, 6, []), (345, .aload_n 0, 1, 0, 0, 0, 0, 0, []), (346, .getfield 230, 3, 6, 93, 3, 1158, 0, []), (349, .aload_n 0, 1, 0, 0, 0, 0, 0, []), (350, .getfield 341, 3, 6, 94, 1, 1159, 0, []), (353, .iconst 1, 1, 0, 0, 0, 0, 1, []),
  (354, .isub, 1, 0, 0, 0, 0, 0, []), (355, .dup2, 1, 0, 0, 0, 0, 0, []), (356, .iaload, 1, 0, 0, 0, 0, 0, []), (357, .iconst 2, 1, 0, 0, 0, 0, 2, []), (358, .iadd, 1, 0, 0, 0, 0, 0, []), (359, .iastore, 1, 0, 0, 0, 0, 0, []),
  (360, .iconst 1, 1, 0, 0, 0, 0, 1, []), (361, .ireturn, 1, 0, 0, 4, 0, 0, []), (362, .aload_n 0, 1, 0, 0, 0, 0, 0, []), (363, .invokevirtual 622, 3, 237, 1, 1, 1541, 6, []), (366, .iconst (-1), 1, 0, 0, 0, 0, (-1), []), (367, .if_icmp .eq 19, 3, 386, 0, 0, 0, 0, []),
  (370, .aload_n 0, 1, 0, 0, 0, 0, 0, []), (371, .getfield 242, 3, 6, 5, 1, 1070, 0, []), (374, .ifCond .ne 12, 3, 386, 0, 0, 0, 0, []), (377, .aload_n 0, 1, 0, 0, 0, 0, 0, [])]
noncomputable def am_c244_2 : List (Nat × am_E) := [(378, .iconst 1, 1, 0, 0, 0, 0, 1, []), (379, .aload_n 0, 1, 0, 0, 0, 0, 0, []), (380, .getfield 248, 3, 6, 2, 1, 1067, 0, []), (383, .invokevirtual 272, 3, 130, 3, 0, 1396, 6, []), (386, .iconst 0, 1, 0, 0, 0, 0, 0, []), (387, .ireturn, 1, 0, 0, 4, 0, 0, [])]
noncomputable def am_c244 : List (Nat × am_E) := am_c244_0 ++ (am_c244_1 ++ (am_c244_2))
noncomputable def am_s245 : am_S := (yX6_qSums, cX6_qSums, 3, none, 1, 0, 1, 6, 1498, 1497, 87, 175)
noncomputable def am_c245 : List (Nat × am_E) := [(0, .aload_n 0, 1, 0, 0, 0, 0, 0, []), (1, .getfield 347, 3, 6, 96, 1, 1161, 0, []), (4, .istore_n 1, 1, 1, 0, 0, 0, 0, []), (5, .aload_n 0, 1, 0, 0, 0, 0, 0, []), (6, .aload_n 0, 1, 0, 0, 0, 0, 0, []), (7, .getfield 341, 3, 6, 94, 1, 1159, 0, []),
  (10, .putfield 347, 3, 6, 96, 1, 1161, 0, []), (13, .iconst 1, 1, 0, 0, 0, 0, 1, []), (14, .istore_n 2, 1, 2, 0, 0, 0, 0, []), (15, .iload_n 2, 1, 2, 0, 0, 0, 0, []), (16, .ifCond .eq 37, 3, 53, 0, 0, 0, 0, []), (19, .aload_n 0, 1, 0, 0, 0, 0, 0, []),
  (20, .getfield 242, 3, 6, 5, 1, 1070, 0, []), (23, .ifCond .ne 30, 3, 53, 0, 0, 0, 0, []), (26, .aload_n 0, 1, 0, 0, 0, 0, 0, []), (27, .invokevirtual 631, 3, 243, 1, 0, 1499, 6, []), (30, .aload_n 0, 1, 0, 0, 0, 0, 0, []), (31, .getfield 242, 3, 6, 5, 1, 1070, 0, []),
  (34, .ifCond .ne 14, 3, 48, 0, 0, 0, 0, []), (37, .aload_n 0, 1, 0, 0, 0, 0, 0, []), (38, .invokevirtual 634, 3, 244, 1, 4, 1537, 6, []), (41, .ifCond .eq 7, 3, 48, 0, 0, 0, 0, []), (44, .iconst 1, 1, 0, 0, 0, 0, 1, []), (45, .goto 4, 3, 49, 0, 0, 0, 0, []),
  (48, .iconst 0, 1, 0, 0, 0, 0, 0, []), (49, .istore_n 2, 1, 2, 0, 0, 0, 0, []), (50, .goto (-35), 3, 15, 0, 0, 0, 0, []), (53, .aload_n 0, 1, 0, 0, 0, 0, 0, []), (54, .getfield 242, 3, 6, 5, 1, 1070, 0, []), (57, .ifCond .ne 21, 3, 78, 0, 0, 0, 0, []),
  (60, .aload_n 0, 1, 0, 0, 0, 0, 0, []), (61, .getfield 341, 3, 6, 94, 1, 1159, 0, []), (64, .aload_n 0, 1, 0, 0, 0, 0, 0, []), (65, .getfield 347, 3, 6, 96, 1, 1161, 0, []), (68, .if_icmp .le 10, 3, 78, 0, 0, 0, 0, []), (71, .aload_n 0, 1, 0, 0, 0, 0, 0, []),
  (72, .invokevirtual 601, 3, 235, 1, 0, 1533, 6, []), (75, .goto (-22), 3, 53, 0, 0, 0, 0, []), (78, .aload_n 0, 1, 0, 0, 0, 0, 0, []), (79, .iload_n 1, 1, 1, 0, 0, 0, 0, []), (80, .putfield 347, 3, 6, 96, 1, 1161, 0, []), (83, .return_, 1, 0, 0, 0, 0, 0, [])]
noncomputable def am_s246 : am_S := (yX6_qFact, cX6_qFact, 2, none, 1, 0, 1, 6, 1490, 1489, 85, 175)
noncomputable def am_c246 : List (Nat × am_E) := [(0, .aload_n 0, 1, 0, 0, 0, 0, 0, []), (1, .aload_n 0, 1, 0, 0, 0, 0, 0, []), (2, .getfield 194, 3, 6, 80, 3, 1145, 0, []), (5, .invokevirtual 269, 3, 135, 2, 4, 1400, 6, []), (8, .ifCond .eq 10, 3, 18, 0, 0, 0, 0, []), (11, .aload_n 0, 1, 0, 0, 0, 0, 0, []),
  (12, .bipush 13, 2, 0, 0, 0, 0, 13, []), (14, .invokevirtual 595, 3, 232, 2, 0, 1491, 6, []), (17, .return_, 1, 0, 0, 0, 0, 0, []), (18, .aload_n 0, 1, 0, 0, 0, 0, 0, []), (19, .invokevirtual 353, 3, 245, 1, 0, 1495, 6, []), (22, .aload_n 0, 1, 0, 0, 0, 0, 0, []),
  (23, .getfield 242, 3, 6, 5, 1, 1070, 0, []), (26, .ifCond .eq 4, 3, 30, 0, 0, 0, 0, []), (29, .return_, 1, 0, 0, 0, 0, 0, []), (30, .aload_n 0, 1, 0, 0, 0, 0, 0, []), (31, .invokevirtual 254, 3, 133, 1, 1, 1388, 6, []), (34, .istore_n 1, 1, 1, 0, 0, 0, 0, []),
  (35, .iload_n 1, 1, 1, 0, 0, 0, 0, []), (36, .bipush 60, 2, 0, 0, 0, 0, 60, []), (38, .if_icmp .eq 25, 3, 63, 0, 0, 0, 0, []), (41, .iload_n 1, 1, 1, 0, 0, 0, 0, []), (42, .bipush 62, 2, 0, 0, 0, 0, 62, []), (44, .if_icmp .eq 19, 3, 63, 0, 0, 0, 0, []),
  (47, .iload_n 1, 1, 1, 0, 0, 0, 0, []), (48, .bipush 61, 2, 0, 0, 0, 0, 61, []), (50, .if_icmp .eq 13, 3, 63, 0, 0, 0, 0, []), (53, .aload_n 0, 1, 0, 0, 0, 0, 0, []), (54, .iconst 1, 1, 0, 0, 0, 0, 1, []), (55, .aload_n 0, 1, 0, 0, 0, 0, 0, []),
  (56, .getfield 248, 3, 6, 2, 1, 1067, 0, []), (59, .invokevirtual 272, 3, 130, 3, 0, 1396, 6, []), (62, .return_, 1, 0, 0, 0, 0, 0, []), (63, .aload_n 0, 1, 0, 0, 0, 0, 0, []), (64, .dup, 1, 0, 0, 0, 0, 0, []), (65, .getfield 248, 3, 6, 2, 1, 1067, 0, []),
  (68, .iconst 1, 1, 0, 0, 0, 0, 1, []), (69, .iadd, 1, 0, 0, 0, 0, 0, []), (70, .putfield 248, 3, 6, 2, 1, 1067, 0, []), (73, .aload_n 0, 1, 0, 0, 0, 0, 0, []), (74, .invokevirtual 353, 3, 245, 1, 0, 1495, 6, []), (77, .aload_n 0, 1, 0, 0, 0, 0, 0, []),
  (78, .iload_n 1, 1, 1, 0, 0, 0, 0, []), (79, .bipush 60, 2, 0, 0, 0, 0, 60, []), (81, .if_icmp .ne 8, 3, 89, 0, 0, 0, 0, []), (84, .bipush 7, 2, 0, 0, 0, 0, 7, []), (86, .goto 16, 3, 102, 0, 0, 0, 0, []), (89, .iload_n 1, 1, 1, 0, 0, 0, 0, []),
  (90, .bipush 62, 2, 0, 0, 0, 0, 62, []), (92, .if_icmp .ne 8, 3, 100, 0, 0, 0, 0, []), (95, .bipush 8, 2, 0, 0, 0, 0, 8, []), (97, .goto 5, 3, 102, 0, 0, 0, 0, []), (100, .bipush 9, 2, 0, 0, 0, 0, 9, []), (102, .invokevirtual 595, 3, 232, 2, 0, 1491, 6, []),
  (105, .return_, 1, 0, 0, 0, 0, 0, [])]
noncomputable def am_s247 : am_S := (yX6_qHasSquare, cX6_qHasSquare, 2, (some .boolean), 1, 4, 1, 6, 1567, 1566, 103, 175)
noncomputable def am_c247 : List (Nat × am_E) := [(0, .iconst 0, 1, 0, 0, 0, 0, 0, []), (1, .istore_n 1, 1, 1, 0, 0, 0, 0, []), (2, .iload_n 1, 1, 1, 0, 0, 0, 0, []), (3, .aload_n 0, 1, 0, 0, 0, 0, 0, []), (4, .getfield 341, 3, 6, 94, 1, 1159, 0, []), (7, .if_icmp .ge 22, 3, 29, 0, 0, 0, 0, []),
  (10, .aload_n 0, 1, 0, 0, 0, 0, 0, []), (11, .getfield 230, 3, 6, 93, 3, 1158, 0, []), (14, .iload_n 1, 1, 1, 0, 0, 0, 0, []), (15, .iaload, 1, 0, 0, 0, 0, 0, []), (16, .bipush 25, 2, 0, 0, 0, 0, 25, []), (18, .if_icmp .ne 5, 3, 23, 0, 0, 0, 0, []),
  (21, .iconst 1, 1, 0, 0, 0, 0, 1, []), (22, .ireturn, 1, 0, 0, 4, 0, 0, []), (23, .iinc 1 1, 3, 1, 0, 0, 0, 1, []), (26, .goto (-24), 3, 2, 0, 0, 0, 0, []), (29, .iconst 0, 1, 0, 0, 0, 0, 0, []), (30, .ireturn, 1, 0, 0, 4, 0, 0, [])]
noncomputable def am_s248 : am_S := (yX6_qDropsNots, cX6_qDropsNots, 1, none, 1, 0, 1, 6, 1559, 1558, 101, 175)
noncomputable def am_c248 : List (Nat × am_E) := [(0, .aload_n 0, 1, 0, 0, 0, 0, 0, []), (1, .getfield 242, 3, 6, 5, 1, 1070, 0, []), (4, .ifCond .ne 29, 3, 33, 0, 0, 0, 0, []), (7, .aload_n 0, 1, 0, 0, 0, 0, 0, []), (8, .bipush 12, 2, 0, 0, 0, 0, 12, []), (10, .invokevirtual 628, 3, 234, 2, 4, 1552, 6, []),
  (13, .ifCond .eq 20, 3, 33, 0, 0, 0, 0, []), (16, .aload_n 0, 1, 0, 0, 0, 0, 0, []), (17, .dup, 1, 0, 0, 0, 0, 0, []), (18, .getfield 344, 3, 6, 95, 1, 1160, 0, []), (21, .iconst 1, 1, 0, 0, 0, 0, 1, []), (22, .isub, 1, 0, 0, 0, 0, 0, []),
  (23, .putfield 344, 3, 6, 95, 1, 1160, 0, []), (26, .aload_n 0, 1, 0, 0, 0, 0, 0, []), (27, .invokevirtual 601, 3, 235, 1, 0, 1533, 6, []), (30, .goto (-30), 3, 0, 0, 0, 0, 0, []), (33, .return_, 1, 0, 0, 0, 0, 0, [])]
noncomputable def am_s249 : am_S := (yX6_qTest, cX6_qTest, 3, none, 1, 0, 1, 6, 1482, 1481, 83, 175)
noncomputable def am_c249 : List (Nat × am_E) := [(0, .iconst 1, 1, 0, 0, 0, 0, 1, []), (1, .istore_n 1, 1, 1, 0, 0, 0, 0, []), (2, .iload_n 1, 1, 1, 0, 0, 0, 0, []), (3, .ifCond .eq 107, 3, 110, 0, 0, 0, 0, []), (6, .aload_n 0, 1, 0, 0, 0, 0, 0, []), (7, .getfield 242, 3, 6, 5, 1, 1070, 0, []),
  (10, .ifCond .ne 100, 3, 110, 0, 0, 0, 0, []), (13, .aload_n 0, 1, 0, 0, 0, 0, 0, []), (14, .invokevirtual 254, 3, 133, 1, 1, 1388, 6, []), (17, .istore_n 2, 1, 2, 0, 0, 0, 0, []), (18, .iload_n 2, 1, 2, 0, 0, 0, 0, []), (19, .bipush 91, 2, 0, 0, 0, 0, 91, []),
  (21, .if_icmp .ne 26, 3, 47, 0, 0, 0, 0, []), (24, .aload_n 0, 1, 0, 0, 0, 0, 0, []), (25, .bipush 25, 2, 0, 0, 0, 0, 25, []), (27, .aload_n 0, 1, 0, 0, 0, 0, 0, []), (28, .getfield 248, 3, 6, 2, 1, 1067, 0, []), (31, .invokevirtual 613, 3, 233, 3, 0, 1483, 6, []),
  (34, .aload_n 0, 1, 0, 0, 0, 0, 0, []), (35, .dup, 1, 0, 0, 0, 0, 0, []), (36, .getfield 248, 3, 6, 2, 1, 1067, 0, []), (39, .iconst 1, 1, 0, 0, 0, 0, 1, []), (40, .iadd, 1, 0, 0, 0, 0, 0, []), (41, .putfield 248, 3, 6, 2, 1, 1067, 0, []),
  (44, .goto (-42), 3, 2, 0, 0, 0, 0, []), (47, .aload_n 0, 1, 0, 0, 0, 0, 0, []), (48, .aload_n 0, 1, 0, 0, 0, 0, 0, []), (49, .getfield 185, 3, 6, 77, 3, 1142, 0, []), (52, .invokevirtual 265, 3, 134, 2, 4, 1404, 6, []), (55, .ifCond .eq 24, 3, 79, 0, 0, 0, 0, []),
  (58, .aload_n 0, 1, 0, 0, 0, 0, 0, []), (59, .bipush 12, 2, 0, 0, 0, 0, 12, []), (61, .aload_n 0, 1, 0, 0, 0, 0, 0, []), (62, .getfield 248, 3, 6, 2, 1, 1067, 0, []), (65, .invokevirtual 613, 3, 233, 3, 0, 1483, 6, []), (68, .aload_n 0, 1, 0, 0, 0, 0, 0, []),
  (69, .aload_n 0, 1, 0, 0, 0, 0, 0, []), (70, .getfield 185, 3, 6, 77, 3, 1142, 0, []), (73, .invokevirtual 323, 3, 136, 2, 0, 1445, 6, []), (76, .goto (-74), 3, 2, 0, 0, 0, 0, []), (79, .aload_n 0, 1, 0, 0, 0, 0, 0, []), (80, .invokevirtual 637, 3, 246, 1, 0, 1487, 6, []),
  (83, .aload_n 0, 1, 0, 0, 0, 0, 0, []), (84, .invokevirtual 640, 3, 248, 1, 0, 1556, 6, []), (87, .aload_n 0, 1, 0, 0, 0, 0, 0, []), (88, .getfield 242, 3, 6, 5, 1, 1070, 0, []), (91, .ifCond .ne 14, 3, 105, 0, 0, 0, 0, []), (94, .aload_n 0, 1, 0, 0, 0, 0, 0, []),
  (95, .invokevirtual 643, 3, 250, 1, 4, 1560, 6, []), (98, .ifCond .eq 7, 3, 105, 0, 0, 0, 0, []), (101, .iconst 1, 1, 0, 0, 0, 0, 1, []), (102, .goto 4, 3, 106, 0, 0, 0, 0, []), (105, .iconst 0, 1, 0, 0, 0, 0, 0, []), (106, .istore_n 1, 1, 1, 0, 0, 0, 0, []),
  (107, .goto (-105), 3, 2, 0, 0, 0, 0, []), (110, .aload_n 0, 1, 0, 0, 0, 0, 0, []), (111, .getfield 242, 3, 6, 5, 1, 1070, 0, []), (114, .ifCond .ne 17, 3, 131, 0, 0, 0, 0, []), (117, .aload_n 0, 1, 0, 0, 0, 0, 0, []), (118, .getfield 341, 3, 6, 94, 1, 1159, 0, []),
  (121, .ifCond .le 10, 3, 131, 0, 0, 0, 0, []), (124, .aload_n 0, 1, 0, 0, 0, 0, 0, []), (125, .invokevirtual 601, 3, 235, 1, 0, 1533, 6, []), (128, .goto (-18), 3, 110, 0, 0, 0, 0, []), (131, .return_, 1, 0, 0, 0, 0, 0, [])]
noncomputable def am_s250 : am_S := (yX6_qGoesOnTest, cX6_qGoesOnTest, 1, (some .boolean), 1, 4, 1, 6, 1563, 1562, 102, 175)
noncomputable def am_c250_0 : List (Nat × am_E) := [(0, .aload_n 0, 1, 0, 0, 0, 0, 0, []), (1, .getfield 242, 3, 6, 5, 1, 1070, 0, []), (4, .ifCond .ne 72, 3, 76, 0, 0, 0, 0, []), (7, .aload_n 0, 1, 0, 0, 0, 0, 0, []), (8, .invokevirtual 254, 3, 133, 1, 1, 1388, 6, []), (11, .bipush 93, 2, 0, 0, 0, 0, 93, []),
  (13, .if_icmp .ne 63, 3, 76, 0, 0, 0, 0, []), (16, .aload_n 0, 1, 0, 0, 0, 0, 0, []), (17, .invokevirtual 646, 3, 247, 1, 4, 1564, 6, []), (20, .ifCond .eq 56, 3, 76, 0, 0, 0, 0, []), (23, .aload_n 0, 1, 0, 0, 0, 0, 0, []), (24, .dup, 1, 0, 0, 0, 0, 0, []),
  (25, .getfield 248, 3, 6, 2, 1, 1067, 0, []), (28, .iconst 1, 1, 0, 0, 0, 0, 1, []), (29, .iadd, 1, 0, 0, 0, 0, 0, []), (30, .putfield 248, 3, 6, 2, 1, 1067, 0, []), (33, .aload_n 0, 1, 0, 0, 0, 0, 0, []), (34, .bipush 25, 2, 0, 0, 0, 0, 25, []),
  (36, .invokevirtual 628, 3, 234, 2, 4, 1552, 6, []), (39, .ifCond .ne 10, 3, 49, 0, 0, 0, 0, []), (42, .aload_n 0, 1, 0, 0, 0, 0, 0, []), (43, .invokevirtual 601, 3, 235, 1, 0, 1533, 6, []), (46, .goto (-13), 3, 33, 0, 0, 0, 0, []), (49, .aload_n 0, 1, 0, 0, 0, 0, 0, []),
  (50, .dup, 1, 0, 0, 0, 0, 0, []), (51, .getfield 341, 3, 6, 94, 1, 1159, 0, []), (54, .iconst 1, 1, 0, 0, 0, 0, 1, []), (55, .isub, 1, 0, 0, 0, 0, 0, []), (56, .putfield 341, 3, 6, 94, 1, 1159, 0, []), (59, .aload_n 0, 1, 0, 0, 0, 0, 0, []),
  (60, .dup, 1, 0, 0, 0, 0, 0, []), (61, .getfield 344, 3, 6, 95, 1, 1160, 0, []), (64, .iconst 1, 1, 0, 0, 0, 0, 1, []), (65, .isub, 1, 0, 0, 0, 0, 0, []), (66, .putfield 344, 3, 6, 95, 1, 1160, 0, []), (69, .aload_n 0, 1, 0, 0, 0, 0, 0, []),
  (70, .invokevirtual 640, 3, 248, 1, 0, 1556, 6, []), (73, .goto (-73), 3, 0, 0, 0, 0, 0, []), (76, .aload_n 0, 1, 0, 0, 0, 0, 0, []), (77, .aload_n 0, 1, 0, 0, 0, 0, 0, []), (78, .getfield 188, 3, 6, 78, 3, 1143, 0, []), (81, .invokevirtual 269, 3, 135, 2, 4, 1400, 6, []),
  (84, .ifCond .eq 42, 3, 126, 0, 0, 0, 0, []), (87, .aload_n 0, 1, 0, 0, 0, 0, 0, []), (88, .bipush 10, 2, 0, 0, 0, 0, 10, []), (90, .invokevirtual 628, 3, 234, 2, 4, 1552, 6, []), (93, .ifCond .eq 10, 3, 103, 0, 0, 0, 0, []), (96, .aload_n 0, 1, 0, 0, 0, 0, 0, []),
  (97, .invokevirtual 601, 3, 235, 1, 0, 1533, 6, []), (100, .goto (-13), 3, 87, 0, 0, 0, 0, []), (103, .aload_n 0, 1, 0, 0, 0, 0, 0, []), (104, .getfield 230, 3, 6, 93, 3, 1158, 0, []), (107, .aload_n 0, 1, 0, 0, 0, 0, 0, []), (108, .getfield 341, 3, 6, 94, 1, 1159, 0, []),
  (111, .bipush 10, 2, 0, 0, 0, 0, 10, []), (113, .iastore, 1, 0, 0, 0, 0, 0, []), (114, .aload_n 0, 1, 0, 0, 0, 0, 0, []), (115, .dup, 1, 0, 0, 0, 0, 0, []), (116, .getfield 341, 3, 6, 94, 1, 1159, 0, []), (119, .iconst 1, 1, 0, 0, 0, 0, 1, []),
  (120, .iadd, 1, 0, 0, 0, 0, 0, []), (121, .putfield 341, 3, 6, 94, 1, 1159, 0, []), (124, .iconst 1, 1, 0, 0, 0, 0, 1, []), (125, .ireturn, 1, 0, 0, 4, 0, 0, []), (126, .aload_n 0, 1, 0, 0, 0, 0, 0, []), (127, .aload_n 0, 1, 0, 0, 0, 0, 0, []),
  (128, .getfield 191, 3, 6, 79, 3, 1144, 0, []), (131, .invokevirtual 269, 3, 135, 2, 4, 1400, 6, []), (134, .ifCond .eq 51, 3, 185, 0, 0, 0, 0, []), (137, .aload_n 0, 1, 0, 0, 0, 0, 0, []), (138, .bipush 10, 2, 0, 0, 0, 0, 10, []), (140, .invokevirtual 628, 3, 234, 2, 4, 1552, 6, []),
  (143, .ifCond .ne 12, 3, 155, 0, 0, 0, 0, []), (146, .aload_n 0, 1, 0, 0, 0, 0, 0, []), (147, .bipush 11, 2, 0, 0, 0, 0, 11, []), (149, .invokevirtual 628, 3, 234, 2, 4, 1552, 6, []), (152, .ifCond .eq 10, 3, 162, 0, 0, 0, 0, []), (155, .aload_n 0, 1, 0, 0, 0, 0, 0, []),
  (156, .invokevirtual 601, 3, 235, 1, 0, 1533, 6, []), (159, .goto (-22), 3, 137, 0, 0, 0, 0, []), (162, .aload_n 0, 1, 0, 0, 0, 0, 0, []), (163, .getfield 230, 3, 6, 93, 3, 1158, 0, []), (166, .aload_n 0, 1, 0, 0, 0, 0, 0, []), (167, .getfield 341, 3, 6, 94, 1, 1159, 0, []),
  (170, .bipush 11, 2, 0, 0, 0, 0, 11, []), (172, .iastore, 1, 0, 0, 0, 0, 0, []), (173, .aload_n 0, 1, 0, 0, 0, 0, 0, []), (174, .dup, 1, 0, 0, 0, 0, 0, []), (175, .getfield 341, 3, 6, 94, 1, 1159, 0, []), (178, .iconst 1, 1, 0, 0, 0, 0, 1, []),
  (179, .iadd, 1, 0, 0, 0, 0, 0, []), (180, .putfield 341, 3, 6, 94, 1, 1159, 0, []), (183, .iconst 1, 1, 0, 0, 0, 0, 1, []), (184, .ireturn, 1, 0, 0, 4, 0, 0, []), (185, .aload_n 0, 1, 0, 0, 0, 0, 0, []), (186, .getfield 242, 3, 6, 5, 1, 1070, 0, []),
  (189, .ifCond .ne 19, 3, 208, 0, 0, 0, 0, []), (192, .aload_n 0, 1, 0, 0, 0, 0, 0, []), (193, .invokevirtual 646, 3, 247, 1, 4, 1564, 6, []), (196, .ifCond .eq 12, 3, 208, 0, 0, 0, 0, [])]
noncomputable def am_c250_1 : List (Nat × am_E) := [(199, .aload_n 0, 1, 0, 0, 0, 0, 0, []), (200, .iconst 1, 1, 0, 0, 0, 0, 1, []), (201, .aload_n 0, 1, 0, 0, 0, 0, 0, []), (202, .getfield 248, 3, 6, 2, 1, 1067, 0, []), (205, .invokevirtual 272, 3, 130, 3, 0, 1396, 6, []), (208, .iconst 0, 1, 0, 0, 0, 0, 0, []),
  (209, .ireturn, 1, 0, 0, 4, 0, 0, [])]
noncomputable def am_c250 : List (Nat × am_E) := am_c250_0 ++ (am_c250_1)
noncomputable def am_s251 : am_S := (yX6_qClip, cX6_qClip, 2, (some .long), 0, 2, 1, 6, 1714, 1713, 0, 175)
noncomputable def am_c251 : List (Nat × am_E) := [(0, .lload_n 0, 1, 0, 0, 0, 0, 0, []), (1, .ldc2_w 554, 3, 0, 0, 0, 1715, 1000000, []), (4, .lcmp, 1, 0, 0, 0, 0, 0, []), (5, .ifCond .le 9, 3, 14, 0, 0, 0, 0, []), (8, .ldc2_w 554, 3, 0, 0, 0, 1715, 1000000, []), (11, .goto 18, 3, 29, 0, 0, 0, 0, []),
  (14, .lload_n 0, 1, 0, 0, 0, 0, 0, []), (15, .ldc2_w 649, 3, 0, 0, 0, 1716, (-1000000), []), (18, .lcmp, 1, 0, 0, 0, 0, 0, []), (19, .ifCond .ge 9, 3, 28, 0, 0, 0, 0, []), (22, .ldc2_w 649, 3, 0, 0, 0, 1716, (-1000000), []), (25, .goto 4, 3, 29, 0, 0, 0, 0, []),
  (28, .lload_n 0, 1, 0, 0, 0, 0, 0, []), (29, .lreturn, 1, 0, 0, 2, 0, 0, [])]
noncomputable def am_s252 : am_S := (yX6_qFloor, cX6_qFloor, 6, (some .long), 0, 2, 2, 6, 1719, 1718, 0, 175)
noncomputable def am_c252 : List (Nat × am_E) := [(0, .lload_n 2, 1, 2, 0, 0, 0, 0, []), (1, .lconst 0, 1, 0, 0, 0, 0, 0, []), (2, .lcmp, 1, 0, 0, 0, 0, 0, []), (3, .ifCond .ne 5, 3, 8, 0, 0, 0, 0, []), (6, .lconst 0, 1, 0, 0, 0, 0, 0, []), (7, .lreturn, 1, 0, 0, 2, 0, 0, []),
  (8, .lload_n 0, 1, 0, 0, 0, 0, 0, []), (9, .lload_n 2, 1, 2, 0, 0, 0, 0, []), (10, .ldiv, 1, 0, 0, 0, 0, 0, []), (11, .lstore 4, 2, 4, 0, 0, 0, 0, []), (13, .lload_n 0, 1, 0, 0, 0, 0, 0, []), (14, .lload_n 2, 1, 2, 0, 0, 0, 0, []),
  (15, .lrem, 1, 0, 0, 0, 0, 0, []), (16, .lconst 0, 1, 0, 0, 0, 0, 0, []), (17, .lcmp, 1, 0, 0, 0, 0, 0, []), (18, .ifCond .eq 35, 3, 53, 0, 0, 0, 0, []), (21, .lload_n 0, 1, 0, 0, 0, 0, 0, []), (22, .lconst 0, 1, 0, 0, 0, 0, 0, []),
  (23, .lcmp, 1, 0, 0, 0, 0, 0, []), (24, .ifCond .ge 7, 3, 31, 0, 0, 0, 0, []), (27, .iconst 1, 1, 0, 0, 0, 0, 1, []), (28, .goto 4, 3, 32, 0, 0, 0, 0, []), (31, .iconst 0, 1, 0, 0, 0, 0, 0, []), (32, .lload_n 2, 1, 2, 0, 0, 0, 0, []),
  (33, .lconst 0, 1, 0, 0, 0, 0, 0, []), (34, .lcmp, 1, 0, 0, 0, 0, 0, []), (35, .ifCond .ge 7, 3, 42, 0, 0, 0, 0, []), (38, .iconst 1, 1, 0, 0, 0, 0, 1, []), (39, .goto 4, 3, 43, 0, 0, 0, 0, []), (42, .iconst 0, 1, 0, 0, 0, 0, 0, []),
  (43, .if_icmp .eq 10, 3, 53, 0, 0, 0, 0, []), (46, .lload 4, 2, 4, 0, 0, 0, 0, []), (48, .lconst 1, 1, 0, 0, 0, 0, 1, []), (49, .lsub, 1, 0, 0, 0, 0, 0, []), (50, .goto 5, 3, 55, 0, 0, 0, 0, []), (53, .lload 4, 2, 4, 0, 0, 0, 0, []),
  (55, .lreturn, 1, 0, 0, 2, 0, 0, [])]
noncomputable def am_s253 : am_S := (yX6_qPuts, cX6_qPuts, 3, none, 1, 0, 2, 6, 1695, 1694, 126, 175)
noncomputable def am_c253 : List (Nat × am_E) := [(0, .aload_n 0, 1, 0, 0, 0, 0, 0, []), (1, .getfield 233, 3, 6, 97, 3, 1162, 0, []), (4, .aload_n 0, 1, 0, 0, 0, 0, 0, []), (5, .getfield 428, 3, 6, 98, 1, 1163, 0, []), (8, .lload_n 1, 1, 1, 0, 0, 0, 0, []), (9, .lastore, 1, 0, 0, 0, 0, 0, []),
  (10, .aload_n 0, 1, 0, 0, 0, 0, 0, []), (11, .dup, 1, 0, 0, 0, 0, 0, []), (12, .getfield 428, 3, 6, 98, 1, 1163, 0, []), (15, .iconst 1, 1, 0, 0, 0, 0, 1, []), (16, .iadd, 1, 0, 0, 0, 0, 0, []), (17, .putfield 428, 3, 6, 98, 1, 1163, 0, []),
  (20, .return_, 1, 0, 0, 0, 0, 0, [])]
noncomputable def am_s254 : am_S := (yX6_qJoins, cX6_qJoins, 6, none, 1, 0, 2, 6, 1711, 1710, 130, 175)
noncomputable def am_c254_0 : List (Nat × am_E) := [(0, .aload_n 0, 1, 0, 0, 0, 0, 0, []), (1, .getfield 233, 3, 6, 97, 3, 1162, 0, []), (4, .aload_n 0, 1, 0, 0, 0, 0, 0, []), (5, .getfield 428, 3, 6, 98, 1, 1163, 0, []), (8, .iconst 1, 1, 0, 0, 0, 0, 1, []), (9, .isub, 1, 0, 0, 0, 0, 0, []),
  (10, .laload, 1, 0, 0, 0, 0, 0, []), (11, .lstore_n 2, 1, 2, 0, 0, 0, 0, []), (12, .aload_n 0, 1, 0, 0, 0, 0, 0, []), (13, .getfield 233, 3, 6, 97, 3, 1162, 0, []), (16, .aload_n 0, 1, 0, 0, 0, 0, 0, []), (17, .getfield 428, 3, 6, 98, 1, 1163, 0, []),
  (20, .iconst 2, 1, 0, 0, 0, 0, 2, []), (21, .isub, 1, 0, 0, 0, 0, 0, []), (22, .laload, 1, 0, 0, 0, 0, 0, []), (23, .lstore 4, 2, 4, 0, 0, 0, 0, []), (25, .aload_n 0, 1, 0, 0, 0, 0, 0, []), (26, .dup, 1, 0, 0, 0, 0, 0, []),
  (27, .getfield 428, 3, 6, 98, 1, 1163, 0, []), (30, .iconst 2, 1, 0, 0, 0, 0, 2, []), (31, .isub, 1, 0, 0, 0, 0, 0, []), (32, .putfield 428, 3, 6, 98, 1, 1163, 0, []), (35, .iload_n 1, 1, 1, 0, 0, 0, 0, []), (36, .tableswitch 219 1 10 #[56, 70, 84, 98, 111, 131, 151, 170, 189, 208], 56, 255, 0, 0, 0, 0, [(1, 92), (2, 106), (3, 120), (4, 134), (5, 147), (6, 167), (7, 187), (8, 206), (9, 225), (10, 244)]),
  (92, .aload_n 0, 1, 0, 0, 0, 0, 0, []), (93, .lload 4, 2, 4, 0, 0, 0, 0, []), (95, .lload_n 2, 1, 2, 0, 0, 0, 0, []), (96, .ladd, 1, 0, 0, 0, 0, 0, []), (97, .invokestatic 651, 3, 251, 1, 2, 1712, 0, []), (100, .invokevirtual 431, 3, 253, 2, 0, 1692, 6, []),
  (103, .goto 170, 3, 273, 0, 0, 0, 0, []), (106, .aload_n 0, 1, 0, 0, 0, 0, 0, []), (107, .lload 4, 2, 4, 0, 0, 0, 0, []), (109, .lload_n 2, 1, 2, 0, 0, 0, 0, []), (110, .lsub, 1, 0, 0, 0, 0, 0, []), (111, .invokestatic 651, 3, 251, 1, 2, 1712, 0, []),
  (114, .invokevirtual 431, 3, 253, 2, 0, 1692, 6, []), (117, .goto 156, 3, 273, 0, 0, 0, 0, []), (120, .aload_n 0, 1, 0, 0, 0, 0, 0, []), (121, .lload 4, 2, 4, 0, 0, 0, 0, []), (123, .lload_n 2, 1, 2, 0, 0, 0, 0, []), (124, .lmul, 1, 0, 0, 0, 0, 0, []),
  (125, .invokestatic 651, 3, 251, 1, 2, 1712, 0, []), (128, .invokevirtual 431, 3, 253, 2, 0, 1692, 6, []), (131, .goto 142, 3, 273, 0, 0, 0, 0, []), (134, .aload_n 0, 1, 0, 0, 0, 0, 0, []), (135, .lload 4, 2, 4, 0, 0, 0, 0, []), (137, .lload_n 2, 1, 2, 0, 0, 0, 0, []),
  (138, .invokestatic 655, 3, 252, 2, 2, 1717, 0, []), (141, .invokevirtual 431, 3, 253, 2, 0, 1692, 6, []), (144, .goto 129, 3, 273, 0, 0, 0, 0, []), (147, .aload_n 0, 1, 0, 0, 0, 0, 0, []), (148, .lload 4, 2, 4, 0, 0, 0, 0, []), (150, .lload_n 2, 1, 2, 0, 0, 0, 0, []),
  (151, .lcmp, 1, 0, 0, 0, 0, 0, []), (152, .ifCond .ge 8, 3, 160, 0, 0, 0, 0, []), (155, .lload 4, 2, 4, 0, 0, 0, 0, []), (157, .goto 4, 3, 161, 0, 0, 0, 0, []), (160, .lload_n 2, 1, 2, 0, 0, 0, 0, []), (161, .invokevirtual 431, 3, 253, 2, 0, 1692, 6, []),
  (164, .goto 109, 3, 273, 0, 0, 0, 0, []), (167, .aload_n 0, 1, 0, 0, 0, 0, 0, []), (168, .lload 4, 2, 4, 0, 0, 0, 0, []), (170, .lload_n 2, 1, 2, 0, 0, 0, 0, []), (171, .lcmp, 1, 0, 0, 0, 0, 0, []), (172, .ifCond .le 8, 3, 180, 0, 0, 0, 0, []),
  (175, .lload 4, 2, 4, 0, 0, 0, 0, []), (177, .goto 4, 3, 181, 0, 0, 0, 0, []), (180, .lload_n 2, 1, 2, 0, 0, 0, 0, []), (181, .invokevirtual 431, 3, 253, 2, 0, 1692, 6, []), (184, .goto 89, 3, 273, 0, 0, 0, 0, []), (187, .aload_n 0, 1, 0, 0, 0, 0, 0, []),
  (188, .lload 4, 2, 4, 0, 0, 0, 0, []), (190, .lload_n 2, 1, 2, 0, 0, 0, 0, []), (191, .lcmp, 1, 0, 0, 0, 0, 0, []), (192, .ifCond .ge 7, 3, 199, 0, 0, 0, 0, []), (195, .lconst 1, 1, 0, 0, 0, 0, 1, []), (196, .goto 4, 3, 200, 0, 0, 0, 0, []),
  (199, .lconst 0, 1, 0, 0, 0, 0, 0, []), (200, .invokevirtual 431, 3, 253, 2, 0, 1692, 6, []), (203, .goto 70, 3, 273, 0, 0, 0, 0, []), (206, .aload_n 0, 1, 0, 0, 0, 0, 0, []), (207, .lload 4, 2, 4, 0, 0, 0, 0, []), (209, .lload_n 2, 1, 2, 0, 0, 0, 0, []),
  (210, .lcmp, 1, 0, 0, 0, 0, 0, []), (211, .ifCond .le 7, 3, 218, 0, 0, 0, 0, []), (214, .lconst 1, 1, 0, 0, 0, 0, 1, []), (215, .goto 4, 3, 219, 0, 0, 0, 0, []), (218, .lconst 0, 1, 0, 0, 0, 0, 0, []), (219, .invokevirtual 431, 3, 253, 2, 0, 1692, 6, []),
  (222, .goto 51, 3, 273, 0, 0, 0, 0, []), (225, .aload_n 0, 1, 0, 0, 0, 0, 0, []), (226, .lload 4, 2, 4, 0, 0, 0, 0, []), (228, .lload_n 2, 1, 2, 0, 0, 0, 0, []), (229, .lcmp, 1, 0, 0, 0, 0, 0, []), (230, .ifCond .ne 7, 3, 237, 0, 0, 0, 0, []),
  (233, .lconst 1, 1, 0, 0, 0, 0, 1, []), (234, .goto 4, 3, 238, 0, 0, 0, 0, []), (237, .lconst 0, 1, 0, 0, 0, 0, 0, []), (238, .invokevirtual 431, 3, 253, 2, 0, 1692, 6, [])]
noncomputable def am_c254_1 : List (Nat × am_E) := [(241, .goto 32, 3, 273, 0, 0, 0, 0, []), (244, .aload_n 0, 1, 0, 0, 0, 0, 0, []), (245, .lload 4, 2, 4, 0, 0, 0, 0, []), (247, .lload_n 2, 1, 2, 0, 0, 0, 0, []), (248, .lmul, 1, 0, 0, 0, 0, 0, []), (249, .invokevirtual 431, 3, 253, 2, 0, 1692, 6, []),
  (252, .goto 21, 3, 273, 0, 0, 0, 0, []), (255, .aload_n 0, 1, 0, 0, 0, 0, 0, []), (256, .lload 4, 2, 4, 0, 0, 0, 0, []), (258, .lload_n 2, 1, 2, 0, 0, 0, 0, []), (259, .ladd, 1, 0, 0, 0, 0, 0, []), (260, .lconst 0, 1, 0, 0, 0, 0, 0, []),
  (261, .lcmp, 1, 0, 0, 0, 0, 0, []), (262, .ifCond .le 7, 3, 269, 0, 0, 0, 0, []), (265, .lconst 1, 1, 0, 0, 0, 0, 1, []), (266, .goto 4, 3, 270, 0, 0, 0, 0, []), (269, .lconst 0, 1, 0, 0, 0, 0, 0, []), (270, .invokevirtual 431, 3, 253, 2, 0, 1692, 6, []),
  (273, .return_, 1, 0, 0, 0, 0, 0, [])]
noncomputable def am_c254 : List (Nat × am_E) := am_c254_0 ++ (am_c254_1)
noncomputable def am_s255 : am_S := (yX6_qPartOf, cX6_qPartOf, 3, (some .long), 1, 2, 3, 6, 1699, 1698, 127, 175)
noncomputable def am_c255 : List (Nat × am_E) := [(0, .iload_n 1, 1, 1, 0, 0, 0, 0, []), (1, .tableswitch 95 0 6 #[43, 51, 57, 63, 70, 81, 92], 43, 96, 0, 0, 0, 0, [(0, 44), (1, 52), (2, 58), (3, 64), (4, 71), (5, 82), (6, 93)]), (44, .aload_n 0, 1, 0, 0, 0, 0, 0, []), (45, .getfield 139, 3, 6, 54, 3, 1119, 0, []), (48, .iconst 1, 1, 0, 0, 0, 0, 1, []), (49, .iaload, 1, 0, 0, 0, 0, 0, []),
  (50, .i2l, 1, 0, 0, 0, 0, 0, []), (51, .lreturn, 1, 0, 0, 2, 0, 0, []), (52, .aload_n 0, 1, 0, 0, 0, 0, 0, []), (53, .getfield 464, 3, 6, 58, 1, 1123, 0, []), (56, .i2l, 1, 0, 0, 0, 0, 0, []), (57, .lreturn, 1, 0, 0, 2, 0, 0, []),
  (58, .aload_n 0, 1, 0, 0, 0, 0, 0, []), (59, .getfield 467, 3, 6, 59, 1, 1124, 0, []), (62, .i2l, 1, 0, 0, 0, 0, 0, []), (63, .lreturn, 1, 0, 0, 2, 0, 0, []), (64, .aload_n 0, 1, 0, 0, 0, 0, 0, []), (65, .iload_n 2, 1, 2, 0, 0, 0, 0, []),
  (66, .invokevirtual 445, 3, 164, 2, 1, 1636, 6, []), (69, .i2l, 1, 0, 0, 0, 0, 0, []), (70, .lreturn, 1, 0, 0, 2, 0, 0, []), (71, .aload_n 0, 1, 0, 0, 0, 0, 0, []), (72, .aload_n 0, 1, 0, 0, 0, 0, 0, []), (73, .getfield 448, 3, 6, 57, 1, 1122, 0, []),
  (76, .iload_n 2, 1, 2, 0, 0, 0, 0, []), (77, .invokevirtual 442, 3, 173, 3, 1, 1664, 6, []), (80, .i2l, 1, 0, 0, 0, 0, 0, []), (81, .lreturn, 1, 0, 0, 2, 0, 0, []), (82, .aload_n 0, 1, 0, 0, 0, 0, 0, []), (83, .aload_n 0, 1, 0, 0, 0, 0, 0, []),
  (84, .getfield 448, 3, 6, 57, 1, 1122, 0, []), (87, .iload_n 2, 1, 2, 0, 0, 0, 0, []), (88, .invokevirtual 461, 3, 174, 3, 1, 1700, 6, []), (91, .i2l, 1, 0, 0, 0, 0, 0, []), (92, .lreturn, 1, 0, 0, 2, 0, 0, []), (93, .iload_n 2, 1, 2, 0, 0, 0, 0, []),
  (94, .i2l, 1, 0, 0, 0, 0, 0, []), (95, .lreturn, 1, 0, 0, 2, 0, 0, []), (96, .aload_n 0, 1, 0, 0, 0, 0, 0, []), (97, .aload_n 0, 1, 0, 0, 0, 0, 0, []), (98, .getfield 659, 3, 6, 56, 1, 1121, 0, []), (101, .iload_n 2, 1, 2, 0, 0, 0, 0, []),
  (102, .invokevirtual 478, 3, 175, 3, 1, 1704, 6, []), (105, .i2l, 1, 0, 0, 0, 0, 0, []), (106, .lreturn, 1, 0, 0, 2, 0, 0, [])]
noncomputable def am_s256 : am_S := (yX6_qOf, cX6_qOf, 5, (some .long), 1, 2, 4, 6, 1914, 1913, 156, 175)
noncomputable def am_c256 : List (Nat × am_E) := [(0, .iload_n 1, 1, 1, 0, 0, 0, 0, []), (1, .lookupswitch 11 #[], 11, 12, 0, 0, 0, 0, []), (12, .lload_n 2, 1, 2, 0, 0, 0, 0, []), (13, .lconst 0, 1, 0, 0, 0, 0, 0, []), (14, .aload_n 0, 1, 0, 0, 0, 0, 0, []), (15, .invokevirtual 402, 3, 158, 1, 1, 1628, 6, []),
  (18, .iconst 1, 1, 0, 0, 0, 0, 1, []), (19, .isub, 1, 0, 0, 0, 0, 0, []), (20, .i2l, 1, 0, 0, 0, 0, 0, []), (21, .invokestatic 282, 3, 127, 3, 4, 1456, 0, []), (24, .ifCond .eq 15, 3, 39, 0, 0, 0, 0, []), (27, .aload_n 0, 1, 0, 0, 0, 0, 0, []),
  (28, .iload 4, 2, 4, 0, 0, 0, 0, []), (30, .lload_n 2, 1, 2, 0, 0, 0, 0, []), (31, .l2i, 1, 0, 0, 0, 0, 0, []), (32, .invokevirtual 417, 3, 165, 3, 1, 1632, 6, []), (35, .i2l, 1, 0, 0, 0, 0, 0, []), (36, .goto 4, 3, 40, 0, 0, 0, 0, []),
  (39, .lconst 0, 1, 0, 0, 0, 0, 0, []), (40, .lreturn, 1, 0, 0, 2, 0, 0, [])]
noncomputable def am_s257 : am_S := (yX6_qTold, cX6_qTold, 4, (some .long), 1, 2, 2, 6, 1910, 1909, 155, 175)
noncomputable def am_c257 : List (Nat × am_E) := [(0, .aload_n 0, 1, 0, 0, 0, 0, 0, []), (1, .iconst 0, 1, 0, 0, 0, 0, 0, []), (2, .putfield 428, 3, 6, 98, 1, 1163, 0, []), (5, .iconst 0, 1, 0, 0, 0, 0, 0, []), (6, .istore_n 2, 1, 2, 0, 0, 0, 0, []), (7, .iload_n 2, 1, 2, 0, 0, 0, 0, []),
  (8, .aload_n 0, 1, 0, 0, 0, 0, 0, []), (9, .getfield 338, 3, 6, 92, 1, 1157, 0, []), (12, .if_icmp .ge 156, 3, 168, 0, 0, 0, 0, []), (15, .aload_n 0, 1, 0, 0, 0, 0, 0, []), (16, .getfield 227, 3, 6, 91, 3, 1156, 0, []), (19, .iload_n 2, 1, 2, 0, 0, 0, 0, []),
  (20, .iaload, 1, 0, 0, 0, 0, 0, []), (21, .istore_n 3, 1, 3, 0, 0, 0, 0, []), (22, .iload_n 3, 1, 3, 0, 0, 0, 0, []), (23, .sipush 1000, 3, 0, 0, 0, 0, 1000, []), (26, .if_icmp .lt 16, 3, 42, 0, 0, 0, 0, []), (29, .aload_n 0, 1, 0, 0, 0, 0, 0, []),
  (30, .iload_n 3, 1, 3, 0, 0, 0, 0, []), (31, .sipush 1000, 3, 0, 0, 0, 0, 1000, []), (34, .isub, 1, 0, 0, 0, 0, 0, []), (35, .i2l, 1, 0, 0, 0, 0, 0, []), (36, .invokevirtual 431, 3, 253, 2, 0, 1692, 6, []), (39, .goto 123, 3, 162, 0, 0, 0, 0, []),
  (42, .iload_n 3, 1, 3, 0, 0, 0, 0, []), (43, .bipush 60, 2, 0, 0, 0, 0, 60, []), (45, .if_icmp .lt 40, 3, 85, 0, 0, 0, 0, []), (48, .aload_n 0, 1, 0, 0, 0, 0, 0, []), (49, .getfield 233, 3, 6, 97, 3, 1162, 0, []), (52, .aload_n 0, 1, 0, 0, 0, 0, 0, []),
  (53, .getfield 428, 3, 6, 98, 1, 1163, 0, []), (56, .iconst 1, 1, 0, 0, 0, 0, 1, []), (57, .isub, 1, 0, 0, 0, 0, 0, []), (58, .aload_n 0, 1, 0, 0, 0, 0, 0, []), (59, .iload_n 3, 1, 3, 0, 0, 0, 0, []), (60, .bipush 60, 2, 0, 0, 0, 0, 60, []),
  (62, .isub, 1, 0, 0, 0, 0, 0, []), (63, .aload_n 0, 1, 0, 0, 0, 0, 0, []), (64, .getfield 233, 3, 6, 97, 3, 1162, 0, []), (67, .aload_n 0, 1, 0, 0, 0, 0, 0, []), (68, .getfield 428, 3, 6, 98, 1, 1163, 0, []), (71, .iconst 1, 1, 0, 0, 0, 0, 1, []),
  (72, .isub, 1, 0, 0, 0, 0, 0, []), (73, .laload, 1, 0, 0, 0, 0, 0, []), (74, .iload_n 1, 1, 1, 0, 0, 0, 0, []), (75, .invokevirtual 662, 3, 256, 4, 2, 1911, 6, []), (78, .invokestatic 651, 3, 251, 1, 2, 1712, 0, []), (81, .lastore, 1, 0, 0, 0, 0, 0, []),
  (82, .goto 80, 3, 162, 0, 0, 0, 0, []), (85, .iload_n 3, 1, 3, 0, 0, 0, 0, []), (86, .bipush 40, 2, 0, 0, 0, 0, 40, []), (88, .if_icmp .lt 22, 3, 110, 0, 0, 0, 0, []), (91, .aload_n 0, 1, 0, 0, 0, 0, 0, []), (92, .aload_n 0, 1, 0, 0, 0, 0, 0, []),
  (93, .iload_n 3, 1, 3, 0, 0, 0, 0, []), (94, .bipush 40, 2, 0, 0, 0, 0, 40, []), (96, .isub, 1, 0, 0, 0, 0, 0, []), (97, .iload_n 1, 1, 1, 0, 0, 0, 0, []), (98, .invokevirtual 435, 3, 255, 3, 2, 1696, 6, []), (101, .invokestatic 651, 3, 251, 1, 2, 1712, 0, []),
  (104, .invokevirtual 431, 3, 253, 2, 0, 1692, 6, []), (107, .goto 55, 3, 162, 0, 0, 0, 0, []), (110, .iload_n 3, 1, 3, 0, 0, 0, 0, []), (111, .bipush 13, 2, 0, 0, 0, 0, 13, []), (113, .if_icmp .ne 11, 3, 124, 0, 0, 0, 0, []), (116, .aload_n 0, 1, 0, 0, 0, 0, 0, []),
  (117, .lconst 1, 1, 0, 0, 0, 0, 1, []), (118, .invokevirtual 431, 3, 253, 2, 0, 1692, 6, []), (121, .goto 41, 3, 162, 0, 0, 0, 0, []), (124, .iload_n 3, 1, 3, 0, 0, 0, 0, []), (125, .bipush 12, 2, 0, 0, 0, 0, 12, []), (127, .if_icmp .ne 30, 3, 157, 0, 0, 0, 0, []),
  (130, .aload_n 0, 1, 0, 0, 0, 0, 0, []), (131, .getfield 233, 3, 6, 97, 3, 1162, 0, []), (134, .aload_n 0, 1, 0, 0, 0, 0, 0, []), (135, .getfield 428, 3, 6, 98, 1, 1163, 0, []), (138, .iconst 1, 1, 0, 0, 0, 0, 1, []), (139, .isub, 1, 0, 0, 0, 0, 0, []),
  (140, .lconst 1, 1, 0, 0, 0, 0, 1, []), (141, .aload_n 0, 1, 0, 0, 0, 0, 0, []), (142, .getfield 233, 3, 6, 97, 3, 1162, 0, []), (145, .aload_n 0, 1, 0, 0, 0, 0, 0, []), (146, .getfield 428, 3, 6, 98, 1, 1163, 0, []), (149, .iconst 1, 1, 0, 0, 0, 0, 1, []),
  (150, .isub, 1, 0, 0, 0, 0, 0, []), (151, .laload, 1, 0, 0, 0, 0, 0, []), (152, .lsub, 1, 0, 0, 0, 0, 0, []), (153, .lastore, 1, 0, 0, 0, 0, 0, []), (154, .goto 8, 3, 162, 0, 0, 0, 0, []), (157, .aload_n 0, 1, 0, 0, 0, 0, 0, []),
  (158, .iload_n 3, 1, 3, 0, 0, 0, 0, []), (159, .invokevirtual 439, 3, 254, 2, 0, 1708, 6, []), (162, .iinc 2 1, 3, 2, 0, 0, 0, 1, []), (165, .goto (-158), 3, 7, 0, 0, 0, 0, []), (168, .aload_n 0, 1, 0, 0, 0, 0, 0, []), (169, .getfield 233, 3, 6, 97, 3, 1162, 0, []),
  (172, .iconst 0, 1, 0, 0, 0, 0, 0, []), (173, .laload, 1, 0, 0, 0, 0, 0, []), (174, .lreturn, 1, 0, 0, 2, 0, 0, [])]
noncomputable def am_s258 : am_S := (yX6_qKind, cX6_qKind, 2, (some .int), 1, 1, 1, 6, 1905, 1904, 154, 175)
noncomputable def am_c258 : List (Nat × am_E) := [(0, .aload_n 0, 1, 0, 0, 0, 0, 0, []), (1, .aload_n 0, 1, 0, 0, 0, 0, 0, []), (2, .getfield 167, 3, 6, 71, 3, 1136, 0, []), (5, .invokevirtual 269, 3, 135, 2, 4, 1400, 6, []), (8, .ifCond .eq 7, 3, 15, 0, 0, 0, 0, []), (11, .iconst 0, 1, 0, 0, 0, 0, 0, []),
  (12, .goto 64, 3, 76, 0, 0, 0, 0, []), (15, .aload_n 0, 1, 0, 0, 0, 0, 0, []), (16, .aload_n 0, 1, 0, 0, 0, 0, 0, []), (17, .getfield 170, 3, 6, 72, 3, 1137, 0, []), (20, .invokevirtual 269, 3, 135, 2, 4, 1400, 6, []), (23, .ifCond .eq 7, 3, 30, 0, 0, 0, 0, []),
  (26, .iconst 1, 1, 0, 0, 0, 0, 1, []), (27, .goto 49, 3, 76, 0, 0, 0, 0, []), (30, .aload_n 0, 1, 0, 0, 0, 0, 0, []), (31, .aload_n 0, 1, 0, 0, 0, 0, 0, []), (32, .getfield 173, 3, 6, 73, 3, 1138, 0, []), (35, .invokevirtual 269, 3, 135, 2, 4, 1400, 6, []),
  (38, .ifCond .eq 7, 3, 45, 0, 0, 0, 0, []), (41, .iconst 2, 1, 0, 0, 0, 0, 2, []), (42, .goto 34, 3, 76, 0, 0, 0, 0, []), (45, .aload_n 0, 1, 0, 0, 0, 0, 0, []), (46, .aload_n 0, 1, 0, 0, 0, 0, 0, []), (47, .getfield 176, 3, 6, 74, 3, 1139, 0, []),
  (50, .invokevirtual 269, 3, 135, 2, 4, 1400, 6, []), (53, .ifCond .eq 7, 3, 60, 0, 0, 0, 0, []), (56, .iconst 3, 1, 0, 0, 0, 0, 3, []), (57, .goto 19, 3, 76, 0, 0, 0, 0, []), (60, .aload_n 0, 1, 0, 0, 0, 0, 0, []), (61, .aload_n 0, 1, 0, 0, 0, 0, 0, []),
  (62, .getfield 179, 3, 6, 75, 3, 1140, 0, []), (65, .invokevirtual 269, 3, 135, 2, 4, 1400, 6, []), (68, .ifCond .eq 7, 3, 75, 0, 0, 0, 0, []), (71, .iconst 4, 1, 0, 0, 0, 0, 4, []), (72, .goto 4, 3, 76, 0, 0, 0, 0, []), (75, .iconst 5, 1, 0, 0, 0, 0, 5, []),
  (76, .istore_n 1, 1, 1, 0, 0, 0, 0, []), (77, .iload_n 1, 1, 1, 0, 0, 0, 0, []), (78, .iconst 5, 1, 0, 0, 0, 0, 5, []), (79, .if_icmp .ne 11, 3, 90, 0, 0, 0, 0, []), (82, .aload_n 0, 1, 0, 0, 0, 0, 0, []), (83, .aload_n 0, 1, 0, 0, 0, 0, 0, []),
  (84, .getfield 182, 3, 6, 76, 3, 1141, 0, []), (87, .invokevirtual 323, 3, 136, 2, 0, 1445, 6, []), (90, .iload_n 1, 1, 1, 0, 0, 0, 0, []), (91, .ireturn, 1, 0, 0, 1, 0, 0, [])]
noncomputable def am_s259 : am_S := (yX6_qTakes, cX6_qTakes, 6, none, 1, 0, 4, 6, 1918, 1917, 157, 175)
noncomputable def am_c259 : List (Nat × am_E) := [(0, .iload_n 1, 1, 1, 0, 0, 0, 0, []), (1, .iconst 3, 1, 0, 0, 0, 0, 3, []), (2, .if_icmp .ge 13, 3, 15, 0, 0, 0, 0, []), (5, .lload_n 2, 1, 2, 0, 0, 0, 0, []), (6, .lconst 1, 1, 0, 0, 0, 0, 1, []), (7, .lcmp, 1, 0, 0, 0, 0, 0, []),
  (8, .ifCond .ne 7, 3, 15, 0, 0, 0, 0, []), (11, .iconst 1, 1, 0, 0, 0, 0, 1, []), (12, .goto 4, 3, 16, 0, 0, 0, 0, []), (15, .iconst 0, 1, 0, 0, 0, 0, 0, []), (16, .istore 5, 2, 5, 0, 0, 0, 0, []), (18, .iload_n 1, 1, 1, 0, 0, 0, 0, []),
  (19, .ifCond .ne 19, 3, 38, 0, 0, 0, 0, []), (22, .iload 5, 2, 5, 0, 0, 0, 0, []), (24, .ifCond .eq 14, 3, 38, 0, 0, 0, 0, []), (27, .aload_n 0, 1, 0, 0, 0, 0, 0, []), (28, .getfield 666, 3, 6, 99, 2, 1164, 0, []), (31, .ldc2_w 669, 3, 0, 0, 0, 1906, (-1), []),
  (34, .lcmp, 1, 0, 0, 0, 0, 0, []), (35, .ifCond .eq 13, 3, 48, 0, 0, 0, 0, []), (38, .iload_n 1, 1, 1, 0, 0, 0, 0, []), (39, .iconst 1, 1, 0, 0, 0, 0, 1, []), (40, .if_icmp .ne 15, 3, 55, 0, 0, 0, 0, []), (43, .iload 5, 2, 5, 0, 0, 0, 0, []),
  (45, .ifCond .eq 10, 3, 55, 0, 0, 0, 0, []), (48, .aload_n 0, 1, 0, 0, 0, 0, 0, []), (49, .iload 4, 2, 4, 0, 0, 0, 0, []), (51, .i2l, 1, 0, 0, 0, 0, 0, []), (52, .putfield 666, 3, 6, 99, 2, 1164, 0, []), (55, .iload_n 1, 1, 1, 0, 0, 0, 0, []),
  (56, .iconst 2, 1, 0, 0, 0, 0, 2, []), (57, .if_icmp .ne 18, 3, 75, 0, 0, 0, 0, []), (60, .iload 5, 2, 5, 0, 0, 0, 0, []), (62, .ifCond .eq 13, 3, 75, 0, 0, 0, 0, []), (65, .aload_n 0, 1, 0, 0, 0, 0, 0, []), (66, .dup, 1, 0, 0, 0, 0, 0, []),
  (67, .getfield 666, 3, 6, 99, 2, 1164, 0, []), (70, .lconst 1, 1, 0, 0, 0, 0, 1, []), (71, .ladd, 1, 0, 0, 0, 0, 0, []), (72, .putfield 666, 3, 6, 99, 2, 1164, 0, []), (75, .iload_n 1, 1, 1, 0, 0, 0, 0, []), (76, .iconst 3, 1, 0, 0, 0, 0, 3, []),
  (77, .if_icmp .ne 13, 3, 90, 0, 0, 0, 0, []), (80, .aload_n 0, 1, 0, 0, 0, 0, 0, []), (81, .dup, 1, 0, 0, 0, 0, 0, []), (82, .getfield 666, 3, 6, 99, 2, 1164, 0, []), (85, .lload_n 2, 1, 2, 0, 0, 0, 0, []), (86, .ladd, 1, 0, 0, 0, 0, 0, []),
  (87, .putfield 666, 3, 6, 99, 2, 1164, 0, []), (90, .iload_n 1, 1, 1, 0, 0, 0, 0, []), (91, .iconst 3, 1, 0, 0, 0, 0, 3, []), (92, .if_icmp .le 41, 3, 133, 0, 0, 0, 0, []), (95, .aload_n 0, 1, 0, 0, 0, 0, 0, []), (96, .getfield 671, 3, 6, 100, 4, 1165, 0, []),
  (99, .ifCond .ne 29, 3, 128, 0, 0, 0, 0, []), (102, .iload_n 1, 1, 1, 0, 0, 0, 0, []), (103, .iconst 4, 1, 0, 0, 0, 0, 4, []), (104, .if_icmp .ne 15, 3, 119, 0, 0, 0, 0, []), (107, .lload_n 2, 1, 2, 0, 0, 0, 0, []), (108, .aload_n 0, 1, 0, 0, 0, 0, 0, []),
  (109, .getfield 666, 3, 6, 99, 2, 1164, 0, []), (112, .lcmp, 1, 0, 0, 0, 0, 0, []), (113, .ifCond .le 20, 3, 133, 0, 0, 0, 0, []), (116, .goto 12, 3, 128, 0, 0, 0, 0, []), (119, .lload_n 2, 1, 2, 0, 0, 0, 0, []), (120, .aload_n 0, 1, 0, 0, 0, 0, 0, []),
  (121, .getfield 666, 3, 6, 99, 2, 1164, 0, []), (124, .lcmp, 1, 0, 0, 0, 0, 0, []), (125, .ifCond .ge 8, 3, 133, 0, 0, 0, 0, []), (128, .aload_n 0, 1, 0, 0, 0, 0, 0, []), (129, .lload_n 2, 1, 2, 0, 0, 0, 0, []), (130, .putfield 666, 3, 6, 99, 2, 1164, 0, []),
  (133, .aload_n 0, 1, 0, 0, 0, 0, 0, []), (134, .iconst 0, 1, 0, 0, 0, 0, 0, []), (135, .putfield 671, 3, 6, 100, 4, 1165, 0, []), (138, .return_, 1, 0, 0, 0, 0, 0, [])]
noncomputable def am_s260 : am_S := (yX6_ask, cX6_ask, 4, (some .long), 1, 2, 2, 6, 1901, 1899, 1900, 175)
noncomputable def am_c260_0 : List (Nat × am_E) := [(0, .aload_n 0, 1, 0, 0, 0, 0, 0, []), (1, .iload_n 1, 1, 1, 0, 0, 0, 0, []), (2, .invokevirtual 528, 3, 163, 2, 4, 1644, 6, []), (5, .ifCond .ne 12, 3, 17, 0, 0, 0, 0, []), (8, .aload_n 0, 1, 0, 0, 0, 0, 0, []), (9, .iconst 0, 1, 0, 0, 0, 0, 0, []),
  (10, .putfield 239, 3, 6, 1, 1, 1066, 0, []), (13, .ldc2_w 534, 3, 0, 0, 0, 1736, (-1000000000000000), []), (16, .lreturn, 1, 0, 0, 2, 0, 0, []), (17, .aload_n 0, 1, 0, 0, 0, 0, 0, []), (18, .aload_n 0, 1, 0, 0, 0, 0, 0, []), (19, .getfield 239, 3, 6, 1, 1, 1066, 0, []),
  (22, .putfield 251, 3, 6, 3, 1, 1068, 0, []), (25, .aload_n 0, 1, 0, 0, 0, 0, 0, []), (26, .iconst 0, 1, 0, 0, 0, 0, 0, []), (27, .putfield 239, 3, 6, 1, 1, 1066, 0, []), (30, .aload_n 0, 1, 0, 0, 0, 0, 0, []), (31, .iconst 0, 1, 0, 0, 0, 0, 0, []),
  (32, .putfield 248, 3, 6, 2, 1, 1067, 0, []), (35, .aload_n 0, 1, 0, 0, 0, 0, 0, []), (36, .iconst (-1), 1, 0, 0, 0, 0, (-1), []), (37, .putfield 262, 3, 6, 4, 1, 1069, 0, []), (40, .aload_n 0, 1, 0, 0, 0, 0, 0, []), (41, .iconst 0, 1, 0, 0, 0, 0, 0, []),
  (42, .putfield 242, 3, 6, 5, 1, 1070, 0, []), (45, .aload_n 0, 1, 0, 0, 0, 0, 0, []), (46, .iconst (-1), 1, 0, 0, 0, 0, (-1), []), (47, .putfield 245, 3, 6, 6, 1, 1071, 0, []), (50, .aload_n 0, 1, 0, 0, 0, 0, 0, []), (51, .iconst 3, 1, 0, 0, 0, 0, 3, []),
  (52, .putfield 297, 3, 6, 53, 1, 1118, 0, []), (55, .aload_n 0, 1, 0, 0, 0, 0, 0, []), (56, .iconst 0, 1, 0, 0, 0, 0, 0, []), (57, .putfield 338, 3, 6, 92, 1, 1157, 0, []), (60, .aload_n 0, 1, 0, 0, 0, 0, 0, []), (61, .iconst 0, 1, 0, 0, 0, 0, 0, []),
  (62, .putfield 341, 3, 6, 94, 1, 1159, 0, []), (65, .aload_n 0, 1, 0, 0, 0, 0, 0, []), (66, .iconst 0, 1, 0, 0, 0, 0, 0, []), (67, .putfield 344, 3, 6, 95, 1, 1160, 0, []), (70, .aload_n 0, 1, 0, 0, 0, 0, 0, []), (71, .iconst 0, 1, 0, 0, 0, 0, 0, []),
  (72, .putfield 347, 3, 6, 96, 1, 1161, 0, []), (75, .aload_n 0, 1, 0, 0, 0, 0, 0, []), (76, .invokevirtual 674, 3, 258, 1, 1, 1902, 6, []), (79, .istore_n 2, 1, 2, 0, 0, 0, 0, []), (80, .aload_n 0, 1, 0, 0, 0, 0, 0, []), (81, .getfield 242, 3, 6, 5, 1, 1070, 0, []),
  (84, .ifCond .ne 15, 3, 99, 0, 0, 0, 0, []), (87, .iload_n 2, 1, 2, 0, 0, 0, 0, []), (88, .iconst 3, 1, 0, 0, 0, 0, 3, []), (89, .if_icmp .ge 10, 3, 99, 0, 0, 0, 0, []), (92, .aload_n 0, 1, 0, 0, 0, 0, 0, []), (93, .invokevirtual 350, 3, 249, 1, 0, 1479, 6, []),
  (96, .goto 14, 3, 110, 0, 0, 0, 0, []), (99, .aload_n 0, 1, 0, 0, 0, 0, 0, []), (100, .getfield 242, 3, 6, 5, 1, 1070, 0, []), (103, .ifCond .ne 7, 3, 110, 0, 0, 0, 0, []), (106, .aload_n 0, 1, 0, 0, 0, 0, 0, []), (107, .invokevirtual 353, 3, 245, 1, 0, 1495, 6, []),
  (110, .aload_n 0, 1, 0, 0, 0, 0, 0, []), (111, .getfield 242, 3, 6, 5, 1, 1070, 0, []), (114, .ifCond .ne 20, 3, 134, 0, 0, 0, 0, []), (117, .aload_n 0, 1, 0, 0, 0, 0, 0, []), (118, .invokevirtual 254, 3, 133, 1, 1, 1388, 6, []), (121, .iconst (-1), 1, 0, 0, 0, 0, (-1), []),
  (122, .if_icmp .eq 12, 3, 134, 0, 0, 0, 0, []), (125, .aload_n 0, 1, 0, 0, 0, 0, 0, []), (126, .iconst 1, 1, 0, 0, 0, 0, 1, []), (127, .aload_n 0, 1, 0, 0, 0, 0, 0, []), (128, .getfield 248, 3, 6, 2, 1, 1067, 0, []), (131, .invokevirtual 272, 3, 130, 3, 0, 1396, 6, []),
  (134, .aload_n 0, 1, 0, 0, 0, 0, 0, []), (135, .aload_n 0, 1, 0, 0, 0, 0, 0, []), (136, .getfield 242, 3, 6, 5, 1, 1070, 0, []), (139, .putfield 387, 3, 6, 7, 1, 1072, 0, []), (142, .aload_n 0, 1, 0, 0, 0, 0, 0, []), (143, .aload_n 0, 1, 0, 0, 0, 0, 0, []),
  (144, .getfield 245, 3, 6, 6, 1, 1071, 0, []), (147, .putfield 13, 3, 6, 8, 1, 1073, 0, []), (150, .aload_n 0, 1, 0, 0, 0, 0, 0, []), (151, .getfield 242, 3, 6, 5, 1, 1070, 0, []), (154, .ifCond .eq 7, 3, 161, 0, 0, 0, 0, []), (157, .ldc2_w 534, 3, 0, 0, 0, 1736, (-1000000000000000), []),
  (160, .lreturn, 1, 0, 0, 2, 0, 0, []), (161, .aload_n 0, 1, 0, 0, 0, 0, 0, []), (162, .iload_n 2, 1, 2, 0, 0, 0, 0, []), (163, .iconst 2, 1, 0, 0, 0, 0, 2, []), (164, .if_icmp .ge 9, 3, 173, 0, 0, 0, 0, []), (167, .ldc2_w 669, 3, 0, 0, 0, 1906, (-1), []),
  (170, .goto 4, 3, 174, 0, 0, 0, 0, []), (173, .lconst 0, 1, 0, 0, 0, 0, 0, []), (174, .putfield 666, 3, 6, 99, 2, 1164, 0, []), (177, .aload_n 0, 1, 0, 0, 0, 0, 0, []), (178, .iconst 1, 1, 0, 0, 0, 0, 1, []), (179, .putfield 671, 3, 6, 100, 4, 1165, 0, []),
  (182, .aload_n 0, 1, 0, 0, 0, 0, 0, []), (183, .iload_n 1, 1, 1, 0, 0, 0, 0, []), (184, .putfield 659, 3, 6, 56, 1, 1121, 0, []), (187, .aload_n 0, 1, 0, 0, 0, 0, 0, [])]
noncomputable def am_c260_1 : List (Nat × am_E) := [(188, .aload_n 0, 1, 0, 0, 0, 0, 0, []), (189, .iload_n 1, 1, 1, 0, 0, 0, 0, []), (190, .invokevirtual 454, 3, 170, 2, 1, 1680, 6, []), (193, .putfield 448, 3, 6, 57, 1, 1122, 0, []), (196, .aload_n 0, 1, 0, 0, 0, 0, 0, []), (197, .iconst 3, 1, 0, 0, 0, 0, 3, []),
  (198, .putfield 297, 3, 6, 53, 1, 1118, 0, []), (201, .iconst 0, 1, 0, 0, 0, 0, 0, []), (202, .istore_n 3, 1, 3, 0, 0, 0, 0, []), (203, .iload_n 3, 1, 3, 0, 0, 0, 0, []), (204, .aload_n 0, 1, 0, 0, 0, 0, 0, []), (205, .invokevirtual 405, 3, 159, 1, 1, 1620, 6, []),
  (208, .if_icmp .ge 20, 3, 228, 0, 0, 0, 0, []), (211, .aload_n 0, 1, 0, 0, 0, 0, 0, []), (212, .iload_n 2, 1, 2, 0, 0, 0, 0, []), (213, .aload_n 0, 1, 0, 0, 0, 0, 0, []), (214, .iload_n 3, 1, 3, 0, 0, 0, 0, []), (215, .invokevirtual 677, 3, 257, 2, 2, 1907, 6, []),
  (218, .iload_n 3, 1, 3, 0, 0, 0, 0, []), (219, .invokevirtual 681, 3, 259, 4, 0, 1915, 6, []), (222, .iinc 3 1, 3, 3, 0, 0, 0, 1, []), (225, .goto (-22), 3, 203, 0, 0, 0, 0, []), (228, .aload_n 0, 1, 0, 0, 0, 0, 0, []), (229, .getfield 666, 3, 6, 99, 2, 1164, 0, []),
  (232, .lreturn, 1, 0, 0, 2, 0, 0, [])]
noncomputable def am_c260 : List (Nat × am_E) := am_c260_0 ++ (am_c260_1)
noncomputable def am_s261 : am_S := (yX6_checked, cX6_checked, 4, (some .int), 0, 1, 2, 6, 1933, 1932, 0, 175)
noncomputable def am_c261 : List (Nat × am_E) := [(0, .bipush 53, 2, 0, 0, 0, 0, 53, []), (2, .istore_n 2, 1, 2, 0, 0, 0, 0, []), (3, .iconst 0, 1, 0, 0, 0, 0, 0, []), (4, .istore_n 3, 1, 3, 0, 0, 0, 0, []), (5, .iload_n 3, 1, 3, 0, 0, 0, 0, []), (6, .iload_n 1, 1, 1, 0, 0, 0, 0, []),
  (7, .if_icmp .ge 21, 3, 28, 0, 0, 0, 0, []), (10, .iconst 3, 1, 0, 0, 0, 0, 3, []), (11, .iload_n 2, 1, 2, 0, 0, 0, 0, []), (12, .imul, 1, 0, 0, 0, 0, 0, []), (13, .aload_n 0, 1, 0, 0, 0, 0, 0, []), (14, .iload_n 3, 1, 3, 0, 0, 0, 0, []),
  (15, .iaload, 1, 0, 0, 0, 0, 0, []), (16, .iadd, 1, 0, 0, 0, 0, 0, []), (17, .sipush 251, 3, 0, 0, 0, 0, 251, []), (20, .irem, 1, 0, 0, 0, 0, 0, []), (21, .istore_n 2, 1, 2, 0, 0, 0, 0, []), (22, .iinc 3 1, 3, 3, 0, 0, 0, 1, []),
  (25, .goto (-20), 3, 5, 0, 0, 0, 0, []), (28, .iload_n 2, 1, 2, 0, 0, 0, 0, []), (29, .ireturn, 1, 0, 0, 1, 0, 0, [])]
noncomputable def am_s262 : am_S := (yX6_writes, cX6_writes, 2, none, 1, 0, 2, 6, 1930, 1929, 159, 175)
noncomputable def am_c262 : List (Nat × am_E) := [(0, .aload_n 0, 1, 0, 0, 0, 0, 0, []), (1, .getfield 236, 3, 6, 101, 3, 1166, 0, []), (4, .aload_n 0, 1, 0, 0, 0, 0, 0, []), (5, .getfield 685, 3, 6, 102, 1, 1167, 0, []), (8, .iload_n 1, 1, 1, 0, 0, 0, 0, []), (9, .iastore, 1, 0, 0, 0, 0, 0, []),
  (10, .aload_n 0, 1, 0, 0, 0, 0, 0, []), (11, .dup, 1, 0, 0, 0, 0, 0, []), (12, .getfield 685, 3, 6, 102, 1, 1167, 0, []), (15, .iconst 1, 1, 0, 0, 0, 0, 1, []), (16, .iadd, 1, 0, 0, 0, 0, 0, []), (17, .putfield 685, 3, 6, 102, 1, 1167, 0, []),
  (20, .return_, 1, 0, 0, 0, 0, 0, [])]
noncomputable def am_s263 : am_S := (yX6_writesTwo, cX6_writesTwo, 2, none, 1, 0, 2, 6, 1926, 1925, 158, 175)
noncomputable def am_c263 : List (Nat × am_E) := [(0, .aload_n 0, 1, 0, 0, 0, 0, 0, []), (1, .iload_n 1, 1, 1, 0, 0, 0, 0, []), (2, .sipush 256, 3, 0, 0, 0, 0, 256, []), (5, .idiv, 1, 0, 0, 0, 0, 0, []), (6, .invokevirtual 688, 3, 262, 2, 0, 1927, 6, []), (9, .aload_n 0, 1, 0, 0, 0, 0, 0, []),
  (10, .iload_n 1, 1, 1, 0, 0, 0, 0, []), (11, .sipush 256, 3, 0, 0, 0, 0, 256, []), (14, .irem, 1, 0, 0, 0, 0, 0, []), (15, .invokevirtual 688, 3, 262, 2, 0, 1927, 6, []), (18, .return_, 1, 0, 0, 0, 0, 0, [])]
noncomputable def am_s264 : am_S := (yX6_image, cX6_image, 3, (some .int), 1, 1, 1, 6, 1922, 1920, 1921, 175)
noncomputable def am_c264 : List (Nat × am_E) := [(0, .aload_n 0, 1, 0, 0, 0, 0, 0, []), (1, .iconst 0, 1, 0, 0, 0, 0, 0, []), (2, .putfield 685, 3, 6, 102, 1, 1167, 0, []), (5, .aload_n 0, 1, 0, 0, 0, 0, 0, []), (6, .aload_n 0, 1, 0, 0, 0, 0, 0, []), (7, .getfield 139, 3, 6, 54, 3, 1119, 0, []),
  (10, .iconst 0, 1, 0, 0, 0, 0, 0, []), (11, .iaload, 1, 0, 0, 0, 0, 0, []), (12, .invokevirtual 691, 3, 263, 2, 0, 1923, 6, []), (15, .aload_n 0, 1, 0, 0, 0, 0, 0, []), (16, .aload_n 0, 1, 0, 0, 0, 0, 0, []), (17, .getfield 139, 3, 6, 54, 3, 1119, 0, []),
  (20, .iconst 1, 1, 0, 0, 0, 0, 1, []), (21, .iaload, 1, 0, 0, 0, 0, 0, []), (22, .invokevirtual 688, 3, 262, 2, 0, 1927, 6, []), (25, .iconst 0, 1, 0, 0, 0, 0, 0, []), (26, .istore_n 1, 1, 1, 0, 0, 0, 0, []), (27, .iload_n 1, 1, 1, 0, 0, 0, 0, []),
  (28, .aload_n 0, 1, 0, 0, 0, 0, 0, []), (29, .invokevirtual 408, 3, 160, 1, 1, 1576, 6, []), (32, .if_icmp .gt 66, 3, 98, 0, 0, 0, 0, []), (35, .iconst 0, 1, 0, 0, 0, 0, 0, []), (36, .istore_n 2, 1, 2, 0, 0, 0, 0, []), (37, .iload_n 2, 1, 2, 0, 0, 0, 0, []),
  (38, .aload_n 0, 1, 0, 0, 0, 0, 0, []), (39, .invokevirtual 402, 3, 158, 1, 1, 1628, 6, []), (42, .if_icmp .ge 24, 3, 66, 0, 0, 0, 0, []), (45, .aload_n 0, 1, 0, 0, 0, 0, 0, []), (46, .aload_n 0, 1, 0, 0, 0, 0, 0, []), (47, .getfield 139, 3, 6, 54, 3, 1119, 0, []),
  (50, .aload_n 0, 1, 0, 0, 0, 0, 0, []), (51, .iload_n 1, 1, 1, 0, 0, 0, 0, []), (52, .iload_n 2, 1, 2, 0, 0, 0, 0, []), (53, .invokevirtual 420, 3, 171, 3, 1, 1656, 6, []), (56, .iaload, 1, 0, 0, 0, 0, 0, []), (57, .invokevirtual 691, 3, 263, 2, 0, 1923, 6, []),
  (60, .iinc 2 1, 3, 2, 0, 0, 0, 1, []), (63, .goto (-26), 3, 37, 0, 0, 0, 0, []), (66, .iconst 0, 1, 0, 0, 0, 0, 0, []), (67, .istore_n 2, 1, 2, 0, 0, 0, 0, []), (68, .iload_n 2, 1, 2, 0, 0, 0, 0, []), (69, .aload_n 0, 1, 0, 0, 0, 0, 0, []),
  (70, .invokevirtual 405, 3, 159, 1, 1, 1620, 6, []), (73, .if_icmp .ge 19, 3, 92, 0, 0, 0, 0, []), (76, .aload_n 0, 1, 0, 0, 0, 0, 0, []), (77, .aload_n 0, 1, 0, 0, 0, 0, 0, []), (78, .iload_n 1, 1, 1, 0, 0, 0, 0, []), (79, .iload_n 2, 1, 2, 0, 0, 0, 0, []),
  (80, .invokevirtual 442, 3, 173, 3, 1, 1664, 6, []), (83, .invokevirtual 688, 3, 262, 2, 0, 1927, 6, []), (86, .iinc 2 1, 3, 2, 0, 0, 0, 1, []), (89, .goto (-21), 3, 68, 0, 0, 0, 0, []), (92, .iinc 1 1, 3, 1, 0, 0, 0, 1, []), (95, .goto (-68), 3, 27, 0, 0, 0, 0, []),
  (98, .iconst 0, 1, 0, 0, 0, 0, 0, []), (99, .istore_n 1, 1, 1, 0, 0, 0, 0, []), (100, .iload_n 1, 1, 1, 0, 0, 0, 0, []), (101, .aload_n 0, 1, 0, 0, 0, 0, 0, []), (102, .invokevirtual 408, 3, 160, 1, 1, 1576, 6, []), (105, .if_icmp .ge 33, 3, 138, 0, 0, 0, 0, []),
  (108, .aload_n 0, 1, 0, 0, 0, 0, 0, []), (109, .aload_n 0, 1, 0, 0, 0, 0, 0, []), (110, .getfield 139, 3, 6, 54, 3, 1119, 0, []), (113, .bipush 86, 2, 0, 0, 0, 0, 86, []), (115, .iconst 2, 1, 0, 0, 0, 0, 2, []), (116, .iload_n 1, 1, 1, 0, 0, 0, 0, []),
  (117, .imul, 1, 0, 0, 0, 0, 0, []), (118, .iadd, 1, 0, 0, 0, 0, 0, []), (119, .iaload, 1, 0, 0, 0, 0, 0, []), (120, .invokevirtual 688, 3, 262, 2, 0, 1927, 6, []), (123, .aload_n 0, 1, 0, 0, 0, 0, 0, []), (124, .aload_n 0, 1, 0, 0, 0, 0, 0, []),
  (125, .iload_n 1, 1, 1, 0, 0, 0, 0, []), (126, .invokevirtual 508, 3, 193, 2, 1, 1603, 6, []), (129, .invokevirtual 691, 3, 263, 2, 0, 1923, 6, []), (132, .iinc 1 1, 3, 1, 0, 0, 0, 1, []), (135, .goto (-35), 3, 100, 0, 0, 0, 0, []), (138, .aload_n 0, 1, 0, 0, 0, 0, 0, []),
  (139, .aload_n 0, 1, 0, 0, 0, 0, 0, []), (140, .getfield 236, 3, 6, 101, 3, 1166, 0, []), (143, .aload_n 0, 1, 0, 0, 0, 0, 0, []), (144, .getfield 685, 3, 6, 102, 1, 1167, 0, []), (147, .invokestatic 694, 3, 261, 2, 1, 1931, 0, []), (150, .invokevirtual 688, 3, 262, 2, 0, 1927, 6, []),
  (153, .aload_n 0, 1, 0, 0, 0, 0, 0, []), (154, .getfield 685, 3, 6, 102, 1, 1167, 0, []), (157, .ireturn, 1, 0, 0, 1, 0, 0, [])]
noncomputable def am_s265 : am_S := (yX6_octet, cX6_octet, 2, (some .int), 1, 1, 2, 6, 1937, 1935, 1936, 175)
noncomputable def am_c265 : List (Nat × am_E) := [(0, .iload_n 1, 1, 1, 0, 0, 0, 0, []), (1, .ifCond .lt 20, 3, 21, 0, 0, 0, 0, []), (4, .iload_n 1, 1, 1, 0, 0, 0, 0, []), (5, .aload_n 0, 1, 0, 0, 0, 0, 0, []), (6, .getfield 685, 3, 6, 102, 1, 1167, 0, []), (9, .if_icmp .ge 12, 3, 21, 0, 0, 0, 0, []),
  (12, .aload_n 0, 1, 0, 0, 0, 0, 0, []), (13, .getfield 236, 3, 6, 101, 3, 1166, 0, []), (16, .iload_n 1, 1, 1, 0, 0, 0, 0, []), (17, .iaload, 1, 0, 0, 0, 0, 0, []), (18, .goto 4, 3, 22, 0, 0, 0, 0, []), (21, .iconst (-1), 1, 0, 0, 0, 0, (-1), []),
  (22, .ireturn, 1, 0, 0, 1, 0, 0, [])]
noncomputable def am_s266 : am_S := (yX6_twoAt, cX6_twoAt, 2, (some .int), 1, 1, 2, 6, 1953, 1952, 162, 175)
noncomputable def am_c266 : List (Nat × am_E) := [(0, .sipush 256, 3, 0, 0, 0, 0, 256, []), (3, .aload_n 0, 1, 0, 0, 0, 0, 0, []), (4, .getfield 7, 3, 6, 0, 3, 1065, 0, []), (7, .iload_n 1, 1, 1, 0, 0, 0, 0, []), (8, .iaload, 1, 0, 0, 0, 0, 0, []), (9, .imul, 1, 0, 0, 0, 0, 0, []),
  (10, .aload_n 0, 1, 0, 0, 0, 0, 0, []), (11, .getfield 7, 3, 6, 0, 3, 1065, 0, []), (14, .iload_n 1, 1, 1, 0, 0, 0, 0, []), (15, .iconst 1, 1, 0, 0, 0, 0, 1, []), (16, .iadd, 1, 0, 0, 0, 0, 0, []), (17, .iaload, 1, 0, 0, 0, 0, 0, []),
  (18, .iadd, 1, 0, 0, 0, 0, 0, []), (19, .ireturn, 1, 0, 0, 1, 0, 0, [])]
noncomputable def am_s267 : am_S := (yX6_profileFrom, cX6_profileFrom, 2, (some .int), 1, 1, 2, 6, 1949, 1948, 161, 175)
noncomputable def am_c267 : List (Nat × am_E) := [(0, .iconst 3, 1, 0, 0, 0, 0, 3, []), (1, .iload_n 1, 1, 1, 0, 0, 0, 0, []), (2, .iconst 2, 1, 0, 0, 0, 0, 2, []), (3, .aload_n 0, 1, 0, 0, 0, 0, 0, []), (4, .invokevirtual 402, 3, 158, 1, 1, 1628, 6, []), (7, .imul, 1, 0, 0, 0, 0, 0, []),
  (8, .aload_n 0, 1, 0, 0, 0, 0, 0, []), (9, .invokevirtual 405, 3, 159, 1, 1, 1620, 6, []), (12, .iadd, 1, 0, 0, 0, 0, 0, []), (13, .imul, 1, 0, 0, 0, 0, 0, []), (14, .iadd, 1, 0, 0, 0, 0, 0, []), (15, .ireturn, 1, 0, 0, 1, 0, 0, [])]
noncomputable def am_s268 : am_S := (yX6_isProfileTold, cX6_isProfileTold, 4, (some .boolean), 1, 4, 2, 6, 1957, 1956, 163, 175)
noncomputable def am_c268 : List (Nat × am_E) := [(0, .aload_n 0, 1, 0, 0, 0, 0, 0, []), (1, .iload_n 1, 1, 1, 0, 0, 0, 0, []), (2, .invokevirtual 698, 3, 267, 2, 1, 1946, 6, []), (5, .istore_n 2, 1, 2, 0, 0, 0, 0, []), (6, .iconst 0, 1, 0, 0, 0, 0, 0, []), (7, .istore_n 3, 1, 3, 0, 0, 0, 0, []),
  (8, .iload_n 3, 1, 3, 0, 0, 0, 0, []), (9, .aload_n 0, 1, 0, 0, 0, 0, 0, []), (10, .invokevirtual 402, 3, 158, 1, 1, 1628, 6, []), (13, .if_icmp .ge 26, 3, 39, 0, 0, 0, 0, []), (16, .aload_n 0, 1, 0, 0, 0, 0, 0, []), (17, .iload_n 2, 1, 2, 0, 0, 0, 0, []),
  (18, .iconst 2, 1, 0, 0, 0, 0, 2, []), (19, .iload_n 3, 1, 3, 0, 0, 0, 0, []), (20, .imul, 1, 0, 0, 0, 0, 0, []), (21, .iadd, 1, 0, 0, 0, 0, 0, []), (22, .invokevirtual 701, 3, 266, 2, 1, 1950, 6, []), (25, .sipush 999, 3, 0, 0, 0, 0, 999, []),
  (28, .if_icmp .le 5, 3, 33, 0, 0, 0, 0, []), (31, .iconst 0, 1, 0, 0, 0, 0, 0, []), (32, .ireturn, 1, 0, 0, 4, 0, 0, []), (33, .iinc 3 1, 3, 3, 0, 0, 0, 1, []), (36, .goto (-28), 3, 8, 0, 0, 0, 0, []), (39, .iload_n 2, 1, 2, 0, 0, 0, 0, []),
  (40, .iconst 2, 1, 0, 0, 0, 0, 2, []), (41, .aload_n 0, 1, 0, 0, 0, 0, 0, []), (42, .invokevirtual 402, 3, 158, 1, 1, 1628, 6, []), (45, .imul, 1, 0, 0, 0, 0, 0, []), (46, .iadd, 1, 0, 0, 0, 0, 0, []), (47, .istore_n 2, 1, 2, 0, 0, 0, 0, []),
  (48, .iconst 0, 1, 0, 0, 0, 0, 0, []), (49, .istore_n 3, 1, 3, 0, 0, 0, 0, []), (50, .iload_n 3, 1, 3, 0, 0, 0, 0, []), (51, .aload_n 0, 1, 0, 0, 0, 0, 0, []), (52, .invokevirtual 405, 3, 159, 1, 1, 1620, 6, []), (55, .if_icmp .ge 27, 3, 82, 0, 0, 0, 0, []),
  (58, .aload_n 0, 1, 0, 0, 0, 0, 0, []), (59, .getfield 7, 3, 6, 0, 3, 1065, 0, []), (62, .iload_n 2, 1, 2, 0, 0, 0, 0, []), (63, .iload_n 3, 1, 3, 0, 0, 0, 0, []), (64, .iadd, 1, 0, 0, 0, 0, 0, []), (65, .iaload, 1, 0, 0, 0, 0, 0, []),
  (66, .aload_n 0, 1, 0, 0, 0, 0, 0, []), (67, .iload_n 3, 1, 3, 0, 0, 0, 0, []), (68, .invokevirtual 445, 3, 164, 2, 1, 1636, 6, []), (71, .if_icmp .le 5, 3, 76, 0, 0, 0, 0, []), (74, .iconst 0, 1, 0, 0, 0, 0, 0, []), (75, .ireturn, 1, 0, 0, 4, 0, 0, []),
  (76, .iinc 3 1, 3, 3, 0, 0, 0, 1, []), (79, .goto (-29), 3, 50, 0, 0, 0, 0, []), (82, .iconst 1, 1, 0, 0, 0, 0, 1, []), (83, .ireturn, 1, 0, 0, 4, 0, 0, [])]
noncomputable def am_s269 : am_S := (yX6_isImage, cX6_isImage, 4, (some .boolean), 1, 4, 2, 6, 1945, 1944, 160, 175)
noncomputable def am_c269 : List (Nat × am_E) := [(0, .aload_n 0, 1, 0, 0, 0, 0, 0, []), (1, .iconst 1, 1, 0, 0, 0, 0, 1, []), (2, .aload_n 0, 1, 0, 0, 0, 0, 0, []), (3, .invokevirtual 408, 3, 160, 1, 1, 1576, 6, []), (6, .iadd, 1, 0, 0, 0, 0, 0, []), (7, .invokevirtual 698, 3, 267, 2, 1, 1946, 6, []),
  (10, .istore_n 2, 1, 2, 0, 0, 0, 0, []), (11, .iload_n 1, 1, 1, 0, 0, 0, 0, []), (12, .iload_n 2, 1, 2, 0, 0, 0, 0, []), (13, .iconst 3, 1, 0, 0, 0, 0, 3, []), (14, .aload_n 0, 1, 0, 0, 0, 0, 0, []), (15, .invokevirtual 408, 3, 160, 1, 1, 1576, 6, []),
  (18, .imul, 1, 0, 0, 0, 0, 0, []), (19, .iadd, 1, 0, 0, 0, 0, 0, []), (20, .iconst 1, 1, 0, 0, 0, 0, 1, []), (21, .iadd, 1, 0, 0, 0, 0, 0, []), (22, .if_icmp .ne 46, 3, 68, 0, 0, 0, 0, []), (25, .aload_n 0, 1, 0, 0, 0, 0, 0, []),
  (26, .getfield 7, 3, 6, 0, 3, 1065, 0, []), (29, .iload_n 1, 1, 1, 0, 0, 0, 0, []), (30, .iconst 1, 1, 0, 0, 0, 0, 1, []), (31, .isub, 1, 0, 0, 0, 0, 0, []), (32, .iaload, 1, 0, 0, 0, 0, 0, []), (33, .aload_n 0, 1, 0, 0, 0, 0, 0, []),
  (34, .getfield 7, 3, 6, 0, 3, 1065, 0, []), (37, .iload_n 1, 1, 1, 0, 0, 0, 0, []), (38, .iconst 1, 1, 0, 0, 0, 0, 1, []), (39, .isub, 1, 0, 0, 0, 0, 0, []), (40, .invokestatic 694, 3, 261, 2, 1, 1931, 0, []), (43, .if_icmp .ne 25, 3, 68, 0, 0, 0, 0, []),
  (46, .aload_n 0, 1, 0, 0, 0, 0, 0, []), (47, .iconst 0, 1, 0, 0, 0, 0, 0, []), (48, .invokevirtual 701, 3, 266, 2, 1, 1950, 6, []), (51, .sipush 999, 3, 0, 0, 0, 0, 999, []), (54, .if_icmp .gt 14, 3, 68, 0, 0, 0, 0, []), (57, .aload_n 0, 1, 0, 0, 0, 0, 0, []),
  (58, .getfield 7, 3, 6, 0, 3, 1065, 0, []), (61, .iconst 2, 1, 0, 0, 0, 0, 2, []), (62, .iaload, 1, 0, 0, 0, 0, 0, []), (63, .bipush 24, 2, 0, 0, 0, 0, 24, []), (65, .if_icmp .lt 5, 3, 70, 0, 0, 0, 0, []), (68, .iconst 0, 1, 0, 0, 0, 0, 0, []),
  (69, .ireturn, 1, 0, 0, 4, 0, 0, []), (70, .iconst 0, 1, 0, 0, 0, 0, 0, []), (71, .istore_n 3, 1, 3, 0, 0, 0, 0, []), (72, .iload_n 3, 1, 3, 0, 0, 0, 0, []), (73, .aload_n 0, 1, 0, 0, 0, 0, 0, []), (74, .invokevirtual 408, 3, 160, 1, 1, 1576, 6, []),
  (77, .if_icmp .gt 19, 3, 96, 0, 0, 0, 0, []), (80, .aload_n 0, 1, 0, 0, 0, 0, 0, []), (81, .iload_n 3, 1, 3, 0, 0, 0, 0, []), (82, .invokevirtual 704, 3, 268, 2, 4, 1954, 6, []), (85, .ifCond .ne 5, 3, 90, 0, 0, 0, 0, []), (88, .iconst 0, 1, 0, 0, 0, 0, 0, []),
  (89, .ireturn, 1, 0, 0, 4, 0, 0, []), (90, .iinc 3 1, 3, 3, 0, 0, 0, 1, []), (93, .goto (-21), 3, 72, 0, 0, 0, 0, []), (96, .iconst 0, 1, 0, 0, 0, 0, 0, []), (97, .istore_n 3, 1, 3, 0, 0, 0, 0, []), (98, .iload_n 3, 1, 3, 0, 0, 0, 0, []),
  (99, .aload_n 0, 1, 0, 0, 0, 0, 0, []), (100, .invokevirtual 408, 3, 160, 1, 1, 1576, 6, []), (103, .if_icmp .ge 42, 3, 145, 0, 0, 0, 0, []), (106, .aload_n 0, 1, 0, 0, 0, 0, 0, []), (107, .getfield 7, 3, 6, 0, 3, 1065, 0, []), (110, .iload_n 2, 1, 2, 0, 0, 0, 0, []),
  (111, .iconst 3, 1, 0, 0, 0, 0, 3, []), (112, .iload_n 3, 1, 3, 0, 0, 0, 0, []), (113, .imul, 1, 0, 0, 0, 0, 0, []), (114, .iadd, 1, 0, 0, 0, 0, 0, []), (115, .iaload, 1, 0, 0, 0, 0, 0, []), (116, .iconst 1, 1, 0, 0, 0, 0, 1, []),
  (117, .if_icmp .gt 20, 3, 137, 0, 0, 0, 0, []), (120, .aload_n 0, 1, 0, 0, 0, 0, 0, []), (121, .iload_n 2, 1, 2, 0, 0, 0, 0, []), (122, .iconst 1, 1, 0, 0, 0, 0, 1, []), (123, .iadd, 1, 0, 0, 0, 0, 0, []), (124, .iconst 3, 1, 0, 0, 0, 0, 3, []),
  (125, .iload_n 3, 1, 3, 0, 0, 0, 0, []), (126, .imul, 1, 0, 0, 0, 0, 0, []), (127, .iadd, 1, 0, 0, 0, 0, 0, []), (128, .invokevirtual 701, 3, 266, 2, 1, 1950, 6, []), (131, .sipush 9999, 3, 0, 0, 0, 0, 9999, []), (134, .if_icmp .le 5, 3, 139, 0, 0, 0, 0, []),
  (137, .iconst 0, 1, 0, 0, 0, 0, 0, []), (138, .ireturn, 1, 0, 0, 4, 0, 0, []), (139, .iinc 3 1, 3, 3, 0, 0, 0, 1, []), (142, .goto (-44), 3, 98, 0, 0, 0, 0, []), (145, .iconst 1, 1, 0, 0, 0, 0, 1, []), (146, .ireturn, 1, 0, 0, 4, 0, 0, [])]
noncomputable def am_s270 : am_S := (yX6_on, cX6_on, 5, (some .boolean), 1, 4, 1, 6, 1941, 1939, 1940, 175)
noncomputable def am_c270_0 : List (Nat × am_E) := [(0, .aload_n 0, 1, 0, 0, 0, 0, 0, []), (1, .getfield 239, 3, 6, 1, 1, 1066, 0, []), (4, .istore_n 1, 1, 1, 0, 0, 0, 0, []), (5, .aload_n 0, 1, 0, 0, 0, 0, 0, []), (6, .iconst 0, 1, 0, 0, 0, 0, 0, []), (7, .putfield 239, 3, 6, 1, 1, 1066, 0, []),
  (10, .aload_n 0, 1, 0, 0, 0, 0, 0, []), (11, .iload_n 1, 1, 1, 0, 0, 0, 0, []), (12, .invokevirtual 707, 3, 269, 2, 4, 1942, 6, []), (15, .ifCond .ne 15, 3, 30, 0, 0, 0, 0, []), (18, .aload_n 0, 1, 0, 0, 0, 0, 0, []), (19, .getfield 17, 3, 6, 9, 3, 1074, 0, []),
  (22, .iconst 5, 1, 0, 0, 0, 0, 5, []), (23, .dup2, 1, 0, 0, 0, 0, 0, []), (24, .iaload, 1, 0, 0, 0, 0, 0, []), (25, .iconst 1, 1, 0, 0, 0, 0, 1, []), (26, .iadd, 1, 0, 0, 0, 0, 0, []), (27, .iastore, 1, 0, 0, 0, 0, 0, []),
  (28, .iconst 0, 1, 0, 0, 0, 0, 0, []), (29, .ireturn, 1, 0, 0, 4, 0, 0, []), (30, .aload_n 0, 1, 0, 0, 0, 0, 0, []), (31, .getfield 139, 3, 6, 54, 3, 1119, 0, []), (34, .iconst 0, 1, 0, 0, 0, 0, 0, []), (35, .aload_n 0, 1, 0, 0, 0, 0, 0, []),
  (36, .iconst 0, 1, 0, 0, 0, 0, 0, []), (37, .invokevirtual 701, 3, 266, 2, 1, 1950, 6, []), (40, .iastore, 1, 0, 0, 0, 0, 0, []), (41, .aload_n 0, 1, 0, 0, 0, 0, 0, []), (42, .getfield 139, 3, 6, 54, 3, 1119, 0, []), (45, .iconst 1, 1, 0, 0, 0, 0, 1, []),
  (46, .aload_n 0, 1, 0, 0, 0, 0, 0, []), (47, .getfield 7, 3, 6, 0, 3, 1065, 0, []), (50, .iconst 2, 1, 0, 0, 0, 0, 2, []), (51, .iaload, 1, 0, 0, 0, 0, 0, []), (52, .iastore, 1, 0, 0, 0, 0, 0, []), (53, .iconst 0, 1, 0, 0, 0, 0, 0, []),
  (54, .istore_n 2, 1, 2, 0, 0, 0, 0, []), (55, .iload_n 2, 1, 2, 0, 0, 0, 0, []), (56, .aload_n 0, 1, 0, 0, 0, 0, 0, []), (57, .invokevirtual 408, 3, 160, 1, 1, 1576, 6, []), (60, .if_icmp .gt 101, 3, 161, 0, 0, 0, 0, []), (63, .aload_n 0, 1, 0, 0, 0, 0, 0, []),
  (64, .iload_n 2, 1, 2, 0, 0, 0, 0, []), (65, .invokevirtual 698, 3, 267, 2, 1, 1946, 6, []), (68, .istore_n 3, 1, 3, 0, 0, 0, 0, []), (69, .iconst 0, 1, 0, 0, 0, 0, 0, []), (70, .istore 4, 2, 4, 0, 0, 0, 0, []), (72, .iload 4, 2, 4, 0, 0, 0, 0, []),
  (74, .aload_n 0, 1, 0, 0, 0, 0, 0, []), (75, .invokevirtual 402, 3, 158, 1, 1, 1628, 6, []), (78, .if_icmp .ge 31, 3, 109, 0, 0, 0, 0, []), (81, .aload_n 0, 1, 0, 0, 0, 0, 0, []), (82, .getfield 139, 3, 6, 54, 3, 1119, 0, []), (85, .aload_n 0, 1, 0, 0, 0, 0, 0, []),
  (86, .iload_n 2, 1, 2, 0, 0, 0, 0, []), (87, .iload 4, 2, 4, 0, 0, 0, 0, []), (89, .invokevirtual 420, 3, 171, 3, 1, 1656, 6, []), (92, .aload_n 0, 1, 0, 0, 0, 0, 0, []), (93, .iload_n 3, 1, 3, 0, 0, 0, 0, []), (94, .iconst 2, 1, 0, 0, 0, 0, 2, []),
  (95, .iload 4, 2, 4, 0, 0, 0, 0, []), (97, .imul, 1, 0, 0, 0, 0, 0, []), (98, .iadd, 1, 0, 0, 0, 0, 0, []), (99, .invokevirtual 701, 3, 266, 2, 1, 1950, 6, []), (102, .iastore, 1, 0, 0, 0, 0, 0, []), (103, .iinc 4 1, 3, 4, 0, 0, 0, 1, []),
  (106, .goto (-34), 3, 72, 0, 0, 0, 0, []), (109, .iconst 0, 1, 0, 0, 0, 0, 0, []), (110, .istore 4, 2, 4, 0, 0, 0, 0, []), (112, .iload 4, 2, 4, 0, 0, 0, 0, []), (114, .aload_n 0, 1, 0, 0, 0, 0, 0, []), (115, .invokevirtual 405, 3, 159, 1, 1, 1620, 6, []),
  (118, .if_icmp .ge 37, 3, 155, 0, 0, 0, 0, []), (121, .aload_n 0, 1, 0, 0, 0, 0, 0, []), (122, .getfield 139, 3, 6, 54, 3, 1119, 0, []), (125, .aload_n 0, 1, 0, 0, 0, 0, 0, []), (126, .iload_n 2, 1, 2, 0, 0, 0, 0, []), (127, .iload 4, 2, 4, 0, 0, 0, 0, []),
  (129, .invokevirtual 414, 3, 172, 3, 1, 1668, 6, []), (132, .aload_n 0, 1, 0, 0, 0, 0, 0, []), (133, .getfield 7, 3, 6, 0, 3, 1065, 0, []), (136, .iload_n 3, 1, 3, 0, 0, 0, 0, []), (137, .iconst 2, 1, 0, 0, 0, 0, 2, []), (138, .aload_n 0, 1, 0, 0, 0, 0, 0, []),
  (139, .invokevirtual 402, 3, 158, 1, 1, 1628, 6, []), (142, .imul, 1, 0, 0, 0, 0, 0, []), (143, .iadd, 1, 0, 0, 0, 0, 0, []), (144, .iload 4, 2, 4, 0, 0, 0, 0, []), (146, .iadd, 1, 0, 0, 0, 0, 0, []), (147, .iaload, 1, 0, 0, 0, 0, 0, []),
  (148, .iastore, 1, 0, 0, 0, 0, 0, []), (149, .iinc 4 1, 3, 4, 0, 0, 0, 1, []), (152, .goto (-40), 3, 112, 0, 0, 0, 0, []), (155, .iinc 2 1, 3, 2, 0, 0, 0, 1, []), (158, .goto (-103), 3, 55, 0, 0, 0, 0, []), (161, .aload_n 0, 1, 0, 0, 0, 0, 0, []),
  (162, .iconst 1, 1, 0, 0, 0, 0, 1, []), (163, .aload_n 0, 1, 0, 0, 0, 0, 0, []), (164, .invokevirtual 408, 3, 160, 1, 1, 1576, 6, []), (167, .iadd, 1, 0, 0, 0, 0, 0, [])]
noncomputable def am_c270_1 : List (Nat × am_E) := [(168, .invokevirtual 698, 3, 267, 2, 1, 1946, 6, []), (171, .istore_n 2, 1, 2, 0, 0, 0, 0, []), (172, .iconst 0, 1, 0, 0, 0, 0, 0, []), (173, .istore_n 3, 1, 3, 0, 0, 0, 0, []), (174, .iload_n 3, 1, 3, 0, 0, 0, 0, []), (175, .aload_n 0, 1, 0, 0, 0, 0, 0, []),
  (176, .invokevirtual 408, 3, 160, 1, 1, 1576, 6, []), (179, .if_icmp .ge 54, 3, 233, 0, 0, 0, 0, []), (182, .aload_n 0, 1, 0, 0, 0, 0, 0, []), (183, .getfield 139, 3, 6, 54, 3, 1119, 0, []), (186, .bipush 86, 2, 0, 0, 0, 0, 86, []), (188, .iconst 2, 1, 0, 0, 0, 0, 2, []),
  (189, .iload_n 3, 1, 3, 0, 0, 0, 0, []), (190, .imul, 1, 0, 0, 0, 0, 0, []), (191, .iadd, 1, 0, 0, 0, 0, 0, []), (192, .aload_n 0, 1, 0, 0, 0, 0, 0, []), (193, .getfield 7, 3, 6, 0, 3, 1065, 0, []), (196, .iload_n 2, 1, 2, 0, 0, 0, 0, []),
  (197, .iconst 3, 1, 0, 0, 0, 0, 3, []), (198, .iload_n 3, 1, 3, 0, 0, 0, 0, []), (199, .imul, 1, 0, 0, 0, 0, 0, []), (200, .iadd, 1, 0, 0, 0, 0, 0, []), (201, .iaload, 1, 0, 0, 0, 0, 0, []), (202, .iastore, 1, 0, 0, 0, 0, 0, []),
  (203, .aload_n 0, 1, 0, 0, 0, 0, 0, []), (204, .getfield 139, 3, 6, 54, 3, 1119, 0, []), (207, .bipush 86, 2, 0, 0, 0, 0, 86, []), (209, .iconst 2, 1, 0, 0, 0, 0, 2, []), (210, .iload_n 3, 1, 3, 0, 0, 0, 0, []), (211, .imul, 1, 0, 0, 0, 0, 0, []),
  (212, .iadd, 1, 0, 0, 0, 0, 0, []), (213, .iconst 1, 1, 0, 0, 0, 0, 1, []), (214, .iadd, 1, 0, 0, 0, 0, 0, []), (215, .aload_n 0, 1, 0, 0, 0, 0, 0, []), (216, .iload_n 2, 1, 2, 0, 0, 0, 0, []), (217, .iconst 1, 1, 0, 0, 0, 0, 1, []),
  (218, .iadd, 1, 0, 0, 0, 0, 0, []), (219, .iconst 3, 1, 0, 0, 0, 0, 3, []), (220, .iload_n 3, 1, 3, 0, 0, 0, 0, []), (221, .imul, 1, 0, 0, 0, 0, 0, []), (222, .iadd, 1, 0, 0, 0, 0, 0, []), (223, .invokevirtual 701, 3, 266, 2, 1, 1950, 6, []),
  (226, .iastore, 1, 0, 0, 0, 0, 0, []), (227, .iinc 3 1, 3, 3, 0, 0, 0, 1, []), (230, .goto (-56), 3, 174, 0, 0, 0, 0, []), (233, .aload_n 0, 1, 0, 0, 0, 0, 0, []), (234, .getfield 139, 3, 6, 54, 3, 1119, 0, []), (237, .bipush 96, 2, 0, 0, 0, 0, 96, []),
  (239, .iconst 0, 1, 0, 0, 0, 0, 0, []), (240, .iastore, 1, 0, 0, 0, 0, 0, []), (241, .aload_n 0, 1, 0, 0, 0, 0, 0, []), (242, .iconst 0, 1, 0, 0, 0, 0, 0, []), (243, .putfield 396, 3, 6, 68, 1, 1133, 0, []), (246, .iconst 1, 1, 0, 0, 0, 0, 1, []),
  (247, .ireturn, 1, 0, 0, 4, 0, 0, [])]
noncomputable def am_c270 : List (Nat × am_E) := am_c270_0 ++ (am_c270_1)
noncomputable def am_s271 : am_S := (yX6_status, cX6_status, 2, (some .int), 1, 1, 2, 6, 1961, 1959, 1960, 175)
noncomputable def am_c271 : List (Nat × am_E) := [(0, .iload_n 1, 1, 1, 0, 0, 0, 0, []), (1, .i2l, 1, 0, 0, 0, 0, 0, []), (2, .lconst 0, 1, 0, 0, 0, 0, 0, []), (3, .ldc2_w 302, 3, 0, 0, 0, 1516, 5, []), (6, .invokestatic 282, 3, 127, 3, 4, 1456, 0, []), (9, .ifCond .eq 12, 3, 21, 0, 0, 0, 0, []),
  (12, .aload_n 0, 1, 0, 0, 0, 0, 0, []), (13, .getfield 17, 3, 6, 9, 3, 1074, 0, []), (16, .iload_n 1, 1, 1, 0, 0, 0, 0, []), (17, .iaload, 1, 0, 0, 0, 0, 0, []), (18, .goto 4, 3, 22, 0, 0, 0, 0, []), (21, .iconst (-1), 1, 0, 0, 0, 0, (-1), []),
  (22, .ireturn, 1, 0, 0, 1, 0, 0, [])]
noncomputable def am_s272 : am_S := (yJ6_bitCount_0f7a4, cJ6_bitCount_0f7a4, 1, (some .int), 0, 1, 1, 99, 705, 704, 0, 177)
noncomputable def am_c272 : List (Nat × am_E) := [(0, .iload_n 0, 1, 0, 0, 0, 0, 0, []), (1, .iload_n 0, 1, 0, 0, 0, 0, 0, []), (2, .iconst 1, 1, 0, 0, 0, 0, 1, []), (3, .iushr, 1, 0, 0, 0, 0, 0, []), (4, .ldc_w 265, 3, 0, 0, 0, 706, 1431655765, []), (7, .iand, 1, 0, 0, 0, 0, 0, []),
  (8, .isub, 1, 0, 0, 0, 0, 0, []), (9, .istore_n 0, 1, 0, 0, 0, 0, 0, []), (10, .iload_n 0, 1, 0, 0, 0, 0, 0, []), (11, .ldc_w 266, 3, 0, 0, 0, 707, 858993459, []), (14, .iand, 1, 0, 0, 0, 0, 0, []), (15, .iload_n 0, 1, 0, 0, 0, 0, 0, []),
  (16, .iconst 2, 1, 0, 0, 0, 0, 2, []), (17, .iushr, 1, 0, 0, 0, 0, 0, []), (18, .ldc_w 266, 3, 0, 0, 0, 707, 858993459, []), (21, .iand, 1, 0, 0, 0, 0, 0, []), (22, .iadd, 1, 0, 0, 0, 0, 0, []), (23, .istore_n 0, 1, 0, 0, 0, 0, 0, []),
  (24, .iload_n 0, 1, 0, 0, 0, 0, 0, []), (25, .iload_n 0, 1, 0, 0, 0, 0, 0, []), (26, .iconst 4, 1, 0, 0, 0, 0, 4, []), (27, .iushr, 1, 0, 0, 0, 0, 0, []), (28, .iadd, 1, 0, 0, 0, 0, 0, []), (29, .ldc_w 267, 3, 0, 0, 0, 708, 252645135, []),
  (32, .iand, 1, 0, 0, 0, 0, 0, []), (33, .istore_n 0, 1, 0, 0, 0, 0, 0, []), (34, .iload_n 0, 1, 0, 0, 0, 0, 0, []), (35, .iload_n 0, 1, 0, 0, 0, 0, 0, []), (36, .bipush 8, 2, 0, 0, 0, 0, 8, []), (38, .iushr, 1, 0, 0, 0, 0, 0, []),
  (39, .iadd, 1, 0, 0, 0, 0, 0, []), (40, .istore_n 0, 1, 0, 0, 0, 0, 0, []), (41, .iload_n 0, 1, 0, 0, 0, 0, 0, []), (42, .iload_n 0, 1, 0, 0, 0, 0, 0, []), (43, .bipush 16, 2, 0, 0, 0, 0, 16, []), (45, .iushr, 1, 0, 0, 0, 0, 0, []),
  (46, .iadd, 1, 0, 0, 0, 0, 0, []), (47, .istore_n 0, 1, 0, 0, 0, 0, 0, []), (48, .iload_n 0, 1, 0, 0, 0, 0, 0, []), (49, .bipush 63, 2, 0, 0, 0, 0, 63, []), (51, .iand, 1, 0, 0, 0, 0, 0, []), (52, .ireturn, 1, 0, 0, 1, 0, 0, [])]
noncomputable def am_s273 : am_S := (yJ9_floorDiv_f86c9, cJ9_floorDiv_f86c9, 6, (some .long), 0, 2, 2, 99, 787, 786, 0, 176)
noncomputable def am_c273 : List (Nat × am_E) := [(0, .lload_n 0, 1, 0, 0, 0, 0, 0, []), (1, .lload_n 2, 1, 2, 0, 0, 0, 0, []), (2, .ldiv, 1, 0, 0, 0, 0, 0, []), (3, .lstore 4, 2, 4, 0, 0, 0, 0, []), (5, .lload_n 0, 1, 0, 0, 0, 0, 0, []), (6, .lload_n 2, 1, 2, 0, 0, 0, 0, []),
  (7, .lxor, 1, 0, 0, 0, 0, 0, []), (8, .lconst 0, 1, 0, 0, 0, 0, 0, []), (9, .lcmp, 1, 0, 0, 0, 0, 0, []), (10, .ifCond .ge 17, 3, 27, 0, 0, 0, 0, []), (13, .lload 4, 2, 4, 0, 0, 0, 0, []), (15, .lload_n 2, 1, 2, 0, 0, 0, 0, []),
  (16, .lmul, 1, 0, 0, 0, 0, 0, []), (17, .lload_n 0, 1, 0, 0, 0, 0, 0, []), (18, .lcmp, 1, 0, 0, 0, 0, 0, []), (19, .ifCond .eq 8, 3, 27, 0, 0, 0, 0, []), (22, .lload 4, 2, 4, 0, 0, 0, 0, []), (24, .lconst 1, 1, 0, 0, 0, 0, 1, []),
  (25, .lsub, 1, 0, 0, 0, 0, 0, []), (26, .lreturn, 1, 0, 0, 2, 0, 0, []), (27, .lload 4, 2, 4, 0, 0, 0, 0, []), (29, .lreturn, 1, 0, 0, 2, 0, 0, [])]
noncomputable def am_s274 : am_S := (yJ9_max_7cf53, cJ9_max_7cf53, 2, (some .int), 0, 1, 2, 99, 772, 771, 0, 176)
noncomputable def am_c274 : List (Nat × am_E) := [(0, .iload_n 0, 1, 0, 0, 0, 0, 0, []), (1, .iload_n 1, 1, 1, 0, 0, 0, 0, []), (2, .if_icmp .lt 7, 3, 9, 0, 0, 0, 0, []), (5, .iload_n 0, 1, 0, 0, 0, 0, 0, []), (6, .goto 4, 3, 10, 0, 0, 0, 0, []), (9, .iload_n 1, 1, 1, 0, 0, 0, 0, []),
  (10, .ireturn, 1, 0, 0, 1, 0, 0, [])]
noncomputable def am_s275 : am_S := (yJ9_max_f86c9, cJ9_max_f86c9, 4, (some .long), 0, 2, 2, 99, 793, 792, 0, 176)
noncomputable def am_c275 : List (Nat × am_E) := [(0, .lload_n 0, 1, 0, 0, 0, 0, 0, []), (1, .lload_n 2, 1, 2, 0, 0, 0, 0, []), (2, .lcmp, 1, 0, 0, 0, 0, 0, []), (3, .ifCond .lt 7, 3, 10, 0, 0, 0, 0, []), (6, .lload_n 0, 1, 0, 0, 0, 0, 0, []), (7, .goto 4, 3, 11, 0, 0, 0, 0, []),
  (10, .lload_n 2, 1, 2, 0, 0, 0, 0, []), (11, .lreturn, 1, 0, 0, 2, 0, 0, [])]
noncomputable def am_s276 : am_S := (yJ9_min_7cf53, cJ9_min_7cf53, 2, (some .int), 0, 1, 2, 99, 574, 573, 0, 176)
noncomputable def am_c276 : List (Nat × am_E) := [(0, .iload_n 0, 1, 0, 0, 0, 0, 0, []), (1, .iload_n 1, 1, 1, 0, 0, 0, 0, []), (2, .if_icmp .gt 7, 3, 9, 0, 0, 0, 0, []), (5, .iload_n 0, 1, 0, 0, 0, 0, 0, []), (6, .goto 4, 3, 10, 0, 0, 0, 0, []), (9, .iload_n 1, 1, 1, 0, 0, 0, 0, []),
  (10, .ireturn, 1, 0, 0, 1, 0, 0, [])]
noncomputable def am_s277 : am_S := (yJ9_min_f86c9, cJ9_min_f86c9, 4, (some .long), 0, 2, 2, 99, 790, 789, 0, 176)
noncomputable def am_c277 : List (Nat × am_E) := [(0, .lload_n 0, 1, 0, 0, 0, 0, 0, []), (1, .lload_n 2, 1, 2, 0, 0, 0, 0, []), (2, .lcmp, 1, 0, 0, 0, 0, 0, []), (3, .ifCond .gt 7, 3, 10, 0, 0, 0, 0, []), (6, .lload_n 0, 1, 0, 0, 0, 0, 0, []), (7, .goto 4, 3, 11, 0, 0, 0, 0, []),
  (10, .lload_n 2, 1, 2, 0, 0, 0, 0, []), (11, .lreturn, 1, 0, 0, 2, 0, 0, [])]
noncomputable def am_hd (i : Nat) : am_S := (bif Nat.ble i 138 then (bif Nat.ble i 68 then (bif Nat.ble i 33 then (bif Nat.ble i 16 then (bif Nat.ble i 7 then (bif Nat.ble i 3 then (bif Nat.ble i 1 then (bif Nat.ble i 0 then am_s0 else am_s1) else (bif Nat.ble i 2 then am_s2 else am_s3)) else (bif Nat.ble i 5 then (bif Nat.ble i 4 then am_s4 else am_s5) else (bif Nat.ble i 6 then am_s6 else am_s7))) else (bif Nat.ble i 11 then (bif Nat.ble i 9 then (bif Nat.ble i 8 then am_s8 else am_s9) else (bif Nat.ble i 10 then am_s10 else am_s11)) else (bif Nat.ble i 13 then (bif Nat.ble i 12 then am_s12 else am_s13) else (bif Nat.ble i 14 then am_s14 else (bif Nat.ble i 15 then am_s15 else am_s16))))) else (bif Nat.ble i 24 then (bif Nat.ble i 20 then (bif Nat.ble i 18 then (bif Nat.ble i 17 then am_s17 else am_s18) else (bif Nat.ble i 19 then am_s19 else am_s20)) else (bif Nat.ble i 22 then (bif Nat.ble i 21 then am_s21 else am_s22) else (bif Nat.ble i 23 then am_s23 else am_s24))) else (bif Nat.ble i 28 then (bif Nat.ble i 26 then (bif Nat.ble i 25 then am_s25 else am_s26) else (bif Nat.ble i 27 then am_s27 else am_s28)) else (bif Nat.ble i 30 then (bif Nat.ble i 29 then am_s29 else am_s30) else (bif Nat.ble i 31 then am_s31 else (bif Nat.ble i 32 then am_s32 else am_s33)))))) else (bif Nat.ble i 50 then (bif Nat.ble i 41 then (bif Nat.ble i 37 then (bif Nat.ble i 35 then (bif Nat.ble i 34 then am_s34 else am_s35) else (bif Nat.ble i 36 then am_s36 else am_s37)) else (bif Nat.ble i 39 then (bif Nat.ble i 38 then am_s38 else am_s39) else (bif Nat.ble i 40 then am_s40 else am_s41))) else (bif Nat.ble i 45 then (bif Nat.ble i 43 then (bif Nat.ble i 42 then am_s42 else am_s43) else (bif Nat.ble i 44 then am_s44 else am_s45)) else (bif Nat.ble i 47 then (bif Nat.ble i 46 then am_s46 else am_s47) else (bif Nat.ble i 48 then am_s48 else (bif Nat.ble i 49 then am_s49 else am_s50))))) else (bif Nat.ble i 59 then (bif Nat.ble i 54 then (bif Nat.ble i 52 then (bif Nat.ble i 51 then am_s51 else am_s52) else (bif Nat.ble i 53 then am_s53 else am_s54)) else (bif Nat.ble i 56 then (bif Nat.ble i 55 then am_s55 else am_s56) else (bif Nat.ble i 57 then am_s57 else (bif Nat.ble i 58 then am_s58 else am_s59)))) else (bif Nat.ble i 63 then (bif Nat.ble i 61 then (bif Nat.ble i 60 then am_s60 else am_s61) else (bif Nat.ble i 62 then am_s62 else am_s63)) else (bif Nat.ble i 65 then (bif Nat.ble i 64 then am_s64 else am_s65) else (bif Nat.ble i 66 then am_s66 else (bif Nat.ble i 67 then am_s67 else am_s68))))))) else (bif Nat.ble i 103 then (bif Nat.ble i 85 then (bif Nat.ble i 76 then (bif Nat.ble i 72 then (bif Nat.ble i 70 then (bif Nat.ble i 69 then am_s69 else am_s70) else (bif Nat.ble i 71 then am_s71 else am_s72)) else (bif Nat.ble i 74 then (bif Nat.ble i 73 then am_s73 else am_s74) else (bif Nat.ble i 75 then am_s75 else am_s76))) else (bif Nat.ble i 80 then (bif Nat.ble i 78 then (bif Nat.ble i 77 then am_s77 else am_s78) else (bif Nat.ble i 79 then am_s79 else am_s80)) else (bif Nat.ble i 82 then (bif Nat.ble i 81 then am_s81 else am_s82) else (bif Nat.ble i 83 then am_s83 else (bif Nat.ble i 84 then am_s84 else am_s85))))) else (bif Nat.ble i 94 then (bif Nat.ble i 89 then (bif Nat.ble i 87 then (bif Nat.ble i 86 then am_s86 else am_s87) else (bif Nat.ble i 88 then am_s88 else am_s89)) else (bif Nat.ble i 91 then (bif Nat.ble i 90 then am_s90 else am_s91) else (bif Nat.ble i 92 then am_s92 else (bif Nat.ble i 93 then am_s93 else am_s94)))) else (bif Nat.ble i 98 then (bif Nat.ble i 96 then (bif Nat.ble i 95 then am_s95 else am_s96) else (bif Nat.ble i 97 then am_s97 else am_s98)) else (bif Nat.ble i 100 then (bif Nat.ble i 99 then am_s99 else am_s100) else (bif Nat.ble i 101 then am_s101 else (bif Nat.ble i 102 then am_s102 else am_s103)))))) else (bif Nat.ble i 120 then (bif Nat.ble i 111 then (bif Nat.ble i 107 then (bif Nat.ble i 105 then (bif Nat.ble i 104 then am_s104 else am_s105) else (bif Nat.ble i 106 then am_s106 else am_s107)) else (bif Nat.ble i 109 then (bif Nat.ble i 108 then am_s108 else am_s109) else (bif Nat.ble i 110 then am_s110 else am_s111))) else (bif Nat.ble i 115 then (bif Nat.ble i 113 then (bif Nat.ble i 112 then am_s112 else am_s113) else (bif Nat.ble i 114 then am_s114 else am_s115)) else (bif Nat.ble i 117 then (bif Nat.ble i 116 then am_s116 else am_s117) else (bif Nat.ble i 118 then am_s118 else (bif Nat.ble i 119 then am_s119 else am_s120))))) else (bif Nat.ble i 129 then (bif Nat.ble i 124 then (bif Nat.ble i 122 then (bif Nat.ble i 121 then am_s121 else am_s122) else (bif Nat.ble i 123 then am_s123 else am_s124)) else (bif Nat.ble i 126 then (bif Nat.ble i 125 then am_s125 else am_s126) else (bif Nat.ble i 127 then am_s127 else (bif Nat.ble i 128 then am_s128 else am_s129)))) else (bif Nat.ble i 133 then (bif Nat.ble i 131 then (bif Nat.ble i 130 then am_s130 else am_s131) else (bif Nat.ble i 132 then am_s132 else am_s133)) else (bif Nat.ble i 135 then (bif Nat.ble i 134 then am_s134 else am_s135) else (bif Nat.ble i 136 then am_s136 else (bif Nat.ble i 137 then am_s137 else am_s138)))))))) else (bif Nat.ble i 207 then (bif Nat.ble i 172 then (bif Nat.ble i 155 then (bif Nat.ble i 146 then (bif Nat.ble i 142 then (bif Nat.ble i 140 then (bif Nat.ble i 139 then am_s139 else am_s140) else (bif Nat.ble i 141 then am_s141 else am_s142)) else (bif Nat.ble i 144 then (bif Nat.ble i 143 then am_s143 else am_s144) else (bif Nat.ble i 145 then am_s145 else am_s146))) else (bif Nat.ble i 150 then (bif Nat.ble i 148 then (bif Nat.ble i 147 then am_s147 else am_s148) else (bif Nat.ble i 149 then am_s149 else am_s150)) else (bif Nat.ble i 152 then (bif Nat.ble i 151 then am_s151 else am_s152) else (bif Nat.ble i 153 then am_s153 else (bif Nat.ble i 154 then am_s154 else am_s155))))) else (bif Nat.ble i 163 then (bif Nat.ble i 159 then (bif Nat.ble i 157 then (bif Nat.ble i 156 then am_s156 else am_s157) else (bif Nat.ble i 158 then am_s158 else am_s159)) else (bif Nat.ble i 161 then (bif Nat.ble i 160 then am_s160 else am_s161) else (bif Nat.ble i 162 then am_s162 else am_s163))) else (bif Nat.ble i 167 then (bif Nat.ble i 165 then (bif Nat.ble i 164 then am_s164 else am_s165) else (bif Nat.ble i 166 then am_s166 else am_s167)) else (bif Nat.ble i 169 then (bif Nat.ble i 168 then am_s168 else am_s169) else (bif Nat.ble i 170 then am_s170 else (bif Nat.ble i 171 then am_s171 else am_s172)))))) else (bif Nat.ble i 189 then (bif Nat.ble i 180 then (bif Nat.ble i 176 then (bif Nat.ble i 174 then (bif Nat.ble i 173 then am_s173 else am_s174) else (bif Nat.ble i 175 then am_s175 else am_s176)) else (bif Nat.ble i 178 then (bif Nat.ble i 177 then am_s177 else am_s178) else (bif Nat.ble i 179 then am_s179 else am_s180))) else (bif Nat.ble i 184 then (bif Nat.ble i 182 then (bif Nat.ble i 181 then am_s181 else am_s182) else (bif Nat.ble i 183 then am_s183 else am_s184)) else (bif Nat.ble i 186 then (bif Nat.ble i 185 then am_s185 else am_s186) else (bif Nat.ble i 187 then am_s187 else (bif Nat.ble i 188 then am_s188 else am_s189))))) else (bif Nat.ble i 198 then (bif Nat.ble i 193 then (bif Nat.ble i 191 then (bif Nat.ble i 190 then am_s190 else am_s191) else (bif Nat.ble i 192 then am_s192 else am_s193)) else (bif Nat.ble i 195 then (bif Nat.ble i 194 then am_s194 else am_s195) else (bif Nat.ble i 196 then am_s196 else (bif Nat.ble i 197 then am_s197 else am_s198)))) else (bif Nat.ble i 202 then (bif Nat.ble i 200 then (bif Nat.ble i 199 then am_s199 else am_s200) else (bif Nat.ble i 201 then am_s201 else am_s202)) else (bif Nat.ble i 204 then (bif Nat.ble i 203 then am_s203 else am_s204) else (bif Nat.ble i 205 then am_s205 else (bif Nat.ble i 206 then am_s206 else am_s207))))))) else (bif Nat.ble i 242 then (bif Nat.ble i 224 then (bif Nat.ble i 215 then (bif Nat.ble i 211 then (bif Nat.ble i 209 then (bif Nat.ble i 208 then am_s208 else am_s209) else (bif Nat.ble i 210 then am_s210 else am_s211)) else (bif Nat.ble i 213 then (bif Nat.ble i 212 then am_s212 else am_s213) else (bif Nat.ble i 214 then am_s214 else am_s215))) else (bif Nat.ble i 219 then (bif Nat.ble i 217 then (bif Nat.ble i 216 then am_s216 else am_s217) else (bif Nat.ble i 218 then am_s218 else am_s219)) else (bif Nat.ble i 221 then (bif Nat.ble i 220 then am_s220 else am_s221) else (bif Nat.ble i 222 then am_s222 else (bif Nat.ble i 223 then am_s223 else am_s224))))) else (bif Nat.ble i 233 then (bif Nat.ble i 228 then (bif Nat.ble i 226 then (bif Nat.ble i 225 then am_s225 else am_s226) else (bif Nat.ble i 227 then am_s227 else am_s228)) else (bif Nat.ble i 230 then (bif Nat.ble i 229 then am_s229 else am_s230) else (bif Nat.ble i 231 then am_s231 else (bif Nat.ble i 232 then am_s232 else am_s233)))) else (bif Nat.ble i 237 then (bif Nat.ble i 235 then (bif Nat.ble i 234 then am_s234 else am_s235) else (bif Nat.ble i 236 then am_s236 else am_s237)) else (bif Nat.ble i 239 then (bif Nat.ble i 238 then am_s238 else am_s239) else (bif Nat.ble i 240 then am_s240 else (bif Nat.ble i 241 then am_s241 else am_s242)))))) else (bif Nat.ble i 259 then (bif Nat.ble i 250 then (bif Nat.ble i 246 then (bif Nat.ble i 244 then (bif Nat.ble i 243 then am_s243 else am_s244) else (bif Nat.ble i 245 then am_s245 else am_s246)) else (bif Nat.ble i 248 then (bif Nat.ble i 247 then am_s247 else am_s248) else (bif Nat.ble i 249 then am_s249 else am_s250))) else (bif Nat.ble i 254 then (bif Nat.ble i 252 then (bif Nat.ble i 251 then am_s251 else am_s252) else (bif Nat.ble i 253 then am_s253 else am_s254)) else (bif Nat.ble i 256 then (bif Nat.ble i 255 then am_s255 else am_s256) else (bif Nat.ble i 257 then am_s257 else (bif Nat.ble i 258 then am_s258 else am_s259))))) else (bif Nat.ble i 268 then (bif Nat.ble i 263 then (bif Nat.ble i 261 then (bif Nat.ble i 260 then am_s260 else am_s261) else (bif Nat.ble i 262 then am_s262 else am_s263)) else (bif Nat.ble i 265 then (bif Nat.ble i 264 then am_s264 else am_s265) else (bif Nat.ble i 266 then am_s266 else (bif Nat.ble i 267 then am_s267 else am_s268)))) else (bif Nat.ble i 272 then (bif Nat.ble i 270 then (bif Nat.ble i 269 then am_s269 else am_s270) else (bif Nat.ble i 271 then am_s271 else am_s272)) else (bif Nat.ble i 274 then (bif Nat.ble i 273 then am_s273 else am_s274) else (bif Nat.ble i 275 then am_s275 else (bif Nat.ble i 276 then am_s276 else am_s277)))))))))
noncomputable def am_tb (i : Nat) : List (Nat × am_E) := (bif Nat.ble i 138 then (bif Nat.ble i 68 then (bif Nat.ble i 33 then (bif Nat.ble i 16 then (bif Nat.ble i 7 then (bif Nat.ble i 3 then (bif Nat.ble i 1 then (bif Nat.ble i 0 then am_c0 else am_c1) else (bif Nat.ble i 2 then am_c2 else am_c3)) else (bif Nat.ble i 5 then (bif Nat.ble i 4 then am_c4 else am_c5) else (bif Nat.ble i 6 then am_c6 else am_c7))) else (bif Nat.ble i 11 then (bif Nat.ble i 9 then (bif Nat.ble i 8 then am_c8 else am_c9) else (bif Nat.ble i 10 then am_c10 else am_c11)) else (bif Nat.ble i 13 then (bif Nat.ble i 12 then am_c12 else am_c13) else (bif Nat.ble i 14 then am_c14 else (bif Nat.ble i 15 then am_c15 else am_c16))))) else (bif Nat.ble i 24 then (bif Nat.ble i 20 then (bif Nat.ble i 18 then (bif Nat.ble i 17 then am_c17 else am_c18) else (bif Nat.ble i 19 then am_c19 else am_c20)) else (bif Nat.ble i 22 then (bif Nat.ble i 21 then am_c21 else am_c22) else (bif Nat.ble i 23 then am_c23 else am_c24))) else (bif Nat.ble i 28 then (bif Nat.ble i 26 then (bif Nat.ble i 25 then am_c25 else am_c26) else (bif Nat.ble i 27 then am_c27 else am_c28)) else (bif Nat.ble i 30 then (bif Nat.ble i 29 then am_c29 else am_c30) else (bif Nat.ble i 31 then am_c31 else (bif Nat.ble i 32 then am_c32 else am_c33)))))) else (bif Nat.ble i 50 then (bif Nat.ble i 41 then (bif Nat.ble i 37 then (bif Nat.ble i 35 then (bif Nat.ble i 34 then am_c34 else am_c35) else (bif Nat.ble i 36 then am_c36 else am_c37)) else (bif Nat.ble i 39 then (bif Nat.ble i 38 then am_c38 else am_c39) else (bif Nat.ble i 40 then am_c40 else am_c41))) else (bif Nat.ble i 45 then (bif Nat.ble i 43 then (bif Nat.ble i 42 then am_c42 else am_c43) else (bif Nat.ble i 44 then am_c44 else am_c45)) else (bif Nat.ble i 47 then (bif Nat.ble i 46 then am_c46 else am_c47) else (bif Nat.ble i 48 then am_c48 else (bif Nat.ble i 49 then am_c49 else am_c50))))) else (bif Nat.ble i 59 then (bif Nat.ble i 54 then (bif Nat.ble i 52 then (bif Nat.ble i 51 then am_c51 else am_c52) else (bif Nat.ble i 53 then am_c53 else am_c54)) else (bif Nat.ble i 56 then (bif Nat.ble i 55 then am_c55 else am_c56) else (bif Nat.ble i 57 then am_c57 else (bif Nat.ble i 58 then am_c58 else am_c59)))) else (bif Nat.ble i 63 then (bif Nat.ble i 61 then (bif Nat.ble i 60 then am_c60 else am_c61) else (bif Nat.ble i 62 then am_c62 else am_c63)) else (bif Nat.ble i 65 then (bif Nat.ble i 64 then am_c64 else am_c65) else (bif Nat.ble i 66 then am_c66 else (bif Nat.ble i 67 then am_c67 else am_c68))))))) else (bif Nat.ble i 103 then (bif Nat.ble i 85 then (bif Nat.ble i 76 then (bif Nat.ble i 72 then (bif Nat.ble i 70 then (bif Nat.ble i 69 then am_c69 else am_c70) else (bif Nat.ble i 71 then am_c71 else am_c72)) else (bif Nat.ble i 74 then (bif Nat.ble i 73 then am_c73 else am_c74) else (bif Nat.ble i 75 then am_c75 else am_c76))) else (bif Nat.ble i 80 then (bif Nat.ble i 78 then (bif Nat.ble i 77 then am_c77 else am_c78) else (bif Nat.ble i 79 then am_c79 else am_c80)) else (bif Nat.ble i 82 then (bif Nat.ble i 81 then am_c81 else am_c82) else (bif Nat.ble i 83 then am_c83 else (bif Nat.ble i 84 then am_c84 else am_c85))))) else (bif Nat.ble i 94 then (bif Nat.ble i 89 then (bif Nat.ble i 87 then (bif Nat.ble i 86 then am_c86 else am_c87) else (bif Nat.ble i 88 then am_c88 else am_c89)) else (bif Nat.ble i 91 then (bif Nat.ble i 90 then am_c90 else am_c91) else (bif Nat.ble i 92 then am_c92 else (bif Nat.ble i 93 then am_c93 else am_c94)))) else (bif Nat.ble i 98 then (bif Nat.ble i 96 then (bif Nat.ble i 95 then am_c95 else am_c96) else (bif Nat.ble i 97 then am_c97 else am_c98)) else (bif Nat.ble i 100 then (bif Nat.ble i 99 then am_c99 else am_c100) else (bif Nat.ble i 101 then am_c101 else (bif Nat.ble i 102 then am_c102 else am_c103)))))) else (bif Nat.ble i 120 then (bif Nat.ble i 111 then (bif Nat.ble i 107 then (bif Nat.ble i 105 then (bif Nat.ble i 104 then am_c104 else am_c105) else (bif Nat.ble i 106 then am_c106 else am_c107)) else (bif Nat.ble i 109 then (bif Nat.ble i 108 then am_c108 else am_c109) else (bif Nat.ble i 110 then am_c110 else am_c111))) else (bif Nat.ble i 115 then (bif Nat.ble i 113 then (bif Nat.ble i 112 then am_c112 else am_c113) else (bif Nat.ble i 114 then am_c114 else am_c115)) else (bif Nat.ble i 117 then (bif Nat.ble i 116 then am_c116 else am_c117) else (bif Nat.ble i 118 then am_c118 else (bif Nat.ble i 119 then am_c119 else am_c120))))) else (bif Nat.ble i 129 then (bif Nat.ble i 124 then (bif Nat.ble i 122 then (bif Nat.ble i 121 then am_c121 else am_c122) else (bif Nat.ble i 123 then am_c123 else am_c124)) else (bif Nat.ble i 126 then (bif Nat.ble i 125 then am_c125 else am_c126) else (bif Nat.ble i 127 then am_c127 else (bif Nat.ble i 128 then am_c128 else am_c129)))) else (bif Nat.ble i 133 then (bif Nat.ble i 131 then (bif Nat.ble i 130 then am_c130 else am_c131) else (bif Nat.ble i 132 then am_c132 else am_c133)) else (bif Nat.ble i 135 then (bif Nat.ble i 134 then am_c134 else am_c135) else (bif Nat.ble i 136 then am_c136 else (bif Nat.ble i 137 then am_c137 else am_c138)))))))) else (bif Nat.ble i 207 then (bif Nat.ble i 172 then (bif Nat.ble i 155 then (bif Nat.ble i 146 then (bif Nat.ble i 142 then (bif Nat.ble i 140 then (bif Nat.ble i 139 then am_c139 else am_c140) else (bif Nat.ble i 141 then am_c141 else am_c142)) else (bif Nat.ble i 144 then (bif Nat.ble i 143 then am_c143 else am_c144) else (bif Nat.ble i 145 then am_c145 else am_c146))) else (bif Nat.ble i 150 then (bif Nat.ble i 148 then (bif Nat.ble i 147 then am_c147 else am_c148) else (bif Nat.ble i 149 then am_c149 else am_c150)) else (bif Nat.ble i 152 then (bif Nat.ble i 151 then am_c151 else am_c152) else (bif Nat.ble i 153 then am_c153 else (bif Nat.ble i 154 then am_c154 else am_c155))))) else (bif Nat.ble i 163 then (bif Nat.ble i 159 then (bif Nat.ble i 157 then (bif Nat.ble i 156 then am_c156 else am_c157) else (bif Nat.ble i 158 then am_c158 else am_c159)) else (bif Nat.ble i 161 then (bif Nat.ble i 160 then am_c160 else am_c161) else (bif Nat.ble i 162 then am_c162 else am_c163))) else (bif Nat.ble i 167 then (bif Nat.ble i 165 then (bif Nat.ble i 164 then am_c164 else am_c165) else (bif Nat.ble i 166 then am_c166 else am_c167)) else (bif Nat.ble i 169 then (bif Nat.ble i 168 then am_c168 else am_c169) else (bif Nat.ble i 170 then am_c170 else (bif Nat.ble i 171 then am_c171 else am_c172)))))) else (bif Nat.ble i 189 then (bif Nat.ble i 180 then (bif Nat.ble i 176 then (bif Nat.ble i 174 then (bif Nat.ble i 173 then am_c173 else am_c174) else (bif Nat.ble i 175 then am_c175 else am_c176)) else (bif Nat.ble i 178 then (bif Nat.ble i 177 then am_c177 else am_c178) else (bif Nat.ble i 179 then am_c179 else am_c180))) else (bif Nat.ble i 184 then (bif Nat.ble i 182 then (bif Nat.ble i 181 then am_c181 else am_c182) else (bif Nat.ble i 183 then am_c183 else am_c184)) else (bif Nat.ble i 186 then (bif Nat.ble i 185 then am_c185 else am_c186) else (bif Nat.ble i 187 then am_c187 else (bif Nat.ble i 188 then am_c188 else am_c189))))) else (bif Nat.ble i 198 then (bif Nat.ble i 193 then (bif Nat.ble i 191 then (bif Nat.ble i 190 then am_c190 else am_c191) else (bif Nat.ble i 192 then am_c192 else am_c193)) else (bif Nat.ble i 195 then (bif Nat.ble i 194 then am_c194 else am_c195) else (bif Nat.ble i 196 then am_c196 else (bif Nat.ble i 197 then am_c197 else am_c198)))) else (bif Nat.ble i 202 then (bif Nat.ble i 200 then (bif Nat.ble i 199 then am_c199 else am_c200) else (bif Nat.ble i 201 then am_c201 else am_c202)) else (bif Nat.ble i 204 then (bif Nat.ble i 203 then am_c203 else am_c204) else (bif Nat.ble i 205 then am_c205 else (bif Nat.ble i 206 then am_c206 else am_c207))))))) else (bif Nat.ble i 242 then (bif Nat.ble i 224 then (bif Nat.ble i 215 then (bif Nat.ble i 211 then (bif Nat.ble i 209 then (bif Nat.ble i 208 then am_c208 else am_c209) else (bif Nat.ble i 210 then am_c210 else am_c211)) else (bif Nat.ble i 213 then (bif Nat.ble i 212 then am_c212 else am_c213) else (bif Nat.ble i 214 then am_c214 else am_c215))) else (bif Nat.ble i 219 then (bif Nat.ble i 217 then (bif Nat.ble i 216 then am_c216 else am_c217) else (bif Nat.ble i 218 then am_c218 else am_c219)) else (bif Nat.ble i 221 then (bif Nat.ble i 220 then am_c220 else am_c221) else (bif Nat.ble i 222 then am_c222 else (bif Nat.ble i 223 then am_c223 else am_c224))))) else (bif Nat.ble i 233 then (bif Nat.ble i 228 then (bif Nat.ble i 226 then (bif Nat.ble i 225 then am_c225 else am_c226) else (bif Nat.ble i 227 then am_c227 else am_c228)) else (bif Nat.ble i 230 then (bif Nat.ble i 229 then am_c229 else am_c230) else (bif Nat.ble i 231 then am_c231 else (bif Nat.ble i 232 then am_c232 else am_c233)))) else (bif Nat.ble i 237 then (bif Nat.ble i 235 then (bif Nat.ble i 234 then am_c234 else am_c235) else (bif Nat.ble i 236 then am_c236 else am_c237)) else (bif Nat.ble i 239 then (bif Nat.ble i 238 then am_c238 else am_c239) else (bif Nat.ble i 240 then am_c240 else (bif Nat.ble i 241 then am_c241 else am_c242)))))) else (bif Nat.ble i 259 then (bif Nat.ble i 250 then (bif Nat.ble i 246 then (bif Nat.ble i 244 then (bif Nat.ble i 243 then am_c243 else am_c244) else (bif Nat.ble i 245 then am_c245 else am_c246)) else (bif Nat.ble i 248 then (bif Nat.ble i 247 then am_c247 else am_c248) else (bif Nat.ble i 249 then am_c249 else am_c250))) else (bif Nat.ble i 254 then (bif Nat.ble i 252 then (bif Nat.ble i 251 then am_c251 else am_c252) else (bif Nat.ble i 253 then am_c253 else am_c254)) else (bif Nat.ble i 256 then (bif Nat.ble i 255 then am_c255 else am_c256) else (bif Nat.ble i 257 then am_c257 else (bif Nat.ble i 258 then am_c258 else am_c259))))) else (bif Nat.ble i 268 then (bif Nat.ble i 263 then (bif Nat.ble i 261 then (bif Nat.ble i 260 then am_c260 else am_c261) else (bif Nat.ble i 262 then am_c262 else am_c263)) else (bif Nat.ble i 265 then (bif Nat.ble i 264 then am_c264 else am_c265) else (bif Nat.ble i 266 then am_c266 else (bif Nat.ble i 267 then am_c267 else am_c268)))) else (bif Nat.ble i 272 then (bif Nat.ble i 270 then (bif Nat.ble i 269 then am_c269 else am_c270) else (bif Nat.ble i 271 then am_c271 else am_c272)) else (bif Nat.ble i 274 then (bif Nat.ble i 273 then am_c273 else am_c274) else (bif Nat.ble i 275 then am_c275 else (bif Nat.ble i 276 then am_c276 else am_c277)))))))))
end
section
/-! What a row of a table must be, to agree with the class files. -/
def am_pl (e : Nat) (w : Jvm.Cond) : Bool := decide (lw_tbl[e]? = some w) && goodWord w
/-- the same, of a word that is carried apart -/
def am_pm (e : Nat) (w : Jvm.Cond) : Bool := decide (lw_tbl[e]? = some w)
def am_tg (pc : Nat) (off : Int) (a : Nat) : Bool := decide ((pc : Int) + off = (a : Int))
def am_kd (h : am_S) : Nat := h.2.2.2.2.1
def am_rc (h : am_S) : Nat := h.2.2.2.2.2.1
def am_na (h : am_S) : Nat := h.2.2.2.2.2.2.1
def am_ci (h : am_S) : Nat := h.2.2.2.2.2.2.2.1
def am_sok (h : am_S) : Bool := match h with
  | (y, by_, ml, ret, kind, rc, na, ci, pc, pi, ps, pn) =>
    (match rc with
      | 0 => decide (ret = none)
      | 1 => decide (ret = some .int)
      | 2 => decide (ret = some .long)
      | 4 => decide (ret = some .boolean)
      | _ => false) && Nat.ble ml 100 && (Nat.beq kind 3 || (
      plainName y.cls && decide (y.cls ≠ "java/lang/invoke/MethodHandle") && decide (y.cls ≠ "java/lang/invoke/VarHandle") && am_pl pc (.code y by_ ml ret) && am_pl pn (.initialized y.cls) &&
      decide ((parseMethodDescriptor y.desc).map (fun d => d.parameters.length) = some (if kind = 0 then na else na - 1)) &&
      (match kind with
        | 0 => am_pl pi (.static y)
        | 1 => Nat.ble 1 na && am_pl pi (.instanceMethod y) && am_pl ps (.selects y.cls y y) && Nat.blt ci 7 && decide (am_cR ci = y.cls)
        | 2 => Nat.ble 1 na && am_pl pi (.instanceMethod y) && decide (y.name = "<init>") && decide (ret = none) && Nat.beq rc 0
        | _ => false)))
def am_wstr (own : String) (k : Nat) : Jvm.Cond := .stringRef own k am_words
/-- a row of a method's table -/
noncomputable def am_eok (h : am_S) (q : Nat × am_E) : Bool := match q with
  | (pc, ins, len, a, b, c, e, z, sw) =>
    decide (decode h.2.1 pc = .ok (ins, len)) && (match ins with
      | .iconst n => Nat.beq len 1 && decide (Int32.ofInt n = am_i z)
      | .bipush n => Nat.beq len 2 && decide ((Int8.ofInt n).toInt32 = am_i z)
      | .sipush n => Nat.beq len 3 && decide ((Int16.ofInt n).toInt32 = am_i z)
      | .ldc k => Nat.beq len 2 && (if b = 1 then am_pm e (am_wstr h.1.cls k) else am_pl e (.constant h.1.cls k (am_i z)))
      | .ldc_w k => Nat.beq len 3 && am_pl e (.constant h.1.cls k (am_i z))
      | .lconst n => Nat.beq len 1 && decide (Int64.ofNat (n : Nat) = am_l z)
      | .ldc2_w k => Nat.beq len 3 && am_pl e (.constantLong h.1.cls k (am_l z))
      | .iload_n n | .lload_n n | .aload_n n => Nat.beq len 1 && Nat.beq (n : Nat) a
      | .iload k | .lload k | .aload k => Nat.beq len 2 && Nat.beq k a
      | .istore_n n | .astore_n n => Nat.beq len 1 && Nat.beq (n : Nat) a && Nat.blt a h.2.2.1
      | .istore k | .astore k => Nat.beq len 2 && Nat.beq k a && Nat.blt a h.2.2.1
      | .lstore_n n => Nat.beq len 1 && Nat.beq (n : Nat) a && Nat.blt (a + 1) h.2.2.1
      | .lstore k => Nat.beq len 2 && Nat.beq k a && Nat.blt (a + 1) h.2.2.1
      | .iinc k n => Nat.beq len 3 && Nat.beq k a && decide (n = z) && Nat.blt a h.2.2.1
      | .iadd | .isub | .imul | .iand | .ior | .ixor | .ishl | .ishr | .iushr | .idiv | .irem | .ladd | .lsub | .lmul | .land | .lor | .lxor | .lshl | .ldiv | .lrem | .lcmp | .i2l | .l2i | .i2c | .dup | .pop | .dup2 => Nat.beq len 1
      | .goto off => Nat.beq len 3 && am_tg pc off a
      | .ifCond _ off => Nat.beq len 3 && am_tg pc off a
      | .if_icmp _ off => Nat.beq len 3 && am_tg pc off a
      | .tableswitch d lo hi offs => am_tg pc d a && decide (sw.map (fun x => ((x.2 : Int) - pc)) = offs.toList) && decide (sw.map (fun x => x.1) = (List.range sw.length).map (fun (j : Nat) => lo + (j : Int))) && decide (lo + (sw.length : Int) = hi + 1) && sw.all (fun x => decide ((am_i x.1).toInt = x.1))
      | .lookupswitch d ps => am_tg pc d a && decide (ps.toList = []) && decide (sw = [])
      | .iaload | .caload | .laload | .aaload | .iastore | .castore | .lastore | .aastore | .arraylength => Nat.beq len 1
      | .getfield k => Nat.beq len 3 && Nat.blt a 7 && Nat.blt b (am_nf a) && Nat.beq c (am_ft a b) && am_pl e (.fieldLink h.1.cls k (am_cT a b).1 (am_cT a b).2.1 (am_cT a b).2.2.1)
      | .putfield k => Nat.beq len 3 && Nat.blt a 7 && Nat.blt b (am_nf a) && Nat.beq c (am_ft a b) && am_pl e (.fieldLink h.1.cls k (am_cT a b).1 (am_cT a b).2.1 (am_cT a b).2.2.1) && (!(am_cT a b).2.2.2 || (Nat.beq (am_kd h) 2 && decide ((am_cT a b).1 = h.1.cls)))
      | .new k => Nat.beq len 3 && Nat.blt a 7 && Nat.beq b (am_nf a) && am_pl e (.classLink h.1.cls k (am_cR a)) && decide (Cond.instantiable (am_cR a) (am_nf a) ∈ lw_tbl) && decide (Cond.initialized (am_cR a) ∈ lw_tbl)
      | .newarray t => Nat.beq len 2 && (match t with
        | .int => Nat.beq a 2
        | .long => Nat.beq a 3
        | .char => Nat.beq a 4
        | _ => false)
      | .anewarray k => Nat.beq len 3 && am_pl e (.classLink h.1.cls k RX0)
      | .multianewarray k n => Nat.beq len 4 && decide (n = 2) && am_pl e (.classLink h.1.cls k ("[" ++ (FieldType.array .int).toString))
      | .invokespecial k => Nat.beq len 3 && (match c with
        | 9 => am_pl e (.methodLink h.1.cls k objectInit)
        | _ => Nat.beq (am_kd (am_hd a)) 2 && Nat.beq b (am_na (am_hd a)) && (match sw with
          | [] => am_pl e (.methodLink h.1.cls k (am_hd a).1)
          | _ => am_pm e (.methodLinkNest h.1.cls k (am_hd a).1 "FourOnOne")))
      | .invokestatic k => Nat.beq len 3 && (match c with
        | 8 => am_pl e (.methodLink h.1.cls k arraycopyName)
        | _ => Nat.beq (am_kd (am_hd a)) 0 && Nat.beq b (am_na (am_hd a)) && Nat.beq c (am_rc (am_hd a)) && !(Nat.beq c 0) && am_pl e (.methodLink h.1.cls k (am_hd a).1))
      | .invokevirtual k => Nat.beq len 3 && (match c with
        | 10 => am_pl e (.methodLink h.1.cls k yJ0_length_8abf5)
        | 11 => am_pl e (.methodLink h.1.cls k yJ0_charAt_5068e)
        | _ => Nat.beq (am_kd (am_hd a)) 1 && Nat.beq b (am_na (am_hd a)) && Nat.beq c (am_rc (am_hd a)) && Nat.beq z.toNat (am_ci (am_hd a)) && am_pl e (.methodLink h.1.cls k (am_hd a).1))
      | .ireturn => Nat.beq len 1 && Nat.beq c (am_rc h) && (Nat.beq c 1 || Nat.beq c 4)
      | .lreturn => Nat.beq len 1 && Nat.beq (am_rc h) 2
      | .return_ => Nat.beq len 1 && Nat.beq (am_rc h) 0
      | _ => true)
theorem am_all_app {α : Type} {p : α → Bool} {a b : List α} (ha : a.all p = true) (hb : b.all p = true) : (a ++ b).all p = true := by
  rw [List.all_append, ha, hb]
  rfl
end
section
theorem am_all_app0 : True := trivial
theorem am_oks (i : Nat) : am_sok (am_hd i) = true ∧ (am_tb i).all (am_eok (am_hd i)) = true := sorry
end
section
/-! One step of the abstract machine, by what is given for each thing that a step can do; its runs. -/
def am_tI.{u} {X : Sort u} (st : List Value) (f : Int32 → List Value → X) (s : X) : X := match st with
  | .int x :: t => f x t
  | _ => s
def am_tL.{u} {X : Sort u} (st : List Value) (f : Int64 → List Value → X) (s : X) : X := match st with
  | .long x :: t => f x t
  | _ => s
def am_tR.{u} {X : Sort u} (st : List Value) (f : Nat → List Value → X) (s : X) : X := match st with
  | .ref x :: t => f x t
  | _ => s
def am_xI.{u} {X : Sort u} (v : Value) (f : Int32 → X) (s : X) : X := match v with
  | .int x => f x
  | _ => s
def am_xL.{u} {X : Sort u} (v : Value) (f : Int64 → X) (s : X) : X := match v with
  | .long x => f x
  | _ => s
def am_xR.{u} {X : Sort u} (v : Value) (f : Nat → X) (s : X) : X := match v with
  | .ref x => f x
  | _ => s
def am_e0.{u} {X : Sort u} (st : List Value) (t s : X) : X := match st with
  | [] => t
  | _ :: _ => s
def am_gr.{u} {X : Sort u} (o : Option Nat) (f : Nat → X) (s : X) : X := match o with
  | some q => f q
  | none => s
def am_sw.{u} {X : Sort u} : List (Int × Nat) → Nat → Int32 → (Nat → X) → X
  | [], d, _, g => g d
  | (k, t) :: r, d, x, g => if x = am_i k then g t else am_sw r d x g
def am_if.{u} {X : Sort u} (p : Prop) [Decidable p] (t s : X) : X := if p then t else s
/-- the cell r is an object of class a -/
def am_ob.{u} {X : Sort u} (M : am_M) (r a : Nat) (t s : X) : X := if am_K M r = (1, a) then t else s
/-- the cell r is a row of that sort, with a place i -/
def am_ix.{u} {X : Sort u} (M : am_M) (r g : Nat) (i : Int32) (t s : X) : X := if (am_K M r).1 = g ∧ ¬ (i < 0 ∨ (am_K M r).2 ≤ i.toNatClampNeg) then t else s
/-- the same, one that may be written -/
def am_iw.{u} {X : Sort u} (M : am_M) (r g : Nat) (i : Int32) (t s : X) : X := if 2 ≤ r ∧ (am_K M r).1 = g ∧ ¬ (i < 0 ∨ (am_K M r).2 ≤ i.toNatClampNeg) then t else s
/-- the cell r is a row of references, with a place i -/
def am_iq.{u} {X : Sort u} (M : am_M) (r : Nat) (i : Int32) (t s : X) : X := if ((am_K M r).1 = 5 ∨ (am_K M r).1 = 6) ∧ ¬ (i < 0 ∨ (am_K M r).2 ≤ i.toNatClampNeg) then t else s
/-- a truth -/
def am_tr.{u} {X : Sort u} (x : Int32) (t s : X) : X := if x = am_i 0 ∨ x = am_i 1 then t else s
def am_cm : Jvm.ClassFile.Cond → Int32 → Int32 → Bool
  | .eq, x, y => decide (x = y)
  | .ne, x, y => !decide (x = y)
  | .lt, x, y => decide (x < y)
  | .ge, x, y => decide (y ≤ x)
  | .gt, x, y => decide (y < x)
  | .le, x, y => decide (x ≤ y)
/-- two ways, by a comparison -/
def am_br.{u} {X : Sort u} (q : Jvm.ClassFile.Cond) (x y : Int32) (t f : X) : X := match q with
  | .eq => if x = y then t else f
  | .ne => if x = y then f else t
  | .lt => if x < y then t else f
  | .ge => if y ≤ x then t else f
  | .gt => if y < x then t else f
  | .le => if x ≤ y then t else f
def am_tk : List Value → Nat → List Value → List Value
  | _, 0, acc => acc
  | [], _ + 1, acc => acc
  | v :: l, k + 1, acc => am_tk l k (v :: acc)
def am_dp : List Value → Nat → List Value
  | l, 0 => l
  | [], _ + 1 => []
  | _ :: l, k + 1 => am_dp l k
noncomputable def am_ml (m : Nat) : Nat := (am_hd m).2.2.1
/-- a method's locals at its entry -/
noncomputable def am_lc (m : Nat) (a : List Value) : List Value := am_pad (am_loc a) (am_ml m)
/-- a call can be made: so many are there, room is left, its locals hold them -/
noncomputable def am_cok (a b : Nat) (st : List Value) : Bool := Nat.ble b st.length && Nat.ble (am_cat (am_dp st b)) 8 && Nat.ble (am_loc (am_tk st b [])).length (am_ml a)
/-- the word that the text has at a place -/
def am_ch (k : Nat) : Int32 := nI ((am_words.toList.getD k 'a').toNat)
noncomputable def am_step.{u} {X : Sort u} (ret : Option Value → am_M → X) (go : Nat → Nat → Nat → List Value → List Value → am_M → X)
    (cI : Nat → Nat → List Value → am_M → (Int32 → am_M → X) → X) (cL : Nat → Nat → List Value → am_M → (Int64 → am_M → X) → X) (cR : Nat → Nat → List Value → am_M → (Nat → am_M → X) → X) (cV : Nat → Nat → List Value → am_M → (am_M → X) → X) (s : X)
    (mid d pc : Nat) (ls st : List Value) (M : am_M) : X :=
  match am_find (am_tb mid) pc with
  | none => s
  | some (ins, len, a, b, c, _, z, sw) =>
    match ins with
    | .iconst _ | .bipush _ | .sipush _ | .ldc_w _ => go mid d (pc + len) ls (.int (am_i z) :: st) M
    | .ldc _ => if b = 1 then go mid d (pc + len) ls (.ref 1 :: st) M else go mid d (pc + len) ls (.int (am_i z) :: st) M
    | .lconst _ | .ldc2_w _ => go mid d (pc + len) ls (.long (am_l z) :: st) M
    | .iload_n _ | .iload _ => am_xI (am_nth ls a) (fun x => go mid d (pc + len) ls (.int x :: st) M) s
    | .lload_n _ | .lload _ => am_xL (am_nth ls a) (fun x => go mid d (pc + len) ls (.long x :: st) M) s
    | .aload_n _ | .aload _ => am_xR (am_nth ls a) (fun x => go mid d (pc + len) ls (.ref x :: st) M) s
    | .istore_n _ | .istore _ => am_tI st (fun x t => go mid d (pc + len) (am_st1 ls a (.int x)) t M) s
    | .astore_n _ | .astore _ => am_tR st (fun x t => go mid d (pc + len) (am_st1 ls a (.ref x)) t M) s
    | .lstore_n _ | .lstore _ => am_tL st (fun x t => go mid d (pc + len) (am_st2 ls a (.long x)) t M) s
    | .iinc _ _ => am_xI (am_nth ls a) (fun x => go mid d (pc + len) (am_st1 ls a (.int (x + am_i z))) st M) s
    | .iadd => am_tI st (fun y t => am_tI t (fun x t => go mid d (pc + len) ls (.int (x + y) :: t) M) s) s
    | .isub => am_tI st (fun y t => am_tI t (fun x t => go mid d (pc + len) ls (.int (x - y) :: t) M) s) s
    | .imul => am_tI st (fun y t => am_tI t (fun x t => go mid d (pc + len) ls (.int (x * y) :: t) M) s) s
    | .iand => am_tI st (fun y t => am_tI t (fun x t => go mid d (pc + len) ls (.int (x &&& y) :: t) M) s) s
    | .ior => am_tI st (fun y t => am_tI t (fun x t => go mid d (pc + len) ls (.int (x ||| y) :: t) M) s) s
    | .ixor => am_tI st (fun y t => am_tI t (fun x t => go mid d (pc + len) ls (.int (x ^^^ y) :: t) M) s) s
    | .ishl => am_tI st (fun y t => am_tI t (fun x t => go mid d (pc + len) ls (.int (x <<< (y &&& 31)) :: t) M) s) s
    | .ishr => am_tI st (fun y t => am_tI t (fun x t => go mid d (pc + len) ls (.int (x >>> (y &&& 31)) :: t) M) s) s
    | .iushr => am_tI st (fun y t => am_tI t (fun x t => go mid d (pc + len) ls (.int ((x.toUInt32 >>> (y.toUInt32 &&& Int32.toUInt32 31)).toInt32) :: t) M) s) s
    | .idiv => am_tI st (fun y t => am_tI t (fun x t => am_if (y = 0) s (go mid d (pc + len) ls (.int (x / y) :: t) M)) s) s
    | .irem => am_tI st (fun y t => am_tI t (fun x t => am_if (y = 0) s (go mid d (pc + len) ls (.int (x - x / y * y) :: t) M)) s) s
    | .ladd => am_tL st (fun y t => am_tL t (fun x t => go mid d (pc + len) ls (.long (x + y) :: t) M) s) s
    | .lsub => am_tL st (fun y t => am_tL t (fun x t => go mid d (pc + len) ls (.long (x - y) :: t) M) s) s
    | .lmul => am_tL st (fun y t => am_tL t (fun x t => go mid d (pc + len) ls (.long (x * y) :: t) M) s) s
    | .land => am_tL st (fun y t => am_tL t (fun x t => go mid d (pc + len) ls (.long (x &&& y) :: t) M) s) s
    | .lor => am_tL st (fun y t => am_tL t (fun x t => go mid d (pc + len) ls (.long (x ||| y) :: t) M) s) s
    | .lxor => am_tL st (fun y t => am_tL t (fun x t => go mid d (pc + len) ls (.long (x ^^^ y) :: t) M) s) s
    | .lshl => am_tI st (fun y t => am_tL t (fun x t => go mid d (pc + len) ls (.long (x <<< (y.toInt64 &&& 63)) :: t) M) s) s
    | .ldiv => am_tL st (fun y t => am_tL t (fun x t => am_if (y = 0) s (go mid d (pc + len) ls (.long (x / y) :: t) M)) s) s
    | .lrem => am_tL st (fun y t => am_tL t (fun x t => am_if (y = 0) s (go mid d (pc + len) ls (.long (x - x / y * y) :: t) M)) s) s
    | .lcmp => am_tL st (fun y t => am_tL t (fun x t => go mid d (pc + len) ls (.int (lg_cmp x y) :: t) M) s) s
    | .i2l => am_tI st (fun x t => go mid d (pc + len) ls (.long x.toInt64 :: t) M) s
    | .l2i => am_tL st (fun x t => go mid d (pc + len) ls (.int x.toInt32 :: t) M) s
    | .i2c => am_tI st (fun x t => go mid d (pc + len) ls (.int ((x.toUInt32 % 65536).toInt32) :: t) M) s
    | .dup => am_tI st (fun x t => go mid d (pc + len) ls (.int x :: .int x :: t) M) (am_tR st (fun x t => go mid d (pc + len) ls (.ref x :: .ref x :: t) M) s)
    | .pop => am_tI st (fun _ t => go mid d (pc + len) ls t M) (am_tR st (fun _ t => go mid d (pc + len) ls t M) s)
    | .dup2 => am_tI st (fun y t => am_tR t (fun x t => go mid d (pc + len) ls (.int y :: .ref x :: .int y :: .ref x :: t) M) s) (am_tL st (fun x t => go mid d (pc + len) ls (.long x :: .long x :: t) M) s)
    | .goto _ => go mid d a ls st M
    | .ifCond q _ => am_tI st (fun x t => am_br q x (am_i 0) (go mid d a ls t M) (go mid d (pc + len) ls t M)) s
    | .if_icmp q _ => am_tI st (fun y t => am_tI t (fun x t => am_br q x y (go mid d a ls t M) (go mid d (pc + len) ls t M)) s) s
    | .tableswitch _ _ _ _ | .lookupswitch _ _ => am_tI st (fun x t => am_sw sw a x (fun q => go mid d q ls t M)) s
    | .iaload => am_tI st (fun i t => am_tR t (fun r t => am_ix M r 2 i (go mid d (pc + len) ls (.int (am_I M r i.toNatClampNeg) :: t) M) s) s) s
    | .caload => am_tI st (fun i t => am_tR t (fun r t => am_ix M r 4 i (go mid d (pc + len) ls (.int (am_I M r i.toNatClampNeg) :: t) M) s) s) s
    | .laload => am_tI st (fun i t => am_tR t (fun r t => am_ix M r 3 i (go mid d (pc + len) ls (.long (am_L M r i.toNatClampNeg) :: t) M) s) s) s
    | .aaload => am_tI st (fun i t => am_tR t (fun r t => am_iq M r i (am_gr (am_R M r i.toNatClampNeg) (fun q => go mid d (pc + len) ls (.ref q :: t) M) s) s) s) s
    | .iastore => am_tI st (fun v t => am_tI t (fun i t => am_tR t (fun r t => am_iw M r 2 i (go mid d (pc + len) ls t (am_sI M r i.toNatClampNeg v)) s) s) s) s
    | .castore => am_tI st (fun v t => am_tI t (fun i t => am_tR t (fun r t => am_iw M r 4 i (am_if (vp_nar .char v = v) (go mid d (pc + len) ls t (am_sI M r i.toNatClampNeg v)) s) s) s) s) s
    | .lastore => am_tL st (fun v t => am_tI t (fun i t => am_tR t (fun r t => am_iw M r 3 i (go mid d (pc + len) ls t (am_sL M r i.toNatClampNeg v)) s) s) s) s
    | .aastore => am_tR st (fun v t => am_tI t (fun i t => am_tR t (fun r t => am_iw M r 5 i (am_if (am_K M v = (1, 0) ∧ 2 ≤ v) (go mid d (pc + len) ls t (am_sR M r i.toNatClampNeg v)) s) s) s) s) s
    | .arraylength => am_tR st (fun r t => am_if (2 ≤ (am_K M r).1 ∧ (am_K M r).1 ≤ 6) (go mid d (pc + len) ls (.int (nI (am_K M r).2) :: t) M) s) s
    | .getfield _ => am_tR st (fun r t => am_ob M r a (match c with
        | 1 => go mid d (pc + len) ls (.int (am_I M r b) :: t) M
        | 4 => go mid d (pc + len) ls (.int (am_I M r b) :: t) M
        | 2 => go mid d (pc + len) ls (.long (am_L M r b) :: t) M
        | _ => am_gr (am_R M r b) (fun q => go mid d (pc + len) ls (.ref q :: t) M) s) s) s
    | .putfield _ => (match c with
        | 1 => am_tI st (fun v t => am_tR t (fun r t => am_ob M r a (go mid d (pc + len) ls t (am_sI M r b v)) s) s) s
        | 4 => am_tI st (fun v t => am_tR t (fun r t => am_ob M r a (am_tr v (go mid d (pc + len) ls t (am_sI M r b v)) s) s) s) s
        | 2 => am_tL st (fun v t => am_tR t (fun r t => am_ob M r a (go mid d (pc + len) ls t (am_sL M r b v)) s) s) s
        | _ => am_tR st (fun v t => am_tR t (fun r t => am_ob M r a (go mid d (pc + len) ls t (am_sR M r b v)) s) s) s)
    | .new _ => go mid d (pc + len) ls (.ref (am_n M) :: st) (am_nw M (1, a) b)
    | .newarray _ => am_tI st (fun n t => am_if (n < 0 ∨ 65536 < n.toNatClampNeg) s (go mid d (pc + len) ls (.ref (am_n M) :: t) (am_nw M (a, n.toNatClampNeg) n.toNatClampNeg))) s
    | .anewarray _ => am_tI st (fun n t => am_if (n < 0 ∨ 65536 < n.toNatClampNeg) s (go mid d (pc + len) ls (.ref (am_n M) :: t) (am_nw M (5, n.toNatClampNeg) n.toNatClampNeg))) s
    | .multianewarray _ _ => am_tI st (fun k t => am_tI t (fun n t => am_if (n < 0 ∨ 65536 < n.toNatClampNeg ∨ k < 0 ∨ 65536 < k.toNatClampNeg) s (go mid d (pc + len) ls (.ref (am_n M) :: t) (am_nm M n.toNatClampNeg k.toNatClampNeg))) s) s
    | .invokespecial _ => (match d with
      | 0 => s
      | d + 1 => (match c with
        | 9 => am_tR st (fun _ t => am_if (am_cat t ≤ 8) (go mid (d + 1) (pc + len) ls t M) s) s
        | _ => am_if (am_cok a b st = true) (am_tR (am_tk st b []) (fun _ _ => cV a d (am_tk st b []) M (fun M => go mid (d + 1) (pc + len) ls (am_dp st b) M)) s) s))
    | .invokestatic _ => (match d with
      | 0 => s
      | d + 1 => (match c with
        | 8 => am_tI st (fun n t => am_tI t (fun dp t => am_tR t (fun q t => am_tI t (fun sp t => am_tR t (fun r t => am_if (2 ≤ r ∧ 2 ≤ q ∧ r ≠ q ∧ (am_K M r).1 = 2 ∧ (am_K M q).1 = 2 ∧ ¬ n < 0 ∧ ¬ dp < 0 ∧ ¬ sp < 0 ∧ sp.toNatClampNeg + n.toNatClampNeg ≤ (am_K M r).2 ∧ dp.toNatClampNeg + n.toNatClampNeg ≤ (am_K M q).2 ∧ am_cat t ≤ 8)
            (go mid (d + 1) (pc + len) ls t (am_cp M r sp.toNatClampNeg q dp.toNatClampNeg n.toNatClampNeg)) s) s) s) s) s) s
        | 2 => am_if (am_cok a b st = true) (cL a d (am_tk st b []) M (fun x M => go mid (d + 1) (pc + len) ls (.long x :: am_dp st b) M)) s
        | _ => am_if (am_cok a b st = true) (cI a d (am_tk st b []) M (fun x M => go mid (d + 1) (pc + len) ls (.int x :: am_dp st b) M)) s))
    | .invokevirtual _ => (match d with
      | 0 => s
      | d + 1 => (match c with
        | 10 => am_tR st (fun r t => am_if (r = 1 ∧ 8 ≤ d + 1 ∧ am_cat t ≤ 8) (go mid (d + 1) (pc + len) ls (.int (nI am_words.length) :: t) M) s) s
        | 11 => am_tI st (fun i t => am_tR t (fun r t => am_if (r = 1 ∧ 8 ≤ d + 1 ∧ ¬ (i < 0 ∨ am_words.length ≤ i.toNatClampNeg) ∧ am_cat t ≤ 8) (go mid (d + 1) (pc + len) ls (.int (am_ch i.toNatClampNeg) :: t) M) s) s) s
        | 0 => am_if (am_cok a b st = true) (am_tR (am_tk st b []) (fun r _ => am_ob M r z.toNat (cV a d (am_tk st b []) M (fun M => go mid (d + 1) (pc + len) ls (am_dp st b) M)) s) s) s
        | 2 => am_if (am_cok a b st = true) (am_tR (am_tk st b []) (fun r _ => am_ob M r z.toNat (cL a d (am_tk st b []) M (fun x M => go mid (d + 1) (pc + len) ls (.long x :: am_dp st b) M)) s) s) s
        | 3 => am_if (am_cok a b st = true) (am_tR (am_tk st b []) (fun r _ => am_ob M r z.toNat (cR a d (am_tk st b []) M (fun x M => go mid (d + 1) (pc + len) ls (.ref x :: am_dp st b) M)) s) s) s
        | _ => am_if (am_cok a b st = true) (am_tR (am_tk st b []) (fun r _ => am_ob M r z.toNat (cI a d (am_tk st b []) M (fun x M => go mid (d + 1) (pc + len) ls (.int x :: am_dp st b) M)) s) s) s))
    | .ireturn => am_tI st (fun x t => am_e0 t (match c with
        | 4 => am_tr x (ret (some (.int x)) M) s
        | _ => ret (some (.int x)) M) s) s
    | .lreturn => am_tL st (fun x t => am_e0 t (ret (some (.long x)) M) s) s
    | .return_ => am_e0 st (ret none M) s
    | _ => s
abbrev am_Q : Type := Option (Option Value × am_M)
abbrev am_F : Type := Nat → Nat → Nat → List Value → List Value → am_M → am_Q
def am_bI (r : am_Q) (f : Int32 → am_M → am_Q) : am_Q := match r with
  | some (some (.int x), M) => f x M
  | _ => none
def am_bL (r : am_Q) (f : Int64 → am_M → am_Q) : am_Q := match r with
  | some (some (.long x), M) => f x M
  | _ => none
def am_bR (r : am_Q) (f : Nat → am_M → am_Q) : am_Q := match r with
  | some (some (.ref x), M) => f x M
  | _ => none
def am_bV (r : am_Q) (f : am_M → am_Q) : am_Q := match r with
  | some (none, M) => f M
  | _ => none
/-- a step, and k from there on -/
noncomputable def am_nx (k : am_F) : am_F := am_step (fun v M => some (v, M)) k
  (fun m d a M f => am_bI (k m d 0 (am_lc m a) [] M) f) (fun m d a M f => am_bL (k m d 0 (am_lc m a) [] M) f) (fun m d a M f => am_bR (k m d 0 (am_lc m a) [] M) f) (fun m d a M f => am_bV (k m d 0 (am_lc m a) [] M) f) none
noncomputable def am_run : Nat → am_F
  | 0 => fun _ _ _ _ _ _ => none
  | n + 1 => am_nx (am_run n)
end
section
/-! What two readings of one step have in common: a relation that holds of all that is given holds of the step. -/
theorem am_p_tI.{u, v} {X : Sort u} {Y : Sort v} (Rl : X → Y → Prop) {st : List Value} {f : Int32 → List Value → X} {f' : Int32 → List Value → Y} {s : X} {s' : Y} (h : ∀ x t, Rl (f x t) (f' x t)) (hs : Rl s s') : Rl (am_tI st f s) (am_tI st f' s') := by
  unfold am_tI
  rcases st with _ | ⟨v, t⟩
  · exact hs
  · cases v <;> first | exact hs | exact h _ _
theorem am_p_tL.{u, v} {X : Sort u} {Y : Sort v} (Rl : X → Y → Prop) {st : List Value} {f : Int64 → List Value → X} {f' : Int64 → List Value → Y} {s : X} {s' : Y} (h : ∀ x t, Rl (f x t) (f' x t)) (hs : Rl s s') : Rl (am_tL st f s) (am_tL st f' s') := by
  unfold am_tL
  rcases st with _ | ⟨v, t⟩
  · exact hs
  · cases v <;> first | exact hs | exact h _ _
theorem am_p_tR.{u, v} {X : Sort u} {Y : Sort v} (Rl : X → Y → Prop) {st : List Value} {f : Nat → List Value → X} {f' : Nat → List Value → Y} {s : X} {s' : Y} (h : ∀ x t, Rl (f x t) (f' x t)) (hs : Rl s s') : Rl (am_tR st f s) (am_tR st f' s') := by
  unfold am_tR
  rcases st with _ | ⟨v, t⟩
  · exact hs
  · cases v <;> first | exact hs | exact h _ _
theorem am_p_xI.{u, v} {X : Sort u} {Y : Sort v} (Rl : X → Y → Prop) {w : Value} {f : Int32 → X} {f' : Int32 → Y} {s : X} {s' : Y} (h : ∀ x, Rl (f x) (f' x)) (hs : Rl s s') : Rl (am_xI w f s) (am_xI w f' s') := by
  unfold am_xI
  cases w <;> first | exact hs | exact h _
theorem am_p_xL.{u, v} {X : Sort u} {Y : Sort v} (Rl : X → Y → Prop) {w : Value} {f : Int64 → X} {f' : Int64 → Y} {s : X} {s' : Y} (h : ∀ x, Rl (f x) (f' x)) (hs : Rl s s') : Rl (am_xL w f s) (am_xL w f' s') := by
  unfold am_xL
  cases w <;> first | exact hs | exact h _
theorem am_p_xR.{u, v} {X : Sort u} {Y : Sort v} (Rl : X → Y → Prop) {w : Value} {f : Nat → X} {f' : Nat → Y} {s : X} {s' : Y} (h : ∀ x, Rl (f x) (f' x)) (hs : Rl s s') : Rl (am_xR w f s) (am_xR w f' s') := by
  unfold am_xR
  cases w <;> first | exact hs | exact h _
theorem am_p_e0.{u, v} {X : Sort u} {Y : Sort v} (Rl : X → Y → Prop) {st : List Value} {f : X} {f' : Y} {s : X} {s' : Y} (h : Rl f f') (hs : Rl s s') : Rl (am_e0 st f s) (am_e0 st f' s') := by
  unfold am_e0
  cases st <;> first | exact hs | exact h
theorem am_p_gr.{u, v} {X : Sort u} {Y : Sort v} (Rl : X → Y → Prop) {w : Option Nat} {f : Nat → X} {f' : Nat → Y} {s : X} {s' : Y} (h : ∀ x, Rl (f x) (f' x)) (hs : Rl s s') : Rl (am_gr w f s) (am_gr w f' s') := by
  unfold am_gr
  cases w <;> first | exact hs | exact h _
theorem am_p_sw.{u, v} {X : Sort u} {Y : Sort v} (Rl : X → Y → Prop) {g : Nat → X} {g' : Nat → Y} (h : ∀ q, Rl (g q) (g' q)) (d : Nat) (x : Int32) : ∀ l : List (Int × Nat), Rl (am_sw l d x g) (am_sw l d x g')
  | [] => h d
  | (k, t) :: r => by
    unfold am_sw
    by_cases hx : x = am_i k
    · rw [if_pos hx, if_pos hx]; exact h t
    · rw [if_neg hx, if_neg hx]; exact am_p_sw Rl h d x r
theorem am_p_ite.{u, v} {X : Sort u} {Y : Sort v} (Rl : X → Y → Prop) {p : Prop} [Decidable p] {t s : X} {t' s' : Y} (h : Rl t t') (hs : Rl s s') : Rl (if p then t else s) (if p then t' else s') := by
  by_cases hp : p
  · rw [if_pos hp, if_pos hp]; exact h
  · rw [if_neg hp, if_neg hp]; exact hs
theorem am_p_br.{u, v} {X : Sort u} {Y : Sort v} (Rl : X → Y → Prop) {q : Jvm.ClassFile.Cond} {x y : Int32} {t f : X} {t' f' : Y} (h : Rl t t') (hf : Rl f f') : Rl (am_br q x y t f) (am_br q x y t' f') := by
  unfold am_br
  cases q <;> first | exact am_p_ite Rl h hf | exact am_p_ite Rl hf h
set_option maxHeartbeats 4000000 in
set_option maxRecDepth 100000 in
theorem am_par.{u, v} {X : Sort u} {Y : Sort v} (Rl : X → Y → Prop) {ret : Option Value → am_M → X} {go : Nat → Nat → Nat → List Value → List Value → am_M → X} {cI : Nat → Nat → List Value → am_M → (Int32 → am_M → X) → X} {cL : Nat → Nat → List Value → am_M → (Int64 → am_M → X) → X} {cR : Nat → Nat → List Value → am_M → (Nat → am_M → X) → X} {cV : Nat → Nat → List Value → am_M → (am_M → X) → X} {s : X}
    {ret' : Option Value → am_M → Y} {go' : Nat → Nat → Nat → List Value → List Value → am_M → Y} {cI' : Nat → Nat → List Value → am_M → (Int32 → am_M → Y) → Y} {cL' : Nat → Nat → List Value → am_M → (Int64 → am_M → Y) → Y} {cR' : Nat → Nat → List Value → am_M → (Nat → am_M → Y) → Y} {cV' : Nat → Nat → List Value → am_M → (am_M → Y) → Y} {s' : Y}
    (hs : Rl s s') (hret : ∀ v M, Rl (ret v M) (ret' v M)) (hgo : ∀ m d pc ls st M, Rl (go m d pc ls st M) (go' m d pc ls st M))
    (hI : ∀ m d a M f f', (∀ x M, Rl (f x M) (f' x M)) → Rl (cI m d a M f) (cI' m d a M f')) (hL : ∀ m d a M f f', (∀ x M, Rl (f x M) (f' x M)) → Rl (cL m d a M f) (cL' m d a M f'))
    (hR : ∀ m d a M f f', (∀ x M, Rl (f x M) (f' x M)) → Rl (cR m d a M f) (cR' m d a M f')) (hV : ∀ m d a M f f', (∀ M, Rl (f M) (f' M)) → Rl (cV m d a M f) (cV' m d a M f'))
    (mid d pc : Nat) (ls st : List Value) (M : am_M) : Rl (am_step ret go cI cL cR cV s mid d pc ls st M) (am_step ret' go' cI' cL' cR' cV' s' mid d pc ls st M) := by
  unfold am_step
  generalize am_find (am_tb mid) pc = o
  rcases o with _ | ⟨ins, len, a, b, c, e, z, sw⟩
  · exact hs
  · cases ins
    all_goals dsimp only
    all_goals (repeat (first
      | exact hs
      | exact hgo _ _ _ _ _ _
      | exact hret _ _
      | (refine am_p_tI Rl (fun _ _ => ?_) ?_)
      | (refine am_p_tL Rl (fun _ _ => ?_) ?_)
      | (refine am_p_tR Rl (fun _ _ => ?_) ?_)
      | (refine am_p_xI Rl (fun _ => ?_) ?_)
      | (refine am_p_xL Rl (fun _ => ?_) ?_)
      | (refine am_p_xR Rl (fun _ => ?_) ?_)
      | (refine am_p_e0 Rl ?_ ?_)
      | (refine am_p_gr Rl (fun _ => ?_) ?_)
      | (refine am_p_sw Rl (fun _ => ?_) _ _ _)
      | (refine am_p_br Rl ?_ ?_)
      | (refine hI _ _ _ _ _ _ (fun _ _ => ?_))
      | (refine hL _ _ _ _ _ _ (fun _ _ => ?_))
      | (refine hR _ _ _ _ _ _ (fun _ _ => ?_))
      | (refine hV _ _ _ _ _ _ (fun _ => ?_))
      | (refine am_p_ite Rl ?_ ?_)
      | (unfold am_if; refine am_p_ite Rl ?_ ?_)
      | (unfold am_ob; refine am_p_ite Rl ?_ ?_)
      | (unfold am_ix; refine am_p_ite Rl ?_ ?_)
      | (unfold am_iw; refine am_p_ite Rl ?_ ?_)
      | (unfold am_iq; refine am_p_ite Rl ?_ ?_)
      | (unfold am_tr; refine am_p_ite Rl ?_ ?_)
      | split))
end
section
/-! What the abstract machine tells without a count of steps. -/
def am_le (x y : am_Q) : Prop := ∀ r, x = some r → y = some r
theorem am_le_rf (x : am_Q) : am_le x x := fun _ h => h
theorem am_bI_of {q : am_Q} {f : Int32 → am_M → am_Q} {r : Option Value × am_M} (h : am_bI q f = some r) : ∃ x M, q = some (some (.int x), M) ∧ f x M = some r := by
  unfold am_bI at h
  split at h
  · exact ⟨_, _, rfl, h⟩
  · cases h
theorem am_bL_of {q : am_Q} {f : Int64 → am_M → am_Q} {r : Option Value × am_M} (h : am_bL q f = some r) : ∃ x M, q = some (some (.long x), M) ∧ f x M = some r := by
  unfold am_bL at h
  split at h
  · exact ⟨_, _, rfl, h⟩
  · cases h
theorem am_bR_of {q : am_Q} {f : Nat → am_M → am_Q} {r : Option Value × am_M} (h : am_bR q f = some r) : ∃ x M, q = some (some (.ref x), M) ∧ f x M = some r := by
  unfold am_bR at h
  split at h
  · exact ⟨_, _, rfl, h⟩
  · cases h
theorem am_bV_of {q : am_Q} {f : am_M → am_Q} {r : Option Value × am_M} (h : am_bV q f = some r) : ∃ M, q = some (none, M) ∧ f M = some r := by
  unfold am_bV at h
  split at h
  · exact ⟨_, rfl, h⟩
  · cases h
theorem am_nx_mono {k k' : am_F} (h : ∀ m d pc ls st M, am_le (k m d pc ls st M) (k' m d pc ls st M)) (m d pc : Nat) (ls st : List Value) (M : am_M) : am_le (am_nx k m d pc ls st M) (am_nx k' m d pc ls st M) := by
  unfold am_nx
  refine am_par am_le (am_le_rf _) (fun _ _ => am_le_rf _) h ?_ ?_ ?_ ?_ m d pc ls st M
  · intro m d a M f f' hf r hr
    obtain ⟨x, M', h1, h2⟩ := am_bI_of hr
    rw [h _ _ _ _ _ _ _ h1]
    exact hf _ _ _ h2
  · intro m d a M f f' hf r hr
    obtain ⟨x, M', h1, h2⟩ := am_bL_of hr
    rw [h _ _ _ _ _ _ _ h1]
    exact hf _ _ _ h2
  · intro m d a M f f' hf r hr
    obtain ⟨x, M', h1, h2⟩ := am_bR_of hr
    rw [h _ _ _ _ _ _ _ h1]
    exact hf _ _ _ h2
  · intro m d a M f f' hf r hr
    obtain ⟨M', h1, h2⟩ := am_bV_of hr
    rw [h _ _ _ _ _ _ _ h1]
    exact hf _ _ h2
theorem am_run_succ : ∀ (n : Nat) (m d pc : Nat) (ls st : List Value) (M : am_M), am_le (am_run n m d pc ls st M) (am_run (n + 1) m d pc ls st M)
  | 0, _, _, _, _, _, _ => fun r h => by cases h
  | n + 1, m, d, pc, ls, st, M => am_nx_mono (am_run_succ n) m d pc ls st M
theorem am_run_mono {n n' : Nat} (h : n ≤ n') (m d pc : Nat) (ls st : List Value) (M : am_M) : am_le (am_run n m d pc ls st M) (am_run n' m d pc ls st M) := by
  induction h with
  | refl => exact am_le_rf _
  | step _ ih => exact fun r hr => am_run_succ _ _ _ _ _ _ _ _ (ih r hr)
/-- what comes out in the end, if anything does -/
noncomputable def am_ev : am_F := fun m d pc ls st M => @dite _ (∃ r, ∃ n, am_run n m d pc ls st M = some r) (Classical.propDecidable _) (fun h => some (Classical.choose h)) (fun _ => none)
theorem am_ev_some {m d pc : Nat} {ls st : List Value} {M : am_M} {r : Option Value × am_M} : am_ev m d pc ls st M = some r ↔ ∃ n, am_run n m d pc ls st M = some r := by
  unfold am_ev
  by_cases h : ∃ r, ∃ n, am_run n m d pc ls st M = some r
  · rw [dif_pos h]
    obtain ⟨n, hn⟩ := Classical.choose_spec h
    constructor
    · intro e
      cases e
      exact ⟨n, hn⟩
    · rintro ⟨n', hn'⟩
      have h1 := am_run_mono (Nat.le_max_left n n') _ _ _ _ _ _ _ hn
      have h2 := am_run_mono (Nat.le_max_right n n') _ _ _ _ _ _ _ hn'
      rw [h1] at h2
      exact h2
  · rw [dif_neg h]
    constructor
    · intro e
      cases e
    · rintro ⟨n, hn⟩
      exact absurd ⟨r, n, hn⟩ h
theorem am_ev_of {n m d pc : Nat} {ls st : List Value} {M : am_M} : am_le (am_run n m d pc ls st M) (am_ev m d pc ls st M) := fun _ h => am_ev_some.mpr ⟨n, h⟩
def am_Rw (x : am_Q) (y : Nat → am_Q) : Prop := ∀ r, x = some r → ∃ n0, ∀ n, n0 ≤ n → y n = some r
theorem am_step_at (n : Nat) (m d pc : Nat) (ls st : List Value) (M : am_M) : am_step (X := Nat → am_Q) (fun v M _ => some (v, M)) (fun m d pc ls st M n => am_run n m d pc ls st M)
    (fun m d a M f n => am_bI (am_run n m d 0 (am_lc m a) [] M) (fun x M => f x M n)) (fun m d a M f n => am_bL (am_run n m d 0 (am_lc m a) [] M) (fun x M => f x M n)) (fun m d a M f n => am_bR (am_run n m d 0 (am_lc m a) [] M) (fun x M => f x M n)) (fun m d a M f n => am_bV (am_run n m d 0 (am_lc m a) [] M) (fun M => f M n)) (fun _ => none) m d pc ls st M n = am_run (n + 1) m d pc ls st M := by
  show _ = am_nx (am_run n) m d pc ls st M
  unfold am_nx
  refine am_par (X := Nat → am_Q) (Y := am_Q) (fun y x => y n = x) rfl (fun _ _ => rfl) (fun _ _ _ _ _ _ => rfl) ?_ ?_ ?_ ?_ m d pc ls st M
  · intro m d a M f f' hf
    exact congrArg _ (funext fun x => funext fun M => hf x M)
  · intro m d a M f f' hf
    exact congrArg _ (funext fun x => funext fun M => hf x M)
  · intro m d a M f f' hf
    exact congrArg _ (funext fun x => funext fun M => hf x M)
  · intro m d a M f f' hf
    exact congrArg _ (funext fun M => hf M)
theorem am_ev_eq (m d pc : Nat) (ls st : List Value) (M : am_M) : am_ev m d pc ls st M = am_nx am_ev m d pc ls st M := by
  have h1 : am_le (am_ev m d pc ls st M) (am_nx am_ev m d pc ls st M) := by
    intro r hr
    obtain ⟨n, hn⟩ := am_ev_some.mp hr
    cases n with
    | zero => cases hn
    | succ n => exact am_nx_mono (fun _ _ _ _ _ _ => am_ev_of) _ _ _ _ _ _ _ hn
  have h2 : am_le (am_nx am_ev m d pc ls st M) (am_ev m d pc ls st M) := by
    intro r hr
    have key : am_Rw (am_nx am_ev m d pc ls st M) (am_step (X := Nat → am_Q) (fun v M _ => some (v, M)) (fun m d pc ls st M n => am_run n m d pc ls st M)
        (fun m d a M f n => am_bI (am_run n m d 0 (am_lc m a) [] M) (fun x M => f x M n)) (fun m d a M f n => am_bL (am_run n m d 0 (am_lc m a) [] M) (fun x M => f x M n)) (fun m d a M f n => am_bR (am_run n m d 0 (am_lc m a) [] M) (fun x M => f x M n)) (fun m d a M f n => am_bV (am_run n m d 0 (am_lc m a) [] M) (fun M => f M n)) (fun _ => none) m d pc ls st M) := by
      unfold am_nx
      have ev : ∀ (m d pc : Nat) (ls st : List Value) (M : am_M), am_Rw (am_ev m d pc ls st M) (fun n => am_run n m d pc ls st M) := by
        intro m d pc ls st M r hr
        obtain ⟨n, hn⟩ := am_ev_some.mp hr
        exact ⟨n, fun n' h => am_run_mono h _ _ _ _ _ _ _ hn⟩
      refine am_par am_Rw (fun r h => by cases h) (fun v M r h => ⟨0, fun _ _ => h⟩) ev ?_ ?_ ?_ ?_ m d pc ls st M
      · intro m d a M f f' hf r hr
        obtain ⟨x, M', e1, e2⟩ := am_bI_of hr
        obtain ⟨n1, h1⟩ := ev _ _ _ _ _ _ _ e1
        obtain ⟨n2, h2⟩ := hf _ _ _ e2
        exact ⟨max n1 n2, fun n hn => by
          show am_bI (am_run n _ _ _ _ _ _) _ = _
          have h3 := h1 n (Nat.le_trans (Nat.le_max_left _ _) hn)
          dsimp only at h3
          rw [h3]
          exact h2 n (Nat.le_trans (Nat.le_max_right _ _) hn)⟩
      · intro m d a M f f' hf r hr
        obtain ⟨x, M', e1, e2⟩ := am_bL_of hr
        obtain ⟨n1, h1⟩ := ev _ _ _ _ _ _ _ e1
        obtain ⟨n2, h2⟩ := hf _ _ _ e2
        exact ⟨max n1 n2, fun n hn => by
          show am_bL (am_run n _ _ _ _ _ _) _ = _
          have h3 := h1 n (Nat.le_trans (Nat.le_max_left _ _) hn)
          dsimp only at h3
          rw [h3]
          exact h2 n (Nat.le_trans (Nat.le_max_right _ _) hn)⟩
      · intro m d a M f f' hf r hr
        obtain ⟨x, M', e1, e2⟩ := am_bR_of hr
        obtain ⟨n1, h1⟩ := ev _ _ _ _ _ _ _ e1
        obtain ⟨n2, h2⟩ := hf _ _ _ e2
        exact ⟨max n1 n2, fun n hn => by
          show am_bR (am_run n _ _ _ _ _ _) _ = _
          have h3 := h1 n (Nat.le_trans (Nat.le_max_left _ _) hn)
          dsimp only at h3
          rw [h3]
          exact h2 n (Nat.le_trans (Nat.le_max_right _ _) hn)⟩
      · intro m d a M f f' hf r hr
        obtain ⟨M', e1, e2⟩ := am_bV_of hr
        obtain ⟨n1, h1⟩ := ev _ _ _ _ _ _ _ e1
        obtain ⟨n2, h2⟩ := hf _ _ e2
        exact ⟨max n1 n2, fun n hn => by
          show am_bV (am_run n _ _ _ _ _ _) _ = _
          have h3 := h1 n (Nat.le_trans (Nat.le_max_left _ _) hn)
          dsimp only at h3
          rw [h3]
          exact h2 n (Nat.le_trans (Nat.le_max_right _ _) hn)⟩
    obtain ⟨n0, h0⟩ := key r hr
    have := h0 n0 (Nat.le_refl _)
    rw [am_step_at] at this
    exact am_ev_of _ this
  cases h : am_ev m d pc ls st M with
  | some r => exact (h1 r h).symm
  | none =>
    cases h' : am_nx am_ev m d pc ls st M with
    | none => rfl
    | some r =>
      have := h2 r h'
      rw [h] at this
      cases this
/-- steps, up to a place where to stop -/
noncomputable def am_un (cut : Nat → Bool) : Nat → am_F
  | 0 => am_ev
  | n + 1 => am_step (fun v M => some (v, M)) (fun m d pc ls st M => bif cut pc then am_ev m d pc ls st M else am_un cut n m d pc ls st M)
      (fun m d a M f => am_bI (am_ev m d 0 (am_lc m a) [] M) f) (fun m d a M f => am_bL (am_ev m d 0 (am_lc m a) [] M) f) (fun m d a M f => am_bR (am_ev m d 0 (am_lc m a) [] M) f) (fun m d a M f => am_bV (am_ev m d 0 (am_lc m a) [] M) f) none
theorem am_un_eq (cut : Nat → Bool) : ∀ n, am_un cut n = am_ev
  | 0 => rfl
  | n + 1 => by
    have e : (fun m d pc ls st M => bif cut pc then am_ev m d pc ls st M else am_un cut n m d pc ls st M) = am_ev := by
      funext m d pc ls st M
      rw [am_un_eq cut n]
      cases cut pc <;> rfl
    funext m d pc ls st M
    rw [am_ev_eq]
    unfold am_un
    rw [e]
    rfl
/-- a method, called -/
noncomputable def am_cl (m d : Nat) (a : List Value) (M : am_M) : am_Q := am_ev m d 0 (am_lc m a) [] M
theorem am_tree {cut : Nat → Bool} (n : Nat) {m d pc : Nat} {ls st : List Value} {M : am_M} {t : am_Q} (h : am_un cut n m d pc ls st M = t) : am_ev m d pc ls st M = t := by
  rw [am_un_eq] at h
  exact h
end
section
/-! The machine's heap, as the abstract memory tells it. -/
def am_W : List Jvm.Cond := lw_tbl.filter goodWord
theorem am_W_of {e : Nat} {w : Jvm.Cond} (h : lw_tbl[e]? = some w) (hg : goodWord w = true) : w ∈ am_W := List.mem_filter.mpr ⟨List.mem_of_getElem? h, hg⟩
theorem am_W_good : GoodIn am_W am_W := fun w h => ⟨h, good_of_word (List.mem_filter.mp h).2⟩
def am_ad (b a1 z : Nat) : Nat → Nat
  | 0 => b
  | 1 => a1
  | i + 2 => z + i
theorem am_ad_ge {b a1 z r : Nat} (h : 2 ≤ r) : am_ad b a1 z r = z + (r - 2) := by
  match r, h with
  | i + 2, _ => rfl
theorem am_ad_inj {b a1 z r q : Nat} (h : 2 ≤ r) (h' : 2 ≤ q) (e : am_ad b a1 z r = am_ad b a1 z q) : r = q := by
  rw [am_ad_ge h, am_ad_ge h'] at e
  omega
def am_cv (ad : Nat → Nat) : Value → Value
  | .ref r => .ref (ad r)
  | v => v
theorem am_cv_cat (ad : Nat → Nat) (v : Value) : (am_cv ad v).category = v.category := by cases v <;> rfl
def am_fv (ad : Nat → Nat) (M : am_M) (r c j : Nat) : Value := match am_ft c j with
  | 2 => .long (am_L M r j)
  | 3 => va_rf ((am_R M r j).map ad)
  | _ => .int (am_I M r j)
/-- what the machine holds at a cell, by its kind -/
def am_at (D : va_G) (cA : Nat → ClassId) (ad : Nat → Nat) (M : am_M) (r : Nat) (H : Heap) : Prop :=
  ((am_K M r).1 = 1 → t_OB (ad r) (D.1 (am_K M r).2) (am_nf (am_K M r).2) (D.2 (am_K M r).2) H (am_fv ad M r (am_K M r).2)) ∧
  ((am_K M r).1 = 2 → H[ad r]? = some (vp_cell (cA 2) ((am_K M r).2, .inl (am_I M r)))) ∧
  ((am_K M r).1 = 3 → H[ad r]? = some (vp_cell (cA 3) ((am_K M r).2, .inr (.inl (am_L M r))))) ∧
  ((am_K M r).1 = 4 → H[ad r]? = some (vp_cell (cA 4) ((am_K M r).2, .inl (am_I M r)))) ∧
  ((am_K M r).1 = 5 → H[ad r]? = some (vp_cell (cA 5) ((am_K M r).2, .inr (.inr (.inr (.inr (fun j => (am_R M r j).map ad))))))) ∧
  ((am_K M r).1 = 6 → H[ad r]? = some (vp_cell (cA 6) ((am_K M r).2, .inr (.inr (.inr (.inr (fun j => (am_R M r j).map ad)))))))
theorem am_at.kept {D : va_G} {cA : Nat → ClassId} {ad : Nat → Nat} {M M' : am_M} {r : Nat} {H H' : Heap} (h : am_at D cA ad M r H) (hH : H'[ad r]? = H[ad r]?) (hK : am_K M' r = am_K M r) (hI : am_I M' r = am_I M r) (hL : am_L M' r = am_L M r) (hR : am_R M' r = am_R M r) : am_at D cA ad M' r H' := by
  have hf : ∀ c, am_fv ad M' r c = am_fv ad M r c := fun c => by funext j; unfold am_fv; rw [hI, hL, hR]
  unfold am_at
  rw [hK, hI, hL, hR, hf, hH]
  exact ⟨fun e => (h.1 e).kept hH, h.2⟩
/-- the script, the text, and where they lie: ahead of all that is made -/
abbrev am_G : Type := va_G × (Nat → ClassId) × Nat × (Nat × Nat) × Nat × Nat × (Nat → Int32) × Heap
def am_gD (G : am_G) : va_G := G.1
def am_gA (G : am_G) : Nat → ClassId := G.2.1
def am_gb (G : am_G) : Nat := G.2.2.1
def am_gt (G : am_G) : Nat := G.2.2.2.1.1
def am_gv (G : am_G) : Nat := G.2.2.2.1.2
def am_gz (G : am_G) : Nat := G.2.2.2.2.1
def am_gl (G : am_G) : Nat := G.2.2.2.2.2.1
def am_gx (G : am_G) : Nat → Int32 := G.2.2.2.2.2.2.1
def am_gH (G : am_G) : Heap := G.2.2.2.2.2.2.2
def am_ga (G : am_G) : Nat → Nat := am_ad (am_gb G) (am_gt G) (am_gz G)
/-- the heap is what the memory tells -/
def am_Mm (G : am_G) (M : am_M) (H : Heap) : Prop :=
  H.size + 2 = am_gz G + am_n M ∧ 2 ≤ am_n M ∧ (∀ r, am_n M ≤ r → (am_K M r).1 = 0) ∧ am_K M 0 = (2, am_gl G) ∧ (∀ j, j < am_gl G → am_I M 0 j = am_gx G j) ∧ am_K M 1 = (0, 0) ∧
  (∀ q, q < am_gz G → H[q]? = (am_gH G)[q]?) ∧ ∀ r, 2 ≤ r → r < am_n M → am_at (am_gD G) (am_gA G) (am_ga G) M r H
theorem am_Mm.lt {G : am_G} {M : am_M} {H : Heap} (h : am_Mm G M H) {r : Nat} (hr : (am_K M r).1 ≠ 0) : r < am_n M := by
  apply Nat.lt_of_not_le
  intro hn
  exact hr (h.2.2.1 r hn)
theorem am_Mm.ge {G : am_G} {M : am_M} {H : Heap} (h : am_Mm G M H) {r c : Nat} (hr : am_K M r = (1, c)) : 2 ≤ r := by
  match r, hr with
  | 0, hr => rw [h.2.2.2.1] at hr; cases hr
  | 1, hr => rw [h.2.2.2.2.2.1] at hr; cases hr
  | r + 2, _ => omega
theorem am_Mm.ge2 {G : am_G} {M : am_M} {H : Heap} (h : am_Mm G M H) {r : Nat} (hr : (am_K M r).1 ≠ 0) (hr2 : (am_K M r).1 ≠ 2) : 2 ≤ r := by
  match r, hr, hr2 with
  | 0, hr, hr2 => exact absurd (by rw [h.2.2.2.1]) hr2
  | 1, hr, hr2 => exact absurd (by rw [h.2.2.2.2.2.1]) hr
  | r + 2, _, _ => omega
/-- a cell is written: it alone changes -/
theorem am_Mm.set {G : am_G} {M M' : am_M} {H H' : Heap} (h : am_Mm G M H) {r : Nat} (hr : 2 ≤ r) (hz : H'.size = H.size) (ho : ∀ q, q ≠ am_ga G r → H'[q]? = H[q]?) (hK : am_K M' = am_K M) (hn : am_n M' = am_n M)
    (hI : ∀ q, q ≠ r → am_I M' q = am_I M q) (hL : ∀ q, q ≠ r → am_L M' q = am_L M q) (hR : ∀ q, q ≠ r → am_R M' q = am_R M q) (hat : am_at (am_gD G) (am_gA G) (am_ga G) M' r H') : am_Mm G M' H' := by
  obtain ⟨h1, h2, h3, h4, h5, h6, h7, h8⟩ := h
  refine ⟨by rw [hz, hn]; exact h1, by rw [hn]; exact h2, fun q hq => by rw [hK]; exact h3 q (by rw [← hn]; exact hq), by rw [hK]; exact h4, fun j hj => by rw [hI 0 (by omega)]; exact h5 j hj, by rw [hK]; exact h6, fun q hq => ?_, fun q hq hqn => ?_⟩
  · rw [ho q (by unfold am_ga; rw [am_ad_ge hr]; omega)]
    exact h7 q hq
  · by_cases e : q = r
    · subst e; exact hat
    · exact (h8 q hq (by rw [← hn]; exact hqn)).kept (ho _ (fun z => e (am_ad_inj hq hr z))) (by rw [hK]) (hI q e) (hL q e) (hR q e)
theorem am_w_ne {α : Type} {f : Nat → Nat → α} {a j : Nat} {v : α} {b : Nat} (h : b ≠ a) : am_w f a j v b = f b := by
  funext k
  unfold am_w
  rw [if_neg (fun e => h e.1)]
theorem am_w_eq {α : Type} {f : Nat → Nat → α} {a j : Nat} {v : α} {k : Nat} : am_w f a j v a k = if k = j then v else f a k := by
  unfold am_w
  by_cases h : k = j
  · rw [if_pos ⟨rfl, h⟩, if_pos h]
  · rw [if_neg (fun e => h e.2), if_neg h]
/-- the locals that are told -/
def am_al (ad : Nat → Nat) : Nat → List Value → List (Nat × Value)
  | _, [] => []
  | k, .null :: l => am_al ad (k + 1) l
  | k, v :: l => (k, am_cv ad v) :: am_al ad (k + 1) l
theorem am_al_cons {ad : Nat → Nat} {k : Nat} {v : Value} {l : List Value} : am_al ad k (v :: l) = if v = .null then am_al ad (k + 1) l else (k, am_cv ad v) :: am_al ad (k + 1) l := by
  cases v <;> rfl
theorem am_al_mem {ad : Nat → Nat} {q : Nat × Value} : ∀ {l : List Value} {k : Nat}, q ∈ am_al ad k l ↔ ∃ i v, l[i]? = some v ∧ v ≠ .null ∧ q = (k + i, am_cv ad v)
  | [], k => by
    constructor
    · intro h; cases h
    · rintro ⟨i, v, h, -⟩; simp at h
  | v :: l, k => by
    rw [am_al_cons]
    constructor
    · intro h
      by_cases hv : v = .null
      · rw [if_pos hv] at h
        obtain ⟨i, w, h1, h2, h3⟩ := am_al_mem.mp h
        exact ⟨i + 1, w, by simpa using h1, h2, by rw [h3]; congr 1; omega⟩
      · rw [if_neg hv] at h
        rcases List.mem_cons.mp h with h | h
        · exact ⟨0, v, rfl, hv, h⟩
        · obtain ⟨i, w, h1, h2, h3⟩ := am_al_mem.mp h
          exact ⟨i + 1, w, by simpa using h1, h2, by rw [h3]; congr 1; omega⟩
    · rintro ⟨i, w, h1, h2, h3⟩
      cases i with
      | zero =>
        have : v = w := by simpa using h1
        subst this
        rw [if_neg h2]
        exact List.mem_cons.mpr (Or.inl h3)
      | succ i =>
        have : q ∈ am_al ad (k + 1) l := am_al_mem.mpr ⟨i, w, by simpa using h1, h2, by rw [h3]; congr 1; omega⟩
        by_cases hv : v = .null
        · rw [if_pos hv]; exact this
        · rw [if_neg hv]; exact List.mem_cons_of_mem _ this
/-- the machine's locals, as they are told -/
def am_Ls (ad : Nat → Nat) (nL : Nat) (ls : Array Slot) (l : List Value) : Prop := lv_has ls nL (am_al ad 0 l) ∧ l.length = nL
theorem am_nth_get : ∀ {l : List Value} {k : Nat} {v : Value}, am_nth l k = v → v ≠ .null → l[k]? = some v
  | [], _, _, h, hv => absurd h.symm hv
  | x :: l, 0, v, h, _ => by rw [← h]; rfl
  | x :: l, k + 1, v, h, hv => by
    have := am_nth_get (l := l) (k := k) h hv
    simpa using this
theorem am_Ls.at {ad : Nat → Nat} {nL : Nat} {ls : Array Slot} {l : List Value} (h : am_Ls ad nL ls l) {k : Nat} {v : Value} (hk : am_nth l k = v) (hv : v ≠ .null) : ls[k]? = some (.val (am_cv ad v)) := by
  have := h.1.2.2 (k, am_cv ad v) (am_al_mem.mpr ⟨k, v, am_nth_get hk hv, hv, by rw [Nat.zero_add]⟩)
  exact this
theorem am_st1_len : ∀ (l : List Value) (k : Nat) (v : Value), (am_st1 l k v).length = l.length
  | [], _, _ => by cases ‹Nat› <;> rfl
  | _ :: l, 0, v => rfl
  | x :: l, 1, v => by show (am_st1 l 0 v).length + 1 = _; rw [am_st1_len l 0 v]; rfl
  | x :: l, k + 2, v => by show (am_st1 l (k + 1) v).length + 1 = _; rw [am_st1_len l (k + 1) v]; rfl
theorem am_kh_len (l : List Value) : (am_kh l).length = l.length := by cases l <;> rfl
theorem am_st2_len : ∀ (l : List Value) (k : Nat) (v : Value), (am_st2 l k v).length = l.length
  | [], _, _ => by cases ‹Nat› <;> rfl
  | _ :: l, 0, v => by show (am_kh l).length + 1 = _; rw [am_kh_len]; rfl
  | x :: l, 1, v => by show (am_st2 l 0 v).length + 1 = _; rw [am_st2_len l 0 v]; rfl
  | x :: l, k + 2, v => by show (am_st2 l (k + 1) v).length + 1 = _; rw [am_st2_len l (k + 1) v]; rfl
theorem am_kl_ne {x w : Value} (h : am_kl x = w) (hw : w ≠ .null) : x = w ∧ x.category = 1 := by
  cases x <;> simp [am_kl] at h <;> first | exact absurd h.symm hw | exact ⟨h, rfl⟩ | (subst h; exact ⟨rfl, rfl⟩)
theorem am_st1_get : ∀ {l : List Value} {k : Nat} {v : Value} {i : Nat} {w : Value}, (am_st1 l k v)[i]? = some w → w ≠ .null → (i = k ∧ w = v) ∨ (i ≠ k ∧ l[i]? = some w ∧ (i + 1 = k → w.category = 1))
  | [], 0, _, i, w, h, _ => by simp [am_st1] at h
  | [], 1, _, i, w, h, _ => by simp [am_st1] at h
  | [], k + 2, _, i, w, h, _ => by simp [am_st1] at h
  | x :: l, 0, v, i, w, h, hw => by
    cases i with
    | zero => exact Or.inl ⟨rfl, by simpa [am_st1] using h.symm⟩
    | succ i => exact Or.inr ⟨by omega, by simpa [am_st1] using h, by omega⟩
  | x :: l, 1, v, i, w, h, hw => by
    cases i with
    | zero =>
      have h' : am_kl x = w := by simpa [am_st1] using h
      obtain ⟨h1, h2⟩ := am_kl_ne h' hw
      exact Or.inr ⟨by omega, by rw [h1]; rfl, fun _ => by rw [← h1]; exact h2⟩
    | succ i =>
      rcases am_st1_get (l := l) (k := 0) (i := i) (by simpa [am_st1] using h) hw with ⟨h1, h2⟩ | ⟨h1, h2, h3⟩
      · exact Or.inl ⟨by omega, h2⟩
      · exact Or.inr ⟨by omega, by simpa using h2, by omega⟩
  | x :: l, k + 2, v, i, w, h, hw => by
    cases i with
    | zero => exact Or.inr ⟨by omega, by simpa [am_st1] using h, by omega⟩
    | succ i =>
      rcases am_st1_get (l := l) (k := k + 1) (i := i) (by simpa [am_st1] using h) hw with ⟨h1, h2⟩ | ⟨h1, h2, h3⟩
      · exact Or.inl ⟨by omega, h2⟩
      · exact Or.inr ⟨by omega, by simpa using h2, fun e => h3 (by omega)⟩
theorem am_st2_get : ∀ {l : List Value} {k : Nat} {v : Value} {i : Nat} {w : Value}, (am_st2 l k v)[i]? = some w → w ≠ .null → (i = k ∧ w = v) ∨ (i ≠ k ∧ i ≠ k + 1 ∧ l[i]? = some w ∧ (i + 1 = k → w.category = 1))
  | [], 0, _, i, w, h, _ => by simp [am_st2] at h
  | [], 1, _, i, w, h, _ => by simp [am_st2] at h
  | [], k + 2, _, i, w, h, _ => by simp [am_st2] at h
  | x :: l, 0, v, i, w, h, hw => by
    cases i with
    | zero => exact Or.inl ⟨rfl, by simpa [am_st2] using h.symm⟩
    | succ i =>
      have h' : (am_kh l)[i]? = some w := by simpa [am_st2] using h
      cases l with
      | nil => simp [am_kh] at h'
      | cons y l =>
        cases i with
        | zero => simp [am_kh] at h'; exact absurd h'.symm hw
        | succ i => exact Or.inr ⟨by omega, by omega, by simpa [am_kh] using h', by omega⟩
  | x :: l, 1, v, i, w, h, hw => by
    cases i with
    | zero =>
      have h' : am_kl x = w := by simpa [am_st2] using h
      obtain ⟨h1, h2⟩ := am_kl_ne h' hw
      exact Or.inr ⟨by omega, by omega, by rw [h1]; rfl, fun _ => by rw [← h1]; exact h2⟩
    | succ i =>
      rcases am_st2_get (l := l) (k := 0) (i := i) (by simpa [am_st2] using h) hw with ⟨h1, h2⟩ | ⟨h1, h2, h3, h4⟩
      · exact Or.inl ⟨by omega, h2⟩
      · exact Or.inr ⟨by omega, by omega, by simpa using h3, by omega⟩
  | x :: l, k + 2, v, i, w, h, hw => by
    cases i with
    | zero => exact Or.inr ⟨by omega, by omega, by simpa [am_st2] using h, by omega⟩
    | succ i =>
      rcases am_st2_get (l := l) (k := k + 1) (i := i) (by simpa [am_st2] using h) hw with ⟨h1, h2⟩ | ⟨h1, h2, h3, h4⟩
      · exact Or.inl ⟨by omega, h2⟩
      · exact Or.inr ⟨by omega, by omega, by simpa using h3, fun e => h4 (by omega)⟩
/-- a store of one word -/
theorem am_Ls.st1 {ad : Nat → Nat} {nL : Nat} {ls ls' : Array Slot} {l : List Value} {k : Nat} {v : Value} (h : am_Ls ad nL ls l) (hs : lv_has ls' nL ((k, am_cv ad v) :: (am_al ad 0 l).filter (fun q => !(q.1 == k) && !(q.1 + 1 == k && q.2.category == 2)))) : am_Ls ad nL ls' (am_st1 l k v) := by
  refine ⟨⟨hs.1, hs.2.1, fun q hq => ?_⟩, by rw [am_st1_len]; exact h.2⟩
  obtain ⟨i, w, h1, h2, rfl⟩ := am_al_mem.mp hq
  rw [Nat.zero_add]
  refine hs.2.2 (i, am_cv ad w) ?_
  rcases am_st1_get h1 h2 with ⟨rfl, rfl⟩ | ⟨h3, h4, h5⟩
  · exact List.mem_cons_self
  · refine List.mem_cons_of_mem _ (List.mem_filter.mpr ⟨am_al_mem.mpr ⟨i, w, h4, h2, by rw [Nat.zero_add]⟩, ?_⟩)
    have e1 : (i == k) = false := by simp [h3]
    by_cases e : i + 1 = k
    · simp [e1, e, am_cv_cat, h5 e]
    · simp [e1, e]
theorem am_Ls.st2 {ad : Nat → Nat} {nL : Nat} {ls ls' : Array Slot} {l : List Value} {k : Nat} {v : Value} (h : am_Ls ad nL ls l) (hs : lv_has ls' nL ((k, am_cv ad v) :: (am_al ad 0 l).filter (fun q => !(q.1 == k) && (!(q.1 == k + 1) && !(q.1 + 1 == k && q.2.category == 2))))) : am_Ls ad nL ls' (am_st2 l k v) := by
  refine ⟨⟨hs.1, hs.2.1, fun q hq => ?_⟩, by rw [am_st2_len]; exact h.2⟩
  obtain ⟨i, w, h1, h2, rfl⟩ := am_al_mem.mp hq
  rw [Nat.zero_add]
  refine hs.2.2 (i, am_cv ad w) ?_
  rcases am_st2_get h1 h2 with ⟨rfl, rfl⟩ | ⟨h3, h3', h4, h5⟩
  · exact List.mem_cons_self
  · refine List.mem_cons_of_mem _ (List.mem_filter.mpr ⟨am_al_mem.mpr ⟨i, w, h4, h2, by rw [Nat.zero_add]⟩, ?_⟩)
    have e1 : (i == k) = false := by simp [h3]
    have e2 : (i == k + 1) = false := by simp [h3']
    by_cases e : i + 1 = k
    · simp [e1, e2, e, am_cv_cat, h5 e]
    · simp [e1, e2, e]
end
section
/-! The rows of the kit, over the abstract memory: cells read and written. -/
theorem am_cl_at : ∀ a, a < 7 → vwCl[a]? = some (am_cR a, am_cT a, am_nf a)
  | 0, _ => rfl
  | 1, _ => rfl
  | 2, _ => rfl
  | 3, _ => rfl
  | 4, _ => rfl
  | 5, _ => rfl
  | 6, _ => rfl
  | a + 7, h => absurd h (by omega)
theorem am_cty : ∀ a, a < 7 → ∀ k, k < am_nf a → parseFieldDescriptor (am_cT a k).2.2.1 = some (am_ty a k)
  | 0, _ => tyX0_ok
  | 1, _ => tyX1_ok
  | 2, _ => tyX2_ok
  | 3, _ => tyX3_ok
  | 4, _ => tyX4_ok
  | 5, _ => tyX5_ok
  | 6, _ => tyX6_ok
  | a + 7, h => absurd h (by omega)
theorem am_cnm : ∀ a, a < 7 → ∀ x, x < am_nf a → ∀ y, y < am_nf a → x ≠ y → (am_cT a x).2.1 ≠ (am_cT a y).2.1
  | 0, _ => nmX0
  | 1, _ => nmX1
  | 2, _ => nmX2
  | 3, _ => nmX3
  | 4, _ => nmX4
  | 5, _ => nmX5
  | 6, _ => nmX6
  | a + 7, h => absurd h (by omega)
theorem am_inW {ws : List Jvm.Cond} (h : ws.all (fun w => decide (w ∈ lw_tbl) && goodWord w) = true) : ∀ w ∈ ws, w ∈ am_W := by
  intro w hw
  have := List.all_eq_true.mp h w hw
  rw [Bool.and_eq_true, decide_eq_true_eq] at this
  exact List.mem_filter.mpr this
theorem am_cin0 : ∀ w ∈ u_ws RX0 TX0 7, w ∈ am_W := am_inW (by decide +kernel)
theorem am_cin1 : ∀ w ∈ u_ws RX1 TX1 6, w ∈ am_W := am_inW (by decide +kernel)
theorem am_cin2 : ∀ w ∈ u_ws RX2 TX2 16, w ∈ am_W := am_inW (by decide +kernel)
theorem am_cin3 : ∀ w ∈ u_ws RX3 TX3 3, w ∈ am_W := am_inW (by decide +kernel)
theorem am_cin4 : ∀ w ∈ u_ws RX4 TX4 17, w ∈ am_W := am_inW (by decide +kernel)
theorem am_cin5 : ∀ w ∈ u_ws RX5 TX5 16, w ∈ am_W := am_inW (by decide +kernel)
theorem am_cin6 : ∀ w ∈ u_ws RX6 TX6 103, w ∈ am_W := am_inW (by decide +kernel)
theorem am_cin : ∀ a, a < 7 → ∀ w ∈ u_ws (am_cR a) (am_cT a) (am_nf a), w ∈ am_W
  | 0, _ => am_cin0
  | 1, _ => am_cin1
  | 2, _ => am_cin2
  | 3, _ => am_cin3
  | 4, _ => am_cin4
  | 5, _ => am_cin5
  | 6, _ => am_cin6
  | a + 7, h => absurd h (by omega)
end
section
/-- rows of rows of ints can be made -/
def am_AOA (U : State) : Prop := (Cond.arrayOver (.array .int)).before #[] U = true
theorem am_AOA_spec {s : State} (h : am_AOA s) : ∃ comp c k, s.vm.findClass (FieldType.array .int).toString = some comp ∧ (s.vm.classes.findIdx? fun (x : Class) => match x.kind with | .array component _ => component == comp | _ => false) = some c ∧ s.vm.classes[c]? = some k ∧ k.kind = .array comp (.array .int) ∧ s.vm.findClass ("[" ++ (FieldType.array .int).toString) = some c := by
  unfold am_AOA Cond.before at h
  simp only [Cond.holds, Cond.value, beq_iff_eq] at h
  cases hc : s.vm.findClass (FieldType.array .int).toString with
  | none => simp [hc] at h
  | some comp =>
    simp only [hc, Option.bind_some, Option.bind_eq_some_iff, Option.map_eq_some_iff] at h
    obtain ⟨c, hi, k, hk, hb⟩ := h
    obtain ⟨hlt, hp, -⟩ := Array.findIdx?_eq_some_iff_getElem.mp hi
    have hkk : s.vm.classes[c] = k := (Array.getElem?_eq_some_iff.mp hk).2
    rw [hkk] at hp
    cases hkind : k.kind with
    | array component ty =>
      rw [hkind] at hb hp
      simp at hb hp
      exact ⟨comp, c, k, rfl, hi, hk, by rw [hkind, hp, hb.1], hb.2⟩
    | _ => rw [hkind] at hb; simp at hb
theorem am_AOA.moved {u U : State} (hvm : u.vm.Alike U.vm) (h : am_AOA u) : am_AOA U := by
  obtain ⟨comp, c, k, h1, h2, h3, h4, h5⟩ := am_AOA_spec h
  obtain ⟨k', hk', he⟩ := hvm.2.2 _ _ h3
  have hi : (U.vm.classes.findIdx? fun (x : Class) => match x.kind with | .array component _ => component == comp | _ => false) = some c := by
    have e1 := va_idx_bare U.vm comp
    have e2 := va_idx_bare u.vm comp
    first | rw [hvm.bare_eq] at e1 | rw [← hvm.bare_eq] at e1
    exact e1.symm.trans (e2.trans h2)
  have hkind : k'.kind = .array comp (.array .int) := by rw [he]; exact h4
  have f1 : U.vm.findClass (FieldType.array .int).toString = some comp := by rw [hvm.findClass]; exact h1
  have f2 : U.vm.findClass ("[" ++ (FieldType.array .int).toString) = some c := by rw [hvm.findClass]; exact h5
  unfold am_AOA Cond.before Cond.holds
  simp only [Cond.value]
  rw [f1, Option.bind_some]
  refine (congrArg (fun o : Option Nat => (o.bind (fun c => (U.vm.classes[c]?).map fun (k : Class) => match k.kind with | .array _ ty => decide (ty = FieldType.array .int) && decide (U.vm.findClass ("[" ++ (FieldType.array .int).toString) = some c) | _ => false) == some true)) hi).trans ?_
  simp [hk', hkind, f2]
end
section
/-! The rows of the kit, over the abstract memory: cells read and written. -/
def am_tys (cA : Nat → ClassId) : List (ClassId × FieldType) := [(cA 2, .int), (cA 3, .long), (cA 4, .char), (cA 5, .object RX0), (cA 6, .array .int)]
/-- the classes are what the tables say -/
abbrev am_Kn (G : am_G) (s : State) : Prop := va_K (am_gD G) vwCl (am_tys (am_gA G)) s
/-- what was written lies among what was made -/
def am_lo (G : am_G) (locs : List Loc) : Prop := ∀ q ∈ locs, am_gz G ≤ q.base
theorem am_lo.put {G : am_G} {locs : List Loc} {r k : Nat} (h : am_lo G locs) (hr : 2 ≤ r) : am_lo G (locs ++ [⟨am_ga G r, k⟩]) := by
  intro q hq
  rcases List.mem_append.mp hq with h1 | h1
  · exact h q h1
  · rw [List.mem_singleton.mp h1]
    show am_gz G ≤ am_ga G r
    unfold am_ga
    rw [am_ad_ge hr]
    omega
section AMR
variable {p : Program} {l : Launch} {e : Env} {R : Room} {s : State} {m : MethodId} {args : Array Value} {below : List Frame} {meth : Method} {c : Code} {H : Heap} {locs : List Loc} {cells slots : Nat} {Q : State → Prop}
variable {cc : ByteArray} {pc : Nat} {ls : Array Slot} {rest : List Value} {G : am_G} {M : am_M} {own : String}
theorem am_r_get (hx : p.tables.exec = Jvm.exec) (hb : c.code = cc) (hts : ∀ w ∈ am_W, w.before args s = true) (hown : s.vm.findClass own = some m.cls) (hK : am_Kn G s) (hM : am_Mm G M H) {r a b index : Nat} (hk : am_K M r = (1, a)) (ha : a < 7) (hbn : b < am_nf a)
    (hl : Cond.fieldLink own index (am_cT a b).1 (am_cT a b).2.1 (am_cT a b).2.2.1 ∈ am_W) (hdg : decode cc pc = .ok (.getfield index, 3))
    (kk : W p l e R s m args below meth c H locs cells slots Q (F0 m (pc + 3) ls (am_fv (am_ga G) M r a b :: rest))) : W p l e R s m args below meth c H locs cells slots Q (F0 m pc ls (.ref (am_ga G r) :: rest)) := by
  have h2 := hM.ge hk
  have hlt := hM.lt (r := r) (by rw [hk]; exact Nat.one_ne_zero)
  obtain ⟨cell, q1, q2, q3, q4⟩ := (hM.2.2.2.2.2.2.2 r h2 hlt).1 (by rw [hk])
  rw [hk] at q2 q4
  obtain ⟨hS, hfc, kC, hkC, hkind⟩ := hK.1 a _ (am_cl_at a ha)
  obtain ⟨cf, kf, fi, f, hi, hsl⟩ := hS b hbn
  refine W.getf hx hb hown (hts _ hl) hi (u_facts hfc hkC (u_lays hts (am_cin a ha) hbn) hi).1 q1 (by rw [q3]; exact fun h => by cases h) (v := am_fv (am_ga G) M r a b) ?_ rfl rfl hdg kk
  rw [hsl]
  exact q4 b hbn
theorem am_r_put (hx : p.tables.exec = Jvm.exec) (hb : c.code = cc) (hts : ∀ w ∈ am_W, w.before args s = true) (hown : s.vm.findClass own = some m.cls) (hK : am_Kn G s) (hM : am_Mm G M H) (hlo : am_lo G locs) {r a b index : Nat} (hk : am_K M r = (1, a)) (ha : a < 7) (hbn : b < am_nf a)
    (hl : Cond.fieldLink own index (am_cT a b).1 (am_cT a b).2.1 (am_cT a b).2.2.1 ∈ am_W) (hfin : (am_cT a b).2.2.2 = false ∨ (meth.name = "<init>" ∧ (am_cT a b).1 = own)) {v : Value} (hn : narrow (am_ty a b) v = v) (hfit : fits (am_ty a b) v = true) (hdg : decode cc pc = .ok (.putfield index, 3))
    (kk : ∀ (H1 : Heap) (locs1 : List Loc), H1.size = H.size → (∀ q, q ≠ am_ga G r → H1[q]? = H[q]?) → t_OB (am_ga G r) ((am_gD G).1 a) (am_nf a) ((am_gD G).2 a) H1 (updV (am_fv (am_ga G) M r a) b v) → am_lo G locs1 →
      W p l e R s m args below meth c H1 locs1 cells slots Q (F0 m (pc + 3) ls rest)) : W p l e R s m args below meth c H locs cells slots Q (F0 m pc ls (v :: .ref (am_ga G r) :: rest)) := by
  have h2 := hM.ge hk
  have hlt := hM.lt (r := r) (by rw [hk]; exact Nat.one_ne_zero)
  have hap := va_apart (own := own) hts (am_cin a ha) (am_ty a) (am_cty a ha) (am_cnm a ha) hK (am_cl_at a ha)
  obtain ⟨cell, q1, q2, q3, q4⟩ := (hM.2.2.2.2.2.2.2 r h2 hlt).1 (by rw [hk])
  rw [hk] at q2 q4
  obtain ⟨hS, hfc, kC, hkC, hkind⟩ := hK.1 a _ (am_cl_at a ha)
  obtain ⟨cf, kf, fi, f, hi, hsl⟩ := hS b hbn
  have hlay := hts _ (am_cin a ha _ (u_in_lay hbn))
  have hst := (u_facts hfc hkC (u_lays hts (am_cin a ha) hbn) hi).1
  have hd := am_cty a ha b hbn
  unfold u_lay at hlay
  by_cases hf : (am_cT a b).2.2.2 = true
  · rw [if_pos hf] at hlay
    rcases hfin with h | ⟨hin, hdecl⟩
    · rw [hf] at h; cases h
    · have hcf : m.cls = cf := by
        obtain ⟨_, _, c', _, _, _, -, -, hf', -, -, -, hown2, -⟩ := Cond.laysFinal_spec hlay
        have e1 : c' = cf := by have := hi.symm.trans hf'; simp at this; exact this.1.symm
        rw [hdecl] at hown2
        rw [← e1]; exact Option.some.inj (hown.symm.trans hown2)
      have h6 := u_fits hfc hkC hkind (Or.inr hlay) hi hd hn hfit
      refine W.putFinK hx hb hown (hts _ hl) hi hst hcf hin (by rw [q2]; exact h6) q1 q3 (by rw [hsl]; exact k2_hasslot (q4 b hbn)) rfl rfl hdg fun H' e1 e2 e3 => ?_
      rw [hsl] at e1 ⊢
      exact kk H' _ e2 e3 ⟨_, e1, q2, q3, t_set q4 hap hbn v⟩ (hlo.put h2)
  · rw [if_neg hf] at hlay
    have h6 := u_store hfc hkC hkind hlay hi hd hn hfit
    refine W.putK hx hb (f := f) ⟨hown, hts _ hl, ⟨_, _, _, hi⟩, hst⟩ (by rw [q2]; exact h6) q1 q3 (by rw [hsl]; exact k2_hasslot (q4 b hbn)) rfl rfl hdg fun H' e1 e2 e3 => ?_
    rw [hsl] at e1 ⊢
    exact kk H' _ e2 e3 ⟨_, e1, q2, q3, t_set q4 hap hbn v⟩ (hlo.put h2)
theorem am_r_iald (hx : p.tables.exec = Jvm.exec) (hb : c.code = cc) (hK : am_Kn G s) (hX : va_X (am_gb G) (am_gl G) (am_gx G) s (am_gH G)) (hbz : am_gb G < am_gz G) (hM : am_Mm G M H) {r : Nat} {i : Int32} (hk : (am_K M r).1 = 2) (hin : ¬ (i < 0 ∨ (am_K M r).2 ≤ i.toNatClampNeg)) (hdg : decode cc pc = .ok (.iaload, 1))
    (kk : W p l e R s m args below meth c H locs cells slots Q (F0 m (pc + 1) ls (.int (am_I M r i.toNatClampNeg) :: rest))) : W p l e R s m args below meth c H locs cells slots Q (F0 m pc ls (.int i :: .ref (am_ga G r) :: rest)) := by
  have hlt : i.toNatClampNeg < (am_K M r).2 := Nat.not_le.mp fun q => hin (Or.inr q)
  have hr := hM.lt (r := r) (by rw [hk]; decide)
  by_cases h2 : 2 ≤ r
  · have hc := (hM.2.2.2.2.2.2.2 r h2 hr).2.1 hk
    exact W.iald (v := .int (am_I M r i.toNatClampNeg)) hx hb hc ((hK.2 0 _ rfl).1 _ (fun j => .int (am_I M r j))) (fun q => by cases q) (by show ¬ (i < 0 ∨ (arrV _ _ _).slots.size ≤ _); rw [arrV_size]; exact hin) (by show (arrV _ _ _).slots[_]? = _; rw [arrV_read _ _ hlt]) rfl rfl hdg kk
  · have h0 : r = 0 := by
      rcases (show r = 0 ∨ r = 1 by omega) with h | h
      · exact h
      · rw [h, hM.2.2.2.2.2.1] at hk; cases hk
    subst h0
    rw [hM.2.2.2.1] at hin hlt
    obtain ⟨scr, g1, g2, g3, g4, g5⟩ := hX
    have e1 : am_I M 0 i.toNatClampNeg = am_gx G i.toNatClampNeg := hM.2.2.2.2.1 _ hlt
    rw [e1] at kk
    exact W.iald hx hb (a := am_gb G) (by rw [hM.2.2.2.2.2.2.1 _ hbz]; exact g1) g2 g3 (by rw [g4]; exact hin) (g5 _ hlt) rfl rfl hdg kk
theorem am_r_cald (hx : p.tables.exec = Jvm.exec) (hb : c.code = cc) (hK : am_Kn G s) (hM : am_Mm G M H) {r : Nat} {i : Int32} (hk : (am_K M r).1 = 4) (hin : ¬ (i < 0 ∨ (am_K M r).2 ≤ i.toNatClampNeg)) (hdg : decode cc pc = .ok (.caload, 1))
    (kk : W p l e R s m args below meth c H locs cells slots Q (F0 m (pc + 1) ls (.int (am_I M r i.toNatClampNeg) :: rest))) : W p l e R s m args below meth c H locs cells slots Q (F0 m pc ls (.int i :: .ref (am_ga G r) :: rest)) := by
  have hr := hM.lt (r := r) (by rw [hk]; decide)
  have h2 := hM.ge2 (r := r) (by rw [hk]; decide) (by rw [hk]; decide)
  have hc := (hM.2.2.2.2.2.2.2 r h2 hr).2.2.2.1 hk
  exact va_cald (ws := [(am_ga G r, .inl (am_gA G 4, (am_K M r).2, .inl (am_I M r)))]) (D := am_gD G) (cl := vwCl) hx hb hK (fun k q h => by
    have : k < 1 := (List.getElem?_eq_some_iff.mp h).1
    rw [show k = 0 by omega] at h
    cases h
    exact hc) 0 2 rfl rfl hin hdg kk
theorem am_r_lald (hx : p.tables.exec = Jvm.exec) (hb : c.code = cc) (hK : am_Kn G s) (hM : am_Mm G M H) {r : Nat} {i : Int32} (hk : (am_K M r).1 = 3) (hin : ¬ (i < 0 ∨ (am_K M r).2 ≤ i.toNatClampNeg)) (hdg : decode cc pc = .ok (.laload, 1))
    (kk : W p l e R s m args below meth c H locs cells slots Q (F0 m (pc + 1) ls (.long (am_L M r i.toNatClampNeg) :: rest))) : W p l e R s m args below meth c H locs cells slots Q (F0 m pc ls (.int i :: .ref (am_ga G r) :: rest)) := by
  have hr := hM.lt (r := r) (by rw [hk]; decide)
  have h2 := hM.ge2 (r := r) (by rw [hk]; decide) (by rw [hk]; decide)
  have hc := (hM.2.2.2.2.2.2.2 r h2 hr).2.2.1 hk
  exact va_lald (ws := [(am_ga G r, .inl (am_gA G 3, (am_K M r).2, .inr (.inl (am_L M r))))]) (D := am_gD G) (cl := vwCl) hx hb hK (fun k q h => by
    have : k < 1 := (List.getElem?_eq_some_iff.mp h).1
    rw [show k = 0 by omega] at h
    cases h
    exact hc) 0 1 rfl rfl hin hdg kk
theorem am_r_aald (hx : p.tables.exec = Jvm.exec) (hb : c.code = cc) (hK : am_Kn G s) (hM : am_Mm G M H) {r q : Nat} {i : Int32} (hk : (am_K M r).1 = 5 ∨ (am_K M r).1 = 6) (hin : ¬ (i < 0 ∨ (am_K M r).2 ≤ i.toNatClampNeg)) (hq : am_R M r i.toNatClampNeg = some q) (hdg : decode cc pc = .ok (.aaload, 1))
    (kk : W p l e R s m args below meth c H locs cells slots Q (F0 m (pc + 1) ls (.ref (am_ga G q) :: rest))) : W p l e R s m args below meth c H locs cells slots Q (F0 m pc ls (.int i :: .ref (am_ga G r) :: rest)) := by
  have hlt : i.toNatClampNeg < (am_K M r).2 := Nat.not_le.mp fun q => hin (Or.inr q)
  have hr := hM.lt (r := r) (by rcases hk with h | h <;> rw [h] <;> decide)
  have h2 := hM.ge2 (r := r) (by rcases hk with h | h <;> rw [h] <;> decide) (by rcases hk with h | h <;> rw [h] <;> decide)
  have hv : va_rf ((am_R M r i.toNatClampNeg).map (am_ga G)) = .ref (am_ga G q) := by rw [hq]; rfl
  rcases hk with hk | hk
  · have hc := (hM.2.2.2.2.2.2.2 r h2 hr).2.2.2.2.1 hk
    exact W.aald (v := .ref (am_ga G q)) (ty := .object RX0) hx hb hc ((hK.2 3 _ rfl).1 _ (fun j => va_rf ((am_R M r j).map (am_ga G)))) rfl (fun q => by cases q) (by show ¬ (i < 0 ∨ (arrV _ _ _).slots.size ≤ _); rw [arrV_size]; exact hin) (by show (arrV _ _ _).slots[_]? = _; rw [arrV_read _ _ hlt, hv]) rfl rfl hdg kk
  · have hc := (hM.2.2.2.2.2.2.2 r h2 hr).2.2.2.2.2 hk
    exact W.aald (v := .ref (am_ga G q)) (ty := .array .int) hx hb hc ((hK.2 4 _ rfl).1 _ (fun j => va_rf ((am_R M r j).map (am_ga G)))) rfl (fun q => by cases q) (by show ¬ (i < 0 ∨ (arrV _ _ _).slots.size ≤ _); rw [arrV_size]; exact hin) (by show (arrV _ _ _).slots[_]? = _; rw [arrV_read _ _ hlt, hv]) rfl rfl hdg kk
theorem am_r_alen (hx : p.tables.exec = Jvm.exec) (hb : c.code = cc) (hK : am_Kn G s) (hX : va_X (am_gb G) (am_gl G) (am_gx G) s (am_gH G)) (hbz : am_gb G < am_gz G) (hM : am_Mm G M H) {r : Nat} (hk : 2 ≤ (am_K M r).1 ∧ (am_K M r).1 ≤ 6) (hdg : decode cc pc = .ok (.arraylength, 1))
    (kk : W p l e R s m args below meth c H locs cells slots Q (F0 m (pc + 1) ls (.int (nI (am_K M r).2) :: rest))) : W p l e R s m args below meth c H locs cells slots Q (F0 m pc ls (.ref (am_ga G r) :: rest)) := by
  have hr := hM.lt (r := r) (by omega)
  by_cases h2 : 2 ≤ r
  · have ha := hM.2.2.2.2.2.2.2 r h2 hr
    have go : ∀ {cA : ClassId} {x : vp_A} {ty : FieldType} {t0 : Nat}, H[am_ga G r]? = some (vp_cell cA x) → (am_tys (am_gA G))[t0]? = some (cA, ty) → x.1 = (am_K M r).2 → W p l e R s m args below meth c H locs cells slots Q (F0 m pc ls (.ref (am_ga G r) :: rest)) := by
      intro cA x ty t0 hc ht hx1
      exact va_alen (ws := [(am_ga G r, .inl (cA, x))]) (D := am_gD G) (cl := vwCl) hx hb hK (fun k q h => by
        have : k < 1 := (List.getElem?_eq_some_iff.mp h).1
        rw [show k = 0 by omega] at h
        cases h
        exact hc) 0 t0 rfl ht (v := nI (am_K M r).2) (by rw [hx1]; rfl) hdg kk
    rcases (show (am_K M r).1 = 2 ∨ (am_K M r).1 = 3 ∨ (am_K M r).1 = 4 ∨ (am_K M r).1 = 5 ∨ (am_K M r).1 = 6 by omega) with h | h | h | h | h
    · exact go (ha.2.1 h) (t0 := 0) rfl rfl
    · exact go (ha.2.2.1 h) (t0 := 1) rfl rfl
    · exact go (ha.2.2.2.1 h) (t0 := 2) rfl rfl
    · exact go (ha.2.2.2.2.1 h) (t0 := 3) rfl rfl
    · exact go (ha.2.2.2.2.2 h) (t0 := 4) rfl rfl
  · have h0 : r = 0 := by
      rcases (show r = 0 ∨ r = 1 by omega) with h | h
      · exact h
      · rw [h, hM.2.2.2.2.2.1] at hk; exact absurd hk.1 (by decide)
    subst h0
    obtain ⟨scr, g1, g2, g3, g4, g5⟩ := hX
    rw [hM.2.2.2.1] at kk
    exact W.alen hx hb (a := am_gb G) (by rw [hM.2.2.2.2.2.2.1 _ hbz]; exact g1) g2 (n := nI (am_gl G)) (by rw [g4]; rfl) rfl rfl hdg kk
end AMR
end
section
/-! The rows of the kit, over the abstract memory: rows written, cells made. -/
theorem am_at_2 {D : va_G} {cA : Nat → ClassId} {ad : Nat → Nat} {M : am_M} {r : Nat} {H : Heap} (hk : (am_K M r).1 = 2) (h : H[ad r]? = some (vp_cell (cA 2) ((am_K M r).2, .inl (am_I M r)))) : am_at D cA ad M r H :=
  ⟨fun e => absurd (hk.symm.trans e) (by decide), fun _ => h, fun e => absurd (hk.symm.trans e) (by decide), fun e => absurd (hk.symm.trans e) (by decide), fun e => absurd (hk.symm.trans e) (by decide), fun e => absurd (hk.symm.trans e) (by decide)⟩
theorem am_at_3 {D : va_G} {cA : Nat → ClassId} {ad : Nat → Nat} {M : am_M} {r : Nat} {H : Heap} (hk : (am_K M r).1 = 3) (h : H[ad r]? = some (vp_cell (cA 3) ((am_K M r).2, .inr (.inl (am_L M r))))) : am_at D cA ad M r H :=
  ⟨fun e => absurd (hk.symm.trans e) (by decide), fun e => absurd (hk.symm.trans e) (by decide), fun _ => h, fun e => absurd (hk.symm.trans e) (by decide), fun e => absurd (hk.symm.trans e) (by decide), fun e => absurd (hk.symm.trans e) (by decide)⟩
theorem am_at_4 {D : va_G} {cA : Nat → ClassId} {ad : Nat → Nat} {M : am_M} {r : Nat} {H : Heap} (hk : (am_K M r).1 = 4) (h : H[ad r]? = some (vp_cell (cA 4) ((am_K M r).2, .inl (am_I M r)))) : am_at D cA ad M r H :=
  ⟨fun e => absurd (hk.symm.trans e) (by decide), fun e => absurd (hk.symm.trans e) (by decide), fun e => absurd (hk.symm.trans e) (by decide), fun _ => h, fun e => absurd (hk.symm.trans e) (by decide), fun e => absurd (hk.symm.trans e) (by decide)⟩
theorem am_at_5 {D : va_G} {cA : Nat → ClassId} {ad : Nat → Nat} {M : am_M} {r : Nat} {H : Heap} (hk : (am_K M r).1 = 5) (h : H[ad r]? = some (vp_cell (cA 5) ((am_K M r).2, .inr (.inr (.inr (.inr (fun j => (am_R M r j).map ad))))))) : am_at D cA ad M r H :=
  ⟨fun e => absurd (hk.symm.trans e) (by decide), fun e => absurd (hk.symm.trans e) (by decide), fun e => absurd (hk.symm.trans e) (by decide), fun e => absurd (hk.symm.trans e) (by decide), fun _ => h, fun e => absurd (hk.symm.trans e) (by decide)⟩
theorem am_at_6 {D : va_G} {cA : Nat → ClassId} {ad : Nat → Nat} {M : am_M} {r : Nat} {H : Heap} (hk : (am_K M r).1 = 6) (h : H[ad r]? = some (vp_cell (cA 6) ((am_K M r).2, .inr (.inr (.inr (.inr (fun j => (am_R M r j).map ad))))))) : am_at D cA ad M r H :=
  ⟨fun e => absurd (hk.symm.trans e) (by decide), fun e => absurd (hk.symm.trans e) (by decide), fun e => absurd (hk.symm.trans e) (by decide), fun e => absurd (hk.symm.trans e) (by decide), fun e => absurd (hk.symm.trans e) (by decide), fun _ => h⟩
theorem am_at_1 {D : va_G} {cA : Nat → ClassId} {ad : Nat → Nat} {M : am_M} {r a : Nat} {H : Heap} (hk : am_K M r = (1, a)) (h : t_OB (ad r) (D.1 a) (am_nf a) (D.2 a) H (am_fv ad M r a)) : am_at D cA ad M r H := by
  have hk1 : (am_K M r).1 = 1 := by rw [hk]
  refine ⟨fun _ => ?_, fun e => absurd (hk1.symm.trans e) (by decide), fun e => absurd (hk1.symm.trans e) (by decide), fun e => absurd (hk1.symm.trans e) (by decide), fun e => absurd (hk1.symm.trans e) (by decide), fun e => absurd (hk1.symm.trans e) (by decide)⟩
  rw [hk]
  exact h
/-- a field is written: what the memory tells then -/
theorem am_Mm.putI {G : am_G} {M : am_M} {H H1 : Heap} (h : am_Mm G M H) {r a b : Nat} {v : Int32} (hk : am_K M r = (1, a)) (hty : am_ft a b ≠ 2 ∧ am_ft a b ≠ 3) (hz : H1.size = H.size) (ho : ∀ q, q ≠ am_ga G r → H1[q]? = H[q]?) (hob : t_OB (am_ga G r) ((am_gD G).1 a) (am_nf a) ((am_gD G).2 a) H1 (updV (am_fv (am_ga G) M r a) b (.int v))) : am_Mm G (am_sI M r b v) H1 := by
  refine h.set (h.ge hk) hz ho rfl rfl (fun q hq => am_w_ne hq) (fun _ _ => rfl) (fun _ _ => rfl) (am_at_1 (a := a) hk (hob.to (fun j _ => ?_)))
  unfold updV
  by_cases hj : j = b
  · subst hj
    rw [if_pos rfl]
    have e : am_I (am_sI M r j v) r j = v := by show am_w _ _ _ _ _ _ = _; rw [am_w_eq, if_pos rfl]
    unfold am_fv
    rw [e]
    split
    · rename_i h2; exact absurd h2 hty.1
    · rename_i h2; exact absurd h2 hty.2
    · rfl
  · rw [if_neg hj]
    have e : am_I (am_sI M r b v) r j = am_I M r j := by show am_w _ _ _ _ _ _ = _; rw [am_w_eq, if_neg hj]
    unfold am_fv
    rw [e]
    rfl
theorem am_Mm.putL {G : am_G} {M : am_M} {H H1 : Heap} (h : am_Mm G M H) {r a b : Nat} {v : Int64} (hk : am_K M r = (1, a)) (hty : am_ft a b = 2) (hz : H1.size = H.size) (ho : ∀ q, q ≠ am_ga G r → H1[q]? = H[q]?) (hob : t_OB (am_ga G r) ((am_gD G).1 a) (am_nf a) ((am_gD G).2 a) H1 (updV (am_fv (am_ga G) M r a) b (.long v))) : am_Mm G (am_sL M r b v) H1 := by
  refine h.set (h.ge hk) hz ho rfl rfl (fun _ _ => rfl) (fun q hq => am_w_ne hq) (fun _ _ => rfl) (am_at_1 (a := a) hk (hob.to (fun j _ => ?_)))
  unfold updV
  by_cases hj : j = b
  · subst hj
    rw [if_pos rfl]
    have e : am_L (am_sL M r j v) r j = v := by show am_w _ _ _ _ _ _ = _; rw [am_w_eq, if_pos rfl]
    unfold am_fv
    rw [e, hty]
    rfl
  · rw [if_neg hj]
    have e : am_L (am_sL M r b v) r j = am_L M r j := by show am_w _ _ _ _ _ _ = _; rw [am_w_eq, if_neg hj]
    unfold am_fv
    rw [e]
    rfl
theorem am_Mm.putR {G : am_G} {M : am_M} {H H1 : Heap} (h : am_Mm G M H) {r a b v : Nat} (hk : am_K M r = (1, a)) (hty : am_ft a b = 3) (hz : H1.size = H.size) (ho : ∀ q, q ≠ am_ga G r → H1[q]? = H[q]?) (hob : t_OB (am_ga G r) ((am_gD G).1 a) (am_nf a) ((am_gD G).2 a) H1 (updV (am_fv (am_ga G) M r a) b (.ref (am_ga G v)))) : am_Mm G (am_sR M r b v) H1 := by
  refine h.set (h.ge hk) hz ho rfl rfl (fun _ _ => rfl) (fun _ _ => rfl) (fun q hq => am_w_ne hq) (am_at_1 (a := a) hk (hob.to (fun j _ => ?_)))
  unfold updV
  by_cases hj : j = b
  · subst hj
    rw [if_pos rfl]
    have e : am_R (am_sR M r j v) r j = some v := by show am_w _ _ _ _ _ _ = _; rw [am_w_eq, if_pos rfl]
    unfold am_fv
    rw [e, hty]
    rfl
  · rw [if_neg hj]
    have e : am_R (am_sR M r b v) r j = am_R M r j := by show am_w _ _ _ _ _ _ = _; rw [am_w_eq, if_neg hj]
    unfold am_fv
    rw [e]
    rfl
theorem am_Mm.rowI {G : am_G} {M : am_M} {H H1 : Heap} (h : am_Mm G M H) {r k : Nat} {v : Int32} (hr : 2 ≤ r) (hk : (am_K M r).1 = 2 ∨ (am_K M r).1 = 4) (hz : H1.size = H.size) (ho : ∀ q, q ≠ am_ga G r → H1[q]? = H[q]?)
    (hc : H1[am_ga G r]? = some ((arrV (am_gA G (am_K M r).1) (am_K M r).2 (fun j => .int (am_I M r j))).setSlot k (.int v))) : am_Mm G (am_sI M r k v) H1 := by
  have e : (arrV (am_gA G (am_K M r).1) (am_K M r).2 (fun j => .int (am_I M r j))).setSlot k (.int v) = vp_cell (am_gA G (am_K M r).1) ((am_K M r).2, .inl (am_I (am_sI M r k v) r)) := by
    rw [arrV_store, vp_cell_i]
    congr 1
    funext j
    show updV _ _ _ _ = Value.int (am_w _ _ _ _ _ _)
    rw [am_w_eq]
    unfold updV
    by_cases hj : j = k
    · rw [if_pos hj, if_pos hj]
    · rw [if_neg hj, if_neg hj]
  rw [e] at hc
  refine h.set hr hz ho rfl rfl (fun q hq => am_w_ne hq) (fun _ _ => rfl) (fun _ _ => rfl) ?_
  rcases hk with hk | hk
  · rw [hk] at hc
    exact am_at_2 hk hc
  · rw [hk] at hc
    exact am_at_4 hk hc
theorem am_Mm.rowL {G : am_G} {M : am_M} {H H1 : Heap} (h : am_Mm G M H) {r k : Nat} {v : Int64} (hr : 2 ≤ r) (hk : (am_K M r).1 = 3) (hz : H1.size = H.size) (ho : ∀ q, q ≠ am_ga G r → H1[q]? = H[q]?)
    (hc : H1[am_ga G r]? = some ((arrV (am_gA G 3) (am_K M r).2 (fun j => .long (am_L M r j))).setSlot k (.long v))) : am_Mm G (am_sL M r k v) H1 := by
  have e : (arrV (am_gA G 3) (am_K M r).2 (fun j => .long (am_L M r j))).setSlot k (.long v) = vp_cell (am_gA G 3) ((am_K M r).2, .inr (.inl (am_L (am_sL M r k v) r))) := by
    rw [arrV_store, vp_cell_l]
    congr 1
    funext j
    show updV _ _ _ _ = Value.long (am_w _ _ _ _ _ _)
    rw [am_w_eq]
    unfold updV
    by_cases hj : j = k
    · rw [if_pos hj, if_pos hj]
    · rw [if_neg hj, if_neg hj]
  rw [e] at hc
  exact h.set hr hz ho rfl rfl (fun _ _ => rfl) (fun q hq => am_w_ne hq) (fun _ _ => rfl) (am_at_3 hk hc)
theorem am_Mm.rowR {G : am_G} {M : am_M} {H H1 : Heap} (h : am_Mm G M H) {r k v : Nat} (hr : 2 ≤ r) (hk : (am_K M r).1 = 5) (hz : H1.size = H.size) (ho : ∀ q, q ≠ am_ga G r → H1[q]? = H[q]?)
    (hc : H1[am_ga G r]? = some ((arrV (am_gA G 5) (am_K M r).2 (fun j => va_rf ((am_R M r j).map (am_ga G)))).setSlot k (.ref (am_ga G v)))) : am_Mm G (am_sR M r k v) H1 := by
  have e : (arrV (am_gA G 5) (am_K M r).2 (fun j => va_rf ((am_R M r j).map (am_ga G)))).setSlot k (.ref (am_ga G v)) = vp_cell (am_gA G 5) ((am_K M r).2, .inr (.inr (.inr (.inr (fun j => (am_R (am_sR M r k v) r j).map (am_ga G)))))) := by
    rw [arrV_store, vp_cell_q]
    congr 1
    funext j
    show updV _ _ _ _ = va_rf (Option.map _ (am_w _ _ _ _ _ _))
    rw [am_w_eq]
    unfold updV
    by_cases hj : j = k
    · rw [if_pos hj, if_pos hj]; rfl
    · rw [if_neg hj, if_neg hj]
  rw [e] at hc
  exact h.set hr hz ho rfl rfl (fun _ _ => rfl) (fun _ _ => rfl) (fun q hq => am_w_ne hq) (am_at_5 hk hc)
/-- a cell is made -/
theorem am_Mm.new {G : am_G} {M : am_M} {H H1 : Heap} (h : am_Mm G M H) {q : Nat × Nat} {w : Nat} (hz : H1.size = H.size + 1) (ho : ∀ x, x < H.size → H1[x]? = H[x]?) (hat : am_at (am_gD G) (am_gA G) (am_ga G) (am_nw M q w) (am_n M) H1) : am_Mm G (am_nw M q w) H1 := by
  obtain ⟨h1, h2, h3, h4, h5, h6, h7, h8⟩ := h
  have hnk : ∀ r, r ≠ am_n M → am_K (am_nw M q w) r = am_K M r := fun r hr => if_neg hr
  have hni : ∀ r, r ≠ am_n M → am_I (am_nw M q w) r = am_I M r := fun r hr => funext fun k => if_neg hr
  have hnl : ∀ r, r ≠ am_n M → am_L (am_nw M q w) r = am_L M r := fun r hr => funext fun k => if_neg hr
  have hnr : ∀ r, r ≠ am_n M → am_R (am_nw M q w) r = am_R M r := fun r hr => funext fun k => if_neg hr
  have hn : am_n (am_nw M q w) = am_n M + 1 := rfl
  refine ⟨by rw [hz, hn]; omega, by rw [hn]; omega, fun r hr => ?_, ?_, fun j hj => ?_, ?_, fun x hx => ?_, fun r hr hrn => ?_⟩
  · rw [hn] at hr
    rw [hnk r (by omega)]
    exact h3 r (by omega)
  · rw [hnk 0 (by omega)]; exact h4
  · rw [hni 0 (by omega)]; exact h5 j hj
  · rw [hnk 1 (by omega)]; exact h6
  · rw [ho x (by omega)]; exact h7 x hx
  · rw [hn] at hrn
    by_cases e : r = am_n M
    · rw [e]; exact hat
    · refine (h8 r hr (by omega)).kept (ho _ ?_) (hnk r e) (hni r e) (hnl r e) (hnr r e)
      unfold am_ga
      rw [am_ad_ge hr]
      omega
theorem am_Mm.top {G : am_G} {M : am_M} {H : Heap} (h : am_Mm G M H) : am_ga G (am_n M) = H.size := by
  unfold am_ga
  rw [am_ad_ge h.2.1]
  have := h.1
  have := h.2.1
  omega
theorem am_nw_I {M : am_M} {q : Nat × Nat} {w : Nat} : am_I (am_nw M q w) (am_n M) = fun _ => 0 := funext fun _ => if_pos rfl
theorem am_nw_L {M : am_M} {q : Nat × Nat} {w : Nat} : am_L (am_nw M q w) (am_n M) = fun _ => 0 := funext fun _ => if_pos rfl
theorem am_nw_R {M : am_M} {q : Nat × Nat} {w : Nat} : am_R (am_nw M q w) (am_n M) = fun _ => none := funext fun _ => if_pos rfl
theorem am_nw_K {M : am_M} {q : Nat × Nat} {w : Nat} : am_K (am_nw M q w) (am_n M) = q := if_pos rfl
/-- the sorts of fields that there are -/
def am_ctf : FieldType → Bool
  | .int => true
  | .long => true
  | .boolean => true
  | .object _ => true
  | .array _ => true
  | _ => false
theorem am_ctf_ok : ∀ a, a < 7 → ∀ j, j < am_nf a → am_ctf (am_ty a j) = true := by decide +kernel
section AMR2
variable {p : Program} {l : Launch} {e : Env} {R : Room} {s : State} {m : MethodId} {args : Array Value} {below : List Frame} {meth : Method} {c : Code} {H : Heap} {locs : List Loc} {cells slots : Nat} {Q : State → Prop}
variable {cc : ByteArray} {pc : Nat} {ls : Array Slot} {rest : List Value} {G : am_G} {M : am_M} {own : String}
theorem am_r_iast (hx : p.tables.exec = Jvm.exec) (hb : c.code = cc) (hK : am_Kn G s) (hM : am_Mm G M H) (hlo : am_lo G locs) {r : Nat} {i x : Int32} (h2 : 2 ≤ r) (hk : (am_K M r).1 = 2) (hin : ¬ (i < 0 ∨ (am_K M r).2 ≤ i.toNatClampNeg)) (hdg : decode cc pc = .ok (.iastore, 1))
    (kk : ∀ (H1 : Heap) (locs1 : List Loc), am_Mm G (am_sI M r i.toNatClampNeg x) H1 → am_lo G locs1 → W p l e R s m args below meth c H1 locs1 cells slots Q (F0 m (pc + 1) ls rest)) : W p l e R s m args below meth c H locs cells slots Q (F0 m pc ls (.int x :: .int i :: .ref (am_ga G r) :: rest)) := by
  have hc := (hM.2.2.2.2.2.2.2 r h2 (hM.lt (by rw [hk]; decide))).2.1 hk
  refine W.iast hx hb hc ((hK.2 0 _ rfl).1 _ (fun j => .int (am_I M r j))) (fun q => by cases q) (by show ¬ (i < 0 ∨ (arrV _ _ _).slots.size ≤ _); rw [arrV_size]; exact hin) rfl rfl hdg fun H1 e z oq => ?_
  exact kk H1 _ (hM.rowI h2 (Or.inl hk) z oq (by rw [hk]; exact e)) (hlo.put h2)
theorem am_r_cast (hx : p.tables.exec = Jvm.exec) (hb : c.code = cc) (hK : am_Kn G s) (hM : am_Mm G M H) (hlo : am_lo G locs) {r : Nat} {i x : Int32} (h2 : 2 ≤ r) (hk : (am_K M r).1 = 4) (hin : ¬ (i < 0 ∨ (am_K M r).2 ≤ i.toNatClampNeg)) (hnar : vp_nar .char x = x) (hdg : decode cc pc = .ok (.castore, 1))
    (kk : ∀ (H1 : Heap) (locs1 : List Loc), am_Mm G (am_sI M r i.toNatClampNeg x) H1 → am_lo G locs1 → W p l e R s m args below meth c H1 locs1 cells slots Q (F0 m (pc + 1) ls rest)) : W p l e R s m args below meth c H locs cells slots Q (F0 m pc ls (.int x :: .int i :: .ref (am_ga G r) :: rest)) := by
  have hc := (hM.2.2.2.2.2.2.2 r h2 (hM.lt (by rw [hk]; decide))).2.2.2.1 hk
  refine W.cast hx hb hc ((hK.2 2 _ rfl).1 _ (fun j => .int (am_I M r j))) (fun q => by cases q) (by show ¬ (i < 0 ∨ (arrV _ _ _).slots.size ≤ _); rw [arrV_size]; exact hin) rfl rfl hdg fun H1 e z oq => ?_
  have hn : narrow .char (.int x) = .int x := by
    have : narrow .char (.int x) = .int (vp_nar .char x) := rfl
    rw [this, hnar]
  rw [hn] at e
  exact kk H1 _ (hM.rowI h2 (Or.inr hk) z oq (by rw [hk]; exact e)) (hlo.put h2)
theorem am_r_last (hx : p.tables.exec = Jvm.exec) (hb : c.code = cc) (hK : am_Kn G s) (hM : am_Mm G M H) (hlo : am_lo G locs) {r : Nat} {i : Int32} {x : Int64} (h2 : 2 ≤ r) (hk : (am_K M r).1 = 3) (hin : ¬ (i < 0 ∨ (am_K M r).2 ≤ i.toNatClampNeg)) (hdg : decode cc pc = .ok (.lastore, 1))
    (kk : ∀ (H1 : Heap) (locs1 : List Loc), am_Mm G (am_sL M r i.toNatClampNeg x) H1 → am_lo G locs1 → W p l e R s m args below meth c H1 locs1 cells slots Q (F0 m (pc + 1) ls rest)) : W p l e R s m args below meth c H locs cells slots Q (F0 m pc ls (.long x :: .int i :: .ref (am_ga G r) :: rest)) := by
  have hc := (hM.2.2.2.2.2.2.2 r h2 (hM.lt (by rw [hk]; decide))).2.2.1 hk
  refine W.last hx hb hc ((hK.2 1 _ rfl).1 _ (fun j => .long (am_L M r j))) (fun q => by cases q) (by show ¬ (i < 0 ∨ (arrV _ _ _).slots.size ≤ _); rw [arrV_size]; exact hin) rfl rfl hdg fun H1 e z oq => ?_
  exact kk H1 _ (hM.rowL h2 hk z oq e) (hlo.put h2)
theorem am_r_aast (hx : p.tables.exec = Jvm.exec) (hb : c.code = cc) (hK : am_Kn G s) (hM : am_Mm G M H) (hlo : am_lo G locs) {r v : Nat} {i : Int32} (h2 : 2 ≤ r) (hk : (am_K M r).1 = 5) (hin : ¬ (i < 0 ∨ (am_K M r).2 ≤ i.toNatClampNeg)) (hv : am_K M v = (1, 0)) (hdg : decode cc pc = .ok (.aastore, 1))
    (kk : ∀ (H1 : Heap) (locs1 : List Loc), am_Mm G (am_sR M r i.toNatClampNeg v) H1 → am_lo G locs1 → W p l e R s m args below meth c H1 locs1 cells slots Q (F0 m (pc + 1) ls rest)) : W p l e R s m args below meth c H locs cells slots Q (F0 m pc ls (.ref (am_ga G v) :: .int i :: .ref (am_ga G r) :: rest)) := by
  have hlt : i.toNatClampNeg < (am_K M r).2 := Nat.not_le.mp fun q => hin (Or.inr q)
  have h0 : ¬ i < 0 := fun q => hin (Or.inl q)
  have hc := (hM.2.2.2.2.2.2.2 r h2 (hM.lt (by rw [hk]; decide))).2.2.2.2.1 hk
  obtain ⟨cellV, g1, g2, g3, -⟩ := (hM.2.2.2.2.2.2.2 v (hM.ge hv) (hM.lt (by rw [hv]; exact Nat.one_ne_zero))).1 (by rw [hv])
  rw [hv] at g2
  have hcls := (hK.1 0 _ (am_cl_at 0 (by decide))).2
  obtain ⟨kA, comp, k1, k2, k3, -⟩ := (hK.2 3 _ rfl).2
  have hcomp : comp = (am_gD G).1 0 := Option.some.inj (k3.symm.trans hcls.1)
  subst hcomp
  obtain ⟨kC, hkC, -⟩ := hcls.2
  refine W.aast hx hb hc (fun q h => by cases h) (fun h => by cases h) k1 k2 rfl hkC ⟨h0, by show _ < (arrV _ _ _).slots.size; rw [arrV_size]; exact hlt⟩ g1 (fun q h => by rw [g3] at h; cases h) (by rw [g2]; exact hkC) (by rw [g2]; exact va_assign hcls) rfl rfl hdg fun H1 e z oq => ?_
  exact kk H1 _ (hM.rowR h2 hk z oq e) (hlo.put h2)
theorem am_r_new (hx : p.tables.exec = Jvm.exec) (hb : c.code = cc) (hts : ∀ w ∈ am_W, w.before args s = true) (hown : s.vm.findClass own = some m.cls) (hK : am_Kn G s) (hM : am_Mm G M H) {a index : Nat} (ha : a < 7) (hcl : Cond.classLink own index (am_cR a) ∈ am_W) (hin : Cond.instantiable (am_cR a) (am_nf a) ∈ am_W) (hini : Cond.initialized (am_cR a) ∈ am_W) (hcells : cells + 1 ≤ R.cells) (hslots : slots + am_nf a ≤ R.slots) (hdg : decode cc pc = .ok (.new index, 3))
    (kk : ∀ (H1 : Heap), am_Mm G (am_nw M (1, a) (am_nf a)) H1 → W p l e R s m args below meth c H1 locs (cells + 1) (slots + am_nf a) Q (F0 m (pc + 3) ls (.ref (am_ga G (am_n M)) :: rest))) : W p l e R s m args below meth c H locs cells slots Q (F0 m pc ls rest) := by
  have hKn := hK.1 a _ (am_cl_at a ha)
  refine W.newcK hx hb hown (hts _ hcl) (hts _ hin) (hts _ hini) rfl hdg hcells hslots hKn.2.1 rfl fun H1 kC hkC e1 z1 o1 => ?_
  have hob := u_born (am_ty a) hts (am_cin a ha) hKn hkC e1 (am_cty a ha)
  have kk1 := kk H1 (hM.new z1 o1 (am_at_1 (a := a) am_nw_K (by
    rw [hM.top]
    refine hob.to (fun j hj => ?_)
    unfold am_fv
    rw [am_nw_I, am_nw_L, am_nw_R]
    show defaultValue (am_ty a j) = _
    unfold am_ft
    have hok := am_ctf_ok a ha j hj
    generalize am_ty a j = t at hok
    cases t <;> first | rfl | cases hok)))
  rw [hM.top] at kk1
  exact kk1
theorem am_r_newa (hx : p.tables.exec = Jvm.exec) (hb : c.code = cc) (hts : ∀ w ∈ am_W, w.before args s = true) (hK : am_Kn G s) (hM : am_Mm G M H) {at_ : ArrayType} {g : Nat} (hg : (at_ = .int ∧ g = 2) ∨ (at_ = .long ∧ g = 3) ∨ (at_ = .char ∧ g = 4)) (hw : Cond.arrayClass (newarray.typeOf at_) ∈ am_W) {n : Int32} (hn : ¬ (n < 0 ∨ 65536 < n.toNatClampNeg)) (hcells : cells + 1 ≤ R.cells) (hslots : slots + n.toNatClampNeg ≤ R.slots) (hdg : decode cc pc = .ok (.newarray at_, 2))
    (kk : ∀ (H1 : Heap), am_Mm G (am_nw M (g, n.toNatClampNeg) n.toNatClampNeg) H1 → W p l e R s m args below meth c H1 locs (cells + 1) (slots + n.toNatClampNeg) Q (F0 m (pc + 2) ls (.ref (am_ga G (am_n M)) :: rest))) : W p l e R s m args below meth c H locs cells slots Q (F0 m pc ls (.int n :: rest)) := by
  have h0 : ¬ n < 0 := fun h => hn (Or.inl h)
  have h1 : n.toNatClampNeg ≤ 65536 := Nat.not_lt.mp fun h => hn (Or.inr h)
  rw [hM.top] at kk
  have hbyt : n.toNatClampNeg * componentBytes (newarray.typeOf at_) ≤ 536870912 := by
    have : componentBytes (newarray.typeOf at_) ≤ 8 := by cases at_ <;> decide
    calc n.toNatClampNeg * componentBytes (newarray.typeOf at_) ≤ 65536 * 8 := Nat.mul_le_mul h1 this
      _ ≤ 536870912 := by decide
  refine va_newaK hx hb (hts _ hw) rfl hdg rfl h0 rfl hbyt hcells hslots rfl fun H1 cA e1 z1 o1 hAr hNm => ?_
  refine kk H1 (hM.new z1 o1 ?_)
  rcases hg with ⟨rfl, rfl⟩ | ⟨rfl, rfl⟩ | ⟨rfl, rfl⟩
  · have hc : am_gA G 2 = cA := Option.some.inj ((show s.vm.findClass _ = some (am_gA G 2) from (hK.2 0 _ rfl).2).symm.trans hNm)
    refine am_at_2 (by rw [am_nw_K]) ?_
    rw [hM.top, am_nw_K, am_nw_I, hc]
    exact e1
  · have hc : am_gA G 3 = cA := Option.some.inj ((show s.vm.findClass _ = some (am_gA G 3) from (hK.2 1 _ rfl).2).symm.trans hNm)
    refine am_at_3 (by rw [am_nw_K]) ?_
    rw [hM.top, am_nw_K, am_nw_L, hc]
    exact e1
  · have hc : am_gA G 4 = cA := Option.some.inj ((show s.vm.findClass _ = some (am_gA G 4) from (hK.2 2 _ rfl).2).symm.trans hNm)
    refine am_at_4 (by rw [am_nw_K]) ?_
    rw [hM.top, am_nw_K, am_nw_I, hc]
    exact e1
theorem am_r_anew (hx : p.tables.exec = Jvm.exec) (hb : c.code = cc) (hts : ∀ w ∈ am_W, w.before args s = true) (hown : s.vm.findClass own = some m.cls) (hK : am_Kn G s) (hM : am_Mm G M H) {index : Nat} (hcl : Cond.classLink own index RX0 ∈ am_W) (hov : va_AO RX0 s) {n : Int32} (hn : ¬ (n < 0 ∨ 65536 < n.toNatClampNeg)) (hcells : cells + 1 ≤ R.cells) (hslots : slots + n.toNatClampNeg ≤ R.slots) (hdg : decode cc pc = .ok (.anewarray index, 3))
    (kk : ∀ (H1 : Heap), am_Mm G (am_nw M (5, n.toNatClampNeg) n.toNatClampNeg) H1 → W p l e R s m args below meth c H1 locs (cells + 1) (slots + n.toNatClampNeg) Q (F0 m (pc + 3) ls (.ref (am_ga G (am_n M)) :: rest))) : W p l e R s m args below meth c H locs cells slots Q (F0 m pc ls (.int n :: rest)) := by
  have h0 : ¬ n < 0 := fun h => hn (Or.inl h)
  have h1 : n.toNatClampNeg ≤ 65536 := Nat.not_lt.mp fun h => hn (Or.inr h)
  rw [hM.top] at kk
  refine W.anew hx hb hown (hts _ hcl) (va_AO.use hov) rfl hdg rfl h0 (by omega) hcells hslots fun cA kA comp f1 f2 f3 f4 => ?_
  generalize hH1 : H.push ({ cls := cA, slots := Array.replicate n.toNatClampNeg .null, vm := .none } : Cell) = H1
  have z1 : H1.size = H.size + 1 := by rw [← hH1, Array.size_push]
  have e1 : H1[H.size]? = some (arrV cA n.toNatClampNeg (fun _ => .null)) := by rw [← hH1, Array.getElem?_push_size, ← arrV_new]
  have o1 : ∀ q : Nat, q < H.size → H1[q]? = H[q]? := fun q hq => by rw [← hH1, Array.getElem?_push, if_neg (Nat.ne_of_lt hq)]
  refine kk H1 (hM.new z1 o1 (am_at_5 (by rw [am_nw_K]) ?_))
  have hc : am_gA G 5 = cA := by
    obtain ⟨_, _, -, -, -, k4⟩ := (hK.2 3 _ rfl).2
    exact Option.some.inj (k4.symm.trans f1)
  rw [hM.top, am_nw_K, am_nw_R, hc]
  exact e1
end AMR2
end
section
/-! The rows of the kit, over the abstract memory: rows of rows made, a stretch copied. -/
theorem am_outer (c : ClassId) (N h0 : Nat) : ∀ i : Nat, Jvm.Free.Multi.outerC c N h0 i = arrV c N (fun j => va_rf (if j < i then some (h0 + 1 + j) else none))
  | 0 => by
    show ({ cls := c, slots := Array.replicate N .null, vm := .none } : Cell) = _
    rw [arrV_new]
    refine congrArg (arrV c N) (funext fun j => ?_)
    simp [va_rf]
  | i + 1 => by
    show (Jvm.Free.Multi.outerC c N h0 i).setSlot i (.ref (h0 + 1 + i)) = _
    rw [am_outer c N h0 i, arrV_store]
    refine congrArg (arrV c N) (funext fun j => ?_)
    by_cases e : j = i
    · subst e
      simp [updV, va_rf]
    · by_cases h : j < i
      · simp [updV, e, h, Nat.lt_succ_of_lt h]
      · simp [updV, e, h, show ¬ j < i + 1 by omega]
theorem am_Mm.newm {G : am_G} {M : am_M} {H H1 : Heap} (h : am_Mm G M H) {n k : Nat} (hz : H1.size = H.size + 1 + n) (ho : ∀ x, x < H.size → H1[x]? = H[x]?)
    (hout : H1[H.size]? = some (arrV (am_gA G 6) n (fun j => va_rf (if j < n then some (H.size + 1 + j) else none)))) (hinn : ∀ j, j < n → H1[H.size + 1 + j]? = some (arrV (am_gA G 2) k (fun _ => .int 0))) : am_Mm G (am_nm M n k) H1 := by
  have htop := h.top
  obtain ⟨h1, h2, h3, h4, h5, h6, h7, h8⟩ := h
  have hnk : ∀ r, r < am_n M → am_K (am_nm M n k) r = am_K M r := fun r hr => by
    show (if r = am_n M then _ else if _ then _ else am_K M r) = _
    rw [if_neg (by omega), if_neg (by omega)]
  have hni : ∀ r, r < am_n M → am_I (am_nm M n k) r = am_I M r := fun r hr => funext fun j => if_neg (by omega)
  have hnl : ∀ r, r < am_n M → am_L (am_nm M n k) r = am_L M r := fun r hr => funext fun j => if_neg (by omega)
  have hnr : ∀ r, r < am_n M → am_R (am_nm M n k) r = am_R M r := fun r hr => funext fun j => by
    show (if r = am_n M then _ else if _ then _ else am_R M r j) = _
    rw [if_neg (by omega), if_neg (by omega)]
  have hn : am_n (am_nm M n k) = am_n M + 1 + n := rfl
  refine ⟨by rw [hz, hn]; omega, by rw [hn]; omega, fun r hr => ?_, ?_, fun j hj => ?_, ?_, fun x hx => ?_, fun r hr hrn => ?_⟩
  · rw [hn] at hr
    show ((if r = am_n M then (6, n) else if am_n M < r ∧ r < am_n M + 1 + n then (2, k) else am_K M r) : Nat × Nat).1 = 0
    rw [if_neg (by omega), if_neg (by omega)]
    exact h3 r (by omega)
  · rw [hnk 0 (by omega)]; exact h4
  · rw [hni 0 (by omega)]; exact h5 j hj
  · rw [hnk 1 (by omega)]; exact h6
  · rw [ho x (by omega)]; exact h7 x hx
  · rw [hn] at hrn
    have hg : am_ga G r = am_gz G + (r - 2) := by unfold am_ga; rw [am_ad_ge hr]
    by_cases e : r < am_n M
    · exact (h8 r hr e).kept (ho _ (by omega)) (hnk r e) (hni r e) (hnl r e) (hnr r e)
    · by_cases e2 : r = am_n M
      · subst e2
        have hk6 : am_K (am_nm M n k) (am_n M) = (6, n) := if_pos rfl
        refine am_at_6 (by rw [hk6]) ?_
        rw [htop, hk6, hout]
        have hR : ∀ j, am_R (am_nm M n k) (am_n M) j = if j < n then some (am_n M + 1 + j) else none := fun j => if_pos rfl
        rw [vp_cell_q]
        refine congrArg some (congrArg (arrV _ n) (funext fun j => ?_))
        show va_rf _ = va_rf (Option.map _ (am_R (am_nm M n k) (am_n M) j))
        rw [hR]
        by_cases hj : j < n
        · rw [if_pos hj, if_pos hj]
          have : am_ga G (am_n M + 1 + j) = H.size + 1 + j := by unfold am_ga; rw [am_ad_ge (by omega)]; omega
          rw [Option.map_some, this]
        · rw [if_neg hj, if_neg hj]; rfl
      · have hk2 : am_K (am_nm M n k) r = (2, k) := by
          show (if r = am_n M then _ else if _ then _ else am_K M r) = _
          rw [if_neg e2, if_pos (by omega)]
        refine am_at_2 (by rw [hk2]) ?_
        have hI : am_I (am_nm M n k) r = fun _ => 0 := funext fun j => if_pos (by omega)
        rw [hk2, hI, vp_cell_i, hg, show am_gz G + (r - 2) = H.size + 1 + (r - am_n M - 1) by omega]
        exact hinn _ (by omega)
theorem am_Mm.copy {G : am_G} {M : am_M} {H H1 : Heap} (h : am_Mm G M H) {r q sp dp n : Nat} (hq : 2 ≤ q) (hk : (am_K M q).1 = 2) (hne : r ≠ q) (hz : H1.size = H.size) (ho : ∀ x, x ≠ am_ga G q → H1[x]? = H[x]?)
    (hc : H1[am_ga G q]? = some (vp_cell (am_gA G 2) ((am_K M q).2, .inl (va_cpy (am_I M r) (am_I M q) sp dp n)))) : am_Mm G (am_cp M r sp q dp n) H1 := by
  refine h.set hq hz ho rfl rfl (fun x hx => ?_) (fun _ _ => rfl) (fun _ _ => rfl) ?_
  · funext k
    show (if x = q ∧ _ then _ else am_I M x k) = _
    rw [if_neg (fun z => hx z.1)]
  · refine am_at_2 hk ?_
    have e : am_I (am_cp M r sp q dp n) q = va_cpy (am_I M r) (am_I M q) sp dp n := by
      funext k
      show (if q = q ∧ dp ≤ k ∧ k < dp + n then _ else am_I M q k) = if dp ≤ k ∧ k < dp + n then _ else _
      by_cases hk : dp ≤ k ∧ k < dp + n
      · rw [if_pos ⟨rfl, hk⟩, if_pos hk]
      · rw [if_neg (fun z => hk z.2), if_neg hk]
    rw [e]
    exact hc
section AMR3
variable {p : Program} {l : Launch} {e : Env} {R : Room} {s : State} {m : MethodId} {args : Array Value} {below : List Frame} {meth : Method} {c : Code} {H : Heap} {locs : List Loc} {cells slots : Nat} {Q : State → Prop}
variable {cc : ByteArray} {pc : Nat} {ls : Array Slot} {rest : List Value} {G : am_G} {M : am_M} {own : String}
theorem am_r_mna (hx : p.tables.exec = Jvm.exec) (hb : c.code = cc) (hts : ∀ w ∈ am_W, w.before args s = true) (hown : s.vm.findClass own = some m.cls) (hK : am_Kn G s) (hM : am_Mm G M H) {index : Nat} (hcl : Cond.classLink own index ("[" ++ (FieldType.array .int).toString) ∈ am_W) (hov : am_AOA s) (har : Cond.arrayClass .int ∈ am_W) {n k : Int32} (hn : ¬ (n < 0 ∨ 65536 < n.toNatClampNeg ∨ k < 0 ∨ 65536 < k.toNatClampNeg))
    (hcells : cells + (1 + n.toNatClampNeg) ≤ R.cells) (hslots : slots + (n.toNatClampNeg + n.toNatClampNeg * k.toNatClampNeg) ≤ R.slots) (hdg : decode cc pc = .ok (.multianewarray index 2, 4))
    (kk : ∀ (H1 : Heap), am_Mm G (am_nm M n.toNatClampNeg k.toNatClampNeg) H1 → W p l e R s m args below meth c H1 locs (cells + 1 + n.toNatClampNeg) (slots + n.toNatClampNeg + n.toNatClampNeg * k.toNatClampNeg) Q (F0 m (pc + 4) ls (.ref (am_ga G (am_n M)) :: rest))) : W p l e R s m args below meth c H locs cells slots Q (F0 m pc ls (.int k :: .int n :: rest)) := by
  have n0 : ¬ n < 0 := fun h => hn (Or.inl h)
  have n1 : n.toNatClampNeg ≤ 65536 := Nat.not_lt.mp fun h => hn (Or.inr (Or.inl h))
  have k0 : ¬ k < 0 := fun h => hn (Or.inr (Or.inr (Or.inl h)))
  have k1 : k.toNatClampNeg ≤ 65536 := Nat.not_lt.mp fun h => hn (Or.inr (Or.inr (Or.inr h)))
  rw [hM.top] at kk
  intro T hT X
  have hb4 : componentBytes .int = 4 := rfl
  obtain ⟨vm₁, cA, comp, -, fA, fC, hO, -, X', step⟩ := X.multianewarray2F hx hown (hts _ hcl) (show (Cond.arrayOver (.array .int)).before args s = true from hov) (hts _ har) (g := F0 m pc ls (.int k :: .int n :: rest)) rfl (by rw [hb]; exact hdg) rfl n0 k0 (by omega) (by rw [hb4]; omega) (by omega) rfl rfl hcells hslots
  have ec : am_gA G 2 = comp := Option.some.inj ((show s.vm.findClass _ = some (am_gA G 2) from (hK.2 0 _ rfl).2).symm.trans fC)
  have ea : am_gA G 6 = cA := Option.some.inj ((show s.vm.findClass _ = some (am_gA G 6) from (hK.2 4 _ rfl).2).symm.trans fA)
  have hTh : (T.setVm vm₁).heap = H := hT
  generalize hF : Jvm.Free.Multi.fill (T.setVm vm₁) cA comp n.toNatClampNeg k.toNatClampNeg (defaultValue .int) n.toNatClampNeg = F at X' step
  obtain ⟨f1, f2, -, -⟩ := Jvm.Free.Multi.fill_facts (T.setVm vm₁) cA comp n.toNatClampNeg k.toNatClampNeg (defaultValue .int) n.toNatClampNeg
  rw [hF, hTh] at f1 f2
  have hold : ∀ x : Nat, x < H.size → F.heap[x]? = H[x]? := fun x hx => by
    have := Jvm.Free.Multi.fill_old (T.setVm vm₁) cA comp n.toNatClampNeg k.toNatClampNeg (defaultValue .int) (a := x) (by rw [hTh]; exact hx) n.toNatClampNeg
    rw [hF, hTh] at this
    exact this
  have hrow : ∀ j : Nat, j < n.toNatClampNeg → F.heap[H.size + 1 + j]? = some (arrV (am_gA G 2) k.toNatClampNeg (fun _ => .int 0)) := fun j hj => by
    have := Jvm.Free.Multi.fill_inner (T.setVm vm₁) cA comp n.toNatClampNeg k.toNatClampNeg (defaultValue .int) n.toNatClampNeg j hj
    rw [hF, hTh] at this
    rw [this, ec]
    exact congrArg some (arrV_new _ _ _)
  rw [am_outer, ← ea] at f2
  obtain ⟨t, a1, b1⟩ := kk F.heap (hM.newm f1 hold f2 hrow) F rfl X'
  refine ⟨t, step t ?_, b1⟩
  have e : T.heap.size = H.size := by rw [hT]
  rw [e]
  exact a1
theorem am_r_copy (hx : p.tables.exec = Jvm.exec) (hb : c.code = cc) (hml : c.maxLocals = ls.size) (hts : ∀ w ∈ am_W, w.before args s = true) (hown : s.vm.findClass own = some m.cls) (hK : am_Kn G s) (hM : am_Mm G M H) (hlo : am_lo G locs) {index : Nat} (hlink : Cond.methodLink own index arraycopyName ∈ am_W) (hnat : Cond.native arraycopyName ∈ am_W) (hstat : Cond.static arraycopyName ∈ am_W) (hini : Cond.initialized "java/lang/System" ∈ am_W)
    {r q : Nat} {sp dp n : Int32} (hr : 2 ≤ r) (hq : 2 ≤ q) (hne : r ≠ q) (hkr : (am_K M r).1 = 2) (hkq : (am_K M q).1 = 2) (h3 : ¬ n < 0) (h2 : ¬ dp < 0) (h1 : ¬ sp < 0) (h4 : sp.toNatClampNeg + n.toNatClampNeg ≤ (am_K M r).2) (h5 : dp.toNatClampNeg + n.toNatClampNeg ≤ (am_K M q).2)
    (hframes : 1 ≤ R.frames) (hlocals : (rest.map fun v => v.category).sum + (nativeFrameWords "java/lang/System" "arraycopy" 5 + 11) ≤ R.locals) (hdg : decode cc pc = .ok (.invokestatic index, 3))
    (kk : ∀ (H1 : Heap) (locs1 : List Loc), am_Mm G (am_cp M r sp.toNatClampNeg q dp.toNatClampNeg n.toNatClampNeg) H1 → am_lo G locs1 → W p l e R s m args below meth c H1 locs1 cells slots Q (F0 m (pc + 3) ls rest)) : W p l e R s m args below meth c H locs cells slots Q (F0 m pc ls (.int n :: .int dp :: .ref (am_ga G q) :: .int sp :: .ref (am_ga G r) :: rest)) := by
  have nn : ∀ z : Int32, ¬ z < 0 → z.toInt = (z.toNatClampNeg : Int) := by
    intro z hz
    have hz0 : (0 : Int) ≤ z.toInt := by
      have := Int32.not_lt.mp hz
      simpa using Int32.le_iff_toInt_le.mp this
    show z.toInt = ((z.toInt.toNat : Nat) : Int)
    omega
  intro T hT X
  have hc0 := (hM.2.2.2.2.2.2.2 r hr (hM.lt (by rw [hkr]; decide))).2.1 hkr
  have hc1 := (hM.2.2.2.2.2.2.2 q hq (hM.lt (by rw [hkq]; decide))).2.1 hkq
  generalize (am_K M r).2 = n0 at hc0 h4
  generalize hn1 : (am_K M q).2 = n1 at hc1 h5
  generalize hff : am_I M r = f at hc0
  generalize hgg : am_I M q = g at hc1
  obtain ⟨-, k0, hk0, cm0, hkk0⟩ := (hK.2 0 _ rfl).1 n0 (fun j => .int (f j))
  obtain ⟨-, k1, hk1, cm1, hkk1⟩ := (hK.2 0 _ rfl).1 n1 (fun j => .int (g j))
  obtain ⟨vm', X', step⟩ := X.arraycopy hx hown (hts _ hlink) (hts _ hnat) (hts _ hstat) (hts _ hini) (src := am_ga G r) (dst := am_ga G q) (cs := vp_cell (am_gA G 2) (n0, .inl f)) (cd := vp_cell (am_gA G 2) (n1, .inl g)) (srcPos := sp) (destPos := dp) (n := n) (by rw [hT]; exact hc0) (by rw [hT]; exact hc1)
    (fun _ h => by cases h) (fun _ h => by cases h) (fun h => by cases h) (fun h => by cases h) hk0 hk1 hkk0 hkk1 (by rfl) h1 h2 h3
    (by rw [nn sp h1, nn n h3]; show ¬ _ > ((arrV _ n0 (fun j => .int (f j))).slots.size : Int); rw [arrV_size]; omega)
    (by rw [nn dp h2, nn n h3]; show ¬ _ > ((arrV _ n1 (fun j => .int (g j))).slots.size : Int); rw [arrV_size]; omega)
    (fun vm₁ _ i hi => by
      have e : (vp_cell (am_gA G 2) (n0, .inl f)).slots.getD (sp.toNatClampNeg + i) .null = .int (f (sp.toNatClampNeg + i)) := by
        show (arrV _ n0 (fun j => .int (f j))).slots.getD _ _ = _
        rw [Array.getD_eq_getD_getElem?, arrV_read _ _ (by omega)]
        rfl
      refine ⟨?_, ?_⟩
      · rw [e]
        rfl
      · rw [e]
        exact trivial)
    (g := F0 m pc ls (.int n :: .int dp :: .ref (am_ga G q) :: .int sp :: .ref (am_ga G r) :: rest)) rfl (by rw [hml]) (rest := rest) rfl (by rw [hb]; exact hdg) hframes (by show 2 * 0 + _ + _ ≤ _; omega)
  have e1 : copied (vp_cell (am_gA G 2) (n0, .inl f)) (vp_cell (am_gA G 2) (n1, .inl g)) sp dp n = vp_cell (am_gA G 2) (n1, .inl (va_cpy f g sp.toNatClampNeg dp.toNatClampNeg n.toNatClampNeg)) := va_copied (fun z => .int z) _ _ f g h4
  rw [e1] at X' step
  have hl : am_ga G q < H.size := (Array.getElem?_eq_some_iff.mp hc1).1
  generalize hcell : vp_cell (am_gA G 2) (n1, .inl (va_cpy f g sp.toNatClampNeg dp.toNatClampNeg n.toNatClampNeg)) = cell at X' step
  have hheap : ((T.setVm vm').setCell (am_ga G q) cell).heap = H.setIfInBounds (am_ga G q) cell := by rw [← hT]; rfl
  have oq : ∀ x : Nat, x ≠ am_ga G q → (H.setIfInBounds (am_ga G q) cell)[x]? = H[x]? := fun x hx => by simp [Array.getElem?_setIfInBounds, Ne.symm hx]
  obtain ⟨t, a1, b1⟩ := kk _ _ (hM.copy (r := r) (sp := sp.toNatClampNeg) (dp := dp.toNatClampNeg) (n := n.toNatClampNeg) hq hkq hne (by simp) oq (by
      rw [hff, hgg, hn1, hcell]
      simp [Array.getElem?_setIfInBounds, hl])) (fun x hx => by
    rcases List.mem_append.mp hx with h | h
    · exact hlo x h
    · obtain ⟨z, -, hz⟩ := List.mem_map.mp h
      rw [← hz]
      show am_gz G ≤ am_ga G q
      unfold am_ga
      rw [am_ad_ge hq]
      omega) _ hheap X'
  exact ⟨t, step t a1, b1⟩
end AMR3
end
section
/-! What a step has done, read backwards; what is made is never less. -/
theorem am_tI_of {st : List Value} {f : Int32 → List Value → am_Q} {r : Option Value × am_M} (h : am_tI st f none = some r) : ∃ x t, st = .int x :: t ∧ f x t = some r := by
  unfold am_tI at h
  split at h
  · exact ⟨_, _, rfl, h⟩
  · cases h
theorem am_tL_of {st : List Value} {f : Int64 → List Value → am_Q} {r : Option Value × am_M} (h : am_tL st f none = some r) : ∃ x t, st = .long x :: t ∧ f x t = some r := by
  unfold am_tL at h
  split at h
  · exact ⟨_, _, rfl, h⟩
  · cases h
theorem am_tR_of {st : List Value} {f : Nat → List Value → am_Q} {r : Option Value × am_M} (h : am_tR st f none = some r) : ∃ x t, st = .ref x :: t ∧ f x t = some r := by
  unfold am_tR at h
  split at h
  · exact ⟨_, _, rfl, h⟩
  · cases h
theorem am_xI_of {w : Value} {f : Int32 → am_Q} {r : Option Value × am_M} (h : am_xI w f none = some r) : ∃ x, w = .int x ∧ f x = some r := by
  unfold am_xI at h
  split at h
  · exact ⟨_, rfl, h⟩
  · cases h
theorem am_xL_of {w : Value} {f : Int64 → am_Q} {r : Option Value × am_M} (h : am_xL w f none = some r) : ∃ x, w = .long x ∧ f x = some r := by
  unfold am_xL at h
  split at h
  · exact ⟨_, rfl, h⟩
  · cases h
theorem am_xR_of {w : Value} {f : Nat → am_Q} {r : Option Value × am_M} (h : am_xR w f none = some r) : ∃ x, w = .ref x ∧ f x = some r := by
  unfold am_xR at h
  split at h
  · exact ⟨_, rfl, h⟩
  · cases h
theorem am_e0_of {st : List Value} {f : am_Q} {r : Option Value × am_M} (h : am_e0 st f none = some r) : st = [] ∧ f = some r := by
  unfold am_e0 at h
  split at h
  · exact ⟨rfl, h⟩
  · cases h
theorem am_gr_of {o : Option Nat} {f : Nat → am_Q} {r : Option Value × am_M} (h : am_gr o f none = some r) : ∃ q, o = some q ∧ f q = some r := by
  unfold am_gr at h
  split at h
  · exact ⟨_, rfl, h⟩
  · cases h
theorem am_ite_of {p : Prop} [Decidable p] {t : am_Q} {r : Option Value × am_M} (h : (if p then t else none) = some r) : p ∧ t = some r := by
  split at h
  · exact ⟨‹p›, h⟩
  · cases h
theorem am_ite_no {p : Prop} [Decidable p] {t : am_Q} {r : Option Value × am_M} (h : (if p then none else t) = some r) : ¬ p ∧ t = some r := by
  split at h
  · cases h
  · exact ⟨‹¬ p›, h⟩
section
variable {C : Prop} {r : Option Value × am_M}
theorem am_m_none : ((none : am_Q) = some r → C) := fun h => by cases h
theorem am_m_tI {st : List Value} {f : Int32 → List Value → am_Q} {s : am_Q} (h : ∀ x t, f x t = some r → C) (hs : s = some r → C) : am_tI st f s = some r → C := by
  unfold am_tI
  split
  · exact h _ _
  · exact hs
theorem am_m_tL {st : List Value} {f : Int64 → List Value → am_Q} {s : am_Q} (h : ∀ x t, f x t = some r → C) (hs : s = some r → C) : am_tL st f s = some r → C := by
  unfold am_tL
  split
  · exact h _ _
  · exact hs
theorem am_m_tR {st : List Value} {f : Nat → List Value → am_Q} {s : am_Q} (h : ∀ x t, f x t = some r → C) (hs : s = some r → C) : am_tR st f s = some r → C := by
  unfold am_tR
  split
  · exact h _ _
  · exact hs
theorem am_m_xI {w : Value} {f : Int32 → am_Q} {s : am_Q} (h : ∀ x, f x = some r → C) (hs : s = some r → C) : am_xI w f s = some r → C := by
  unfold am_xI
  split
  · exact h _
  · exact hs
theorem am_m_xL {w : Value} {f : Int64 → am_Q} {s : am_Q} (h : ∀ x, f x = some r → C) (hs : s = some r → C) : am_xL w f s = some r → C := by
  unfold am_xL
  split
  · exact h _
  · exact hs
theorem am_m_xR {w : Value} {f : Nat → am_Q} {s : am_Q} (h : ∀ x, f x = some r → C) (hs : s = some r → C) : am_xR w f s = some r → C := by
  unfold am_xR
  split
  · exact h _
  · exact hs
theorem am_m_e0 {st : List Value} {f : am_Q} {s : am_Q} (h : f = some r → C) (hs : s = some r → C) : am_e0 st f s = some r → C := by
  unfold am_e0
  split
  · exact h
  · exact hs
theorem am_m_gr {o : Option Nat} {f : Nat → am_Q} {s : am_Q} (h : ∀ x, f x = some r → C) (hs : s = some r → C) : am_gr o f s = some r → C := by
  unfold am_gr
  split
  · exact h _
  · exact hs
theorem am_m_ite {p : Prop} [Decidable p] {t s : am_Q} (h : t = some r → C) (hs : s = some r → C) : (if p then t else s) = some r → C := by
  split
  · exact h
  · exact hs
theorem am_m_br {q : Jvm.ClassFile.Cond} {x y : Int32} {t s : am_Q} (h : t = some r → C) (hs : s = some r → C) : am_br q x y t s = some r → C := by
  unfold am_br
  cases q <;> first | exact am_m_ite h hs | exact am_m_ite hs h
theorem am_m_sw {g : Nat → am_Q} (h : ∀ q, g q = some r → C) (d : Nat) (x : Int32) : ∀ l : List (Int × Nat), am_sw l d x g = some r → C
  | [] => h d
  | (k, t) :: l => by
    unfold am_sw
    exact am_m_ite (h t) (am_m_sw h d x l)
end
set_option maxHeartbeats 4000000 in
set_option maxRecDepth 100000 in
theorem am_mono_nx {k : am_F} (hk : ∀ m d pc ls st M v M', k m d pc ls st M = some (v, M') → am_n M ≤ am_n M' ∧ am_s M ≤ am_s M') (m d pc : Nat) (ls st : List Value) (M : am_M) (v : Option Value) (M' : am_M) : am_nx k m d pc ls st M = some (v, M') → am_n M ≤ am_n M' ∧ am_s M ≤ am_s M' := by
  have hn : ∀ {q : Nat × Nat} {w : Nat}, am_n (am_nw M q w) ≤ am_n M' ∧ am_s (am_nw M q w) ≤ am_s M' → am_n M ≤ am_n M' ∧ am_s M ≤ am_s M' := by
    intro q w h
    exact ⟨Nat.le_trans (Nat.le_succ _) h.1, Nat.le_trans (Nat.le_add_right _ _) h.2⟩
  have hn2 : ∀ {q w : Nat}, am_n (am_nm M q w) ≤ am_n M' ∧ am_s (am_nm M q w) ≤ am_s M' → am_n M ≤ am_n M' ∧ am_s M ≤ am_s M' := by
    intro q w h
    exact ⟨Nat.le_trans (Nat.le_trans (Nat.le_succ _) (Nat.le_add_right _ _)) h.1, Nat.le_trans (Nat.le_trans (Nat.le_add_right _ _) (Nat.le_add_right _ _)) h.2⟩
  have bI : ∀ {m d a M f}, (∀ x M1, f x M1 = some (v, M') → am_n M1 ≤ am_n M' ∧ am_s M1 ≤ am_s M') → am_bI (k m d 0 (am_lc m a) [] M) f = some (v, M') → am_n M ≤ am_n M' ∧ am_s M ≤ am_s M' := by
    intro m d a M f hf h
    obtain ⟨x, M1, e1, e2⟩ := am_bI_of h
    have := hk _ _ _ _ _ _ _ _ e1
    have := hf _ _ e2
    omega
  have bL : ∀ {m d a M f}, (∀ x M1, f x M1 = some (v, M') → am_n M1 ≤ am_n M' ∧ am_s M1 ≤ am_s M') → am_bL (k m d 0 (am_lc m a) [] M) f = some (v, M') → am_n M ≤ am_n M' ∧ am_s M ≤ am_s M' := by
    intro m d a M f hf h
    obtain ⟨x, M1, e1, e2⟩ := am_bL_of h
    have := hk _ _ _ _ _ _ _ _ e1
    have := hf _ _ e2
    omega
  have bR : ∀ {m d a M f}, (∀ x M1, f x M1 = some (v, M') → am_n M1 ≤ am_n M' ∧ am_s M1 ≤ am_s M') → am_bR (k m d 0 (am_lc m a) [] M) f = some (v, M') → am_n M ≤ am_n M' ∧ am_s M ≤ am_s M' := by
    intro m d a M f hf h
    obtain ⟨x, M1, e1, e2⟩ := am_bR_of h
    have := hk _ _ _ _ _ _ _ _ e1
    have := hf _ _ e2
    omega
  have bV : ∀ {m d a M f}, (∀ M1, f M1 = some (v, M') → am_n M1 ≤ am_n M' ∧ am_s M1 ≤ am_s M') → am_bV (k m d 0 (am_lc m a) [] M) f = some (v, M') → am_n M ≤ am_n M' ∧ am_s M ≤ am_s M' := by
    intro m d a M f hf h
    obtain ⟨M1, e1, e2⟩ := am_bV_of h
    have := hk _ _ _ _ _ _ _ _ e1
    have := hf _ e2
    omega
  unfold am_nx am_step
  generalize am_find (am_tb m) pc = o
  rcases o with _ | ⟨ins, len, a, b, c, e, z, sw⟩
  · exact am_m_none
  · cases ins
    all_goals dsimp only
    all_goals (repeat (first
      | exact am_m_none
      | exact hk _ _ _ _ _ _ _ _
      | exact fun h => hn (hk _ _ _ _ _ _ _ _ h)
      | exact fun h => hn2 (hk _ _ _ _ _ _ _ _ h)
      | exact fun h => by cases h; exact ⟨Nat.le_refl _, Nat.le_refl _⟩
      | (refine am_m_tI (fun _ _ => ?_) ?_)
      | (refine am_m_tL (fun _ _ => ?_) ?_)
      | (refine am_m_tR (fun _ _ => ?_) ?_)
      | (refine am_m_xI (fun _ => ?_) ?_)
      | (refine am_m_xL (fun _ => ?_) ?_)
      | (refine am_m_xR (fun _ => ?_) ?_)
      | (refine am_m_e0 ?_ ?_)
      | (refine am_m_gr (fun _ => ?_) ?_)
      | (refine am_m_sw (fun _ => ?_) _ _ _)
      | (refine am_m_br ?_ ?_)
      | (refine bI (fun _ _ => ?_))
      | (refine bL (fun _ _ => ?_))
      | (refine bR (fun _ _ => ?_))
      | (refine bV (fun _ => ?_))
      | (refine am_m_ite ?_ ?_)
      | (unfold am_if; refine am_m_ite ?_ ?_)
      | (unfold am_ob; refine am_m_ite ?_ ?_)
      | (unfold am_ix; refine am_m_ite ?_ ?_)
      | (unfold am_iw; refine am_m_ite ?_ ?_)
      | (unfold am_iq; refine am_m_ite ?_ ?_)
      | (unfold am_tr; refine am_m_ite ?_ ?_)
      | split))
theorem am_mono : ∀ (n m d pc : Nat) (ls st : List Value) (M : am_M) (v : Option Value) (M' : am_M), am_run n m d pc ls st M = some (v, M') → am_n M ≤ am_n M' ∧ am_s M ≤ am_s M'
  | 0, _, _, _, _, _, _, _, _ => fun h => by cases h
  | n + 1, m, d, pc, ls, st, M, v, M' => am_mono_nx (am_mono n) m d pc ls st M v M'
end
section
/-! A method of the machine, called, does what the abstract machine tells. -/
theorem am_cat_sum (ad : Nat → Nat) : ∀ l : List Value, ((l.map (am_cv ad)).map fun v => v.category).sum = am_cat l
  | [] => rfl
  | v :: l => by
    show (am_cv ad v).category + ((l.map (am_cv ad)).map fun v => v.category).sum = v.category + am_cat l
    rw [am_cv_cat, am_cat_sum ad l]
theorem am_tk_dp : ∀ (st : List Value) (b : Nat) (acc : List Value), b ≤ st.length → (am_tk st b acc).reverse ++ am_dp st b = acc.reverse ++ st ∧ (am_tk st b acc).length = acc.length + b
  | st, 0, acc, _ => by
    cases st <;> exact ⟨rfl, rfl⟩
  | [], b + 1, acc, h => absurd h (by simp)
  | v :: l, b + 1, acc, h => by
    obtain ⟨h1, h2⟩ := am_tk_dp l b (v :: acc) (by simpa using h)
    refine ⟨?_, ?_⟩
    · show (am_tk l b (v :: acc)).reverse ++ am_dp l b = _
      rw [h1]
      simp
    · show (am_tk l b (v :: acc)).length = _
      rw [h2]
      simp
      omega
theorem am_tk_st {st : List Value} {b : Nat} (h : b ≤ st.length) : st = (am_tk st b []).reverse ++ am_dp st b ∧ (am_tk st b []).length = b := by
  obtain ⟨h1, h2⟩ := am_tk_dp st b [] h
  exact ⟨by simpa using h1.symm, by simpa using h2⟩
theorem am_pad_len : ∀ (l : List Value) (n : Nat), l.length ≤ n → (am_pad l n).length = n
  | l, 0, h => by
    have : l = [] := List.eq_nil_of_length_eq_zero (Nat.le_zero.mp h)
    subst this
    rfl
  | [], n + 1, _ => by
    show (am_pad [] n).length + 1 = n + 1
    rw [am_pad_len [] n (Nat.zero_le _)]
  | v :: l, n + 1, h => by
    show (am_pad l n).length + 1 = n + 1
    rw [am_pad_len l n (by simpa using h)]
theorem am_pad_get : ∀ (l : List Value) (n i : Nat) (v : Value), (am_pad l n)[i]? = some v → v ≠ .null → l[i]? = some v
  | l, 0, i, v, h, _ => by
    cases l <;> exact h
  | [], n + 1, 0, v, h, hv => by
    have : Value.null = v := by simpa [am_pad] using h
    exact absurd this.symm hv
  | [], n + 1, i + 1, v, h, hv => by
    have := am_pad_get [] n i v (by simpa [am_pad] using h) hv
    simpa using this
  | w :: l, n + 1, 0, v, h, hv => by simpa [am_pad] using h
  | w :: l, n + 1, i + 1, v, h, hv => by
    have := am_pad_get l n i v (by simpa [am_pad] using h) hv
    simpa using this
theorem am_loc_args (ad : Nat → Nat) : ∀ (l : List Value) (k i : Nat) (v : Value), (am_loc l)[i]? = some v → v ≠ .null → (k + i, am_cv ad v) ∈ lv_args k (l.map (am_cv ad))
  | [], k, i, v, h, _ => by simp [am_loc] at h
  | w :: l, k, i, v, h, hv => by
    have one : am_loc (w :: l) = w :: am_loc l → w.category = 1 → (k + i, am_cv ad v) ∈ lv_args k ((w :: l).map (am_cv ad)) := by
      intro e1 hc
      have e : lv_args k ((w :: l).map (am_cv ad)) = (k, am_cv ad w) :: lv_args (k + 1) (l.map (am_cv ad)) := by
        show (k, am_cv ad w) :: lv_args (if (am_cv ad w).category = 2 then k + 2 else k + 1) _ = _
        rw [am_cv_cat, hc]
        rfl
      rw [e]
      rw [e1] at h
      cases i with
      | zero =>
        have : w = v := by simpa using h
        subst this
        exact List.mem_cons_self
      | succ i =>
        have := am_loc_args ad l (k + 1) i v (by simpa using h) hv
        rw [show k + (i + 1) = k + 1 + i by omega]
        exact List.mem_cons_of_mem _ this
    have two : am_loc (w :: l) = w :: .null :: am_loc l → w.category = 2 → (k + i, am_cv ad v) ∈ lv_args k ((w :: l).map (am_cv ad)) := by
      intro e1 hc
      have e : lv_args k ((w :: l).map (am_cv ad)) = (k, am_cv ad w) :: lv_args (k + 2) (l.map (am_cv ad)) := by
        show (k, am_cv ad w) :: lv_args (if (am_cv ad w).category = 2 then k + 2 else k + 1) _ = _
        rw [am_cv_cat, hc]
        rfl
      rw [e]
      rw [e1] at h
      cases i with
      | zero =>
        have : w = v := by simpa using h
        subst this
        exact List.mem_cons_self
      | succ i =>
        cases i with
        | zero =>
          have : Value.null = v := by simpa using h
          exact absurd this.symm hv
        | succ i =>
          have := am_loc_args ad l (k + 2) i v (by simpa using h) hv
          rw [show k + (i + 1 + 1) = k + 2 + i by omega]
          exact List.mem_cons_of_mem _ this
    cases w <;> first | exact one rfl rfl | exact two rfl rfl
theorem am_lc_Ls {ad : Nat → Nat} {m : Nat} {a : List Value} {ls : Array Slot} (hlen : (am_loc a).length ≤ am_ml m) (h : lv_has ls (am_ml m) (lv_args 0 (a.map (am_cv ad)))) : am_Ls ad (am_ml m) ls (am_lc m a) := by
  refine ⟨⟨h.1, h.2.1, fun q hq => ?_⟩, am_pad_len _ _ hlen⟩
  obtain ⟨i, v, h1, h2, rfl⟩ := am_al_mem.mp hq
  exact h.2.2 _ (am_loc_args ad a 0 i v (am_pad_get _ _ _ _ h1 h2) h2)
theorem am_sl_len (ad : Nat → Nat) : ∀ a : List Value, (lg_sl (a.map (am_cv ad))).length = (am_loc a).length
  | [] => rfl
  | w :: l => by
    have ih := am_sl_len ad l
    have e : lg_sl ((w :: l).map (am_cv ad)) = (if (am_cv ad w).category = 2 then [.val (am_cv ad w), .second] else [.val (am_cv ad w)]) ++ lg_sl (l.map (am_cv ad)) := by
      simp [lg_sl]
    rw [e, am_cv_cat, List.length_append, ih]
    cases w <;> (first | (show 1 + (am_loc l).length = (am_loc l).length + 1; omega) | (show 2 + (am_loc l).length = (am_loc l).length + 1 + 1; omega))
/-- the text constants, and what their methods read -/
def am_Tx (G : am_G) (s : State) : Prop :=
  (∀ own k, Cond.stringRef own k am_words ∈ lw_tbl → vk_R own k am_words (am_gt G) s) ∧ am_gt G < am_gz G ∧
  vk_S 1 [am_words.length] [am_words.toList.map (fun ch => Int32.ofNat ch.toNat)] (fun _ => am_gt G) (fun _ => am_gv G) (fun q => am_gz G ≤ q) s (am_gH G) ∧
  va_Z "java/lang/String" "COMPACT_STRINGS" "Z" (.int 1) (fun q => am_gz G ≤ q) s (am_gH G) ∧ va_Zq "jdk/internal/util/Preconditions" "SIOOBE_FORMATTER" "Ljava/util/function/BiFunction;" (fun q => am_gz G ≤ q) s (am_gH G)
/-- what is the same in every method: the classes, the script, the text -/
def am_Wd (G : am_G) (s : State) : Prop := am_Kn G s ∧ va_X (am_gb G) (am_gl G) (am_gx G) s (am_gH G) ∧ am_gb G < am_gz G ∧ (am_gH G).size = am_gz G ∧ (∀ own k y host, Cond.methodLinkNest own k y host ∈ lw_tbl → va_Nw (.methodLinkNest own k y host) s) ∧ va_AO RX0 s ∧ am_AOA s ∧ am_Tx G s
theorem am_Wd.warm {G : am_G} {s U : State} (hW : s.WarmedH U.vm) (h : am_Wd G s) : am_Wd G U := by
  obtain ⟨h1, h2, h3, h3', hN, hA1, hA2, h4, h5, h6, h7, h8⟩ := h
  exact ⟨va_K.moved hW.alike h1, va_X.moved hW.alike h2, h3, h3', fun own k y host hk => va_Nw.warmM hW (hN own k y host hk), va_AO.moved hW.alike hA1, am_AOA.moved hW.alike hA2, fun own k hk => vk_R.warm hW (h4 own k hk), h5, vk_S.moved hW.alike h6, va_Z.moved hW.alike h7, va_Zq.moved hW.alike h8⟩
theorem am_Wd.same {G : am_G} {u U : State} (hv : U.vm = u.vm) (h : am_Wd G u) : am_Wd G U := by
  have hA : u.vm.Alike U.vm := by rw [hv]; exact Vm.Alike.refl _
  obtain ⟨h1, h2, h3, h3', hN, hA1, hA2, h4, h5, h6, h7, h8⟩ := h
  exact ⟨va_K.moved hA h1, va_X.moved hA h2, h3, h3', fun own k y host hk => va_Nw.same rfl hv.symm (hN own k y host hk), va_AO.moved hA hA1, am_AOA.moved hA hA2, fun own k hk => vk_R.same hv (h4 own k hk), h5, vk_S.moved hA h6, va_Z.moved hA h7, va_Zq.moved hA h8⟩
/-- a method's frame -/
def am_Fx (mid : Nat) (p : Program) (s : State) (m : MethodId) (args : Array Value) (meth : Method) (c : Code) : Prop :=
  p.tables.exec = Jvm.exec ∧ c.code = (am_hd mid).2.1 ∧ c.maxLocals = am_ml mid ∧ s.vm.findClass (am_hd mid).1.cls = some m.cls ∧ (∀ w ∈ am_W, w.before args s = true) ∧ meth.sig.returnType = (am_hd mid).2.2.2.1 ∧ meth.locks = false ∧ (am_kd (am_hd mid) = 2 → meth.name = "<init>")
def am_Pc (G : am_G) (M : am_M) (a : List Value) : Array Value → State → Prop := fun v U => v = (a.map (am_cv (am_ga G))).toArray ∧ am_Mm G M U.heap ∧ am_Wd G U
def am_Qc (G : am_G) (v : Option Value) (M' : am_M) : Array Value → State → Outcome → State → Prop := fun _ _ o t => o = .returned (v.map (am_cv (am_ga G))) ∧ am_Mm G M' t.heap
def am_fr (G : am_G) : Addr → Prop := fun q => am_gz G ≤ q
def am_rm (d mc ms : Nat) : Room := { frames := d, cells := mc, slots := ms, locals := 130 * d }
noncomputable def am_wm (mid : Nat) : List Jvm.Cond := Cond.code (am_hd mid).1 (am_hd mid).2.1 (am_ml mid) (am_hd mid).2.2.2.1 :: am_W
theorem am_pl_in {e : Nat} {w : Jvm.Cond} (h : am_pl e w = true) : w ∈ am_W := by
  unfold am_pl at h
  rw [Bool.and_eq_true, decide_eq_true_eq] at h
  exact am_W_of h.1 h.2
/-- from n steps on: the machine does what the abstract machine tells -/
def am_Snd (l : Launch) (n : Nat) : Prop := ∀ (mid d pc : Nat) (lA sA : List Value) (M : am_M) (v : Option Value) (M' : am_M), am_run n mid d pc lA sA M = some (v, M') →
  ∀ (p : Program) (e : Env) (R : Room) (s : State) (m : MethodId) (args : Array Value) (below : List Frame) (meth : Method) (c : Code) (H : Heap) (locs : List Loc) (cells slots mc ms : Nat) (ls : Array Slot) (G : am_G), am_Fx mid p s m args meth c → am_Wd G s → am_Mm G M H → am_lo G locs → am_Ls (am_ga G) (am_ml mid) ls lA → d ≤ R.frames → 130 * d ≤ R.locals → cells + am_n M' ≤ mc + am_n M → slots + am_s M' ≤ ms + am_s M → mc ≤ R.cells → ms ≤ R.slots →
    W p l e R s m args below meth c H locs cells slots (MQ below (am_Qc G v M') args s mc ms (am_fr G)) (F0 m pc ls (sA.map (am_cv (am_ga G))))
/-- a head that is no law's -/
theorem am_sok_of {mid : Nat} (hk : am_kd (am_hd mid) ≠ 3) : plainName (am_hd mid).1.cls = true ∧ ((am_hd mid).1.cls ≠ "java/lang/invoke/MethodHandle" ∧ (am_hd mid).1.cls ≠ "java/lang/invoke/VarHandle") ∧ Cond.code (am_hd mid).1 (am_hd mid).2.1 (am_ml mid) (am_hd mid).2.2.2.1 ∈ am_W ∧ Cond.initialized (am_hd mid).1.cls ∈ am_W ∧ (parseMethodDescriptor (am_hd mid).1.desc).map (fun d => d.parameters.length) = some (if am_kd (am_hd mid) = 0 then am_na (am_hd mid) else am_na (am_hd mid) - 1) ∧
    (am_kd (am_hd mid) = 0 → Cond.static (am_hd mid).1 ∈ am_W) ∧ (am_kd (am_hd mid) = 1 → 1 ≤ am_na (am_hd mid) ∧ Cond.instanceMethod (am_hd mid).1 ∈ am_W ∧ Cond.selects (am_hd mid).1.cls (am_hd mid).1 (am_hd mid).1 ∈ am_W ∧ am_ci (am_hd mid) < 7 ∧ am_cR (am_ci (am_hd mid)) = (am_hd mid).1.cls) ∧
    (am_kd (am_hd mid) = 2 → 1 ≤ am_na (am_hd mid) ∧ Cond.instanceMethod (am_hd mid).1 ∈ am_W ∧ (am_hd mid).1.name = "<init>" ∧ (am_hd mid).2.2.2.1 = none) := by
  have h := (am_oks mid).1
  unfold am_ml
  generalize am_hd mid = q at h hk
  obtain ⟨y, by_, ml, ret, kind, rc, na, ci, pc, pi, ps, pn⟩ := q
  unfold am_sok at h
  simp only [am_kd, am_na, am_ci] at hk ⊢
  have hk3 : Nat.beq kind 3 = false := by
    cases hb : Nat.beq kind 3 with
    | false => rfl
    | true => exact absurd (Nat.eq_of_beq_eq_true hb) hk
  dsimp only at h
  rw [hk3] at h
  simp only [Bool.false_or, Bool.and_eq_true, decide_eq_true_eq] at h
  obtain ⟨-, ⟨⟨⟨⟨⟨h1, h2⟩, h3⟩, h4⟩, h5⟩, h6⟩, h7⟩ := h
  refine ⟨h1, ⟨h2, h3⟩, am_pl_in h4, am_pl_in h5, h6, fun e => ?_, fun e => ?_, fun e => ?_⟩
  · subst e
    exact am_pl_in h7
  · subst e
    simp only [Bool.and_eq_true, decide_eq_true_eq] at h7
    obtain ⟨⟨⟨⟨g1, g2⟩, g3⟩, g4⟩, g5⟩ := h7
    exact ⟨Nat.le_of_ble_eq_true g1, am_pl_in g2, am_pl_in g3, Nat.le_of_ble_eq_true g4, g5⟩
  · subst e
    simp only [Bool.and_eq_true, decide_eq_true_eq] at h7
    obtain ⟨⟨⟨⟨g1, g2⟩, g3⟩, g4⟩, g5⟩ := h7
    exact ⟨Nat.le_of_ble_eq_true g1, am_pl_in g2, g3, g4⟩
theorem am_sok_ml (mid : Nat) : am_ml mid ≤ 100 := by
  have h := (am_oks mid).1
  unfold am_ml
  generalize am_hd mid = q at h
  obtain ⟨y, by_, ml, ret, kind, rc, na, ci, pc, pi, ps, pn⟩ := q
  unfold am_sok at h
  dsimp only at h
  simp only [Bool.and_eq_true] at h
  exact Nat.le_of_ble_eq_true h.1.2
theorem am_sok_rc (mid : Nat) : (am_rc (am_hd mid) = 0 ∧ (am_hd mid).2.2.2.1 = none) ∨ (am_rc (am_hd mid) = 1 ∧ (am_hd mid).2.2.2.1 = some .int) ∨ (am_rc (am_hd mid) = 2 ∧ (am_hd mid).2.2.2.1 = some .long) ∨ (am_rc (am_hd mid) = 4 ∧ (am_hd mid).2.2.2.1 = some .boolean) := by
  have h := (am_oks mid).1
  generalize am_hd mid = q at h
  obtain ⟨y, by_, ml, ret, kind, rc, na, ci, pc, pi, ps, pn⟩ := q
  unfold am_sok at h
  dsimp only at h
  simp only [Bool.and_eq_true] at h
  have h1 := h.1.1
  simp only [am_rc]
  split at h1
  · exact Or.inl ⟨rfl, by simpa using h1⟩
  · exact Or.inr (Or.inl ⟨rfl, by simpa using h1⟩)
  · exact Or.inr (Or.inr (Or.inl ⟨rfl, by simpa using h1⟩))
  · exact Or.inr (Or.inr (Or.inr ⟨rfl, by simpa using h1⟩))
  · cases h1
theorem am_met {l : Launch} {n : Nat} (hS : am_Snd l n) {a d : Nat} {as : List Value} {M M' : am_M} {v : Option Value} (h : am_run n a d 0 (am_lc a as) [] M = some (v, M')) (hk : am_kd (am_hd a) ≠ 3) (hlen : (am_loc as).length ≤ am_ml a) (G : am_G) :
    Met l (am_hd a).1 (am_wm a) (am_rm d (am_n M' - am_n M) (am_s M' - am_s M)) (am_Pc G M as) (am_Qc G v M') (am_n M' - am_n M) (am_s M' - am_s M) (am_fr G) := by
  obtain ⟨k1, k2, k3, k4, k5, k6, k7, k8⟩ := am_sok_of hk
  obtain ⟨hn, hs⟩ := am_mono _ _ _ _ _ _ _ _ _ h
  refine Met.ofW (cc := (am_hd a).2.1) (maxL := am_ml a) (ret := (am_hd a).2.2.2.1) k1 rfl ?_
  intro p e s m args below meth c s₁ B hml hv
  obtain ⟨rfl, hM, hW⟩ := hv
  have hts := atoms_spec (ws := am_wm a) B.pre
  have hnm := name_of_methodNamed B.named B.method
  have hl := lv_entry (as.map (am_cv (am_ga G))) (n := am_ml a) (by rw [am_sl_len]; exact hlen)
  rw [lg_entry_eq]
  generalize (lg_sl (as.map (am_cv (am_ga G))) ++ List.replicate (am_ml a - (lg_sl (as.map (am_cv (am_ga G)))).length) Slot.unset).toArray = ls at hl ⊢
  refine hS a d 0 (am_lc a as) [] M v M' h p e _ s m _ below meth c s.heap [] 0 0 _ _ ls G ⟨B.exec, B.bytes, hml, findClass_of_methodNamed B.named, fun w hw => hts w (List.mem_cons_of_mem _ hw), B.returns, B.notSynchronized, fun e2 => ?_⟩ hW hM (fun _ hq => by cases hq) (am_lc_Ls hlen hl) (Nat.le_refl _) (Nat.le_refl _) (by omega) (by omega) (Nat.le_refl _) (Nat.le_refl _)
  rw [hnm.1]
  exact (k8 e2).2.2.1
section AMC
variable {p : Program} {l : Launch} {e : Env} {R : Room} {s : State} {m : MethodId} {args : Array Value} {below : List Frame} {meth : Method} {c : Code} {H : Heap} {locs : List Loc} {cells slots : Nat} {Q : State → Prop}
variable {pc : Nat} {ls : Array Slot} {rest st0 : List Value} {G : am_G} {M M1 : am_M}
theorem am_r_ret {v : Option Value} {a : Array Value} {mc ms : Nat} (hr : va_Run p l e R s m args below meth c H locs cells slots mc ms (F0 m pc ls st0) rest (am_Qc G v M1 a) (am_fr G)) (hlo : am_lo G locs)
    (kk : ∀ (H1 : Heap) (locs1 : List Loc), am_Mm G M1 H1 → am_lo G locs1 → W p l e R s m args below meth c H1 locs1 (cells + mc) (slots + ms) Q (F0 m (pc + 3) ls ((v.map (am_cv (am_ga G))).toList ++ rest))) : W p l e R s m args below meth c H locs cells slots Q (F0 m pc ls st0) := by
  intro T hT X
  obtain ⟨v', st₀, t, T', L, h0, X', hL, e1, e2, ⟨hv, hm⟩, st⟩ := hr T hT X
  have hv2 : v' = v.map (am_cv (am_ga G)) := by
    have := hv
    injection this
  subst hv2
  obtain ⟨t2, a1, b1⟩ := kk T'.heap (locs ++ L) (by rw [e1]; exact hm) (fun q hq => by
    rcases List.mem_append.mp hq with h | h
    · exact hlo q h
    · exact hL q h) T' rfl X'
  exact ⟨t2, st t2 a1, b1⟩
theorem am_Pc_blind {as : List Value} : FrameBlind (am_Pc G M as) := by
  intro a U g mk q
  obtain ⟨h1, h2, h3⟩ := q
  exact ⟨h1, h2, am_Wd.same (u := U) (U := U.calling g mk a) rfl h3⟩
theorem am_Pc_at {as : List Value} (hM : am_Mm G M H) (hW : am_Wd G s) : ∀ U : State, U.heap = H → s.WarmedH U.vm → am_Pc G M as (as.map (am_cv (am_ga G))).toArray U := by
  intro U hU hw
  exact ⟨rfl, by rw [hU]; exact hM, hW.warm hw⟩
end AMC
end
section
/-! The text constant: loaded, its length, its words: the JDK's own methods. -/
section AMT0
variable {p : Program} {l : Launch} {e : Env} {R : Room} {s : State} {m : MethodId} {args : Array Value} {below : List Frame} {meth : Method} {c : Code} {H : Heap} {locs : List Loc} {cells slots : Nat} {Q : State → Prop}
variable {cc : ByteArray} {pc nL : Nat} {ls : Array Slot} {rest : List Value} {G : am_G} {M : am_M} {own : String}
theorem am_r_lds (hx : p.tables.exec = Jvm.exec) (hb : c.code = cc) (hown : s.vm.findClass own = some m.cls) (hW : am_Wd G s) {index : Nat} (hw : Cond.stringRef own index am_words ∈ lw_tbl) (hdg : decode cc pc = .ok (.ldc index, 2))
    (kk : W p l e R s m args below meth c H locs cells slots Q (F0 m (pc + 2) ls (.ref (am_gt G) :: rest))) : W p l e R s m args below meth c H locs cells slots Q (F0 m pc ls rest) :=
  va_ldcS hx hb hown (hW.2.2.2.2.2.2.2.1 own index hw) hdg kk
def am_Pj (G : am_G) (M : am_M) (av : List Value) : Array Value → State → Prop := fun a U => a = av.toArray ∧ am_Mm G M U.heap ∧ am_Wd G U
def am_Qj (G : am_G) (M : am_M) (v : Option Value) : Array Value → State → Outcome → State → Prop := fun _ _ o t => o = .returned v ∧ am_Mm G M t.heap
theorem am_Pj_blind {av : List Value} : FrameBlind (am_Pj G M av) := by
  intro a U g mk q
  obtain ⟨h1, h2, h3⟩ := q
  exact ⟨h1, h2, am_Wd.same (u := U) (U := U.calling g mk a) rfl h3⟩
theorem am_j_start {y : MethodName} {bytes : ByteArray} {maxL d : Nat} {ret : Option FieldType} {av : List Value} {v : Option Value} (hy : plainName y.cls = true) (hlen : (lg_sl av).length ≤ maxL)
    (body : ∀ (p : Program) (e : Env) (s : State) (m : MethodId) (args : Array Value) (below : List Frame) (meth : Method) (c : Code) (ls : Array Slot), p.tables.exec = Jvm.exec → c.code = bytes → c.maxLocals = maxL → s.vm.findClass y.cls = some m.cls → (∀ w ∈ am_W, w.before args s = true) → meth.sig.returnType = ret → meth.locks = false → am_Mm G M s.heap → am_Wd G s → lv_has ls maxL (lv_args 0 av) →
      W p l e (am_rm d 0 0) s m args below meth c s.heap [] 0 0 (MQ below (am_Qj G M v) args s 0 0 (am_fr G)) (F0 m 0 ls [])) :
    Met l y (Cond.code y bytes maxL ret :: am_W) (am_rm d 0 0) (am_Pj G M av) (am_Qj G M v) 0 0 (am_fr G) := by
  refine Met.ofW (cc := bytes) (maxL := maxL) (ret := ret) hy rfl ?_
  intro p e s m args below meth c s₁ B hml hv
  obtain ⟨rfl, hM, hW⟩ := hv
  have hts := atoms_spec (ws := Cond.code y bytes maxL ret :: am_W) B.pre
  have hl := lv_entry av (n := maxL) hlen
  rw [lg_entry_eq]
  generalize (lg_sl av ++ List.replicate (maxL - (lg_sl av).length) Slot.unset).toArray = ls at hl ⊢
  exact body p e s m _ below meth c ls B.exec B.bytes hml (findClass_of_methodNamed B.named) (fun w hw => hts w (List.mem_cons_of_mem _ hw)) B.returns B.notSynchronized hM hW hl
theorem am_jS {s : State} (hM0 : am_Mm G M s.heap) (hM : am_Mm G M H) (hlo : am_lo G locs) : va_S (fun q => am_gz G ≤ q) s.heap H locs := by
  refine ⟨?_, fun q _ hq => ?_, hlo⟩
  · have h1 := hM0.1
    have h2 := hM.1
    omega
  · have hq' : q < am_gz G := Nat.not_le.mp hq
    rw [hM.2.2.2.2.2.2.1 q hq', hM0.2.2.2.2.2.2.1 q hq']
set_option maxRecDepth 100000 in
theorem am_jt {s : State} (hM : am_Mm G M s.heap) (hW : am_Wd G s) : va_O "java/lang/String" (am_gt G) (fun q => am_gz G ≤ q) s s.heap ∧ va_OF "java/lang/String" "coder" "B" (.int 0) (am_gt G) (fun q => am_gz G ≤ q) s s.heap ∧ va_OF "java/lang/String" "value" "[B" (.ref (am_gv G)) (am_gt G) (fun q => am_gz G ≤ q) s s.heap ∧
    va_T .byte (am_gv G) am_words.length (fun j => .int ((am_words.toList.map (fun ch => Int32.ofNat ch.toNat)).getD j 0)) (fun q => am_gz G ≤ q) s s.heap ∧ va_Z "java/lang/String" "COMPACT_STRINGS" "Z" (.int 1) (fun q => am_gz G ≤ q) s s.heap ∧ va_Zq "jdk/internal/util/Preconditions" "SIOOBE_FORMATTER" "Ljava/util/function/BiFunction;" (fun q => am_gz G ≤ q) s s.heap := by
  obtain ⟨h1, h2, h3, h3', hN, hA1, hA2, h4, h5, h6, h7, h8⟩ := hW
  have hq : ∀ a : Nat, a < (am_gH G).size → ¬ (fun q => am_gz G ≤ q) a → s.heap[a]? = (am_gH G)[a]? := fun a _ ha => hM.2.2.2.2.2.2.1 a (Nat.not_le.mp ha)
  obtain ⟨g1, g2, g3, g4⟩ := h6.1 0 (by decide)
  rw [show [am_words.length].getD 0 0 = am_words.length from rfl] at g4
  exact ⟨g1.kept hq, g2.kept hq, g3.kept hq, va_T.kept g4 hq, h7.kept hq, h8.kept hq⟩
theorem am_j_ret {v : Option Value} {a : Array Value} {st0 : List Value} (hr : va_Run p l e R s m args below meth c H locs cells slots 0 0 (F0 m pc ls st0) rest (am_Qj G M v a) (am_fr G)) (hlo : am_lo G locs)
    (kk : ∀ (H1 : Heap) (locs1 : List Loc), am_Mm G M H1 → am_lo G locs1 → W p l e R s m args below meth c H1 locs1 cells slots Q (F0 m (pc + 3) ls (v.toList ++ rest))) : W p l e R s m args below meth c H locs cells slots Q (F0 m pc ls st0) := by
  intro T hT X
  obtain ⟨v', st₀, t, T', L, h0, X', hL, e1, e2, ⟨hv, hm⟩, st⟩ := hr T hT X
  have hv2 : v' = v := by
    have := hv
    injection this
  subst hv2
  obtain ⟨t2, a1, b1⟩ := kk T'.heap (locs ++ L) (by rw [e1]; exact hm) (fun q hq => by
    rcases List.mem_append.mp hq with h | h
    · exact hlo q h
    · exact hL q h) T' rfl X'
  exact ⟨t2, st t2 a1, b1⟩
/-- a static method of the JDK's, called -/
theorem am_j_S {y : MethodName} {bytes : ByteArray} {maxL d n index : Nat} {ret : Option FieldType} {av : List Value} {v : Option Value} (hmet : Met l y (Cond.code y bytes maxL ret :: am_W) (am_rm d 0 0) (am_Pj G M av) (am_Qj G M v) 0 0 (am_fr G))
    (hx : p.tables.exec = Jvm.exec) (hb : c.code = cc) (hml : c.maxLocals = nL) (hls : ls.size = nL) (hown : s.vm.findClass own = some m.cls) (hts : ∀ w ∈ am_W, w.before args s = true) (hM : am_Mm G M H) (hW : am_Wd G s) (hlo : am_lo G locs)
    (hws : ∀ w ∈ [Cond.methodLink own index y, Cond.static y, Cond.initialized y.cls, Cond.code y bytes maxL ret], w ∈ am_W) (hd : y.cls ≠ "java/lang/invoke/MethodHandle" ∧ y.cls ≠ "java/lang/invoke/VarHandle" ∧ (parseMethodDescriptor y.desc).map (fun d => d.parameters.length) = some n) (hn : av.length = n)
    (hfr : d + 1 ≤ R.frames) (hlc : 8 + (maxL + 11) + 130 * d ≤ R.locals) (hcl : cells ≤ R.cells) (hsl : slots ≤ R.slots) (hrest : (rest.map fun v => v.category).sum ≤ 8) (hdg : decode cc pc = .ok (.invokestatic index, 3)) {st0 : List Value} (hst : st0 = av.reverse ++ rest)
    (kk : ∀ (H1 : Heap) (locs1 : List Loc), am_Mm G M H1 → am_lo G locs1 → W p l e R s m args below meth c H1 locs1 cells slots Q (F0 m (pc + 3) ls (v.toList ++ rest))) : W p l e R s m args below meth c H locs cells slots Q (F0 m pc ls st0) := by
  subst hst
  have hin : ∀ w ∈ (Cond.code y bytes maxL ret :: am_W), w ∈ am_W := fun w hw => (List.mem_cons.mp hw).elim (fun e => by rw [e]; exact hws _ (by simp)) id
  refine am_j_ret (va_runS (Ts := am_W) (own := own) ⟨hx, hb, hml, hown, hts⟩ hmet (n := n) (bytes := bytes) (maxL := maxL) (ret := ret) (index := index)
    ⟨callB_of n hts (fun w hw => am_W_good w (hin w hw)) rfl rfl rfl (hts _ (hws _ (by simp))) (hts _ (hws _ (by simp))) hd ⟨hfr, hlc⟩, hts _ (hws _ (by simp))⟩ ⟨am_Pj_blind, fun U hU hw => ⟨rfl, by rw [hU]; exact hM, hW.warm hw⟩⟩ rfl hn hls rfl (lv_room hrest) hdg ⟨hcl, hsl⟩) hlo kk
/-- a method of the text, called -/
theorem am_j_V {y : MethodName} {bytes : ByteArray} {maxL d n index : Nat} {ret : Option FieldType} {av : List Value} {v : Option Value} (hmet : Met l y (Cond.code y bytes maxL ret :: am_W) (am_rm d 0 0) (am_Pj G M (.ref (am_gt G) :: av)) (am_Qj G M v) 0 0 (am_fr G)) (hcy : y.cls = "java/lang/String")
    (hx : p.tables.exec = Jvm.exec) (hb : c.code = cc) (hml : c.maxLocals = nL) (hls : ls.size = nL) (hown : s.vm.findClass own = some m.cls) (hts : ∀ w ∈ am_W, w.before args s = true) (hM : am_Mm G M H) (hW : am_Wd G s) (hlo : am_lo G locs)
    (hws : ∀ w ∈ [Cond.methodLink own index y, Cond.instanceMethod y, Cond.selects y.cls y y, Cond.initialized y.cls, Cond.code y bytes maxL ret], w ∈ am_W) (hd : y.cls ≠ "java/lang/invoke/MethodHandle" ∧ y.cls ≠ "java/lang/invoke/VarHandle" ∧ (parseMethodDescriptor y.desc).map (fun d => d.parameters.length) = some n) (hn : av.length = n)
    (hfr : d + 1 ≤ R.frames) (hlc : 8 + (maxL + 11) + 130 * d ≤ R.locals) (hcl : cells ≤ R.cells) (hsl : slots ≤ R.slots) (hrest : (rest.map fun v => v.category).sum ≤ 8) (hdg : decode cc pc = .ok (.invokevirtual index, 3)) {st0 : List Value} (hst : st0 = av.reverse ++ .ref (am_gt G) :: rest)
    (kk : ∀ (H1 : Heap) (locs1 : List Loc), am_Mm G M H1 → am_lo G locs1 → W p l e R s m args below meth c H1 locs1 cells slots Q (F0 m (pc + 3) ls (v.toList ++ rest))) : W p l e R s m args below meth c H locs cells slots Q (F0 m pc ls st0) := by
  subst hst
  have hin : ∀ w ∈ (Cond.code y bytes maxL ret :: am_W), w ∈ am_W := fun w hw => (List.mem_cons.mp hw).elim (fun e => by rw [e]; exact hws _ (by simp)) id
  obtain ⟨h1, h2, h3, h3', hN, hA1, hA2, h4, h5, h6, h7, h8⟩ := id hW
  obtain ⟨cell, g1, g2, g3, -⟩ := (h6.1 0 (by decide)).1.kept (H1 := H) (fun a _ ha => hM.2.2.2.2.2.2.1 a (Nat.not_le.mp ha))
  refine am_j_ret (va_runV (Ts := am_W) (own := own) (C := y.cls) ⟨hx, hb, hml, hown, hts⟩ hmet (n := n) (bytes := bytes) (maxL := maxL) (ret := ret) (index := index)
    (cwV n hts (fun w hw => am_W_good w (by
      unfold wsV at hw
      rcases List.mem_append.mp hw with h | h
      · simp only [List.mem_cons, List.not_mem_nil, or_false] at h
        rcases h with h | h | h | h <;> rw [h] <;> exact hws _ (by simp)
      · exact hin w h)) rfl rfl rfl ⟨rfl, hd⟩ ⟨hfr, hlc⟩) ⟨am_Pj_blind, ⟨cell, g1, g2, by rw [hcy]; exact g3⟩, fun U hU hw => ⟨rfl, by rw [hU]; exact hM, hW.warm hw⟩⟩ rfl hn hls rfl (lv_room hrest) hdg ⟨hcl, hsl⟩) hlo kk
end AMT0
theorem djJ0length_0 : decode cJ0_length_8abf5 0 = .ok (.aload_n 0, 1) := by decide +kernel
theorem djJ0length_1 : decode cJ0_length_8abf5 1 = .ok (.getfield 9, 3) := by decide +kernel
theorem djJ0length_4 : decode cJ0_length_8abf5 4 = .ok (.arraylength, 1) := by decide +kernel
theorem djJ0length_5 : decode cJ0_length_8abf5 5 = .ok (.aload_n 0, 1) := by decide +kernel
theorem djJ0length_6 : decode cJ0_length_8abf5 6 = .ok (.invokevirtual 335, 3) := by decide +kernel
theorem djJ0length_9 : decode cJ0_length_8abf5 9 = .ok (.ishr, 1) := by decide +kernel
theorem djJ0length_10 : decode cJ0_length_8abf5 10 = .ok (.ireturn, 1) := by decide +kernel
theorem djJ0charAt_0 : decode cJ0_charAt_5068e 0 = .ok (.aload_n 0, 1) := by decide +kernel
theorem djJ0charAt_1 : decode cJ0_charAt_5068e 1 = .ok (.invokevirtual 492, 3) := by decide +kernel
theorem djJ0charAt_4 : decode cJ0_charAt_5068e 4 = .ok (.ifCond .eq 12, 3) := by decide +kernel
theorem djJ0charAt_7 : decode cJ0_charAt_5068e 7 = .ok (.aload_n 0, 1) := by decide +kernel
theorem djJ0charAt_8 : decode cJ0_charAt_5068e 8 = .ok (.getfield 9, 3) := by decide +kernel
theorem djJ0charAt_11 : decode cJ0_charAt_5068e 11 = .ok (.iload_n 1, 1) := by decide +kernel
theorem djJ0charAt_12 : decode cJ0_charAt_5068e 12 = .ok (.invokestatic 495, 3) := by decide +kernel
theorem djJ0charAt_15 : decode cJ0_charAt_5068e 15 = .ok (.ireturn, 1) := by decide +kernel
theorem djJ0charAt_16 : decode cJ0_charAt_5068e 16 = .ok (.aload_n 0, 1) := by decide +kernel
theorem djJ0charAt_17 : decode cJ0_charAt_5068e 17 = .ok (.getfield 9, 3) := by decide +kernel
theorem djJ0charAt_20 : decode cJ0_charAt_5068e 20 = .ok (.iload_n 1, 1) := by decide +kernel
theorem djJ0charAt_21 : decode cJ0_charAt_5068e 21 = .ok (.invokestatic 498, 3) := by decide +kernel
theorem djJ0charAt_24 : decode cJ0_charAt_5068e 24 = .ok (.ireturn, 1) := by decide +kernel
theorem djJ0coder_0 : decode cJ0_coder_7d493 0 = .ok (.getstatic 38, 3) := by decide +kernel
theorem djJ0coder_3 : decode cJ0_coder_7d493 3 = .ok (.ifCond .eq 10, 3) := by decide +kernel
theorem djJ0coder_6 : decode cJ0_coder_7d493 6 = .ok (.aload_n 0, 1) := by decide +kernel
theorem djJ0coder_7 : decode cJ0_coder_7d493 7 = .ok (.getfield 15, 3) := by decide +kernel
theorem djJ0coder_10 : decode cJ0_coder_7d493 10 = .ok (.goto 4, 3) := by decide +kernel
theorem djJ0coder_13 : decode cJ0_coder_7d493 13 = .ok (.iconst 1, 1) := by decide +kernel
theorem djJ0coder_14 : decode cJ0_coder_7d493 14 = .ok (.ireturn, 1) := by decide +kernel
theorem djJ0isLatin1_0 : decode cJ0_isLatin1_aae02 0 = .ok (.getstatic 38, 3) := by decide +kernel
theorem djJ0isLatin1_3 : decode cJ0_isLatin1_aae02 3 = .ok (.ifCond .eq 14, 3) := by decide +kernel
theorem djJ0isLatin1_6 : decode cJ0_isLatin1_aae02 6 = .ok (.aload_n 0, 1) := by decide +kernel
theorem djJ0isLatin1_7 : decode cJ0_isLatin1_aae02 7 = .ok (.getfield 15, 3) := by decide +kernel
theorem djJ0isLatin1_10 : decode cJ0_isLatin1_aae02 10 = .ok (.ifCond .ne 7, 3) := by decide +kernel
theorem djJ0isLatin1_13 : decode cJ0_isLatin1_aae02 13 = .ok (.iconst 1, 1) := by decide +kernel
theorem djJ0isLatin1_14 : decode cJ0_isLatin1_aae02 14 = .ok (.goto 4, 3) := by decide +kernel
theorem djJ0isLatin1_17 : decode cJ0_isLatin1_aae02 17 = .ok (.iconst 0, 1) := by decide +kernel
theorem djJ0isLatin1_18 : decode cJ0_isLatin1_aae02 18 = .ok (.ireturn, 1) := by decide +kernel
theorem djJ0checkIndex_0 : decode cJ0_checkIndex_df160 0 = .ok (.iload_n 0, 1) := by decide +kernel
theorem djJ0checkIndex_1 : decode cJ0_checkIndex_df160 1 = .ok (.iload_n 1, 1) := by decide +kernel
theorem djJ0checkIndex_2 : decode cJ0_checkIndex_df160 2 = .ok (.getstatic 1053, 3) := by decide +kernel
theorem djJ0checkIndex_5 : decode cJ0_checkIndex_df160 5 = .ok (.invokestatic 1059, 3) := by decide +kernel
theorem djJ0checkIndex_8 : decode cJ0_checkIndex_df160 8 = .ok (.pop, 1) := by decide +kernel
theorem djJ0checkIndex_9 : decode cJ0_checkIndex_df160 9 = .ok (.return_, 1) := by decide +kernel
theorem djJ1charAt_0 : decode cJ1_charAt_3b067 0 = .ok (.iload_n 1, 1) := by decide +kernel
theorem djJ1charAt_1 : decode cJ1_charAt_3b067 1 = .ok (.aload_n 0, 1) := by decide +kernel
theorem djJ1charAt_2 : decode cJ1_charAt_3b067 2 = .ok (.arraylength, 1) := by decide +kernel
theorem djJ1charAt_3 : decode cJ1_charAt_3b067 3 = .ok (.invokestatic 9, 3) := by decide +kernel
theorem djJ1charAt_6 : decode cJ1_charAt_3b067 6 = .ok (.aload_n 0, 1) := by decide +kernel
theorem djJ1charAt_7 : decode cJ1_charAt_3b067 7 = .ok (.iload_n 1, 1) := by decide +kernel
theorem djJ1charAt_8 : decode cJ1_charAt_3b067 8 = .ok (.baload, 1) := by decide +kernel
theorem djJ1charAt_9 : decode cJ1_charAt_3b067 9 = .ok (.sipush 255, 3) := by decide +kernel
theorem djJ1charAt_12 : decode cJ1_charAt_3b067 12 = .ok (.iand, 1) := by decide +kernel
theorem djJ1charAt_13 : decode cJ1_charAt_3b067 13 = .ok (.i2c, 1) := by decide +kernel
theorem djJ1charAt_14 : decode cJ1_charAt_3b067 14 = .ok (.ireturn, 1) := by decide +kernel
theorem djJ3checkIndex_0 : decode cJ3_checkIndex_8e157 0 = .ok (.iload_n 0, 1) := by decide +kernel
theorem djJ3checkIndex_1 : decode cJ3_checkIndex_8e157 1 = .ok (.ifCond .lt 8, 3) := by decide +kernel
theorem djJ3checkIndex_4 : decode cJ3_checkIndex_8e157 4 = .ok (.iload_n 0, 1) := by decide +kernel
theorem djJ3checkIndex_5 : decode cJ3_checkIndex_8e157 5 = .ok (.iload_n 1, 1) := by decide +kernel
theorem djJ3checkIndex_6 : decode cJ3_checkIndex_8e157 6 = .ok (.if_icmp .lt 10, 3) := by decide +kernel
theorem djJ3checkIndex_9 : decode cJ3_checkIndex_8e157 9 = .ok (.aload_n 2, 1) := by decide +kernel
theorem djJ3checkIndex_10 : decode cJ3_checkIndex_8e157 10 = .ok (.iload_n 0, 1) := by decide +kernel
theorem djJ3checkIndex_11 : decode cJ3_checkIndex_8e157 11 = .ok (.iload_n 1, 1) := by decide +kernel
theorem djJ3checkIndex_12 : decode cJ3_checkIndex_8e157 12 = .ok (.invokestatic 95, 3) := by decide +kernel
theorem djJ3checkIndex_15 : decode cJ3_checkIndex_8e157 15 = .ok (.athrow, 1) := by decide +kernel
theorem djJ3checkIndex_16 : decode cJ3_checkIndex_8e157 16 = .ok (.iload_n 0, 1) := by decide +kernel
theorem djJ3checkIndex_17 : decode cJ3_checkIndex_8e157 17 = .ok (.ireturn, 1) := by decide +kernel
theorem am_jwa : Cond.fieldLink "java/lang/String" 38 "java/lang/String" "COMPACT_STRINGS" "Z" ∈ am_W := am_inW (ws := [_]) (by decide +kernel) _ List.mem_cons_self
theorem am_jwb : Cond.fieldLink "java/lang/String" 1053 "jdk/internal/util/Preconditions" "SIOOBE_FORMATTER" "Ljava/util/function/BiFunction;" ∈ am_W := am_inW (ws := [_]) (by decide +kernel) _ List.mem_cons_self
theorem am_jwc : Cond.fieldLink "java/lang/String" 9 "java/lang/String" "value" "[B" ∈ am_W := am_inW (ws := [_]) (by decide +kernel) _ List.mem_cons_self
theorem am_jwd : Cond.fieldLink "java/lang/String" 15 "java/lang/String" "coder" "B" ∈ am_W := am_inW (ws := [_]) (by decide +kernel) _ List.mem_cons_self
theorem am_jw1 : ∀ w ∈ [Cond.methodLink "java/lang/String" 335 yJ0_coder_7d493, Cond.instanceMethod yJ0_coder_7d493, Cond.selects yJ0_coder_7d493.cls yJ0_coder_7d493 yJ0_coder_7d493, Cond.initialized yJ0_coder_7d493.cls, Cond.code yJ0_coder_7d493 cJ0_coder_7d493 1 (some .byte)], w ∈ am_W := am_inW (by decide +kernel)
theorem am_jw2 : ∀ w ∈ [Cond.methodLink "java/lang/String" 492 yJ0_isLatin1_aae02, Cond.instanceMethod yJ0_isLatin1_aae02, Cond.selects yJ0_isLatin1_aae02.cls yJ0_isLatin1_aae02 yJ0_isLatin1_aae02, Cond.initialized yJ0_isLatin1_aae02.cls, Cond.code yJ0_isLatin1_aae02 cJ0_isLatin1_aae02 1 (some .boolean)], w ∈ am_W := am_inW (by decide +kernel)
theorem am_jw3 : ∀ w ∈ [Cond.methodLink "java/lang/String" 495 yJ1_charAt_3b067, Cond.static yJ1_charAt_3b067, Cond.initialized yJ1_charAt_3b067.cls, Cond.code yJ1_charAt_3b067 cJ1_charAt_3b067 2 (some .char)], w ∈ am_W := am_inW (by decide +kernel)
theorem am_jw4 : ∀ w ∈ [Cond.methodLink "java/lang/StringLatin1" 9 yJ0_checkIndex_df160, Cond.static yJ0_checkIndex_df160, Cond.initialized yJ0_checkIndex_df160.cls, Cond.code yJ0_checkIndex_df160 cJ0_checkIndex_df160 2 none], w ∈ am_W := am_inW (by decide +kernel)
theorem am_jw5 : ∀ w ∈ [Cond.methodLink "java/lang/String" 1059 yJ3_checkIndex_8e157, Cond.static yJ3_checkIndex_8e157, Cond.initialized yJ3_checkIndex_8e157.cls, Cond.code yJ3_checkIndex_8e157 cJ3_checkIndex_8e157 3 (some .int)], w ∈ am_W := am_inW (by decide +kernel)
theorem am_jw6 : ∀ w ∈ [Cond.instanceMethod yJ0_length_8abf5, Cond.selects yJ0_length_8abf5.cls yJ0_length_8abf5 yJ0_length_8abf5, Cond.initialized yJ0_length_8abf5.cls, Cond.code yJ0_length_8abf5 cJ0_length_8abf5 1 (some .int)], w ∈ am_W := am_inW (by decide +kernel)
theorem am_jw7 : ∀ w ∈ [Cond.instanceMethod yJ0_charAt_5068e, Cond.selects yJ0_charAt_5068e.cls yJ0_charAt_5068e yJ0_charAt_5068e, Cond.initialized yJ0_charAt_5068e.cls, Cond.code yJ0_charAt_5068e cJ0_charAt_5068e 2 (some .char)], w ∈ am_W := am_inW (by decide +kernel)
theorem am_jnil {G : am_G} : am_lo G [] := fun _ h => by cases h
section AMT1
variable {l : Launch} {G : am_G} {M : am_M}
theorem am_j_coder (d : Nat) : Met l yJ0_coder_7d493 (Cond.code yJ0_coder_7d493 cJ0_coder_7d493 1 (some .byte) :: am_W) (am_rm d 0 0) (am_Pj G M [.ref (am_gt G)]) (am_Qj G M (some (.int 0))) 0 0 (am_fr G) := by
  refine am_j_start (by decide) (Nat.le_refl _) fun p e s m args below meth c ls hx hb hml hown hts hr hlk hM hW hl => ?_
  have hS := am_jS hM hM (locs := []) am_jnil
  obtain ⟨hO, hC, hV, hB, hZ, hq⟩ := am_jt hM hW
  have hown : s.vm.findClass "java/lang/String" = some m.cls := hown
  refine va_gets hx hb hZ hS hown (hts _ am_jwa) (fun x h => h) djJ0coder_0 ?_
  refine lv_if_eq (tgt := 13) hx hb djJ0coder_3 (by decide) (fun h => absurd h (by decide)) (fun _ => ?_)
  refine lv_aload_n hx hb djJ0coder_6 rfl (lv_at hl 0 rfl) ?_
  refine vk_getf hx hb hC hS hown (hts _ am_jwd) (fun x h => h) djJ0coder_7 ?_
  refine lv_goto (tgt := 14) hx hb djJ0coder_10 (by decide) ?_
  exact W.zret hx hb hr rfl (fun t ht _ => ⟨rfl, by rw [ht]; exact hM⟩) am_jnil djJ0coder_14 hlk
theorem am_j_latin (d : Nat) : Met l yJ0_isLatin1_aae02 (Cond.code yJ0_isLatin1_aae02 cJ0_isLatin1_aae02 1 (some .boolean) :: am_W) (am_rm d 0 0) (am_Pj G M [.ref (am_gt G)]) (am_Qj G M (some (.int 1))) 0 0 (am_fr G) := by
  refine am_j_start (by decide) (Nat.le_refl _) fun p e s m args below meth c ls hx hb hml hown hts hr hlk hM hW hl => ?_
  have hS := am_jS hM hM (locs := []) am_jnil
  obtain ⟨hO, hC, hV, hB, hZ, hq⟩ := am_jt hM hW
  have hown : s.vm.findClass "java/lang/String" = some m.cls := hown
  refine va_gets hx hb hZ hS hown (hts _ am_jwa) (fun x h => h) djJ0isLatin1_0 ?_
  refine lv_if_eq (tgt := 17) hx hb djJ0isLatin1_3 (by decide) (fun h => absurd h (by decide)) (fun _ => ?_)
  refine lv_aload_n hx hb djJ0isLatin1_6 rfl (lv_at hl 0 rfl) ?_
  refine vk_getf hx hb hC hS hown (hts _ am_jwd) (fun x h => h) djJ0isLatin1_7 ?_
  refine lv_if_ne (tgt := 17) hx hb djJ0isLatin1_10 (by decide) (fun h => absurd rfl h) (fun _ => ?_)
  refine lv_iconst (v := 1) hx hb djJ0isLatin1_13 (by decide) ?_
  refine lv_goto (tgt := 18) hx hb djJ0isLatin1_14 (by decide) ?_
  exact W.zret hx hb hr (by decide) (fun t ht _ => ⟨rfl, by rw [ht]; exact hM⟩) am_jnil djJ0isLatin1_18 hlk
theorem am_j_pre (d : Nat) {i n : Int32} {x : Value} (hi : ¬ i < 0) (hn : i < n) (hx1 : x.category = 1) : Met l yJ3_checkIndex_8e157 (Cond.code yJ3_checkIndex_8e157 cJ3_checkIndex_8e157 3 (some .int) :: am_W) (am_rm d 0 0) (am_Pj G M [.int i, .int n, x]) (am_Qj G M (some (.int i))) 0 0 (am_fr G) := by
  refine am_j_start (by decide) (by simp [lg_sl, hx1, show ∀ z, (Value.int z).category = 1 from fun _ => rfl]) fun p e s m args below meth c ls hx hb hml hown hts hr hlk hM hW hl => ?_
  have hl0 : lv_has ls 3 [(0, .int i), (1, .int n), (2, x)] := hl
  refine lv_iload_n hx hb djJ3checkIndex_0 rfl (lv_at hl0 0 rfl) ?_
  refine lv_if_lt (tgt := 9) hx hb djJ3checkIndex_1 (by decide) (fun h => absurd h hi) (fun _ => ?_)
  refine lv_iload_n hx hb djJ3checkIndex_4 rfl (lv_at hl0 0 rfl) ?_
  refine lv_iload_n hx hb djJ3checkIndex_5 rfl (lv_at hl0 1 rfl) ?_
  refine lv_icmp_lt (tgt := 16) hx hb djJ3checkIndex_6 (by decide) (fun _ => ?_) (fun h => absurd hn h)
  refine lv_iload_n hx hb djJ3checkIndex_16 rfl (lv_at hl0 0 rfl) ?_
  exact W.zret hx hb hr rfl (fun t ht _ => ⟨rfl, by rw [ht]; exact hM⟩) am_jnil djJ3checkIndex_17 hlk
theorem am_j_chk (d : Nat) {i n : Int32} (hi : ¬ i < 0) (hn : i < n) : Met l yJ0_checkIndex_df160 (Cond.code yJ0_checkIndex_df160 cJ0_checkIndex_df160 2 none :: am_W) (am_rm (d + 1) 0 0) (am_Pj G M [.int i, .int n]) (am_Qj G M none) 0 0 (am_fr G) := by
  refine am_j_start (by decide) (Nat.le_refl 2) fun p e s m args below meth c ls hx hb hml hown hts hr hlk hM hW hl => ?_
  have hl0 : lv_has ls 2 [(0, .int i), (1, .int n)] := hl
  have hS := am_jS hM hM (locs := []) am_jnil
  obtain ⟨hO, hC, hV, hB, hZ, hq⟩ := am_jt hM hW
  have hown : s.vm.findClass "java/lang/String" = some m.cls := hown
  refine lv_iload_n hx hb djJ0checkIndex_0 rfl (lv_at hl0 0 rfl) ?_
  refine lv_iload_n hx hb djJ0checkIndex_1 rfl (lv_at hl0 1 rfl) ?_
  have go : ∀ x : Value, x.category = 1 → W p l e (am_rm (d + 1) 0 0) s m args below meth c s.heap [] 0 0 (MQ below (am_Qj G M none) args s 0 0 (am_fr G)) (F0 m 5 ls [x, .int n, .int i]) := by
    intro x hx1
    refine am_j_S (n := 3) (rest := []) (am_j_pre d hi hn hx1) hx hb hml hl.1 hown hts hM hW am_jnil am_jw5 (by decide +kernel) rfl (Nat.le_refl _) (by show 8 + (3 + 11) + 130 * d ≤ 130 * (d + 1); omega) (Nat.le_refl _) (Nat.le_refl _) (by decide) djJ0checkIndex_5 rfl (fun H1 locs1 hM1 hlo1 => ?_)
    refine lv_pop hx hb djJ0checkIndex_8 rfl ?_
    exact W.vret hx hb hr (fun t ht _ => ⟨rfl, by rw [ht]; exact hM1⟩) hlo1 djJ0checkIndex_9 hlk
  rcases hq with hq | ⟨t, hq⟩
  · exact va_gets hx hb hq hS hown (hts _ am_jwb) (fun x h => h) djJ0checkIndex_2 (go _ rfl)
  · exact va_gets hx hb hq hS hown (hts _ am_jwb) (fun x h => h) djJ0checkIndex_2 (go _ rfl)
theorem am_jch : ∀ k, k < am_words.length → ((((am_words.toList.map (fun ch => Int32.ofNat ch.toNat)).getD k 0) &&& 255).toUInt32 % 65536).toInt32 = am_ch k ∧ narrow .char (.int (am_ch k)) = .int (am_ch k) := by decide +kernel
theorem am_jwl : am_words.length = 189 := by decide +kernel
theorem am_jdrop {i : Int32} (hin : ¬ (i < 0 ∨ am_words.length ≤ i.toNatClampNeg)) : ¬ i < 0 ∧ i < nI am_words.length := by
  have h0 : ¬ i < 0 := fun h => hin (Or.inl h)
  have h1 : i.toNatClampNeg < am_words.length := Nat.not_le.mp fun h => hin (Or.inr h)
  refine ⟨h0, ?_⟩
  rw [am_jwl] at h1 ⊢
  rw [Int32.lt_iff_toInt_lt]
  have h2 : (nI 189).toInt = 189 := by decide
  rw [h2]
  have h3 : i.toInt.toNat < 189 := h1
  omega
theorem am_j_l1 (d : Nat) {i : Int32} (hin : ¬ (i < 0 ∨ am_words.length ≤ i.toNatClampNeg)) : Met l yJ1_charAt_3b067 (Cond.code yJ1_charAt_3b067 cJ1_charAt_3b067 2 (some .char) :: am_W) (am_rm (d + 2) 0 0) (am_Pj G M [.ref (am_gv G), .int i]) (am_Qj G M (some (.int (am_ch i.toNatClampNeg)))) 0 0 (am_fr G) := by
  refine am_j_start (by decide) (Nat.le_refl 2) fun p e s m args below meth c ls hx hb hml hown hts hr hlk hM hW hl => ?_
  have hl0 : lv_has ls 2 [(0, .ref (am_gv G)), (1, .int i)] := hl
  have hS := am_jS hM hM (locs := []) am_jnil
  obtain ⟨hO, hC, hV, hB, hZ, hq⟩ := am_jt hM hW
  obtain ⟨hi0, hi1⟩ := am_jdrop hin
  have hlt : i.toNatClampNeg < am_words.length := Nat.not_le.mp fun h => hin (Or.inr h)
  obtain ⟨hc1, hc2⟩ := am_jch _ hlt
  refine lv_iload_n hx hb djJ1charAt_0 rfl (lv_at hl0 1 rfl) ?_
  refine lv_aload_n hx hb djJ1charAt_1 rfl (lv_at hl0 0 rfl) ?_
  refine va_tlen hx hb hB hS (v := nI am_words.length) rfl djJ1charAt_2 ?_
  refine am_j_S (n := 2) (rest := []) (am_j_chk d hi0 hi1) hx hb hml hl.1 hown hts hM hW am_jnil am_jw4 (by decide +kernel) rfl (Nat.le_refl _) (by show 8 + (2 + 11) + 130 * (d + 1) ≤ 130 * (d + 2); omega) (Nat.le_refl _) (Nat.le_refl _) (by decide) djJ1charAt_3 rfl (fun H1 locs1 hM1 hlo1 => ?_)
  have hS1 := am_jS hM hM1 hlo1
  refine lv_aload_n hx hb djJ1charAt_6 rfl (lv_at hl0 0 rfl) ?_
  refine lv_iload_n hx hb djJ1charAt_7 rfl (lv_at hl0 1 rfl) ?_
  refine va_tb hx hb hB hS1 hin rfl djJ1charAt_8 ?_
  refine lv_sipush (v := 255) hx hb djJ1charAt_9 (by decide) ?_
  refine lv_iand hx hb djJ1charAt_12 ?_
  refine lv_i2c hx hb djJ1charAt_13 hc1 ?_
  exact W.zret hx hb hr hc2 (fun t ht _ => ⟨rfl, by rw [ht]; exact hM1⟩) hlo1 djJ1charAt_14 hlk
theorem am_j_chr (d : Nat) {i : Int32} (hin : ¬ (i < 0 ∨ am_words.length ≤ i.toNatClampNeg)) : Met l yJ0_charAt_5068e (Cond.code yJ0_charAt_5068e cJ0_charAt_5068e 2 (some .char) :: am_W) (am_rm (d + 3) 0 0) (am_Pj G M [.ref (am_gt G), .int i]) (am_Qj G M (some (.int (am_ch i.toNatClampNeg)))) 0 0 (am_fr G) := by
  refine am_j_start (by decide) (Nat.le_refl 2) fun p e s m args below meth c ls hx hb hml hown hts hr hlk hM hW hl => ?_
  have hl0 : lv_has ls 2 [(0, .ref (am_gt G)), (1, .int i)] := hl
  have hS := am_jS hM hM (locs := []) am_jnil
  obtain ⟨hO, hC, hV, hB, hZ, hq⟩ := am_jt hM hW
  have hown : s.vm.findClass "java/lang/String" = some m.cls := hown
  have hlt : i.toNatClampNeg < am_words.length := Nat.not_le.mp fun h => hin (Or.inr h)
  obtain ⟨hc1, hc2⟩ := am_jch _ hlt
  refine lv_aload_n hx hb djJ0charAt_0 rfl (lv_at hl0 0 rfl) ?_
  refine am_j_V (n := 0) (av := []) (rest := []) (am_j_latin (d + 2)) rfl hx hb hml hl.1 hown hts hM hW am_jnil am_jw2 (by decide +kernel) rfl (Nat.le_refl _) (by show 8 + (1 + 11) + 130 * (d + 2) ≤ 130 * (d + 3); omega) (Nat.le_refl _) (Nat.le_refl _) (by decide) djJ0charAt_1 rfl (fun H1 locs1 hM1 hlo1 => ?_)
  have hS1 := am_jS hM hM1 hlo1
  refine lv_if_eq (tgt := 16) hx hb djJ0charAt_4 (by decide) (fun h => absurd h (by decide)) (fun _ => ?_)
  refine lv_aload_n hx hb djJ0charAt_7 rfl (lv_at hl0 0 rfl) ?_
  refine vk_getf hx hb hV hS1 hown (hts _ am_jwc) (fun x h => h) djJ0charAt_8 ?_
  refine lv_iload_n hx hb djJ0charAt_11 rfl (lv_at hl0 1 rfl) ?_
  refine am_j_S (n := 2) (rest := []) (am_j_l1 d hin) hx hb hml hl.1 hown hts hM1 hW hlo1 am_jw3 (by decide +kernel) rfl (Nat.le_refl _) (by show 8 + (2 + 11) + 130 * (d + 2) ≤ 130 * (d + 3); omega) (Nat.le_refl _) (Nat.le_refl _) (by decide) djJ0charAt_12 rfl (fun H2 locs2 hM2 hlo2 => ?_)
  exact W.zret hx hb hr hc2 (fun t ht _ => ⟨rfl, by rw [ht]; exact hM2⟩) hlo2 djJ0charAt_15 hlk
theorem am_j_len (d : Nat) : Met l yJ0_length_8abf5 (Cond.code yJ0_length_8abf5 cJ0_length_8abf5 1 (some .int) :: am_W) (am_rm (d + 1) 0 0) (am_Pj G M [.ref (am_gt G)]) (am_Qj G M (some (.int (nI am_words.length)))) 0 0 (am_fr G) := by
  refine am_j_start (by decide) (Nat.le_refl _) fun p e s m args below meth c ls hx hb hml hown hts hr hlk hM hW hl => ?_
  have hl0 : lv_has ls 1 [(0, .ref (am_gt G))] := hl
  have hS := am_jS hM hM (locs := []) am_jnil
  obtain ⟨hO, hC, hV, hB, hZ, hq⟩ := am_jt hM hW
  have hown : s.vm.findClass "java/lang/String" = some m.cls := hown
  refine lv_aload_n hx hb djJ0length_0 rfl (lv_at hl0 0 rfl) ?_
  refine vk_getf hx hb hV hS hown (hts _ am_jwc) (fun x h => h) djJ0length_1 ?_
  refine va_tlen hx hb hB hS (v := nI am_words.length) rfl djJ0length_4 ?_
  refine lv_aload_n hx hb djJ0length_5 rfl (lv_at hl0 0 rfl) ?_
  refine am_j_V (n := 0) (av := []) (rest := [.int (nI am_words.length)]) (am_j_coder d) rfl hx hb hml hl.1 hown hts hM hW am_jnil am_jw1 (by decide +kernel) rfl (Nat.le_refl _) (by show 8 + (1 + 11) + 130 * d ≤ 130 * (d + 1); omega) (Nat.le_refl _) (Nat.le_refl _) (by decide) djJ0length_6 rfl (fun H1 locs1 hM1 hlo1 => ?_)
  refine lv_ishr hx hb djJ0length_9 ?_
  have e1 : nI am_words.length >>> ((0 : Int32) &&& 31) = nI am_words.length := by rw [am_jwl]; decide
  rw [e1]
  exact W.zret hx hb hr rfl (fun t ht _ => ⟨rfl, by rw [ht]; exact hM1⟩) hlo1 djJ0length_10 hlk
end AMT1
section AMT2
variable {p : Program} {l : Launch} {e : Env} {R : Room} {s : State} {m : MethodId} {args : Array Value} {below : List Frame} {meth : Method} {c : Code} {H : Heap} {locs : List Loc} {cells slots : Nat} {Q : State → Prop}
variable {cc : ByteArray} {pc nL : Nat} {ls : Array Slot} {rest : List Value} {G : am_G} {M : am_M} {own : String}
theorem am_r_len (hx : p.tables.exec = Jvm.exec) (hb : c.code = cc) (hml : c.maxLocals = nL) (hls : ls.size = nL) (hts : ∀ w ∈ am_W, w.before args s = true) (hown : s.vm.findClass own = some m.cls) (hW : am_Wd G s) (hM : am_Mm G M H) (hlo : am_lo G locs) {index : Nat} (hlink : Cond.methodLink own index yJ0_length_8abf5 ∈ am_W) (hfr : 8 ≤ R.frames) (hlc : 1000 ≤ R.locals) (hcl : cells ≤ R.cells) (hsl : slots ≤ R.slots)
    (hrest : (rest.map fun v => v.category).sum ≤ 8) (hdg : decode cc pc = .ok (.invokevirtual index, 3))
    (kk : ∀ (H1 : Heap) (locs1 : List Loc), am_Mm G M H1 → am_lo G locs1 → W p l e R s m args below meth c H1 locs1 cells slots Q (F0 m (pc + 3) ls (.int (nI am_words.length) :: rest))) : W p l e R s m args below meth c H locs cells slots Q (F0 m pc ls (.ref (am_gt G) :: rest)) := by
  refine am_j_V (n := 0) (av := []) (rest := rest) (am_j_len 1) rfl hx hb hml hls hown hts hM hW hlo (fun w hw => ?_) (by decide +kernel) rfl (by omega) (by omega) hcl hsl hrest hdg rfl kk
  rcases List.mem_cons.mp hw with h | h
  · rw [h]; exact hlink
  · exact am_jw6 w h
theorem am_r_chr (hx : p.tables.exec = Jvm.exec) (hb : c.code = cc) (hml : c.maxLocals = nL) (hls : ls.size = nL) (hts : ∀ w ∈ am_W, w.before args s = true) (hown : s.vm.findClass own = some m.cls) (hW : am_Wd G s) (hM : am_Mm G M H) (hlo : am_lo G locs) {index : Nat} (hlink : Cond.methodLink own index yJ0_charAt_5068e ∈ am_W) (hfr : 8 ≤ R.frames) (hlc : 1000 ≤ R.locals) (hcl : cells ≤ R.cells) (hsl : slots ≤ R.slots)
    {i : Int32} (hin : ¬ (i < 0 ∨ am_words.length ≤ i.toNatClampNeg)) (hrest : (rest.map fun v => v.category).sum ≤ 8) (hdg : decode cc pc = .ok (.invokevirtual index, 3))
    (kk : ∀ (H1 : Heap) (locs1 : List Loc), am_Mm G M H1 → am_lo G locs1 → W p l e R s m args below meth c H1 locs1 cells slots Q (F0 m (pc + 3) ls (.int (am_ch i.toNatClampNeg) :: rest))) : W p l e R s m args below meth c H locs cells slots Q (F0 m pc ls (.int i :: .ref (am_gt G) :: rest)) := by
  refine am_j_V (n := 1) (av := [.int i]) (rest := rest) (am_j_chr 1 hin) rfl hx hb hml hls hown hts hM hW hlo (fun w hw => ?_) (by decide +kernel) rfl (by omega) (by omega) hcl hsl hrest hdg rfl kk
  rcases List.mem_cons.mp hw with h | h
  · rw [h]; exact hlink
  · exact am_jw7 w h
end AMT2
end
