section
-- ===== PART A: goes FIRST, ahead of the names: the tables' words, and 'selects' of the private methods out of them =====
/-- a private method of a class that the tables say can be made, by its rows of tables_1 -/
def lw_okq (q : MethodName × Nat) : Prop := (q.1.cls ≠ "java/lang/invoke/MethodHandle" ∧ q.1.cls ≠ "java/lang/invoke/VarHandle") ∧ Cond.instantiable q.1.cls q.2 ∈ tables_1 ∧ Cond.privateMethod q.1 ∈ tables_1 ∧ Cond.instanceMethod q.1 ∈ tables_1
theorem lw_p0 : lw_okq (⟨"FourOnOne", "refuse", "(I)I"⟩, 16) := ⟨⟨by decide +kernel, by decide +kernel⟩, List.mem_of_getElem? (i := 16) (by decide +kernel), List.mem_of_getElem? (i := 377) (by decide +kernel), List.mem_of_getElem? (i := 378) (by decide +kernel)⟩
theorem lw_p1 : lw_okq (⟨"FourOnOne", "feedNumber", "(I)V"⟩, 16) := ⟨⟨by decide +kernel, by decide +kernel⟩, List.mem_of_getElem? (i := 16) (by decide +kernel), List.mem_of_getElem? (i := 381) (by decide +kernel), List.mem_of_getElem? (i := 382) (by decide +kernel)⟩
theorem lw_p2 : lw_okq (⟨"FourOnOne", "takeTape", "()I"⟩, 16) := ⟨⟨by decide +kernel, by decide +kernel⟩, List.mem_of_getElem? (i := 16) (by decide +kernel), List.mem_of_getElem? (i := 393) (by decide +kernel), List.mem_of_getElem? (i := 394) (by decide +kernel)⟩
theorem lw_p3 : lw_okq (⟨"FourOnOne$Reader", "begin", "(I[I)V"⟩, 17) := ⟨⟨by decide +kernel, by decide +kernel⟩, List.mem_of_getElem? (i := 24) (by decide +kernel), List.mem_of_getElem? (i := 405) (by decide +kernel), List.mem_of_getElem? (i := 406) (by decide +kernel)⟩
theorem lw_p4 : lw_okq (⟨"FourOnOne$Reader", "next", "()V"⟩, 17) := ⟨⟨by decide +kernel, by decide +kernel⟩, List.mem_of_getElem? (i := 24) (by decide +kernel), List.mem_of_getElem? (i := 412) (by decide +kernel), List.mem_of_getElem? (i := 413) (by decide +kernel)⟩
theorem lw_p5 : lw_okq (⟨"FourOnOne$Reader", "knowWord", "()V"⟩, 17) := ⟨⟨by decide +kernel, by decide +kernel⟩, List.mem_of_getElem? (i := 24) (by decide +kernel), List.mem_of_getElem? (i := 416) (by decide +kernel), List.mem_of_getElem? (i := 417) (by decide +kernel)⟩
theorem lw_p6 : lw_okq (⟨"FourOnOne$Reader", "fail", "(II)V"⟩, 17) := ⟨⟨by decide +kernel, by decide +kernel⟩, List.mem_of_getElem? (i := 24) (by decide +kernel), List.mem_of_getElem? (i := 420) (by decide +kernel), List.mem_of_getElem? (i := 421) (by decide +kernel)⟩
theorem lw_p7 : lw_okq (⟨"FourOnOne$Reader", "readStatement", "()V"⟩, 17) := ⟨⟨by decide +kernel, by decide +kernel⟩, List.mem_of_getElem? (i := 24) (by decide +kernel), List.mem_of_getElem? (i := 424) (by decide +kernel), List.mem_of_getElem? (i := 425) (by decide +kernel)⟩
theorem lw_p8 : lw_okq (⟨"FourOnOne$Reader", "takeNewName", "(II)I"⟩, 17) := ⟨⟨by decide +kernel, by decide +kernel⟩, List.mem_of_getElem? (i := 24) (by decide +kernel), List.mem_of_getElem? (i := 428) (by decide +kernel), List.mem_of_getElem? (i := 429) (by decide +kernel)⟩
theorem lw_p9 : lw_okq (⟨"FourOnOne$Reader", "nameHere", "()I"⟩, 17) := ⟨⟨by decide +kernel, by decide +kernel⟩, List.mem_of_getElem? (i := 24) (by decide +kernel), List.mem_of_getElem? (i := 432) (by decide +kernel), List.mem_of_getElem? (i := 433) (by decide +kernel)⟩
theorem lw_p10 : lw_okq (⟨"FourOnOne$Reader", "readFilm", "()V"⟩, 17) := ⟨⟨by decide +kernel, by decide +kernel⟩, List.mem_of_getElem? (i := 24) (by decide +kernel), List.mem_of_getElem? (i := 440) (by decide +kernel), List.mem_of_getElem? (i := 441) (by decide +kernel)⟩
theorem lw_p11 : lw_okq (⟨"FourOnOne$Reader", "takeWord", "(I)V"⟩, 17) := ⟨⟨by decide +kernel, by decide +kernel⟩, List.mem_of_getElem? (i := 24) (by decide +kernel), List.mem_of_getElem? (i := 444) (by decide +kernel), List.mem_of_getElem? (i := 445) (by decide +kernel)⟩
theorem lw_p12 : lw_okq (⟨"FourOnOne$Reader", "isWord", "(I)Z"⟩, 17) := ⟨⟨by decide +kernel, by decide +kernel⟩, List.mem_of_getElem? (i := 24) (by decide +kernel), List.mem_of_getElem? (i := 448) (by decide +kernel), List.mem_of_getElem? (i := 449) (by decide +kernel)⟩
theorem lw_p13 : lw_okq (⟨"FourOnOne$Reader", "takeNumber", "(II)I"⟩, 17) := ⟨⟨by decide +kernel, by decide +kernel⟩, List.mem_of_getElem? (i := 24) (by decide +kernel), List.mem_of_getElem? (i := 452) (by decide +kernel), List.mem_of_getElem? (i := 453) (by decide +kernel)⟩
theorem lw_p14 : lw_okq (⟨"FourOnOne$Reader", "takeKnownName", "(I)I"⟩, 17) := ⟨⟨by decide +kernel, by decide +kernel⟩, List.mem_of_getElem? (i := 24) (by decide +kernel), List.mem_of_getElem? (i := 456) (by decide +kernel), List.mem_of_getElem? (i := 457) (by decide +kernel)⟩
theorem lw_p15 : lw_okq (⟨"FourOnOne$Reader", "readPerson", "()V"⟩, 17) := ⟨⟨by decide +kernel, by decide +kernel⟩, List.mem_of_getElem? (i := 24) (by decide +kernel), List.mem_of_getElem? (i := 460) (by decide +kernel), List.mem_of_getElem? (i := 461) (by decide +kernel)⟩
def lw_privs_1 : List (MethodName × Nat) := [(⟨"FourOnOne", "refuse", "(I)I"⟩, 16), (⟨"FourOnOne", "feedNumber", "(I)V"⟩, 16), (⟨"FourOnOne", "takeTape", "()I"⟩, 16), (⟨"FourOnOne$Reader", "begin", "(I[I)V"⟩, 17), (⟨"FourOnOne$Reader", "next", "()V"⟩, 17), (⟨"FourOnOne$Reader", "knowWord", "()V"⟩, 17), (⟨"FourOnOne$Reader", "fail", "(II)V"⟩, 17), (⟨"FourOnOne$Reader", "readStatement", "()V"⟩, 17), (⟨"FourOnOne$Reader", "takeNewName", "(II)I"⟩, 17), (⟨"FourOnOne$Reader", "nameHere", "()I"⟩, 17), (⟨"FourOnOne$Reader", "readFilm", "()V"⟩, 17), (⟨"FourOnOne$Reader", "takeWord", "(I)V"⟩, 17), (⟨"FourOnOne$Reader", "isWord", "(I)Z"⟩, 17), (⟨"FourOnOne$Reader", "takeNumber", "(II)I"⟩, 17), (⟨"FourOnOne$Reader", "takeKnownName", "(I)I"⟩, 17), (⟨"FourOnOne$Reader", "readPerson", "()V"⟩, 17)]
theorem lw_r1 : ∀ q ∈ lw_privs_1, lw_okq q := List.forall_mem_cons.mpr ⟨lw_p0, List.forall_mem_cons.mpr ⟨lw_p1, List.forall_mem_cons.mpr ⟨lw_p2, List.forall_mem_cons.mpr ⟨lw_p3, List.forall_mem_cons.mpr ⟨lw_p4, List.forall_mem_cons.mpr ⟨lw_p5, List.forall_mem_cons.mpr ⟨lw_p6, List.forall_mem_cons.mpr ⟨lw_p7, List.forall_mem_cons.mpr ⟨lw_p8, List.forall_mem_cons.mpr ⟨lw_p9, List.forall_mem_cons.mpr ⟨lw_p10, List.forall_mem_cons.mpr ⟨lw_p11, List.forall_mem_cons.mpr ⟨lw_p12, List.forall_mem_cons.mpr ⟨lw_p13, List.forall_mem_cons.mpr ⟨lw_p14, List.forall_mem_cons.mpr ⟨lw_p15, fun _ h => absurd h List.not_mem_nil⟩⟩⟩⟩⟩⟩⟩⟩⟩⟩⟩⟩⟩⟩⟩⟩
theorem lw_p16 : lw_okq (⟨"FourOnOne$Reader", "readLikes", "()V"⟩, 17) := ⟨⟨by decide +kernel, by decide +kernel⟩, List.mem_of_getElem? (i := 24) (by decide +kernel), List.mem_of_getElem? (i := 464) (by decide +kernel), List.mem_of_getElem? (i := 465) (by decide +kernel)⟩
theorem lw_p17 : lw_okq (⟨"FourOnOne$Reader", "readPress", "()V"⟩, 17) := ⟨⟨by decide +kernel, by decide +kernel⟩, List.mem_of_getElem? (i := 24) (by decide +kernel), List.mem_of_getElem? (i := 468) (by decide +kernel), List.mem_of_getElem? (i := 469) (by decide +kernel)⟩
theorem lw_p18 : lw_okq (⟨"FourOnOne$Reader", "beginFormula", "(II)I"⟩, 17) := ⟨⟨by decide +kernel, by decide +kernel⟩, List.mem_of_getElem? (i := 24) (by decide +kernel), List.mem_of_getElem? (i := 472) (by decide +kernel), List.mem_of_getElem? (i := 473) (by decide +kernel)⟩
theorem lw_p19 : lw_okq (⟨"FourOnOne$Reader", "readSum", "()V"⟩, 17) := ⟨⟨by decide +kernel, by decide +kernel⟩, List.mem_of_getElem? (i := 24) (by decide +kernel), List.mem_of_getElem? (i := 476) (by decide +kernel), List.mem_of_getElem? (i := 477) (by decide +kernel)⟩
theorem lw_p20 : lw_okq (⟨"FourOnOne$Reader", "readProduct", "()V"⟩, 17) := ⟨⟨by decide +kernel, by decide +kernel⟩, List.mem_of_getElem? (i := 24) (by decide +kernel), List.mem_of_getElem? (i := 480) (by decide +kernel), List.mem_of_getElem? (i := 481) (by decide +kernel)⟩
theorem lw_p21 : lw_okq (⟨"FourOnOne$Reader", "readPart", "()V"⟩, 17) := ⟨⟨by decide +kernel, by decide +kernel⟩, List.mem_of_getElem? (i := 24) (by decide +kernel), List.mem_of_getElem? (i := 484) (by decide +kernel), List.mem_of_getElem? (i := 485) (by decide +kernel)⟩
theorem lw_p22 : lw_okq (⟨"FourOnOne$Reader", "put", "(I)V"⟩, 17) := ⟨⟨by decide +kernel, by decide +kernel⟩, List.mem_of_getElem? (i := 24) (by decide +kernel), List.mem_of_getElem? (i := 488) (by decide +kernel), List.mem_of_getElem? (i := 489) (by decide +kernel)⟩
theorem lw_p23 : lw_okq (⟨"FourOnOne$Reader", "isSign", "(C)Z"⟩, 17) := ⟨⟨by decide +kernel, by decide +kernel⟩, List.mem_of_getElem? (i := 24) (by decide +kernel), List.mem_of_getElem? (i := 492) (by decide +kernel), List.mem_of_getElem? (i := 493) (by decide +kernel)⟩
theorem lw_p24 : lw_okq (⟨"FourOnOne$Reader", "opens", "()Z"⟩, 17) := ⟨⟨by decide +kernel, by decide +kernel⟩, List.mem_of_getElem? (i := 24) (by decide +kernel), List.mem_of_getElem? (i := 496) (by decide +kernel), List.mem_of_getElem? (i := 497) (by decide +kernel)⟩
theorem lw_p25 : lw_okq (⟨"FourOnOne$Reader", "takeSign", "(C)V"⟩, 17) := ⟨⟨by decide +kernel, by decide +kernel⟩, List.mem_of_getElem? (i := 24) (by decide +kernel), List.mem_of_getElem? (i := 500) (by decide +kernel), List.mem_of_getElem? (i := 501) (by decide +kernel)⟩
theorem lw_p26 : lw_okq (⟨"FourOnOne$Reader", "readLesserOrGreater", "(I)V"⟩, 17) := ⟨⟨by decide +kernel, by decide +kernel⟩, List.mem_of_getElem? (i := 24) (by decide +kernel), List.mem_of_getElem? (i := 504) (by decide +kernel), List.mem_of_getElem? (i := 505) (by decide +kernel)⟩
theorem lw_p27 : lw_okq (⟨"FourOnOne$Reader", "isFactHere", "()Z"⟩, 17) := ⟨⟨by decide +kernel, by decide +kernel⟩, List.mem_of_getElem? (i := 24) (by decide +kernel), List.mem_of_getElem? (i := 508) (by decide +kernel), List.mem_of_getElem? (i := 509) (by decide +kernel)⟩
theorem lw_p28 : lw_okq (⟨"FourOnOne$Reader", "readTest", "()V"⟩, 17) := ⟨⟨by decide +kernel, by decide +kernel⟩, List.mem_of_getElem? (i := 24) (by decide +kernel), List.mem_of_getElem? (i := 512) (by decide +kernel), List.mem_of_getElem? (i := 513) (by decide +kernel)⟩
theorem lw_p29 : lw_okq (⟨"FourOnOne$Reader", "readBoth", "()V"⟩, 17) := ⟨⟨by decide +kernel, by decide +kernel⟩, List.mem_of_getElem? (i := 24) (by decide +kernel), List.mem_of_getElem? (i := 516) (by decide +kernel), List.mem_of_getElem? (i := 517) (by decide +kernel)⟩
theorem lw_p30 : lw_okq (⟨"FourOnOne$Reader", "readFact", "()V"⟩, 17) := ⟨⟨by decide +kernel, by decide +kernel⟩, List.mem_of_getElem? (i := 24) (by decide +kernel), List.mem_of_getElem? (i := 520) (by decide +kernel), List.mem_of_getElem? (i := 521) (by decide +kernel)⟩
theorem lw_p31 : lw_okq (⟨"FourOnOne", "forgetActs", "()V"⟩, 16) := ⟨⟨by decide +kernel, by decide +kernel⟩, List.mem_of_getElem? (i := 16) (by decide +kernel), List.mem_of_getElem? (i := 528) (by decide +kernel), List.mem_of_getElem? (i := 529) (by decide +kernel)⟩
def lw_privs_2 : List (MethodName × Nat) := [(⟨"FourOnOne$Reader", "readLikes", "()V"⟩, 17), (⟨"FourOnOne$Reader", "readPress", "()V"⟩, 17), (⟨"FourOnOne$Reader", "beginFormula", "(II)I"⟩, 17), (⟨"FourOnOne$Reader", "readSum", "()V"⟩, 17), (⟨"FourOnOne$Reader", "readProduct", "()V"⟩, 17), (⟨"FourOnOne$Reader", "readPart", "()V"⟩, 17), (⟨"FourOnOne$Reader", "put", "(I)V"⟩, 17), (⟨"FourOnOne$Reader", "isSign", "(C)Z"⟩, 17), (⟨"FourOnOne$Reader", "opens", "()Z"⟩, 17), (⟨"FourOnOne$Reader", "takeSign", "(C)V"⟩, 17), (⟨"FourOnOne$Reader", "readLesserOrGreater", "(I)V"⟩, 17), (⟨"FourOnOne$Reader", "isFactHere", "()Z"⟩, 17), (⟨"FourOnOne$Reader", "readTest", "()V"⟩, 17), (⟨"FourOnOne$Reader", "readBoth", "()V"⟩, 17), (⟨"FourOnOne$Reader", "readFact", "()V"⟩, 17), (⟨"FourOnOne", "forgetActs", "()V"⟩, 16)]
theorem lw_r2 : ∀ q ∈ lw_privs_2, lw_okq q := List.forall_mem_cons.mpr ⟨lw_p16, List.forall_mem_cons.mpr ⟨lw_p17, List.forall_mem_cons.mpr ⟨lw_p18, List.forall_mem_cons.mpr ⟨lw_p19, List.forall_mem_cons.mpr ⟨lw_p20, List.forall_mem_cons.mpr ⟨lw_p21, List.forall_mem_cons.mpr ⟨lw_p22, List.forall_mem_cons.mpr ⟨lw_p23, List.forall_mem_cons.mpr ⟨lw_p24, List.forall_mem_cons.mpr ⟨lw_p25, List.forall_mem_cons.mpr ⟨lw_p26, List.forall_mem_cons.mpr ⟨lw_p27, List.forall_mem_cons.mpr ⟨lw_p28, List.forall_mem_cons.mpr ⟨lw_p29, List.forall_mem_cons.mpr ⟨lw_p30, List.forall_mem_cons.mpr ⟨lw_p31, fun _ h => absurd h List.not_mem_nil⟩⟩⟩⟩⟩⟩⟩⟩⟩⟩⟩⟩⟩⟩⟩⟩
theorem lw_p32 : lw_okq (⟨"FourOnOne", "sawTogether", "()I"⟩, 16) := ⟨⟨by decide +kernel, by decide +kernel⟩, List.mem_of_getElem? (i := 16) (by decide +kernel), List.mem_of_getElem? (i := 546) (by decide +kernel), List.mem_of_getElem? (i := 547) (by decide +kernel)⟩
theorem lw_p33 : lw_okq (⟨"FourOnOne", "isOne", "(II)Z"⟩, 16) := ⟨⟨by decide +kernel, by decide +kernel⟩, List.mem_of_getElem? (i := 16) (by decide +kernel), List.mem_of_getElem? (i := 559) (by decide +kernel), List.mem_of_getElem? (i := 560) (by decide +kernel)⟩
theorem lw_p34 : lw_okq (⟨"FourOnOne$Course", "scoreOf", "(II)I"⟩, 6) := ⟨⟨by decide +kernel, by decide +kernel⟩, List.mem_of_getElem? (i := 237) (by decide +kernel), List.mem_of_getElem? (i := 591) (by decide +kernel), List.mem_of_getElem? (i := 592) (by decide +kernel)⟩
theorem lw_p35 : lw_okq (⟨"FourOnOne$Course", "mayBe", "(III)Z"⟩, 6) := ⟨⟨by decide +kernel, by decide +kernel⟩, List.mem_of_getElem? (i := 237) (by decide +kernel), List.mem_of_getElem? (i := 595) (by decide +kernel), List.mem_of_getElem? (i := 596) (by decide +kernel)⟩
theorem lw_p36 : lw_okq (⟨"FourOnOne$Course", "setFilmFacts", "(III)V"⟩, 6) := ⟨⟨by decide +kernel, by decide +kernel⟩, List.mem_of_getElem? (i := 237) (by decide +kernel), List.mem_of_getElem? (i := 599) (by decide +kernel), List.mem_of_getElem? (i := 600) (by decide +kernel)⟩
theorem lw_p37 : lw_okq (⟨"FourOnOne$Machine", "given", "(I)I"⟩, 3) := ⟨⟨by decide +kernel, by decide +kernel⟩, List.mem_of_getElem? (i := 281) (by decide +kernel), List.mem_of_getElem? (i := 610) (by decide +kernel), List.mem_of_getElem? (i := 611) (by decide +kernel)⟩
theorem lw_p38 : lw_okq (⟨"FourOnOne$Machine", "weightOf", "(I)I"⟩, 3) := ⟨⟨by decide +kernel, by decide +kernel⟩, List.mem_of_getElem? (i := 281) (by decide +kernel), List.mem_of_getElem? (i := 614) (by decide +kernel), List.mem_of_getElem? (i := 615) (by decide +kernel)⟩
theorem lw_p39 : lw_okq (⟨"FourOnOne$Machine", "joined", "(IJJ)I"⟩, 3) := ⟨⟨by decide +kernel, by decide +kernel⟩, List.mem_of_getElem? (i := 281) (by decide +kernel), List.mem_of_getElem? (i := 618) (by decide +kernel), List.mem_of_getElem? (i := 619) (by decide +kernel)⟩
theorem lw_p40 : lw_okq (⟨"FourOnOne", "canPass", "(III)Z"⟩, 16) := ⟨⟨by decide +kernel, by decide +kernel⟩, List.mem_of_getElem? (i := 16) (by decide +kernel), List.mem_of_getElem? (i := 654) (by decide +kernel), List.mem_of_getElem? (i := 655) (by decide +kernel)⟩
theorem lw_p41 : lw_okq (⟨"FourOnOne", "lookAhead", "(II)V"⟩, 16) := ⟨⟨by decide +kernel, by decide +kernel⟩, List.mem_of_getElem? (i := 16) (by decide +kernel), List.mem_of_getElem? (i := 659) (by decide +kernel), List.mem_of_getElem? (i := 660) (by decide +kernel)⟩
theorem lw_p42 : lw_okq (⟨"FourOnOne$Course", "heldTaste", "(I)I"⟩, 6) := ⟨⟨by decide +kernel, by decide +kernel⟩, List.mem_of_getElem? (i := 237) (by decide +kernel), List.mem_of_getElem? (i := 691) (by decide +kernel), List.mem_of_getElem? (i := 692) (by decide +kernel)⟩
theorem lw_p43 : lw_okq (⟨"FourOnOne$Course", "fadeAll", "(I)V"⟩, 6) := ⟨⟨by decide +kernel, by decide +kernel⟩, List.mem_of_getElem? (i := 237) (by decide +kernel), List.mem_of_getElem? (i := 702) (by decide +kernel), List.mem_of_getElem? (i := 703) (by decide +kernel)⟩
theorem lw_p44 : lw_okq (⟨"FourOnOne", "isAtRest", "(II)Z"⟩, 16) := ⟨⟨by decide +kernel, by decide +kernel⟩, List.mem_of_getElem? (i := 16) (by decide +kernel), List.mem_of_getElem? (i := 719) (by decide +kernel), List.mem_of_getElem? (i := 720) (by decide +kernel)⟩
theorem lw_p45 : lw_okq (⟨"FourOnOne", "countVotes", "(I)V"⟩, 16) := ⟨⟨by decide +kernel, by decide +kernel⟩, List.mem_of_getElem? (i := 16) (by decide +kernel), List.mem_of_getElem? (i := 748) (by decide +kernel), List.mem_of_getElem? (i := 749) (by decide +kernel)⟩
theorem lw_p46 : lw_okq (⟨"FourOnOne", "sofaWorth", "(IIZ)I"⟩, 16) := ⟨⟨by decide +kernel, by decide +kernel⟩, List.mem_of_getElem? (i := 16) (by decide +kernel), List.mem_of_getElem? (i := 757) (by decide +kernel), List.mem_of_getElem? (i := 758) (by decide +kernel)⟩
theorem lw_p47 : lw_okq (⟨"FourOnOne", "toldHours", "()I"⟩, 16) := ⟨⟨by decide +kernel, by decide +kernel⟩, List.mem_of_getElem? (i := 16) (by decide +kernel), List.mem_of_getElem? (i := 773) (by decide +kernel), List.mem_of_getElem? (i := 774) (by decide +kernel)⟩
def lw_privs_3 : List (MethodName × Nat) := [(⟨"FourOnOne", "sawTogether", "()I"⟩, 16), (⟨"FourOnOne", "isOne", "(II)Z"⟩, 16), (⟨"FourOnOne$Course", "scoreOf", "(II)I"⟩, 6), (⟨"FourOnOne$Course", "mayBe", "(III)Z"⟩, 6), (⟨"FourOnOne$Course", "setFilmFacts", "(III)V"⟩, 6), (⟨"FourOnOne$Machine", "given", "(I)I"⟩, 3), (⟨"FourOnOne$Machine", "weightOf", "(I)I"⟩, 3), (⟨"FourOnOne$Machine", "joined", "(IJJ)I"⟩, 3), (⟨"FourOnOne", "canPass", "(III)Z"⟩, 16), (⟨"FourOnOne", "lookAhead", "(II)V"⟩, 16), (⟨"FourOnOne$Course", "heldTaste", "(I)I"⟩, 6), (⟨"FourOnOne$Course", "fadeAll", "(I)V"⟩, 6), (⟨"FourOnOne", "isAtRest", "(II)Z"⟩, 16), (⟨"FourOnOne", "countVotes", "(I)V"⟩, 16), (⟨"FourOnOne", "sofaWorth", "(IIZ)I"⟩, 16), (⟨"FourOnOne", "toldHours", "()I"⟩, 16)]
theorem lw_r3 : ∀ q ∈ lw_privs_3, lw_okq q := List.forall_mem_cons.mpr ⟨lw_p32, List.forall_mem_cons.mpr ⟨lw_p33, List.forall_mem_cons.mpr ⟨lw_p34, List.forall_mem_cons.mpr ⟨lw_p35, List.forall_mem_cons.mpr ⟨lw_p36, List.forall_mem_cons.mpr ⟨lw_p37, List.forall_mem_cons.mpr ⟨lw_p38, List.forall_mem_cons.mpr ⟨lw_p39, List.forall_mem_cons.mpr ⟨lw_p40, List.forall_mem_cons.mpr ⟨lw_p41, List.forall_mem_cons.mpr ⟨lw_p42, List.forall_mem_cons.mpr ⟨lw_p43, List.forall_mem_cons.mpr ⟨lw_p44, List.forall_mem_cons.mpr ⟨lw_p45, List.forall_mem_cons.mpr ⟨lw_p46, List.forall_mem_cons.mpr ⟨lw_p47, fun _ h => absurd h List.not_mem_nil⟩⟩⟩⟩⟩⟩⟩⟩⟩⟩⟩⟩⟩⟩⟩⟩
theorem lw_p48 : lw_okq (⟨"FourOnOne", "isAsTold", "(II)Z"⟩, 16) := ⟨⟨by decide +kernel, by decide +kernel⟩, List.mem_of_getElem? (i := 16) (by decide +kernel), List.mem_of_getElem? (i := 778) (by decide +kernel), List.mem_of_getElem? (i := 779) (by decide +kernel)⟩
theorem lw_p49 : lw_okq (⟨"FourOnOne", "rememberAct", "()V"⟩, 16) := ⟨⟨by decide +kernel, by decide +kernel⟩, List.mem_of_getElem? (i := 16) (by decide +kernel), List.mem_of_getElem? (i := 786) (by decide +kernel), List.mem_of_getElem? (i := 787) (by decide +kernel)⟩
theorem lw_p50 : lw_okq (⟨"FourOnOne", "strangerSees", "()Z"⟩, 16) := ⟨⟨by decide +kernel, by decide +kernel⟩, List.mem_of_getElem? (i := 16) (by decide +kernel), List.mem_of_getElem? (i := 803) (by decide +kernel), List.mem_of_getElem? (i := 804) (by decide +kernel)⟩
theorem lw_p51 : lw_okq (⟨"FourOnOne", "draw", "(I)I"⟩, 16) := ⟨⟨by decide +kernel, by decide +kernel⟩, List.mem_of_getElem? (i := 16) (by decide +kernel), List.mem_of_getElem? (i := 807) (by decide +kernel), List.mem_of_getElem? (i := 808) (by decide +kernel)⟩
theorem lw_p52 : lw_okq (⟨"FourOnOne", "filmThatHolds", "(IZ)J"⟩, 16) := ⟨⟨by decide +kernel, by decide +kernel⟩, List.mem_of_getElem? (i := 16) (by decide +kernel), List.mem_of_getElem? (i := 831) (by decide +kernel), List.mem_of_getElem? (i := 832) (by decide +kernel)⟩
theorem lw_p53 : lw_okq (⟨"FourOnOne", "totalOf", "(I)J"⟩, 16) := ⟨⟨by decide +kernel, by decide +kernel⟩, List.mem_of_getElem? (i := 16) (by decide +kernel), List.mem_of_getElem? (i := 840) (by decide +kernel), List.mem_of_getElem? (i := 841) (by decide +kernel)⟩
theorem lw_p54 : lw_okq (⟨"FourOnOne", "extremeOf", "(IZ)J"⟩, 16) := ⟨⟨by decide +kernel, by decide +kernel⟩, List.mem_of_getElem? (i := 16) (by decide +kernel), List.mem_of_getElem? (i := 844) (by decide +kernel), List.mem_of_getElem? (i := 845) (by decide +kernel)⟩
theorem lw_p55 : lw_okq (⟨"FourOnOne", "putTwo", "(I)V"⟩, 16) := ⟨⟨by decide +kernel, by decide +kernel⟩, List.mem_of_getElem? (i := 16) (by decide +kernel), List.mem_of_getElem? (i := 852) (by decide +kernel), List.mem_of_getElem? (i := 853) (by decide +kernel)⟩
theorem lw_p56 : lw_okq (⟨"FourOnOne", "putByte", "(I)V"⟩, 16) := ⟨⟨by decide +kernel, by decide +kernel⟩, List.mem_of_getElem? (i := 16) (by decide +kernel), List.mem_of_getElem? (i := 856) (by decide +kernel), List.mem_of_getElem? (i := 857) (by decide +kernel)⟩
theorem lw_p57 : lw_okq (⟨"FourOnOne", "checkByte", "([II)I"⟩, 16) := ⟨⟨by decide +kernel, by decide +kernel⟩, List.mem_of_getElem? (i := 16) (by decide +kernel), List.mem_of_getElem? (i := 860) (by decide +kernel), List.mem_of_getElem? (i := 861) (by decide +kernel)⟩
theorem lw_p58 : lw_okq (⟨"FourOnOne", "lengthOfImage", "()I"⟩, 16) := ⟨⟨by decide +kernel, by decide +kernel⟩, List.mem_of_getElem? (i := 16) (by decide +kernel), List.mem_of_getElem? (i := 872) (by decide +kernel), List.mem_of_getElem? (i := 873) (by decide +kernel)⟩
theorem lw_p59 : lw_okq (⟨"FourOnOne", "tapeByte", "(I)I"⟩, 16) := ⟨⟨by decide +kernel, by decide +kernel⟩, List.mem_of_getElem? (i := 16) (by decide +kernel), List.mem_of_getElem? (i := 876) (by decide +kernel), List.mem_of_getElem? (i := 877) (by decide +kernel)⟩
theorem lw_p60 : lw_okq (⟨"FourOnOne", "readProfiles", "(LFourOnOne$Account;)Z"⟩, 16) := ⟨⟨by decide +kernel, by decide +kernel⟩, List.mem_of_getElem? (i := 16) (by decide +kernel), List.mem_of_getElem? (i := 880) (by decide +kernel), List.mem_of_getElem? (i := 881) (by decide +kernel)⟩
theorem lw_p61 : lw_okq (⟨"FourOnOne", "tapeTwo", "(I)I"⟩, 16) := ⟨⟨by decide +kernel, by decide +kernel⟩, List.mem_of_getElem? (i := 16) (by decide +kernel), List.mem_of_getElem? (i := 884) (by decide +kernel), List.mem_of_getElem? (i := 885) (by decide +kernel)⟩
theorem lw_p62 : lw_okq (⟨"FourOnOne", "readPeople", "(LFourOnOne$Account;I)Z"⟩, 16) := ⟨⟨by decide +kernel, by decide +kernel⟩, List.mem_of_getElem? (i := 16) (by decide +kernel), List.mem_of_getElem? (i := 888) (by decide +kernel), List.mem_of_getElem? (i := 889) (by decide +kernel)⟩
theorem lw_p63 : lw_okq (⟨"FourOnOneModel", "look", "()I"⟩, 103) := ⟨⟨by decide +kernel, by decide +kernel⟩, List.mem_of_getElem? (i := 896) (by decide +kernel), List.mem_of_getElem? (i := 1225) (by decide +kernel), List.mem_of_getElem? (i := 1226) (by decide +kernel)⟩
def lw_privs_4 : List (MethodName × Nat) := [(⟨"FourOnOne", "isAsTold", "(II)Z"⟩, 16), (⟨"FourOnOne", "rememberAct", "()V"⟩, 16), (⟨"FourOnOne", "strangerSees", "()Z"⟩, 16), (⟨"FourOnOne", "draw", "(I)I"⟩, 16), (⟨"FourOnOne", "filmThatHolds", "(IZ)J"⟩, 16), (⟨"FourOnOne", "totalOf", "(I)J"⟩, 16), (⟨"FourOnOne", "extremeOf", "(IZ)J"⟩, 16), (⟨"FourOnOne", "putTwo", "(I)V"⟩, 16), (⟨"FourOnOne", "putByte", "(I)V"⟩, 16), (⟨"FourOnOne", "checkByte", "([II)I"⟩, 16), (⟨"FourOnOne", "lengthOfImage", "()I"⟩, 16), (⟨"FourOnOne", "tapeByte", "(I)I"⟩, 16), (⟨"FourOnOne", "readProfiles", "(LFourOnOne$Account;)Z"⟩, 16), (⟨"FourOnOne", "tapeTwo", "(I)I"⟩, 16), (⟨"FourOnOne", "readPeople", "(LFourOnOne$Account;I)Z"⟩, 16), (⟨"FourOnOneModel", "look", "()I"⟩, 103)]
theorem lw_r4 : ∀ q ∈ lw_privs_4, lw_okq q := List.forall_mem_cons.mpr ⟨lw_p48, List.forall_mem_cons.mpr ⟨lw_p49, List.forall_mem_cons.mpr ⟨lw_p50, List.forall_mem_cons.mpr ⟨lw_p51, List.forall_mem_cons.mpr ⟨lw_p52, List.forall_mem_cons.mpr ⟨lw_p53, List.forall_mem_cons.mpr ⟨lw_p54, List.forall_mem_cons.mpr ⟨lw_p55, List.forall_mem_cons.mpr ⟨lw_p56, List.forall_mem_cons.mpr ⟨lw_p57, List.forall_mem_cons.mpr ⟨lw_p58, List.forall_mem_cons.mpr ⟨lw_p59, List.forall_mem_cons.mpr ⟨lw_p60, List.forall_mem_cons.mpr ⟨lw_p61, List.forall_mem_cons.mpr ⟨lw_p62, List.forall_mem_cons.mpr ⟨lw_p63, fun _ h => absurd h List.not_mem_nil⟩⟩⟩⟩⟩⟩⟩⟩⟩⟩⟩⟩⟩⟩⟩⟩
theorem lw_p64 : lw_okq (⟨"FourOnOneModel", "statementTold", "()V"⟩, 103) := ⟨⟨by decide +kernel, by decide +kernel⟩, List.mem_of_getElem? (i := 896) (by decide +kernel), List.mem_of_getElem? (i := 1229) (by decide +kernel), List.mem_of_getElem? (i := 1230) (by decide +kernel)⟩
theorem lw_p65 : lw_okq (⟨"FourOnOneModel", "fail", "(II)V"⟩, 103) := ⟨⟨by decide +kernel, by decide +kernel⟩, List.mem_of_getElem? (i := 896) (by decide +kernel), List.mem_of_getElem? (i := 1233) (by decide +kernel), List.mem_of_getElem? (i := 1234) (by decide +kernel)⟩
theorem lw_p66 : lw_okq (⟨"FourOnOneModel", "takes", "([C)Z"⟩, 103) := ⟨⟨by decide +kernel, by decide +kernel⟩, List.mem_of_getElem? (i := 896) (by decide +kernel), List.mem_of_getElem? (i := 1237) (by decide +kernel), List.mem_of_getElem? (i := 1238) (by decide +kernel)⟩
theorem lw_p67 : lw_okq (⟨"FourOnOneModel", "isHere", "([C)Z"⟩, 103) := ⟨⟨by decide +kernel, by decide +kernel⟩, List.mem_of_getElem? (i := 896) (by decide +kernel), List.mem_of_getElem? (i := 1241) (by decide +kernel), List.mem_of_getElem? (i := 1242) (by decide +kernel)⟩
theorem lw_p68 : lw_okq (⟨"FourOnOneModel", "kindTold", "(I)V"⟩, 103) := ⟨⟨by decide +kernel, by decide +kernel⟩, List.mem_of_getElem? (i := 896) (by decide +kernel), List.mem_of_getElem? (i := 1248) (by decide +kernel), List.mem_of_getElem? (i := 1249) (by decide +kernel)⟩
theorem lw_p69 : lw_okq (⟨"FourOnOneModel", "isFull", "(III)Z"⟩, 103) := ⟨⟨by decide +kernel, by decide +kernel⟩, List.mem_of_getElem? (i := 896) (by decide +kernel), List.mem_of_getElem? (i := 1252) (by decide +kernel), List.mem_of_getElem? (i := 1253) (by decide +kernel)⟩
theorem lw_p70 : lw_okq (⟨"FourOnOneModel", "newName", "()J"⟩, 103) := ⟨⟨by decide +kernel, by decide +kernel⟩, List.mem_of_getElem? (i := 896) (by decide +kernel), List.mem_of_getElem? (i := 1256) (by decide +kernel), List.mem_of_getElem? (i := 1257) (by decide +kernel)⟩
theorem lw_p71 : lw_okq (⟨"FourOnOneModel", "name", "()J"⟩, 103) := ⟨⟨by decide +kernel, by decide +kernel⟩, List.mem_of_getElem? (i := 896) (by decide +kernel), List.mem_of_getElem? (i := 1260) (by decide +kernel), List.mem_of_getElem? (i := 1261) (by decide +kernel)⟩
theorem lw_p72 : lw_okq (⟨"FourOnOneModel", "isOwnHere", "()Z"⟩, 103) := ⟨⟨by decide +kernel, by decide +kernel⟩, List.mem_of_getElem? (i := 896) (by decide +kernel), List.mem_of_getElem? (i := 1264) (by decide +kernel), List.mem_of_getElem? (i := 1265) (by decide +kernel)⟩
theorem lw_p73 : lw_okq (⟨"FourOnOneModel", "nameOf", "(IJ)I"⟩, 103) := ⟨⟨by decide +kernel, by decide +kernel⟩, List.mem_of_getElem? (i := 896) (by decide +kernel), List.mem_of_getElem? (i := 1270) (by decide +kernel), List.mem_of_getElem? (i := 1271) (by decide +kernel)⟩
theorem lw_p74 : lw_okq (⟨"FourOnOneModel", "adds", "(IJ)V"⟩, 103) := ⟨⟨by decide +kernel, by decide +kernel⟩, List.mem_of_getElem? (i := 896) (by decide +kernel), List.mem_of_getElem? (i := 1274) (by decide +kernel), List.mem_of_getElem? (i := 1275) (by decide +kernel)⟩
theorem lw_p75 : lw_okq (⟨"FourOnOneModel", "filmTold", "(I)V"⟩, 103) := ⟨⟨by decide +kernel, by decide +kernel⟩, List.mem_of_getElem? (i := 896) (by decide +kernel), List.mem_of_getElem? (i := 1278) (by decide +kernel), List.mem_of_getElem? (i := 1279) (by decide +kernel)⟩
theorem lw_p76 : lw_okq (⟨"FourOnOneModel", "asks", "([C)V"⟩, 103) := ⟨⟨by decide +kernel, by decide +kernel⟩, List.mem_of_getElem? (i := 896) (by decide +kernel), List.mem_of_getElem? (i := 1282) (by decide +kernel), List.mem_of_getElem? (i := 1283) (by decide +kernel)⟩
theorem lw_p77 : lw_okq (⟨"FourOnOneModel", "number", "(II)I"⟩, 103) := ⟨⟨by decide +kernel, by decide +kernel⟩, List.mem_of_getElem? (i := 896) (by decide +kernel), List.mem_of_getElem? (i := 1286) (by decide +kernel), List.mem_of_getElem? (i := 1287) (by decide +kernel)⟩
theorem lw_p78 : lw_okq (⟨"FourOnOneModel", "oneOf", "(I)I"⟩, 103) := ⟨⟨by decide +kernel, by decide +kernel⟩, List.mem_of_getElem? (i := 896) (by decide +kernel), List.mem_of_getElem? (i := 1296) (by decide +kernel), List.mem_of_getElem? (i := 1297) (by decide +kernel)⟩
theorem lw_p79 : lw_okq (⟨"FourOnOneModel", "personTold", "(I)V"⟩, 103) := ⟨⟨by decide +kernel, by decide +kernel⟩, List.mem_of_getElem? (i := 896) (by decide +kernel), List.mem_of_getElem? (i := 1300) (by decide +kernel), List.mem_of_getElem? (i := 1301) (by decide +kernel)⟩
def lw_privs_5 : List (MethodName × Nat) := [(⟨"FourOnOneModel", "statementTold", "()V"⟩, 103), (⟨"FourOnOneModel", "fail", "(II)V"⟩, 103), (⟨"FourOnOneModel", "takes", "([C)Z"⟩, 103), (⟨"FourOnOneModel", "isHere", "([C)Z"⟩, 103), (⟨"FourOnOneModel", "kindTold", "(I)V"⟩, 103), (⟨"FourOnOneModel", "isFull", "(III)Z"⟩, 103), (⟨"FourOnOneModel", "newName", "()J"⟩, 103), (⟨"FourOnOneModel", "name", "()J"⟩, 103), (⟨"FourOnOneModel", "isOwnHere", "()Z"⟩, 103), (⟨"FourOnOneModel", "nameOf", "(IJ)I"⟩, 103), (⟨"FourOnOneModel", "adds", "(IJ)V"⟩, 103), (⟨"FourOnOneModel", "filmTold", "(I)V"⟩, 103), (⟨"FourOnOneModel", "asks", "([C)V"⟩, 103), (⟨"FourOnOneModel", "number", "(II)I"⟩, 103), (⟨"FourOnOneModel", "oneOf", "(I)I"⟩, 103), (⟨"FourOnOneModel", "personTold", "(I)V"⟩, 103)]
theorem lw_r5 : ∀ q ∈ lw_privs_5, lw_okq q := List.forall_mem_cons.mpr ⟨lw_p64, List.forall_mem_cons.mpr ⟨lw_p65, List.forall_mem_cons.mpr ⟨lw_p66, List.forall_mem_cons.mpr ⟨lw_p67, List.forall_mem_cons.mpr ⟨lw_p68, List.forall_mem_cons.mpr ⟨lw_p69, List.forall_mem_cons.mpr ⟨lw_p70, List.forall_mem_cons.mpr ⟨lw_p71, List.forall_mem_cons.mpr ⟨lw_p72, List.forall_mem_cons.mpr ⟨lw_p73, List.forall_mem_cons.mpr ⟨lw_p74, List.forall_mem_cons.mpr ⟨lw_p75, List.forall_mem_cons.mpr ⟨lw_p76, List.forall_mem_cons.mpr ⟨lw_p77, List.forall_mem_cons.mpr ⟨lw_p78, List.forall_mem_cons.mpr ⟨lw_p79, fun _ h => absurd h List.not_mem_nil⟩⟩⟩⟩⟩⟩⟩⟩⟩⟩⟩⟩⟩⟩⟩⟩
theorem lw_p80 : lw_okq (⟨"FourOnOneModel", "likesTold", "()V"⟩, 103) := ⟨⟨by decide +kernel, by decide +kernel⟩, List.mem_of_getElem? (i := 896) (by decide +kernel), List.mem_of_getElem? (i := 1304) (by decide +kernel), List.mem_of_getElem? (i := 1305) (by decide +kernel)⟩
theorem lw_p81 : lw_okq (⟨"FourOnOneModel", "pressTold", "()V"⟩, 103) := ⟨⟨by decide +kernel, by decide +kernel⟩, List.mem_of_getElem? (i := 896) (by decide +kernel), List.mem_of_getElem? (i := 1308) (by decide +kernel), List.mem_of_getElem? (i := 1309) (by decide +kernel)⟩
theorem lw_p82 : lw_okq (⟨"FourOnOneModel", "codesTold", "(II)V"⟩, 103) := ⟨⟨by decide +kernel, by decide +kernel⟩, List.mem_of_getElem? (i := 896) (by decide +kernel), List.mem_of_getElem? (i := 1312) (by decide +kernel), List.mem_of_getElem? (i := 1313) (by decide +kernel)⟩
theorem lw_p83 : lw_okq (⟨"FourOnOneModel", "qTest", "()V"⟩, 103) := ⟨⟨by decide +kernel, by decide +kernel⟩, List.mem_of_getElem? (i := 896) (by decide +kernel), List.mem_of_getElem? (i := 1316) (by decide +kernel), List.mem_of_getElem? (i := 1317) (by decide +kernel)⟩
theorem lw_p84 : lw_okq (⟨"FourOnOneModel", "qOpens", "(II)V"⟩, 103) := ⟨⟨by decide +kernel, by decide +kernel⟩, List.mem_of_getElem? (i := 896) (by decide +kernel), List.mem_of_getElem? (i := 1320) (by decide +kernel), List.mem_of_getElem? (i := 1321) (by decide +kernel)⟩
theorem lw_p85 : lw_okq (⟨"FourOnOneModel", "qFact", "()V"⟩, 103) := ⟨⟨by decide +kernel, by decide +kernel⟩, List.mem_of_getElem? (i := 896) (by decide +kernel), List.mem_of_getElem? (i := 1324) (by decide +kernel), List.mem_of_getElem? (i := 1325) (by decide +kernel)⟩
theorem lw_p86 : lw_okq (⟨"FourOnOneModel", "qCode", "(I)V"⟩, 103) := ⟨⟨by decide +kernel, by decide +kernel⟩, List.mem_of_getElem? (i := 896) (by decide +kernel), List.mem_of_getElem? (i := 1328) (by decide +kernel), List.mem_of_getElem? (i := 1329) (by decide +kernel)⟩
theorem lw_p87 : lw_okq (⟨"FourOnOneModel", "qSums", "()V"⟩, 103) := ⟨⟨by decide +kernel, by decide +kernel⟩, List.mem_of_getElem? (i := 896) (by decide +kernel), List.mem_of_getElem? (i := 1332) (by decide +kernel), List.mem_of_getElem? (i := 1333) (by decide +kernel)⟩
theorem lw_p88 : lw_okq (⟨"FourOnOneModel", "qPartTold", "()V"⟩, 103) := ⟨⟨by decide +kernel, by decide +kernel⟩, List.mem_of_getElem? (i := 896) (by decide +kernel), List.mem_of_getElem? (i := 1336) (by decide +kernel), List.mem_of_getElem? (i := 1337) (by decide +kernel)⟩
theorem lw_p89 : lw_okq (⟨"FourOnOneModel", "qWordOf", "(II)I"⟩, 103) := ⟨⟨by decide +kernel, by decide +kernel⟩, List.mem_of_getElem? (i := 896) (by decide +kernel), List.mem_of_getElem? (i := 1340) (by decide +kernel), List.mem_of_getElem? (i := 1341) (by decide +kernel)⟩
theorem lw_p90 : lw_okq (⟨"FourOnOneModel", "qWordHere", "()I"⟩, 103) := ⟨⟨by decide +kernel, by decide +kernel⟩, List.mem_of_getElem? (i := 896) (by decide +kernel), List.mem_of_getElem? (i := 1344) (by decide +kernel), List.mem_of_getElem? (i := 1345) (by decide +kernel)⟩
theorem lw_p91 : lw_okq (⟨"FourOnOneModel", "isAllowed", "(I)Z"⟩, 103) := ⟨⟨by decide +kernel, by decide +kernel⟩, List.mem_of_getElem? (i := 896) (by decide +kernel), List.mem_of_getElem? (i := 1348) (by decide +kernel), List.mem_of_getElem? (i := 1349) (by decide +kernel)⟩
theorem lw_p92 : lw_okq (⟨"FourOnOneModel", "asksSign", "(I)V"⟩, 103) := ⟨⟨by decide +kernel, by decide +kernel⟩, List.mem_of_getElem? (i := 896) (by decide +kernel), List.mem_of_getElem? (i := 1354) (by decide +kernel), List.mem_of_getElem? (i := 1355) (by decide +kernel)⟩
theorem lw_p93 : lw_okq (⟨"FourOnOneModel", "takesSign", "(I)Z"⟩, 103) := ⟨⟨by decide +kernel, by decide +kernel⟩, List.mem_of_getElem? (i := 896) (by decide +kernel), List.mem_of_getElem? (i := 1358) (by decide +kernel), List.mem_of_getElem? (i := 1359) (by decide +kernel)⟩
theorem lw_p94 : lw_okq (⟨"FourOnOneModel", "qAsksWord", "(I)V"⟩, 103) := ⟨⟨by decide +kernel, by decide +kernel⟩, List.mem_of_getElem? (i := 896) (by decide +kernel), List.mem_of_getElem? (i := 1362) (by decide +kernel), List.mem_of_getElem? (i := 1363) (by decide +kernel)⟩
theorem lw_p95 : lw_okq (⟨"FourOnOneModel", "qEndsPart", "()V"⟩, 103) := ⟨⟨by decide +kernel, by decide +kernel⟩, List.mem_of_getElem? (i := 896) (by decide +kernel), List.mem_of_getElem? (i := 1366) (by decide +kernel), List.mem_of_getElem? (i := 1367) (by decide +kernel)⟩
def lw_privs_6 : List (MethodName × Nat) := [(⟨"FourOnOneModel", "likesTold", "()V"⟩, 103), (⟨"FourOnOneModel", "pressTold", "()V"⟩, 103), (⟨"FourOnOneModel", "codesTold", "(II)V"⟩, 103), (⟨"FourOnOneModel", "qTest", "()V"⟩, 103), (⟨"FourOnOneModel", "qOpens", "(II)V"⟩, 103), (⟨"FourOnOneModel", "qFact", "()V"⟩, 103), (⟨"FourOnOneModel", "qCode", "(I)V"⟩, 103), (⟨"FourOnOneModel", "qSums", "()V"⟩, 103), (⟨"FourOnOneModel", "qPartTold", "()V"⟩, 103), (⟨"FourOnOneModel", "qWordOf", "(II)I"⟩, 103), (⟨"FourOnOneModel", "qWordHere", "()I"⟩, 103), (⟨"FourOnOneModel", "isAllowed", "(I)Z"⟩, 103), (⟨"FourOnOneModel", "asksSign", "(I)V"⟩, 103), (⟨"FourOnOneModel", "takesSign", "(I)Z"⟩, 103), (⟨"FourOnOneModel", "qAsksWord", "(I)V"⟩, 103), (⟨"FourOnOneModel", "qEndsPart", "()V"⟩, 103)]
theorem lw_r6 : ∀ q ∈ lw_privs_6, lw_okq q := List.forall_mem_cons.mpr ⟨lw_p80, List.forall_mem_cons.mpr ⟨lw_p81, List.forall_mem_cons.mpr ⟨lw_p82, List.forall_mem_cons.mpr ⟨lw_p83, List.forall_mem_cons.mpr ⟨lw_p84, List.forall_mem_cons.mpr ⟨lw_p85, List.forall_mem_cons.mpr ⟨lw_p86, List.forall_mem_cons.mpr ⟨lw_p87, List.forall_mem_cons.mpr ⟨lw_p88, List.forall_mem_cons.mpr ⟨lw_p89, List.forall_mem_cons.mpr ⟨lw_p90, List.forall_mem_cons.mpr ⟨lw_p91, List.forall_mem_cons.mpr ⟨lw_p92, List.forall_mem_cons.mpr ⟨lw_p93, List.forall_mem_cons.mpr ⟨lw_p94, List.forall_mem_cons.mpr ⟨lw_p95, fun _ h => absurd h List.not_mem_nil⟩⟩⟩⟩⟩⟩⟩⟩⟩⟩⟩⟩⟩⟩⟩⟩
theorem lw_p96 : lw_okq (⟨"FourOnOneModel", "qDrops", "()V"⟩, 103) := ⟨⟨by decide +kernel, by decide +kernel⟩, List.mem_of_getElem? (i := 896) (by decide +kernel), List.mem_of_getElem? (i := 1370) (by decide +kernel), List.mem_of_getElem? (i := 1371) (by decide +kernel)⟩
theorem lw_p97 : lw_okq (⟨"FourOnOneModel", "qGoesOn", "()Z"⟩, 103) := ⟨⟨by decide +kernel, by decide +kernel⟩, List.mem_of_getElem? (i := 896) (by decide +kernel), List.mem_of_getElem? (i := 1374) (by decide +kernel), List.mem_of_getElem? (i := 1375) (by decide +kernel)⟩
theorem lw_p98 : lw_okq (⟨"FourOnOneModel", "qBracket", "()I"⟩, 103) := ⟨⟨by decide +kernel, by decide +kernel⟩, List.mem_of_getElem? (i := 896) (by decide +kernel), List.mem_of_getElem? (i := 1378) (by decide +kernel), List.mem_of_getElem? (i := 1379) (by decide +kernel)⟩
theorem lw_p99 : lw_okq (⟨"FourOnOneModel", "qDropsToBracket", "()V"⟩, 103) := ⟨⟨by decide +kernel, by decide +kernel⟩, List.mem_of_getElem? (i := 896) (by decide +kernel), List.mem_of_getElem? (i := 1385) (by decide +kernel), List.mem_of_getElem? (i := 1386) (by decide +kernel)⟩
theorem lw_p100 : lw_okq (⟨"FourOnOneModel", "qIsOn", "(I)Z"⟩, 103) := ⟨⟨by decide +kernel, by decide +kernel⟩, List.mem_of_getElem? (i := 896) (by decide +kernel), List.mem_of_getElem? (i := 1389) (by decide +kernel), List.mem_of_getElem? (i := 1390) (by decide +kernel)⟩
theorem lw_p101 : lw_okq (⟨"FourOnOneModel", "qDropsNots", "()V"⟩, 103) := ⟨⟨by decide +kernel, by decide +kernel⟩, List.mem_of_getElem? (i := 896) (by decide +kernel), List.mem_of_getElem? (i := 1393) (by decide +kernel), List.mem_of_getElem? (i := 1394) (by decide +kernel)⟩
theorem lw_p102 : lw_okq (⟨"FourOnOneModel", "qGoesOnTest", "()Z"⟩, 103) := ⟨⟨by decide +kernel, by decide +kernel⟩, List.mem_of_getElem? (i := 896) (by decide +kernel), List.mem_of_getElem? (i := 1397) (by decide +kernel), List.mem_of_getElem? (i := 1398) (by decide +kernel)⟩
theorem lw_p103 : lw_okq (⟨"FourOnOneModel", "qHasSquare", "()Z"⟩, 103) := ⟨⟨by decide +kernel, by decide +kernel⟩, List.mem_of_getElem? (i := 896) (by decide +kernel), List.mem_of_getElem? (i := 1401) (by decide +kernel), List.mem_of_getElem? (i := 1402) (by decide +kernel)⟩
theorem lw_p104 : lw_okq (⟨"FourOnOneModel", "stands", "()V"⟩, 103) := ⟨⟨by decide +kernel, by decide +kernel⟩, List.mem_of_getElem? (i := 896) (by decide +kernel), List.mem_of_getElem? (i := 1405) (by decide +kernel), List.mem_of_getElem? (i := 1406) (by decide +kernel)⟩
theorem lw_p105 : lw_okq (⟨"FourOnOneModel", "pressAll", "(I)V"⟩, 103) := ⟨⟨by decide +kernel, by decide +kernel⟩, List.mem_of_getElem? (i := 896) (by decide +kernel), List.mem_of_getElem? (i := 1409) (by decide +kernel), List.mem_of_getElem? (i := 1410) (by decide +kernel)⟩
theorem lw_p106 : lw_okq (⟨"FourOnOneModel", "personMany", "()I"⟩, 103) := ⟨⟨by decide +kernel, by decide +kernel⟩, List.mem_of_getElem? (i := 896) (by decide +kernel), List.mem_of_getElem? (i := 1413) (by decide +kernel), List.mem_of_getElem? (i := 1414) (by decide +kernel)⟩
theorem lw_p107 : lw_okq (⟨"FourOnOneModel", "pressers", "()I"⟩, 103) := ⟨⟨by decide +kernel, by decide +kernel⟩, List.mem_of_getElem? (i := 896) (by decide +kernel), List.mem_of_getElem? (i := 1425) (by decide +kernel), List.mem_of_getElem? (i := 1426) (by decide +kernel)⟩
theorem lw_p108 : lw_okq (⟨"FourOnOneModel", "doesPress", "(I)Z"⟩, 103) := ⟨⟨by decide +kernel, by decide +kernel⟩, List.mem_of_getElem? (i := 896) (by decide +kernel), List.mem_of_getElem? (i := 1429) (by decide +kernel), List.mem_of_getElem? (i := 1430) (by decide +kernel)⟩
theorem lw_p109 : lw_okq (⟨"FourOnOneModel", "hoursAll", "()I"⟩, 103) := ⟨⟨by decide +kernel, by decide +kernel⟩, List.mem_of_getElem? (i := 896) (by decide +kernel), List.mem_of_getElem? (i := 1436) (by decide +kernel), List.mem_of_getElem? (i := 1437) (by decide +kernel)⟩
theorem lw_p110 : lw_okq (⟨"FourOnOneModel", "hoursOf", "(I)I"⟩, 103) := ⟨⟨by decide +kernel, by decide +kernel⟩, List.mem_of_getElem? (i := 896) (by decide +kernel), List.mem_of_getElem? (i := 1440) (by decide +kernel), List.mem_of_getElem? (i := 1441) (by decide +kernel)⟩
theorem lw_p111 : lw_okq (⟨"FourOnOneModel", "isFilm", "(I)Z"⟩, 103) := ⟨⟨by decide +kernel, by decide +kernel⟩, List.mem_of_getElem? (i := 896) (by decide +kernel), List.mem_of_getElem? (i := 1453) (by decide +kernel), List.mem_of_getElem? (i := 1454) (by decide +kernel)⟩
def lw_privs_7 : List (MethodName × Nat) := [(⟨"FourOnOneModel", "qDrops", "()V"⟩, 103), (⟨"FourOnOneModel", "qGoesOn", "()Z"⟩, 103), (⟨"FourOnOneModel", "qBracket", "()I"⟩, 103), (⟨"FourOnOneModel", "qDropsToBracket", "()V"⟩, 103), (⟨"FourOnOneModel", "qIsOn", "(I)Z"⟩, 103), (⟨"FourOnOneModel", "qDropsNots", "()V"⟩, 103), (⟨"FourOnOneModel", "qGoesOnTest", "()Z"⟩, 103), (⟨"FourOnOneModel", "qHasSquare", "()Z"⟩, 103), (⟨"FourOnOneModel", "stands", "()V"⟩, 103), (⟨"FourOnOneModel", "pressAll", "(I)V"⟩, 103), (⟨"FourOnOneModel", "personMany", "()I"⟩, 103), (⟨"FourOnOneModel", "pressers", "()I"⟩, 103), (⟨"FourOnOneModel", "doesPress", "(I)Z"⟩, 103), (⟨"FourOnOneModel", "hoursAll", "()I"⟩, 103), (⟨"FourOnOneModel", "hoursOf", "(I)I"⟩, 103), (⟨"FourOnOneModel", "isFilm", "(I)Z"⟩, 103)]
theorem lw_r7 : ∀ q ∈ lw_privs_7, lw_okq q := List.forall_mem_cons.mpr ⟨lw_p96, List.forall_mem_cons.mpr ⟨lw_p97, List.forall_mem_cons.mpr ⟨lw_p98, List.forall_mem_cons.mpr ⟨lw_p99, List.forall_mem_cons.mpr ⟨lw_p100, List.forall_mem_cons.mpr ⟨lw_p101, List.forall_mem_cons.mpr ⟨lw_p102, List.forall_mem_cons.mpr ⟨lw_p103, List.forall_mem_cons.mpr ⟨lw_p104, List.forall_mem_cons.mpr ⟨lw_p105, List.forall_mem_cons.mpr ⟨lw_p106, List.forall_mem_cons.mpr ⟨lw_p107, List.forall_mem_cons.mpr ⟨lw_p108, List.forall_mem_cons.mpr ⟨lw_p109, List.forall_mem_cons.mpr ⟨lw_p110, List.forall_mem_cons.mpr ⟨lw_p111, fun _ h => absurd h List.not_mem_nil⟩⟩⟩⟩⟩⟩⟩⟩⟩⟩⟩⟩⟩⟩⟩⟩
theorem lw_p112 : lw_okq (⟨"FourOnOneModel", "filmMany", "()I"⟩, 103) := ⟨⟨by decide +kernel, by decide +kernel⟩, List.mem_of_getElem? (i := 896) (by decide +kernel), List.mem_of_getElem? (i := 1457) (by decide +kernel), List.mem_of_getElem? (i := 1458) (by decide +kernel)⟩
theorem lw_p113 : lw_okq (⟨"FourOnOneModel", "isKind", "(I)Z"⟩, 103) := ⟨⟨by decide +kernel, by decide +kernel⟩, List.mem_of_getElem? (i := 896) (by decide +kernel), List.mem_of_getElem? (i := 1461) (by decide +kernel), List.mem_of_getElem? (i := 1462) (by decide +kernel)⟩
theorem lw_p114 : lw_okq (⟨"FourOnOneModel", "kindMany", "()I"⟩, 103) := ⟨⟨by decide +kernel, by decide +kernel⟩, List.mem_of_getElem? (i := 896) (by decide +kernel), List.mem_of_getElem? (i := 1465) (by decide +kernel), List.mem_of_getElem? (i := 1466) (by decide +kernel)⟩
theorem lw_p115 : lw_okq (⟨"FourOnOneModel", "weightOf", "(II)I"⟩, 103) := ⟨⟨by decide +kernel, by decide +kernel⟩, List.mem_of_getElem? (i := 896) (by decide +kernel), List.mem_of_getElem? (i := 1469) (by decide +kernel), List.mem_of_getElem? (i := 1470) (by decide +kernel)⟩
theorem lw_p116 : lw_okq (⟨"FourOnOneModel", "partsOf", "(I)I"⟩, 103) := ⟨⟨by decide +kernel, by decide +kernel⟩, List.mem_of_getElem? (i := 896) (by decide +kernel), List.mem_of_getElem? (i := 1473) (by decide +kernel), List.mem_of_getElem? (i := 1474) (by decide +kernel)⟩
theorem lw_p117 : lw_okq (⟨"FourOnOneModel", "isPerson", "(I)Z"⟩, 103) := ⟨⟨by decide +kernel, by decide +kernel⟩, List.mem_of_getElem? (i := 896) (by decide +kernel), List.mem_of_getElem? (i := 1481) (by decide +kernel), List.mem_of_getElem? (i := 1482) (by decide +kernel)⟩
theorem lw_p118 : lw_okq (⟨"FourOnOneModel", "likesOf", "(II)I"⟩, 103) := ⟨⟨by decide +kernel, by decide +kernel⟩, List.mem_of_getElem? (i := 896) (by decide +kernel), List.mem_of_getElem? (i := 1485) (by decide +kernel), List.mem_of_getElem? (i := 1486) (by decide +kernel)⟩
theorem lw_p119 : lw_okq (⟨"FourOnOneModel", "tasteAt", "(II)I"⟩, 103) := ⟨⟨by decide +kernel, by decide +kernel⟩, List.mem_of_getElem? (i := 896) (by decide +kernel), List.mem_of_getElem? (i := 1493) (by decide +kernel), List.mem_of_getElem? (i := 1494) (by decide +kernel)⟩
theorem lw_p120 : lw_okq (⟨"FourOnOneModel", "seenBy", "(II)I"⟩, 103) := ⟨⟨by decide +kernel, by decide +kernel⟩, List.mem_of_getElem? (i := 896) (by decide +kernel), List.mem_of_getElem? (i := 1501) (by decide +kernel), List.mem_of_getElem? (i := 1502) (by decide +kernel)⟩
theorem lw_p121 : lw_okq (⟨"FourOnOneModel", "seenAt", "(II)I"⟩, 103) := ⟨⟨by decide +kernel, by decide +kernel⟩, List.mem_of_getElem? (i := 896) (by decide +kernel), List.mem_of_getElem? (i := 1505) (by decide +kernel), List.mem_of_getElem? (i := 1506) (by decide +kernel)⟩
theorem lw_p122 : lw_okq (⟨"FourOnOneModel", "suggestedTo", "(I)I"⟩, 103) := ⟨⟨by decide +kernel, by decide +kernel⟩, List.mem_of_getElem? (i := 896) (by decide +kernel), List.mem_of_getElem? (i := 1513) (by decide +kernel), List.mem_of_getElem? (i := 1514) (by decide +kernel)⟩
theorem lw_p123 : lw_okq (⟨"FourOnOneModel", "profileOf", "(I)I"⟩, 103) := ⟨⟨by decide +kernel, by decide +kernel⟩, List.mem_of_getElem? (i := 896) (by decide +kernel), List.mem_of_getElem? (i := 1517) (by decide +kernel), List.mem_of_getElem? (i := 1518) (by decide +kernel)⟩
theorem lw_p124 : lw_okq (⟨"FourOnOneModel", "may", "(II)Z"⟩, 103) := ⟨⟨by decide +kernel, by decide +kernel⟩, List.mem_of_getElem? (i := 896) (by decide +kernel), List.mem_of_getElem? (i := 1521) (by decide +kernel), List.mem_of_getElem? (i := 1522) (by decide +kernel)⟩
theorem lw_p125 : lw_okq (⟨"FourOnOneModel", "codesTell", "(II)J"⟩, 103) := ⟨⟨by decide +kernel, by decide +kernel⟩, List.mem_of_getElem? (i := 896) (by decide +kernel), List.mem_of_getElem? (i := 1525) (by decide +kernel), List.mem_of_getElem? (i := 1526) (by decide +kernel)⟩
theorem lw_p126 : lw_okq (⟨"FourOnOneModel", "qPuts", "(J)V"⟩, 103) := ⟨⟨by decide +kernel, by decide +kernel⟩, List.mem_of_getElem? (i := 896) (by decide +kernel), List.mem_of_getElem? (i := 1529) (by decide +kernel), List.mem_of_getElem? (i := 1530) (by decide +kernel)⟩
theorem lw_p127 : lw_okq (⟨"FourOnOneModel", "qPartOf", "(II)J"⟩, 103) := ⟨⟨by decide +kernel, by decide +kernel⟩, List.mem_of_getElem? (i := 896) (by decide +kernel), List.mem_of_getElem? (i := 1533) (by decide +kernel), List.mem_of_getElem? (i := 1534) (by decide +kernel)⟩
def lw_privs_8 : List (MethodName × Nat) := [(⟨"FourOnOneModel", "filmMany", "()I"⟩, 103), (⟨"FourOnOneModel", "isKind", "(I)Z"⟩, 103), (⟨"FourOnOneModel", "kindMany", "()I"⟩, 103), (⟨"FourOnOneModel", "weightOf", "(II)I"⟩, 103), (⟨"FourOnOneModel", "partsOf", "(I)I"⟩, 103), (⟨"FourOnOneModel", "isPerson", "(I)Z"⟩, 103), (⟨"FourOnOneModel", "likesOf", "(II)I"⟩, 103), (⟨"FourOnOneModel", "tasteAt", "(II)I"⟩, 103), (⟨"FourOnOneModel", "seenBy", "(II)I"⟩, 103), (⟨"FourOnOneModel", "seenAt", "(II)I"⟩, 103), (⟨"FourOnOneModel", "suggestedTo", "(I)I"⟩, 103), (⟨"FourOnOneModel", "profileOf", "(I)I"⟩, 103), (⟨"FourOnOneModel", "may", "(II)Z"⟩, 103), (⟨"FourOnOneModel", "codesTell", "(II)J"⟩, 103), (⟨"FourOnOneModel", "qPuts", "(J)V"⟩, 103), (⟨"FourOnOneModel", "qPartOf", "(II)J"⟩, 103)]
theorem lw_r8 : ∀ q ∈ lw_privs_8, lw_okq q := List.forall_mem_cons.mpr ⟨lw_p112, List.forall_mem_cons.mpr ⟨lw_p113, List.forall_mem_cons.mpr ⟨lw_p114, List.forall_mem_cons.mpr ⟨lw_p115, List.forall_mem_cons.mpr ⟨lw_p116, List.forall_mem_cons.mpr ⟨lw_p117, List.forall_mem_cons.mpr ⟨lw_p118, List.forall_mem_cons.mpr ⟨lw_p119, List.forall_mem_cons.mpr ⟨lw_p120, List.forall_mem_cons.mpr ⟨lw_p121, List.forall_mem_cons.mpr ⟨lw_p122, List.forall_mem_cons.mpr ⟨lw_p123, List.forall_mem_cons.mpr ⟨lw_p124, List.forall_mem_cons.mpr ⟨lw_p125, List.forall_mem_cons.mpr ⟨lw_p126, List.forall_mem_cons.mpr ⟨lw_p127, fun _ h => absurd h List.not_mem_nil⟩⟩⟩⟩⟩⟩⟩⟩⟩⟩⟩⟩⟩⟩⟩⟩
theorem lw_p128 : lw_okq (⟨"FourOnOneModel", "scoreOf", "(II)I"⟩, 103) := ⟨⟨by decide +kernel, by decide +kernel⟩, List.mem_of_getElem? (i := 896) (by decide +kernel), List.mem_of_getElem? (i := 1537) (by decide +kernel), List.mem_of_getElem? (i := 1538) (by decide +kernel)⟩
theorem lw_p129 : lw_okq (⟨"FourOnOneModel", "worthOf", "(II)I"⟩, 103) := ⟨⟨by decide +kernel, by decide +kernel⟩, List.mem_of_getElem? (i := 896) (by decide +kernel), List.mem_of_getElem? (i := 1541) (by decide +kernel), List.mem_of_getElem? (i := 1542) (by decide +kernel)⟩
theorem lw_p130 : lw_okq (⟨"FourOnOneModel", "qJoins", "(I)V"⟩, 103) := ⟨⟨by decide +kernel, by decide +kernel⟩, List.mem_of_getElem? (i := 896) (by decide +kernel), List.mem_of_getElem? (i := 1545) (by decide +kernel), List.mem_of_getElem? (i := 1546) (by decide +kernel)⟩
theorem lw_p131 : lw_okq (⟨"FourOnOneModel", "isAhead", "(III)Z"⟩, 103) := ⟨⟨by decide +kernel, by decide +kernel⟩, List.mem_of_getElem? (i := 896) (by decide +kernel), List.mem_of_getElem? (i := 1569) (by decide +kernel), List.mem_of_getElem? (i := 1570) (by decide +kernel)⟩
theorem lw_p132 : lw_okq (⟨"FourOnOneModel", "putsAside", "()V"⟩, 103) := ⟨⟨by decide +kernel, by decide +kernel⟩, List.mem_of_getElem? (i := 896) (by decide +kernel), List.mem_of_getElem? (i := 1574) (by decide +kernel), List.mem_of_getElem? (i := 1575) (by decide +kernel)⟩
theorem lw_p133 : lw_okq (⟨"FourOnOneModel", "hoursGo", "(I)I"⟩, 103) := ⟨⟨by decide +kernel, by decide +kernel⟩, List.mem_of_getElem? (i := 896) (by decide +kernel), List.mem_of_getElem? (i := 1578) (by decide +kernel), List.mem_of_getElem? (i := 1579) (by decide +kernel)⟩
theorem lw_p134 : lw_okq (⟨"FourOnOneModel", "hourGoes", "()I"⟩, 103) := ⟨⟨by decide +kernel, by decide +kernel⟩, List.mem_of_getElem? (i := 896) (by decide +kernel), List.mem_of_getElem? (i := 1582) (by decide +kernel), List.mem_of_getElem? (i := 1583) (by decide +kernel)⟩
theorem lw_p135 : lw_okq (⟨"FourOnOneModel", "isFree", "(II)Z"⟩, 103) := ⟨⟨by decide +kernel, by decide +kernel⟩, List.mem_of_getElem? (i := 896) (by decide +kernel), List.mem_of_getElem? (i := 1586) (by decide +kernel), List.mem_of_getElem? (i := 1587) (by decide +kernel)⟩
theorem lw_p136 : lw_okq (⟨"FourOnOneModel", "pleasedBy", "(II)I"⟩, 103) := ⟨⟨by decide +kernel, by decide +kernel⟩, List.mem_of_getElem? (i := 896) (by decide +kernel), List.mem_of_getElem? (i := 1590) (by decide +kernel), List.mem_of_getElem? (i := 1591) (by decide +kernel)⟩
theorem lw_p137 : lw_okq (⟨"FourOnOneModel", "partSeen", "(II)V"⟩, 103) := ⟨⟨by decide +kernel, by decide +kernel⟩, List.mem_of_getElem? (i := 896) (by decide +kernel), List.mem_of_getElem? (i := 1594) (by decide +kernel), List.mem_of_getElem? (i := 1595) (by decide +kernel)⟩
theorem lw_p138 : lw_okq (⟨"FourOnOneModel", "hasSeen", "(I)V"⟩, 103) := ⟨⟨by decide +kernel, by decide +kernel⟩, List.mem_of_getElem? (i := 896) (by decide +kernel), List.mem_of_getElem? (i := 1602) (by decide +kernel), List.mem_of_getElem? (i := 1603) (by decide +kernel)⟩
theorem lw_p139 : lw_okq (⟨"FourOnOneModel", "isKept", "(II)V"⟩, 103) := ⟨⟨by decide +kernel, by decide +kernel⟩, List.mem_of_getElem? (i := 896) (by decide +kernel), List.mem_of_getElem? (i := 1606) (by decide +kernel), List.mem_of_getElem? (i := 1607) (by decide +kernel)⟩
theorem lw_p140 : lw_okq (⟨"FourOnOneModel", "fade", "()V"⟩, 103) := ⟨⟨by decide +kernel, by decide +kernel⟩, List.mem_of_getElem? (i := 896) (by decide +kernel), List.mem_of_getElem? (i := 1610) (by decide +kernel), List.mem_of_getElem? (i := 1611) (by decide +kernel)⟩
theorem lw_p141 : lw_okq (⟨"FourOnOneModel", "takesBack", "()V"⟩, 103) := ⟨⟨by decide +kernel, by decide +kernel⟩, List.mem_of_getElem? (i := 896) (by decide +kernel), List.mem_of_getElem? (i := 1614) (by decide +kernel), List.mem_of_getElem? (i := 1615) (by decide +kernel)⟩
theorem lw_p142 : lw_okq (⟨"FourOnOneModel", "triesAnew", "()V"⟩, 103) := ⟨⟨by decide +kernel, by decide +kernel⟩, List.mem_of_getElem? (i := 896) (by decide +kernel), List.mem_of_getElem? (i := 1618) (by decide +kernel), List.mem_of_getElem? (i := 1619) (by decide +kernel)⟩
theorem lw_p143 : lw_okq (⟨"FourOnOneModel", "pleasureBy", "(III)J"⟩, 103) := ⟨⟨by decide +kernel, by decide +kernel⟩, List.mem_of_getElem? (i := 896) (by decide +kernel), List.mem_of_getElem? (i := 1630) (by decide +kernel), List.mem_of_getElem? (i := 1631) (by decide +kernel)⟩
def lw_privs_9 : List (MethodName × Nat) := [(⟨"FourOnOneModel", "scoreOf", "(II)I"⟩, 103), (⟨"FourOnOneModel", "worthOf", "(II)I"⟩, 103), (⟨"FourOnOneModel", "qJoins", "(I)V"⟩, 103), (⟨"FourOnOneModel", "isAhead", "(III)Z"⟩, 103), (⟨"FourOnOneModel", "putsAside", "()V"⟩, 103), (⟨"FourOnOneModel", "hoursGo", "(I)I"⟩, 103), (⟨"FourOnOneModel", "hourGoes", "()I"⟩, 103), (⟨"FourOnOneModel", "isFree", "(II)Z"⟩, 103), (⟨"FourOnOneModel", "pleasedBy", "(II)I"⟩, 103), (⟨"FourOnOneModel", "partSeen", "(II)V"⟩, 103), (⟨"FourOnOneModel", "hasSeen", "(I)V"⟩, 103), (⟨"FourOnOneModel", "isKept", "(II)V"⟩, 103), (⟨"FourOnOneModel", "fade", "()V"⟩, 103), (⟨"FourOnOneModel", "takesBack", "()V"⟩, 103), (⟨"FourOnOneModel", "triesAnew", "()V"⟩, 103), (⟨"FourOnOneModel", "pleasureBy", "(III)J"⟩, 103)]
theorem lw_r9 : ∀ q ∈ lw_privs_9, lw_okq q := List.forall_mem_cons.mpr ⟨lw_p128, List.forall_mem_cons.mpr ⟨lw_p129, List.forall_mem_cons.mpr ⟨lw_p130, List.forall_mem_cons.mpr ⟨lw_p131, List.forall_mem_cons.mpr ⟨lw_p132, List.forall_mem_cons.mpr ⟨lw_p133, List.forall_mem_cons.mpr ⟨lw_p134, List.forall_mem_cons.mpr ⟨lw_p135, List.forall_mem_cons.mpr ⟨lw_p136, List.forall_mem_cons.mpr ⟨lw_p137, List.forall_mem_cons.mpr ⟨lw_p138, List.forall_mem_cons.mpr ⟨lw_p139, List.forall_mem_cons.mpr ⟨lw_p140, List.forall_mem_cons.mpr ⟨lw_p141, List.forall_mem_cons.mpr ⟨lw_p142, List.forall_mem_cons.mpr ⟨lw_p143, fun _ h => absurd h List.not_mem_nil⟩⟩⟩⟩⟩⟩⟩⟩⟩⟩⟩⟩⟩⟩⟩⟩
theorem lw_p144 : lw_okq (⟨"FourOnOneModel", "isRest", "(I)Z"⟩, 103) := ⟨⟨by decide +kernel, by decide +kernel⟩, List.mem_of_getElem? (i := 896) (by decide +kernel), List.mem_of_getElem? (i := 1638) (by decide +kernel), List.mem_of_getElem? (i := 1639) (by decide +kernel)⟩
theorem lw_p145 : lw_okq (⟨"FourOnOneModel", "byRule", "(III)I"⟩, 103) := ⟨⟨by decide +kernel, by decide +kernel⟩, List.mem_of_getElem? (i := 896) (by decide +kernel), List.mem_of_getElem? (i := 1659) (by decide +kernel), List.mem_of_getElem? (i := 1660) (by decide +kernel)⟩
theorem lw_p146 : lw_okq (⟨"FourOnOneModel", "firstOf", "(I)I"⟩, 103) := ⟨⟨by decide +kernel, by decide +kernel⟩, List.mem_of_getElem? (i := 896) (by decide +kernel), List.mem_of_getElem? (i := 1663) (by decide +kernel), List.mem_of_getElem? (i := 1664) (by decide +kernel)⟩
theorem lw_p147 : lw_okq (⟨"FourOnOneModel", "lastHour", "()I"⟩, 103) := ⟨⟨by decide +kernel, by decide +kernel⟩, List.mem_of_getElem? (i := 896) (by decide +kernel), List.mem_of_getElem? (i := 1679) (by decide +kernel), List.mem_of_getElem? (i := 1680) (by decide +kernel)⟩
theorem lw_p148 : lw_okq (⟨"FourOnOneModel", "isAsTold", "(I)Z"⟩, 103) := ⟨⟨by decide +kernel, by decide +kernel⟩, List.mem_of_getElem? (i := 896) (by decide +kernel), List.mem_of_getElem? (i := 1683) (by decide +kernel), List.mem_of_getElem? (i := 1684) (by decide +kernel)⟩
theorem lw_p149 : lw_okq (⟨"FourOnOneModel", "isSeenNow", "(I)Z"⟩, 103) := ⟨⟨by decide +kernel, by decide +kernel⟩, List.mem_of_getElem? (i := 896) (by decide +kernel), List.mem_of_getElem? (i := 1687) (by decide +kernel), List.mem_of_getElem? (i := 1688) (by decide +kernel)⟩
theorem lw_p150 : lw_okq (⟨"FourOnOneModel", "keeps", "()V"⟩, 103) := ⟨⟨by decide +kernel, by decide +kernel⟩, List.mem_of_getElem? (i := 896) (by decide +kernel), List.mem_of_getElem? (i := 1699) (by decide +kernel), List.mem_of_getElem? (i := 1700) (by decide +kernel)⟩
theorem lw_p151 : lw_okq (⟨"FourOnOneModel", "refuses", "(I)I"⟩, 103) := ⟨⟨by decide +kernel, by decide +kernel⟩, List.mem_of_getElem? (i := 896) (by decide +kernel), List.mem_of_getElem? (i := 1711) (by decide +kernel), List.mem_of_getElem? (i := 1712) (by decide +kernel)⟩
theorem lw_p152 : lw_okq (⟨"FourOnOneModel", "isStranger", "()Z"⟩, 103) := ⟨⟨by decide +kernel, by decide +kernel⟩, List.mem_of_getElem? (i := 896) (by decide +kernel), List.mem_of_getElem? (i := 1723) (by decide +kernel), List.mem_of_getElem? (i := 1724) (by decide +kernel)⟩
theorem lw_p153 : lw_okq (⟨"FourOnOneModel", "drawOf", "(I)I"⟩, 103) := ⟨⟨by decide +kernel, by decide +kernel⟩, List.mem_of_getElem? (i := 896) (by decide +kernel), List.mem_of_getElem? (i := 1727) (by decide +kernel), List.mem_of_getElem? (i := 1728) (by decide +kernel)⟩
theorem lw_p154 : lw_okq (⟨"FourOnOneModel", "qKind", "()I"⟩, 103) := ⟨⟨by decide +kernel, by decide +kernel⟩, List.mem_of_getElem? (i := 896) (by decide +kernel), List.mem_of_getElem? (i := 1739) (by decide +kernel), List.mem_of_getElem? (i := 1740) (by decide +kernel)⟩
theorem lw_p155 : lw_okq (⟨"FourOnOneModel", "qTold", "(I)J"⟩, 103) := ⟨⟨by decide +kernel, by decide +kernel⟩, List.mem_of_getElem? (i := 896) (by decide +kernel), List.mem_of_getElem? (i := 1744) (by decide +kernel), List.mem_of_getElem? (i := 1745) (by decide +kernel)⟩
theorem lw_p156 : lw_okq (⟨"FourOnOneModel", "qOf", "(IJI)J"⟩, 103) := ⟨⟨by decide +kernel, by decide +kernel⟩, List.mem_of_getElem? (i := 896) (by decide +kernel), List.mem_of_getElem? (i := 1748) (by decide +kernel), List.mem_of_getElem? (i := 1749) (by decide +kernel)⟩
theorem lw_p157 : lw_okq (⟨"FourOnOneModel", "qTakes", "(IJI)V"⟩, 103) := ⟨⟨by decide +kernel, by decide +kernel⟩, List.mem_of_getElem? (i := 896) (by decide +kernel), List.mem_of_getElem? (i := 1752) (by decide +kernel), List.mem_of_getElem? (i := 1753) (by decide +kernel)⟩
theorem lw_p158 : lw_okq (⟨"FourOnOneModel", "writesTwo", "(I)V"⟩, 103) := ⟨⟨by decide +kernel, by decide +kernel⟩, List.mem_of_getElem? (i := 896) (by decide +kernel), List.mem_of_getElem? (i := 1760) (by decide +kernel), List.mem_of_getElem? (i := 1761) (by decide +kernel)⟩
theorem lw_p159 : lw_okq (⟨"FourOnOneModel", "writes", "(I)V"⟩, 103) := ⟨⟨by decide +kernel, by decide +kernel⟩, List.mem_of_getElem? (i := 896) (by decide +kernel), List.mem_of_getElem? (i := 1764) (by decide +kernel), List.mem_of_getElem? (i := 1765) (by decide +kernel)⟩
def lw_privs_10 : List (MethodName × Nat) := [(⟨"FourOnOneModel", "isRest", "(I)Z"⟩, 103), (⟨"FourOnOneModel", "byRule", "(III)I"⟩, 103), (⟨"FourOnOneModel", "firstOf", "(I)I"⟩, 103), (⟨"FourOnOneModel", "lastHour", "()I"⟩, 103), (⟨"FourOnOneModel", "isAsTold", "(I)Z"⟩, 103), (⟨"FourOnOneModel", "isSeenNow", "(I)Z"⟩, 103), (⟨"FourOnOneModel", "keeps", "()V"⟩, 103), (⟨"FourOnOneModel", "refuses", "(I)I"⟩, 103), (⟨"FourOnOneModel", "isStranger", "()Z"⟩, 103), (⟨"FourOnOneModel", "drawOf", "(I)I"⟩, 103), (⟨"FourOnOneModel", "qKind", "()I"⟩, 103), (⟨"FourOnOneModel", "qTold", "(I)J"⟩, 103), (⟨"FourOnOneModel", "qOf", "(IJI)J"⟩, 103), (⟨"FourOnOneModel", "qTakes", "(IJI)V"⟩, 103), (⟨"FourOnOneModel", "writesTwo", "(I)V"⟩, 103), (⟨"FourOnOneModel", "writes", "(I)V"⟩, 103)]
theorem lw_r10 : ∀ q ∈ lw_privs_10, lw_okq q := List.forall_mem_cons.mpr ⟨lw_p144, List.forall_mem_cons.mpr ⟨lw_p145, List.forall_mem_cons.mpr ⟨lw_p146, List.forall_mem_cons.mpr ⟨lw_p147, List.forall_mem_cons.mpr ⟨lw_p148, List.forall_mem_cons.mpr ⟨lw_p149, List.forall_mem_cons.mpr ⟨lw_p150, List.forall_mem_cons.mpr ⟨lw_p151, List.forall_mem_cons.mpr ⟨lw_p152, List.forall_mem_cons.mpr ⟨lw_p153, List.forall_mem_cons.mpr ⟨lw_p154, List.forall_mem_cons.mpr ⟨lw_p155, List.forall_mem_cons.mpr ⟨lw_p156, List.forall_mem_cons.mpr ⟨lw_p157, List.forall_mem_cons.mpr ⟨lw_p158, List.forall_mem_cons.mpr ⟨lw_p159, fun _ h => absurd h List.not_mem_nil⟩⟩⟩⟩⟩⟩⟩⟩⟩⟩⟩⟩⟩⟩⟩⟩
theorem lw_p160 : lw_okq (⟨"FourOnOneModel", "isImage", "(I)Z"⟩, 103) := ⟨⟨by decide +kernel, by decide +kernel⟩, List.mem_of_getElem? (i := 896) (by decide +kernel), List.mem_of_getElem? (i := 1779) (by decide +kernel), List.mem_of_getElem? (i := 1780) (by decide +kernel)⟩
theorem lw_p161 : lw_okq (⟨"FourOnOneModel", "profileFrom", "(I)I"⟩, 103) := ⟨⟨by decide +kernel, by decide +kernel⟩, List.mem_of_getElem? (i := 896) (by decide +kernel), List.mem_of_getElem? (i := 1783) (by decide +kernel), List.mem_of_getElem? (i := 1784) (by decide +kernel)⟩
theorem lw_p162 : lw_okq (⟨"FourOnOneModel", "twoAt", "(I)I"⟩, 103) := ⟨⟨by decide +kernel, by decide +kernel⟩, List.mem_of_getElem? (i := 896) (by decide +kernel), List.mem_of_getElem? (i := 1787) (by decide +kernel), List.mem_of_getElem? (i := 1788) (by decide +kernel)⟩
theorem lw_p163 : lw_okq (⟨"FourOnOneModel", "isProfileTold", "(I)Z"⟩, 103) := ⟨⟨by decide +kernel, by decide +kernel⟩, List.mem_of_getElem? (i := 896) (by decide +kernel), List.mem_of_getElem? (i := 1791) (by decide +kernel), List.mem_of_getElem? (i := 1792) (by decide +kernel)⟩
def lw_privs_11 : List (MethodName × Nat) := [(⟨"FourOnOneModel", "isImage", "(I)Z"⟩, 103), (⟨"FourOnOneModel", "profileFrom", "(I)I"⟩, 103), (⟨"FourOnOneModel", "twoAt", "(I)I"⟩, 103), (⟨"FourOnOneModel", "isProfileTold", "(I)Z"⟩, 103)]
theorem lw_r11 : ∀ q ∈ lw_privs_11, lw_okq q := List.forall_mem_cons.mpr ⟨lw_p160, List.forall_mem_cons.mpr ⟨lw_p161, List.forall_mem_cons.mpr ⟨lw_p162, List.forall_mem_cons.mpr ⟨lw_p163, fun _ h => absurd h List.not_mem_nil⟩⟩⟩⟩
def lw_privs : List (MethodName × Nat) := lw_privs_1 ++ (lw_privs_2 ++ (lw_privs_3 ++ (lw_privs_4 ++ (lw_privs_5 ++ (lw_privs_6 ++ (lw_privs_7 ++ (lw_privs_8 ++ (lw_privs_9 ++ (lw_privs_10 ++ (lw_privs_11))))))))))
def lw_tbl : List Cond := k2_sels lw_privs ++ tables_1
theorem lw_privs_ok : ∀ q ∈ lw_privs, lw_okq q := by
  show ∀ q ∈ lw_privs_1 ++ (lw_privs_2 ++ (lw_privs_3 ++ (lw_privs_4 ++ (lw_privs_5 ++ (lw_privs_6 ++ (lw_privs_7 ++ (lw_privs_8 ++ (lw_privs_9 ++ (lw_privs_10 ++ (lw_privs_11)))))))))), lw_okq q
  exact List.forall_mem_append.mpr ⟨lw_r1, List.forall_mem_append.mpr ⟨lw_r2, List.forall_mem_append.mpr ⟨lw_r3, List.forall_mem_append.mpr ⟨lw_r4, List.forall_mem_append.mpr ⟨lw_r5, List.forall_mem_append.mpr ⟨lw_r6, List.forall_mem_append.mpr ⟨lw_r7, List.forall_mem_append.mpr ⟨lw_r8, List.forall_mem_append.mpr ⟨lw_r9, List.forall_mem_append.mpr ⟨lw_r10, lw_r11⟩⟩⟩⟩⟩⟩⟩⟩⟩⟩
-- ===== end of PART A; then your names; then what follows =====
/-! ===== BEGIN printed: names, fields, word lists, decode rows ===== -/
def RX0 : String := "FourOnOne$Account"
def TX0 : u_T := fun k => match k with
  | 0 => ("FourOnOne$Account", "time", "I", false)
  | 1 => ("FourOnOne$Account", "presses", "I", false)
  | 2 => ("FourOnOne$Account", "taste", "[I", true)
  | 3 => ("FourOnOne$Account", "seen", "[I", true)
  | 4 => ("FourOnOne$Account", "saw", "[I", true)
  | 5 => ("FourOnOne$Account", "kept", "[I", true)
  | _ => ("FourOnOne$Account", "keptEver", "I", false)
def tyX0 : Nat → FieldType := fun k => match k with
  | 0 => .int
  | 1 => .int
  | 2 => .array .int
  | 3 => .array .int
  | 4 => .array .int
  | 5 => .array .int
  | _ => .int
abbrev wsX00 : List Cond := u_ws RX0 TX0 7
theorem nmX0 : ∀ a, a < 7 → ∀ b, b < 7 → a ≠ b → (TX0 a).2.1 ≠ (TX0 b).2.1 := by decide +kernel
theorem tyX0_ok : ∀ k, k < 7 → parseFieldDescriptor (TX0 k).2.2.1 = some (tyX0 k) := by decide +kernel
abbrev cX0_init : ByteArray := prog_2_method_1_code
def yX0_init : MethodName := ⟨RX0, "<init>", "()V"⟩
abbrev cX0_clear : ByteArray := prog_2_method_2_code
def yX0_clear : MethodName := ⟨RX0, "clear", "()V"⟩
abbrev cX0_copyFrom : ByteArray := prog_2_method_3_code
def yX0_copyFrom : MethodName := ⟨RX0, "copyFrom", "(LFourOnOne$Account;)V"⟩
abbrev cX0_profileOf : ByteArray := prog_2_method_4_code
def yX0_profileOf : MethodName := ⟨RX0, "profileOf", "(I)I"⟩
abbrev cX0_keptCount : ByteArray := prog_2_method_5_code
def yX0_keptCount : MethodName := ⟨RX0, "keptCount", "()I"⟩
abbrev cX0_keptRow : ByteArray := prog_2_method_6_code
def yX0_keptRow : MethodName := ⟨RX0, "keptRow", "(I)I"⟩
abbrev cX0_keep : ByteArray := prog_2_method_7_code
def yX0_keep : MethodName := ⟨RX0, "keep", "(II)V"⟩
def RX1 : String := "FourOnOne$Course"
def TX1 : u_T := fun k => match k with
  | 0 => ("FourOnOne$Course", "house", "LFourOnOne$House;", false)
  | 1 => ("FourOnOne$Course", "account", "LFourOnOne$Account;", true)
  | 2 => ("FourOnOne$Course", "pleased", "[I", true)
  | 3 => ("FourOnOne$Course", "refused", "[I", true)
  | 4 => ("FourOnOne$Course", "filmsSeen", "I", false)
  | _ => ("FourOnOne$Course", "machine", "LFourOnOne$Machine;", true)
def tyX1 : Nat → FieldType := fun k => match k with
  | 0 => .object "FourOnOne$House"
  | 1 => .object "FourOnOne$Account"
  | 2 => .array .int
  | 3 => .array .int
  | 4 => .int
  | _ => .object "FourOnOne$Machine"
abbrev wsX10 : List Cond := u_ws RX1 TX1 6
theorem nmX1 : ∀ a, a < 6 → ∀ b, b < 6 → a ≠ b → (TX1 a).2.1 ≠ (TX1 b).2.1 := by decide +kernel
theorem tyX1_ok : ∀ k, k < 6 → parseFieldDescriptor (TX1 k).2.2.1 = some (tyX1 k) := by decide +kernel
abbrev cX1_init : ByteArray := prog_3_method_1_code
def yX1_init : MethodName := ⟨RX1, "<init>", "(LFourOnOne$House;)V"⟩
abbrev cX1_begin : ByteArray := prog_3_method_2_code
def yX1_begin : MethodName := ⟨RX1, "begin", "(LFourOnOne$Course;I)V"⟩
abbrev cX1_passHour : ByteArray := prog_3_method_3_code
def yX1_passHour : MethodName := ⟨RX1, "passHour", "()I"⟩
abbrev cX1_suggested : ByteArray := prog_3_method_4_code
def yX1_suggested : MethodName := ⟨RX1, "suggested", "(I)I"⟩
abbrev cX1_hasPartFor : ByteArray := prog_3_method_5_code
def yX1_hasPartFor : MethodName := ⟨RX1, "hasPartFor", "(II)Z"⟩
abbrev cX1_watch : ByteArray := prog_3_method_6_code
def yX1_watch : MethodName := ⟨RX1, "watch", "(II)I"⟩
abbrev cX1_seePart : ByteArray := prog_3_method_7_code
def yX1_seePart : MethodName := ⟨RX1, "seePart", "(III)V"⟩
abbrev cX1_valueFor : ByteArray := prog_3_method_8_code
def yX1_valueFor : MethodName := ⟨RX1, "valueFor", "([III)I"⟩
abbrev cX1_scoreOf : ByteArray := prog_3_method_9_code
def yX1_scoreOf : MethodName := ⟨RX1, "scoreOf", "(II)I"⟩
abbrev cX1_setFilmFacts : ByteArray := prog_3_method_10_code
def yX1_setFilmFacts : MethodName := ⟨RX1, "setFilmFacts", "(III)V"⟩
abbrev cX1_mayBe : ByteArray := prog_3_method_11_code
def yX1_mayBe : MethodName := ⟨RX1, "mayBe", "(III)Z"⟩
abbrev cX1_fadeAll : ByteArray := prog_3_method_12_code
def yX1_fadeAll : MethodName := ⟨RX1, "fadeAll", "(I)V"⟩
abbrev cX1_heldTaste : ByteArray := prog_3_method_13_code
def yX1_heldTaste : MethodName := ⟨RX1, "heldTaste", "(I)I"⟩
def RX2 : String := "FourOnOne$House"
def TX2 : u_T := fun k => match k with
  | 0 => ("FourOnOne$House", "counts", "[I", true)
  | 1 => ("FourOnOne$House", "names", "[[I", true)
  | 2 => ("FourOnOne$House", "parts", "[I", true)
  | 3 => ("FourOnOne$House", "weights", "[[I", true)
  | 4 => ("FourOnOne$House", "firstHour", "[I", true)
  | 5 => ("FourOnOne$House", "lastHour", "[I", true)
  | 6 => ("FourOnOne$House", "likes", "[[I", true)
  | 7 => ("FourOnOne$House", "presses", "I", false)
  | 8 => ("FourOnOne$House", "screens", "I", false)
  | 9 => ("FourOnOne$House", "price", "I", false)
  | 10 => ("FourOnOne$House", "bother", "I", false)
  | 11 => ("FourOnOne$House", "strange", "I", false)
  | 12 => ("FourOnOne$House", "learns", "I", false)
  | 13 => ("FourOnOne$House", "fades", "I", false)
  | 14 => ("FourOnOne$House", "may", "I", false)
  | _ => ("FourOnOne$House", "steps", "[I", true)
def tyX2 : Nat → FieldType := fun k => match k with
  | 0 => .array .int
  | 1 => .array (.array .int)
  | 2 => .array .int
  | 3 => .array (.array .int)
  | 4 => .array .int
  | 5 => .array .int
  | 6 => .array (.array .int)
  | 7 => .int
  | 8 => .int
  | 9 => .int
  | 10 => .int
  | 11 => .int
  | 12 => .int
  | 13 => .int
  | 14 => .int
  | _ => .array .int
abbrev wsX20 : List Cond := u_ws RX2 TX2 16
theorem nmX2 : ∀ a, a < 16 → ∀ b, b < 16 → a ≠ b → (TX2 a).2.1 ≠ (TX2 b).2.1 := by decide +kernel
theorem tyX2_ok : ∀ k, k < 16 → parseFieldDescriptor (TX2 k).2.2.1 = some (tyX2 k) := by decide +kernel
abbrev cX2_init : ByteArray := prog_4_method_1_code
def yX2_init : MethodName := ⟨RX2, "<init>", "()V"⟩
abbrev cX2_clear : ByteArray := prog_4_method_2_code
def yX2_clear : MethodName := ⟨RX2, "clear", "()V"⟩
abbrev cX2_find : ByteArray := prog_4_method_3_code
def yX2_find : MethodName := ⟨RX2, "find", "(II)I"⟩
abbrev cX2_isFree : ByteArray := prog_4_method_4_code
def yX2_isFree : MethodName := ⟨RX2, "isFree", "(II)Z"⟩
abbrev cX2_worthOf : ByteArray := prog_4_method_5_code
def yX2_worthOf : MethodName := ⟨RX2, "worthOf", "(II)I"⟩
abbrev cX2_filmOfMostWorth : ByteArray := prog_4_method_6_code
def yX2_filmOfMostWorth : MethodName := ⟨RX2, "filmOfMostWorth", "(I)I"⟩
def RX3 : String := "FourOnOne$Machine"
def TX3 : u_T := fun k => match k with
  | 0 => ("FourOnOne$Machine", "stack", "[I", true)
  | 1 => ("FourOnOne$Machine", "facts", "[I", true)
  | _ => ("FourOnOne$Machine", "weights", "[I", true)
def tyX3 : Nat → FieldType := fun k => match k with
  | 0 => .array .int
  | 1 => .array .int
  | _ => .array .int
abbrev wsX30 : List Cond := u_ws RX3 TX3 3
theorem nmX3 : ∀ a, a < 3 → ∀ b, b < 3 → a ≠ b → (TX3 a).2.1 ≠ (TX3 b).2.1 := by decide +kernel
theorem tyX3_ok : ∀ k, k < 3 → parseFieldDescriptor (TX3 k).2.2.1 = some (tyX3 k) := by decide +kernel
abbrev cX3_init : ByteArray := prog_5_method_1_code
def yX3_init : MethodName := ⟨RX3, "<init>", "()V"⟩
abbrev cX3_value : ByteArray := prog_5_method_2_code
def yX3_value : MethodName := ⟨RX3, "value", "([II)I"⟩
abbrev cX3_given : ByteArray := prog_5_method_3_code
def yX3_given : MethodName := ⟨RX3, "given", "(I)I"⟩
abbrev cX3_weightOf : ByteArray := prog_5_method_4_code
def yX3_weightOf : MethodName := ⟨RX3, "weightOf", "(I)I"⟩
abbrev cX3_joined : ByteArray := prog_5_method_5_code
def yX3_joined : MethodName := ⟨RX3, "joined", "(IJJ)I"⟩
def RX4 : String := "FourOnOne$Reader"
def TX4 : u_T := fun k => match k with
  | 0 => ("FourOnOne$Reader", "fault", "I", false)
  | 1 => ("FourOnOne$Reader", "place", "I", false)
  | 2 => ("FourOnOne$Reader", "house", "LFourOnOne$House;", false)
  | 3 => ("FourOnOne$Reader", "asked", "I", false)
  | 4 => ("FourOnOne$Reader", "question", "[I", true)
  | 5 => ("FourOnOne$Reader", "text", "[I", true)
  | 6 => ("FourOnOne$Reader", "length", "I", false)
  | 7 => ("FourOnOne$Reader", "words", "[J", true)
  | 8 => ("FourOnOne$Reader", "token", "I", false)
  | 9 => ("FourOnOne$Reader", "from", "I", false)
  | 10 => ("FourOnOne$Reader", "to", "I", false)
  | 11 => ("FourOnOne$Reader", "letters", "J", false)
  | 12 => ("FourOnOne$Reader", "word", "I", false)
  | 13 => ("FourOnOne$Reader", "formula", "I", false)
  | 14 => ("FourOnOne$Reader", "steps", "[I", false)
  | 15 => ("FourOnOne$Reader", "stepCount", "I", false)
  | _ => ("FourOnOne$Reader", "open", "I", false)
def tyX4 : Nat → FieldType := fun k => match k with
  | 0 => .int
  | 1 => .int
  | 2 => .object "FourOnOne$House"
  | 3 => .int
  | 4 => .array .int
  | 5 => .array .int
  | 6 => .int
  | 7 => .array .long
  | 8 => .int
  | 9 => .int
  | 10 => .int
  | 11 => .long
  | 12 => .int
  | 13 => .int
  | 14 => .array .int
  | 15 => .int
  | _ => .int
abbrev wsX40 : List Cond := u_ws RX4 TX4 17
theorem nmX4 : ∀ a, a < 17 → ∀ b, b < 17 → a ≠ b → (TX4 a).2.1 ≠ (TX4 b).2.1 := by decide +kernel
theorem tyX4_ok : ∀ k, k < 17 → parseFieldDescriptor (TX4 k).2.2.1 = some (tyX4 k) := by decide +kernel
abbrev cX4_init : ByteArray := prog_6_method_1_code
def yX4_init : MethodName := ⟨RX4, "<init>", "()V"⟩
abbrev cX4_readHouse : ByteArray := prog_6_method_2_code
def yX4_readHouse : MethodName := ⟨RX4, "readHouse", "(I)I"⟩
abbrev cX4_readQuestion : ByteArray := prog_6_method_3_code
def yX4_readQuestion : MethodName := ⟨RX4, "readQuestion", "(I)Z"⟩
abbrev cX4_begin : ByteArray := prog_6_method_4_code
def yX4_begin : MethodName := ⟨RX4, "begin", "(I[I)V"⟩
abbrev cX4_fail : ByteArray := prog_6_method_5_code
def yX4_fail : MethodName := ⟨RX4, "fail", "(II)V"⟩
abbrev cX4_next : ByteArray := prog_6_method_6_code
def yX4_next : MethodName := ⟨RX4, "next", "()V"⟩
abbrev cX4_knowWord : ByteArray := prog_6_method_7_code
def yX4_knowWord : MethodName := ⟨RX4, "knowWord", "()V"⟩
abbrev cX4_isWord : ByteArray := prog_6_method_8_code
def yX4_isWord : MethodName := ⟨RX4, "isWord", "(I)Z"⟩
abbrev cX4_isSign : ByteArray := prog_6_method_9_code
def yX4_isSign : MethodName := ⟨RX4, "isSign", "(C)Z"⟩
abbrev cX4_takeWord : ByteArray := prog_6_method_10_code
def yX4_takeWord : MethodName := ⟨RX4, "takeWord", "(I)V"⟩
abbrev cX4_takeSign : ByteArray := prog_6_method_11_code
def yX4_takeSign : MethodName := ⟨RX4, "takeSign", "(C)V"⟩
abbrev cX4_takeNumber : ByteArray := prog_6_method_12_code
def yX4_takeNumber : MethodName := ⟨RX4, "takeNumber", "(II)I"⟩
abbrev cX4_nameHere : ByteArray := prog_6_method_13_code
def yX4_nameHere : MethodName := ⟨RX4, "nameHere", "()I"⟩
abbrev cX4_readStatement : ByteArray := prog_6_method_14_code
def yX4_readStatement : MethodName := ⟨RX4, "readStatement", "()V"⟩
abbrev cX4_takeNewName : ByteArray := prog_6_method_15_code
def yX4_takeNewName : MethodName := ⟨RX4, "takeNewName", "(II)I"⟩
abbrev cX4_takeKnownName : ByteArray := prog_6_method_16_code
def yX4_takeKnownName : MethodName := ⟨RX4, "takeKnownName", "(I)I"⟩
abbrev cX4_readFilm : ByteArray := prog_6_method_17_code
def yX4_readFilm : MethodName := ⟨RX4, "readFilm", "()V"⟩
abbrev cX4_readPerson : ByteArray := prog_6_method_18_code
def yX4_readPerson : MethodName := ⟨RX4, "readPerson", "()V"⟩
abbrev cX4_readLikes : ByteArray := prog_6_method_19_code
def yX4_readLikes : MethodName := ⟨RX4, "readLikes", "()V"⟩
abbrev cX4_readPress : ByteArray := prog_6_method_20_code
def yX4_readPress : MethodName := ⟨RX4, "readPress", "()V"⟩
abbrev cX4_beginFormula : ByteArray := prog_6_method_21_code
def yX4_beginFormula : MethodName := ⟨RX4, "beginFormula", "(II)I"⟩
abbrev cX4_put : ByteArray := prog_6_method_22_code
def yX4_put : MethodName := ⟨RX4, "put", "(I)V"⟩
abbrev cX4_opens : ByteArray := prog_6_method_23_code
def yX4_opens : MethodName := ⟨RX4, "opens", "()Z"⟩
abbrev cX4_readTest : ByteArray := prog_6_method_24_code
def yX4_readTest : MethodName := ⟨RX4, "readTest", "()V"⟩
abbrev cX4_readBoth : ByteArray := prog_6_method_25_code
def yX4_readBoth : MethodName := ⟨RX4, "readBoth", "()V"⟩
abbrev cX4_readFact : ByteArray := prog_6_method_26_code
def yX4_readFact : MethodName := ⟨RX4, "readFact", "()V"⟩
abbrev cX4_readSum : ByteArray := prog_6_method_27_code
def yX4_readSum : MethodName := ⟨RX4, "readSum", "()V"⟩
abbrev cX4_readProduct : ByteArray := prog_6_method_28_code
def yX4_readProduct : MethodName := ⟨RX4, "readProduct", "()V"⟩
abbrev cX4_readPart : ByteArray := prog_6_method_29_code
def yX4_readPart : MethodName := ⟨RX4, "readPart", "()V"⟩
abbrev cX4_readLesserOrGreater : ByteArray := prog_6_method_30_code
def yX4_readLesserOrGreater : MethodName := ⟨RX4, "readLesserOrGreater", "(I)V"⟩
abbrev cX4_isFactHere : ByteArray := prog_6_method_31_code
def yX4_isFactHere : MethodName := ⟨RX4, "isFactHere", "()Z"⟩
def RX5 : String := "FourOnOne"
def TX5 : u_T := fun k => match k with
  | 0 => ("FourOnOne", "reader", "LFourOnOne$Reader;", true)
  | 1 => ("FourOnOne", "tape", "[I", true)
  | 2 => ("FourOnOne", "fed", "I", false)
  | 3 => ("FourOnOne", "now", "LFourOnOne$Course;", true)
  | 4 => ("FourOnOne", "ahead", "LFourOnOne$Course;", true)
  | 5 => ("FourOnOne", "past", "[LFourOnOne$Account;", true)
  | 6 => ("FourOnOne", "oldestPast", "I", false)
  | 7 => ("FourOnOne", "pastActs", "I", false)
  | 8 => ("FourOnOne", "toldRows", "[I", true)
  | 9 => ("FourOnOne", "toldCount", "I", false)
  | 10 => ("FourOnOne", "imageBytes", "[I", true)
  | 11 => ("FourOnOne", "imageLength", "I", false)
  | 12 => ("FourOnOne", "setPleasures", "[I", true)
  | 13 => ("FourOnOne", "votes", "[I", true)
  | 14 => ("FourOnOne", "refusals", "[I", true)
  | _ => ("FourOnOne", "drawn", "I", false)
def tyX5 : Nat → FieldType := fun k => match k with
  | 0 => .object "FourOnOne$Reader"
  | 1 => .array .int
  | 2 => .int
  | 3 => .object "FourOnOne$Course"
  | 4 => .object "FourOnOne$Course"
  | 5 => .array (.object "FourOnOne$Account")
  | 6 => .int
  | 7 => .int
  | 8 => .array .int
  | 9 => .int
  | 10 => .array .int
  | 11 => .int
  | 12 => .array .int
  | 13 => .array .int
  | 14 => .array .int
  | _ => .int
abbrev wsX50 : List Cond := u_ws RX5 TX5 16
theorem nmX5 : ∀ a, a < 16 → ∀ b, b < 16 → a ≠ b → (TX5 a).2.1 ≠ (TX5 b).2.1 := by decide +kernel
theorem tyX5_ok : ∀ k, k < 16 → parseFieldDescriptor (TX5 k).2.2.1 = some (tyX5 k) := by decide +kernel
abbrev cX5_init : ByteArray := prog_1_method_1_code
def yX5_init : MethodName := ⟨RX5, "<init>", "()V"⟩
abbrev cX5_feed : ByteArray := prog_1_method_2_code
def yX5_feed : MethodName := ⟨RX5, "feed", "(IIIII)I"⟩
abbrev cX5_end : ByteArray := prog_1_method_3_code
def yX5_end : MethodName := ⟨RX5, "end", "(I)Z"⟩
abbrev cX5_house : ByteArray := prog_1_method_4_code
def yX5_house : MethodName := ⟨RX5, "house", "()I"⟩
abbrev cX5_fault : ByteArray := prog_1_method_5_code
def yX5_fault : MethodName := ⟨RX5, "fault", "(I)I"⟩
abbrev cX5_has : ByteArray := prog_1_method_6_code
def yX5_has : MethodName := ⟨RX5, "has", "(I)I"⟩
abbrev cX5_letter : ByteArray := prog_1_method_7_code
def yX5_letter : MethodName := ⟨RX5, "letter", "(III)I"⟩
abbrev cX5_film : ByteArray := prog_1_method_8_code
def yX5_film : MethodName := ⟨RX5, "film", "(II)I"⟩
abbrev cX5_person : ByteArray := prog_1_method_9_code
def yX5_person : MethodName := ⟨RX5, "person", "(II)I"⟩
abbrev cX5_taste : ByteArray := prog_1_method_10_code
def yX5_taste : MethodName := ⟨RX5, "taste", "(II)I"⟩
abbrev cX5_seen : ByteArray := prog_1_method_11_code
def yX5_seen : MethodName := ⟨RX5, "seen", "(II)I"⟩
abbrev cX5_suggest : ByteArray := prog_1_method_12_code
def yX5_suggest : MethodName := ⟨RX5, "suggest", "(I)I"⟩
abbrev cX5_worth : ByteArray := prog_1_method_13_code
def yX5_worth : MethodName := ⟨RX5, "worth", "(II)I"⟩
abbrev cX5_kept : ByteArray := prog_1_method_14_code
def yX5_kept : MethodName := ⟨RX5, "kept", "(II)I"⟩
abbrev cX5_pleased : ByteArray := prog_1_method_15_code
def yX5_pleased : MethodName := ⟨RX5, "pleased", "(II)J"⟩
abbrev cX5_refused : ByteArray := prog_1_method_16_code
def yX5_refused : MethodName := ⟨RX5, "refused", "(II)I"⟩
abbrev cX5_pressing : ByteArray := prog_1_method_17_code
def yX5_pressing : MethodName := ⟨RX5, "pressing", "(II)J"⟩
abbrev cX5_rest : ByteArray := prog_1_method_18_code
def yX5_rest : MethodName := ⟨RX5, "rest", "(I)I"⟩
abbrev cX5_gone : ByteArray := prog_1_method_19_code
def yX5_gone : MethodName := ⟨RX5, "gone", "(II)I"⟩
abbrev cX5_sow : ByteArray := prog_1_method_20_code
def yX5_sow : MethodName := ⟨RX5, "sow", "(II)I"⟩
abbrev cX5_who : ByteArray := prog_1_method_21_code
def yX5_who : MethodName := ⟨RX5, "who", "(III)I"⟩
abbrev cX5_sofa : ByteArray := prog_1_method_22_code
def yX5_sofa : MethodName := ⟨RX5, "sofa", "(II)I"⟩
abbrev cX5_share : ByteArray := prog_1_method_23_code
def yX5_share : MethodName := ⟨RX5, "share", "(I)I"⟩
abbrev cX5_tell : ByteArray := prog_1_method_24_code
def yX5_tell : MethodName := ⟨RX5, "tell", "()I"⟩
abbrev cX5_pressed : ByteArray := prog_1_method_25_code
def yX5_pressed : MethodName := ⟨RX5, "pressed", "(I)I"⟩
abbrev cX5_press : ByteArray := prog_1_method_26_code
def yX5_press : MethodName := ⟨RX5, "press", "(II)Z"⟩
abbrev cX5_show : ByteArray := prog_1_method_27_code
def yX5_show : MethodName := ⟨RX5, "show", "(II)J"⟩
abbrev cX5_hours : ByteArray := prog_1_method_28_code
def yX5_hours : MethodName := ⟨RX5, "hours", "(I)I"⟩
abbrev cX5_chance : ByteArray := prog_1_method_29_code
def yX5_chance : MethodName := ⟨RX5, "chance", "(I)I"⟩
abbrev cX5_undo : ByteArray := prog_1_method_30_code
def yX5_undo : MethodName := ⟨RX5, "undo", "()Z"⟩
abbrev cX5_seed : ByteArray := prog_1_method_31_code
def yX5_seed : MethodName := ⟨RX5, "seed", "(I)Z"⟩
abbrev cX5_ask : ByteArray := prog_1_method_32_code
def yX5_ask : MethodName := ⟨RX5, "ask", "(I)J"⟩
abbrev cX5_image : ByteArray := prog_1_method_33_code
def yX5_image : MethodName := ⟨RX5, "image", "()I"⟩
abbrev cX5_octet : ByteArray := prog_1_method_34_code
def yX5_octet : MethodName := ⟨RX5, "octet", "(I)I"⟩
abbrev cX5_on : ByteArray := prog_1_method_35_code
def yX5_on : MethodName := ⟨RX5, "on", "()Z"⟩
abbrev cX5_status : ByteArray := prog_1_method_36_code
def yX5_status : MethodName := ⟨RX5, "status", "(I)I"⟩
abbrev cX5_refuse : ByteArray := prog_1_method_37_code
def yX5_refuse : MethodName := ⟨RX5, "refuse", "(I)I"⟩
abbrev cX5_feedNumber : ByteArray := prog_1_method_38_code
def yX5_feedNumber : MethodName := ⟨RX5, "feedNumber", "(I)V"⟩
abbrev cX5_takeTape : ByteArray := prog_1_method_39_code
def yX5_takeTape : MethodName := ⟨RX5, "takeTape", "()I"⟩
abbrev cX5_isOne : ByteArray := prog_1_method_40_code
def yX5_isOne : MethodName := ⟨RX5, "isOne", "(II)Z"⟩
abbrev cX5_canPass : ByteArray := prog_1_method_41_code
def yX5_canPass : MethodName := ⟨RX5, "canPass", "(III)Z"⟩
abbrev cX5_sawTogether : ByteArray := prog_1_method_42_code
def yX5_sawTogether : MethodName := ⟨RX5, "sawTogether", "()I"⟩
abbrev cX5_rememberAct : ByteArray := prog_1_method_43_code
def yX5_rememberAct : MethodName := ⟨RX5, "rememberAct", "()V"⟩
abbrev cX5_forgetActs : ByteArray := prog_1_method_44_code
def yX5_forgetActs : MethodName := ⟨RX5, "forgetActs", "()V"⟩
abbrev cX5_lookAhead : ByteArray := prog_1_method_45_code
def yX5_lookAhead : MethodName := ⟨RX5, "lookAhead", "(II)V"⟩
abbrev cX5_isAtRest : ByteArray := prog_1_method_46_code
def yX5_isAtRest : MethodName := ⟨RX5, "isAtRest", "(II)Z"⟩
abbrev cX5_sofaWorth : ByteArray := prog_1_method_47_code
def yX5_sofaWorth : MethodName := ⟨RX5, "sofaWorth", "(IIZ)I"⟩
abbrev cX5_countVotes : ByteArray := prog_1_method_48_code
def yX5_countVotes : MethodName := ⟨RX5, "countVotes", "(I)V"⟩
abbrev cX5_toldHours : ByteArray := prog_1_method_49_code
def yX5_toldHours : MethodName := ⟨RX5, "toldHours", "()I"⟩
abbrev cX5_isAsTold : ByteArray := prog_1_method_50_code
def yX5_isAsTold : MethodName := ⟨RX5, "isAsTold", "(II)Z"⟩
abbrev cX5_strangerSees : ByteArray := prog_1_method_51_code
def yX5_strangerSees : MethodName := ⟨RX5, "strangerSees", "()Z"⟩
abbrev cX5_draw : ByteArray := prog_1_method_52_code
def yX5_draw : MethodName := ⟨RX5, "draw", "(I)I"⟩
abbrev cX5_filmThatHolds : ByteArray := prog_1_method_53_code
def yX5_filmThatHolds : MethodName := ⟨RX5, "filmThatHolds", "(IZ)J"⟩
abbrev cX5_totalOf : ByteArray := prog_1_method_54_code
def yX5_totalOf : MethodName := ⟨RX5, "totalOf", "(I)J"⟩
abbrev cX5_extremeOf : ByteArray := prog_1_method_55_code
def yX5_extremeOf : MethodName := ⟨RX5, "extremeOf", "(IZ)J"⟩
abbrev cX5_putTwo : ByteArray := prog_1_method_56_code
def yX5_putTwo : MethodName := ⟨RX5, "putTwo", "(I)V"⟩
abbrev cX5_putByte : ByteArray := prog_1_method_57_code
def yX5_putByte : MethodName := ⟨RX5, "putByte", "(I)V"⟩
abbrev cX5_checkByte : ByteArray := prog_1_method_58_code
def yX5_checkByte : MethodName := ⟨RX5, "checkByte", "([II)I"⟩
abbrev cX5_lengthOfImage : ByteArray := prog_1_method_59_code
def yX5_lengthOfImage : MethodName := ⟨RX5, "lengthOfImage", "()I"⟩
abbrev cX5_tapeByte : ByteArray := prog_1_method_60_code
def yX5_tapeByte : MethodName := ⟨RX5, "tapeByte", "(I)I"⟩
abbrev cX5_tapeTwo : ByteArray := prog_1_method_61_code
def yX5_tapeTwo : MethodName := ⟨RX5, "tapeTwo", "(I)I"⟩
abbrev cX5_readProfiles : ByteArray := prog_1_method_62_code
def yX5_readProfiles : MethodName := ⟨RX5, "readProfiles", "(LFourOnOne$Account;)Z"⟩
abbrev cX5_readPeople : ByteArray := prog_1_method_63_code
def yX5_readPeople : MethodName := ⟨RX5, "readPeople", "(LFourOnOne$Account;I)Z"⟩
def RX6 : String := "FourOnOneModel"
def TX6 : u_T := fun k => match k with
  | 0 => ("FourOnOneModel", "tape", "[I", true)
  | 1 => ("FourOnOneModel", "taped", "I", false)
  | 2 => ("FourOnOneModel", "at", "I", false)
  | 3 => ("FourOnOneModel", "end", "I", false)
  | 4 => ("FourOnOneModel", "ended", "I", false)
  | 5 => ("FourOnOneModel", "bad", "I", false)
  | 6 => ("FourOnOneModel", "badPlace", "I", false)
  | 7 => ("FourOnOneModel", "fault", "I", false)
  | 8 => ("FourOnOneModel", "faultPlace", "I", false)
  | 9 => ("FourOnOneModel", "refused", "[I", true)
  | 10 => ("FourOnOneModel", "kindWord", "[C", true)
  | 11 => ("FourOnOneModel", "filmWord", "[C", true)
  | 12 => ("FourOnOneModel", "partsWord", "[C", true)
  | 13 => ("FourOnOneModel", "isWord", "[C", true)
  | 14 => ("FourOnOneModel", "personWord", "[C", true)
  | 15 => ("FourOnOneModel", "atWord", "[C", true)
  | 16 => ("FourOnOneModel", "toWord", "[C", true)
  | 17 => ("FourOnOneModel", "likesWord", "[C", true)
  | 18 => ("FourOnOneModel", "pressWord", "[C", true)
  | 19 => ("FourOnOneModel", "learnsWord", "[C", true)
  | 20 => ("FourOnOneModel", "fadesWord", "[C", true)
  | 21 => ("FourOnOneModel", "mayWord", "[C", true)
  | 22 => ("FourOnOneModel", "screensWord", "[C", true)
  | 23 => ("FourOnOneModel", "priceWord", "[C", true)
  | 24 => ("FourOnOneModel", "botherWord", "[C", true)
  | 25 => ("FourOnOneModel", "strangeWord", "[C", true)
  | 26 => ("FourOnOneModel", "hourWord", "[C", true)
  | 27 => ("FourOnOneModel", "tasteWord", "[C", true)
  | 28 => ("FourOnOneModel", "weightWord", "[C", true)
  | 29 => ("FourOnOneModel", "seenWord", "[C", true)
  | 30 => ("FourOnOneModel", "scoreWord", "[C", true)
  | 31 => ("FourOnOneModel", "worthWord", "[C", true)
  | 32 => ("FourOnOneModel", "numberWord", "[C", true)
  | 33 => ("FourOnOneModel", "orWord", "[C", true)
  | 34 => ("FourOnOneModel", "andWord", "[C", true)
  | 35 => ("FourOnOneModel", "notWord", "[C", true)
  | 36 => ("FourOnOneModel", "allWord", "[C", true)
  | 37 => ("FourOnOneModel", "minWord", "[C", true)
  | 38 => ("FourOnOneModel", "maxWord", "[C", true)
  | 39 => ("FourOnOneModel", "namePlace", "I", false)
  | 40 => ("FourOnOneModel", "many", "[I", true)
  | 41 => ("FourOnOneModel", "names", "[J", true)
  | 42 => ("FourOnOneModel", "parts", "[I", true)
  | 43 => ("FourOnOneModel", "weights", "[I", true)
  | 44 => ("FourOnOneModel", "frees", "[I", true)
  | 45 => ("FourOnOneModel", "liked", "[I", true)
  | 46 => ("FourOnOneModel", "pressing0", "I", false)
  | 47 => ("FourOnOneModel", "settings", "[I", true)
  | 48 => ("FourOnOneModel", "codeFrom", "[I", true)
  | 49 => ("FourOnOneModel", "codeEnd", "[I", true)
  | 50 => ("FourOnOneModel", "codes", "[I", true)
  | 51 => ("FourOnOneModel", "coded", "I", false)
  | 52 => ("FourOnOneModel", "statements", "I", false)
  | 53 => ("FourOnOneModel", "textKind", "I", false)
  | 54 => ("FourOnOneModel", "now", "[I", true)
  | 55 => ("FourOnOneModel", "aside", "[I", true)
  | 56 => ("FourOnOneModel", "askWho", "I", false)
  | 57 => ("FourOnOneModel", "askProfile", "I", false)
  | 58 => ("FourOnOneModel", "askTaste", "I", false)
  | 59 => ("FourOnOneModel", "askWeight", "I", false)
  | 60 => ("FourOnOneModel", "isThought", "Z", false)
  | 61 => ("FourOnOneModel", "saw", "[I", true)
  | 62 => ("FourOnOneModel", "pleased0", "[J", true)
  | 63 => ("FourOnOneModel", "refused0", "[I", true)
  | 64 => ("FourOnOneModel", "pleasures", "[J", true)
  | 65 => ("FourOnOneModel", "rowMany", "I", false)
  | 66 => ("FourOnOneModel", "rows", "[I", true)
  | 67 => ("FourOnOneModel", "kept0", "[I", true)
  | 68 => ("FourOnOneModel", "undoable", "I", false)
  | 69 => ("FourOnOneModel", "newest", "I", false)
  | 70 => ("FourOnOneModel", "seeded", "J", false)
  | 71 => ("FourOnOneModel", "firstAsked", "[C", true)
  | 72 => ("FourOnOneModel", "lastAsked", "[C", true)
  | 73 => ("FourOnOneModel", "oftenAsked", "[C", true)
  | 74 => ("FourOnOneModel", "totalAsked", "[C", true)
  | 75 => ("FourOnOneModel", "mostAsked", "[C", true)
  | 76 => ("FourOnOneModel", "leastAsked", "[C", true)
  | 77 => ("FourOnOneModel", "notAsked", "[C", true)
  | 78 => ("FourOnOneModel", "andAsked", "[C", true)
  | 79 => ("FourOnOneModel", "orAsked", "[C", true)
  | 80 => ("FourOnOneModel", "allAsked", "[C", true)
  | 81 => ("FourOnOneModel", "minAsked", "[C", true)
  | 82 => ("FourOnOneModel", "maxAsked", "[C", true)
  | 83 => ("FourOnOneModel", "hourAsked", "[C", true)
  | 84 => ("FourOnOneModel", "tasteAsked", "[C", true)
  | 85 => ("FourOnOneModel", "weightAsked", "[C", true)
  | 86 => ("FourOnOneModel", "partsAsked", "[C", true)
  | 87 => ("FourOnOneModel", "seenAsked", "[C", true)
  | 88 => ("FourOnOneModel", "scoreAsked", "[C", true)
  | 89 => ("FourOnOneModel", "numberAsked", "[C", true)
  | 90 => ("FourOnOneModel", "worthAsked", "[C", true)
  | 91 => ("FourOnOneModel", "qCodes", "[I", true)
  | 92 => ("FourOnOneModel", "qCoded", "I", false)
  | 93 => ("FourOnOneModel", "qWait", "[I", true)
  | 94 => ("FourOnOneModel", "qWaits", "I", false)
  | 95 => ("FourOnOneModel", "qOpened", "I", false)
  | 96 => ("FourOnOneModel", "qBase", "I", false)
  | 97 => ("FourOnOneModel", "qPile", "[J", true)
  | 98 => ("FourOnOneModel", "qPiled", "I", false)
  | 99 => ("FourOnOneModel", "qAnswer", "J", false)
  | 100 => ("FourOnOneModel", "qIsNew", "Z", false)
  | 101 => ("FourOnOneModel", "octet", "[I", true)
  | _ => ("FourOnOneModel", "octets", "I", false)
def tyX6 : Nat → FieldType := fun k => match k with
  | 0 => .array .int
  | 1 => .int
  | 2 => .int
  | 3 => .int
  | 4 => .int
  | 5 => .int
  | 6 => .int
  | 7 => .int
  | 8 => .int
  | 9 => .array .int
  | 10 => .array .char
  | 11 => .array .char
  | 12 => .array .char
  | 13 => .array .char
  | 14 => .array .char
  | 15 => .array .char
  | 16 => .array .char
  | 17 => .array .char
  | 18 => .array .char
  | 19 => .array .char
  | 20 => .array .char
  | 21 => .array .char
  | 22 => .array .char
  | 23 => .array .char
  | 24 => .array .char
  | 25 => .array .char
  | 26 => .array .char
  | 27 => .array .char
  | 28 => .array .char
  | 29 => .array .char
  | 30 => .array .char
  | 31 => .array .char
  | 32 => .array .char
  | 33 => .array .char
  | 34 => .array .char
  | 35 => .array .char
  | 36 => .array .char
  | 37 => .array .char
  | 38 => .array .char
  | 39 => .int
  | 40 => .array .int
  | 41 => .array .long
  | 42 => .array .int
  | 43 => .array .int
  | 44 => .array .int
  | 45 => .array .int
  | 46 => .int
  | 47 => .array .int
  | 48 => .array .int
  | 49 => .array .int
  | 50 => .array .int
  | 51 => .int
  | 52 => .int
  | 53 => .int
  | 54 => .array .int
  | 55 => .array .int
  | 56 => .int
  | 57 => .int
  | 58 => .int
  | 59 => .int
  | 60 => .boolean
  | 61 => .array .int
  | 62 => .array .long
  | 63 => .array .int
  | 64 => .array .long
  | 65 => .int
  | 66 => .array .int
  | 67 => .array .int
  | 68 => .int
  | 69 => .int
  | 70 => .long
  | 71 => .array .char
  | 72 => .array .char
  | 73 => .array .char
  | 74 => .array .char
  | 75 => .array .char
  | 76 => .array .char
  | 77 => .array .char
  | 78 => .array .char
  | 79 => .array .char
  | 80 => .array .char
  | 81 => .array .char
  | 82 => .array .char
  | 83 => .array .char
  | 84 => .array .char
  | 85 => .array .char
  | 86 => .array .char
  | 87 => .array .char
  | 88 => .array .char
  | 89 => .array .char
  | 90 => .array .char
  | 91 => .array .int
  | 92 => .int
  | 93 => .array .int
  | 94 => .int
  | 95 => .int
  | 96 => .int
  | 97 => .array .long
  | 98 => .int
  | 99 => .long
  | 100 => .boolean
  | 101 => .array .int
  | _ => .int
abbrev wsX60 : List Cond := u_ws RX6 TX6 103
theorem nmX6 : ∀ a, a < 103 → ∀ b, b < 103 → a ≠ b → (TX6 a).2.1 ≠ (TX6 b).2.1 := by decide +kernel
theorem tyX6_ok : ∀ k, k < 103 → parseFieldDescriptor (TX6 k).2.2.1 = some (tyX6 k) := by decide +kernel
abbrev cX6_init : ByteArray := prog_8_method_1_code
def yX6_init : MethodName := ⟨RX6, "<init>", "()V"⟩
abbrev cX6_isIn : ByteArray := prog_8_method_2_code
def yX6_isIn : MethodName := ⟨RX6, "isIn", "(JJJ)Z"⟩
abbrev cX6_feed : ByteArray := prog_8_method_3_code
def yX6_feed : MethodName := ⟨RX6, "feed", "(IIIII)I"⟩
abbrev cX6_end : ByteArray := prog_8_method_4_code
def yX6_end : MethodName := ⟨RX6, "end", "(I)Z"⟩
abbrev cX6_fail : ByteArray := prog_8_method_5_code
def yX6_fail : MethodName := ⟨RX6, "fail", "(II)V"⟩
abbrev cX6_isLetter : ByteArray := prog_8_method_6_code
def yX6_isLetter : MethodName := ⟨RX6, "isLetter", "(I)Z"⟩
abbrev cX6_isDigit : ByteArray := prog_8_method_7_code
def yX6_isDigit : MethodName := ⟨RX6, "isDigit", "(I)Z"⟩
abbrev cX6_look : ByteArray := prog_8_method_8_code
def yX6_look : MethodName := ⟨RX6, "look", "()I"⟩
abbrev cX6_isHere : ByteArray := prog_8_method_9_code
def yX6_isHere : MethodName := ⟨RX6, "isHere", "([C)Z"⟩
abbrev cX6_takes : ByteArray := prog_8_method_10_code
def yX6_takes : MethodName := ⟨RX6, "takes", "([C)Z"⟩
abbrev cX6_asks : ByteArray := prog_8_method_11_code
def yX6_asks : MethodName := ⟨RX6, "asks", "([C)V"⟩
abbrev cX6_takesSign : ByteArray := prog_8_method_12_code
def yX6_takesSign : MethodName := ⟨RX6, "takesSign", "(I)Z"⟩
abbrev cX6_asksSign : ByteArray := prog_8_method_13_code
def yX6_asksSign : MethodName := ⟨RX6, "asksSign", "(I)V"⟩
abbrev cX6_number : ByteArray := prog_8_method_14_code
def yX6_number : MethodName := ⟨RX6, "number", "(II)I"⟩
abbrev cX6_isOwnHere : ByteArray := prog_8_method_15_code
def yX6_isOwnHere : MethodName := ⟨RX6, "isOwnHere", "()Z"⟩
abbrev cX6_name : ByteArray := prog_8_method_16_code
def yX6_name : MethodName := ⟨RX6, "name", "()J"⟩
abbrev cX6_isAllowed : ByteArray := prog_8_method_17_code
def yX6_isAllowed : MethodName := ⟨RX6, "isAllowed", "(I)Z"⟩
abbrev cX6_isFull : ByteArray := prog_8_method_18_code
def yX6_isFull : MethodName := ⟨RX6, "isFull", "(III)Z"⟩
abbrev cX6_nameOf : ByteArray := prog_8_method_19_code
def yX6_nameOf : MethodName := ⟨RX6, "nameOf", "(IJ)I"⟩
abbrev cX6_newName : ByteArray := prog_8_method_20_code
def yX6_newName : MethodName := ⟨RX6, "newName", "()J"⟩
abbrev cX6_oneOf : ByteArray := prog_8_method_21_code
def yX6_oneOf : MethodName := ⟨RX6, "oneOf", "(I)I"⟩
abbrev cX6_adds : ByteArray := prog_8_method_22_code
def yX6_adds : MethodName := ⟨RX6, "adds", "(IJ)V"⟩
abbrev cX6_kindTold : ByteArray := prog_8_method_23_code
def yX6_kindTold : MethodName := ⟨RX6, "kindTold", "(I)V"⟩
abbrev cX6_filmTold : ByteArray := prog_8_method_24_code
def yX6_filmTold : MethodName := ⟨RX6, "filmTold", "(I)V"⟩
abbrev cX6_personTold : ByteArray := prog_8_method_25_code
def yX6_personTold : MethodName := ⟨RX6, "personTold", "(I)V"⟩
abbrev cX6_likesTold : ByteArray := prog_8_method_26_code
def yX6_likesTold : MethodName := ⟨RX6, "likesTold", "()V"⟩
abbrev cX6_pressTold : ByteArray := prog_8_method_27_code
def yX6_pressTold : MethodName := ⟨RX6, "pressTold", "()V"⟩
abbrev cX6_codesTold : ByteArray := prog_8_method_28_code
def yX6_codesTold : MethodName := ⟨RX6, "codesTold", "(II)V"⟩
abbrev cX6_statementTold : ByteArray := prog_8_method_29_code
def yX6_statementTold : MethodName := ⟨RX6, "statementTold", "()V"⟩
abbrev cX6_house : ByteArray := prog_8_method_30_code
def yX6_house : MethodName := ⟨RX6, "house", "()I"⟩
abbrev cX6_stands : ByteArray := prog_8_method_31_code
def yX6_stands : MethodName := ⟨RX6, "stands", "()V"⟩
abbrev cX6_fault : ByteArray := prog_8_method_32_code
def yX6_fault : MethodName := ⟨RX6, "fault", "(I)I"⟩
abbrev cX6_kindMany : ByteArray := prog_8_method_33_code
def yX6_kindMany : MethodName := ⟨RX6, "kindMany", "()I"⟩
abbrev cX6_filmMany : ByteArray := prog_8_method_34_code
def yX6_filmMany : MethodName := ⟨RX6, "filmMany", "()I"⟩
abbrev cX6_personMany : ByteArray := prog_8_method_35_code
def yX6_personMany : MethodName := ⟨RX6, "personMany", "()I"⟩
abbrev cX6_isKind : ByteArray := prog_8_method_36_code
def yX6_isKind : MethodName := ⟨RX6, "isKind", "(I)Z"⟩
abbrev cX6_isFilm : ByteArray := prog_8_method_37_code
def yX6_isFilm : MethodName := ⟨RX6, "isFilm", "(I)Z"⟩
abbrev cX6_isPerson : ByteArray := prog_8_method_38_code
def yX6_isPerson : MethodName := ⟨RX6, "isPerson", "(I)Z"⟩
abbrev cX6_partsOf : ByteArray := prog_8_method_39_code
def yX6_partsOf : MethodName := ⟨RX6, "partsOf", "(I)I"⟩
abbrev cX6_weightOf : ByteArray := prog_8_method_40_code
def yX6_weightOf : MethodName := ⟨RX6, "weightOf", "(II)I"⟩
abbrev cX6_likesOf : ByteArray := prog_8_method_41_code
def yX6_likesOf : MethodName := ⟨RX6, "likesOf", "(II)I"⟩
abbrev cX6_doesPress : ByteArray := prog_8_method_42_code
def yX6_doesPress : MethodName := ⟨RX6, "doesPress", "(I)Z"⟩
abbrev cX6_pressAll : ByteArray := prog_8_method_43_code
def yX6_pressAll : MethodName := ⟨RX6, "pressAll", "(I)V"⟩
abbrev cX6_pressers : ByteArray := prog_8_method_44_code
def yX6_pressers : MethodName := ⟨RX6, "pressers", "()I"⟩
abbrev cX6_profileOf : ByteArray := prog_8_method_45_code
def yX6_profileOf : MethodName := ⟨RX6, "profileOf", "(I)I"⟩
abbrev cX6_tasteAt : ByteArray := prog_8_method_46_code
def yX6_tasteAt : MethodName := ⟨RX6, "tasteAt", "(II)I"⟩
abbrev cX6_seenAt : ByteArray := prog_8_method_47_code
def yX6_seenAt : MethodName := ⟨RX6, "seenAt", "(II)I"⟩
abbrev cX6_seenBy : ByteArray := prog_8_method_48_code
def yX6_seenBy : MethodName := ⟨RX6, "seenBy", "(II)I"⟩
abbrev cX6_scoreOf : ByteArray := prog_8_method_49_code
def yX6_scoreOf : MethodName := ⟨RX6, "scoreOf", "(II)I"⟩
abbrev cX6_worthOf : ByteArray := prog_8_method_50_code
def yX6_worthOf : MethodName := ⟨RX6, "worthOf", "(II)I"⟩
abbrev cX6_cut : ByteArray := prog_8_method_51_code
def yX6_cut : MethodName := ⟨RX6, "cut", "(J)I"⟩
abbrev cX6_codesTell : ByteArray := prog_8_method_52_code
def yX6_codesTell : MethodName := ⟨RX6, "codesTell", "(II)J"⟩
abbrev cX6_may : ByteArray := prog_8_method_53_code
def yX6_may : MethodName := ⟨RX6, "may", "(II)Z"⟩
abbrev cX6_suggestedTo : ByteArray := prog_8_method_54_code
def yX6_suggestedTo : MethodName := ⟨RX6, "suggestedTo", "(I)I"⟩
abbrev cX6_partSeen : ByteArray := prog_8_method_55_code
def yX6_partSeen : MethodName := ⟨RX6, "partSeen", "(II)V"⟩
abbrev cX6_isKept : ByteArray := prog_8_method_56_code
def yX6_isKept : MethodName := ⟨RX6, "isKept", "(II)V"⟩
abbrev cX6_hasSeen : ByteArray := prog_8_method_57_code
def yX6_hasSeen : MethodName := ⟨RX6, "hasSeen", "(I)V"⟩
abbrev cX6_pleasedBy : ByteArray := prog_8_method_58_code
def yX6_pleasedBy : MethodName := ⟨RX6, "pleasedBy", "(II)I"⟩
abbrev cX6_fade : ByteArray := prog_8_method_59_code
def yX6_fade : MethodName := ⟨RX6, "fade", "()V"⟩
abbrev cX6_isFree : ByteArray := prog_8_method_60_code
def yX6_isFree : MethodName := ⟨RX6, "isFree", "(II)Z"⟩
abbrev cX6_hourGoes : ByteArray := prog_8_method_61_code
def yX6_hourGoes : MethodName := ⟨RX6, "hourGoes", "()I"⟩
abbrev cX6_hoursGo : ByteArray := prog_8_method_62_code
def yX6_hoursGo : MethodName := ⟨RX6, "hoursGo", "(I)I"⟩
abbrev cX6_putsAside : ByteArray := prog_8_method_63_code
def yX6_putsAside : MethodName := ⟨RX6, "putsAside", "()V"⟩
abbrev cX6_triesAnew : ByteArray := prog_8_method_64_code
def yX6_triesAnew : MethodName := ⟨RX6, "triesAnew", "()V"⟩
abbrev cX6_takesBack : ByteArray := prog_8_method_65_code
def yX6_takesBack : MethodName := ⟨RX6, "takesBack", "()V"⟩
abbrev cX6_isAhead : ByteArray := prog_8_method_66_code
def yX6_isAhead : MethodName := ⟨RX6, "isAhead", "(III)Z"⟩
abbrev cX6_bits : ByteArray := prog_8_method_67_code
def yX6_bits : MethodName := ⟨RX6, "bits", "(I)I"⟩
abbrev cX6_hoursOf : ByteArray := prog_8_method_68_code
def yX6_hoursOf : MethodName := ⟨RX6, "hoursOf", "(I)I"⟩
abbrev cX6_hoursAll : ByteArray := prog_8_method_69_code
def yX6_hoursAll : MethodName := ⟨RX6, "hoursAll", "()I"⟩
abbrev cX6_has : ByteArray := prog_8_method_70_code
def yX6_has : MethodName := ⟨RX6, "has", "(I)I"⟩
abbrev cX6_letter : ByteArray := prog_8_method_71_code
def yX6_letter : MethodName := ⟨RX6, "letter", "(III)I"⟩
abbrev cX6_film : ByteArray := prog_8_method_72_code
def yX6_film : MethodName := ⟨RX6, "film", "(II)I"⟩
abbrev cX6_person : ByteArray := prog_8_method_73_code
def yX6_person : MethodName := ⟨RX6, "person", "(II)I"⟩
abbrev cX6_taste : ByteArray := prog_8_method_74_code
def yX6_taste : MethodName := ⟨RX6, "taste", "(II)I"⟩
abbrev cX6_seen : ByteArray := prog_8_method_75_code
def yX6_seen : MethodName := ⟨RX6, "seen", "(II)I"⟩
abbrev cX6_suggest : ByteArray := prog_8_method_76_code
def yX6_suggest : MethodName := ⟨RX6, "suggest", "(I)I"⟩
abbrev cX6_worth : ByteArray := prog_8_method_77_code
def yX6_worth : MethodName := ⟨RX6, "worth", "(II)I"⟩
abbrev cX6_kept : ByteArray := prog_8_method_78_code
def yX6_kept : MethodName := ⟨RX6, "kept", "(II)I"⟩
abbrev cX6_pleased : ByteArray := prog_8_method_79_code
def yX6_pleased : MethodName := ⟨RX6, "pleased", "(II)J"⟩
abbrev cX6_refused : ByteArray := prog_8_method_80_code
def yX6_refused : MethodName := ⟨RX6, "refused", "(II)I"⟩
abbrev cX6_pleasureBy : ByteArray := prog_8_method_81_code
def yX6_pleasureBy : MethodName := ⟨RX6, "pleasureBy", "(III)J"⟩
abbrev cX6_pressing : ByteArray := prog_8_method_82_code
def yX6_pressing : MethodName := ⟨RX6, "pressing", "(II)J"⟩
abbrev cX6_isRest : ByteArray := prog_8_method_83_code
def yX6_isRest : MethodName := ⟨RX6, "isRest", "(I)Z"⟩
abbrev cX6_rest : ByteArray := prog_8_method_84_code
def yX6_rest : MethodName := ⟨RX6, "rest", "(I)I"⟩
abbrev cX6_gone : ByteArray := prog_8_method_85_code
def yX6_gone : MethodName := ⟨RX6, "gone", "(II)I"⟩
abbrev cX6_sow : ByteArray := prog_8_method_86_code
def yX6_sow : MethodName := ⟨RX6, "sow", "(II)I"⟩
abbrev cX6_who : ByteArray := prog_8_method_87_code
def yX6_who : MethodName := ⟨RX6, "who", "(III)I"⟩
abbrev cX6_firstOf : ByteArray := prog_8_method_88_code
def yX6_firstOf : MethodName := ⟨RX6, "firstOf", "(I)I"⟩
abbrev cX6_byRule : ByteArray := prog_8_method_89_code
def yX6_byRule : MethodName := ⟨RX6, "byRule", "(III)I"⟩
abbrev cX6_sofa : ByteArray := prog_8_method_90_code
def yX6_sofa : MethodName := ⟨RX6, "sofa", "(II)I"⟩
abbrev cX6_share : ByteArray := prog_8_method_91_code
def yX6_share : MethodName := ⟨RX6, "share", "(I)I"⟩
abbrev cX6_tell : ByteArray := prog_8_method_92_code
def yX6_tell : MethodName := ⟨RX6, "tell", "()I"⟩
abbrev cX6_isSeenNow : ByteArray := prog_8_method_93_code
def yX6_isSeenNow : MethodName := ⟨RX6, "isSeenNow", "(I)Z"⟩
abbrev cX6_lastHour : ByteArray := prog_8_method_94_code
def yX6_lastHour : MethodName := ⟨RX6, "lastHour", "()I"⟩
abbrev cX6_isAsTold : ByteArray := prog_8_method_95_code
def yX6_isAsTold : MethodName := ⟨RX6, "isAsTold", "(I)Z"⟩
abbrev cX6_pressed : ByteArray := prog_8_method_96_code
def yX6_pressed : MethodName := ⟨RX6, "pressed", "(I)I"⟩
abbrev cX6_keeps : ByteArray := prog_8_method_97_code
def yX6_keeps : MethodName := ⟨RX6, "keeps", "()V"⟩
abbrev cX6_undo : ByteArray := prog_8_method_98_code
def yX6_undo : MethodName := ⟨RX6, "undo", "()Z"⟩
abbrev cX6_press : ByteArray := prog_8_method_99_code
def yX6_press : MethodName := ⟨RX6, "press", "(II)Z"⟩
abbrev cX6_show : ByteArray := prog_8_method_100_code
def yX6_show : MethodName := ⟨RX6, "show", "(II)J"⟩
abbrev cX6_refuses : ByteArray := prog_8_method_101_code
def yX6_refuses : MethodName := ⟨RX6, "refuses", "(I)I"⟩
abbrev cX6_hours : ByteArray := prog_8_method_102_code
def yX6_hours : MethodName := ⟨RX6, "hours", "(I)I"⟩
abbrev cX6_seed : ByteArray := prog_8_method_103_code
def yX6_seed : MethodName := ⟨RX6, "seed", "(I)Z"⟩
abbrev cX6_drawOf : ByteArray := prog_8_method_104_code
def yX6_drawOf : MethodName := ⟨RX6, "drawOf", "(I)I"⟩
abbrev cX6_isStranger : ByteArray := prog_8_method_105_code
def yX6_isStranger : MethodName := ⟨RX6, "isStranger", "()Z"⟩
abbrev cX6_chance : ByteArray := prog_8_method_106_code
def yX6_chance : MethodName := ⟨RX6, "chance", "(I)I"⟩
abbrev cX6_qCode : ByteArray := prog_8_method_107_code
def yX6_qCode : MethodName := ⟨RX6, "qCode", "(I)V"⟩
abbrev cX6_qOpens : ByteArray := prog_8_method_108_code
def yX6_qOpens : MethodName := ⟨RX6, "qOpens", "(II)V"⟩
abbrev cX6_qIsOn : ByteArray := prog_8_method_109_code
def yX6_qIsOn : MethodName := ⟨RX6, "qIsOn", "(I)Z"⟩
abbrev cX6_qDrops : ByteArray := prog_8_method_110_code
def yX6_qDrops : MethodName := ⟨RX6, "qDrops", "()V"⟩
abbrev cX6_qIsBracket : ByteArray := prog_8_method_111_code
def yX6_qIsBracket : MethodName := ⟨RX6, "qIsBracket", "(I)Z"⟩
abbrev cX6_qBracket : ByteArray := prog_8_method_112_code
def yX6_qBracket : MethodName := ⟨RX6, "qBracket", "()I"⟩
abbrev cX6_qDropsToBracket : ByteArray := prog_8_method_113_code
def yX6_qDropsToBracket : MethodName := ⟨RX6, "qDropsToBracket", "()V"⟩
abbrev cX6_qWordHere : ByteArray := prog_8_method_114_code
def yX6_qWordHere : MethodName := ⟨RX6, "qWordHere", "()I"⟩
abbrev cX6_qWordOf : ByteArray := prog_8_method_115_code
def yX6_qWordOf : MethodName := ⟨RX6, "qWordOf", "(II)I"⟩
abbrev cX6_qAsksWord : ByteArray := prog_8_method_116_code
def yX6_qAsksWord : MethodName := ⟨RX6, "qAsksWord", "(I)V"⟩
abbrev cX6_qEndsPart : ByteArray := prog_8_method_117_code
def yX6_qEndsPart : MethodName := ⟨RX6, "qEndsPart", "()V"⟩
abbrev cX6_qPartTold : ByteArray := prog_8_method_118_code
def yX6_qPartTold : MethodName := ⟨RX6, "qPartTold", "()V"⟩
abbrev cX6_qGoesOn : ByteArray := prog_8_method_119_code
def yX6_qGoesOn : MethodName := ⟨RX6, "qGoesOn", "()Z"⟩
abbrev cX6_qSums : ByteArray := prog_8_method_120_code
def yX6_qSums : MethodName := ⟨RX6, "qSums", "()V"⟩
abbrev cX6_qFact : ByteArray := prog_8_method_121_code
def yX6_qFact : MethodName := ⟨RX6, "qFact", "()V"⟩
abbrev cX6_qHasSquare : ByteArray := prog_8_method_122_code
def yX6_qHasSquare : MethodName := ⟨RX6, "qHasSquare", "()Z"⟩
abbrev cX6_qDropsNots : ByteArray := prog_8_method_123_code
def yX6_qDropsNots : MethodName := ⟨RX6, "qDropsNots", "()V"⟩
abbrev cX6_qTest : ByteArray := prog_8_method_124_code
def yX6_qTest : MethodName := ⟨RX6, "qTest", "()V"⟩
abbrev cX6_qGoesOnTest : ByteArray := prog_8_method_125_code
def yX6_qGoesOnTest : MethodName := ⟨RX6, "qGoesOnTest", "()Z"⟩
abbrev cX6_qClip : ByteArray := prog_8_method_126_code
def yX6_qClip : MethodName := ⟨RX6, "qClip", "(J)J"⟩
abbrev cX6_qFloor : ByteArray := prog_8_method_127_code
def yX6_qFloor : MethodName := ⟨RX6, "qFloor", "(JJ)J"⟩
abbrev cX6_qPuts : ByteArray := prog_8_method_128_code
def yX6_qPuts : MethodName := ⟨RX6, "qPuts", "(J)V"⟩
abbrev cX6_qJoins : ByteArray := prog_8_method_129_code
def yX6_qJoins : MethodName := ⟨RX6, "qJoins", "(I)V"⟩
abbrev cX6_qPartOf : ByteArray := prog_8_method_130_code
def yX6_qPartOf : MethodName := ⟨RX6, "qPartOf", "(II)J"⟩
abbrev cX6_qOf : ByteArray := prog_8_method_131_code
def yX6_qOf : MethodName := ⟨RX6, "qOf", "(IJI)J"⟩
abbrev cX6_qTold : ByteArray := prog_8_method_132_code
def yX6_qTold : MethodName := ⟨RX6, "qTold", "(I)J"⟩
abbrev cX6_qKind : ByteArray := prog_8_method_133_code
def yX6_qKind : MethodName := ⟨RX6, "qKind", "()I"⟩
abbrev cX6_qTakes : ByteArray := prog_8_method_134_code
def yX6_qTakes : MethodName := ⟨RX6, "qTakes", "(IJI)V"⟩
abbrev cX6_ask : ByteArray := prog_8_method_135_code
def yX6_ask : MethodName := ⟨RX6, "ask", "(I)J"⟩
abbrev cX6_checked : ByteArray := prog_8_method_136_code
def yX6_checked : MethodName := ⟨RX6, "checked", "([II)I"⟩
abbrev cX6_writes : ByteArray := prog_8_method_137_code
def yX6_writes : MethodName := ⟨RX6, "writes", "(I)V"⟩
abbrev cX6_writesTwo : ByteArray := prog_8_method_138_code
def yX6_writesTwo : MethodName := ⟨RX6, "writesTwo", "(I)V"⟩
abbrev cX6_image : ByteArray := prog_8_method_139_code
def yX6_image : MethodName := ⟨RX6, "image", "()I"⟩
abbrev cX6_octet : ByteArray := prog_8_method_140_code
def yX6_octet : MethodName := ⟨RX6, "octet", "(I)I"⟩
abbrev cX6_twoAt : ByteArray := prog_8_method_141_code
def yX6_twoAt : MethodName := ⟨RX6, "twoAt", "(I)I"⟩
abbrev cX6_profileFrom : ByteArray := prog_8_method_142_code
def yX6_profileFrom : MethodName := ⟨RX6, "profileFrom", "(I)I"⟩
abbrev cX6_isProfileTold : ByteArray := prog_8_method_143_code
def yX6_isProfileTold : MethodName := ⟨RX6, "isProfileTold", "(I)Z"⟩
abbrev cX6_isImage : ByteArray := prog_8_method_144_code
def yX6_isImage : MethodName := ⟨RX6, "isImage", "(I)Z"⟩
abbrev cX6_on : ByteArray := prog_8_method_145_code
def yX6_on : MethodName := ⟨RX6, "on", "()Z"⟩
abbrev cX6_status : ByteArray := prog_8_method_146_code
def yX6_status : MethodName := ⟨RX6, "status", "(I)I"⟩
def RJ6 : String := "java/lang/Integer"
def TJ6 : u_T := fun k => match k with
  | _ => ("", "", "", false)
def tyJ6 : Nat → FieldType := fun k => match k with
  | _ => .int
abbrev wsJ60 : List Cond := u_ws RJ6 TJ6 0
theorem nmJ6 : ∀ a, a < 0 → ∀ b, b < 0 → a ≠ b → (TJ6 a).2.1 ≠ (TJ6 b).2.1 := by decide +kernel
theorem tyJ6_ok : ∀ k, k < 0 → parseFieldDescriptor (TJ6 k).2.2.1 = some (tyJ6 k) := by decide +kernel
abbrev cJ6_bitCount_0f7a4 : ByteArray := prog_9_method_49_code
def yJ6_bitCount_0f7a4 : MethodName := ⟨RJ6, "bitCount", "(I)I"⟩
def RJ9 : String := "java/lang/Math"
def TJ9 : u_T := fun k => match k with
  | _ => ("", "", "", false)
def tyJ9 : Nat → FieldType := fun k => match k with
  | _ => .int
abbrev wsJ90 : List Cond := u_ws RJ9 TJ9 0
theorem nmJ9 : ∀ a, a < 0 → ∀ b, b < 0 → a ≠ b → (TJ9 a).2.1 ≠ (TJ9 b).2.1 := by decide +kernel
theorem tyJ9_ok : ∀ k, k < 0 → parseFieldDescriptor (TJ9 k).2.2.1 = some (tyJ9 k) := by decide +kernel
abbrev cJ9_floorDiv_f86c9 : ByteArray := prog_10_method_49_code
def yJ9_floorDiv_f86c9 : MethodName := ⟨RJ9, "floorDiv", "(JJ)J"⟩
abbrev cJ9_max_7cf53 : ByteArray := prog_10_method_65_code
def yJ9_max_7cf53 : MethodName := ⟨RJ9, "max", "(II)I"⟩
abbrev cJ9_max_f86c9 : ByteArray := prog_10_method_66_code
def yJ9_max_f86c9 : MethodName := ⟨RJ9, "max", "(JJ)J"⟩
abbrev cJ9_min_7cf53 : ByteArray := prog_10_method_69_code
def yJ9_min_7cf53 : MethodName := ⟨RJ9, "min", "(II)I"⟩
abbrev cJ9_min_f86c9 : ByteArray := prog_10_method_70_code
def yJ9_min_f86c9 : MethodName := ⟨RJ9, "min", "(JJ)J"⟩
def RJ0 : String := "java/lang/String"
def TJ0 : u_T := fun k => match k with
  | _ => ("", "", "", false)
def tyJ0 : Nat → FieldType := fun k => match k with
  | _ => .int
abbrev wsJ00 : List Cond := u_ws RJ0 TJ0 0
theorem nmJ0 : ∀ a, a < 0 → ∀ b, b < 0 → a ≠ b → (TJ0 a).2.1 ≠ (TJ0 b).2.1 := by decide +kernel
theorem tyJ0_ok : ∀ k, k < 0 → parseFieldDescriptor (TJ0 k).2.2.1 = some (tyJ0 k) := by decide +kernel
abbrev cJ0_length_8abf5 : ByteArray := prog_11_method_54_code
def yJ0_length_8abf5 : MethodName := ⟨RJ0, "length", "()I"⟩
abbrev cJ0_charAt_5068e : ByteArray := prog_11_method_56_code
def yJ0_charAt_5068e : MethodName := ⟨RJ0, "charAt", "(I)C"⟩
abbrev cJ0_coder_7d493 : ByteArray := prog_11_method_152_code
def yJ0_coder_7d493 : MethodName := ⟨RJ0, "coder", "()B"⟩
abbrev cJ0_isLatin1_aae02 : ByteArray := prog_11_method_154_code
def yJ0_isLatin1_aae02 : MethodName := ⟨RJ0, "isLatin1", "()Z"⟩
abbrev cJ0_checkIndex_df160 : ByteArray := prog_11_method_155_code
def yJ0_checkIndex_df160 : MethodName := ⟨RJ0, "checkIndex", "(II)V"⟩
def RJ1 : String := "java/lang/StringLatin1"
def TJ1 : u_T := fun k => match k with
  | _ => ("", "", "", false)
def tyJ1 : Nat → FieldType := fun k => match k with
  | _ => .int
abbrev wsJ10 : List Cond := u_ws RJ1 TJ1 0
theorem nmJ1 : ∀ a, a < 0 → ∀ b, b < 0 → a ≠ b → (TJ1 a).2.1 ≠ (TJ1 b).2.1 := by decide +kernel
theorem tyJ1_ok : ∀ k, k < 0 → parseFieldDescriptor (TJ1 k).2.2.1 = some (tyJ1 k) := by decide +kernel
abbrev cJ1_charAt_3b067 : ByteArray := prog_12_method_2_code
def yJ1_charAt_3b067 : MethodName := ⟨RJ1, "charAt", "([BI)C"⟩
def RJ2 : String := "java/lang/StringUTF16"
def TJ2 : u_T := fun k => match k with
  | _ => ("", "", "", false)
def tyJ2 : Nat → FieldType := fun k => match k with
  | _ => .int
abbrev wsJ20 : List Cond := u_ws RJ2 TJ2 0
theorem nmJ2 : ∀ a, a < 0 → ∀ b, b < 0 → a ≠ b → (TJ2 a).2.1 ≠ (TJ2 b).2.1 := by decide +kernel
theorem tyJ2_ok : ∀ k, k < 0 → parseFieldDescriptor (TJ2 k).2.2.1 = some (tyJ2 k) := by decide +kernel
abbrev cJ2_getChar_3b067 : ByteArray := prog_13_method_5_code
def yJ2_getChar_3b067 : MethodName := ⟨RJ2, "getChar", "([BI)C"⟩
abbrev cJ2_length_9d52b : ByteArray := prog_13_method_6_code
def yJ2_length_9d52b : MethodName := ⟨RJ2, "length", "([B)I"⟩
abbrev cJ2_charAt_3b067 : ByteArray := prog_13_method_83_code
def yJ2_charAt_3b067 : MethodName := ⟨RJ2, "charAt", "([BI)C"⟩
abbrev cJ2_checkIndex_2214a : ByteArray := prog_13_method_91_code
def yJ2_checkIndex_2214a : MethodName := ⟨RJ2, "checkIndex", "(I[B)V"⟩
def RJ10 : String := "java/lang/System"
def TJ10 : u_T := fun k => match k with
  | _ => ("", "", "", false)
def tyJ10 : Nat → FieldType := fun k => match k with
  | _ => .int
abbrev wsJ100 : List Cond := u_ws RJ10 TJ10 0
theorem nmJ10 : ∀ a, a < 0 → ∀ b, b < 0 → a ≠ b → (TJ10 a).2.1 ≠ (TJ10 b).2.1 := by decide +kernel
theorem tyJ10_ok : ∀ k, k < 0 → parseFieldDescriptor (TJ10 k).2.2.1 = some (tyJ10 k) := by decide +kernel
def RJ3 : String := "jdk/internal/util/Preconditions"
def TJ3 : u_T := fun k => match k with
  | _ => ("", "", "", false)
def tyJ3 : Nat → FieldType := fun k => match k with
  | _ => .int
abbrev wsJ30 : List Cond := u_ws RJ3 TJ3 0
theorem nmJ3 : ∀ a, a < 0 → ∀ b, b < 0 → a ≠ b → (TJ3 a).2.1 ≠ (TJ3 b).2.1 := by decide +kernel
theorem tyJ3_ok : ∀ k, k < 0 → parseFieldDescriptor (TJ3 k).2.2.1 = some (tyJ3 k) := by decide +kernel
abbrev cJ3_checkIndex_8e157 : ByteArray := prog_15_method_11_code
def yJ3_checkIndex_8e157 : MethodName := ⟨RJ3, "checkIndex", "(IILjava/util/function/BiFunction;)I"⟩
def RL : String := "FourOnOneLaw"
abbrev cL_law : ByteArray := code
def yL_law : MethodName := ⟨RL, "law", "([I)Z"⟩
def wsX0_init : List Cond := .code yX0_init cX0_init 1 none :: ([.methodLink RX0 3 objectInit, .instanceMethod objectInit, .code objectInit ⟨#[0xb1]⟩ 1 none, .fieldLink RX0 9 "FourOnOne$Account" "time" "I", .fieldLink RX0 15 "FourOnOne$Account" "presses" "I", .arrayClass .int, .fieldLink RX0 18 "FourOnOne$Account" "taste" "[I", .fieldLink RX0 22 "FourOnOne$Account" "seen" "[I", .fieldLink RX0 25 "FourOnOne$Account" "saw" "[I", .fieldLink RX0 28 "FourOnOne$Account" "kept" "[I", .fieldLink RX0 31 "FourOnOne$Account" "keptEver" "I"] ++ wsX00)
abbrev vwCl : List vw_C := [(RX0, TX0, 7), (RX1, TX1, 6), (RX2, TX2, 16), (RX3, TX3, 3), (RX4, TX4, 17), (RX5, TX5, 16), (RX6, TX6, 103)]
end
section
/-! An abstract machine: memory by indices, one step of a method by its table, and its runs. -/
/-- kinds (0: none; 1, c: an object of class c; 2, n: ints; 3, n: longs; 4, n: chars; 5, n: accounts; 6, n: rows of ints), ints, longs, references, the next index, slots made -/
abbrev am_M : Type := (Nat → Nat × Nat) × (Nat → Nat → Int32) × (Nat → Nat → Int64) × (Nat → Nat → Option Nat) × Nat × Nat
def am_K (M : am_M) : Nat → Nat × Nat := M.1
def am_I (M : am_M) : Nat → Nat → Int32 := M.2.1
def am_L (M : am_M) : Nat → Nat → Int64 := M.2.2.1
def am_R (M : am_M) : Nat → Nat → Option Nat := M.2.2.2.1
def am_n (M : am_M) : Nat := M.2.2.2.2.1
def am_s (M : am_M) : Nat := M.2.2.2.2.2
def am_w {α : Type} (f : Nat → Nat → α) (a j : Nat) (v : α) : Nat → Nat → α := fun b k => if b = a ∧ k = j then v else f b k
def am_sI (M : am_M) (a j : Nat) (v : Int32) : am_M := (am_K M, am_w (am_I M) a j v, am_L M, am_R M, am_n M, am_s M)
def am_sL (M : am_M) (a j : Nat) (v : Int64) : am_M := (am_K M, am_I M, am_w (am_L M) a j v, am_R M, am_n M, am_s M)
def am_sR (M : am_M) (a j : Nat) (v : Nat) : am_M := (am_K M, am_I M, am_L M, am_w (am_R M) a j (some v), am_n M, am_s M)
/-- n slots of a row of ints, over those of another -/
def am_cp (M : am_M) (a sp b dp n : Nat) : am_M := (am_K M, fun c k => if c = b ∧ dp ≤ k ∧ k < dp + n then am_I M a (sp + (k - dp)) else am_I M c k, am_L M, am_R M, am_n M, am_s M)
/-- a new cell of kind q, with w slots -/
def am_nw (M : am_M) (q : Nat × Nat) (w : Nat) : am_M := (fun b => if b = am_n M then q else am_K M b, fun b k => if b = am_n M then 0 else am_I M b k, fun b k => if b = am_n M then 0 else am_L M b k, fun b k => if b = am_n M then none else am_R M b k, am_n M + 1, am_s M + w)
/-- n rows of k ints, and the row of them ahead -/
def am_nm (M : am_M) (n k : Nat) : am_M := (fun b => if b = am_n M then (6, n) else if am_n M < b ∧ b < am_n M + 1 + n then (2, k) else am_K M b, fun b j => if am_n M ≤ b ∧ b < am_n M + 1 + n then 0 else am_I M b j, fun b j => if am_n M ≤ b ∧ b < am_n M + 1 + n then 0 else am_L M b j, fun b j => if b = am_n M then (if j < n then some (am_n M + 1 + j) else none) else if am_n M < b ∧ b < am_n M + 1 + n then none else am_R M b j, am_n M + 1 + n, am_s M + n + n * k)
def am_i (z : Int) : Int32 := Int32.ofInt z
def am_l (z : Int) : Int64 := Int64.ofInt z
def am_nth : List Value → Nat → Value
  | [], _ => .null
  | v :: _, 0 => v
  | _ :: l, k + 1 => am_nth l k
def am_kl : Value → Value
  | .long _ => .null
  | .double _ => .null
  | v => v
/-- a local of one word; a long whose second word it is goes -/
def am_st1 : List Value → Nat → Value → List Value
  | [], _, _ => []
  | _ :: l, 0, v => v :: l
  | x :: l, 1, v => am_kl x :: am_st1 l 0 v
  | x :: l, k + 2, v => x :: am_st1 l (k + 1) v
def am_kh : List Value → List Value
  | [] => []
  | _ :: l => .null :: l
/-- a local of two words -/
def am_st2 : List Value → Nat → Value → List Value
  | [], _, _ => []
  | _ :: l, 0, v => v :: am_kh l
  | x :: l, 1, v => am_kl x :: am_st2 l 0 v
  | x :: l, k + 2, v => x :: am_st2 l (k + 1) v
/-- a method's first locals -/
def am_loc : List Value → List Value
  | [] => []
  | .long x :: l => .long x :: .null :: am_loc l
  | .double x :: l => .double x :: .null :: am_loc l
  | v :: l => v :: am_loc l
def am_pad : List Value → Nat → List Value
  | l, 0 => l
  | [], n + 1 => .null :: am_pad [] n
  | v :: l, n + 1 => v :: am_pad l n
def am_cat : List Value → Nat
  | [] => 0
  | v :: l => v.category + am_cat l
def am_find {α : Type} : List (Nat × α) → Nat → Option α
  | [], _ => none
  | (a, x) :: l, k => bif Nat.beq a k then some x else am_find l k
end
section
/-! every method: its head, its table -/
def am_cR : Nat → String := fun c => match c with
  | 0 => RX0
  | 1 => RX1
  | 2 => RX2
  | 3 => RX3
  | 4 => RX4
  | 5 => RX5
  | _ => RX6
def am_cT : Nat → u_T := fun c => match c with
  | 0 => TX0
  | 1 => TX1
  | 2 => TX2
  | 3 => TX3
  | 4 => TX4
  | 5 => TX5
  | _ => TX6
def am_ty : Nat → Nat → FieldType := fun c => match c with
  | 0 => tyX0
  | 1 => tyX1
  | 2 => tyX2
  | 3 => tyX3
  | 4 => tyX4
  | 5 => tyX5
  | _ => tyX6
def am_nf : Nat → Nat := fun c => match c with
  | 0 => 7
  | 1 => 6
  | 2 => 16
  | 3 => 3
  | 4 => 17
  | 5 => 16
  | _ => 103
/-- a field's sort: 1 int, 2 long, 3 a reference, 4 a truth -/
def am_tf : FieldType → Nat
  | .int => 1
  | .long => 2
  | .boolean => 4
  | _ => 3
def am_ft (c k : Nat) : Nat := am_tf (am_ty c k)
def am_words : String := "kind film parts is person at to likes press learns fades may screens price bother strange hour taste weight seen score worth number or and not all min max first last often total most least "
/-- an instruction of a table: it, its length, three numbers, the place of its word, a number, a switch's rows -/
abbrev am_E : Type := Instr × Nat × Nat × Nat × Nat × Nat × Int × List (Int × Nat)
/-- a method's head: name, bytes, locals, what it answers, kind (0 static, 1 virtual, 2 a constructor, 3 the law), sort of answer, arguments, class, places of its words -/
abbrev am_S : Type := MethodName × ByteArray × Nat × Option FieldType × Nat × Nat × Nat × Nat × Nat × Nat × Nat × Nat
noncomputable def am_s0 : am_S := (yL_law, cL_law, 4, (some .boolean), 3, 4, 1, 99, 0, 0, 0, 0)
noncomputable def am_c0_0 : List (Nat × am_E) := [(0, .new 7, 3, 5, 16, 0, 527, 0, []), (3, .dup, 1, 0, 0, 0, 0, 0, []), (4, .invokespecial 9, 3, 1, 1, 0, 529, 0, []), (7, .astore_n 1, 1, 1, 0, 0, 0, 0, []), (8, .new 10, 3, 6, 103, 0, 2223, 0, []), (11, .dup, 1, 0, 0, 0, 0, 0, []),
  (12, .invokespecial 12, 3, 126, 1, 0, 2225, 0, []), (15, .astore_n 2, 1, 2, 0, 0, 0, 0, []), (16, .iconst 0, 1, 0, 0, 0, 0, 0, []), (17, .istore_n 3, 1, 3, 0, 0, 0, 0, []), (18, .iload_n 3, 1, 3, 0, 0, 0, 0, []), (19, .aload_n 0, 1, 0, 0, 0, 0, 0, []),
  (20, .arraylength, 1, 0, 0, 0, 0, 0, []), (21, .bipush 6, 2, 0, 0, 0, 0, 6, []), (23, .isub, 1, 0, 0, 0, 0, 0, []), (24, .if_icmp .gt 1149, 3, 1173, 0, 0, 0, 0, []), (27, .aload_n 0, 1, 0, 0, 0, 0, 0, []), (28, .iload_n 3, 1, 3, 0, 0, 0, 0, []),
  (29, .iaload, 1, 0, 0, 0, 0, 0, []), (30, .bipush 63, 2, 0, 0, 0, 0, 63, []), (32, .iand, 1, 0, 0, 0, 0, 0, []), (33, .tableswitch 1134 0 34 #[155, 218, 241, 254, 277, 300, 343, 376, 409, 442, 475, 498, 531, 564, 598, 631, 665, 688, 721, 754, 797, 830, 853, 866, 889, 922, 956, 979, 1002, 1015, 1038, 1062, 1075, 1098, 1111], 155, 1167, 0, 0, 0, 0, [(0, 188), (1, 251), (2, 274), (3, 287), (4, 310), (5, 333), (6, 376), (7, 409), (8, 442), (9, 475), (10, 508), (11, 531), (12, 564), (13, 597), (14, 631), (15, 664), (16, 698), (17, 721), (18, 754), (19, 787), (20, 830), (21, 863), (22, 886), (23, 899), (24, 922), (25, 955), (26, 989), (27, 1012), (28, 1035), (29, 1048), (30, 1071), (31, 1095), (32, 1108), (33, 1131), (34, 1144)]), (188, .aload_n 1, 1, 1, 0, 0, 0, 0, []), (189, .aload_n 0, 1, 0, 0, 0, 0, 0, []),
  (190, .iload_n 3, 1, 3, 0, 0, 0, 0, []), (191, .iconst 1, 1, 0, 0, 0, 0, 1, []), (192, .iadd, 1, 0, 0, 0, 0, 0, []), (193, .iaload, 1, 0, 0, 0, 0, 0, []), (194, .aload_n 0, 1, 0, 0, 0, 0, 0, []), (195, .iload_n 3, 1, 3, 0, 0, 0, 0, []),
  (196, .iconst 2, 1, 0, 0, 0, 0, 2, []), (197, .iadd, 1, 0, 0, 0, 0, 0, []), (198, .iaload, 1, 0, 0, 0, 0, 0, []), (199, .aload_n 0, 1, 0, 0, 0, 0, 0, []), (200, .iload_n 3, 1, 3, 0, 0, 0, 0, []), (201, .iconst 3, 1, 0, 0, 0, 0, 3, []),
  (202, .iadd, 1, 0, 0, 0, 0, 0, []), (203, .iaload, 1, 0, 0, 0, 0, 0, []), (204, .aload_n 0, 1, 0, 0, 0, 0, 0, []), (205, .iload_n 3, 1, 3, 0, 0, 0, 0, []), (206, .iconst 4, 1, 0, 0, 0, 0, 4, []), (207, .iadd, 1, 0, 0, 0, 0, 0, []),
  (208, .iaload, 1, 0, 0, 0, 0, 0, []), (209, .aload_n 0, 1, 0, 0, 0, 0, 0, []), (210, .iload_n 3, 1, 3, 0, 0, 0, 0, []), (211, .iconst 5, 1, 0, 0, 0, 0, 5, []), (212, .iadd, 1, 0, 0, 0, 0, 0, []), (213, .iaload, 1, 0, 0, 0, 0, 0, []),
  (214, .invokevirtual 13, 3, 2, 6, 1, 1156, 5, []), (217, .aload_n 2, 1, 2, 0, 0, 0, 0, []), (218, .aload_n 0, 1, 0, 0, 0, 0, 0, []), (219, .iload_n 3, 1, 3, 0, 0, 0, 0, []), (220, .iconst 1, 1, 0, 0, 0, 0, 1, []), (221, .iadd, 1, 0, 0, 0, 0, 0, []),
  (222, .iaload, 1, 0, 0, 0, 0, 0, []), (223, .aload_n 0, 1, 0, 0, 0, 0, 0, []), (224, .iload_n 3, 1, 3, 0, 0, 0, 0, []), (225, .iconst 2, 1, 0, 0, 0, 0, 2, []), (226, .iadd, 1, 0, 0, 0, 0, 0, []), (227, .iaload, 1, 0, 0, 0, 0, 0, []),
  (228, .aload_n 0, 1, 0, 0, 0, 0, 0, []), (229, .iload_n 3, 1, 3, 0, 0, 0, 0, []), (230, .iconst 3, 1, 0, 0, 0, 0, 3, []), (231, .iadd, 1, 0, 0, 0, 0, 0, []), (232, .iaload, 1, 0, 0, 0, 0, 0, []), (233, .aload_n 0, 1, 0, 0, 0, 0, 0, []),
  (234, .iload_n 3, 1, 3, 0, 0, 0, 0, []), (235, .iconst 4, 1, 0, 0, 0, 0, 4, []), (236, .iadd, 1, 0, 0, 0, 0, 0, []), (237, .iaload, 1, 0, 0, 0, 0, 0, []), (238, .aload_n 0, 1, 0, 0, 0, 0, 0, []), (239, .iload_n 3, 1, 3, 0, 0, 0, 0, []),
  (240, .iconst 5, 1, 0, 0, 0, 0, 5, []), (241, .iadd, 1, 0, 0, 0, 0, 0, []), (242, .iaload, 1, 0, 0, 0, 0, 0, []), (243, .invokevirtual 17, 3, 128, 6, 1, 3084, 6, []), (246, .if_icmp .eq 921, 3, 1167, 0, 0, 0, 0, []), (249, .iconst 0, 1, 0, 0, 0, 0, 0, []),
  (250, .ireturn, 1, 0, 0, 4, 0, 0, []), (251, .aload_n 1, 1, 1, 0, 0, 0, 0, []), (252, .aload_n 0, 1, 0, 0, 0, 0, 0, []), (253, .iload_n 3, 1, 3, 0, 0, 0, 0, []), (254, .iconst 1, 1, 0, 0, 0, 0, 1, []), (255, .iadd, 1, 0, 0, 0, 0, 0, []),
  (256, .iaload, 1, 0, 0, 0, 0, 0, []), (257, .invokevirtual 18, 3, 3, 2, 4, 1168, 5, []), (260, .aload_n 2, 1, 2, 0, 0, 0, 0, []), (261, .aload_n 0, 1, 0, 0, 0, 0, 0, []), (262, .iload_n 3, 1, 3, 0, 0, 0, 0, []), (263, .iconst 1, 1, 0, 0, 0, 0, 1, []),
  (264, .iadd, 1, 0, 0, 0, 0, 0, []), (265, .iaload, 1, 0, 0, 0, 0, 0, []), (266, .invokevirtual 22, 3, 129, 2, 4, 3088, 6, []), (269, .if_icmp .eq 898, 3, 1167, 0, 0, 0, 0, []), (272, .iconst 0, 1, 0, 0, 0, 0, 0, []), (273, .ireturn, 1, 0, 0, 4, 0, 0, []),
  (274, .aload_n 1, 1, 1, 0, 0, 0, 0, []), (275, .invokevirtual 23, 3, 4, 1, 1, 1172, 5, []), (278, .aload_n 2, 1, 2, 0, 0, 0, 0, []), (279, .invokevirtual 27, 3, 155, 1, 1, 3092, 6, [])]
noncomputable def am_c0_1 : List (Nat × am_E) := [(282, .if_icmp .eq 885, 3, 1167, 0, 0, 0, 0, []), (285, .iconst 0, 1, 0, 0, 0, 0, 0, []), (286, .ireturn, 1, 0, 0, 4, 0, 0, []), (287, .aload_n 1, 1, 1, 0, 0, 0, 0, []), (288, .aload_n 0, 1, 0, 0, 0, 0, 0, []), (289, .iload_n 3, 1, 3, 0, 0, 0, 0, []),
  (290, .iconst 1, 1, 0, 0, 0, 0, 1, []), (291, .iadd, 1, 0, 0, 0, 0, 0, []), (292, .iaload, 1, 0, 0, 0, 0, 0, []), (293, .invokevirtual 28, 3, 5, 2, 1, 1587, 5, []), (296, .aload_n 2, 1, 2, 0, 0, 0, 0, []), (297, .aload_n 0, 1, 0, 0, 0, 0, 0, []),
  (298, .iload_n 3, 1, 3, 0, 0, 0, 0, []), (299, .iconst 1, 1, 0, 0, 0, 0, 1, []), (300, .iadd, 1, 0, 0, 0, 0, 0, []), (301, .iaload, 1, 0, 0, 0, 0, 0, []), (302, .invokevirtual 32, 3, 157, 2, 1, 3288, 6, []), (305, .if_icmp .eq 862, 3, 1167, 0, 0, 0, 0, []),
  (308, .iconst 0, 1, 0, 0, 0, 0, 0, []), (309, .ireturn, 1, 0, 0, 4, 0, 0, []), (310, .aload_n 1, 1, 1, 0, 0, 0, 0, []), (311, .aload_n 0, 1, 0, 0, 0, 0, 0, []), (312, .iload_n 3, 1, 3, 0, 0, 0, 0, []), (313, .iconst 1, 1, 0, 0, 0, 0, 1, []),
  (314, .iadd, 1, 0, 0, 0, 0, 0, []), (315, .iaload, 1, 0, 0, 0, 0, 0, []), (316, .invokevirtual 33, 3, 6, 2, 1, 1591, 5, []), (319, .aload_n 2, 1, 2, 0, 0, 0, 0, []), (320, .aload_n 0, 1, 0, 0, 0, 0, 0, []), (321, .iload_n 3, 1, 3, 0, 0, 0, 0, []),
  (322, .iconst 1, 1, 0, 0, 0, 0, 1, []), (323, .iadd, 1, 0, 0, 0, 0, 0, []), (324, .iaload, 1, 0, 0, 0, 0, 0, []), (325, .invokevirtual 36, 3, 195, 2, 1, 3292, 6, []), (328, .if_icmp .eq 839, 3, 1167, 0, 0, 0, 0, []), (331, .iconst 0, 1, 0, 0, 0, 0, 0, []),
  (332, .ireturn, 1, 0, 0, 4, 0, 0, []), (333, .aload_n 1, 1, 1, 0, 0, 0, 0, []), (334, .aload_n 0, 1, 0, 0, 0, 0, 0, []), (335, .iload_n 3, 1, 3, 0, 0, 0, 0, []), (336, .iconst 1, 1, 0, 0, 0, 0, 1, []), (337, .iadd, 1, 0, 0, 0, 0, 0, []),
  (338, .iaload, 1, 0, 0, 0, 0, 0, []), (339, .aload_n 0, 1, 0, 0, 0, 0, 0, []), (340, .iload_n 3, 1, 3, 0, 0, 0, 0, []), (341, .iconst 2, 1, 0, 0, 0, 0, 2, []), (342, .iadd, 1, 0, 0, 0, 0, 0, []), (343, .iaload, 1, 0, 0, 0, 0, 0, []),
  (344, .aload_n 0, 1, 0, 0, 0, 0, 0, []), (345, .iload_n 3, 1, 3, 0, 0, 0, 0, []), (346, .iconst 3, 1, 0, 0, 0, 0, 3, []), (347, .iadd, 1, 0, 0, 0, 0, 0, []), (348, .iaload, 1, 0, 0, 0, 0, 0, []), (349, .invokevirtual 37, 3, 7, 4, 1, 1610, 5, []),
  (352, .aload_n 2, 1, 2, 0, 0, 0, 0, []), (353, .aload_n 0, 1, 0, 0, 0, 0, 0, []), (354, .iload_n 3, 1, 3, 0, 0, 0, 0, []), (355, .iconst 1, 1, 0, 0, 0, 0, 1, []), (356, .iadd, 1, 0, 0, 0, 0, 0, []), (357, .iaload, 1, 0, 0, 0, 0, 0, []),
  (358, .aload_n 0, 1, 0, 0, 0, 0, 0, []), (359, .iload_n 3, 1, 3, 0, 0, 0, 0, []), (360, .iconst 2, 1, 0, 0, 0, 0, 2, []), (361, .iadd, 1, 0, 0, 0, 0, 0, []), (362, .iaload, 1, 0, 0, 0, 0, 0, []), (363, .aload_n 0, 1, 0, 0, 0, 0, 0, []),
  (364, .iload_n 3, 1, 3, 0, 0, 0, 0, []), (365, .iconst 3, 1, 0, 0, 0, 0, 3, []), (366, .iadd, 1, 0, 0, 0, 0, 0, []), (367, .iaload, 1, 0, 0, 0, 0, 0, []), (368, .invokevirtual 41, 3, 196, 4, 1, 3587, 6, []), (371, .if_icmp .eq 796, 3, 1167, 0, 0, 0, 0, []),
  (374, .iconst 0, 1, 0, 0, 0, 0, 0, []), (375, .ireturn, 1, 0, 0, 4, 0, 0, []), (376, .aload_n 1, 1, 1, 0, 0, 0, 0, []), (377, .aload_n 0, 1, 0, 0, 0, 0, 0, []), (378, .iload_n 3, 1, 3, 0, 0, 0, 0, []), (379, .iconst 1, 1, 0, 0, 0, 0, 1, []),
  (380, .iadd, 1, 0, 0, 0, 0, 0, []), (381, .iaload, 1, 0, 0, 0, 0, 0, []), (382, .aload_n 0, 1, 0, 0, 0, 0, 0, []), (383, .iload_n 3, 1, 3, 0, 0, 0, 0, []), (384, .iconst 2, 1, 0, 0, 0, 0, 2, []), (385, .iadd, 1, 0, 0, 0, 0, 0, []),
  (386, .iaload, 1, 0, 0, 0, 0, 0, []), (387, .invokevirtual 42, 3, 8, 3, 1, 1618, 5, []), (390, .aload_n 2, 1, 2, 0, 0, 0, 0, []), (391, .aload_n 0, 1, 0, 0, 0, 0, 0, []), (392, .iload_n 3, 1, 3, 0, 0, 0, 0, []), (393, .iconst 1, 1, 0, 0, 0, 0, 1, []),
  (394, .iadd, 1, 0, 0, 0, 0, 0, []), (395, .iaload, 1, 0, 0, 0, 0, 0, []), (396, .aload_n 0, 1, 0, 0, 0, 0, 0, []), (397, .iload_n 3, 1, 3, 0, 0, 0, 0, []), (398, .iconst 2, 1, 0, 0, 0, 0, 2, []), (399, .iadd, 1, 0, 0, 0, 0, 0, []),
  (400, .iaload, 1, 0, 0, 0, 0, 0, []), (401, .invokevirtual 46, 3, 197, 3, 1, 3592, 6, []), (404, .if_icmp .eq 763, 3, 1167, 0, 0, 0, 0, []), (407, .iconst 0, 1, 0, 0, 0, 0, 0, [])]
noncomputable def am_c0_2 : List (Nat × am_E) := [(408, .ireturn, 1, 0, 0, 4, 0, 0, []), (409, .aload_n 1, 1, 1, 0, 0, 0, 0, []), (410, .aload_n 0, 1, 0, 0, 0, 0, 0, []), (411, .iload_n 3, 1, 3, 0, 0, 0, 0, []), (412, .iconst 1, 1, 0, 0, 0, 0, 1, []), (413, .iadd, 1, 0, 0, 0, 0, 0, []),
  (414, .iaload, 1, 0, 0, 0, 0, 0, []), (415, .aload_n 0, 1, 0, 0, 0, 0, 0, []), (416, .iload_n 3, 1, 3, 0, 0, 0, 0, []), (417, .iconst 2, 1, 0, 0, 0, 0, 2, []), (418, .iadd, 1, 0, 0, 0, 0, 0, []), (419, .iaload, 1, 0, 0, 0, 0, 0, []),
  (420, .invokevirtual 47, 3, 9, 3, 1, 1622, 5, []), (423, .aload_n 2, 1, 2, 0, 0, 0, 0, []), (424, .aload_n 0, 1, 0, 0, 0, 0, 0, []), (425, .iload_n 3, 1, 3, 0, 0, 0, 0, []), (426, .iconst 1, 1, 0, 0, 0, 0, 1, []), (427, .iadd, 1, 0, 0, 0, 0, 0, []),
  (428, .iaload, 1, 0, 0, 0, 0, 0, []), (429, .aload_n 0, 1, 0, 0, 0, 0, 0, []), (430, .iload_n 3, 1, 3, 0, 0, 0, 0, []), (431, .iconst 2, 1, 0, 0, 0, 0, 2, []), (432, .iadd, 1, 0, 0, 0, 0, 0, []), (433, .iaload, 1, 0, 0, 0, 0, 0, []),
  (434, .invokevirtual 50, 3, 198, 3, 1, 3620, 6, []), (437, .if_icmp .eq 730, 3, 1167, 0, 0, 0, 0, []), (440, .iconst 0, 1, 0, 0, 0, 0, 0, []), (441, .ireturn, 1, 0, 0, 4, 0, 0, []), (442, .aload_n 1, 1, 1, 0, 0, 0, 0, []), (443, .aload_n 0, 1, 0, 0, 0, 0, 0, []),
  (444, .iload_n 3, 1, 3, 0, 0, 0, 0, []), (445, .iconst 1, 1, 0, 0, 0, 0, 1, []), (446, .iadd, 1, 0, 0, 0, 0, 0, []), (447, .iaload, 1, 0, 0, 0, 0, 0, []), (448, .aload_n 0, 1, 0, 0, 0, 0, 0, []), (449, .iload_n 3, 1, 3, 0, 0, 0, 0, []),
  (450, .iconst 2, 1, 0, 0, 0, 0, 2, []), (451, .iadd, 1, 0, 0, 0, 0, 0, []), (452, .iaload, 1, 0, 0, 0, 0, 0, []), (453, .invokevirtual 51, 3, 10, 3, 1, 1626, 5, []), (456, .aload_n 2, 1, 2, 0, 0, 0, 0, []), (457, .aload_n 0, 1, 0, 0, 0, 0, 0, []),
  (458, .iload_n 3, 1, 3, 0, 0, 0, 0, []), (459, .iconst 1, 1, 0, 0, 0, 0, 1, []), (460, .iadd, 1, 0, 0, 0, 0, 0, []), (461, .iaload, 1, 0, 0, 0, 0, 0, []), (462, .aload_n 0, 1, 0, 0, 0, 0, 0, []), (463, .iload_n 3, 1, 3, 0, 0, 0, 0, []),
  (464, .iconst 2, 1, 0, 0, 0, 0, 2, []), (465, .iadd, 1, 0, 0, 0, 0, 0, []), (466, .iaload, 1, 0, 0, 0, 0, 0, []), (467, .invokevirtual 54, 3, 199, 3, 1, 3632, 6, []), (470, .if_icmp .eq 697, 3, 1167, 0, 0, 0, 0, []), (473, .iconst 0, 1, 0, 0, 0, 0, 0, []),
  (474, .ireturn, 1, 0, 0, 4, 0, 0, []), (475, .aload_n 1, 1, 1, 0, 0, 0, 0, []), (476, .aload_n 0, 1, 0, 0, 0, 0, 0, []), (477, .iload_n 3, 1, 3, 0, 0, 0, 0, []), (478, .iconst 1, 1, 0, 0, 0, 0, 1, []), (479, .iadd, 1, 0, 0, 0, 0, 0, []),
  (480, .iaload, 1, 0, 0, 0, 0, 0, []), (481, .aload_n 0, 1, 0, 0, 0, 0, 0, []), (482, .iload_n 3, 1, 3, 0, 0, 0, 0, []), (483, .iconst 2, 1, 0, 0, 0, 0, 2, []), (484, .iadd, 1, 0, 0, 0, 0, 0, []), (485, .iaload, 1, 0, 0, 0, 0, 0, []),
  (486, .invokevirtual 55, 3, 11, 3, 1, 1630, 5, []), (489, .aload_n 2, 1, 2, 0, 0, 0, 0, []), (490, .aload_n 0, 1, 0, 0, 0, 0, 0, []), (491, .iload_n 3, 1, 3, 0, 0, 0, 0, []), (492, .iconst 1, 1, 0, 0, 0, 0, 1, []), (493, .iadd, 1, 0, 0, 0, 0, 0, []),
  (494, .iaload, 1, 0, 0, 0, 0, 0, []), (495, .aload_n 0, 1, 0, 0, 0, 0, 0, []), (496, .iload_n 3, 1, 3, 0, 0, 0, 0, []), (497, .iconst 2, 1, 0, 0, 0, 0, 2, []), (498, .iadd, 1, 0, 0, 0, 0, 0, []), (499, .iaload, 1, 0, 0, 0, 0, 0, []),
  (500, .invokevirtual 58, 3, 200, 3, 1, 3640, 6, []), (503, .if_icmp .eq 664, 3, 1167, 0, 0, 0, 0, []), (506, .iconst 0, 1, 0, 0, 0, 0, 0, []), (507, .ireturn, 1, 0, 0, 4, 0, 0, []), (508, .aload_n 1, 1, 1, 0, 0, 0, 0, []), (509, .aload_n 0, 1, 0, 0, 0, 0, 0, []),
  (510, .iload_n 3, 1, 3, 0, 0, 0, 0, []), (511, .iconst 1, 1, 0, 0, 0, 0, 1, []), (512, .iadd, 1, 0, 0, 0, 0, 0, []), (513, .iaload, 1, 0, 0, 0, 0, 0, []), (514, .invokevirtual 59, 3, 12, 2, 1, 1634, 5, []), (517, .aload_n 2, 1, 2, 0, 0, 0, 0, []),
  (518, .aload_n 0, 1, 0, 0, 0, 0, 0, []), (519, .iload_n 3, 1, 3, 0, 0, 0, 0, []), (520, .iconst 1, 1, 0, 0, 0, 0, 1, []), (521, .iadd, 1, 0, 0, 0, 0, 0, []), (522, .iaload, 1, 0, 0, 0, 0, 0, []), (523, .invokevirtual 62, 3, 201, 2, 1, 3652, 6, []),
  (526, .if_icmp .eq 641, 3, 1167, 0, 0, 0, 0, []), (529, .iconst 0, 1, 0, 0, 0, 0, 0, []), (530, .ireturn, 1, 0, 0, 4, 0, 0, []), (531, .aload_n 1, 1, 1, 0, 0, 0, 0, [])]
noncomputable def am_c0_3 : List (Nat × am_E) := [(532, .aload_n 0, 1, 0, 0, 0, 0, 0, []), (533, .iload_n 3, 1, 3, 0, 0, 0, 0, []), (534, .iconst 1, 1, 0, 0, 0, 0, 1, []), (535, .iadd, 1, 0, 0, 0, 0, 0, []), (536, .iaload, 1, 0, 0, 0, 0, 0, []), (537, .aload_n 0, 1, 0, 0, 0, 0, 0, []),
  (538, .iload_n 3, 1, 3, 0, 0, 0, 0, []), (539, .iconst 2, 1, 0, 0, 0, 0, 2, []), (540, .iadd, 1, 0, 0, 0, 0, 0, []), (541, .iaload, 1, 0, 0, 0, 0, 0, []), (542, .invokevirtual 63, 3, 13, 3, 1, 1688, 5, []), (545, .aload_n 2, 1, 2, 0, 0, 0, 0, []),
  (546, .aload_n 0, 1, 0, 0, 0, 0, 0, []), (547, .iload_n 3, 1, 3, 0, 0, 0, 0, []), (548, .iconst 1, 1, 0, 0, 0, 0, 1, []), (549, .iadd, 1, 0, 0, 0, 0, 0, []), (550, .iaload, 1, 0, 0, 0, 0, 0, []), (551, .aload_n 0, 1, 0, 0, 0, 0, 0, []),
  (552, .iload_n 3, 1, 3, 0, 0, 0, 0, []), (553, .iconst 2, 1, 0, 0, 0, 0, 2, []), (554, .iadd, 1, 0, 0, 0, 0, 0, []), (555, .iaload, 1, 0, 0, 0, 0, 0, []), (556, .invokevirtual 66, 3, 202, 3, 1, 3700, 6, []), (559, .if_icmp .eq 608, 3, 1167, 0, 0, 0, 0, []),
  (562, .iconst 0, 1, 0, 0, 0, 0, 0, []), (563, .ireturn, 1, 0, 0, 4, 0, 0, []), (564, .aload_n 1, 1, 1, 0, 0, 0, 0, []), (565, .aload_n 0, 1, 0, 0, 0, 0, 0, []), (566, .iload_n 3, 1, 3, 0, 0, 0, 0, []), (567, .iconst 1, 1, 0, 0, 0, 0, 1, []),
  (568, .iadd, 1, 0, 0, 0, 0, 0, []), (569, .iaload, 1, 0, 0, 0, 0, 0, []), (570, .aload_n 0, 1, 0, 0, 0, 0, 0, []), (571, .iload_n 3, 1, 3, 0, 0, 0, 0, []), (572, .iconst 2, 1, 0, 0, 0, 0, 2, []), (573, .iadd, 1, 0, 0, 0, 0, 0, []),
  (574, .iaload, 1, 0, 0, 0, 0, 0, []), (575, .invokevirtual 67, 3, 14, 3, 1, 1696, 5, []), (578, .aload_n 2, 1, 2, 0, 0, 0, 0, []), (579, .aload_n 0, 1, 0, 0, 0, 0, 0, []), (580, .iload_n 3, 1, 3, 0, 0, 0, 0, []), (581, .iconst 1, 1, 0, 0, 0, 0, 1, []),
  (582, .iadd, 1, 0, 0, 0, 0, 0, []), (583, .iaload, 1, 0, 0, 0, 0, 0, []), (584, .aload_n 0, 1, 0, 0, 0, 0, 0, []), (585, .iload_n 3, 1, 3, 0, 0, 0, 0, []), (586, .iconst 2, 1, 0, 0, 0, 0, 2, []), (587, .iadd, 1, 0, 0, 0, 0, 0, []),
  (588, .iaload, 1, 0, 0, 0, 0, 0, []), (589, .invokevirtual 70, 3, 203, 3, 1, 3704, 6, []), (592, .if_icmp .eq 575, 3, 1167, 0, 0, 0, 0, []), (595, .iconst 0, 1, 0, 0, 0, 0, 0, []), (596, .ireturn, 1, 0, 0, 4, 0, 0, []), (597, .aload_n 1, 1, 1, 0, 0, 0, 0, []),
  (598, .aload_n 0, 1, 0, 0, 0, 0, 0, []), (599, .iload_n 3, 1, 3, 0, 0, 0, 0, []), (600, .iconst 1, 1, 0, 0, 0, 0, 1, []), (601, .iadd, 1, 0, 0, 0, 0, 0, []), (602, .iaload, 1, 0, 0, 0, 0, 0, []), (603, .aload_n 0, 1, 0, 0, 0, 0, 0, []),
  (604, .iload_n 3, 1, 3, 0, 0, 0, 0, []), (605, .iconst 2, 1, 0, 0, 0, 0, 2, []), (606, .iadd, 1, 0, 0, 0, 0, 0, []), (607, .iaload, 1, 0, 0, 0, 0, 0, []), (608, .invokevirtual 71, 3, 15, 3, 2, 1705, 5, []), (611, .aload_n 2, 1, 2, 0, 0, 0, 0, []),
  (612, .aload_n 0, 1, 0, 0, 0, 0, 0, []), (613, .iload_n 3, 1, 3, 0, 0, 0, 0, []), (614, .iconst 1, 1, 0, 0, 0, 0, 1, []), (615, .iadd, 1, 0, 0, 0, 0, 0, []), (616, .iaload, 1, 0, 0, 0, 0, 0, []), (617, .aload_n 0, 1, 0, 0, 0, 0, 0, []),
  (618, .iload_n 3, 1, 3, 0, 0, 0, 0, []), (619, .iconst 2, 1, 0, 0, 0, 0, 2, []), (620, .iadd, 1, 0, 0, 0, 0, 0, []), (621, .iaload, 1, 0, 0, 0, 0, 0, []), (622, .invokevirtual 75, 3, 204, 3, 2, 3708, 6, []), (625, .lcmp, 1, 0, 0, 0, 0, 0, []),
  (626, .ifCond .eq 541, 3, 1167, 0, 0, 0, 0, []), (629, .iconst 0, 1, 0, 0, 0, 0, 0, []), (630, .ireturn, 1, 0, 0, 4, 0, 0, []), (631, .aload_n 1, 1, 1, 0, 0, 0, 0, []), (632, .aload_n 0, 1, 0, 0, 0, 0, 0, []), (633, .iload_n 3, 1, 3, 0, 0, 0, 0, []),
  (634, .iconst 1, 1, 0, 0, 0, 0, 1, []), (635, .iadd, 1, 0, 0, 0, 0, 0, []), (636, .iaload, 1, 0, 0, 0, 0, 0, []), (637, .aload_n 0, 1, 0, 0, 0, 0, 0, []), (638, .iload_n 3, 1, 3, 0, 0, 0, 0, []), (639, .iconst 2, 1, 0, 0, 0, 0, 2, []),
  (640, .iadd, 1, 0, 0, 0, 0, 0, []), (641, .iaload, 1, 0, 0, 0, 0, 0, []), (642, .invokevirtual 76, 3, 16, 3, 1, 1761, 5, []), (645, .aload_n 2, 1, 2, 0, 0, 0, 0, []), (646, .aload_n 0, 1, 0, 0, 0, 0, 0, []), (647, .iload_n 3, 1, 3, 0, 0, 0, 0, []),
  (648, .iconst 1, 1, 0, 0, 0, 0, 1, []), (649, .iadd, 1, 0, 0, 0, 0, 0, []), (650, .iaload, 1, 0, 0, 0, 0, 0, []), (651, .aload_n 0, 1, 0, 0, 0, 0, 0, [])]
noncomputable def am_c0_4 : List (Nat × am_E) := [(652, .iload_n 3, 1, 3, 0, 0, 0, 0, []), (653, .iconst 2, 1, 0, 0, 0, 0, 2, []), (654, .iadd, 1, 0, 0, 0, 0, 0, []), (655, .iaload, 1, 0, 0, 0, 0, 0, []), (656, .invokevirtual 79, 3, 205, 3, 1, 3765, 6, []), (659, .if_icmp .eq 508, 3, 1167, 0, 0, 0, 0, []),
  (662, .iconst 0, 1, 0, 0, 0, 0, 0, []), (663, .ireturn, 1, 0, 0, 4, 0, 0, []), (664, .aload_n 1, 1, 1, 0, 0, 0, 0, []), (665, .aload_n 0, 1, 0, 0, 0, 0, 0, []), (666, .iload_n 3, 1, 3, 0, 0, 0, 0, []), (667, .iconst 1, 1, 0, 0, 0, 0, 1, []),
  (668, .iadd, 1, 0, 0, 0, 0, 0, []), (669, .iaload, 1, 0, 0, 0, 0, 0, []), (670, .aload_n 0, 1, 0, 0, 0, 0, 0, []), (671, .iload_n 3, 1, 3, 0, 0, 0, 0, []), (672, .iconst 2, 1, 0, 0, 0, 0, 2, []), (673, .iadd, 1, 0, 0, 0, 0, 0, []),
  (674, .iaload, 1, 0, 0, 0, 0, 0, []), (675, .invokevirtual 80, 3, 17, 3, 2, 1765, 5, []), (678, .aload_n 2, 1, 2, 0, 0, 0, 0, []), (679, .aload_n 0, 1, 0, 0, 0, 0, 0, []), (680, .iload_n 3, 1, 3, 0, 0, 0, 0, []), (681, .iconst 1, 1, 0, 0, 0, 0, 1, []),
  (682, .iadd, 1, 0, 0, 0, 0, 0, []), (683, .iaload, 1, 0, 0, 0, 0, 0, []), (684, .aload_n 0, 1, 0, 0, 0, 0, 0, []), (685, .iload_n 3, 1, 3, 0, 0, 0, 0, []), (686, .iconst 2, 1, 0, 0, 0, 0, 2, []), (687, .iadd, 1, 0, 0, 0, 0, 0, []),
  (688, .iaload, 1, 0, 0, 0, 0, 0, []), (689, .invokevirtual 83, 3, 207, 3, 2, 3769, 6, []), (692, .lcmp, 1, 0, 0, 0, 0, 0, []), (693, .ifCond .eq 474, 3, 1167, 0, 0, 0, 0, []), (696, .iconst 0, 1, 0, 0, 0, 0, 0, []), (697, .ireturn, 1, 0, 0, 4, 0, 0, []),
  (698, .aload_n 1, 1, 1, 0, 0, 0, 0, []), (699, .aload_n 0, 1, 0, 0, 0, 0, 0, []), (700, .iload_n 3, 1, 3, 0, 0, 0, 0, []), (701, .iconst 1, 1, 0, 0, 0, 0, 1, []), (702, .iadd, 1, 0, 0, 0, 0, 0, []), (703, .iaload, 1, 0, 0, 0, 0, 0, []),
  (704, .invokevirtual 84, 3, 18, 2, 1, 1769, 5, []), (707, .aload_n 2, 1, 2, 0, 0, 0, 0, []), (708, .aload_n 0, 1, 0, 0, 0, 0, 0, []), (709, .iload_n 3, 1, 3, 0, 0, 0, 0, []), (710, .iconst 1, 1, 0, 0, 0, 0, 1, []), (711, .iadd, 1, 0, 0, 0, 0, 0, []),
  (712, .iaload, 1, 0, 0, 0, 0, 0, []), (713, .invokevirtual 87, 3, 209, 2, 1, 3777, 6, []), (716, .if_icmp .eq 451, 3, 1167, 0, 0, 0, 0, []), (719, .iconst 0, 1, 0, 0, 0, 0, 0, []), (720, .ireturn, 1, 0, 0, 4, 0, 0, []), (721, .aload_n 1, 1, 1, 0, 0, 0, 0, []),
  (722, .aload_n 0, 1, 0, 0, 0, 0, 0, []), (723, .iload_n 3, 1, 3, 0, 0, 0, 0, []), (724, .iconst 1, 1, 0, 0, 0, 0, 1, []), (725, .iadd, 1, 0, 0, 0, 0, 0, []), (726, .iaload, 1, 0, 0, 0, 0, 0, []), (727, .aload_n 0, 1, 0, 0, 0, 0, 0, []),
  (728, .iload_n 3, 1, 3, 0, 0, 0, 0, []), (729, .iconst 2, 1, 0, 0, 0, 0, 2, []), (730, .iadd, 1, 0, 0, 0, 0, 0, []), (731, .iaload, 1, 0, 0, 0, 0, 0, []), (732, .invokevirtual 88, 3, 19, 3, 1, 2050, 5, []), (735, .aload_n 2, 1, 2, 0, 0, 0, 0, []),
  (736, .aload_n 0, 1, 0, 0, 0, 0, 0, []), (737, .iload_n 3, 1, 3, 0, 0, 0, 0, []), (738, .iconst 1, 1, 0, 0, 0, 0, 1, []), (739, .iadd, 1, 0, 0, 0, 0, 0, []), (740, .iaload, 1, 0, 0, 0, 0, 0, []), (741, .aload_n 0, 1, 0, 0, 0, 0, 0, []),
  (742, .iload_n 3, 1, 3, 0, 0, 0, 0, []), (743, .iconst 2, 1, 0, 0, 0, 0, 2, []), (744, .iadd, 1, 0, 0, 0, 0, 0, []), (745, .iaload, 1, 0, 0, 0, 0, 0, []), (746, .invokevirtual 91, 3, 210, 3, 1, 3785, 6, []), (749, .if_icmp .eq 418, 3, 1167, 0, 0, 0, 0, []),
  (752, .iconst 0, 1, 0, 0, 0, 0, 0, []), (753, .ireturn, 1, 0, 0, 4, 0, 0, []), (754, .aload_n 1, 1, 1, 0, 0, 0, 0, []), (755, .aload_n 0, 1, 0, 0, 0, 0, 0, []), (756, .iload_n 3, 1, 3, 0, 0, 0, 0, []), (757, .iconst 1, 1, 0, 0, 0, 0, 1, []),
  (758, .iadd, 1, 0, 0, 0, 0, 0, []), (759, .iaload, 1, 0, 0, 0, 0, 0, []), (760, .aload_n 0, 1, 0, 0, 0, 0, 0, []), (761, .iload_n 3, 1, 3, 0, 0, 0, 0, []), (762, .iconst 2, 1, 0, 0, 0, 0, 2, []), (763, .iadd, 1, 0, 0, 0, 0, 0, []),
  (764, .iaload, 1, 0, 0, 0, 0, 0, []), (765, .invokevirtual 92, 3, 20, 3, 1, 2056, 5, []), (768, .aload_n 2, 1, 2, 0, 0, 0, 0, []), (769, .aload_n 0, 1, 0, 0, 0, 0, 0, []), (770, .iload_n 3, 1, 3, 0, 0, 0, 0, []), (771, .iconst 1, 1, 0, 0, 0, 0, 1, []),
  (772, .iadd, 1, 0, 0, 0, 0, 0, []), (773, .iaload, 1, 0, 0, 0, 0, 0, []), (774, .aload_n 0, 1, 0, 0, 0, 0, 0, []), (775, .iload_n 3, 1, 3, 0, 0, 0, 0, [])]
noncomputable def am_c0_5 : List (Nat × am_E) := [(776, .iconst 2, 1, 0, 0, 0, 0, 2, []), (777, .iadd, 1, 0, 0, 0, 0, 0, []), (778, .iaload, 1, 0, 0, 0, 0, 0, []), (779, .invokevirtual 95, 3, 211, 3, 1, 3789, 6, []), (782, .if_icmp .eq 385, 3, 1167, 0, 0, 0, 0, []), (785, .iconst 0, 1, 0, 0, 0, 0, 0, []),
  (786, .ireturn, 1, 0, 0, 4, 0, 0, []), (787, .aload_n 1, 1, 1, 0, 0, 0, 0, []), (788, .aload_n 0, 1, 0, 0, 0, 0, 0, []), (789, .iload_n 3, 1, 3, 0, 0, 0, 0, []), (790, .iconst 1, 1, 0, 0, 0, 0, 1, []), (791, .iadd, 1, 0, 0, 0, 0, 0, []),
  (792, .iaload, 1, 0, 0, 0, 0, 0, []), (793, .aload_n 0, 1, 0, 0, 0, 0, 0, []), (794, .iload_n 3, 1, 3, 0, 0, 0, 0, []), (795, .iconst 2, 1, 0, 0, 0, 0, 2, []), (796, .iadd, 1, 0, 0, 0, 0, 0, []), (797, .iaload, 1, 0, 0, 0, 0, 0, []),
  (798, .aload_n 0, 1, 0, 0, 0, 0, 0, []), (799, .iload_n 3, 1, 3, 0, 0, 0, 0, []), (800, .iconst 3, 1, 0, 0, 0, 0, 3, []), (801, .iadd, 1, 0, 0, 0, 0, 0, []), (802, .iaload, 1, 0, 0, 0, 0, 0, []), (803, .invokevirtual 96, 3, 21, 4, 1, 2065, 5, []),
  (806, .aload_n 2, 1, 2, 0, 0, 0, 0, []), (807, .aload_n 0, 1, 0, 0, 0, 0, 0, []), (808, .iload_n 3, 1, 3, 0, 0, 0, 0, []), (809, .iconst 1, 1, 0, 0, 0, 0, 1, []), (810, .iadd, 1, 0, 0, 0, 0, 0, []), (811, .iaload, 1, 0, 0, 0, 0, 0, []),
  (812, .aload_n 0, 1, 0, 0, 0, 0, 0, []), (813, .iload_n 3, 1, 3, 0, 0, 0, 0, []), (814, .iconst 2, 1, 0, 0, 0, 0, 2, []), (815, .iadd, 1, 0, 0, 0, 0, 0, []), (816, .iaload, 1, 0, 0, 0, 0, 0, []), (817, .aload_n 0, 1, 0, 0, 0, 0, 0, []),
  (818, .iload_n 3, 1, 3, 0, 0, 0, 0, []), (819, .iconst 3, 1, 0, 0, 0, 0, 3, []), (820, .iadd, 1, 0, 0, 0, 0, 0, []), (821, .iaload, 1, 0, 0, 0, 0, 0, []), (822, .invokevirtual 99, 3, 212, 4, 1, 3793, 6, []), (825, .if_icmp .eq 342, 3, 1167, 0, 0, 0, 0, []),
  (828, .iconst 0, 1, 0, 0, 0, 0, 0, []), (829, .ireturn, 1, 0, 0, 4, 0, 0, []), (830, .aload_n 1, 1, 1, 0, 0, 0, 0, []), (831, .aload_n 0, 1, 0, 0, 0, 0, 0, []), (832, .iload_n 3, 1, 3, 0, 0, 0, 0, []), (833, .iconst 1, 1, 0, 0, 0, 0, 1, []),
  (834, .iadd, 1, 0, 0, 0, 0, 0, []), (835, .iaload, 1, 0, 0, 0, 0, 0, []), (836, .aload_n 0, 1, 0, 0, 0, 0, 0, []), (837, .iload_n 3, 1, 3, 0, 0, 0, 0, []), (838, .iconst 2, 1, 0, 0, 0, 0, 2, []), (839, .iadd, 1, 0, 0, 0, 0, 0, []),
  (840, .iaload, 1, 0, 0, 0, 0, 0, []), (841, .invokevirtual 100, 3, 22, 3, 1, 2071, 5, []), (844, .aload_n 2, 1, 2, 0, 0, 0, 0, []), (845, .aload_n 0, 1, 0, 0, 0, 0, 0, []), (846, .iload_n 3, 1, 3, 0, 0, 0, 0, []), (847, .iconst 1, 1, 0, 0, 0, 0, 1, []),
  (848, .iadd, 1, 0, 0, 0, 0, 0, []), (849, .iaload, 1, 0, 0, 0, 0, 0, []), (850, .aload_n 0, 1, 0, 0, 0, 0, 0, []), (851, .iload_n 3, 1, 3, 0, 0, 0, 0, []), (852, .iconst 2, 1, 0, 0, 0, 0, 2, []), (853, .iadd, 1, 0, 0, 0, 0, 0, []),
  (854, .iaload, 1, 0, 0, 0, 0, 0, []), (855, .invokevirtual 103, 3, 215, 3, 1, 3798, 6, []), (858, .if_icmp .eq 309, 3, 1167, 0, 0, 0, 0, []), (861, .iconst 0, 1, 0, 0, 0, 0, 0, []), (862, .ireturn, 1, 0, 0, 4, 0, 0, []), (863, .aload_n 1, 1, 1, 0, 0, 0, 0, []),
  (864, .aload_n 0, 1, 0, 0, 0, 0, 0, []), (865, .iload_n 3, 1, 3, 0, 0, 0, 0, []), (866, .iconst 1, 1, 0, 0, 0, 0, 1, []), (867, .iadd, 1, 0, 0, 0, 0, 0, []), (868, .iaload, 1, 0, 0, 0, 0, 0, []), (869, .invokevirtual 104, 3, 23, 2, 1, 2088, 5, []),
  (872, .aload_n 2, 1, 2, 0, 0, 0, 0, []), (873, .aload_n 0, 1, 0, 0, 0, 0, 0, []), (874, .iload_n 3, 1, 3, 0, 0, 0, 0, []), (875, .iconst 1, 1, 0, 0, 0, 0, 1, []), (876, .iadd, 1, 0, 0, 0, 0, 0, []), (877, .iaload, 1, 0, 0, 0, 0, 0, []),
  (878, .invokevirtual 107, 3, 216, 2, 1, 3810, 6, []), (881, .if_icmp .eq 286, 3, 1167, 0, 0, 0, 0, []), (884, .iconst 0, 1, 0, 0, 0, 0, 0, []), (885, .ireturn, 1, 0, 0, 4, 0, 0, []), (886, .aload_n 1, 1, 1, 0, 0, 0, 0, []), (887, .invokevirtual 108, 3, 24, 1, 1, 2092, 5, []),
  (890, .aload_n 2, 1, 2, 0, 0, 0, 0, []), (891, .invokevirtual 111, 3, 217, 1, 1, 3814, 6, []), (894, .if_icmp .eq 273, 3, 1167, 0, 0, 0, 0, []), (897, .iconst 0, 1, 0, 0, 0, 0, 0, []), (898, .ireturn, 1, 0, 0, 4, 0, 0, []), (899, .aload_n 1, 1, 1, 0, 0, 0, 0, []),
  (900, .aload_n 0, 1, 0, 0, 0, 0, 0, []), (901, .iload_n 3, 1, 3, 0, 0, 0, 0, []), (902, .iconst 1, 1, 0, 0, 0, 0, 1, []), (903, .iadd, 1, 0, 0, 0, 0, 0, [])]
noncomputable def am_c0_6 : List (Nat × am_E) := [(904, .iaload, 1, 0, 0, 0, 0, 0, []), (905, .invokevirtual 112, 3, 25, 2, 1, 2096, 5, []), (908, .aload_n 2, 1, 2, 0, 0, 0, 0, []), (909, .aload_n 0, 1, 0, 0, 0, 0, 0, []), (910, .iload_n 3, 1, 3, 0, 0, 0, 0, []), (911, .iconst 1, 1, 0, 0, 0, 0, 1, []),
  (912, .iadd, 1, 0, 0, 0, 0, 0, []), (913, .iaload, 1, 0, 0, 0, 0, 0, []), (914, .invokevirtual 115, 3, 221, 2, 1, 3818, 6, []), (917, .if_icmp .eq 250, 3, 1167, 0, 0, 0, 0, []), (920, .iconst 0, 1, 0, 0, 0, 0, 0, []), (921, .ireturn, 1, 0, 0, 4, 0, 0, []),
  (922, .aload_n 1, 1, 1, 0, 0, 0, 0, []), (923, .aload_n 0, 1, 0, 0, 0, 0, 0, []), (924, .iload_n 3, 1, 3, 0, 0, 0, 0, []), (925, .iconst 1, 1, 0, 0, 0, 0, 1, []), (926, .iadd, 1, 0, 0, 0, 0, 0, []), (927, .iaload, 1, 0, 0, 0, 0, 0, []),
  (928, .aload_n 0, 1, 0, 0, 0, 0, 0, []), (929, .iload_n 3, 1, 3, 0, 0, 0, 0, []), (930, .iconst 2, 1, 0, 0, 0, 0, 2, []), (931, .iadd, 1, 0, 0, 0, 0, 0, []), (932, .iaload, 1, 0, 0, 0, 0, 0, []), (933, .invokevirtual 116, 3, 26, 3, 4, 2109, 5, []),
  (936, .aload_n 2, 1, 2, 0, 0, 0, 0, []), (937, .aload_n 0, 1, 0, 0, 0, 0, 0, []), (938, .iload_n 3, 1, 3, 0, 0, 0, 0, []), (939, .iconst 1, 1, 0, 0, 0, 0, 1, []), (940, .iadd, 1, 0, 0, 0, 0, 0, []), (941, .iaload, 1, 0, 0, 0, 0, 0, []),
  (942, .aload_n 0, 1, 0, 0, 0, 0, 0, []), (943, .iload_n 3, 1, 3, 0, 0, 0, 0, []), (944, .iconst 2, 1, 0, 0, 0, 0, 2, []), (945, .iadd, 1, 0, 0, 0, 0, 0, []), (946, .iaload, 1, 0, 0, 0, 0, 0, []), (947, .invokevirtual 120, 3, 224, 3, 4, 4110, 6, []),
  (950, .if_icmp .eq 217, 3, 1167, 0, 0, 0, 0, []), (953, .iconst 0, 1, 0, 0, 0, 0, 0, []), (954, .ireturn, 1, 0, 0, 4, 0, 0, []), (955, .aload_n 1, 1, 1, 0, 0, 0, 0, []), (956, .aload_n 0, 1, 0, 0, 0, 0, 0, []), (957, .iload_n 3, 1, 3, 0, 0, 0, 0, []),
  (958, .iconst 1, 1, 0, 0, 0, 0, 1, []), (959, .iadd, 1, 0, 0, 0, 0, 0, []), (960, .iaload, 1, 0, 0, 0, 0, 0, []), (961, .aload_n 0, 1, 0, 0, 0, 0, 0, []), (962, .iload_n 3, 1, 3, 0, 0, 0, 0, []), (963, .iconst 2, 1, 0, 0, 0, 0, 2, []),
  (964, .iadd, 1, 0, 0, 0, 0, 0, []), (965, .iaload, 1, 0, 0, 0, 0, 0, []), (966, .invokevirtual 121, 3, 27, 3, 2, 2118, 5, []), (969, .aload_n 2, 1, 2, 0, 0, 0, 0, []), (970, .aload_n 0, 1, 0, 0, 0, 0, 0, []), (971, .iload_n 3, 1, 3, 0, 0, 0, 0, []),
  (972, .iconst 1, 1, 0, 0, 0, 0, 1, []), (973, .iadd, 1, 0, 0, 0, 0, 0, []), (974, .iaload, 1, 0, 0, 0, 0, 0, []), (975, .aload_n 0, 1, 0, 0, 0, 0, 0, []), (976, .iload_n 3, 1, 3, 0, 0, 0, 0, []), (977, .iconst 2, 1, 0, 0, 0, 0, 2, []),
  (978, .iadd, 1, 0, 0, 0, 0, 0, []), (979, .iaload, 1, 0, 0, 0, 0, 0, []), (980, .invokevirtual 124, 3, 225, 3, 2, 4118, 6, []), (983, .lcmp, 1, 0, 0, 0, 0, 0, []), (984, .ifCond .eq 183, 3, 1167, 0, 0, 0, 0, []), (987, .iconst 0, 1, 0, 0, 0, 0, 0, []),
  (988, .ireturn, 1, 0, 0, 4, 0, 0, []), (989, .aload_n 1, 1, 1, 0, 0, 0, 0, []), (990, .aload_n 0, 1, 0, 0, 0, 0, 0, []), (991, .iload_n 3, 1, 3, 0, 0, 0, 0, []), (992, .iconst 1, 1, 0, 0, 0, 0, 1, []), (993, .iadd, 1, 0, 0, 0, 0, 0, []),
  (994, .iaload, 1, 0, 0, 0, 0, 0, []), (995, .invokevirtual 125, 3, 28, 2, 1, 2122, 5, []), (998, .aload_n 2, 1, 2, 0, 0, 0, 0, []), (999, .aload_n 0, 1, 0, 0, 0, 0, 0, []), (1000, .iload_n 3, 1, 3, 0, 0, 0, 0, []), (1001, .iconst 1, 1, 0, 0, 0, 0, 1, []),
  (1002, .iadd, 1, 0, 0, 0, 0, 0, []), (1003, .iaload, 1, 0, 0, 0, 0, 0, []), (1004, .invokevirtual 128, 3, 227, 2, 1, 4122, 6, []), (1007, .if_icmp .eq 160, 3, 1167, 0, 0, 0, 0, []), (1010, .iconst 0, 1, 0, 0, 0, 0, 0, []), (1011, .ireturn, 1, 0, 0, 4, 0, 0, []),
  (1012, .aload_n 1, 1, 1, 0, 0, 0, 0, []), (1013, .aload_n 0, 1, 0, 0, 0, 0, 0, []), (1014, .iload_n 3, 1, 3, 0, 0, 0, 0, []), (1015, .iconst 1, 1, 0, 0, 0, 0, 1, []), (1016, .iadd, 1, 0, 0, 0, 0, 0, []), (1017, .iaload, 1, 0, 0, 0, 0, 0, []),
  (1018, .invokevirtual 129, 3, 29, 2, 1, 2126, 5, []), (1021, .aload_n 2, 1, 2, 0, 0, 0, 0, []), (1022, .aload_n 0, 1, 0, 0, 0, 0, 0, []), (1023, .iload_n 3, 1, 3, 0, 0, 0, 0, []), (1024, .iconst 1, 1, 0, 0, 0, 0, 1, []), (1025, .iadd, 1, 0, 0, 0, 0, 0, []),
  (1026, .iaload, 1, 0, 0, 0, 0, 0, []), (1027, .invokevirtual 132, 3, 231, 2, 1, 4134, 6, []), (1030, .if_icmp .eq 137, 3, 1167, 0, 0, 0, 0, []), (1033, .iconst 0, 1, 0, 0, 0, 0, 0, [])]
noncomputable def am_c0_7 : List (Nat × am_E) := [(1034, .ireturn, 1, 0, 0, 4, 0, 0, []), (1035, .aload_n 1, 1, 1, 0, 0, 0, 0, []), (1036, .invokevirtual 133, 3, 30, 1, 4, 2142, 5, []), (1039, .aload_n 2, 1, 2, 0, 0, 0, 0, []), (1040, .invokevirtual 137, 3, 223, 1, 4, 4106, 6, []), (1043, .if_icmp .eq 124, 3, 1167, 0, 0, 0, 0, []),
  (1046, .iconst 0, 1, 0, 0, 0, 0, 0, []), (1047, .ireturn, 1, 0, 0, 4, 0, 0, []), (1048, .aload_n 1, 1, 1, 0, 0, 0, 0, []), (1049, .aload_n 0, 1, 0, 0, 0, 0, 0, []), (1050, .iload_n 3, 1, 3, 0, 0, 0, 0, []), (1051, .iconst 1, 1, 0, 0, 0, 0, 1, []),
  (1052, .iadd, 1, 0, 0, 0, 0, 0, []), (1053, .iaload, 1, 0, 0, 0, 0, 0, []), (1054, .invokevirtual 138, 3, 31, 2, 4, 2146, 5, []), (1057, .aload_n 2, 1, 2, 0, 0, 0, 0, []), (1058, .aload_n 0, 1, 0, 0, 0, 0, 0, []), (1059, .iload_n 3, 1, 3, 0, 0, 0, 0, []),
  (1060, .iconst 1, 1, 0, 0, 0, 0, 1, []), (1061, .iadd, 1, 0, 0, 0, 0, 0, []), (1062, .iaload, 1, 0, 0, 0, 0, 0, []), (1063, .invokevirtual 141, 3, 228, 2, 4, 4130, 6, []), (1066, .if_icmp .eq 101, 3, 1167, 0, 0, 0, 0, []), (1069, .iconst 0, 1, 0, 0, 0, 0, 0, []),
  (1070, .ireturn, 1, 0, 0, 4, 0, 0, []), (1071, .aload_n 1, 1, 1, 0, 0, 0, 0, []), (1072, .aload_n 0, 1, 0, 0, 0, 0, 0, []), (1073, .iload_n 3, 1, 3, 0, 0, 0, 0, []), (1074, .iconst 1, 1, 0, 0, 0, 0, 1, []), (1075, .iadd, 1, 0, 0, 0, 0, 0, []),
  (1076, .iaload, 1, 0, 0, 0, 0, 0, []), (1077, .invokevirtual 142, 3, 32, 2, 2, 2150, 5, []), (1080, .aload_n 2, 1, 2, 0, 0, 0, 0, []), (1081, .aload_n 0, 1, 0, 0, 0, 0, 0, []), (1082, .iload_n 3, 1, 3, 0, 0, 0, 0, []), (1083, .iconst 1, 1, 0, 0, 0, 0, 1, []),
  (1084, .iadd, 1, 0, 0, 0, 0, 0, []), (1085, .iaload, 1, 0, 0, 0, 0, 0, []), (1086, .invokevirtual 146, 3, 260, 2, 2, 4150, 6, []), (1089, .lcmp, 1, 0, 0, 0, 0, 0, []), (1090, .ifCond .eq 77, 3, 1167, 0, 0, 0, 0, []), (1093, .iconst 0, 1, 0, 0, 0, 0, 0, []),
  (1094, .ireturn, 1, 0, 0, 4, 0, 0, []), (1095, .aload_n 1, 1, 1, 0, 0, 0, 0, []), (1096, .invokevirtual 147, 3, 33, 1, 1, 2175, 5, []), (1099, .aload_n 2, 1, 2, 0, 0, 0, 0, []), (1100, .invokevirtual 150, 3, 264, 1, 1, 4171, 6, []), (1103, .if_icmp .eq 64, 3, 1167, 0, 0, 0, 0, []),
  (1106, .iconst 0, 1, 0, 0, 0, 0, 0, []), (1107, .ireturn, 1, 0, 0, 4, 0, 0, []), (1108, .aload_n 1, 1, 1, 0, 0, 0, 0, []), (1109, .aload_n 0, 1, 0, 0, 0, 0, 0, []), (1110, .iload_n 3, 1, 3, 0, 0, 0, 0, []), (1111, .iconst 1, 1, 0, 0, 0, 0, 1, []),
  (1112, .iadd, 1, 0, 0, 0, 0, 0, []), (1113, .iaload, 1, 0, 0, 0, 0, 0, []), (1114, .invokevirtual 151, 3, 34, 2, 1, 2191, 5, []), (1117, .aload_n 2, 1, 2, 0, 0, 0, 0, []), (1118, .aload_n 0, 1, 0, 0, 0, 0, 0, []), (1119, .iload_n 3, 1, 3, 0, 0, 0, 0, []),
  (1120, .iconst 1, 1, 0, 0, 0, 0, 1, []), (1121, .iadd, 1, 0, 0, 0, 0, 0, []), (1122, .iaload, 1, 0, 0, 0, 0, 0, []), (1123, .invokevirtual 154, 3, 265, 2, 1, 4186, 6, []), (1126, .if_icmp .eq 41, 3, 1167, 0, 0, 0, 0, []), (1129, .iconst 0, 1, 0, 0, 0, 0, 0, []),
  (1130, .ireturn, 1, 0, 0, 4, 0, 0, []), (1131, .aload_n 1, 1, 1, 0, 0, 0, 0, []), (1132, .invokevirtual 155, 3, 35, 1, 4, 2195, 5, []), (1135, .aload_n 2, 1, 2, 0, 0, 0, 0, []), (1136, .invokevirtual 158, 3, 270, 1, 4, 4190, 6, []), (1139, .if_icmp .eq 28, 3, 1167, 0, 0, 0, 0, []),
  (1142, .iconst 0, 1, 0, 0, 0, 0, 0, []), (1143, .ireturn, 1, 0, 0, 4, 0, 0, []), (1144, .aload_n 1, 1, 1, 0, 0, 0, 0, []), (1145, .aload_n 0, 1, 0, 0, 0, 0, 0, []), (1146, .iload_n 3, 1, 3, 0, 0, 0, 0, []), (1147, .iconst 1, 1, 0, 0, 0, 0, 1, []),
  (1148, .iadd, 1, 0, 0, 0, 0, 0, []), (1149, .iaload, 1, 0, 0, 0, 0, 0, []), (1150, .invokevirtual 159, 3, 36, 2, 1, 2219, 5, []), (1153, .aload_n 2, 1, 2, 0, 0, 0, 0, []), (1154, .aload_n 0, 1, 0, 0, 0, 0, 0, []), (1155, .iload_n 3, 1, 3, 0, 0, 0, 0, []),
  (1156, .iconst 1, 1, 0, 0, 0, 0, 1, []), (1157, .iadd, 1, 0, 0, 0, 0, 0, []), (1158, .iaload, 1, 0, 0, 0, 0, 0, []), (1159, .invokevirtual 162, 3, 271, 2, 1, 4210, 6, []), (1162, .if_icmp .eq 5, 3, 1167, 0, 0, 0, 0, []), (1165, .iconst 0, 1, 0, 0, 0, 0, 0, []),
  (1166, .ireturn, 1, 0, 0, 4, 0, 0, []), (1167, .iinc 3 6, 3, 3, 0, 0, 0, 6, []), (1170, .goto (-1152), 3, 18, 0, 0, 0, 0, []), (1173, .iconst 1, 1, 0, 0, 0, 0, 1, []), (1174, .ireturn, 1, 0, 0, 4, 0, 0, [])]
noncomputable def am_c0 : List (Nat × am_E) := am_c0_0 ++ (am_c0_1 ++ (am_c0_2 ++ (am_c0_3 ++ (am_c0_4 ++ (am_c0_5 ++ (am_c0_6 ++ (am_c0_7)))))))
noncomputable def am_s1 : am_S := (yX5_init, cX5_init, 3, none, 2, 0, 1, 5, 531, 530, 0, 513)
noncomputable def am_c1 : List (Nat × am_E) := [(0, .aload_n 0, 1, 0, 0, 0, 0, 0, []), (1, .invokespecial 3, 3, 0, 1, 9, 532, 0, []), (4, .aload_n 0, 1, 0, 0, 0, 0, 0, []), (5, .new 9, 3, 4, 17, 0, 535, 0, []), (8, .dup, 1, 0, 0, 0, 0, 0, []), (9, .invokespecial 11, 3, 95, 1, 0, 537, 0, []),
  (12, .putfield 12, 3, 5, 0, 3, 1107, 0, []), (15, .aload_n 0, 1, 0, 0, 0, 0, 0, []), (16, .aload_n 0, 1, 0, 0, 0, 0, 0, []), (17, .getfield 12, 3, 5, 0, 3, 1107, 0, []), (20, .getfield 16, 3, 4, 5, 3, 694, 0, []), (23, .putfield 20, 3, 5, 1, 3, 1108, 0, []),
  (26, .aload_n 0, 1, 0, 0, 0, 0, 0, []), (27, .iconst 0, 1, 0, 0, 0, 0, 0, []), (28, .putfield 23, 3, 5, 2, 1, 1109, 0, []), (31, .aload_n 0, 1, 0, 0, 0, 0, 0, []), (32, .bipush 20, 2, 0, 0, 0, 0, 20, []), (34, .anewarray 27, 3, 5, 0, 0, 744, 0, []),
  (37, .putfield 29, 3, 5, 5, 3, 1112, 0, []), (40, .aload_n 0, 1, 0, 0, 0, 0, 0, []), (41, .iconst 0, 1, 0, 0, 0, 0, 0, []), (42, .putfield 33, 3, 5, 6, 1, 1113, 0, []), (45, .aload_n 0, 1, 0, 0, 0, 0, 0, []), (46, .iconst 0, 1, 0, 0, 0, 0, 0, []),
  (47, .putfield 36, 3, 5, 7, 1, 1114, 0, []), (50, .aload_n 0, 1, 0, 0, 0, 0, 0, []), (51, .bipush 48, 2, 0, 0, 0, 0, 48, []), (53, .newarray .int, 2, 2, 0, 0, 0, 0, []), (55, .putfield 39, 3, 5, 8, 3, 1115, 0, []), (58, .aload_n 0, 1, 0, 0, 0, 0, 0, []),
  (59, .iconst 0, 1, 0, 0, 0, 0, 0, []), (60, .putfield 42, 3, 5, 9, 1, 1116, 0, []), (63, .aload_n 0, 1, 0, 0, 0, 0, 0, []), (64, .sipush 139, 3, 0, 0, 0, 0, 139, []), (67, .newarray .int, 2, 2, 0, 0, 0, 0, []), (69, .putfield 45, 3, 5, 10, 3, 1117, 0, []),
  (72, .aload_n 0, 1, 0, 0, 0, 0, 0, []), (73, .iconst 0, 1, 0, 0, 0, 0, 0, []), (74, .putfield 48, 3, 5, 11, 1, 1118, 0, []), (77, .aload_n 0, 1, 0, 0, 0, 0, 0, []), (78, .sipush 160, 3, 0, 0, 0, 0, 160, []), (81, .newarray .int, 2, 2, 0, 0, 0, 0, []),
  (83, .putfield 51, 3, 5, 12, 3, 1119, 0, []), (86, .aload_n 0, 1, 0, 0, 0, 0, 0, []), (87, .bipush 8, 2, 0, 0, 0, 0, 8, []), (89, .newarray .int, 2, 2, 0, 0, 0, 0, []), (91, .putfield 54, 3, 5, 13, 3, 1120, 0, []), (94, .aload_n 0, 1, 0, 0, 0, 0, 0, []),
  (95, .bipush 6, 2, 0, 0, 0, 0, 6, []), (97, .newarray .int, 2, 2, 0, 0, 0, 0, []), (99, .putfield 57, 3, 5, 14, 3, 1121, 0, []), (102, .aload_n 0, 1, 0, 0, 0, 0, 0, []), (103, .iconst 1, 1, 0, 0, 0, 0, 1, []), (104, .putfield 60, 3, 5, 15, 1, 1122, 0, []),
  (107, .new 63, 3, 2, 16, 0, 746, 0, []), (110, .dup, 1, 0, 0, 0, 0, 0, []), (111, .invokespecial 65, 3, 84, 1, 0, 747, 0, [(1, 0)]), (114, .astore_n 1, 1, 1, 0, 0, 0, 0, []), (115, .aload_n 0, 1, 0, 0, 0, 0, 0, []), (116, .new 66, 3, 1, 6, 0, 748, 0, []),
  (119, .dup, 1, 0, 0, 0, 0, 0, []), (120, .aload_n 1, 1, 1, 0, 0, 0, 0, []), (121, .invokespecial 68, 3, 71, 2, 0, 750, 0, []), (124, .putfield 71, 3, 5, 3, 3, 1110, 0, []), (127, .aload_n 0, 1, 0, 0, 0, 0, 0, []), (128, .new 66, 3, 1, 6, 0, 748, 0, []),
  (131, .dup, 1, 0, 0, 0, 0, 0, []), (132, .aload_n 1, 1, 1, 0, 0, 0, 0, []), (133, .invokespecial 68, 3, 71, 2, 0, 750, 0, []), (136, .putfield 75, 3, 5, 4, 3, 1111, 0, []), (139, .iconst 0, 1, 0, 0, 0, 0, 0, []), (140, .istore_n 2, 1, 2, 0, 0, 0, 0, []),
  (141, .iload_n 2, 1, 2, 0, 0, 0, 0, []), (142, .bipush 20, 2, 0, 0, 0, 0, 20, []), (144, .if_icmp .ge 22, 3, 166, 0, 0, 0, 0, []), (147, .aload_n 0, 1, 0, 0, 0, 0, 0, []), (148, .getfield 29, 3, 5, 5, 3, 1112, 0, []), (151, .iload_n 2, 1, 2, 0, 0, 0, 0, []),
  (152, .new 27, 3, 0, 7, 0, 744, 0, []), (155, .dup, 1, 0, 0, 0, 0, 0, []), (156, .invokespecial 78, 3, 64, 1, 0, 1106, 0, [(1, 0)]), (159, .aastore, 1, 0, 0, 0, 0, 0, []), (160, .iinc 2 1, 3, 2, 0, 0, 0, 1, []), (163, .goto (-22), 3, 141, 0, 0, 0, 0, []),
  (166, .return_, 1, 0, 0, 0, 0, 0, [])]
noncomputable def am_s2 : am_S := (yX5_feed, cX5_feed, 6, (some .int), 1, 1, 6, 5, 1159, 1157, 1158, 513)
noncomputable def am_c2 : List (Nat × am_E) := [(0, .aload_n 0, 1, 0, 0, 0, 0, 0, []), (1, .getfield 23, 3, 5, 2, 1, 1109, 0, []), (4, .bipush 20, 2, 0, 0, 0, 0, 20, []), (6, .iadd, 1, 0, 0, 0, 0, 0, []), (7, .sipush 1600, 3, 0, 0, 0, 0, 1600, []), (10, .if_icmp .le 9, 3, 19, 0, 0, 0, 0, []),
  (13, .aload_n 0, 1, 0, 0, 0, 0, 0, []), (14, .iconst 0, 1, 0, 0, 0, 0, 0, []), (15, .invokevirtual 79, 3, 37, 2, 1, 1160, 5, []), (18, .ireturn, 1, 0, 0, 1, 0, 0, []), (19, .aload_n 0, 1, 0, 0, 0, 0, 0, []), (20, .iload_n 1, 1, 1, 0, 0, 0, 0, []),
  (21, .invokevirtual 83, 3, 38, 2, 0, 1164, 5, []), (24, .aload_n 0, 1, 0, 0, 0, 0, 0, []), (25, .iload_n 2, 1, 2, 0, 0, 0, 0, []), (26, .invokevirtual 83, 3, 38, 2, 0, 1164, 5, []), (29, .aload_n 0, 1, 0, 0, 0, 0, 0, []), (30, .iload_n 3, 1, 3, 0, 0, 0, 0, []),
  (31, .invokevirtual 83, 3, 38, 2, 0, 1164, 5, []), (34, .aload_n 0, 1, 0, 0, 0, 0, 0, []), (35, .iload 4, 2, 4, 0, 0, 0, 0, []), (37, .invokevirtual 83, 3, 38, 2, 0, 1164, 5, []), (40, .aload_n 0, 1, 0, 0, 0, 0, 0, []), (41, .iload 5, 2, 5, 0, 0, 0, 0, []),
  (43, .invokevirtual 83, 3, 38, 2, 0, 1164, 5, []), (46, .aload_n 0, 1, 0, 0, 0, 0, 0, []), (47, .getfield 23, 3, 5, 2, 1, 1109, 0, []), (50, .ireturn, 1, 0, 0, 1, 0, 0, [])]
noncomputable def am_s3 : am_S := (yX5_end, cX5_end, 2, (some .boolean), 1, 4, 2, 5, 1171, 1169, 1170, 513)
noncomputable def am_c3 : List (Nat × am_E) := [(0, .iload_n 1, 1, 1, 0, 0, 0, 0, []), (1, .ifCond .lt 11, 3, 12, 0, 0, 0, 0, []), (4, .iload_n 1, 1, 1, 0, 0, 0, 0, []), (5, .aload_n 0, 1, 0, 0, 0, 0, 0, []), (6, .getfield 23, 3, 5, 2, 1, 1109, 0, []), (9, .if_icmp .le 11, 3, 20, 0, 0, 0, 0, []),
  (12, .aload_n 0, 1, 0, 0, 0, 0, 0, []), (13, .iconst 0, 1, 0, 0, 0, 0, 0, []), (14, .invokevirtual 79, 3, 37, 2, 1, 1160, 5, []), (17, .pop, 1, 0, 0, 0, 0, 0, []), (18, .iconst 0, 1, 0, 0, 0, 0, 0, []), (19, .ireturn, 1, 0, 0, 4, 0, 0, []),
  (20, .aload_n 0, 1, 0, 0, 0, 0, 0, []), (21, .iload_n 1, 1, 1, 0, 0, 0, 0, []), (22, .putfield 23, 3, 5, 2, 1, 1109, 0, []), (25, .iconst 1, 1, 0, 0, 0, 0, 1, []), (26, .ireturn, 1, 0, 0, 4, 0, 0, [])]
noncomputable def am_s4 : am_S := (yX5_house, cX5_house, 3, (some .int), 1, 1, 1, 5, 1175, 1173, 1174, 513)
noncomputable def am_c4 : List (Nat × am_E) := [(0, .aload_n 0, 1, 0, 0, 0, 0, 0, []), (1, .getfield 12, 3, 5, 0, 3, 1107, 0, []), (4, .aload_n 0, 1, 0, 0, 0, 0, 0, []), (5, .invokevirtual 87, 3, 39, 1, 1, 1176, 5, []), (8, .invokevirtual 91, 3, 96, 2, 1, 1180, 4, []), (11, .istore_n 1, 1, 1, 0, 0, 0, 0, []),
  (12, .iload_n 1, 1, 1, 0, 0, 0, 0, []), (13, .iconst (-1), 1, 0, 0, 0, 0, (-1), []), (14, .if_icmp .ne 9, 3, 23, 0, 0, 0, 0, []), (17, .aload_n 0, 1, 0, 0, 0, 0, 0, []), (18, .iconst 1, 1, 0, 0, 0, 0, 1, []), (19, .invokevirtual 79, 3, 37, 2, 1, 1160, 5, []),
  (22, .ireturn, 1, 0, 0, 1, 0, 0, []), (23, .aload_n 0, 1, 0, 0, 0, 0, 0, []), (24, .getfield 71, 3, 5, 3, 3, 1110, 0, []), (27, .getfield 94, 3, 1, 0, 3, 1083, 0, []), (30, .astore_n 2, 1, 2, 0, 0, 0, 0, []), (31, .aload_n 0, 1, 0, 0, 0, 0, 0, []),
  (32, .getfield 71, 3, 5, 3, 3, 1110, 0, []), (35, .aload_n 0, 1, 0, 0, 0, 0, 0, []), (36, .getfield 12, 3, 5, 0, 3, 1107, 0, []), (39, .getfield 98, 3, 4, 2, 3, 689, 0, []), (42, .putfield 94, 3, 1, 0, 3, 1083, 0, []), (45, .aload_n 0, 1, 0, 0, 0, 0, 0, []),
  (46, .getfield 12, 3, 5, 0, 3, 1107, 0, []), (49, .aload_n 2, 1, 2, 0, 0, 0, 0, []), (50, .putfield 98, 3, 4, 2, 3, 689, 0, []), (53, .aload_n 0, 1, 0, 0, 0, 0, 0, []), (54, .getfield 71, 3, 5, 3, 3, 1110, 0, []), (57, .getfield 99, 3, 1, 1, 3, 1085, 0, []),
  (60, .invokevirtual 103, 3, 65, 1, 0, 1579, 0, []), (63, .aload_n 0, 1, 0, 0, 0, 0, 0, []), (64, .getfield 71, 3, 5, 3, 3, 1110, 0, []), (67, .getfield 99, 3, 1, 1, 3, 1085, 0, []), (70, .aload_n 0, 1, 0, 0, 0, 0, 0, []), (71, .getfield 71, 3, 5, 3, 3, 1110, 0, []),
  (74, .getfield 94, 3, 1, 0, 3, 1083, 0, []), (77, .getfield 106, 3, 2, 7, 1, 574, 0, []), (80, .putfield 109, 3, 0, 1, 1, 1037, 0, []), (83, .aload_n 0, 1, 0, 0, 0, 0, 0, []), (84, .iconst 0, 1, 0, 0, 0, 0, 0, []), (85, .putfield 42, 3, 5, 9, 1, 1116, 0, []),
  (88, .aload_n 0, 1, 0, 0, 0, 0, 0, []), (89, .invokevirtual 110, 3, 44, 1, 0, 1583, 5, []), (92, .iload_n 1, 1, 1, 0, 0, 0, 0, []), (93, .ireturn, 1, 0, 0, 1, 0, 0, [])]
noncomputable def am_s5 : am_S := (yX5_fault, cX5_fault, 2, (some .int), 1, 1, 2, 5, 1590, 1588, 1589, 513)
noncomputable def am_c5 : List (Nat × am_E) := [(0, .iload_n 1, 1, 1, 0, 0, 0, 0, []), (1, .ifCond .ne 11, 3, 12, 0, 0, 0, 0, []), (4, .aload_n 0, 1, 0, 0, 0, 0, 0, []), (5, .getfield 12, 3, 5, 0, 3, 1107, 0, []), (8, .getfield 113, 3, 4, 0, 1, 685, 0, []), (11, .ireturn, 1, 0, 0, 1, 0, 0, []),
  (12, .iload_n 1, 1, 1, 0, 0, 0, 0, []), (13, .iconst 1, 1, 0, 0, 0, 0, 1, []), (14, .if_icmp .ne 13, 3, 27, 0, 0, 0, 0, []), (17, .aload_n 0, 1, 0, 0, 0, 0, 0, []), (18, .getfield 12, 3, 5, 0, 3, 1107, 0, []), (21, .getfield 116, 3, 4, 1, 1, 687, 0, []),
  (24, .goto 4, 3, 28, 0, 0, 0, 0, []), (27, .iconst (-1), 1, 0, 0, 0, 0, (-1), []), (28, .ireturn, 1, 0, 0, 1, 0, 0, [])]
noncomputable def am_s6 : am_S := (yX5_has, cX5_has, 2, (some .int), 1, 1, 2, 5, 1594, 1592, 1593, 513)
noncomputable def am_c6 : List (Nat × am_E) := [(0, .iload_n 1, 1, 1, 0, 0, 0, 0, []), (1, .tableswitch 177 0 10 #[59, 72, 85, 98, 109, 123, 137, 151, 156, 167, 172], 59, 178, 0, 0, 0, 0, [(0, 60), (1, 73), (2, 86), (3, 99), (4, 110), (5, 124), (6, 138), (7, 152), (8, 157), (9, 168), (10, 173)]), (60, .aload_n 0, 1, 0, 0, 0, 0, 0, []), (61, .getfield 71, 3, 5, 3, 3, 1110, 0, []), (64, .getfield 94, 3, 1, 0, 3, 1083, 0, []), (67, .getfield 119, 3, 2, 0, 3, 551, 0, []),
  (70, .iconst 0, 1, 0, 0, 0, 0, 0, []), (71, .iaload, 1, 0, 0, 0, 0, 0, []), (72, .ireturn, 1, 0, 0, 1, 0, 0, []), (73, .aload_n 0, 1, 0, 0, 0, 0, 0, []), (74, .getfield 71, 3, 5, 3, 3, 1110, 0, []), (77, .getfield 94, 3, 1, 0, 3, 1083, 0, []),
  (80, .getfield 119, 3, 2, 0, 3, 551, 0, []), (83, .iconst 1, 1, 0, 0, 0, 0, 1, []), (84, .iaload, 1, 0, 0, 0, 0, 0, []), (85, .ireturn, 1, 0, 0, 1, 0, 0, []), (86, .aload_n 0, 1, 0, 0, 0, 0, 0, []), (87, .getfield 71, 3, 5, 3, 3, 1110, 0, []),
  (90, .getfield 94, 3, 1, 0, 3, 1083, 0, []), (93, .getfield 119, 3, 2, 0, 3, 551, 0, []), (96, .iconst 2, 1, 0, 0, 0, 0, 2, []), (97, .iaload, 1, 0, 0, 0, 0, 0, []), (98, .ireturn, 1, 0, 0, 1, 0, 0, []), (99, .aload_n 0, 1, 0, 0, 0, 0, 0, []),
  (100, .getfield 71, 3, 5, 3, 3, 1110, 0, []), (103, .getfield 94, 3, 1, 0, 3, 1083, 0, []), (106, .getfield 122, 3, 2, 8, 1, 578, 0, []), (109, .ireturn, 1, 0, 0, 1, 0, 0, []), (110, .aload_n 0, 1, 0, 0, 0, 0, 0, []), (111, .getfield 71, 3, 5, 3, 3, 1110, 0, []),
  (114, .getfield 99, 3, 1, 1, 3, 1085, 0, []), (117, .getfield 125, 3, 0, 0, 1, 1034, 0, []), (120, .bipush 24, 2, 0, 0, 0, 0, 24, []), (122, .idiv, 1, 0, 0, 0, 0, 0, []), (123, .ireturn, 1, 0, 0, 1, 0, 0, []), (124, .aload_n 0, 1, 0, 0, 0, 0, 0, []),
  (125, .getfield 71, 3, 5, 3, 3, 1110, 0, []), (128, .getfield 99, 3, 1, 1, 3, 1085, 0, []), (131, .getfield 125, 3, 0, 0, 1, 1034, 0, []), (134, .bipush 24, 2, 0, 0, 0, 0, 24, []), (136, .irem, 1, 0, 0, 0, 0, 0, []), (137, .ireturn, 1, 0, 0, 1, 0, 0, []),
  (138, .aload_n 0, 1, 0, 0, 0, 0, 0, []), (139, .getfield 71, 3, 5, 3, 3, 1110, 0, []), (142, .getfield 99, 3, 1, 1, 3, 1085, 0, []), (145, .getfield 109, 3, 0, 1, 1, 1037, 0, []), (148, .invokestatic 128, 3, 272, 1, 1, 1595, 0, []), (151, .ireturn, 1, 0, 0, 1, 0, 0, []),
  (152, .aload_n 0, 1, 0, 0, 0, 0, 0, []), (153, .invokevirtual 133, 3, 42, 1, 1, 1601, 5, []), (156, .ireturn, 1, 0, 0, 1, 0, 0, []), (157, .aload_n 0, 1, 0, 0, 0, 0, 0, []), (158, .getfield 71, 3, 5, 3, 3, 1110, 0, []), (161, .getfield 99, 3, 1, 1, 3, 1085, 0, []),
  (164, .invokevirtual 136, 3, 68, 1, 1, 1605, 0, []), (167, .ireturn, 1, 0, 0, 1, 0, 0, []), (168, .aload_n 0, 1, 0, 0, 0, 0, 0, []), (169, .getfield 42, 3, 5, 9, 1, 1116, 0, []), (172, .ireturn, 1, 0, 0, 1, 0, 0, []), (173, .aload_n 0, 1, 0, 0, 0, 0, 0, []),
  (174, .getfield 36, 3, 5, 7, 1, 1114, 0, []), (177, .ireturn, 1, 0, 0, 1, 0, 0, []), (178, .iconst (-1), 1, 0, 0, 0, 0, (-1), []), (179, .ireturn, 1, 0, 0, 1, 0, 0, [])]
noncomputable def am_s7 : am_S := (yX5_letter, cX5_letter, 4, (some .int), 1, 1, 4, 5, 1613, 1611, 1612, 513)
noncomputable def am_c7 : List (Nat × am_E) := [(0, .iload_n 1, 1, 1, 0, 0, 0, 0, []), (1, .ifCond .lt 26, 3, 27, 0, 0, 0, 0, []), (4, .iload_n 1, 1, 1, 0, 0, 0, 0, []), (5, .iconst 2, 1, 0, 0, 0, 0, 2, []), (6, .if_icmp .gt 21, 3, 27, 0, 0, 0, 0, []), (9, .aload_n 0, 1, 0, 0, 0, 0, 0, []),
  (10, .iload_n 1, 1, 1, 0, 0, 0, 0, []), (11, .iload_n 2, 1, 2, 0, 0, 0, 0, []), (12, .invokevirtual 139, 3, 40, 3, 4, 1614, 5, []), (15, .ifCond .eq 12, 3, 27, 0, 0, 0, 0, []), (18, .iload_n 3, 1, 3, 0, 0, 0, 0, []), (19, .ifCond .lt 8, 3, 27, 0, 0, 0, 0, []),
  (22, .iload_n 3, 1, 3, 0, 0, 0, 0, []), (23, .iconst 5, 1, 0, 0, 0, 0, 5, []), (24, .if_icmp .le 5, 3, 29, 0, 0, 0, 0, []), (27, .iconst (-1), 1, 0, 0, 0, 0, (-1), []), (28, .ireturn, 1, 0, 0, 1, 0, 0, []), (29, .aload_n 0, 1, 0, 0, 0, 0, 0, []),
  (30, .getfield 71, 3, 5, 3, 3, 1110, 0, []), (33, .getfield 94, 3, 1, 0, 3, 1083, 0, []), (36, .getfield 143, 3, 2, 1, 3, 554, 0, []), (39, .iload_n 1, 1, 1, 0, 0, 0, 0, []), (40, .aaload, 1, 0, 0, 0, 0, 0, []), (41, .iload_n 2, 1, 2, 0, 0, 0, 0, []),
  (42, .iaload, 1, 0, 0, 0, 0, 0, []), (43, .iconst 5, 1, 0, 0, 0, 0, 5, []), (44, .iload_n 3, 1, 3, 0, 0, 0, 0, []), (45, .imul, 1, 0, 0, 0, 0, 0, []), (46, .ishr, 1, 0, 0, 0, 0, 0, []), (47, .bipush 31, 2, 0, 0, 0, 0, 31, []),
  (49, .iand, 1, 0, 0, 0, 0, 0, []), (50, .ireturn, 1, 0, 0, 1, 0, 0, [])]
noncomputable def am_s8 : am_S := (yX5_film, cX5_film, 3, (some .int), 1, 1, 3, 5, 1621, 1619, 1620, 513)
noncomputable def am_c8 : List (Nat × am_E) := [(0, .aload_n 0, 1, 0, 0, 0, 0, 0, []), (1, .iconst 1, 1, 0, 0, 0, 0, 1, []), (2, .iload_n 1, 1, 1, 0, 0, 0, 0, []), (3, .invokevirtual 139, 3, 40, 3, 4, 1614, 5, []), (6, .ifCond .ne 5, 3, 11, 0, 0, 0, 0, []), (9, .iconst (-1), 1, 0, 0, 0, 0, (-1), []),
  (10, .ireturn, 1, 0, 0, 1, 0, 0, []), (11, .iload_n 2, 1, 2, 0, 0, 0, 0, []), (12, .ifCond .ne 16, 3, 28, 0, 0, 0, 0, []), (15, .aload_n 0, 1, 0, 0, 0, 0, 0, []), (16, .getfield 71, 3, 5, 3, 3, 1110, 0, []), (19, .getfield 94, 3, 1, 0, 3, 1083, 0, []),
  (22, .getfield 147, 3, 2, 2, 3, 558, 0, []), (25, .iload_n 1, 1, 1, 0, 0, 0, 0, []), (26, .iaload, 1, 0, 0, 0, 0, 0, []), (27, .ireturn, 1, 0, 0, 1, 0, 0, []), (28, .iload_n 2, 1, 2, 0, 0, 0, 0, []), (29, .bipush 10, 2, 0, 0, 0, 0, 10, []),
  (31, .if_icmp .lt 35, 3, 66, 0, 0, 0, 0, []), (34, .aload_n 0, 1, 0, 0, 0, 0, 0, []), (35, .iconst 0, 1, 0, 0, 0, 0, 0, []), (36, .iload_n 2, 1, 2, 0, 0, 0, 0, []), (37, .bipush 10, 2, 0, 0, 0, 0, 10, []), (39, .isub, 1, 0, 0, 0, 0, 0, []),
  (40, .invokevirtual 139, 3, 40, 3, 4, 1614, 5, []), (43, .ifCond .eq 23, 3, 66, 0, 0, 0, 0, []), (46, .aload_n 0, 1, 0, 0, 0, 0, 0, []), (47, .getfield 71, 3, 5, 3, 3, 1110, 0, []), (50, .getfield 94, 3, 1, 0, 3, 1083, 0, []), (53, .getfield 150, 3, 2, 3, 3, 562, 0, []),
  (56, .iload_n 1, 1, 1, 0, 0, 0, 0, []), (57, .aaload, 1, 0, 0, 0, 0, 0, []), (58, .iload_n 2, 1, 2, 0, 0, 0, 0, []), (59, .bipush 10, 2, 0, 0, 0, 0, 10, []), (61, .isub, 1, 0, 0, 0, 0, 0, []), (62, .iaload, 1, 0, 0, 0, 0, 0, []),
  (63, .goto 4, 3, 67, 0, 0, 0, 0, []), (66, .iconst (-1), 1, 0, 0, 0, 0, (-1), []), (67, .ireturn, 1, 0, 0, 1, 0, 0, [])]
noncomputable def am_s9 : am_S := (yX5_person, cX5_person, 3, (some .int), 1, 1, 3, 5, 1625, 1623, 1624, 513)
noncomputable def am_c9 : List (Nat × am_E) := [(0, .aload_n 0, 1, 0, 0, 0, 0, 0, []), (1, .iconst 2, 1, 0, 0, 0, 0, 2, []), (2, .iload_n 1, 1, 1, 0, 0, 0, 0, []), (3, .invokevirtual 139, 3, 40, 3, 4, 1614, 5, []), (6, .ifCond .ne 5, 3, 11, 0, 0, 0, 0, []), (9, .iconst (-1), 1, 0, 0, 0, 0, (-1), []),
  (10, .ireturn, 1, 0, 0, 1, 0, 0, []), (11, .iload_n 2, 1, 2, 0, 0, 0, 0, []), (12, .tableswitch 86 0 3 #[32, 45, 58, 73], 32, 98, 0, 0, 0, 0, [(0, 44), (1, 57), (2, 70), (3, 85)]), (44, .aload_n 0, 1, 0, 0, 0, 0, 0, []), (45, .getfield 71, 3, 5, 3, 3, 1110, 0, []), (48, .getfield 94, 3, 1, 0, 3, 1083, 0, []),
  (51, .getfield 153, 3, 2, 4, 3, 565, 0, []), (54, .iload_n 1, 1, 1, 0, 0, 0, 0, []), (55, .iaload, 1, 0, 0, 0, 0, 0, []), (56, .ireturn, 1, 0, 0, 1, 0, 0, []), (57, .aload_n 0, 1, 0, 0, 0, 0, 0, []), (58, .getfield 71, 3, 5, 3, 3, 1110, 0, []),
  (61, .getfield 94, 3, 1, 0, 3, 1083, 0, []), (64, .getfield 156, 3, 2, 5, 3, 568, 0, []), (67, .iload_n 1, 1, 1, 0, 0, 0, 0, []), (68, .iaload, 1, 0, 0, 0, 0, 0, []), (69, .ireturn, 1, 0, 0, 1, 0, 0, []), (70, .aload_n 0, 1, 0, 0, 0, 0, 0, []),
  (71, .getfield 71, 3, 5, 3, 3, 1110, 0, []), (74, .getfield 99, 3, 1, 1, 3, 1085, 0, []), (77, .getfield 109, 3, 0, 1, 1, 1037, 0, []), (80, .iload_n 1, 1, 1, 0, 0, 0, 0, []), (81, .ishr, 1, 0, 0, 0, 0, 0, []), (82, .iconst 1, 1, 0, 0, 0, 0, 1, []),
  (83, .iand, 1, 0, 0, 0, 0, 0, []), (84, .ireturn, 1, 0, 0, 1, 0, 0, []), (85, .aload_n 0, 1, 0, 0, 0, 0, 0, []), (86, .getfield 71, 3, 5, 3, 3, 1110, 0, []), (89, .getfield 99, 3, 1, 1, 3, 1085, 0, []), (92, .getfield 159, 3, 0, 4, 3, 1046, 0, []),
  (95, .iload_n 1, 1, 1, 0, 0, 0, 0, []), (96, .iaload, 1, 0, 0, 0, 0, 0, []), (97, .ireturn, 1, 0, 0, 1, 0, 0, []), (98, .iload_n 2, 1, 2, 0, 0, 0, 0, []), (99, .bipush 10, 2, 0, 0, 0, 0, 10, []), (101, .if_icmp .lt 35, 3, 136, 0, 0, 0, 0, []),
  (104, .aload_n 0, 1, 0, 0, 0, 0, 0, []), (105, .iconst 0, 1, 0, 0, 0, 0, 0, []), (106, .iload_n 2, 1, 2, 0, 0, 0, 0, []), (107, .bipush 10, 2, 0, 0, 0, 0, 10, []), (109, .isub, 1, 0, 0, 0, 0, 0, []), (110, .invokevirtual 139, 3, 40, 3, 4, 1614, 5, []),
  (113, .ifCond .eq 23, 3, 136, 0, 0, 0, 0, []), (116, .aload_n 0, 1, 0, 0, 0, 0, 0, []), (117, .getfield 71, 3, 5, 3, 3, 1110, 0, []), (120, .getfield 94, 3, 1, 0, 3, 1083, 0, []), (123, .getfield 162, 3, 2, 6, 3, 571, 0, []), (126, .iload_n 1, 1, 1, 0, 0, 0, 0, []),
  (127, .aaload, 1, 0, 0, 0, 0, 0, []), (128, .iload_n 2, 1, 2, 0, 0, 0, 0, []), (129, .bipush 10, 2, 0, 0, 0, 0, 10, []), (131, .isub, 1, 0, 0, 0, 0, 0, []), (132, .iaload, 1, 0, 0, 0, 0, 0, []), (133, .goto 4, 3, 137, 0, 0, 0, 0, []),
  (136, .iconst (-1), 1, 0, 0, 0, 0, (-1), []), (137, .ireturn, 1, 0, 0, 1, 0, 0, [])]
noncomputable def am_s10 : am_S := (yX5_taste, cX5_taste, 3, (some .int), 1, 1, 3, 5, 1629, 1627, 1628, 513)
noncomputable def am_c10 : List (Nat × am_E) := [(0, .iload_n 1, 1, 1, 0, 0, 0, 0, []), (1, .iconst (-1), 1, 0, 0, 0, 0, (-1), []), (2, .if_icmp .eq 12, 3, 14, 0, 0, 0, 0, []), (5, .aload_n 0, 1, 0, 0, 0, 0, 0, []), (6, .iconst 2, 1, 0, 0, 0, 0, 2, []), (7, .iload_n 1, 1, 1, 0, 0, 0, 0, []),
  (8, .invokevirtual 139, 3, 40, 3, 4, 1614, 5, []), (11, .ifCond .eq 12, 3, 23, 0, 0, 0, 0, []), (14, .aload_n 0, 1, 0, 0, 0, 0, 0, []), (15, .iconst 0, 1, 0, 0, 0, 0, 0, []), (16, .iload_n 2, 1, 2, 0, 0, 0, 0, []), (17, .invokevirtual 139, 3, 40, 3, 4, 1614, 5, []),
  (20, .ifCond .ne 5, 3, 25, 0, 0, 0, 0, []), (23, .iconst (-1), 1, 0, 0, 0, 0, (-1), []), (24, .ireturn, 1, 0, 0, 1, 0, 0, []), (25, .aload_n 0, 1, 0, 0, 0, 0, 0, []), (26, .getfield 71, 3, 5, 3, 3, 1110, 0, []), (29, .getfield 99, 3, 1, 1, 3, 1085, 0, []),
  (32, .getfield 165, 3, 0, 2, 3, 1040, 0, []), (35, .iload_n 1, 1, 1, 0, 0, 0, 0, []), (36, .iconst 1, 1, 0, 0, 0, 0, 1, []), (37, .iadd, 1, 0, 0, 0, 0, 0, []), (38, .bipush 6, 2, 0, 0, 0, 0, 6, []), (40, .imul, 1, 0, 0, 0, 0, 0, []),
  (41, .iload_n 2, 1, 2, 0, 0, 0, 0, []), (42, .iadd, 1, 0, 0, 0, 0, 0, []), (43, .iaload, 1, 0, 0, 0, 0, 0, []), (44, .ireturn, 1, 0, 0, 1, 0, 0, [])]
noncomputable def am_s11 : am_S := (yX5_seen, cX5_seen, 3, (some .int), 1, 1, 3, 5, 1633, 1631, 1632, 513)
noncomputable def am_c11 : List (Nat × am_E) := [(0, .iload_n 1, 1, 1, 0, 0, 0, 0, []), (1, .iconst (-1), 1, 0, 0, 0, 0, (-1), []), (2, .if_icmp .eq 12, 3, 14, 0, 0, 0, 0, []), (5, .aload_n 0, 1, 0, 0, 0, 0, 0, []), (6, .iconst 2, 1, 0, 0, 0, 0, 2, []), (7, .iload_n 1, 1, 1, 0, 0, 0, 0, []),
  (8, .invokevirtual 139, 3, 40, 3, 4, 1614, 5, []), (11, .ifCond .eq 12, 3, 23, 0, 0, 0, 0, []), (14, .aload_n 0, 1, 0, 0, 0, 0, 0, []), (15, .iconst 1, 1, 0, 0, 0, 0, 1, []), (16, .iload_n 2, 1, 2, 0, 0, 0, 0, []), (17, .invokevirtual 139, 3, 40, 3, 4, 1614, 5, []),
  (20, .ifCond .ne 5, 3, 25, 0, 0, 0, 0, []), (23, .iconst (-1), 1, 0, 0, 0, 0, (-1), []), (24, .ireturn, 1, 0, 0, 1, 0, 0, []), (25, .aload_n 0, 1, 0, 0, 0, 0, 0, []), (26, .getfield 71, 3, 5, 3, 3, 1110, 0, []), (29, .getfield 99, 3, 1, 1, 3, 1085, 0, []),
  (32, .getfield 168, 3, 0, 3, 3, 1043, 0, []), (35, .iload_n 1, 1, 1, 0, 0, 0, 0, []), (36, .iconst 1, 1, 0, 0, 0, 0, 1, []), (37, .iadd, 1, 0, 0, 0, 0, 0, []), (38, .bipush 8, 2, 0, 0, 0, 0, 8, []), (40, .imul, 1, 0, 0, 0, 0, 0, []),
  (41, .iload_n 2, 1, 2, 0, 0, 0, 0, []), (42, .iadd, 1, 0, 0, 0, 0, 0, []), (43, .iaload, 1, 0, 0, 0, 0, 0, []), (44, .ireturn, 1, 0, 0, 1, 0, 0, [])]
noncomputable def am_s12 : am_S := (yX5_suggest, cX5_suggest, 2, (some .int), 1, 1, 2, 5, 1637, 1635, 1636, 513)
noncomputable def am_c12 : List (Nat × am_E) := [(0, .aload_n 0, 1, 0, 0, 0, 0, 0, []), (1, .iconst 2, 1, 0, 0, 0, 0, 2, []), (2, .iload_n 1, 1, 1, 0, 0, 0, 0, []), (3, .invokevirtual 139, 3, 40, 3, 4, 1614, 5, []), (6, .ifCond .eq 14, 3, 20, 0, 0, 0, 0, []), (9, .aload_n 0, 1, 0, 0, 0, 0, 0, []),
  (10, .getfield 71, 3, 5, 3, 3, 1110, 0, []), (13, .iload_n 1, 1, 1, 0, 0, 0, 0, []), (14, .invokevirtual 171, 3, 74, 2, 1, 1638, 1, []), (17, .goto 4, 3, 21, 0, 0, 0, 0, []), (20, .iconst (-1), 1, 0, 0, 0, 0, (-1), []), (21, .ireturn, 1, 0, 0, 1, 0, 0, [])]
noncomputable def am_s13 : am_S := (yX5_worth, cX5_worth, 3, (some .int), 1, 1, 3, 5, 1691, 1689, 1690, 513)
noncomputable def am_c13 : List (Nat × am_E) := [(0, .aload_n 0, 1, 0, 0, 0, 0, 0, []), (1, .iconst 2, 1, 0, 0, 0, 0, 2, []), (2, .iload_n 1, 1, 1, 0, 0, 0, 0, []), (3, .invokevirtual 139, 3, 40, 3, 4, 1614, 5, []), (6, .ifCond .eq 27, 3, 33, 0, 0, 0, 0, []), (9, .aload_n 0, 1, 0, 0, 0, 0, 0, []),
  (10, .iconst 1, 1, 0, 0, 0, 0, 1, []), (11, .iload_n 2, 1, 2, 0, 0, 0, 0, []), (12, .invokevirtual 139, 3, 40, 3, 4, 1614, 5, []), (15, .ifCond .eq 18, 3, 33, 0, 0, 0, 0, []), (18, .aload_n 0, 1, 0, 0, 0, 0, 0, []), (19, .getfield 71, 3, 5, 3, 3, 1110, 0, []),
  (22, .getfield 94, 3, 1, 0, 3, 1083, 0, []), (25, .iload_n 1, 1, 1, 0, 0, 0, 0, []), (26, .iload_n 2, 1, 2, 0, 0, 0, 0, []), (27, .invokevirtual 174, 3, 88, 3, 1, 1692, 2, []), (30, .goto 4, 3, 34, 0, 0, 0, 0, []), (33, .iconst (-1), 1, 0, 0, 0, 0, (-1), []),
  (34, .ireturn, 1, 0, 0, 1, 0, 0, [])]
noncomputable def am_s14 : am_S := (yX5_kept, cX5_kept, 5, (some .int), 1, 1, 3, 5, 1699, 1697, 1698, 513)
noncomputable def am_c14 : List (Nat × am_E) := [(0, .iload_n 1, 1, 1, 0, 0, 0, 0, []), (1, .ifCond .lt 17, 3, 18, 0, 0, 0, 0, []), (4, .iload_n 1, 1, 1, 0, 0, 0, 0, []), (5, .aload_n 0, 1, 0, 0, 0, 0, 0, []), (6, .getfield 71, 3, 5, 3, 3, 1110, 0, []), (9, .getfield 99, 3, 1, 1, 3, 1085, 0, []),
  (12, .invokevirtual 136, 3, 68, 1, 1, 1605, 0, []), (15, .if_icmp .lt 5, 3, 20, 0, 0, 0, 0, []), (18, .iconst (-1), 1, 0, 0, 0, 0, (-1), []), (19, .ireturn, 1, 0, 0, 1, 0, 0, []), (20, .aload_n 0, 1, 0, 0, 0, 0, 0, []), (21, .getfield 71, 3, 5, 3, 3, 1110, 0, []),
  (24, .getfield 99, 3, 1, 1, 3, 1085, 0, []), (27, .iload_n 1, 1, 1, 0, 0, 0, 0, []), (28, .invokevirtual 178, 3, 69, 2, 1, 1700, 0, []), (31, .istore_n 3, 1, 3, 0, 0, 0, 0, []), (32, .iload_n 3, 1, 3, 0, 0, 0, 0, []), (33, .sipush 128, 3, 0, 0, 0, 0, 128, []),
  (36, .idiv, 1, 0, 0, 0, 0, 0, []), (37, .istore 4, 2, 4, 0, 0, 0, 0, []), (39, .iload_n 2, 1, 2, 0, 0, 0, 0, []), (40, .tableswitch 57 0 3 #[32, 38, 44, 52], 32, 97, 0, 0, 0, 0, [(0, 72), (1, 78), (2, 84), (3, 92)]), (72, .iload 4, 2, 4, 0, 0, 0, 0, []), (74, .bipush 24, 2, 0, 0, 0, 0, 24, []),
  (76, .idiv, 1, 0, 0, 0, 0, 0, []), (77, .ireturn, 1, 0, 0, 1, 0, 0, []), (78, .iload 4, 2, 4, 0, 0, 0, 0, []), (80, .bipush 24, 2, 0, 0, 0, 0, 24, []), (82, .irem, 1, 0, 0, 0, 0, 0, []), (83, .ireturn, 1, 0, 0, 1, 0, 0, []),
  (84, .iload_n 3, 1, 3, 0, 0, 0, 0, []), (85, .bipush 8, 2, 0, 0, 0, 0, 8, []), (87, .idiv, 1, 0, 0, 0, 0, 0, []), (88, .bipush 16, 2, 0, 0, 0, 0, 16, []), (90, .irem, 1, 0, 0, 0, 0, 0, []), (91, .ireturn, 1, 0, 0, 1, 0, 0, []),
  (92, .iload_n 3, 1, 3, 0, 0, 0, 0, []), (93, .bipush 8, 2, 0, 0, 0, 0, 8, []), (95, .irem, 1, 0, 0, 0, 0, 0, []), (96, .ireturn, 1, 0, 0, 1, 0, 0, []), (97, .iconst (-1), 1, 0, 0, 0, 0, (-1), []), (98, .ireturn, 1, 0, 0, 1, 0, 0, [])]
noncomputable def am_s15 : am_S := (yX5_pleased, cX5_pleased, 3, (some .long), 1, 2, 3, 5, 1708, 1706, 1707, 513)
noncomputable def am_c15 : List (Nat × am_E) := [(0, .aload_n 0, 1, 0, 0, 0, 0, 0, []), (1, .iconst 2, 1, 0, 0, 0, 0, 2, []), (2, .iload_n 1, 1, 1, 0, 0, 0, 0, []), (3, .invokevirtual 139, 3, 40, 3, 4, 1614, 5, []), (6, .ifCond .eq 14, 3, 20, 0, 0, 0, 0, []), (9, .aload_n 0, 1, 0, 0, 0, 0, 0, []),
  (10, .iload_n 2, 1, 2, 0, 0, 0, 0, []), (11, .iconst 0, 1, 0, 0, 0, 0, 0, []), (12, .bipush 72, 2, 0, 0, 0, 0, 72, []), (14, .invokevirtual 181, 3, 41, 4, 4, 1709, 5, []), (17, .ifCond .ne 7, 3, 24, 0, 0, 0, 0, []), (20, .ldc2_w 185, 3, 0, 0, 0, 1713, (-1000000000000000), []),
  (23, .lreturn, 1, 0, 0, 2, 0, 0, []), (24, .aload_n 0, 1, 0, 0, 0, 0, 0, []), (25, .aload_n 0, 1, 0, 0, 0, 0, 0, []), (26, .getfield 71, 3, 5, 3, 3, 1110, 0, []), (29, .getfield 99, 3, 1, 1, 3, 1085, 0, []), (32, .getfield 109, 3, 0, 1, 1, 1037, 0, []),
  (35, .iload_n 2, 1, 2, 0, 0, 0, 0, []), (36, .invokevirtual 187, 3, 45, 3, 0, 1714, 5, []), (39, .aload_n 0, 1, 0, 0, 0, 0, 0, []), (40, .getfield 75, 3, 5, 4, 3, 1111, 0, []), (43, .getfield 191, 3, 1, 2, 3, 1087, 0, []), (46, .iload_n 1, 1, 1, 0, 0, 0, 0, []),
  (47, .iaload, 1, 0, 0, 0, 0, 0, []), (48, .i2l, 1, 0, 0, 0, 0, 0, []), (49, .lreturn, 1, 0, 0, 2, 0, 0, [])]
noncomputable def am_s16 : am_S := (yX5_refused, cX5_refused, 3, (some .int), 1, 1, 3, 5, 1764, 1762, 1763, 513)
noncomputable def am_c16 : List (Nat × am_E) := [(0, .aload_n 0, 1, 0, 0, 0, 0, 0, []), (1, .iconst 2, 1, 0, 0, 0, 0, 2, []), (2, .iload_n 1, 1, 1, 0, 0, 0, 0, []), (3, .invokevirtual 139, 3, 40, 3, 4, 1614, 5, []), (6, .ifCond .eq 14, 3, 20, 0, 0, 0, 0, []), (9, .aload_n 0, 1, 0, 0, 0, 0, 0, []),
  (10, .iload_n 2, 1, 2, 0, 0, 0, 0, []), (11, .iconst 0, 1, 0, 0, 0, 0, 0, []), (12, .bipush 72, 2, 0, 0, 0, 0, 72, []), (14, .invokevirtual 181, 3, 41, 4, 4, 1709, 5, []), (17, .ifCond .ne 5, 3, 22, 0, 0, 0, 0, []), (20, .iconst (-1), 1, 0, 0, 0, 0, (-1), []),
  (21, .ireturn, 1, 0, 0, 1, 0, 0, []), (22, .aload_n 0, 1, 0, 0, 0, 0, 0, []), (23, .aload_n 0, 1, 0, 0, 0, 0, 0, []), (24, .getfield 71, 3, 5, 3, 3, 1110, 0, []), (27, .getfield 99, 3, 1, 1, 3, 1085, 0, []), (30, .getfield 109, 3, 0, 1, 1, 1037, 0, []),
  (33, .iload_n 2, 1, 2, 0, 0, 0, 0, []), (34, .invokevirtual 187, 3, 45, 3, 0, 1714, 5, []), (37, .aload_n 0, 1, 0, 0, 0, 0, 0, []), (38, .getfield 75, 3, 5, 4, 3, 1111, 0, []), (41, .getfield 194, 3, 1, 3, 3, 1089, 0, []), (44, .iload_n 1, 1, 1, 0, 0, 0, 0, []),
  (45, .iaload, 1, 0, 0, 0, 0, 0, []), (46, .ireturn, 1, 0, 0, 1, 0, 0, [])]
noncomputable def am_s17 : am_S := (yX5_pressing, cX5_pressing, 6, (some .long), 1, 2, 3, 5, 1768, 1766, 1767, 513)
noncomputable def am_c17 : List (Nat × am_E) := [(0, .aload_n 0, 1, 0, 0, 0, 0, 0, []), (1, .iconst 2, 1, 0, 0, 0, 0, 2, []), (2, .iload_n 1, 1, 1, 0, 0, 0, 0, []), (3, .invokevirtual 139, 3, 40, 3, 4, 1614, 5, []), (6, .ifCond .eq 14, 3, 20, 0, 0, 0, 0, []), (9, .aload_n 0, 1, 0, 0, 0, 0, 0, []),
  (10, .iload_n 2, 1, 2, 0, 0, 0, 0, []), (11, .iconst 0, 1, 0, 0, 0, 0, 0, []), (12, .bipush 72, 2, 0, 0, 0, 0, 72, []), (14, .invokevirtual 181, 3, 41, 4, 4, 1709, 5, []), (17, .ifCond .ne 7, 3, 24, 0, 0, 0, 0, []), (20, .ldc2_w 185, 3, 0, 0, 0, 1713, (-1000000000000000), []),
  (23, .lreturn, 1, 0, 0, 2, 0, 0, []), (24, .iconst 1, 1, 0, 0, 0, 0, 1, []), (25, .iload_n 1, 1, 1, 0, 0, 0, 0, []), (26, .ishl, 1, 0, 0, 0, 0, 0, []), (27, .istore_n 3, 1, 3, 0, 0, 0, 0, []), (28, .aload_n 0, 1, 0, 0, 0, 0, 0, []),
  (29, .aload_n 0, 1, 0, 0, 0, 0, 0, []), (30, .getfield 71, 3, 5, 3, 3, 1110, 0, []), (33, .getfield 99, 3, 1, 1, 3, 1085, 0, []), (36, .getfield 109, 3, 0, 1, 1, 1037, 0, []), (39, .iload_n 3, 1, 3, 0, 0, 0, 0, []), (40, .ior, 1, 0, 0, 0, 0, 0, []),
  (41, .iload_n 2, 1, 2, 0, 0, 0, 0, []), (42, .invokevirtual 187, 3, 45, 3, 0, 1714, 5, []), (45, .aload_n 0, 1, 0, 0, 0, 0, 0, []), (46, .getfield 75, 3, 5, 4, 3, 1111, 0, []), (49, .getfield 191, 3, 1, 2, 3, 1087, 0, []), (52, .iload_n 1, 1, 1, 0, 0, 0, 0, []),
  (53, .iaload, 1, 0, 0, 0, 0, 0, []), (54, .i2l, 1, 0, 0, 0, 0, 0, []), (55, .lstore 4, 2, 4, 0, 0, 0, 0, []), (57, .aload_n 0, 1, 0, 0, 0, 0, 0, []), (58, .aload_n 0, 1, 0, 0, 0, 0, 0, []), (59, .getfield 71, 3, 5, 3, 3, 1110, 0, []),
  (62, .getfield 99, 3, 1, 1, 3, 1085, 0, []), (65, .getfield 109, 3, 0, 1, 1, 1037, 0, []), (68, .iload_n 3, 1, 3, 0, 0, 0, 0, []), (69, .iconst (-1), 1, 0, 0, 0, 0, (-1), []), (70, .ixor, 1, 0, 0, 0, 0, 0, []), (71, .iand, 1, 0, 0, 0, 0, 0, []),
  (72, .iload_n 2, 1, 2, 0, 0, 0, 0, []), (73, .invokevirtual 187, 3, 45, 3, 0, 1714, 5, []), (76, .lload 4, 2, 4, 0, 0, 0, 0, []), (78, .aload_n 0, 1, 0, 0, 0, 0, 0, []), (79, .getfield 75, 3, 5, 4, 3, 1111, 0, []), (82, .getfield 191, 3, 1, 2, 3, 1087, 0, []),
  (85, .iload_n 1, 1, 1, 0, 0, 0, 0, []), (86, .iaload, 1, 0, 0, 0, 0, 0, []), (87, .i2l, 1, 0, 0, 0, 0, 0, []), (88, .lsub, 1, 0, 0, 0, 0, 0, []), (89, .lreturn, 1, 0, 0, 2, 0, 0, [])]
noncomputable def am_s18 : am_S := (yX5_rest, cX5_rest, 7, (some .int), 1, 1, 2, 5, 1772, 1770, 1771, 513)
noncomputable def am_c18 : List (Nat × am_E) := [(0, .aload_n 0, 1, 0, 0, 0, 0, 0, []), (1, .iload_n 1, 1, 1, 0, 0, 0, 0, []), (2, .iconst 0, 1, 0, 0, 0, 0, 0, []), (3, .bipush 48, 2, 0, 0, 0, 0, 48, []), (5, .invokevirtual 181, 3, 41, 4, 4, 1709, 5, []), (8, .ifCond .ne 5, 3, 13, 0, 0, 0, 0, []),
  (11, .iconst (-1), 1, 0, 0, 0, 0, (-1), []), (12, .ireturn, 1, 0, 0, 1, 0, 0, []), (13, .aload_n 0, 1, 0, 0, 0, 0, 0, []), (14, .getfield 71, 3, 5, 3, 3, 1110, 0, []), (17, .getfield 94, 3, 1, 0, 3, 1083, 0, []), (20, .getfield 119, 3, 2, 0, 3, 551, 0, []),
  (23, .iconst 2, 1, 0, 0, 0, 0, 2, []), (24, .iaload, 1, 0, 0, 0, 0, 0, []), (25, .istore_n 2, 1, 2, 0, 0, 0, 0, []), (26, .iconst 1, 1, 0, 0, 0, 0, 1, []), (27, .iload_n 2, 1, 2, 0, 0, 0, 0, []), (28, .ishl, 1, 0, 0, 0, 0, 0, []),
  (29, .istore_n 3, 1, 3, 0, 0, 0, 0, []), (30, .iconst 0, 1, 0, 0, 0, 0, 0, []), (31, .istore 4, 2, 4, 0, 0, 0, 0, []), (33, .iload 4, 2, 4, 0, 0, 0, 0, []), (35, .iload_n 3, 1, 3, 0, 0, 0, 0, []), (36, .if_icmp .ge 36, 3, 72, 0, 0, 0, 0, []),
  (39, .aload_n 0, 1, 0, 0, 0, 0, 0, []), (40, .iload 4, 2, 4, 0, 0, 0, 0, []), (42, .iload_n 1, 1, 1, 0, 0, 0, 0, []), (43, .invokevirtual 187, 3, 45, 3, 0, 1714, 5, []), (46, .aload_n 0, 1, 0, 0, 0, 0, 0, []), (47, .getfield 75, 3, 5, 4, 3, 1111, 0, []),
  (50, .getfield 191, 3, 1, 2, 3, 1087, 0, []), (53, .iconst 0, 1, 0, 0, 0, 0, 0, []), (54, .aload_n 0, 1, 0, 0, 0, 0, 0, []), (55, .getfield 51, 3, 5, 12, 3, 1119, 0, []), (58, .iload 4, 2, 4, 0, 0, 0, 0, []), (60, .iconst 5, 1, 0, 0, 0, 0, 5, []),
  (61, .imul, 1, 0, 0, 0, 0, 0, []), (62, .iconst 5, 1, 0, 0, 0, 0, 5, []), (63, .invokestatic 197, 3, 0, 5, 8, 1773, 0, []), (66, .iinc 4 1, 3, 4, 0, 0, 0, 1, []), (69, .goto (-36), 3, 33, 0, 0, 0, 0, []), (72, .iconst (-1), 1, 0, 0, 0, 0, (-1), []),
  (73, .istore 4, 2, 4, 0, 0, 0, 0, []), (75, .iconst 0, 1, 0, 0, 0, 0, 0, []), (76, .istore 5, 2, 5, 0, 0, 0, 0, []), (78, .iload 5, 2, 5, 0, 0, 0, 0, []), (80, .iload_n 3, 1, 3, 0, 0, 0, 0, []), (81, .if_icmp .ge 54, 3, 135, 0, 0, 0, 0, []),
  (84, .iload 4, 2, 4, 0, 0, 0, 0, []), (86, .iconst (-1), 1, 0, 0, 0, 0, (-1), []), (87, .if_icmp .eq 16, 3, 103, 0, 0, 0, 0, []), (90, .iload 5, 2, 5, 0, 0, 0, 0, []), (92, .invokestatic 128, 3, 272, 1, 1, 1595, 0, []), (95, .iload 4, 2, 4, 0, 0, 0, 0, []),
  (97, .invokestatic 128, 3, 272, 1, 1, 1595, 0, []), (100, .if_icmp .ge 7, 3, 107, 0, 0, 0, 0, []), (103, .iconst 1, 1, 0, 0, 0, 0, 1, []), (104, .goto 4, 3, 108, 0, 0, 0, 0, []), (107, .iconst 0, 1, 0, 0, 0, 0, 0, []), (108, .istore 6, 2, 6, 0, 0, 0, 0, []),
  (110, .iload 6, 2, 6, 0, 0, 0, 0, []), (112, .ifCond .eq 17, 3, 129, 0, 0, 0, 0, []), (115, .aload_n 0, 1, 0, 0, 0, 0, 0, []), (116, .iload 5, 2, 5, 0, 0, 0, 0, []), (118, .iload_n 2, 1, 2, 0, 0, 0, 0, []), (119, .invokevirtual 203, 3, 46, 3, 4, 1774, 5, []),
  (122, .ifCond .eq 7, 3, 129, 0, 0, 0, 0, []), (125, .iload 5, 2, 5, 0, 0, 0, 0, []), (127, .istore 4, 2, 4, 0, 0, 0, 0, []), (129, .iinc 5 1, 3, 5, 0, 0, 0, 1, []), (132, .goto (-54), 3, 78, 0, 0, 0, 0, []), (135, .iload 4, 2, 4, 0, 0, 0, 0, []),
  (137, .ireturn, 1, 0, 0, 1, 0, 0, [])]
noncomputable def am_s19 : am_S := (yX5_gone, cX5_gone, 6, (some .int), 1, 1, 3, 5, 2053, 2051, 2052, 513)
noncomputable def am_c19 : List (Nat × am_E) := [(0, .aload_n 0, 1, 0, 0, 0, 0, 0, []), (1, .iconst 2, 1, 0, 0, 0, 0, 2, []), (2, .iload_n 1, 1, 1, 0, 0, 0, 0, []), (3, .invokevirtual 139, 3, 40, 3, 4, 1614, 5, []), (6, .ifCond .eq 12, 3, 18, 0, 0, 0, 0, []), (9, .aload_n 0, 1, 0, 0, 0, 0, 0, []),
  (10, .iconst 0, 1, 0, 0, 0, 0, 0, []), (11, .iload_n 2, 1, 2, 0, 0, 0, 0, []), (12, .invokevirtual 139, 3, 40, 3, 4, 1614, 5, []), (15, .ifCond .ne 5, 3, 20, 0, 0, 0, 0, []), (18, .iconst (-1), 1, 0, 0, 0, 0, (-1), []), (19, .ireturn, 1, 0, 0, 1, 0, 0, []),
  (20, .aload_n 0, 1, 0, 0, 0, 0, 0, []), (21, .aload_n 0, 1, 0, 0, 0, 0, 0, []), (22, .getfield 71, 3, 5, 3, 3, 1110, 0, []), (25, .getfield 99, 3, 1, 1, 3, 1085, 0, []), (28, .getfield 109, 3, 0, 1, 1, 1037, 0, []), (31, .iconst 0, 1, 0, 0, 0, 0, 0, []),
  (32, .invokevirtual 187, 3, 45, 3, 0, 1714, 5, []), (35, .aload_n 0, 1, 0, 0, 0, 0, 0, []), (36, .getfield 75, 3, 5, 4, 3, 1111, 0, []), (39, .getfield 99, 3, 1, 1, 3, 1085, 0, []), (42, .iload_n 1, 1, 1, 0, 0, 0, 0, []), (43, .invokevirtual 206, 3, 67, 2, 1, 2054, 0, []),
  (46, .bipush 6, 2, 0, 0, 0, 0, 6, []), (48, .imul, 1, 0, 0, 0, 0, 0, []), (49, .iload_n 2, 1, 2, 0, 0, 0, 0, []), (50, .iadd, 1, 0, 0, 0, 0, 0, []), (51, .istore_n 3, 1, 3, 0, 0, 0, 0, []), (52, .bipush 72, 2, 0, 0, 0, 0, 72, []),
  (54, .sipush 23999, 3, 0, 0, 0, 0, 23999, []), (57, .aload_n 0, 1, 0, 0, 0, 0, 0, []), (58, .getfield 71, 3, 5, 3, 3, 1110, 0, []), (61, .getfield 99, 3, 1, 1, 3, 1085, 0, []), (64, .getfield 125, 3, 0, 0, 1, 1034, 0, []), (67, .isub, 1, 0, 0, 0, 0, 0, []),
  (68, .invokestatic 209, 3, 276, 2, 1, 2055, 0, []), (71, .istore 4, 2, 4, 0, 0, 0, 0, []), (73, .iconst 0, 1, 0, 0, 0, 0, 0, []), (74, .istore 5, 2, 5, 0, 0, 0, 0, []), (76, .iload 5, 2, 5, 0, 0, 0, 0, []), (78, .iload 4, 2, 4, 0, 0, 0, 0, []),
  (80, .if_icmp .gt 42, 3, 122, 0, 0, 0, 0, []), (83, .aload_n 0, 1, 0, 0, 0, 0, 0, []), (84, .getfield 75, 3, 5, 4, 3, 1111, 0, []), (87, .getfield 99, 3, 1, 1, 3, 1085, 0, []), (90, .getfield 165, 3, 0, 2, 3, 1040, 0, []), (93, .iload_n 3, 1, 3, 0, 0, 0, 0, []),
  (94, .iaload, 1, 0, 0, 0, 0, 0, []), (95, .ifCond .ne 6, 3, 101, 0, 0, 0, 0, []), (98, .iload 5, 2, 5, 0, 0, 0, 0, []), (100, .ireturn, 1, 0, 0, 1, 0, 0, []), (101, .iload 5, 2, 5, 0, 0, 0, 0, []), (103, .iload 4, 2, 4, 0, 0, 0, 0, []),
  (105, .if_icmp .ge 11, 3, 116, 0, 0, 0, 0, []), (108, .aload_n 0, 1, 0, 0, 0, 0, 0, []), (109, .getfield 75, 3, 5, 4, 3, 1111, 0, []), (112, .invokevirtual 214, 3, 73, 1, 1, 1729, 1, []), (115, .pop, 1, 0, 0, 0, 0, 0, []), (116, .iinc 5 1, 3, 5, 0, 0, 0, 1, []),
  (119, .goto (-43), 3, 76, 0, 0, 0, 0, []), (122, .iconst (-1), 1, 0, 0, 0, 0, (-1), []), (123, .ireturn, 1, 0, 0, 1, 0, 0, [])]
noncomputable def am_s20 : am_S := (yX5_sow, cX5_sow, 7, (some .int), 1, 1, 3, 5, 2059, 2057, 2058, 513)
noncomputable def am_c20 : List (Nat × am_E) := [(0, .aload_n 0, 1, 0, 0, 0, 0, 0, []), (1, .iconst 2, 1, 0, 0, 0, 0, 2, []), (2, .iload_n 1, 1, 1, 0, 0, 0, 0, []), (3, .invokevirtual 139, 3, 40, 3, 4, 1614, 5, []), (6, .ifCond .eq 14, 3, 20, 0, 0, 0, 0, []), (9, .aload_n 0, 1, 0, 0, 0, 0, 0, []),
  (10, .iload_n 2, 1, 2, 0, 0, 0, 0, []), (11, .iconst 0, 1, 0, 0, 0, 0, 0, []), (12, .bipush 72, 2, 0, 0, 0, 0, 72, []), (14, .invokevirtual 181, 3, 41, 4, 4, 1709, 5, []), (17, .ifCond .ne 5, 3, 22, 0, 0, 0, 0, []), (20, .iconst (-1), 1, 0, 0, 0, 0, (-1), []),
  (21, .ireturn, 1, 0, 0, 1, 0, 0, []), (22, .iconst (-1), 1, 0, 0, 0, 0, (-1), []), (23, .istore_n 3, 1, 3, 0, 0, 0, 0, []), (24, .iconst 0, 1, 0, 0, 0, 0, 0, []), (25, .istore 4, 2, 4, 0, 0, 0, 0, []), (27, .iconst 0, 1, 0, 0, 0, 0, 0, []),
  (28, .istore 5, 2, 5, 0, 0, 0, 0, []), (30, .iload 5, 2, 5, 0, 0, 0, 0, []), (32, .aload_n 0, 1, 0, 0, 0, 0, 0, []), (33, .getfield 71, 3, 5, 3, 3, 1110, 0, []), (36, .getfield 94, 3, 1, 0, 3, 1083, 0, []), (39, .getfield 119, 3, 2, 0, 3, 551, 0, []),
  (42, .iconst 1, 1, 0, 0, 0, 0, 1, []), (43, .iaload, 1, 0, 0, 0, 0, 0, []), (44, .if_icmp .ge 117, 3, 161, 0, 0, 0, 0, []), (47, .aload_n 0, 1, 0, 0, 0, 0, 0, []), (48, .getfield 71, 3, 5, 3, 3, 1110, 0, []), (51, .iload_n 1, 1, 1, 0, 0, 0, 0, []),
  (52, .iload 5, 2, 5, 0, 0, 0, 0, []), (54, .invokevirtual 217, 3, 75, 3, 4, 2060, 1, []), (57, .ifCond .ne 6, 3, 63, 0, 0, 0, 0, []), (60, .goto 95, 3, 155, 0, 0, 0, 0, []), (63, .aload_n 0, 1, 0, 0, 0, 0, 0, []), (64, .aload_n 0, 1, 0, 0, 0, 0, 0, []),
  (65, .getfield 71, 3, 5, 3, 3, 1110, 0, []), (68, .getfield 99, 3, 1, 1, 3, 1085, 0, []), (71, .getfield 109, 3, 0, 1, 1, 1037, 0, []), (74, .iconst 0, 1, 0, 0, 0, 0, 0, []), (75, .invokevirtual 187, 3, 45, 3, 0, 1714, 5, []), (78, .aload_n 0, 1, 0, 0, 0, 0, 0, []),
  (79, .getfield 75, 3, 5, 4, 3, 1111, 0, []), (82, .iload_n 1, 1, 1, 0, 0, 0, 0, []), (83, .iload 5, 2, 5, 0, 0, 0, 0, []), (85, .invokevirtual 220, 3, 76, 3, 1, 2064, 1, []), (88, .pop, 1, 0, 0, 0, 0, 0, []), (89, .aload_n 0, 1, 0, 0, 0, 0, 0, []),
  (90, .getfield 75, 3, 5, 4, 3, 1111, 0, []), (93, .getfield 191, 3, 1, 2, 3, 1087, 0, []), (96, .iload_n 1, 1, 1, 0, 0, 0, 0, []), (97, .iconst 0, 1, 0, 0, 0, 0, 0, []), (98, .iastore, 1, 0, 0, 0, 0, 0, []), (99, .iconst 0, 1, 0, 0, 0, 0, 0, []),
  (100, .istore 6, 2, 6, 0, 0, 0, 0, []), (102, .iload 6, 2, 6, 0, 0, 0, 0, []), (104, .iload_n 2, 1, 2, 0, 0, 0, 0, []), (105, .if_icmp .ge 17, 3, 122, 0, 0, 0, 0, []), (108, .aload_n 0, 1, 0, 0, 0, 0, 0, []), (109, .getfield 75, 3, 5, 4, 3, 1111, 0, []),
  (112, .invokevirtual 214, 3, 73, 1, 1, 1729, 1, []), (115, .pop, 1, 0, 0, 0, 0, 0, []), (116, .iinc 6 1, 3, 6, 0, 0, 0, 1, []), (119, .goto (-17), 3, 102, 0, 0, 0, 0, []), (122, .iload_n 3, 1, 3, 0, 0, 0, 0, []), (123, .iconst (-1), 1, 0, 0, 0, 0, (-1), []),
  (124, .if_icmp .eq 17, 3, 141, 0, 0, 0, 0, []), (127, .aload_n 0, 1, 0, 0, 0, 0, 0, []), (128, .getfield 75, 3, 5, 4, 3, 1111, 0, []), (131, .getfield 191, 3, 1, 2, 3, 1087, 0, []), (134, .iload_n 1, 1, 1, 0, 0, 0, 0, []), (135, .iaload, 1, 0, 0, 0, 0, 0, []),
  (136, .iload 4, 2, 4, 0, 0, 0, 0, []), (138, .if_icmp .le 17, 3, 155, 0, 0, 0, 0, []), (141, .iload 5, 2, 5, 0, 0, 0, 0, []), (143, .istore_n 3, 1, 3, 0, 0, 0, 0, []), (144, .aload_n 0, 1, 0, 0, 0, 0, 0, []), (145, .getfield 75, 3, 5, 4, 3, 1111, 0, []),
  (148, .getfield 191, 3, 1, 2, 3, 1087, 0, []), (151, .iload_n 1, 1, 1, 0, 0, 0, 0, []), (152, .iaload, 1, 0, 0, 0, 0, 0, []), (153, .istore 4, 2, 4, 0, 0, 0, 0, []), (155, .iinc 5 1, 3, 5, 0, 0, 0, 1, []), (158, .goto (-128), 3, 30, 0, 0, 0, 0, []),
  (161, .iload_n 3, 1, 3, 0, 0, 0, 0, []), (162, .ireturn, 1, 0, 0, 1, 0, 0, [])]
noncomputable def am_s21 : am_S := (yX5_who, cX5_who, 10, (some .int), 1, 1, 4, 5, 2068, 2066, 2067, 513)
noncomputable def am_c21 : List (Nat × am_E) := [(0, .aload_n 0, 1, 0, 0, 0, 0, 0, []), (1, .iconst 2, 1, 0, 0, 0, 0, 2, []), (2, .iload_n 1, 1, 1, 0, 0, 0, 0, []), (3, .invokevirtual 139, 3, 40, 3, 4, 1614, 5, []), (6, .ifCond .eq 22, 3, 28, 0, 0, 0, 0, []), (9, .aload_n 0, 1, 0, 0, 0, 0, 0, []),
  (10, .iconst 1, 1, 0, 0, 0, 0, 1, []), (11, .iload_n 2, 1, 2, 0, 0, 0, 0, []), (12, .invokevirtual 139, 3, 40, 3, 4, 1614, 5, []), (15, .ifCond .eq 13, 3, 28, 0, 0, 0, 0, []), (18, .iload_n 3, 1, 3, 0, 0, 0, 0, []), (19, .ifCond .lt 9, 3, 28, 0, 0, 0, 0, []),
  (22, .iload_n 3, 1, 3, 0, 0, 0, 0, []), (23, .bipush 24, 2, 0, 0, 0, 0, 24, []), (25, .if_icmp .lt 5, 3, 30, 0, 0, 0, 0, []), (28, .iconst (-1), 1, 0, 0, 0, 0, (-1), []), (29, .ireturn, 1, 0, 0, 1, 0, 0, []), (30, .lconst 0, 1, 0, 0, 0, 0, 0, []),
  (31, .lstore 4, 2, 4, 0, 0, 0, 0, []), (33, .lconst 0, 1, 0, 0, 0, 0, 0, []), (34, .lstore 6, 2, 6, 0, 0, 0, 0, []), (36, .iconst 0, 1, 0, 0, 0, 0, 0, []), (37, .istore 8, 2, 8, 0, 0, 0, 0, []), (39, .iload 8, 2, 8, 0, 0, 0, 0, []),
  (41, .aload_n 0, 1, 0, 0, 0, 0, 0, []), (42, .getfield 71, 3, 5, 3, 3, 1110, 0, []), (45, .getfield 94, 3, 1, 0, 3, 1083, 0, []), (48, .getfield 119, 3, 2, 0, 3, 551, 0, []), (51, .iconst 2, 1, 0, 0, 0, 0, 2, []), (52, .iaload, 1, 0, 0, 0, 0, 0, []),
  (53, .if_icmp .ge 68, 3, 121, 0, 0, 0, 0, []), (56, .aload_n 0, 1, 0, 0, 0, 0, 0, []), (57, .getfield 71, 3, 5, 3, 3, 1110, 0, []), (60, .getfield 94, 3, 1, 0, 3, 1083, 0, []), (63, .iload 8, 2, 8, 0, 0, 0, 0, []), (65, .iload_n 3, 1, 3, 0, 0, 0, 0, []),
  (66, .invokevirtual 223, 3, 87, 3, 4, 2069, 2, []), (69, .ifCond .eq 46, 3, 115, 0, 0, 0, 0, []), (72, .aload_n 0, 1, 0, 0, 0, 0, 0, []), (73, .getfield 71, 3, 5, 3, 3, 1110, 0, []), (76, .getfield 94, 3, 1, 0, 3, 1083, 0, []), (79, .iload 8, 2, 8, 0, 0, 0, 0, []),
  (81, .iload_n 2, 1, 2, 0, 0, 0, 0, []), (82, .invokevirtual 174, 3, 88, 3, 1, 1692, 2, []), (85, .iconst 1, 1, 0, 0, 0, 0, 1, []), (86, .iadd, 1, 0, 0, 0, 0, 0, []), (87, .istore 9, 2, 9, 0, 0, 0, 0, []), (89, .lload 4, 2, 4, 0, 0, 0, 0, []),
  (91, .iload 9, 2, 9, 0, 0, 0, 0, []), (93, .i2l, 1, 0, 0, 0, 0, 0, []), (94, .ladd, 1, 0, 0, 0, 0, 0, []), (95, .lstore 4, 2, 4, 0, 0, 0, 0, []), (97, .lload 6, 2, 6, 0, 0, 0, 0, []), (99, .iload 8, 2, 8, 0, 0, 0, 0, []),
  (101, .iload_n 1, 1, 1, 0, 0, 0, 0, []), (102, .if_icmp .ne 9, 3, 111, 0, 0, 0, 0, []), (105, .iload 9, 2, 9, 0, 0, 0, 0, []), (107, .i2l, 1, 0, 0, 0, 0, 0, []), (108, .goto 4, 3, 112, 0, 0, 0, 0, []), (111, .lconst 0, 1, 0, 0, 0, 0, 0, []),
  (112, .ladd, 1, 0, 0, 0, 0, 0, []), (113, .lstore 6, 2, 6, 0, 0, 0, 0, []), (115, .iinc 8 1, 3, 8, 0, 0, 0, 1, []), (118, .goto (-79), 3, 39, 0, 0, 0, 0, []), (121, .lload 4, 2, 4, 0, 0, 0, 0, []), (123, .lconst 0, 1, 0, 0, 0, 0, 0, []),
  (124, .lcmp, 1, 0, 0, 0, 0, 0, []), (125, .ifCond .ne 7, 3, 132, 0, 0, 0, 0, []), (128, .iconst (-1), 1, 0, 0, 0, 0, (-1), []), (129, .goto 13, 3, 142, 0, 0, 0, 0, []), (132, .lload 6, 2, 6, 0, 0, 0, 0, []), (134, .ldc2_w 226, 3, 0, 0, 0, 2070, 1000000, []),
  (137, .lmul, 1, 0, 0, 0, 0, 0, []), (138, .lload 4, 2, 4, 0, 0, 0, 0, []), (140, .ldiv, 1, 0, 0, 0, 0, 0, []), (141, .l2i, 1, 0, 0, 0, 0, 0, []), (142, .ireturn, 1, 0, 0, 1, 0, 0, [])]
noncomputable def am_s22 : am_S := (yX5_sofa, cX5_sofa, 7, (some .int), 1, 1, 3, 5, 2074, 2072, 2073, 513)
noncomputable def am_c22 : List (Nat × am_E) := [(0, .iload_n 1, 1, 1, 0, 0, 0, 0, []), (1, .iconst 1, 1, 0, 0, 0, 0, 1, []), (2, .if_icmp .lt 30, 3, 32, 0, 0, 0, 0, []), (5, .iload_n 1, 1, 1, 0, 0, 0, 0, []), (6, .iconst 1, 1, 0, 0, 0, 0, 1, []), (7, .aload_n 0, 1, 0, 0, 0, 0, 0, []),
  (8, .getfield 71, 3, 5, 3, 3, 1110, 0, []), (11, .getfield 94, 3, 1, 0, 3, 1083, 0, []), (14, .getfield 119, 3, 2, 0, 3, 551, 0, []), (17, .iconst 2, 1, 0, 0, 0, 0, 2, []), (18, .iaload, 1, 0, 0, 0, 0, 0, []), (19, .ishl, 1, 0, 0, 0, 0, 0, []),
  (20, .if_icmp .ge 12, 3, 32, 0, 0, 0, 0, []), (23, .iload_n 2, 1, 2, 0, 0, 0, 0, []), (24, .ifCond .lt 8, 3, 32, 0, 0, 0, 0, []), (27, .iload_n 2, 1, 2, 0, 0, 0, 0, []), (28, .iconst 2, 1, 0, 0, 0, 0, 2, []), (29, .if_icmp .le 5, 3, 34, 0, 0, 0, 0, []),
  (32, .iconst (-1), 1, 0, 0, 0, 0, (-1), []), (33, .ireturn, 1, 0, 0, 1, 0, 0, []), (34, .iload_n 2, 1, 2, 0, 0, 0, 0, []), (35, .iconst 2, 1, 0, 0, 0, 0, 2, []), (36, .if_icmp .ne 8, 3, 44, 0, 0, 0, 0, []), (39, .aload_n 0, 1, 0, 0, 0, 0, 0, []),
  (40, .iload_n 1, 1, 1, 0, 0, 0, 0, []), (41, .invokevirtual 228, 3, 48, 2, 0, 2075, 5, []), (44, .iconst (-1), 1, 0, 0, 0, 0, (-1), []), (45, .istore_n 3, 1, 3, 0, 0, 0, 0, []), (46, .iconst 0, 1, 0, 0, 0, 0, 0, []), (47, .istore 4, 2, 4, 0, 0, 0, 0, []),
  (49, .iconst 0, 1, 0, 0, 0, 0, 0, []), (50, .istore 5, 2, 5, 0, 0, 0, 0, []), (52, .iload 5, 2, 5, 0, 0, 0, 0, []), (54, .aload_n 0, 1, 0, 0, 0, 0, 0, []), (55, .getfield 71, 3, 5, 3, 3, 1110, 0, []), (58, .getfield 94, 3, 1, 0, 3, 1083, 0, []),
  (61, .getfield 119, 3, 2, 0, 3, 551, 0, []), (64, .iconst 1, 1, 0, 0, 0, 0, 1, []), (65, .iaload, 1, 0, 0, 0, 0, 0, []), (66, .if_icmp .ge 62, 3, 128, 0, 0, 0, 0, []), (69, .iload_n 2, 1, 2, 0, 0, 0, 0, []), (70, .iconst 2, 1, 0, 0, 0, 0, 2, []),
  (71, .if_icmp .ne 13, 3, 84, 0, 0, 0, 0, []), (74, .aload_n 0, 1, 0, 0, 0, 0, 0, []), (75, .getfield 54, 3, 5, 13, 3, 1120, 0, []), (78, .iload 5, 2, 5, 0, 0, 0, 0, []), (80, .iaload, 1, 0, 0, 0, 0, 0, []), (81, .goto 20, 3, 101, 0, 0, 0, 0, []),
  (84, .aload_n 0, 1, 0, 0, 0, 0, 0, []), (85, .iload_n 1, 1, 1, 0, 0, 0, 0, []), (86, .iload 5, 2, 5, 0, 0, 0, 0, []), (88, .iload_n 2, 1, 2, 0, 0, 0, 0, []), (89, .iconst 1, 1, 0, 0, 0, 0, 1, []), (90, .if_icmp .ne 7, 3, 97, 0, 0, 0, 0, []),
  (93, .iconst 1, 1, 0, 0, 0, 0, 1, []), (94, .goto 4, 3, 98, 0, 0, 0, 0, []), (97, .iconst 0, 1, 0, 0, 0, 0, 0, []), (98, .invokevirtual 231, 3, 47, 4, 1, 2084, 5, []), (101, .istore 6, 2, 6, 0, 0, 0, 0, []), (103, .iload_n 3, 1, 3, 0, 0, 0, 0, []),
  (104, .iconst (-1), 1, 0, 0, 0, 0, (-1), []), (105, .if_icmp .eq 10, 3, 115, 0, 0, 0, 0, []), (108, .iload 6, 2, 6, 0, 0, 0, 0, []), (110, .iload 4, 2, 4, 0, 0, 0, 0, []), (112, .if_icmp .le 10, 3, 122, 0, 0, 0, 0, []), (115, .iload 5, 2, 5, 0, 0, 0, 0, []),
  (117, .istore_n 3, 1, 3, 0, 0, 0, 0, []), (118, .iload 6, 2, 6, 0, 0, 0, 0, []), (120, .istore 4, 2, 4, 0, 0, 0, 0, []), (122, .iinc 5 1, 3, 5, 0, 0, 0, 1, []), (125, .goto (-73), 3, 52, 0, 0, 0, 0, []), (128, .iload_n 3, 1, 3, 0, 0, 0, 0, []),
  (129, .ireturn, 1, 0, 0, 1, 0, 0, [])]
noncomputable def am_s23 : am_S := (yX5_share, cX5_share, 7, (some .int), 1, 1, 2, 5, 2091, 2089, 2090, 513)
noncomputable def am_c23 : List (Nat × am_E) := [(0, .aload_n 0, 1, 0, 0, 0, 0, 0, []), (1, .invokevirtual 133, 3, 42, 1, 1, 1601, 5, []), (4, .istore_n 2, 1, 2, 0, 0, 0, 0, []), (5, .aload_n 0, 1, 0, 0, 0, 0, 0, []), (6, .iconst 2, 1, 0, 0, 0, 0, 2, []), (7, .iload_n 1, 1, 1, 0, 0, 0, 0, []),
  (8, .invokevirtual 139, 3, 40, 3, 4, 1614, 5, []), (11, .ifCond .eq 7, 3, 18, 0, 0, 0, 0, []), (14, .iload_n 2, 1, 2, 0, 0, 0, 0, []), (15, .ifCond .ne 5, 3, 20, 0, 0, 0, 0, []), (18, .iconst (-1), 1, 0, 0, 0, 0, (-1), []), (19, .ireturn, 1, 0, 0, 1, 0, 0, []),
  (20, .aload_n 0, 1, 0, 0, 0, 0, 0, []), (21, .getfield 71, 3, 5, 3, 3, 1110, 0, []), (24, .getfield 94, 3, 1, 0, 3, 1083, 0, []), (27, .getfield 235, 3, 2, 9, 1, 582, 0, []), (30, .istore_n 3, 1, 3, 0, 0, 0, 0, []), (31, .iload_n 3, 1, 3, 0, 0, 0, 0, []),
  (32, .istore 4, 2, 4, 0, 0, 0, 0, []), (34, .iconst 0, 1, 0, 0, 0, 0, 0, []), (35, .istore 5, 2, 5, 0, 0, 0, 0, []), (37, .iconst 0, 1, 0, 0, 0, 0, 0, []), (38, .istore 6, 2, 6, 0, 0, 0, 0, []), (40, .iload 6, 2, 6, 0, 0, 0, 0, []),
  (42, .aload_n 0, 1, 0, 0, 0, 0, 0, []), (43, .getfield 71, 3, 5, 3, 3, 1110, 0, []), (46, .getfield 94, 3, 1, 0, 3, 1083, 0, []), (49, .getfield 119, 3, 2, 0, 3, 551, 0, []), (52, .iconst 2, 1, 0, 0, 0, 0, 2, []), (53, .iaload, 1, 0, 0, 0, 0, 0, []),
  (54, .if_icmp .ge 64, 3, 118, 0, 0, 0, 0, []), (57, .iload 4, 2, 4, 0, 0, 0, 0, []), (59, .iload_n 3, 1, 3, 0, 0, 0, 0, []), (60, .aload_n 0, 1, 0, 0, 0, 0, 0, []), (61, .getfield 71, 3, 5, 3, 3, 1110, 0, []), (64, .getfield 99, 3, 1, 1, 3, 1085, 0, []),
  (67, .getfield 159, 3, 0, 4, 3, 1046, 0, []), (70, .iload 6, 2, 6, 0, 0, 0, 0, []), (72, .iaload, 1, 0, 0, 0, 0, 0, []), (73, .imul, 1, 0, 0, 0, 0, 0, []), (74, .iload_n 2, 1, 2, 0, 0, 0, 0, []), (75, .idiv, 1, 0, 0, 0, 0, 0, []),
  (76, .isub, 1, 0, 0, 0, 0, 0, []), (77, .istore 4, 2, 4, 0, 0, 0, 0, []), (79, .aload_n 0, 1, 0, 0, 0, 0, 0, []), (80, .getfield 71, 3, 5, 3, 3, 1110, 0, []), (83, .getfield 99, 3, 1, 1, 3, 1085, 0, []), (86, .getfield 159, 3, 0, 4, 3, 1046, 0, []),
  (89, .iload 6, 2, 6, 0, 0, 0, 0, []), (91, .iaload, 1, 0, 0, 0, 0, 0, []), (92, .aload_n 0, 1, 0, 0, 0, 0, 0, []), (93, .getfield 71, 3, 5, 3, 3, 1110, 0, []), (96, .getfield 99, 3, 1, 1, 3, 1085, 0, []), (99, .getfield 159, 3, 0, 4, 3, 1046, 0, []),
  (102, .iload 5, 2, 5, 0, 0, 0, 0, []), (104, .iaload, 1, 0, 0, 0, 0, 0, []), (105, .if_icmp .le 7, 3, 112, 0, 0, 0, 0, []), (108, .iload 6, 2, 6, 0, 0, 0, 0, []), (110, .istore 5, 2, 5, 0, 0, 0, 0, []), (112, .iinc 6 1, 3, 6, 0, 0, 0, 1, []),
  (115, .goto (-75), 3, 40, 0, 0, 0, 0, []), (118, .iload_n 3, 1, 3, 0, 0, 0, 0, []), (119, .aload_n 0, 1, 0, 0, 0, 0, 0, []), (120, .getfield 71, 3, 5, 3, 3, 1110, 0, []), (123, .getfield 99, 3, 1, 1, 3, 1085, 0, []), (126, .getfield 159, 3, 0, 4, 3, 1046, 0, []),
  (129, .iload_n 1, 1, 1, 0, 0, 0, 0, []), (130, .iaload, 1, 0, 0, 0, 0, 0, []), (131, .imul, 1, 0, 0, 0, 0, 0, []), (132, .iload_n 2, 1, 2, 0, 0, 0, 0, []), (133, .idiv, 1, 0, 0, 0, 0, 0, []), (134, .istore 6, 2, 6, 0, 0, 0, 0, []),
  (136, .iload_n 1, 1, 1, 0, 0, 0, 0, []), (137, .iload 5, 2, 5, 0, 0, 0, 0, []), (139, .if_icmp .ne 11, 3, 150, 0, 0, 0, 0, []), (142, .iload 6, 2, 6, 0, 0, 0, 0, []), (144, .iload 4, 2, 4, 0, 0, 0, 0, []), (146, .iadd, 1, 0, 0, 0, 0, 0, []),
  (147, .goto 5, 3, 152, 0, 0, 0, 0, []), (150, .iload 6, 2, 6, 0, 0, 0, 0, []), (152, .ireturn, 1, 0, 0, 1, 0, 0, [])]
noncomputable def am_s24 : am_S := (yX5_tell, cX5_tell, 4, (some .int), 1, 1, 1, 5, 2095, 2093, 2094, 513)
noncomputable def am_c24 : List (Nat × am_E) := [(0, .aload_n 0, 1, 0, 0, 0, 0, 0, []), (1, .invokevirtual 87, 3, 39, 1, 1, 1176, 5, []), (4, .istore_n 1, 1, 1, 0, 0, 0, 0, []), (5, .iload_n 1, 1, 1, 0, 0, 0, 0, []), (6, .iconst 3, 1, 0, 0, 0, 0, 3, []), (7, .idiv, 1, 0, 0, 0, 0, 0, []),
  (8, .istore_n 2, 1, 2, 0, 0, 0, 0, []), (9, .iload_n 2, 1, 2, 0, 0, 0, 0, []), (10, .iconst 1, 1, 0, 0, 0, 0, 1, []), (11, .if_icmp .lt 16, 3, 27, 0, 0, 0, 0, []), (14, .iload_n 2, 1, 2, 0, 0, 0, 0, []), (15, .bipush 16, 2, 0, 0, 0, 0, 16, []),
  (17, .if_icmp .gt 10, 3, 27, 0, 0, 0, 0, []), (20, .iload_n 2, 1, 2, 0, 0, 0, 0, []), (21, .iconst 3, 1, 0, 0, 0, 0, 3, []), (22, .imul, 1, 0, 0, 0, 0, 0, []), (23, .iload_n 1, 1, 1, 0, 0, 0, 0, []), (24, .if_icmp .eq 9, 3, 33, 0, 0, 0, 0, []),
  (27, .aload_n 0, 1, 0, 0, 0, 0, 0, []), (28, .iconst 1, 1, 0, 0, 0, 0, 1, []), (29, .invokevirtual 79, 3, 37, 2, 1, 1160, 5, []), (32, .ireturn, 1, 0, 0, 1, 0, 0, []), (33, .iconst 0, 1, 0, 0, 0, 0, 0, []), (34, .istore_n 3, 1, 3, 0, 0, 0, 0, []),
  (35, .iload_n 3, 1, 3, 0, 0, 0, 0, []), (36, .iload_n 1, 1, 1, 0, 0, 0, 0, []), (37, .if_icmp .ge 54, 3, 91, 0, 0, 0, 0, []), (40, .aload_n 0, 1, 0, 0, 0, 0, 0, []), (41, .getfield 20, 3, 5, 1, 3, 1108, 0, []), (44, .iload_n 3, 1, 3, 0, 0, 0, 0, []),
  (45, .iaload, 1, 0, 0, 0, 0, 0, []), (46, .bipush 24, 2, 0, 0, 0, 0, 24, []), (48, .if_icmp .ge 31, 3, 79, 0, 0, 0, 0, []), (51, .aload_n 0, 1, 0, 0, 0, 0, 0, []), (52, .iconst 1, 1, 0, 0, 0, 0, 1, []), (53, .aload_n 0, 1, 0, 0, 0, 0, 0, []),
  (54, .getfield 20, 3, 5, 1, 3, 1108, 0, []), (57, .iload_n 3, 1, 3, 0, 0, 0, 0, []), (58, .iconst 1, 1, 0, 0, 0, 0, 1, []), (59, .iadd, 1, 0, 0, 0, 0, 0, []), (60, .iaload, 1, 0, 0, 0, 0, 0, []), (61, .invokevirtual 139, 3, 40, 3, 4, 1614, 5, []),
  (64, .ifCond .eq 15, 3, 79, 0, 0, 0, 0, []), (67, .aload_n 0, 1, 0, 0, 0, 0, 0, []), (68, .getfield 20, 3, 5, 1, 3, 1108, 0, []), (71, .iload_n 3, 1, 3, 0, 0, 0, 0, []), (72, .iconst 2, 1, 0, 0, 0, 0, 2, []), (73, .iadd, 1, 0, 0, 0, 0, 0, []),
  (74, .iaload, 1, 0, 0, 0, 0, 0, []), (75, .iconst 1, 1, 0, 0, 0, 0, 1, []), (76, .if_icmp .le 9, 3, 85, 0, 0, 0, 0, []), (79, .aload_n 0, 1, 0, 0, 0, 0, 0, []), (80, .iconst 1, 1, 0, 0, 0, 0, 1, []), (81, .invokevirtual 79, 3, 37, 2, 1, 1160, 5, []),
  (84, .ireturn, 1, 0, 0, 1, 0, 0, []), (85, .iinc 3 3, 3, 3, 0, 0, 0, 3, []), (88, .goto (-53), 3, 35, 0, 0, 0, 0, []), (91, .aload_n 0, 1, 0, 0, 0, 0, 0, []), (92, .getfield 20, 3, 5, 1, 3, 1108, 0, []), (95, .iconst 0, 1, 0, 0, 0, 0, 0, []),
  (96, .aload_n 0, 1, 0, 0, 0, 0, 0, []), (97, .getfield 39, 3, 5, 8, 3, 1115, 0, []), (100, .iconst 0, 1, 0, 0, 0, 0, 0, []), (101, .iload_n 1, 1, 1, 0, 0, 0, 0, []), (102, .invokestatic 197, 3, 0, 5, 8, 1773, 0, []), (105, .aload_n 0, 1, 0, 0, 0, 0, 0, []),
  (106, .iload_n 2, 1, 2, 0, 0, 0, 0, []), (107, .putfield 42, 3, 5, 9, 1, 1116, 0, []), (110, .iload_n 2, 1, 2, 0, 0, 0, 0, []), (111, .ireturn, 1, 0, 0, 1, 0, 0, [])]
noncomputable def am_s25 : am_S := (yX5_pressed, cX5_pressed, 8, (some .int), 1, 1, 2, 5, 2099, 2097, 2098, 513)
noncomputable def am_c25 : List (Nat × am_E) := [(0, .aload_n 0, 1, 0, 0, 0, 0, 0, []), (1, .invokevirtual 238, 3, 49, 1, 1, 2100, 5, []), (4, .istore_n 2, 1, 2, 0, 0, 0, 0, []), (5, .iload_n 1, 1, 1, 0, 0, 0, 0, []), (6, .ifCond .lt 19, 3, 25, 0, 0, 0, 0, []), (9, .iload_n 1, 1, 1, 0, 0, 0, 0, []),
  (10, .iconst 2, 1, 0, 0, 0, 0, 2, []), (11, .if_icmp .gt 14, 3, 25, 0, 0, 0, 0, []), (14, .aload_n 0, 1, 0, 0, 0, 0, 0, []), (15, .iload_n 2, 1, 2, 0, 0, 0, 0, []), (16, .iconst 0, 1, 0, 0, 0, 0, 0, []), (17, .bipush 24, 2, 0, 0, 0, 0, 24, []),
  (19, .invokevirtual 181, 3, 41, 4, 4, 1709, 5, []), (22, .ifCond .ne 5, 3, 27, 0, 0, 0, 0, []), (25, .iconst (-1), 1, 0, 0, 0, 0, (-1), []), (26, .ireturn, 1, 0, 0, 1, 0, 0, []), (27, .iconst 1, 1, 0, 0, 0, 0, 1, []), (28, .aload_n 0, 1, 0, 0, 0, 0, 0, []),
  (29, .getfield 71, 3, 5, 3, 3, 1110, 0, []), (32, .getfield 94, 3, 1, 0, 3, 1083, 0, []), (35, .getfield 119, 3, 2, 0, 3, 551, 0, []), (38, .iconst 2, 1, 0, 0, 0, 0, 2, []), (39, .iaload, 1, 0, 0, 0, 0, 0, []), (40, .ishl, 1, 0, 0, 0, 0, 0, []),
  (41, .istore_n 3, 1, 3, 0, 0, 0, 0, []), (42, .iconst 0, 1, 0, 0, 0, 0, 0, []), (43, .istore 4, 2, 4, 0, 0, 0, 0, []), (45, .iload_n 3, 1, 3, 0, 0, 0, 0, []), (46, .iconst 1, 1, 0, 0, 0, 0, 1, []), (47, .isub, 1, 0, 0, 0, 0, 0, []),
  (48, .istore 5, 2, 5, 0, 0, 0, 0, []), (50, .iconst 0, 1, 0, 0, 0, 0, 0, []), (51, .istore 6, 2, 6, 0, 0, 0, 0, []), (53, .iconst 0, 1, 0, 0, 0, 0, 0, []), (54, .istore 7, 2, 7, 0, 0, 0, 0, []), (56, .iload 7, 2, 7, 0, 0, 0, 0, []),
  (58, .iload_n 3, 1, 3, 0, 0, 0, 0, []), (59, .if_icmp .ge 36, 3, 95, 0, 0, 0, 0, []), (62, .aload_n 0, 1, 0, 0, 0, 0, 0, []), (63, .iload 7, 2, 7, 0, 0, 0, 0, []), (65, .iload_n 2, 1, 2, 0, 0, 0, 0, []), (66, .invokevirtual 241, 3, 50, 3, 4, 2105, 5, []),
  (69, .ifCond .eq 20, 3, 89, 0, 0, 0, 0, []), (72, .iinc 4 1, 3, 4, 0, 0, 0, 1, []), (75, .iload 5, 2, 5, 0, 0, 0, 0, []), (77, .iload 7, 2, 7, 0, 0, 0, 0, []), (79, .iand, 1, 0, 0, 0, 0, 0, []), (80, .istore 5, 2, 5, 0, 0, 0, 0, []),
  (82, .iload 6, 2, 6, 0, 0, 0, 0, []), (84, .iload 7, 2, 7, 0, 0, 0, 0, []), (86, .ior, 1, 0, 0, 0, 0, 0, []), (87, .istore 6, 2, 6, 0, 0, 0, 0, []), (89, .iinc 7 1, 3, 7, 0, 0, 0, 1, []), (92, .goto (-36), 3, 56, 0, 0, 0, 0, []),
  (95, .iload_n 1, 1, 1, 0, 0, 0, 0, []), (96, .ifCond .ne 6, 3, 102, 0, 0, 0, 0, []), (99, .iload 4, 2, 4, 0, 0, 0, 0, []), (101, .ireturn, 1, 0, 0, 1, 0, 0, []), (102, .iload_n 1, 1, 1, 0, 0, 0, 0, []), (103, .iconst 2, 1, 0, 0, 0, 0, 2, []),
  (104, .if_icmp .ne 8, 3, 112, 0, 0, 0, 0, []), (107, .iload 6, 2, 6, 0, 0, 0, 0, []), (109, .goto 14, 3, 123, 0, 0, 0, 0, []), (112, .iload 4, 2, 4, 0, 0, 0, 0, []), (114, .ifCond .ne 7, 3, 121, 0, 0, 0, 0, []), (117, .iconst 0, 1, 0, 0, 0, 0, 0, []),
  (118, .goto 5, 3, 123, 0, 0, 0, 0, []), (121, .iload 5, 2, 5, 0, 0, 0, 0, []), (123, .ireturn, 1, 0, 0, 1, 0, 0, [])]
noncomputable def am_s26 : am_S := (yX5_press, cX5_press, 3, (some .boolean), 1, 4, 3, 5, 2112, 2110, 2111, 513)
noncomputable def am_c26 : List (Nat × am_E) := [(0, .aload_n 0, 1, 0, 0, 0, 0, 0, []), (1, .iconst 2, 1, 0, 0, 0, 0, 2, []), (2, .iload_n 1, 1, 1, 0, 0, 0, 0, []), (3, .invokevirtual 139, 3, 40, 3, 4, 1614, 5, []), (6, .ifCond .eq 30, 3, 36, 0, 0, 0, 0, []), (9, .iload_n 2, 1, 2, 0, 0, 0, 0, []),
  (10, .ifCond .lt 26, 3, 36, 0, 0, 0, 0, []), (13, .iload_n 2, 1, 2, 0, 0, 0, 0, []), (14, .iconst 1, 1, 0, 0, 0, 0, 1, []), (15, .if_icmp .gt 21, 3, 36, 0, 0, 0, 0, []), (18, .aload_n 0, 1, 0, 0, 0, 0, 0, []), (19, .getfield 71, 3, 5, 3, 3, 1110, 0, []),
  (22, .getfield 99, 3, 1, 1, 3, 1085, 0, []), (25, .getfield 109, 3, 0, 1, 1, 1037, 0, []), (28, .iload_n 1, 1, 1, 0, 0, 0, 0, []), (29, .ishr, 1, 0, 0, 0, 0, 0, []), (30, .iconst 1, 1, 0, 0, 0, 0, 1, []), (31, .iand, 1, 0, 0, 0, 0, 0, []),
  (32, .iload_n 2, 1, 2, 0, 0, 0, 0, []), (33, .if_icmp .ne 11, 3, 44, 0, 0, 0, 0, []), (36, .aload_n 0, 1, 0, 0, 0, 0, 0, []), (37, .iconst 2, 1, 0, 0, 0, 0, 2, []), (38, .invokevirtual 79, 3, 37, 2, 1, 1160, 5, []), (41, .pop, 1, 0, 0, 0, 0, 0, []),
  (42, .iconst 0, 1, 0, 0, 0, 0, 0, []), (43, .ireturn, 1, 0, 0, 4, 0, 0, []), (44, .aload_n 0, 1, 0, 0, 0, 0, 0, []), (45, .invokevirtual 244, 3, 43, 1, 0, 2113, 5, []), (48, .aload_n 0, 1, 0, 0, 0, 0, 0, []), (49, .getfield 71, 3, 5, 3, 3, 1110, 0, []),
  (52, .getfield 99, 3, 1, 1, 3, 1085, 0, []), (55, .dup, 1, 0, 0, 0, 0, 0, []), (56, .getfield 109, 3, 0, 1, 1, 1037, 0, []), (59, .iconst 1, 1, 0, 0, 0, 0, 1, []), (60, .iload_n 1, 1, 1, 0, 0, 0, 0, []), (61, .ishl, 1, 0, 0, 0, 0, 0, []),
  (62, .ixor, 1, 0, 0, 0, 0, 0, []), (63, .putfield 109, 3, 0, 1, 1, 1037, 0, []), (66, .iconst 1, 1, 0, 0, 0, 0, 1, []), (67, .ireturn, 1, 0, 0, 4, 0, 0, [])]
noncomputable def am_s27 : am_S := (yX5_show, cX5_show, 3, (some .long), 1, 2, 3, 5, 2121, 2119, 2120, 513)
noncomputable def am_c27 : List (Nat × am_E) := [(0, .aload_n 0, 1, 0, 0, 0, 0, 0, []), (1, .iconst 2, 1, 0, 0, 0, 0, 2, []), (2, .iload_n 1, 1, 1, 0, 0, 0, 0, []), (3, .invokevirtual 139, 3, 40, 3, 4, 1614, 5, []), (6, .ifCond .eq 24, 3, 30, 0, 0, 0, 0, []), (9, .aload_n 0, 1, 0, 0, 0, 0, 0, []),
  (10, .iconst 1, 1, 0, 0, 0, 0, 1, []), (11, .iload_n 2, 1, 2, 0, 0, 0, 0, []), (12, .invokevirtual 139, 3, 40, 3, 4, 1614, 5, []), (15, .ifCond .eq 15, 3, 30, 0, 0, 0, 0, []), (18, .aload_n 0, 1, 0, 0, 0, 0, 0, []), (19, .getfield 71, 3, 5, 3, 3, 1110, 0, []),
  (22, .iload_n 1, 1, 1, 0, 0, 0, 0, []), (23, .iload_n 2, 1, 2, 0, 0, 0, 0, []), (24, .invokevirtual 217, 3, 75, 3, 4, 2060, 1, []), (27, .ifCond .ne 13, 3, 40, 0, 0, 0, 0, []), (30, .aload_n 0, 1, 0, 0, 0, 0, 0, []), (31, .iconst 2, 1, 0, 0, 0, 0, 2, []),
  (32, .invokevirtual 79, 3, 37, 2, 1, 1160, 5, []), (35, .pop, 1, 0, 0, 0, 0, 0, []), (36, .ldc2_w 185, 3, 0, 0, 0, 1713, (-1000000000000000), []), (39, .lreturn, 1, 0, 0, 2, 0, 0, []), (40, .aload_n 0, 1, 0, 0, 0, 0, 0, []), (41, .invokevirtual 244, 3, 43, 1, 0, 2113, 5, []),
  (44, .aload_n 0, 1, 0, 0, 0, 0, 0, []), (45, .getfield 71, 3, 5, 3, 3, 1110, 0, []), (48, .iload_n 1, 1, 1, 0, 0, 0, 0, []), (49, .iload_n 2, 1, 2, 0, 0, 0, 0, []), (50, .invokevirtual 220, 3, 76, 3, 1, 2064, 1, []), (53, .i2l, 1, 0, 0, 0, 0, 0, []),
  (54, .lreturn, 1, 0, 0, 2, 0, 0, [])]
noncomputable def am_s28 : am_S := (yX5_hours, cX5_hours, 4, (some .int), 1, 1, 2, 5, 2125, 2123, 2124, 513)
noncomputable def am_c28 : List (Nat × am_E) := [(0, .aload_n 0, 1, 0, 0, 0, 0, 0, []), (1, .iload_n 1, 1, 1, 0, 0, 0, 0, []), (2, .iconst 1, 1, 0, 0, 0, 0, 1, []), (3, .bipush 100, 2, 0, 0, 0, 0, 100, []), (5, .invokevirtual 181, 3, 41, 4, 4, 1709, 5, []), (8, .ifCond .ne 9, 3, 17, 0, 0, 0, 0, []),
  (11, .aload_n 0, 1, 0, 0, 0, 0, 0, []), (12, .iconst 3, 1, 0, 0, 0, 0, 3, []), (13, .invokevirtual 79, 3, 37, 2, 1, 1160, 5, []), (16, .ireturn, 1, 0, 0, 1, 0, 0, []), (17, .aload_n 0, 1, 0, 0, 0, 0, 0, []), (18, .invokevirtual 244, 3, 43, 1, 0, 2113, 5, []),
  (21, .iconst 0, 1, 0, 0, 0, 0, 0, []), (22, .istore_n 2, 1, 2, 0, 0, 0, 0, []), (23, .iconst 0, 1, 0, 0, 0, 0, 0, []), (24, .istore_n 3, 1, 3, 0, 0, 0, 0, []), (25, .iload_n 3, 1, 3, 0, 0, 0, 0, []), (26, .iload_n 1, 1, 1, 0, 0, 0, 0, []),
  (27, .if_icmp .ge 19, 3, 46, 0, 0, 0, 0, []), (30, .iload_n 2, 1, 2, 0, 0, 0, 0, []), (31, .aload_n 0, 1, 0, 0, 0, 0, 0, []), (32, .getfield 71, 3, 5, 3, 3, 1110, 0, []), (35, .invokevirtual 214, 3, 73, 1, 1, 1729, 1, []), (38, .iadd, 1, 0, 0, 0, 0, 0, []),
  (39, .istore_n 2, 1, 2, 0, 0, 0, 0, []), (40, .iinc 3 1, 3, 3, 0, 0, 0, 1, []), (43, .goto (-18), 3, 25, 0, 0, 0, 0, []), (46, .iload_n 2, 1, 2, 0, 0, 0, 0, []), (47, .ireturn, 1, 0, 0, 1, 0, 0, [])]
noncomputable def am_s29 : am_S := (yX5_chance, cX5_chance, 4, (some .int), 1, 1, 2, 5, 2129, 2127, 2128, 513)
noncomputable def am_c29 : List (Nat × am_E) := [(0, .aload_n 0, 1, 0, 0, 0, 0, 0, []), (1, .iload_n 1, 1, 1, 0, 0, 0, 0, []), (2, .iconst 1, 1, 0, 0, 0, 0, 1, []), (3, .bipush 100, 2, 0, 0, 0, 0, 100, []), (5, .invokevirtual 181, 3, 41, 4, 4, 1709, 5, []), (8, .ifCond .ne 9, 3, 17, 0, 0, 0, 0, []),
  (11, .aload_n 0, 1, 0, 0, 0, 0, 0, []), (12, .iconst 3, 1, 0, 0, 0, 0, 3, []), (13, .invokevirtual 79, 3, 37, 2, 1, 1160, 5, []), (16, .ireturn, 1, 0, 0, 1, 0, 0, []), (17, .aload_n 0, 1, 0, 0, 0, 0, 0, []), (18, .invokevirtual 244, 3, 43, 1, 0, 2113, 5, []),
  (21, .iconst 0, 1, 0, 0, 0, 0, 0, []), (22, .istore_n 2, 1, 2, 0, 0, 0, 0, []), (23, .iconst 0, 1, 0, 0, 0, 0, 0, []), (24, .istore_n 3, 1, 3, 0, 0, 0, 0, []), (25, .iload_n 3, 1, 3, 0, 0, 0, 0, []), (26, .iload_n 1, 1, 1, 0, 0, 0, 0, []),
  (27, .if_icmp .ge 27, 3, 54, 0, 0, 0, 0, []), (30, .aload_n 0, 1, 0, 0, 0, 0, 0, []), (31, .invokevirtual 247, 3, 51, 1, 4, 2130, 5, []), (34, .ifCond .eq 6, 3, 40, 0, 0, 0, 0, []), (37, .iinc 2 1, 3, 2, 0, 0, 0, 1, []), (40, .aload_n 0, 1, 0, 0, 0, 0, 0, []),
  (41, .getfield 71, 3, 5, 3, 3, 1110, 0, []), (44, .invokevirtual 214, 3, 73, 1, 1, 1729, 1, []), (47, .pop, 1, 0, 0, 0, 0, 0, []), (48, .iinc 3 1, 3, 3, 0, 0, 0, 1, []), (51, .goto (-26), 3, 25, 0, 0, 0, 0, []), (54, .iload_n 2, 1, 2, 0, 0, 0, 0, []),
  (55, .ireturn, 1, 0, 0, 1, 0, 0, [])]
noncomputable def am_s30 : am_S := (yX5_undo, cX5_undo, 1, (some .boolean), 1, 4, 1, 5, 2145, 2143, 2144, 513)
noncomputable def am_c30 : List (Nat × am_E) := [(0, .aload_n 0, 1, 0, 0, 0, 0, 0, []), (1, .getfield 36, 3, 5, 7, 1, 1114, 0, []), (4, .ifCond .ne 11, 3, 15, 0, 0, 0, 0, []), (7, .aload_n 0, 1, 0, 0, 0, 0, 0, []), (8, .iconst 4, 1, 0, 0, 0, 0, 4, []), (9, .invokevirtual 79, 3, 37, 2, 1, 1160, 5, []),
  (12, .pop, 1, 0, 0, 0, 0, 0, []), (13, .iconst 0, 1, 0, 0, 0, 0, 0, []), (14, .ireturn, 1, 0, 0, 4, 0, 0, []), (15, .aload_n 0, 1, 0, 0, 0, 0, 0, []), (16, .dup, 1, 0, 0, 0, 0, 0, []), (17, .getfield 36, 3, 5, 7, 1, 1114, 0, []),
  (20, .iconst 1, 1, 0, 0, 0, 0, 1, []), (21, .isub, 1, 0, 0, 0, 0, 0, []), (22, .putfield 36, 3, 5, 7, 1, 1114, 0, []), (25, .aload_n 0, 1, 0, 0, 0, 0, 0, []), (26, .getfield 71, 3, 5, 3, 3, 1110, 0, []), (29, .getfield 99, 3, 1, 1, 3, 1085, 0, []),
  (32, .aload_n 0, 1, 0, 0, 0, 0, 0, []), (33, .getfield 29, 3, 5, 5, 3, 1112, 0, []), (36, .aload_n 0, 1, 0, 0, 0, 0, 0, []), (37, .getfield 33, 3, 5, 6, 1, 1113, 0, []), (40, .aload_n 0, 1, 0, 0, 0, 0, 0, []), (41, .getfield 36, 3, 5, 7, 1, 1114, 0, []),
  (44, .iadd, 1, 0, 0, 0, 0, 0, []), (45, .bipush 20, 2, 0, 0, 0, 0, 20, []), (47, .irem, 1, 0, 0, 0, 0, 0, []), (48, .aaload, 1, 0, 0, 0, 0, 0, []), (49, .invokevirtual 251, 3, 66, 2, 0, 2117, 0, []), (52, .iconst 1, 1, 0, 0, 0, 0, 1, []),
  (53, .ireturn, 1, 0, 0, 4, 0, 0, [])]
noncomputable def am_s31 : am_S := (yX5_seed, cX5_seed, 2, (some .boolean), 1, 4, 2, 5, 2149, 2147, 2148, 513)
noncomputable def am_c31 : List (Nat × am_E) := [(0, .iload_n 1, 1, 1, 0, 0, 0, 0, []), (1, .ifCond .ge 11, 3, 12, 0, 0, 0, 0, []), (4, .aload_n 0, 1, 0, 0, 0, 0, 0, []), (5, .iconst 5, 1, 0, 0, 0, 0, 5, []), (6, .invokevirtual 79, 3, 37, 2, 1, 1160, 5, []), (9, .pop, 1, 0, 0, 0, 0, 0, []),
  (10, .iconst 0, 1, 0, 0, 0, 0, 0, []), (11, .ireturn, 1, 0, 0, 4, 0, 0, []), (12, .aload_n 0, 1, 0, 0, 0, 0, 0, []), (13, .iload_n 1, 1, 1, 0, 0, 0, 0, []), (14, .putfield 60, 3, 5, 15, 1, 1122, 0, []), (17, .iconst 1, 1, 0, 0, 0, 0, 1, []),
  (18, .ireturn, 1, 0, 0, 4, 0, 0, [])]
noncomputable def am_s32 : am_S := (yX5_ask, cX5_ask, 3, (some .long), 1, 2, 2, 5, 2153, 2151, 2152, 513)
noncomputable def am_c32 : List (Nat × am_E) := [(0, .aload_n 0, 1, 0, 0, 0, 0, 0, []), (1, .invokevirtual 87, 3, 39, 1, 1, 1176, 5, []), (4, .istore_n 2, 1, 2, 0, 0, 0, 0, []), (5, .aload_n 0, 1, 0, 0, 0, 0, 0, []), (6, .iconst 2, 1, 0, 0, 0, 0, 2, []), (7, .iload_n 1, 1, 1, 0, 0, 0, 0, []),
  (8, .invokevirtual 139, 3, 40, 3, 4, 1614, 5, []), (11, .ifCond .eq 14, 3, 25, 0, 0, 0, 0, []), (14, .aload_n 0, 1, 0, 0, 0, 0, 0, []), (15, .getfield 12, 3, 5, 0, 3, 1107, 0, []), (18, .iload_n 2, 1, 2, 0, 0, 0, 0, []), (19, .invokevirtual 255, 3, 97, 2, 4, 2154, 4, []),
  (22, .ifCond .ne 7, 3, 29, 0, 0, 0, 0, []), (25, .ldc2_w 185, 3, 0, 0, 0, 1713, (-1000000000000000), []), (28, .lreturn, 1, 0, 0, 2, 0, 0, []), (29, .aload_n 0, 1, 0, 0, 0, 0, 0, []), (30, .getfield 12, 3, 5, 0, 3, 1107, 0, []), (33, .getfield 259, 3, 4, 3, 1, 691, 0, []),
  (36, .tableswitch 69 29 33 #[36, 43, 50, 56, 62], 36, 105, 0, 0, 0, 0, [(29, 72), (30, 79), (31, 86), (32, 92), (33, 98)]), (72, .aload_n 0, 1, 0, 0, 0, 0, 0, []), (73, .iload_n 1, 1, 1, 0, 0, 0, 0, []), (74, .iconst 1, 1, 0, 0, 0, 0, 1, []), (75, .invokevirtual 262, 3, 53, 3, 2, 2158, 5, []), (78, .lreturn, 1, 0, 0, 2, 0, 0, []),
  (79, .aload_n 0, 1, 0, 0, 0, 0, 0, []), (80, .iload_n 1, 1, 1, 0, 0, 0, 0, []), (81, .iconst 0, 1, 0, 0, 0, 0, 0, []), (82, .invokevirtual 262, 3, 53, 3, 2, 2158, 5, []), (85, .lreturn, 1, 0, 0, 2, 0, 0, []), (86, .aload_n 0, 1, 0, 0, 0, 0, 0, []),
  (87, .iload_n 1, 1, 1, 0, 0, 0, 0, []), (88, .invokevirtual 266, 3, 54, 2, 2, 2167, 5, []), (91, .lreturn, 1, 0, 0, 2, 0, 0, []), (92, .aload_n 0, 1, 0, 0, 0, 0, 0, []), (93, .iload_n 1, 1, 1, 0, 0, 0, 0, []), (94, .invokevirtual 266, 3, 54, 2, 2, 2167, 5, []),
  (97, .lreturn, 1, 0, 0, 2, 0, 0, []), (98, .aload_n 0, 1, 0, 0, 0, 0, 0, []), (99, .iload_n 1, 1, 1, 0, 0, 0, 0, []), (100, .iconst 1, 1, 0, 0, 0, 0, 1, []), (101, .invokevirtual 270, 3, 55, 3, 2, 2171, 5, []), (104, .lreturn, 1, 0, 0, 2, 0, 0, []),
  (105, .aload_n 0, 1, 0, 0, 0, 0, 0, []), (106, .iload_n 1, 1, 1, 0, 0, 0, 0, []), (107, .iconst 0, 1, 0, 0, 0, 0, 0, []), (108, .invokevirtual 270, 3, 55, 3, 2, 2171, 5, []), (111, .lreturn, 1, 0, 0, 2, 0, 0, [])]
noncomputable def am_s33 : am_S := (yX5_image, cX5_image, 5, (some .int), 1, 1, 1, 5, 2178, 2176, 2177, 513)
noncomputable def am_c33_0 : List (Nat × am_E) := [(0, .aload_n 0, 1, 0, 0, 0, 0, 0, []), (1, .getfield 71, 3, 5, 3, 3, 1110, 0, []), (4, .getfield 99, 3, 1, 1, 3, 1085, 0, []), (7, .astore_n 1, 1, 1, 0, 0, 0, 0, []), (8, .aload_n 0, 1, 0, 0, 0, 0, 0, []), (9, .getfield 71, 3, 5, 3, 3, 1110, 0, []),
  (12, .getfield 94, 3, 1, 0, 3, 1083, 0, []), (15, .getfield 119, 3, 2, 0, 3, 551, 0, []), (18, .iconst 2, 1, 0, 0, 0, 0, 2, []), (19, .iaload, 1, 0, 0, 0, 0, 0, []), (20, .istore_n 2, 1, 2, 0, 0, 0, 0, []), (21, .aload_n 0, 1, 0, 0, 0, 0, 0, []),
  (22, .iconst 0, 1, 0, 0, 0, 0, 0, []), (23, .putfield 48, 3, 5, 11, 1, 1118, 0, []), (26, .aload_n 0, 1, 0, 0, 0, 0, 0, []), (27, .aload_n 1, 1, 1, 0, 0, 0, 0, []), (28, .getfield 125, 3, 0, 0, 1, 1034, 0, []), (31, .bipush 24, 2, 0, 0, 0, 0, 24, []),
  (33, .idiv, 1, 0, 0, 0, 0, 0, []), (34, .invokevirtual 273, 3, 56, 2, 0, 2179, 5, []), (37, .aload_n 0, 1, 0, 0, 0, 0, 0, []), (38, .aload_n 1, 1, 1, 0, 0, 0, 0, []), (39, .getfield 125, 3, 0, 0, 1, 1034, 0, []), (42, .bipush 24, 2, 0, 0, 0, 0, 24, []),
  (44, .irem, 1, 0, 0, 0, 0, 0, []), (45, .invokevirtual 276, 3, 57, 2, 0, 2183, 5, []), (48, .iconst 0, 1, 0, 0, 0, 0, 0, []), (49, .istore_n 3, 1, 3, 0, 0, 0, 0, []), (50, .iload_n 3, 1, 3, 0, 0, 0, 0, []), (51, .iload_n 2, 1, 2, 0, 0, 0, 0, []),
  (52, .if_icmp .gt 93, 3, 145, 0, 0, 0, 0, []), (55, .iconst 0, 1, 0, 0, 0, 0, 0, []), (56, .istore 4, 2, 4, 0, 0, 0, 0, []), (58, .iload 4, 2, 4, 0, 0, 0, 0, []), (60, .aload_n 0, 1, 0, 0, 0, 0, 0, []), (61, .getfield 71, 3, 5, 3, 3, 1110, 0, []),
  (64, .getfield 94, 3, 1, 0, 3, 1083, 0, []), (67, .getfield 119, 3, 2, 0, 3, 551, 0, []), (70, .iconst 0, 1, 0, 0, 0, 0, 0, []), (71, .iaload, 1, 0, 0, 0, 0, 0, []), (72, .if_icmp .ge 25, 3, 97, 0, 0, 0, 0, []), (75, .aload_n 0, 1, 0, 0, 0, 0, 0, []),
  (76, .aload_n 1, 1, 1, 0, 0, 0, 0, []), (77, .getfield 165, 3, 0, 2, 3, 1040, 0, []), (80, .iload_n 3, 1, 3, 0, 0, 0, 0, []), (81, .bipush 6, 2, 0, 0, 0, 0, 6, []), (83, .imul, 1, 0, 0, 0, 0, 0, []), (84, .iload 4, 2, 4, 0, 0, 0, 0, []),
  (86, .iadd, 1, 0, 0, 0, 0, 0, []), (87, .iaload, 1, 0, 0, 0, 0, 0, []), (88, .invokevirtual 273, 3, 56, 2, 0, 2179, 5, []), (91, .iinc 4 1, 3, 4, 0, 0, 0, 1, []), (94, .goto (-36), 3, 58, 0, 0, 0, 0, []), (97, .iconst 0, 1, 0, 0, 0, 0, 0, []),
  (98, .istore 4, 2, 4, 0, 0, 0, 0, []), (100, .iload 4, 2, 4, 0, 0, 0, 0, []), (102, .aload_n 0, 1, 0, 0, 0, 0, 0, []), (103, .getfield 71, 3, 5, 3, 3, 1110, 0, []), (106, .getfield 94, 3, 1, 0, 3, 1083, 0, []), (109, .getfield 119, 3, 2, 0, 3, 551, 0, []),
  (112, .iconst 1, 1, 0, 0, 0, 0, 1, []), (113, .iaload, 1, 0, 0, 0, 0, 0, []), (114, .if_icmp .ge 25, 3, 139, 0, 0, 0, 0, []), (117, .aload_n 0, 1, 0, 0, 0, 0, 0, []), (118, .aload_n 1, 1, 1, 0, 0, 0, 0, []), (119, .getfield 168, 3, 0, 3, 3, 1043, 0, []),
  (122, .iload_n 3, 1, 3, 0, 0, 0, 0, []), (123, .bipush 8, 2, 0, 0, 0, 0, 8, []), (125, .imul, 1, 0, 0, 0, 0, 0, []), (126, .iload 4, 2, 4, 0, 0, 0, 0, []), (128, .iadd, 1, 0, 0, 0, 0, 0, []), (129, .iaload, 1, 0, 0, 0, 0, 0, []),
  (130, .invokevirtual 276, 3, 57, 2, 0, 2183, 5, []), (133, .iinc 4 1, 3, 4, 0, 0, 0, 1, []), (136, .goto (-36), 3, 100, 0, 0, 0, 0, []), (139, .iinc 3 1, 3, 3, 0, 0, 0, 1, []), (142, .goto (-92), 3, 50, 0, 0, 0, 0, []), (145, .iconst 0, 1, 0, 0, 0, 0, 0, []),
  (146, .istore_n 3, 1, 3, 0, 0, 0, 0, []), (147, .iload_n 3, 1, 3, 0, 0, 0, 0, []), (148, .iload_n 2, 1, 2, 0, 0, 0, 0, []), (149, .if_icmp .ge 31, 3, 180, 0, 0, 0, 0, []), (152, .aload_n 0, 1, 0, 0, 0, 0, 0, []), (153, .aload_n 1, 1, 1, 0, 0, 0, 0, []),
  (154, .getfield 109, 3, 0, 1, 1, 1037, 0, []), (157, .iload_n 3, 1, 3, 0, 0, 0, 0, []), (158, .ishr, 1, 0, 0, 0, 0, 0, []), (159, .iconst 1, 1, 0, 0, 0, 0, 1, []), (160, .iand, 1, 0, 0, 0, 0, 0, []), (161, .invokevirtual 276, 3, 57, 2, 0, 2183, 5, []),
  (164, .aload_n 0, 1, 0, 0, 0, 0, 0, []), (165, .aload_n 1, 1, 1, 0, 0, 0, 0, []), (166, .getfield 159, 3, 0, 4, 3, 1046, 0, []), (169, .iload_n 3, 1, 3, 0, 0, 0, 0, []), (170, .iaload, 1, 0, 0, 0, 0, 0, []), (171, .invokevirtual 273, 3, 56, 2, 0, 2179, 5, []),
  (174, .iinc 3 1, 3, 3, 0, 0, 0, 1, []), (177, .goto (-30), 3, 147, 0, 0, 0, 0, []), (180, .aload_n 0, 1, 0, 0, 0, 0, 0, []), (181, .aload_n 0, 1, 0, 0, 0, 0, 0, [])]
noncomputable def am_c33_1 : List (Nat × am_E) := [(182, .aload_n 0, 1, 0, 0, 0, 0, 0, []), (183, .getfield 45, 3, 5, 10, 3, 1117, 0, []), (186, .aload_n 0, 1, 0, 0, 0, 0, 0, []), (187, .getfield 48, 3, 5, 11, 1, 1118, 0, []), (190, .invokevirtual 279, 3, 58, 3, 1, 2187, 5, []), (193, .invokevirtual 276, 3, 57, 2, 0, 2183, 5, []),
  (196, .aload_n 0, 1, 0, 0, 0, 0, 0, []), (197, .getfield 48, 3, 5, 11, 1, 1118, 0, []), (200, .ireturn, 1, 0, 0, 1, 0, 0, [])]
noncomputable def am_c33 : List (Nat × am_E) := am_c33_0 ++ (am_c33_1)
noncomputable def am_s34 : am_S := (yX5_octet, cX5_octet, 2, (some .int), 1, 1, 2, 5, 2194, 2192, 2193, 513)
noncomputable def am_c34 : List (Nat × am_E) := [(0, .iload_n 1, 1, 1, 0, 0, 0, 0, []), (1, .ifCond .lt 11, 3, 12, 0, 0, 0, 0, []), (4, .iload_n 1, 1, 1, 0, 0, 0, 0, []), (5, .aload_n 0, 1, 0, 0, 0, 0, 0, []), (6, .getfield 48, 3, 5, 11, 1, 1118, 0, []), (9, .if_icmp .lt 7, 3, 16, 0, 0, 0, 0, []),
  (12, .iconst (-1), 1, 0, 0, 0, 0, (-1), []), (13, .goto 9, 3, 22, 0, 0, 0, 0, []), (16, .aload_n 0, 1, 0, 0, 0, 0, 0, []), (17, .getfield 45, 3, 5, 10, 3, 1117, 0, []), (20, .iload_n 1, 1, 1, 0, 0, 0, 0, []), (21, .iaload, 1, 0, 0, 0, 0, 0, []),
  (22, .ireturn, 1, 0, 0, 1, 0, 0, [])]
noncomputable def am_s35 : am_S := (yX5_on, cX5_on, 2, (some .boolean), 1, 4, 1, 5, 2198, 2196, 2197, 513)
noncomputable def am_c35 : List (Nat × am_E) := [(0, .aload_n 0, 1, 0, 0, 0, 0, 0, []), (1, .invokevirtual 87, 3, 39, 1, 1, 1176, 5, []), (4, .istore_n 1, 1, 1, 0, 0, 0, 0, []), (5, .iload_n 1, 1, 1, 0, 0, 0, 0, []), (6, .aload_n 0, 1, 0, 0, 0, 0, 0, []), (7, .invokevirtual 283, 3, 59, 1, 1, 2199, 5, []),
  (10, .if_icmp .ne 55, 3, 65, 0, 0, 0, 0, []), (13, .aload_n 0, 1, 0, 0, 0, 0, 0, []), (14, .aload_n 0, 1, 0, 0, 0, 0, 0, []), (15, .getfield 20, 3, 5, 1, 3, 1108, 0, []), (18, .iload_n 1, 1, 1, 0, 0, 0, 0, []), (19, .iconst 1, 1, 0, 0, 0, 0, 1, []),
  (20, .isub, 1, 0, 0, 0, 0, 0, []), (21, .invokevirtual 279, 3, 58, 3, 1, 2187, 5, []), (24, .aload_n 0, 1, 0, 0, 0, 0, 0, []), (25, .iload_n 1, 1, 1, 0, 0, 0, 0, []), (26, .iconst 1, 1, 0, 0, 0, 0, 1, []), (27, .isub, 1, 0, 0, 0, 0, 0, []),
  (28, .invokevirtual 286, 3, 60, 2, 1, 2203, 5, []), (31, .if_icmp .ne 34, 3, 65, 0, 0, 0, 0, []), (34, .aload_n 0, 1, 0, 0, 0, 0, 0, []), (35, .aload_n 0, 1, 0, 0, 0, 0, 0, []), (36, .getfield 75, 3, 5, 4, 3, 1111, 0, []), (39, .getfield 99, 3, 1, 1, 3, 1085, 0, []),
  (42, .invokevirtual 289, 3, 62, 2, 4, 2207, 5, []), (45, .ifCond .eq 20, 3, 65, 0, 0, 0, 0, []), (48, .aload_n 0, 1, 0, 0, 0, 0, 0, []), (49, .aload_n 0, 1, 0, 0, 0, 0, 0, []), (50, .getfield 75, 3, 5, 4, 3, 1111, 0, []), (53, .getfield 99, 3, 1, 1, 3, 1085, 0, []),
  (56, .iload_n 1, 1, 1, 0, 0, 0, 0, []), (57, .iconst 1, 1, 0, 0, 0, 0, 1, []), (58, .isub, 1, 0, 0, 0, 0, 0, []), (59, .invokevirtual 293, 3, 63, 3, 4, 2215, 5, []), (62, .ifCond .ne 11, 3, 73, 0, 0, 0, 0, []), (65, .aload_n 0, 1, 0, 0, 0, 0, 0, []),
  (66, .iconst 5, 1, 0, 0, 0, 0, 5, []), (67, .invokevirtual 79, 3, 37, 2, 1, 1160, 5, []), (70, .pop, 1, 0, 0, 0, 0, 0, []), (71, .iconst 0, 1, 0, 0, 0, 0, 0, []), (72, .ireturn, 1, 0, 0, 4, 0, 0, []), (73, .aload_n 0, 1, 0, 0, 0, 0, 0, []),
  (74, .getfield 71, 3, 5, 3, 3, 1110, 0, []), (77, .getfield 99, 3, 1, 1, 3, 1085, 0, []), (80, .aload_n 0, 1, 0, 0, 0, 0, 0, []), (81, .getfield 75, 3, 5, 4, 3, 1111, 0, []), (84, .getfield 99, 3, 1, 1, 3, 1085, 0, []), (87, .invokevirtual 251, 3, 66, 2, 0, 2117, 0, []),
  (90, .aload_n 0, 1, 0, 0, 0, 0, 0, []), (91, .invokevirtual 110, 3, 44, 1, 0, 1583, 5, []), (94, .iconst 1, 1, 0, 0, 0, 0, 1, []), (95, .ireturn, 1, 0, 0, 4, 0, 0, [])]
noncomputable def am_s36 : am_S := (yX5_status, cX5_status, 2, (some .int), 1, 1, 2, 5, 2222, 2220, 2221, 513)
noncomputable def am_c36 : List (Nat × am_E) := [(0, .iload_n 1, 1, 1, 0, 0, 0, 0, []), (1, .ifCond .lt 12, 3, 13, 0, 0, 0, 0, []), (4, .iload_n 1, 1, 1, 0, 0, 0, 0, []), (5, .aload_n 0, 1, 0, 0, 0, 0, 0, []), (6, .getfield 57, 3, 5, 14, 3, 1121, 0, []), (9, .arraylength, 1, 0, 0, 0, 0, 0, []),
  (10, .if_icmp .lt 7, 3, 17, 0, 0, 0, 0, []), (13, .iconst (-1), 1, 0, 0, 0, 0, (-1), []), (14, .goto 9, 3, 23, 0, 0, 0, 0, []), (17, .aload_n 0, 1, 0, 0, 0, 0, 0, []), (18, .getfield 57, 3, 5, 14, 3, 1121, 0, []), (21, .iload_n 1, 1, 1, 0, 0, 0, 0, []),
  (22, .iaload, 1, 0, 0, 0, 0, 0, []), (23, .ireturn, 1, 0, 0, 1, 0, 0, [])]
noncomputable def am_s37 : am_S := (yX5_refuse, cX5_refuse, 2, (some .int), 1, 1, 2, 5, 1163, 1162, 0, 513)
noncomputable def am_c37 : List (Nat × am_E) := [(0, .aload_n 0, 1, 0, 0, 0, 0, 0, []), (1, .getfield 57, 3, 5, 14, 3, 1121, 0, []), (4, .iload_n 1, 1, 1, 0, 0, 0, 0, []), (5, .dup2, 1, 0, 0, 0, 0, 0, []), (6, .iaload, 1, 0, 0, 0, 0, 0, []), (7, .iconst 1, 1, 0, 0, 0, 0, 1, []),
  (8, .iadd, 1, 0, 0, 0, 0, 0, []), (9, .iastore, 1, 0, 0, 0, 0, 0, []), (10, .iconst (-1), 1, 0, 0, 0, 0, (-1), []), (11, .ireturn, 1, 0, 0, 1, 0, 0, [])]
noncomputable def am_s38 : am_S := (yX5_feedNumber, cX5_feedNumber, 3, none, 1, 0, 2, 5, 1167, 1166, 1, 513)
noncomputable def am_c38 : List (Nat × am_E) := [(0, .bipush 24, 2, 0, 0, 0, 0, 24, []), (2, .istore_n 2, 1, 2, 0, 0, 0, 0, []), (3, .iload_n 2, 1, 2, 0, 0, 0, 0, []), (4, .ifCond .lt 45, 3, 49, 0, 0, 0, 0, []), (7, .aload_n 0, 1, 0, 0, 0, 0, 0, []), (8, .getfield 23, 3, 5, 2, 1, 1109, 0, []),
  (11, .sipush 1600, 3, 0, 0, 0, 0, 1600, []), (14, .if_icmp .ge 29, 3, 43, 0, 0, 0, 0, []), (17, .aload_n 0, 1, 0, 0, 0, 0, 0, []), (18, .getfield 20, 3, 5, 1, 3, 1108, 0, []), (21, .aload_n 0, 1, 0, 0, 0, 0, 0, []), (22, .getfield 23, 3, 5, 2, 1, 1109, 0, []),
  (25, .iload_n 1, 1, 1, 0, 0, 0, 0, []), (26, .iload_n 2, 1, 2, 0, 0, 0, 0, []), (27, .ishr, 1, 0, 0, 0, 0, 0, []), (28, .sipush 255, 3, 0, 0, 0, 0, 255, []), (31, .iand, 1, 0, 0, 0, 0, 0, []), (32, .iastore, 1, 0, 0, 0, 0, 0, []),
  (33, .aload_n 0, 1, 0, 0, 0, 0, 0, []), (34, .dup, 1, 0, 0, 0, 0, 0, []), (35, .getfield 23, 3, 5, 2, 1, 1109, 0, []), (38, .iconst 1, 1, 0, 0, 0, 0, 1, []), (39, .iadd, 1, 0, 0, 0, 0, 0, []), (40, .putfield 23, 3, 5, 2, 1, 1109, 0, []),
  (43, .iinc 2 (-8), 3, 2, 0, 0, 0, (-8), []), (46, .goto (-43), 3, 3, 0, 0, 0, 0, []), (49, .return_, 1, 0, 0, 0, 0, 0, [])]
noncomputable def am_s39 : am_S := (yX5_takeTape, cX5_takeTape, 2, (some .int), 1, 1, 1, 5, 1179, 1178, 2, 513)
noncomputable def am_c39 : List (Nat × am_E) := [(0, .aload_n 0, 1, 0, 0, 0, 0, 0, []), (1, .getfield 23, 3, 5, 2, 1, 1109, 0, []), (4, .istore_n 1, 1, 1, 0, 0, 0, 0, []), (5, .aload_n 0, 1, 0, 0, 0, 0, 0, []), (6, .iconst 0, 1, 0, 0, 0, 0, 0, []), (7, .putfield 23, 3, 5, 2, 1, 1109, 0, []),
  (10, .iload_n 1, 1, 1, 0, 0, 0, 0, []), (11, .ireturn, 1, 0, 0, 1, 0, 0, [])]
noncomputable def am_s40 : am_S := (yX5_isOne, cX5_isOne, 3, (some .boolean), 1, 4, 3, 5, 1617, 1616, 33, 513)
noncomputable def am_c40 : List (Nat × am_E) := [(0, .iload_n 2, 1, 2, 0, 0, 0, 0, []), (1, .ifCond .lt 23, 3, 24, 0, 0, 0, 0, []), (4, .iload_n 2, 1, 2, 0, 0, 0, 0, []), (5, .aload_n 0, 1, 0, 0, 0, 0, 0, []), (6, .getfield 71, 3, 5, 3, 3, 1110, 0, []), (9, .getfield 94, 3, 1, 0, 3, 1083, 0, []),
  (12, .getfield 119, 3, 2, 0, 3, 551, 0, []), (15, .iload_n 1, 1, 1, 0, 0, 0, 0, []), (16, .iaload, 1, 0, 0, 0, 0, 0, []), (17, .if_icmp .ge 7, 3, 24, 0, 0, 0, 0, []), (20, .iconst 1, 1, 0, 0, 0, 0, 1, []), (21, .goto 4, 3, 25, 0, 0, 0, 0, []),
  (24, .iconst 0, 1, 0, 0, 0, 0, 0, []), (25, .ireturn, 1, 0, 0, 4, 0, 0, [])]
noncomputable def am_s41 : am_S := (yX5_canPass, cX5_canPass, 4, (some .boolean), 1, 4, 4, 5, 1712, 1711, 40, 513)
noncomputable def am_c41 : List (Nat × am_E) := [(0, .iload_n 1, 1, 1, 0, 0, 0, 0, []), (1, .iload_n 2, 1, 2, 0, 0, 0, 0, []), (2, .if_icmp .lt 30, 3, 32, 0, 0, 0, 0, []), (5, .iload_n 1, 1, 1, 0, 0, 0, 0, []), (6, .iload_n 3, 1, 3, 0, 0, 0, 0, []), (7, .if_icmp .gt 25, 3, 32, 0, 0, 0, 0, []),
  (10, .iload_n 1, 1, 1, 0, 0, 0, 0, []), (11, .sipush 23999, 3, 0, 0, 0, 0, 23999, []), (14, .aload_n 0, 1, 0, 0, 0, 0, 0, []), (15, .getfield 71, 3, 5, 3, 3, 1110, 0, []), (18, .getfield 99, 3, 1, 1, 3, 1085, 0, []), (21, .getfield 125, 3, 0, 0, 1, 1034, 0, []),
  (24, .isub, 1, 0, 0, 0, 0, 0, []), (25, .if_icmp .gt 7, 3, 32, 0, 0, 0, 0, []), (28, .iconst 1, 1, 0, 0, 0, 0, 1, []), (29, .goto 4, 3, 33, 0, 0, 0, 0, []), (32, .iconst 0, 1, 0, 0, 0, 0, 0, []), (33, .ireturn, 1, 0, 0, 4, 0, 0, [])]
noncomputable def am_s42 : am_S := (yX5_sawTogether, cX5_sawTogether, 3, (some .int), 1, 1, 1, 5, 1604, 1603, 32, 513)
noncomputable def am_c42 : List (Nat × am_E) := [(0, .iconst 0, 1, 0, 0, 0, 0, 0, []), (1, .istore_n 1, 1, 1, 0, 0, 0, 0, []), (2, .iconst 0, 1, 0, 0, 0, 0, 0, []), (3, .istore_n 2, 1, 2, 0, 0, 0, 0, []), (4, .iload_n 2, 1, 2, 0, 0, 0, 0, []), (5, .aload_n 0, 1, 0, 0, 0, 0, 0, []),
  (6, .getfield 71, 3, 5, 3, 3, 1110, 0, []), (9, .getfield 94, 3, 1, 0, 3, 1083, 0, []), (12, .getfield 119, 3, 2, 0, 3, 551, 0, []), (15, .iconst 2, 1, 0, 0, 0, 0, 2, []), (16, .iaload, 1, 0, 0, 0, 0, 0, []), (17, .if_icmp .ge 24, 3, 41, 0, 0, 0, 0, []),
  (20, .iload_n 1, 1, 1, 0, 0, 0, 0, []), (21, .aload_n 0, 1, 0, 0, 0, 0, 0, []), (22, .getfield 71, 3, 5, 3, 3, 1110, 0, []), (25, .getfield 99, 3, 1, 1, 3, 1085, 0, []), (28, .getfield 159, 3, 0, 4, 3, 1046, 0, []), (31, .iload_n 2, 1, 2, 0, 0, 0, 0, []),
  (32, .iaload, 1, 0, 0, 0, 0, 0, []), (33, .iadd, 1, 0, 0, 0, 0, 0, []), (34, .istore_n 1, 1, 1, 0, 0, 0, 0, []), (35, .iinc 2 1, 3, 2, 0, 0, 0, 1, []), (38, .goto (-34), 3, 4, 0, 0, 0, 0, []), (41, .iload_n 1, 1, 1, 0, 0, 0, 0, []),
  (42, .ireturn, 1, 0, 0, 1, 0, 0, [])]
noncomputable def am_s43 : am_S := (yX5_rememberAct, cX5_rememberAct, 1, none, 1, 0, 1, 5, 2116, 2115, 49, 513)
noncomputable def am_c43 : List (Nat × am_E) := [(0, .aload_n 0, 1, 0, 0, 0, 0, 0, []), (1, .getfield 36, 3, 5, 7, 1, 1114, 0, []), (4, .bipush 20, 2, 0, 0, 0, 0, 20, []), (6, .if_icmp .ne 26, 3, 32, 0, 0, 0, 0, []), (9, .aload_n 0, 1, 0, 0, 0, 0, 0, []), (10, .aload_n 0, 1, 0, 0, 0, 0, 0, []),
  (11, .getfield 33, 3, 5, 6, 1, 1113, 0, []), (14, .iconst 1, 1, 0, 0, 0, 0, 1, []), (15, .iadd, 1, 0, 0, 0, 0, 0, []), (16, .bipush 20, 2, 0, 0, 0, 0, 20, []), (18, .irem, 1, 0, 0, 0, 0, 0, []), (19, .putfield 33, 3, 5, 6, 1, 1113, 0, []),
  (22, .aload_n 0, 1, 0, 0, 0, 0, 0, []), (23, .dup, 1, 0, 0, 0, 0, 0, []), (24, .getfield 36, 3, 5, 7, 1, 1114, 0, []), (27, .iconst 1, 1, 0, 0, 0, 0, 1, []), (28, .isub, 1, 0, 0, 0, 0, 0, []), (29, .putfield 36, 3, 5, 7, 1, 1114, 0, []),
  (32, .aload_n 0, 1, 0, 0, 0, 0, 0, []), (33, .getfield 29, 3, 5, 5, 3, 1112, 0, []), (36, .aload_n 0, 1, 0, 0, 0, 0, 0, []), (37, .getfield 33, 3, 5, 6, 1, 1113, 0, []), (40, .aload_n 0, 1, 0, 0, 0, 0, 0, []), (41, .getfield 36, 3, 5, 7, 1, 1114, 0, []),
  (44, .iadd, 1, 0, 0, 0, 0, 0, []), (45, .bipush 20, 2, 0, 0, 0, 0, 20, []), (47, .irem, 1, 0, 0, 0, 0, 0, []), (48, .aaload, 1, 0, 0, 0, 0, 0, []), (49, .aload_n 0, 1, 0, 0, 0, 0, 0, []), (50, .getfield 71, 3, 5, 3, 3, 1110, 0, []),
  (53, .getfield 99, 3, 1, 1, 3, 1085, 0, []), (56, .invokevirtual 251, 3, 66, 2, 0, 2117, 0, []), (59, .aload_n 0, 1, 0, 0, 0, 0, 0, []), (60, .dup, 1, 0, 0, 0, 0, 0, []), (61, .getfield 36, 3, 5, 7, 1, 1114, 0, []), (64, .iconst 1, 1, 0, 0, 0, 0, 1, []),
  (65, .iadd, 1, 0, 0, 0, 0, 0, []), (66, .putfield 36, 3, 5, 7, 1, 1114, 0, []), (69, .return_, 1, 0, 0, 0, 0, 0, [])]
noncomputable def am_s44 : am_S := (yX5_forgetActs, cX5_forgetActs, 1, none, 1, 0, 1, 5, 1586, 1585, 31, 513)
noncomputable def am_c44 : List (Nat × am_E) := [(0, .aload_n 0, 1, 0, 0, 0, 0, 0, []), (1, .iconst 0, 1, 0, 0, 0, 0, 0, []), (2, .putfield 36, 3, 5, 7, 1, 1114, 0, []), (5, .return_, 1, 0, 0, 0, 0, 0, [])]
noncomputable def am_s45 : am_S := (yX5_lookAhead, cX5_lookAhead, 4, none, 1, 0, 3, 5, 1717, 1716, 41, 513)
noncomputable def am_c45 : List (Nat × am_E) := [(0, .aload_n 0, 1, 0, 0, 0, 0, 0, []), (1, .getfield 75, 3, 5, 4, 3, 1111, 0, []), (4, .aload_n 0, 1, 0, 0, 0, 0, 0, []), (5, .getfield 71, 3, 5, 3, 3, 1110, 0, []), (8, .iload_n 1, 1, 1, 0, 0, 0, 0, []), (9, .invokevirtual 297, 3, 72, 3, 0, 1718, 1, []),
  (12, .iconst 0, 1, 0, 0, 0, 0, 0, []), (13, .istore_n 3, 1, 3, 0, 0, 0, 0, []), (14, .iload_n 3, 1, 3, 0, 0, 0, 0, []), (15, .iload_n 2, 1, 2, 0, 0, 0, 0, []), (16, .if_icmp .ge 17, 3, 33, 0, 0, 0, 0, []), (19, .aload_n 0, 1, 0, 0, 0, 0, 0, []),
  (20, .getfield 75, 3, 5, 4, 3, 1111, 0, []), (23, .invokevirtual 214, 3, 73, 1, 1, 1729, 1, []), (26, .pop, 1, 0, 0, 0, 0, 0, []), (27, .iinc 3 1, 3, 3, 0, 0, 0, 1, []), (30, .goto (-16), 3, 14, 0, 0, 0, 0, []), (33, .return_, 1, 0, 0, 0, 0, 0, [])]
noncomputable def am_s46 : am_S := (yX5_isAtRest, cX5_isAtRest, 5, (some .boolean), 1, 4, 3, 5, 2049, 2048, 44, 513)
noncomputable def am_c46 : List (Nat × am_E) := [(0, .iconst 0, 1, 0, 0, 0, 0, 0, []), (1, .istore_n 3, 1, 3, 0, 0, 0, 0, []), (2, .iload_n 3, 1, 3, 0, 0, 0, 0, []), (3, .iload_n 2, 1, 2, 0, 0, 0, 0, []), (4, .if_icmp .ge 42, 3, 46, 0, 0, 0, 0, []), (7, .iload_n 1, 1, 1, 0, 0, 0, 0, []),
  (8, .iconst 1, 1, 0, 0, 0, 0, 1, []), (9, .iload_n 3, 1, 3, 0, 0, 0, 0, []), (10, .ishl, 1, 0, 0, 0, 0, 0, []), (11, .ixor, 1, 0, 0, 0, 0, 0, []), (12, .istore 4, 2, 4, 0, 0, 0, 0, []), (14, .aload_n 0, 1, 0, 0, 0, 0, 0, []),
  (15, .getfield 51, 3, 5, 12, 3, 1119, 0, []), (18, .iload 4, 2, 4, 0, 0, 0, 0, []), (20, .iconst 5, 1, 0, 0, 0, 0, 5, []), (21, .imul, 1, 0, 0, 0, 0, 0, []), (22, .iload_n 3, 1, 3, 0, 0, 0, 0, []), (23, .iadd, 1, 0, 0, 0, 0, 0, []),
  (24, .iaload, 1, 0, 0, 0, 0, 0, []), (25, .aload_n 0, 1, 0, 0, 0, 0, 0, []), (26, .getfield 51, 3, 5, 12, 3, 1119, 0, []), (29, .iload_n 1, 1, 1, 0, 0, 0, 0, []), (30, .iconst 5, 1, 0, 0, 0, 0, 5, []), (31, .imul, 1, 0, 0, 0, 0, 0, []),
  (32, .iload_n 3, 1, 3, 0, 0, 0, 0, []), (33, .iadd, 1, 0, 0, 0, 0, 0, []), (34, .iaload, 1, 0, 0, 0, 0, 0, []), (35, .if_icmp .le 5, 3, 40, 0, 0, 0, 0, []), (38, .iconst 0, 1, 0, 0, 0, 0, 0, []), (39, .ireturn, 1, 0, 0, 4, 0, 0, []),
  (40, .iinc 3 1, 3, 3, 0, 0, 0, 1, []), (43, .goto (-41), 3, 2, 0, 0, 0, 0, []), (46, .iconst 1, 1, 0, 0, 0, 0, 1, []), (47, .ireturn, 1, 0, 0, 4, 0, 0, [])]
noncomputable def am_s47 : am_S := (yX5_sofaWorth, cX5_sofaWorth, 8, (some .int), 1, 1, 4, 5, 2087, 2086, 46, 513)
noncomputable def am_c47 : List (Nat × am_E) := [(0, .iconst 0, 1, 0, 0, 0, 0, 0, []), (1, .istore 4, 2, 4, 0, 0, 0, 0, []), (3, .iconst (-1), 1, 0, 0, 0, 0, (-1), []), (4, .istore 5, 2, 5, 0, 0, 0, 0, []), (6, .iconst 0, 1, 0, 0, 0, 0, 0, []), (7, .istore 6, 2, 6, 0, 0, 0, 0, []),
  (9, .iload 6, 2, 6, 0, 0, 0, 0, []), (11, .aload_n 0, 1, 0, 0, 0, 0, 0, []), (12, .getfield 71, 3, 5, 3, 3, 1110, 0, []), (15, .getfield 94, 3, 1, 0, 3, 1083, 0, []), (18, .getfield 119, 3, 2, 0, 3, 551, 0, []), (21, .iconst 2, 1, 0, 0, 0, 0, 2, []),
  (22, .iaload, 1, 0, 0, 0, 0, 0, []), (23, .if_icmp .ge 61, 3, 84, 0, 0, 0, 0, []), (26, .iload_n 1, 1, 1, 0, 0, 0, 0, []), (27, .iload 6, 2, 6, 0, 0, 0, 0, []), (29, .ishr, 1, 0, 0, 0, 0, 0, []), (30, .iconst 1, 1, 0, 0, 0, 0, 1, []),
  (31, .iand, 1, 0, 0, 0, 0, 0, []), (32, .iconst 1, 1, 0, 0, 0, 0, 1, []), (33, .if_icmp .ne 45, 3, 78, 0, 0, 0, 0, []), (36, .aload_n 0, 1, 0, 0, 0, 0, 0, []), (37, .getfield 71, 3, 5, 3, 3, 1110, 0, []), (40, .getfield 94, 3, 1, 0, 3, 1083, 0, []),
  (43, .iload 6, 2, 6, 0, 0, 0, 0, []), (45, .iload_n 2, 1, 2, 0, 0, 0, 0, []), (46, .invokevirtual 174, 3, 88, 3, 1, 1692, 2, []), (49, .istore 7, 2, 7, 0, 0, 0, 0, []), (51, .iload 4, 2, 4, 0, 0, 0, 0, []), (53, .iload 7, 2, 7, 0, 0, 0, 0, []),
  (55, .iadd, 1, 0, 0, 0, 0, 0, []), (56, .istore 4, 2, 4, 0, 0, 0, 0, []), (58, .iload 5, 2, 5, 0, 0, 0, 0, []), (60, .iconst (-1), 1, 0, 0, 0, 0, (-1), []), (61, .if_icmp .ne 8, 3, 69, 0, 0, 0, 0, []), (64, .iload 7, 2, 7, 0, 0, 0, 0, []),
  (66, .goto 10, 3, 76, 0, 0, 0, 0, []), (69, .iload 5, 2, 5, 0, 0, 0, 0, []), (71, .iload 7, 2, 7, 0, 0, 0, 0, []), (73, .invokestatic 209, 3, 276, 2, 1, 2055, 0, []), (76, .istore 5, 2, 5, 0, 0, 0, 0, []), (78, .iinc 6 1, 3, 6, 0, 0, 0, 1, []),
  (81, .goto (-72), 3, 9, 0, 0, 0, 0, []), (84, .iload_n 3, 1, 3, 0, 0, 0, 0, []), (85, .ifCond .eq 8, 3, 93, 0, 0, 0, 0, []), (88, .iload 5, 2, 5, 0, 0, 0, 0, []), (90, .goto 5, 3, 95, 0, 0, 0, 0, []), (93, .iload 4, 2, 4, 0, 0, 0, 0, []),
  (95, .ireturn, 1, 0, 0, 1, 0, 0, [])]
noncomputable def am_s48 : am_S := (yX5_countVotes, cX5_countVotes, 4, none, 1, 0, 2, 5, 2078, 2077, 45, 513)
noncomputable def am_c48 : List (Nat × am_E) := [(0, .iconst 0, 1, 0, 0, 0, 0, 0, []), (1, .istore_n 2, 1, 2, 0, 0, 0, 0, []), (2, .iload_n 2, 1, 2, 0, 0, 0, 0, []), (3, .bipush 8, 2, 0, 0, 0, 0, 8, []), (5, .if_icmp .ge 16, 3, 21, 0, 0, 0, 0, []), (8, .aload_n 0, 1, 0, 0, 0, 0, 0, []),
  (9, .getfield 54, 3, 5, 13, 3, 1120, 0, []), (12, .iload_n 2, 1, 2, 0, 0, 0, 0, []), (13, .iconst 0, 1, 0, 0, 0, 0, 0, []), (14, .iastore, 1, 0, 0, 0, 0, 0, []), (15, .iinc 2 1, 3, 2, 0, 0, 0, 1, []), (18, .goto (-16), 3, 2, 0, 0, 0, 0, []),
  (21, .iconst 0, 1, 0, 0, 0, 0, 0, []), (22, .istore_n 2, 1, 2, 0, 0, 0, 0, []), (23, .iload_n 2, 1, 2, 0, 0, 0, 0, []), (24, .aload_n 0, 1, 0, 0, 0, 0, 0, []), (25, .getfield 71, 3, 5, 3, 3, 1110, 0, []), (28, .getfield 94, 3, 1, 0, 3, 1083, 0, []),
  (31, .getfield 119, 3, 2, 0, 3, 551, 0, []), (34, .iconst 2, 1, 0, 0, 0, 0, 2, []), (35, .iaload, 1, 0, 0, 0, 0, 0, []), (36, .if_icmp .ge 49, 3, 85, 0, 0, 0, 0, []), (39, .iload_n 1, 1, 1, 0, 0, 0, 0, []), (40, .iload_n 2, 1, 2, 0, 0, 0, 0, []),
  (41, .ishr, 1, 0, 0, 0, 0, 0, []), (42, .iconst 1, 1, 0, 0, 0, 0, 1, []), (43, .iand, 1, 0, 0, 0, 0, 0, []), (44, .iconst 1, 1, 0, 0, 0, 0, 1, []), (45, .if_icmp .ne 17, 3, 62, 0, 0, 0, 0, []), (48, .aload_n 0, 1, 0, 0, 0, 0, 0, []),
  (49, .getfield 71, 3, 5, 3, 3, 1110, 0, []), (52, .getfield 94, 3, 1, 0, 3, 1083, 0, []), (55, .iload_n 2, 1, 2, 0, 0, 0, 0, []), (56, .invokevirtual 301, 3, 89, 2, 1, 2079, 2, []), (59, .goto 4, 3, 63, 0, 0, 0, 0, []), (62, .iconst (-1), 1, 0, 0, 0, 0, (-1), []),
  (63, .istore_n 3, 1, 3, 0, 0, 0, 0, []), (64, .iload_n 3, 1, 3, 0, 0, 0, 0, []), (65, .iconst (-1), 1, 0, 0, 0, 0, (-1), []), (66, .if_icmp .eq 13, 3, 79, 0, 0, 0, 0, []), (69, .aload_n 0, 1, 0, 0, 0, 0, 0, []), (70, .getfield 54, 3, 5, 13, 3, 1120, 0, []),
  (73, .iload_n 3, 1, 3, 0, 0, 0, 0, []), (74, .dup2, 1, 0, 0, 0, 0, 0, []), (75, .iaload, 1, 0, 0, 0, 0, 0, []), (76, .iconst 1, 1, 0, 0, 0, 0, 1, []), (77, .iadd, 1, 0, 0, 0, 0, 0, []), (78, .iastore, 1, 0, 0, 0, 0, 0, []),
  (79, .iinc 2 1, 3, 2, 0, 0, 0, 1, []), (82, .goto (-59), 3, 23, 0, 0, 0, 0, []), (85, .return_, 1, 0, 0, 0, 0, 0, [])]
noncomputable def am_s49 : am_S := (yX5_toldHours, cX5_toldHours, 3, (some .int), 1, 1, 1, 5, 2103, 2102, 47, 513)
noncomputable def am_c49 : List (Nat × am_E) := [(0, .iconst 0, 1, 0, 0, 0, 0, 0, []), (1, .istore_n 1, 1, 1, 0, 0, 0, 0, []), (2, .iconst 0, 1, 0, 0, 0, 0, 0, []), (3, .istore_n 2, 1, 2, 0, 0, 0, 0, []), (4, .iload_n 2, 1, 2, 0, 0, 0, 0, []), (5, .aload_n 0, 1, 0, 0, 0, 0, 0, []),
  (6, .getfield 42, 3, 5, 9, 1, 1116, 0, []), (9, .if_icmp .ge 24, 3, 33, 0, 0, 0, 0, []), (12, .iload_n 1, 1, 1, 0, 0, 0, 0, []), (13, .aload_n 0, 1, 0, 0, 0, 0, 0, []), (14, .getfield 39, 3, 5, 8, 3, 1115, 0, []), (17, .iconst 3, 1, 0, 0, 0, 0, 3, []),
  (18, .iload_n 2, 1, 2, 0, 0, 0, 0, []), (19, .imul, 1, 0, 0, 0, 0, 0, []), (20, .iaload, 1, 0, 0, 0, 0, 0, []), (21, .iconst 1, 1, 0, 0, 0, 0, 1, []), (22, .iadd, 1, 0, 0, 0, 0, 0, []), (23, .invokestatic 304, 3, 274, 2, 1, 2104, 0, []),
  (26, .istore_n 1, 1, 1, 0, 0, 0, 0, []), (27, .iinc 2 1, 3, 2, 0, 0, 0, 1, []), (30, .goto (-26), 3, 4, 0, 0, 0, 0, []), (33, .iload_n 1, 1, 1, 0, 0, 0, 0, []), (34, .ireturn, 1, 0, 0, 1, 0, 0, [])]
noncomputable def am_s50 : am_S := (yX5_isAsTold, cX5_isAsTold, 6, (some .boolean), 1, 4, 3, 5, 2108, 2107, 48, 513)
noncomputable def am_c50 : List (Nat × am_E) := [(0, .aload_n 0, 1, 0, 0, 0, 0, 0, []), (1, .getfield 75, 3, 5, 4, 3, 1111, 0, []), (4, .aload_n 0, 1, 0, 0, 0, 0, 0, []), (5, .getfield 71, 3, 5, 3, 3, 1110, 0, []), (8, .iload_n 1, 1, 1, 0, 0, 0, 0, []), (9, .invokevirtual 297, 3, 72, 3, 0, 1718, 1, []),
  (12, .iconst 0, 1, 0, 0, 0, 0, 0, []), (13, .istore_n 3, 1, 3, 0, 0, 0, 0, []), (14, .iload_n 3, 1, 3, 0, 0, 0, 0, []), (15, .iload_n 2, 1, 2, 0, 0, 0, 0, []), (16, .if_icmp .ge 97, 3, 113, 0, 0, 0, 0, []), (19, .aload_n 0, 1, 0, 0, 0, 0, 0, []),
  (20, .getfield 75, 3, 5, 4, 3, 1111, 0, []), (23, .invokevirtual 214, 3, 73, 1, 1, 1729, 1, []), (26, .pop, 1, 0, 0, 0, 0, 0, []), (27, .iconst 0, 1, 0, 0, 0, 0, 0, []), (28, .istore 4, 2, 4, 0, 0, 0, 0, []), (30, .iload 4, 2, 4, 0, 0, 0, 0, []),
  (32, .aload_n 0, 1, 0, 0, 0, 0, 0, []), (33, .getfield 42, 3, 5, 9, 1, 1116, 0, []), (36, .if_icmp .ge 71, 3, 107, 0, 0, 0, 0, []), (39, .aload_n 0, 1, 0, 0, 0, 0, 0, []), (40, .getfield 39, 3, 5, 8, 3, 1115, 0, []), (43, .iconst 3, 1, 0, 0, 0, 0, 3, []),
  (44, .iload 4, 2, 4, 0, 0, 0, 0, []), (46, .imul, 1, 0, 0, 0, 0, 0, []), (47, .iaload, 1, 0, 0, 0, 0, 0, []), (48, .iload_n 3, 1, 3, 0, 0, 0, 0, []), (49, .if_icmp .ne 7, 3, 56, 0, 0, 0, 0, []), (52, .iconst 1, 1, 0, 0, 0, 0, 1, []),
  (53, .goto 4, 3, 57, 0, 0, 0, 0, []), (56, .iconst 0, 1, 0, 0, 0, 0, 0, []), (57, .istore 5, 2, 5, 0, 0, 0, 0, []), (59, .iload 5, 2, 5, 0, 0, 0, 0, []), (61, .ifCond .eq 40, 3, 101, 0, 0, 0, 0, []), (64, .aload_n 0, 1, 0, 0, 0, 0, 0, []),
  (65, .getfield 75, 3, 5, 4, 3, 1111, 0, []), (68, .getfield 307, 3, 1, 4, 1, 1091, 0, []), (71, .aload_n 0, 1, 0, 0, 0, 0, 0, []), (72, .getfield 39, 3, 5, 8, 3, 1115, 0, []), (75, .iconst 3, 1, 0, 0, 0, 0, 3, []), (76, .iload 4, 2, 4, 0, 0, 0, 0, []),
  (78, .imul, 1, 0, 0, 0, 0, 0, []), (79, .iconst 1, 1, 0, 0, 0, 0, 1, []), (80, .iadd, 1, 0, 0, 0, 0, 0, []), (81, .iaload, 1, 0, 0, 0, 0, 0, []), (82, .ishr, 1, 0, 0, 0, 0, 0, []), (83, .iconst 1, 1, 0, 0, 0, 0, 1, []),
  (84, .iand, 1, 0, 0, 0, 0, 0, []), (85, .aload_n 0, 1, 0, 0, 0, 0, 0, []), (86, .getfield 39, 3, 5, 8, 3, 1115, 0, []), (89, .iconst 3, 1, 0, 0, 0, 0, 3, []), (90, .iload 4, 2, 4, 0, 0, 0, 0, []), (92, .imul, 1, 0, 0, 0, 0, 0, []),
  (93, .iconst 2, 1, 0, 0, 0, 0, 2, []), (94, .iadd, 1, 0, 0, 0, 0, 0, []), (95, .iaload, 1, 0, 0, 0, 0, 0, []), (96, .if_icmp .eq 5, 3, 101, 0, 0, 0, 0, []), (99, .iconst 0, 1, 0, 0, 0, 0, 0, []), (100, .ireturn, 1, 0, 0, 4, 0, 0, []),
  (101, .iinc 4 1, 3, 4, 0, 0, 0, 1, []), (104, .goto (-74), 3, 30, 0, 0, 0, 0, []), (107, .iinc 3 1, 3, 3, 0, 0, 0, 1, []), (110, .goto (-96), 3, 14, 0, 0, 0, 0, []), (113, .iconst 1, 1, 0, 0, 0, 0, 1, []), (114, .ireturn, 1, 0, 0, 4, 0, 0, [])]
noncomputable def am_s51 : am_S := (yX5_strangerSees, cX5_strangerSees, 3, (some .boolean), 1, 4, 1, 5, 2133, 2132, 50, 513)
noncomputable def am_c51 : List (Nat × am_E) := [(0, .aload_n 0, 1, 0, 0, 0, 0, 0, []), (1, .getfield 71, 3, 5, 3, 3, 1110, 0, []), (4, .getfield 94, 3, 1, 0, 3, 1083, 0, []), (7, .getfield 119, 3, 2, 0, 3, 551, 0, []), (10, .iconst 1, 1, 0, 0, 0, 0, 1, []), (11, .iaload, 1, 0, 0, 0, 0, 0, []),
  (12, .istore_n 1, 1, 1, 0, 0, 0, 0, []), (13, .aload_n 0, 1, 0, 0, 0, 0, 0, []), (14, .bipush 100, 2, 0, 0, 0, 0, 100, []), (16, .invokevirtual 310, 3, 52, 2, 1, 2134, 5, []), (19, .aload_n 0, 1, 0, 0, 0, 0, 0, []), (20, .getfield 71, 3, 5, 3, 3, 1110, 0, []),
  (23, .getfield 94, 3, 1, 0, 3, 1083, 0, []), (26, .getfield 313, 3, 2, 11, 1, 588, 0, []), (29, .if_icmp .ge 7, 3, 36, 0, 0, 0, 0, []), (32, .iload_n 1, 1, 1, 0, 0, 0, 0, []), (33, .ifCond .ne 5, 3, 38, 0, 0, 0, 0, []), (36, .iconst 0, 1, 0, 0, 0, 0, 0, []),
  (37, .ireturn, 1, 0, 0, 4, 0, 0, []), (38, .aload_n 0, 1, 0, 0, 0, 0, 0, []), (39, .iload_n 1, 1, 1, 0, 0, 0, 0, []), (40, .invokevirtual 310, 3, 52, 2, 1, 2134, 5, []), (43, .istore_n 2, 1, 2, 0, 0, 0, 0, []), (44, .aload_n 0, 1, 0, 0, 0, 0, 0, []),
  (45, .getfield 71, 3, 5, 3, 3, 1110, 0, []), (48, .getfield 99, 3, 1, 1, 3, 1085, 0, []), (51, .getfield 168, 3, 0, 3, 3, 1043, 0, []), (54, .iload_n 2, 1, 2, 0, 0, 0, 0, []), (55, .iaload, 1, 0, 0, 0, 0, 0, []), (56, .aload_n 0, 1, 0, 0, 0, 0, 0, []),
  (57, .getfield 71, 3, 5, 3, 3, 1110, 0, []), (60, .getfield 94, 3, 1, 0, 3, 1083, 0, []), (63, .getfield 147, 3, 2, 2, 3, 558, 0, []), (66, .iload_n 2, 1, 2, 0, 0, 0, 0, []), (67, .iaload, 1, 0, 0, 0, 0, 0, []), (68, .if_icmp .lt 5, 3, 73, 0, 0, 0, 0, []),
  (71, .iconst 0, 1, 0, 0, 0, 0, 0, []), (72, .ireturn, 1, 0, 0, 4, 0, 0, []), (73, .aload_n 0, 1, 0, 0, 0, 0, 0, []), (74, .getfield 71, 3, 5, 3, 3, 1110, 0, []), (77, .iconst 0, 1, 0, 0, 0, 0, 0, []), (78, .iload_n 2, 1, 2, 0, 0, 0, 0, []),
  (79, .bipush 9, 2, 0, 0, 0, 0, 9, []), (81, .invokevirtual 316, 3, 77, 4, 0, 2141, 1, []), (84, .iconst 1, 1, 0, 0, 0, 0, 1, []), (85, .ireturn, 1, 0, 0, 4, 0, 0, [])]
noncomputable def am_s52 : am_S := (yX5_draw, cX5_draw, 2, (some .int), 1, 1, 2, 5, 2137, 2136, 51, 513)
noncomputable def am_c52 : List (Nat × am_E) := [(0, .aload_n 0, 1, 0, 0, 0, 0, 0, []), (1, .ldc2_w 320, 3, 0, 0, 0, 2138, 1103515245, []), (4, .aload_n 0, 1, 0, 0, 0, 0, 0, []), (5, .getfield 60, 3, 5, 15, 1, 1122, 0, []), (8, .i2l, 1, 0, 0, 0, 0, 0, []), (9, .lmul, 1, 0, 0, 0, 0, 0, []),
  (10, .ldc2_w 322, 3, 0, 0, 0, 2139, 12345, []), (13, .ladd, 1, 0, 0, 0, 0, 0, []), (14, .ldc2_w 324, 3, 0, 0, 0, 2140, 2147483647, []), (17, .land, 1, 0, 0, 0, 0, 0, []), (18, .l2i, 1, 0, 0, 0, 0, 0, []), (19, .putfield 60, 3, 5, 15, 1, 1122, 0, []),
  (22, .iload_n 1, 1, 1, 0, 0, 0, 0, []), (23, .iconst 1, 1, 0, 0, 0, 0, 1, []), (24, .if_icmp .ge 7, 3, 31, 0, 0, 0, 0, []), (27, .iconst 0, 1, 0, 0, 0, 0, 0, []), (28, .goto 12, 3, 40, 0, 0, 0, 0, []), (31, .aload_n 0, 1, 0, 0, 0, 0, 0, []),
  (32, .getfield 60, 3, 5, 15, 1, 1122, 0, []), (35, .bipush 64, 2, 0, 0, 0, 0, 64, []), (37, .idiv, 1, 0, 0, 0, 0, 0, []), (38, .iload_n 1, 1, 1, 0, 0, 0, 0, []), (39, .irem, 1, 0, 0, 0, 0, 0, []), (40, .ireturn, 1, 0, 0, 1, 0, 0, [])]
noncomputable def am_s53 : am_S := (yX5_filmThatHolds, cX5_filmThatHolds, 6, (some .long), 1, 2, 3, 5, 2161, 2160, 52, 513)
noncomputable def am_c53 : List (Nat × am_E) := [(0, .aload_n 0, 1, 0, 0, 0, 0, 0, []), (1, .getfield 71, 3, 5, 3, 3, 1110, 0, []), (4, .getfield 94, 3, 1, 0, 3, 1083, 0, []), (7, .getfield 119, 3, 2, 0, 3, 551, 0, []), (10, .iconst 1, 1, 0, 0, 0, 0, 1, []), (11, .iaload, 1, 0, 0, 0, 0, 0, []),
  (12, .istore_n 3, 1, 3, 0, 0, 0, 0, []), (13, .iconst 0, 1, 0, 0, 0, 0, 0, []), (14, .istore 4, 2, 4, 0, 0, 0, 0, []), (16, .iload 4, 2, 4, 0, 0, 0, 0, []), (18, .iload_n 3, 1, 3, 0, 0, 0, 0, []), (19, .if_icmp .ge 50, 3, 69, 0, 0, 0, 0, []),
  (22, .iload_n 2, 1, 2, 0, 0, 0, 0, []), (23, .ifCond .eq 8, 3, 31, 0, 0, 0, 0, []), (26, .iload 4, 2, 4, 0, 0, 0, 0, []), (28, .goto 9, 3, 37, 0, 0, 0, 0, []), (31, .iload_n 3, 1, 3, 0, 0, 0, 0, []), (32, .iconst 1, 1, 0, 0, 0, 0, 1, []),
  (33, .isub, 1, 0, 0, 0, 0, 0, []), (34, .iload 4, 2, 4, 0, 0, 0, 0, []), (36, .isub, 1, 0, 0, 0, 0, 0, []), (37, .istore 5, 2, 5, 0, 0, 0, 0, []), (39, .aload_n 0, 1, 0, 0, 0, 0, 0, []), (40, .getfield 71, 3, 5, 3, 3, 1110, 0, []),
  (43, .aload_n 0, 1, 0, 0, 0, 0, 0, []), (44, .getfield 12, 3, 5, 0, 3, 1107, 0, []), (47, .getfield 326, 3, 4, 4, 3, 693, 0, []), (50, .iload_n 1, 1, 1, 0, 0, 0, 0, []), (51, .iload 5, 2, 5, 0, 0, 0, 0, []), (53, .invokevirtual 329, 3, 78, 4, 1, 2162, 1, []),
  (56, .ifCond .eq 7, 3, 63, 0, 0, 0, 0, []), (59, .iload 5, 2, 5, 0, 0, 0, 0, []), (61, .i2l, 1, 0, 0, 0, 0, 0, []), (62, .lreturn, 1, 0, 0, 2, 0, 0, []), (63, .iinc 4 1, 3, 4, 0, 0, 0, 1, []), (66, .goto (-50), 3, 16, 0, 0, 0, 0, []),
  (69, .ldc2_w 333, 3, 0, 0, 0, 2166, (-1), []), (72, .lreturn, 1, 0, 0, 2, 0, 0, [])]
noncomputable def am_s54 : am_S := (yX5_totalOf, cX5_totalOf, 5, (some .long), 1, 2, 2, 5, 2170, 2169, 53, 513)
noncomputable def am_c54 : List (Nat × am_E) := [(0, .lconst 0, 1, 0, 0, 0, 0, 0, []), (1, .lstore_n 2, 1, 2, 0, 0, 0, 0, []), (2, .iconst 0, 1, 0, 0, 0, 0, 0, []), (3, .istore 4, 2, 4, 0, 0, 0, 0, []), (5, .iload 4, 2, 4, 0, 0, 0, 0, []), (7, .aload_n 0, 1, 0, 0, 0, 0, 0, []),
  (8, .getfield 71, 3, 5, 3, 3, 1110, 0, []), (11, .getfield 94, 3, 1, 0, 3, 1083, 0, []), (14, .getfield 119, 3, 2, 0, 3, 551, 0, []), (17, .iconst 1, 1, 0, 0, 0, 0, 1, []), (18, .iaload, 1, 0, 0, 0, 0, 0, []), (19, .if_icmp .ge 30, 3, 49, 0, 0, 0, 0, []),
  (22, .lload_n 2, 1, 2, 0, 0, 0, 0, []), (23, .aload_n 0, 1, 0, 0, 0, 0, 0, []), (24, .getfield 71, 3, 5, 3, 3, 1110, 0, []), (27, .aload_n 0, 1, 0, 0, 0, 0, 0, []), (28, .getfield 12, 3, 5, 0, 3, 1107, 0, []), (31, .getfield 326, 3, 4, 4, 3, 693, 0, []),
  (34, .iload_n 1, 1, 1, 0, 0, 0, 0, []), (35, .iload 4, 2, 4, 0, 0, 0, 0, []), (37, .invokevirtual 329, 3, 78, 4, 1, 2162, 1, []), (40, .i2l, 1, 0, 0, 0, 0, 0, []), (41, .ladd, 1, 0, 0, 0, 0, 0, []), (42, .lstore_n 2, 1, 2, 0, 0, 0, 0, []),
  (43, .iinc 4 1, 3, 4, 0, 0, 0, 1, []), (46, .goto (-41), 3, 5, 0, 0, 0, 0, []), (49, .lload_n 2, 1, 2, 0, 0, 0, 0, []), (50, .lreturn, 1, 0, 0, 2, 0, 0, [])]
noncomputable def am_s55 : am_S := (yX5_extremeOf, cX5_extremeOf, 6, (some .long), 1, 2, 3, 5, 2174, 2173, 54, 513)
noncomputable def am_c55 : List (Nat × am_E) := [(0, .iconst 0, 1, 0, 0, 0, 0, 0, []), (1, .istore_n 3, 1, 3, 0, 0, 0, 0, []), (2, .iconst 0, 1, 0, 0, 0, 0, 0, []), (3, .istore 4, 2, 4, 0, 0, 0, 0, []), (5, .iload 4, 2, 4, 0, 0, 0, 0, []), (7, .aload_n 0, 1, 0, 0, 0, 0, 0, []),
  (8, .getfield 71, 3, 5, 3, 3, 1110, 0, []), (11, .getfield 94, 3, 1, 0, 3, 1083, 0, []), (14, .getfield 119, 3, 2, 0, 3, 551, 0, []), (17, .iconst 1, 1, 0, 0, 0, 0, 1, []), (18, .iaload, 1, 0, 0, 0, 0, 0, []), (19, .if_icmp .ge 55, 3, 74, 0, 0, 0, 0, []),
  (22, .aload_n 0, 1, 0, 0, 0, 0, 0, []), (23, .getfield 71, 3, 5, 3, 3, 1110, 0, []), (26, .aload_n 0, 1, 0, 0, 0, 0, 0, []), (27, .getfield 12, 3, 5, 0, 3, 1107, 0, []), (30, .getfield 326, 3, 4, 4, 3, 693, 0, []), (33, .iload_n 1, 1, 1, 0, 0, 0, 0, []),
  (34, .iload 4, 2, 4, 0, 0, 0, 0, []), (36, .invokevirtual 329, 3, 78, 4, 1, 2162, 1, []), (39, .istore 5, 2, 5, 0, 0, 0, 0, []), (41, .iload 4, 2, 4, 0, 0, 0, 0, []), (43, .ifCond .eq 22, 3, 65, 0, 0, 0, 0, []), (46, .iload_n 2, 1, 2, 0, 0, 0, 0, []),
  (47, .ifCond .eq 12, 3, 59, 0, 0, 0, 0, []), (50, .iload 5, 2, 5, 0, 0, 0, 0, []), (52, .iload_n 3, 1, 3, 0, 0, 0, 0, []), (53, .if_icmp .le 15, 3, 68, 0, 0, 0, 0, []), (56, .goto 9, 3, 65, 0, 0, 0, 0, []), (59, .iload 5, 2, 5, 0, 0, 0, 0, []),
  (61, .iload_n 3, 1, 3, 0, 0, 0, 0, []), (62, .if_icmp .ge 6, 3, 68, 0, 0, 0, 0, []), (65, .iload 5, 2, 5, 0, 0, 0, 0, []), (67, .istore_n 3, 1, 3, 0, 0, 0, 0, []), (68, .iinc 4 1, 3, 4, 0, 0, 0, 1, []), (71, .goto (-66), 3, 5, 0, 0, 0, 0, []),
  (74, .iload_n 3, 1, 3, 0, 0, 0, 0, []), (75, .i2l, 1, 0, 0, 0, 0, 0, []), (76, .lreturn, 1, 0, 0, 2, 0, 0, [])]
noncomputable def am_s56 : am_S := (yX5_putTwo, cX5_putTwo, 2, none, 1, 0, 2, 5, 2182, 2181, 55, 513)
noncomputable def am_c56 : List (Nat × am_E) := [(0, .aload_n 0, 1, 0, 0, 0, 0, 0, []), (1, .iload_n 1, 1, 1, 0, 0, 0, 0, []), (2, .bipush 8, 2, 0, 0, 0, 0, 8, []), (4, .ishr, 1, 0, 0, 0, 0, 0, []), (5, .invokevirtual 276, 3, 57, 2, 0, 2183, 5, []), (8, .aload_n 0, 1, 0, 0, 0, 0, 0, []),
  (9, .iload_n 1, 1, 1, 0, 0, 0, 0, []), (10, .sipush 255, 3, 0, 0, 0, 0, 255, []), (13, .iand, 1, 0, 0, 0, 0, 0, []), (14, .invokevirtual 276, 3, 57, 2, 0, 2183, 5, []), (17, .return_, 1, 0, 0, 0, 0, 0, [])]
noncomputable def am_s57 : am_S := (yX5_putByte, cX5_putByte, 2, none, 1, 0, 2, 5, 2186, 2185, 56, 513)
noncomputable def am_c57 : List (Nat × am_E) := [(0, .aload_n 0, 1, 0, 0, 0, 0, 0, []), (1, .getfield 48, 3, 5, 11, 1, 1118, 0, []), (4, .sipush 139, 3, 0, 0, 0, 0, 139, []), (7, .if_icmp .ge 23, 3, 30, 0, 0, 0, 0, []), (10, .aload_n 0, 1, 0, 0, 0, 0, 0, []), (11, .getfield 45, 3, 5, 10, 3, 1117, 0, []),
  (14, .aload_n 0, 1, 0, 0, 0, 0, 0, []), (15, .getfield 48, 3, 5, 11, 1, 1118, 0, []), (18, .iload_n 1, 1, 1, 0, 0, 0, 0, []), (19, .iastore, 1, 0, 0, 0, 0, 0, []), (20, .aload_n 0, 1, 0, 0, 0, 0, 0, []), (21, .dup, 1, 0, 0, 0, 0, 0, []),
  (22, .getfield 48, 3, 5, 11, 1, 1118, 0, []), (25, .iconst 1, 1, 0, 0, 0, 0, 1, []), (26, .iadd, 1, 0, 0, 0, 0, 0, []), (27, .putfield 48, 3, 5, 11, 1, 1118, 0, []), (30, .return_, 1, 0, 0, 0, 0, 0, [])]
noncomputable def am_s58 : am_S := (yX5_checkByte, cX5_checkByte, 5, (some .int), 1, 1, 3, 5, 2190, 2189, 57, 513)
noncomputable def am_c58 : List (Nat × am_E) := [(0, .bipush 53, 2, 0, 0, 0, 0, 53, []), (2, .istore_n 3, 1, 3, 0, 0, 0, 0, []), (3, .iconst 0, 1, 0, 0, 0, 0, 0, []), (4, .istore 4, 2, 4, 0, 0, 0, 0, []), (6, .iload 4, 2, 4, 0, 0, 0, 0, []), (8, .iload_n 2, 1, 2, 0, 0, 0, 0, []),
  (9, .if_icmp .ge 29, 3, 38, 0, 0, 0, 0, []), (12, .iload 4, 2, 4, 0, 0, 0, 0, []), (14, .aload_n 1, 1, 1, 0, 0, 0, 0, []), (15, .arraylength, 1, 0, 0, 0, 0, 0, []), (16, .if_icmp .ge 22, 3, 38, 0, 0, 0, 0, []), (19, .iconst 3, 1, 0, 0, 0, 0, 3, []),
  (20, .iload_n 3, 1, 3, 0, 0, 0, 0, []), (21, .imul, 1, 0, 0, 0, 0, 0, []), (22, .aload_n 1, 1, 1, 0, 0, 0, 0, []), (23, .iload 4, 2, 4, 0, 0, 0, 0, []), (25, .iaload, 1, 0, 0, 0, 0, 0, []), (26, .iadd, 1, 0, 0, 0, 0, 0, []),
  (27, .sipush 251, 3, 0, 0, 0, 0, 251, []), (30, .irem, 1, 0, 0, 0, 0, 0, []), (31, .istore_n 3, 1, 3, 0, 0, 0, 0, []), (32, .iinc 4 1, 3, 4, 0, 0, 0, 1, []), (35, .goto (-29), 3, 6, 0, 0, 0, 0, []), (38, .iload_n 3, 1, 3, 0, 0, 0, 0, []),
  (39, .ireturn, 1, 0, 0, 1, 0, 0, [])]
noncomputable def am_s59 : am_S := (yX5_lengthOfImage, cX5_lengthOfImage, 3, (some .int), 1, 1, 1, 5, 2202, 2201, 58, 513)
noncomputable def am_c59 : List (Nat × am_E) := [(0, .aload_n 0, 1, 0, 0, 0, 0, 0, []), (1, .getfield 71, 3, 5, 3, 3, 1110, 0, []), (4, .getfield 94, 3, 1, 0, 3, 1083, 0, []), (7, .getfield 119, 3, 2, 0, 3, 551, 0, []), (10, .iconst 2, 1, 0, 0, 0, 0, 2, []), (11, .iaload, 1, 0, 0, 0, 0, 0, []),
  (12, .istore_n 1, 1, 1, 0, 0, 0, 0, []), (13, .iconst 2, 1, 0, 0, 0, 0, 2, []), (14, .aload_n 0, 1, 0, 0, 0, 0, 0, []), (15, .getfield 71, 3, 5, 3, 3, 1110, 0, []), (18, .getfield 94, 3, 1, 0, 3, 1083, 0, []), (21, .getfield 119, 3, 2, 0, 3, 551, 0, []),
  (24, .iconst 0, 1, 0, 0, 0, 0, 0, []), (25, .iaload, 1, 0, 0, 0, 0, 0, []), (26, .imul, 1, 0, 0, 0, 0, 0, []), (27, .aload_n 0, 1, 0, 0, 0, 0, 0, []), (28, .getfield 71, 3, 5, 3, 3, 1110, 0, []), (31, .getfield 94, 3, 1, 0, 3, 1083, 0, []),
  (34, .getfield 119, 3, 2, 0, 3, 551, 0, []), (37, .iconst 1, 1, 0, 0, 0, 0, 1, []), (38, .iaload, 1, 0, 0, 0, 0, 0, []), (39, .iadd, 1, 0, 0, 0, 0, 0, []), (40, .istore_n 2, 1, 2, 0, 0, 0, 0, []), (41, .iconst 4, 1, 0, 0, 0, 0, 4, []),
  (42, .iload_n 1, 1, 1, 0, 0, 0, 0, []), (43, .iconst 1, 1, 0, 0, 0, 0, 1, []), (44, .iadd, 1, 0, 0, 0, 0, 0, []), (45, .iload_n 2, 1, 2, 0, 0, 0, 0, []), (46, .imul, 1, 0, 0, 0, 0, 0, []), (47, .iadd, 1, 0, 0, 0, 0, 0, []),
  (48, .iconst 3, 1, 0, 0, 0, 0, 3, []), (49, .iload_n 1, 1, 1, 0, 0, 0, 0, []), (50, .imul, 1, 0, 0, 0, 0, 0, []), (51, .iadd, 1, 0, 0, 0, 0, 0, []), (52, .ireturn, 1, 0, 0, 1, 0, 0, [])]
noncomputable def am_s60 : am_S := (yX5_tapeByte, cX5_tapeByte, 2, (some .int), 1, 1, 2, 5, 2206, 2205, 59, 513)
noncomputable def am_c60 : List (Nat × am_E) := [(0, .iload_n 1, 1, 1, 0, 0, 0, 0, []), (1, .ifCond .lt 19, 3, 20, 0, 0, 0, 0, []), (4, .iload_n 1, 1, 1, 0, 0, 0, 0, []), (5, .sipush 1600, 3, 0, 0, 0, 0, 1600, []), (8, .if_icmp .ge 12, 3, 20, 0, 0, 0, 0, []), (11, .aload_n 0, 1, 0, 0, 0, 0, 0, []),
  (12, .getfield 20, 3, 5, 1, 3, 1108, 0, []), (15, .iload_n 1, 1, 1, 0, 0, 0, 0, []), (16, .iaload, 1, 0, 0, 0, 0, 0, []), (17, .goto 4, 3, 21, 0, 0, 0, 0, []), (20, .iconst 0, 1, 0, 0, 0, 0, 0, []), (21, .ireturn, 1, 0, 0, 1, 0, 0, [])]
noncomputable def am_s61 : am_S := (yX5_tapeTwo, cX5_tapeTwo, 2, (some .int), 1, 1, 2, 5, 2214, 2213, 61, 513)
noncomputable def am_c61 : List (Nat × am_E) := [(0, .aload_n 0, 1, 0, 0, 0, 0, 0, []), (1, .iload_n 1, 1, 1, 0, 0, 0, 0, []), (2, .invokevirtual 286, 3, 60, 2, 1, 2203, 5, []), (5, .sipush 256, 3, 0, 0, 0, 0, 256, []), (8, .imul, 1, 0, 0, 0, 0, 0, []), (9, .aload_n 0, 1, 0, 0, 0, 0, 0, []),
  (10, .iload_n 1, 1, 1, 0, 0, 0, 0, []), (11, .iconst 1, 1, 0, 0, 0, 0, 1, []), (12, .iadd, 1, 0, 0, 0, 0, 0, []), (13, .invokevirtual 286, 3, 60, 2, 1, 2203, 5, []), (16, .iadd, 1, 0, 0, 0, 0, 0, []), (17, .ireturn, 1, 0, 0, 1, 0, 0, [])]
noncomputable def am_s62 : am_S := (yX5_readProfiles, cX5_readProfiles, 8, (some .boolean), 1, 4, 2, 5, 2210, 2209, 60, 513)
noncomputable def am_c62_0 : List (Nat × am_E) := [(0, .aload_n 1, 1, 1, 0, 0, 0, 0, []), (1, .invokevirtual 103, 3, 65, 1, 0, 1579, 0, []), (4, .aload_n 0, 1, 0, 0, 0, 0, 0, []), (5, .iconst 0, 1, 0, 0, 0, 0, 0, []), (6, .invokevirtual 335, 3, 61, 2, 1, 2211, 5, []), (9, .istore_n 2, 1, 2, 0, 0, 0, 0, []),
  (10, .aload_n 0, 1, 0, 0, 0, 0, 0, []), (11, .iconst 2, 1, 0, 0, 0, 0, 2, []), (12, .invokevirtual 286, 3, 60, 2, 1, 2203, 5, []), (15, .istore_n 3, 1, 3, 0, 0, 0, 0, []), (16, .iload_n 2, 1, 2, 0, 0, 0, 0, []), (17, .sipush 999, 3, 0, 0, 0, 0, 999, []),
  (20, .if_icmp .gt 13, 3, 33, 0, 0, 0, 0, []), (23, .iload_n 3, 1, 3, 0, 0, 0, 0, []), (24, .bipush 24, 2, 0, 0, 0, 0, 24, []), (26, .if_icmp .ge 7, 3, 33, 0, 0, 0, 0, []), (29, .iconst 1, 1, 0, 0, 0, 0, 1, []), (30, .goto 4, 3, 34, 0, 0, 0, 0, []),
  (33, .iconst 0, 1, 0, 0, 0, 0, 0, []), (34, .istore 4, 2, 4, 0, 0, 0, 0, []), (36, .aload_n 1, 1, 1, 0, 0, 0, 0, []), (37, .iload 4, 2, 4, 0, 0, 0, 0, []), (39, .ifCond .eq 12, 3, 51, 0, 0, 0, 0, []), (42, .iload_n 2, 1, 2, 0, 0, 0, 0, []),
  (43, .bipush 24, 2, 0, 0, 0, 0, 24, []), (45, .imul, 1, 0, 0, 0, 0, 0, []), (46, .iload_n 3, 1, 3, 0, 0, 0, 0, []), (47, .iadd, 1, 0, 0, 0, 0, 0, []), (48, .goto 4, 3, 52, 0, 0, 0, 0, []), (51, .iconst 0, 1, 0, 0, 0, 0, 0, []),
  (52, .putfield 125, 3, 0, 0, 1, 1034, 0, []), (55, .iconst 3, 1, 0, 0, 0, 0, 3, []), (56, .istore 5, 2, 5, 0, 0, 0, 0, []), (58, .iconst 0, 1, 0, 0, 0, 0, 0, []), (59, .istore 6, 2, 6, 0, 0, 0, 0, []), (61, .iload 6, 2, 6, 0, 0, 0, 0, []),
  (63, .aload_n 0, 1, 0, 0, 0, 0, 0, []), (64, .getfield 71, 3, 5, 3, 3, 1110, 0, []), (67, .getfield 94, 3, 1, 0, 3, 1083, 0, []), (70, .getfield 119, 3, 2, 0, 3, 551, 0, []), (73, .iconst 2, 1, 0, 0, 0, 0, 2, []), (74, .iaload, 1, 0, 0, 0, 0, 0, []),
  (75, .if_icmp .gt 163, 3, 238, 0, 0, 0, 0, []), (78, .iconst 0, 1, 0, 0, 0, 0, 0, []), (79, .istore 7, 2, 7, 0, 0, 0, 0, []), (81, .iload 7, 2, 7, 0, 0, 0, 0, []), (83, .aload_n 0, 1, 0, 0, 0, 0, 0, []), (84, .getfield 71, 3, 5, 3, 3, 1110, 0, []),
  (87, .getfield 94, 3, 1, 0, 3, 1083, 0, []), (90, .getfield 119, 3, 2, 0, 3, 551, 0, []), (93, .iconst 0, 1, 0, 0, 0, 0, 0, []), (94, .iaload, 1, 0, 0, 0, 0, 0, []), (95, .if_icmp .ge 55, 3, 150, 0, 0, 0, 0, []), (98, .aload_n 1, 1, 1, 0, 0, 0, 0, []),
  (99, .getfield 165, 3, 0, 2, 3, 1040, 0, []), (102, .iload 6, 2, 6, 0, 0, 0, 0, []), (104, .bipush 6, 2, 0, 0, 0, 0, 6, []), (106, .imul, 1, 0, 0, 0, 0, 0, []), (107, .iload 7, 2, 7, 0, 0, 0, 0, []), (109, .iadd, 1, 0, 0, 0, 0, 0, []),
  (110, .aload_n 0, 1, 0, 0, 0, 0, 0, []), (111, .iload 5, 2, 5, 0, 0, 0, 0, []), (113, .invokevirtual 335, 3, 61, 2, 1, 2211, 5, []), (116, .iastore, 1, 0, 0, 0, 0, 0, []), (117, .iload 4, 2, 4, 0, 0, 0, 0, []), (119, .ifCond .eq 19, 3, 138, 0, 0, 0, 0, []),
  (122, .aload_n 0, 1, 0, 0, 0, 0, 0, []), (123, .iload 5, 2, 5, 0, 0, 0, 0, []), (125, .invokevirtual 335, 3, 61, 2, 1, 2211, 5, []), (128, .sipush 999, 3, 0, 0, 0, 0, 999, []), (131, .if_icmp .gt 7, 3, 138, 0, 0, 0, 0, []), (134, .iconst 1, 1, 0, 0, 0, 0, 1, []),
  (135, .goto 4, 3, 139, 0, 0, 0, 0, []), (138, .iconst 0, 1, 0, 0, 0, 0, 0, []), (139, .istore 4, 2, 4, 0, 0, 0, 0, []), (141, .iinc 5 2, 3, 5, 0, 0, 0, 2, []), (144, .iinc 7 1, 3, 7, 0, 0, 0, 1, []), (147, .goto (-66), 3, 81, 0, 0, 0, 0, []),
  (150, .iconst 0, 1, 0, 0, 0, 0, 0, []), (151, .istore 7, 2, 7, 0, 0, 0, 0, []), (153, .iload 7, 2, 7, 0, 0, 0, 0, []), (155, .aload_n 0, 1, 0, 0, 0, 0, 0, []), (156, .getfield 71, 3, 5, 3, 3, 1110, 0, []), (159, .getfield 94, 3, 1, 0, 3, 1083, 0, []),
  (162, .getfield 119, 3, 2, 0, 3, 551, 0, []), (165, .iconst 1, 1, 0, 0, 0, 0, 1, []), (166, .iaload, 1, 0, 0, 0, 0, 0, []), (167, .if_icmp .ge 65, 3, 232, 0, 0, 0, 0, []), (170, .aload_n 1, 1, 1, 0, 0, 0, 0, []), (171, .getfield 168, 3, 0, 3, 3, 1043, 0, []),
  (174, .iload 6, 2, 6, 0, 0, 0, 0, []), (176, .bipush 8, 2, 0, 0, 0, 0, 8, []), (178, .imul, 1, 0, 0, 0, 0, 0, []), (179, .iload 7, 2, 7, 0, 0, 0, 0, []), (181, .iadd, 1, 0, 0, 0, 0, 0, []), (182, .aload_n 0, 1, 0, 0, 0, 0, 0, []),
  (183, .iload 5, 2, 5, 0, 0, 0, 0, []), (185, .invokevirtual 286, 3, 60, 2, 1, 2203, 5, []), (188, .iastore, 1, 0, 0, 0, 0, 0, []), (189, .iload 4, 2, 4, 0, 0, 0, 0, [])]
noncomputable def am_c62_1 : List (Nat × am_E) := [(191, .ifCond .eq 29, 3, 220, 0, 0, 0, 0, []), (194, .aload_n 0, 1, 0, 0, 0, 0, 0, []), (195, .iload 5, 2, 5, 0, 0, 0, 0, []), (197, .invokevirtual 286, 3, 60, 2, 1, 2203, 5, []), (200, .aload_n 0, 1, 0, 0, 0, 0, 0, []), (201, .getfield 71, 3, 5, 3, 3, 1110, 0, []),
  (204, .getfield 94, 3, 1, 0, 3, 1083, 0, []), (207, .getfield 147, 3, 2, 2, 3, 558, 0, []), (210, .iload 7, 2, 7, 0, 0, 0, 0, []), (212, .iaload, 1, 0, 0, 0, 0, 0, []), (213, .if_icmp .gt 7, 3, 220, 0, 0, 0, 0, []), (216, .iconst 1, 1, 0, 0, 0, 0, 1, []),
  (217, .goto 4, 3, 221, 0, 0, 0, 0, []), (220, .iconst 0, 1, 0, 0, 0, 0, 0, []), (221, .istore 4, 2, 4, 0, 0, 0, 0, []), (223, .iinc 5 1, 3, 5, 0, 0, 0, 1, []), (226, .iinc 7 1, 3, 7, 0, 0, 0, 1, []), (229, .goto (-76), 3, 153, 0, 0, 0, 0, []),
  (232, .iinc 6 1, 3, 6, 0, 0, 0, 1, []), (235, .goto (-174), 3, 61, 0, 0, 0, 0, []), (238, .iload 4, 2, 4, 0, 0, 0, 0, []), (240, .ireturn, 1, 0, 0, 4, 0, 0, [])]
noncomputable def am_c62 : List (Nat × am_E) := am_c62_0 ++ (am_c62_1)
noncomputable def am_s63 : am_S := (yX5_readPeople, cX5_readPeople, 7, (some .boolean), 1, 4, 3, 5, 2218, 2217, 62, 513)
noncomputable def am_c63 : List (Nat × am_E) := [(0, .aload_n 0, 1, 0, 0, 0, 0, 0, []), (1, .getfield 71, 3, 5, 3, 3, 1110, 0, []), (4, .getfield 94, 3, 1, 0, 3, 1083, 0, []), (7, .getfield 119, 3, 2, 0, 3, 551, 0, []), (10, .iconst 2, 1, 0, 0, 0, 0, 2, []), (11, .iaload, 1, 0, 0, 0, 0, 0, []),
  (12, .istore_n 3, 1, 3, 0, 0, 0, 0, []), (13, .iconst 1, 1, 0, 0, 0, 0, 1, []), (14, .istore 4, 2, 4, 0, 0, 0, 0, []), (16, .iconst 0, 1, 0, 0, 0, 0, 0, []), (17, .istore 5, 2, 5, 0, 0, 0, 0, []), (19, .iload 5, 2, 5, 0, 0, 0, 0, []),
  (21, .iload_n 3, 1, 3, 0, 0, 0, 0, []), (22, .if_icmp .ge 88, 3, 110, 0, 0, 0, 0, []), (25, .iload_n 2, 1, 2, 0, 0, 0, 0, []), (26, .iconst 3, 1, 0, 0, 0, 0, 3, []), (27, .iload_n 3, 1, 3, 0, 0, 0, 0, []), (28, .iload 5, 2, 5, 0, 0, 0, 0, []),
  (30, .isub, 1, 0, 0, 0, 0, 0, []), (31, .imul, 1, 0, 0, 0, 0, 0, []), (32, .isub, 1, 0, 0, 0, 0, 0, []), (33, .istore 6, 2, 6, 0, 0, 0, 0, []), (35, .iload 4, 2, 4, 0, 0, 0, 0, []), (37, .ifCond .eq 31, 3, 68, 0, 0, 0, 0, []),
  (40, .aload_n 0, 1, 0, 0, 0, 0, 0, []), (41, .iload 6, 2, 6, 0, 0, 0, 0, []), (43, .invokevirtual 286, 3, 60, 2, 1, 2203, 5, []), (46, .iconst 1, 1, 0, 0, 0, 0, 1, []), (47, .if_icmp .gt 21, 3, 68, 0, 0, 0, 0, []), (50, .aload_n 0, 1, 0, 0, 0, 0, 0, []),
  (51, .iload 6, 2, 6, 0, 0, 0, 0, []), (53, .iconst 1, 1, 0, 0, 0, 0, 1, []), (54, .iadd, 1, 0, 0, 0, 0, 0, []), (55, .invokevirtual 335, 3, 61, 2, 1, 2211, 5, []), (58, .sipush 9999, 3, 0, 0, 0, 0, 9999, []), (61, .if_icmp .gt 7, 3, 68, 0, 0, 0, 0, []),
  (64, .iconst 1, 1, 0, 0, 0, 0, 1, []), (65, .goto 4, 3, 69, 0, 0, 0, 0, []), (68, .iconst 0, 1, 0, 0, 0, 0, 0, []), (69, .istore 4, 2, 4, 0, 0, 0, 0, []), (71, .aload_n 1, 1, 1, 0, 0, 0, 0, []), (72, .dup, 1, 0, 0, 0, 0, 0, []),
  (73, .getfield 109, 3, 0, 1, 1, 1037, 0, []), (76, .aload_n 0, 1, 0, 0, 0, 0, 0, []), (77, .iload 6, 2, 6, 0, 0, 0, 0, []), (79, .invokevirtual 286, 3, 60, 2, 1, 2203, 5, []), (82, .iload 5, 2, 5, 0, 0, 0, 0, []), (84, .ishl, 1, 0, 0, 0, 0, 0, []),
  (85, .ior, 1, 0, 0, 0, 0, 0, []), (86, .putfield 109, 3, 0, 1, 1, 1037, 0, []), (89, .aload_n 1, 1, 1, 0, 0, 0, 0, []), (90, .getfield 159, 3, 0, 4, 3, 1046, 0, []), (93, .iload 5, 2, 5, 0, 0, 0, 0, []), (95, .aload_n 0, 1, 0, 0, 0, 0, 0, []),
  (96, .iload 6, 2, 6, 0, 0, 0, 0, []), (98, .iconst 1, 1, 0, 0, 0, 0, 1, []), (99, .iadd, 1, 0, 0, 0, 0, 0, []), (100, .invokevirtual 335, 3, 61, 2, 1, 2211, 5, []), (103, .iastore, 1, 0, 0, 0, 0, 0, []), (104, .iinc 5 1, 3, 5, 0, 0, 0, 1, []),
  (107, .goto (-88), 3, 19, 0, 0, 0, 0, []), (110, .iload 4, 2, 4, 0, 0, 0, 0, []), (112, .ireturn, 1, 0, 0, 4, 0, 0, [])]
noncomputable def am_s64 : am_S := (yX0_init, cX0_init, 1, none, 2, 0, 1, 0, 1030, 1029, 0, 521)
noncomputable def am_c64 : List (Nat × am_E) := [(0, .aload_n 0, 1, 0, 0, 0, 0, 0, []), (1, .invokespecial 3, 3, 0, 1, 9, 1031, 0, []), (4, .aload_n 0, 1, 0, 0, 0, 0, 0, []), (5, .iconst 0, 1, 0, 0, 0, 0, 0, []), (6, .putfield 9, 3, 0, 0, 1, 1032, 0, []), (9, .aload_n 0, 1, 0, 0, 0, 0, 0, []),
  (10, .iconst 0, 1, 0, 0, 0, 0, 0, []), (11, .putfield 15, 3, 0, 1, 1, 1035, 0, []), (14, .aload_n 0, 1, 0, 0, 0, 0, 0, []), (15, .bipush 36, 2, 0, 0, 0, 0, 36, []), (17, .newarray .int, 2, 2, 0, 0, 0, 0, []), (19, .putfield 18, 3, 0, 2, 3, 1038, 0, []),
  (22, .aload_n 0, 1, 0, 0, 0, 0, 0, []), (23, .bipush 48, 2, 0, 0, 0, 0, 48, []), (25, .newarray .int, 2, 2, 0, 0, 0, 0, []), (27, .putfield 22, 3, 0, 3, 3, 1041, 0, []), (30, .aload_n 0, 1, 0, 0, 0, 0, 0, []), (31, .iconst 5, 1, 0, 0, 0, 0, 5, []),
  (32, .newarray .int, 2, 2, 0, 0, 0, 0, []), (34, .putfield 25, 3, 0, 4, 3, 1044, 0, []), (37, .aload_n 0, 1, 0, 0, 0, 0, 0, []), (38, .bipush 40, 2, 0, 0, 0, 0, 40, []), (40, .newarray .int, 2, 2, 0, 0, 0, 0, []), (42, .putfield 28, 3, 0, 5, 3, 1047, 0, []),
  (45, .aload_n 0, 1, 0, 0, 0, 0, 0, []), (46, .iconst 0, 1, 0, 0, 0, 0, 0, []), (47, .putfield 31, 3, 0, 6, 1, 1048, 0, []), (50, .return_, 1, 0, 0, 0, 0, 0, [])]
noncomputable def am_s65 : am_S := (yX0_clear, cX0_clear, 2, none, 1, 0, 1, 0, 1582, 1580, 1581, 521)
noncomputable def am_c65 : List (Nat × am_E) := [(0, .aload_n 0, 1, 0, 0, 0, 0, 0, []), (1, .iconst 0, 1, 0, 0, 0, 0, 0, []), (2, .putfield 9, 3, 0, 0, 1, 1032, 0, []), (5, .aload_n 0, 1, 0, 0, 0, 0, 0, []), (6, .iconst 0, 1, 0, 0, 0, 0, 0, []), (7, .putfield 15, 3, 0, 1, 1, 1035, 0, []),
  (10, .iconst 0, 1, 0, 0, 0, 0, 0, []), (11, .istore_n 1, 1, 1, 0, 0, 0, 0, []), (12, .iload_n 1, 1, 1, 0, 0, 0, 0, []), (13, .aload_n 0, 1, 0, 0, 0, 0, 0, []), (14, .getfield 18, 3, 0, 2, 3, 1038, 0, []), (17, .arraylength, 1, 0, 0, 0, 0, 0, []),
  (18, .if_icmp .ge 16, 3, 34, 0, 0, 0, 0, []), (21, .aload_n 0, 1, 0, 0, 0, 0, 0, []), (22, .getfield 18, 3, 0, 2, 3, 1038, 0, []), (25, .iload_n 1, 1, 1, 0, 0, 0, 0, []), (26, .iconst 0, 1, 0, 0, 0, 0, 0, []), (27, .iastore, 1, 0, 0, 0, 0, 0, []),
  (28, .iinc 1 1, 3, 1, 0, 0, 0, 1, []), (31, .goto (-19), 3, 12, 0, 0, 0, 0, []), (34, .iconst 0, 1, 0, 0, 0, 0, 0, []), (35, .istore_n 1, 1, 1, 0, 0, 0, 0, []), (36, .iload_n 1, 1, 1, 0, 0, 0, 0, []), (37, .aload_n 0, 1, 0, 0, 0, 0, 0, []),
  (38, .getfield 22, 3, 0, 3, 3, 1041, 0, []), (41, .arraylength, 1, 0, 0, 0, 0, 0, []), (42, .if_icmp .ge 16, 3, 58, 0, 0, 0, 0, []), (45, .aload_n 0, 1, 0, 0, 0, 0, 0, []), (46, .getfield 22, 3, 0, 3, 3, 1041, 0, []), (49, .iload_n 1, 1, 1, 0, 0, 0, 0, []),
  (50, .iconst 0, 1, 0, 0, 0, 0, 0, []), (51, .iastore, 1, 0, 0, 0, 0, 0, []), (52, .iinc 1 1, 3, 1, 0, 0, 0, 1, []), (55, .goto (-19), 3, 36, 0, 0, 0, 0, []), (58, .iconst 0, 1, 0, 0, 0, 0, 0, []), (59, .istore_n 1, 1, 1, 0, 0, 0, 0, []),
  (60, .iload_n 1, 1, 1, 0, 0, 0, 0, []), (61, .iconst 5, 1, 0, 0, 0, 0, 5, []), (62, .if_icmp .ge 16, 3, 78, 0, 0, 0, 0, []), (65, .aload_n 0, 1, 0, 0, 0, 0, 0, []), (66, .getfield 25, 3, 0, 4, 3, 1044, 0, []), (69, .iload_n 1, 1, 1, 0, 0, 0, 0, []),
  (70, .iconst 0, 1, 0, 0, 0, 0, 0, []), (71, .iastore, 1, 0, 0, 0, 0, 0, []), (72, .iinc 1 1, 3, 1, 0, 0, 0, 1, []), (75, .goto (-15), 3, 60, 0, 0, 0, 0, []), (78, .aload_n 0, 1, 0, 0, 0, 0, 0, []), (79, .iconst 0, 1, 0, 0, 0, 0, 0, []),
  (80, .putfield 31, 3, 0, 6, 1, 1048, 0, []), (83, .return_, 1, 0, 0, 0, 0, 0, [])]
noncomputable def am_s66 : am_S := (yX0_copyFrom, cX0_copyFrom, 2, none, 1, 0, 2, 0, 1725, 1723, 1724, 521)
noncomputable def am_c66 : List (Nat × am_E) := [(0, .aload_n 0, 1, 0, 0, 0, 0, 0, []), (1, .aload_n 1, 1, 1, 0, 0, 0, 0, []), (2, .getfield 9, 3, 0, 0, 1, 1032, 0, []), (5, .putfield 9, 3, 0, 0, 1, 1032, 0, []), (8, .aload_n 0, 1, 0, 0, 0, 0, 0, []), (9, .aload_n 1, 1, 1, 0, 0, 0, 0, []),
  (10, .getfield 15, 3, 0, 1, 1, 1035, 0, []), (13, .putfield 15, 3, 0, 1, 1, 1035, 0, []), (16, .aload_n 1, 1, 1, 0, 0, 0, 0, []), (17, .getfield 18, 3, 0, 2, 3, 1038, 0, []), (20, .iconst 0, 1, 0, 0, 0, 0, 0, []), (21, .aload_n 0, 1, 0, 0, 0, 0, 0, []),
  (22, .getfield 18, 3, 0, 2, 3, 1038, 0, []), (25, .iconst 0, 1, 0, 0, 0, 0, 0, []), (26, .aload_n 0, 1, 0, 0, 0, 0, 0, []), (27, .getfield 18, 3, 0, 2, 3, 1038, 0, []), (30, .arraylength, 1, 0, 0, 0, 0, 0, []), (31, .invokestatic 34, 3, 0, 5, 8, 1726, 0, []),
  (34, .aload_n 1, 1, 1, 0, 0, 0, 0, []), (35, .getfield 22, 3, 0, 3, 3, 1041, 0, []), (38, .iconst 0, 1, 0, 0, 0, 0, 0, []), (39, .aload_n 0, 1, 0, 0, 0, 0, 0, []), (40, .getfield 22, 3, 0, 3, 3, 1041, 0, []), (43, .iconst 0, 1, 0, 0, 0, 0, 0, []),
  (44, .aload_n 0, 1, 0, 0, 0, 0, 0, []), (45, .getfield 22, 3, 0, 3, 3, 1041, 0, []), (48, .arraylength, 1, 0, 0, 0, 0, 0, []), (49, .invokestatic 34, 3, 0, 5, 8, 1726, 0, []), (52, .aload_n 1, 1, 1, 0, 0, 0, 0, []), (53, .getfield 25, 3, 0, 4, 3, 1044, 0, []),
  (56, .iconst 0, 1, 0, 0, 0, 0, 0, []), (57, .aload_n 0, 1, 0, 0, 0, 0, 0, []), (58, .getfield 25, 3, 0, 4, 3, 1044, 0, []), (61, .iconst 0, 1, 0, 0, 0, 0, 0, []), (62, .iconst 5, 1, 0, 0, 0, 0, 5, []), (63, .invokestatic 34, 3, 0, 5, 8, 1726, 0, []),
  (66, .aload_n 1, 1, 1, 0, 0, 0, 0, []), (67, .getfield 28, 3, 0, 5, 3, 1047, 0, []), (70, .iconst 0, 1, 0, 0, 0, 0, 0, []), (71, .aload_n 0, 1, 0, 0, 0, 0, 0, []), (72, .getfield 28, 3, 0, 5, 3, 1047, 0, []), (75, .iconst 0, 1, 0, 0, 0, 0, 0, []),
  (76, .bipush 40, 2, 0, 0, 0, 0, 40, []), (78, .invokestatic 34, 3, 0, 5, 8, 1726, 0, []), (81, .aload_n 0, 1, 0, 0, 0, 0, 0, []), (82, .aload_n 1, 1, 1, 0, 0, 0, 0, []), (83, .getfield 31, 3, 0, 6, 1, 1048, 0, []), (86, .putfield 31, 3, 0, 6, 1, 1048, 0, []),
  (89, .return_, 1, 0, 0, 0, 0, 0, [])]
noncomputable def am_s67 : am_S := (yX0_profileOf, cX0_profileOf, 2, (some .int), 1, 1, 2, 0, 1645, 1643, 1644, 521)
noncomputable def am_c67 : List (Nat × am_E) := [(0, .aload_n 0, 1, 0, 0, 0, 0, 0, []), (1, .getfield 15, 3, 0, 1, 1, 1035, 0, []), (4, .iload_n 1, 1, 1, 0, 0, 0, 0, []), (5, .ishr, 1, 0, 0, 0, 0, 0, []), (6, .iconst 1, 1, 0, 0, 0, 0, 1, []), (7, .iand, 1, 0, 0, 0, 0, 0, []),
  (8, .iconst 1, 1, 0, 0, 0, 0, 1, []), (9, .if_icmp .ne 9, 3, 18, 0, 0, 0, 0, []), (12, .iload_n 1, 1, 1, 0, 0, 0, 0, []), (13, .iconst 1, 1, 0, 0, 0, 0, 1, []), (14, .iadd, 1, 0, 0, 0, 0, 0, []), (15, .goto 4, 3, 19, 0, 0, 0, 0, []),
  (18, .iconst 0, 1, 0, 0, 0, 0, 0, []), (19, .ireturn, 1, 0, 0, 1, 0, 0, [])]
noncomputable def am_s68 : am_S := (yX0_keptCount, cX0_keptCount, 1, (some .int), 1, 1, 1, 0, 1608, 1606, 1607, 521)
noncomputable def am_c68 : List (Nat × am_E) := [(0, .aload_n 0, 1, 0, 0, 0, 0, 0, []), (1, .getfield 31, 3, 0, 6, 1, 1048, 0, []), (4, .bipush 40, 2, 0, 0, 0, 0, 40, []), (6, .invokestatic 40, 3, 276, 2, 1, 1609, 0, []), (9, .ireturn, 1, 0, 0, 1, 0, 0, [])]
noncomputable def am_s69 : am_S := (yX0_keptRow, cX0_keptRow, 2, (some .int), 1, 1, 2, 0, 1703, 1701, 1702, 521)
noncomputable def am_c69 : List (Nat × am_E) := [(0, .aload_n 0, 1, 0, 0, 0, 0, 0, []), (1, .getfield 28, 3, 0, 5, 3, 1047, 0, []), (4, .aload_n 0, 1, 0, 0, 0, 0, 0, []), (5, .getfield 31, 3, 0, 6, 1, 1048, 0, []), (8, .aload_n 0, 1, 0, 0, 0, 0, 0, []), (9, .invokevirtual 46, 3, 68, 1, 1, 1704, 0, []),
  (12, .isub, 1, 0, 0, 0, 0, 0, []), (13, .iload_n 1, 1, 1, 0, 0, 0, 0, []), (14, .iadd, 1, 0, 0, 0, 0, 0, []), (15, .bipush 40, 2, 0, 0, 0, 0, 40, []), (17, .irem, 1, 0, 0, 0, 0, 0, []), (18, .iaload, 1, 0, 0, 0, 0, 0, []),
  (19, .ireturn, 1, 0, 0, 1, 0, 0, [])]
noncomputable def am_s70 : am_S := (yX0_keep, cX0_keep, 3, none, 1, 0, 3, 0, 1755, 1753, 1754, 521)
noncomputable def am_c70 : List (Nat × am_E) := [(0, .aload_n 0, 1, 0, 0, 0, 0, 0, []), (1, .getfield 28, 3, 0, 5, 3, 1047, 0, []), (4, .aload_n 0, 1, 0, 0, 0, 0, 0, []), (5, .getfield 31, 3, 0, 6, 1, 1048, 0, []), (8, .bipush 40, 2, 0, 0, 0, 0, 40, []), (10, .irem, 1, 0, 0, 0, 0, 0, []),
  (11, .aload_n 0, 1, 0, 0, 0, 0, 0, []), (12, .getfield 9, 3, 0, 0, 1, 1032, 0, []), (15, .bipush 16, 2, 0, 0, 0, 0, 16, []), (17, .imul, 1, 0, 0, 0, 0, 0, []), (18, .iload_n 1, 1, 1, 0, 0, 0, 0, []), (19, .iadd, 1, 0, 0, 0, 0, 0, []),
  (20, .bipush 8, 2, 0, 0, 0, 0, 8, []), (22, .imul, 1, 0, 0, 0, 0, 0, []), (23, .iload_n 2, 1, 2, 0, 0, 0, 0, []), (24, .iadd, 1, 0, 0, 0, 0, 0, []), (25, .iastore, 1, 0, 0, 0, 0, 0, []), (26, .aload_n 0, 1, 0, 0, 0, 0, 0, []),
  (27, .dup, 1, 0, 0, 0, 0, 0, []), (28, .getfield 31, 3, 0, 6, 1, 1048, 0, []), (31, .iconst 1, 1, 0, 0, 0, 0, 1, []), (32, .iadd, 1, 0, 0, 0, 0, 0, []), (33, .putfield 31, 3, 0, 6, 1, 1048, 0, []), (36, .return_, 1, 0, 0, 0, 0, 0, [])]
noncomputable def am_s71 : am_S := (yX1_init, cX1_init, 2, none, 2, 0, 2, 1, 1024, 751, 0, 520)
noncomputable def am_c71 : List (Nat × am_E) := [(0, .aload_n 0, 1, 0, 0, 0, 0, 0, []), (1, .invokespecial 3, 3, 0, 1, 9, 1025, 0, []), (4, .aload_n 0, 1, 0, 0, 0, 0, 0, []), (5, .new 9, 3, 0, 7, 0, 1026, 0, []), (8, .dup, 1, 0, 0, 0, 0, 0, []), (9, .invokespecial 11, 3, 64, 1, 0, 1028, 0, [(1, 0)]),
  (12, .putfield 12, 3, 1, 1, 3, 1084, 0, []), (15, .aload_n 0, 1, 0, 0, 0, 0, 0, []), (16, .iconst 5, 1, 0, 0, 0, 0, 5, []), (17, .newarray .int, 2, 2, 0, 0, 0, 0, []), (19, .putfield 18, 3, 1, 2, 3, 1086, 0, []), (22, .aload_n 0, 1, 0, 0, 0, 0, 0, []),
  (23, .iconst 5, 1, 0, 0, 0, 0, 5, []), (24, .newarray .int, 2, 2, 0, 0, 0, 0, []), (26, .putfield 22, 3, 1, 3, 3, 1088, 0, []), (29, .aload_n 0, 1, 0, 0, 0, 0, 0, []), (30, .iconst 0, 1, 0, 0, 0, 0, 0, []), (31, .putfield 25, 3, 1, 4, 1, 1090, 0, []),
  (34, .aload_n 0, 1, 0, 0, 0, 0, 0, []), (35, .new 29, 3, 3, 3, 0, 1064, 0, []), (38, .dup, 1, 0, 0, 0, 0, 0, []), (39, .invokespecial 31, 3, 90, 1, 0, 1066, 0, [(1, 0)]), (42, .putfield 32, 3, 1, 5, 3, 1092, 0, []), (45, .aload_n 0, 1, 0, 0, 0, 0, 0, []),
  (46, .aload_n 1, 1, 1, 0, 0, 0, 0, []), (47, .putfield 36, 3, 1, 0, 3, 1082, 0, []), (50, .return_, 1, 0, 0, 0, 0, 0, [])]
noncomputable def am_s72 : am_S := (yX1_begin, cX1_begin, 4, none, 1, 0, 3, 1, 1721, 1719, 1720, 520)
noncomputable def am_c72 : List (Nat × am_E) := [(0, .aload_n 0, 1, 0, 0, 0, 0, 0, []), (1, .aload_n 1, 1, 1, 0, 0, 0, 0, []), (2, .getfield 36, 3, 1, 0, 3, 1082, 0, []), (5, .putfield 36, 3, 1, 0, 3, 1082, 0, []), (8, .aload_n 0, 1, 0, 0, 0, 0, 0, []), (9, .getfield 12, 3, 1, 1, 3, 1084, 0, []),
  (12, .aload_n 1, 1, 1, 0, 0, 0, 0, []), (13, .getfield 12, 3, 1, 1, 3, 1084, 0, []), (16, .invokevirtual 40, 3, 66, 2, 0, 1722, 0, []), (19, .aload_n 0, 1, 0, 0, 0, 0, 0, []), (20, .getfield 12, 3, 1, 1, 3, 1084, 0, []), (23, .iload_n 2, 1, 2, 0, 0, 0, 0, []),
  (24, .putfield 44, 3, 0, 1, 1, 1036, 0, []), (27, .iconst 0, 1, 0, 0, 0, 0, 0, []), (28, .istore_n 3, 1, 3, 0, 0, 0, 0, []), (29, .iload_n 3, 1, 3, 0, 0, 0, 0, []), (30, .iconst 5, 1, 0, 0, 0, 0, 5, []), (31, .if_icmp .ge 23, 3, 54, 0, 0, 0, 0, []),
  (34, .aload_n 0, 1, 0, 0, 0, 0, 0, []), (35, .getfield 18, 3, 1, 2, 3, 1086, 0, []), (38, .iload_n 3, 1, 3, 0, 0, 0, 0, []), (39, .iconst 0, 1, 0, 0, 0, 0, 0, []), (40, .iastore, 1, 0, 0, 0, 0, 0, []), (41, .aload_n 0, 1, 0, 0, 0, 0, 0, []),
  (42, .getfield 22, 3, 1, 3, 3, 1088, 0, []), (45, .iload_n 3, 1, 3, 0, 0, 0, 0, []), (46, .iconst 0, 1, 0, 0, 0, 0, 0, []), (47, .iastore, 1, 0, 0, 0, 0, 0, []), (48, .iinc 3 1, 3, 3, 0, 0, 0, 1, []), (51, .goto (-22), 3, 29, 0, 0, 0, 0, []),
  (54, .return_, 1, 0, 0, 0, 0, 0, [])]
noncomputable def am_s73 : am_S := (yX1_passHour, cX1_passHour, 5, (some .int), 1, 1, 1, 1, 1732, 1730, 1731, 520)
noncomputable def am_c73 : List (Nat × am_E) := [(0, .iconst 0, 1, 0, 0, 0, 0, 0, []), (1, .istore_n 1, 1, 1, 0, 0, 0, 0, []), (2, .aload_n 0, 1, 0, 0, 0, 0, 0, []), (3, .iconst 0, 1, 0, 0, 0, 0, 0, []), (4, .putfield 25, 3, 1, 4, 1, 1090, 0, []), (7, .aload_n 0, 1, 0, 0, 0, 0, 0, []),
  (8, .getfield 12, 3, 1, 1, 3, 1084, 0, []), (11, .getfield 47, 3, 0, 0, 1, 1033, 0, []), (14, .bipush 24, 2, 0, 0, 0, 0, 24, []), (16, .irem, 1, 0, 0, 0, 0, 0, []), (17, .istore_n 2, 1, 2, 0, 0, 0, 0, []), (18, .iconst 0, 1, 0, 0, 0, 0, 0, []),
  (19, .istore_n 3, 1, 3, 0, 0, 0, 0, []), (20, .iload_n 3, 1, 3, 0, 0, 0, 0, []), (21, .aload_n 0, 1, 0, 0, 0, 0, 0, []), (22, .getfield 36, 3, 1, 0, 3, 1082, 0, []), (25, .getfield 50, 3, 2, 0, 3, 550, 0, []), (28, .iconst 2, 1, 0, 0, 0, 0, 2, []),
  (29, .iaload, 1, 0, 0, 0, 0, 0, []), (30, .if_icmp .ge 92, 3, 122, 0, 0, 0, 0, []), (33, .aload_n 0, 1, 0, 0, 0, 0, 0, []), (34, .getfield 36, 3, 1, 0, 3, 1082, 0, []), (37, .iload_n 3, 1, 3, 0, 0, 0, 0, []), (38, .iload_n 2, 1, 2, 0, 0, 0, 0, []),
  (39, .invokevirtual 55, 3, 87, 3, 4, 1733, 2, []), (42, .ifCond .eq 11, 3, 53, 0, 0, 0, 0, []), (45, .aload_n 0, 1, 0, 0, 0, 0, 0, []), (46, .iload_n 3, 1, 3, 0, 0, 0, 0, []), (47, .invokevirtual 59, 3, 74, 2, 1, 1737, 1, []), (50, .goto 4, 3, 54, 0, 0, 0, 0, []),
  (53, .iconst (-1), 1, 0, 0, 0, 0, (-1), []), (54, .istore 4, 2, 4, 0, 0, 0, 0, []), (56, .iload 4, 2, 4, 0, 0, 0, 0, []), (58, .iconst (-1), 1, 0, 0, 0, 0, (-1), []), (59, .if_icmp .eq 27, 3, 86, 0, 0, 0, 0, []), (62, .iload_n 1, 1, 1, 0, 0, 0, 0, []),
  (63, .aload_n 0, 1, 0, 0, 0, 0, 0, []), (64, .getfield 36, 3, 1, 0, 3, 1082, 0, []), (67, .getfield 63, 3, 2, 8, 1, 577, 0, []), (70, .if_icmp .lt 16, 3, 86, 0, 0, 0, 0, []), (73, .aload_n 0, 1, 0, 0, 0, 0, 0, []), (74, .getfield 22, 3, 1, 3, 3, 1088, 0, []),
  (77, .iload_n 3, 1, 3, 0, 0, 0, 0, []), (78, .dup2, 1, 0, 0, 0, 0, 0, []), (79, .iaload, 1, 0, 0, 0, 0, 0, []), (80, .iconst 1, 1, 0, 0, 0, 0, 1, []), (81, .iadd, 1, 0, 0, 0, 0, 0, []), (82, .iastore, 1, 0, 0, 0, 0, 0, []),
  (83, .goto 33, 3, 116, 0, 0, 0, 0, []), (86, .iload 4, 2, 4, 0, 0, 0, 0, []), (88, .iconst (-1), 1, 0, 0, 0, 0, (-1), []), (89, .if_icmp .eq 27, 3, 116, 0, 0, 0, 0, []), (92, .aload_n 0, 1, 0, 0, 0, 0, 0, []), (93, .iload_n 3, 1, 3, 0, 0, 0, 0, []),
  (94, .iload 4, 2, 4, 0, 0, 0, 0, []), (96, .invokevirtual 66, 3, 76, 3, 1, 1738, 1, []), (99, .pop, 1, 0, 0, 0, 0, 0, []), (100, .aload_n 0, 1, 0, 0, 0, 0, 0, []), (101, .dup, 1, 0, 0, 0, 0, 0, []), (102, .getfield 25, 3, 1, 4, 1, 1090, 0, []),
  (105, .iconst 1, 1, 0, 0, 0, 0, 1, []), (106, .iload 4, 2, 4, 0, 0, 0, 0, []), (108, .ishl, 1, 0, 0, 0, 0, 0, []), (109, .ior, 1, 0, 0, 0, 0, 0, []), (110, .putfield 25, 3, 1, 4, 1, 1090, 0, []), (113, .iinc 1 1, 3, 1, 0, 0, 0, 1, []),
  (116, .iinc 3 1, 3, 3, 0, 0, 0, 1, []), (119, .goto (-99), 3, 20, 0, 0, 0, 0, []), (122, .aload_n 0, 1, 0, 0, 0, 0, 0, []), (123, .getfield 36, 3, 1, 0, 3, 1082, 0, []), (126, .getfield 70, 3, 2, 13, 1, 593, 0, []), (129, .iconst (-1), 1, 0, 0, 0, 0, (-1), []),
  (130, .if_icmp .eq 8, 3, 138, 0, 0, 0, 0, []), (133, .aload_n 0, 1, 0, 0, 0, 0, 0, []), (134, .iload_n 2, 1, 2, 0, 0, 0, 0, []), (135, .invokevirtual 73, 3, 82, 2, 0, 1757, 1, []), (138, .aload_n 0, 1, 0, 0, 0, 0, 0, []), (139, .getfield 12, 3, 1, 1, 3, 1084, 0, []),
  (142, .dup, 1, 0, 0, 0, 0, 0, []), (143, .getfield 47, 3, 0, 0, 1, 1033, 0, []), (146, .iconst 1, 1, 0, 0, 0, 0, 1, []), (147, .iadd, 1, 0, 0, 0, 0, 0, []), (148, .putfield 47, 3, 0, 0, 1, 1033, 0, []), (151, .iload_n 1, 1, 1, 0, 0, 0, 0, []),
  (152, .ireturn, 1, 0, 0, 1, 0, 0, [])]
noncomputable def am_s74 : am_S := (yX1_suggested, cX1_suggested, 7, (some .int), 1, 1, 2, 1, 1641, 1639, 1640, 520)
noncomputable def am_c74 : List (Nat × am_E) := [(0, .aload_n 0, 1, 0, 0, 0, 0, 0, []), (1, .getfield 12, 3, 1, 1, 3, 1084, 0, []), (4, .iload_n 1, 1, 1, 0, 0, 0, 0, []), (5, .invokevirtual 77, 3, 67, 2, 1, 1642, 0, []), (8, .istore_n 2, 1, 2, 0, 0, 0, 0, []), (9, .iconst (-1), 1, 0, 0, 0, 0, (-1), []),
  (10, .istore_n 3, 1, 3, 0, 0, 0, 0, []), (11, .iconst 0, 1, 0, 0, 0, 0, 0, []), (12, .istore 4, 2, 4, 0, 0, 0, 0, []), (14, .iconst 0, 1, 0, 0, 0, 0, 0, []), (15, .istore 5, 2, 5, 0, 0, 0, 0, []), (17, .iload 5, 2, 5, 0, 0, 0, 0, []),
  (19, .aload_n 0, 1, 0, 0, 0, 0, 0, []), (20, .getfield 36, 3, 1, 0, 3, 1082, 0, []), (23, .getfield 50, 3, 2, 0, 3, 550, 0, []), (26, .iconst 1, 1, 0, 0, 0, 0, 1, []), (27, .iaload, 1, 0, 0, 0, 0, 0, []), (28, .if_icmp .ge 72, 3, 100, 0, 0, 0, 0, []),
  (31, .aload_n 0, 1, 0, 0, 0, 0, 0, []), (32, .getfield 12, 3, 1, 1, 3, 1084, 0, []), (35, .getfield 80, 3, 0, 3, 3, 1042, 0, []), (38, .iload_n 2, 1, 2, 0, 0, 0, 0, []), (39, .bipush 8, 2, 0, 0, 0, 0, 8, []), (41, .imul, 1, 0, 0, 0, 0, 0, []),
  (42, .iload 5, 2, 5, 0, 0, 0, 0, []), (44, .iadd, 1, 0, 0, 0, 0, 0, []), (45, .iaload, 1, 0, 0, 0, 0, 0, []), (46, .aload_n 0, 1, 0, 0, 0, 0, 0, []), (47, .getfield 36, 3, 1, 0, 3, 1082, 0, []), (50, .getfield 83, 3, 2, 2, 3, 557, 0, []),
  (53, .iload 5, 2, 5, 0, 0, 0, 0, []), (55, .iaload, 1, 0, 0, 0, 0, 0, []), (56, .if_icmp .ge 38, 3, 94, 0, 0, 0, 0, []), (59, .aload_n 0, 1, 0, 0, 0, 0, 0, []), (60, .iload_n 2, 1, 2, 0, 0, 0, 0, []), (61, .iload 5, 2, 5, 0, 0, 0, 0, []),
  (63, .invokevirtual 86, 3, 79, 3, 1, 1646, 1, []), (66, .istore 6, 2, 6, 0, 0, 0, 0, []), (68, .iload 6, 2, 6, 0, 0, 0, 0, []), (70, .iload 4, 2, 4, 0, 0, 0, 0, []), (72, .if_icmp .le 22, 3, 94, 0, 0, 0, 0, []), (75, .aload_n 0, 1, 0, 0, 0, 0, 0, []),
  (76, .iload_n 2, 1, 2, 0, 0, 0, 0, []), (77, .iload 5, 2, 5, 0, 0, 0, 0, []), (79, .iload 6, 2, 6, 0, 0, 0, 0, []), (81, .invokevirtual 89, 3, 81, 4, 4, 1650, 1, []), (84, .ifCond .eq 10, 3, 94, 0, 0, 0, 0, []), (87, .iload 5, 2, 5, 0, 0, 0, 0, []),
  (89, .istore_n 3, 1, 3, 0, 0, 0, 0, []), (90, .iload 6, 2, 6, 0, 0, 0, 0, []), (92, .istore 4, 2, 4, 0, 0, 0, 0, []), (94, .iinc 5 1, 3, 5, 0, 0, 0, 1, []), (97, .goto (-80), 3, 17, 0, 0, 0, 0, []), (100, .iload_n 3, 1, 3, 0, 0, 0, 0, []),
  (101, .ireturn, 1, 0, 0, 1, 0, 0, [])]
noncomputable def am_s75 : am_S := (yX1_hasPartFor, cX1_hasPartFor, 3, (some .boolean), 1, 4, 3, 1, 2063, 2061, 2062, 520)
noncomputable def am_c75 : List (Nat × am_E) := [(0, .aload_n 0, 1, 0, 0, 0, 0, 0, []), (1, .getfield 12, 3, 1, 1, 3, 1084, 0, []), (4, .getfield 80, 3, 0, 3, 3, 1042, 0, []), (7, .aload_n 0, 1, 0, 0, 0, 0, 0, []), (8, .getfield 12, 3, 1, 1, 3, 1084, 0, []), (11, .iload_n 1, 1, 1, 0, 0, 0, 0, []),
  (12, .invokevirtual 77, 3, 67, 2, 1, 1642, 0, []), (15, .bipush 8, 2, 0, 0, 0, 0, 8, []), (17, .imul, 1, 0, 0, 0, 0, 0, []), (18, .iload_n 2, 1, 2, 0, 0, 0, 0, []), (19, .iadd, 1, 0, 0, 0, 0, 0, []), (20, .iaload, 1, 0, 0, 0, 0, 0, []),
  (21, .aload_n 0, 1, 0, 0, 0, 0, 0, []), (22, .getfield 36, 3, 1, 0, 3, 1082, 0, []), (25, .getfield 83, 3, 2, 2, 3, 557, 0, []), (28, .iload_n 2, 1, 2, 0, 0, 0, 0, []), (29, .iaload, 1, 0, 0, 0, 0, 0, []), (30, .if_icmp .ge 7, 3, 37, 0, 0, 0, 0, []),
  (33, .iconst 1, 1, 0, 0, 0, 0, 1, []), (34, .goto 4, 3, 38, 0, 0, 0, 0, []), (37, .iconst 0, 1, 0, 0, 0, 0, 0, []), (38, .ireturn, 1, 0, 0, 4, 0, 0, [])]
noncomputable def am_s76 : am_S := (yX1_watch, cX1_watch, 5, (some .int), 1, 1, 3, 1, 1741, 1739, 1740, 520)
noncomputable def am_c76 : List (Nat × am_E) := [(0, .aload_n 0, 1, 0, 0, 0, 0, 0, []), (1, .getfield 12, 3, 1, 1, 3, 1084, 0, []), (4, .iload_n 1, 1, 1, 0, 0, 0, 0, []), (5, .invokevirtual 77, 3, 67, 2, 1, 1642, 0, []), (8, .istore_n 3, 1, 3, 0, 0, 0, 0, []), (9, .aload_n 0, 1, 0, 0, 0, 0, 0, []),
  (10, .iload_n 3, 1, 3, 0, 0, 0, 0, []), (11, .iload_n 2, 1, 2, 0, 0, 0, 0, []), (12, .iload_n 1, 1, 1, 0, 0, 0, 0, []), (13, .invokevirtual 93, 3, 77, 4, 0, 1742, 1, []), (16, .aload_n 0, 1, 0, 0, 0, 0, 0, []), (17, .getfield 12, 3, 1, 1, 3, 1084, 0, []),
  (20, .getfield 97, 3, 0, 4, 3, 1045, 0, []), (23, .iload_n 1, 1, 1, 0, 0, 0, 0, []), (24, .aload_n 0, 1, 0, 0, 0, 0, 0, []), (25, .getfield 12, 3, 1, 1, 3, 1084, 0, []), (28, .getfield 97, 3, 0, 4, 3, 1045, 0, []), (31, .iload_n 1, 1, 1, 0, 0, 0, 0, []),
  (32, .iaload, 1, 0, 0, 0, 0, 0, []), (33, .iconst 1, 1, 0, 0, 0, 0, 1, []), (34, .iadd, 1, 0, 0, 0, 0, 0, []), (35, .sipush 9999, 3, 0, 0, 0, 0, 9999, []), (38, .invokestatic 100, 3, 276, 2, 1, 1750, 0, []), (41, .iastore, 1, 0, 0, 0, 0, 0, []),
  (42, .aload_n 0, 1, 0, 0, 0, 0, 0, []), (43, .getfield 36, 3, 1, 0, 3, 1082, 0, []), (46, .iload_n 1, 1, 1, 0, 0, 0, 0, []), (47, .iload_n 2, 1, 2, 0, 0, 0, 0, []), (48, .invokevirtual 105, 3, 88, 3, 1, 1756, 2, []), (51, .iload_n 3, 1, 3, 0, 0, 0, 0, []),
  (52, .ifCond .ne 7, 3, 59, 0, 0, 0, 0, []), (55, .iconst 0, 1, 0, 0, 0, 0, 0, []), (56, .goto 10, 3, 66, 0, 0, 0, 0, []), (59, .aload_n 0, 1, 0, 0, 0, 0, 0, []), (60, .getfield 36, 3, 1, 0, 3, 1082, 0, []), (63, .getfield 108, 3, 2, 10, 1, 584, 0, []),
  (66, .isub, 1, 0, 0, 0, 0, 0, []), (67, .istore 4, 2, 4, 0, 0, 0, 0, []), (69, .aload_n 0, 1, 0, 0, 0, 0, 0, []), (70, .getfield 18, 3, 1, 2, 3, 1086, 0, []), (73, .iload_n 1, 1, 1, 0, 0, 0, 0, []), (74, .dup2, 1, 0, 0, 0, 0, 0, []),
  (75, .iaload, 1, 0, 0, 0, 0, 0, []), (76, .iload 4, 2, 4, 0, 0, 0, 0, []), (78, .iadd, 1, 0, 0, 0, 0, 0, []), (79, .iastore, 1, 0, 0, 0, 0, 0, []), (80, .iload 4, 2, 4, 0, 0, 0, 0, []), (82, .ireturn, 1, 0, 0, 1, 0, 0, [])]
noncomputable def am_s77 : am_S := (yX1_seePart, cX1_seePart, 7, none, 1, 0, 4, 1, 1745, 1743, 1744, 520)
noncomputable def am_c77_0 : List (Nat × am_E) := [(0, .aload_n 0, 1, 0, 0, 0, 0, 0, []), (1, .getfield 12, 3, 1, 1, 3, 1084, 0, []), (4, .getfield 80, 3, 0, 3, 3, 1042, 0, []), (7, .iload_n 1, 1, 1, 0, 0, 0, 0, []), (8, .bipush 8, 2, 0, 0, 0, 0, 8, []), (10, .imul, 1, 0, 0, 0, 0, 0, []),
  (11, .iload_n 2, 1, 2, 0, 0, 0, 0, []), (12, .iadd, 1, 0, 0, 0, 0, 0, []), (13, .dup2, 1, 0, 0, 0, 0, 0, []), (14, .iaload, 1, 0, 0, 0, 0, 0, []), (15, .iconst 1, 1, 0, 0, 0, 0, 1, []), (16, .iadd, 1, 0, 0, 0, 0, 0, []),
  (17, .iastore, 1, 0, 0, 0, 0, 0, []), (18, .iconst 0, 1, 0, 0, 0, 0, 0, []), (19, .istore 4, 2, 4, 0, 0, 0, 0, []), (21, .iload 4, 2, 4, 0, 0, 0, 0, []), (23, .aload_n 0, 1, 0, 0, 0, 0, 0, []), (24, .getfield 36, 3, 1, 0, 3, 1082, 0, []),
  (27, .getfield 50, 3, 2, 0, 3, 550, 0, []), (30, .iconst 0, 1, 0, 0, 0, 0, 0, []), (31, .iaload, 1, 0, 0, 0, 0, 0, []), (32, .if_icmp .ge 150, 3, 182, 0, 0, 0, 0, []), (35, .aload_n 0, 1, 0, 0, 0, 0, 0, []), (36, .getfield 36, 3, 1, 0, 3, 1082, 0, []),
  (39, .getfield 111, 3, 2, 3, 3, 561, 0, []), (42, .iload_n 2, 1, 2, 0, 0, 0, 0, []), (43, .aaload, 1, 0, 0, 0, 0, 0, []), (44, .iload 4, 2, 4, 0, 0, 0, 0, []), (46, .iaload, 1, 0, 0, 0, 0, 0, []), (47, .istore 5, 2, 5, 0, 0, 0, 0, []),
  (49, .iload 5, 2, 5, 0, 0, 0, 0, []), (51, .ifCond .le 125, 3, 176, 0, 0, 0, 0, []), (54, .iload_n 1, 1, 1, 0, 0, 0, 0, []), (55, .bipush 6, 2, 0, 0, 0, 0, 6, []), (57, .imul, 1, 0, 0, 0, 0, 0, []), (58, .iload 4, 2, 4, 0, 0, 0, 0, []),
  (60, .iadd, 1, 0, 0, 0, 0, 0, []), (61, .istore 6, 2, 6, 0, 0, 0, 0, []), (63, .aload_n 0, 1, 0, 0, 0, 0, 0, []), (64, .getfield 36, 3, 1, 0, 3, 1082, 0, []), (67, .getfield 115, 3, 2, 12, 1, 590, 0, []), (70, .iconst (-1), 1, 0, 0, 0, 0, (-1), []),
  (71, .if_icmp .eq 78, 3, 149, 0, 0, 0, 0, []), (74, .aload_n 0, 1, 0, 0, 0, 0, 0, []), (75, .getfield 32, 3, 1, 5, 3, 1092, 0, []), (78, .getfield 118, 3, 3, 1, 3, 1072, 0, []), (81, .bipush 16, 2, 0, 0, 0, 0, 16, []), (83, .aload_n 0, 1, 0, 0, 0, 0, 0, []),
  (84, .getfield 12, 3, 1, 1, 3, 1084, 0, []), (87, .getfield 47, 3, 0, 0, 1, 1033, 0, []), (90, .bipush 24, 2, 0, 0, 0, 0, 24, []), (92, .irem, 1, 0, 0, 0, 0, 0, []), (93, .iastore, 1, 0, 0, 0, 0, 0, []), (94, .aload_n 0, 1, 0, 0, 0, 0, 0, []),
  (95, .getfield 32, 3, 1, 5, 3, 1092, 0, []), (98, .getfield 118, 3, 3, 1, 3, 1072, 0, []), (101, .bipush 17, 2, 0, 0, 0, 0, 17, []), (103, .aload_n 0, 1, 0, 0, 0, 0, 0, []), (104, .getfield 12, 3, 1, 1, 3, 1084, 0, []), (107, .getfield 121, 3, 0, 2, 3, 1039, 0, []),
  (110, .iload 6, 2, 6, 0, 0, 0, 0, []), (112, .iaload, 1, 0, 0, 0, 0, 0, []), (113, .iastore, 1, 0, 0, 0, 0, 0, []), (114, .aload_n 0, 1, 0, 0, 0, 0, 0, []), (115, .getfield 32, 3, 1, 5, 3, 1092, 0, []), (118, .getfield 118, 3, 3, 1, 3, 1072, 0, []),
  (121, .bipush 18, 2, 0, 0, 0, 0, 18, []), (123, .iload 5, 2, 5, 0, 0, 0, 0, []), (125, .iastore, 1, 0, 0, 0, 0, 0, []), (126, .aload_n 0, 1, 0, 0, 0, 0, 0, []), (127, .getfield 32, 3, 1, 5, 3, 1092, 0, []), (130, .aload_n 0, 1, 0, 0, 0, 0, 0, []),
  (131, .getfield 36, 3, 1, 0, 3, 1082, 0, []), (134, .getfield 124, 3, 2, 15, 3, 600, 0, []), (137, .aload_n 0, 1, 0, 0, 0, 0, 0, []), (138, .getfield 36, 3, 1, 0, 3, 1082, 0, []), (141, .getfield 115, 3, 2, 12, 1, 590, 0, []), (144, .invokevirtual 127, 3, 91, 3, 1, 1658, 3, []),
  (147, .istore 5, 2, 5, 0, 0, 0, 0, []), (149, .aload_n 0, 1, 0, 0, 0, 0, 0, []), (150, .getfield 12, 3, 1, 1, 3, 1084, 0, []), (153, .getfield 121, 3, 0, 2, 3, 1039, 0, []), (156, .iload 6, 2, 6, 0, 0, 0, 0, []), (158, .aload_n 0, 1, 0, 0, 0, 0, 0, []),
  (159, .aload_n 0, 1, 0, 0, 0, 0, 0, []), (160, .getfield 12, 3, 1, 1, 3, 1084, 0, []), (163, .getfield 121, 3, 0, 2, 3, 1039, 0, []), (166, .iload 6, 2, 6, 0, 0, 0, 0, []), (168, .iaload, 1, 0, 0, 0, 0, 0, []), (169, .iload 5, 2, 5, 0, 0, 0, 0, []),
  (171, .iadd, 1, 0, 0, 0, 0, 0, []), (172, .invokevirtual 131, 3, 83, 2, 1, 1746, 1, []), (175, .iastore, 1, 0, 0, 0, 0, 0, []), (176, .iinc 4 1, 3, 4, 0, 0, 0, 1, []), (179, .goto (-158), 3, 21, 0, 0, 0, 0, []), (182, .aload_n 0, 1, 0, 0, 0, 0, 0, []),
  (183, .getfield 12, 3, 1, 1, 3, 1084, 0, []), (186, .iload_n 3, 1, 3, 0, 0, 0, 0, []), (187, .iload_n 2, 1, 2, 0, 0, 0, 0, []), (188, .invokevirtual 134, 3, 70, 3, 0, 1752, 0, [])]
noncomputable def am_c77_1 : List (Nat × am_E) := [(191, .return_, 1, 0, 0, 0, 0, 0, [])]
noncomputable def am_c77 : List (Nat × am_E) := am_c77_0 ++ (am_c77_1)
noncomputable def am_s78 : am_S := (yX1_valueFor, cX1_valueFor, 6, (some .int), 1, 1, 4, 1, 2165, 2163, 2164, 520)
noncomputable def am_c78 : List (Nat × am_E) := [(0, .aload_n 0, 1, 0, 0, 0, 0, 0, []), (1, .getfield 12, 3, 1, 1, 3, 1084, 0, []), (4, .iload_n 2, 1, 2, 0, 0, 0, 0, []), (5, .invokevirtual 77, 3, 67, 2, 1, 1642, 0, []), (8, .istore 4, 2, 4, 0, 0, 0, 0, []), (10, .aload_n 0, 1, 0, 0, 0, 0, 0, []),
  (11, .iload 4, 2, 4, 0, 0, 0, 0, []), (13, .iload_n 3, 1, 3, 0, 0, 0, 0, []), (14, .aload_n 0, 1, 0, 0, 0, 0, 0, []), (15, .iload 4, 2, 4, 0, 0, 0, 0, []), (17, .iload_n 3, 1, 3, 0, 0, 0, 0, []), (18, .invokevirtual 86, 3, 79, 3, 1, 1646, 1, []),
  (21, .invokevirtual 138, 3, 80, 4, 0, 1654, 1, []), (24, .aload_n 0, 1, 0, 0, 0, 0, 0, []), (25, .getfield 32, 3, 1, 5, 3, 1092, 0, []), (28, .getfield 118, 3, 3, 1, 3, 1072, 0, []), (31, .bipush 21, 2, 0, 0, 0, 0, 21, []), (33, .aload_n 0, 1, 0, 0, 0, 0, 0, []),
  (34, .getfield 36, 3, 1, 0, 3, 1082, 0, []), (37, .iload_n 2, 1, 2, 0, 0, 0, 0, []), (38, .iload_n 3, 1, 3, 0, 0, 0, 0, []), (39, .invokevirtual 105, 3, 88, 3, 1, 1756, 2, []), (42, .iastore, 1, 0, 0, 0, 0, 0, []), (43, .aload_n 0, 1, 0, 0, 0, 0, 0, []),
  (44, .getfield 32, 3, 1, 5, 3, 1092, 0, []), (47, .getfield 118, 3, 3, 1, 3, 1072, 0, []), (50, .bipush 22, 2, 0, 0, 0, 0, 22, []), (52, .iload_n 3, 1, 3, 0, 0, 0, 0, []), (53, .iastore, 1, 0, 0, 0, 0, 0, []), (54, .iconst 0, 1, 0, 0, 0, 0, 0, []),
  (55, .istore 5, 2, 5, 0, 0, 0, 0, []), (57, .iload 5, 2, 5, 0, 0, 0, 0, []), (59, .bipush 6, 2, 0, 0, 0, 0, 6, []), (61, .if_icmp .ge 31, 3, 92, 0, 0, 0, 0, []), (64, .aload_n 0, 1, 0, 0, 0, 0, 0, []), (65, .getfield 32, 3, 1, 5, 3, 1092, 0, []),
  (68, .getfield 141, 3, 3, 2, 3, 1074, 0, []), (71, .iload 5, 2, 5, 0, 0, 0, 0, []), (73, .aload_n 0, 1, 0, 0, 0, 0, 0, []), (74, .getfield 36, 3, 1, 0, 3, 1082, 0, []), (77, .getfield 111, 3, 2, 3, 3, 561, 0, []), (80, .iload_n 3, 1, 3, 0, 0, 0, 0, []),
  (81, .aaload, 1, 0, 0, 0, 0, 0, []), (82, .iload 5, 2, 5, 0, 0, 0, 0, []), (84, .iaload, 1, 0, 0, 0, 0, 0, []), (85, .iastore, 1, 0, 0, 0, 0, 0, []), (86, .iinc 5 1, 3, 5, 0, 0, 0, 1, []), (89, .goto (-32), 3, 57, 0, 0, 0, 0, []),
  (92, .aload_n 0, 1, 0, 0, 0, 0, 0, []), (93, .getfield 32, 3, 1, 5, 3, 1092, 0, []), (96, .aload_n 1, 1, 1, 0, 0, 0, 0, []), (97, .iconst 0, 1, 0, 0, 0, 0, 0, []), (98, .invokevirtual 127, 3, 91, 3, 1, 1658, 3, []), (101, .ireturn, 1, 0, 0, 1, 0, 0, [])]
noncomputable def am_s79 : am_S := (yX1_scoreOf, cX1_scoreOf, 5, (some .int), 1, 1, 3, 1, 1649, 1648, 34, 520)
noncomputable def am_c79 : List (Nat × am_E) := [(0, .iconst 1, 1, 0, 0, 0, 0, 1, []), (1, .istore_n 3, 1, 3, 0, 0, 0, 0, []), (2, .iconst 0, 1, 0, 0, 0, 0, 0, []), (3, .istore 4, 2, 4, 0, 0, 0, 0, []), (5, .iload 4, 2, 4, 0, 0, 0, 0, []), (7, .aload_n 0, 1, 0, 0, 0, 0, 0, []),
  (8, .getfield 36, 3, 1, 0, 3, 1082, 0, []), (11, .getfield 50, 3, 2, 0, 3, 550, 0, []), (14, .iconst 0, 1, 0, 0, 0, 0, 0, []), (15, .iaload, 1, 0, 0, 0, 0, 0, []), (16, .if_icmp .ge 40, 3, 56, 0, 0, 0, 0, []), (19, .iload_n 3, 1, 3, 0, 0, 0, 0, []),
  (20, .aload_n 0, 1, 0, 0, 0, 0, 0, []), (21, .getfield 36, 3, 1, 0, 3, 1082, 0, []), (24, .getfield 111, 3, 2, 3, 3, 561, 0, []), (27, .iload_n 2, 1, 2, 0, 0, 0, 0, []), (28, .aaload, 1, 0, 0, 0, 0, 0, []), (29, .iload 4, 2, 4, 0, 0, 0, 0, []),
  (31, .iaload, 1, 0, 0, 0, 0, 0, []), (32, .aload_n 0, 1, 0, 0, 0, 0, 0, []), (33, .getfield 12, 3, 1, 1, 3, 1084, 0, []), (36, .getfield 121, 3, 0, 2, 3, 1039, 0, []), (39, .iload_n 1, 1, 1, 0, 0, 0, 0, []), (40, .bipush 6, 2, 0, 0, 0, 0, 6, []),
  (42, .imul, 1, 0, 0, 0, 0, 0, []), (43, .iload 4, 2, 4, 0, 0, 0, 0, []), (45, .iadd, 1, 0, 0, 0, 0, 0, []), (46, .iaload, 1, 0, 0, 0, 0, 0, []), (47, .imul, 1, 0, 0, 0, 0, 0, []), (48, .iadd, 1, 0, 0, 0, 0, 0, []),
  (49, .istore_n 3, 1, 3, 0, 0, 0, 0, []), (50, .iinc 4 1, 3, 4, 0, 0, 0, 1, []), (53, .goto (-48), 3, 5, 0, 0, 0, 0, []), (56, .iload_n 3, 1, 3, 0, 0, 0, 0, []), (57, .ireturn, 1, 0, 0, 1, 0, 0, [])]
noncomputable def am_s80 : am_S := (yX1_setFilmFacts, cX1_setFilmFacts, 4, none, 1, 0, 4, 1, 1657, 1656, 36, 520)
noncomputable def am_c80 : List (Nat × am_E) := [(0, .aload_n 0, 1, 0, 0, 0, 0, 0, []), (1, .getfield 32, 3, 1, 5, 3, 1092, 0, []), (4, .getfield 118, 3, 3, 1, 3, 1072, 0, []), (7, .bipush 16, 2, 0, 0, 0, 0, 16, []), (9, .aload_n 0, 1, 0, 0, 0, 0, 0, []), (10, .getfield 12, 3, 1, 1, 3, 1084, 0, []),
  (13, .getfield 47, 3, 0, 0, 1, 1033, 0, []), (16, .bipush 24, 2, 0, 0, 0, 0, 24, []), (18, .irem, 1, 0, 0, 0, 0, 0, []), (19, .iastore, 1, 0, 0, 0, 0, 0, []), (20, .aload_n 0, 1, 0, 0, 0, 0, 0, []), (21, .getfield 32, 3, 1, 5, 3, 1092, 0, []),
  (24, .getfield 118, 3, 3, 1, 3, 1072, 0, []), (27, .iconst 2, 1, 0, 0, 0, 0, 2, []), (28, .aload_n 0, 1, 0, 0, 0, 0, 0, []), (29, .getfield 36, 3, 1, 0, 3, 1082, 0, []), (32, .getfield 83, 3, 2, 2, 3, 557, 0, []), (35, .iload_n 2, 1, 2, 0, 0, 0, 0, []),
  (36, .iaload, 1, 0, 0, 0, 0, 0, []), (37, .iastore, 1, 0, 0, 0, 0, 0, []), (38, .aload_n 0, 1, 0, 0, 0, 0, 0, []), (39, .getfield 32, 3, 1, 5, 3, 1092, 0, []), (42, .getfield 118, 3, 3, 1, 3, 1072, 0, []), (45, .bipush 19, 2, 0, 0, 0, 0, 19, []),
  (47, .aload_n 0, 1, 0, 0, 0, 0, 0, []), (48, .getfield 12, 3, 1, 1, 3, 1084, 0, []), (51, .getfield 80, 3, 0, 3, 3, 1042, 0, []), (54, .iload_n 1, 1, 1, 0, 0, 0, 0, []), (55, .bipush 8, 2, 0, 0, 0, 0, 8, []), (57, .imul, 1, 0, 0, 0, 0, 0, []),
  (58, .iload_n 2, 1, 2, 0, 0, 0, 0, []), (59, .iadd, 1, 0, 0, 0, 0, 0, []), (60, .iaload, 1, 0, 0, 0, 0, 0, []), (61, .iastore, 1, 0, 0, 0, 0, 0, []), (62, .aload_n 0, 1, 0, 0, 0, 0, 0, []), (63, .getfield 32, 3, 1, 5, 3, 1092, 0, []),
  (66, .getfield 118, 3, 3, 1, 3, 1072, 0, []), (69, .bipush 20, 2, 0, 0, 0, 0, 20, []), (71, .iload_n 3, 1, 3, 0, 0, 0, 0, []), (72, .iastore, 1, 0, 0, 0, 0, 0, []), (73, .return_, 1, 0, 0, 0, 0, 0, [])]
noncomputable def am_s81 : am_S := (yX1_mayBe, cX1_mayBe, 4, (some .boolean), 1, 4, 4, 1, 1653, 1652, 35, 520)
noncomputable def am_c81 : List (Nat × am_E) := [(0, .aload_n 0, 1, 0, 0, 0, 0, 0, []), (1, .getfield 36, 3, 1, 0, 3, 1082, 0, []), (4, .getfield 143, 3, 2, 14, 1, 596, 0, []), (7, .iconst (-1), 1, 0, 0, 0, 0, (-1), []), (8, .if_icmp .ne 5, 3, 13, 0, 0, 0, 0, []), (11, .iconst 1, 1, 0, 0, 0, 0, 1, []),
  (12, .ireturn, 1, 0, 0, 4, 0, 0, []), (13, .aload_n 0, 1, 0, 0, 0, 0, 0, []), (14, .iload_n 1, 1, 1, 0, 0, 0, 0, []), (15, .iload_n 2, 1, 2, 0, 0, 0, 0, []), (16, .iload_n 3, 1, 3, 0, 0, 0, 0, []), (17, .invokevirtual 138, 3, 80, 4, 0, 1654, 1, []),
  (20, .aload_n 0, 1, 0, 0, 0, 0, 0, []), (21, .getfield 32, 3, 1, 5, 3, 1092, 0, []), (24, .aload_n 0, 1, 0, 0, 0, 0, 0, []), (25, .getfield 36, 3, 1, 0, 3, 1082, 0, []), (28, .getfield 124, 3, 2, 15, 3, 600, 0, []), (31, .aload_n 0, 1, 0, 0, 0, 0, 0, []),
  (32, .getfield 36, 3, 1, 0, 3, 1082, 0, []), (35, .getfield 143, 3, 2, 14, 1, 596, 0, []), (38, .invokevirtual 127, 3, 91, 3, 1, 1658, 3, []), (41, .ifCond .eq 7, 3, 48, 0, 0, 0, 0, []), (44, .iconst 1, 1, 0, 0, 0, 0, 1, []), (45, .goto 4, 3, 49, 0, 0, 0, 0, []),
  (48, .iconst 0, 1, 0, 0, 0, 0, 0, []), (49, .ireturn, 1, 0, 0, 4, 0, 0, [])]
noncomputable def am_s82 : am_S := (yX1_fadeAll, cX1_fadeAll, 5, none, 1, 0, 2, 1, 1760, 1759, 43, 520)
noncomputable def am_c82 : List (Nat × am_E) := [(0, .aload_n 0, 1, 0, 0, 0, 0, 0, []), (1, .getfield 32, 3, 1, 5, 3, 1092, 0, []), (4, .getfield 118, 3, 3, 1, 3, 1072, 0, []), (7, .bipush 16, 2, 0, 0, 0, 0, 16, []), (9, .iload_n 1, 1, 1, 0, 0, 0, 0, []), (10, .iastore, 1, 0, 0, 0, 0, 0, []),
  (11, .iconst 0, 1, 0, 0, 0, 0, 0, []), (12, .istore_n 2, 1, 2, 0, 0, 0, 0, []), (13, .iload_n 2, 1, 2, 0, 0, 0, 0, []), (14, .aload_n 0, 1, 0, 0, 0, 0, 0, []), (15, .getfield 36, 3, 1, 0, 3, 1082, 0, []), (18, .getfield 50, 3, 2, 0, 3, 550, 0, []),
  (21, .iconst 2, 1, 0, 0, 0, 0, 2, []), (22, .iaload, 1, 0, 0, 0, 0, 0, []), (23, .if_icmp .gt 93, 3, 116, 0, 0, 0, 0, []), (26, .iconst 0, 1, 0, 0, 0, 0, 0, []), (27, .istore_n 3, 1, 3, 0, 0, 0, 0, []), (28, .iload_n 3, 1, 3, 0, 0, 0, 0, []),
  (29, .aload_n 0, 1, 0, 0, 0, 0, 0, []), (30, .getfield 36, 3, 1, 0, 3, 1082, 0, []), (33, .getfield 50, 3, 2, 0, 3, 550, 0, []), (36, .iconst 0, 1, 0, 0, 0, 0, 0, []), (37, .iaload, 1, 0, 0, 0, 0, 0, []), (38, .if_icmp .ge 72, 3, 110, 0, 0, 0, 0, []),
  (41, .iload_n 2, 1, 2, 0, 0, 0, 0, []), (42, .bipush 6, 2, 0, 0, 0, 0, 6, []), (44, .imul, 1, 0, 0, 0, 0, 0, []), (45, .iload_n 3, 1, 3, 0, 0, 0, 0, []), (46, .iadd, 1, 0, 0, 0, 0, 0, []), (47, .istore 4, 2, 4, 0, 0, 0, 0, []),
  (49, .aload_n 0, 1, 0, 0, 0, 0, 0, []), (50, .getfield 32, 3, 1, 5, 3, 1092, 0, []), (53, .getfield 118, 3, 3, 1, 3, 1072, 0, []), (56, .bipush 17, 2, 0, 0, 0, 0, 17, []), (58, .aload_n 0, 1, 0, 0, 0, 0, 0, []), (59, .getfield 12, 3, 1, 1, 3, 1084, 0, []),
  (62, .getfield 121, 3, 0, 2, 3, 1039, 0, []), (65, .iload 4, 2, 4, 0, 0, 0, 0, []), (67, .iaload, 1, 0, 0, 0, 0, 0, []), (68, .iastore, 1, 0, 0, 0, 0, 0, []), (69, .aload_n 0, 1, 0, 0, 0, 0, 0, []), (70, .getfield 12, 3, 1, 1, 3, 1084, 0, []),
  (73, .getfield 121, 3, 0, 2, 3, 1039, 0, []), (76, .iload 4, 2, 4, 0, 0, 0, 0, []), (78, .aload_n 0, 1, 0, 0, 0, 0, 0, []), (79, .aload_n 0, 1, 0, 0, 0, 0, 0, []), (80, .getfield 32, 3, 1, 5, 3, 1092, 0, []), (83, .aload_n 0, 1, 0, 0, 0, 0, 0, []),
  (84, .getfield 36, 3, 1, 0, 3, 1082, 0, []), (87, .getfield 124, 3, 2, 15, 3, 600, 0, []), (90, .aload_n 0, 1, 0, 0, 0, 0, 0, []), (91, .getfield 36, 3, 1, 0, 3, 1082, 0, []), (94, .getfield 70, 3, 2, 13, 1, 593, 0, []), (97, .invokevirtual 127, 3, 91, 3, 1, 1658, 3, []),
  (100, .invokevirtual 131, 3, 83, 2, 1, 1746, 1, []), (103, .iastore, 1, 0, 0, 0, 0, 0, []), (104, .iinc 3 1, 3, 3, 0, 0, 0, 1, []), (107, .goto (-79), 3, 28, 0, 0, 0, 0, []), (110, .iinc 2 1, 3, 2, 0, 0, 0, 1, []), (113, .goto (-100), 3, 13, 0, 0, 0, 0, []),
  (116, .return_, 1, 0, 0, 0, 0, 0, [])]
noncomputable def am_s83 : am_S := (yX1_heldTaste, cX1_heldTaste, 2, (some .int), 1, 1, 2, 1, 1749, 1748, 42, 520)
noncomputable def am_c83 : List (Nat × am_E) := [(0, .iconst 0, 1, 0, 0, 0, 0, 0, []), (1, .sipush 999, 3, 0, 0, 0, 0, 999, []), (4, .iload_n 1, 1, 1, 0, 0, 0, 0, []), (5, .invokestatic 100, 3, 276, 2, 1, 1750, 0, []), (8, .invokestatic 146, 3, 274, 2, 1, 1751, 0, []), (11, .ireturn, 1, 0, 0, 1, 0, 0, [])]
noncomputable def am_s84 : am_S := (yX2_init, cX2_init, 1, none, 2, 0, 1, 2, 545, 544, 0, 515)
noncomputable def am_c84 : List (Nat × am_E) := [(0, .aload_n 0, 1, 0, 0, 0, 0, 0, []), (1, .invokespecial 3, 3, 0, 1, 9, 546, 0, []), (4, .aload_n 0, 1, 0, 0, 0, 0, 0, []), (5, .iconst 3, 1, 0, 0, 0, 0, 3, []), (6, .newarray .int, 2, 2, 0, 0, 0, 0, []), (8, .putfield 9, 3, 2, 0, 3, 549, 0, []),
  (11, .aload_n 0, 1, 0, 0, 0, 0, 0, []), (12, .iconst 3, 1, 0, 0, 0, 0, 3, []), (13, .bipush 8, 2, 0, 0, 0, 0, 8, []), (15, .multianewarray 15 2, 4, 6, 0, 0, 547, 0, []), (19, .putfield 17, 3, 2, 1, 3, 553, 0, []), (22, .aload_n 0, 1, 0, 0, 0, 0, 0, []),
  (23, .bipush 8, 2, 0, 0, 0, 0, 8, []), (25, .newarray .int, 2, 2, 0, 0, 0, 0, []), (27, .putfield 20, 3, 2, 2, 3, 556, 0, []), (30, .aload_n 0, 1, 0, 0, 0, 0, 0, []), (31, .bipush 8, 2, 0, 0, 0, 0, 8, []), (33, .bipush 6, 2, 0, 0, 0, 0, 6, []),
  (35, .multianewarray 15 2, 4, 6, 0, 0, 547, 0, []), (39, .putfield 23, 3, 2, 3, 3, 560, 0, []), (42, .aload_n 0, 1, 0, 0, 0, 0, 0, []), (43, .iconst 5, 1, 0, 0, 0, 0, 5, []), (44, .newarray .int, 2, 2, 0, 0, 0, 0, []), (46, .putfield 26, 3, 2, 4, 3, 564, 0, []),
  (49, .aload_n 0, 1, 0, 0, 0, 0, 0, []), (50, .iconst 5, 1, 0, 0, 0, 0, 5, []), (51, .newarray .int, 2, 2, 0, 0, 0, 0, []), (53, .putfield 29, 3, 2, 5, 3, 567, 0, []), (56, .aload_n 0, 1, 0, 0, 0, 0, 0, []), (57, .iconst 5, 1, 0, 0, 0, 0, 5, []),
  (58, .bipush 6, 2, 0, 0, 0, 0, 6, []), (60, .multianewarray 15 2, 4, 6, 0, 0, 547, 0, []), (64, .putfield 32, 3, 2, 6, 3, 570, 0, []), (67, .aload_n 0, 1, 0, 0, 0, 0, 0, []), (68, .iconst 0, 1, 0, 0, 0, 0, 0, []), (69, .putfield 35, 3, 2, 7, 1, 573, 0, []),
  (72, .aload_n 0, 1, 0, 0, 0, 0, 0, []), (73, .iconst 5, 1, 0, 0, 0, 0, 5, []), (74, .putfield 39, 3, 2, 8, 1, 576, 0, []), (77, .aload_n 0, 1, 0, 0, 0, 0, 0, []), (78, .iconst 0, 1, 0, 0, 0, 0, 0, []), (79, .putfield 42, 3, 2, 9, 1, 580, 0, []),
  (82, .aload_n 0, 1, 0, 0, 0, 0, 0, []), (83, .iconst 0, 1, 0, 0, 0, 0, 0, []), (84, .putfield 45, 3, 2, 10, 1, 583, 0, []), (87, .aload_n 0, 1, 0, 0, 0, 0, 0, []), (88, .iconst 0, 1, 0, 0, 0, 0, 0, []), (89, .putfield 48, 3, 2, 11, 1, 586, 0, []),
  (92, .aload_n 0, 1, 0, 0, 0, 0, 0, []), (93, .iconst (-1), 1, 0, 0, 0, 0, (-1), []), (94, .putfield 51, 3, 2, 12, 1, 589, 0, []), (97, .aload_n 0, 1, 0, 0, 0, 0, 0, []), (98, .iconst (-1), 1, 0, 0, 0, 0, (-1), []), (99, .putfield 54, 3, 2, 13, 1, 592, 0, []),
  (102, .aload_n 0, 1, 0, 0, 0, 0, 0, []), (103, .iconst (-1), 1, 0, 0, 0, 0, (-1), []), (104, .putfield 57, 3, 2, 14, 1, 595, 0, []), (107, .aload_n 0, 1, 0, 0, 0, 0, 0, []), (108, .sipush 1600, 3, 0, 0, 0, 0, 1600, []), (111, .newarray .int, 2, 2, 0, 0, 0, 0, []),
  (113, .putfield 60, 3, 2, 15, 3, 598, 0, []), (116, .return_, 1, 0, 0, 0, 0, 0, [])]
noncomputable def am_s85 : am_S := (yX2_clear, cX2_clear, 3, none, 1, 0, 1, 2, 1187, 1185, 1186, 515)
noncomputable def am_c85 : List (Nat × am_E) := [(0, .iconst 0, 1, 0, 0, 0, 0, 0, []), (1, .istore_n 1, 1, 1, 0, 0, 0, 0, []), (2, .iload_n 1, 1, 1, 0, 0, 0, 0, []), (3, .iconst 2, 1, 0, 0, 0, 0, 2, []), (4, .if_icmp .gt 16, 3, 20, 0, 0, 0, 0, []), (7, .aload_n 0, 1, 0, 0, 0, 0, 0, []),
  (8, .getfield 9, 3, 2, 0, 3, 549, 0, []), (11, .iload_n 1, 1, 1, 0, 0, 0, 0, []), (12, .iconst 0, 1, 0, 0, 0, 0, 0, []), (13, .iastore, 1, 0, 0, 0, 0, 0, []), (14, .iinc 1 1, 3, 1, 0, 0, 0, 1, []), (17, .goto (-15), 3, 2, 0, 0, 0, 0, []),
  (20, .iconst 0, 1, 0, 0, 0, 0, 0, []), (21, .istore_n 1, 1, 1, 0, 0, 0, 0, []), (22, .iload_n 1, 1, 1, 0, 0, 0, 0, []), (23, .bipush 6, 2, 0, 0, 0, 0, 6, []), (25, .if_icmp .ge 54, 3, 79, 0, 0, 0, 0, []), (28, .iconst 0, 1, 0, 0, 0, 0, 0, []),
  (29, .istore_n 2, 1, 2, 0, 0, 0, 0, []), (30, .iload_n 2, 1, 2, 0, 0, 0, 0, []), (31, .bipush 8, 2, 0, 0, 0, 0, 8, []), (33, .if_icmp .ge 18, 3, 51, 0, 0, 0, 0, []), (36, .aload_n 0, 1, 0, 0, 0, 0, 0, []), (37, .getfield 23, 3, 2, 3, 3, 560, 0, []),
  (40, .iload_n 2, 1, 2, 0, 0, 0, 0, []), (41, .aaload, 1, 0, 0, 0, 0, 0, []), (42, .iload_n 1, 1, 1, 0, 0, 0, 0, []), (43, .iconst 0, 1, 0, 0, 0, 0, 0, []), (44, .iastore, 1, 0, 0, 0, 0, 0, []), (45, .iinc 2 1, 3, 2, 0, 0, 0, 1, []),
  (48, .goto (-18), 3, 30, 0, 0, 0, 0, []), (51, .iconst 0, 1, 0, 0, 0, 0, 0, []), (52, .istore_n 2, 1, 2, 0, 0, 0, 0, []), (53, .iload_n 2, 1, 2, 0, 0, 0, 0, []), (54, .iconst 5, 1, 0, 0, 0, 0, 5, []), (55, .if_icmp .ge 18, 3, 73, 0, 0, 0, 0, []),
  (58, .aload_n 0, 1, 0, 0, 0, 0, 0, []), (59, .getfield 32, 3, 2, 6, 3, 570, 0, []), (62, .iload_n 2, 1, 2, 0, 0, 0, 0, []), (63, .aaload, 1, 0, 0, 0, 0, 0, []), (64, .iload_n 1, 1, 1, 0, 0, 0, 0, []), (65, .iconst 0, 1, 0, 0, 0, 0, 0, []),
  (66, .iastore, 1, 0, 0, 0, 0, 0, []), (67, .iinc 2 1, 3, 2, 0, 0, 0, 1, []), (70, .goto (-17), 3, 53, 0, 0, 0, 0, []), (73, .iinc 1 1, 3, 1, 0, 0, 0, 1, []), (76, .goto (-54), 3, 22, 0, 0, 0, 0, []), (79, .aload_n 0, 1, 0, 0, 0, 0, 0, []),
  (80, .iconst 0, 1, 0, 0, 0, 0, 0, []), (81, .putfield 35, 3, 2, 7, 1, 573, 0, []), (84, .aload_n 0, 1, 0, 0, 0, 0, 0, []), (85, .iconst 5, 1, 0, 0, 0, 0, 5, []), (86, .putfield 39, 3, 2, 8, 1, 576, 0, []), (89, .aload_n 0, 1, 0, 0, 0, 0, 0, []),
  (90, .iconst 0, 1, 0, 0, 0, 0, 0, []), (91, .putfield 42, 3, 2, 9, 1, 580, 0, []), (94, .aload_n 0, 1, 0, 0, 0, 0, 0, []), (95, .iconst 0, 1, 0, 0, 0, 0, 0, []), (96, .putfield 45, 3, 2, 10, 1, 583, 0, []), (99, .aload_n 0, 1, 0, 0, 0, 0, 0, []),
  (100, .iconst 0, 1, 0, 0, 0, 0, 0, []), (101, .putfield 48, 3, 2, 11, 1, 586, 0, []), (104, .aload_n 0, 1, 0, 0, 0, 0, 0, []), (105, .iconst (-1), 1, 0, 0, 0, 0, (-1), []), (106, .putfield 51, 3, 2, 12, 1, 589, 0, []), (109, .aload_n 0, 1, 0, 0, 0, 0, 0, []),
  (110, .iconst (-1), 1, 0, 0, 0, 0, (-1), []), (111, .putfield 54, 3, 2, 13, 1, 592, 0, []), (114, .aload_n 0, 1, 0, 0, 0, 0, 0, []), (115, .iconst (-1), 1, 0, 0, 0, 0, (-1), []), (116, .putfield 57, 3, 2, 14, 1, 595, 0, []), (119, .return_, 1, 0, 0, 0, 0, 0, [])]
noncomputable def am_s86 : am_S := (yX2_find, cX2_find, 4, (some .int), 1, 1, 3, 2, 1222, 1220, 1221, 515)
noncomputable def am_c86 : List (Nat × am_E) := [(0, .iconst 0, 1, 0, 0, 0, 0, 0, []), (1, .istore_n 3, 1, 3, 0, 0, 0, 0, []), (2, .iload_n 3, 1, 3, 0, 0, 0, 0, []), (3, .aload_n 0, 1, 0, 0, 0, 0, 0, []), (4, .getfield 9, 3, 2, 0, 3, 549, 0, []), (7, .iload_n 1, 1, 1, 0, 0, 0, 0, []),
  (8, .iaload, 1, 0, 0, 0, 0, 0, []), (9, .if_icmp .ge 23, 3, 32, 0, 0, 0, 0, []), (12, .aload_n 0, 1, 0, 0, 0, 0, 0, []), (13, .getfield 17, 3, 2, 1, 3, 553, 0, []), (16, .iload_n 1, 1, 1, 0, 0, 0, 0, []), (17, .aaload, 1, 0, 0, 0, 0, 0, []),
  (18, .iload_n 3, 1, 3, 0, 0, 0, 0, []), (19, .iaload, 1, 0, 0, 0, 0, 0, []), (20, .iload_n 2, 1, 2, 0, 0, 0, 0, []), (21, .if_icmp .ne 5, 3, 26, 0, 0, 0, 0, []), (24, .iload_n 3, 1, 3, 0, 0, 0, 0, []), (25, .ireturn, 1, 0, 0, 1, 0, 0, []),
  (26, .iinc 3 1, 3, 3, 0, 0, 0, 1, []), (29, .goto (-27), 3, 2, 0, 0, 0, 0, []), (32, .iconst (-1), 1, 0, 0, 0, 0, (-1), []), (33, .ireturn, 1, 0, 0, 1, 0, 0, [])]
noncomputable def am_s87 : am_S := (yX2_isFree, cX2_isFree, 3, (some .boolean), 1, 4, 3, 2, 1736, 1734, 1735, 515)
noncomputable def am_c87 : List (Nat × am_E) := [(0, .iload_n 2, 1, 2, 0, 0, 0, 0, []), (1, .aload_n 0, 1, 0, 0, 0, 0, 0, []), (2, .getfield 26, 3, 2, 4, 3, 564, 0, []), (5, .iload_n 1, 1, 1, 0, 0, 0, 0, []), (6, .iaload, 1, 0, 0, 0, 0, 0, []), (7, .if_icmp .lt 17, 3, 24, 0, 0, 0, 0, []),
  (10, .iload_n 2, 1, 2, 0, 0, 0, 0, []), (11, .aload_n 0, 1, 0, 0, 0, 0, 0, []), (12, .getfield 29, 3, 2, 5, 3, 567, 0, []), (15, .iload_n 1, 1, 1, 0, 0, 0, 0, []), (16, .iaload, 1, 0, 0, 0, 0, 0, []), (17, .if_icmp .gt 7, 3, 24, 0, 0, 0, 0, []),
  (20, .iconst 1, 1, 0, 0, 0, 0, 1, []), (21, .goto 4, 3, 25, 0, 0, 0, 0, []), (24, .iconst 0, 1, 0, 0, 0, 0, 0, []), (25, .ireturn, 1, 0, 0, 4, 0, 0, [])]
noncomputable def am_s88 : am_S := (yX2_worthOf, cX2_worthOf, 5, (some .int), 1, 1, 3, 2, 1695, 1693, 1694, 515)
noncomputable def am_c88 : List (Nat × am_E) := [(0, .iconst 0, 1, 0, 0, 0, 0, 0, []), (1, .istore_n 3, 1, 3, 0, 0, 0, 0, []), (2, .iconst 0, 1, 0, 0, 0, 0, 0, []), (3, .istore 4, 2, 4, 0, 0, 0, 0, []), (5, .iload 4, 2, 4, 0, 0, 0, 0, []), (7, .aload_n 0, 1, 0, 0, 0, 0, 0, []),
  (8, .getfield 9, 3, 2, 0, 3, 549, 0, []), (11, .iconst 0, 1, 0, 0, 0, 0, 0, []), (12, .iaload, 1, 0, 0, 0, 0, 0, []), (13, .if_icmp .ge 31, 3, 44, 0, 0, 0, 0, []), (16, .iload_n 3, 1, 3, 0, 0, 0, 0, []), (17, .aload_n 0, 1, 0, 0, 0, 0, 0, []),
  (18, .getfield 23, 3, 2, 3, 3, 560, 0, []), (21, .iload_n 2, 1, 2, 0, 0, 0, 0, []), (22, .aaload, 1, 0, 0, 0, 0, 0, []), (23, .iload 4, 2, 4, 0, 0, 0, 0, []), (25, .iaload, 1, 0, 0, 0, 0, 0, []), (26, .aload_n 0, 1, 0, 0, 0, 0, 0, []),
  (27, .getfield 32, 3, 2, 6, 3, 570, 0, []), (30, .iload_n 1, 1, 1, 0, 0, 0, 0, []), (31, .aaload, 1, 0, 0, 0, 0, 0, []), (32, .iload 4, 2, 4, 0, 0, 0, 0, []), (34, .iaload, 1, 0, 0, 0, 0, 0, []), (35, .imul, 1, 0, 0, 0, 0, 0, []),
  (36, .iadd, 1, 0, 0, 0, 0, 0, []), (37, .istore_n 3, 1, 3, 0, 0, 0, 0, []), (38, .iinc 4 1, 3, 4, 0, 0, 0, 1, []), (41, .goto (-36), 3, 5, 0, 0, 0, 0, []), (44, .iload_n 3, 1, 3, 0, 0, 0, 0, []), (45, .ireturn, 1, 0, 0, 1, 0, 0, [])]
noncomputable def am_s89 : am_S := (yX2_filmOfMostWorth, cX2_filmOfMostWorth, 6, (some .int), 1, 1, 2, 2, 2082, 2080, 2081, 515)
noncomputable def am_c89 : List (Nat × am_E) := [(0, .iconst (-1), 1, 0, 0, 0, 0, (-1), []), (1, .istore_n 2, 1, 2, 0, 0, 0, 0, []), (2, .iconst 0, 1, 0, 0, 0, 0, 0, []), (3, .istore_n 3, 1, 3, 0, 0, 0, 0, []), (4, .iconst 0, 1, 0, 0, 0, 0, 0, []), (5, .istore 4, 2, 4, 0, 0, 0, 0, []),
  (7, .iload 4, 2, 4, 0, 0, 0, 0, []), (9, .aload_n 0, 1, 0, 0, 0, 0, 0, []), (10, .getfield 9, 3, 2, 0, 3, 549, 0, []), (13, .iconst 1, 1, 0, 0, 0, 0, 1, []), (14, .iaload, 1, 0, 0, 0, 0, 0, []), (15, .if_icmp .ge 35, 3, 50, 0, 0, 0, 0, []),
  (18, .aload_n 0, 1, 0, 0, 0, 0, 0, []), (19, .iload_n 1, 1, 1, 0, 0, 0, 0, []), (20, .iload 4, 2, 4, 0, 0, 0, 0, []), (22, .invokevirtual 63, 3, 88, 3, 1, 2083, 2, []), (25, .istore 5, 2, 5, 0, 0, 0, 0, []), (27, .iload_n 2, 1, 2, 0, 0, 0, 0, []),
  (28, .iconst (-1), 1, 0, 0, 0, 0, (-1), []), (29, .if_icmp .eq 9, 3, 38, 0, 0, 0, 0, []), (32, .iload 5, 2, 5, 0, 0, 0, 0, []), (34, .iload_n 3, 1, 3, 0, 0, 0, 0, []), (35, .if_icmp .le 9, 3, 44, 0, 0, 0, 0, []), (38, .iload 4, 2, 4, 0, 0, 0, 0, []),
  (40, .istore_n 2, 1, 2, 0, 0, 0, 0, []), (41, .iload 5, 2, 5, 0, 0, 0, 0, []), (43, .istore_n 3, 1, 3, 0, 0, 0, 0, []), (44, .iinc 4 1, 3, 4, 0, 0, 0, 1, []), (47, .goto (-40), 3, 7, 0, 0, 0, 0, []), (50, .iload_n 2, 1, 2, 0, 0, 0, 0, []),
  (51, .ireturn, 1, 0, 0, 1, 0, 0, [])]
noncomputable def am_s90 : am_S := (yX3_init, cX3_init, 1, none, 2, 0, 1, 3, 1068, 1067, 0, 522)
noncomputable def am_c90 : List (Nat × am_E) := [(0, .aload_n 0, 1, 0, 0, 0, 0, 0, []), (1, .invokespecial 3, 3, 0, 1, 9, 1069, 0, []), (4, .aload_n 0, 1, 0, 0, 0, 0, 0, []), (5, .bipush 64, 2, 0, 0, 0, 0, 64, []), (7, .newarray .int, 2, 2, 0, 0, 0, 0, []), (9, .putfield 9, 3, 3, 0, 3, 1070, 0, []),
  (12, .aload_n 0, 1, 0, 0, 0, 0, 0, []), (13, .bipush 29, 2, 0, 0, 0, 0, 29, []), (15, .newarray .int, 2, 2, 0, 0, 0, 0, []), (17, .putfield 15, 3, 3, 1, 3, 1071, 0, []), (20, .aload_n 0, 1, 0, 0, 0, 0, 0, []), (21, .bipush 6, 2, 0, 0, 0, 0, 6, []),
  (23, .newarray .int, 2, 2, 0, 0, 0, 0, []), (25, .putfield 18, 3, 3, 2, 3, 1073, 0, []), (28, .return_, 1, 0, 0, 0, 0, 0, [])]
noncomputable def am_s91 : am_S := (yX3_value, cX3_value, 6, (some .int), 1, 1, 3, 3, 1661, 1659, 1660, 522)
noncomputable def am_c91_0 : List (Nat × am_E) := [(0, .iconst 0, 1, 0, 0, 0, 0, 0, []), (1, .istore_n 3, 1, 3, 0, 0, 0, 0, []), (2, .iload_n 2, 1, 2, 0, 0, 0, 0, []), (3, .iconst 0, 1, 0, 0, 0, 0, 0, []), (4, .invokestatic 21, 3, 274, 2, 1, 1662, 0, []), (7, .istore 4, 2, 4, 0, 0, 0, 0, []),
  (9, .iload 4, 2, 4, 0, 0, 0, 0, []), (11, .aload_n 1, 1, 1, 0, 0, 0, 0, []), (12, .arraylength, 1, 0, 0, 0, 0, 0, []), (13, .if_icmp .ge 162, 3, 175, 0, 0, 0, 0, []), (16, .aload_n 1, 1, 1, 0, 0, 0, 0, []), (17, .iload 4, 2, 4, 0, 0, 0, 0, []),
  (19, .iaload, 1, 0, 0, 0, 0, 0, []), (20, .sipush 20000, 3, 0, 0, 0, 0, 20000, []), (23, .if_icmp .eq 152, 3, 175, 0, 0, 0, 0, []), (26, .aload_n 1, 1, 1, 0, 0, 0, 0, []), (27, .iload 4, 2, 4, 0, 0, 0, 0, []), (29, .iaload, 1, 0, 0, 0, 0, 0, []),
  (30, .istore 5, 2, 5, 0, 0, 0, 0, []), (32, .iload 5, 2, 5, 0, 0, 0, 0, []), (34, .sipush 20000, 3, 0, 0, 0, 0, 20000, []), (37, .if_icmp .ge 30, 3, 67, 0, 0, 0, 0, []), (40, .iload_n 3, 1, 3, 0, 0, 0, 0, []), (41, .aload_n 0, 1, 0, 0, 0, 0, 0, []),
  (42, .getfield 9, 3, 3, 0, 3, 1070, 0, []), (45, .arraylength, 1, 0, 0, 0, 0, 0, []), (46, .if_icmp .ge 123, 3, 169, 0, 0, 0, 0, []), (49, .aload_n 0, 1, 0, 0, 0, 0, 0, []), (50, .getfield 9, 3, 3, 0, 3, 1070, 0, []), (53, .iload_n 3, 1, 3, 0, 0, 0, 0, []),
  (54, .aload_n 0, 1, 0, 0, 0, 0, 0, []), (55, .iload 5, 2, 5, 0, 0, 0, 0, []), (57, .invokevirtual 27, 3, 92, 2, 1, 1665, 3, []), (60, .iastore, 1, 0, 0, 0, 0, 0, []), (61, .iinc 3 1, 3, 3, 0, 0, 0, 1, []), (64, .goto 105, 3, 169, 0, 0, 0, 0, []),
  (67, .iload 5, 2, 5, 0, 0, 0, 0, []), (69, .sipush 20001, 3, 0, 0, 0, 0, 20001, []), (72, .if_icmp .eq 11, 3, 83, 0, 0, 0, 0, []), (75, .iload 5, 2, 5, 0, 0, 0, 0, []), (77, .sipush 20002, 3, 0, 0, 0, 0, 20002, []), (80, .if_icmp .ne 51, 3, 131, 0, 0, 0, 0, []),
  (83, .iload_n 3, 1, 3, 0, 0, 0, 0, []), (84, .ifCond .le 85, 3, 169, 0, 0, 0, 0, []), (87, .aload_n 0, 1, 0, 0, 0, 0, 0, []), (88, .getfield 9, 3, 3, 0, 3, 1070, 0, []), (91, .iload_n 3, 1, 3, 0, 0, 0, 0, []), (92, .iconst 1, 1, 0, 0, 0, 0, 1, []),
  (93, .isub, 1, 0, 0, 0, 0, 0, []), (94, .iload 5, 2, 5, 0, 0, 0, 0, []), (96, .sipush 20001, 3, 0, 0, 0, 0, 20001, []), (99, .if_icmp .ne 16, 3, 115, 0, 0, 0, 0, []), (102, .iconst 1, 1, 0, 0, 0, 0, 1, []), (103, .aload_n 0, 1, 0, 0, 0, 0, 0, []),
  (104, .getfield 9, 3, 3, 0, 3, 1070, 0, []), (107, .iload_n 3, 1, 3, 0, 0, 0, 0, []), (108, .iconst 1, 1, 0, 0, 0, 0, 1, []), (109, .isub, 1, 0, 0, 0, 0, 0, []), (110, .iaload, 1, 0, 0, 0, 0, 0, []), (111, .isub, 1, 0, 0, 0, 0, 0, []),
  (112, .goto 15, 3, 127, 0, 0, 0, 0, []), (115, .aload_n 0, 1, 0, 0, 0, 0, 0, []), (116, .aload_n 0, 1, 0, 0, 0, 0, 0, []), (117, .getfield 9, 3, 3, 0, 3, 1070, 0, []), (120, .iload_n 3, 1, 3, 0, 0, 0, 0, []), (121, .iconst 1, 1, 0, 0, 0, 0, 1, []),
  (122, .isub, 1, 0, 0, 0, 0, 0, []), (123, .iaload, 1, 0, 0, 0, 0, 0, []), (124, .invokevirtual 31, 3, 93, 2, 1, 1669, 3, []), (127, .iastore, 1, 0, 0, 0, 0, 0, []), (128, .goto 41, 3, 169, 0, 0, 0, 0, []), (131, .iload_n 3, 1, 3, 0, 0, 0, 0, []),
  (132, .iconst 1, 1, 0, 0, 0, 0, 1, []), (133, .if_icmp .le 36, 3, 169, 0, 0, 0, 0, []), (136, .iinc 3 (-1), 3, 3, 0, 0, 0, (-1), []), (139, .aload_n 0, 1, 0, 0, 0, 0, 0, []), (140, .getfield 9, 3, 3, 0, 3, 1070, 0, []), (143, .iload_n 3, 1, 3, 0, 0, 0, 0, []),
  (144, .iconst 1, 1, 0, 0, 0, 0, 1, []), (145, .isub, 1, 0, 0, 0, 0, 0, []), (146, .aload_n 0, 1, 0, 0, 0, 0, 0, []), (147, .iload 5, 2, 5, 0, 0, 0, 0, []), (149, .aload_n 0, 1, 0, 0, 0, 0, 0, []), (150, .getfield 9, 3, 3, 0, 3, 1070, 0, []),
  (153, .iload_n 3, 1, 3, 0, 0, 0, 0, []), (154, .iconst 1, 1, 0, 0, 0, 0, 1, []), (155, .isub, 1, 0, 0, 0, 0, 0, []), (156, .iaload, 1, 0, 0, 0, 0, 0, []), (157, .i2l, 1, 0, 0, 0, 0, 0, []), (158, .aload_n 0, 1, 0, 0, 0, 0, 0, []),
  (159, .getfield 9, 3, 3, 0, 3, 1070, 0, []), (162, .iload_n 3, 1, 3, 0, 0, 0, 0, []), (163, .iaload, 1, 0, 0, 0, 0, 0, []), (164, .i2l, 1, 0, 0, 0, 0, 0, []), (165, .invokevirtual 34, 3, 94, 4, 1, 1673, 3, []), (168, .iastore, 1, 0, 0, 0, 0, 0, []),
  (169, .iinc 4 1, 3, 4, 0, 0, 0, 1, []), (172, .goto (-163), 3, 9, 0, 0, 0, 0, []), (175, .aload_n 0, 1, 0, 0, 0, 0, 0, []), (176, .getfield 9, 3, 3, 0, 3, 1070, 0, [])]
noncomputable def am_c91_1 : List (Nat × am_E) := [(179, .iconst 0, 1, 0, 0, 0, 0, 0, []), (180, .iaload, 1, 0, 0, 0, 0, 0, []), (181, .ireturn, 1, 0, 0, 1, 0, 0, [])]
noncomputable def am_c91 : List (Nat × am_E) := am_c91_0 ++ (am_c91_1)
noncomputable def am_s92 : am_S := (yX3_given, cX3_given, 3, (some .int), 1, 1, 2, 3, 1668, 1667, 37, 522)
noncomputable def am_c92 : List (Nat × am_E) := [(0, .iload_n 1, 1, 1, 0, 0, 0, 0, []), (1, .sipush 10000, 3, 0, 0, 0, 0, 10000, []), (4, .isub, 1, 0, 0, 0, 0, 0, []), (5, .istore_n 2, 1, 2, 0, 0, 0, 0, []), (6, .iload_n 2, 1, 2, 0, 0, 0, 0, []), (7, .ifCond .lt 18, 3, 25, 0, 0, 0, 0, []),
  (10, .iload_n 2, 1, 2, 0, 0, 0, 0, []), (11, .bipush 29, 2, 0, 0, 0, 0, 29, []), (13, .if_icmp .ge 12, 3, 25, 0, 0, 0, 0, []), (16, .aload_n 0, 1, 0, 0, 0, 0, 0, []), (17, .getfield 15, 3, 3, 1, 3, 1071, 0, []), (20, .iload_n 2, 1, 2, 0, 0, 0, 0, []),
  (21, .iaload, 1, 0, 0, 0, 0, 0, []), (22, .goto 4, 3, 26, 0, 0, 0, 0, []), (25, .iload_n 1, 1, 1, 0, 0, 0, 0, []), (26, .ireturn, 1, 0, 0, 1, 0, 0, [])]
noncomputable def am_s93 : am_S := (yX3_weightOf, cX3_weightOf, 2, (some .int), 1, 1, 2, 3, 1672, 1671, 38, 522)
noncomputable def am_c93 : List (Nat × am_E) := [(0, .iload_n 1, 1, 1, 0, 0, 0, 0, []), (1, .ifCond .lt 18, 3, 19, 0, 0, 0, 0, []), (4, .iload_n 1, 1, 1, 0, 0, 0, 0, []), (5, .bipush 6, 2, 0, 0, 0, 0, 6, []), (7, .if_icmp .ge 12, 3, 19, 0, 0, 0, 0, []), (10, .aload_n 0, 1, 0, 0, 0, 0, 0, []),
  (11, .getfield 18, 3, 3, 2, 3, 1073, 0, []), (14, .iload_n 1, 1, 1, 0, 0, 0, 0, []), (15, .iaload, 1, 0, 0, 0, 0, 0, []), (16, .goto 4, 3, 20, 0, 0, 0, 0, []), (19, .iconst 0, 1, 0, 0, 0, 0, 0, []), (20, .ireturn, 1, 0, 0, 1, 0, 0, [])]
noncomputable def am_s94 : am_S := (yX3_joined, cX3_joined, 8, (some .int), 1, 1, 4, 3, 1676, 1675, 39, 522)
noncomputable def am_c94 : List (Nat × am_E) := [(0, .iload_n 1, 1, 1, 0, 0, 0, 0, []), (1, .tableswitch 199 20003 20013 #[59, 68, 77, 86, 108, 119, 130, 147, 164, 181, 190], 59, 200, 0, 0, 0, 0, [(20003, 60), (20004, 69), (20005, 78), (20006, 87), (20007, 109), (20008, 120), (20009, 131), (20010, 148), (20011, 165), (20012, 182), (20013, 191)]), (60, .lload_n 2, 1, 2, 0, 0, 0, 0, []), (61, .lload 4, 2, 4, 0, 0, 0, 0, []), (63, .ladd, 1, 0, 0, 0, 0, 0, []), (64, .lstore 6, 2, 6, 0, 0, 0, 0, []),
  (66, .goto 137, 3, 203, 0, 0, 0, 0, []), (69, .lload_n 2, 1, 2, 0, 0, 0, 0, []), (70, .lload 4, 2, 4, 0, 0, 0, 0, []), (72, .lsub, 1, 0, 0, 0, 0, 0, []), (73, .lstore 6, 2, 6, 0, 0, 0, 0, []), (75, .goto 128, 3, 203, 0, 0, 0, 0, []),
  (78, .lload_n 2, 1, 2, 0, 0, 0, 0, []), (79, .lload 4, 2, 4, 0, 0, 0, 0, []), (81, .lmul, 1, 0, 0, 0, 0, 0, []), (82, .lstore 6, 2, 6, 0, 0, 0, 0, []), (84, .goto 119, 3, 203, 0, 0, 0, 0, []), (87, .lload 4, 2, 4, 0, 0, 0, 0, []),
  (89, .lconst 0, 1, 0, 0, 0, 0, 0, []), (90, .lcmp, 1, 0, 0, 0, 0, 0, []), (91, .ifCond .ne 7, 3, 98, 0, 0, 0, 0, []), (94, .lconst 0, 1, 0, 0, 0, 0, 0, []), (95, .goto 9, 3, 104, 0, 0, 0, 0, []), (98, .lload_n 2, 1, 2, 0, 0, 0, 0, []),
  (99, .lload 4, 2, 4, 0, 0, 0, 0, []), (101, .invokestatic 38, 3, 273, 2, 2, 1677, 0, []), (104, .lstore 6, 2, 6, 0, 0, 0, 0, []), (106, .goto 97, 3, 203, 0, 0, 0, 0, []), (109, .lload_n 2, 1, 2, 0, 0, 0, 0, []), (110, .lload 4, 2, 4, 0, 0, 0, 0, []),
  (112, .invokestatic 42, 3, 277, 2, 2, 1680, 0, []), (115, .lstore 6, 2, 6, 0, 0, 0, 0, []), (117, .goto 86, 3, 203, 0, 0, 0, 0, []), (120, .lload_n 2, 1, 2, 0, 0, 0, 0, []), (121, .lload 4, 2, 4, 0, 0, 0, 0, []), (123, .invokestatic 45, 3, 275, 2, 2, 1683, 0, []),
  (126, .lstore 6, 2, 6, 0, 0, 0, 0, []), (128, .goto 75, 3, 203, 0, 0, 0, 0, []), (131, .lload_n 2, 1, 2, 0, 0, 0, 0, []), (132, .lload 4, 2, 4, 0, 0, 0, 0, []), (134, .lcmp, 1, 0, 0, 0, 0, 0, []), (135, .ifCond .ge 7, 3, 142, 0, 0, 0, 0, []),
  (138, .lconst 1, 1, 0, 0, 0, 0, 1, []), (139, .goto 4, 3, 143, 0, 0, 0, 0, []), (142, .lconst 0, 1, 0, 0, 0, 0, 0, []), (143, .lstore 6, 2, 6, 0, 0, 0, 0, []), (145, .goto 58, 3, 203, 0, 0, 0, 0, []), (148, .lload_n 2, 1, 2, 0, 0, 0, 0, []),
  (149, .lload 4, 2, 4, 0, 0, 0, 0, []), (151, .lcmp, 1, 0, 0, 0, 0, 0, []), (152, .ifCond .le 7, 3, 159, 0, 0, 0, 0, []), (155, .lconst 1, 1, 0, 0, 0, 0, 1, []), (156, .goto 4, 3, 160, 0, 0, 0, 0, []), (159, .lconst 0, 1, 0, 0, 0, 0, 0, []),
  (160, .lstore 6, 2, 6, 0, 0, 0, 0, []), (162, .goto 41, 3, 203, 0, 0, 0, 0, []), (165, .lload_n 2, 1, 2, 0, 0, 0, 0, []), (166, .lload 4, 2, 4, 0, 0, 0, 0, []), (168, .lcmp, 1, 0, 0, 0, 0, 0, []), (169, .ifCond .ne 7, 3, 176, 0, 0, 0, 0, []),
  (172, .lconst 1, 1, 0, 0, 0, 0, 1, []), (173, .goto 4, 3, 177, 0, 0, 0, 0, []), (176, .lconst 0, 1, 0, 0, 0, 0, 0, []), (177, .lstore 6, 2, 6, 0, 0, 0, 0, []), (179, .goto 24, 3, 203, 0, 0, 0, 0, []), (182, .lload_n 2, 1, 2, 0, 0, 0, 0, []),
  (183, .lload 4, 2, 4, 0, 0, 0, 0, []), (185, .land, 1, 0, 0, 0, 0, 0, []), (186, .lstore 6, 2, 6, 0, 0, 0, 0, []), (188, .goto 15, 3, 203, 0, 0, 0, 0, []), (191, .lload_n 2, 1, 2, 0, 0, 0, 0, []), (192, .lload 4, 2, 4, 0, 0, 0, 0, []),
  (194, .lor, 1, 0, 0, 0, 0, 0, []), (195, .lstore 6, 2, 6, 0, 0, 0, 0, []), (197, .goto 6, 3, 203, 0, 0, 0, 0, []), (200, .lconst 0, 1, 0, 0, 0, 0, 0, []), (201, .lstore 6, 2, 6, 0, 0, 0, 0, []), (203, .ldc2_w 47, 3, 0, 0, 0, 1686, (-1000000), []),
  (206, .ldc2_w 49, 3, 0, 0, 0, 1687, 1000000, []), (209, .lload 6, 2, 6, 0, 0, 0, 0, []), (211, .invokestatic 42, 3, 277, 2, 2, 1680, 0, []), (214, .invokestatic 45, 3, 275, 2, 2, 1683, 0, []), (217, .l2i, 1, 0, 0, 0, 0, 0, []), (218, .ireturn, 1, 0, 0, 1, 0, 0, [])]
noncomputable def am_s95 : am_S := (yX4_init, cX4_init, 5, none, 2, 0, 1, 4, 539, 538, 0, 514)
noncomputable def am_c95_0 : List (Nat × am_E) := [(0, .aload_n 0, 1, 0, 0, 0, 0, 0, []), (1, .invokespecial 3, 3, 0, 1, 9, 540, 0, []), (4, .aload_n 0, 1, 0, 0, 0, 0, 0, []), (5, .iconst 0, 1, 0, 0, 0, 0, 0, []), (6, .putfield 9, 3, 4, 0, 1, 684, 0, []), (9, .aload_n 0, 1, 0, 0, 0, 0, 0, []),
  (10, .iconst (-1), 1, 0, 0, 0, 0, (-1), []), (11, .putfield 15, 3, 4, 1, 1, 686, 0, []), (14, .aload_n 0, 1, 0, 0, 0, 0, 0, []), (15, .new 18, 3, 2, 16, 0, 541, 0, []), (18, .dup, 1, 0, 0, 0, 0, 0, []), (19, .invokespecial 20, 3, 84, 1, 0, 543, 0, [(1, 0)]),
  (22, .putfield 21, 3, 4, 2, 3, 688, 0, []), (25, .aload_n 0, 1, 0, 0, 0, 0, 0, []), (26, .iconst (-1), 1, 0, 0, 0, 0, (-1), []), (27, .putfield 25, 3, 4, 3, 1, 690, 0, []), (30, .aload_n 0, 1, 0, 0, 0, 0, 0, []), (31, .sipush 1600, 3, 0, 0, 0, 0, 1600, []),
  (34, .newarray .int, 2, 2, 0, 0, 0, 0, []), (36, .putfield 28, 3, 4, 4, 3, 692, 0, []), (39, .aload_n 0, 1, 0, 0, 0, 0, 0, []), (40, .sipush 1600, 3, 0, 0, 0, 0, 1600, []), (43, .newarray .int, 2, 2, 0, 0, 0, 0, []), (45, .putfield 32, 3, 4, 5, 3, 695, 0, []),
  (48, .aload_n 0, 1, 0, 0, 0, 0, 0, []), (49, .iconst 0, 1, 0, 0, 0, 0, 0, []), (50, .putfield 35, 3, 4, 6, 1, 696, 0, []), (53, .aload_n 0, 1, 0, 0, 0, 0, 0, []), (54, .bipush 35, 2, 0, 0, 0, 0, 35, []), (56, .newarray .long, 2, 3, 0, 0, 0, 0, []),
  (58, .putfield 38, 3, 4, 7, 3, 697, 0, []), (61, .aload_n 0, 1, 0, 0, 0, 0, 0, []), (62, .iconst 0, 1, 0, 0, 0, 0, 0, []), (63, .putfield 42, 3, 4, 8, 1, 698, 0, []), (66, .aload_n 0, 1, 0, 0, 0, 0, 0, []), (67, .iconst 0, 1, 0, 0, 0, 0, 0, []),
  (68, .putfield 45, 3, 4, 9, 1, 699, 0, []), (71, .aload_n 0, 1, 0, 0, 0, 0, 0, []), (72, .iconst 0, 1, 0, 0, 0, 0, 0, []), (73, .putfield 48, 3, 4, 10, 1, 700, 0, []), (76, .aload_n 0, 1, 0, 0, 0, 0, 0, []), (77, .lconst 0, 1, 0, 0, 0, 0, 0, []),
  (78, .putfield 51, 3, 4, 11, 2, 701, 0, []), (81, .aload_n 0, 1, 0, 0, 0, 0, 0, []), (82, .iconst (-1), 1, 0, 0, 0, 0, (-1), []), (83, .putfield 55, 3, 4, 12, 1, 702, 0, []), (86, .aload_n 0, 1, 0, 0, 0, 0, 0, []), (87, .iconst (-1), 1, 0, 0, 0, 0, (-1), []),
  (88, .putfield 58, 3, 4, 13, 1, 703, 0, []), (91, .aload_n 0, 1, 0, 0, 0, 0, 0, []), (92, .aload_n 0, 1, 0, 0, 0, 0, 0, []), (93, .getfield 28, 3, 4, 4, 3, 692, 0, []), (96, .putfield 61, 3, 4, 14, 3, 704, 0, []), (99, .aload_n 0, 1, 0, 0, 0, 0, 0, []),
  (100, .iconst 0, 1, 0, 0, 0, 0, 0, []), (101, .putfield 64, 3, 4, 15, 1, 705, 0, []), (104, .aload_n 0, 1, 0, 0, 0, 0, 0, []), (105, .iconst 0, 1, 0, 0, 0, 0, 0, []), (106, .putfield 67, 3, 4, 16, 1, 706, 0, []), (109, .iconst 0, 1, 0, 0, 0, 0, 0, []),
  (110, .istore_n 1, 1, 1, 0, 0, 0, 0, []), (111, .iconst 0, 1, 0, 0, 0, 0, 0, []), (112, .istore_n 2, 1, 2, 0, 0, 0, 0, []), (113, .iconst 0, 1, 0, 0, 0, 0, 0, []), (114, .istore_n 3, 1, 3, 0, 0, 0, 0, []), (115, .iload_n 3, 1, 3, 0, 0, 0, 0, []),
  (116, .ldc 70, 2, 0, 1, 0, 635, 0, []), (118, .invokevirtual 72, 3, 0, 1, 10, 636, 0, []), (121, .if_icmp .ge 62, 3, 183, 0, 0, 0, 0, []), (124, .ldc 70, 2, 0, 1, 0, 635, 0, []), (126, .iload_n 3, 1, 3, 0, 0, 0, 0, []), (127, .invokevirtual 77, 3, 0, 2, 11, 646, 0, []),
  (130, .istore 4, 2, 4, 0, 0, 0, 0, []), (132, .iload 4, 2, 4, 0, 0, 0, 0, []), (134, .bipush 32, 2, 0, 0, 0, 0, 32, []), (136, .if_icmp .eq 30, 3, 166, 0, 0, 0, 0, []), (139, .aload_n 0, 1, 0, 0, 0, 0, 0, []), (140, .getfield 38, 3, 4, 7, 3, 697, 0, []),
  (143, .iload_n 1, 1, 1, 0, 0, 0, 0, []), (144, .dup2, 1, 0, 0, 0, 0, 0, []), (145, .laload, 1, 0, 0, 0, 0, 0, []), (146, .iload 4, 2, 4, 0, 0, 0, 0, []), (148, .bipush 97, 2, 0, 0, 0, 0, 97, []), (150, .isub, 1, 0, 0, 0, 0, 0, []),
  (151, .iconst 1, 1, 0, 0, 0, 0, 1, []), (152, .iadd, 1, 0, 0, 0, 0, 0, []), (153, .i2l, 1, 0, 0, 0, 0, 0, []), (154, .iconst 5, 1, 0, 0, 0, 0, 5, []), (155, .iload_n 2, 1, 2, 0, 0, 0, 0, []), (156, .imul, 1, 0, 0, 0, 0, 0, []),
  (157, .lshl, 1, 0, 0, 0, 0, 0, []), (158, .lor, 1, 0, 0, 0, 0, 0, []), (159, .lastore, 1, 0, 0, 0, 0, 0, []), (160, .iinc 2 1, 3, 2, 0, 0, 0, 1, []), (163, .goto 14, 3, 177, 0, 0, 0, 0, []), (166, .iload_n 1, 1, 1, 0, 0, 0, 0, []),
  (167, .bipush 34, 2, 0, 0, 0, 0, 34, []), (169, .if_icmp .ge 8, 3, 177, 0, 0, 0, 0, []), (172, .iinc 1 1, 3, 1, 0, 0, 0, 1, []), (175, .iconst 0, 1, 0, 0, 0, 0, 0, [])]
noncomputable def am_c95_1 : List (Nat × am_E) := [(176, .istore_n 2, 1, 2, 0, 0, 0, 0, []), (177, .iinc 3 1, 3, 3, 0, 0, 0, 1, []), (180, .goto (-65), 3, 115, 0, 0, 0, 0, []), (183, .return_, 1, 0, 0, 0, 0, 0, [])]
noncomputable def am_c95 : List (Nat × am_E) := am_c95_0 ++ (am_c95_1)
noncomputable def am_s96 : am_S := (yX4_readHouse, cX4_readHouse, 3, (some .int), 1, 1, 2, 4, 1183, 1181, 1182, 514)
noncomputable def am_c96 : List (Nat × am_E) := [(0, .aload_n 0, 1, 0, 0, 0, 0, 0, []), (1, .getfield 21, 3, 4, 2, 3, 688, 0, []), (4, .invokevirtual 81, 3, 85, 1, 0, 1184, 2, []), (7, .aload_n 0, 1, 0, 0, 0, 0, 0, []), (8, .iload_n 1, 1, 1, 0, 0, 0, 0, []), (9, .aload_n 0, 1, 0, 0, 0, 0, 0, []),
  (10, .getfield 21, 3, 4, 2, 3, 688, 0, []), (13, .getfield 84, 3, 2, 15, 3, 599, 0, []), (16, .invokevirtual 85, 3, 98, 3, 0, 1188, 4, []), (19, .iconst 0, 1, 0, 0, 0, 0, 0, []), (20, .istore_n 2, 1, 2, 0, 0, 0, 0, []), (21, .aload_n 0, 1, 0, 0, 0, 0, 0, []),
  (22, .getfield 42, 3, 4, 8, 1, 698, 0, []), (25, .ifCond .eq 50, 3, 75, 0, 0, 0, 0, []), (28, .aload_n 0, 1, 0, 0, 0, 0, 0, []), (29, .getfield 9, 3, 4, 0, 1, 684, 0, []), (32, .ifCond .ne 43, 3, 75, 0, 0, 0, 0, []), (35, .iload_n 2, 1, 2, 0, 0, 0, 0, []),
  (36, .bipush 80, 2, 0, 0, 0, 0, 80, []), (38, .if_icmp .gt 37, 3, 75, 0, 0, 0, 0, []), (41, .iload_n 2, 1, 2, 0, 0, 0, 0, []), (42, .bipush 80, 2, 0, 0, 0, 0, 80, []), (44, .if_icmp .ne 15, 3, 59, 0, 0, 0, 0, []), (47, .aload_n 0, 1, 0, 0, 0, 0, 0, []),
  (48, .iconst 5, 1, 0, 0, 0, 0, 5, []), (49, .aload_n 0, 1, 0, 0, 0, 0, 0, []), (50, .getfield 45, 3, 4, 9, 1, 699, 0, []), (53, .invokevirtual 89, 3, 99, 3, 0, 1203, 4, []), (56, .goto 13, 3, 69, 0, 0, 0, 0, []), (59, .aload_n 0, 1, 0, 0, 0, 0, 0, []),
  (60, .invokevirtual 93, 3, 108, 1, 0, 1207, 4, []), (63, .aload_n 0, 1, 0, 0, 0, 0, 0, []), (64, .bipush 59, 2, 0, 0, 0, 0, 59, []), (66, .invokevirtual 96, 3, 105, 2, 0, 1555, 4, []), (69, .iinc 2 1, 3, 2, 0, 0, 0, 1, []), (72, .goto (-51), 3, 21, 0, 0, 0, 0, []),
  (75, .aload_n 0, 1, 0, 0, 0, 0, 0, []), (76, .getfield 9, 3, 4, 0, 1, 684, 0, []), (79, .ifCond .ne 7, 3, 86, 0, 0, 0, 0, []), (82, .iload_n 2, 1, 2, 0, 0, 0, 0, []), (83, .goto 4, 3, 87, 0, 0, 0, 0, []), (86, .iconst (-1), 1, 0, 0, 0, 0, (-1), []),
  (87, .ireturn, 1, 0, 0, 1, 0, 0, [])]
noncomputable def am_s97 : am_S := (yX4_readQuestion, cX4_readQuestion, 2, (some .boolean), 1, 4, 2, 4, 2157, 2155, 2156, 514)
noncomputable def am_c97 : List (Nat × am_E) := [(0, .aload_n 0, 1, 0, 0, 0, 0, 0, []), (1, .iload_n 1, 1, 1, 0, 0, 0, 0, []), (2, .aload_n 0, 1, 0, 0, 0, 0, 0, []), (3, .getfield 28, 3, 4, 4, 3, 692, 0, []), (6, .invokevirtual 85, 3, 98, 3, 0, 1188, 4, []), (9, .aload_n 0, 1, 0, 0, 0, 0, 0, []),
  (10, .aload_n 0, 1, 0, 0, 0, 0, 0, []), (11, .getfield 42, 3, 4, 8, 1, 698, 0, []), (14, .iconst 1, 1, 0, 0, 0, 0, 1, []), (15, .if_icmp .ne 10, 3, 25, 0, 0, 0, 0, []), (18, .aload_n 0, 1, 0, 0, 0, 0, 0, []), (19, .getfield 55, 3, 4, 12, 1, 702, 0, []),
  (22, .goto 4, 3, 26, 0, 0, 0, 0, []), (25, .iconst (-1), 1, 0, 0, 0, 0, (-1), []), (26, .putfield 25, 3, 4, 3, 1, 690, 0, []), (29, .aload_n 0, 1, 0, 0, 0, 0, 0, []), (30, .getfield 25, 3, 4, 3, 1, 690, 0, []), (33, .bipush 29, 2, 0, 0, 0, 0, 29, []),
  (35, .if_icmp .ge 12, 3, 47, 0, 0, 0, 0, []), (38, .aload_n 0, 1, 0, 0, 0, 0, 0, []), (39, .iconst 1, 1, 0, 0, 0, 0, 1, []), (40, .aload_n 0, 1, 0, 0, 0, 0, 0, []), (41, .getfield 45, 3, 4, 9, 1, 699, 0, []), (44, .invokevirtual 89, 3, 99, 3, 0, 1203, 4, []),
  (47, .aload_n 0, 1, 0, 0, 0, 0, 0, []), (48, .aload_n 0, 1, 0, 0, 0, 0, 0, []), (49, .getfield 25, 3, 4, 3, 1, 690, 0, []), (52, .iconst (-1), 1, 0, 0, 0, 0, (-1), []), (53, .invokevirtual 100, 3, 115, 3, 1, 1255, 4, []), (56, .pop, 1, 0, 0, 0, 0, 0, []),
  (57, .aload_n 0, 1, 0, 0, 0, 0, 0, []), (58, .getfield 25, 3, 4, 3, 1, 690, 0, []), (61, .bipush 31, 2, 0, 0, 0, 0, 31, []), (63, .if_icmp .gt 10, 3, 73, 0, 0, 0, 0, []), (66, .aload_n 0, 1, 0, 0, 0, 0, 0, []), (67, .invokevirtual 104, 3, 118, 1, 0, 1567, 4, []),
  (70, .goto 7, 3, 77, 0, 0, 0, 0, []), (73, .aload_n 0, 1, 0, 0, 0, 0, 0, []), (74, .invokevirtual 107, 3, 121, 1, 0, 1259, 4, []), (77, .aload_n 0, 1, 0, 0, 0, 0, 0, []), (78, .sipush 20000, 3, 0, 0, 0, 0, 20000, []), (81, .invokevirtual 110, 3, 116, 2, 0, 1543, 4, []),
  (84, .aload_n 0, 1, 0, 0, 0, 0, 0, []), (85, .getfield 42, 3, 4, 8, 1, 698, 0, []), (88, .ifCond .eq 12, 3, 100, 0, 0, 0, 0, []), (91, .aload_n 0, 1, 0, 0, 0, 0, 0, []), (92, .iconst 1, 1, 0, 0, 0, 0, 1, []), (93, .aload_n 0, 1, 0, 0, 0, 0, 0, []),
  (94, .getfield 45, 3, 4, 9, 1, 699, 0, []), (97, .invokevirtual 89, 3, 99, 3, 0, 1203, 4, []), (100, .aload_n 0, 1, 0, 0, 0, 0, 0, []), (101, .getfield 9, 3, 4, 0, 1, 684, 0, []), (104, .ifCond .ne 7, 3, 111, 0, 0, 0, 0, []), (107, .iconst 1, 1, 0, 0, 0, 0, 1, []),
  (108, .goto 4, 3, 112, 0, 0, 0, 0, []), (111, .iconst 0, 1, 0, 0, 0, 0, 0, []), (112, .ireturn, 1, 0, 0, 4, 0, 0, [])]
noncomputable def am_s98 : am_S := (yX4_begin, cX4_begin, 3, none, 1, 0, 3, 4, 1191, 1190, 3, 514)
noncomputable def am_c98 : List (Nat × am_E) := [(0, .aload_n 0, 1, 0, 0, 0, 0, 0, []), (1, .iconst 0, 1, 0, 0, 0, 0, 0, []), (2, .putfield 9, 3, 4, 0, 1, 684, 0, []), (5, .aload_n 0, 1, 0, 0, 0, 0, 0, []), (6, .iconst (-1), 1, 0, 0, 0, 0, (-1), []), (7, .putfield 15, 3, 4, 1, 1, 686, 0, []),
  (10, .aload_n 0, 1, 0, 0, 0, 0, 0, []), (11, .iload_n 1, 1, 1, 0, 0, 0, 0, []), (12, .aload_n 0, 1, 0, 0, 0, 0, 0, []), (13, .getfield 32, 3, 4, 5, 3, 695, 0, []), (16, .arraylength, 1, 0, 0, 0, 0, 0, []), (17, .invokestatic 114, 3, 276, 2, 1, 1192, 0, []),
  (20, .putfield 35, 3, 4, 6, 1, 696, 0, []), (23, .aload_n 0, 1, 0, 0, 0, 0, 0, []), (24, .aload_n 2, 1, 2, 0, 0, 0, 0, []), (25, .putfield 61, 3, 4, 14, 3, 704, 0, []), (28, .aload_n 0, 1, 0, 0, 0, 0, 0, []), (29, .iconst 0, 1, 0, 0, 0, 0, 0, []),
  (30, .putfield 64, 3, 4, 15, 1, 705, 0, []), (33, .aload_n 0, 1, 0, 0, 0, 0, 0, []), (34, .iconst 0, 1, 0, 0, 0, 0, 0, []), (35, .putfield 42, 3, 4, 8, 1, 698, 0, []), (38, .aload_n 0, 1, 0, 0, 0, 0, 0, []), (39, .iconst 0, 1, 0, 0, 0, 0, 0, []),
  (40, .putfield 48, 3, 4, 10, 1, 700, 0, []), (43, .aload_n 0, 1, 0, 0, 0, 0, 0, []), (44, .invokevirtual 119, 3, 100, 1, 0, 1195, 4, []), (47, .return_, 1, 0, 0, 0, 0, 0, [])]
noncomputable def am_s99 : am_S := (yX4_fail, cX4_fail, 3, none, 1, 0, 3, 4, 1206, 1205, 6, 514)
noncomputable def am_c99 : List (Nat × am_E) := [(0, .aload_n 0, 1, 0, 0, 0, 0, 0, []), (1, .getfield 9, 3, 4, 0, 1, 684, 0, []), (4, .ifCond .ne 13, 3, 17, 0, 0, 0, 0, []), (7, .aload_n 0, 1, 0, 0, 0, 0, 0, []), (8, .iload_n 1, 1, 1, 0, 0, 0, 0, []), (9, .putfield 9, 3, 4, 0, 1, 684, 0, []),
  (12, .aload_n 0, 1, 0, 0, 0, 0, 0, []), (13, .iload_n 2, 1, 2, 0, 0, 0, 0, []), (14, .putfield 15, 3, 4, 1, 1, 686, 0, []), (17, .aload_n 0, 1, 0, 0, 0, 0, 0, []), (18, .iconst 4, 1, 0, 0, 0, 0, 4, []), (19, .putfield 42, 3, 4, 8, 1, 698, 0, []),
  (22, .return_, 1, 0, 0, 0, 0, 0, [])]
noncomputable def am_s100 : am_S := (yX4_next, cX4_next, 3, none, 1, 0, 1, 4, 1198, 1197, 4, 514)
noncomputable def am_c100_0 : List (Nat × am_E) := [(0, .aload_n 0, 1, 0, 0, 0, 0, 0, []), (1, .getfield 9, 3, 4, 0, 1, 684, 0, []), (4, .ifCond .eq 4, 3, 8, 0, 0, 0, 0, []), (7, .return_, 1, 0, 0, 0, 0, 0, []), (8, .aload_n 0, 1, 0, 0, 0, 0, 0, []), (9, .getfield 42, 3, 4, 8, 1, 698, 0, []),
  (12, .iconst 1, 1, 0, 0, 0, 0, 1, []), (13, .if_icmp .eq 11, 3, 24, 0, 0, 0, 0, []), (16, .aload_n 0, 1, 0, 0, 0, 0, 0, []), (17, .getfield 42, 3, 4, 8, 1, 698, 0, []), (20, .iconst 2, 1, 0, 0, 0, 0, 2, []), (21, .if_icmp .ne 10, 3, 31, 0, 0, 0, 0, []),
  (24, .aload_n 0, 1, 0, 0, 0, 0, 0, []), (25, .getfield 48, 3, 4, 10, 1, 700, 0, []), (28, .goto 4, 3, 32, 0, 0, 0, 0, []), (31, .iconst (-1), 1, 0, 0, 0, 0, (-1), []), (32, .istore_n 1, 1, 1, 0, 0, 0, 0, []), (33, .aload_n 0, 1, 0, 0, 0, 0, 0, []),
  (34, .aload_n 0, 1, 0, 0, 0, 0, 0, []), (35, .getfield 48, 3, 4, 10, 1, 700, 0, []), (38, .putfield 45, 3, 4, 9, 1, 699, 0, []), (41, .aload_n 0, 1, 0, 0, 0, 0, 0, []), (42, .getfield 45, 3, 4, 9, 1, 699, 0, []), (45, .aload_n 0, 1, 0, 0, 0, 0, 0, []),
  (46, .getfield 35, 3, 4, 6, 1, 696, 0, []), (49, .if_icmp .ge 44, 3, 93, 0, 0, 0, 0, []), (52, .aload_n 0, 1, 0, 0, 0, 0, 0, []), (53, .getfield 32, 3, 4, 5, 3, 695, 0, []), (56, .aload_n 0, 1, 0, 0, 0, 0, 0, []), (57, .getfield 45, 3, 4, 9, 1, 699, 0, []),
  (60, .iaload, 1, 0, 0, 0, 0, 0, []), (61, .bipush 10, 2, 0, 0, 0, 0, 10, []), (63, .if_icmp .eq 17, 3, 80, 0, 0, 0, 0, []), (66, .aload_n 0, 1, 0, 0, 0, 0, 0, []), (67, .getfield 32, 3, 4, 5, 3, 695, 0, []), (70, .aload_n 0, 1, 0, 0, 0, 0, 0, []),
  (71, .getfield 45, 3, 4, 9, 1, 699, 0, []), (74, .iaload, 1, 0, 0, 0, 0, 0, []), (75, .bipush 32, 2, 0, 0, 0, 0, 32, []), (77, .if_icmp .ne 16, 3, 93, 0, 0, 0, 0, []), (80, .aload_n 0, 1, 0, 0, 0, 0, 0, []), (81, .dup, 1, 0, 0, 0, 0, 0, []),
  (82, .getfield 45, 3, 4, 9, 1, 699, 0, []), (85, .iconst 1, 1, 0, 0, 0, 0, 1, []), (86, .iadd, 1, 0, 0, 0, 0, 0, []), (87, .putfield 45, 3, 4, 9, 1, 699, 0, []), (90, .goto (-49), 3, 41, 0, 0, 0, 0, []), (93, .aload_n 0, 1, 0, 0, 0, 0, 0, []),
  (94, .aload_n 0, 1, 0, 0, 0, 0, 0, []), (95, .getfield 45, 3, 4, 9, 1, 699, 0, []), (98, .putfield 48, 3, 4, 10, 1, 700, 0, []), (101, .aload_n 0, 1, 0, 0, 0, 0, 0, []), (102, .getfield 45, 3, 4, 9, 1, 699, 0, []), (105, .aload_n 0, 1, 0, 0, 0, 0, 0, []),
  (106, .getfield 35, 3, 4, 6, 1, 696, 0, []), (109, .if_icmp .ge 15, 3, 124, 0, 0, 0, 0, []), (112, .aload_n 0, 1, 0, 0, 0, 0, 0, []), (113, .getfield 32, 3, 4, 5, 3, 695, 0, []), (116, .aload_n 0, 1, 0, 0, 0, 0, 0, []), (117, .getfield 45, 3, 4, 9, 1, 699, 0, []),
  (120, .iaload, 1, 0, 0, 0, 0, 0, []), (121, .goto 4, 3, 125, 0, 0, 0, 0, []), (124, .iconst 0, 1, 0, 0, 0, 0, 0, []), (125, .istore_n 2, 1, 2, 0, 0, 0, 0, []), (126, .aload_n 0, 1, 0, 0, 0, 0, 0, []), (127, .getfield 45, 3, 4, 9, 1, 699, 0, []),
  (130, .aload_n 0, 1, 0, 0, 0, 0, 0, []), (131, .getfield 35, 3, 4, 6, 1, 696, 0, []), (134, .if_icmp .lt 11, 3, 145, 0, 0, 0, 0, []), (137, .aload_n 0, 1, 0, 0, 0, 0, 0, []), (138, .iconst 0, 1, 0, 0, 0, 0, 0, []), (139, .putfield 42, 3, 4, 8, 1, 698, 0, []),
  (142, .goto 163, 3, 305, 0, 0, 0, 0, []), (145, .iload_n 2, 1, 2, 0, 0, 0, 0, []), (146, .bipush 97, 2, 0, 0, 0, 0, 97, []), (148, .if_icmp .lt 73, 3, 221, 0, 0, 0, 0, []), (151, .iload_n 2, 1, 2, 0, 0, 0, 0, []), (152, .bipush 122, 2, 0, 0, 0, 0, 122, []),
  (154, .if_icmp .gt 67, 3, 221, 0, 0, 0, 0, []), (157, .aload_n 0, 1, 0, 0, 0, 0, 0, []), (158, .iconst 1, 1, 0, 0, 0, 0, 1, []), (159, .putfield 42, 3, 4, 8, 1, 698, 0, []), (162, .aload_n 0, 1, 0, 0, 0, 0, 0, []), (163, .getfield 48, 3, 4, 10, 1, 700, 0, []),
  (166, .aload_n 0, 1, 0, 0, 0, 0, 0, []), (167, .getfield 35, 3, 4, 6, 1, 696, 0, []), (170, .if_icmp .ge 44, 3, 214, 0, 0, 0, 0, []), (173, .aload_n 0, 1, 0, 0, 0, 0, 0, []), (174, .getfield 32, 3, 4, 5, 3, 695, 0, []), (177, .aload_n 0, 1, 0, 0, 0, 0, 0, []),
  (178, .getfield 48, 3, 4, 10, 1, 700, 0, []), (181, .iaload, 1, 0, 0, 0, 0, 0, []), (182, .bipush 97, 2, 0, 0, 0, 0, 97, []), (184, .if_icmp .lt 30, 3, 214, 0, 0, 0, 0, []), (187, .aload_n 0, 1, 0, 0, 0, 0, 0, []), (188, .getfield 32, 3, 4, 5, 3, 695, 0, []),
  (191, .aload_n 0, 1, 0, 0, 0, 0, 0, []), (192, .getfield 48, 3, 4, 10, 1, 700, 0, []), (195, .iaload, 1, 0, 0, 0, 0, 0, []), (196, .bipush 122, 2, 0, 0, 0, 0, 122, [])]
noncomputable def am_c100_1 : List (Nat × am_E) := [(198, .if_icmp .gt 16, 3, 214, 0, 0, 0, 0, []), (201, .aload_n 0, 1, 0, 0, 0, 0, 0, []), (202, .dup, 1, 0, 0, 0, 0, 0, []), (203, .getfield 48, 3, 4, 10, 1, 700, 0, []), (206, .iconst 1, 1, 0, 0, 0, 0, 1, []), (207, .iadd, 1, 0, 0, 0, 0, 0, []),
  (208, .putfield 48, 3, 4, 10, 1, 700, 0, []), (211, .goto (-49), 3, 162, 0, 0, 0, 0, []), (214, .aload_n 0, 1, 0, 0, 0, 0, 0, []), (215, .invokevirtual 122, 3, 101, 1, 0, 1199, 4, []), (218, .goto 87, 3, 305, 0, 0, 0, 0, []), (221, .iload_n 2, 1, 2, 0, 0, 0, 0, []),
  (222, .bipush 48, 2, 0, 0, 0, 0, 48, []), (224, .if_icmp .lt 66, 3, 290, 0, 0, 0, 0, []), (227, .iload_n 2, 1, 2, 0, 0, 0, 0, []), (228, .bipush 57, 2, 0, 0, 0, 0, 57, []), (230, .if_icmp .gt 60, 3, 290, 0, 0, 0, 0, []), (233, .aload_n 0, 1, 0, 0, 0, 0, 0, []),
  (234, .iconst 2, 1, 0, 0, 0, 0, 2, []), (235, .putfield 42, 3, 4, 8, 1, 698, 0, []), (238, .aload_n 0, 1, 0, 0, 0, 0, 0, []), (239, .getfield 48, 3, 4, 10, 1, 700, 0, []), (242, .aload_n 0, 1, 0, 0, 0, 0, 0, []), (243, .getfield 35, 3, 4, 6, 1, 696, 0, []),
  (246, .if_icmp .ge 59, 3, 305, 0, 0, 0, 0, []), (249, .aload_n 0, 1, 0, 0, 0, 0, 0, []), (250, .getfield 32, 3, 4, 5, 3, 695, 0, []), (253, .aload_n 0, 1, 0, 0, 0, 0, 0, []), (254, .getfield 48, 3, 4, 10, 1, 700, 0, []), (257, .iaload, 1, 0, 0, 0, 0, 0, []),
  (258, .bipush 48, 2, 0, 0, 0, 0, 48, []), (260, .if_icmp .lt 45, 3, 305, 0, 0, 0, 0, []), (263, .aload_n 0, 1, 0, 0, 0, 0, 0, []), (264, .getfield 32, 3, 4, 5, 3, 695, 0, []), (267, .aload_n 0, 1, 0, 0, 0, 0, 0, []), (268, .getfield 48, 3, 4, 10, 1, 700, 0, []),
  (271, .iaload, 1, 0, 0, 0, 0, 0, []), (272, .bipush 57, 2, 0, 0, 0, 0, 57, []), (274, .if_icmp .gt 31, 3, 305, 0, 0, 0, 0, []), (277, .aload_n 0, 1, 0, 0, 0, 0, 0, []), (278, .dup, 1, 0, 0, 0, 0, 0, []), (279, .getfield 48, 3, 4, 10, 1, 700, 0, []),
  (282, .iconst 1, 1, 0, 0, 0, 0, 1, []), (283, .iadd, 1, 0, 0, 0, 0, 0, []), (284, .putfield 48, 3, 4, 10, 1, 700, 0, []), (287, .goto (-49), 3, 238, 0, 0, 0, 0, []), (290, .aload_n 0, 1, 0, 0, 0, 0, 0, []), (291, .iconst 3, 1, 0, 0, 0, 0, 3, []),
  (292, .putfield 42, 3, 4, 8, 1, 698, 0, []), (295, .aload_n 0, 1, 0, 0, 0, 0, 0, []), (296, .dup, 1, 0, 0, 0, 0, 0, []), (297, .getfield 48, 3, 4, 10, 1, 700, 0, []), (300, .iconst 1, 1, 0, 0, 0, 0, 1, []), (301, .iadd, 1, 0, 0, 0, 0, 0, []),
  (302, .putfield 48, 3, 4, 10, 1, 700, 0, []), (305, .iload_n 1, 1, 1, 0, 0, 0, 0, []), (306, .aload_n 0, 1, 0, 0, 0, 0, 0, []), (307, .getfield 45, 3, 4, 9, 1, 699, 0, []), (310, .if_icmp .ne 24, 3, 334, 0, 0, 0, 0, []), (313, .aload_n 0, 1, 0, 0, 0, 0, 0, []),
  (314, .getfield 42, 3, 4, 8, 1, 698, 0, []), (317, .iconst 1, 1, 0, 0, 0, 0, 1, []), (318, .if_icmp .eq 11, 3, 329, 0, 0, 0, 0, []), (321, .aload_n 0, 1, 0, 0, 0, 0, 0, []), (322, .getfield 42, 3, 4, 8, 1, 698, 0, []), (325, .iconst 2, 1, 0, 0, 0, 0, 2, []),
  (326, .if_icmp .ne 8, 3, 334, 0, 0, 0, 0, []), (329, .aload_n 0, 1, 0, 0, 0, 0, 0, []), (330, .iconst 4, 1, 0, 0, 0, 0, 4, []), (331, .putfield 42, 3, 4, 8, 1, 698, 0, []), (334, .return_, 1, 0, 0, 0, 0, 0, [])]
noncomputable def am_c100 : List (Nat × am_E) := am_c100_0 ++ (am_c100_1)
noncomputable def am_s101 : am_S := (yX4_knowWord, cX4_knowWord, 2, none, 1, 0, 1, 4, 1202, 1201, 5, 514)
noncomputable def am_c101 : List (Nat × am_E) := [(0, .aload_n 0, 1, 0, 0, 0, 0, 0, []), (1, .lconst 0, 1, 0, 0, 0, 0, 0, []), (2, .putfield 51, 3, 4, 11, 2, 701, 0, []), (5, .aload_n 0, 1, 0, 0, 0, 0, 0, []), (6, .iconst (-1), 1, 0, 0, 0, 0, (-1), []), (7, .putfield 55, 3, 4, 12, 1, 702, 0, []),
  (10, .aload_n 0, 1, 0, 0, 0, 0, 0, []), (11, .getfield 45, 3, 4, 9, 1, 699, 0, []), (14, .istore_n 1, 1, 1, 0, 0, 0, 0, []), (15, .iload_n 1, 1, 1, 0, 0, 0, 0, []), (16, .aload_n 0, 1, 0, 0, 0, 0, 0, []), (17, .getfield 48, 3, 4, 10, 1, 700, 0, []),
  (20, .if_icmp .ge 50, 3, 70, 0, 0, 0, 0, []), (23, .iload_n 1, 1, 1, 0, 0, 0, 0, []), (24, .aload_n 0, 1, 0, 0, 0, 0, 0, []), (25, .getfield 45, 3, 4, 9, 1, 699, 0, []), (28, .bipush 7, 2, 0, 0, 0, 0, 7, []), (30, .iadd, 1, 0, 0, 0, 0, 0, []),
  (31, .if_icmp .ge 39, 3, 70, 0, 0, 0, 0, []), (34, .aload_n 0, 1, 0, 0, 0, 0, 0, []), (35, .dup, 1, 0, 0, 0, 0, 0, []), (36, .getfield 51, 3, 4, 11, 2, 701, 0, []), (39, .aload_n 0, 1, 0, 0, 0, 0, 0, []), (40, .getfield 32, 3, 4, 5, 3, 695, 0, []),
  (43, .iload_n 1, 1, 1, 0, 0, 0, 0, []), (44, .iaload, 1, 0, 0, 0, 0, 0, []), (45, .bipush 97, 2, 0, 0, 0, 0, 97, []), (47, .isub, 1, 0, 0, 0, 0, 0, []), (48, .iconst 1, 1, 0, 0, 0, 0, 1, []), (49, .iadd, 1, 0, 0, 0, 0, 0, []),
  (50, .i2l, 1, 0, 0, 0, 0, 0, []), (51, .iconst 5, 1, 0, 0, 0, 0, 5, []), (52, .iload_n 1, 1, 1, 0, 0, 0, 0, []), (53, .aload_n 0, 1, 0, 0, 0, 0, 0, []), (54, .getfield 45, 3, 4, 9, 1, 699, 0, []), (57, .isub, 1, 0, 0, 0, 0, 0, []),
  (58, .imul, 1, 0, 0, 0, 0, 0, []), (59, .lshl, 1, 0, 0, 0, 0, 0, []), (60, .lor, 1, 0, 0, 0, 0, 0, []), (61, .putfield 51, 3, 4, 11, 2, 701, 0, []), (64, .iinc 1 1, 3, 1, 0, 0, 0, 1, []), (67, .goto (-52), 3, 15, 0, 0, 0, 0, []),
  (70, .iconst 0, 1, 0, 0, 0, 0, 0, []), (71, .istore_n 1, 1, 1, 0, 0, 0, 0, []), (72, .iload_n 1, 1, 1, 0, 0, 0, 0, []), (73, .bipush 35, 2, 0, 0, 0, 0, 35, []), (75, .if_icmp .ge 42, 3, 117, 0, 0, 0, 0, []), (78, .aload_n 0, 1, 0, 0, 0, 0, 0, []),
  (79, .getfield 48, 3, 4, 10, 1, 700, 0, []), (82, .aload_n 0, 1, 0, 0, 0, 0, 0, []), (83, .getfield 45, 3, 4, 9, 1, 699, 0, []), (86, .isub, 1, 0, 0, 0, 0, 0, []), (87, .bipush 7, 2, 0, 0, 0, 0, 7, []), (89, .if_icmp .gt 28, 3, 117, 0, 0, 0, 0, []),
  (92, .aload_n 0, 1, 0, 0, 0, 0, 0, []), (93, .getfield 38, 3, 4, 7, 3, 697, 0, []), (96, .iload_n 1, 1, 1, 0, 0, 0, 0, []), (97, .laload, 1, 0, 0, 0, 0, 0, []), (98, .aload_n 0, 1, 0, 0, 0, 0, 0, []), (99, .getfield 51, 3, 4, 11, 2, 701, 0, []),
  (102, .lcmp, 1, 0, 0, 0, 0, 0, []), (103, .ifCond .ne 8, 3, 111, 0, 0, 0, 0, []), (106, .aload_n 0, 1, 0, 0, 0, 0, 0, []), (107, .iload_n 1, 1, 1, 0, 0, 0, 0, []), (108, .putfield 55, 3, 4, 12, 1, 702, 0, []), (111, .iinc 1 1, 3, 1, 0, 0, 0, 1, []),
  (114, .goto (-42), 3, 72, 0, 0, 0, 0, []), (117, .return_, 1, 0, 0, 0, 0, 0, [])]
noncomputable def am_s102 : am_S := (yX4_isWord, cX4_isWord, 2, (some .boolean), 1, 4, 2, 4, 1234, 1233, 12, 514)
noncomputable def am_c102 : List (Nat × am_E) := [(0, .aload_n 0, 1, 0, 0, 0, 0, 0, []), (1, .getfield 42, 3, 4, 8, 1, 698, 0, []), (4, .iconst 1, 1, 0, 0, 0, 0, 1, []), (5, .if_icmp .ne 15, 3, 20, 0, 0, 0, 0, []), (8, .aload_n 0, 1, 0, 0, 0, 0, 0, []), (9, .getfield 55, 3, 4, 12, 1, 702, 0, []),
  (12, .iload_n 1, 1, 1, 0, 0, 0, 0, []), (13, .if_icmp .ne 7, 3, 20, 0, 0, 0, 0, []), (16, .iconst 1, 1, 0, 0, 0, 0, 1, []), (17, .goto 4, 3, 21, 0, 0, 0, 0, []), (20, .iconst 0, 1, 0, 0, 0, 0, 0, []), (21, .ireturn, 1, 0, 0, 4, 0, 0, [])]
noncomputable def am_s103 : am_S := (yX4_isSign, cX4_isSign, 2, (some .boolean), 1, 4, 2, 4, 1550, 1549, 23, 514)
noncomputable def am_c103 : List (Nat × am_E) := [(0, .aload_n 0, 1, 0, 0, 0, 0, 0, []), (1, .getfield 42, 3, 4, 8, 1, 698, 0, []), (4, .iconst 3, 1, 0, 0, 0, 0, 3, []), (5, .if_icmp .ne 31, 3, 36, 0, 0, 0, 0, []), (8, .aload_n 0, 1, 0, 0, 0, 0, 0, []), (9, .getfield 45, 3, 4, 9, 1, 699, 0, []),
  (12, .aload_n 0, 1, 0, 0, 0, 0, 0, []), (13, .getfield 35, 3, 4, 6, 1, 696, 0, []), (16, .if_icmp .ge 20, 3, 36, 0, 0, 0, 0, []), (19, .aload_n 0, 1, 0, 0, 0, 0, 0, []), (20, .getfield 32, 3, 4, 5, 3, 695, 0, []), (23, .aload_n 0, 1, 0, 0, 0, 0, 0, []),
  (24, .getfield 45, 3, 4, 9, 1, 699, 0, []), (27, .iaload, 1, 0, 0, 0, 0, 0, []), (28, .iload_n 1, 1, 1, 0, 0, 0, 0, []), (29, .if_icmp .ne 7, 3, 36, 0, 0, 0, 0, []), (32, .iconst 1, 1, 0, 0, 0, 0, 1, []), (33, .goto 4, 3, 37, 0, 0, 0, 0, []),
  (36, .iconst 0, 1, 0, 0, 0, 0, 0, []), (37, .ireturn, 1, 0, 0, 4, 0, 0, [])]
noncomputable def am_s104 : am_S := (yX4_takeWord, cX4_takeWord, 2, none, 1, 0, 2, 4, 1230, 1229, 11, 514)
noncomputable def am_c104 : List (Nat × am_E) := [(0, .aload_n 0, 1, 0, 0, 0, 0, 0, []), (1, .iload_n 1, 1, 1, 0, 0, 0, 0, []), (2, .invokevirtual 125, 3, 102, 2, 4, 1231, 4, []), (5, .ifCond .eq 10, 3, 15, 0, 0, 0, 0, []), (8, .aload_n 0, 1, 0, 0, 0, 0, 0, []), (9, .invokevirtual 119, 3, 100, 1, 0, 1195, 4, []),
  (12, .goto 12, 3, 24, 0, 0, 0, 0, []), (15, .aload_n 0, 1, 0, 0, 0, 0, 0, []), (16, .iconst 1, 1, 0, 0, 0, 0, 1, []), (17, .aload_n 0, 1, 0, 0, 0, 0, 0, []), (18, .getfield 45, 3, 4, 9, 1, 699, 0, []), (21, .invokevirtual 89, 3, 99, 3, 0, 1203, 4, []),
  (24, .return_, 1, 0, 0, 0, 0, 0, [])]
noncomputable def am_s105 : am_S := (yX4_takeSign, cX4_takeSign, 2, none, 1, 0, 2, 4, 1558, 1557, 25, 514)
noncomputable def am_c105 : List (Nat × am_E) := [(0, .aload_n 0, 1, 0, 0, 0, 0, 0, []), (1, .iload_n 1, 1, 1, 0, 0, 0, 0, []), (2, .invokevirtual 129, 3, 103, 2, 4, 1547, 4, []), (5, .ifCond .eq 10, 3, 15, 0, 0, 0, 0, []), (8, .aload_n 0, 1, 0, 0, 0, 0, 0, []), (9, .invokevirtual 119, 3, 100, 1, 0, 1195, 4, []),
  (12, .goto 12, 3, 24, 0, 0, 0, 0, []), (15, .aload_n 0, 1, 0, 0, 0, 0, 0, []), (16, .iconst 1, 1, 0, 0, 0, 0, 1, []), (17, .aload_n 0, 1, 0, 0, 0, 0, 0, []), (18, .getfield 45, 3, 4, 9, 1, 699, 0, []), (21, .invokevirtual 89, 3, 99, 3, 0, 1203, 4, []),
  (24, .return_, 1, 0, 0, 0, 0, 0, [])]
noncomputable def am_s106 : am_S := (yX4_takeNumber, cX4_takeNumber, 5, (some .int), 1, 1, 3, 4, 1238, 1237, 13, 514)
noncomputable def am_c106 : List (Nat × am_E) := [(0, .aload_n 0, 1, 0, 0, 0, 0, 0, []), (1, .getfield 42, 3, 4, 8, 1, 698, 0, []), (4, .iconst 2, 1, 0, 0, 0, 0, 2, []), (5, .if_icmp .eq 14, 3, 19, 0, 0, 0, 0, []), (8, .aload_n 0, 1, 0, 0, 0, 0, 0, []), (9, .iconst 1, 1, 0, 0, 0, 0, 1, []),
  (10, .aload_n 0, 1, 0, 0, 0, 0, 0, []), (11, .getfield 45, 3, 4, 9, 1, 699, 0, []), (14, .invokevirtual 89, 3, 99, 3, 0, 1203, 4, []), (17, .iload_n 1, 1, 1, 0, 0, 0, 0, []), (18, .ireturn, 1, 0, 0, 1, 0, 0, []), (19, .aload_n 0, 1, 0, 0, 0, 0, 0, []),
  (20, .getfield 48, 3, 4, 10, 1, 700, 0, []), (23, .aload_n 0, 1, 0, 0, 0, 0, 0, []), (24, .getfield 45, 3, 4, 9, 1, 699, 0, []), (27, .isub, 1, 0, 0, 0, 0, 0, []), (28, .iconst 4, 1, 0, 0, 0, 0, 4, []), (29, .if_icmp .le 16, 3, 45, 0, 0, 0, 0, []),
  (32, .aload_n 0, 1, 0, 0, 0, 0, 0, []), (33, .iconst 1, 1, 0, 0, 0, 0, 1, []), (34, .aload_n 0, 1, 0, 0, 0, 0, 0, []), (35, .getfield 45, 3, 4, 9, 1, 699, 0, []), (38, .iconst 4, 1, 0, 0, 0, 0, 4, []), (39, .iadd, 1, 0, 0, 0, 0, 0, []),
  (40, .invokevirtual 89, 3, 99, 3, 0, 1203, 4, []), (43, .iload_n 1, 1, 1, 0, 0, 0, 0, []), (44, .ireturn, 1, 0, 0, 1, 0, 0, []), (45, .iconst 0, 1, 0, 0, 0, 0, 0, []), (46, .istore_n 3, 1, 3, 0, 0, 0, 0, []), (47, .aload_n 0, 1, 0, 0, 0, 0, 0, []),
  (48, .getfield 45, 3, 4, 9, 1, 699, 0, []), (51, .istore 4, 2, 4, 0, 0, 0, 0, []), (53, .iload 4, 2, 4, 0, 0, 0, 0, []), (55, .aload_n 0, 1, 0, 0, 0, 0, 0, []), (56, .getfield 48, 3, 4, 10, 1, 700, 0, []), (59, .if_icmp .ge 25, 3, 84, 0, 0, 0, 0, []),
  (62, .iload_n 3, 1, 3, 0, 0, 0, 0, []), (63, .bipush 10, 2, 0, 0, 0, 0, 10, []), (65, .imul, 1, 0, 0, 0, 0, 0, []), (66, .aload_n 0, 1, 0, 0, 0, 0, 0, []), (67, .getfield 32, 3, 4, 5, 3, 695, 0, []), (70, .iload 4, 2, 4, 0, 0, 0, 0, []),
  (72, .iaload, 1, 0, 0, 0, 0, 0, []), (73, .iadd, 1, 0, 0, 0, 0, 0, []), (74, .bipush 48, 2, 0, 0, 0, 0, 48, []), (76, .isub, 1, 0, 0, 0, 0, 0, []), (77, .istore_n 3, 1, 3, 0, 0, 0, 0, []), (78, .iinc 4 1, 3, 4, 0, 0, 0, 1, []),
  (81, .goto (-28), 3, 53, 0, 0, 0, 0, []), (84, .iload_n 3, 1, 3, 0, 0, 0, 0, []), (85, .iload_n 1, 1, 1, 0, 0, 0, 0, []), (86, .if_icmp .lt 8, 3, 94, 0, 0, 0, 0, []), (89, .iload_n 3, 1, 3, 0, 0, 0, 0, []), (90, .iload_n 2, 1, 2, 0, 0, 0, 0, []),
  (91, .if_icmp .le 14, 3, 105, 0, 0, 0, 0, []), (94, .aload_n 0, 1, 0, 0, 0, 0, 0, []), (95, .iconst 2, 1, 0, 0, 0, 0, 2, []), (96, .aload_n 0, 1, 0, 0, 0, 0, 0, []), (97, .getfield 45, 3, 4, 9, 1, 699, 0, []), (100, .invokevirtual 89, 3, 99, 3, 0, 1203, 4, []),
  (103, .iload_n 1, 1, 1, 0, 0, 0, 0, []), (104, .ireturn, 1, 0, 0, 1, 0, 0, []), (105, .aload_n 0, 1, 0, 0, 0, 0, 0, []), (106, .invokevirtual 119, 3, 100, 1, 0, 1195, 4, []), (109, .iload_n 3, 1, 3, 0, 0, 0, 0, []), (110, .ireturn, 1, 0, 0, 1, 0, 0, [])]
noncomputable def am_s107 : am_S := (yX4_nameHere, cX4_nameHere, 1, (some .int), 1, 1, 1, 4, 1218, 1217, 9, 514)
noncomputable def am_c107 : List (Nat × am_E) := [(0, .aload_n 0, 1, 0, 0, 0, 0, 0, []), (1, .getfield 42, 3, 4, 8, 1, 698, 0, []), (4, .iconst 1, 1, 0, 0, 0, 0, 1, []), (5, .if_icmp .ne 19, 3, 24, 0, 0, 0, 0, []), (8, .aload_n 0, 1, 0, 0, 0, 0, 0, []), (9, .getfield 55, 3, 4, 12, 1, 702, 0, []),
  (12, .ifCond .lt 23, 3, 35, 0, 0, 0, 0, []), (15, .aload_n 0, 1, 0, 0, 0, 0, 0, []), (16, .getfield 55, 3, 4, 12, 1, 702, 0, []), (19, .bipush 29, 2, 0, 0, 0, 0, 29, []), (21, .if_icmp .ge 14, 3, 35, 0, 0, 0, 0, []), (24, .aload_n 0, 1, 0, 0, 0, 0, 0, []),
  (25, .iconst 1, 1, 0, 0, 0, 0, 1, []), (26, .aload_n 0, 1, 0, 0, 0, 0, 0, []), (27, .getfield 45, 3, 4, 9, 1, 699, 0, []), (30, .invokevirtual 89, 3, 99, 3, 0, 1203, 4, []), (33, .iconst 0, 1, 0, 0, 0, 0, 0, []), (34, .ireturn, 1, 0, 0, 1, 0, 0, []),
  (35, .aload_n 0, 1, 0, 0, 0, 0, 0, []), (36, .getfield 48, 3, 4, 10, 1, 700, 0, []), (39, .aload_n 0, 1, 0, 0, 0, 0, 0, []), (40, .getfield 45, 3, 4, 9, 1, 699, 0, []), (43, .isub, 1, 0, 0, 0, 0, 0, []), (44, .bipush 6, 2, 0, 0, 0, 0, 6, []),
  (46, .if_icmp .le 17, 3, 63, 0, 0, 0, 0, []), (49, .aload_n 0, 1, 0, 0, 0, 0, 0, []), (50, .iconst 1, 1, 0, 0, 0, 0, 1, []), (51, .aload_n 0, 1, 0, 0, 0, 0, 0, []), (52, .getfield 45, 3, 4, 9, 1, 699, 0, []), (55, .bipush 6, 2, 0, 0, 0, 0, 6, []),
  (57, .iadd, 1, 0, 0, 0, 0, 0, []), (58, .invokevirtual 89, 3, 99, 3, 0, 1203, 4, []), (61, .iconst 0, 1, 0, 0, 0, 0, 0, []), (62, .ireturn, 1, 0, 0, 1, 0, 0, []), (63, .aload_n 0, 1, 0, 0, 0, 0, 0, []), (64, .getfield 51, 3, 4, 11, 2, 701, 0, []),
  (67, .l2i, 1, 0, 0, 0, 0, 0, []), (68, .ireturn, 1, 0, 0, 1, 0, 0, [])]
noncomputable def am_s108 : am_S := (yX4_readStatement, cX4_readStatement, 2, none, 1, 0, 1, 4, 1210, 1209, 7, 514)
noncomputable def am_c108_0 : List (Nat × am_E) := [(0, .aload_n 0, 1, 0, 0, 0, 0, 0, []), (1, .getfield 42, 3, 4, 8, 1, 698, 0, []), (4, .iconst 1, 1, 0, 0, 0, 0, 1, []), (5, .if_icmp .ne 10, 3, 15, 0, 0, 0, 0, []), (8, .aload_n 0, 1, 0, 0, 0, 0, 0, []), (9, .getfield 55, 3, 4, 12, 1, 702, 0, []),
  (12, .goto 4, 3, 16, 0, 0, 0, 0, []), (15, .iconst (-1), 1, 0, 0, 0, 0, (-1), []), (16, .istore_n 1, 1, 1, 0, 0, 0, 0, []), (17, .iload_n 1, 1, 1, 0, 0, 0, 0, []), (18, .tableswitch 300 0 15 #[78, 89, 300, 300, 96, 300, 300, 103, 110, 117, 150, 183, 216, 236, 258, 279], 78, 318, 0, 0, 0, 0, [(0, 96), (1, 107), (2, 318), (3, 318), (4, 114), (5, 318), (6, 318), (7, 121), (8, 128), (9, 135), (10, 168), (11, 201), (12, 234), (13, 254), (14, 276), (15, 297)]), (96, .aload_n 0, 1, 0, 0, 0, 0, 0, []),
  (97, .iconst 0, 1, 0, 0, 0, 0, 0, []), (98, .bipush 6, 2, 0, 0, 0, 0, 6, []), (100, .invokevirtual 133, 3, 109, 3, 1, 1211, 4, []), (103, .pop, 1, 0, 0, 0, 0, 0, []), (104, .goto 223, 3, 327, 0, 0, 0, 0, []), (107, .aload_n 0, 1, 0, 0, 0, 0, 0, []),
  (108, .invokevirtual 136, 3, 111, 1, 0, 1223, 4, []), (111, .goto 216, 3, 327, 0, 0, 0, 0, []), (114, .aload_n 0, 1, 0, 0, 0, 0, 0, []), (115, .invokevirtual 139, 3, 112, 1, 0, 1243, 4, []), (118, .goto 209, 3, 327, 0, 0, 0, 0, []), (121, .aload_n 0, 1, 0, 0, 0, 0, 0, []),
  (122, .invokevirtual 142, 3, 113, 1, 0, 1247, 4, []), (125, .goto 202, 3, 327, 0, 0, 0, 0, []), (128, .aload_n 0, 1, 0, 0, 0, 0, 0, []), (129, .invokevirtual 145, 3, 114, 1, 0, 1251, 4, []), (132, .goto 195, 3, 327, 0, 0, 0, 0, []), (135, .aload_n 0, 1, 0, 0, 0, 0, 0, []),
  (136, .getfield 21, 3, 4, 2, 3, 688, 0, []), (139, .aload_n 0, 1, 0, 0, 0, 0, 0, []), (140, .iload_n 1, 1, 1, 0, 0, 0, 0, []), (141, .aload_n 0, 1, 0, 0, 0, 0, 0, []), (142, .getfield 21, 3, 4, 2, 3, 688, 0, []), (145, .getfield 148, 3, 2, 12, 1, 591, 0, []),
  (148, .invokevirtual 100, 3, 115, 3, 1, 1255, 4, []), (151, .putfield 148, 3, 2, 12, 1, 591, 0, []), (154, .aload_n 0, 1, 0, 0, 0, 0, 0, []), (155, .invokevirtual 107, 3, 121, 1, 0, 1259, 4, []), (158, .aload_n 0, 1, 0, 0, 0, 0, 0, []), (159, .sipush 20000, 3, 0, 0, 0, 0, 20000, []),
  (162, .invokevirtual 110, 3, 116, 2, 0, 1543, 4, []), (165, .goto 162, 3, 327, 0, 0, 0, 0, []), (168, .aload_n 0, 1, 0, 0, 0, 0, 0, []), (169, .getfield 21, 3, 4, 2, 3, 688, 0, []), (172, .aload_n 0, 1, 0, 0, 0, 0, 0, []), (173, .iload_n 1, 1, 1, 0, 0, 0, 0, []),
  (174, .aload_n 0, 1, 0, 0, 0, 0, 0, []), (175, .getfield 21, 3, 4, 2, 3, 688, 0, []), (178, .getfield 151, 3, 2, 13, 1, 594, 0, []), (181, .invokevirtual 100, 3, 115, 3, 1, 1255, 4, []), (184, .putfield 151, 3, 2, 13, 1, 594, 0, []), (187, .aload_n 0, 1, 0, 0, 0, 0, 0, []),
  (188, .invokevirtual 107, 3, 121, 1, 0, 1259, 4, []), (191, .aload_n 0, 1, 0, 0, 0, 0, 0, []), (192, .sipush 20000, 3, 0, 0, 0, 0, 20000, []), (195, .invokevirtual 110, 3, 116, 2, 0, 1543, 4, []), (198, .goto 129, 3, 327, 0, 0, 0, 0, []), (201, .aload_n 0, 1, 0, 0, 0, 0, 0, []),
  (202, .getfield 21, 3, 4, 2, 3, 688, 0, []), (205, .aload_n 0, 1, 0, 0, 0, 0, 0, []), (206, .iload_n 1, 1, 1, 0, 0, 0, 0, []), (207, .aload_n 0, 1, 0, 0, 0, 0, 0, []), (208, .getfield 21, 3, 4, 2, 3, 688, 0, []), (211, .getfield 154, 3, 2, 14, 1, 597, 0, []),
  (214, .invokevirtual 100, 3, 115, 3, 1, 1255, 4, []), (217, .putfield 154, 3, 2, 14, 1, 597, 0, []), (220, .aload_n 0, 1, 0, 0, 0, 0, 0, []), (221, .invokevirtual 104, 3, 118, 1, 0, 1567, 4, []), (224, .aload_n 0, 1, 0, 0, 0, 0, 0, []), (225, .sipush 20000, 3, 0, 0, 0, 0, 20000, []),
  (228, .invokevirtual 110, 3, 116, 2, 0, 1543, 4, []), (231, .goto 96, 3, 327, 0, 0, 0, 0, []), (234, .aload_n 0, 1, 0, 0, 0, 0, 0, []), (235, .invokevirtual 119, 3, 100, 1, 0, 1195, 4, []), (238, .aload_n 0, 1, 0, 0, 0, 0, 0, []), (239, .getfield 21, 3, 4, 2, 3, 688, 0, []),
  (242, .aload_n 0, 1, 0, 0, 0, 0, 0, []), (243, .iconst 1, 1, 0, 0, 0, 0, 1, []), (244, .iconst 5, 1, 0, 0, 0, 0, 5, []), (245, .invokevirtual 157, 3, 106, 3, 1, 1235, 4, []), (248, .putfield 160, 3, 2, 8, 1, 579, 0, []), (251, .goto 76, 3, 327, 0, 0, 0, 0, []),
  (254, .aload_n 0, 1, 0, 0, 0, 0, 0, []), (255, .invokevirtual 119, 3, 100, 1, 0, 1195, 4, []), (258, .aload_n 0, 1, 0, 0, 0, 0, 0, []), (259, .getfield 21, 3, 4, 2, 3, 688, 0, []), (262, .aload_n 0, 1, 0, 0, 0, 0, 0, []), (263, .iconst 0, 1, 0, 0, 0, 0, 0, []),
  (264, .sipush 999, 3, 0, 0, 0, 0, 999, []), (267, .invokevirtual 157, 3, 106, 3, 1, 1235, 4, []), (270, .putfield 163, 3, 2, 9, 1, 581, 0, []), (273, .goto 54, 3, 327, 0, 0, 0, 0, []), (276, .aload_n 0, 1, 0, 0, 0, 0, 0, []), (277, .invokevirtual 119, 3, 100, 1, 0, 1195, 4, []),
  (280, .aload_n 0, 1, 0, 0, 0, 0, 0, []), (281, .getfield 21, 3, 4, 2, 3, 688, 0, []), (284, .aload_n 0, 1, 0, 0, 0, 0, 0, []), (285, .iconst 0, 1, 0, 0, 0, 0, 0, [])]
noncomputable def am_c108_1 : List (Nat × am_E) := [(286, .bipush 99, 2, 0, 0, 0, 0, 99, []), (288, .invokevirtual 157, 3, 106, 3, 1, 1235, 4, []), (291, .putfield 166, 3, 2, 10, 1, 585, 0, []), (294, .goto 33, 3, 327, 0, 0, 0, 0, []), (297, .aload_n 0, 1, 0, 0, 0, 0, 0, []), (298, .invokevirtual 119, 3, 100, 1, 0, 1195, 4, []),
  (301, .aload_n 0, 1, 0, 0, 0, 0, 0, []), (302, .getfield 21, 3, 4, 2, 3, 688, 0, []), (305, .aload_n 0, 1, 0, 0, 0, 0, 0, []), (306, .iconst 0, 1, 0, 0, 0, 0, 0, []), (307, .bipush 100, 2, 0, 0, 0, 0, 100, []), (309, .invokevirtual 157, 3, 106, 3, 1, 1235, 4, []),
  (312, .putfield 169, 3, 2, 11, 1, 587, 0, []), (315, .goto 12, 3, 327, 0, 0, 0, 0, []), (318, .aload_n 0, 1, 0, 0, 0, 0, 0, []), (319, .iconst 1, 1, 0, 0, 0, 0, 1, []), (320, .aload_n 0, 1, 0, 0, 0, 0, 0, []), (321, .getfield 45, 3, 4, 9, 1, 699, 0, []),
  (324, .invokevirtual 89, 3, 99, 3, 0, 1203, 4, []), (327, .return_, 1, 0, 0, 0, 0, 0, [])]
noncomputable def am_c108 : List (Nat × am_E) := am_c108_0 ++ (am_c108_1)
noncomputable def am_s109 : am_S := (yX4_takeNewName, cX4_takeNewName, 6, (some .int), 1, 1, 3, 4, 1214, 1213, 8, 514)
noncomputable def am_c109 : List (Nat × am_E) := [(0, .aload_n 0, 1, 0, 0, 0, 0, 0, []), (1, .getfield 21, 3, 4, 2, 3, 688, 0, []), (4, .getfield 172, 3, 2, 0, 3, 552, 0, []), (7, .iload_n 1, 1, 1, 0, 0, 0, 0, []), (8, .iaload, 1, 0, 0, 0, 0, 0, []), (9, .istore_n 3, 1, 3, 0, 0, 0, 0, []),
  (10, .iload_n 3, 1, 3, 0, 0, 0, 0, []), (11, .iload_n 2, 1, 2, 0, 0, 0, 0, []), (12, .if_icmp .lt 12, 3, 24, 0, 0, 0, 0, []), (15, .aload_n 0, 1, 0, 0, 0, 0, 0, []), (16, .iconst 5, 1, 0, 0, 0, 0, 5, []), (17, .aload_n 0, 1, 0, 0, 0, 0, 0, []),
  (18, .getfield 45, 3, 4, 9, 1, 699, 0, []), (21, .invokevirtual 89, 3, 99, 3, 0, 1203, 4, []), (24, .aload_n 0, 1, 0, 0, 0, 0, 0, []), (25, .invokevirtual 119, 3, 100, 1, 0, 1195, 4, []), (28, .aload_n 0, 1, 0, 0, 0, 0, 0, []), (29, .invokevirtual 175, 3, 107, 1, 1, 1215, 4, []),
  (32, .istore 4, 2, 4, 0, 0, 0, 0, []), (34, .iconst 0, 1, 0, 0, 0, 0, 0, []), (35, .istore 5, 2, 5, 0, 0, 0, 0, []), (37, .iload 5, 2, 5, 0, 0, 0, 0, []), (39, .iconst 2, 1, 0, 0, 0, 0, 2, []), (40, .if_icmp .gt 33, 3, 73, 0, 0, 0, 0, []),
  (43, .aload_n 0, 1, 0, 0, 0, 0, 0, []), (44, .getfield 21, 3, 4, 2, 3, 688, 0, []), (47, .iload 5, 2, 5, 0, 0, 0, 0, []), (49, .iload 4, 2, 4, 0, 0, 0, 0, []), (51, .invokevirtual 178, 3, 86, 3, 1, 1219, 2, []), (54, .iconst (-1), 1, 0, 0, 0, 0, (-1), []),
  (55, .if_icmp .eq 12, 3, 67, 0, 0, 0, 0, []), (58, .aload_n 0, 1, 0, 0, 0, 0, 0, []), (59, .iconst 3, 1, 0, 0, 0, 0, 3, []), (60, .aload_n 0, 1, 0, 0, 0, 0, 0, []), (61, .getfield 45, 3, 4, 9, 1, 699, 0, []), (64, .invokevirtual 89, 3, 99, 3, 0, 1203, 4, []),
  (67, .iinc 5 1, 3, 5, 0, 0, 0, 1, []), (70, .goto (-33), 3, 37, 0, 0, 0, 0, []), (73, .aload_n 0, 1, 0, 0, 0, 0, 0, []), (74, .invokevirtual 119, 3, 100, 1, 0, 1195, 4, []), (77, .aload_n 0, 1, 0, 0, 0, 0, 0, []), (78, .getfield 9, 3, 4, 0, 1, 684, 0, []),
  (81, .ifCond .eq 5, 3, 86, 0, 0, 0, 0, []), (84, .iconst (-1), 1, 0, 0, 0, 0, (-1), []), (85, .ireturn, 1, 0, 0, 1, 0, 0, []), (86, .aload_n 0, 1, 0, 0, 0, 0, 0, []), (87, .getfield 21, 3, 4, 2, 3, 688, 0, []), (90, .getfield 181, 3, 2, 1, 3, 555, 0, []),
  (93, .iload_n 1, 1, 1, 0, 0, 0, 0, []), (94, .aaload, 1, 0, 0, 0, 0, 0, []), (95, .iload_n 3, 1, 3, 0, 0, 0, 0, []), (96, .iload 4, 2, 4, 0, 0, 0, 0, []), (98, .iastore, 1, 0, 0, 0, 0, 0, []), (99, .aload_n 0, 1, 0, 0, 0, 0, 0, []),
  (100, .getfield 21, 3, 4, 2, 3, 688, 0, []), (103, .getfield 172, 3, 2, 0, 3, 552, 0, []), (106, .iload_n 1, 1, 1, 0, 0, 0, 0, []), (107, .dup2, 1, 0, 0, 0, 0, 0, []), (108, .iaload, 1, 0, 0, 0, 0, 0, []), (109, .iconst 1, 1, 0, 0, 0, 0, 1, []),
  (110, .iadd, 1, 0, 0, 0, 0, 0, []), (111, .iastore, 1, 0, 0, 0, 0, 0, []), (112, .iload_n 3, 1, 3, 0, 0, 0, 0, []), (113, .ireturn, 1, 0, 0, 1, 0, 0, [])]
noncomputable def am_s110 : am_S := (yX4_takeKnownName, cX4_takeKnownName, 3, (some .int), 1, 1, 2, 4, 1242, 1241, 14, 514)
noncomputable def am_c110 : List (Nat × am_E) := [(0, .aload_n 0, 1, 0, 0, 0, 0, 0, []), (1, .getfield 21, 3, 4, 2, 3, 688, 0, []), (4, .iload_n 1, 1, 1, 0, 0, 0, 0, []), (5, .aload_n 0, 1, 0, 0, 0, 0, 0, []), (6, .invokevirtual 175, 3, 107, 1, 1, 1215, 4, []), (9, .invokevirtual 178, 3, 86, 3, 1, 1219, 2, []),
  (12, .istore_n 2, 1, 2, 0, 0, 0, 0, []), (13, .iload_n 2, 1, 2, 0, 0, 0, 0, []), (14, .iconst (-1), 1, 0, 0, 0, 0, (-1), []), (15, .if_icmp .ne 12, 3, 27, 0, 0, 0, 0, []), (18, .aload_n 0, 1, 0, 0, 0, 0, 0, []), (19, .iconst 3, 1, 0, 0, 0, 0, 3, []),
  (20, .aload_n 0, 1, 0, 0, 0, 0, 0, []), (21, .getfield 45, 3, 4, 9, 1, 699, 0, []), (24, .invokevirtual 89, 3, 99, 3, 0, 1203, 4, []), (27, .aload_n 0, 1, 0, 0, 0, 0, 0, []), (28, .invokevirtual 119, 3, 100, 1, 0, 1195, 4, []), (31, .aload_n 0, 1, 0, 0, 0, 0, 0, []),
  (32, .getfield 9, 3, 4, 0, 1, 684, 0, []), (35, .ifCond .ne 7, 3, 42, 0, 0, 0, 0, []), (38, .iload_n 2, 1, 2, 0, 0, 0, 0, []), (39, .goto 4, 3, 43, 0, 0, 0, 0, []), (42, .iconst (-1), 1, 0, 0, 0, 0, (-1), []), (43, .ireturn, 1, 0, 0, 1, 0, 0, [])]
noncomputable def am_s111 : am_S := (yX4_readFilm, cX4_readFilm, 7, none, 1, 0, 1, 4, 1226, 1225, 10, 514)
noncomputable def am_c111 : List (Nat × am_E) := [(0, .aload_n 0, 1, 0, 0, 0, 0, 0, []), (1, .iconst 1, 1, 0, 0, 0, 0, 1, []), (2, .bipush 8, 2, 0, 0, 0, 0, 8, []), (4, .invokevirtual 133, 3, 109, 3, 1, 1211, 4, []), (7, .istore_n 1, 1, 1, 0, 0, 0, 0, []), (8, .aload_n 0, 1, 0, 0, 0, 0, 0, []),
  (9, .iconst 2, 1, 0, 0, 0, 0, 2, []), (10, .invokevirtual 185, 3, 104, 2, 0, 1227, 4, []), (13, .aload_n 0, 1, 0, 0, 0, 0, 0, []), (14, .iconst 1, 1, 0, 0, 0, 0, 1, []), (15, .bipush 9, 2, 0, 0, 0, 0, 9, []), (17, .invokevirtual 157, 3, 106, 3, 1, 1235, 4, []),
  (20, .istore_n 2, 1, 2, 0, 0, 0, 0, []), (21, .aload_n 0, 1, 0, 0, 0, 0, 0, []), (22, .iconst 3, 1, 0, 0, 0, 0, 3, []), (23, .invokevirtual 185, 3, 104, 2, 0, 1227, 4, []), (26, .iload_n 1, 1, 1, 0, 0, 0, 0, []), (27, .iconst (-1), 1, 0, 0, 0, 0, (-1), []),
  (28, .if_icmp .ne 4, 3, 32, 0, 0, 0, 0, []), (31, .return_, 1, 0, 0, 0, 0, 0, []), (32, .aload_n 0, 1, 0, 0, 0, 0, 0, []), (33, .getfield 21, 3, 4, 2, 3, 688, 0, []), (36, .getfield 188, 3, 2, 2, 3, 559, 0, []), (39, .iload_n 1, 1, 1, 0, 0, 0, 0, []),
  (40, .iload_n 2, 1, 2, 0, 0, 0, 0, []), (41, .iastore, 1, 0, 0, 0, 0, 0, []), (42, .iconst 0, 1, 0, 0, 0, 0, 0, []), (43, .istore_n 3, 1, 3, 0, 0, 0, 0, []), (44, .iload_n 3, 1, 3, 0, 0, 0, 0, []), (45, .aload_n 0, 1, 0, 0, 0, 0, 0, []),
  (46, .getfield 35, 3, 4, 6, 1, 696, 0, []), (49, .if_icmp .gt 91, 3, 140, 0, 0, 0, 0, []), (52, .iload_n 3, 1, 3, 0, 0, 0, 0, []), (53, .ifCond .eq 11, 3, 64, 0, 0, 0, 0, []), (56, .aload_n 0, 1, 0, 0, 0, 0, 0, []), (57, .getfield 42, 3, 4, 8, 1, 698, 0, []),
  (60, .iconst 1, 1, 0, 0, 0, 0, 1, []), (61, .if_icmp .ne 79, 3, 140, 0, 0, 0, 0, []), (64, .aload_n 0, 1, 0, 0, 0, 0, 0, []), (65, .getfield 45, 3, 4, 9, 1, 699, 0, []), (68, .istore 4, 2, 4, 0, 0, 0, 0, []), (70, .aload_n 0, 1, 0, 0, 0, 0, 0, []),
  (71, .iconst 0, 1, 0, 0, 0, 0, 0, []), (72, .invokevirtual 191, 3, 110, 2, 1, 1239, 4, []), (75, .istore 5, 2, 5, 0, 0, 0, 0, []), (77, .iload 5, 2, 5, 0, 0, 0, 0, []), (79, .iconst (-1), 1, 0, 0, 0, 0, (-1), []), (80, .if_icmp .eq 25, 3, 105, 0, 0, 0, 0, []),
  (83, .aload_n 0, 1, 0, 0, 0, 0, 0, []), (84, .getfield 21, 3, 4, 2, 3, 688, 0, []), (87, .getfield 195, 3, 2, 3, 3, 563, 0, []), (90, .iload_n 1, 1, 1, 0, 0, 0, 0, []), (91, .aaload, 1, 0, 0, 0, 0, 0, []), (92, .iload 5, 2, 5, 0, 0, 0, 0, []),
  (94, .iaload, 1, 0, 0, 0, 0, 0, []), (95, .ifCond .le 10, 3, 105, 0, 0, 0, 0, []), (98, .aload_n 0, 1, 0, 0, 0, 0, 0, []), (99, .iconst 3, 1, 0, 0, 0, 0, 3, []), (100, .iload 4, 2, 4, 0, 0, 0, 0, []), (102, .invokevirtual 89, 3, 99, 3, 0, 1203, 4, []),
  (105, .aload_n 0, 1, 0, 0, 0, 0, 0, []), (106, .iconst 1, 1, 0, 0, 0, 0, 1, []), (107, .bipush 9, 2, 0, 0, 0, 0, 9, []), (109, .invokevirtual 157, 3, 106, 3, 1, 1235, 4, []), (112, .istore 6, 2, 6, 0, 0, 0, 0, []), (114, .iload 5, 2, 5, 0, 0, 0, 0, []),
  (116, .iconst (-1), 1, 0, 0, 0, 0, (-1), []), (117, .if_icmp .eq 17, 3, 134, 0, 0, 0, 0, []), (120, .aload_n 0, 1, 0, 0, 0, 0, 0, []), (121, .getfield 21, 3, 4, 2, 3, 688, 0, []), (124, .getfield 195, 3, 2, 3, 3, 563, 0, []), (127, .iload_n 1, 1, 1, 0, 0, 0, 0, []),
  (128, .aaload, 1, 0, 0, 0, 0, 0, []), (129, .iload 5, 2, 5, 0, 0, 0, 0, []), (131, .iload 6, 2, 6, 0, 0, 0, 0, []), (133, .iastore, 1, 0, 0, 0, 0, 0, []), (134, .iinc 3 1, 3, 3, 0, 0, 0, 1, []), (137, .goto (-93), 3, 44, 0, 0, 0, 0, []),
  (140, .return_, 1, 0, 0, 0, 0, 0, [])]
noncomputable def am_s112 : am_S := (yX4_readPerson, cX4_readPerson, 4, none, 1, 0, 1, 4, 1246, 1245, 15, 514)
noncomputable def am_c112 : List (Nat × am_E) := [(0, .aload_n 0, 1, 0, 0, 0, 0, 0, []), (1, .iconst 2, 1, 0, 0, 0, 0, 2, []), (2, .iconst 5, 1, 0, 0, 0, 0, 5, []), (3, .invokevirtual 133, 3, 109, 3, 1, 1211, 4, []), (6, .istore_n 1, 1, 1, 0, 0, 0, 0, []), (7, .aload_n 0, 1, 0, 0, 0, 0, 0, []),
  (8, .iconst 5, 1, 0, 0, 0, 0, 5, []), (9, .invokevirtual 185, 3, 104, 2, 0, 1227, 4, []), (12, .aload_n 0, 1, 0, 0, 0, 0, 0, []), (13, .iconst 0, 1, 0, 0, 0, 0, 0, []), (14, .bipush 23, 2, 0, 0, 0, 0, 23, []), (16, .invokevirtual 157, 3, 106, 3, 1, 1235, 4, []),
  (19, .istore_n 2, 1, 2, 0, 0, 0, 0, []), (20, .aload_n 0, 1, 0, 0, 0, 0, 0, []), (21, .bipush 6, 2, 0, 0, 0, 0, 6, []), (23, .invokevirtual 185, 3, 104, 2, 0, 1227, 4, []), (26, .aload_n 0, 1, 0, 0, 0, 0, 0, []), (27, .iload_n 2, 1, 2, 0, 0, 0, 0, []),
  (28, .bipush 23, 2, 0, 0, 0, 0, 23, []), (30, .invokevirtual 157, 3, 106, 3, 1, 1235, 4, []), (33, .istore_n 3, 1, 3, 0, 0, 0, 0, []), (34, .iload_n 1, 1, 1, 0, 0, 0, 0, []), (35, .iconst (-1), 1, 0, 0, 0, 0, (-1), []), (36, .if_icmp .eq 23, 3, 59, 0, 0, 0, 0, []),
  (39, .aload_n 0, 1, 0, 0, 0, 0, 0, []), (40, .getfield 21, 3, 4, 2, 3, 688, 0, []), (43, .getfield 198, 3, 2, 4, 3, 566, 0, []), (46, .iload_n 1, 1, 1, 0, 0, 0, 0, []), (47, .iload_n 2, 1, 2, 0, 0, 0, 0, []), (48, .iastore, 1, 0, 0, 0, 0, 0, []),
  (49, .aload_n 0, 1, 0, 0, 0, 0, 0, []), (50, .getfield 21, 3, 4, 2, 3, 688, 0, []), (53, .getfield 201, 3, 2, 5, 3, 569, 0, []), (56, .iload_n 1, 1, 1, 0, 0, 0, 0, []), (57, .iload_n 3, 1, 3, 0, 0, 0, 0, []), (58, .iastore, 1, 0, 0, 0, 0, 0, []),
  (59, .return_, 1, 0, 0, 0, 0, 0, [])]
noncomputable def am_s113 : am_S := (yX4_readLikes, cX4_readLikes, 4, none, 1, 0, 1, 4, 1250, 1249, 16, 514)
noncomputable def am_c113 : List (Nat × am_E) := [(0, .aload_n 0, 1, 0, 0, 0, 0, 0, []), (1, .invokevirtual 119, 3, 100, 1, 0, 1195, 4, []), (4, .aload_n 0, 1, 0, 0, 0, 0, 0, []), (5, .iconst 2, 1, 0, 0, 0, 0, 2, []), (6, .invokevirtual 191, 3, 110, 2, 1, 1239, 4, []), (9, .istore_n 1, 1, 1, 0, 0, 0, 0, []),
  (10, .aload_n 0, 1, 0, 0, 0, 0, 0, []), (11, .iconst 0, 1, 0, 0, 0, 0, 0, []), (12, .invokevirtual 191, 3, 110, 2, 1, 1239, 4, []), (15, .istore_n 2, 1, 2, 0, 0, 0, 0, []), (16, .aload_n 0, 1, 0, 0, 0, 0, 0, []), (17, .iconst 0, 1, 0, 0, 0, 0, 0, []),
  (18, .bipush 9, 2, 0, 0, 0, 0, 9, []), (20, .invokevirtual 157, 3, 106, 3, 1, 1235, 4, []), (23, .istore_n 3, 1, 3, 0, 0, 0, 0, []), (24, .iload_n 1, 1, 1, 0, 0, 0, 0, []), (25, .iconst (-1), 1, 0, 0, 0, 0, (-1), []), (26, .if_icmp .eq 20, 3, 46, 0, 0, 0, 0, []),
  (29, .iload_n 2, 1, 2, 0, 0, 0, 0, []), (30, .iconst (-1), 1, 0, 0, 0, 0, (-1), []), (31, .if_icmp .eq 15, 3, 46, 0, 0, 0, 0, []), (34, .aload_n 0, 1, 0, 0, 0, 0, 0, []), (35, .getfield 21, 3, 4, 2, 3, 688, 0, []), (38, .getfield 204, 3, 2, 6, 3, 572, 0, []),
  (41, .iload_n 1, 1, 1, 0, 0, 0, 0, []), (42, .aaload, 1, 0, 0, 0, 0, 0, []), (43, .iload_n 2, 1, 2, 0, 0, 0, 0, []), (44, .iload_n 3, 1, 3, 0, 0, 0, 0, []), (45, .iastore, 1, 0, 0, 0, 0, 0, []), (46, .return_, 1, 0, 0, 0, 0, 0, [])]
noncomputable def am_s114 : am_S := (yX4_readPress, cX4_readPress, 3, none, 1, 0, 1, 4, 1254, 1253, 17, 514)
noncomputable def am_c114 : List (Nat × am_E) := [(0, .aload_n 0, 1, 0, 0, 0, 0, 0, []), (1, .invokevirtual 119, 3, 100, 1, 0, 1195, 4, []), (4, .aload_n 0, 1, 0, 0, 0, 0, 0, []), (5, .getfield 45, 3, 4, 9, 1, 699, 0, []), (8, .istore_n 1, 1, 1, 0, 0, 0, 0, []), (9, .aload_n 0, 1, 0, 0, 0, 0, 0, []),
  (10, .iconst 2, 1, 0, 0, 0, 0, 2, []), (11, .invokevirtual 191, 3, 110, 2, 1, 1239, 4, []), (14, .istore_n 2, 1, 2, 0, 0, 0, 0, []), (15, .iload_n 2, 1, 2, 0, 0, 0, 0, []), (16, .iconst (-1), 1, 0, 0, 0, 0, (-1), []), (17, .if_icmp .eq 24, 3, 41, 0, 0, 0, 0, []),
  (20, .aload_n 0, 1, 0, 0, 0, 0, 0, []), (21, .getfield 21, 3, 4, 2, 3, 688, 0, []), (24, .getfield 207, 3, 2, 7, 1, 575, 0, []), (27, .iload_n 2, 1, 2, 0, 0, 0, 0, []), (28, .ishr, 1, 0, 0, 0, 0, 0, []), (29, .iconst 1, 1, 0, 0, 0, 0, 1, []),
  (30, .iand, 1, 0, 0, 0, 0, 0, []), (31, .iconst 1, 1, 0, 0, 0, 0, 1, []), (32, .if_icmp .ne 9, 3, 41, 0, 0, 0, 0, []), (35, .aload_n 0, 1, 0, 0, 0, 0, 0, []), (36, .iconst 3, 1, 0, 0, 0, 0, 3, []), (37, .iload_n 1, 1, 1, 0, 0, 0, 0, []),
  (38, .invokevirtual 89, 3, 99, 3, 0, 1203, 4, []), (41, .iload_n 2, 1, 2, 0, 0, 0, 0, []), (42, .iconst (-1), 1, 0, 0, 0, 0, (-1), []), (43, .if_icmp .eq 18, 3, 61, 0, 0, 0, 0, []), (46, .aload_n 0, 1, 0, 0, 0, 0, 0, []), (47, .getfield 21, 3, 4, 2, 3, 688, 0, []),
  (50, .dup, 1, 0, 0, 0, 0, 0, []), (51, .getfield 207, 3, 2, 7, 1, 575, 0, []), (54, .iconst 1, 1, 0, 0, 0, 0, 1, []), (55, .iload_n 2, 1, 2, 0, 0, 0, 0, []), (56, .ishl, 1, 0, 0, 0, 0, 0, []), (57, .ior, 1, 0, 0, 0, 0, 0, []),
  (58, .putfield 207, 3, 2, 7, 1, 575, 0, []), (61, .return_, 1, 0, 0, 0, 0, 0, [])]
noncomputable def am_s115 : am_S := (yX4_beginFormula, cX4_beginFormula, 3, (some .int), 1, 1, 3, 4, 1258, 1257, 18, 514)
noncomputable def am_c115 : List (Nat × am_E) := [(0, .iload_n 2, 1, 2, 0, 0, 0, 0, []), (1, .iconst (-1), 1, 0, 0, 0, 0, (-1), []), (2, .if_icmp .eq 12, 3, 14, 0, 0, 0, 0, []), (5, .aload_n 0, 1, 0, 0, 0, 0, 0, []), (6, .iconst 5, 1, 0, 0, 0, 0, 5, []), (7, .aload_n 0, 1, 0, 0, 0, 0, 0, []),
  (8, .getfield 45, 3, 4, 9, 1, 699, 0, []), (11, .invokevirtual 89, 3, 99, 3, 0, 1203, 4, []), (14, .aload_n 0, 1, 0, 0, 0, 0, 0, []), (15, .iload_n 1, 1, 1, 0, 0, 0, 0, []), (16, .putfield 58, 3, 4, 13, 1, 703, 0, []), (19, .aload_n 0, 1, 0, 0, 0, 0, 0, []),
  (20, .iconst 0, 1, 0, 0, 0, 0, 0, []), (21, .putfield 67, 3, 4, 16, 1, 706, 0, []), (24, .aload_n 0, 1, 0, 0, 0, 0, 0, []), (25, .invokevirtual 119, 3, 100, 1, 0, 1195, 4, []), (28, .aload_n 0, 1, 0, 0, 0, 0, 0, []), (29, .getfield 64, 3, 4, 15, 1, 705, 0, []),
  (32, .ireturn, 1, 0, 0, 1, 0, 0, [])]
noncomputable def am_s116 : am_S := (yX4_put, cX4_put, 2, none, 1, 0, 2, 4, 1546, 1545, 22, 514)
noncomputable def am_c116 : List (Nat × am_E) := [(0, .aload_n 0, 1, 0, 0, 0, 0, 0, []), (1, .getfield 64, 3, 4, 15, 1, 705, 0, []), (4, .aload_n 0, 1, 0, 0, 0, 0, 0, []), (5, .getfield 61, 3, 4, 14, 3, 704, 0, []), (8, .arraylength, 1, 0, 0, 0, 0, 0, []), (9, .if_icmp .ge 23, 3, 32, 0, 0, 0, 0, []),
  (12, .aload_n 0, 1, 0, 0, 0, 0, 0, []), (13, .getfield 61, 3, 4, 14, 3, 704, 0, []), (16, .aload_n 0, 1, 0, 0, 0, 0, 0, []), (17, .getfield 64, 3, 4, 15, 1, 705, 0, []), (20, .iload_n 1, 1, 1, 0, 0, 0, 0, []), (21, .iastore, 1, 0, 0, 0, 0, 0, []),
  (22, .aload_n 0, 1, 0, 0, 0, 0, 0, []), (23, .dup, 1, 0, 0, 0, 0, 0, []), (24, .getfield 64, 3, 4, 15, 1, 705, 0, []), (27, .iconst 1, 1, 0, 0, 0, 0, 1, []), (28, .iadd, 1, 0, 0, 0, 0, 0, []), (29, .putfield 64, 3, 4, 15, 1, 705, 0, []),
  (32, .return_, 1, 0, 0, 0, 0, 0, [])]
noncomputable def am_s117 : am_S := (yX4_opens, cX4_opens, 1, (some .boolean), 1, 4, 1, 4, 1554, 1553, 24, 514)
noncomputable def am_c117 : List (Nat × am_E) := [(0, .aload_n 0, 1, 0, 0, 0, 0, 0, []), (1, .getfield 67, 3, 4, 16, 1, 706, 0, []), (4, .bipush 6, 2, 0, 0, 0, 0, 6, []), (6, .if_icmp .lt 12, 3, 18, 0, 0, 0, 0, []), (9, .aload_n 0, 1, 0, 0, 0, 0, 0, []), (10, .iconst 4, 1, 0, 0, 0, 0, 4, []),
  (11, .aload_n 0, 1, 0, 0, 0, 0, 0, []), (12, .getfield 45, 3, 4, 9, 1, 699, 0, []), (15, .invokevirtual 89, 3, 99, 3, 0, 1203, 4, []), (18, .aload_n 0, 1, 0, 0, 0, 0, 0, []), (19, .getfield 9, 3, 4, 0, 1, 684, 0, []), (22, .ifCond .eq 5, 3, 27, 0, 0, 0, 0, []),
  (25, .iconst 0, 1, 0, 0, 0, 0, 0, []), (26, .ireturn, 1, 0, 0, 4, 0, 0, []), (27, .aload_n 0, 1, 0, 0, 0, 0, 0, []), (28, .dup, 1, 0, 0, 0, 0, 0, []), (29, .getfield 67, 3, 4, 16, 1, 706, 0, []), (32, .iconst 1, 1, 0, 0, 0, 0, 1, []),
  (33, .iadd, 1, 0, 0, 0, 0, 0, []), (34, .putfield 67, 3, 4, 16, 1, 706, 0, []), (37, .aload_n 0, 1, 0, 0, 0, 0, 0, []), (38, .invokevirtual 119, 3, 100, 1, 0, 1195, 4, []), (41, .iconst 1, 1, 0, 0, 0, 0, 1, []), (42, .ireturn, 1, 0, 0, 4, 0, 0, [])]
noncomputable def am_s118 : am_S := (yX4_readTest, cX4_readTest, 2, none, 1, 0, 1, 4, 1570, 1569, 28, 514)
noncomputable def am_c118 : List (Nat × am_E) := [(0, .aload_n 0, 1, 0, 0, 0, 0, 0, []), (1, .invokevirtual 210, 3, 119, 1, 0, 1571, 4, []), (4, .iconst 0, 1, 0, 0, 0, 0, 0, []), (5, .istore_n 1, 1, 1, 0, 0, 0, 0, []), (6, .iload_n 1, 1, 1, 0, 0, 0, 0, []), (7, .aload_n 0, 1, 0, 0, 0, 0, 0, []),
  (8, .getfield 35, 3, 4, 6, 1, 696, 0, []), (11, .if_icmp .gt 33, 3, 44, 0, 0, 0, 0, []), (14, .aload_n 0, 1, 0, 0, 0, 0, 0, []), (15, .bipush 23, 2, 0, 0, 0, 0, 23, []), (17, .invokevirtual 125, 3, 102, 2, 4, 1231, 4, []), (20, .ifCond .eq 24, 3, 44, 0, 0, 0, 0, []),
  (23, .aload_n 0, 1, 0, 0, 0, 0, 0, []), (24, .invokevirtual 119, 3, 100, 1, 0, 1195, 4, []), (27, .aload_n 0, 1, 0, 0, 0, 0, 0, []), (28, .invokevirtual 210, 3, 119, 1, 0, 1571, 4, []), (31, .aload_n 0, 1, 0, 0, 0, 0, 0, []), (32, .sipush 20013, 3, 0, 0, 0, 0, 20013, []),
  (35, .invokevirtual 110, 3, 116, 2, 0, 1543, 4, []), (38, .iinc 1 1, 3, 1, 0, 0, 0, 1, []), (41, .goto (-35), 3, 6, 0, 0, 0, 0, []), (44, .return_, 1, 0, 0, 0, 0, 0, [])]
noncomputable def am_s119 : am_S := (yX4_readBoth, cX4_readBoth, 2, none, 1, 0, 1, 4, 1574, 1573, 29, 514)
noncomputable def am_c119 : List (Nat × am_E) := [(0, .aload_n 0, 1, 0, 0, 0, 0, 0, []), (1, .invokevirtual 213, 3, 120, 1, 0, 1575, 4, []), (4, .iconst 0, 1, 0, 0, 0, 0, 0, []), (5, .istore_n 1, 1, 1, 0, 0, 0, 0, []), (6, .iload_n 1, 1, 1, 0, 0, 0, 0, []), (7, .aload_n 0, 1, 0, 0, 0, 0, 0, []),
  (8, .getfield 35, 3, 4, 6, 1, 696, 0, []), (11, .if_icmp .gt 33, 3, 44, 0, 0, 0, 0, []), (14, .aload_n 0, 1, 0, 0, 0, 0, 0, []), (15, .bipush 24, 2, 0, 0, 0, 0, 24, []), (17, .invokevirtual 125, 3, 102, 2, 4, 1231, 4, []), (20, .ifCond .eq 24, 3, 44, 0, 0, 0, 0, []),
  (23, .aload_n 0, 1, 0, 0, 0, 0, 0, []), (24, .invokevirtual 119, 3, 100, 1, 0, 1195, 4, []), (27, .aload_n 0, 1, 0, 0, 0, 0, 0, []), (28, .invokevirtual 213, 3, 120, 1, 0, 1575, 4, []), (31, .aload_n 0, 1, 0, 0, 0, 0, 0, []), (32, .sipush 20012, 3, 0, 0, 0, 0, 20012, []),
  (35, .invokevirtual 110, 3, 116, 2, 0, 1543, 4, []), (38, .iinc 1 1, 3, 1, 0, 0, 0, 1, []), (41, .goto (-35), 3, 6, 0, 0, 0, 0, []), (44, .return_, 1, 0, 0, 0, 0, 0, [])]
noncomputable def am_s120 : am_S := (yX4_readFact, cX4_readFact, 2, none, 1, 0, 1, 4, 1578, 1577, 30, 514)
noncomputable def am_c120 : List (Nat × am_E) := [(0, .aload_n 0, 1, 0, 0, 0, 0, 0, []), (1, .bipush 25, 2, 0, 0, 0, 0, 25, []), (3, .invokevirtual 125, 3, 102, 2, 4, 1231, 4, []), (6, .ifCond .eq 34, 3, 40, 0, 0, 0, 0, []), (9, .aload_n 0, 1, 0, 0, 0, 0, 0, []), (10, .invokevirtual 216, 3, 117, 1, 4, 1551, 4, []),
  (13, .ifCond .eq 163, 3, 176, 0, 0, 0, 0, []), (16, .aload_n 0, 1, 0, 0, 0, 0, 0, []), (17, .invokevirtual 213, 3, 120, 1, 0, 1575, 4, []), (20, .aload_n 0, 1, 0, 0, 0, 0, 0, []), (21, .dup, 1, 0, 0, 0, 0, 0, []), (22, .getfield 67, 3, 4, 16, 1, 706, 0, []),
  (25, .iconst 1, 1, 0, 0, 0, 0, 1, []), (26, .isub, 1, 0, 0, 0, 0, 0, []), (27, .putfield 67, 3, 4, 16, 1, 706, 0, []), (30, .aload_n 0, 1, 0, 0, 0, 0, 0, []), (31, .sipush 20001, 3, 0, 0, 0, 0, 20001, []), (34, .invokevirtual 110, 3, 116, 2, 0, 1543, 4, []),
  (37, .goto 139, 3, 176, 0, 0, 0, 0, []), (40, .aload_n 0, 1, 0, 0, 0, 0, 0, []), (41, .bipush 91, 2, 0, 0, 0, 0, 91, []), (43, .invokevirtual 129, 3, 103, 2, 4, 1547, 4, []), (46, .ifCond .eq 33, 3, 79, 0, 0, 0, 0, []), (49, .aload_n 0, 1, 0, 0, 0, 0, 0, []),
  (50, .invokevirtual 216, 3, 117, 1, 4, 1551, 4, []), (53, .ifCond .eq 123, 3, 176, 0, 0, 0, 0, []), (56, .aload_n 0, 1, 0, 0, 0, 0, 0, []), (57, .invokevirtual 104, 3, 118, 1, 0, 1567, 4, []), (60, .aload_n 0, 1, 0, 0, 0, 0, 0, []), (61, .bipush 93, 2, 0, 0, 0, 0, 93, []),
  (63, .invokevirtual 96, 3, 105, 2, 0, 1555, 4, []), (66, .aload_n 0, 1, 0, 0, 0, 0, 0, []), (67, .dup, 1, 0, 0, 0, 0, 0, []), (68, .getfield 67, 3, 4, 16, 1, 706, 0, []), (71, .iconst 1, 1, 0, 0, 0, 0, 1, []), (72, .isub, 1, 0, 0, 0, 0, 0, []),
  (73, .putfield 67, 3, 4, 16, 1, 706, 0, []), (76, .goto 100, 3, 176, 0, 0, 0, 0, []), (79, .aload_n 0, 1, 0, 0, 0, 0, 0, []), (80, .bipush 26, 2, 0, 0, 0, 0, 26, []), (82, .invokevirtual 125, 3, 102, 2, 4, 1231, 4, []), (85, .ifCond .eq 15, 3, 100, 0, 0, 0, 0, []),
  (88, .aload_n 0, 1, 0, 0, 0, 0, 0, []), (89, .invokevirtual 119, 3, 100, 1, 0, 1195, 4, []), (92, .aload_n 0, 1, 0, 0, 0, 0, 0, []), (93, .iconst 1, 1, 0, 0, 0, 0, 1, []), (94, .invokevirtual 110, 3, 116, 2, 0, 1543, 4, []), (97, .goto 79, 3, 176, 0, 0, 0, 0, []),
  (100, .aload_n 0, 1, 0, 0, 0, 0, 0, []), (101, .invokevirtual 107, 3, 121, 1, 0, 1259, 4, []), (104, .aload_n 0, 1, 0, 0, 0, 0, 0, []), (105, .bipush 60, 2, 0, 0, 0, 0, 60, []), (107, .invokevirtual 129, 3, 103, 2, 4, 1547, 4, []), (110, .ifCond .eq 9, 3, 119, 0, 0, 0, 0, []),
  (113, .sipush 20009, 3, 0, 0, 0, 0, 20009, []), (116, .goto 21, 3, 137, 0, 0, 0, 0, []), (119, .aload_n 0, 1, 0, 0, 0, 0, 0, []), (120, .bipush 62, 2, 0, 0, 0, 0, 62, []), (122, .invokevirtual 129, 3, 103, 2, 4, 1547, 4, []), (125, .ifCond .eq 9, 3, 134, 0, 0, 0, 0, []),
  (128, .sipush 20010, 3, 0, 0, 0, 0, 20010, []), (131, .goto 6, 3, 137, 0, 0, 0, 0, []), (134, .sipush 20011, 3, 0, 0, 0, 0, 20011, []), (137, .istore_n 1, 1, 1, 0, 0, 0, 0, []), (138, .iload_n 1, 1, 1, 0, 0, 0, 0, []), (139, .sipush 20011, 3, 0, 0, 0, 0, 20011, []),
  (142, .if_icmp .ne 21, 3, 163, 0, 0, 0, 0, []), (145, .aload_n 0, 1, 0, 0, 0, 0, 0, []), (146, .bipush 61, 2, 0, 0, 0, 0, 61, []), (148, .invokevirtual 129, 3, 103, 2, 4, 1547, 4, []), (151, .ifCond .ne 12, 3, 163, 0, 0, 0, 0, []), (154, .aload_n 0, 1, 0, 0, 0, 0, 0, []),
  (155, .iconst 1, 1, 0, 0, 0, 0, 1, []), (156, .aload_n 0, 1, 0, 0, 0, 0, 0, []), (157, .getfield 45, 3, 4, 9, 1, 699, 0, []), (160, .invokevirtual 89, 3, 99, 3, 0, 1203, 4, []), (163, .aload_n 0, 1, 0, 0, 0, 0, 0, []), (164, .invokevirtual 119, 3, 100, 1, 0, 1195, 4, []),
  (167, .aload_n 0, 1, 0, 0, 0, 0, 0, []), (168, .invokevirtual 107, 3, 121, 1, 0, 1259, 4, []), (171, .aload_n 0, 1, 0, 0, 0, 0, 0, []), (172, .iload_n 1, 1, 1, 0, 0, 0, 0, []), (173, .invokevirtual 110, 3, 116, 2, 0, 1543, 4, []), (176, .return_, 1, 0, 0, 0, 0, 0, [])]
noncomputable def am_s121 : am_S := (yX4_readSum, cX4_readSum, 3, none, 1, 0, 1, 4, 1262, 1261, 19, 514)
noncomputable def am_c121 : List (Nat × am_E) := [(0, .aload_n 0, 1, 0, 0, 0, 0, 0, []), (1, .invokevirtual 220, 3, 122, 1, 0, 1263, 4, []), (4, .iconst 0, 1, 0, 0, 0, 0, 0, []), (5, .istore_n 1, 1, 1, 0, 0, 0, 0, []), (6, .iload_n 1, 1, 1, 0, 0, 0, 0, []), (7, .aload_n 0, 1, 0, 0, 0, 0, 0, []),
  (8, .getfield 35, 3, 4, 6, 1, 696, 0, []), (11, .if_icmp .gt 59, 3, 70, 0, 0, 0, 0, []), (14, .aload_n 0, 1, 0, 0, 0, 0, 0, []), (15, .bipush 43, 2, 0, 0, 0, 0, 43, []), (17, .invokevirtual 129, 3, 103, 2, 4, 1547, 4, []), (20, .ifCond .ne 12, 3, 32, 0, 0, 0, 0, []),
  (23, .aload_n 0, 1, 0, 0, 0, 0, 0, []), (24, .bipush 45, 2, 0, 0, 0, 0, 45, []), (26, .invokevirtual 129, 3, 103, 2, 4, 1547, 4, []), (29, .ifCond .eq 41, 3, 70, 0, 0, 0, 0, []), (32, .aload_n 0, 1, 0, 0, 0, 0, 0, []), (33, .bipush 43, 2, 0, 0, 0, 0, 43, []),
  (35, .invokevirtual 129, 3, 103, 2, 4, 1547, 4, []), (38, .ifCond .eq 9, 3, 47, 0, 0, 0, 0, []), (41, .sipush 20003, 3, 0, 0, 0, 0, 20003, []), (44, .goto 6, 3, 50, 0, 0, 0, 0, []), (47, .sipush 20004, 3, 0, 0, 0, 0, 20004, []), (50, .istore_n 2, 1, 2, 0, 0, 0, 0, []),
  (51, .aload_n 0, 1, 0, 0, 0, 0, 0, []), (52, .invokevirtual 119, 3, 100, 1, 0, 1195, 4, []), (55, .aload_n 0, 1, 0, 0, 0, 0, 0, []), (56, .invokevirtual 220, 3, 122, 1, 0, 1263, 4, []), (59, .aload_n 0, 1, 0, 0, 0, 0, 0, []), (60, .iload_n 2, 1, 2, 0, 0, 0, 0, []),
  (61, .invokevirtual 110, 3, 116, 2, 0, 1543, 4, []), (64, .iinc 1 1, 3, 1, 0, 0, 0, 1, []), (67, .goto (-61), 3, 6, 0, 0, 0, 0, []), (70, .return_, 1, 0, 0, 0, 0, 0, [])]
noncomputable def am_s122 : am_S := (yX4_readProduct, cX4_readProduct, 3, none, 1, 0, 1, 4, 1538, 1537, 20, 514)
noncomputable def am_c122 : List (Nat × am_E) := [(0, .aload_n 0, 1, 0, 0, 0, 0, 0, []), (1, .invokevirtual 223, 3, 123, 1, 0, 1539, 4, []), (4, .iconst 0, 1, 0, 0, 0, 0, 0, []), (5, .istore_n 1, 1, 1, 0, 0, 0, 0, []), (6, .iload_n 1, 1, 1, 0, 0, 0, 0, []), (7, .aload_n 0, 1, 0, 0, 0, 0, 0, []),
  (8, .getfield 35, 3, 4, 6, 1, 696, 0, []), (11, .if_icmp .gt 59, 3, 70, 0, 0, 0, 0, []), (14, .aload_n 0, 1, 0, 0, 0, 0, 0, []), (15, .bipush 42, 2, 0, 0, 0, 0, 42, []), (17, .invokevirtual 129, 3, 103, 2, 4, 1547, 4, []), (20, .ifCond .ne 12, 3, 32, 0, 0, 0, 0, []),
  (23, .aload_n 0, 1, 0, 0, 0, 0, 0, []), (24, .bipush 47, 2, 0, 0, 0, 0, 47, []), (26, .invokevirtual 129, 3, 103, 2, 4, 1547, 4, []), (29, .ifCond .eq 41, 3, 70, 0, 0, 0, 0, []), (32, .aload_n 0, 1, 0, 0, 0, 0, 0, []), (33, .bipush 42, 2, 0, 0, 0, 0, 42, []),
  (35, .invokevirtual 129, 3, 103, 2, 4, 1547, 4, []), (38, .ifCond .eq 9, 3, 47, 0, 0, 0, 0, []), (41, .sipush 20005, 3, 0, 0, 0, 0, 20005, []), (44, .goto 6, 3, 50, 0, 0, 0, 0, []), (47, .sipush 20006, 3, 0, 0, 0, 0, 20006, []), (50, .istore_n 2, 1, 2, 0, 0, 0, 0, []),
  (51, .aload_n 0, 1, 0, 0, 0, 0, 0, []), (52, .invokevirtual 119, 3, 100, 1, 0, 1195, 4, []), (55, .aload_n 0, 1, 0, 0, 0, 0, 0, []), (56, .invokevirtual 223, 3, 123, 1, 0, 1539, 4, []), (59, .aload_n 0, 1, 0, 0, 0, 0, 0, []), (60, .iload_n 2, 1, 2, 0, 0, 0, 0, []),
  (61, .invokevirtual 110, 3, 116, 2, 0, 1543, 4, []), (64, .iinc 1 1, 3, 1, 0, 0, 0, 1, []), (67, .goto (-61), 3, 6, 0, 0, 0, 0, []), (70, .return_, 1, 0, 0, 0, 0, 0, [])]
noncomputable def am_s123 : am_S := (yX4_readPart, cX4_readPart, 1, none, 1, 0, 1, 4, 1542, 1541, 21, 514)
noncomputable def am_c123 : List (Nat × am_E) := [(0, .aload_n 0, 1, 0, 0, 0, 0, 0, []), (1, .getfield 42, 3, 4, 8, 1, 698, 0, []), (4, .iconst 2, 1, 0, 0, 0, 0, 2, []), (5, .if_icmp .ne 18, 3, 23, 0, 0, 0, 0, []), (8, .aload_n 0, 1, 0, 0, 0, 0, 0, []), (9, .aload_n 0, 1, 0, 0, 0, 0, 0, []),
  (10, .iconst 0, 1, 0, 0, 0, 0, 0, []), (11, .sipush 9999, 3, 0, 0, 0, 0, 9999, []), (14, .invokevirtual 157, 3, 106, 3, 1, 1235, 4, []), (17, .invokevirtual 110, 3, 116, 2, 0, 1543, 4, []), (20, .goto 177, 3, 197, 0, 0, 0, 0, []), (23, .aload_n 0, 1, 0, 0, 0, 0, 0, []),
  (24, .bipush 40, 2, 0, 0, 0, 0, 40, []), (26, .invokevirtual 129, 3, 103, 2, 4, 1547, 4, []), (29, .ifCond .eq 33, 3, 62, 0, 0, 0, 0, []), (32, .aload_n 0, 1, 0, 0, 0, 0, 0, []), (33, .invokevirtual 216, 3, 117, 1, 4, 1551, 4, []), (36, .ifCond .eq 161, 3, 197, 0, 0, 0, 0, []),
  (39, .aload_n 0, 1, 0, 0, 0, 0, 0, []), (40, .invokevirtual 107, 3, 121, 1, 0, 1259, 4, []), (43, .aload_n 0, 1, 0, 0, 0, 0, 0, []), (44, .bipush 41, 2, 0, 0, 0, 0, 41, []), (46, .invokevirtual 96, 3, 105, 2, 0, 1555, 4, []), (49, .aload_n 0, 1, 0, 0, 0, 0, 0, []),
  (50, .dup, 1, 0, 0, 0, 0, 0, []), (51, .getfield 67, 3, 4, 16, 1, 706, 0, []), (54, .iconst 1, 1, 0, 0, 0, 0, 1, []), (55, .isub, 1, 0, 0, 0, 0, 0, []), (56, .putfield 67, 3, 4, 16, 1, 706, 0, []), (59, .goto 138, 3, 197, 0, 0, 0, 0, []),
  (62, .aload_n 0, 1, 0, 0, 0, 0, 0, []), (63, .bipush 27, 2, 0, 0, 0, 0, 27, []), (65, .invokevirtual 125, 3, 102, 2, 4, 1231, 4, []), (68, .ifCond .ne 12, 3, 80, 0, 0, 0, 0, []), (71, .aload_n 0, 1, 0, 0, 0, 0, 0, []), (72, .bipush 28, 2, 0, 0, 0, 0, 28, []),
  (74, .invokevirtual 125, 3, 102, 2, 4, 1231, 4, []), (77, .ifCond .eq 28, 3, 105, 0, 0, 0, 0, []), (80, .aload_n 0, 1, 0, 0, 0, 0, 0, []), (81, .aload_n 0, 1, 0, 0, 0, 0, 0, []), (82, .bipush 27, 2, 0, 0, 0, 0, 27, []), (84, .invokevirtual 125, 3, 102, 2, 4, 1231, 4, []),
  (87, .ifCond .eq 9, 3, 96, 0, 0, 0, 0, []), (90, .sipush 20007, 3, 0, 0, 0, 0, 20007, []), (93, .goto 6, 3, 99, 0, 0, 0, 0, []), (96, .sipush 20008, 3, 0, 0, 0, 0, 20008, []), (99, .invokevirtual 226, 3, 124, 2, 0, 1559, 4, []), (102, .goto 95, 3, 197, 0, 0, 0, 0, []),
  (105, .aload_n 0, 1, 0, 0, 0, 0, 0, []), (106, .bipush 18, 2, 0, 0, 0, 0, 18, []), (108, .invokevirtual 125, 3, 102, 2, 4, 1231, 4, []), (111, .ifCond .eq 43, 3, 154, 0, 0, 0, 0, []), (114, .aload_n 0, 1, 0, 0, 0, 0, 0, []), (115, .getfield 58, 3, 4, 13, 1, 703, 0, []),
  (118, .bipush 29, 2, 0, 0, 0, 0, 29, []), (120, .if_icmp .lt 34, 3, 154, 0, 0, 0, 0, []), (123, .aload_n 0, 1, 0, 0, 0, 0, 0, []), (124, .invokevirtual 216, 3, 117, 1, 4, 1551, 4, []), (127, .ifCond .eq 70, 3, 197, 0, 0, 0, 0, []), (130, .aload_n 0, 1, 0, 0, 0, 0, 0, []),
  (131, .invokevirtual 223, 3, 123, 1, 0, 1539, 4, []), (134, .aload_n 0, 1, 0, 0, 0, 0, 0, []), (135, .dup, 1, 0, 0, 0, 0, 0, []), (136, .getfield 67, 3, 4, 16, 1, 706, 0, []), (139, .iconst 1, 1, 0, 0, 0, 0, 1, []), (140, .isub, 1, 0, 0, 0, 0, 0, []),
  (141, .putfield 67, 3, 4, 16, 1, 706, 0, []), (144, .aload_n 0, 1, 0, 0, 0, 0, 0, []), (145, .sipush 20002, 3, 0, 0, 0, 0, 20002, []), (148, .invokevirtual 110, 3, 116, 2, 0, 1543, 4, []), (151, .goto 46, 3, 197, 0, 0, 0, 0, []), (154, .aload_n 0, 1, 0, 0, 0, 0, 0, []),
  (155, .getfield 42, 3, 4, 8, 1, 698, 0, []), (158, .iconst 1, 1, 0, 0, 0, 0, 1, []), (159, .if_icmp .ne 29, 3, 188, 0, 0, 0, 0, []), (162, .aload_n 0, 1, 0, 0, 0, 0, 0, []), (163, .invokevirtual 229, 3, 125, 1, 4, 1563, 4, []), (166, .ifCond .eq 22, 3, 188, 0, 0, 0, 0, []),
  (169, .aload_n 0, 1, 0, 0, 0, 0, 0, []), (170, .sipush 10000, 3, 0, 0, 0, 0, 10000, []), (173, .aload_n 0, 1, 0, 0, 0, 0, 0, []), (174, .getfield 55, 3, 4, 12, 1, 702, 0, []), (177, .iadd, 1, 0, 0, 0, 0, 0, []), (178, .invokevirtual 110, 3, 116, 2, 0, 1543, 4, []),
  (181, .aload_n 0, 1, 0, 0, 0, 0, 0, []), (182, .invokevirtual 119, 3, 100, 1, 0, 1195, 4, []), (185, .goto 12, 3, 197, 0, 0, 0, 0, []), (188, .aload_n 0, 1, 0, 0, 0, 0, 0, []), (189, .iconst 1, 1, 0, 0, 0, 0, 1, []), (190, .aload_n 0, 1, 0, 0, 0, 0, 0, []),
  (191, .getfield 45, 3, 4, 9, 1, 699, 0, []), (194, .invokevirtual 89, 3, 99, 3, 0, 1203, 4, []), (197, .return_, 1, 0, 0, 0, 0, 0, [])]
noncomputable def am_s124 : am_S := (yX4_readLesserOrGreater, cX4_readLesserOrGreater, 2, none, 1, 0, 2, 4, 1562, 1561, 26, 514)
noncomputable def am_c124 : List (Nat × am_E) := [(0, .aload_n 0, 1, 0, 0, 0, 0, 0, []), (1, .invokevirtual 119, 3, 100, 1, 0, 1195, 4, []), (4, .aload_n 0, 1, 0, 0, 0, 0, 0, []), (5, .bipush 40, 2, 0, 0, 0, 0, 40, []), (7, .invokevirtual 129, 3, 103, 2, 4, 1547, 4, []), (10, .ifCond .ne 12, 3, 22, 0, 0, 0, 0, []),
  (13, .aload_n 0, 1, 0, 0, 0, 0, 0, []), (14, .iconst 1, 1, 0, 0, 0, 0, 1, []), (15, .aload_n 0, 1, 0, 0, 0, 0, 0, []), (16, .getfield 45, 3, 4, 9, 1, 699, 0, []), (19, .invokevirtual 89, 3, 99, 3, 0, 1203, 4, []), (22, .aload_n 0, 1, 0, 0, 0, 0, 0, []),
  (23, .invokevirtual 216, 3, 117, 1, 4, 1551, 4, []), (26, .ifCond .eq 38, 3, 64, 0, 0, 0, 0, []), (29, .aload_n 0, 1, 0, 0, 0, 0, 0, []), (30, .invokevirtual 107, 3, 121, 1, 0, 1259, 4, []), (33, .aload_n 0, 1, 0, 0, 0, 0, 0, []), (34, .bipush 44, 2, 0, 0, 0, 0, 44, []),
  (36, .invokevirtual 96, 3, 105, 2, 0, 1555, 4, []), (39, .aload_n 0, 1, 0, 0, 0, 0, 0, []), (40, .invokevirtual 107, 3, 121, 1, 0, 1259, 4, []), (43, .aload_n 0, 1, 0, 0, 0, 0, 0, []), (44, .bipush 41, 2, 0, 0, 0, 0, 41, []), (46, .invokevirtual 96, 3, 105, 2, 0, 1555, 4, []),
  (49, .aload_n 0, 1, 0, 0, 0, 0, 0, []), (50, .dup, 1, 0, 0, 0, 0, 0, []), (51, .getfield 67, 3, 4, 16, 1, 706, 0, []), (54, .iconst 1, 1, 0, 0, 0, 0, 1, []), (55, .isub, 1, 0, 0, 0, 0, 0, []), (56, .putfield 67, 3, 4, 16, 1, 706, 0, []),
  (59, .aload_n 0, 1, 0, 0, 0, 0, 0, []), (60, .iload_n 1, 1, 1, 0, 0, 0, 0, []), (61, .invokevirtual 110, 3, 116, 2, 0, 1543, 4, []), (64, .return_, 1, 0, 0, 0, 0, 0, [])]
noncomputable def am_s125 : am_S := (yX4_isFactHere, cX4_isFactHere, 1, (some .boolean), 1, 4, 1, 4, 1566, 1565, 27, 514)
noncomputable def am_c125 : List (Nat × am_E) := [(0, .aload_n 0, 1, 0, 0, 0, 0, 0, []), (1, .getfield 55, 3, 4, 12, 1, 702, 0, []), (4, .tableswitch 180 2 22 #[141, 180, 180, 180, 180, 180, 180, 180, 180, 180, 180, 180, 180, 180, 100, 102, 126, 141, 141, 165, 165], 100, 184, 0, 0, 0, 0, [(2, 145), (3, 184), (4, 184), (5, 184), (6, 184), (7, 184), (8, 184), (9, 184), (10, 184), (11, 184), (12, 184), (13, 184), (14, 184), (15, 184), (16, 104), (17, 106), (18, 130), (19, 145), (20, 145), (21, 169), (22, 169)]), (104, .iconst 1, 1, 0, 0, 0, 0, 1, []), (105, .ireturn, 1, 0, 0, 4, 0, 0, []), (106, .aload_n 0, 1, 0, 0, 0, 0, 0, []),
  (107, .getfield 58, 3, 4, 13, 1, 703, 0, []), (110, .bipush 9, 2, 0, 0, 0, 0, 9, []), (112, .if_icmp .eq 12, 3, 124, 0, 0, 0, 0, []), (115, .aload_n 0, 1, 0, 0, 0, 0, 0, []), (116, .getfield 58, 3, 4, 13, 1, 703, 0, []), (119, .bipush 10, 2, 0, 0, 0, 0, 10, []),
  (121, .if_icmp .ne 7, 3, 128, 0, 0, 0, 0, []), (124, .iconst 1, 1, 0, 0, 0, 0, 1, []), (125, .goto 4, 3, 129, 0, 0, 0, 0, []), (128, .iconst 0, 1, 0, 0, 0, 0, 0, []), (129, .ireturn, 1, 0, 0, 4, 0, 0, []), (130, .aload_n 0, 1, 0, 0, 0, 0, 0, []),
  (131, .getfield 58, 3, 4, 13, 1, 703, 0, []), (134, .bipush 9, 2, 0, 0, 0, 0, 9, []), (136, .if_icmp .ne 7, 3, 143, 0, 0, 0, 0, []), (139, .iconst 1, 1, 0, 0, 0, 0, 1, []), (140, .goto 4, 3, 144, 0, 0, 0, 0, []), (143, .iconst 0, 1, 0, 0, 0, 0, 0, []),
  (144, .ireturn, 1, 0, 0, 4, 0, 0, []), (145, .aload_n 0, 1, 0, 0, 0, 0, 0, []), (146, .getfield 58, 3, 4, 13, 1, 703, 0, []), (149, .bipush 11, 2, 0, 0, 0, 0, 11, []), (151, .if_icmp .eq 12, 3, 163, 0, 0, 0, 0, []), (154, .aload_n 0, 1, 0, 0, 0, 0, 0, []),
  (155, .getfield 58, 3, 4, 13, 1, 703, 0, []), (158, .bipush 29, 2, 0, 0, 0, 0, 29, []), (160, .if_icmp .lt 7, 3, 167, 0, 0, 0, 0, []), (163, .iconst 1, 1, 0, 0, 0, 0, 1, []), (164, .goto 4, 3, 168, 0, 0, 0, 0, []), (167, .iconst 0, 1, 0, 0, 0, 0, 0, []),
  (168, .ireturn, 1, 0, 0, 4, 0, 0, []), (169, .aload_n 0, 1, 0, 0, 0, 0, 0, []), (170, .getfield 58, 3, 4, 13, 1, 703, 0, []), (173, .bipush 29, 2, 0, 0, 0, 0, 29, []), (175, .if_icmp .lt 7, 3, 182, 0, 0, 0, 0, []), (178, .iconst 1, 1, 0, 0, 0, 0, 1, []),
  (179, .goto 4, 3, 183, 0, 0, 0, 0, []), (182, .iconst 0, 1, 0, 0, 0, 0, 0, []), (183, .ireturn, 1, 0, 0, 4, 0, 0, []), (184, .iconst 0, 1, 0, 0, 0, 0, 0, []), (185, .ireturn, 1, 0, 0, 4, 0, 0, [])]
noncomputable def am_s126 : am_S := (yX6_init, cX6_init, 1, none, 2, 0, 1, 6, 2227, 2226, 0, 523)
noncomputable def am_c126_0 : List (Nat × am_E) := [(0, .aload_n 0, 1, 0, 0, 0, 0, 0, []), (1, .invokespecial 1, 3, 0, 1, 9, 2228, 0, []), (4, .aload_n 0, 1, 0, 0, 0, 0, 0, []), (5, .sipush 1600, 3, 0, 0, 0, 0, 1600, []), (8, .newarray .int, 2, 2, 0, 0, 0, 0, []), (10, .putfield 7, 3, 6, 0, 3, 2229, 0, []),
  (13, .aload_n 0, 1, 0, 0, 0, 0, 0, []), (14, .iconst (-1), 1, 0, 0, 0, 0, (-1), []), (15, .putfield 13, 3, 6, 8, 1, 2237, 0, []), (18, .aload_n 0, 1, 0, 0, 0, 0, 0, []), (19, .bipush 6, 2, 0, 0, 0, 0, 6, []), (21, .newarray .int, 2, 2, 0, 0, 0, 0, []),
  (23, .putfield 17, 3, 6, 9, 3, 2238, 0, []), (26, .aload_n 0, 1, 0, 0, 0, 0, 0, []), (27, .iconst 4, 1, 0, 0, 0, 0, 4, []), (28, .newarray .char, 2, 4, 0, 0, 0, 0, []), (30, .dup, 1, 0, 0, 0, 0, 0, []), (31, .iconst 0, 1, 0, 0, 0, 0, 0, []),
  (32, .bipush 107, 2, 0, 0, 0, 0, 107, []), (34, .castore, 1, 0, 0, 0, 0, 0, []), (35, .dup, 1, 0, 0, 0, 0, 0, []), (36, .iconst 1, 1, 0, 0, 0, 0, 1, []), (37, .bipush 105, 2, 0, 0, 0, 0, 105, []), (39, .castore, 1, 0, 0, 0, 0, 0, []),
  (40, .dup, 1, 0, 0, 0, 0, 0, []), (41, .iconst 2, 1, 0, 0, 0, 0, 2, []), (42, .bipush 110, 2, 0, 0, 0, 0, 110, []), (44, .castore, 1, 0, 0, 0, 0, 0, []), (45, .dup, 1, 0, 0, 0, 0, 0, []), (46, .iconst 3, 1, 0, 0, 0, 0, 3, []),
  (47, .bipush 100, 2, 0, 0, 0, 0, 100, []), (49, .castore, 1, 0, 0, 0, 0, 0, []), (50, .putfield 20, 3, 6, 10, 3, 2239, 0, []), (53, .aload_n 0, 1, 0, 0, 0, 0, 0, []), (54, .iconst 4, 1, 0, 0, 0, 0, 4, []), (55, .newarray .char, 2, 4, 0, 0, 0, 0, []),
  (57, .dup, 1, 0, 0, 0, 0, 0, []), (58, .iconst 0, 1, 0, 0, 0, 0, 0, []), (59, .bipush 102, 2, 0, 0, 0, 0, 102, []), (61, .castore, 1, 0, 0, 0, 0, 0, []), (62, .dup, 1, 0, 0, 0, 0, 0, []), (63, .iconst 1, 1, 0, 0, 0, 0, 1, []),
  (64, .bipush 105, 2, 0, 0, 0, 0, 105, []), (66, .castore, 1, 0, 0, 0, 0, 0, []), (67, .dup, 1, 0, 0, 0, 0, 0, []), (68, .iconst 2, 1, 0, 0, 0, 0, 2, []), (69, .bipush 108, 2, 0, 0, 0, 0, 108, []), (71, .castore, 1, 0, 0, 0, 0, 0, []),
  (72, .dup, 1, 0, 0, 0, 0, 0, []), (73, .iconst 3, 1, 0, 0, 0, 0, 3, []), (74, .bipush 109, 2, 0, 0, 0, 0, 109, []), (76, .castore, 1, 0, 0, 0, 0, 0, []), (77, .putfield 24, 3, 6, 11, 3, 2240, 0, []), (80, .aload_n 0, 1, 0, 0, 0, 0, 0, []),
  (81, .iconst 5, 1, 0, 0, 0, 0, 5, []), (82, .newarray .char, 2, 4, 0, 0, 0, 0, []), (84, .dup, 1, 0, 0, 0, 0, 0, []), (85, .iconst 0, 1, 0, 0, 0, 0, 0, []), (86, .bipush 112, 2, 0, 0, 0, 0, 112, []), (88, .castore, 1, 0, 0, 0, 0, 0, []),
  (89, .dup, 1, 0, 0, 0, 0, 0, []), (90, .iconst 1, 1, 0, 0, 0, 0, 1, []), (91, .bipush 97, 2, 0, 0, 0, 0, 97, []), (93, .castore, 1, 0, 0, 0, 0, 0, []), (94, .dup, 1, 0, 0, 0, 0, 0, []), (95, .iconst 2, 1, 0, 0, 0, 0, 2, []),
  (96, .bipush 114, 2, 0, 0, 0, 0, 114, []), (98, .castore, 1, 0, 0, 0, 0, 0, []), (99, .dup, 1, 0, 0, 0, 0, 0, []), (100, .iconst 3, 1, 0, 0, 0, 0, 3, []), (101, .bipush 116, 2, 0, 0, 0, 0, 116, []), (103, .castore, 1, 0, 0, 0, 0, 0, []),
  (104, .dup, 1, 0, 0, 0, 0, 0, []), (105, .iconst 4, 1, 0, 0, 0, 0, 4, []), (106, .bipush 115, 2, 0, 0, 0, 0, 115, []), (108, .castore, 1, 0, 0, 0, 0, 0, []), (109, .putfield 27, 3, 6, 12, 3, 2241, 0, []), (112, .aload_n 0, 1, 0, 0, 0, 0, 0, []),
  (113, .iconst 2, 1, 0, 0, 0, 0, 2, []), (114, .newarray .char, 2, 4, 0, 0, 0, 0, []), (116, .dup, 1, 0, 0, 0, 0, 0, []), (117, .iconst 0, 1, 0, 0, 0, 0, 0, []), (118, .bipush 105, 2, 0, 0, 0, 0, 105, []), (120, .castore, 1, 0, 0, 0, 0, 0, []),
  (121, .dup, 1, 0, 0, 0, 0, 0, []), (122, .iconst 1, 1, 0, 0, 0, 0, 1, []), (123, .bipush 115, 2, 0, 0, 0, 0, 115, []), (125, .castore, 1, 0, 0, 0, 0, 0, []), (126, .putfield 30, 3, 6, 13, 3, 2242, 0, []), (129, .aload_n 0, 1, 0, 0, 0, 0, 0, []),
  (130, .bipush 6, 2, 0, 0, 0, 0, 6, []), (132, .newarray .char, 2, 4, 0, 0, 0, 0, []), (134, .dup, 1, 0, 0, 0, 0, 0, []), (135, .iconst 0, 1, 0, 0, 0, 0, 0, []), (136, .bipush 112, 2, 0, 0, 0, 0, 112, []), (138, .castore, 1, 0, 0, 0, 0, 0, []),
  (139, .dup, 1, 0, 0, 0, 0, 0, []), (140, .iconst 1, 1, 0, 0, 0, 0, 1, []), (141, .bipush 101, 2, 0, 0, 0, 0, 101, []), (143, .castore, 1, 0, 0, 0, 0, 0, [])]
noncomputable def am_c126_1 : List (Nat × am_E) := [(144, .dup, 1, 0, 0, 0, 0, 0, []), (145, .iconst 2, 1, 0, 0, 0, 0, 2, []), (146, .bipush 114, 2, 0, 0, 0, 0, 114, []), (148, .castore, 1, 0, 0, 0, 0, 0, []), (149, .dup, 1, 0, 0, 0, 0, 0, []), (150, .iconst 3, 1, 0, 0, 0, 0, 3, []),
  (151, .bipush 115, 2, 0, 0, 0, 0, 115, []), (153, .castore, 1, 0, 0, 0, 0, 0, []), (154, .dup, 1, 0, 0, 0, 0, 0, []), (155, .iconst 4, 1, 0, 0, 0, 0, 4, []), (156, .bipush 111, 2, 0, 0, 0, 0, 111, []), (158, .castore, 1, 0, 0, 0, 0, 0, []),
  (159, .dup, 1, 0, 0, 0, 0, 0, []), (160, .iconst 5, 1, 0, 0, 0, 0, 5, []), (161, .bipush 110, 2, 0, 0, 0, 0, 110, []), (163, .castore, 1, 0, 0, 0, 0, 0, []), (164, .putfield 33, 3, 6, 14, 3, 2243, 0, []), (167, .aload_n 0, 1, 0, 0, 0, 0, 0, []),
  (168, .iconst 2, 1, 0, 0, 0, 0, 2, []), (169, .newarray .char, 2, 4, 0, 0, 0, 0, []), (171, .dup, 1, 0, 0, 0, 0, 0, []), (172, .iconst 0, 1, 0, 0, 0, 0, 0, []), (173, .bipush 97, 2, 0, 0, 0, 0, 97, []), (175, .castore, 1, 0, 0, 0, 0, 0, []),
  (176, .dup, 1, 0, 0, 0, 0, 0, []), (177, .iconst 1, 1, 0, 0, 0, 0, 1, []), (178, .bipush 116, 2, 0, 0, 0, 0, 116, []), (180, .castore, 1, 0, 0, 0, 0, 0, []), (181, .putfield 36, 3, 6, 15, 3, 2244, 0, []), (184, .aload_n 0, 1, 0, 0, 0, 0, 0, []),
  (185, .iconst 2, 1, 0, 0, 0, 0, 2, []), (186, .newarray .char, 2, 4, 0, 0, 0, 0, []), (188, .dup, 1, 0, 0, 0, 0, 0, []), (189, .iconst 0, 1, 0, 0, 0, 0, 0, []), (190, .bipush 116, 2, 0, 0, 0, 0, 116, []), (192, .castore, 1, 0, 0, 0, 0, 0, []),
  (193, .dup, 1, 0, 0, 0, 0, 0, []), (194, .iconst 1, 1, 0, 0, 0, 0, 1, []), (195, .bipush 111, 2, 0, 0, 0, 0, 111, []), (197, .castore, 1, 0, 0, 0, 0, 0, []), (198, .putfield 39, 3, 6, 16, 3, 2245, 0, []), (201, .aload_n 0, 1, 0, 0, 0, 0, 0, []),
  (202, .iconst 5, 1, 0, 0, 0, 0, 5, []), (203, .newarray .char, 2, 4, 0, 0, 0, 0, []), (205, .dup, 1, 0, 0, 0, 0, 0, []), (206, .iconst 0, 1, 0, 0, 0, 0, 0, []), (207, .bipush 108, 2, 0, 0, 0, 0, 108, []), (209, .castore, 1, 0, 0, 0, 0, 0, []),
  (210, .dup, 1, 0, 0, 0, 0, 0, []), (211, .iconst 1, 1, 0, 0, 0, 0, 1, []), (212, .bipush 105, 2, 0, 0, 0, 0, 105, []), (214, .castore, 1, 0, 0, 0, 0, 0, []), (215, .dup, 1, 0, 0, 0, 0, 0, []), (216, .iconst 2, 1, 0, 0, 0, 0, 2, []),
  (217, .bipush 107, 2, 0, 0, 0, 0, 107, []), (219, .castore, 1, 0, 0, 0, 0, 0, []), (220, .dup, 1, 0, 0, 0, 0, 0, []), (221, .iconst 3, 1, 0, 0, 0, 0, 3, []), (222, .bipush 101, 2, 0, 0, 0, 0, 101, []), (224, .castore, 1, 0, 0, 0, 0, 0, []),
  (225, .dup, 1, 0, 0, 0, 0, 0, []), (226, .iconst 4, 1, 0, 0, 0, 0, 4, []), (227, .bipush 115, 2, 0, 0, 0, 0, 115, []), (229, .castore, 1, 0, 0, 0, 0, 0, []), (230, .putfield 42, 3, 6, 17, 3, 2246, 0, []), (233, .aload_n 0, 1, 0, 0, 0, 0, 0, []),
  (234, .iconst 5, 1, 0, 0, 0, 0, 5, []), (235, .newarray .char, 2, 4, 0, 0, 0, 0, []), (237, .dup, 1, 0, 0, 0, 0, 0, []), (238, .iconst 0, 1, 0, 0, 0, 0, 0, []), (239, .bipush 112, 2, 0, 0, 0, 0, 112, []), (241, .castore, 1, 0, 0, 0, 0, 0, []),
  (242, .dup, 1, 0, 0, 0, 0, 0, []), (243, .iconst 1, 1, 0, 0, 0, 0, 1, []), (244, .bipush 114, 2, 0, 0, 0, 0, 114, []), (246, .castore, 1, 0, 0, 0, 0, 0, []), (247, .dup, 1, 0, 0, 0, 0, 0, []), (248, .iconst 2, 1, 0, 0, 0, 0, 2, []),
  (249, .bipush 101, 2, 0, 0, 0, 0, 101, []), (251, .castore, 1, 0, 0, 0, 0, 0, []), (252, .dup, 1, 0, 0, 0, 0, 0, []), (253, .iconst 3, 1, 0, 0, 0, 0, 3, []), (254, .bipush 115, 2, 0, 0, 0, 0, 115, []), (256, .castore, 1, 0, 0, 0, 0, 0, []),
  (257, .dup, 1, 0, 0, 0, 0, 0, []), (258, .iconst 4, 1, 0, 0, 0, 0, 4, []), (259, .bipush 115, 2, 0, 0, 0, 0, 115, []), (261, .castore, 1, 0, 0, 0, 0, 0, []), (262, .putfield 45, 3, 6, 18, 3, 2247, 0, []), (265, .aload_n 0, 1, 0, 0, 0, 0, 0, []),
  (266, .bipush 6, 2, 0, 0, 0, 0, 6, []), (268, .newarray .char, 2, 4, 0, 0, 0, 0, []), (270, .dup, 1, 0, 0, 0, 0, 0, []), (271, .iconst 0, 1, 0, 0, 0, 0, 0, []), (272, .bipush 108, 2, 0, 0, 0, 0, 108, []), (274, .castore, 1, 0, 0, 0, 0, 0, []),
  (275, .dup, 1, 0, 0, 0, 0, 0, []), (276, .iconst 1, 1, 0, 0, 0, 0, 1, []), (277, .bipush 101, 2, 0, 0, 0, 0, 101, []), (279, .castore, 1, 0, 0, 0, 0, 0, [])]
noncomputable def am_c126_2 : List (Nat × am_E) := [(280, .dup, 1, 0, 0, 0, 0, 0, []), (281, .iconst 2, 1, 0, 0, 0, 0, 2, []), (282, .bipush 97, 2, 0, 0, 0, 0, 97, []), (284, .castore, 1, 0, 0, 0, 0, 0, []), (285, .dup, 1, 0, 0, 0, 0, 0, []), (286, .iconst 3, 1, 0, 0, 0, 0, 3, []),
  (287, .bipush 114, 2, 0, 0, 0, 0, 114, []), (289, .castore, 1, 0, 0, 0, 0, 0, []), (290, .dup, 1, 0, 0, 0, 0, 0, []), (291, .iconst 4, 1, 0, 0, 0, 0, 4, []), (292, .bipush 110, 2, 0, 0, 0, 0, 110, []), (294, .castore, 1, 0, 0, 0, 0, 0, []),
  (295, .dup, 1, 0, 0, 0, 0, 0, []), (296, .iconst 5, 1, 0, 0, 0, 0, 5, []), (297, .bipush 115, 2, 0, 0, 0, 0, 115, []), (299, .castore, 1, 0, 0, 0, 0, 0, []), (300, .putfield 48, 3, 6, 19, 3, 2248, 0, []), (303, .aload_n 0, 1, 0, 0, 0, 0, 0, []),
  (304, .iconst 5, 1, 0, 0, 0, 0, 5, []), (305, .newarray .char, 2, 4, 0, 0, 0, 0, []), (307, .dup, 1, 0, 0, 0, 0, 0, []), (308, .iconst 0, 1, 0, 0, 0, 0, 0, []), (309, .bipush 102, 2, 0, 0, 0, 0, 102, []), (311, .castore, 1, 0, 0, 0, 0, 0, []),
  (312, .dup, 1, 0, 0, 0, 0, 0, []), (313, .iconst 1, 1, 0, 0, 0, 0, 1, []), (314, .bipush 97, 2, 0, 0, 0, 0, 97, []), (316, .castore, 1, 0, 0, 0, 0, 0, []), (317, .dup, 1, 0, 0, 0, 0, 0, []), (318, .iconst 2, 1, 0, 0, 0, 0, 2, []),
  (319, .bipush 100, 2, 0, 0, 0, 0, 100, []), (321, .castore, 1, 0, 0, 0, 0, 0, []), (322, .dup, 1, 0, 0, 0, 0, 0, []), (323, .iconst 3, 1, 0, 0, 0, 0, 3, []), (324, .bipush 101, 2, 0, 0, 0, 0, 101, []), (326, .castore, 1, 0, 0, 0, 0, 0, []),
  (327, .dup, 1, 0, 0, 0, 0, 0, []), (328, .iconst 4, 1, 0, 0, 0, 0, 4, []), (329, .bipush 115, 2, 0, 0, 0, 0, 115, []), (331, .castore, 1, 0, 0, 0, 0, 0, []), (332, .putfield 51, 3, 6, 20, 3, 2249, 0, []), (335, .aload_n 0, 1, 0, 0, 0, 0, 0, []),
  (336, .iconst 3, 1, 0, 0, 0, 0, 3, []), (337, .newarray .char, 2, 4, 0, 0, 0, 0, []), (339, .dup, 1, 0, 0, 0, 0, 0, []), (340, .iconst 0, 1, 0, 0, 0, 0, 0, []), (341, .bipush 109, 2, 0, 0, 0, 0, 109, []), (343, .castore, 1, 0, 0, 0, 0, 0, []),
  (344, .dup, 1, 0, 0, 0, 0, 0, []), (345, .iconst 1, 1, 0, 0, 0, 0, 1, []), (346, .bipush 97, 2, 0, 0, 0, 0, 97, []), (348, .castore, 1, 0, 0, 0, 0, 0, []), (349, .dup, 1, 0, 0, 0, 0, 0, []), (350, .iconst 2, 1, 0, 0, 0, 0, 2, []),
  (351, .bipush 121, 2, 0, 0, 0, 0, 121, []), (353, .castore, 1, 0, 0, 0, 0, 0, []), (354, .putfield 54, 3, 6, 21, 3, 2250, 0, []), (357, .aload_n 0, 1, 0, 0, 0, 0, 0, []), (358, .bipush 7, 2, 0, 0, 0, 0, 7, []), (360, .newarray .char, 2, 4, 0, 0, 0, 0, []),
  (362, .dup, 1, 0, 0, 0, 0, 0, []), (363, .iconst 0, 1, 0, 0, 0, 0, 0, []), (364, .bipush 115, 2, 0, 0, 0, 0, 115, []), (366, .castore, 1, 0, 0, 0, 0, 0, []), (367, .dup, 1, 0, 0, 0, 0, 0, []), (368, .iconst 1, 1, 0, 0, 0, 0, 1, []),
  (369, .bipush 99, 2, 0, 0, 0, 0, 99, []), (371, .castore, 1, 0, 0, 0, 0, 0, []), (372, .dup, 1, 0, 0, 0, 0, 0, []), (373, .iconst 2, 1, 0, 0, 0, 0, 2, []), (374, .bipush 114, 2, 0, 0, 0, 0, 114, []), (376, .castore, 1, 0, 0, 0, 0, 0, []),
  (377, .dup, 1, 0, 0, 0, 0, 0, []), (378, .iconst 3, 1, 0, 0, 0, 0, 3, []), (379, .bipush 101, 2, 0, 0, 0, 0, 101, []), (381, .castore, 1, 0, 0, 0, 0, 0, []), (382, .dup, 1, 0, 0, 0, 0, 0, []), (383, .iconst 4, 1, 0, 0, 0, 0, 4, []),
  (384, .bipush 101, 2, 0, 0, 0, 0, 101, []), (386, .castore, 1, 0, 0, 0, 0, 0, []), (387, .dup, 1, 0, 0, 0, 0, 0, []), (388, .iconst 5, 1, 0, 0, 0, 0, 5, []), (389, .bipush 110, 2, 0, 0, 0, 0, 110, []), (391, .castore, 1, 0, 0, 0, 0, 0, []),
  (392, .dup, 1, 0, 0, 0, 0, 0, []), (393, .bipush 6, 2, 0, 0, 0, 0, 6, []), (395, .bipush 115, 2, 0, 0, 0, 0, 115, []), (397, .castore, 1, 0, 0, 0, 0, 0, []), (398, .putfield 57, 3, 6, 22, 3, 2251, 0, []), (401, .aload_n 0, 1, 0, 0, 0, 0, 0, []),
  (402, .iconst 5, 1, 0, 0, 0, 0, 5, []), (403, .newarray .char, 2, 4, 0, 0, 0, 0, []), (405, .dup, 1, 0, 0, 0, 0, 0, []), (406, .iconst 0, 1, 0, 0, 0, 0, 0, []), (407, .bipush 112, 2, 0, 0, 0, 0, 112, []), (409, .castore, 1, 0, 0, 0, 0, 0, []),
  (410, .dup, 1, 0, 0, 0, 0, 0, []), (411, .iconst 1, 1, 0, 0, 0, 0, 1, []), (412, .bipush 114, 2, 0, 0, 0, 0, 114, []), (414, .castore, 1, 0, 0, 0, 0, 0, [])]
noncomputable def am_c126_3 : List (Nat × am_E) := [(415, .dup, 1, 0, 0, 0, 0, 0, []), (416, .iconst 2, 1, 0, 0, 0, 0, 2, []), (417, .bipush 105, 2, 0, 0, 0, 0, 105, []), (419, .castore, 1, 0, 0, 0, 0, 0, []), (420, .dup, 1, 0, 0, 0, 0, 0, []), (421, .iconst 3, 1, 0, 0, 0, 0, 3, []),
  (422, .bipush 99, 2, 0, 0, 0, 0, 99, []), (424, .castore, 1, 0, 0, 0, 0, 0, []), (425, .dup, 1, 0, 0, 0, 0, 0, []), (426, .iconst 4, 1, 0, 0, 0, 0, 4, []), (427, .bipush 101, 2, 0, 0, 0, 0, 101, []), (429, .castore, 1, 0, 0, 0, 0, 0, []),
  (430, .putfield 60, 3, 6, 23, 3, 2252, 0, []), (433, .aload_n 0, 1, 0, 0, 0, 0, 0, []), (434, .bipush 6, 2, 0, 0, 0, 0, 6, []), (436, .newarray .char, 2, 4, 0, 0, 0, 0, []), (438, .dup, 1, 0, 0, 0, 0, 0, []), (439, .iconst 0, 1, 0, 0, 0, 0, 0, []),
  (440, .bipush 98, 2, 0, 0, 0, 0, 98, []), (442, .castore, 1, 0, 0, 0, 0, 0, []), (443, .dup, 1, 0, 0, 0, 0, 0, []), (444, .iconst 1, 1, 0, 0, 0, 0, 1, []), (445, .bipush 111, 2, 0, 0, 0, 0, 111, []), (447, .castore, 1, 0, 0, 0, 0, 0, []),
  (448, .dup, 1, 0, 0, 0, 0, 0, []), (449, .iconst 2, 1, 0, 0, 0, 0, 2, []), (450, .bipush 116, 2, 0, 0, 0, 0, 116, []), (452, .castore, 1, 0, 0, 0, 0, 0, []), (453, .dup, 1, 0, 0, 0, 0, 0, []), (454, .iconst 3, 1, 0, 0, 0, 0, 3, []),
  (455, .bipush 104, 2, 0, 0, 0, 0, 104, []), (457, .castore, 1, 0, 0, 0, 0, 0, []), (458, .dup, 1, 0, 0, 0, 0, 0, []), (459, .iconst 4, 1, 0, 0, 0, 0, 4, []), (460, .bipush 101, 2, 0, 0, 0, 0, 101, []), (462, .castore, 1, 0, 0, 0, 0, 0, []),
  (463, .dup, 1, 0, 0, 0, 0, 0, []), (464, .iconst 5, 1, 0, 0, 0, 0, 5, []), (465, .bipush 114, 2, 0, 0, 0, 0, 114, []), (467, .castore, 1, 0, 0, 0, 0, 0, []), (468, .putfield 63, 3, 6, 24, 3, 2253, 0, []), (471, .aload_n 0, 1, 0, 0, 0, 0, 0, []),
  (472, .bipush 7, 2, 0, 0, 0, 0, 7, []), (474, .newarray .char, 2, 4, 0, 0, 0, 0, []), (476, .dup, 1, 0, 0, 0, 0, 0, []), (477, .iconst 0, 1, 0, 0, 0, 0, 0, []), (478, .bipush 115, 2, 0, 0, 0, 0, 115, []), (480, .castore, 1, 0, 0, 0, 0, 0, []),
  (481, .dup, 1, 0, 0, 0, 0, 0, []), (482, .iconst 1, 1, 0, 0, 0, 0, 1, []), (483, .bipush 116, 2, 0, 0, 0, 0, 116, []), (485, .castore, 1, 0, 0, 0, 0, 0, []), (486, .dup, 1, 0, 0, 0, 0, 0, []), (487, .iconst 2, 1, 0, 0, 0, 0, 2, []),
  (488, .bipush 114, 2, 0, 0, 0, 0, 114, []), (490, .castore, 1, 0, 0, 0, 0, 0, []), (491, .dup, 1, 0, 0, 0, 0, 0, []), (492, .iconst 3, 1, 0, 0, 0, 0, 3, []), (493, .bipush 97, 2, 0, 0, 0, 0, 97, []), (495, .castore, 1, 0, 0, 0, 0, 0, []),
  (496, .dup, 1, 0, 0, 0, 0, 0, []), (497, .iconst 4, 1, 0, 0, 0, 0, 4, []), (498, .bipush 110, 2, 0, 0, 0, 0, 110, []), (500, .castore, 1, 0, 0, 0, 0, 0, []), (501, .dup, 1, 0, 0, 0, 0, 0, []), (502, .iconst 5, 1, 0, 0, 0, 0, 5, []),
  (503, .bipush 103, 2, 0, 0, 0, 0, 103, []), (505, .castore, 1, 0, 0, 0, 0, 0, []), (506, .dup, 1, 0, 0, 0, 0, 0, []), (507, .bipush 6, 2, 0, 0, 0, 0, 6, []), (509, .bipush 101, 2, 0, 0, 0, 0, 101, []), (511, .castore, 1, 0, 0, 0, 0, 0, []),
  (512, .putfield 66, 3, 6, 25, 3, 2254, 0, []), (515, .aload_n 0, 1, 0, 0, 0, 0, 0, []), (516, .iconst 4, 1, 0, 0, 0, 0, 4, []), (517, .newarray .char, 2, 4, 0, 0, 0, 0, []), (519, .dup, 1, 0, 0, 0, 0, 0, []), (520, .iconst 0, 1, 0, 0, 0, 0, 0, []),
  (521, .bipush 104, 2, 0, 0, 0, 0, 104, []), (523, .castore, 1, 0, 0, 0, 0, 0, []), (524, .dup, 1, 0, 0, 0, 0, 0, []), (525, .iconst 1, 1, 0, 0, 0, 0, 1, []), (526, .bipush 111, 2, 0, 0, 0, 0, 111, []), (528, .castore, 1, 0, 0, 0, 0, 0, []),
  (529, .dup, 1, 0, 0, 0, 0, 0, []), (530, .iconst 2, 1, 0, 0, 0, 0, 2, []), (531, .bipush 117, 2, 0, 0, 0, 0, 117, []), (533, .castore, 1, 0, 0, 0, 0, 0, []), (534, .dup, 1, 0, 0, 0, 0, 0, []), (535, .iconst 3, 1, 0, 0, 0, 0, 3, []),
  (536, .bipush 114, 2, 0, 0, 0, 0, 114, []), (538, .castore, 1, 0, 0, 0, 0, 0, []), (539, .putfield 69, 3, 6, 26, 3, 2255, 0, []), (542, .aload_n 0, 1, 0, 0, 0, 0, 0, []), (543, .iconst 5, 1, 0, 0, 0, 0, 5, []), (544, .newarray .char, 2, 4, 0, 0, 0, 0, []),
  (546, .dup, 1, 0, 0, 0, 0, 0, []), (547, .iconst 0, 1, 0, 0, 0, 0, 0, []), (548, .bipush 116, 2, 0, 0, 0, 0, 116, []), (550, .castore, 1, 0, 0, 0, 0, 0, [])]
noncomputable def am_c126_4 : List (Nat × am_E) := [(551, .dup, 1, 0, 0, 0, 0, 0, []), (552, .iconst 1, 1, 0, 0, 0, 0, 1, []), (553, .bipush 97, 2, 0, 0, 0, 0, 97, []), (555, .castore, 1, 0, 0, 0, 0, 0, []), (556, .dup, 1, 0, 0, 0, 0, 0, []), (557, .iconst 2, 1, 0, 0, 0, 0, 2, []),
  (558, .bipush 115, 2, 0, 0, 0, 0, 115, []), (560, .castore, 1, 0, 0, 0, 0, 0, []), (561, .dup, 1, 0, 0, 0, 0, 0, []), (562, .iconst 3, 1, 0, 0, 0, 0, 3, []), (563, .bipush 116, 2, 0, 0, 0, 0, 116, []), (565, .castore, 1, 0, 0, 0, 0, 0, []),
  (566, .dup, 1, 0, 0, 0, 0, 0, []), (567, .iconst 4, 1, 0, 0, 0, 0, 4, []), (568, .bipush 101, 2, 0, 0, 0, 0, 101, []), (570, .castore, 1, 0, 0, 0, 0, 0, []), (571, .putfield 72, 3, 6, 27, 3, 2256, 0, []), (574, .aload_n 0, 1, 0, 0, 0, 0, 0, []),
  (575, .bipush 6, 2, 0, 0, 0, 0, 6, []), (577, .newarray .char, 2, 4, 0, 0, 0, 0, []), (579, .dup, 1, 0, 0, 0, 0, 0, []), (580, .iconst 0, 1, 0, 0, 0, 0, 0, []), (581, .bipush 119, 2, 0, 0, 0, 0, 119, []), (583, .castore, 1, 0, 0, 0, 0, 0, []),
  (584, .dup, 1, 0, 0, 0, 0, 0, []), (585, .iconst 1, 1, 0, 0, 0, 0, 1, []), (586, .bipush 101, 2, 0, 0, 0, 0, 101, []), (588, .castore, 1, 0, 0, 0, 0, 0, []), (589, .dup, 1, 0, 0, 0, 0, 0, []), (590, .iconst 2, 1, 0, 0, 0, 0, 2, []),
  (591, .bipush 105, 2, 0, 0, 0, 0, 105, []), (593, .castore, 1, 0, 0, 0, 0, 0, []), (594, .dup, 1, 0, 0, 0, 0, 0, []), (595, .iconst 3, 1, 0, 0, 0, 0, 3, []), (596, .bipush 103, 2, 0, 0, 0, 0, 103, []), (598, .castore, 1, 0, 0, 0, 0, 0, []),
  (599, .dup, 1, 0, 0, 0, 0, 0, []), (600, .iconst 4, 1, 0, 0, 0, 0, 4, []), (601, .bipush 104, 2, 0, 0, 0, 0, 104, []), (603, .castore, 1, 0, 0, 0, 0, 0, []), (604, .dup, 1, 0, 0, 0, 0, 0, []), (605, .iconst 5, 1, 0, 0, 0, 0, 5, []),
  (606, .bipush 116, 2, 0, 0, 0, 0, 116, []), (608, .castore, 1, 0, 0, 0, 0, 0, []), (609, .putfield 75, 3, 6, 28, 3, 2257, 0, []), (612, .aload_n 0, 1, 0, 0, 0, 0, 0, []), (613, .iconst 4, 1, 0, 0, 0, 0, 4, []), (614, .newarray .char, 2, 4, 0, 0, 0, 0, []),
  (616, .dup, 1, 0, 0, 0, 0, 0, []), (617, .iconst 0, 1, 0, 0, 0, 0, 0, []), (618, .bipush 115, 2, 0, 0, 0, 0, 115, []), (620, .castore, 1, 0, 0, 0, 0, 0, []), (621, .dup, 1, 0, 0, 0, 0, 0, []), (622, .iconst 1, 1, 0, 0, 0, 0, 1, []),
  (623, .bipush 101, 2, 0, 0, 0, 0, 101, []), (625, .castore, 1, 0, 0, 0, 0, 0, []), (626, .dup, 1, 0, 0, 0, 0, 0, []), (627, .iconst 2, 1, 0, 0, 0, 0, 2, []), (628, .bipush 101, 2, 0, 0, 0, 0, 101, []), (630, .castore, 1, 0, 0, 0, 0, 0, []),
  (631, .dup, 1, 0, 0, 0, 0, 0, []), (632, .iconst 3, 1, 0, 0, 0, 0, 3, []), (633, .bipush 110, 2, 0, 0, 0, 0, 110, []), (635, .castore, 1, 0, 0, 0, 0, 0, []), (636, .putfield 78, 3, 6, 29, 3, 2258, 0, []), (639, .aload_n 0, 1, 0, 0, 0, 0, 0, []),
  (640, .iconst 5, 1, 0, 0, 0, 0, 5, []), (641, .newarray .char, 2, 4, 0, 0, 0, 0, []), (643, .dup, 1, 0, 0, 0, 0, 0, []), (644, .iconst 0, 1, 0, 0, 0, 0, 0, []), (645, .bipush 115, 2, 0, 0, 0, 0, 115, []), (647, .castore, 1, 0, 0, 0, 0, 0, []),
  (648, .dup, 1, 0, 0, 0, 0, 0, []), (649, .iconst 1, 1, 0, 0, 0, 0, 1, []), (650, .bipush 99, 2, 0, 0, 0, 0, 99, []), (652, .castore, 1, 0, 0, 0, 0, 0, []), (653, .dup, 1, 0, 0, 0, 0, 0, []), (654, .iconst 2, 1, 0, 0, 0, 0, 2, []),
  (655, .bipush 111, 2, 0, 0, 0, 0, 111, []), (657, .castore, 1, 0, 0, 0, 0, 0, []), (658, .dup, 1, 0, 0, 0, 0, 0, []), (659, .iconst 3, 1, 0, 0, 0, 0, 3, []), (660, .bipush 114, 2, 0, 0, 0, 0, 114, []), (662, .castore, 1, 0, 0, 0, 0, 0, []),
  (663, .dup, 1, 0, 0, 0, 0, 0, []), (664, .iconst 4, 1, 0, 0, 0, 0, 4, []), (665, .bipush 101, 2, 0, 0, 0, 0, 101, []), (667, .castore, 1, 0, 0, 0, 0, 0, []), (668, .putfield 81, 3, 6, 30, 3, 2259, 0, []), (671, .aload_n 0, 1, 0, 0, 0, 0, 0, []),
  (672, .iconst 5, 1, 0, 0, 0, 0, 5, []), (673, .newarray .char, 2, 4, 0, 0, 0, 0, []), (675, .dup, 1, 0, 0, 0, 0, 0, []), (676, .iconst 0, 1, 0, 0, 0, 0, 0, []), (677, .bipush 119, 2, 0, 0, 0, 0, 119, []), (679, .castore, 1, 0, 0, 0, 0, 0, []),
  (680, .dup, 1, 0, 0, 0, 0, 0, []), (681, .iconst 1, 1, 0, 0, 0, 0, 1, []), (682, .bipush 111, 2, 0, 0, 0, 0, 111, []), (684, .castore, 1, 0, 0, 0, 0, 0, [])]
noncomputable def am_c126_5 : List (Nat × am_E) := [(685, .dup, 1, 0, 0, 0, 0, 0, []), (686, .iconst 2, 1, 0, 0, 0, 0, 2, []), (687, .bipush 114, 2, 0, 0, 0, 0, 114, []), (689, .castore, 1, 0, 0, 0, 0, 0, []), (690, .dup, 1, 0, 0, 0, 0, 0, []), (691, .iconst 3, 1, 0, 0, 0, 0, 3, []),
  (692, .bipush 116, 2, 0, 0, 0, 0, 116, []), (694, .castore, 1, 0, 0, 0, 0, 0, []), (695, .dup, 1, 0, 0, 0, 0, 0, []), (696, .iconst 4, 1, 0, 0, 0, 0, 4, []), (697, .bipush 104, 2, 0, 0, 0, 0, 104, []), (699, .castore, 1, 0, 0, 0, 0, 0, []),
  (700, .putfield 84, 3, 6, 31, 3, 2260, 0, []), (703, .aload_n 0, 1, 0, 0, 0, 0, 0, []), (704, .bipush 6, 2, 0, 0, 0, 0, 6, []), (706, .newarray .char, 2, 4, 0, 0, 0, 0, []), (708, .dup, 1, 0, 0, 0, 0, 0, []), (709, .iconst 0, 1, 0, 0, 0, 0, 0, []),
  (710, .bipush 110, 2, 0, 0, 0, 0, 110, []), (712, .castore, 1, 0, 0, 0, 0, 0, []), (713, .dup, 1, 0, 0, 0, 0, 0, []), (714, .iconst 1, 1, 0, 0, 0, 0, 1, []), (715, .bipush 117, 2, 0, 0, 0, 0, 117, []), (717, .castore, 1, 0, 0, 0, 0, 0, []),
  (718, .dup, 1, 0, 0, 0, 0, 0, []), (719, .iconst 2, 1, 0, 0, 0, 0, 2, []), (720, .bipush 109, 2, 0, 0, 0, 0, 109, []), (722, .castore, 1, 0, 0, 0, 0, 0, []), (723, .dup, 1, 0, 0, 0, 0, 0, []), (724, .iconst 3, 1, 0, 0, 0, 0, 3, []),
  (725, .bipush 98, 2, 0, 0, 0, 0, 98, []), (727, .castore, 1, 0, 0, 0, 0, 0, []), (728, .dup, 1, 0, 0, 0, 0, 0, []), (729, .iconst 4, 1, 0, 0, 0, 0, 4, []), (730, .bipush 101, 2, 0, 0, 0, 0, 101, []), (732, .castore, 1, 0, 0, 0, 0, 0, []),
  (733, .dup, 1, 0, 0, 0, 0, 0, []), (734, .iconst 5, 1, 0, 0, 0, 0, 5, []), (735, .bipush 114, 2, 0, 0, 0, 0, 114, []), (737, .castore, 1, 0, 0, 0, 0, 0, []), (738, .putfield 87, 3, 6, 32, 3, 2261, 0, []), (741, .aload_n 0, 1, 0, 0, 0, 0, 0, []),
  (742, .iconst 2, 1, 0, 0, 0, 0, 2, []), (743, .newarray .char, 2, 4, 0, 0, 0, 0, []), (745, .dup, 1, 0, 0, 0, 0, 0, []), (746, .iconst 0, 1, 0, 0, 0, 0, 0, []), (747, .bipush 111, 2, 0, 0, 0, 0, 111, []), (749, .castore, 1, 0, 0, 0, 0, 0, []),
  (750, .dup, 1, 0, 0, 0, 0, 0, []), (751, .iconst 1, 1, 0, 0, 0, 0, 1, []), (752, .bipush 114, 2, 0, 0, 0, 0, 114, []), (754, .castore, 1, 0, 0, 0, 0, 0, []), (755, .putfield 90, 3, 6, 33, 3, 2262, 0, []), (758, .aload_n 0, 1, 0, 0, 0, 0, 0, []),
  (759, .iconst 3, 1, 0, 0, 0, 0, 3, []), (760, .newarray .char, 2, 4, 0, 0, 0, 0, []), (762, .dup, 1, 0, 0, 0, 0, 0, []), (763, .iconst 0, 1, 0, 0, 0, 0, 0, []), (764, .bipush 97, 2, 0, 0, 0, 0, 97, []), (766, .castore, 1, 0, 0, 0, 0, 0, []),
  (767, .dup, 1, 0, 0, 0, 0, 0, []), (768, .iconst 1, 1, 0, 0, 0, 0, 1, []), (769, .bipush 110, 2, 0, 0, 0, 0, 110, []), (771, .castore, 1, 0, 0, 0, 0, 0, []), (772, .dup, 1, 0, 0, 0, 0, 0, []), (773, .iconst 2, 1, 0, 0, 0, 0, 2, []),
  (774, .bipush 100, 2, 0, 0, 0, 0, 100, []), (776, .castore, 1, 0, 0, 0, 0, 0, []), (777, .putfield 93, 3, 6, 34, 3, 2263, 0, []), (780, .aload_n 0, 1, 0, 0, 0, 0, 0, []), (781, .iconst 3, 1, 0, 0, 0, 0, 3, []), (782, .newarray .char, 2, 4, 0, 0, 0, 0, []),
  (784, .dup, 1, 0, 0, 0, 0, 0, []), (785, .iconst 0, 1, 0, 0, 0, 0, 0, []), (786, .bipush 110, 2, 0, 0, 0, 0, 110, []), (788, .castore, 1, 0, 0, 0, 0, 0, []), (789, .dup, 1, 0, 0, 0, 0, 0, []), (790, .iconst 1, 1, 0, 0, 0, 0, 1, []),
  (791, .bipush 111, 2, 0, 0, 0, 0, 111, []), (793, .castore, 1, 0, 0, 0, 0, 0, []), (794, .dup, 1, 0, 0, 0, 0, 0, []), (795, .iconst 2, 1, 0, 0, 0, 0, 2, []), (796, .bipush 116, 2, 0, 0, 0, 0, 116, []), (798, .castore, 1, 0, 0, 0, 0, 0, []),
  (799, .putfield 96, 3, 6, 35, 3, 2264, 0, []), (802, .aload_n 0, 1, 0, 0, 0, 0, 0, []), (803, .iconst 3, 1, 0, 0, 0, 0, 3, []), (804, .newarray .char, 2, 4, 0, 0, 0, 0, []), (806, .dup, 1, 0, 0, 0, 0, 0, []), (807, .iconst 0, 1, 0, 0, 0, 0, 0, []),
  (808, .bipush 97, 2, 0, 0, 0, 0, 97, []), (810, .castore, 1, 0, 0, 0, 0, 0, []), (811, .dup, 1, 0, 0, 0, 0, 0, []), (812, .iconst 1, 1, 0, 0, 0, 0, 1, []), (813, .bipush 108, 2, 0, 0, 0, 0, 108, []), (815, .castore, 1, 0, 0, 0, 0, 0, []),
  (816, .dup, 1, 0, 0, 0, 0, 0, []), (817, .iconst 2, 1, 0, 0, 0, 0, 2, []), (818, .bipush 108, 2, 0, 0, 0, 0, 108, []), (820, .castore, 1, 0, 0, 0, 0, 0, [])]
noncomputable def am_c126_6 : List (Nat × am_E) := [(821, .putfield 99, 3, 6, 36, 3, 2265, 0, []), (824, .aload_n 0, 1, 0, 0, 0, 0, 0, []), (825, .iconst 3, 1, 0, 0, 0, 0, 3, []), (826, .newarray .char, 2, 4, 0, 0, 0, 0, []), (828, .dup, 1, 0, 0, 0, 0, 0, []), (829, .iconst 0, 1, 0, 0, 0, 0, 0, []),
  (830, .bipush 109, 2, 0, 0, 0, 0, 109, []), (832, .castore, 1, 0, 0, 0, 0, 0, []), (833, .dup, 1, 0, 0, 0, 0, 0, []), (834, .iconst 1, 1, 0, 0, 0, 0, 1, []), (835, .bipush 105, 2, 0, 0, 0, 0, 105, []), (837, .castore, 1, 0, 0, 0, 0, 0, []),
  (838, .dup, 1, 0, 0, 0, 0, 0, []), (839, .iconst 2, 1, 0, 0, 0, 0, 2, []), (840, .bipush 110, 2, 0, 0, 0, 0, 110, []), (842, .castore, 1, 0, 0, 0, 0, 0, []), (843, .putfield 102, 3, 6, 37, 3, 2266, 0, []), (846, .aload_n 0, 1, 0, 0, 0, 0, 0, []),
  (847, .iconst 3, 1, 0, 0, 0, 0, 3, []), (848, .newarray .char, 2, 4, 0, 0, 0, 0, []), (850, .dup, 1, 0, 0, 0, 0, 0, []), (851, .iconst 0, 1, 0, 0, 0, 0, 0, []), (852, .bipush 109, 2, 0, 0, 0, 0, 109, []), (854, .castore, 1, 0, 0, 0, 0, 0, []),
  (855, .dup, 1, 0, 0, 0, 0, 0, []), (856, .iconst 1, 1, 0, 0, 0, 0, 1, []), (857, .bipush 97, 2, 0, 0, 0, 0, 97, []), (859, .castore, 1, 0, 0, 0, 0, 0, []), (860, .dup, 1, 0, 0, 0, 0, 0, []), (861, .iconst 2, 1, 0, 0, 0, 0, 2, []),
  (862, .bipush 120, 2, 0, 0, 0, 0, 120, []), (864, .castore, 1, 0, 0, 0, 0, 0, []), (865, .putfield 105, 3, 6, 38, 3, 2267, 0, []), (868, .aload_n 0, 1, 0, 0, 0, 0, 0, []), (869, .bipush 6, 2, 0, 0, 0, 0, 6, []), (871, .newarray .int, 2, 2, 0, 0, 0, 0, []),
  (873, .putfield 108, 3, 6, 40, 3, 2269, 0, []), (876, .aload_n 0, 1, 0, 0, 0, 0, 0, []), (877, .bipush 48, 2, 0, 0, 0, 0, 48, []), (879, .newarray .long, 2, 3, 0, 0, 0, 0, []), (881, .putfield 111, 3, 6, 41, 3, 2270, 0, []), (884, .aload_n 0, 1, 0, 0, 0, 0, 0, []),
  (885, .bipush 16, 2, 0, 0, 0, 0, 16, []), (887, .newarray .int, 2, 2, 0, 0, 0, 0, []), (889, .putfield 115, 3, 6, 42, 3, 2271, 0, []), (892, .aload_n 0, 1, 0, 0, 0, 0, 0, []), (893, .bipush 96, 2, 0, 0, 0, 0, 96, []), (895, .newarray .int, 2, 2, 0, 0, 0, 0, []),
  (897, .putfield 118, 3, 6, 43, 3, 2272, 0, []), (900, .aload_n 0, 1, 0, 0, 0, 0, 0, []), (901, .bipush 20, 2, 0, 0, 0, 0, 20, []), (903, .newarray .int, 2, 2, 0, 0, 0, 0, []), (905, .putfield 121, 3, 6, 44, 3, 2273, 0, []), (908, .aload_n 0, 1, 0, 0, 0, 0, 0, []),
  (909, .bipush 60, 2, 0, 0, 0, 0, 60, []), (911, .newarray .int, 2, 2, 0, 0, 0, 0, []), (913, .putfield 124, 3, 6, 45, 3, 2274, 0, []), (916, .aload_n 0, 1, 0, 0, 0, 0, 0, []), (917, .bipush 8, 2, 0, 0, 0, 0, 8, []), (919, .newarray .int, 2, 2, 0, 0, 0, 0, []),
  (921, .dup, 1, 0, 0, 0, 0, 0, []), (922, .iconst 0, 1, 0, 0, 0, 0, 0, []), (923, .iconst 5, 1, 0, 0, 0, 0, 5, []), (924, .iastore, 1, 0, 0, 0, 0, 0, []), (925, .dup, 1, 0, 0, 0, 0, 0, []), (926, .iconst 1, 1, 0, 0, 0, 0, 1, []),
  (927, .iconst 0, 1, 0, 0, 0, 0, 0, []), (928, .iastore, 1, 0, 0, 0, 0, 0, []), (929, .dup, 1, 0, 0, 0, 0, 0, []), (930, .iconst 2, 1, 0, 0, 0, 0, 2, []), (931, .iconst 0, 1, 0, 0, 0, 0, 0, []), (932, .iastore, 1, 0, 0, 0, 0, 0, []),
  (933, .dup, 1, 0, 0, 0, 0, 0, []), (934, .iconst 3, 1, 0, 0, 0, 0, 3, []), (935, .iconst 0, 1, 0, 0, 0, 0, 0, []), (936, .iastore, 1, 0, 0, 0, 0, 0, []), (937, .dup, 1, 0, 0, 0, 0, 0, []), (938, .iconst 4, 1, 0, 0, 0, 0, 4, []),
  (939, .iconst 5, 1, 0, 0, 0, 0, 5, []), (940, .iastore, 1, 0, 0, 0, 0, 0, []), (941, .dup, 1, 0, 0, 0, 0, 0, []), (942, .iconst 5, 1, 0, 0, 0, 0, 5, []), (943, .iconst 0, 1, 0, 0, 0, 0, 0, []), (944, .iastore, 1, 0, 0, 0, 0, 0, []),
  (945, .dup, 1, 0, 0, 0, 0, 0, []), (946, .bipush 6, 2, 0, 0, 0, 0, 6, []), (948, .iconst 0, 1, 0, 0, 0, 0, 0, []), (949, .iastore, 1, 0, 0, 0, 0, 0, []), (950, .dup, 1, 0, 0, 0, 0, 0, []), (951, .bipush 7, 2, 0, 0, 0, 0, 7, []),
  (953, .iconst 0, 1, 0, 0, 0, 0, 0, []), (954, .iastore, 1, 0, 0, 0, 0, 0, []), (955, .putfield 127, 3, 6, 47, 3, 2276, 0, []), (958, .aload_n 0, 1, 0, 0, 0, 0, 0, []), (959, .bipush 6, 2, 0, 0, 0, 0, 6, []), (961, .newarray .int, 2, 2, 0, 0, 0, 0, []),
  (963, .dup, 1, 0, 0, 0, 0, 0, []), (964, .iconst 0, 1, 0, 0, 0, 0, 0, []), (965, .iconst (-1), 1, 0, 0, 0, 0, (-1), []), (966, .iastore, 1, 0, 0, 0, 0, 0, [])]
noncomputable def am_c126_7 : List (Nat × am_E) := [(967, .dup, 1, 0, 0, 0, 0, 0, []), (968, .iconst 1, 1, 0, 0, 0, 0, 1, []), (969, .iconst (-1), 1, 0, 0, 0, 0, (-1), []), (970, .iastore, 1, 0, 0, 0, 0, 0, []), (971, .dup, 1, 0, 0, 0, 0, 0, []), (972, .iconst 2, 1, 0, 0, 0, 0, 2, []),
  (973, .iconst (-1), 1, 0, 0, 0, 0, (-1), []), (974, .iastore, 1, 0, 0, 0, 0, 0, []), (975, .dup, 1, 0, 0, 0, 0, 0, []), (976, .iconst 3, 1, 0, 0, 0, 0, 3, []), (977, .iconst (-1), 1, 0, 0, 0, 0, (-1), []), (978, .iastore, 1, 0, 0, 0, 0, 0, []),
  (979, .dup, 1, 0, 0, 0, 0, 0, []), (980, .iconst 4, 1, 0, 0, 0, 0, 4, []), (981, .iconst (-1), 1, 0, 0, 0, 0, (-1), []), (982, .iastore, 1, 0, 0, 0, 0, 0, []), (983, .dup, 1, 0, 0, 0, 0, 0, []), (984, .iconst 5, 1, 0, 0, 0, 0, 5, []),
  (985, .iconst (-1), 1, 0, 0, 0, 0, (-1), []), (986, .iastore, 1, 0, 0, 0, 0, 0, []), (987, .putfield 130, 3, 6, 48, 3, 2277, 0, []), (990, .aload_n 0, 1, 0, 0, 0, 0, 0, []), (991, .bipush 6, 2, 0, 0, 0, 0, 6, []), (993, .newarray .int, 2, 2, 0, 0, 0, 0, []),
  (995, .putfield 133, 3, 6, 49, 3, 2278, 0, []), (998, .aload_n 0, 1, 0, 0, 0, 0, 0, []), (999, .sipush 3200, 3, 0, 0, 0, 0, 3200, []), (1002, .newarray .int, 2, 2, 0, 0, 0, 0, []), (1004, .putfield 136, 3, 6, 50, 3, 2279, 0, []), (1007, .aload_n 0, 1, 0, 0, 0, 0, 0, []),
  (1008, .sipush 257, 3, 0, 0, 0, 0, 257, []), (1011, .newarray .int, 2, 2, 0, 0, 0, 0, []), (1013, .putfield 139, 3, 6, 54, 3, 2283, 0, []), (1016, .aload_n 0, 1, 0, 0, 0, 0, 0, []), (1017, .bipush 96, 2, 0, 0, 0, 0, 96, []), (1019, .newarray .int, 2, 2, 0, 0, 0, 0, []),
  (1021, .putfield 142, 3, 6, 55, 3, 2284, 0, []), (1024, .aload_n 0, 1, 0, 0, 0, 0, 0, []), (1025, .iconst 5, 1, 0, 0, 0, 0, 5, []), (1026, .newarray .int, 2, 2, 0, 0, 0, 0, []), (1028, .putfield 145, 3, 6, 61, 3, 2562, 0, []), (1031, .aload_n 0, 1, 0, 0, 0, 0, 0, []),
  (1032, .iconst 5, 1, 0, 0, 0, 0, 5, []), (1033, .newarray .long, 2, 3, 0, 0, 0, 0, []), (1035, .putfield 148, 3, 6, 62, 3, 2563, 0, []), (1038, .aload_n 0, 1, 0, 0, 0, 0, 0, []), (1039, .iconst 5, 1, 0, 0, 0, 0, 5, []), (1040, .newarray .int, 2, 2, 0, 0, 0, 0, []),
  (1042, .putfield 151, 3, 6, 63, 3, 2564, 0, []), (1045, .aload_n 0, 1, 0, 0, 0, 0, 0, []), (1046, .sipush 160, 3, 0, 0, 0, 0, 160, []), (1049, .newarray .long, 2, 3, 0, 0, 0, 0, []), (1051, .putfield 154, 3, 6, 64, 3, 2565, 0, []), (1054, .aload_n 0, 1, 0, 0, 0, 0, 0, []),
  (1055, .bipush 48, 2, 0, 0, 0, 0, 48, []), (1057, .newarray .int, 2, 2, 0, 0, 0, 0, []), (1059, .putfield 157, 3, 6, 66, 3, 2567, 0, []), (1062, .aload_n 0, 1, 0, 0, 0, 0, 0, []), (1063, .sipush 5140, 3, 0, 0, 0, 0, 5140, []), (1066, .newarray .int, 2, 2, 0, 0, 0, 0, []),
  (1068, .putfield 160, 3, 6, 67, 3, 2568, 0, []), (1071, .aload_n 0, 1, 0, 0, 0, 0, 0, []), (1072, .lconst 1, 1, 0, 0, 0, 0, 1, []), (1073, .putfield 163, 3, 6, 70, 2, 2571, 0, []), (1076, .aload_n 0, 1, 0, 0, 0, 0, 0, []), (1077, .iconst 5, 1, 0, 0, 0, 0, 5, []),
  (1078, .newarray .char, 2, 4, 0, 0, 0, 0, []), (1080, .dup, 1, 0, 0, 0, 0, 0, []), (1081, .iconst 0, 1, 0, 0, 0, 0, 0, []), (1082, .bipush 102, 2, 0, 0, 0, 0, 102, []), (1084, .castore, 1, 0, 0, 0, 0, 0, []), (1085, .dup, 1, 0, 0, 0, 0, 0, []),
  (1086, .iconst 1, 1, 0, 0, 0, 0, 1, []), (1087, .bipush 105, 2, 0, 0, 0, 0, 105, []), (1089, .castore, 1, 0, 0, 0, 0, 0, []), (1090, .dup, 1, 0, 0, 0, 0, 0, []), (1091, .iconst 2, 1, 0, 0, 0, 0, 2, []), (1092, .bipush 114, 2, 0, 0, 0, 0, 114, []),
  (1094, .castore, 1, 0, 0, 0, 0, 0, []), (1095, .dup, 1, 0, 0, 0, 0, 0, []), (1096, .iconst 3, 1, 0, 0, 0, 0, 3, []), (1097, .bipush 115, 2, 0, 0, 0, 0, 115, []), (1099, .castore, 1, 0, 0, 0, 0, 0, []), (1100, .dup, 1, 0, 0, 0, 0, 0, []),
  (1101, .iconst 4, 1, 0, 0, 0, 0, 4, []), (1102, .bipush 116, 2, 0, 0, 0, 0, 116, []), (1104, .castore, 1, 0, 0, 0, 0, 0, []), (1105, .putfield 167, 3, 6, 71, 3, 2572, 0, []), (1108, .aload_n 0, 1, 0, 0, 0, 0, 0, []), (1109, .iconst 4, 1, 0, 0, 0, 0, 4, []),
  (1110, .newarray .char, 2, 4, 0, 0, 0, 0, []), (1112, .dup, 1, 0, 0, 0, 0, 0, []), (1113, .iconst 0, 1, 0, 0, 0, 0, 0, []), (1114, .bipush 108, 2, 0, 0, 0, 0, 108, []), (1116, .castore, 1, 0, 0, 0, 0, 0, []), (1117, .dup, 1, 0, 0, 0, 0, 0, []),
  (1118, .iconst 1, 1, 0, 0, 0, 0, 1, []), (1119, .bipush 97, 2, 0, 0, 0, 0, 97, []), (1121, .castore, 1, 0, 0, 0, 0, 0, []), (1122, .dup, 1, 0, 0, 0, 0, 0, [])]
noncomputable def am_c126_8 : List (Nat × am_E) := [(1123, .iconst 2, 1, 0, 0, 0, 0, 2, []), (1124, .bipush 115, 2, 0, 0, 0, 0, 115, []), (1126, .castore, 1, 0, 0, 0, 0, 0, []), (1127, .dup, 1, 0, 0, 0, 0, 0, []), (1128, .iconst 3, 1, 0, 0, 0, 0, 3, []), (1129, .bipush 116, 2, 0, 0, 0, 0, 116, []),
  (1131, .castore, 1, 0, 0, 0, 0, 0, []), (1132, .putfield 170, 3, 6, 72, 3, 2573, 0, []), (1135, .aload_n 0, 1, 0, 0, 0, 0, 0, []), (1136, .iconst 5, 1, 0, 0, 0, 0, 5, []), (1137, .newarray .char, 2, 4, 0, 0, 0, 0, []), (1139, .dup, 1, 0, 0, 0, 0, 0, []),
  (1140, .iconst 0, 1, 0, 0, 0, 0, 0, []), (1141, .bipush 111, 2, 0, 0, 0, 0, 111, []), (1143, .castore, 1, 0, 0, 0, 0, 0, []), (1144, .dup, 1, 0, 0, 0, 0, 0, []), (1145, .iconst 1, 1, 0, 0, 0, 0, 1, []), (1146, .bipush 102, 2, 0, 0, 0, 0, 102, []),
  (1148, .castore, 1, 0, 0, 0, 0, 0, []), (1149, .dup, 1, 0, 0, 0, 0, 0, []), (1150, .iconst 2, 1, 0, 0, 0, 0, 2, []), (1151, .bipush 116, 2, 0, 0, 0, 0, 116, []), (1153, .castore, 1, 0, 0, 0, 0, 0, []), (1154, .dup, 1, 0, 0, 0, 0, 0, []),
  (1155, .iconst 3, 1, 0, 0, 0, 0, 3, []), (1156, .bipush 101, 2, 0, 0, 0, 0, 101, []), (1158, .castore, 1, 0, 0, 0, 0, 0, []), (1159, .dup, 1, 0, 0, 0, 0, 0, []), (1160, .iconst 4, 1, 0, 0, 0, 0, 4, []), (1161, .bipush 110, 2, 0, 0, 0, 0, 110, []),
  (1163, .castore, 1, 0, 0, 0, 0, 0, []), (1164, .putfield 173, 3, 6, 73, 3, 2574, 0, []), (1167, .aload_n 0, 1, 0, 0, 0, 0, 0, []), (1168, .iconst 5, 1, 0, 0, 0, 0, 5, []), (1169, .newarray .char, 2, 4, 0, 0, 0, 0, []), (1171, .dup, 1, 0, 0, 0, 0, 0, []),
  (1172, .iconst 0, 1, 0, 0, 0, 0, 0, []), (1173, .bipush 116, 2, 0, 0, 0, 0, 116, []), (1175, .castore, 1, 0, 0, 0, 0, 0, []), (1176, .dup, 1, 0, 0, 0, 0, 0, []), (1177, .iconst 1, 1, 0, 0, 0, 0, 1, []), (1178, .bipush 111, 2, 0, 0, 0, 0, 111, []),
  (1180, .castore, 1, 0, 0, 0, 0, 0, []), (1181, .dup, 1, 0, 0, 0, 0, 0, []), (1182, .iconst 2, 1, 0, 0, 0, 0, 2, []), (1183, .bipush 116, 2, 0, 0, 0, 0, 116, []), (1185, .castore, 1, 0, 0, 0, 0, 0, []), (1186, .dup, 1, 0, 0, 0, 0, 0, []),
  (1187, .iconst 3, 1, 0, 0, 0, 0, 3, []), (1188, .bipush 97, 2, 0, 0, 0, 0, 97, []), (1190, .castore, 1, 0, 0, 0, 0, 0, []), (1191, .dup, 1, 0, 0, 0, 0, 0, []), (1192, .iconst 4, 1, 0, 0, 0, 0, 4, []), (1193, .bipush 108, 2, 0, 0, 0, 0, 108, []),
  (1195, .castore, 1, 0, 0, 0, 0, 0, []), (1196, .putfield 176, 3, 6, 74, 3, 2575, 0, []), (1199, .aload_n 0, 1, 0, 0, 0, 0, 0, []), (1200, .iconst 4, 1, 0, 0, 0, 0, 4, []), (1201, .newarray .char, 2, 4, 0, 0, 0, 0, []), (1203, .dup, 1, 0, 0, 0, 0, 0, []),
  (1204, .iconst 0, 1, 0, 0, 0, 0, 0, []), (1205, .bipush 109, 2, 0, 0, 0, 0, 109, []), (1207, .castore, 1, 0, 0, 0, 0, 0, []), (1208, .dup, 1, 0, 0, 0, 0, 0, []), (1209, .iconst 1, 1, 0, 0, 0, 0, 1, []), (1210, .bipush 111, 2, 0, 0, 0, 0, 111, []),
  (1212, .castore, 1, 0, 0, 0, 0, 0, []), (1213, .dup, 1, 0, 0, 0, 0, 0, []), (1214, .iconst 2, 1, 0, 0, 0, 0, 2, []), (1215, .bipush 115, 2, 0, 0, 0, 0, 115, []), (1217, .castore, 1, 0, 0, 0, 0, 0, []), (1218, .dup, 1, 0, 0, 0, 0, 0, []),
  (1219, .iconst 3, 1, 0, 0, 0, 0, 3, []), (1220, .bipush 116, 2, 0, 0, 0, 0, 116, []), (1222, .castore, 1, 0, 0, 0, 0, 0, []), (1223, .putfield 179, 3, 6, 75, 3, 2576, 0, []), (1226, .aload_n 0, 1, 0, 0, 0, 0, 0, []), (1227, .iconst 5, 1, 0, 0, 0, 0, 5, []),
  (1228, .newarray .char, 2, 4, 0, 0, 0, 0, []), (1230, .dup, 1, 0, 0, 0, 0, 0, []), (1231, .iconst 0, 1, 0, 0, 0, 0, 0, []), (1232, .bipush 108, 2, 0, 0, 0, 0, 108, []), (1234, .castore, 1, 0, 0, 0, 0, 0, []), (1235, .dup, 1, 0, 0, 0, 0, 0, []),
  (1236, .iconst 1, 1, 0, 0, 0, 0, 1, []), (1237, .bipush 101, 2, 0, 0, 0, 0, 101, []), (1239, .castore, 1, 0, 0, 0, 0, 0, []), (1240, .dup, 1, 0, 0, 0, 0, 0, []), (1241, .iconst 2, 1, 0, 0, 0, 0, 2, []), (1242, .bipush 97, 2, 0, 0, 0, 0, 97, []),
  (1244, .castore, 1, 0, 0, 0, 0, 0, []), (1245, .dup, 1, 0, 0, 0, 0, 0, []), (1246, .iconst 3, 1, 0, 0, 0, 0, 3, []), (1247, .bipush 115, 2, 0, 0, 0, 0, 115, []), (1249, .castore, 1, 0, 0, 0, 0, 0, []), (1250, .dup, 1, 0, 0, 0, 0, 0, []),
  (1251, .iconst 4, 1, 0, 0, 0, 0, 4, []), (1252, .bipush 116, 2, 0, 0, 0, 0, 116, []), (1254, .castore, 1, 0, 0, 0, 0, 0, []), (1255, .putfield 182, 3, 6, 76, 3, 2577, 0, [])]
noncomputable def am_c126_9 : List (Nat × am_E) := [(1258, .aload_n 0, 1, 0, 0, 0, 0, 0, []), (1259, .iconst 3, 1, 0, 0, 0, 0, 3, []), (1260, .newarray .char, 2, 4, 0, 0, 0, 0, []), (1262, .dup, 1, 0, 0, 0, 0, 0, []), (1263, .iconst 0, 1, 0, 0, 0, 0, 0, []), (1264, .bipush 110, 2, 0, 0, 0, 0, 110, []),
  (1266, .castore, 1, 0, 0, 0, 0, 0, []), (1267, .dup, 1, 0, 0, 0, 0, 0, []), (1268, .iconst 1, 1, 0, 0, 0, 0, 1, []), (1269, .bipush 111, 2, 0, 0, 0, 0, 111, []), (1271, .castore, 1, 0, 0, 0, 0, 0, []), (1272, .dup, 1, 0, 0, 0, 0, 0, []),
  (1273, .iconst 2, 1, 0, 0, 0, 0, 2, []), (1274, .bipush 116, 2, 0, 0, 0, 0, 116, []), (1276, .castore, 1, 0, 0, 0, 0, 0, []), (1277, .putfield 185, 3, 6, 77, 3, 2578, 0, []), (1280, .aload_n 0, 1, 0, 0, 0, 0, 0, []), (1281, .iconst 3, 1, 0, 0, 0, 0, 3, []),
  (1282, .newarray .char, 2, 4, 0, 0, 0, 0, []), (1284, .dup, 1, 0, 0, 0, 0, 0, []), (1285, .iconst 0, 1, 0, 0, 0, 0, 0, []), (1286, .bipush 97, 2, 0, 0, 0, 0, 97, []), (1288, .castore, 1, 0, 0, 0, 0, 0, []), (1289, .dup, 1, 0, 0, 0, 0, 0, []),
  (1290, .iconst 1, 1, 0, 0, 0, 0, 1, []), (1291, .bipush 110, 2, 0, 0, 0, 0, 110, []), (1293, .castore, 1, 0, 0, 0, 0, 0, []), (1294, .dup, 1, 0, 0, 0, 0, 0, []), (1295, .iconst 2, 1, 0, 0, 0, 0, 2, []), (1296, .bipush 100, 2, 0, 0, 0, 0, 100, []),
  (1298, .castore, 1, 0, 0, 0, 0, 0, []), (1299, .putfield 188, 3, 6, 78, 3, 2579, 0, []), (1302, .aload_n 0, 1, 0, 0, 0, 0, 0, []), (1303, .iconst 2, 1, 0, 0, 0, 0, 2, []), (1304, .newarray .char, 2, 4, 0, 0, 0, 0, []), (1306, .dup, 1, 0, 0, 0, 0, 0, []),
  (1307, .iconst 0, 1, 0, 0, 0, 0, 0, []), (1308, .bipush 111, 2, 0, 0, 0, 0, 111, []), (1310, .castore, 1, 0, 0, 0, 0, 0, []), (1311, .dup, 1, 0, 0, 0, 0, 0, []), (1312, .iconst 1, 1, 0, 0, 0, 0, 1, []), (1313, .bipush 114, 2, 0, 0, 0, 0, 114, []),
  (1315, .castore, 1, 0, 0, 0, 0, 0, []), (1316, .putfield 191, 3, 6, 79, 3, 2580, 0, []), (1319, .aload_n 0, 1, 0, 0, 0, 0, 0, []), (1320, .iconst 3, 1, 0, 0, 0, 0, 3, []), (1321, .newarray .char, 2, 4, 0, 0, 0, 0, []), (1323, .dup, 1, 0, 0, 0, 0, 0, []),
  (1324, .iconst 0, 1, 0, 0, 0, 0, 0, []), (1325, .bipush 97, 2, 0, 0, 0, 0, 97, []), (1327, .castore, 1, 0, 0, 0, 0, 0, []), (1328, .dup, 1, 0, 0, 0, 0, 0, []), (1329, .iconst 1, 1, 0, 0, 0, 0, 1, []), (1330, .bipush 108, 2, 0, 0, 0, 0, 108, []),
  (1332, .castore, 1, 0, 0, 0, 0, 0, []), (1333, .dup, 1, 0, 0, 0, 0, 0, []), (1334, .iconst 2, 1, 0, 0, 0, 0, 2, []), (1335, .bipush 108, 2, 0, 0, 0, 0, 108, []), (1337, .castore, 1, 0, 0, 0, 0, 0, []), (1338, .putfield 194, 3, 6, 80, 3, 2581, 0, []),
  (1341, .aload_n 0, 1, 0, 0, 0, 0, 0, []), (1342, .iconst 3, 1, 0, 0, 0, 0, 3, []), (1343, .newarray .char, 2, 4, 0, 0, 0, 0, []), (1345, .dup, 1, 0, 0, 0, 0, 0, []), (1346, .iconst 0, 1, 0, 0, 0, 0, 0, []), (1347, .bipush 109, 2, 0, 0, 0, 0, 109, []),
  (1349, .castore, 1, 0, 0, 0, 0, 0, []), (1350, .dup, 1, 0, 0, 0, 0, 0, []), (1351, .iconst 1, 1, 0, 0, 0, 0, 1, []), (1352, .bipush 105, 2, 0, 0, 0, 0, 105, []), (1354, .castore, 1, 0, 0, 0, 0, 0, []), (1355, .dup, 1, 0, 0, 0, 0, 0, []),
  (1356, .iconst 2, 1, 0, 0, 0, 0, 2, []), (1357, .bipush 110, 2, 0, 0, 0, 0, 110, []), (1359, .castore, 1, 0, 0, 0, 0, 0, []), (1360, .putfield 197, 3, 6, 81, 3, 2582, 0, []), (1363, .aload_n 0, 1, 0, 0, 0, 0, 0, []), (1364, .iconst 3, 1, 0, 0, 0, 0, 3, []),
  (1365, .newarray .char, 2, 4, 0, 0, 0, 0, []), (1367, .dup, 1, 0, 0, 0, 0, 0, []), (1368, .iconst 0, 1, 0, 0, 0, 0, 0, []), (1369, .bipush 109, 2, 0, 0, 0, 0, 109, []), (1371, .castore, 1, 0, 0, 0, 0, 0, []), (1372, .dup, 1, 0, 0, 0, 0, 0, []),
  (1373, .iconst 1, 1, 0, 0, 0, 0, 1, []), (1374, .bipush 97, 2, 0, 0, 0, 0, 97, []), (1376, .castore, 1, 0, 0, 0, 0, 0, []), (1377, .dup, 1, 0, 0, 0, 0, 0, []), (1378, .iconst 2, 1, 0, 0, 0, 0, 2, []), (1379, .bipush 120, 2, 0, 0, 0, 0, 120, []),
  (1381, .castore, 1, 0, 0, 0, 0, 0, []), (1382, .putfield 200, 3, 6, 82, 3, 2583, 0, []), (1385, .aload_n 0, 1, 0, 0, 0, 0, 0, []), (1386, .iconst 4, 1, 0, 0, 0, 0, 4, []), (1387, .newarray .char, 2, 4, 0, 0, 0, 0, []), (1389, .dup, 1, 0, 0, 0, 0, 0, []),
  (1390, .iconst 0, 1, 0, 0, 0, 0, 0, []), (1391, .bipush 104, 2, 0, 0, 0, 0, 104, []), (1393, .castore, 1, 0, 0, 0, 0, 0, []), (1394, .dup, 1, 0, 0, 0, 0, 0, [])]
noncomputable def am_c126_10 : List (Nat × am_E) := [(1395, .iconst 1, 1, 0, 0, 0, 0, 1, []), (1396, .bipush 111, 2, 0, 0, 0, 0, 111, []), (1398, .castore, 1, 0, 0, 0, 0, 0, []), (1399, .dup, 1, 0, 0, 0, 0, 0, []), (1400, .iconst 2, 1, 0, 0, 0, 0, 2, []), (1401, .bipush 117, 2, 0, 0, 0, 0, 117, []),
  (1403, .castore, 1, 0, 0, 0, 0, 0, []), (1404, .dup, 1, 0, 0, 0, 0, 0, []), (1405, .iconst 3, 1, 0, 0, 0, 0, 3, []), (1406, .bipush 114, 2, 0, 0, 0, 0, 114, []), (1408, .castore, 1, 0, 0, 0, 0, 0, []), (1409, .putfield 203, 3, 6, 83, 3, 2584, 0, []),
  (1412, .aload_n 0, 1, 0, 0, 0, 0, 0, []), (1413, .iconst 5, 1, 0, 0, 0, 0, 5, []), (1414, .newarray .char, 2, 4, 0, 0, 0, 0, []), (1416, .dup, 1, 0, 0, 0, 0, 0, []), (1417, .iconst 0, 1, 0, 0, 0, 0, 0, []), (1418, .bipush 116, 2, 0, 0, 0, 0, 116, []),
  (1420, .castore, 1, 0, 0, 0, 0, 0, []), (1421, .dup, 1, 0, 0, 0, 0, 0, []), (1422, .iconst 1, 1, 0, 0, 0, 0, 1, []), (1423, .bipush 97, 2, 0, 0, 0, 0, 97, []), (1425, .castore, 1, 0, 0, 0, 0, 0, []), (1426, .dup, 1, 0, 0, 0, 0, 0, []),
  (1427, .iconst 2, 1, 0, 0, 0, 0, 2, []), (1428, .bipush 115, 2, 0, 0, 0, 0, 115, []), (1430, .castore, 1, 0, 0, 0, 0, 0, []), (1431, .dup, 1, 0, 0, 0, 0, 0, []), (1432, .iconst 3, 1, 0, 0, 0, 0, 3, []), (1433, .bipush 116, 2, 0, 0, 0, 0, 116, []),
  (1435, .castore, 1, 0, 0, 0, 0, 0, []), (1436, .dup, 1, 0, 0, 0, 0, 0, []), (1437, .iconst 4, 1, 0, 0, 0, 0, 4, []), (1438, .bipush 101, 2, 0, 0, 0, 0, 101, []), (1440, .castore, 1, 0, 0, 0, 0, 0, []), (1441, .putfield 206, 3, 6, 84, 3, 2585, 0, []),
  (1444, .aload_n 0, 1, 0, 0, 0, 0, 0, []), (1445, .bipush 6, 2, 0, 0, 0, 0, 6, []), (1447, .newarray .char, 2, 4, 0, 0, 0, 0, []), (1449, .dup, 1, 0, 0, 0, 0, 0, []), (1450, .iconst 0, 1, 0, 0, 0, 0, 0, []), (1451, .bipush 119, 2, 0, 0, 0, 0, 119, []),
  (1453, .castore, 1, 0, 0, 0, 0, 0, []), (1454, .dup, 1, 0, 0, 0, 0, 0, []), (1455, .iconst 1, 1, 0, 0, 0, 0, 1, []), (1456, .bipush 101, 2, 0, 0, 0, 0, 101, []), (1458, .castore, 1, 0, 0, 0, 0, 0, []), (1459, .dup, 1, 0, 0, 0, 0, 0, []),
  (1460, .iconst 2, 1, 0, 0, 0, 0, 2, []), (1461, .bipush 105, 2, 0, 0, 0, 0, 105, []), (1463, .castore, 1, 0, 0, 0, 0, 0, []), (1464, .dup, 1, 0, 0, 0, 0, 0, []), (1465, .iconst 3, 1, 0, 0, 0, 0, 3, []), (1466, .bipush 103, 2, 0, 0, 0, 0, 103, []),
  (1468, .castore, 1, 0, 0, 0, 0, 0, []), (1469, .dup, 1, 0, 0, 0, 0, 0, []), (1470, .iconst 4, 1, 0, 0, 0, 0, 4, []), (1471, .bipush 104, 2, 0, 0, 0, 0, 104, []), (1473, .castore, 1, 0, 0, 0, 0, 0, []), (1474, .dup, 1, 0, 0, 0, 0, 0, []),
  (1475, .iconst 5, 1, 0, 0, 0, 0, 5, []), (1476, .bipush 116, 2, 0, 0, 0, 0, 116, []), (1478, .castore, 1, 0, 0, 0, 0, 0, []), (1479, .putfield 209, 3, 6, 85, 3, 2586, 0, []), (1482, .aload_n 0, 1, 0, 0, 0, 0, 0, []), (1483, .iconst 5, 1, 0, 0, 0, 0, 5, []),
  (1484, .newarray .char, 2, 4, 0, 0, 0, 0, []), (1486, .dup, 1, 0, 0, 0, 0, 0, []), (1487, .iconst 0, 1, 0, 0, 0, 0, 0, []), (1488, .bipush 112, 2, 0, 0, 0, 0, 112, []), (1490, .castore, 1, 0, 0, 0, 0, 0, []), (1491, .dup, 1, 0, 0, 0, 0, 0, []),
  (1492, .iconst 1, 1, 0, 0, 0, 0, 1, []), (1493, .bipush 97, 2, 0, 0, 0, 0, 97, []), (1495, .castore, 1, 0, 0, 0, 0, 0, []), (1496, .dup, 1, 0, 0, 0, 0, 0, []), (1497, .iconst 2, 1, 0, 0, 0, 0, 2, []), (1498, .bipush 114, 2, 0, 0, 0, 0, 114, []),
  (1500, .castore, 1, 0, 0, 0, 0, 0, []), (1501, .dup, 1, 0, 0, 0, 0, 0, []), (1502, .iconst 3, 1, 0, 0, 0, 0, 3, []), (1503, .bipush 116, 2, 0, 0, 0, 0, 116, []), (1505, .castore, 1, 0, 0, 0, 0, 0, []), (1506, .dup, 1, 0, 0, 0, 0, 0, []),
  (1507, .iconst 4, 1, 0, 0, 0, 0, 4, []), (1508, .bipush 115, 2, 0, 0, 0, 0, 115, []), (1510, .castore, 1, 0, 0, 0, 0, 0, []), (1511, .putfield 212, 3, 6, 86, 3, 2587, 0, []), (1514, .aload_n 0, 1, 0, 0, 0, 0, 0, []), (1515, .iconst 4, 1, 0, 0, 0, 0, 4, []),
  (1516, .newarray .char, 2, 4, 0, 0, 0, 0, []), (1518, .dup, 1, 0, 0, 0, 0, 0, []), (1519, .iconst 0, 1, 0, 0, 0, 0, 0, []), (1520, .bipush 115, 2, 0, 0, 0, 0, 115, []), (1522, .castore, 1, 0, 0, 0, 0, 0, []), (1523, .dup, 1, 0, 0, 0, 0, 0, []),
  (1524, .iconst 1, 1, 0, 0, 0, 0, 1, []), (1525, .bipush 101, 2, 0, 0, 0, 0, 101, []), (1527, .castore, 1, 0, 0, 0, 0, 0, []), (1528, .dup, 1, 0, 0, 0, 0, 0, [])]
noncomputable def am_c126_11 : List (Nat × am_E) := [(1529, .iconst 2, 1, 0, 0, 0, 0, 2, []), (1530, .bipush 101, 2, 0, 0, 0, 0, 101, []), (1532, .castore, 1, 0, 0, 0, 0, 0, []), (1533, .dup, 1, 0, 0, 0, 0, 0, []), (1534, .iconst 3, 1, 0, 0, 0, 0, 3, []), (1535, .bipush 110, 2, 0, 0, 0, 0, 110, []),
  (1537, .castore, 1, 0, 0, 0, 0, 0, []), (1538, .putfield 215, 3, 6, 87, 3, 2588, 0, []), (1541, .aload_n 0, 1, 0, 0, 0, 0, 0, []), (1542, .iconst 5, 1, 0, 0, 0, 0, 5, []), (1543, .newarray .char, 2, 4, 0, 0, 0, 0, []), (1545, .dup, 1, 0, 0, 0, 0, 0, []),
  (1546, .iconst 0, 1, 0, 0, 0, 0, 0, []), (1547, .bipush 115, 2, 0, 0, 0, 0, 115, []), (1549, .castore, 1, 0, 0, 0, 0, 0, []), (1550, .dup, 1, 0, 0, 0, 0, 0, []), (1551, .iconst 1, 1, 0, 0, 0, 0, 1, []), (1552, .bipush 99, 2, 0, 0, 0, 0, 99, []),
  (1554, .castore, 1, 0, 0, 0, 0, 0, []), (1555, .dup, 1, 0, 0, 0, 0, 0, []), (1556, .iconst 2, 1, 0, 0, 0, 0, 2, []), (1557, .bipush 111, 2, 0, 0, 0, 0, 111, []), (1559, .castore, 1, 0, 0, 0, 0, 0, []), (1560, .dup, 1, 0, 0, 0, 0, 0, []),
  (1561, .iconst 3, 1, 0, 0, 0, 0, 3, []), (1562, .bipush 114, 2, 0, 0, 0, 0, 114, []), (1564, .castore, 1, 0, 0, 0, 0, 0, []), (1565, .dup, 1, 0, 0, 0, 0, 0, []), (1566, .iconst 4, 1, 0, 0, 0, 0, 4, []), (1567, .bipush 101, 2, 0, 0, 0, 0, 101, []),
  (1569, .castore, 1, 0, 0, 0, 0, 0, []), (1570, .putfield 218, 3, 6, 88, 3, 2589, 0, []), (1573, .aload_n 0, 1, 0, 0, 0, 0, 0, []), (1574, .bipush 6, 2, 0, 0, 0, 0, 6, []), (1576, .newarray .char, 2, 4, 0, 0, 0, 0, []), (1578, .dup, 1, 0, 0, 0, 0, 0, []),
  (1579, .iconst 0, 1, 0, 0, 0, 0, 0, []), (1580, .bipush 110, 2, 0, 0, 0, 0, 110, []), (1582, .castore, 1, 0, 0, 0, 0, 0, []), (1583, .dup, 1, 0, 0, 0, 0, 0, []), (1584, .iconst 1, 1, 0, 0, 0, 0, 1, []), (1585, .bipush 117, 2, 0, 0, 0, 0, 117, []),
  (1587, .castore, 1, 0, 0, 0, 0, 0, []), (1588, .dup, 1, 0, 0, 0, 0, 0, []), (1589, .iconst 2, 1, 0, 0, 0, 0, 2, []), (1590, .bipush 109, 2, 0, 0, 0, 0, 109, []), (1592, .castore, 1, 0, 0, 0, 0, 0, []), (1593, .dup, 1, 0, 0, 0, 0, 0, []),
  (1594, .iconst 3, 1, 0, 0, 0, 0, 3, []), (1595, .bipush 98, 2, 0, 0, 0, 0, 98, []), (1597, .castore, 1, 0, 0, 0, 0, 0, []), (1598, .dup, 1, 0, 0, 0, 0, 0, []), (1599, .iconst 4, 1, 0, 0, 0, 0, 4, []), (1600, .bipush 101, 2, 0, 0, 0, 0, 101, []),
  (1602, .castore, 1, 0, 0, 0, 0, 0, []), (1603, .dup, 1, 0, 0, 0, 0, 0, []), (1604, .iconst 5, 1, 0, 0, 0, 0, 5, []), (1605, .bipush 114, 2, 0, 0, 0, 0, 114, []), (1607, .castore, 1, 0, 0, 0, 0, 0, []), (1608, .putfield 221, 3, 6, 89, 3, 2590, 0, []),
  (1611, .aload_n 0, 1, 0, 0, 0, 0, 0, []), (1612, .iconst 5, 1, 0, 0, 0, 0, 5, []), (1613, .newarray .char, 2, 4, 0, 0, 0, 0, []), (1615, .dup, 1, 0, 0, 0, 0, 0, []), (1616, .iconst 0, 1, 0, 0, 0, 0, 0, []), (1617, .bipush 119, 2, 0, 0, 0, 0, 119, []),
  (1619, .castore, 1, 0, 0, 0, 0, 0, []), (1620, .dup, 1, 0, 0, 0, 0, 0, []), (1621, .iconst 1, 1, 0, 0, 0, 0, 1, []), (1622, .bipush 111, 2, 0, 0, 0, 0, 111, []), (1624, .castore, 1, 0, 0, 0, 0, 0, []), (1625, .dup, 1, 0, 0, 0, 0, 0, []),
  (1626, .iconst 2, 1, 0, 0, 0, 0, 2, []), (1627, .bipush 114, 2, 0, 0, 0, 0, 114, []), (1629, .castore, 1, 0, 0, 0, 0, 0, []), (1630, .dup, 1, 0, 0, 0, 0, 0, []), (1631, .iconst 3, 1, 0, 0, 0, 0, 3, []), (1632, .bipush 116, 2, 0, 0, 0, 0, 116, []),
  (1634, .castore, 1, 0, 0, 0, 0, 0, []), (1635, .dup, 1, 0, 0, 0, 0, 0, []), (1636, .iconst 4, 1, 0, 0, 0, 0, 4, []), (1637, .bipush 104, 2, 0, 0, 0, 0, 104, []), (1639, .castore, 1, 0, 0, 0, 0, 0, []), (1640, .putfield 224, 3, 6, 90, 3, 2591, 0, []),
  (1643, .aload_n 0, 1, 0, 0, 0, 0, 0, []), (1644, .sipush 1700, 3, 0, 0, 0, 0, 1700, []), (1647, .newarray .int, 2, 2, 0, 0, 0, 0, []), (1649, .putfield 227, 3, 6, 91, 3, 2592, 0, []), (1652, .aload_n 0, 1, 0, 0, 0, 0, 0, []), (1653, .sipush 1700, 3, 0, 0, 0, 0, 1700, []),
  (1656, .newarray .int, 2, 2, 0, 0, 0, 0, []), (1658, .putfield 230, 3, 6, 93, 3, 2594, 0, []), (1661, .aload_n 0, 1, 0, 0, 0, 0, 0, []), (1662, .sipush 1700, 3, 0, 0, 0, 0, 1700, []), (1665, .newarray .long, 2, 3, 0, 0, 0, 0, []), (1667, .putfield 233, 3, 6, 97, 3, 2598, 0, []),
  (1670, .aload_n 0, 1, 0, 0, 0, 0, 0, []), (1671, .sipush 139, 3, 0, 0, 0, 0, 139, []), (1674, .newarray .int, 2, 2, 0, 0, 0, 0, []), (1676, .putfield 236, 3, 6, 101, 3, 2602, 0, [])]
noncomputable def am_c126_12 : List (Nat × am_E) := [(1679, .return_, 1, 0, 0, 0, 0, 0, [])]
noncomputable def am_c126 : List (Nat × am_E) := am_c126_0 ++ (am_c126_1 ++ (am_c126_2 ++ (am_c126_3 ++ (am_c126_4 ++ (am_c126_5 ++ (am_c126_6 ++ (am_c126_7 ++ (am_c126_8 ++ (am_c126_9 ++ (am_c126_10 ++ (am_c126_11 ++ (am_c126_12))))))))))))
noncomputable def am_s127 : am_S := (yX6_isIn, cX6_isIn, 6, (some .boolean), 0, 4, 3, 6, 3166, 3165, 0, 523)
noncomputable def am_c127 : List (Nat × am_E) := [(0, .lload_n 0, 1, 0, 0, 0, 0, 0, []), (1, .lload_n 2, 1, 2, 0, 0, 0, 0, []), (2, .lcmp, 1, 0, 0, 0, 0, 0, []), (3, .ifCond .lt 14, 3, 17, 0, 0, 0, 0, []), (6, .lload_n 0, 1, 0, 0, 0, 0, 0, []), (7, .lload 4, 2, 4, 0, 0, 0, 0, []),
  (9, .lcmp, 1, 0, 0, 0, 0, 0, []), (10, .ifCond .gt 7, 3, 17, 0, 0, 0, 0, []), (13, .iconst 1, 1, 0, 0, 0, 0, 1, []), (14, .goto 4, 3, 18, 0, 0, 0, 0, []), (17, .iconst 0, 1, 0, 0, 0, 0, 0, []), (18, .ireturn, 1, 0, 0, 4, 0, 0, [])]
noncomputable def am_s128 : am_S := (yX6_feed, cX6_feed, 8, (some .int), 1, 1, 6, 6, 3087, 3085, 3086, 523)
noncomputable def am_c128 : List (Nat × am_E) := [(0, .aload_n 0, 1, 0, 0, 0, 0, 0, []), (1, .getfield 239, 3, 6, 1, 1, 2230, 0, []), (4, .bipush 20, 2, 0, 0, 0, 0, 20, []), (6, .iadd, 1, 0, 0, 0, 0, 0, []), (7, .sipush 1600, 3, 0, 0, 0, 0, 1600, []), (10, .if_icmp .le 15, 3, 25, 0, 0, 0, 0, []),
  (13, .aload_n 0, 1, 0, 0, 0, 0, 0, []), (14, .getfield 17, 3, 6, 9, 3, 2238, 0, []), (17, .iconst 0, 1, 0, 0, 0, 0, 0, []), (18, .dup2, 1, 0, 0, 0, 0, 0, []), (19, .iaload, 1, 0, 0, 0, 0, 0, []), (20, .iconst 1, 1, 0, 0, 0, 0, 1, []),
  (21, .iadd, 1, 0, 0, 0, 0, 0, []), (22, .iastore, 1, 0, 0, 0, 0, 0, []), (23, .iconst (-1), 1, 0, 0, 0, 0, (-1), []), (24, .ireturn, 1, 0, 0, 1, 0, 0, []), (25, .iconst 0, 1, 0, 0, 0, 0, 0, []), (26, .istore 6, 2, 6, 0, 0, 0, 0, []),
  (28, .iload 6, 2, 6, 0, 0, 0, 0, []), (30, .bipush 20, 2, 0, 0, 0, 0, 20, []), (32, .if_icmp .ge 92, 3, 124, 0, 0, 0, 0, []), (35, .iload 6, 2, 6, 0, 0, 0, 0, []), (37, .iconst 4, 1, 0, 0, 0, 0, 4, []), (38, .if_icmp .ge 7, 3, 45, 0, 0, 0, 0, []),
  (41, .iload_n 1, 1, 1, 0, 0, 0, 0, []), (42, .goto 39, 3, 81, 0, 0, 0, 0, []), (45, .iload 6, 2, 6, 0, 0, 0, 0, []), (47, .bipush 8, 2, 0, 0, 0, 0, 8, []), (49, .if_icmp .ge 7, 3, 56, 0, 0, 0, 0, []), (52, .iload_n 2, 1, 2, 0, 0, 0, 0, []),
  (53, .goto 28, 3, 81, 0, 0, 0, 0, []), (56, .iload 6, 2, 6, 0, 0, 0, 0, []), (58, .bipush 12, 2, 0, 0, 0, 0, 12, []), (60, .if_icmp .ge 7, 3, 67, 0, 0, 0, 0, []), (63, .iload_n 3, 1, 3, 0, 0, 0, 0, []), (64, .goto 17, 3, 81, 0, 0, 0, 0, []),
  (67, .iload 6, 2, 6, 0, 0, 0, 0, []), (69, .bipush 16, 2, 0, 0, 0, 0, 16, []), (71, .if_icmp .ge 8, 3, 79, 0, 0, 0, 0, []), (74, .iload 4, 2, 4, 0, 0, 0, 0, []), (76, .goto 5, 3, 81, 0, 0, 0, 0, []), (79, .iload 5, 2, 5, 0, 0, 0, 0, []),
  (81, .istore 7, 2, 7, 0, 0, 0, 0, []), (83, .aload_n 0, 1, 0, 0, 0, 0, 0, []), (84, .getfield 7, 3, 6, 0, 3, 2229, 0, []), (87, .aload_n 0, 1, 0, 0, 0, 0, 0, []), (88, .getfield 239, 3, 6, 1, 1, 2230, 0, []), (91, .iload 7, 2, 7, 0, 0, 0, 0, []),
  (93, .bipush 8, 2, 0, 0, 0, 0, 8, []), (95, .iconst 3, 1, 0, 0, 0, 0, 3, []), (96, .iload 6, 2, 6, 0, 0, 0, 0, []), (98, .iconst 4, 1, 0, 0, 0, 0, 4, []), (99, .irem, 1, 0, 0, 0, 0, 0, []), (100, .isub, 1, 0, 0, 0, 0, 0, []),
  (101, .imul, 1, 0, 0, 0, 0, 0, []), (102, .ishr, 1, 0, 0, 0, 0, 0, []), (103, .sipush 255, 3, 0, 0, 0, 0, 255, []), (106, .iand, 1, 0, 0, 0, 0, 0, []), (107, .iastore, 1, 0, 0, 0, 0, 0, []), (108, .aload_n 0, 1, 0, 0, 0, 0, 0, []),
  (109, .dup, 1, 0, 0, 0, 0, 0, []), (110, .getfield 239, 3, 6, 1, 1, 2230, 0, []), (113, .iconst 1, 1, 0, 0, 0, 0, 1, []), (114, .iadd, 1, 0, 0, 0, 0, 0, []), (115, .putfield 239, 3, 6, 1, 1, 2230, 0, []), (118, .iinc 6 1, 3, 6, 0, 0, 0, 1, []),
  (121, .goto (-93), 3, 28, 0, 0, 0, 0, []), (124, .aload_n 0, 1, 0, 0, 0, 0, 0, []), (125, .getfield 239, 3, 6, 1, 1, 2230, 0, []), (128, .ireturn, 1, 0, 0, 1, 0, 0, [])]
noncomputable def am_s129 : am_S := (yX6_end, cX6_end, 2, (some .boolean), 1, 4, 2, 6, 3091, 3089, 3090, 523)
noncomputable def am_c129 : List (Nat × am_E) := [(0, .iload_n 1, 1, 1, 0, 0, 0, 0, []), (1, .ifCond .lt 11, 3, 12, 0, 0, 0, 0, []), (4, .iload_n 1, 1, 1, 0, 0, 0, 0, []), (5, .aload_n 0, 1, 0, 0, 0, 0, 0, []), (6, .getfield 239, 3, 6, 1, 1, 2230, 0, []), (9, .if_icmp .le 15, 3, 24, 0, 0, 0, 0, []),
  (12, .aload_n 0, 1, 0, 0, 0, 0, 0, []), (13, .getfield 17, 3, 6, 9, 3, 2238, 0, []), (16, .iconst 0, 1, 0, 0, 0, 0, 0, []), (17, .dup2, 1, 0, 0, 0, 0, 0, []), (18, .iaload, 1, 0, 0, 0, 0, 0, []), (19, .iconst 1, 1, 0, 0, 0, 0, 1, []),
  (20, .iadd, 1, 0, 0, 0, 0, 0, []), (21, .iastore, 1, 0, 0, 0, 0, 0, []), (22, .iconst 0, 1, 0, 0, 0, 0, 0, []), (23, .ireturn, 1, 0, 0, 4, 0, 0, []), (24, .aload_n 0, 1, 0, 0, 0, 0, 0, []), (25, .iload_n 1, 1, 1, 0, 0, 0, 0, []),
  (26, .putfield 239, 3, 6, 1, 1, 2230, 0, []), (29, .iconst 1, 1, 0, 0, 0, 0, 1, []), (30, .ireturn, 1, 0, 0, 4, 0, 0, [])]
noncomputable def am_s130 : am_S := (yX6_fail, cX6_fail, 3, none, 1, 0, 3, 6, 3107, 3106, 65, 523)
noncomputable def am_c130 : List (Nat × am_E) := [(0, .aload_n 0, 1, 0, 0, 0, 0, 0, []), (1, .getfield 242, 3, 6, 5, 1, 2234, 0, []), (4, .ifCond .eq 4, 3, 8, 0, 0, 0, 0, []), (7, .return_, 1, 0, 0, 0, 0, 0, []), (8, .aload_n 0, 1, 0, 0, 0, 0, 0, []), (9, .iload_n 1, 1, 1, 0, 0, 0, 0, []),
  (10, .putfield 242, 3, 6, 5, 1, 2234, 0, []), (13, .aload_n 0, 1, 0, 0, 0, 0, 0, []), (14, .iload_n 2, 1, 2, 0, 0, 0, 0, []), (15, .putfield 245, 3, 6, 6, 1, 2235, 0, []), (18, .return_, 1, 0, 0, 0, 0, 0, [])]
noncomputable def am_s131 : am_S := (yX6_isLetter, cX6_isLetter, 1, (some .boolean), 0, 4, 1, 6, 3118, 3117, 0, 523)
noncomputable def am_c131 : List (Nat × am_E) := [(0, .iload_n 0, 1, 0, 0, 0, 0, 0, []), (1, .bipush 97, 2, 0, 0, 0, 0, 97, []), (3, .if_icmp .lt 13, 3, 16, 0, 0, 0, 0, []), (6, .iload_n 0, 1, 0, 0, 0, 0, 0, []), (7, .bipush 122, 2, 0, 0, 0, 0, 122, []), (9, .if_icmp .gt 7, 3, 16, 0, 0, 0, 0, []),
  (12, .iconst 1, 1, 0, 0, 0, 0, 1, []), (13, .goto 4, 3, 17, 0, 0, 0, 0, []), (16, .iconst 0, 1, 0, 0, 0, 0, 0, []), (17, .ireturn, 1, 0, 0, 4, 0, 0, [])]
noncomputable def am_s132 : am_S := (yX6_isDigit, cX6_isDigit, 1, (some .boolean), 0, 4, 1, 6, 3163, 3162, 0, 523)
noncomputable def am_c132 : List (Nat × am_E) := [(0, .iload_n 0, 1, 0, 0, 0, 0, 0, []), (1, .bipush 48, 2, 0, 0, 0, 0, 48, []), (3, .if_icmp .lt 13, 3, 16, 0, 0, 0, 0, []), (6, .iload_n 0, 1, 0, 0, 0, 0, 0, []), (7, .bipush 57, 2, 0, 0, 0, 0, 57, []), (9, .if_icmp .gt 7, 3, 16, 0, 0, 0, 0, []),
  (12, .iconst 1, 1, 0, 0, 0, 0, 1, []), (13, .goto 4, 3, 17, 0, 0, 0, 0, []), (16, .iconst 0, 1, 0, 0, 0, 0, 0, []), (17, .ireturn, 1, 0, 0, 4, 0, 0, [])]
noncomputable def am_s133 : am_S := (yX6_look, cX6_look, 1, (some .int), 1, 1, 1, 6, 3099, 3098, 63, 523)
noncomputable def am_c133 : List (Nat × am_E) := [(0, .aload_n 0, 1, 0, 0, 0, 0, 0, []), (1, .getfield 248, 3, 6, 2, 1, 2231, 0, []), (4, .aload_n 0, 1, 0, 0, 0, 0, 0, []), (5, .getfield 251, 3, 6, 3, 1, 2232, 0, []), (8, .if_icmp .ge 44, 3, 52, 0, 0, 0, 0, []), (11, .aload_n 0, 1, 0, 0, 0, 0, 0, []),
  (12, .getfield 7, 3, 6, 0, 3, 2229, 0, []), (15, .aload_n 0, 1, 0, 0, 0, 0, 0, []), (16, .getfield 248, 3, 6, 2, 1, 2231, 0, []), (19, .iaload, 1, 0, 0, 0, 0, 0, []), (20, .bipush 10, 2, 0, 0, 0, 0, 10, []), (22, .if_icmp .eq 17, 3, 39, 0, 0, 0, 0, []),
  (25, .aload_n 0, 1, 0, 0, 0, 0, 0, []), (26, .getfield 7, 3, 6, 0, 3, 2229, 0, []), (29, .aload_n 0, 1, 0, 0, 0, 0, 0, []), (30, .getfield 248, 3, 6, 2, 1, 2231, 0, []), (33, .iaload, 1, 0, 0, 0, 0, 0, []), (34, .bipush 32, 2, 0, 0, 0, 0, 32, []),
  (36, .if_icmp .ne 16, 3, 52, 0, 0, 0, 0, []), (39, .aload_n 0, 1, 0, 0, 0, 0, 0, []), (40, .dup, 1, 0, 0, 0, 0, 0, []), (41, .getfield 248, 3, 6, 2, 1, 2231, 0, []), (44, .iconst 1, 1, 0, 0, 0, 0, 1, []), (45, .iadd, 1, 0, 0, 0, 0, 0, []),
  (46, .putfield 248, 3, 6, 2, 1, 2231, 0, []), (49, .goto (-49), 3, 0, 0, 0, 0, 0, []), (52, .aload_n 0, 1, 0, 0, 0, 0, 0, []), (53, .getfield 248, 3, 6, 2, 1, 2231, 0, []), (56, .aload_n 0, 1, 0, 0, 0, 0, 0, []), (57, .getfield 251, 3, 6, 3, 1, 2232, 0, []),
  (60, .if_icmp .ge 15, 3, 75, 0, 0, 0, 0, []), (63, .aload_n 0, 1, 0, 0, 0, 0, 0, []), (64, .getfield 7, 3, 6, 0, 3, 2229, 0, []), (67, .aload_n 0, 1, 0, 0, 0, 0, 0, []), (68, .getfield 248, 3, 6, 2, 1, 2231, 0, []), (71, .iaload, 1, 0, 0, 0, 0, 0, []),
  (72, .goto 4, 3, 76, 0, 0, 0, 0, []), (75, .iconst (-1), 1, 0, 0, 0, 0, (-1), []), (76, .ireturn, 1, 0, 0, 1, 0, 0, [])]
noncomputable def am_s134 : am_S := (yX6_isHere, cX6_isHere, 4, (some .boolean), 1, 4, 2, 6, 3115, 3114, 67, 523)
noncomputable def am_c134 : List (Nat × am_E) := [(0, .aload_n 0, 1, 0, 0, 0, 0, 0, []), (1, .getfield 242, 3, 6, 5, 1, 2234, 0, []), (4, .ifCond .ne 24, 3, 28, 0, 0, 0, 0, []), (7, .aload_n 0, 1, 0, 0, 0, 0, 0, []), (8, .invokevirtual 254, 3, 133, 1, 1, 3096, 6, []), (11, .invokestatic 258, 3, 131, 1, 4, 3116, 0, []),
  (14, .ifCond .eq 14, 3, 28, 0, 0, 0, 0, []), (17, .aload_n 0, 1, 0, 0, 0, 0, 0, []), (18, .getfield 248, 3, 6, 2, 1, 2231, 0, []), (21, .aload_n 0, 1, 0, 0, 0, 0, 0, []), (22, .getfield 262, 3, 6, 4, 1, 2233, 0, []), (25, .if_icmp .ne 5, 3, 30, 0, 0, 0, 0, []),
  (28, .iconst 0, 1, 0, 0, 0, 0, 0, []), (29, .ireturn, 1, 0, 0, 4, 0, 0, []), (30, .aload_n 0, 1, 0, 0, 0, 0, 0, []), (31, .getfield 248, 3, 6, 2, 1, 2231, 0, []), (34, .istore_n 2, 1, 2, 0, 0, 0, 0, []), (35, .iload_n 2, 1, 2, 0, 0, 0, 0, []),
  (36, .aload_n 0, 1, 0, 0, 0, 0, 0, []), (37, .getfield 251, 3, 6, 3, 1, 2232, 0, []), (40, .if_icmp .ge 21, 3, 61, 0, 0, 0, 0, []), (43, .aload_n 0, 1, 0, 0, 0, 0, 0, []), (44, .getfield 7, 3, 6, 0, 3, 2229, 0, []), (47, .iload_n 2, 1, 2, 0, 0, 0, 0, []),
  (48, .iaload, 1, 0, 0, 0, 0, 0, []), (49, .invokestatic 258, 3, 131, 1, 4, 3116, 0, []), (52, .ifCond .eq 9, 3, 61, 0, 0, 0, 0, []), (55, .iinc 2 1, 3, 2, 0, 0, 0, 1, []), (58, .goto (-23), 3, 35, 0, 0, 0, 0, []), (61, .iload_n 2, 1, 2, 0, 0, 0, 0, []),
  (62, .aload_n 0, 1, 0, 0, 0, 0, 0, []), (63, .getfield 248, 3, 6, 2, 1, 2231, 0, []), (66, .isub, 1, 0, 0, 0, 0, 0, []), (67, .aload_n 1, 1, 1, 0, 0, 0, 0, []), (68, .arraylength, 1, 0, 0, 0, 0, 0, []), (69, .if_icmp .eq 5, 3, 74, 0, 0, 0, 0, []),
  (72, .iconst 0, 1, 0, 0, 0, 0, 0, []), (73, .ireturn, 1, 0, 0, 4, 0, 0, []), (74, .iconst 0, 1, 0, 0, 0, 0, 0, []), (75, .istore_n 3, 1, 3, 0, 0, 0, 0, []), (76, .iload_n 3, 1, 3, 0, 0, 0, 0, []), (77, .aload_n 1, 1, 1, 0, 0, 0, 0, []),
  (78, .arraylength, 1, 0, 0, 0, 0, 0, []), (79, .if_icmp .ge 28, 3, 107, 0, 0, 0, 0, []), (82, .aload_n 0, 1, 0, 0, 0, 0, 0, []), (83, .getfield 7, 3, 6, 0, 3, 2229, 0, []), (86, .aload_n 0, 1, 0, 0, 0, 0, 0, []), (87, .getfield 248, 3, 6, 2, 1, 2231, 0, []),
  (90, .iload_n 3, 1, 3, 0, 0, 0, 0, []), (91, .iadd, 1, 0, 0, 0, 0, 0, []), (92, .iaload, 1, 0, 0, 0, 0, 0, []), (93, .aload_n 1, 1, 1, 0, 0, 0, 0, []), (94, .iload_n 3, 1, 3, 0, 0, 0, 0, []), (95, .caload, 1, 0, 0, 0, 0, 0, []),
  (96, .if_icmp .eq 5, 3, 101, 0, 0, 0, 0, []), (99, .iconst 0, 1, 0, 0, 0, 0, 0, []), (100, .ireturn, 1, 0, 0, 4, 0, 0, []), (101, .iinc 3 1, 3, 3, 0, 0, 0, 1, []), (104, .goto (-28), 3, 76, 0, 0, 0, 0, []), (107, .iconst 1, 1, 0, 0, 0, 0, 1, []),
  (108, .ireturn, 1, 0, 0, 4, 0, 0, [])]
noncomputable def am_s135 : am_S := (yX6_takes, cX6_takes, 2, (some .boolean), 1, 4, 2, 6, 3111, 3110, 66, 523)
noncomputable def am_c135 : List (Nat × am_E) := [(0, .aload_n 0, 1, 0, 0, 0, 0, 0, []), (1, .aload_n 1, 1, 1, 0, 0, 0, 0, []), (2, .invokevirtual 265, 3, 134, 2, 4, 3112, 6, []), (5, .ifCond .ne 5, 3, 10, 0, 0, 0, 0, []), (8, .iconst 0, 1, 0, 0, 0, 0, 0, []), (9, .ireturn, 1, 0, 0, 4, 0, 0, []),
  (10, .aload_n 0, 1, 0, 0, 0, 0, 0, []), (11, .dup, 1, 0, 0, 0, 0, 0, []), (12, .getfield 248, 3, 6, 2, 1, 2231, 0, []), (15, .aload_n 1, 1, 1, 0, 0, 0, 0, []), (16, .arraylength, 1, 0, 0, 0, 0, 0, []), (17, .iadd, 1, 0, 0, 0, 0, 0, []),
  (18, .putfield 248, 3, 6, 2, 1, 2231, 0, []), (21, .aload_n 0, 1, 0, 0, 0, 0, 0, []), (22, .aload_n 0, 1, 0, 0, 0, 0, 0, []), (23, .getfield 248, 3, 6, 2, 1, 2231, 0, []), (26, .putfield 262, 3, 6, 4, 1, 2233, 0, []), (29, .iconst 1, 1, 0, 0, 0, 0, 1, []),
  (30, .ireturn, 1, 0, 0, 4, 0, 0, [])]
noncomputable def am_s136 : am_S := (yX6_asks, cX6_asks, 2, none, 1, 0, 2, 6, 3156, 3155, 76, 523)
noncomputable def am_c136 : List (Nat × am_E) := [(0, .aload_n 0, 1, 0, 0, 0, 0, 0, []), (1, .getfield 242, 3, 6, 5, 1, 2234, 0, []), (4, .ifCond .ne 20, 3, 24, 0, 0, 0, 0, []), (7, .aload_n 0, 1, 0, 0, 0, 0, 0, []), (8, .aload_n 1, 1, 1, 0, 0, 0, 0, []), (9, .invokevirtual 269, 3, 135, 2, 4, 3108, 6, []),
  (12, .ifCond .ne 12, 3, 24, 0, 0, 0, 0, []), (15, .aload_n 0, 1, 0, 0, 0, 0, 0, []), (16, .iconst 1, 1, 0, 0, 0, 0, 1, []), (17, .aload_n 0, 1, 0, 0, 0, 0, 0, []), (18, .getfield 248, 3, 6, 2, 1, 2231, 0, []), (21, .invokevirtual 272, 3, 130, 3, 0, 3104, 6, []),
  (24, .return_, 1, 0, 0, 0, 0, 0, [])]
noncomputable def am_s137 : am_S := (yX6_takesSign, cX6_takesSign, 2, (some .boolean), 1, 4, 2, 6, 3232, 3231, 93, 523)
noncomputable def am_c137 : List (Nat × am_E) := [(0, .aload_n 0, 1, 0, 0, 0, 0, 0, []), (1, .getfield 242, 3, 6, 5, 1, 2234, 0, []), (4, .ifCond .ne 11, 3, 15, 0, 0, 0, 0, []), (7, .aload_n 0, 1, 0, 0, 0, 0, 0, []), (8, .invokevirtual 254, 3, 133, 1, 1, 3096, 6, []), (11, .iload_n 1, 1, 1, 0, 0, 0, 0, []),
  (12, .if_icmp .eq 5, 3, 17, 0, 0, 0, 0, []), (15, .iconst 0, 1, 0, 0, 0, 0, 0, []), (16, .ireturn, 1, 0, 0, 4, 0, 0, []), (17, .aload_n 0, 1, 0, 0, 0, 0, 0, []), (18, .dup, 1, 0, 0, 0, 0, 0, []), (19, .getfield 248, 3, 6, 2, 1, 2231, 0, []),
  (22, .iconst 1, 1, 0, 0, 0, 0, 1, []), (23, .iadd, 1, 0, 0, 0, 0, 0, []), (24, .putfield 248, 3, 6, 2, 1, 2231, 0, []), (27, .iconst 1, 1, 0, 0, 0, 0, 1, []), (28, .ireturn, 1, 0, 0, 4, 0, 0, [])]
noncomputable def am_s138 : am_S := (yX6_asksSign, cX6_asksSign, 2, none, 1, 0, 2, 6, 3228, 3227, 92, 523)
noncomputable def am_c138 : List (Nat × am_E) := [(0, .aload_n 0, 1, 0, 0, 0, 0, 0, []), (1, .getfield 242, 3, 6, 5, 1, 2234, 0, []), (4, .ifCond .ne 20, 3, 24, 0, 0, 0, 0, []), (7, .aload_n 0, 1, 0, 0, 0, 0, 0, []), (8, .iload_n 1, 1, 1, 0, 0, 0, 0, []), (9, .invokevirtual 276, 3, 137, 2, 4, 3229, 6, []),
  (12, .ifCond .ne 12, 3, 24, 0, 0, 0, 0, []), (15, .aload_n 0, 1, 0, 0, 0, 0, 0, []), (16, .iconst 1, 1, 0, 0, 0, 0, 1, []), (17, .aload_n 0, 1, 0, 0, 0, 0, 0, []), (18, .getfield 248, 3, 6, 2, 1, 2231, 0, []), (21, .invokevirtual 272, 3, 130, 3, 0, 3104, 6, []),
  (24, .return_, 1, 0, 0, 0, 0, 0, [])]
noncomputable def am_s139 : am_S := (yX6_number, cX6_number, 5, (some .int), 1, 1, 3, 6, 3160, 3159, 77, 523)
noncomputable def am_c139 : List (Nat × am_E) := [(0, .aload_n 0, 1, 0, 0, 0, 0, 0, []), (1, .getfield 242, 3, 6, 5, 1, 2234, 0, []), (4, .ifCond .eq 5, 3, 9, 0, 0, 0, 0, []), (7, .iconst 0, 1, 0, 0, 0, 0, 0, []), (8, .ireturn, 1, 0, 0, 1, 0, 0, []), (9, .aload_n 0, 1, 0, 0, 0, 0, 0, []),
  (10, .invokevirtual 254, 3, 133, 1, 1, 3096, 6, []), (13, .invokestatic 279, 3, 132, 1, 4, 3161, 0, []), (16, .ifCond .eq 14, 3, 30, 0, 0, 0, 0, []), (19, .aload_n 0, 1, 0, 0, 0, 0, 0, []), (20, .getfield 248, 3, 6, 2, 1, 2231, 0, []), (23, .aload_n 0, 1, 0, 0, 0, 0, 0, []),
  (24, .getfield 262, 3, 6, 4, 1, 2233, 0, []), (27, .if_icmp .ne 14, 3, 41, 0, 0, 0, 0, []), (30, .aload_n 0, 1, 0, 0, 0, 0, 0, []), (31, .iconst 1, 1, 0, 0, 0, 0, 1, []), (32, .aload_n 0, 1, 0, 0, 0, 0, 0, []), (33, .getfield 248, 3, 6, 2, 1, 2231, 0, []),
  (36, .invokevirtual 272, 3, 130, 3, 0, 3104, 6, []), (39, .iconst 0, 1, 0, 0, 0, 0, 0, []), (40, .ireturn, 1, 0, 0, 1, 0, 0, []), (41, .aload_n 0, 1, 0, 0, 0, 0, 0, []), (42, .getfield 248, 3, 6, 2, 1, 2231, 0, []), (45, .istore_n 3, 1, 3, 0, 0, 0, 0, []),
  (46, .iconst 0, 1, 0, 0, 0, 0, 0, []), (47, .istore 4, 2, 4, 0, 0, 0, 0, []), (49, .aload_n 0, 1, 0, 0, 0, 0, 0, []), (50, .getfield 248, 3, 6, 2, 1, 2231, 0, []), (53, .aload_n 0, 1, 0, 0, 0, 0, 0, []), (54, .getfield 251, 3, 6, 3, 1, 2232, 0, []),
  (57, .if_icmp .ge 72, 3, 129, 0, 0, 0, 0, []), (60, .aload_n 0, 1, 0, 0, 0, 0, 0, []), (61, .getfield 7, 3, 6, 0, 3, 2229, 0, []), (64, .aload_n 0, 1, 0, 0, 0, 0, 0, []), (65, .getfield 248, 3, 6, 2, 1, 2231, 0, []), (68, .iaload, 1, 0, 0, 0, 0, 0, []),
  (69, .invokestatic 279, 3, 132, 1, 4, 3161, 0, []), (72, .ifCond .eq 57, 3, 129, 0, 0, 0, 0, []), (75, .aload_n 0, 1, 0, 0, 0, 0, 0, []), (76, .getfield 248, 3, 6, 2, 1, 2231, 0, []), (79, .iload_n 3, 1, 3, 0, 0, 0, 0, []), (80, .isub, 1, 0, 0, 0, 0, 0, []),
  (81, .iconst 4, 1, 0, 0, 0, 0, 4, []), (82, .if_icmp .ne 14, 3, 96, 0, 0, 0, 0, []), (85, .aload_n 0, 1, 0, 0, 0, 0, 0, []), (86, .iconst 1, 1, 0, 0, 0, 0, 1, []), (87, .aload_n 0, 1, 0, 0, 0, 0, 0, []), (88, .getfield 248, 3, 6, 2, 1, 2231, 0, []),
  (91, .invokevirtual 272, 3, 130, 3, 0, 3104, 6, []), (94, .iconst 0, 1, 0, 0, 0, 0, 0, []), (95, .ireturn, 1, 0, 0, 1, 0, 0, []), (96, .bipush 10, 2, 0, 0, 0, 0, 10, []), (98, .iload 4, 2, 4, 0, 0, 0, 0, []), (100, .imul, 1, 0, 0, 0, 0, 0, []),
  (101, .aload_n 0, 1, 0, 0, 0, 0, 0, []), (102, .getfield 7, 3, 6, 0, 3, 2229, 0, []), (105, .aload_n 0, 1, 0, 0, 0, 0, 0, []), (106, .getfield 248, 3, 6, 2, 1, 2231, 0, []), (109, .iaload, 1, 0, 0, 0, 0, 0, []), (110, .iadd, 1, 0, 0, 0, 0, 0, []),
  (111, .bipush 48, 2, 0, 0, 0, 0, 48, []), (113, .isub, 1, 0, 0, 0, 0, 0, []), (114, .istore 4, 2, 4, 0, 0, 0, 0, []), (116, .aload_n 0, 1, 0, 0, 0, 0, 0, []), (117, .dup, 1, 0, 0, 0, 0, 0, []), (118, .getfield 248, 3, 6, 2, 1, 2231, 0, []),
  (121, .iconst 1, 1, 0, 0, 0, 0, 1, []), (122, .iadd, 1, 0, 0, 0, 0, 0, []), (123, .putfield 248, 3, 6, 2, 1, 2231, 0, []), (126, .goto (-77), 3, 49, 0, 0, 0, 0, []), (129, .aload_n 0, 1, 0, 0, 0, 0, 0, []), (130, .aload_n 0, 1, 0, 0, 0, 0, 0, []),
  (131, .getfield 248, 3, 6, 2, 1, 2231, 0, []), (134, .putfield 262, 3, 6, 4, 1, 2233, 0, []), (137, .iload 4, 2, 4, 0, 0, 0, 0, []), (139, .i2l, 1, 0, 0, 0, 0, 0, []), (140, .iload_n 1, 1, 1, 0, 0, 0, 0, []), (141, .i2l, 1, 0, 0, 0, 0, 0, []),
  (142, .iload_n 2, 1, 2, 0, 0, 0, 0, []), (143, .i2l, 1, 0, 0, 0, 0, 0, []), (144, .invokestatic 282, 3, 127, 3, 4, 3164, 0, []), (147, .ifCond .ne 9, 3, 156, 0, 0, 0, 0, []), (150, .aload_n 0, 1, 0, 0, 0, 0, 0, []), (151, .iconst 2, 1, 0, 0, 0, 0, 2, []),
  (152, .iload_n 3, 1, 3, 0, 0, 0, 0, []), (153, .invokevirtual 272, 3, 130, 3, 0, 3104, 6, []), (156, .iload 4, 2, 4, 0, 0, 0, 0, []), (158, .ireturn, 1, 0, 0, 1, 0, 0, [])]
noncomputable def am_s140 : am_S := (yX6_isOwnHere, cX6_isOwnHere, 2, (some .boolean), 1, 4, 1, 6, 3138, 3137, 72, 523)
noncomputable def am_c140_0 : List (Nat × am_E) := [(0, .aload_n 0, 1, 0, 0, 0, 0, 0, []), (1, .aload_n 0, 1, 0, 0, 0, 0, 0, []), (2, .getfield 20, 3, 6, 10, 3, 2239, 0, []), (5, .invokevirtual 265, 3, 134, 2, 4, 3112, 6, []), (8, .ifCond .ne 58, 3, 66, 0, 0, 0, 0, []), (11, .aload_n 0, 1, 0, 0, 0, 0, 0, []),
  (12, .aload_n 0, 1, 0, 0, 0, 0, 0, []), (13, .getfield 24, 3, 6, 11, 3, 2240, 0, []), (16, .invokevirtual 265, 3, 134, 2, 4, 3112, 6, []), (19, .ifCond .ne 47, 3, 66, 0, 0, 0, 0, []), (22, .aload_n 0, 1, 0, 0, 0, 0, 0, []), (23, .aload_n 0, 1, 0, 0, 0, 0, 0, []),
  (24, .getfield 27, 3, 6, 12, 3, 2241, 0, []), (27, .invokevirtual 265, 3, 134, 2, 4, 3112, 6, []), (30, .ifCond .ne 36, 3, 66, 0, 0, 0, 0, []), (33, .aload_n 0, 1, 0, 0, 0, 0, 0, []), (34, .aload_n 0, 1, 0, 0, 0, 0, 0, []), (35, .getfield 30, 3, 6, 13, 3, 2242, 0, []),
  (38, .invokevirtual 265, 3, 134, 2, 4, 3112, 6, []), (41, .ifCond .ne 25, 3, 66, 0, 0, 0, 0, []), (44, .aload_n 0, 1, 0, 0, 0, 0, 0, []), (45, .aload_n 0, 1, 0, 0, 0, 0, 0, []), (46, .getfield 33, 3, 6, 14, 3, 2243, 0, []), (49, .invokevirtual 265, 3, 134, 2, 4, 3112, 6, []),
  (52, .ifCond .ne 14, 3, 66, 0, 0, 0, 0, []), (55, .aload_n 0, 1, 0, 0, 0, 0, 0, []), (56, .aload_n 0, 1, 0, 0, 0, 0, 0, []), (57, .getfield 36, 3, 6, 15, 3, 2244, 0, []), (60, .invokevirtual 265, 3, 134, 2, 4, 3112, 6, []), (63, .ifCond .eq 7, 3, 70, 0, 0, 0, 0, []),
  (66, .iconst 1, 1, 0, 0, 0, 0, 1, []), (67, .goto 4, 3, 71, 0, 0, 0, 0, []), (70, .iconst 0, 1, 0, 0, 0, 0, 0, []), (71, .istore_n 1, 1, 1, 0, 0, 0, 0, []), (72, .iload_n 1, 1, 1, 0, 0, 0, 0, []), (73, .ifCond .ne 69, 3, 142, 0, 0, 0, 0, []),
  (76, .aload_n 0, 1, 0, 0, 0, 0, 0, []), (77, .aload_n 0, 1, 0, 0, 0, 0, 0, []), (78, .getfield 39, 3, 6, 16, 3, 2245, 0, []), (81, .invokevirtual 265, 3, 134, 2, 4, 3112, 6, []), (84, .ifCond .ne 58, 3, 142, 0, 0, 0, 0, []), (87, .aload_n 0, 1, 0, 0, 0, 0, 0, []),
  (88, .aload_n 0, 1, 0, 0, 0, 0, 0, []), (89, .getfield 42, 3, 6, 17, 3, 2246, 0, []), (92, .invokevirtual 265, 3, 134, 2, 4, 3112, 6, []), (95, .ifCond .ne 47, 3, 142, 0, 0, 0, 0, []), (98, .aload_n 0, 1, 0, 0, 0, 0, 0, []), (99, .aload_n 0, 1, 0, 0, 0, 0, 0, []),
  (100, .getfield 45, 3, 6, 18, 3, 2247, 0, []), (103, .invokevirtual 265, 3, 134, 2, 4, 3112, 6, []), (106, .ifCond .ne 36, 3, 142, 0, 0, 0, 0, []), (109, .aload_n 0, 1, 0, 0, 0, 0, 0, []), (110, .aload_n 0, 1, 0, 0, 0, 0, 0, []), (111, .getfield 48, 3, 6, 19, 3, 2248, 0, []),
  (114, .invokevirtual 265, 3, 134, 2, 4, 3112, 6, []), (117, .ifCond .ne 25, 3, 142, 0, 0, 0, 0, []), (120, .aload_n 0, 1, 0, 0, 0, 0, 0, []), (121, .aload_n 0, 1, 0, 0, 0, 0, 0, []), (122, .getfield 51, 3, 6, 20, 3, 2249, 0, []), (125, .invokevirtual 265, 3, 134, 2, 4, 3112, 6, []),
  (128, .ifCond .ne 14, 3, 142, 0, 0, 0, 0, []), (131, .aload_n 0, 1, 0, 0, 0, 0, 0, []), (132, .aload_n 0, 1, 0, 0, 0, 0, 0, []), (133, .getfield 54, 3, 6, 21, 3, 2250, 0, []), (136, .invokevirtual 265, 3, 134, 2, 4, 3112, 6, []), (139, .ifCond .eq 7, 3, 146, 0, 0, 0, 0, []),
  (142, .iconst 1, 1, 0, 0, 0, 0, 1, []), (143, .goto 4, 3, 147, 0, 0, 0, 0, []), (146, .iconst 0, 1, 0, 0, 0, 0, 0, []), (147, .istore_n 1, 1, 1, 0, 0, 0, 0, []), (148, .iload_n 1, 1, 1, 0, 0, 0, 0, []), (149, .ifCond .ne 69, 3, 218, 0, 0, 0, 0, []),
  (152, .aload_n 0, 1, 0, 0, 0, 0, 0, []), (153, .aload_n 0, 1, 0, 0, 0, 0, 0, []), (154, .getfield 57, 3, 6, 22, 3, 2251, 0, []), (157, .invokevirtual 265, 3, 134, 2, 4, 3112, 6, []), (160, .ifCond .ne 58, 3, 218, 0, 0, 0, 0, []), (163, .aload_n 0, 1, 0, 0, 0, 0, 0, []),
  (164, .aload_n 0, 1, 0, 0, 0, 0, 0, []), (165, .getfield 60, 3, 6, 23, 3, 2252, 0, []), (168, .invokevirtual 265, 3, 134, 2, 4, 3112, 6, []), (171, .ifCond .ne 47, 3, 218, 0, 0, 0, 0, []), (174, .aload_n 0, 1, 0, 0, 0, 0, 0, []), (175, .aload_n 0, 1, 0, 0, 0, 0, 0, []),
  (176, .getfield 63, 3, 6, 24, 3, 2253, 0, []), (179, .invokevirtual 265, 3, 134, 2, 4, 3112, 6, []), (182, .ifCond .ne 36, 3, 218, 0, 0, 0, 0, []), (185, .aload_n 0, 1, 0, 0, 0, 0, 0, []), (186, .aload_n 0, 1, 0, 0, 0, 0, 0, []), (187, .getfield 66, 3, 6, 25, 3, 2254, 0, []),
  (190, .invokevirtual 265, 3, 134, 2, 4, 3112, 6, []), (193, .ifCond .ne 25, 3, 218, 0, 0, 0, 0, []), (196, .aload_n 0, 1, 0, 0, 0, 0, 0, []), (197, .aload_n 0, 1, 0, 0, 0, 0, 0, []), (198, .getfield 69, 3, 6, 26, 3, 2255, 0, []), (201, .invokevirtual 265, 3, 134, 2, 4, 3112, 6, []),
  (204, .ifCond .ne 14, 3, 218, 0, 0, 0, 0, []), (207, .aload_n 0, 1, 0, 0, 0, 0, 0, []), (208, .aload_n 0, 1, 0, 0, 0, 0, 0, []), (209, .getfield 72, 3, 6, 27, 3, 2256, 0, [])]
noncomputable def am_c140_1 : List (Nat × am_E) := [(212, .invokevirtual 265, 3, 134, 2, 4, 3112, 6, []), (215, .ifCond .eq 7, 3, 222, 0, 0, 0, 0, []), (218, .iconst 1, 1, 0, 0, 0, 0, 1, []), (219, .goto 4, 3, 223, 0, 0, 0, 0, []), (222, .iconst 0, 1, 0, 0, 0, 0, 0, []), (223, .istore_n 1, 1, 1, 0, 0, 0, 0, []),
  (224, .iload_n 1, 1, 1, 0, 0, 0, 0, []), (225, .ifCond .ne 69, 3, 294, 0, 0, 0, 0, []), (228, .aload_n 0, 1, 0, 0, 0, 0, 0, []), (229, .aload_n 0, 1, 0, 0, 0, 0, 0, []), (230, .getfield 75, 3, 6, 28, 3, 2257, 0, []), (233, .invokevirtual 265, 3, 134, 2, 4, 3112, 6, []),
  (236, .ifCond .ne 58, 3, 294, 0, 0, 0, 0, []), (239, .aload_n 0, 1, 0, 0, 0, 0, 0, []), (240, .aload_n 0, 1, 0, 0, 0, 0, 0, []), (241, .getfield 78, 3, 6, 29, 3, 2258, 0, []), (244, .invokevirtual 265, 3, 134, 2, 4, 3112, 6, []), (247, .ifCond .ne 47, 3, 294, 0, 0, 0, 0, []),
  (250, .aload_n 0, 1, 0, 0, 0, 0, 0, []), (251, .aload_n 0, 1, 0, 0, 0, 0, 0, []), (252, .getfield 81, 3, 6, 30, 3, 2259, 0, []), (255, .invokevirtual 265, 3, 134, 2, 4, 3112, 6, []), (258, .ifCond .ne 36, 3, 294, 0, 0, 0, 0, []), (261, .aload_n 0, 1, 0, 0, 0, 0, 0, []),
  (262, .aload_n 0, 1, 0, 0, 0, 0, 0, []), (263, .getfield 84, 3, 6, 31, 3, 2260, 0, []), (266, .invokevirtual 265, 3, 134, 2, 4, 3112, 6, []), (269, .ifCond .ne 25, 3, 294, 0, 0, 0, 0, []), (272, .aload_n 0, 1, 0, 0, 0, 0, 0, []), (273, .aload_n 0, 1, 0, 0, 0, 0, 0, []),
  (274, .getfield 87, 3, 6, 32, 3, 2261, 0, []), (277, .invokevirtual 265, 3, 134, 2, 4, 3112, 6, []), (280, .ifCond .ne 14, 3, 294, 0, 0, 0, 0, []), (283, .aload_n 0, 1, 0, 0, 0, 0, 0, []), (284, .aload_n 0, 1, 0, 0, 0, 0, 0, []), (285, .getfield 90, 3, 6, 33, 3, 2262, 0, []),
  (288, .invokevirtual 265, 3, 134, 2, 4, 3112, 6, []), (291, .ifCond .eq 7, 3, 298, 0, 0, 0, 0, []), (294, .iconst 1, 1, 0, 0, 0, 0, 1, []), (295, .goto 4, 3, 299, 0, 0, 0, 0, []), (298, .iconst 0, 1, 0, 0, 0, 0, 0, []), (299, .istore_n 1, 1, 1, 0, 0, 0, 0, []),
  (300, .iload_n 1, 1, 1, 0, 0, 0, 0, []), (301, .ifCond .ne 58, 3, 359, 0, 0, 0, 0, []), (304, .aload_n 0, 1, 0, 0, 0, 0, 0, []), (305, .aload_n 0, 1, 0, 0, 0, 0, 0, []), (306, .getfield 93, 3, 6, 34, 3, 2263, 0, []), (309, .invokevirtual 265, 3, 134, 2, 4, 3112, 6, []),
  (312, .ifCond .ne 47, 3, 359, 0, 0, 0, 0, []), (315, .aload_n 0, 1, 0, 0, 0, 0, 0, []), (316, .aload_n 0, 1, 0, 0, 0, 0, 0, []), (317, .getfield 96, 3, 6, 35, 3, 2264, 0, []), (320, .invokevirtual 265, 3, 134, 2, 4, 3112, 6, []), (323, .ifCond .ne 36, 3, 359, 0, 0, 0, 0, []),
  (326, .aload_n 0, 1, 0, 0, 0, 0, 0, []), (327, .aload_n 0, 1, 0, 0, 0, 0, 0, []), (328, .getfield 99, 3, 6, 36, 3, 2265, 0, []), (331, .invokevirtual 265, 3, 134, 2, 4, 3112, 6, []), (334, .ifCond .ne 25, 3, 359, 0, 0, 0, 0, []), (337, .aload_n 0, 1, 0, 0, 0, 0, 0, []),
  (338, .aload_n 0, 1, 0, 0, 0, 0, 0, []), (339, .getfield 102, 3, 6, 37, 3, 2266, 0, []), (342, .invokevirtual 265, 3, 134, 2, 4, 3112, 6, []), (345, .ifCond .ne 14, 3, 359, 0, 0, 0, 0, []), (348, .aload_n 0, 1, 0, 0, 0, 0, 0, []), (349, .aload_n 0, 1, 0, 0, 0, 0, 0, []),
  (350, .getfield 105, 3, 6, 38, 3, 2267, 0, []), (353, .invokevirtual 265, 3, 134, 2, 4, 3112, 6, []), (356, .ifCond .eq 7, 3, 363, 0, 0, 0, 0, []), (359, .iconst 1, 1, 0, 0, 0, 0, 1, []), (360, .goto 4, 3, 364, 0, 0, 0, 0, []), (363, .iconst 0, 1, 0, 0, 0, 0, 0, []),
  (364, .istore_n 1, 1, 1, 0, 0, 0, 0, []), (365, .iload_n 1, 1, 1, 0, 0, 0, 0, []), (366, .ireturn, 1, 0, 0, 4, 0, 0, [])]
noncomputable def am_c140 : List (Nat × am_E) := am_c140_0 ++ (am_c140_1)
noncomputable def am_s141 : am_S := (yX6_name, cX6_name, 3, (some .long), 1, 2, 1, 6, 3134, 3133, 71, 523)
noncomputable def am_c141 : List (Nat × am_E) := [(0, .aload_n 0, 1, 0, 0, 0, 0, 0, []), (1, .getfield 242, 3, 6, 5, 1, 2234, 0, []), (4, .ifCond .eq 5, 3, 9, 0, 0, 0, 0, []), (7, .lconst 0, 1, 0, 0, 0, 0, 0, []), (8, .lreturn, 1, 0, 0, 2, 0, 0, []), (9, .aload_n 0, 1, 0, 0, 0, 0, 0, []),
  (10, .invokevirtual 254, 3, 133, 1, 1, 3096, 6, []), (13, .invokestatic 258, 3, 131, 1, 4, 3116, 0, []), (16, .ifCond .eq 21, 3, 37, 0, 0, 0, 0, []), (19, .aload_n 0, 1, 0, 0, 0, 0, 0, []), (20, .getfield 248, 3, 6, 2, 1, 2231, 0, []), (23, .aload_n 0, 1, 0, 0, 0, 0, 0, []),
  (24, .getfield 262, 3, 6, 4, 1, 2233, 0, []), (27, .if_icmp .eq 10, 3, 37, 0, 0, 0, 0, []), (30, .aload_n 0, 1, 0, 0, 0, 0, 0, []), (31, .invokevirtual 286, 3, 140, 1, 4, 3135, 6, []), (34, .ifCond .eq 14, 3, 48, 0, 0, 0, 0, []), (37, .aload_n 0, 1, 0, 0, 0, 0, 0, []),
  (38, .iconst 1, 1, 0, 0, 0, 0, 1, []), (39, .aload_n 0, 1, 0, 0, 0, 0, 0, []), (40, .getfield 248, 3, 6, 2, 1, 2231, 0, []), (43, .invokevirtual 272, 3, 130, 3, 0, 3104, 6, []), (46, .lconst 0, 1, 0, 0, 0, 0, 0, []), (47, .lreturn, 1, 0, 0, 2, 0, 0, []),
  (48, .aload_n 0, 1, 0, 0, 0, 0, 0, []), (49, .aload_n 0, 1, 0, 0, 0, 0, 0, []), (50, .getfield 248, 3, 6, 2, 1, 2231, 0, []), (53, .putfield 290, 3, 6, 39, 1, 2268, 0, []), (56, .lconst 0, 1, 0, 0, 0, 0, 0, []), (57, .lstore_n 1, 1, 1, 0, 0, 0, 0, []),
  (58, .aload_n 0, 1, 0, 0, 0, 0, 0, []), (59, .getfield 248, 3, 6, 2, 1, 2231, 0, []), (62, .aload_n 0, 1, 0, 0, 0, 0, 0, []), (63, .getfield 251, 3, 6, 3, 1, 2232, 0, []), (66, .if_icmp .ge 79, 3, 145, 0, 0, 0, 0, []), (69, .aload_n 0, 1, 0, 0, 0, 0, 0, []),
  (70, .getfield 7, 3, 6, 0, 3, 2229, 0, []), (73, .aload_n 0, 1, 0, 0, 0, 0, 0, []), (74, .getfield 248, 3, 6, 2, 1, 2231, 0, []), (77, .iaload, 1, 0, 0, 0, 0, 0, []), (78, .invokestatic 258, 3, 131, 1, 4, 3116, 0, []), (81, .ifCond .eq 64, 3, 145, 0, 0, 0, 0, []),
  (84, .aload_n 0, 1, 0, 0, 0, 0, 0, []), (85, .getfield 248, 3, 6, 2, 1, 2231, 0, []), (88, .aload_n 0, 1, 0, 0, 0, 0, 0, []), (89, .getfield 290, 3, 6, 39, 1, 2268, 0, []), (92, .isub, 1, 0, 0, 0, 0, 0, []), (93, .bipush 6, 2, 0, 0, 0, 0, 6, []),
  (95, .if_icmp .ne 14, 3, 109, 0, 0, 0, 0, []), (98, .aload_n 0, 1, 0, 0, 0, 0, 0, []), (99, .iconst 1, 1, 0, 0, 0, 0, 1, []), (100, .aload_n 0, 1, 0, 0, 0, 0, 0, []), (101, .getfield 248, 3, 6, 2, 1, 2231, 0, []), (104, .invokevirtual 272, 3, 130, 3, 0, 3104, 6, []),
  (107, .lconst 0, 1, 0, 0, 0, 0, 0, []), (108, .lreturn, 1, 0, 0, 2, 0, 0, []), (109, .ldc2_w 293, 3, 0, 0, 0, 3139, 27, []), (112, .lload_n 1, 1, 1, 0, 0, 0, 0, []), (113, .lmul, 1, 0, 0, 0, 0, 0, []), (114, .aload_n 0, 1, 0, 0, 0, 0, 0, []),
  (115, .getfield 7, 3, 6, 0, 3, 2229, 0, []), (118, .aload_n 0, 1, 0, 0, 0, 0, 0, []), (119, .getfield 248, 3, 6, 2, 1, 2231, 0, []), (122, .iaload, 1, 0, 0, 0, 0, 0, []), (123, .i2l, 1, 0, 0, 0, 0, 0, []), (124, .ladd, 1, 0, 0, 0, 0, 0, []),
  (125, .ldc2_w 295, 3, 0, 0, 0, 3140, 97, []), (128, .lsub, 1, 0, 0, 0, 0, 0, []), (129, .lconst 1, 1, 0, 0, 0, 0, 1, []), (130, .ladd, 1, 0, 0, 0, 0, 0, []), (131, .lstore_n 1, 1, 1, 0, 0, 0, 0, []), (132, .aload_n 0, 1, 0, 0, 0, 0, 0, []),
  (133, .dup, 1, 0, 0, 0, 0, 0, []), (134, .getfield 248, 3, 6, 2, 1, 2231, 0, []), (137, .iconst 1, 1, 0, 0, 0, 0, 1, []), (138, .iadd, 1, 0, 0, 0, 0, 0, []), (139, .putfield 248, 3, 6, 2, 1, 2231, 0, []), (142, .goto (-84), 3, 58, 0, 0, 0, 0, []),
  (145, .aload_n 0, 1, 0, 0, 0, 0, 0, []), (146, .aload_n 0, 1, 0, 0, 0, 0, 0, []), (147, .getfield 248, 3, 6, 2, 1, 2231, 0, []), (150, .putfield 262, 3, 6, 4, 1, 2233, 0, []), (153, .lload_n 1, 1, 1, 0, 0, 0, 0, []), (154, .lreturn, 1, 0, 0, 2, 0, 0, [])]
noncomputable def am_s142 : am_S := (yX6_isAllowed, cX6_isAllowed, 2, (some .boolean), 1, 4, 2, 6, 3222, 3221, 91, 523)
noncomputable def am_c142 : List (Nat × am_E) := [(0, .aload_n 0, 1, 0, 0, 0, 0, 0, []), (1, .getfield 297, 3, 6, 53, 1, 2282, 0, []), (4, .tableswitch 74 0 2 #[28, 39, 50], 28, 78, 0, 0, 0, 0, [(0, 32), (1, 43), (2, 54)]), (32, .iload_n 1, 1, 1, 0, 0, 0, 0, []), (33, .iconst 3, 1, 0, 0, 0, 0, 3, []), (34, .if_icmp .ge 7, 3, 41, 0, 0, 0, 0, []),
  (37, .iconst 1, 1, 0, 0, 0, 0, 1, []), (38, .goto 4, 3, 42, 0, 0, 0, 0, []), (41, .iconst 0, 1, 0, 0, 0, 0, 0, []), (42, .ireturn, 1, 0, 0, 4, 0, 0, []), (43, .iload_n 1, 1, 1, 0, 0, 0, 0, []), (44, .iconst 2, 1, 0, 0, 0, 0, 2, []),
  (45, .if_icmp .ge 7, 3, 52, 0, 0, 0, 0, []), (48, .iconst 1, 1, 0, 0, 0, 0, 1, []), (49, .goto 4, 3, 53, 0, 0, 0, 0, []), (52, .iconst 0, 1, 0, 0, 0, 0, 0, []), (53, .ireturn, 1, 0, 0, 4, 0, 0, []), (54, .iload_n 1, 1, 1, 0, 0, 0, 0, []),
  (55, .ifCond .eq 17, 3, 72, 0, 0, 0, 0, []), (58, .iload_n 1, 1, 1, 0, 0, 0, 0, []), (59, .i2l, 1, 0, 0, 0, 0, 0, []), (60, .ldc2_w 300, 3, 0, 0, 0, 3223, 3, []), (63, .ldc2_w 302, 3, 0, 0, 0, 3224, 5, []), (66, .invokestatic 282, 3, 127, 3, 4, 3164, 0, []),
  (69, .ifCond .eq 7, 3, 76, 0, 0, 0, 0, []), (72, .iconst 1, 1, 0, 0, 0, 0, 1, []), (73, .goto 4, 3, 77, 0, 0, 0, 0, []), (76, .iconst 0, 1, 0, 0, 0, 0, 0, []), (77, .ireturn, 1, 0, 0, 4, 0, 0, []), (78, .iload_n 1, 1, 1, 0, 0, 0, 0, []),
  (79, .ifCond .eq 8, 3, 87, 0, 0, 0, 0, []), (82, .iload_n 1, 1, 1, 0, 0, 0, 0, []), (83, .iconst 2, 1, 0, 0, 0, 0, 2, []), (84, .if_icmp .le 7, 3, 91, 0, 0, 0, 0, []), (87, .iconst 1, 1, 0, 0, 0, 0, 1, []), (88, .goto 4, 3, 92, 0, 0, 0, 0, []),
  (91, .iconst 0, 1, 0, 0, 0, 0, 0, []), (92, .ireturn, 1, 0, 0, 4, 0, 0, [])]
noncomputable def am_s143 : am_S := (yX6_isFull, cX6_isFull, 4, (some .boolean), 1, 4, 4, 6, 3126, 3125, 69, 523)
noncomputable def am_c143 : List (Nat × am_E) := [(0, .aload_n 0, 1, 0, 0, 0, 0, 0, []), (1, .getfield 242, 3, 6, 5, 1, 2234, 0, []), (4, .ifCond .ne 19, 3, 23, 0, 0, 0, 0, []), (7, .aload_n 0, 1, 0, 0, 0, 0, 0, []), (8, .getfield 108, 3, 6, 40, 3, 2269, 0, []), (11, .iload_n 1, 1, 1, 0, 0, 0, 0, []),
  (12, .iaload, 1, 0, 0, 0, 0, 0, []), (13, .iload_n 2, 1, 2, 0, 0, 0, 0, []), (14, .if_icmp .ne 9, 3, 23, 0, 0, 0, 0, []), (17, .aload_n 0, 1, 0, 0, 0, 0, 0, []), (18, .iconst 5, 1, 0, 0, 0, 0, 5, []), (19, .iload_n 3, 1, 3, 0, 0, 0, 0, []),
  (20, .invokevirtual 272, 3, 130, 3, 0, 3104, 6, []), (23, .aload_n 0, 1, 0, 0, 0, 0, 0, []), (24, .getfield 242, 3, 6, 5, 1, 2234, 0, []), (27, .ifCond .eq 7, 3, 34, 0, 0, 0, 0, []), (30, .iconst 1, 1, 0, 0, 0, 0, 1, []), (31, .goto 4, 3, 35, 0, 0, 0, 0, []),
  (34, .iconst 0, 1, 0, 0, 0, 0, 0, []), (35, .ireturn, 1, 0, 0, 4, 0, 0, [])]
noncomputable def am_s144 : am_S := (yX6_nameOf, cX6_nameOf, 5, (some .int), 1, 1, 3, 6, 3144, 3143, 73, 523)
noncomputable def am_c144 : List (Nat × am_E) := [(0, .iconst 0, 1, 0, 0, 0, 0, 0, []), (1, .istore 4, 2, 4, 0, 0, 0, 0, []), (3, .iload 4, 2, 4, 0, 0, 0, 0, []), (5, .aload_n 0, 1, 0, 0, 0, 0, 0, []), (6, .getfield 108, 3, 6, 40, 3, 2269, 0, []), (9, .iload_n 1, 1, 1, 0, 0, 0, 0, []),
  (10, .iaload, 1, 0, 0, 0, 0, 0, []), (11, .if_icmp .ge 29, 3, 40, 0, 0, 0, 0, []), (14, .aload_n 0, 1, 0, 0, 0, 0, 0, []), (15, .getfield 111, 3, 6, 41, 3, 2270, 0, []), (18, .bipush 8, 2, 0, 0, 0, 0, 8, []), (20, .iload_n 1, 1, 1, 0, 0, 0, 0, []),
  (21, .imul, 1, 0, 0, 0, 0, 0, []), (22, .iload 4, 2, 4, 0, 0, 0, 0, []), (24, .iadd, 1, 0, 0, 0, 0, 0, []), (25, .laload, 1, 0, 0, 0, 0, 0, []), (26, .lload_n 2, 1, 2, 0, 0, 0, 0, []), (27, .lcmp, 1, 0, 0, 0, 0, 0, []),
  (28, .ifCond .ne 6, 3, 34, 0, 0, 0, 0, []), (31, .iload 4, 2, 4, 0, 0, 0, 0, []), (33, .ireturn, 1, 0, 0, 1, 0, 0, []), (34, .iinc 4 1, 3, 4, 0, 0, 0, 1, []), (37, .goto (-34), 3, 3, 0, 0, 0, 0, []), (40, .iconst (-1), 1, 0, 0, 0, 0, (-1), []),
  (41, .ireturn, 1, 0, 0, 1, 0, 0, [])]
noncomputable def am_s145 : am_S := (yX6_newName, cX6_newName, 4, (some .long), 1, 2, 1, 6, 3130, 3129, 70, 523)
noncomputable def am_c145 : List (Nat × am_E) := [(0, .aload_n 0, 1, 0, 0, 0, 0, 0, []), (1, .invokevirtual 304, 3, 141, 1, 2, 3131, 6, []), (4, .lstore_n 1, 1, 1, 0, 0, 0, 0, []), (5, .iconst 0, 1, 0, 0, 0, 0, 0, []), (6, .istore_n 3, 1, 3, 0, 0, 0, 0, []), (7, .iload_n 3, 1, 3, 0, 0, 0, 0, []),
  (8, .iconst 3, 1, 0, 0, 0, 0, 3, []), (9, .if_icmp .ge 35, 3, 44, 0, 0, 0, 0, []), (12, .aload_n 0, 1, 0, 0, 0, 0, 0, []), (13, .getfield 242, 3, 6, 5, 1, 2234, 0, []), (16, .ifCond .ne 22, 3, 38, 0, 0, 0, 0, []), (19, .aload_n 0, 1, 0, 0, 0, 0, 0, []),
  (20, .iload_n 3, 1, 3, 0, 0, 0, 0, []), (21, .lload_n 1, 1, 1, 0, 0, 0, 0, []), (22, .invokevirtual 308, 3, 144, 3, 1, 3141, 6, []), (25, .iconst (-1), 1, 0, 0, 0, 0, (-1), []), (26, .if_icmp .eq 12, 3, 38, 0, 0, 0, 0, []), (29, .aload_n 0, 1, 0, 0, 0, 0, 0, []),
  (30, .iconst 3, 1, 0, 0, 0, 0, 3, []), (31, .aload_n 0, 1, 0, 0, 0, 0, 0, []), (32, .getfield 290, 3, 6, 39, 1, 2268, 0, []), (35, .invokevirtual 272, 3, 130, 3, 0, 3104, 6, []), (38, .iinc 3 1, 3, 3, 0, 0, 0, 1, []), (41, .goto (-34), 3, 7, 0, 0, 0, 0, []),
  (44, .lload_n 1, 1, 1, 0, 0, 0, 0, []), (45, .lreturn, 1, 0, 0, 2, 0, 0, [])]
noncomputable def am_s146 : am_S := (yX6_oneOf, cX6_oneOf, 5, (some .int), 1, 1, 2, 6, 3170, 3169, 78, 523)
noncomputable def am_c146 : List (Nat × am_E) := [(0, .aload_n 0, 1, 0, 0, 0, 0, 0, []), (1, .invokevirtual 304, 3, 141, 1, 2, 3131, 6, []), (4, .lstore_n 2, 1, 2, 0, 0, 0, 0, []), (5, .aload_n 0, 1, 0, 0, 0, 0, 0, []), (6, .iload_n 1, 1, 1, 0, 0, 0, 0, []), (7, .lload_n 2, 1, 2, 0, 0, 0, 0, []),
  (8, .invokevirtual 308, 3, 144, 3, 1, 3141, 6, []), (11, .istore 4, 2, 4, 0, 0, 0, 0, []), (13, .aload_n 0, 1, 0, 0, 0, 0, 0, []), (14, .getfield 242, 3, 6, 5, 1, 2234, 0, []), (17, .ifCond .ne 18, 3, 35, 0, 0, 0, 0, []), (20, .iload 4, 2, 4, 0, 0, 0, 0, []),
  (22, .iconst (-1), 1, 0, 0, 0, 0, (-1), []), (23, .if_icmp .ne 12, 3, 35, 0, 0, 0, 0, []), (26, .aload_n 0, 1, 0, 0, 0, 0, 0, []), (27, .iconst 3, 1, 0, 0, 0, 0, 3, []), (28, .aload_n 0, 1, 0, 0, 0, 0, 0, []), (29, .getfield 290, 3, 6, 39, 1, 2268, 0, []),
  (32, .invokevirtual 272, 3, 130, 3, 0, 3104, 6, []), (35, .aload_n 0, 1, 0, 0, 0, 0, 0, []), (36, .getfield 242, 3, 6, 5, 1, 2234, 0, []), (39, .ifCond .ne 8, 3, 47, 0, 0, 0, 0, []), (42, .iload 4, 2, 4, 0, 0, 0, 0, []), (44, .goto 4, 3, 48, 0, 0, 0, 0, []),
  (47, .iconst 0, 1, 0, 0, 0, 0, 0, []), (48, .ireturn, 1, 0, 0, 1, 0, 0, [])]
noncomputable def am_s147 : am_S := (yX6_adds, cX6_adds, 4, none, 1, 0, 3, 6, 3148, 3147, 74, 523)
noncomputable def am_c147 : List (Nat × am_E) := [(0, .aload_n 0, 1, 0, 0, 0, 0, 0, []), (1, .getfield 111, 3, 6, 41, 3, 2270, 0, []), (4, .bipush 8, 2, 0, 0, 0, 0, 8, []), (6, .iload_n 1, 1, 1, 0, 0, 0, 0, []), (7, .imul, 1, 0, 0, 0, 0, 0, []), (8, .aload_n 0, 1, 0, 0, 0, 0, 0, []),
  (9, .getfield 108, 3, 6, 40, 3, 2269, 0, []), (12, .iload_n 1, 1, 1, 0, 0, 0, 0, []), (13, .iaload, 1, 0, 0, 0, 0, 0, []), (14, .iadd, 1, 0, 0, 0, 0, 0, []), (15, .lload_n 2, 1, 2, 0, 0, 0, 0, []), (16, .lastore, 1, 0, 0, 0, 0, 0, []),
  (17, .aload_n 0, 1, 0, 0, 0, 0, 0, []), (18, .getfield 108, 3, 6, 40, 3, 2269, 0, []), (21, .iload_n 1, 1, 1, 0, 0, 0, 0, []), (22, .dup2, 1, 0, 0, 0, 0, 0, []), (23, .iaload, 1, 0, 0, 0, 0, 0, []), (24, .iconst 1, 1, 0, 0, 0, 0, 1, []),
  (25, .iadd, 1, 0, 0, 0, 0, 0, []), (26, .iastore, 1, 0, 0, 0, 0, 0, []), (27, .return_, 1, 0, 0, 0, 0, 0, [])]
noncomputable def am_s148 : am_S := (yX6_kindTold, cX6_kindTold, 4, none, 1, 0, 2, 6, 3122, 3121, 68, 523)
noncomputable def am_c148 : List (Nat × am_E) := [(0, .aload_n 0, 1, 0, 0, 0, 0, 0, []), (1, .iconst 0, 1, 0, 0, 0, 0, 0, []), (2, .bipush 6, 2, 0, 0, 0, 0, 6, []), (4, .iload_n 1, 1, 1, 0, 0, 0, 0, []), (5, .invokevirtual 312, 3, 143, 4, 4, 3123, 6, []), (8, .ifCond .eq 4, 3, 12, 0, 0, 0, 0, []),
  (11, .return_, 1, 0, 0, 0, 0, 0, []), (12, .aload_n 0, 1, 0, 0, 0, 0, 0, []), (13, .invokevirtual 316, 3, 145, 1, 2, 3127, 6, []), (16, .lstore_n 2, 1, 2, 0, 0, 0, 0, []), (17, .aload_n 0, 1, 0, 0, 0, 0, 0, []), (18, .getfield 242, 3, 6, 5, 1, 2234, 0, []),
  (21, .ifCond .ne 9, 3, 30, 0, 0, 0, 0, []), (24, .aload_n 0, 1, 0, 0, 0, 0, 0, []), (25, .iconst 0, 1, 0, 0, 0, 0, 0, []), (26, .lload_n 2, 1, 2, 0, 0, 0, 0, []), (27, .invokevirtual 319, 3, 147, 3, 0, 3145, 6, []), (30, .return_, 1, 0, 0, 0, 0, 0, [])]
noncomputable def am_s149 : am_S := (yX6_filmTold, cX6_filmTold, 9, none, 1, 0, 2, 6, 3152, 3151, 75, 523)
noncomputable def am_c149_0 : List (Nat × am_E) := [(0, .aload_n 0, 1, 0, 0, 0, 0, 0, []), (1, .iconst 1, 1, 0, 0, 0, 0, 1, []), (2, .bipush 8, 2, 0, 0, 0, 0, 8, []), (4, .iload_n 1, 1, 1, 0, 0, 0, 0, []), (5, .invokevirtual 312, 3, 143, 4, 4, 3123, 6, []), (8, .ifCond .eq 4, 3, 12, 0, 0, 0, 0, []),
  (11, .return_, 1, 0, 0, 0, 0, 0, []), (12, .aload_n 0, 1, 0, 0, 0, 0, 0, []), (13, .invokevirtual 316, 3, 145, 1, 2, 3127, 6, []), (16, .lstore_n 2, 1, 2, 0, 0, 0, 0, []), (17, .aload_n 0, 1, 0, 0, 0, 0, 0, []), (18, .aload_n 0, 1, 0, 0, 0, 0, 0, []),
  (19, .getfield 27, 3, 6, 12, 3, 2241, 0, []), (22, .invokevirtual 323, 3, 136, 2, 0, 3153, 6, []), (25, .aload_n 0, 1, 0, 0, 0, 0, 0, []), (26, .iconst 1, 1, 0, 0, 0, 0, 1, []), (27, .bipush 9, 2, 0, 0, 0, 0, 9, []), (29, .invokevirtual 327, 3, 139, 3, 1, 3157, 6, []),
  (32, .istore 4, 2, 4, 0, 0, 0, 0, []), (34, .aload_n 0, 1, 0, 0, 0, 0, 0, []), (35, .aload_n 0, 1, 0, 0, 0, 0, 0, []), (36, .getfield 30, 3, 6, 13, 3, 2242, 0, []), (39, .invokevirtual 323, 3, 136, 2, 0, 3153, 6, []), (42, .aload_n 0, 1, 0, 0, 0, 0, 0, []),
  (43, .getfield 108, 3, 6, 40, 3, 2269, 0, []), (46, .iconst 1, 1, 0, 0, 0, 0, 1, []), (47, .iaload, 1, 0, 0, 0, 0, 0, []), (48, .istore 5, 2, 5, 0, 0, 0, 0, []), (50, .iconst 0, 1, 0, 0, 0, 0, 0, []), (51, .istore 6, 2, 6, 0, 0, 0, 0, []),
  (53, .iload 6, 2, 6, 0, 0, 0, 0, []), (55, .bipush 6, 2, 0, 0, 0, 0, 6, []), (57, .if_icmp .ge 23, 3, 80, 0, 0, 0, 0, []), (60, .aload_n 0, 1, 0, 0, 0, 0, 0, []), (61, .getfield 118, 3, 6, 43, 3, 2272, 0, []), (64, .bipush 6, 2, 0, 0, 0, 0, 6, []),
  (66, .iload 5, 2, 5, 0, 0, 0, 0, []), (68, .imul, 1, 0, 0, 0, 0, 0, []), (69, .iload 6, 2, 6, 0, 0, 0, 0, []), (71, .iadd, 1, 0, 0, 0, 0, 0, []), (72, .iconst 0, 1, 0, 0, 0, 0, 0, []), (73, .iastore, 1, 0, 0, 0, 0, 0, []),
  (74, .iinc 6 1, 3, 6, 0, 0, 0, 1, []), (77, .goto (-24), 3, 53, 0, 0, 0, 0, []), (80, .iconst 1, 1, 0, 0, 0, 0, 1, []), (81, .istore 6, 2, 6, 0, 0, 0, 0, []), (83, .aload_n 0, 1, 0, 0, 0, 0, 0, []), (84, .getfield 242, 3, 6, 5, 1, 2234, 0, []),
  (87, .ifCond .ne 90, 3, 177, 0, 0, 0, 0, []), (90, .iload 6, 2, 6, 0, 0, 0, 0, []), (92, .ifCond .eq 85, 3, 177, 0, 0, 0, 0, []), (95, .aload_n 0, 1, 0, 0, 0, 0, 0, []), (96, .iconst 0, 1, 0, 0, 0, 0, 0, []), (97, .invokevirtual 331, 3, 146, 2, 1, 3167, 6, []),
  (100, .istore 7, 2, 7, 0, 0, 0, 0, []), (102, .aload_n 0, 1, 0, 0, 0, 0, 0, []), (103, .getfield 242, 3, 6, 5, 1, 2234, 0, []), (106, .ifCond .ne 28, 3, 134, 0, 0, 0, 0, []), (109, .aload_n 0, 1, 0, 0, 0, 0, 0, []), (110, .getfield 118, 3, 6, 43, 3, 2272, 0, []),
  (113, .bipush 6, 2, 0, 0, 0, 0, 6, []), (115, .iload 5, 2, 5, 0, 0, 0, 0, []), (117, .imul, 1, 0, 0, 0, 0, 0, []), (118, .iload 7, 2, 7, 0, 0, 0, 0, []), (120, .iadd, 1, 0, 0, 0, 0, 0, []), (121, .iaload, 1, 0, 0, 0, 0, 0, []),
  (122, .ifCond .le 12, 3, 134, 0, 0, 0, 0, []), (125, .aload_n 0, 1, 0, 0, 0, 0, 0, []), (126, .iconst 3, 1, 0, 0, 0, 0, 3, []), (127, .aload_n 0, 1, 0, 0, 0, 0, 0, []), (128, .getfield 290, 3, 6, 39, 1, 2268, 0, []), (131, .invokevirtual 272, 3, 130, 3, 0, 3104, 6, []),
  (134, .aload_n 0, 1, 0, 0, 0, 0, 0, []), (135, .iconst 1, 1, 0, 0, 0, 0, 1, []), (136, .bipush 9, 2, 0, 0, 0, 0, 9, []), (138, .invokevirtual 327, 3, 139, 3, 1, 3157, 6, []), (141, .istore 8, 2, 8, 0, 0, 0, 0, []), (143, .aload_n 0, 1, 0, 0, 0, 0, 0, []),
  (144, .getfield 242, 3, 6, 5, 1, 2234, 0, []), (147, .ifCond .ne 18, 3, 165, 0, 0, 0, 0, []), (150, .aload_n 0, 1, 0, 0, 0, 0, 0, []), (151, .getfield 118, 3, 6, 43, 3, 2272, 0, []), (154, .bipush 6, 2, 0, 0, 0, 0, 6, []), (156, .iload 5, 2, 5, 0, 0, 0, 0, []),
  (158, .imul, 1, 0, 0, 0, 0, 0, []), (159, .iload 7, 2, 7, 0, 0, 0, 0, []), (161, .iadd, 1, 0, 0, 0, 0, 0, []), (162, .iload 8, 2, 8, 0, 0, 0, 0, []), (164, .iastore, 1, 0, 0, 0, 0, 0, []), (165, .aload_n 0, 1, 0, 0, 0, 0, 0, []),
  (166, .invokevirtual 254, 3, 133, 1, 1, 3096, 6, []), (169, .invokestatic 258, 3, 131, 1, 4, 3116, 0, []), (172, .istore 6, 2, 6, 0, 0, 0, 0, []), (174, .goto (-91), 3, 83, 0, 0, 0, 0, []), (177, .aload_n 0, 1, 0, 0, 0, 0, 0, []), (178, .getfield 242, 3, 6, 5, 1, 2234, 0, []),
  (181, .ifCond .eq 4, 3, 185, 0, 0, 0, 0, []), (184, .return_, 1, 0, 0, 0, 0, 0, []), (185, .aload_n 0, 1, 0, 0, 0, 0, 0, []), (186, .getfield 115, 3, 6, 42, 3, 2271, 0, [])]
noncomputable def am_c149_1 : List (Nat × am_E) := [(189, .iload 5, 2, 5, 0, 0, 0, 0, []), (191, .iload 4, 2, 4, 0, 0, 0, 0, []), (193, .iastore, 1, 0, 0, 0, 0, 0, []), (194, .aload_n 0, 1, 0, 0, 0, 0, 0, []), (195, .iconst 1, 1, 0, 0, 0, 0, 1, []), (196, .lload_n 2, 1, 2, 0, 0, 0, 0, []),
  (197, .invokevirtual 319, 3, 147, 3, 0, 3145, 6, []), (200, .return_, 1, 0, 0, 0, 0, 0, [])]
noncomputable def am_c149 : List (Nat × am_E) := am_c149_0 ++ (am_c149_1)
noncomputable def am_s150 : am_S := (yX6_personTold, cX6_personTold, 6, none, 1, 0, 2, 6, 3174, 3173, 79, 523)
noncomputable def am_c150 : List (Nat × am_E) := [(0, .aload_n 0, 1, 0, 0, 0, 0, 0, []), (1, .iconst 2, 1, 0, 0, 0, 0, 2, []), (2, .iconst 5, 1, 0, 0, 0, 0, 5, []), (3, .iload_n 1, 1, 1, 0, 0, 0, 0, []), (4, .invokevirtual 312, 3, 143, 4, 4, 3123, 6, []), (7, .ifCond .eq 4, 3, 11, 0, 0, 0, 0, []),
  (10, .return_, 1, 0, 0, 0, 0, 0, []), (11, .aload_n 0, 1, 0, 0, 0, 0, 0, []), (12, .invokevirtual 316, 3, 145, 1, 2, 3127, 6, []), (15, .lstore_n 2, 1, 2, 0, 0, 0, 0, []), (16, .aload_n 0, 1, 0, 0, 0, 0, 0, []), (17, .aload_n 0, 1, 0, 0, 0, 0, 0, []),
  (18, .getfield 36, 3, 6, 15, 3, 2244, 0, []), (21, .invokevirtual 323, 3, 136, 2, 0, 3153, 6, []), (24, .aload_n 0, 1, 0, 0, 0, 0, 0, []), (25, .iconst 0, 1, 0, 0, 0, 0, 0, []), (26, .bipush 23, 2, 0, 0, 0, 0, 23, []), (28, .invokevirtual 327, 3, 139, 3, 1, 3157, 6, []),
  (31, .istore 4, 2, 4, 0, 0, 0, 0, []), (33, .aload_n 0, 1, 0, 0, 0, 0, 0, []), (34, .aload_n 0, 1, 0, 0, 0, 0, 0, []), (35, .getfield 39, 3, 6, 16, 3, 2245, 0, []), (38, .invokevirtual 323, 3, 136, 2, 0, 3153, 6, []), (41, .aload_n 0, 1, 0, 0, 0, 0, 0, []),
  (42, .iload 4, 2, 4, 0, 0, 0, 0, []), (44, .bipush 23, 2, 0, 0, 0, 0, 23, []), (46, .invokevirtual 327, 3, 139, 3, 1, 3157, 6, []), (49, .istore 5, 2, 5, 0, 0, 0, 0, []), (51, .aload_n 0, 1, 0, 0, 0, 0, 0, []), (52, .getfield 242, 3, 6, 5, 1, 2234, 0, []),
  (55, .ifCond .eq 4, 3, 59, 0, 0, 0, 0, []), (58, .return_, 1, 0, 0, 0, 0, 0, []), (59, .aload_n 0, 1, 0, 0, 0, 0, 0, []), (60, .getfield 121, 3, 6, 44, 3, 2273, 0, []), (63, .iconst 2, 1, 0, 0, 0, 0, 2, []), (64, .aload_n 0, 1, 0, 0, 0, 0, 0, []),
  (65, .getfield 108, 3, 6, 40, 3, 2269, 0, []), (68, .iconst 2, 1, 0, 0, 0, 0, 2, []), (69, .iaload, 1, 0, 0, 0, 0, 0, []), (70, .imul, 1, 0, 0, 0, 0, 0, []), (71, .iload 4, 2, 4, 0, 0, 0, 0, []), (73, .iastore, 1, 0, 0, 0, 0, 0, []),
  (74, .aload_n 0, 1, 0, 0, 0, 0, 0, []), (75, .getfield 121, 3, 6, 44, 3, 2273, 0, []), (78, .iconst 2, 1, 0, 0, 0, 0, 2, []), (79, .aload_n 0, 1, 0, 0, 0, 0, 0, []), (80, .getfield 108, 3, 6, 40, 3, 2269, 0, []), (83, .iconst 2, 1, 0, 0, 0, 0, 2, []),
  (84, .iaload, 1, 0, 0, 0, 0, 0, []), (85, .imul, 1, 0, 0, 0, 0, 0, []), (86, .iconst 1, 1, 0, 0, 0, 0, 1, []), (87, .iadd, 1, 0, 0, 0, 0, 0, []), (88, .iload 5, 2, 5, 0, 0, 0, 0, []), (90, .iastore, 1, 0, 0, 0, 0, 0, []),
  (91, .aload_n 0, 1, 0, 0, 0, 0, 0, []), (92, .iconst 2, 1, 0, 0, 0, 0, 2, []), (93, .lload_n 2, 1, 2, 0, 0, 0, 0, []), (94, .invokevirtual 319, 3, 147, 3, 0, 3145, 6, []), (97, .return_, 1, 0, 0, 0, 0, 0, [])]
noncomputable def am_s151 : am_S := (yX6_likesTold, cX6_likesTold, 4, none, 1, 0, 1, 6, 3178, 3177, 80, 523)
noncomputable def am_c151 : List (Nat × am_E) := [(0, .aload_n 0, 1, 0, 0, 0, 0, 0, []), (1, .iconst 2, 1, 0, 0, 0, 0, 2, []), (2, .invokevirtual 331, 3, 146, 2, 1, 3167, 6, []), (5, .istore_n 1, 1, 1, 0, 0, 0, 0, []), (6, .aload_n 0, 1, 0, 0, 0, 0, 0, []), (7, .iconst 0, 1, 0, 0, 0, 0, 0, []),
  (8, .invokevirtual 331, 3, 146, 2, 1, 3167, 6, []), (11, .istore_n 2, 1, 2, 0, 0, 0, 0, []), (12, .aload_n 0, 1, 0, 0, 0, 0, 0, []), (13, .iconst 0, 1, 0, 0, 0, 0, 0, []), (14, .bipush 9, 2, 0, 0, 0, 0, 9, []), (16, .invokevirtual 327, 3, 139, 3, 1, 3157, 6, []),
  (19, .istore_n 3, 1, 3, 0, 0, 0, 0, []), (20, .aload_n 0, 1, 0, 0, 0, 0, 0, []), (21, .getfield 242, 3, 6, 5, 1, 2234, 0, []), (24, .ifCond .ne 15, 3, 39, 0, 0, 0, 0, []), (27, .aload_n 0, 1, 0, 0, 0, 0, 0, []), (28, .getfield 124, 3, 6, 45, 3, 2274, 0, []),
  (31, .bipush 6, 2, 0, 0, 0, 0, 6, []), (33, .iload_n 1, 1, 1, 0, 0, 0, 0, []), (34, .imul, 1, 0, 0, 0, 0, 0, []), (35, .iload_n 2, 1, 2, 0, 0, 0, 0, []), (36, .iadd, 1, 0, 0, 0, 0, 0, []), (37, .iload_n 3, 1, 3, 0, 0, 0, 0, []),
  (38, .iastore, 1, 0, 0, 0, 0, 0, []), (39, .return_, 1, 0, 0, 0, 0, 0, [])]
noncomputable def am_s152 : am_S := (yX6_pressTold, cX6_pressTold, 2, none, 1, 0, 1, 6, 3182, 3181, 81, 523)
noncomputable def am_c152 : List (Nat × am_E) := [(0, .aload_n 0, 1, 0, 0, 0, 0, 0, []), (1, .iconst 2, 1, 0, 0, 0, 0, 2, []), (2, .invokevirtual 331, 3, 146, 2, 1, 3167, 6, []), (5, .istore_n 1, 1, 1, 0, 0, 0, 0, []), (6, .aload_n 0, 1, 0, 0, 0, 0, 0, []), (7, .getfield 242, 3, 6, 5, 1, 2234, 0, []),
  (10, .ifCond .ne 24, 3, 34, 0, 0, 0, 0, []), (13, .aload_n 0, 1, 0, 0, 0, 0, 0, []), (14, .getfield 335, 3, 6, 46, 1, 2275, 0, []), (17, .iload_n 1, 1, 1, 0, 0, 0, 0, []), (18, .ishr, 1, 0, 0, 0, 0, 0, []), (19, .iconst 1, 1, 0, 0, 0, 0, 1, []),
  (20, .iand, 1, 0, 0, 0, 0, 0, []), (21, .iconst 1, 1, 0, 0, 0, 0, 1, []), (22, .if_icmp .ne 12, 3, 34, 0, 0, 0, 0, []), (25, .aload_n 0, 1, 0, 0, 0, 0, 0, []), (26, .iconst 3, 1, 0, 0, 0, 0, 3, []), (27, .aload_n 0, 1, 0, 0, 0, 0, 0, []),
  (28, .getfield 290, 3, 6, 39, 1, 2268, 0, []), (31, .invokevirtual 272, 3, 130, 3, 0, 3104, 6, []), (34, .aload_n 0, 1, 0, 0, 0, 0, 0, []), (35, .getfield 242, 3, 6, 5, 1, 2234, 0, []), (38, .ifCond .ne 15, 3, 53, 0, 0, 0, 0, []), (41, .aload_n 0, 1, 0, 0, 0, 0, 0, []),
  (42, .dup, 1, 0, 0, 0, 0, 0, []), (43, .getfield 335, 3, 6, 46, 1, 2275, 0, []), (46, .iconst 1, 1, 0, 0, 0, 0, 1, []), (47, .iload_n 1, 1, 1, 0, 0, 0, 0, []), (48, .ishl, 1, 0, 0, 0, 0, 0, []), (49, .ior, 1, 0, 0, 0, 0, 0, []),
  (50, .putfield 335, 3, 6, 46, 1, 2275, 0, []), (53, .return_, 1, 0, 0, 0, 0, 0, [])]
noncomputable def am_s153 : am_S := (yX6_codesTold, cX6_codesTold, 4, none, 1, 0, 3, 6, 3186, 3185, 82, 523)
noncomputable def am_c153 : List (Nat × am_E) := [(0, .aload_n 0, 1, 0, 0, 0, 0, 0, []), (1, .getfield 242, 3, 6, 5, 1, 2234, 0, []), (4, .ifCond .ne 19, 3, 23, 0, 0, 0, 0, []), (7, .aload_n 0, 1, 0, 0, 0, 0, 0, []), (8, .getfield 130, 3, 6, 48, 3, 2277, 0, []), (11, .iload_n 1, 1, 1, 0, 0, 0, 0, []),
  (12, .iaload, 1, 0, 0, 0, 0, 0, []), (13, .iconst (-1), 1, 0, 0, 0, 0, (-1), []), (14, .if_icmp .eq 9, 3, 23, 0, 0, 0, 0, []), (17, .aload_n 0, 1, 0, 0, 0, 0, 0, []), (18, .iconst 5, 1, 0, 0, 0, 0, 5, []), (19, .iload_n 2, 1, 2, 0, 0, 0, 0, []),
  (20, .invokevirtual 272, 3, 130, 3, 0, 3104, 6, []), (23, .aload_n 0, 1, 0, 0, 0, 0, 0, []), (24, .getfield 242, 3, 6, 5, 1, 2234, 0, []), (27, .ifCond .eq 4, 3, 31, 0, 0, 0, 0, []), (30, .return_, 1, 0, 0, 0, 0, 0, []), (31, .aload_n 0, 1, 0, 0, 0, 0, 0, []),
  (32, .iload_n 1, 1, 1, 0, 0, 0, 0, []), (33, .putfield 297, 3, 6, 53, 1, 2282, 0, []), (36, .aload_n 0, 1, 0, 0, 0, 0, 0, []), (37, .iconst 0, 1, 0, 0, 0, 0, 0, []), (38, .putfield 338, 3, 6, 92, 1, 2593, 0, []), (41, .aload_n 0, 1, 0, 0, 0, 0, 0, []),
  (42, .iconst 0, 1, 0, 0, 0, 0, 0, []), (43, .putfield 341, 3, 6, 94, 1, 2595, 0, []), (46, .aload_n 0, 1, 0, 0, 0, 0, 0, []), (47, .iconst 0, 1, 0, 0, 0, 0, 0, []), (48, .putfield 344, 3, 6, 95, 1, 2596, 0, []), (51, .aload_n 0, 1, 0, 0, 0, 0, 0, []),
  (52, .iconst 0, 1, 0, 0, 0, 0, 0, []), (53, .putfield 347, 3, 6, 96, 1, 2597, 0, []), (56, .iload_n 1, 1, 1, 0, 0, 0, 0, []), (57, .iconst 2, 1, 0, 0, 0, 0, 2, []), (58, .if_icmp .ne 10, 3, 68, 0, 0, 0, 0, []), (61, .aload_n 0, 1, 0, 0, 0, 0, 0, []),
  (62, .invokevirtual 350, 3, 249, 1, 0, 3187, 6, []), (65, .goto 7, 3, 72, 0, 0, 0, 0, []), (68, .aload_n 0, 1, 0, 0, 0, 0, 0, []), (69, .invokevirtual 353, 3, 245, 1, 0, 3203, 6, []), (72, .aload_n 0, 1, 0, 0, 0, 0, 0, []), (73, .getfield 242, 3, 6, 5, 1, 2234, 0, []),
  (76, .ifCond .eq 4, 3, 80, 0, 0, 0, 0, []), (79, .return_, 1, 0, 0, 0, 0, 0, []), (80, .aload_n 0, 1, 0, 0, 0, 0, 0, []), (81, .getfield 130, 3, 6, 48, 3, 2277, 0, []), (84, .iload_n 1, 1, 1, 0, 0, 0, 0, []), (85, .aload_n 0, 1, 0, 0, 0, 0, 0, []),
  (86, .getfield 356, 3, 6, 51, 1, 2280, 0, []), (89, .iastore, 1, 0, 0, 0, 0, 0, []), (90, .iconst 0, 1, 0, 0, 0, 0, 0, []), (91, .istore_n 3, 1, 3, 0, 0, 0, 0, []), (92, .iload_n 3, 1, 3, 0, 0, 0, 0, []), (93, .aload_n 0, 1, 0, 0, 0, 0, 0, []),
  (94, .getfield 338, 3, 6, 92, 1, 2593, 0, []), (97, .if_icmp .ge 34, 3, 131, 0, 0, 0, 0, []), (100, .aload_n 0, 1, 0, 0, 0, 0, 0, []), (101, .getfield 136, 3, 6, 50, 3, 2279, 0, []), (104, .aload_n 0, 1, 0, 0, 0, 0, 0, []), (105, .getfield 356, 3, 6, 51, 1, 2280, 0, []),
  (108, .aload_n 0, 1, 0, 0, 0, 0, 0, []), (109, .getfield 227, 3, 6, 91, 3, 2592, 0, []), (112, .iload_n 3, 1, 3, 0, 0, 0, 0, []), (113, .iaload, 1, 0, 0, 0, 0, 0, []), (114, .iastore, 1, 0, 0, 0, 0, 0, []), (115, .aload_n 0, 1, 0, 0, 0, 0, 0, []),
  (116, .dup, 1, 0, 0, 0, 0, 0, []), (117, .getfield 356, 3, 6, 51, 1, 2280, 0, []), (120, .iconst 1, 1, 0, 0, 0, 0, 1, []), (121, .iadd, 1, 0, 0, 0, 0, 0, []), (122, .putfield 356, 3, 6, 51, 1, 2280, 0, []), (125, .iinc 3 1, 3, 3, 0, 0, 0, 1, []),
  (128, .goto (-36), 3, 92, 0, 0, 0, 0, []), (131, .aload_n 0, 1, 0, 0, 0, 0, 0, []), (132, .getfield 133, 3, 6, 49, 3, 2278, 0, []), (135, .iload_n 1, 1, 1, 0, 0, 0, 0, []), (136, .aload_n 0, 1, 0, 0, 0, 0, 0, []), (137, .getfield 356, 3, 6, 51, 1, 2280, 0, []),
  (140, .iastore, 1, 0, 0, 0, 0, 0, []), (141, .return_, 1, 0, 0, 0, 0, 0, [])]
noncomputable def am_s154 : am_S := (yX6_statementTold, cX6_statementTold, 2, none, 1, 0, 1, 6, 3103, 3102, 64, 523)
noncomputable def am_c154_0 : List (Nat × am_E) := [(0, .aload_n 0, 1, 0, 0, 0, 0, 0, []), (1, .getfield 248, 3, 6, 2, 1, 2231, 0, []), (4, .istore_n 1, 1, 1, 0, 0, 0, 0, []), (5, .aload_n 0, 1, 0, 0, 0, 0, 0, []), (6, .getfield 359, 3, 6, 52, 1, 2281, 0, []), (9, .bipush 80, 2, 0, 0, 0, 0, 80, []),
  (11, .if_icmp .ne 10, 3, 21, 0, 0, 0, 0, []), (14, .aload_n 0, 1, 0, 0, 0, 0, 0, []), (15, .iconst 5, 1, 0, 0, 0, 0, 5, []), (16, .iload_n 1, 1, 1, 0, 0, 0, 0, []), (17, .invokevirtual 272, 3, 130, 3, 0, 3104, 6, []), (20, .return_, 1, 0, 0, 0, 0, 0, []),
  (21, .aload_n 0, 1, 0, 0, 0, 0, 0, []), (22, .aload_n 0, 1, 0, 0, 0, 0, 0, []), (23, .getfield 20, 3, 6, 10, 3, 2239, 0, []), (26, .invokevirtual 269, 3, 135, 2, 4, 3108, 6, []), (29, .ifCond .eq 11, 3, 40, 0, 0, 0, 0, []), (32, .aload_n 0, 1, 0, 0, 0, 0, 0, []),
  (33, .iload_n 1, 1, 1, 0, 0, 0, 0, []), (34, .invokevirtual 362, 3, 148, 2, 0, 3119, 6, []), (37, .goto 239, 3, 276, 0, 0, 0, 0, []), (40, .aload_n 0, 1, 0, 0, 0, 0, 0, []), (41, .aload_n 0, 1, 0, 0, 0, 0, 0, []), (42, .getfield 24, 3, 6, 11, 3, 2240, 0, []),
  (45, .invokevirtual 269, 3, 135, 2, 4, 3108, 6, []), (48, .ifCond .eq 11, 3, 59, 0, 0, 0, 0, []), (51, .aload_n 0, 1, 0, 0, 0, 0, 0, []), (52, .iload_n 1, 1, 1, 0, 0, 0, 0, []), (53, .invokevirtual 366, 3, 149, 2, 0, 3149, 6, []), (56, .goto 220, 3, 276, 0, 0, 0, 0, []),
  (59, .aload_n 0, 1, 0, 0, 0, 0, 0, []), (60, .aload_n 0, 1, 0, 0, 0, 0, 0, []), (61, .getfield 33, 3, 6, 14, 3, 2243, 0, []), (64, .invokevirtual 269, 3, 135, 2, 4, 3108, 6, []), (67, .ifCond .eq 11, 3, 78, 0, 0, 0, 0, []), (70, .aload_n 0, 1, 0, 0, 0, 0, 0, []),
  (71, .iload_n 1, 1, 1, 0, 0, 0, 0, []), (72, .invokevirtual 369, 3, 150, 2, 0, 3171, 6, []), (75, .goto 201, 3, 276, 0, 0, 0, 0, []), (78, .aload_n 0, 1, 0, 0, 0, 0, 0, []), (79, .aload_n 0, 1, 0, 0, 0, 0, 0, []), (80, .getfield 42, 3, 6, 17, 3, 2246, 0, []),
  (83, .invokevirtual 269, 3, 135, 2, 4, 3108, 6, []), (86, .ifCond .eq 10, 3, 96, 0, 0, 0, 0, []), (89, .aload_n 0, 1, 0, 0, 0, 0, 0, []), (90, .invokevirtual 372, 3, 151, 1, 0, 3175, 6, []), (93, .goto 183, 3, 276, 0, 0, 0, 0, []), (96, .aload_n 0, 1, 0, 0, 0, 0, 0, []),
  (97, .aload_n 0, 1, 0, 0, 0, 0, 0, []), (98, .getfield 45, 3, 6, 18, 3, 2247, 0, []), (101, .invokevirtual 269, 3, 135, 2, 4, 3108, 6, []), (104, .ifCond .eq 10, 3, 114, 0, 0, 0, 0, []), (107, .aload_n 0, 1, 0, 0, 0, 0, 0, []), (108, .invokevirtual 375, 3, 152, 1, 0, 3179, 6, []),
  (111, .goto 165, 3, 276, 0, 0, 0, 0, []), (114, .aload_n 0, 1, 0, 0, 0, 0, 0, []), (115, .aload_n 0, 1, 0, 0, 0, 0, 0, []), (116, .getfield 48, 3, 6, 19, 3, 2248, 0, []), (119, .invokevirtual 269, 3, 135, 2, 4, 3108, 6, []), (122, .ifCond .eq 12, 3, 134, 0, 0, 0, 0, []),
  (125, .aload_n 0, 1, 0, 0, 0, 0, 0, []), (126, .iconst 0, 1, 0, 0, 0, 0, 0, []), (127, .iload_n 1, 1, 1, 0, 0, 0, 0, []), (128, .invokevirtual 378, 3, 153, 3, 0, 3183, 6, []), (131, .goto 145, 3, 276, 0, 0, 0, 0, []), (134, .aload_n 0, 1, 0, 0, 0, 0, 0, []),
  (135, .aload_n 0, 1, 0, 0, 0, 0, 0, []), (136, .getfield 51, 3, 6, 20, 3, 2249, 0, []), (139, .invokevirtual 269, 3, 135, 2, 4, 3108, 6, []), (142, .ifCond .eq 12, 3, 154, 0, 0, 0, 0, []), (145, .aload_n 0, 1, 0, 0, 0, 0, 0, []), (146, .iconst 1, 1, 0, 0, 0, 0, 1, []),
  (147, .iload_n 1, 1, 1, 0, 0, 0, 0, []), (148, .invokevirtual 378, 3, 153, 3, 0, 3183, 6, []), (151, .goto 125, 3, 276, 0, 0, 0, 0, []), (154, .aload_n 0, 1, 0, 0, 0, 0, 0, []), (155, .aload_n 0, 1, 0, 0, 0, 0, 0, []), (156, .getfield 54, 3, 6, 21, 3, 2250, 0, []),
  (159, .invokevirtual 269, 3, 135, 2, 4, 3108, 6, []), (162, .ifCond .eq 12, 3, 174, 0, 0, 0, 0, []), (165, .aload_n 0, 1, 0, 0, 0, 0, 0, []), (166, .iconst 2, 1, 0, 0, 0, 0, 2, []), (167, .iload_n 1, 1, 1, 0, 0, 0, 0, []), (168, .invokevirtual 378, 3, 153, 3, 0, 3183, 6, []),
  (171, .goto 105, 3, 276, 0, 0, 0, 0, []), (174, .aload_n 0, 1, 0, 0, 0, 0, 0, []), (175, .aload_n 0, 1, 0, 0, 0, 0, 0, []), (176, .getfield 57, 3, 6, 22, 3, 2251, 0, []), (179, .invokevirtual 269, 3, 135, 2, 4, 3108, 6, []), (182, .ifCond .eq 18, 3, 200, 0, 0, 0, 0, []),
  (185, .aload_n 0, 1, 0, 0, 0, 0, 0, []), (186, .getfield 127, 3, 6, 47, 3, 2276, 0, []), (189, .iconst 0, 1, 0, 0, 0, 0, 0, []), (190, .aload_n 0, 1, 0, 0, 0, 0, 0, []), (191, .iconst 1, 1, 0, 0, 0, 0, 1, []), (192, .iconst 5, 1, 0, 0, 0, 0, 5, []),
  (193, .invokevirtual 327, 3, 139, 3, 1, 3157, 6, []), (196, .iastore, 1, 0, 0, 0, 0, 0, []), (197, .goto 79, 3, 276, 0, 0, 0, 0, []), (200, .aload_n 0, 1, 0, 0, 0, 0, 0, [])]
noncomputable def am_c154_1 : List (Nat × am_E) := [(201, .aload_n 0, 1, 0, 0, 0, 0, 0, []), (202, .getfield 60, 3, 6, 23, 3, 2252, 0, []), (205, .invokevirtual 269, 3, 135, 2, 4, 3108, 6, []), (208, .ifCond .eq 20, 3, 228, 0, 0, 0, 0, []), (211, .aload_n 0, 1, 0, 0, 0, 0, 0, []), (212, .getfield 127, 3, 6, 47, 3, 2276, 0, []),
  (215, .iconst 1, 1, 0, 0, 0, 0, 1, []), (216, .aload_n 0, 1, 0, 0, 0, 0, 0, []), (217, .iconst 0, 1, 0, 0, 0, 0, 0, []), (218, .sipush 999, 3, 0, 0, 0, 0, 999, []), (221, .invokevirtual 327, 3, 139, 3, 1, 3157, 6, []), (224, .iastore, 1, 0, 0, 0, 0, 0, []),
  (225, .goto 51, 3, 276, 0, 0, 0, 0, []), (228, .aload_n 0, 1, 0, 0, 0, 0, 0, []), (229, .aload_n 0, 1, 0, 0, 0, 0, 0, []), (230, .getfield 63, 3, 6, 24, 3, 2253, 0, []), (233, .invokevirtual 269, 3, 135, 2, 4, 3108, 6, []), (236, .ifCond .eq 19, 3, 255, 0, 0, 0, 0, []),
  (239, .aload_n 0, 1, 0, 0, 0, 0, 0, []), (240, .getfield 127, 3, 6, 47, 3, 2276, 0, []), (243, .iconst 2, 1, 0, 0, 0, 0, 2, []), (244, .aload_n 0, 1, 0, 0, 0, 0, 0, []), (245, .iconst 0, 1, 0, 0, 0, 0, 0, []), (246, .bipush 99, 2, 0, 0, 0, 0, 99, []),
  (248, .invokevirtual 327, 3, 139, 3, 1, 3157, 6, []), (251, .iastore, 1, 0, 0, 0, 0, 0, []), (252, .goto 24, 3, 276, 0, 0, 0, 0, []), (255, .aload_n 0, 1, 0, 0, 0, 0, 0, []), (256, .aload_n 0, 1, 0, 0, 0, 0, 0, []), (257, .getfield 66, 3, 6, 25, 3, 2254, 0, []),
  (260, .invokevirtual 323, 3, 136, 2, 0, 3153, 6, []), (263, .aload_n 0, 1, 0, 0, 0, 0, 0, []), (264, .getfield 127, 3, 6, 47, 3, 2276, 0, []), (267, .iconst 3, 1, 0, 0, 0, 0, 3, []), (268, .aload_n 0, 1, 0, 0, 0, 0, 0, []), (269, .iconst 0, 1, 0, 0, 0, 0, 0, []),
  (270, .bipush 100, 2, 0, 0, 0, 0, 100, []), (272, .invokevirtual 327, 3, 139, 3, 1, 3157, 6, []), (275, .iastore, 1, 0, 0, 0, 0, 0, []), (276, .aload_n 0, 1, 0, 0, 0, 0, 0, []), (277, .bipush 59, 2, 0, 0, 0, 0, 59, []), (279, .invokevirtual 381, 3, 138, 2, 0, 3225, 6, []),
  (282, .aload_n 0, 1, 0, 0, 0, 0, 0, []), (283, .dup, 1, 0, 0, 0, 0, 0, []), (284, .getfield 359, 3, 6, 52, 1, 2281, 0, []), (287, .iconst 1, 1, 0, 0, 0, 0, 1, []), (288, .iadd, 1, 0, 0, 0, 0, 0, []), (289, .putfield 359, 3, 6, 52, 1, 2281, 0, []),
  (292, .return_, 1, 0, 0, 0, 0, 0, [])]
noncomputable def am_c154 : List (Nat × am_E) := am_c154_0 ++ (am_c154_1)
noncomputable def am_s155 : am_S := (yX6_house, cX6_house, 2, (some .int), 1, 1, 1, 6, 3095, 3093, 3094, 523)
noncomputable def am_c155_0 : List (Nat × am_E) := [(0, .aload_n 0, 1, 0, 0, 0, 0, 0, []), (1, .aload_n 0, 1, 0, 0, 0, 0, 0, []), (2, .getfield 239, 3, 6, 1, 1, 2230, 0, []), (5, .putfield 251, 3, 6, 3, 1, 2232, 0, []), (8, .aload_n 0, 1, 0, 0, 0, 0, 0, []), (9, .iconst 0, 1, 0, 0, 0, 0, 0, []),
  (10, .putfield 239, 3, 6, 1, 1, 2230, 0, []), (13, .aload_n 0, 1, 0, 0, 0, 0, 0, []), (14, .iconst 0, 1, 0, 0, 0, 0, 0, []), (15, .putfield 248, 3, 6, 2, 1, 2231, 0, []), (18, .aload_n 0, 1, 0, 0, 0, 0, 0, []), (19, .iconst (-1), 1, 0, 0, 0, 0, (-1), []),
  (20, .putfield 262, 3, 6, 4, 1, 2233, 0, []), (23, .aload_n 0, 1, 0, 0, 0, 0, 0, []), (24, .iconst 0, 1, 0, 0, 0, 0, 0, []), (25, .putfield 242, 3, 6, 5, 1, 2234, 0, []), (28, .aload_n 0, 1, 0, 0, 0, 0, 0, []), (29, .iconst (-1), 1, 0, 0, 0, 0, (-1), []),
  (30, .putfield 245, 3, 6, 6, 1, 2235, 0, []), (33, .aload_n 0, 1, 0, 0, 0, 0, 0, []), (34, .iconst 0, 1, 0, 0, 0, 0, 0, []), (35, .putfield 359, 3, 6, 52, 1, 2281, 0, []), (38, .aload_n 0, 1, 0, 0, 0, 0, 0, []), (39, .iconst 0, 1, 0, 0, 0, 0, 0, []),
  (40, .putfield 356, 3, 6, 51, 1, 2280, 0, []), (43, .aload_n 0, 1, 0, 0, 0, 0, 0, []), (44, .iconst 0, 1, 0, 0, 0, 0, 0, []), (45, .putfield 335, 3, 6, 46, 1, 2275, 0, []), (48, .iconst 0, 1, 0, 0, 0, 0, 0, []), (49, .istore_n 1, 1, 1, 0, 0, 0, 0, []),
  (50, .iload_n 1, 1, 1, 0, 0, 0, 0, []), (51, .iconst 3, 1, 0, 0, 0, 0, 3, []), (52, .if_icmp .ge 23, 3, 75, 0, 0, 0, 0, []), (55, .aload_n 0, 1, 0, 0, 0, 0, 0, []), (56, .getfield 108, 3, 6, 40, 3, 2269, 0, []), (59, .iload_n 1, 1, 1, 0, 0, 0, 0, []),
  (60, .iconst 0, 1, 0, 0, 0, 0, 0, []), (61, .iastore, 1, 0, 0, 0, 0, 0, []), (62, .aload_n 0, 1, 0, 0, 0, 0, 0, []), (63, .getfield 130, 3, 6, 48, 3, 2277, 0, []), (66, .iload_n 1, 1, 1, 0, 0, 0, 0, []), (67, .iconst (-1), 1, 0, 0, 0, 0, (-1), []),
  (68, .iastore, 1, 0, 0, 0, 0, 0, []), (69, .iinc 1 1, 3, 1, 0, 0, 0, 1, []), (72, .goto (-22), 3, 50, 0, 0, 0, 0, []), (75, .iconst 0, 1, 0, 0, 0, 0, 0, []), (76, .istore_n 1, 1, 1, 0, 0, 0, 0, []), (77, .iload_n 1, 1, 1, 0, 0, 0, 0, []),
  (78, .bipush 30, 2, 0, 0, 0, 0, 30, []), (80, .if_icmp .ge 16, 3, 96, 0, 0, 0, 0, []), (83, .aload_n 0, 1, 0, 0, 0, 0, 0, []), (84, .getfield 124, 3, 6, 45, 3, 2274, 0, []), (87, .iload_n 1, 1, 1, 0, 0, 0, 0, []), (88, .iconst 0, 1, 0, 0, 0, 0, 0, []),
  (89, .iastore, 1, 0, 0, 0, 0, 0, []), (90, .iinc 1 1, 3, 1, 0, 0, 0, 1, []), (93, .goto (-16), 3, 77, 0, 0, 0, 0, []), (96, .aload_n 0, 1, 0, 0, 0, 0, 0, []), (97, .getfield 127, 3, 6, 47, 3, 2276, 0, []), (100, .iconst 0, 1, 0, 0, 0, 0, 0, []),
  (101, .iconst 5, 1, 0, 0, 0, 0, 5, []), (102, .iastore, 1, 0, 0, 0, 0, 0, []), (103, .aload_n 0, 1, 0, 0, 0, 0, 0, []), (104, .getfield 127, 3, 6, 47, 3, 2276, 0, []), (107, .iconst 1, 1, 0, 0, 0, 0, 1, []), (108, .iconst 0, 1, 0, 0, 0, 0, 0, []),
  (109, .iastore, 1, 0, 0, 0, 0, 0, []), (110, .aload_n 0, 1, 0, 0, 0, 0, 0, []), (111, .getfield 127, 3, 6, 47, 3, 2276, 0, []), (114, .iconst 2, 1, 0, 0, 0, 0, 2, []), (115, .iconst 0, 1, 0, 0, 0, 0, 0, []), (116, .iastore, 1, 0, 0, 0, 0, 0, []),
  (117, .aload_n 0, 1, 0, 0, 0, 0, 0, []), (118, .getfield 127, 3, 6, 47, 3, 2276, 0, []), (121, .iconst 3, 1, 0, 0, 0, 0, 3, []), (122, .iconst 0, 1, 0, 0, 0, 0, 0, []), (123, .iastore, 1, 0, 0, 0, 0, 0, []), (124, .aload_n 0, 1, 0, 0, 0, 0, 0, []),
  (125, .getfield 242, 3, 6, 5, 1, 2234, 0, []), (128, .ifCond .ne 18, 3, 146, 0, 0, 0, 0, []), (131, .aload_n 0, 1, 0, 0, 0, 0, 0, []), (132, .invokevirtual 254, 3, 133, 1, 1, 3096, 6, []), (135, .iconst (-1), 1, 0, 0, 0, 0, (-1), []), (136, .if_icmp .eq 10, 3, 146, 0, 0, 0, 0, []),
  (139, .aload_n 0, 1, 0, 0, 0, 0, 0, []), (140, .invokevirtual 384, 3, 154, 1, 0, 3100, 6, []), (143, .goto (-19), 3, 124, 0, 0, 0, 0, []), (146, .aload_n 0, 1, 0, 0, 0, 0, 0, []), (147, .aload_n 0, 1, 0, 0, 0, 0, 0, []), (148, .getfield 242, 3, 6, 5, 1, 2234, 0, []),
  (151, .putfield 387, 3, 6, 7, 1, 2236, 0, []), (154, .aload_n 0, 1, 0, 0, 0, 0, 0, []), (155, .aload_n 0, 1, 0, 0, 0, 0, 0, []), (156, .getfield 245, 3, 6, 6, 1, 2235, 0, []), (159, .putfield 13, 3, 6, 8, 1, 2237, 0, []), (162, .aload_n 0, 1, 0, 0, 0, 0, 0, []),
  (163, .getfield 242, 3, 6, 5, 1, 2234, 0, []), (166, .ifCond .eq 15, 3, 181, 0, 0, 0, 0, []), (169, .aload_n 0, 1, 0, 0, 0, 0, 0, []), (170, .getfield 17, 3, 6, 9, 3, 2238, 0, [])]
noncomputable def am_c155_1 : List (Nat × am_E) := [(173, .iconst 1, 1, 0, 0, 0, 0, 1, []), (174, .dup2, 1, 0, 0, 0, 0, 0, []), (175, .iaload, 1, 0, 0, 0, 0, 0, []), (176, .iconst 1, 1, 0, 0, 0, 0, 1, []), (177, .iadd, 1, 0, 0, 0, 0, 0, []), (178, .iastore, 1, 0, 0, 0, 0, 0, []),
  (179, .iconst (-1), 1, 0, 0, 0, 0, (-1), []), (180, .ireturn, 1, 0, 0, 1, 0, 0, []), (181, .aload_n 0, 1, 0, 0, 0, 0, 0, []), (182, .invokevirtual 390, 3, 156, 1, 0, 3276, 6, []), (185, .aload_n 0, 1, 0, 0, 0, 0, 0, []), (186, .getfield 359, 3, 6, 52, 1, 2281, 0, []),
  (189, .ireturn, 1, 0, 0, 1, 0, 0, [])]
noncomputable def am_c155 : List (Nat × am_E) := am_c155_0 ++ (am_c155_1)
noncomputable def am_s156 : am_S := (yX6_stands, cX6_stands, 2, none, 1, 0, 1, 6, 3279, 3278, 104, 523)
noncomputable def am_c156_0 : List (Nat × am_E) := [(0, .iconst 0, 1, 0, 0, 0, 0, 0, []), (1, .istore_n 1, 1, 1, 0, 0, 0, 0, []), (2, .iload_n 1, 1, 1, 0, 0, 0, 0, []), (3, .iconst 3, 1, 0, 0, 0, 0, 3, []), (4, .if_icmp .ge 51, 3, 55, 0, 0, 0, 0, []), (7, .aload_n 0, 1, 0, 0, 0, 0, 0, []),
  (8, .getfield 108, 3, 6, 40, 3, 2269, 0, []), (11, .iconst 3, 1, 0, 0, 0, 0, 3, []), (12, .iload_n 1, 1, 1, 0, 0, 0, 0, []), (13, .iadd, 1, 0, 0, 0, 0, 0, []), (14, .aload_n 0, 1, 0, 0, 0, 0, 0, []), (15, .getfield 108, 3, 6, 40, 3, 2269, 0, []),
  (18, .iload_n 1, 1, 1, 0, 0, 0, 0, []), (19, .iaload, 1, 0, 0, 0, 0, 0, []), (20, .iastore, 1, 0, 0, 0, 0, 0, []), (21, .aload_n 0, 1, 0, 0, 0, 0, 0, []), (22, .getfield 130, 3, 6, 48, 3, 2277, 0, []), (25, .iconst 3, 1, 0, 0, 0, 0, 3, []),
  (26, .iload_n 1, 1, 1, 0, 0, 0, 0, []), (27, .iadd, 1, 0, 0, 0, 0, 0, []), (28, .aload_n 0, 1, 0, 0, 0, 0, 0, []), (29, .getfield 130, 3, 6, 48, 3, 2277, 0, []), (32, .iload_n 1, 1, 1, 0, 0, 0, 0, []), (33, .iaload, 1, 0, 0, 0, 0, 0, []),
  (34, .iastore, 1, 0, 0, 0, 0, 0, []), (35, .aload_n 0, 1, 0, 0, 0, 0, 0, []), (36, .getfield 133, 3, 6, 49, 3, 2278, 0, []), (39, .iconst 3, 1, 0, 0, 0, 0, 3, []), (40, .iload_n 1, 1, 1, 0, 0, 0, 0, []), (41, .iadd, 1, 0, 0, 0, 0, 0, []),
  (42, .aload_n 0, 1, 0, 0, 0, 0, 0, []), (43, .getfield 133, 3, 6, 49, 3, 2278, 0, []), (46, .iload_n 1, 1, 1, 0, 0, 0, 0, []), (47, .iaload, 1, 0, 0, 0, 0, 0, []), (48, .iastore, 1, 0, 0, 0, 0, 0, []), (49, .iinc 1 1, 3, 1, 0, 0, 0, 1, []),
  (52, .goto (-50), 3, 2, 0, 0, 0, 0, []), (55, .iconst 0, 1, 0, 0, 0, 0, 0, []), (56, .istore_n 1, 1, 1, 0, 0, 0, 0, []), (57, .iload_n 1, 1, 1, 0, 0, 0, 0, []), (58, .bipush 24, 2, 0, 0, 0, 0, 24, []), (60, .if_icmp .ge 24, 3, 84, 0, 0, 0, 0, []),
  (63, .aload_n 0, 1, 0, 0, 0, 0, 0, []), (64, .getfield 111, 3, 6, 41, 3, 2270, 0, []), (67, .bipush 24, 2, 0, 0, 0, 0, 24, []), (69, .iload_n 1, 1, 1, 0, 0, 0, 0, []), (70, .iadd, 1, 0, 0, 0, 0, 0, []), (71, .aload_n 0, 1, 0, 0, 0, 0, 0, []),
  (72, .getfield 111, 3, 6, 41, 3, 2270, 0, []), (75, .iload_n 1, 1, 1, 0, 0, 0, 0, []), (76, .laload, 1, 0, 0, 0, 0, 0, []), (77, .lastore, 1, 0, 0, 0, 0, 0, []), (78, .iinc 1 1, 3, 1, 0, 0, 0, 1, []), (81, .goto (-24), 3, 57, 0, 0, 0, 0, []),
  (84, .iconst 0, 1, 0, 0, 0, 0, 0, []), (85, .istore_n 1, 1, 1, 0, 0, 0, 0, []), (86, .iload_n 1, 1, 1, 0, 0, 0, 0, []), (87, .bipush 8, 2, 0, 0, 0, 0, 8, []), (89, .if_icmp .ge 24, 3, 113, 0, 0, 0, 0, []), (92, .aload_n 0, 1, 0, 0, 0, 0, 0, []),
  (93, .getfield 115, 3, 6, 42, 3, 2271, 0, []), (96, .bipush 8, 2, 0, 0, 0, 0, 8, []), (98, .iload_n 1, 1, 1, 0, 0, 0, 0, []), (99, .iadd, 1, 0, 0, 0, 0, 0, []), (100, .aload_n 0, 1, 0, 0, 0, 0, 0, []), (101, .getfield 115, 3, 6, 42, 3, 2271, 0, []),
  (104, .iload_n 1, 1, 1, 0, 0, 0, 0, []), (105, .iaload, 1, 0, 0, 0, 0, 0, []), (106, .iastore, 1, 0, 0, 0, 0, 0, []), (107, .iinc 1 1, 3, 1, 0, 0, 0, 1, []), (110, .goto (-24), 3, 86, 0, 0, 0, 0, []), (113, .iconst 0, 1, 0, 0, 0, 0, 0, []),
  (114, .istore_n 1, 1, 1, 0, 0, 0, 0, []), (115, .iload_n 1, 1, 1, 0, 0, 0, 0, []), (116, .bipush 48, 2, 0, 0, 0, 0, 48, []), (118, .if_icmp .ge 24, 3, 142, 0, 0, 0, 0, []), (121, .aload_n 0, 1, 0, 0, 0, 0, 0, []), (122, .getfield 118, 3, 6, 43, 3, 2272, 0, []),
  (125, .bipush 48, 2, 0, 0, 0, 0, 48, []), (127, .iload_n 1, 1, 1, 0, 0, 0, 0, []), (128, .iadd, 1, 0, 0, 0, 0, 0, []), (129, .aload_n 0, 1, 0, 0, 0, 0, 0, []), (130, .getfield 118, 3, 6, 43, 3, 2272, 0, []), (133, .iload_n 1, 1, 1, 0, 0, 0, 0, []),
  (134, .iaload, 1, 0, 0, 0, 0, 0, []), (135, .iastore, 1, 0, 0, 0, 0, 0, []), (136, .iinc 1 1, 3, 1, 0, 0, 0, 1, []), (139, .goto (-24), 3, 115, 0, 0, 0, 0, []), (142, .iconst 0, 1, 0, 0, 0, 0, 0, []), (143, .istore_n 1, 1, 1, 0, 0, 0, 0, []),
  (144, .iload_n 1, 1, 1, 0, 0, 0, 0, []), (145, .bipush 10, 2, 0, 0, 0, 0, 10, []), (147, .if_icmp .ge 24, 3, 171, 0, 0, 0, 0, []), (150, .aload_n 0, 1, 0, 0, 0, 0, 0, []), (151, .getfield 121, 3, 6, 44, 3, 2273, 0, []), (154, .bipush 10, 2, 0, 0, 0, 0, 10, []),
  (156, .iload_n 1, 1, 1, 0, 0, 0, 0, []), (157, .iadd, 1, 0, 0, 0, 0, 0, []), (158, .aload_n 0, 1, 0, 0, 0, 0, 0, []), (159, .getfield 121, 3, 6, 44, 3, 2273, 0, [])]
noncomputable def am_c156_1 : List (Nat × am_E) := [(162, .iload_n 1, 1, 1, 0, 0, 0, 0, []), (163, .iaload, 1, 0, 0, 0, 0, 0, []), (164, .iastore, 1, 0, 0, 0, 0, 0, []), (165, .iinc 1 1, 3, 1, 0, 0, 0, 1, []), (168, .goto (-24), 3, 144, 0, 0, 0, 0, []), (171, .iconst 0, 1, 0, 0, 0, 0, 0, []),
  (172, .istore_n 1, 1, 1, 0, 0, 0, 0, []), (173, .iload_n 1, 1, 1, 0, 0, 0, 0, []), (174, .bipush 30, 2, 0, 0, 0, 0, 30, []), (176, .if_icmp .ge 24, 3, 200, 0, 0, 0, 0, []), (179, .aload_n 0, 1, 0, 0, 0, 0, 0, []), (180, .getfield 124, 3, 6, 45, 3, 2274, 0, []),
  (183, .bipush 30, 2, 0, 0, 0, 0, 30, []), (185, .iload_n 1, 1, 1, 0, 0, 0, 0, []), (186, .iadd, 1, 0, 0, 0, 0, 0, []), (187, .aload_n 0, 1, 0, 0, 0, 0, 0, []), (188, .getfield 124, 3, 6, 45, 3, 2274, 0, []), (191, .iload_n 1, 1, 1, 0, 0, 0, 0, []),
  (192, .iaload, 1, 0, 0, 0, 0, 0, []), (193, .iastore, 1, 0, 0, 0, 0, 0, []), (194, .iinc 1 1, 3, 1, 0, 0, 0, 1, []), (197, .goto (-24), 3, 173, 0, 0, 0, 0, []), (200, .iconst 0, 1, 0, 0, 0, 0, 0, []), (201, .istore_n 1, 1, 1, 0, 0, 0, 0, []),
  (202, .iload_n 1, 1, 1, 0, 0, 0, 0, []), (203, .iconst 4, 1, 0, 0, 0, 0, 4, []), (204, .if_icmp .ge 23, 3, 227, 0, 0, 0, 0, []), (207, .aload_n 0, 1, 0, 0, 0, 0, 0, []), (208, .getfield 127, 3, 6, 47, 3, 2276, 0, []), (211, .iconst 4, 1, 0, 0, 0, 0, 4, []),
  (212, .iload_n 1, 1, 1, 0, 0, 0, 0, []), (213, .iadd, 1, 0, 0, 0, 0, 0, []), (214, .aload_n 0, 1, 0, 0, 0, 0, 0, []), (215, .getfield 127, 3, 6, 47, 3, 2276, 0, []), (218, .iload_n 1, 1, 1, 0, 0, 0, 0, []), (219, .iaload, 1, 0, 0, 0, 0, 0, []),
  (220, .iastore, 1, 0, 0, 0, 0, 0, []), (221, .iinc 1 1, 3, 1, 0, 0, 0, 1, []), (224, .goto (-22), 3, 202, 0, 0, 0, 0, []), (227, .iconst 0, 1, 0, 0, 0, 0, 0, []), (228, .istore_n 1, 1, 1, 0, 0, 0, 0, []), (229, .iload_n 1, 1, 1, 0, 0, 0, 0, []),
  (230, .aload_n 0, 1, 0, 0, 0, 0, 0, []), (231, .getfield 356, 3, 6, 51, 1, 2280, 0, []), (234, .if_icmp .ge 25, 3, 259, 0, 0, 0, 0, []), (237, .aload_n 0, 1, 0, 0, 0, 0, 0, []), (238, .getfield 136, 3, 6, 50, 3, 2279, 0, []), (241, .sipush 1600, 3, 0, 0, 0, 0, 1600, []),
  (244, .iload_n 1, 1, 1, 0, 0, 0, 0, []), (245, .iadd, 1, 0, 0, 0, 0, 0, []), (246, .aload_n 0, 1, 0, 0, 0, 0, 0, []), (247, .getfield 136, 3, 6, 50, 3, 2279, 0, []), (250, .iload_n 1, 1, 1, 0, 0, 0, 0, []), (251, .iaload, 1, 0, 0, 0, 0, 0, []),
  (252, .iastore, 1, 0, 0, 0, 0, 0, []), (253, .iinc 1 1, 3, 1, 0, 0, 0, 1, []), (256, .goto (-27), 3, 229, 0, 0, 0, 0, []), (259, .iconst 0, 1, 0, 0, 0, 0, 0, []), (260, .istore_n 1, 1, 1, 0, 0, 0, 0, []), (261, .iload_n 1, 1, 1, 0, 0, 0, 0, []),
  (262, .sipush 257, 3, 0, 0, 0, 0, 257, []), (265, .if_icmp .ge 16, 3, 281, 0, 0, 0, 0, []), (268, .aload_n 0, 1, 0, 0, 0, 0, 0, []), (269, .getfield 139, 3, 6, 54, 3, 2283, 0, []), (272, .iload_n 1, 1, 1, 0, 0, 0, 0, []), (273, .iconst 0, 1, 0, 0, 0, 0, 0, []),
  (274, .iastore, 1, 0, 0, 0, 0, 0, []), (275, .iinc 1 1, 3, 1, 0, 0, 0, 1, []), (278, .goto (-17), 3, 261, 0, 0, 0, 0, []), (281, .aload_n 0, 1, 0, 0, 0, 0, 0, []), (282, .aload_n 0, 1, 0, 0, 0, 0, 0, []), (283, .getfield 335, 3, 6, 46, 1, 2275, 0, []),
  (286, .invokevirtual 393, 3, 168, 2, 0, 3280, 6, []), (289, .aload_n 0, 1, 0, 0, 0, 0, 0, []), (290, .iconst 0, 1, 0, 0, 0, 0, 0, []), (291, .putfield 396, 3, 6, 68, 1, 2569, 0, []), (294, .aload_n 0, 1, 0, 0, 0, 0, 0, []), (295, .iconst 0, 1, 0, 0, 0, 0, 0, []),
  (296, .putfield 399, 3, 6, 65, 1, 2566, 0, []), (299, .return_, 1, 0, 0, 0, 0, 0, [])]
noncomputable def am_c156 : List (Nat × am_E) := am_c156_0 ++ (am_c156_1)
noncomputable def am_s157 : am_S := (yX6_fault, cX6_fault, 2, (some .int), 1, 1, 2, 6, 3291, 3289, 3290, 523)
noncomputable def am_c157 : List (Nat × am_E) := [(0, .iload_n 1, 1, 1, 0, 0, 0, 0, []), (1, .ifCond .ne 10, 3, 11, 0, 0, 0, 0, []), (4, .aload_n 0, 1, 0, 0, 0, 0, 0, []), (5, .getfield 387, 3, 6, 7, 1, 2236, 0, []), (8, .goto 16, 3, 24, 0, 0, 0, 0, []), (11, .iload_n 1, 1, 1, 0, 0, 0, 0, []),
  (12, .iconst 1, 1, 0, 0, 0, 0, 1, []), (13, .if_icmp .ne 10, 3, 23, 0, 0, 0, 0, []), (16, .aload_n 0, 1, 0, 0, 0, 0, 0, []), (17, .getfield 13, 3, 6, 8, 1, 2237, 0, []), (20, .goto 4, 3, 24, 0, 0, 0, 0, []), (23, .iconst (-1), 1, 0, 0, 0, 0, (-1), []),
  (24, .ireturn, 1, 0, 0, 1, 0, 0, [])]
noncomputable def am_s158 : am_S := (yX6_kindMany, cX6_kindMany, 1, (some .int), 1, 1, 1, 6, 3611, 3610, 114, 523)
noncomputable def am_c158 : List (Nat × am_E) := [(0, .aload_n 0, 1, 0, 0, 0, 0, 0, []), (1, .getfield 108, 3, 6, 40, 3, 2269, 0, []), (4, .iconst 3, 1, 0, 0, 0, 0, 3, []), (5, .iaload, 1, 0, 0, 0, 0, 0, []), (6, .ireturn, 1, 0, 0, 1, 0, 0, [])]
noncomputable def am_s159 : am_S := (yX6_filmMany, cX6_filmMany, 1, (some .int), 1, 1, 1, 6, 3603, 3602, 112, 523)
noncomputable def am_c159 : List (Nat × am_E) := [(0, .aload_n 0, 1, 0, 0, 0, 0, 0, []), (1, .getfield 108, 3, 6, 40, 3, 2269, 0, []), (4, .iconst 4, 1, 0, 0, 0, 0, 4, []), (5, .iaload, 1, 0, 0, 0, 0, 0, []), (6, .ireturn, 1, 0, 0, 1, 0, 0, [])]
noncomputable def am_s160 : am_S := (yX6_personMany, cX6_personMany, 1, (some .int), 1, 1, 1, 6, 3287, 3286, 106, 523)
noncomputable def am_c160 : List (Nat × am_E) := [(0, .aload_n 0, 1, 0, 0, 0, 0, 0, []), (1, .getfield 108, 3, 6, 40, 3, 2269, 0, []), (4, .iconst 5, 1, 0, 0, 0, 0, 5, []), (5, .iaload, 1, 0, 0, 0, 0, 0, []), (6, .ireturn, 1, 0, 0, 1, 0, 0, [])]
noncomputable def am_s161 : am_S := (yX6_isKind, cX6_isKind, 2, (some .boolean), 1, 4, 2, 6, 3607, 3606, 113, 523)
noncomputable def am_c161 : List (Nat × am_E) := [(0, .iload_n 1, 1, 1, 0, 0, 0, 0, []), (1, .i2l, 1, 0, 0, 0, 0, 0, []), (2, .lconst 0, 1, 0, 0, 0, 0, 0, []), (3, .aload_n 0, 1, 0, 0, 0, 0, 0, []), (4, .invokevirtual 402, 3, 158, 1, 1, 3608, 6, []), (7, .iconst 1, 1, 0, 0, 0, 0, 1, []),
  (8, .isub, 1, 0, 0, 0, 0, 0, []), (9, .i2l, 1, 0, 0, 0, 0, 0, []), (10, .invokestatic 282, 3, 127, 3, 4, 3164, 0, []), (13, .ireturn, 1, 0, 0, 4, 0, 0, [])]
noncomputable def am_s162 : am_S := (yX6_isFilm, cX6_isFilm, 2, (some .boolean), 1, 4, 2, 6, 3599, 3598, 111, 523)
noncomputable def am_c162 : List (Nat × am_E) := [(0, .iload_n 1, 1, 1, 0, 0, 0, 0, []), (1, .i2l, 1, 0, 0, 0, 0, 0, []), (2, .lconst 0, 1, 0, 0, 0, 0, 0, []), (3, .aload_n 0, 1, 0, 0, 0, 0, 0, []), (4, .invokevirtual 405, 3, 159, 1, 1, 3600, 6, []), (7, .iconst 1, 1, 0, 0, 0, 0, 1, []),
  (8, .isub, 1, 0, 0, 0, 0, 0, []), (9, .i2l, 1, 0, 0, 0, 0, 0, []), (10, .invokestatic 282, 3, 127, 3, 4, 3164, 0, []), (13, .ireturn, 1, 0, 0, 4, 0, 0, [])]
noncomputable def am_s163 : am_S := (yX6_isPerson, cX6_isPerson, 2, (some .boolean), 1, 4, 2, 6, 3627, 3626, 117, 523)
noncomputable def am_c163 : List (Nat × am_E) := [(0, .iload_n 1, 1, 1, 0, 0, 0, 0, []), (1, .i2l, 1, 0, 0, 0, 0, 0, []), (2, .lconst 0, 1, 0, 0, 0, 0, 0, []), (3, .aload_n 0, 1, 0, 0, 0, 0, 0, []), (4, .invokevirtual 408, 3, 160, 1, 1, 3284, 6, []), (7, .iconst 1, 1, 0, 0, 0, 0, 1, []),
  (8, .isub, 1, 0, 0, 0, 0, 0, []), (9, .i2l, 1, 0, 0, 0, 0, 0, []), (10, .invokestatic 282, 3, 127, 3, 4, 3164, 0, []), (13, .ireturn, 1, 0, 0, 4, 0, 0, [])]
noncomputable def am_s164 : am_S := (yX6_partsOf, cX6_partsOf, 2, (some .int), 1, 1, 2, 6, 3619, 3618, 116, 523)
noncomputable def am_c164 : List (Nat × am_E) := [(0, .aload_n 0, 1, 0, 0, 0, 0, 0, []), (1, .getfield 115, 3, 6, 42, 3, 2271, 0, []), (4, .bipush 8, 2, 0, 0, 0, 0, 8, []), (6, .iload_n 1, 1, 1, 0, 0, 0, 0, []), (7, .iadd, 1, 0, 0, 0, 0, 0, []), (8, .iaload, 1, 0, 0, 0, 0, 0, []),
  (9, .ireturn, 1, 0, 0, 1, 0, 0, [])]
noncomputable def am_s165 : am_S := (yX6_weightOf, cX6_weightOf, 3, (some .int), 1, 1, 3, 6, 3615, 3614, 115, 523)
noncomputable def am_c165 : List (Nat × am_E) := [(0, .aload_n 0, 1, 0, 0, 0, 0, 0, []), (1, .getfield 118, 3, 6, 43, 3, 2272, 0, []), (4, .bipush 48, 2, 0, 0, 0, 0, 48, []), (6, .bipush 6, 2, 0, 0, 0, 0, 6, []), (8, .iload_n 1, 1, 1, 0, 0, 0, 0, []), (9, .imul, 1, 0, 0, 0, 0, 0, []),
  (10, .iadd, 1, 0, 0, 0, 0, 0, []), (11, .iload_n 2, 1, 2, 0, 0, 0, 0, []), (12, .iadd, 1, 0, 0, 0, 0, 0, []), (13, .iaload, 1, 0, 0, 0, 0, 0, []), (14, .ireturn, 1, 0, 0, 1, 0, 0, [])]
noncomputable def am_s166 : am_S := (yX6_likesOf, cX6_likesOf, 3, (some .int), 1, 1, 3, 6, 3631, 3630, 118, 523)
noncomputable def am_c166 : List (Nat × am_E) := [(0, .aload_n 0, 1, 0, 0, 0, 0, 0, []), (1, .getfield 124, 3, 6, 45, 3, 2274, 0, []), (4, .bipush 30, 2, 0, 0, 0, 0, 30, []), (6, .bipush 6, 2, 0, 0, 0, 0, 6, []), (8, .iload_n 1, 1, 1, 0, 0, 0, 0, []), (9, .imul, 1, 0, 0, 0, 0, 0, []),
  (10, .iadd, 1, 0, 0, 0, 0, 0, []), (11, .iload_n 2, 1, 2, 0, 0, 0, 0, []), (12, .iadd, 1, 0, 0, 0, 0, 0, []), (13, .iaload, 1, 0, 0, 0, 0, 0, []), (14, .ireturn, 1, 0, 0, 1, 0, 0, [])]
noncomputable def am_s167 : am_S := (yX6_doesPress, cX6_doesPress, 2, (some .boolean), 1, 4, 2, 6, 3303, 3302, 108, 523)
noncomputable def am_c167 : List (Nat × am_E) := [(0, .aload_n 0, 1, 0, 0, 0, 0, 0, []), (1, .getfield 139, 3, 6, 54, 3, 2283, 0, []), (4, .bipush 86, 2, 0, 0, 0, 0, 86, []), (6, .iconst 2, 1, 0, 0, 0, 0, 2, []), (7, .iload_n 1, 1, 1, 0, 0, 0, 0, []), (8, .imul, 1, 0, 0, 0, 0, 0, []),
  (9, .iadd, 1, 0, 0, 0, 0, 0, []), (10, .iaload, 1, 0, 0, 0, 0, 0, []), (11, .iconst 1, 1, 0, 0, 0, 0, 1, []), (12, .if_icmp .ne 7, 3, 19, 0, 0, 0, 0, []), (15, .iconst 1, 1, 0, 0, 0, 0, 1, []), (16, .goto 4, 3, 20, 0, 0, 0, 0, []),
  (19, .iconst 0, 1, 0, 0, 0, 0, 0, []), (20, .ireturn, 1, 0, 0, 4, 0, 0, [])]
noncomputable def am_s168 : am_S := (yX6_pressAll, cX6_pressAll, 3, none, 1, 0, 2, 6, 3283, 3282, 105, 523)
noncomputable def am_c168 : List (Nat × am_E) := [(0, .iconst 0, 1, 0, 0, 0, 0, 0, []), (1, .istore_n 2, 1, 2, 0, 0, 0, 0, []), (2, .iload_n 2, 1, 2, 0, 0, 0, 0, []), (3, .aload_n 0, 1, 0, 0, 0, 0, 0, []), (4, .invokevirtual 408, 3, 160, 1, 1, 3284, 6, []), (7, .if_icmp .ge 25, 3, 32, 0, 0, 0, 0, []),
  (10, .aload_n 0, 1, 0, 0, 0, 0, 0, []), (11, .getfield 139, 3, 6, 54, 3, 2283, 0, []), (14, .bipush 86, 2, 0, 0, 0, 0, 86, []), (16, .iconst 2, 1, 0, 0, 0, 0, 2, []), (17, .iload_n 2, 1, 2, 0, 0, 0, 0, []), (18, .imul, 1, 0, 0, 0, 0, 0, []),
  (19, .iadd, 1, 0, 0, 0, 0, 0, []), (20, .iload_n 1, 1, 1, 0, 0, 0, 0, []), (21, .iload_n 2, 1, 2, 0, 0, 0, 0, []), (22, .ishr, 1, 0, 0, 0, 0, 0, []), (23, .iconst 1, 1, 0, 0, 0, 0, 1, []), (24, .iand, 1, 0, 0, 0, 0, 0, []),
  (25, .iastore, 1, 0, 0, 0, 0, 0, []), (26, .iinc 2 1, 3, 2, 0, 0, 0, 1, []), (29, .goto (-27), 3, 2, 0, 0, 0, 0, []), (32, .return_, 1, 0, 0, 0, 0, 0, [])]
noncomputable def am_s169 : am_S := (yX6_pressers, cX6_pressers, 3, (some .int), 1, 1, 1, 6, 3299, 3298, 107, 523)
noncomputable def am_c169 : List (Nat × am_E) := [(0, .iconst 0, 1, 0, 0, 0, 0, 0, []), (1, .istore_n 1, 1, 1, 0, 0, 0, 0, []), (2, .iconst 0, 1, 0, 0, 0, 0, 0, []), (3, .istore_n 2, 1, 2, 0, 0, 0, 0, []), (4, .iload_n 2, 1, 2, 0, 0, 0, 0, []), (5, .aload_n 0, 1, 0, 0, 0, 0, 0, []),
  (6, .invokevirtual 408, 3, 160, 1, 1, 3284, 6, []), (9, .if_icmp .ge 23, 3, 32, 0, 0, 0, 0, []), (12, .aload_n 0, 1, 0, 0, 0, 0, 0, []), (13, .iload_n 2, 1, 2, 0, 0, 0, 0, []), (14, .invokevirtual 411, 3, 167, 2, 4, 3300, 6, []), (17, .ifCond .eq 9, 3, 26, 0, 0, 0, 0, []),
  (20, .iload_n 1, 1, 1, 0, 0, 0, 0, []), (21, .iconst 1, 1, 0, 0, 0, 0, 1, []), (22, .iload_n 2, 1, 2, 0, 0, 0, 0, []), (23, .ishl, 1, 0, 0, 0, 0, 0, []), (24, .ior, 1, 0, 0, 0, 0, 0, []), (25, .istore_n 1, 1, 1, 0, 0, 0, 0, []),
  (26, .iinc 2 1, 3, 2, 0, 0, 0, 1, []), (29, .goto (-25), 3, 4, 0, 0, 0, 0, []), (32, .iload_n 1, 1, 1, 0, 0, 0, 0, []), (33, .ireturn, 1, 0, 0, 1, 0, 0, [])]
noncomputable def am_s170 : am_S := (yX6_profileOf, cX6_profileOf, 2, (some .int), 1, 1, 2, 6, 3663, 3662, 123, 523)
noncomputable def am_c170 : List (Nat × am_E) := [(0, .aload_n 0, 1, 0, 0, 0, 0, 0, []), (1, .iload_n 1, 1, 1, 0, 0, 0, 0, []), (2, .invokevirtual 411, 3, 167, 2, 4, 3300, 6, []), (5, .ifCond .eq 9, 3, 14, 0, 0, 0, 0, []), (8, .iconst 1, 1, 0, 0, 0, 0, 1, []), (9, .iload_n 1, 1, 1, 0, 0, 0, 0, []),
  (10, .iadd, 1, 0, 0, 0, 0, 0, []), (11, .goto 4, 3, 15, 0, 0, 0, 0, []), (14, .iconst 0, 1, 0, 0, 0, 0, 0, []), (15, .ireturn, 1, 0, 0, 1, 0, 0, [])]
noncomputable def am_s171 : am_S := (yX6_tasteAt, cX6_tasteAt, 3, (some .int), 1, 1, 3, 6, 3639, 3638, 119, 523)
noncomputable def am_c171 : List (Nat × am_E) := [(0, .iconst 2, 1, 0, 0, 0, 0, 2, []), (1, .bipush 14, 2, 0, 0, 0, 0, 14, []), (3, .iload_n 1, 1, 1, 0, 0, 0, 0, []), (4, .imul, 1, 0, 0, 0, 0, 0, []), (5, .iadd, 1, 0, 0, 0, 0, 0, []), (6, .iload_n 2, 1, 2, 0, 0, 0, 0, []),
  (7, .iadd, 1, 0, 0, 0, 0, 0, []), (8, .ireturn, 1, 0, 0, 1, 0, 0, [])]
noncomputable def am_s172 : am_S := (yX6_seenAt, cX6_seenAt, 3, (some .int), 1, 1, 3, 6, 3651, 3650, 121, 523)
noncomputable def am_c172 : List (Nat × am_E) := [(0, .iconst 2, 1, 0, 0, 0, 0, 2, []), (1, .bipush 14, 2, 0, 0, 0, 0, 14, []), (3, .iload_n 1, 1, 1, 0, 0, 0, 0, []), (4, .imul, 1, 0, 0, 0, 0, 0, []), (5, .iadd, 1, 0, 0, 0, 0, 0, []), (6, .bipush 6, 2, 0, 0, 0, 0, 6, []),
  (8, .iadd, 1, 0, 0, 0, 0, 0, []), (9, .iload_n 2, 1, 2, 0, 0, 0, 0, []), (10, .iadd, 1, 0, 0, 0, 0, 0, []), (11, .ireturn, 1, 0, 0, 1, 0, 0, [])]
noncomputable def am_s173 : am_S := (yX6_seenBy, cX6_seenBy, 3, (some .int), 1, 1, 3, 6, 3647, 3646, 120, 523)
noncomputable def am_c173 : List (Nat × am_E) := [(0, .aload_n 0, 1, 0, 0, 0, 0, 0, []), (1, .getfield 139, 3, 6, 54, 3, 2283, 0, []), (4, .aload_n 0, 1, 0, 0, 0, 0, 0, []), (5, .iload_n 1, 1, 1, 0, 0, 0, 0, []), (6, .iload_n 2, 1, 2, 0, 0, 0, 0, []), (7, .invokevirtual 414, 3, 172, 3, 1, 3648, 6, []),
  (10, .iaload, 1, 0, 0, 0, 0, 0, []), (11, .ireturn, 1, 0, 0, 1, 0, 0, [])]
noncomputable def am_s174 : am_S := (yX6_scoreOf, cX6_scoreOf, 5, (some .int), 1, 1, 3, 6, 3683, 3682, 128, 523)
noncomputable def am_c174 : List (Nat × am_E) := [(0, .iconst 1, 1, 0, 0, 0, 0, 1, []), (1, .istore_n 3, 1, 3, 0, 0, 0, 0, []), (2, .iconst 0, 1, 0, 0, 0, 0, 0, []), (3, .istore 4, 2, 4, 0, 0, 0, 0, []), (5, .iload 4, 2, 4, 0, 0, 0, 0, []), (7, .aload_n 0, 1, 0, 0, 0, 0, 0, []),
  (8, .invokevirtual 402, 3, 158, 1, 1, 3608, 6, []), (11, .if_icmp .ge 32, 3, 43, 0, 0, 0, 0, []), (14, .iload_n 3, 1, 3, 0, 0, 0, 0, []), (15, .aload_n 0, 1, 0, 0, 0, 0, 0, []), (16, .iload_n 2, 1, 2, 0, 0, 0, 0, []), (17, .iload 4, 2, 4, 0, 0, 0, 0, []),
  (19, .invokevirtual 417, 3, 165, 3, 1, 3612, 6, []), (22, .aload_n 0, 1, 0, 0, 0, 0, 0, []), (23, .getfield 139, 3, 6, 54, 3, 2283, 0, []), (26, .aload_n 0, 1, 0, 0, 0, 0, 0, []), (27, .iload_n 1, 1, 1, 0, 0, 0, 0, []), (28, .iload 4, 2, 4, 0, 0, 0, 0, []),
  (30, .invokevirtual 420, 3, 171, 3, 1, 3636, 6, []), (33, .iaload, 1, 0, 0, 0, 0, 0, []), (34, .imul, 1, 0, 0, 0, 0, 0, []), (35, .iadd, 1, 0, 0, 0, 0, 0, []), (36, .istore_n 3, 1, 3, 0, 0, 0, 0, []), (37, .iinc 4 1, 3, 4, 0, 0, 0, 1, []),
  (40, .goto (-35), 3, 5, 0, 0, 0, 0, []), (43, .iload_n 3, 1, 3, 0, 0, 0, 0, []), (44, .ireturn, 1, 0, 0, 1, 0, 0, [])]
noncomputable def am_s175 : am_S := (yX6_worthOf, cX6_worthOf, 5, (some .int), 1, 1, 3, 6, 3687, 3686, 129, 523)
noncomputable def am_c175 : List (Nat × am_E) := [(0, .iconst 0, 1, 0, 0, 0, 0, 0, []), (1, .istore_n 3, 1, 3, 0, 0, 0, 0, []), (2, .iconst 0, 1, 0, 0, 0, 0, 0, []), (3, .istore 4, 2, 4, 0, 0, 0, 0, []), (5, .iload 4, 2, 4, 0, 0, 0, 0, []), (7, .aload_n 0, 1, 0, 0, 0, 0, 0, []),
  (8, .invokevirtual 402, 3, 158, 1, 1, 3608, 6, []), (11, .if_icmp .ge 27, 3, 38, 0, 0, 0, 0, []), (14, .iload_n 3, 1, 3, 0, 0, 0, 0, []), (15, .aload_n 0, 1, 0, 0, 0, 0, 0, []), (16, .iload_n 2, 1, 2, 0, 0, 0, 0, []), (17, .iload 4, 2, 4, 0, 0, 0, 0, []),
  (19, .invokevirtual 417, 3, 165, 3, 1, 3612, 6, []), (22, .aload_n 0, 1, 0, 0, 0, 0, 0, []), (23, .iload_n 1, 1, 1, 0, 0, 0, 0, []), (24, .iload 4, 2, 4, 0, 0, 0, 0, []), (26, .invokevirtual 423, 3, 166, 3, 1, 3628, 6, []), (29, .imul, 1, 0, 0, 0, 0, 0, []),
  (30, .iadd, 1, 0, 0, 0, 0, 0, []), (31, .istore_n 3, 1, 3, 0, 0, 0, 0, []), (32, .iinc 4 1, 3, 4, 0, 0, 0, 1, []), (35, .goto (-30), 3, 5, 0, 0, 0, 0, []), (38, .iload_n 3, 1, 3, 0, 0, 0, 0, []), (39, .ireturn, 1, 0, 0, 1, 0, 0, [])]
noncomputable def am_s176 : am_S := (yX6_cut, cX6_cut, 2, (some .int), 0, 1, 1, 6, 3743, 3742, 0, 523)
noncomputable def am_c176 : List (Nat × am_E) := [(0, .lload_n 0, 1, 0, 0, 0, 0, 0, []), (1, .lconst 0, 1, 0, 0, 0, 0, 0, []), (2, .lcmp, 1, 0, 0, 0, 0, 0, []), (3, .ifCond .ge 7, 3, 10, 0, 0, 0, 0, []), (6, .iconst 0, 1, 0, 0, 0, 0, 0, []), (7, .goto 19, 3, 26, 0, 0, 0, 0, []),
  (10, .lload_n 0, 1, 0, 0, 0, 0, 0, []), (11, .ldc2_w 426, 3, 0, 0, 0, 3744, 999, []), (14, .lcmp, 1, 0, 0, 0, 0, 0, []), (15, .ifCond .le 9, 3, 24, 0, 0, 0, 0, []), (18, .sipush 999, 3, 0, 0, 0, 0, 999, []), (21, .goto 5, 3, 26, 0, 0, 0, 0, []),
  (24, .lload_n 0, 1, 0, 0, 0, 0, 0, []), (25, .l2i, 1, 0, 0, 0, 0, 0, []), (26, .ireturn, 1, 0, 0, 1, 0, 0, [])]
noncomputable def am_s177 : am_S := (yX6_codesTell, cX6_codesTell, 5, (some .long), 1, 2, 3, 6, 3671, 3670, 125, 523)
noncomputable def am_c177 : List (Nat × am_E) := [(0, .aload_n 0, 1, 0, 0, 0, 0, 0, []), (1, .iload_n 1, 1, 1, 0, 0, 0, 0, []), (2, .putfield 297, 3, 6, 53, 1, 2282, 0, []), (5, .aload_n 0, 1, 0, 0, 0, 0, 0, []), (6, .iconst 0, 1, 0, 0, 0, 0, 0, []), (7, .putfield 428, 3, 6, 98, 1, 2599, 0, []),
  (10, .aload_n 0, 1, 0, 0, 0, 0, 0, []), (11, .getfield 130, 3, 6, 48, 3, 2277, 0, []), (14, .iconst 3, 1, 0, 0, 0, 0, 3, []), (15, .iload_n 1, 1, 1, 0, 0, 0, 0, []), (16, .iadd, 1, 0, 0, 0, 0, 0, []), (17, .iaload, 1, 0, 0, 0, 0, 0, []),
  (18, .istore_n 3, 1, 3, 0, 0, 0, 0, []), (19, .iload_n 3, 1, 3, 0, 0, 0, 0, []), (20, .aload_n 0, 1, 0, 0, 0, 0, 0, []), (21, .getfield 133, 3, 6, 49, 3, 2278, 0, []), (24, .iconst 3, 1, 0, 0, 0, 0, 3, []), (25, .iload_n 1, 1, 1, 0, 0, 0, 0, []),
  (26, .iadd, 1, 0, 0, 0, 0, 0, []), (27, .iaload, 1, 0, 0, 0, 0, 0, []), (28, .if_icmp .ge 122, 3, 150, 0, 0, 0, 0, []), (31, .aload_n 0, 1, 0, 0, 0, 0, 0, []), (32, .getfield 136, 3, 6, 50, 3, 2279, 0, []), (35, .sipush 1600, 3, 0, 0, 0, 0, 1600, []),
  (38, .iload_n 3, 1, 3, 0, 0, 0, 0, []), (39, .iadd, 1, 0, 0, 0, 0, 0, []), (40, .iaload, 1, 0, 0, 0, 0, 0, []), (41, .istore 4, 2, 4, 0, 0, 0, 0, []), (43, .iload 4, 2, 4, 0, 0, 0, 0, []), (45, .sipush 1000, 3, 0, 0, 0, 0, 1000, []),
  (48, .if_icmp .lt 17, 3, 65, 0, 0, 0, 0, []), (51, .aload_n 0, 1, 0, 0, 0, 0, 0, []), (52, .iload 4, 2, 4, 0, 0, 0, 0, []), (54, .sipush 1000, 3, 0, 0, 0, 0, 1000, []), (57, .isub, 1, 0, 0, 0, 0, 0, []), (58, .i2l, 1, 0, 0, 0, 0, 0, []),
  (59, .invokevirtual 431, 3, 253, 2, 0, 3672, 6, []), (62, .goto 82, 3, 144, 0, 0, 0, 0, []), (65, .iload 4, 2, 4, 0, 0, 0, 0, []), (67, .bipush 40, 2, 0, 0, 0, 0, 40, []), (69, .if_icmp .lt 20, 3, 89, 0, 0, 0, 0, []), (72, .aload_n 0, 1, 0, 0, 0, 0, 0, []),
  (73, .aload_n 0, 1, 0, 0, 0, 0, 0, []), (74, .iload 4, 2, 4, 0, 0, 0, 0, []), (76, .bipush 40, 2, 0, 0, 0, 0, 40, []), (78, .isub, 1, 0, 0, 0, 0, 0, []), (79, .iload_n 2, 1, 2, 0, 0, 0, 0, []), (80, .invokevirtual 435, 3, 255, 3, 2, 3676, 6, []),
  (83, .invokevirtual 431, 3, 253, 2, 0, 3672, 6, []), (86, .goto 58, 3, 144, 0, 0, 0, 0, []), (89, .iload 4, 2, 4, 0, 0, 0, 0, []), (91, .bipush 13, 2, 0, 0, 0, 0, 13, []), (93, .if_icmp .ne 11, 3, 104, 0, 0, 0, 0, []), (96, .aload_n 0, 1, 0, 0, 0, 0, 0, []),
  (97, .lconst 1, 1, 0, 0, 0, 0, 1, []), (98, .invokevirtual 431, 3, 253, 2, 0, 3672, 6, []), (101, .goto 43, 3, 144, 0, 0, 0, 0, []), (104, .iload 4, 2, 4, 0, 0, 0, 0, []), (106, .bipush 12, 2, 0, 0, 0, 0, 12, []), (108, .if_icmp .ne 30, 3, 138, 0, 0, 0, 0, []),
  (111, .aload_n 0, 1, 0, 0, 0, 0, 0, []), (112, .getfield 233, 3, 6, 97, 3, 2598, 0, []), (115, .aload_n 0, 1, 0, 0, 0, 0, 0, []), (116, .getfield 428, 3, 6, 98, 1, 2599, 0, []), (119, .iconst 1, 1, 0, 0, 0, 0, 1, []), (120, .isub, 1, 0, 0, 0, 0, 0, []),
  (121, .lconst 1, 1, 0, 0, 0, 0, 1, []), (122, .aload_n 0, 1, 0, 0, 0, 0, 0, []), (123, .getfield 233, 3, 6, 97, 3, 2598, 0, []), (126, .aload_n 0, 1, 0, 0, 0, 0, 0, []), (127, .getfield 428, 3, 6, 98, 1, 2599, 0, []), (130, .iconst 1, 1, 0, 0, 0, 0, 1, []),
  (131, .isub, 1, 0, 0, 0, 0, 0, []), (132, .laload, 1, 0, 0, 0, 0, 0, []), (133, .lsub, 1, 0, 0, 0, 0, 0, []), (134, .lastore, 1, 0, 0, 0, 0, 0, []), (135, .goto 9, 3, 144, 0, 0, 0, 0, []), (138, .aload_n 0, 1, 0, 0, 0, 0, 0, []),
  (139, .iload 4, 2, 4, 0, 0, 0, 0, []), (141, .invokevirtual 439, 3, 254, 2, 0, 3688, 6, []), (144, .iinc 3 1, 3, 3, 0, 0, 0, 1, []), (147, .goto (-128), 3, 19, 0, 0, 0, 0, []), (150, .aload_n 0, 1, 0, 0, 0, 0, 0, []), (151, .getfield 233, 3, 6, 97, 3, 2598, 0, []),
  (154, .iconst 0, 1, 0, 0, 0, 0, 0, []), (155, .laload, 1, 0, 0, 0, 0, 0, []), (156, .lreturn, 1, 0, 0, 2, 0, 0, [])]
noncomputable def am_s178 : am_S := (yX6_may, cX6_may, 3, (some .boolean), 1, 4, 3, 6, 3667, 3666, 124, 523)
noncomputable def am_c178 : List (Nat × am_E) := [(0, .aload_n 0, 1, 0, 0, 0, 0, 0, []), (1, .iload_n 1, 1, 1, 0, 0, 0, 0, []), (2, .iload_n 2, 1, 2, 0, 0, 0, 0, []), (3, .invokevirtual 442, 3, 173, 3, 1, 3644, 6, []), (6, .aload_n 0, 1, 0, 0, 0, 0, 0, []), (7, .iload_n 2, 1, 2, 0, 0, 0, 0, []),
  (8, .invokevirtual 445, 3, 164, 2, 1, 3616, 6, []), (11, .if_icmp .ne 5, 3, 16, 0, 0, 0, 0, []), (14, .iconst 0, 1, 0, 0, 0, 0, 0, []), (15, .ireturn, 1, 0, 0, 4, 0, 0, []), (16, .aload_n 0, 1, 0, 0, 0, 0, 0, []), (17, .iload_n 1, 1, 1, 0, 0, 0, 0, []),
  (18, .putfield 448, 3, 6, 57, 1, 2286, 0, []), (21, .aload_n 0, 1, 0, 0, 0, 0, 0, []), (22, .getfield 130, 3, 6, 48, 3, 2277, 0, []), (25, .iconst 5, 1, 0, 0, 0, 0, 5, []), (26, .iaload, 1, 0, 0, 0, 0, 0, []), (27, .iconst (-1), 1, 0, 0, 0, 0, (-1), []),
  (28, .if_icmp .eq 14, 3, 42, 0, 0, 0, 0, []), (31, .aload_n 0, 1, 0, 0, 0, 0, 0, []), (32, .iconst 2, 1, 0, 0, 0, 0, 2, []), (33, .iload_n 2, 1, 2, 0, 0, 0, 0, []), (34, .invokevirtual 451, 3, 177, 3, 2, 3668, 6, []), (37, .lconst 1, 1, 0, 0, 0, 0, 1, []),
  (38, .lcmp, 1, 0, 0, 0, 0, 0, []), (39, .ifCond .ne 7, 3, 46, 0, 0, 0, 0, []), (42, .iconst 1, 1, 0, 0, 0, 0, 1, []), (43, .goto 4, 3, 47, 0, 0, 0, 0, []), (46, .iconst 0, 1, 0, 0, 0, 0, 0, []), (47, .ireturn, 1, 0, 0, 4, 0, 0, [])]
noncomputable def am_s179 : am_S := (yX6_suggestedTo, cX6_suggestedTo, 5, (some .int), 1, 1, 2, 6, 3659, 3658, 122, 523)
noncomputable def am_c179 : List (Nat × am_E) := [(0, .aload_n 0, 1, 0, 0, 0, 0, 0, []), (1, .iload_n 1, 1, 1, 0, 0, 0, 0, []), (2, .invokevirtual 454, 3, 170, 2, 1, 3660, 6, []), (5, .istore_n 2, 1, 2, 0, 0, 0, 0, []), (6, .iconst (-1), 1, 0, 0, 0, 0, (-1), []), (7, .istore_n 3, 1, 3, 0, 0, 0, 0, []),
  (8, .iconst 0, 1, 0, 0, 0, 0, 0, []), (9, .istore 4, 2, 4, 0, 0, 0, 0, []), (11, .iload 4, 2, 4, 0, 0, 0, 0, []), (13, .aload_n 0, 1, 0, 0, 0, 0, 0, []), (14, .invokevirtual 405, 3, 159, 1, 1, 3600, 6, []), (17, .if_icmp .ge 43, 3, 60, 0, 0, 0, 0, []),
  (20, .aload_n 0, 1, 0, 0, 0, 0, 0, []), (21, .iload_n 2, 1, 2, 0, 0, 0, 0, []), (22, .iload 4, 2, 4, 0, 0, 0, 0, []), (24, .invokevirtual 457, 3, 178, 3, 4, 3664, 6, []), (27, .ifCond .eq 27, 3, 54, 0, 0, 0, 0, []), (30, .iload_n 3, 1, 3, 0, 0, 0, 0, []),
  (31, .iconst (-1), 1, 0, 0, 0, 0, (-1), []), (32, .if_icmp .eq 19, 3, 51, 0, 0, 0, 0, []), (35, .aload_n 0, 1, 0, 0, 0, 0, 0, []), (36, .iload_n 2, 1, 2, 0, 0, 0, 0, []), (37, .iload 4, 2, 4, 0, 0, 0, 0, []), (39, .invokevirtual 461, 3, 174, 3, 1, 3680, 6, []),
  (42, .aload_n 0, 1, 0, 0, 0, 0, 0, []), (43, .iload_n 2, 1, 2, 0, 0, 0, 0, []), (44, .iload_n 3, 1, 3, 0, 0, 0, 0, []), (45, .invokevirtual 461, 3, 174, 3, 1, 3680, 6, []), (48, .if_icmp .le 6, 3, 54, 0, 0, 0, 0, []), (51, .iload 4, 2, 4, 0, 0, 0, 0, []),
  (53, .istore_n 3, 1, 3, 0, 0, 0, 0, []), (54, .iinc 4 1, 3, 4, 0, 0, 0, 1, []), (57, .goto (-46), 3, 11, 0, 0, 0, 0, []), (60, .iload_n 3, 1, 3, 0, 0, 0, 0, []), (61, .ireturn, 1, 0, 0, 1, 0, 0, [])]
noncomputable def am_s180 : am_S := (yX6_partSeen, cX6_partSeen, 6, none, 1, 0, 3, 6, 3740, 3739, 137, 523)
noncomputable def am_c180 : List (Nat × am_E) := [(0, .aload_n 0, 1, 0, 0, 0, 0, 0, []), (1, .getfield 139, 3, 6, 54, 3, 2283, 0, []), (4, .aload_n 0, 1, 0, 0, 0, 0, 0, []), (5, .iload_n 1, 1, 1, 0, 0, 0, 0, []), (6, .iload_n 2, 1, 2, 0, 0, 0, 0, []), (7, .invokevirtual 414, 3, 172, 3, 1, 3648, 6, []),
  (10, .dup2, 1, 0, 0, 0, 0, 0, []), (11, .iaload, 1, 0, 0, 0, 0, 0, []), (12, .iconst 1, 1, 0, 0, 0, 0, 1, []), (13, .iadd, 1, 0, 0, 0, 0, 0, []), (14, .iastore, 1, 0, 0, 0, 0, 0, []), (15, .iconst 0, 1, 0, 0, 0, 0, 0, []),
  (16, .istore_n 3, 1, 3, 0, 0, 0, 0, []), (17, .iload_n 3, 1, 3, 0, 0, 0, 0, []), (18, .aload_n 0, 1, 0, 0, 0, 0, 0, []), (19, .invokevirtual 402, 3, 158, 1, 1, 3608, 6, []), (22, .if_icmp .ge 101, 3, 123, 0, 0, 0, 0, []), (25, .aload_n 0, 1, 0, 0, 0, 0, 0, []),
  (26, .iload_n 2, 1, 2, 0, 0, 0, 0, []), (27, .iload_n 3, 1, 3, 0, 0, 0, 0, []), (28, .invokevirtual 417, 3, 165, 3, 1, 3612, 6, []), (31, .ifCond .ne 6, 3, 37, 0, 0, 0, 0, []), (34, .goto 83, 3, 117, 0, 0, 0, 0, []), (37, .aload_n 0, 1, 0, 0, 0, 0, 0, []),
  (38, .aload_n 0, 1, 0, 0, 0, 0, 0, []), (39, .getfield 139, 3, 6, 54, 3, 2283, 0, []), (42, .aload_n 0, 1, 0, 0, 0, 0, 0, []), (43, .iload_n 1, 1, 1, 0, 0, 0, 0, []), (44, .iload_n 3, 1, 3, 0, 0, 0, 0, []), (45, .invokevirtual 420, 3, 171, 3, 1, 3636, 6, []),
  (48, .iaload, 1, 0, 0, 0, 0, 0, []), (49, .putfield 464, 3, 6, 58, 1, 2287, 0, []), (52, .aload_n 0, 1, 0, 0, 0, 0, 0, []), (53, .aload_n 0, 1, 0, 0, 0, 0, 0, []), (54, .iload_n 2, 1, 2, 0, 0, 0, 0, []), (55, .iload_n 3, 1, 3, 0, 0, 0, 0, []),
  (56, .invokevirtual 417, 3, 165, 3, 1, 3612, 6, []), (59, .putfield 467, 3, 6, 59, 1, 2560, 0, []), (62, .aload_n 0, 1, 0, 0, 0, 0, 0, []), (63, .getfield 130, 3, 6, 48, 3, 2277, 0, []), (66, .iconst 3, 1, 0, 0, 0, 0, 3, []), (67, .iaload, 1, 0, 0, 0, 0, 0, []),
  (68, .iconst (-1), 1, 0, 0, 0, 0, (-1), []), (69, .if_icmp .ne 11, 3, 80, 0, 0, 0, 0, []), (72, .aload_n 0, 1, 0, 0, 0, 0, 0, []), (73, .getfield 467, 3, 6, 59, 1, 2560, 0, []), (76, .i2l, 1, 0, 0, 0, 0, 0, []), (77, .goto 9, 3, 86, 0, 0, 0, 0, []),
  (80, .aload_n 0, 1, 0, 0, 0, 0, 0, []), (81, .iconst 0, 1, 0, 0, 0, 0, 0, []), (82, .iload_n 2, 1, 2, 0, 0, 0, 0, []), (83, .invokevirtual 451, 3, 177, 3, 2, 3668, 6, []), (86, .lstore 4, 2, 4, 0, 0, 0, 0, []), (88, .lload 4, 2, 4, 0, 0, 0, 0, []),
  (90, .lconst 0, 1, 0, 0, 0, 0, 0, []), (91, .lcmp, 1, 0, 0, 0, 0, 0, []), (92, .ifCond .le 25, 3, 117, 0, 0, 0, 0, []), (95, .aload_n 0, 1, 0, 0, 0, 0, 0, []), (96, .getfield 139, 3, 6, 54, 3, 2283, 0, []), (99, .aload_n 0, 1, 0, 0, 0, 0, 0, []),
  (100, .iload_n 1, 1, 1, 0, 0, 0, 0, []), (101, .iload_n 3, 1, 3, 0, 0, 0, 0, []), (102, .invokevirtual 420, 3, 171, 3, 1, 3636, 6, []), (105, .aload_n 0, 1, 0, 0, 0, 0, 0, []), (106, .getfield 464, 3, 6, 58, 1, 2287, 0, []), (109, .i2l, 1, 0, 0, 0, 0, 0, []),
  (110, .lload 4, 2, 4, 0, 0, 0, 0, []), (112, .ladd, 1, 0, 0, 0, 0, 0, []), (113, .invokestatic 470, 3, 176, 1, 1, 3741, 0, []), (116, .iastore, 1, 0, 0, 0, 0, 0, []), (117, .iinc 3 1, 3, 3, 0, 0, 0, 1, []), (120, .goto (-103), 3, 17, 0, 0, 0, 0, []),
  (123, .return_, 1, 0, 0, 0, 0, 0, [])]
noncomputable def am_s181 : am_S := (yX6_isKept, cX6_isKept, 4, none, 1, 0, 3, 6, 3752, 3751, 139, 523)
noncomputable def am_c181 : List (Nat × am_E) := [(0, .aload_n 0, 1, 0, 0, 0, 0, 0, []), (1, .getfield 474, 3, 6, 60, 4, 2561, 0, []), (4, .ifCond .eq 4, 3, 8, 0, 0, 0, 0, []), (7, .return_, 1, 0, 0, 0, 0, 0, []), (8, .aload_n 0, 1, 0, 0, 0, 0, 0, []), (9, .getfield 139, 3, 6, 54, 3, 2283, 0, []),
  (12, .bipush 96, 2, 0, 0, 0, 0, 96, []), (14, .iaload, 1, 0, 0, 0, 0, 0, []), (15, .bipush 40, 2, 0, 0, 0, 0, 40, []), (17, .if_icmp .ne 36, 3, 53, 0, 0, 0, 0, []), (20, .bipush 97, 2, 0, 0, 0, 0, 97, []), (22, .istore_n 3, 1, 3, 0, 0, 0, 0, []),
  (23, .iload_n 3, 1, 3, 0, 0, 0, 0, []), (24, .sipush 253, 3, 0, 0, 0, 0, 253, []), (27, .if_icmp .ge 23, 3, 50, 0, 0, 0, 0, []), (30, .aload_n 0, 1, 0, 0, 0, 0, 0, []), (31, .getfield 139, 3, 6, 54, 3, 2283, 0, []), (34, .iload_n 3, 1, 3, 0, 0, 0, 0, []),
  (35, .aload_n 0, 1, 0, 0, 0, 0, 0, []), (36, .getfield 139, 3, 6, 54, 3, 2283, 0, []), (39, .iload_n 3, 1, 3, 0, 0, 0, 0, []), (40, .iconst 4, 1, 0, 0, 0, 0, 4, []), (41, .iadd, 1, 0, 0, 0, 0, 0, []), (42, .iaload, 1, 0, 0, 0, 0, 0, []),
  (43, .iastore, 1, 0, 0, 0, 0, 0, []), (44, .iinc 3 1, 3, 3, 0, 0, 0, 1, []), (47, .goto (-24), 3, 23, 0, 0, 0, 0, []), (50, .goto 14, 3, 64, 0, 0, 0, 0, []), (53, .aload_n 0, 1, 0, 0, 0, 0, 0, []), (54, .getfield 139, 3, 6, 54, 3, 2283, 0, []),
  (57, .bipush 96, 2, 0, 0, 0, 0, 96, []), (59, .dup2, 1, 0, 0, 0, 0, 0, []), (60, .iaload, 1, 0, 0, 0, 0, 0, []), (61, .iconst 1, 1, 0, 0, 0, 0, 1, []), (62, .iadd, 1, 0, 0, 0, 0, 0, []), (63, .iastore, 1, 0, 0, 0, 0, 0, []),
  (64, .bipush 97, 2, 0, 0, 0, 0, 97, []), (66, .iconst 4, 1, 0, 0, 0, 0, 4, []), (67, .aload_n 0, 1, 0, 0, 0, 0, 0, []), (68, .getfield 139, 3, 6, 54, 3, 2283, 0, []), (71, .bipush 96, 2, 0, 0, 0, 0, 96, []), (73, .iaload, 1, 0, 0, 0, 0, 0, []),
  (74, .imul, 1, 0, 0, 0, 0, 0, []), (75, .iadd, 1, 0, 0, 0, 0, 0, []), (76, .iconst 4, 1, 0, 0, 0, 0, 4, []), (77, .isub, 1, 0, 0, 0, 0, 0, []), (78, .istore_n 3, 1, 3, 0, 0, 0, 0, []), (79, .aload_n 0, 1, 0, 0, 0, 0, 0, []),
  (80, .getfield 139, 3, 6, 54, 3, 2283, 0, []), (83, .iload_n 3, 1, 3, 0, 0, 0, 0, []), (84, .aload_n 0, 1, 0, 0, 0, 0, 0, []), (85, .getfield 139, 3, 6, 54, 3, 2283, 0, []), (88, .iconst 0, 1, 0, 0, 0, 0, 0, []), (89, .iaload, 1, 0, 0, 0, 0, 0, []),
  (90, .iastore, 1, 0, 0, 0, 0, 0, []), (91, .aload_n 0, 1, 0, 0, 0, 0, 0, []), (92, .getfield 139, 3, 6, 54, 3, 2283, 0, []), (95, .iload_n 3, 1, 3, 0, 0, 0, 0, []), (96, .iconst 1, 1, 0, 0, 0, 0, 1, []), (97, .iadd, 1, 0, 0, 0, 0, 0, []),
  (98, .aload_n 0, 1, 0, 0, 0, 0, 0, []), (99, .getfield 139, 3, 6, 54, 3, 2283, 0, []), (102, .iconst 1, 1, 0, 0, 0, 0, 1, []), (103, .iaload, 1, 0, 0, 0, 0, 0, []), (104, .iastore, 1, 0, 0, 0, 0, 0, []), (105, .aload_n 0, 1, 0, 0, 0, 0, 0, []),
  (106, .getfield 139, 3, 6, 54, 3, 2283, 0, []), (109, .iload_n 3, 1, 3, 0, 0, 0, 0, []), (110, .iconst 2, 1, 0, 0, 0, 0, 2, []), (111, .iadd, 1, 0, 0, 0, 0, 0, []), (112, .iload_n 1, 1, 1, 0, 0, 0, 0, []), (113, .iastore, 1, 0, 0, 0, 0, 0, []),
  (114, .aload_n 0, 1, 0, 0, 0, 0, 0, []), (115, .getfield 139, 3, 6, 54, 3, 2283, 0, []), (118, .iload_n 3, 1, 3, 0, 0, 0, 0, []), (119, .iconst 3, 1, 0, 0, 0, 0, 3, []), (120, .iadd, 1, 0, 0, 0, 0, 0, []), (121, .iload_n 2, 1, 2, 0, 0, 0, 0, []),
  (122, .iastore, 1, 0, 0, 0, 0, 0, []), (123, .return_, 1, 0, 0, 0, 0, 0, [])]
noncomputable def am_s182 : am_S := (yX6_hasSeen, cX6_hasSeen, 2, none, 1, 0, 2, 6, 3748, 3747, 138, 523)
noncomputable def am_c182 : List (Nat × am_E) := [(0, .aload_n 0, 1, 0, 0, 0, 0, 0, []), (1, .getfield 139, 3, 6, 54, 3, 2283, 0, []), (4, .bipush 86, 2, 0, 0, 0, 0, 86, []), (6, .iconst 2, 1, 0, 0, 0, 0, 2, []), (7, .iload_n 1, 1, 1, 0, 0, 0, 0, []), (8, .imul, 1, 0, 0, 0, 0, 0, []),
  (9, .iadd, 1, 0, 0, 0, 0, 0, []), (10, .iconst 1, 1, 0, 0, 0, 0, 1, []), (11, .iadd, 1, 0, 0, 0, 0, 0, []), (12, .iaload, 1, 0, 0, 0, 0, 0, []), (13, .sipush 9999, 3, 0, 0, 0, 0, 9999, []), (16, .if_icmp .ge 20, 3, 36, 0, 0, 0, 0, []),
  (19, .aload_n 0, 1, 0, 0, 0, 0, 0, []), (20, .getfield 139, 3, 6, 54, 3, 2283, 0, []), (23, .bipush 86, 2, 0, 0, 0, 0, 86, []), (25, .iconst 2, 1, 0, 0, 0, 0, 2, []), (26, .iload_n 1, 1, 1, 0, 0, 0, 0, []), (27, .imul, 1, 0, 0, 0, 0, 0, []),
  (28, .iadd, 1, 0, 0, 0, 0, 0, []), (29, .iconst 1, 1, 0, 0, 0, 0, 1, []), (30, .iadd, 1, 0, 0, 0, 0, 0, []), (31, .dup2, 1, 0, 0, 0, 0, 0, []), (32, .iaload, 1, 0, 0, 0, 0, 0, []), (33, .iconst 1, 1, 0, 0, 0, 0, 1, []),
  (34, .iadd, 1, 0, 0, 0, 0, 0, []), (35, .iastore, 1, 0, 0, 0, 0, 0, []), (36, .return_, 1, 0, 0, 0, 0, 0, [])]
noncomputable def am_s183 : am_S := (yX6_pleasedBy, cX6_pleasedBy, 3, (some .int), 1, 1, 3, 6, 3736, 3735, 136, 523)
noncomputable def am_c183 : List (Nat × am_E) := [(0, .aload_n 0, 1, 0, 0, 0, 0, 0, []), (1, .iload_n 1, 1, 1, 0, 0, 0, 0, []), (2, .iload_n 2, 1, 2, 0, 0, 0, 0, []), (3, .invokevirtual 478, 3, 175, 3, 1, 3684, 6, []), (6, .aload_n 0, 1, 0, 0, 0, 0, 0, []), (7, .iload_n 1, 1, 1, 0, 0, 0, 0, []),
  (8, .invokevirtual 411, 3, 167, 2, 4, 3300, 6, []), (11, .ifCond .eq 13, 3, 24, 0, 0, 0, 0, []), (14, .aload_n 0, 1, 0, 0, 0, 0, 0, []), (15, .getfield 127, 3, 6, 47, 3, 2276, 0, []), (18, .bipush 6, 2, 0, 0, 0, 0, 6, []), (20, .iaload, 1, 0, 0, 0, 0, 0, []),
  (21, .goto 4, 3, 25, 0, 0, 0, 0, []), (24, .iconst 0, 1, 0, 0, 0, 0, 0, []), (25, .isub, 1, 0, 0, 0, 0, 0, []), (26, .ireturn, 1, 0, 0, 1, 0, 0, [])]
noncomputable def am_s184 : am_S := (yX6_fade, cX6_fade, 3, none, 1, 0, 1, 6, 3756, 3755, 140, 523)
noncomputable def am_c184 : List (Nat × am_E) := [(0, .aload_n 0, 1, 0, 0, 0, 0, 0, []), (1, .getfield 130, 3, 6, 48, 3, 2277, 0, []), (4, .iconst 4, 1, 0, 0, 0, 0, 4, []), (5, .iaload, 1, 0, 0, 0, 0, 0, []), (6, .iconst (-1), 1, 0, 0, 0, 0, (-1), []), (7, .if_icmp .ne 4, 3, 11, 0, 0, 0, 0, []),
  (10, .return_, 1, 0, 0, 0, 0, 0, []), (11, .iconst 0, 1, 0, 0, 0, 0, 0, []), (12, .istore_n 1, 1, 1, 0, 0, 0, 0, []), (13, .iload_n 1, 1, 1, 0, 0, 0, 0, []), (14, .aload_n 0, 1, 0, 0, 0, 0, 0, []), (15, .invokevirtual 408, 3, 160, 1, 1, 3284, 6, []),
  (18, .if_icmp .gt 60, 3, 78, 0, 0, 0, 0, []), (21, .iconst 0, 1, 0, 0, 0, 0, 0, []), (22, .istore_n 2, 1, 2, 0, 0, 0, 0, []), (23, .iload_n 2, 1, 2, 0, 0, 0, 0, []), (24, .aload_n 0, 1, 0, 0, 0, 0, 0, []), (25, .invokevirtual 402, 3, 158, 1, 1, 3608, 6, []),
  (28, .if_icmp .ge 44, 3, 72, 0, 0, 0, 0, []), (31, .aload_n 0, 1, 0, 0, 0, 0, 0, []), (32, .aload_n 0, 1, 0, 0, 0, 0, 0, []), (33, .getfield 139, 3, 6, 54, 3, 2283, 0, []), (36, .aload_n 0, 1, 0, 0, 0, 0, 0, []), (37, .iload_n 1, 1, 1, 0, 0, 0, 0, []),
  (38, .iload_n 2, 1, 2, 0, 0, 0, 0, []), (39, .invokevirtual 420, 3, 171, 3, 1, 3636, 6, []), (42, .iaload, 1, 0, 0, 0, 0, 0, []), (43, .putfield 464, 3, 6, 58, 1, 2287, 0, []), (46, .aload_n 0, 1, 0, 0, 0, 0, 0, []), (47, .getfield 139, 3, 6, 54, 3, 2283, 0, []),
  (50, .aload_n 0, 1, 0, 0, 0, 0, 0, []), (51, .iload_n 1, 1, 1, 0, 0, 0, 0, []), (52, .iload_n 2, 1, 2, 0, 0, 0, 0, []), (53, .invokevirtual 420, 3, 171, 3, 1, 3636, 6, []), (56, .aload_n 0, 1, 0, 0, 0, 0, 0, []), (57, .iconst 1, 1, 0, 0, 0, 0, 1, []),
  (58, .iconst 0, 1, 0, 0, 0, 0, 0, []), (59, .invokevirtual 451, 3, 177, 3, 2, 3668, 6, []), (62, .invokestatic 470, 3, 176, 1, 1, 3741, 0, []), (65, .iastore, 1, 0, 0, 0, 0, 0, []), (66, .iinc 2 1, 3, 2, 0, 0, 0, 1, []), (69, .goto (-46), 3, 23, 0, 0, 0, 0, []),
  (72, .iinc 1 1, 3, 1, 0, 0, 0, 1, []), (75, .goto (-62), 3, 13, 0, 0, 0, 0, []), (78, .return_, 1, 0, 0, 0, 0, 0, [])]
noncomputable def am_s185 : am_S := (yX6_isFree, cX6_isFree, 3, (some .boolean), 1, 4, 3, 6, 3732, 3731, 135, 523)
noncomputable def am_c185 : List (Nat × am_E) := [(0, .iload_n 2, 1, 2, 0, 0, 0, 0, []), (1, .i2l, 1, 0, 0, 0, 0, 0, []), (2, .aload_n 0, 1, 0, 0, 0, 0, 0, []), (3, .getfield 121, 3, 6, 44, 3, 2273, 0, []), (6, .bipush 10, 2, 0, 0, 0, 0, 10, []), (8, .iconst 2, 1, 0, 0, 0, 0, 2, []),
  (9, .iload_n 1, 1, 1, 0, 0, 0, 0, []), (10, .imul, 1, 0, 0, 0, 0, 0, []), (11, .iadd, 1, 0, 0, 0, 0, 0, []), (12, .iaload, 1, 0, 0, 0, 0, 0, []), (13, .i2l, 1, 0, 0, 0, 0, 0, []), (14, .aload_n 0, 1, 0, 0, 0, 0, 0, []),
  (15, .getfield 121, 3, 6, 44, 3, 2273, 0, []), (18, .bipush 11, 2, 0, 0, 0, 0, 11, []), (20, .iconst 2, 1, 0, 0, 0, 0, 2, []), (21, .iload_n 1, 1, 1, 0, 0, 0, 0, []), (22, .imul, 1, 0, 0, 0, 0, 0, []), (23, .iadd, 1, 0, 0, 0, 0, 0, []),
  (24, .iaload, 1, 0, 0, 0, 0, 0, []), (25, .i2l, 1, 0, 0, 0, 0, 0, []), (26, .invokestatic 282, 3, 127, 3, 4, 3164, 0, []), (29, .ireturn, 1, 0, 0, 4, 0, 0, [])]
noncomputable def am_s186 : am_S := (yX6_hourGoes, cX6_hourGoes, 4, (some .int), 1, 1, 1, 6, 3728, 3727, 134, 523)
noncomputable def am_c186_0 : List (Nat × am_E) := [(0, .iconst 0, 1, 0, 0, 0, 0, 0, []), (1, .istore_n 1, 1, 1, 0, 0, 0, 0, []), (2, .iconst 0, 1, 0, 0, 0, 0, 0, []), (3, .istore_n 2, 1, 2, 0, 0, 0, 0, []), (4, .iload_n 2, 1, 2, 0, 0, 0, 0, []), (5, .aload_n 0, 1, 0, 0, 0, 0, 0, []),
  (6, .invokevirtual 408, 3, 160, 1, 1, 3284, 6, []), (9, .if_icmp .ge 118, 3, 127, 0, 0, 0, 0, []), (12, .aload_n 0, 1, 0, 0, 0, 0, 0, []), (13, .getfield 145, 3, 6, 61, 3, 2562, 0, []), (16, .iload_n 2, 1, 2, 0, 0, 0, 0, []), (17, .iconst (-1), 1, 0, 0, 0, 0, (-1), []),
  (18, .iastore, 1, 0, 0, 0, 0, 0, []), (19, .aload_n 0, 1, 0, 0, 0, 0, 0, []), (20, .iload_n 2, 1, 2, 0, 0, 0, 0, []), (21, .aload_n 0, 1, 0, 0, 0, 0, 0, []), (22, .getfield 139, 3, 6, 54, 3, 2283, 0, []), (25, .iconst 1, 1, 0, 0, 0, 0, 1, []),
  (26, .iaload, 1, 0, 0, 0, 0, 0, []), (27, .invokevirtual 481, 3, 185, 3, 4, 3729, 6, []), (30, .ifCond .eq 11, 3, 41, 0, 0, 0, 0, []), (33, .aload_n 0, 1, 0, 0, 0, 0, 0, []), (34, .iload_n 2, 1, 2, 0, 0, 0, 0, []), (35, .invokevirtual 484, 3, 179, 2, 1, 3656, 6, []),
  (38, .goto 4, 3, 42, 0, 0, 0, 0, []), (41, .iconst (-1), 1, 0, 0, 0, 0, (-1), []), (42, .istore_n 3, 1, 3, 0, 0, 0, 0, []), (43, .iload_n 3, 1, 3, 0, 0, 0, 0, []), (44, .iconst (-1), 1, 0, 0, 0, 0, (-1), []), (45, .if_icmp .ne 6, 3, 51, 0, 0, 0, 0, []),
  (48, .goto 73, 3, 121, 0, 0, 0, 0, []), (51, .iload_n 1, 1, 1, 0, 0, 0, 0, []), (52, .aload_n 0, 1, 0, 0, 0, 0, 0, []), (53, .getfield 127, 3, 6, 47, 3, 2276, 0, []), (56, .iconst 4, 1, 0, 0, 0, 0, 4, []), (57, .iaload, 1, 0, 0, 0, 0, 0, []),
  (58, .if_icmp .ne 16, 3, 74, 0, 0, 0, 0, []), (61, .aload_n 0, 1, 0, 0, 0, 0, 0, []), (62, .getfield 151, 3, 6, 63, 3, 2564, 0, []), (65, .iload_n 2, 1, 2, 0, 0, 0, 0, []), (66, .dup2, 1, 0, 0, 0, 0, 0, []), (67, .iaload, 1, 0, 0, 0, 0, 0, []),
  (68, .iconst 1, 1, 0, 0, 0, 0, 1, []), (69, .iadd, 1, 0, 0, 0, 0, 0, []), (70, .iastore, 1, 0, 0, 0, 0, 0, []), (71, .goto 50, 3, 121, 0, 0, 0, 0, []), (74, .aload_n 0, 1, 0, 0, 0, 0, 0, []), (75, .getfield 145, 3, 6, 61, 3, 2562, 0, []),
  (78, .iload_n 2, 1, 2, 0, 0, 0, 0, []), (79, .iload_n 3, 1, 3, 0, 0, 0, 0, []), (80, .iastore, 1, 0, 0, 0, 0, 0, []), (81, .iinc 1 1, 3, 1, 0, 0, 0, 1, []), (84, .aload_n 0, 1, 0, 0, 0, 0, 0, []), (85, .getfield 148, 3, 6, 62, 3, 2563, 0, []),
  (88, .iload_n 2, 1, 2, 0, 0, 0, 0, []), (89, .dup2, 1, 0, 0, 0, 0, 0, []), (90, .laload, 1, 0, 0, 0, 0, 0, []), (91, .aload_n 0, 1, 0, 0, 0, 0, 0, []), (92, .iload_n 2, 1, 2, 0, 0, 0, 0, []), (93, .iload_n 3, 1, 3, 0, 0, 0, 0, []),
  (94, .invokevirtual 487, 3, 183, 3, 1, 3733, 6, []), (97, .i2l, 1, 0, 0, 0, 0, 0, []), (98, .ladd, 1, 0, 0, 0, 0, 0, []), (99, .lastore, 1, 0, 0, 0, 0, 0, []), (100, .aload_n 0, 1, 0, 0, 0, 0, 0, []), (101, .aload_n 0, 1, 0, 0, 0, 0, 0, []),
  (102, .iload_n 2, 1, 2, 0, 0, 0, 0, []), (103, .invokevirtual 454, 3, 170, 2, 1, 3660, 6, []), (106, .iload_n 3, 1, 3, 0, 0, 0, 0, []), (107, .invokevirtual 490, 3, 180, 3, 0, 3737, 6, []), (110, .aload_n 0, 1, 0, 0, 0, 0, 0, []), (111, .iload_n 2, 1, 2, 0, 0, 0, 0, []),
  (112, .invokevirtual 493, 3, 182, 2, 0, 3745, 6, []), (115, .aload_n 0, 1, 0, 0, 0, 0, 0, []), (116, .iload_n 2, 1, 2, 0, 0, 0, 0, []), (117, .iload_n 3, 1, 3, 0, 0, 0, 0, []), (118, .invokevirtual 496, 3, 181, 3, 0, 3749, 6, []), (121, .iinc 2 1, 3, 2, 0, 0, 0, 1, []),
  (124, .goto (-120), 3, 4, 0, 0, 0, 0, []), (127, .aload_n 0, 1, 0, 0, 0, 0, 0, []), (128, .invokevirtual 499, 3, 184, 1, 0, 3753, 6, []), (131, .aload_n 0, 1, 0, 0, 0, 0, 0, []), (132, .getfield 139, 3, 6, 54, 3, 2283, 0, []), (135, .iconst 1, 1, 0, 0, 0, 0, 1, []),
  (136, .dup2, 1, 0, 0, 0, 0, 0, []), (137, .iaload, 1, 0, 0, 0, 0, 0, []), (138, .iconst 1, 1, 0, 0, 0, 0, 1, []), (139, .iadd, 1, 0, 0, 0, 0, 0, []), (140, .iastore, 1, 0, 0, 0, 0, 0, []), (141, .aload_n 0, 1, 0, 0, 0, 0, 0, []),
  (142, .getfield 139, 3, 6, 54, 3, 2283, 0, []), (145, .iconst 1, 1, 0, 0, 0, 0, 1, []), (146, .iaload, 1, 0, 0, 0, 0, 0, []), (147, .bipush 24, 2, 0, 0, 0, 0, 24, []), (149, .if_icmp .ne 20, 3, 169, 0, 0, 0, 0, []), (152, .aload_n 0, 1, 0, 0, 0, 0, 0, []),
  (153, .getfield 139, 3, 6, 54, 3, 2283, 0, []), (156, .iconst 1, 1, 0, 0, 0, 0, 1, []), (157, .iconst 0, 1, 0, 0, 0, 0, 0, []), (158, .iastore, 1, 0, 0, 0, 0, 0, [])]
noncomputable def am_c186_1 : List (Nat × am_E) := [(159, .aload_n 0, 1, 0, 0, 0, 0, 0, []), (160, .getfield 139, 3, 6, 54, 3, 2283, 0, []), (163, .iconst 0, 1, 0, 0, 0, 0, 0, []), (164, .dup2, 1, 0, 0, 0, 0, 0, []), (165, .iaload, 1, 0, 0, 0, 0, 0, []), (166, .iconst 1, 1, 0, 0, 0, 0, 1, []),
  (167, .iadd, 1, 0, 0, 0, 0, 0, []), (168, .iastore, 1, 0, 0, 0, 0, 0, []), (169, .iload_n 1, 1, 1, 0, 0, 0, 0, []), (170, .ireturn, 1, 0, 0, 1, 0, 0, [])]
noncomputable def am_c186 : List (Nat × am_E) := am_c186_0 ++ (am_c186_1)
noncomputable def am_s187 : am_S := (yX6_hoursGo, cX6_hoursGo, 4, (some .int), 1, 1, 2, 6, 3724, 3723, 133, 523)
noncomputable def am_c187 : List (Nat × am_E) := [(0, .iconst 0, 1, 0, 0, 0, 0, 0, []), (1, .istore_n 2, 1, 2, 0, 0, 0, 0, []), (2, .iconst 0, 1, 0, 0, 0, 0, 0, []), (3, .istore_n 3, 1, 3, 0, 0, 0, 0, []), (4, .iload_n 3, 1, 3, 0, 0, 0, 0, []), (5, .iconst 5, 1, 0, 0, 0, 0, 5, []),
  (6, .if_icmp .ge 23, 3, 29, 0, 0, 0, 0, []), (9, .aload_n 0, 1, 0, 0, 0, 0, 0, []), (10, .getfield 148, 3, 6, 62, 3, 2563, 0, []), (13, .iload_n 3, 1, 3, 0, 0, 0, 0, []), (14, .lconst 0, 1, 0, 0, 0, 0, 0, []), (15, .lastore, 1, 0, 0, 0, 0, 0, []),
  (16, .aload_n 0, 1, 0, 0, 0, 0, 0, []), (17, .getfield 151, 3, 6, 63, 3, 2564, 0, []), (20, .iload_n 3, 1, 3, 0, 0, 0, 0, []), (21, .iconst 0, 1, 0, 0, 0, 0, 0, []), (22, .iastore, 1, 0, 0, 0, 0, 0, []), (23, .iinc 3 1, 3, 3, 0, 0, 0, 1, []),
  (26, .goto (-22), 3, 4, 0, 0, 0, 0, []), (29, .iconst 0, 1, 0, 0, 0, 0, 0, []), (30, .istore_n 3, 1, 3, 0, 0, 0, 0, []), (31, .iload_n 3, 1, 3, 0, 0, 0, 0, []), (32, .iload_n 1, 1, 1, 0, 0, 0, 0, []), (33, .if_icmp .ge 16, 3, 49, 0, 0, 0, 0, []),
  (36, .iload_n 2, 1, 2, 0, 0, 0, 0, []), (37, .aload_n 0, 1, 0, 0, 0, 0, 0, []), (38, .invokevirtual 502, 3, 186, 1, 1, 3725, 6, []), (41, .iadd, 1, 0, 0, 0, 0, 0, []), (42, .istore_n 2, 1, 2, 0, 0, 0, 0, []), (43, .iinc 3 1, 3, 3, 0, 0, 0, 1, []),
  (46, .goto (-15), 3, 31, 0, 0, 0, 0, []), (49, .iload_n 2, 1, 2, 0, 0, 0, 0, []), (50, .ireturn, 1, 0, 0, 1, 0, 0, [])]
noncomputable def am_s188 : am_S := (yX6_putsAside, cX6_putsAside, 2, none, 1, 0, 1, 6, 3720, 3719, 132, 523)
noncomputable def am_c188 : List (Nat × am_E) := [(0, .aload_n 0, 1, 0, 0, 0, 0, 0, []), (1, .iconst 1, 1, 0, 0, 0, 0, 1, []), (2, .putfield 474, 3, 6, 60, 4, 2561, 0, []), (5, .iconst 0, 1, 0, 0, 0, 0, 0, []), (6, .istore_n 1, 1, 1, 0, 0, 0, 0, []), (7, .iload_n 1, 1, 1, 0, 0, 0, 0, []),
  (8, .bipush 96, 2, 0, 0, 0, 0, 96, []), (10, .if_icmp .ge 21, 3, 31, 0, 0, 0, 0, []), (13, .aload_n 0, 1, 0, 0, 0, 0, 0, []), (14, .getfield 142, 3, 6, 55, 3, 2284, 0, []), (17, .iload_n 1, 1, 1, 0, 0, 0, 0, []), (18, .aload_n 0, 1, 0, 0, 0, 0, 0, []),
  (19, .getfield 139, 3, 6, 54, 3, 2283, 0, []), (22, .iload_n 1, 1, 1, 0, 0, 0, 0, []), (23, .iaload, 1, 0, 0, 0, 0, 0, []), (24, .iastore, 1, 0, 0, 0, 0, 0, []), (25, .iinc 1 1, 3, 1, 0, 0, 0, 1, []), (28, .goto (-21), 3, 7, 0, 0, 0, 0, []),
  (31, .return_, 1, 0, 0, 0, 0, 0, [])]
noncomputable def am_s189 : am_S := (yX6_triesAnew, cX6_triesAnew, 2, none, 1, 0, 1, 6, 3764, 3763, 142, 523)
noncomputable def am_c189 : List (Nat × am_E) := [(0, .iconst 0, 1, 0, 0, 0, 0, 0, []), (1, .istore_n 1, 1, 1, 0, 0, 0, 0, []), (2, .iload_n 1, 1, 1, 0, 0, 0, 0, []), (3, .bipush 96, 2, 0, 0, 0, 0, 96, []), (5, .if_icmp .ge 21, 3, 26, 0, 0, 0, 0, []), (8, .aload_n 0, 1, 0, 0, 0, 0, 0, []),
  (9, .getfield 139, 3, 6, 54, 3, 2283, 0, []), (12, .iload_n 1, 1, 1, 0, 0, 0, 0, []), (13, .aload_n 0, 1, 0, 0, 0, 0, 0, []), (14, .getfield 142, 3, 6, 55, 3, 2284, 0, []), (17, .iload_n 1, 1, 1, 0, 0, 0, 0, []), (18, .iaload, 1, 0, 0, 0, 0, 0, []),
  (19, .iastore, 1, 0, 0, 0, 0, 0, []), (20, .iinc 1 1, 3, 1, 0, 0, 0, 1, []), (23, .goto (-21), 3, 2, 0, 0, 0, 0, []), (26, .return_, 1, 0, 0, 0, 0, 0, [])]
noncomputable def am_s190 : am_S := (yX6_takesBack, cX6_takesBack, 1, none, 1, 0, 1, 6, 3760, 3759, 141, 523)
noncomputable def am_c190 : List (Nat × am_E) := [(0, .aload_n 0, 1, 0, 0, 0, 0, 0, []), (1, .invokevirtual 505, 3, 189, 1, 0, 3761, 6, []), (4, .aload_n 0, 1, 0, 0, 0, 0, 0, []), (5, .iconst 0, 1, 0, 0, 0, 0, 0, []), (6, .putfield 474, 3, 6, 60, 4, 2561, 0, []), (9, .return_, 1, 0, 0, 0, 0, 0, [])]
noncomputable def am_s191 : am_S := (yX6_isAhead, cX6_isAhead, 4, (some .boolean), 1, 4, 4, 6, 3715, 3714, 131, 523)
noncomputable def am_c191 : List (Nat × am_E) := [(0, .iload_n 1, 1, 1, 0, 0, 0, 0, []), (1, .i2l, 1, 0, 0, 0, 0, 0, []), (2, .iload_n 2, 1, 2, 0, 0, 0, 0, []), (3, .i2l, 1, 0, 0, 0, 0, 0, []), (4, .iload_n 3, 1, 3, 0, 0, 0, 0, []), (5, .i2l, 1, 0, 0, 0, 0, 0, []),
  (6, .invokestatic 282, 3, 127, 3, 4, 3164, 0, []), (9, .ifCond .eq 31, 3, 40, 0, 0, 0, 0, []), (12, .bipush 24, 2, 0, 0, 0, 0, 24, []), (14, .aload_n 0, 1, 0, 0, 0, 0, 0, []), (15, .getfield 139, 3, 6, 54, 3, 2283, 0, []), (18, .iconst 0, 1, 0, 0, 0, 0, 0, []),
  (19, .iaload, 1, 0, 0, 0, 0, 0, []), (20, .imul, 1, 0, 0, 0, 0, 0, []), (21, .aload_n 0, 1, 0, 0, 0, 0, 0, []), (22, .getfield 139, 3, 6, 54, 3, 2283, 0, []), (25, .iconst 1, 1, 0, 0, 0, 0, 1, []), (26, .iaload, 1, 0, 0, 0, 0, 0, []),
  (27, .iadd, 1, 0, 0, 0, 0, 0, []), (28, .iload_n 1, 1, 1, 0, 0, 0, 0, []), (29, .iadd, 1, 0, 0, 0, 0, 0, []), (30, .sipush 23999, 3, 0, 0, 0, 0, 23999, []), (33, .if_icmp .gt 7, 3, 40, 0, 0, 0, 0, []), (36, .iconst 1, 1, 0, 0, 0, 0, 1, []),
  (37, .goto 4, 3, 41, 0, 0, 0, 0, []), (40, .iconst 0, 1, 0, 0, 0, 0, 0, []), (41, .ireturn, 1, 0, 0, 4, 0, 0, [])]
noncomputable def am_s192 : am_S := (yX6_bits, cX6_bits, 3, (some .int), 0, 1, 1, 6, 3306, 3305, 0, 523)
noncomputable def am_c192 : List (Nat × am_E) := [(0, .iconst 0, 1, 0, 0, 0, 0, 0, []), (1, .istore_n 1, 1, 1, 0, 0, 0, 0, []), (2, .iload_n 0, 1, 0, 0, 0, 0, 0, []), (3, .istore_n 2, 1, 2, 0, 0, 0, 0, []), (4, .iload_n 2, 1, 2, 0, 0, 0, 0, []), (5, .ifCond .eq 15, 3, 20, 0, 0, 0, 0, []),
  (8, .iinc 1 1, 3, 1, 0, 0, 0, 1, []), (11, .iload_n 2, 1, 2, 0, 0, 0, 0, []), (12, .iload_n 2, 1, 2, 0, 0, 0, 0, []), (13, .iconst 1, 1, 0, 0, 0, 0, 1, []), (14, .isub, 1, 0, 0, 0, 0, 0, []), (15, .iand, 1, 0, 0, 0, 0, 0, []),
  (16, .istore_n 2, 1, 2, 0, 0, 0, 0, []), (17, .goto (-13), 3, 4, 0, 0, 0, 0, []), (20, .iload_n 1, 1, 1, 0, 0, 0, 0, []), (21, .ireturn, 1, 0, 0, 1, 0, 0, [])]
noncomputable def am_s193 : am_S := (yX6_hoursOf, cX6_hoursOf, 2, (some .int), 1, 1, 2, 6, 3586, 3585, 110, 523)
noncomputable def am_c193 : List (Nat × am_E) := [(0, .aload_n 0, 1, 0, 0, 0, 0, 0, []), (1, .getfield 139, 3, 6, 54, 3, 2283, 0, []), (4, .bipush 86, 2, 0, 0, 0, 0, 86, []), (6, .iconst 2, 1, 0, 0, 0, 0, 2, []), (7, .iload_n 1, 1, 1, 0, 0, 0, 0, []), (8, .imul, 1, 0, 0, 0, 0, 0, []),
  (9, .iadd, 1, 0, 0, 0, 0, 0, []), (10, .iconst 1, 1, 0, 0, 0, 0, 1, []), (11, .iadd, 1, 0, 0, 0, 0, 0, []), (12, .iaload, 1, 0, 0, 0, 0, 0, []), (13, .ireturn, 1, 0, 0, 1, 0, 0, [])]
noncomputable def am_s194 : am_S := (yX6_hoursAll, cX6_hoursAll, 3, (some .int), 1, 1, 1, 6, 3310, 3309, 109, 523)
noncomputable def am_c194 : List (Nat × am_E) := [(0, .iconst 0, 1, 0, 0, 0, 0, 0, []), (1, .istore_n 1, 1, 1, 0, 0, 0, 0, []), (2, .iconst 0, 1, 0, 0, 0, 0, 0, []), (3, .istore_n 2, 1, 2, 0, 0, 0, 0, []), (4, .iload_n 2, 1, 2, 0, 0, 0, 0, []), (5, .aload_n 0, 1, 0, 0, 0, 0, 0, []),
  (6, .invokevirtual 408, 3, 160, 1, 1, 3284, 6, []), (9, .if_icmp .ge 17, 3, 26, 0, 0, 0, 0, []), (12, .iload_n 1, 1, 1, 0, 0, 0, 0, []), (13, .aload_n 0, 1, 0, 0, 0, 0, 0, []), (14, .iload_n 2, 1, 2, 0, 0, 0, 0, []), (15, .invokevirtual 508, 3, 193, 2, 1, 3311, 6, []),
  (18, .iadd, 1, 0, 0, 0, 0, 0, []), (19, .istore_n 1, 1, 1, 0, 0, 0, 0, []), (20, .iinc 2 1, 3, 2, 0, 0, 0, 1, []), (23, .goto (-19), 3, 4, 0, 0, 0, 0, []), (26, .iload_n 1, 1, 1, 0, 0, 0, 0, []), (27, .ireturn, 1, 0, 0, 1, 0, 0, [])]
noncomputable def am_s195 : am_S := (yX6_has, cX6_has, 2, (some .int), 1, 1, 2, 6, 3295, 3293, 3294, 523)
noncomputable def am_c195 : List (Nat × am_E) := [(0, .iload_n 1, 1, 1, 0, 0, 0, 0, []), (1, .tableswitch 115 0 10 #[59, 59, 59, 68, 75, 75, 84, 92, 97, 105, 110], 59, 116, 0, 0, 0, 0, [(0, 60), (1, 60), (2, 60), (3, 69), (4, 76), (5, 76), (6, 85), (7, 93), (8, 98), (9, 106), (10, 111)]), (60, .aload_n 0, 1, 0, 0, 0, 0, 0, []), (61, .getfield 108, 3, 6, 40, 3, 2269, 0, []), (64, .iconst 3, 1, 0, 0, 0, 0, 3, []), (65, .iload_n 1, 1, 1, 0, 0, 0, 0, []),
  (66, .iadd, 1, 0, 0, 0, 0, 0, []), (67, .iaload, 1, 0, 0, 0, 0, 0, []), (68, .ireturn, 1, 0, 0, 1, 0, 0, []), (69, .aload_n 0, 1, 0, 0, 0, 0, 0, []), (70, .getfield 127, 3, 6, 47, 3, 2276, 0, []), (73, .iconst 4, 1, 0, 0, 0, 0, 4, []),
  (74, .iaload, 1, 0, 0, 0, 0, 0, []), (75, .ireturn, 1, 0, 0, 1, 0, 0, []), (76, .aload_n 0, 1, 0, 0, 0, 0, 0, []), (77, .getfield 139, 3, 6, 54, 3, 2283, 0, []), (80, .iload_n 1, 1, 1, 0, 0, 0, 0, []), (81, .iconst 4, 1, 0, 0, 0, 0, 4, []),
  (82, .isub, 1, 0, 0, 0, 0, 0, []), (83, .iaload, 1, 0, 0, 0, 0, 0, []), (84, .ireturn, 1, 0, 0, 1, 0, 0, []), (85, .aload_n 0, 1, 0, 0, 0, 0, 0, []), (86, .invokevirtual 511, 3, 169, 1, 1, 3296, 6, []), (89, .invokestatic 514, 3, 192, 1, 1, 3304, 0, []),
  (92, .ireturn, 1, 0, 0, 1, 0, 0, []), (93, .aload_n 0, 1, 0, 0, 0, 0, 0, []), (94, .invokevirtual 517, 3, 194, 1, 1, 3307, 6, []), (97, .ireturn, 1, 0, 0, 1, 0, 0, []), (98, .aload_n 0, 1, 0, 0, 0, 0, 0, []), (99, .getfield 139, 3, 6, 54, 3, 2283, 0, []),
  (102, .bipush 96, 2, 0, 0, 0, 0, 96, []), (104, .iaload, 1, 0, 0, 0, 0, 0, []), (105, .ireturn, 1, 0, 0, 1, 0, 0, []), (106, .aload_n 0, 1, 0, 0, 0, 0, 0, []), (107, .getfield 399, 3, 6, 65, 1, 2566, 0, []), (110, .ireturn, 1, 0, 0, 1, 0, 0, []),
  (111, .aload_n 0, 1, 0, 0, 0, 0, 0, []), (112, .getfield 396, 3, 6, 68, 1, 2569, 0, []), (115, .ireturn, 1, 0, 0, 1, 0, 0, []), (116, .iconst (-1), 1, 0, 0, 0, 0, (-1), []), (117, .ireturn, 1, 0, 0, 1, 0, 0, [])]
noncomputable def am_s196 : am_S := (yX6_letter, cX6_letter, 9, (some .int), 1, 1, 4, 6, 3590, 3588, 3589, 523)
noncomputable def am_c196 : List (Nat × am_E) := [(0, .iload_n 1, 1, 1, 0, 0, 0, 0, []), (1, .i2l, 1, 0, 0, 0, 0, 0, []), (2, .lconst 0, 1, 0, 0, 0, 0, 0, []), (3, .ldc2_w 520, 3, 0, 0, 0, 3591, 2, []), (6, .invokestatic 282, 3, 127, 3, 4, 3164, 0, []), (9, .ifCond .eq 35, 3, 44, 0, 0, 0, 0, []),
  (12, .iload_n 2, 1, 2, 0, 0, 0, 0, []), (13, .i2l, 1, 0, 0, 0, 0, 0, []), (14, .lconst 0, 1, 0, 0, 0, 0, 0, []), (15, .aload_n 0, 1, 0, 0, 0, 0, 0, []), (16, .getfield 108, 3, 6, 40, 3, 2269, 0, []), (19, .iconst 3, 1, 0, 0, 0, 0, 3, []),
  (20, .iload_n 1, 1, 1, 0, 0, 0, 0, []), (21, .iadd, 1, 0, 0, 0, 0, 0, []), (22, .iaload, 1, 0, 0, 0, 0, 0, []), (23, .iconst 1, 1, 0, 0, 0, 0, 1, []), (24, .isub, 1, 0, 0, 0, 0, 0, []), (25, .i2l, 1, 0, 0, 0, 0, 0, []),
  (26, .invokestatic 282, 3, 127, 3, 4, 3164, 0, []), (29, .ifCond .eq 15, 3, 44, 0, 0, 0, 0, []), (32, .iload_n 3, 1, 3, 0, 0, 0, 0, []), (33, .i2l, 1, 0, 0, 0, 0, 0, []), (34, .lconst 0, 1, 0, 0, 0, 0, 0, []), (35, .ldc2_w 302, 3, 0, 0, 0, 3224, 5, []),
  (38, .invokestatic 282, 3, 127, 3, 4, 3164, 0, []), (41, .ifCond .ne 5, 3, 46, 0, 0, 0, 0, []), (44, .iconst (-1), 1, 0, 0, 0, 0, (-1), []), (45, .ireturn, 1, 0, 0, 1, 0, 0, []), (46, .aload_n 0, 1, 0, 0, 0, 0, 0, []), (47, .getfield 111, 3, 6, 41, 3, 2270, 0, []),
  (50, .bipush 24, 2, 0, 0, 0, 0, 24, []), (52, .bipush 8, 2, 0, 0, 0, 0, 8, []), (54, .iload_n 1, 1, 1, 0, 0, 0, 0, []), (55, .imul, 1, 0, 0, 0, 0, 0, []), (56, .iadd, 1, 0, 0, 0, 0, 0, []), (57, .iload_n 2, 1, 2, 0, 0, 0, 0, []),
  (58, .iadd, 1, 0, 0, 0, 0, 0, []), (59, .laload, 1, 0, 0, 0, 0, 0, []), (60, .lstore 4, 2, 4, 0, 0, 0, 0, []), (62, .iconst 0, 1, 0, 0, 0, 0, 0, []), (63, .istore 6, 2, 6, 0, 0, 0, 0, []), (65, .lload 4, 2, 4, 0, 0, 0, 0, []),
  (67, .lstore 7, 2, 7, 0, 0, 0, 0, []), (69, .lload 7, 2, 7, 0, 0, 0, 0, []), (71, .lconst 0, 1, 0, 0, 0, 0, 0, []), (72, .lcmp, 1, 0, 0, 0, 0, 0, []), (73, .ifCond .le 17, 3, 90, 0, 0, 0, 0, []), (76, .iinc 6 1, 3, 6, 0, 0, 0, 1, []),
  (79, .lload 7, 2, 7, 0, 0, 0, 0, []), (81, .ldc2_w 293, 3, 0, 0, 0, 3139, 27, []), (84, .ldiv, 1, 0, 0, 0, 0, 0, []), (85, .lstore 7, 2, 7, 0, 0, 0, 0, []), (87, .goto (-18), 3, 69, 0, 0, 0, 0, []), (90, .iload_n 3, 1, 3, 0, 0, 0, 0, []),
  (91, .iload 6, 2, 6, 0, 0, 0, 0, []), (93, .if_icmp .lt 5, 3, 98, 0, 0, 0, 0, []), (96, .iconst 0, 1, 0, 0, 0, 0, 0, []), (97, .ireturn, 1, 0, 0, 1, 0, 0, []), (98, .iload 6, 2, 6, 0, 0, 0, 0, []), (100, .iconst 1, 1, 0, 0, 0, 0, 1, []),
  (101, .isub, 1, 0, 0, 0, 0, 0, []), (102, .istore 7, 2, 7, 0, 0, 0, 0, []), (104, .iload 7, 2, 7, 0, 0, 0, 0, []), (106, .iload_n 3, 1, 3, 0, 0, 0, 0, []), (107, .if_icmp .le 17, 3, 124, 0, 0, 0, 0, []), (110, .lload 4, 2, 4, 0, 0, 0, 0, []),
  (112, .ldc2_w 293, 3, 0, 0, 0, 3139, 27, []), (115, .ldiv, 1, 0, 0, 0, 0, 0, []), (116, .lstore 4, 2, 4, 0, 0, 0, 0, []), (118, .iinc 7 (-1), 3, 7, 0, 0, 0, (-1), []), (121, .goto (-17), 3, 104, 0, 0, 0, 0, []), (124, .lload 4, 2, 4, 0, 0, 0, 0, []),
  (126, .ldc2_w 293, 3, 0, 0, 0, 3139, 27, []), (129, .lrem, 1, 0, 0, 0, 0, 0, []), (130, .l2i, 1, 0, 0, 0, 0, 0, []), (131, .ireturn, 1, 0, 0, 1, 0, 0, [])]
noncomputable def am_s197 : am_S := (yX6_film, cX6_film, 3, (some .int), 1, 1, 3, 6, 3595, 3593, 3594, 523)
noncomputable def am_c197 : List (Nat × am_E) := [(0, .aload_n 0, 1, 0, 0, 0, 0, 0, []), (1, .iload_n 1, 1, 1, 0, 0, 0, 0, []), (2, .invokevirtual 522, 3, 162, 2, 4, 3596, 6, []), (5, .ifCond .ne 5, 3, 10, 0, 0, 0, 0, []), (8, .iconst (-1), 1, 0, 0, 0, 0, (-1), []), (9, .ireturn, 1, 0, 0, 1, 0, 0, []),
  (10, .iload_n 2, 1, 2, 0, 0, 0, 0, []), (11, .bipush 10, 2, 0, 0, 0, 0, 10, []), (13, .if_icmp .lt 24, 3, 37, 0, 0, 0, 0, []), (16, .aload_n 0, 1, 0, 0, 0, 0, 0, []), (17, .iload_n 2, 1, 2, 0, 0, 0, 0, []), (18, .bipush 10, 2, 0, 0, 0, 0, 10, []),
  (20, .isub, 1, 0, 0, 0, 0, 0, []), (21, .invokevirtual 525, 3, 161, 2, 4, 3604, 6, []), (24, .ifCond .eq 13, 3, 37, 0, 0, 0, 0, []), (27, .aload_n 0, 1, 0, 0, 0, 0, 0, []), (28, .iload_n 1, 1, 1, 0, 0, 0, 0, []), (29, .iload_n 2, 1, 2, 0, 0, 0, 0, []),
  (30, .bipush 10, 2, 0, 0, 0, 0, 10, []), (32, .isub, 1, 0, 0, 0, 0, 0, []), (33, .invokevirtual 417, 3, 165, 3, 1, 3612, 6, []), (36, .ireturn, 1, 0, 0, 1, 0, 0, []), (37, .iload_n 2, 1, 2, 0, 0, 0, 0, []), (38, .ifCond .ne 11, 3, 49, 0, 0, 0, 0, []),
  (41, .aload_n 0, 1, 0, 0, 0, 0, 0, []), (42, .iload_n 1, 1, 1, 0, 0, 0, 0, []), (43, .invokevirtual 445, 3, 164, 2, 1, 3616, 6, []), (46, .goto 4, 3, 50, 0, 0, 0, 0, []), (49, .iconst (-1), 1, 0, 0, 0, 0, (-1), []), (50, .ireturn, 1, 0, 0, 1, 0, 0, [])]
noncomputable def am_s198 : am_S := (yX6_person, cX6_person, 3, (some .int), 1, 1, 3, 6, 3623, 3621, 3622, 523)
noncomputable def am_c198 : List (Nat × am_E) := [(0, .aload_n 0, 1, 0, 0, 0, 0, 0, []), (1, .iload_n 1, 1, 1, 0, 0, 0, 0, []), (2, .invokevirtual 528, 3, 163, 2, 4, 3624, 6, []), (5, .ifCond .ne 5, 3, 10, 0, 0, 0, 0, []), (8, .iconst (-1), 1, 0, 0, 0, 0, (-1), []), (9, .ireturn, 1, 0, 0, 1, 0, 0, []),
  (10, .iload_n 2, 1, 2, 0, 0, 0, 0, []), (11, .bipush 10, 2, 0, 0, 0, 0, 10, []), (13, .if_icmp .lt 24, 3, 37, 0, 0, 0, 0, []), (16, .aload_n 0, 1, 0, 0, 0, 0, 0, []), (17, .iload_n 2, 1, 2, 0, 0, 0, 0, []), (18, .bipush 10, 2, 0, 0, 0, 0, 10, []),
  (20, .isub, 1, 0, 0, 0, 0, 0, []), (21, .invokevirtual 525, 3, 161, 2, 4, 3604, 6, []), (24, .ifCond .eq 13, 3, 37, 0, 0, 0, 0, []), (27, .aload_n 0, 1, 0, 0, 0, 0, 0, []), (28, .iload_n 1, 1, 1, 0, 0, 0, 0, []), (29, .iload_n 2, 1, 2, 0, 0, 0, 0, []),
  (30, .bipush 10, 2, 0, 0, 0, 0, 10, []), (32, .isub, 1, 0, 0, 0, 0, 0, []), (33, .invokevirtual 423, 3, 166, 3, 1, 3628, 6, []), (36, .ireturn, 1, 0, 0, 1, 0, 0, []), (37, .iload_n 2, 1, 2, 0, 0, 0, 0, []), (38, .tableswitch 64 0 3 #[30, 30, 44, 58], 30, 102, 0, 0, 0, 0, [(0, 68), (1, 68), (2, 82), (3, 96)]),
  (68, .aload_n 0, 1, 0, 0, 0, 0, 0, []), (69, .getfield 121, 3, 6, 44, 3, 2273, 0, []), (72, .bipush 10, 2, 0, 0, 0, 0, 10, []), (74, .iconst 2, 1, 0, 0, 0, 0, 2, []), (75, .iload_n 1, 1, 1, 0, 0, 0, 0, []), (76, .imul, 1, 0, 0, 0, 0, 0, []),
  (77, .iadd, 1, 0, 0, 0, 0, 0, []), (78, .iload_n 2, 1, 2, 0, 0, 0, 0, []), (79, .iadd, 1, 0, 0, 0, 0, 0, []), (80, .iaload, 1, 0, 0, 0, 0, 0, []), (81, .ireturn, 1, 0, 0, 1, 0, 0, []), (82, .aload_n 0, 1, 0, 0, 0, 0, 0, []),
  (83, .iload_n 1, 1, 1, 0, 0, 0, 0, []), (84, .invokevirtual 411, 3, 167, 2, 4, 3300, 6, []), (87, .ifCond .eq 7, 3, 94, 0, 0, 0, 0, []), (90, .iconst 1, 1, 0, 0, 0, 0, 1, []), (91, .goto 4, 3, 95, 0, 0, 0, 0, []), (94, .iconst 0, 1, 0, 0, 0, 0, 0, []),
  (95, .ireturn, 1, 0, 0, 1, 0, 0, []), (96, .aload_n 0, 1, 0, 0, 0, 0, 0, []), (97, .iload_n 1, 1, 1, 0, 0, 0, 0, []), (98, .invokevirtual 508, 3, 193, 2, 1, 3311, 6, []), (101, .ireturn, 1, 0, 0, 1, 0, 0, []), (102, .iconst (-1), 1, 0, 0, 0, 0, (-1), []),
  (103, .ireturn, 1, 0, 0, 1, 0, 0, [])]
noncomputable def am_s199 : am_S := (yX6_taste, cX6_taste, 3, (some .int), 1, 1, 3, 6, 3635, 3633, 3634, 523)
noncomputable def am_c199 : List (Nat × am_E) := [(0, .iload_n 1, 1, 1, 0, 0, 0, 0, []), (1, .iconst (-1), 1, 0, 0, 0, 0, (-1), []), (2, .if_icmp .eq 11, 3, 13, 0, 0, 0, 0, []), (5, .aload_n 0, 1, 0, 0, 0, 0, 0, []), (6, .iload_n 1, 1, 1, 0, 0, 0, 0, []), (7, .invokevirtual 528, 3, 163, 2, 4, 3624, 6, []),
  (10, .ifCond .eq 11, 3, 21, 0, 0, 0, 0, []), (13, .aload_n 0, 1, 0, 0, 0, 0, 0, []), (14, .iload_n 2, 1, 2, 0, 0, 0, 0, []), (15, .invokevirtual 525, 3, 161, 2, 4, 3604, 6, []), (18, .ifCond .ne 7, 3, 25, 0, 0, 0, 0, []), (21, .iconst (-1), 1, 0, 0, 0, 0, (-1), []),
  (22, .goto 16, 3, 38, 0, 0, 0, 0, []), (25, .aload_n 0, 1, 0, 0, 0, 0, 0, []), (26, .getfield 139, 3, 6, 54, 3, 2283, 0, []), (29, .aload_n 0, 1, 0, 0, 0, 0, 0, []), (30, .iconst 1, 1, 0, 0, 0, 0, 1, []), (31, .iload_n 1, 1, 1, 0, 0, 0, 0, []),
  (32, .iadd, 1, 0, 0, 0, 0, 0, []), (33, .iload_n 2, 1, 2, 0, 0, 0, 0, []), (34, .invokevirtual 420, 3, 171, 3, 1, 3636, 6, []), (37, .iaload, 1, 0, 0, 0, 0, 0, []), (38, .ireturn, 1, 0, 0, 1, 0, 0, [])]
noncomputable def am_s200 : am_S := (yX6_seen, cX6_seen, 3, (some .int), 1, 1, 3, 6, 3643, 3641, 3642, 523)
noncomputable def am_c200 : List (Nat × am_E) := [(0, .iload_n 1, 1, 1, 0, 0, 0, 0, []), (1, .iconst (-1), 1, 0, 0, 0, 0, (-1), []), (2, .if_icmp .eq 11, 3, 13, 0, 0, 0, 0, []), (5, .aload_n 0, 1, 0, 0, 0, 0, 0, []), (6, .iload_n 1, 1, 1, 0, 0, 0, 0, []), (7, .invokevirtual 528, 3, 163, 2, 4, 3624, 6, []),
  (10, .ifCond .eq 11, 3, 21, 0, 0, 0, 0, []), (13, .aload_n 0, 1, 0, 0, 0, 0, 0, []), (14, .iload_n 2, 1, 2, 0, 0, 0, 0, []), (15, .invokevirtual 522, 3, 162, 2, 4, 3596, 6, []), (18, .ifCond .ne 7, 3, 25, 0, 0, 0, 0, []), (21, .iconst (-1), 1, 0, 0, 0, 0, (-1), []),
  (22, .goto 11, 3, 33, 0, 0, 0, 0, []), (25, .aload_n 0, 1, 0, 0, 0, 0, 0, []), (26, .iconst 1, 1, 0, 0, 0, 0, 1, []), (27, .iload_n 1, 1, 1, 0, 0, 0, 0, []), (28, .iadd, 1, 0, 0, 0, 0, 0, []), (29, .iload_n 2, 1, 2, 0, 0, 0, 0, []),
  (30, .invokevirtual 442, 3, 173, 3, 1, 3644, 6, []), (33, .ireturn, 1, 0, 0, 1, 0, 0, [])]
noncomputable def am_s201 : am_S := (yX6_suggest, cX6_suggest, 2, (some .int), 1, 1, 2, 6, 3655, 3653, 3654, 523)
noncomputable def am_c201 : List (Nat × am_E) := [(0, .aload_n 0, 1, 0, 0, 0, 0, 0, []), (1, .iload_n 1, 1, 1, 0, 0, 0, 0, []), (2, .invokevirtual 528, 3, 163, 2, 4, 3624, 6, []), (5, .ifCond .eq 11, 3, 16, 0, 0, 0, 0, []), (8, .aload_n 0, 1, 0, 0, 0, 0, 0, []), (9, .iload_n 1, 1, 1, 0, 0, 0, 0, []),
  (10, .invokevirtual 484, 3, 179, 2, 1, 3656, 6, []), (13, .goto 4, 3, 17, 0, 0, 0, 0, []), (16, .iconst (-1), 1, 0, 0, 0, 0, (-1), []), (17, .ireturn, 1, 0, 0, 1, 0, 0, [])]
noncomputable def am_s202 : am_S := (yX6_worth, cX6_worth, 3, (some .int), 1, 1, 3, 6, 3703, 3701, 3702, 523)
noncomputable def am_c202 : List (Nat × am_E) := [(0, .aload_n 0, 1, 0, 0, 0, 0, 0, []), (1, .iload_n 1, 1, 1, 0, 0, 0, 0, []), (2, .invokevirtual 528, 3, 163, 2, 4, 3624, 6, []), (5, .ifCond .eq 20, 3, 25, 0, 0, 0, 0, []), (8, .aload_n 0, 1, 0, 0, 0, 0, 0, []), (9, .iload_n 2, 1, 2, 0, 0, 0, 0, []),
  (10, .invokevirtual 522, 3, 162, 2, 4, 3596, 6, []), (13, .ifCond .eq 12, 3, 25, 0, 0, 0, 0, []), (16, .aload_n 0, 1, 0, 0, 0, 0, 0, []), (17, .iload_n 1, 1, 1, 0, 0, 0, 0, []), (18, .iload_n 2, 1, 2, 0, 0, 0, 0, []), (19, .invokevirtual 478, 3, 175, 3, 1, 3684, 6, []),
  (22, .goto 4, 3, 26, 0, 0, 0, 0, []), (25, .iconst (-1), 1, 0, 0, 0, 0, (-1), []), (26, .ireturn, 1, 0, 0, 1, 0, 0, [])]
noncomputable def am_s203 : am_S := (yX6_kept, cX6_kept, 3, (some .int), 1, 1, 3, 6, 3707, 3705, 3706, 523)
noncomputable def am_c203 : List (Nat × am_E) := [(0, .iload_n 1, 1, 1, 0, 0, 0, 0, []), (1, .i2l, 1, 0, 0, 0, 0, 0, []), (2, .lconst 0, 1, 0, 0, 0, 0, 0, []), (3, .aload_n 0, 1, 0, 0, 0, 0, 0, []), (4, .getfield 139, 3, 6, 54, 3, 2283, 0, []), (7, .bipush 96, 2, 0, 0, 0, 0, 96, []),
  (9, .iaload, 1, 0, 0, 0, 0, 0, []), (10, .iconst 1, 1, 0, 0, 0, 0, 1, []), (11, .isub, 1, 0, 0, 0, 0, 0, []), (12, .i2l, 1, 0, 0, 0, 0, 0, []), (13, .invokestatic 282, 3, 127, 3, 4, 3164, 0, []), (16, .ifCond .eq 31, 3, 47, 0, 0, 0, 0, []),
  (19, .iload_n 2, 1, 2, 0, 0, 0, 0, []), (20, .i2l, 1, 0, 0, 0, 0, 0, []), (21, .lconst 0, 1, 0, 0, 0, 0, 0, []), (22, .ldc2_w 300, 3, 0, 0, 0, 3223, 3, []), (25, .invokestatic 282, 3, 127, 3, 4, 3164, 0, []), (28, .ifCond .eq 19, 3, 47, 0, 0, 0, 0, []),
  (31, .aload_n 0, 1, 0, 0, 0, 0, 0, []), (32, .getfield 139, 3, 6, 54, 3, 2283, 0, []), (35, .bipush 97, 2, 0, 0, 0, 0, 97, []), (37, .iconst 4, 1, 0, 0, 0, 0, 4, []), (38, .iload_n 1, 1, 1, 0, 0, 0, 0, []), (39, .imul, 1, 0, 0, 0, 0, 0, []),
  (40, .iadd, 1, 0, 0, 0, 0, 0, []), (41, .iload_n 2, 1, 2, 0, 0, 0, 0, []), (42, .iadd, 1, 0, 0, 0, 0, 0, []), (43, .iaload, 1, 0, 0, 0, 0, 0, []), (44, .goto 4, 3, 48, 0, 0, 0, 0, []), (47, .iconst (-1), 1, 0, 0, 0, 0, (-1), []),
  (48, .ireturn, 1, 0, 0, 1, 0, 0, [])]
noncomputable def am_s204 : am_S := (yX6_pleased, cX6_pleased, 3, (some .long), 1, 2, 3, 6, 3711, 3709, 3710, 523)
noncomputable def am_c204 : List (Nat × am_E) := [(0, .aload_n 0, 1, 0, 0, 0, 0, 0, []), (1, .iload_n 1, 1, 1, 0, 0, 0, 0, []), (2, .invokevirtual 528, 3, 163, 2, 4, 3624, 6, []), (5, .ifCond .eq 14, 3, 19, 0, 0, 0, 0, []), (8, .aload_n 0, 1, 0, 0, 0, 0, 0, []), (9, .iload_n 2, 1, 2, 0, 0, 0, 0, []),
  (10, .iconst 0, 1, 0, 0, 0, 0, 0, []), (11, .bipush 72, 2, 0, 0, 0, 0, 72, []), (13, .invokevirtual 531, 3, 191, 4, 4, 3712, 6, []), (16, .ifCond .ne 7, 3, 23, 0, 0, 0, 0, []), (19, .ldc2_w 534, 3, 0, 0, 0, 3716, (-1000000000000000), []), (22, .lreturn, 1, 0, 0, 2, 0, 0, []),
  (23, .aload_n 0, 1, 0, 0, 0, 0, 0, []), (24, .invokevirtual 536, 3, 188, 1, 0, 3717, 6, []), (27, .aload_n 0, 1, 0, 0, 0, 0, 0, []), (28, .iload_n 2, 1, 2, 0, 0, 0, 0, []), (29, .invokevirtual 539, 3, 187, 2, 1, 3721, 6, []), (32, .pop, 1, 0, 0, 0, 0, 0, []),
  (33, .aload_n 0, 1, 0, 0, 0, 0, 0, []), (34, .invokevirtual 542, 3, 190, 1, 0, 3757, 6, []), (37, .aload_n 0, 1, 0, 0, 0, 0, 0, []), (38, .getfield 148, 3, 6, 62, 3, 2563, 0, []), (41, .iload_n 1, 1, 1, 0, 0, 0, 0, []), (42, .laload, 1, 0, 0, 0, 0, 0, []),
  (43, .lreturn, 1, 0, 0, 2, 0, 0, [])]
noncomputable def am_s205 : am_S := (yX6_refused, cX6_refused, 3, (some .int), 1, 1, 3, 6, 3768, 3766, 3767, 523)
noncomputable def am_c205 : List (Nat × am_E) := [(0, .aload_n 0, 1, 0, 0, 0, 0, 0, []), (1, .iload_n 1, 1, 1, 0, 0, 0, 0, []), (2, .invokevirtual 528, 3, 163, 2, 4, 3624, 6, []), (5, .ifCond .eq 14, 3, 19, 0, 0, 0, 0, []), (8, .aload_n 0, 1, 0, 0, 0, 0, 0, []), (9, .iload_n 2, 1, 2, 0, 0, 0, 0, []),
  (10, .iconst 0, 1, 0, 0, 0, 0, 0, []), (11, .bipush 72, 2, 0, 0, 0, 0, 72, []), (13, .invokevirtual 531, 3, 191, 4, 4, 3712, 6, []), (16, .ifCond .ne 5, 3, 21, 0, 0, 0, 0, []), (19, .iconst (-1), 1, 0, 0, 0, 0, (-1), []), (20, .ireturn, 1, 0, 0, 1, 0, 0, []),
  (21, .aload_n 0, 1, 0, 0, 0, 0, 0, []), (22, .invokevirtual 536, 3, 188, 1, 0, 3717, 6, []), (25, .aload_n 0, 1, 0, 0, 0, 0, 0, []), (26, .iload_n 2, 1, 2, 0, 0, 0, 0, []), (27, .invokevirtual 539, 3, 187, 2, 1, 3721, 6, []), (30, .pop, 1, 0, 0, 0, 0, 0, []),
  (31, .aload_n 0, 1, 0, 0, 0, 0, 0, []), (32, .invokevirtual 542, 3, 190, 1, 0, 3757, 6, []), (35, .aload_n 0, 1, 0, 0, 0, 0, 0, []), (36, .getfield 151, 3, 6, 63, 3, 2564, 0, []), (39, .iload_n 1, 1, 1, 0, 0, 0, 0, []), (40, .iaload, 1, 0, 0, 0, 0, 0, []),
  (41, .ireturn, 1, 0, 0, 1, 0, 0, [])]
noncomputable def am_s206 : am_S := (yX6_pleasureBy, cX6_pleasureBy, 4, (some .long), 1, 2, 4, 6, 3776, 3775, 143, 523)
noncomputable def am_c206 : List (Nat × am_E) := [(0, .aload_n 0, 1, 0, 0, 0, 0, 0, []), (1, .iload_n 1, 1, 1, 0, 0, 0, 0, []), (2, .invokevirtual 393, 3, 168, 2, 0, 3280, 6, []), (5, .aload_n 0, 1, 0, 0, 0, 0, 0, []), (6, .iload_n 3, 1, 3, 0, 0, 0, 0, []), (7, .invokevirtual 539, 3, 187, 2, 1, 3721, 6, []),
  (10, .pop, 1, 0, 0, 0, 0, 0, []), (11, .aload_n 0, 1, 0, 0, 0, 0, 0, []), (12, .invokevirtual 505, 3, 189, 1, 0, 3761, 6, []), (15, .aload_n 0, 1, 0, 0, 0, 0, 0, []), (16, .getfield 148, 3, 6, 62, 3, 2563, 0, []), (19, .iload_n 2, 1, 2, 0, 0, 0, 0, []),
  (20, .laload, 1, 0, 0, 0, 0, 0, []), (21, .lreturn, 1, 0, 0, 2, 0, 0, [])]
noncomputable def am_s207 : am_S := (yX6_pressing, cX6_pressing, 8, (some .long), 1, 2, 3, 6, 3772, 3770, 3771, 523)
noncomputable def am_c207 : List (Nat × am_E) := [(0, .aload_n 0, 1, 0, 0, 0, 0, 0, []), (1, .iload_n 1, 1, 1, 0, 0, 0, 0, []), (2, .invokevirtual 528, 3, 163, 2, 4, 3624, 6, []), (5, .ifCond .eq 14, 3, 19, 0, 0, 0, 0, []), (8, .aload_n 0, 1, 0, 0, 0, 0, 0, []), (9, .iload_n 2, 1, 2, 0, 0, 0, 0, []),
  (10, .iconst 0, 1, 0, 0, 0, 0, 0, []), (11, .bipush 72, 2, 0, 0, 0, 0, 72, []), (13, .invokevirtual 531, 3, 191, 4, 4, 3712, 6, []), (16, .ifCond .ne 7, 3, 23, 0, 0, 0, 0, []), (19, .ldc2_w 534, 3, 0, 0, 0, 3716, (-1000000000000000), []), (22, .lreturn, 1, 0, 0, 2, 0, 0, []),
  (23, .aload_n 0, 1, 0, 0, 0, 0, 0, []), (24, .invokevirtual 511, 3, 169, 1, 1, 3296, 6, []), (27, .istore_n 3, 1, 3, 0, 0, 0, 0, []), (28, .aload_n 0, 1, 0, 0, 0, 0, 0, []), (29, .invokevirtual 536, 3, 188, 1, 0, 3717, 6, []), (32, .aload_n 0, 1, 0, 0, 0, 0, 0, []),
  (33, .iload_n 3, 1, 3, 0, 0, 0, 0, []), (34, .iconst 1, 1, 0, 0, 0, 0, 1, []), (35, .iload_n 1, 1, 1, 0, 0, 0, 0, []), (36, .ishl, 1, 0, 0, 0, 0, 0, []), (37, .ior, 1, 0, 0, 0, 0, 0, []), (38, .iload_n 1, 1, 1, 0, 0, 0, 0, []),
  (39, .iload_n 2, 1, 2, 0, 0, 0, 0, []), (40, .invokevirtual 545, 3, 206, 4, 2, 3773, 6, []), (43, .lstore 4, 2, 4, 0, 0, 0, 0, []), (45, .aload_n 0, 1, 0, 0, 0, 0, 0, []), (46, .iload_n 3, 1, 3, 0, 0, 0, 0, []), (47, .iconst 1, 1, 0, 0, 0, 0, 1, []),
  (48, .iload_n 1, 1, 1, 0, 0, 0, 0, []), (49, .ishl, 1, 0, 0, 0, 0, 0, []), (50, .iconst (-1), 1, 0, 0, 0, 0, (-1), []), (51, .ixor, 1, 0, 0, 0, 0, 0, []), (52, .iand, 1, 0, 0, 0, 0, 0, []), (53, .iload_n 1, 1, 1, 0, 0, 0, 0, []),
  (54, .iload_n 2, 1, 2, 0, 0, 0, 0, []), (55, .invokevirtual 545, 3, 206, 4, 2, 3773, 6, []), (58, .lstore 6, 2, 6, 0, 0, 0, 0, []), (60, .aload_n 0, 1, 0, 0, 0, 0, 0, []), (61, .invokevirtual 542, 3, 190, 1, 0, 3757, 6, []), (64, .lload 4, 2, 4, 0, 0, 0, 0, []),
  (66, .lload 6, 2, 6, 0, 0, 0, 0, []), (68, .lsub, 1, 0, 0, 0, 0, 0, []), (69, .lreturn, 1, 0, 0, 2, 0, 0, [])]
noncomputable def am_s208 : am_S := (yX6_isRest, cX6_isRest, 3, (some .boolean), 1, 4, 2, 6, 3784, 3783, 144, 523)
noncomputable def am_c208 : List (Nat × am_E) := [(0, .iconst 0, 1, 0, 0, 0, 0, 0, []), (1, .istore_n 2, 1, 2, 0, 0, 0, 0, []), (2, .iload_n 2, 1, 2, 0, 0, 0, 0, []), (3, .aload_n 0, 1, 0, 0, 0, 0, 0, []), (4, .invokevirtual 408, 3, 160, 1, 1, 3284, 6, []), (7, .if_icmp .ge 39, 3, 46, 0, 0, 0, 0, []),
  (10, .aload_n 0, 1, 0, 0, 0, 0, 0, []), (11, .getfield 154, 3, 6, 64, 3, 2565, 0, []), (14, .iconst 5, 1, 0, 0, 0, 0, 5, []), (15, .iload_n 1, 1, 1, 0, 0, 0, 0, []), (16, .iconst 1, 1, 0, 0, 0, 0, 1, []), (17, .iload_n 2, 1, 2, 0, 0, 0, 0, []),
  (18, .ishl, 1, 0, 0, 0, 0, 0, []), (19, .ixor, 1, 0, 0, 0, 0, 0, []), (20, .imul, 1, 0, 0, 0, 0, 0, []), (21, .iload_n 2, 1, 2, 0, 0, 0, 0, []), (22, .iadd, 1, 0, 0, 0, 0, 0, []), (23, .laload, 1, 0, 0, 0, 0, 0, []),
  (24, .aload_n 0, 1, 0, 0, 0, 0, 0, []), (25, .getfield 154, 3, 6, 64, 3, 2565, 0, []), (28, .iconst 5, 1, 0, 0, 0, 0, 5, []), (29, .iload_n 1, 1, 1, 0, 0, 0, 0, []), (30, .imul, 1, 0, 0, 0, 0, 0, []), (31, .iload_n 2, 1, 2, 0, 0, 0, 0, []),
  (32, .iadd, 1, 0, 0, 0, 0, 0, []), (33, .laload, 1, 0, 0, 0, 0, 0, []), (34, .lcmp, 1, 0, 0, 0, 0, 0, []), (35, .ifCond .le 5, 3, 40, 0, 0, 0, 0, []), (38, .iconst 0, 1, 0, 0, 0, 0, 0, []), (39, .ireturn, 1, 0, 0, 4, 0, 0, []),
  (40, .iinc 2 1, 3, 2, 0, 0, 0, 1, []), (43, .goto (-41), 3, 2, 0, 0, 0, 0, []), (46, .iconst 1, 1, 0, 0, 0, 0, 1, []), (47, .ireturn, 1, 0, 0, 4, 0, 0, [])]
noncomputable def am_s209 : am_S := (yX6_rest, cX6_rest, 5, (some .int), 1, 1, 2, 6, 3780, 3778, 3779, 523)
noncomputable def am_c209 : List (Nat × am_E) := [(0, .aload_n 0, 1, 0, 0, 0, 0, 0, []), (1, .iload_n 1, 1, 1, 0, 0, 0, 0, []), (2, .iconst 0, 1, 0, 0, 0, 0, 0, []), (3, .bipush 48, 2, 0, 0, 0, 0, 48, []), (5, .invokevirtual 531, 3, 191, 4, 4, 3712, 6, []), (8, .ifCond .ne 5, 3, 13, 0, 0, 0, 0, []),
  (11, .iconst (-1), 1, 0, 0, 0, 0, (-1), []), (12, .ireturn, 1, 0, 0, 1, 0, 0, []), (13, .iconst 1, 1, 0, 0, 0, 0, 1, []), (14, .aload_n 0, 1, 0, 0, 0, 0, 0, []), (15, .invokevirtual 408, 3, 160, 1, 1, 3284, 6, []), (18, .ishl, 1, 0, 0, 0, 0, 0, []),
  (19, .istore_n 2, 1, 2, 0, 0, 0, 0, []), (20, .aload_n 0, 1, 0, 0, 0, 0, 0, []), (21, .invokevirtual 536, 3, 188, 1, 0, 3717, 6, []), (24, .iconst 0, 1, 0, 0, 0, 0, 0, []), (25, .istore_n 3, 1, 3, 0, 0, 0, 0, []), (26, .iload_n 3, 1, 3, 0, 0, 0, 0, []),
  (27, .iload_n 2, 1, 2, 0, 0, 0, 0, []), (28, .if_icmp .ge 60, 3, 88, 0, 0, 0, 0, []), (31, .aload_n 0, 1, 0, 0, 0, 0, 0, []), (32, .iload_n 3, 1, 3, 0, 0, 0, 0, []), (33, .invokevirtual 393, 3, 168, 2, 0, 3280, 6, []), (36, .aload_n 0, 1, 0, 0, 0, 0, 0, []),
  (37, .iload_n 1, 1, 1, 0, 0, 0, 0, []), (38, .invokevirtual 539, 3, 187, 2, 1, 3721, 6, []), (41, .pop, 1, 0, 0, 0, 0, 0, []), (42, .aload_n 0, 1, 0, 0, 0, 0, 0, []), (43, .invokevirtual 505, 3, 189, 1, 0, 3761, 6, []), (46, .iconst 0, 1, 0, 0, 0, 0, 0, []),
  (47, .istore 4, 2, 4, 0, 0, 0, 0, []), (49, .iload 4, 2, 4, 0, 0, 0, 0, []), (51, .aload_n 0, 1, 0, 0, 0, 0, 0, []), (52, .invokevirtual 408, 3, 160, 1, 1, 3284, 6, []), (55, .if_icmp .ge 27, 3, 82, 0, 0, 0, 0, []), (58, .aload_n 0, 1, 0, 0, 0, 0, 0, []),
  (59, .getfield 154, 3, 6, 64, 3, 2565, 0, []), (62, .iconst 5, 1, 0, 0, 0, 0, 5, []), (63, .iload_n 3, 1, 3, 0, 0, 0, 0, []), (64, .imul, 1, 0, 0, 0, 0, 0, []), (65, .iload 4, 2, 4, 0, 0, 0, 0, []), (67, .iadd, 1, 0, 0, 0, 0, 0, []),
  (68, .aload_n 0, 1, 0, 0, 0, 0, 0, []), (69, .getfield 148, 3, 6, 62, 3, 2563, 0, []), (72, .iload 4, 2, 4, 0, 0, 0, 0, []), (74, .laload, 1, 0, 0, 0, 0, 0, []), (75, .lastore, 1, 0, 0, 0, 0, 0, []), (76, .iinc 4 1, 3, 4, 0, 0, 0, 1, []),
  (79, .goto (-30), 3, 49, 0, 0, 0, 0, []), (82, .iinc 3 1, 3, 3, 0, 0, 0, 1, []), (85, .goto (-59), 3, 26, 0, 0, 0, 0, []), (88, .aload_n 0, 1, 0, 0, 0, 0, 0, []), (89, .invokevirtual 542, 3, 190, 1, 0, 3757, 6, []), (92, .iconst (-1), 1, 0, 0, 0, 0, (-1), []),
  (93, .istore_n 3, 1, 3, 0, 0, 0, 0, []), (94, .iconst 0, 1, 0, 0, 0, 0, 0, []), (95, .istore 4, 2, 4, 0, 0, 0, 0, []), (97, .iload 4, 2, 4, 0, 0, 0, 0, []), (99, .iload_n 2, 1, 2, 0, 0, 0, 0, []), (100, .if_icmp .ge 38, 3, 138, 0, 0, 0, 0, []),
  (103, .iload_n 3, 1, 3, 0, 0, 0, 0, []), (104, .iconst (-1), 1, 0, 0, 0, 0, (-1), []), (105, .if_icmp .eq 15, 3, 120, 0, 0, 0, 0, []), (108, .iload 4, 2, 4, 0, 0, 0, 0, []), (110, .invokestatic 514, 3, 192, 1, 1, 3304, 0, []), (113, .iload_n 3, 1, 3, 0, 0, 0, 0, []),
  (114, .invokestatic 514, 3, 192, 1, 1, 3304, 0, []), (117, .if_icmp .ge 15, 3, 132, 0, 0, 0, 0, []), (120, .aload_n 0, 1, 0, 0, 0, 0, 0, []), (121, .iload 4, 2, 4, 0, 0, 0, 0, []), (123, .invokevirtual 549, 3, 208, 2, 4, 3781, 6, []), (126, .ifCond .eq 6, 3, 132, 0, 0, 0, 0, []),
  (129, .iload 4, 2, 4, 0, 0, 0, 0, []), (131, .istore_n 3, 1, 3, 0, 0, 0, 0, []), (132, .iinc 4 1, 3, 4, 0, 0, 0, 1, []), (135, .goto (-38), 3, 97, 0, 0, 0, 0, []), (138, .iload_n 3, 1, 3, 0, 0, 0, 0, []), (139, .ireturn, 1, 0, 0, 1, 0, 0, [])]
noncomputable def am_s210 : am_S := (yX6_gone, cX6_gone, 5, (some .int), 1, 1, 3, 6, 3788, 3786, 3787, 523)
noncomputable def am_c210 : List (Nat × am_E) := [(0, .aload_n 0, 1, 0, 0, 0, 0, 0, []), (1, .iload_n 1, 1, 1, 0, 0, 0, 0, []), (2, .invokevirtual 528, 3, 163, 2, 4, 3624, 6, []), (5, .ifCond .eq 11, 3, 16, 0, 0, 0, 0, []), (8, .aload_n 0, 1, 0, 0, 0, 0, 0, []), (9, .iload_n 2, 1, 2, 0, 0, 0, 0, []),
  (10, .invokevirtual 525, 3, 161, 2, 4, 3604, 6, []), (13, .ifCond .ne 5, 3, 18, 0, 0, 0, 0, []), (16, .iconst (-1), 1, 0, 0, 0, 0, (-1), []), (17, .ireturn, 1, 0, 0, 1, 0, 0, []), (18, .aload_n 0, 1, 0, 0, 0, 0, 0, []), (19, .invokevirtual 536, 3, 188, 1, 0, 3717, 6, []),
  (22, .iconst 0, 1, 0, 0, 0, 0, 0, []), (23, .istore_n 3, 1, 3, 0, 0, 0, 0, []), (24, .aload_n 0, 1, 0, 0, 0, 0, 0, []), (25, .getfield 139, 3, 6, 54, 3, 2283, 0, []), (28, .aload_n 0, 1, 0, 0, 0, 0, 0, []), (29, .aload_n 0, 1, 0, 0, 0, 0, 0, []),
  (30, .iload_n 1, 1, 1, 0, 0, 0, 0, []), (31, .invokevirtual 454, 3, 170, 2, 1, 3660, 6, []), (34, .iload_n 2, 1, 2, 0, 0, 0, 0, []), (35, .invokevirtual 420, 3, 171, 3, 1, 3636, 6, []), (38, .iaload, 1, 0, 0, 0, 0, 0, []), (39, .ifCond .le 30, 3, 69, 0, 0, 0, 0, []),
  (42, .iload_n 3, 1, 3, 0, 0, 0, 0, []), (43, .bipush 72, 2, 0, 0, 0, 0, 72, []), (45, .if_icmp .ge 24, 3, 69, 0, 0, 0, 0, []), (48, .aload_n 0, 1, 0, 0, 0, 0, 0, []), (49, .iconst 1, 1, 0, 0, 0, 0, 1, []), (50, .iconst 1, 1, 0, 0, 0, 0, 1, []),
  (51, .iconst 1, 1, 0, 0, 0, 0, 1, []), (52, .invokevirtual 531, 3, 191, 4, 4, 3712, 6, []), (55, .ifCond .eq 14, 3, 69, 0, 0, 0, 0, []), (58, .aload_n 0, 1, 0, 0, 0, 0, 0, []), (59, .invokevirtual 502, 3, 186, 1, 1, 3725, 6, []), (62, .pop, 1, 0, 0, 0, 0, 0, []),
  (63, .iinc 3 1, 3, 3, 0, 0, 0, 1, []), (66, .goto (-42), 3, 24, 0, 0, 0, 0, []), (69, .aload_n 0, 1, 0, 0, 0, 0, 0, []), (70, .getfield 139, 3, 6, 54, 3, 2283, 0, []), (73, .aload_n 0, 1, 0, 0, 0, 0, 0, []), (74, .aload_n 0, 1, 0, 0, 0, 0, 0, []),
  (75, .iload_n 1, 1, 1, 0, 0, 0, 0, []), (76, .invokevirtual 454, 3, 170, 2, 1, 3660, 6, []), (79, .iload_n 2, 1, 2, 0, 0, 0, 0, []), (80, .invokevirtual 420, 3, 171, 3, 1, 3636, 6, []), (83, .iaload, 1, 0, 0, 0, 0, 0, []), (84, .ifCond .ne 7, 3, 91, 0, 0, 0, 0, []),
  (87, .iconst 1, 1, 0, 0, 0, 0, 1, []), (88, .goto 4, 3, 92, 0, 0, 0, 0, []), (91, .iconst 0, 1, 0, 0, 0, 0, 0, []), (92, .istore 4, 2, 4, 0, 0, 0, 0, []), (94, .aload_n 0, 1, 0, 0, 0, 0, 0, []), (95, .invokevirtual 542, 3, 190, 1, 0, 3757, 6, []),
  (98, .iload 4, 2, 4, 0, 0, 0, 0, []), (100, .ifCond .eq 7, 3, 107, 0, 0, 0, 0, []), (103, .iload_n 3, 1, 3, 0, 0, 0, 0, []), (104, .goto 4, 3, 108, 0, 0, 0, 0, []), (107, .iconst (-1), 1, 0, 0, 0, 0, (-1), []), (108, .ireturn, 1, 0, 0, 1, 0, 0, [])]
noncomputable def am_s211 : am_S := (yX6_sow, cX6_sow, 8, (some .int), 1, 1, 3, 6, 3792, 3790, 3791, 523)
noncomputable def am_c211 : List (Nat × am_E) := [(0, .aload_n 0, 1, 0, 0, 0, 0, 0, []), (1, .iload_n 1, 1, 1, 0, 0, 0, 0, []), (2, .invokevirtual 528, 3, 163, 2, 4, 3624, 6, []), (5, .ifCond .eq 14, 3, 19, 0, 0, 0, 0, []), (8, .aload_n 0, 1, 0, 0, 0, 0, 0, []), (9, .iload_n 2, 1, 2, 0, 0, 0, 0, []),
  (10, .iconst 0, 1, 0, 0, 0, 0, 0, []), (11, .bipush 72, 2, 0, 0, 0, 0, 72, []), (13, .invokevirtual 531, 3, 191, 4, 4, 3712, 6, []), (16, .ifCond .ne 5, 3, 21, 0, 0, 0, 0, []), (19, .iconst (-1), 1, 0, 0, 0, 0, (-1), []), (20, .ireturn, 1, 0, 0, 1, 0, 0, []),
  (21, .aload_n 0, 1, 0, 0, 0, 0, 0, []), (22, .iload_n 1, 1, 1, 0, 0, 0, 0, []), (23, .invokevirtual 454, 3, 170, 2, 1, 3660, 6, []), (26, .istore_n 3, 1, 3, 0, 0, 0, 0, []), (27, .iconst (-1), 1, 0, 0, 0, 0, (-1), []), (28, .istore 4, 2, 4, 0, 0, 0, 0, []),
  (30, .lconst 0, 1, 0, 0, 0, 0, 0, []), (31, .lstore 5, 2, 5, 0, 0, 0, 0, []), (33, .aload_n 0, 1, 0, 0, 0, 0, 0, []), (34, .invokevirtual 536, 3, 188, 1, 0, 3717, 6, []), (37, .iconst 0, 1, 0, 0, 0, 0, 0, []), (38, .istore 7, 2, 7, 0, 0, 0, 0, []),
  (40, .iload 7, 2, 7, 0, 0, 0, 0, []), (42, .aload_n 0, 1, 0, 0, 0, 0, 0, []), (43, .invokevirtual 405, 3, 159, 1, 1, 3600, 6, []), (46, .if_icmp .ge 78, 3, 124, 0, 0, 0, 0, []), (49, .aload_n 0, 1, 0, 0, 0, 0, 0, []), (50, .iload_n 3, 1, 3, 0, 0, 0, 0, []),
  (51, .iload 7, 2, 7, 0, 0, 0, 0, []), (53, .invokevirtual 442, 3, 173, 3, 1, 3644, 6, []), (56, .aload_n 0, 1, 0, 0, 0, 0, 0, []), (57, .iload 7, 2, 7, 0, 0, 0, 0, []), (59, .invokevirtual 445, 3, 164, 2, 1, 3616, 6, []), (62, .if_icmp .ne 6, 3, 68, 0, 0, 0, 0, []),
  (65, .goto 53, 3, 118, 0, 0, 0, 0, []), (68, .aload_n 0, 1, 0, 0, 0, 0, 0, []), (69, .iload_n 3, 1, 3, 0, 0, 0, 0, []), (70, .iload 7, 2, 7, 0, 0, 0, 0, []), (72, .invokevirtual 490, 3, 180, 3, 0, 3737, 6, []), (75, .aload_n 0, 1, 0, 0, 0, 0, 0, []),
  (76, .iload_n 2, 1, 2, 0, 0, 0, 0, []), (77, .invokevirtual 539, 3, 187, 2, 1, 3721, 6, []), (80, .pop, 1, 0, 0, 0, 0, 0, []), (81, .aload_n 0, 1, 0, 0, 0, 0, 0, []), (82, .invokevirtual 505, 3, 189, 1, 0, 3761, 6, []), (85, .iload 4, 2, 4, 0, 0, 0, 0, []),
  (87, .iconst (-1), 1, 0, 0, 0, 0, (-1), []), (88, .if_icmp .eq 18, 3, 106, 0, 0, 0, 0, []), (91, .aload_n 0, 1, 0, 0, 0, 0, 0, []), (92, .getfield 148, 3, 6, 62, 3, 2563, 0, []), (95, .iload_n 1, 1, 1, 0, 0, 0, 0, []), (96, .laload, 1, 0, 0, 0, 0, 0, []),
  (97, .lload 5, 2, 5, 0, 0, 0, 0, []), (99, .lcmp, 1, 0, 0, 0, 0, 0, []), (100, .ifCond .gt 6, 3, 106, 0, 0, 0, 0, []), (103, .goto 15, 3, 118, 0, 0, 0, 0, []), (106, .iload 7, 2, 7, 0, 0, 0, 0, []), (108, .istore 4, 2, 4, 0, 0, 0, 0, []),
  (110, .aload_n 0, 1, 0, 0, 0, 0, 0, []), (111, .getfield 148, 3, 6, 62, 3, 2563, 0, []), (114, .iload_n 1, 1, 1, 0, 0, 0, 0, []), (115, .laload, 1, 0, 0, 0, 0, 0, []), (116, .lstore 5, 2, 5, 0, 0, 0, 0, []), (118, .iinc 7 1, 3, 7, 0, 0, 0, 1, []),
  (121, .goto (-81), 3, 40, 0, 0, 0, 0, []), (124, .aload_n 0, 1, 0, 0, 0, 0, 0, []), (125, .invokevirtual 542, 3, 190, 1, 0, 3757, 6, []), (128, .iload 4, 2, 4, 0, 0, 0, 0, []), (130, .ireturn, 1, 0, 0, 1, 0, 0, [])]
noncomputable def am_s212 : am_S := (yX6_who, cX6_who, 7, (some .int), 1, 1, 4, 6, 3796, 3794, 3795, 523)
noncomputable def am_c212 : List (Nat × am_E) := [(0, .aload_n 0, 1, 0, 0, 0, 0, 0, []), (1, .iload_n 1, 1, 1, 0, 0, 0, 0, []), (2, .invokevirtual 528, 3, 163, 2, 4, 3624, 6, []), (5, .ifCond .eq 23, 3, 28, 0, 0, 0, 0, []), (8, .aload_n 0, 1, 0, 0, 0, 0, 0, []), (9, .iload_n 2, 1, 2, 0, 0, 0, 0, []),
  (10, .invokevirtual 522, 3, 162, 2, 4, 3596, 6, []), (13, .ifCond .eq 15, 3, 28, 0, 0, 0, 0, []), (16, .iload_n 3, 1, 3, 0, 0, 0, 0, []), (17, .i2l, 1, 0, 0, 0, 0, 0, []), (18, .lconst 0, 1, 0, 0, 0, 0, 0, []), (19, .ldc2_w 552, 3, 0, 0, 0, 3797, 23, []),
  (22, .invokestatic 282, 3, 127, 3, 4, 3164, 0, []), (25, .ifCond .ne 5, 3, 30, 0, 0, 0, 0, []), (28, .iconst (-1), 1, 0, 0, 0, 0, (-1), []), (29, .ireturn, 1, 0, 0, 1, 0, 0, []), (30, .lconst 0, 1, 0, 0, 0, 0, 0, []), (31, .lstore 4, 2, 4, 0, 0, 0, 0, []),
  (33, .iconst 0, 1, 0, 0, 0, 0, 0, []), (34, .istore 6, 2, 6, 0, 0, 0, 0, []), (36, .iload 6, 2, 6, 0, 0, 0, 0, []), (38, .aload_n 0, 1, 0, 0, 0, 0, 0, []), (39, .invokevirtual 408, 3, 160, 1, 1, 3284, 6, []), (42, .if_icmp .ge 34, 3, 76, 0, 0, 0, 0, []),
  (45, .aload_n 0, 1, 0, 0, 0, 0, 0, []), (46, .iload 6, 2, 6, 0, 0, 0, 0, []), (48, .iload_n 3, 1, 3, 0, 0, 0, 0, []), (49, .invokevirtual 481, 3, 185, 3, 4, 3729, 6, []), (52, .ifCond .eq 18, 3, 70, 0, 0, 0, 0, []), (55, .lload 4, 2, 4, 0, 0, 0, 0, []),
  (57, .aload_n 0, 1, 0, 0, 0, 0, 0, []), (58, .iload 6, 2, 6, 0, 0, 0, 0, []), (60, .iload_n 2, 1, 2, 0, 0, 0, 0, []), (61, .invokevirtual 478, 3, 175, 3, 1, 3684, 6, []), (64, .iconst 1, 1, 0, 0, 0, 0, 1, []), (65, .iadd, 1, 0, 0, 0, 0, 0, []),
  (66, .i2l, 1, 0, 0, 0, 0, 0, []), (67, .ladd, 1, 0, 0, 0, 0, 0, []), (68, .lstore 4, 2, 4, 0, 0, 0, 0, []), (70, .iinc 6 1, 3, 6, 0, 0, 0, 1, []), (73, .goto (-37), 3, 36, 0, 0, 0, 0, []), (76, .lload 4, 2, 4, 0, 0, 0, 0, []),
  (78, .lconst 0, 1, 0, 0, 0, 0, 0, []), (79, .lcmp, 1, 0, 0, 0, 0, 0, []), (80, .ifCond .ne 5, 3, 85, 0, 0, 0, 0, []), (83, .iconst (-1), 1, 0, 0, 0, 0, (-1), []), (84, .ireturn, 1, 0, 0, 1, 0, 0, []), (85, .aload_n 0, 1, 0, 0, 0, 0, 0, []),
  (86, .iload_n 1, 1, 1, 0, 0, 0, 0, []), (87, .iload_n 3, 1, 3, 0, 0, 0, 0, []), (88, .invokevirtual 481, 3, 185, 3, 4, 3729, 6, []), (91, .ifCond .eq 23, 3, 114, 0, 0, 0, 0, []), (94, .ldc2_w 554, 3, 0, 0, 0, 3695, 1000000, []), (97, .aload_n 0, 1, 0, 0, 0, 0, 0, []),
  (98, .iload_n 1, 1, 1, 0, 0, 0, 0, []), (99, .iload_n 2, 1, 2, 0, 0, 0, 0, []), (100, .invokevirtual 478, 3, 175, 3, 1, 3684, 6, []), (103, .iconst 1, 1, 0, 0, 0, 0, 1, []), (104, .iadd, 1, 0, 0, 0, 0, 0, []), (105, .i2l, 1, 0, 0, 0, 0, 0, []),
  (106, .lmul, 1, 0, 0, 0, 0, 0, []), (107, .lload 4, 2, 4, 0, 0, 0, 0, []), (109, .ldiv, 1, 0, 0, 0, 0, 0, []), (110, .l2i, 1, 0, 0, 0, 0, 0, []), (111, .goto 4, 3, 115, 0, 0, 0, 0, []), (114, .iconst 0, 1, 0, 0, 0, 0, 0, []),
  (115, .ireturn, 1, 0, 0, 1, 0, 0, [])]
noncomputable def am_s213 : am_S := (yX6_firstOf, cX6_firstOf, 4, (some .int), 1, 1, 2, 6, 3809, 3808, 146, 523)
noncomputable def am_c213 : List (Nat × am_E) := [(0, .iconst 0, 1, 0, 0, 0, 0, 0, []), (1, .istore_n 2, 1, 2, 0, 0, 0, 0, []), (2, .iconst 1, 1, 0, 0, 0, 0, 1, []), (3, .istore_n 3, 1, 3, 0, 0, 0, 0, []), (4, .iload_n 3, 1, 3, 0, 0, 0, 0, []), (5, .aload_n 0, 1, 0, 0, 0, 0, 0, []),
  (6, .invokevirtual 405, 3, 159, 1, 1, 3600, 6, []), (9, .if_icmp .ge 26, 3, 35, 0, 0, 0, 0, []), (12, .aload_n 0, 1, 0, 0, 0, 0, 0, []), (13, .iload_n 1, 1, 1, 0, 0, 0, 0, []), (14, .iload_n 3, 1, 3, 0, 0, 0, 0, []), (15, .invokevirtual 478, 3, 175, 3, 1, 3684, 6, []),
  (18, .aload_n 0, 1, 0, 0, 0, 0, 0, []), (19, .iload_n 1, 1, 1, 0, 0, 0, 0, []), (20, .iload_n 2, 1, 2, 0, 0, 0, 0, []), (21, .invokevirtual 478, 3, 175, 3, 1, 3684, 6, []), (24, .if_icmp .le 5, 3, 29, 0, 0, 0, 0, []), (27, .iload_n 3, 1, 3, 0, 0, 0, 0, []),
  (28, .istore_n 2, 1, 2, 0, 0, 0, 0, []), (29, .iinc 3 1, 3, 3, 0, 0, 0, 1, []), (32, .goto (-28), 3, 4, 0, 0, 0, 0, []), (35, .iload_n 2, 1, 2, 0, 0, 0, 0, []), (36, .ireturn, 1, 0, 0, 1, 0, 0, [])]
noncomputable def am_s214 : am_S := (yX6_byRule, cX6_byRule, 9, (some .int), 1, 1, 4, 6, 3805, 3804, 145, 523)
noncomputable def am_c214 : List (Nat × am_E) := [(0, .iconst 0, 1, 0, 0, 0, 0, 0, []), (1, .istore 4, 2, 4, 0, 0, 0, 0, []), (3, .iconst (-1), 1, 0, 0, 0, 0, (-1), []), (4, .istore 5, 2, 5, 0, 0, 0, 0, []), (6, .iconst 0, 1, 0, 0, 0, 0, 0, []), (7, .istore 6, 2, 6, 0, 0, 0, 0, []),
  (9, .iconst 0, 1, 0, 0, 0, 0, 0, []), (10, .istore 7, 2, 7, 0, 0, 0, 0, []), (12, .iload 7, 2, 7, 0, 0, 0, 0, []), (14, .aload_n 0, 1, 0, 0, 0, 0, 0, []), (15, .invokevirtual 408, 3, 160, 1, 1, 3284, 6, []), (18, .if_icmp .ge 67, 3, 85, 0, 0, 0, 0, []),
  (21, .iload_n 1, 1, 1, 0, 0, 0, 0, []), (22, .iload 7, 2, 7, 0, 0, 0, 0, []), (24, .ishr, 1, 0, 0, 0, 0, 0, []), (25, .iconst 1, 1, 0, 0, 0, 0, 1, []), (26, .iand, 1, 0, 0, 0, 0, 0, []), (27, .ifCond .ne 6, 3, 33, 0, 0, 0, 0, []),
  (30, .goto 49, 3, 79, 0, 0, 0, 0, []), (33, .aload_n 0, 1, 0, 0, 0, 0, 0, []), (34, .iload 7, 2, 7, 0, 0, 0, 0, []), (36, .iload_n 2, 1, 2, 0, 0, 0, 0, []), (37, .invokevirtual 478, 3, 175, 3, 1, 3684, 6, []), (40, .istore 8, 2, 8, 0, 0, 0, 0, []),
  (42, .iload 4, 2, 4, 0, 0, 0, 0, []), (44, .iload 8, 2, 8, 0, 0, 0, 0, []), (46, .iadd, 1, 0, 0, 0, 0, 0, []), (47, .istore 4, 2, 4, 0, 0, 0, 0, []), (49, .iload 5, 2, 5, 0, 0, 0, 0, []), (51, .iconst (-1), 1, 0, 0, 0, 0, (-1), []),
  (52, .if_icmp .eq 10, 3, 62, 0, 0, 0, 0, []), (55, .iload 8, 2, 8, 0, 0, 0, 0, []), (57, .iload 5, 2, 5, 0, 0, 0, 0, []), (59, .if_icmp .ge 7, 3, 66, 0, 0, 0, 0, []), (62, .iload 8, 2, 8, 0, 0, 0, 0, []), (64, .istore 5, 2, 5, 0, 0, 0, 0, []),
  (66, .aload_n 0, 1, 0, 0, 0, 0, 0, []), (67, .iload 7, 2, 7, 0, 0, 0, 0, []), (69, .invokevirtual 556, 3, 213, 2, 1, 3806, 6, []), (72, .iload_n 2, 1, 2, 0, 0, 0, 0, []), (73, .if_icmp .ne 6, 3, 79, 0, 0, 0, 0, []), (76, .iinc 6 1, 3, 6, 0, 0, 0, 1, []),
  (79, .iinc 7 1, 3, 7, 0, 0, 0, 1, []), (82, .goto (-70), 3, 12, 0, 0, 0, 0, []), (85, .iload_n 3, 1, 3, 0, 0, 0, 0, []), (86, .ifCond .ne 8, 3, 94, 0, 0, 0, 0, []), (89, .iload 4, 2, 4, 0, 0, 0, 0, []), (91, .goto 15, 3, 106, 0, 0, 0, 0, []),
  (94, .iload_n 3, 1, 3, 0, 0, 0, 0, []), (95, .iconst 1, 1, 0, 0, 0, 0, 1, []), (96, .if_icmp .ne 8, 3, 104, 0, 0, 0, 0, []), (99, .iload 5, 2, 5, 0, 0, 0, 0, []), (101, .goto 5, 3, 106, 0, 0, 0, 0, []), (104, .iload 6, 2, 6, 0, 0, 0, 0, []),
  (106, .ireturn, 1, 0, 0, 1, 0, 0, [])]
noncomputable def am_s215 : am_S := (yX6_sofa, cX6_sofa, 5, (some .int), 1, 1, 3, 6, 3801, 3799, 3800, 523)
noncomputable def am_c215 : List (Nat × am_E) := [(0, .iload_n 1, 1, 1, 0, 0, 0, 0, []), (1, .i2l, 1, 0, 0, 0, 0, 0, []), (2, .lconst 1, 1, 0, 0, 0, 0, 1, []), (3, .iconst 1, 1, 0, 0, 0, 0, 1, []), (4, .aload_n 0, 1, 0, 0, 0, 0, 0, []), (5, .invokevirtual 408, 3, 160, 1, 1, 3284, 6, []),
  (8, .ishl, 1, 0, 0, 0, 0, 0, []), (9, .iconst 1, 1, 0, 0, 0, 0, 1, []), (10, .isub, 1, 0, 0, 0, 0, 0, []), (11, .i2l, 1, 0, 0, 0, 0, 0, []), (12, .invokestatic 282, 3, 127, 3, 4, 3164, 0, []), (15, .ifCond .eq 15, 3, 30, 0, 0, 0, 0, []),
  (18, .iload_n 2, 1, 2, 0, 0, 0, 0, []), (19, .i2l, 1, 0, 0, 0, 0, 0, []), (20, .lconst 0, 1, 0, 0, 0, 0, 0, []), (21, .ldc2_w 520, 3, 0, 0, 0, 3591, 2, []), (24, .invokestatic 282, 3, 127, 3, 4, 3164, 0, []), (27, .ifCond .ne 5, 3, 32, 0, 0, 0, 0, []),
  (30, .iconst (-1), 1, 0, 0, 0, 0, (-1), []), (31, .ireturn, 1, 0, 0, 1, 0, 0, []), (32, .iconst (-1), 1, 0, 0, 0, 0, (-1), []), (33, .istore_n 3, 1, 3, 0, 0, 0, 0, []), (34, .iconst 0, 1, 0, 0, 0, 0, 0, []), (35, .istore 4, 2, 4, 0, 0, 0, 0, []),
  (37, .iload 4, 2, 4, 0, 0, 0, 0, []), (39, .aload_n 0, 1, 0, 0, 0, 0, 0, []), (40, .invokevirtual 405, 3, 159, 1, 1, 3600, 6, []), (43, .if_icmp .ge 35, 3, 78, 0, 0, 0, 0, []), (46, .iload_n 3, 1, 3, 0, 0, 0, 0, []), (47, .iconst (-1), 1, 0, 0, 0, 0, (-1), []),
  (48, .if_icmp .eq 21, 3, 69, 0, 0, 0, 0, []), (51, .aload_n 0, 1, 0, 0, 0, 0, 0, []), (52, .iload_n 1, 1, 1, 0, 0, 0, 0, []), (53, .iload 4, 2, 4, 0, 0, 0, 0, []), (55, .iload_n 2, 1, 2, 0, 0, 0, 0, []), (56, .invokevirtual 559, 3, 214, 4, 1, 3802, 6, []),
  (59, .aload_n 0, 1, 0, 0, 0, 0, 0, []), (60, .iload_n 1, 1, 1, 0, 0, 0, 0, []), (61, .iload_n 3, 1, 3, 0, 0, 0, 0, []), (62, .iload_n 2, 1, 2, 0, 0, 0, 0, []), (63, .invokevirtual 559, 3, 214, 4, 1, 3802, 6, []), (66, .if_icmp .le 6, 3, 72, 0, 0, 0, 0, []),
  (69, .iload 4, 2, 4, 0, 0, 0, 0, []), (71, .istore_n 3, 1, 3, 0, 0, 0, 0, []), (72, .iinc 4 1, 3, 4, 0, 0, 0, 1, []), (75, .goto (-38), 3, 37, 0, 0, 0, 0, []), (78, .iload_n 3, 1, 3, 0, 0, 0, 0, []), (79, .ireturn, 1, 0, 0, 1, 0, 0, [])]
noncomputable def am_s216 : am_S := (yX6_share, cX6_share, 6, (some .int), 1, 1, 2, 6, 3813, 3811, 3812, 523)
noncomputable def am_c216 : List (Nat × am_E) := [(0, .aload_n 0, 1, 0, 0, 0, 0, 0, []), (1, .invokevirtual 517, 3, 194, 1, 1, 3307, 6, []), (4, .istore_n 2, 1, 2, 0, 0, 0, 0, []), (5, .aload_n 0, 1, 0, 0, 0, 0, 0, []), (6, .iload_n 1, 1, 1, 0, 0, 0, 0, []), (7, .invokevirtual 528, 3, 163, 2, 4, 3624, 6, []),
  (10, .ifCond .eq 7, 3, 17, 0, 0, 0, 0, []), (13, .iload_n 2, 1, 2, 0, 0, 0, 0, []), (14, .ifCond .ne 5, 3, 19, 0, 0, 0, 0, []), (17, .iconst (-1), 1, 0, 0, 0, 0, (-1), []), (18, .ireturn, 1, 0, 0, 1, 0, 0, []), (19, .aload_n 0, 1, 0, 0, 0, 0, 0, []),
  (20, .getfield 127, 3, 6, 47, 3, 2276, 0, []), (23, .iconst 5, 1, 0, 0, 0, 0, 5, []), (24, .iaload, 1, 0, 0, 0, 0, 0, []), (25, .istore_n 3, 1, 3, 0, 0, 0, 0, []), (26, .iconst 0, 1, 0, 0, 0, 0, 0, []), (27, .istore 4, 2, 4, 0, 0, 0, 0, []),
  (29, .iconst 0, 1, 0, 0, 0, 0, 0, []), (30, .istore 5, 2, 5, 0, 0, 0, 0, []), (32, .iload 5, 2, 5, 0, 0, 0, 0, []), (34, .aload_n 0, 1, 0, 0, 0, 0, 0, []), (35, .invokevirtual 408, 3, 160, 1, 1, 3284, 6, []), (38, .if_icmp .ge 46, 3, 84, 0, 0, 0, 0, []),
  (41, .iload_n 3, 1, 3, 0, 0, 0, 0, []), (42, .aload_n 0, 1, 0, 0, 0, 0, 0, []), (43, .getfield 127, 3, 6, 47, 3, 2276, 0, []), (46, .iconst 5, 1, 0, 0, 0, 0, 5, []), (47, .iaload, 1, 0, 0, 0, 0, 0, []), (48, .aload_n 0, 1, 0, 0, 0, 0, 0, []),
  (49, .iload 5, 2, 5, 0, 0, 0, 0, []), (51, .invokevirtual 508, 3, 193, 2, 1, 3311, 6, []), (54, .imul, 1, 0, 0, 0, 0, 0, []), (55, .iload_n 2, 1, 2, 0, 0, 0, 0, []), (56, .idiv, 1, 0, 0, 0, 0, 0, []), (57, .isub, 1, 0, 0, 0, 0, 0, []),
  (58, .istore_n 3, 1, 3, 0, 0, 0, 0, []), (59, .aload_n 0, 1, 0, 0, 0, 0, 0, []), (60, .iload 5, 2, 5, 0, 0, 0, 0, []), (62, .invokevirtual 508, 3, 193, 2, 1, 3311, 6, []), (65, .aload_n 0, 1, 0, 0, 0, 0, 0, []), (66, .iload 4, 2, 4, 0, 0, 0, 0, []),
  (68, .invokevirtual 508, 3, 193, 2, 1, 3311, 6, []), (71, .if_icmp .le 7, 3, 78, 0, 0, 0, 0, []), (74, .iload 5, 2, 5, 0, 0, 0, 0, []), (76, .istore 4, 2, 4, 0, 0, 0, 0, []), (78, .iinc 5 1, 3, 5, 0, 0, 0, 1, []), (81, .goto (-49), 3, 32, 0, 0, 0, 0, []),
  (84, .aload_n 0, 1, 0, 0, 0, 0, 0, []), (85, .getfield 127, 3, 6, 47, 3, 2276, 0, []), (88, .iconst 5, 1, 0, 0, 0, 0, 5, []), (89, .iaload, 1, 0, 0, 0, 0, 0, []), (90, .aload_n 0, 1, 0, 0, 0, 0, 0, []), (91, .iload_n 1, 1, 1, 0, 0, 0, 0, []),
  (92, .invokevirtual 508, 3, 193, 2, 1, 3311, 6, []), (95, .imul, 1, 0, 0, 0, 0, 0, []), (96, .iload_n 2, 1, 2, 0, 0, 0, 0, []), (97, .idiv, 1, 0, 0, 0, 0, 0, []), (98, .iload_n 1, 1, 1, 0, 0, 0, 0, []), (99, .iload 4, 2, 4, 0, 0, 0, 0, []),
  (101, .if_icmp .ne 7, 3, 108, 0, 0, 0, 0, []), (104, .iload_n 3, 1, 3, 0, 0, 0, 0, []), (105, .goto 4, 3, 109, 0, 0, 0, 0, []), (108, .iconst 0, 1, 0, 0, 0, 0, 0, []), (109, .iadd, 1, 0, 0, 0, 0, 0, []), (110, .ireturn, 1, 0, 0, 1, 0, 0, [])]
noncomputable def am_s217 : am_S := (yX6_tell, cX6_tell, 4, (some .int), 1, 1, 1, 6, 3817, 3815, 3816, 523)
noncomputable def am_c217 : List (Nat × am_E) := [(0, .aload_n 0, 1, 0, 0, 0, 0, 0, []), (1, .getfield 239, 3, 6, 1, 1, 2230, 0, []), (4, .istore_n 1, 1, 1, 0, 0, 0, 0, []), (5, .aload_n 0, 1, 0, 0, 0, 0, 0, []), (6, .iconst 0, 1, 0, 0, 0, 0, 0, []), (7, .putfield 239, 3, 6, 1, 1, 2230, 0, []),
  (10, .iload_n 1, 1, 1, 0, 0, 0, 0, []), (11, .ifCond .le 21, 3, 32, 0, 0, 0, 0, []), (14, .iload_n 1, 1, 1, 0, 0, 0, 0, []), (15, .iconst 3, 1, 0, 0, 0, 0, 3, []), (16, .irem, 1, 0, 0, 0, 0, 0, []), (17, .ifCond .ne 15, 3, 32, 0, 0, 0, 0, []),
  (20, .iload_n 1, 1, 1, 0, 0, 0, 0, []), (21, .iconst 3, 1, 0, 0, 0, 0, 3, []), (22, .idiv, 1, 0, 0, 0, 0, 0, []), (23, .bipush 16, 2, 0, 0, 0, 0, 16, []), (25, .if_icmp .gt 7, 3, 32, 0, 0, 0, 0, []), (28, .iconst 1, 1, 0, 0, 0, 0, 1, []),
  (29, .goto 4, 3, 33, 0, 0, 0, 0, []), (32, .iconst 0, 1, 0, 0, 0, 0, 0, []), (33, .istore_n 2, 1, 2, 0, 0, 0, 0, []), (34, .iconst 0, 1, 0, 0, 0, 0, 0, []), (35, .istore_n 3, 1, 3, 0, 0, 0, 0, []), (36, .iload_n 3, 1, 3, 0, 0, 0, 0, []),
  (37, .iload_n 1, 1, 1, 0, 0, 0, 0, []), (38, .if_icmp .ge 57, 3, 95, 0, 0, 0, 0, []), (41, .iload_n 2, 1, 2, 0, 0, 0, 0, []), (42, .ifCond .eq 53, 3, 95, 0, 0, 0, 0, []), (45, .aload_n 0, 1, 0, 0, 0, 0, 0, []), (46, .getfield 7, 3, 6, 0, 3, 2229, 0, []),
  (49, .iload_n 3, 1, 3, 0, 0, 0, 0, []), (50, .iaload, 1, 0, 0, 0, 0, 0, []), (51, .bipush 24, 2, 0, 0, 0, 0, 24, []), (53, .if_icmp .ge 34, 3, 87, 0, 0, 0, 0, []), (56, .aload_n 0, 1, 0, 0, 0, 0, 0, []), (57, .aload_n 0, 1, 0, 0, 0, 0, 0, []),
  (58, .getfield 7, 3, 6, 0, 3, 2229, 0, []), (61, .iload_n 3, 1, 3, 0, 0, 0, 0, []), (62, .iconst 1, 1, 0, 0, 0, 0, 1, []), (63, .iadd, 1, 0, 0, 0, 0, 0, []), (64, .iaload, 1, 0, 0, 0, 0, 0, []), (65, .invokevirtual 522, 3, 162, 2, 4, 3596, 6, []),
  (68, .ifCond .eq 19, 3, 87, 0, 0, 0, 0, []), (71, .aload_n 0, 1, 0, 0, 0, 0, 0, []), (72, .getfield 7, 3, 6, 0, 3, 2229, 0, []), (75, .iload_n 3, 1, 3, 0, 0, 0, 0, []), (76, .iconst 2, 1, 0, 0, 0, 0, 2, []), (77, .iadd, 1, 0, 0, 0, 0, 0, []),
  (78, .iaload, 1, 0, 0, 0, 0, 0, []), (79, .iconst 2, 1, 0, 0, 0, 0, 2, []), (80, .if_icmp .ge 7, 3, 87, 0, 0, 0, 0, []), (83, .iconst 1, 1, 0, 0, 0, 0, 1, []), (84, .goto 4, 3, 88, 0, 0, 0, 0, []), (87, .iconst 0, 1, 0, 0, 0, 0, 0, []),
  (88, .istore_n 2, 1, 2, 0, 0, 0, 0, []), (89, .iinc 3 3, 3, 3, 0, 0, 0, 3, []), (92, .goto (-56), 3, 36, 0, 0, 0, 0, []), (95, .iload_n 2, 1, 2, 0, 0, 0, 0, []), (96, .ifCond .ne 15, 3, 111, 0, 0, 0, 0, []), (99, .aload_n 0, 1, 0, 0, 0, 0, 0, []),
  (100, .getfield 17, 3, 6, 9, 3, 2238, 0, []), (103, .iconst 1, 1, 0, 0, 0, 0, 1, []), (104, .dup2, 1, 0, 0, 0, 0, 0, []), (105, .iaload, 1, 0, 0, 0, 0, 0, []), (106, .iconst 1, 1, 0, 0, 0, 0, 1, []), (107, .iadd, 1, 0, 0, 0, 0, 0, []),
  (108, .iastore, 1, 0, 0, 0, 0, 0, []), (109, .iconst (-1), 1, 0, 0, 0, 0, (-1), []), (110, .ireturn, 1, 0, 0, 1, 0, 0, []), (111, .iconst 0, 1, 0, 0, 0, 0, 0, []), (112, .istore_n 3, 1, 3, 0, 0, 0, 0, []), (113, .iload_n 3, 1, 3, 0, 0, 0, 0, []),
  (114, .iload_n 1, 1, 1, 0, 0, 0, 0, []), (115, .if_icmp .ge 21, 3, 136, 0, 0, 0, 0, []), (118, .aload_n 0, 1, 0, 0, 0, 0, 0, []), (119, .getfield 157, 3, 6, 66, 3, 2567, 0, []), (122, .iload_n 3, 1, 3, 0, 0, 0, 0, []), (123, .aload_n 0, 1, 0, 0, 0, 0, 0, []),
  (124, .getfield 7, 3, 6, 0, 3, 2229, 0, []), (127, .iload_n 3, 1, 3, 0, 0, 0, 0, []), (128, .iaload, 1, 0, 0, 0, 0, 0, []), (129, .iastore, 1, 0, 0, 0, 0, 0, []), (130, .iinc 3 1, 3, 3, 0, 0, 0, 1, []), (133, .goto (-20), 3, 113, 0, 0, 0, 0, []),
  (136, .aload_n 0, 1, 0, 0, 0, 0, 0, []), (137, .iload_n 1, 1, 1, 0, 0, 0, 0, []), (138, .iconst 3, 1, 0, 0, 0, 0, 3, []), (139, .idiv, 1, 0, 0, 0, 0, 0, []), (140, .putfield 399, 3, 6, 65, 1, 2566, 0, []), (143, .aload_n 0, 1, 0, 0, 0, 0, 0, []),
  (144, .getfield 399, 3, 6, 65, 1, 2566, 0, []), (147, .ireturn, 1, 0, 0, 1, 0, 0, [])]
noncomputable def am_s218 : am_S := (yX6_isSeenNow, cX6_isSeenNow, 3, (some .boolean), 1, 4, 2, 6, 4105, 4104, 149, 523)
noncomputable def am_c218 : List (Nat × am_E) := [(0, .iconst 0, 1, 0, 0, 0, 0, 0, []), (1, .istore_n 2, 1, 2, 0, 0, 0, 0, []), (2, .iload_n 2, 1, 2, 0, 0, 0, 0, []), (3, .aload_n 0, 1, 0, 0, 0, 0, 0, []), (4, .invokevirtual 408, 3, 160, 1, 1, 3284, 6, []), (7, .if_icmp .ge 21, 3, 28, 0, 0, 0, 0, []),
  (10, .aload_n 0, 1, 0, 0, 0, 0, 0, []), (11, .getfield 145, 3, 6, 61, 3, 2562, 0, []), (14, .iload_n 2, 1, 2, 0, 0, 0, 0, []), (15, .iaload, 1, 0, 0, 0, 0, 0, []), (16, .iload_n 1, 1, 1, 0, 0, 0, 0, []), (17, .if_icmp .ne 5, 3, 22, 0, 0, 0, 0, []),
  (20, .iconst 1, 1, 0, 0, 0, 0, 1, []), (21, .ireturn, 1, 0, 0, 4, 0, 0, []), (22, .iinc 2 1, 3, 2, 0, 0, 0, 1, []), (25, .goto (-23), 3, 2, 0, 0, 0, 0, []), (28, .iconst 0, 1, 0, 0, 0, 0, 0, []), (29, .ireturn, 1, 0, 0, 4, 0, 0, [])]
noncomputable def am_s219 : am_S := (yX6_lastHour, cX6_lastHour, 3, (some .int), 1, 1, 1, 6, 4097, 4096, 147, 523)
noncomputable def am_c219 : List (Nat × am_E) := [(0, .iconst (-1), 1, 0, 0, 0, 0, (-1), []), (1, .istore_n 1, 1, 1, 0, 0, 0, 0, []), (2, .iconst 0, 1, 0, 0, 0, 0, 0, []), (3, .istore_n 2, 1, 2, 0, 0, 0, 0, []), (4, .iload_n 2, 1, 2, 0, 0, 0, 0, []), (5, .aload_n 0, 1, 0, 0, 0, 0, 0, []),
  (6, .getfield 399, 3, 6, 65, 1, 2566, 0, []), (9, .if_icmp .ge 30, 3, 39, 0, 0, 0, 0, []), (12, .aload_n 0, 1, 0, 0, 0, 0, 0, []), (13, .getfield 157, 3, 6, 66, 3, 2567, 0, []), (16, .iconst 3, 1, 0, 0, 0, 0, 3, []), (17, .iload_n 2, 1, 2, 0, 0, 0, 0, []),
  (18, .imul, 1, 0, 0, 0, 0, 0, []), (19, .iaload, 1, 0, 0, 0, 0, 0, []), (20, .iload_n 1, 1, 1, 0, 0, 0, 0, []), (21, .if_icmp .le 12, 3, 33, 0, 0, 0, 0, []), (24, .aload_n 0, 1, 0, 0, 0, 0, 0, []), (25, .getfield 157, 3, 6, 66, 3, 2567, 0, []),
  (28, .iconst 3, 1, 0, 0, 0, 0, 3, []), (29, .iload_n 2, 1, 2, 0, 0, 0, 0, []), (30, .imul, 1, 0, 0, 0, 0, 0, []), (31, .iaload, 1, 0, 0, 0, 0, 0, []), (32, .istore_n 1, 1, 1, 0, 0, 0, 0, []), (33, .iinc 2 1, 3, 2, 0, 0, 0, 1, []),
  (36, .goto (-32), 3, 4, 0, 0, 0, 0, []), (39, .iload_n 1, 1, 1, 0, 0, 0, 0, []), (40, .ireturn, 1, 0, 0, 1, 0, 0, [])]
noncomputable def am_s220 : am_S := (yX6_isAsTold, cX6_isAsTold, 6, (some .boolean), 1, 4, 2, 6, 4101, 4100, 148, 523)
noncomputable def am_c220 : List (Nat × am_E) := [(0, .iconst 1, 1, 0, 0, 0, 0, 1, []), (1, .istore_n 2, 1, 2, 0, 0, 0, 0, []), (2, .aload_n 0, 1, 0, 0, 0, 0, 0, []), (3, .invokevirtual 563, 3, 219, 1, 1, 3822, 6, []), (6, .istore_n 3, 1, 3, 0, 0, 0, 0, []), (7, .aload_n 0, 1, 0, 0, 0, 0, 0, []),
  (8, .iload_n 1, 1, 1, 0, 0, 0, 0, []), (9, .invokevirtual 393, 3, 168, 2, 0, 3280, 6, []), (12, .iconst 0, 1, 0, 0, 0, 0, 0, []), (13, .istore 4, 2, 4, 0, 0, 0, 0, []), (15, .iload 4, 2, 4, 0, 0, 0, 0, []), (17, .iload_n 3, 1, 3, 0, 0, 0, 0, []),
  (18, .if_icmp .gt 90, 3, 108, 0, 0, 0, 0, []), (21, .iload_n 2, 1, 2, 0, 0, 0, 0, []), (22, .ifCond .eq 86, 3, 108, 0, 0, 0, 0, []), (25, .aload_n 0, 1, 0, 0, 0, 0, 0, []), (26, .invokevirtual 502, 3, 186, 1, 1, 3725, 6, []), (29, .pop, 1, 0, 0, 0, 0, 0, []),
  (30, .iconst 0, 1, 0, 0, 0, 0, 0, []), (31, .istore 5, 2, 5, 0, 0, 0, 0, []), (33, .iload 5, 2, 5, 0, 0, 0, 0, []), (35, .aload_n 0, 1, 0, 0, 0, 0, 0, []), (36, .getfield 399, 3, 6, 65, 1, 2566, 0, []), (39, .if_icmp .ge 63, 3, 102, 0, 0, 0, 0, []),
  (42, .aload_n 0, 1, 0, 0, 0, 0, 0, []), (43, .getfield 157, 3, 6, 66, 3, 2567, 0, []), (46, .iconst 3, 1, 0, 0, 0, 0, 3, []), (47, .iload 5, 2, 5, 0, 0, 0, 0, []), (49, .imul, 1, 0, 0, 0, 0, 0, []), (50, .iaload, 1, 0, 0, 0, 0, 0, []),
  (51, .iload 4, 2, 4, 0, 0, 0, 0, []), (53, .if_icmp .ne 43, 3, 96, 0, 0, 0, 0, []), (56, .aload_n 0, 1, 0, 0, 0, 0, 0, []), (57, .aload_n 0, 1, 0, 0, 0, 0, 0, []), (58, .getfield 157, 3, 6, 66, 3, 2567, 0, []), (61, .iconst 3, 1, 0, 0, 0, 0, 3, []),
  (62, .iload 5, 2, 5, 0, 0, 0, 0, []), (64, .imul, 1, 0, 0, 0, 0, 0, []), (65, .iconst 1, 1, 0, 0, 0, 0, 1, []), (66, .iadd, 1, 0, 0, 0, 0, 0, []), (67, .iaload, 1, 0, 0, 0, 0, 0, []), (68, .invokevirtual 566, 3, 218, 2, 4, 4102, 6, []),
  (71, .aload_n 0, 1, 0, 0, 0, 0, 0, []), (72, .getfield 157, 3, 6, 66, 3, 2567, 0, []), (75, .iconst 3, 1, 0, 0, 0, 0, 3, []), (76, .iload 5, 2, 5, 0, 0, 0, 0, []), (78, .imul, 1, 0, 0, 0, 0, 0, []), (79, .iconst 2, 1, 0, 0, 0, 0, 2, []),
  (80, .iadd, 1, 0, 0, 0, 0, 0, []), (81, .iaload, 1, 0, 0, 0, 0, 0, []), (82, .iconst 1, 1, 0, 0, 0, 0, 1, []), (83, .if_icmp .ne 7, 3, 90, 0, 0, 0, 0, []), (86, .iconst 1, 1, 0, 0, 0, 0, 1, []), (87, .goto 4, 3, 91, 0, 0, 0, 0, []),
  (90, .iconst 0, 1, 0, 0, 0, 0, 0, []), (91, .if_icmp .eq 5, 3, 96, 0, 0, 0, 0, []), (94, .iconst 0, 1, 0, 0, 0, 0, 0, []), (95, .istore_n 2, 1, 2, 0, 0, 0, 0, []), (96, .iinc 5 1, 3, 5, 0, 0, 0, 1, []), (99, .goto (-66), 3, 33, 0, 0, 0, 0, []),
  (102, .iinc 4 1, 3, 4, 0, 0, 0, 1, []), (105, .goto (-90), 3, 15, 0, 0, 0, 0, []), (108, .aload_n 0, 1, 0, 0, 0, 0, 0, []), (109, .invokevirtual 505, 3, 189, 1, 0, 3761, 6, []), (112, .iload_n 2, 1, 2, 0, 0, 0, 0, []), (113, .ireturn, 1, 0, 0, 4, 0, 0, [])]
noncomputable def am_s221 : am_S := (yX6_pressed, cX6_pressed, 6, (some .int), 1, 1, 2, 6, 3821, 3819, 3820, 523)
noncomputable def am_c221 : List (Nat × am_E) := [(0, .iload_n 1, 1, 1, 0, 0, 0, 0, []), (1, .i2l, 1, 0, 0, 0, 0, 0, []), (2, .lconst 0, 1, 0, 0, 0, 0, 0, []), (3, .ldc2_w 520, 3, 0, 0, 0, 3591, 2, []), (6, .invokestatic 282, 3, 127, 3, 4, 3164, 0, []), (9, .ifCond .eq 26, 3, 35, 0, 0, 0, 0, []),
  (12, .aload_n 0, 1, 0, 0, 0, 0, 0, []), (13, .getfield 399, 3, 6, 65, 1, 2566, 0, []), (16, .ifCond .le 21, 3, 37, 0, 0, 0, 0, []), (19, .aload_n 0, 1, 0, 0, 0, 0, 0, []), (20, .aload_n 0, 1, 0, 0, 0, 0, 0, []), (21, .invokevirtual 563, 3, 219, 1, 1, 3822, 6, []),
  (24, .iconst 1, 1, 0, 0, 0, 0, 1, []), (25, .iadd, 1, 0, 0, 0, 0, 0, []), (26, .iconst 0, 1, 0, 0, 0, 0, 0, []), (27, .bipush 24, 2, 0, 0, 0, 0, 24, []), (29, .invokevirtual 531, 3, 191, 4, 4, 3712, 6, []), (32, .ifCond .ne 5, 3, 37, 0, 0, 0, 0, []),
  (35, .iconst (-1), 1, 0, 0, 0, 0, (-1), []), (36, .ireturn, 1, 0, 0, 1, 0, 0, []), (37, .iconst 0, 1, 0, 0, 0, 0, 0, []), (38, .istore_n 2, 1, 2, 0, 0, 0, 0, []), (39, .iconst 1, 1, 0, 0, 0, 0, 1, []), (40, .aload_n 0, 1, 0, 0, 0, 0, 0, []),
  (41, .invokevirtual 408, 3, 160, 1, 1, 3284, 6, []), (44, .ishl, 1, 0, 0, 0, 0, 0, []), (45, .iconst 1, 1, 0, 0, 0, 0, 1, []), (46, .isub, 1, 0, 0, 0, 0, 0, []), (47, .istore_n 3, 1, 3, 0, 0, 0, 0, []), (48, .iconst 0, 1, 0, 0, 0, 0, 0, []),
  (49, .istore 4, 2, 4, 0, 0, 0, 0, []), (51, .aload_n 0, 1, 0, 0, 0, 0, 0, []), (52, .invokevirtual 536, 3, 188, 1, 0, 3717, 6, []), (55, .iconst 0, 1, 0, 0, 0, 0, 0, []), (56, .istore 5, 2, 5, 0, 0, 0, 0, []), (58, .iload 5, 2, 5, 0, 0, 0, 0, []),
  (60, .iconst 1, 1, 0, 0, 0, 0, 1, []), (61, .aload_n 0, 1, 0, 0, 0, 0, 0, []), (62, .invokevirtual 408, 3, 160, 1, 1, 3284, 6, []), (65, .ishl, 1, 0, 0, 0, 0, 0, []), (66, .if_icmp .ge 36, 3, 102, 0, 0, 0, 0, []), (69, .aload_n 0, 1, 0, 0, 0, 0, 0, []),
  (70, .iload 5, 2, 5, 0, 0, 0, 0, []), (72, .invokevirtual 569, 3, 220, 2, 4, 4098, 6, []), (75, .ifCond .ne 6, 3, 81, 0, 0, 0, 0, []), (78, .goto 18, 3, 96, 0, 0, 0, 0, []), (81, .iinc 2 1, 3, 2, 0, 0, 0, 1, []), (84, .iload_n 3, 1, 3, 0, 0, 0, 0, []),
  (85, .iload 5, 2, 5, 0, 0, 0, 0, []), (87, .iand, 1, 0, 0, 0, 0, 0, []), (88, .istore_n 3, 1, 3, 0, 0, 0, 0, []), (89, .iload 4, 2, 4, 0, 0, 0, 0, []), (91, .iload 5, 2, 5, 0, 0, 0, 0, []), (93, .ior, 1, 0, 0, 0, 0, 0, []),
  (94, .istore 4, 2, 4, 0, 0, 0, 0, []), (96, .iinc 5 1, 3, 5, 0, 0, 0, 1, []), (99, .goto (-41), 3, 58, 0, 0, 0, 0, []), (102, .aload_n 0, 1, 0, 0, 0, 0, 0, []), (103, .invokevirtual 542, 3, 190, 1, 0, 3757, 6, []), (106, .iload_n 1, 1, 1, 0, 0, 0, 0, []),
  (107, .ifCond .ne 7, 3, 114, 0, 0, 0, 0, []), (110, .iload_n 2, 1, 2, 0, 0, 0, 0, []), (111, .goto 22, 3, 133, 0, 0, 0, 0, []), (114, .iload_n 1, 1, 1, 0, 0, 0, 0, []), (115, .iconst 1, 1, 0, 0, 0, 0, 1, []), (116, .if_icmp .ne 15, 3, 131, 0, 0, 0, 0, []),
  (119, .iload_n 2, 1, 2, 0, 0, 0, 0, []), (120, .ifCond .ne 7, 3, 127, 0, 0, 0, 0, []), (123, .iconst 0, 1, 0, 0, 0, 0, 0, []), (124, .goto 9, 3, 133, 0, 0, 0, 0, []), (127, .iload_n 3, 1, 3, 0, 0, 0, 0, []), (128, .goto 5, 3, 133, 0, 0, 0, 0, []),
  (131, .iload 4, 2, 4, 0, 0, 0, 0, []), (133, .ireturn, 1, 0, 0, 1, 0, 0, [])]
noncomputable def am_s222 : am_S := (yX6_keeps, cX6_keeps, 2, none, 1, 0, 1, 6, 4117, 4116, 150, 523)
noncomputable def am_c222 : List (Nat × am_E) := [(0, .aload_n 0, 1, 0, 0, 0, 0, 0, []), (1, .aload_n 0, 1, 0, 0, 0, 0, 0, []), (2, .getfield 572, 3, 6, 69, 1, 2570, 0, []), (5, .iconst 1, 1, 0, 0, 0, 0, 1, []), (6, .iadd, 1, 0, 0, 0, 0, 0, []), (7, .bipush 20, 2, 0, 0, 0, 0, 20, []),
  (9, .irem, 1, 0, 0, 0, 0, 0, []), (10, .putfield 572, 3, 6, 69, 1, 2570, 0, []), (13, .iconst 0, 1, 0, 0, 0, 0, 0, []), (14, .istore_n 1, 1, 1, 0, 0, 0, 0, []), (15, .iload_n 1, 1, 1, 0, 0, 0, 0, []), (16, .sipush 257, 3, 0, 0, 0, 0, 257, []),
  (19, .if_icmp .ge 30, 3, 49, 0, 0, 0, 0, []), (22, .aload_n 0, 1, 0, 0, 0, 0, 0, []), (23, .getfield 160, 3, 6, 67, 3, 2568, 0, []), (26, .sipush 257, 3, 0, 0, 0, 0, 257, []), (29, .aload_n 0, 1, 0, 0, 0, 0, 0, []), (30, .getfield 572, 3, 6, 69, 1, 2570, 0, []),
  (33, .imul, 1, 0, 0, 0, 0, 0, []), (34, .iload_n 1, 1, 1, 0, 0, 0, 0, []), (35, .iadd, 1, 0, 0, 0, 0, 0, []), (36, .aload_n 0, 1, 0, 0, 0, 0, 0, []), (37, .getfield 139, 3, 6, 54, 3, 2283, 0, []), (40, .iload_n 1, 1, 1, 0, 0, 0, 0, []),
  (41, .iaload, 1, 0, 0, 0, 0, 0, []), (42, .iastore, 1, 0, 0, 0, 0, 0, []), (43, .iinc 1 1, 3, 1, 0, 0, 0, 1, []), (46, .goto (-31), 3, 15, 0, 0, 0, 0, []), (49, .aload_n 0, 1, 0, 0, 0, 0, 0, []), (50, .getfield 396, 3, 6, 68, 1, 2569, 0, []),
  (53, .bipush 20, 2, 0, 0, 0, 0, 20, []), (55, .if_icmp .ge 13, 3, 68, 0, 0, 0, 0, []), (58, .aload_n 0, 1, 0, 0, 0, 0, 0, []), (59, .dup, 1, 0, 0, 0, 0, 0, []), (60, .getfield 396, 3, 6, 68, 1, 2569, 0, []), (63, .iconst 1, 1, 0, 0, 0, 0, 1, []),
  (64, .iadd, 1, 0, 0, 0, 0, 0, []), (65, .putfield 396, 3, 6, 68, 1, 2569, 0, []), (68, .return_, 1, 0, 0, 0, 0, 0, [])]
noncomputable def am_s223 : am_S := (yX6_undo, cX6_undo, 2, (some .boolean), 1, 4, 1, 6, 4109, 4107, 4108, 523)
noncomputable def am_c223 : List (Nat × am_E) := [(0, .aload_n 0, 1, 0, 0, 0, 0, 0, []), (1, .getfield 396, 3, 6, 68, 1, 2569, 0, []), (4, .ifCond .ne 15, 3, 19, 0, 0, 0, 0, []), (7, .aload_n 0, 1, 0, 0, 0, 0, 0, []), (8, .getfield 17, 3, 6, 9, 3, 2238, 0, []), (11, .iconst 4, 1, 0, 0, 0, 0, 4, []),
  (12, .dup2, 1, 0, 0, 0, 0, 0, []), (13, .iaload, 1, 0, 0, 0, 0, 0, []), (14, .iconst 1, 1, 0, 0, 0, 0, 1, []), (15, .iadd, 1, 0, 0, 0, 0, 0, []), (16, .iastore, 1, 0, 0, 0, 0, 0, []), (17, .iconst 0, 1, 0, 0, 0, 0, 0, []),
  (18, .ireturn, 1, 0, 0, 4, 0, 0, []), (19, .iconst 0, 1, 0, 0, 0, 0, 0, []), (20, .istore_n 1, 1, 1, 0, 0, 0, 0, []), (21, .iload_n 1, 1, 1, 0, 0, 0, 0, []), (22, .sipush 257, 3, 0, 0, 0, 0, 257, []), (25, .if_icmp .ge 30, 3, 55, 0, 0, 0, 0, []),
  (28, .aload_n 0, 1, 0, 0, 0, 0, 0, []), (29, .getfield 139, 3, 6, 54, 3, 2283, 0, []), (32, .iload_n 1, 1, 1, 0, 0, 0, 0, []), (33, .aload_n 0, 1, 0, 0, 0, 0, 0, []), (34, .getfield 160, 3, 6, 67, 3, 2568, 0, []), (37, .sipush 257, 3, 0, 0, 0, 0, 257, []),
  (40, .aload_n 0, 1, 0, 0, 0, 0, 0, []), (41, .getfield 572, 3, 6, 69, 1, 2570, 0, []), (44, .imul, 1, 0, 0, 0, 0, 0, []), (45, .iload_n 1, 1, 1, 0, 0, 0, 0, []), (46, .iadd, 1, 0, 0, 0, 0, 0, []), (47, .iaload, 1, 0, 0, 0, 0, 0, []),
  (48, .iastore, 1, 0, 0, 0, 0, 0, []), (49, .iinc 1 1, 3, 1, 0, 0, 0, 1, []), (52, .goto (-31), 3, 21, 0, 0, 0, 0, []), (55, .aload_n 0, 1, 0, 0, 0, 0, 0, []), (56, .aload_n 0, 1, 0, 0, 0, 0, 0, []), (57, .getfield 572, 3, 6, 69, 1, 2570, 0, []),
  (60, .bipush 20, 2, 0, 0, 0, 0, 20, []), (62, .iadd, 1, 0, 0, 0, 0, 0, []), (63, .iconst 1, 1, 0, 0, 0, 0, 1, []), (64, .isub, 1, 0, 0, 0, 0, 0, []), (65, .bipush 20, 2, 0, 0, 0, 0, 20, []), (67, .irem, 1, 0, 0, 0, 0, 0, []),
  (68, .putfield 572, 3, 6, 69, 1, 2570, 0, []), (71, .aload_n 0, 1, 0, 0, 0, 0, 0, []), (72, .dup, 1, 0, 0, 0, 0, 0, []), (73, .getfield 396, 3, 6, 68, 1, 2569, 0, []), (76, .iconst 1, 1, 0, 0, 0, 0, 1, []), (77, .isub, 1, 0, 0, 0, 0, 0, []),
  (78, .putfield 396, 3, 6, 68, 1, 2569, 0, []), (81, .iconst 1, 1, 0, 0, 0, 0, 1, []), (82, .ireturn, 1, 0, 0, 4, 0, 0, [])]
noncomputable def am_s224 : am_S := (yX6_press, cX6_press, 3, (some .boolean), 1, 4, 3, 6, 4113, 4111, 4112, 523)
noncomputable def am_c224 : List (Nat × am_E) := [(0, .aload_n 0, 1, 0, 0, 0, 0, 0, []), (1, .iload_n 1, 1, 1, 0, 0, 0, 0, []), (2, .invokevirtual 528, 3, 163, 2, 4, 3624, 6, []), (5, .ifCond .eq 31, 3, 36, 0, 0, 0, 0, []), (8, .iload_n 2, 1, 2, 0, 0, 0, 0, []), (9, .i2l, 1, 0, 0, 0, 0, 0, []),
  (10, .lconst 0, 1, 0, 0, 0, 0, 0, []), (11, .lconst 1, 1, 0, 0, 0, 0, 1, []), (12, .invokestatic 282, 3, 127, 3, 4, 3164, 0, []), (15, .ifCond .eq 21, 3, 36, 0, 0, 0, 0, []), (18, .aload_n 0, 1, 0, 0, 0, 0, 0, []), (19, .iload_n 1, 1, 1, 0, 0, 0, 0, []),
  (20, .invokevirtual 411, 3, 167, 2, 4, 3300, 6, []), (23, .iload_n 2, 1, 2, 0, 0, 0, 0, []), (24, .iconst 1, 1, 0, 0, 0, 0, 1, []), (25, .if_icmp .ne 7, 3, 32, 0, 0, 0, 0, []), (28, .iconst 1, 1, 0, 0, 0, 0, 1, []), (29, .goto 4, 3, 33, 0, 0, 0, 0, []),
  (32, .iconst 0, 1, 0, 0, 0, 0, 0, []), (33, .if_icmp .ne 15, 3, 48, 0, 0, 0, 0, []), (36, .aload_n 0, 1, 0, 0, 0, 0, 0, []), (37, .getfield 17, 3, 6, 9, 3, 2238, 0, []), (40, .iconst 2, 1, 0, 0, 0, 0, 2, []), (41, .dup2, 1, 0, 0, 0, 0, 0, []),
  (42, .iaload, 1, 0, 0, 0, 0, 0, []), (43, .iconst 1, 1, 0, 0, 0, 0, 1, []), (44, .iadd, 1, 0, 0, 0, 0, 0, []), (45, .iastore, 1, 0, 0, 0, 0, 0, []), (46, .iconst 0, 1, 0, 0, 0, 0, 0, []), (47, .ireturn, 1, 0, 0, 4, 0, 0, []),
  (48, .aload_n 0, 1, 0, 0, 0, 0, 0, []), (49, .invokevirtual 575, 3, 222, 1, 0, 4114, 6, []), (52, .aload_n 0, 1, 0, 0, 0, 0, 0, []), (53, .getfield 139, 3, 6, 54, 3, 2283, 0, []), (56, .bipush 86, 2, 0, 0, 0, 0, 86, []), (58, .iconst 2, 1, 0, 0, 0, 0, 2, []),
  (59, .iload_n 1, 1, 1, 0, 0, 0, 0, []), (60, .imul, 1, 0, 0, 0, 0, 0, []), (61, .iadd, 1, 0, 0, 0, 0, 0, []), (62, .iload_n 2, 1, 2, 0, 0, 0, 0, []), (63, .iastore, 1, 0, 0, 0, 0, 0, []), (64, .iconst 1, 1, 0, 0, 0, 0, 1, []),
  (65, .ireturn, 1, 0, 0, 4, 0, 0, [])]
noncomputable def am_s225 : am_S := (yX6_show, cX6_show, 3, (some .long), 1, 2, 3, 6, 4121, 4119, 4120, 523)
noncomputable def am_c225 : List (Nat × am_E) := [(0, .aload_n 0, 1, 0, 0, 0, 0, 0, []), (1, .iload_n 1, 1, 1, 0, 0, 0, 0, []), (2, .invokevirtual 528, 3, 163, 2, 4, 3624, 6, []), (5, .ifCond .eq 29, 3, 34, 0, 0, 0, 0, []), (8, .aload_n 0, 1, 0, 0, 0, 0, 0, []), (9, .iload_n 2, 1, 2, 0, 0, 0, 0, []),
  (10, .invokevirtual 522, 3, 162, 2, 4, 3596, 6, []), (13, .ifCond .eq 21, 3, 34, 0, 0, 0, 0, []), (16, .aload_n 0, 1, 0, 0, 0, 0, 0, []), (17, .aload_n 0, 1, 0, 0, 0, 0, 0, []), (18, .iload_n 1, 1, 1, 0, 0, 0, 0, []), (19, .invokevirtual 454, 3, 170, 2, 1, 3660, 6, []),
  (22, .iload_n 2, 1, 2, 0, 0, 0, 0, []), (23, .invokevirtual 442, 3, 173, 3, 1, 3644, 6, []), (26, .aload_n 0, 1, 0, 0, 0, 0, 0, []), (27, .iload_n 2, 1, 2, 0, 0, 0, 0, []), (28, .invokevirtual 445, 3, 164, 2, 1, 3616, 6, []), (31, .if_icmp .ne 17, 3, 48, 0, 0, 0, 0, []),
  (34, .aload_n 0, 1, 0, 0, 0, 0, 0, []), (35, .getfield 17, 3, 6, 9, 3, 2238, 0, []), (38, .iconst 2, 1, 0, 0, 0, 0, 2, []), (39, .dup2, 1, 0, 0, 0, 0, 0, []), (40, .iaload, 1, 0, 0, 0, 0, 0, []), (41, .iconst 1, 1, 0, 0, 0, 0, 1, []),
  (42, .iadd, 1, 0, 0, 0, 0, 0, []), (43, .iastore, 1, 0, 0, 0, 0, 0, []), (44, .ldc2_w 534, 3, 0, 0, 0, 3716, (-1000000000000000), []), (47, .lreturn, 1, 0, 0, 2, 0, 0, []), (48, .aload_n 0, 1, 0, 0, 0, 0, 0, []), (49, .invokevirtual 575, 3, 222, 1, 0, 4114, 6, []),
  (52, .aload_n 0, 1, 0, 0, 0, 0, 0, []), (53, .aload_n 0, 1, 0, 0, 0, 0, 0, []), (54, .iload_n 1, 1, 1, 0, 0, 0, 0, []), (55, .invokevirtual 454, 3, 170, 2, 1, 3660, 6, []), (58, .iload_n 2, 1, 2, 0, 0, 0, 0, []), (59, .invokevirtual 490, 3, 180, 3, 0, 3737, 6, []),
  (62, .aload_n 0, 1, 0, 0, 0, 0, 0, []), (63, .iload_n 1, 1, 1, 0, 0, 0, 0, []), (64, .invokevirtual 493, 3, 182, 2, 0, 3745, 6, []), (67, .aload_n 0, 1, 0, 0, 0, 0, 0, []), (68, .iload_n 1, 1, 1, 0, 0, 0, 0, []), (69, .iload_n 2, 1, 2, 0, 0, 0, 0, []),
  (70, .invokevirtual 496, 3, 181, 3, 0, 3749, 6, []), (73, .aload_n 0, 1, 0, 0, 0, 0, 0, []), (74, .iload_n 1, 1, 1, 0, 0, 0, 0, []), (75, .iload_n 2, 1, 2, 0, 0, 0, 0, []), (76, .invokevirtual 487, 3, 183, 3, 1, 3733, 6, []), (79, .i2l, 1, 0, 0, 0, 0, 0, []),
  (80, .lreturn, 1, 0, 0, 2, 0, 0, [])]
noncomputable def am_s226 : am_S := (yX6_refuses, cX6_refuses, 2, (some .int), 1, 1, 2, 6, 4129, 4128, 151, 523)
noncomputable def am_c226 : List (Nat × am_E) := [(0, .aload_n 0, 1, 0, 0, 0, 0, 0, []), (1, .getfield 17, 3, 6, 9, 3, 2238, 0, []), (4, .iload_n 1, 1, 1, 0, 0, 0, 0, []), (5, .dup2, 1, 0, 0, 0, 0, 0, []), (6, .iaload, 1, 0, 0, 0, 0, 0, []), (7, .iconst 1, 1, 0, 0, 0, 0, 1, []),
  (8, .iadd, 1, 0, 0, 0, 0, 0, []), (9, .iastore, 1, 0, 0, 0, 0, 0, []), (10, .iconst (-1), 1, 0, 0, 0, 0, (-1), []), (11, .ireturn, 1, 0, 0, 1, 0, 0, [])]
noncomputable def am_s227 : am_S := (yX6_hours, cX6_hours, 2, (some .int), 1, 1, 2, 6, 4125, 4123, 4124, 523)
noncomputable def am_c227 : List (Nat × am_E) := [(0, .aload_n 0, 1, 0, 0, 0, 0, 0, []), (1, .iload_n 1, 1, 1, 0, 0, 0, 0, []), (2, .iconst 1, 1, 0, 0, 0, 0, 1, []), (3, .bipush 100, 2, 0, 0, 0, 0, 100, []), (5, .invokevirtual 531, 3, 191, 4, 4, 3712, 6, []), (8, .ifCond .ne 9, 3, 17, 0, 0, 0, 0, []),
  (11, .aload_n 0, 1, 0, 0, 0, 0, 0, []), (12, .iconst 3, 1, 0, 0, 0, 0, 3, []), (13, .invokevirtual 578, 3, 226, 2, 1, 4126, 6, []), (16, .ireturn, 1, 0, 0, 1, 0, 0, []), (17, .aload_n 0, 1, 0, 0, 0, 0, 0, []), (18, .invokevirtual 575, 3, 222, 1, 0, 4114, 6, []),
  (21, .aload_n 0, 1, 0, 0, 0, 0, 0, []), (22, .iload_n 1, 1, 1, 0, 0, 0, 0, []), (23, .invokevirtual 539, 3, 187, 2, 1, 3721, 6, []), (26, .ireturn, 1, 0, 0, 1, 0, 0, [])]
noncomputable def am_s228 : am_S := (yX6_seed, cX6_seed, 2, (some .boolean), 1, 4, 2, 6, 4133, 4131, 4132, 523)
noncomputable def am_c228 : List (Nat × am_E) := [(0, .iload_n 1, 1, 1, 0, 0, 0, 0, []), (1, .ifCond .ge 15, 3, 16, 0, 0, 0, 0, []), (4, .aload_n 0, 1, 0, 0, 0, 0, 0, []), (5, .getfield 17, 3, 6, 9, 3, 2238, 0, []), (8, .iconst 5, 1, 0, 0, 0, 0, 5, []), (9, .dup2, 1, 0, 0, 0, 0, 0, []),
  (10, .iaload, 1, 0, 0, 0, 0, 0, []), (11, .iconst 1, 1, 0, 0, 0, 0, 1, []), (12, .iadd, 1, 0, 0, 0, 0, 0, []), (13, .iastore, 1, 0, 0, 0, 0, 0, []), (14, .iconst 0, 1, 0, 0, 0, 0, 0, []), (15, .ireturn, 1, 0, 0, 4, 0, 0, []),
  (16, .aload_n 0, 1, 0, 0, 0, 0, 0, []), (17, .iload_n 1, 1, 1, 0, 0, 0, 0, []), (18, .i2l, 1, 0, 0, 0, 0, 0, []), (19, .putfield 163, 3, 6, 70, 2, 2571, 0, []), (22, .iconst 1, 1, 0, 0, 0, 0, 1, []), (23, .ireturn, 1, 0, 0, 4, 0, 0, [])]
noncomputable def am_s229 : am_S := (yX6_drawOf, cX6_drawOf, 2, (some .int), 1, 1, 2, 6, 4145, 4144, 153, 523)
noncomputable def am_c229 : List (Nat × am_E) := [(0, .aload_n 0, 1, 0, 0, 0, 0, 0, []), (1, .ldc2_w 581, 3, 0, 0, 0, 4146, 1103515245, []), (4, .aload_n 0, 1, 0, 0, 0, 0, 0, []), (5, .getfield 163, 3, 6, 70, 2, 2571, 0, []), (8, .lmul, 1, 0, 0, 0, 0, 0, []), (9, .ldc2_w 583, 3, 0, 0, 0, 4147, 12345, []),
  (12, .ladd, 1, 0, 0, 0, 0, 0, []), (13, .ldc2_w 585, 3, 0, 0, 0, 4148, 2147483648, []), (16, .lrem, 1, 0, 0, 0, 0, 0, []), (17, .putfield 163, 3, 6, 70, 2, 2571, 0, []), (20, .aload_n 0, 1, 0, 0, 0, 0, 0, []), (21, .getfield 163, 3, 6, 70, 2, 2571, 0, []),
  (24, .ldc2_w 587, 3, 0, 0, 0, 4149, 64, []), (27, .ldiv, 1, 0, 0, 0, 0, 0, []), (28, .iload_n 1, 1, 1, 0, 0, 0, 0, []), (29, .i2l, 1, 0, 0, 0, 0, 0, []), (30, .lrem, 1, 0, 0, 0, 0, 0, []), (31, .l2i, 1, 0, 0, 0, 0, 0, []),
  (32, .ireturn, 1, 0, 0, 1, 0, 0, [])]
noncomputable def am_s230 : am_S := (yX6_isStranger, cX6_isStranger, 2, (some .boolean), 1, 4, 1, 6, 4141, 4140, 152, 523)
noncomputable def am_c230 : List (Nat × am_E) := [(0, .aload_n 0, 1, 0, 0, 0, 0, 0, []), (1, .bipush 100, 2, 0, 0, 0, 0, 100, []), (3, .invokevirtual 589, 3, 229, 2, 1, 4142, 6, []), (6, .aload_n 0, 1, 0, 0, 0, 0, 0, []), (7, .getfield 127, 3, 6, 47, 3, 2276, 0, []), (10, .bipush 7, 2, 0, 0, 0, 0, 7, []),
  (12, .iaload, 1, 0, 0, 0, 0, 0, []), (13, .if_icmp .ge 10, 3, 23, 0, 0, 0, 0, []), (16, .aload_n 0, 1, 0, 0, 0, 0, 0, []), (17, .invokevirtual 405, 3, 159, 1, 1, 3600, 6, []), (20, .ifCond .ne 5, 3, 25, 0, 0, 0, 0, []), (23, .iconst 0, 1, 0, 0, 0, 0, 0, []),
  (24, .ireturn, 1, 0, 0, 4, 0, 0, []), (25, .aload_n 0, 1, 0, 0, 0, 0, 0, []), (26, .aload_n 0, 1, 0, 0, 0, 0, 0, []), (27, .invokevirtual 405, 3, 159, 1, 1, 3600, 6, []), (30, .invokevirtual 589, 3, 229, 2, 1, 4142, 6, []), (33, .istore_n 1, 1, 1, 0, 0, 0, 0, []),
  (34, .aload_n 0, 1, 0, 0, 0, 0, 0, []), (35, .iconst 0, 1, 0, 0, 0, 0, 0, []), (36, .iload_n 1, 1, 1, 0, 0, 0, 0, []), (37, .invokevirtual 442, 3, 173, 3, 1, 3644, 6, []), (40, .aload_n 0, 1, 0, 0, 0, 0, 0, []), (41, .iload_n 1, 1, 1, 0, 0, 0, 0, []),
  (42, .invokevirtual 445, 3, 164, 2, 1, 3616, 6, []), (45, .if_icmp .ne 5, 3, 50, 0, 0, 0, 0, []), (48, .iconst 0, 1, 0, 0, 0, 0, 0, []), (49, .ireturn, 1, 0, 0, 4, 0, 0, []), (50, .aload_n 0, 1, 0, 0, 0, 0, 0, []), (51, .iconst 0, 1, 0, 0, 0, 0, 0, []),
  (52, .iload_n 1, 1, 1, 0, 0, 0, 0, []), (53, .invokevirtual 490, 3, 180, 3, 0, 3737, 6, []), (56, .aload_n 0, 1, 0, 0, 0, 0, 0, []), (57, .bipush 9, 2, 0, 0, 0, 0, 9, []), (59, .iload_n 1, 1, 1, 0, 0, 0, 0, []), (60, .invokevirtual 496, 3, 181, 3, 0, 3749, 6, []),
  (63, .iconst 1, 1, 0, 0, 0, 0, 1, []), (64, .ireturn, 1, 0, 0, 4, 0, 0, [])]
noncomputable def am_s231 : am_S := (yX6_chance, cX6_chance, 4, (some .int), 1, 1, 2, 6, 4137, 4135, 4136, 523)
noncomputable def am_c231 : List (Nat × am_E) := [(0, .aload_n 0, 1, 0, 0, 0, 0, 0, []), (1, .iload_n 1, 1, 1, 0, 0, 0, 0, []), (2, .iconst 1, 1, 0, 0, 0, 0, 1, []), (3, .bipush 100, 2, 0, 0, 0, 0, 100, []), (5, .invokevirtual 531, 3, 191, 4, 4, 3712, 6, []), (8, .ifCond .ne 9, 3, 17, 0, 0, 0, 0, []),
  (11, .aload_n 0, 1, 0, 0, 0, 0, 0, []), (12, .iconst 3, 1, 0, 0, 0, 0, 3, []), (13, .invokevirtual 578, 3, 226, 2, 1, 4126, 6, []), (16, .ireturn, 1, 0, 0, 1, 0, 0, []), (17, .aload_n 0, 1, 0, 0, 0, 0, 0, []), (18, .invokevirtual 575, 3, 222, 1, 0, 4114, 6, []),
  (21, .iconst 0, 1, 0, 0, 0, 0, 0, []), (22, .istore_n 2, 1, 2, 0, 0, 0, 0, []), (23, .iconst 0, 1, 0, 0, 0, 0, 0, []), (24, .istore_n 3, 1, 3, 0, 0, 0, 0, []), (25, .iload_n 3, 1, 3, 0, 0, 0, 0, []), (26, .iload_n 1, 1, 1, 0, 0, 0, 0, []),
  (27, .if_icmp .ge 24, 3, 51, 0, 0, 0, 0, []), (30, .aload_n 0, 1, 0, 0, 0, 0, 0, []), (31, .invokevirtual 592, 3, 230, 1, 4, 4138, 6, []), (34, .ifCond .eq 6, 3, 40, 0, 0, 0, 0, []), (37, .iinc 2 1, 3, 2, 0, 0, 0, 1, []), (40, .aload_n 0, 1, 0, 0, 0, 0, 0, []),
  (41, .invokevirtual 502, 3, 186, 1, 1, 3725, 6, []), (44, .pop, 1, 0, 0, 0, 0, 0, []), (45, .iinc 3 1, 3, 3, 0, 0, 0, 1, []), (48, .goto (-23), 3, 25, 0, 0, 0, 0, []), (51, .iload_n 2, 1, 2, 0, 0, 0, 0, []), (52, .ireturn, 1, 0, 0, 1, 0, 0, [])]
noncomputable def am_s232 : am_S := (yX6_qCode, cX6_qCode, 2, none, 1, 0, 2, 6, 3202, 3201, 86, 523)
noncomputable def am_c232 : List (Nat × am_E) := [(0, .aload_n 0, 1, 0, 0, 0, 0, 0, []), (1, .getfield 227, 3, 6, 91, 3, 2592, 0, []), (4, .aload_n 0, 1, 0, 0, 0, 0, 0, []), (5, .getfield 338, 3, 6, 92, 1, 2593, 0, []), (8, .iload_n 1, 1, 1, 0, 0, 0, 0, []), (9, .iastore, 1, 0, 0, 0, 0, 0, []),
  (10, .aload_n 0, 1, 0, 0, 0, 0, 0, []), (11, .dup, 1, 0, 0, 0, 0, 0, []), (12, .getfield 338, 3, 6, 92, 1, 2593, 0, []), (15, .iconst 1, 1, 0, 0, 0, 0, 1, []), (16, .iadd, 1, 0, 0, 0, 0, 0, []), (17, .putfield 338, 3, 6, 92, 1, 2593, 0, []),
  (20, .return_, 1, 0, 0, 0, 0, 0, [])]
noncomputable def am_s233 : am_S := (yX6_qOpens, cX6_qOpens, 3, none, 1, 0, 3, 6, 3194, 3193, 84, 523)
noncomputable def am_c233 : List (Nat × am_E) := [(0, .aload_n 0, 1, 0, 0, 0, 0, 0, []), (1, .getfield 242, 3, 6, 5, 1, 2234, 0, []), (4, .ifCond .eq 4, 3, 8, 0, 0, 0, 0, []), (7, .return_, 1, 0, 0, 0, 0, 0, []), (8, .aload_n 0, 1, 0, 0, 0, 0, 0, []), (9, .getfield 344, 3, 6, 95, 1, 2596, 0, []),
  (12, .bipush 6, 2, 0, 0, 0, 0, 6, []), (14, .if_icmp .ne 10, 3, 24, 0, 0, 0, 0, []), (17, .aload_n 0, 1, 0, 0, 0, 0, 0, []), (18, .iconst 4, 1, 0, 0, 0, 0, 4, []), (19, .iload_n 2, 1, 2, 0, 0, 0, 0, []), (20, .invokevirtual 272, 3, 130, 3, 0, 3104, 6, []),
  (23, .return_, 1, 0, 0, 0, 0, 0, []), (24, .aload_n 0, 1, 0, 0, 0, 0, 0, []), (25, .dup, 1, 0, 0, 0, 0, 0, []), (26, .getfield 344, 3, 6, 95, 1, 2596, 0, []), (29, .iconst 1, 1, 0, 0, 0, 0, 1, []), (30, .iadd, 1, 0, 0, 0, 0, 0, []),
  (31, .putfield 344, 3, 6, 95, 1, 2596, 0, []), (34, .aload_n 0, 1, 0, 0, 0, 0, 0, []), (35, .getfield 230, 3, 6, 93, 3, 2594, 0, []), (38, .aload_n 0, 1, 0, 0, 0, 0, 0, []), (39, .getfield 341, 3, 6, 94, 1, 2595, 0, []), (42, .iload_n 1, 1, 1, 0, 0, 0, 0, []),
  (43, .iastore, 1, 0, 0, 0, 0, 0, []), (44, .aload_n 0, 1, 0, 0, 0, 0, 0, []), (45, .dup, 1, 0, 0, 0, 0, 0, []), (46, .getfield 341, 3, 6, 94, 1, 2595, 0, []), (49, .iconst 1, 1, 0, 0, 0, 0, 1, []), (50, .iadd, 1, 0, 0, 0, 0, 0, []),
  (51, .putfield 341, 3, 6, 94, 1, 2595, 0, []), (54, .return_, 1, 0, 0, 0, 0, 0, [])]
noncomputable def am_s234 : am_S := (yX6_qIsOn, cX6_qIsOn, 2, (some .boolean), 1, 4, 2, 6, 3263, 3262, 100, 523)
noncomputable def am_c234 : List (Nat × am_E) := [(0, .aload_n 0, 1, 0, 0, 0, 0, 0, []), (1, .getfield 341, 3, 6, 94, 1, 2595, 0, []), (4, .ifCond .le 22, 3, 26, 0, 0, 0, 0, []), (7, .aload_n 0, 1, 0, 0, 0, 0, 0, []), (8, .getfield 230, 3, 6, 93, 3, 2594, 0, []), (11, .aload_n 0, 1, 0, 0, 0, 0, 0, []),
  (12, .getfield 341, 3, 6, 94, 1, 2595, 0, []), (15, .iconst 1, 1, 0, 0, 0, 0, 1, []), (16, .isub, 1, 0, 0, 0, 0, 0, []), (17, .iaload, 1, 0, 0, 0, 0, 0, []), (18, .iload_n 1, 1, 1, 0, 0, 0, 0, []), (19, .if_icmp .ne 7, 3, 26, 0, 0, 0, 0, []),
  (22, .iconst 1, 1, 0, 0, 0, 0, 1, []), (23, .goto 4, 3, 27, 0, 0, 0, 0, []), (26, .iconst 0, 1, 0, 0, 0, 0, 0, []), (27, .ireturn, 1, 0, 0, 4, 0, 0, [])]
noncomputable def am_s235 : am_S := (yX6_qDrops, cX6_qDrops, 1, none, 1, 0, 1, 6, 3244, 3243, 96, 523)
noncomputable def am_c235 : List (Nat × am_E) := [(0, .aload_n 0, 1, 0, 0, 0, 0, 0, []), (1, .dup, 1, 0, 0, 0, 0, 0, []), (2, .getfield 341, 3, 6, 94, 1, 2595, 0, []), (5, .iconst 1, 1, 0, 0, 0, 0, 1, []), (6, .isub, 1, 0, 0, 0, 0, 0, []), (7, .putfield 341, 3, 6, 94, 1, 2595, 0, []),
  (10, .aload_n 0, 1, 0, 0, 0, 0, 0, []), (11, .aload_n 0, 1, 0, 0, 0, 0, 0, []), (12, .getfield 230, 3, 6, 93, 3, 2594, 0, []), (15, .aload_n 0, 1, 0, 0, 0, 0, 0, []), (16, .getfield 341, 3, 6, 94, 1, 2595, 0, []), (19, .iaload, 1, 0, 0, 0, 0, 0, []),
  (20, .invokevirtual 595, 3, 232, 2, 0, 3199, 6, []), (23, .return_, 1, 0, 0, 0, 0, 0, [])]
noncomputable def am_s236 : am_S := (yX6_qIsBracket, cX6_qIsBracket, 1, (some .boolean), 0, 4, 1, 6, 3255, 3254, 0, 523)
noncomputable def am_c236 : List (Nat × am_E) := [(0, .iload_n 0, 1, 0, 0, 0, 0, 0, []), (1, .bipush 20, 2, 0, 0, 0, 0, 20, []), (3, .if_icmp .lt 13, 3, 16, 0, 0, 0, 0, []), (6, .iload_n 0, 1, 0, 0, 0, 0, 0, []), (7, .bipush 24, 2, 0, 0, 0, 0, 24, []), (9, .if_icmp .gt 7, 3, 16, 0, 0, 0, 0, []),
  (12, .iconst 1, 1, 0, 0, 0, 0, 1, []), (13, .goto 4, 3, 17, 0, 0, 0, 0, []), (16, .iconst 0, 1, 0, 0, 0, 0, 0, []), (17, .ireturn, 1, 0, 0, 4, 0, 0, [])]
noncomputable def am_s237 : am_S := (yX6_qBracket, cX6_qBracket, 2, (some .int), 1, 1, 1, 6, 3252, 3251, 98, 523)
noncomputable def am_c237 : List (Nat × am_E) := [(0, .aload_n 0, 1, 0, 0, 0, 0, 0, []), (1, .getfield 341, 3, 6, 94, 1, 2595, 0, []), (4, .iconst 1, 1, 0, 0, 0, 0, 1, []), (5, .isub, 1, 0, 0, 0, 0, 0, []), (6, .istore_n 1, 1, 1, 0, 0, 0, 0, []), (7, .iload_n 1, 1, 1, 0, 0, 0, 0, []),
  (8, .aload_n 0, 1, 0, 0, 0, 0, 0, []), (9, .getfield 347, 3, 6, 96, 1, 2597, 0, []), (12, .if_icmp .lt 21, 3, 33, 0, 0, 0, 0, []), (15, .aload_n 0, 1, 0, 0, 0, 0, 0, []), (16, .getfield 230, 3, 6, 93, 3, 2594, 0, []), (19, .iload_n 1, 1, 1, 0, 0, 0, 0, []),
  (20, .iaload, 1, 0, 0, 0, 0, 0, []), (21, .invokestatic 598, 3, 236, 1, 4, 3253, 0, []), (24, .ifCond .ne 9, 3, 33, 0, 0, 0, 0, []), (27, .iinc 1 (-1), 3, 1, 0, 0, 0, (-1), []), (30, .goto (-23), 3, 7, 0, 0, 0, 0, []), (33, .iload_n 1, 1, 1, 0, 0, 0, 0, []),
  (34, .aload_n 0, 1, 0, 0, 0, 0, 0, []), (35, .getfield 347, 3, 6, 96, 1, 2597, 0, []), (38, .if_icmp .lt 12, 3, 50, 0, 0, 0, 0, []), (41, .aload_n 0, 1, 0, 0, 0, 0, 0, []), (42, .getfield 230, 3, 6, 93, 3, 2594, 0, []), (45, .iload_n 1, 1, 1, 0, 0, 0, 0, []),
  (46, .iaload, 1, 0, 0, 0, 0, 0, []), (47, .goto 4, 3, 51, 0, 0, 0, 0, []), (50, .iconst (-1), 1, 0, 0, 0, 0, (-1), []), (51, .ireturn, 1, 0, 0, 1, 0, 0, [])]
noncomputable def am_s238 : am_S := (yX6_qDropsToBracket, cX6_qDropsToBracket, 1, none, 1, 0, 1, 6, 3259, 3258, 99, 523)
noncomputable def am_c238 : List (Nat × am_E) := [(0, .aload_n 0, 1, 0, 0, 0, 0, 0, []), (1, .getfield 341, 3, 6, 94, 1, 2595, 0, []), (4, .aload_n 0, 1, 0, 0, 0, 0, 0, []), (5, .getfield 347, 3, 6, 96, 1, 2597, 0, []), (8, .if_icmp .le 27, 3, 35, 0, 0, 0, 0, []), (11, .aload_n 0, 1, 0, 0, 0, 0, 0, []),
  (12, .getfield 230, 3, 6, 93, 3, 2594, 0, []), (15, .aload_n 0, 1, 0, 0, 0, 0, 0, []), (16, .getfield 341, 3, 6, 94, 1, 2595, 0, []), (19, .iconst 1, 1, 0, 0, 0, 0, 1, []), (20, .isub, 1, 0, 0, 0, 0, 0, []), (21, .iaload, 1, 0, 0, 0, 0, 0, []),
  (22, .invokestatic 598, 3, 236, 1, 4, 3253, 0, []), (25, .ifCond .ne 10, 3, 35, 0, 0, 0, 0, []), (28, .aload_n 0, 1, 0, 0, 0, 0, 0, []), (29, .invokevirtual 601, 3, 235, 1, 0, 3241, 6, []), (32, .goto (-32), 3, 0, 0, 0, 0, 0, []), (35, .return_, 1, 0, 0, 0, 0, 0, [])]
noncomputable def am_s239 : am_S := (yX6_qWordHere, cX6_qWordHere, 1, (some .int), 1, 1, 1, 6, 3218, 3217, 90, 523)
noncomputable def am_c239 : List (Nat × am_E) := [(0, .aload_n 0, 1, 0, 0, 0, 0, 0, []), (1, .aload_n 0, 1, 0, 0, 0, 0, 0, []), (2, .getfield 203, 3, 6, 83, 3, 2584, 0, []), (5, .invokevirtual 265, 3, 134, 2, 4, 3112, 6, []), (8, .ifCond .eq 5, 3, 13, 0, 0, 0, 0, []), (11, .iconst 0, 1, 0, 0, 0, 0, 0, []),
  (12, .ireturn, 1, 0, 0, 1, 0, 0, []), (13, .aload_n 0, 1, 0, 0, 0, 0, 0, []), (14, .aload_n 0, 1, 0, 0, 0, 0, 0, []), (15, .getfield 206, 3, 6, 84, 3, 2585, 0, []), (18, .invokevirtual 265, 3, 134, 2, 4, 3112, 6, []), (21, .ifCond .eq 5, 3, 26, 0, 0, 0, 0, []),
  (24, .iconst 1, 1, 0, 0, 0, 0, 1, []), (25, .ireturn, 1, 0, 0, 1, 0, 0, []), (26, .aload_n 0, 1, 0, 0, 0, 0, 0, []), (27, .aload_n 0, 1, 0, 0, 0, 0, 0, []), (28, .getfield 209, 3, 6, 85, 3, 2586, 0, []), (31, .invokevirtual 265, 3, 134, 2, 4, 3112, 6, []),
  (34, .ifCond .eq 18, 3, 52, 0, 0, 0, 0, []), (37, .aload_n 0, 1, 0, 0, 0, 0, 0, []), (38, .getfield 297, 3, 6, 53, 1, 2282, 0, []), (41, .iconst 3, 1, 0, 0, 0, 0, 3, []), (42, .if_icmp .ne 8, 3, 50, 0, 0, 0, 0, []), (45, .bipush 8, 2, 0, 0, 0, 0, 8, []),
  (47, .goto 4, 3, 51, 0, 0, 0, 0, []), (50, .iconst 2, 1, 0, 0, 0, 0, 2, []), (51, .ireturn, 1, 0, 0, 1, 0, 0, []), (52, .aload_n 0, 1, 0, 0, 0, 0, 0, []), (53, .aload_n 0, 1, 0, 0, 0, 0, 0, []), (54, .getfield 212, 3, 6, 86, 3, 2587, 0, []),
  (57, .invokevirtual 265, 3, 134, 2, 4, 3112, 6, []), (60, .ifCond .eq 5, 3, 65, 0, 0, 0, 0, []), (63, .iconst 3, 1, 0, 0, 0, 0, 3, []), (64, .ireturn, 1, 0, 0, 1, 0, 0, []), (65, .aload_n 0, 1, 0, 0, 0, 0, 0, []), (66, .aload_n 0, 1, 0, 0, 0, 0, 0, []),
  (67, .getfield 215, 3, 6, 87, 3, 2588, 0, []), (70, .invokevirtual 265, 3, 134, 2, 4, 3112, 6, []), (73, .ifCond .eq 5, 3, 78, 0, 0, 0, 0, []), (76, .iconst 4, 1, 0, 0, 0, 0, 4, []), (77, .ireturn, 1, 0, 0, 1, 0, 0, []), (78, .aload_n 0, 1, 0, 0, 0, 0, 0, []),
  (79, .aload_n 0, 1, 0, 0, 0, 0, 0, []), (80, .getfield 218, 3, 6, 88, 3, 2589, 0, []), (83, .invokevirtual 265, 3, 134, 2, 4, 3112, 6, []), (86, .ifCond .eq 5, 3, 91, 0, 0, 0, 0, []), (89, .iconst 5, 1, 0, 0, 0, 0, 5, []), (90, .ireturn, 1, 0, 0, 1, 0, 0, []),
  (91, .aload_n 0, 1, 0, 0, 0, 0, 0, []), (92, .aload_n 0, 1, 0, 0, 0, 0, 0, []), (93, .getfield 221, 3, 6, 89, 3, 2590, 0, []), (96, .invokevirtual 265, 3, 134, 2, 4, 3112, 6, []), (99, .ifCond .eq 6, 3, 105, 0, 0, 0, 0, []), (102, .bipush 6, 2, 0, 0, 0, 0, 6, []),
  (104, .ireturn, 1, 0, 0, 1, 0, 0, []), (105, .aload_n 0, 1, 0, 0, 0, 0, 0, []), (106, .aload_n 0, 1, 0, 0, 0, 0, 0, []), (107, .getfield 224, 3, 6, 90, 3, 2591, 0, []), (110, .invokevirtual 265, 3, 134, 2, 4, 3112, 6, []), (113, .ifCond .eq 6, 3, 119, 0, 0, 0, 0, []),
  (116, .bipush 7, 2, 0, 0, 0, 0, 7, []), (118, .ireturn, 1, 0, 0, 1, 0, 0, []), (119, .iconst (-1), 1, 0, 0, 0, 0, (-1), []), (120, .ireturn, 1, 0, 0, 1, 0, 0, [])]
noncomputable def am_s240 : am_S := (yX6_qWordOf, cX6_qWordOf, 4, (some .int), 1, 1, 3, 6, 3214, 3213, 89, 523)
noncomputable def am_c240 : List (Nat × am_E) := [(0, .aload_n 0, 1, 0, 0, 0, 0, 0, []), (1, .invokevirtual 604, 3, 239, 1, 1, 3215, 6, []), (4, .istore_n 3, 1, 3, 0, 0, 0, 0, []), (5, .iload_n 3, 1, 3, 0, 0, 0, 0, []), (6, .iload_n 1, 1, 1, 0, 0, 0, 0, []), (7, .if_icmp .lt 20, 3, 27, 0, 0, 0, 0, []),
  (10, .iload_n 3, 1, 3, 0, 0, 0, 0, []), (11, .iload_n 2, 1, 2, 0, 0, 0, 0, []), (12, .if_icmp .ge 15, 3, 27, 0, 0, 0, 0, []), (15, .aload_n 0, 1, 0, 0, 0, 0, 0, []), (16, .iload_n 3, 1, 3, 0, 0, 0, 0, []), (17, .invokevirtual 607, 3, 142, 2, 4, 3219, 6, []),
  (20, .ifCond .eq 7, 3, 27, 0, 0, 0, 0, []), (23, .iload_n 3, 1, 3, 0, 0, 0, 0, []), (24, .goto 4, 3, 28, 0, 0, 0, 0, []), (27, .iconst (-1), 1, 0, 0, 0, 0, (-1), []), (28, .ireturn, 1, 0, 0, 1, 0, 0, [])]
noncomputable def am_s241 : am_S := (yX6_qAsksWord, cX6_qAsksWord, 2, none, 1, 0, 2, 6, 3236, 3235, 94, 523)
noncomputable def am_c241 : List (Nat × am_E) := [(0, .iload_n 1, 1, 1, 0, 0, 0, 0, []), (1, .tableswitch 135 0 7 #[47, 58, 69, 80, 91, 102, 113, 124], 47, 136, 0, 0, 0, 0, [(0, 48), (1, 59), (2, 70), (3, 81), (4, 92), (5, 103), (6, 114), (7, 125)]), (48, .aload_n 0, 1, 0, 0, 0, 0, 0, []), (49, .aload_n 0, 1, 0, 0, 0, 0, 0, []), (50, .getfield 203, 3, 6, 83, 3, 2584, 0, []), (53, .invokevirtual 323, 3, 136, 2, 0, 3153, 6, []),
  (56, .goto 88, 3, 144, 0, 0, 0, 0, []), (59, .aload_n 0, 1, 0, 0, 0, 0, 0, []), (60, .aload_n 0, 1, 0, 0, 0, 0, 0, []), (61, .getfield 206, 3, 6, 84, 3, 2585, 0, []), (64, .invokevirtual 323, 3, 136, 2, 0, 3153, 6, []), (67, .goto 77, 3, 144, 0, 0, 0, 0, []),
  (70, .aload_n 0, 1, 0, 0, 0, 0, 0, []), (71, .aload_n 0, 1, 0, 0, 0, 0, 0, []), (72, .getfield 209, 3, 6, 85, 3, 2586, 0, []), (75, .invokevirtual 323, 3, 136, 2, 0, 3153, 6, []), (78, .goto 66, 3, 144, 0, 0, 0, 0, []), (81, .aload_n 0, 1, 0, 0, 0, 0, 0, []),
  (82, .aload_n 0, 1, 0, 0, 0, 0, 0, []), (83, .getfield 212, 3, 6, 86, 3, 2587, 0, []), (86, .invokevirtual 323, 3, 136, 2, 0, 3153, 6, []), (89, .goto 55, 3, 144, 0, 0, 0, 0, []), (92, .aload_n 0, 1, 0, 0, 0, 0, 0, []), (93, .aload_n 0, 1, 0, 0, 0, 0, 0, []),
  (94, .getfield 215, 3, 6, 87, 3, 2588, 0, []), (97, .invokevirtual 323, 3, 136, 2, 0, 3153, 6, []), (100, .goto 44, 3, 144, 0, 0, 0, 0, []), (103, .aload_n 0, 1, 0, 0, 0, 0, 0, []), (104, .aload_n 0, 1, 0, 0, 0, 0, 0, []), (105, .getfield 218, 3, 6, 88, 3, 2589, 0, []),
  (108, .invokevirtual 323, 3, 136, 2, 0, 3153, 6, []), (111, .goto 33, 3, 144, 0, 0, 0, 0, []), (114, .aload_n 0, 1, 0, 0, 0, 0, 0, []), (115, .aload_n 0, 1, 0, 0, 0, 0, 0, []), (116, .getfield 221, 3, 6, 89, 3, 2590, 0, []), (119, .invokevirtual 323, 3, 136, 2, 0, 3153, 6, []),
  (122, .goto 22, 3, 144, 0, 0, 0, 0, []), (125, .aload_n 0, 1, 0, 0, 0, 0, 0, []), (126, .aload_n 0, 1, 0, 0, 0, 0, 0, []), (127, .getfield 224, 3, 6, 90, 3, 2591, 0, []), (130, .invokevirtual 323, 3, 136, 2, 0, 3153, 6, []), (133, .goto 11, 3, 144, 0, 0, 0, 0, []),
  (136, .aload_n 0, 1, 0, 0, 0, 0, 0, []), (137, .aload_n 0, 1, 0, 0, 0, 0, 0, []), (138, .getfield 209, 3, 6, 85, 3, 2586, 0, []), (141, .invokevirtual 323, 3, 136, 2, 0, 3153, 6, []), (144, .return_, 1, 0, 0, 0, 0, 0, [])]
noncomputable def am_s242 : am_S := (yX6_qEndsPart, cX6_qEndsPart, 1, none, 1, 0, 1, 6, 3240, 3239, 95, 523)
noncomputable def am_c242 : List (Nat × am_E) := [(0, .aload_n 0, 1, 0, 0, 0, 0, 0, []), (1, .getfield 242, 3, 6, 5, 1, 2234, 0, []), (4, .ifCond .ne 47, 3, 51, 0, 0, 0, 0, []), (7, .aload_n 0, 1, 0, 0, 0, 0, 0, []), (8, .getfield 341, 3, 6, 94, 1, 2595, 0, []), (11, .aload_n 0, 1, 0, 0, 0, 0, 0, []),
  (12, .getfield 347, 3, 6, 96, 1, 2597, 0, []), (15, .if_icmp .le 36, 3, 51, 0, 0, 0, 0, []), (18, .aload_n 0, 1, 0, 0, 0, 0, 0, []), (19, .getfield 230, 3, 6, 93, 3, 2594, 0, []), (22, .aload_n 0, 1, 0, 0, 0, 0, 0, []), (23, .getfield 341, 3, 6, 94, 1, 2595, 0, []),
  (26, .iconst 1, 1, 0, 0, 0, 0, 1, []), (27, .isub, 1, 0, 0, 0, 0, 0, []), (28, .iaload, 1, 0, 0, 0, 0, 0, []), (29, .bipush 60, 2, 0, 0, 0, 0, 60, []), (31, .if_icmp .lt 20, 3, 51, 0, 0, 0, 0, []), (34, .aload_n 0, 1, 0, 0, 0, 0, 0, []),
  (35, .dup, 1, 0, 0, 0, 0, 0, []), (36, .getfield 344, 3, 6, 95, 1, 2596, 0, []), (39, .iconst 1, 1, 0, 0, 0, 0, 1, []), (40, .isub, 1, 0, 0, 0, 0, 0, []), (41, .putfield 344, 3, 6, 95, 1, 2596, 0, []), (44, .aload_n 0, 1, 0, 0, 0, 0, 0, []),
  (45, .invokevirtual 601, 3, 235, 1, 0, 3241, 6, []), (48, .goto (-48), 3, 0, 0, 0, 0, 0, []), (51, .return_, 1, 0, 0, 0, 0, 0, [])]
noncomputable def am_s243 : am_S := (yX6_qPartTold, cX6_qPartTold, 6, none, 1, 0, 1, 6, 3210, 3209, 88, 523)
noncomputable def am_c243_0 : List (Nat × am_E) := [(0, .iconst 1, 1, 0, 0, 0, 0, 1, []), (1, .istore_n 1, 1, 1, 0, 0, 0, 0, []), (2, .iload_n 1, 1, 1, 0, 0, 0, 0, []), (3, .ifCond .eq 183, 3, 186, 0, 0, 0, 0, []), (6, .aload_n 0, 1, 0, 0, 0, 0, 0, []), (7, .getfield 242, 3, 6, 5, 1, 2234, 0, []),
  (10, .ifCond .ne 176, 3, 186, 0, 0, 0, 0, []), (13, .aload_n 0, 1, 0, 0, 0, 0, 0, []), (14, .invokevirtual 254, 3, 133, 1, 1, 3096, 6, []), (17, .istore_n 2, 1, 2, 0, 0, 0, 0, []), (18, .aload_n 0, 1, 0, 0, 0, 0, 0, []), (19, .bipush 8, 2, 0, 0, 0, 0, 8, []),
  (21, .bipush 9, 2, 0, 0, 0, 0, 9, []), (23, .invokevirtual 610, 3, 240, 3, 1, 3211, 6, []), (26, .istore_n 3, 1, 3, 0, 0, 0, 0, []), (27, .iload_n 2, 1, 2, 0, 0, 0, 0, []), (28, .bipush 40, 2, 0, 0, 0, 0, 40, []), (30, .if_icmp .ne 26, 3, 56, 0, 0, 0, 0, []),
  (33, .aload_n 0, 1, 0, 0, 0, 0, 0, []), (34, .bipush 20, 2, 0, 0, 0, 0, 20, []), (36, .aload_n 0, 1, 0, 0, 0, 0, 0, []), (37, .getfield 248, 3, 6, 2, 1, 2231, 0, []), (40, .invokevirtual 613, 3, 233, 3, 0, 3191, 6, []), (43, .aload_n 0, 1, 0, 0, 0, 0, 0, []),
  (44, .dup, 1, 0, 0, 0, 0, 0, []), (45, .getfield 248, 3, 6, 2, 1, 2231, 0, []), (48, .iconst 1, 1, 0, 0, 0, 0, 1, []), (49, .iadd, 1, 0, 0, 0, 0, 0, []), (50, .putfield 248, 3, 6, 2, 1, 2231, 0, []), (53, .goto 130, 3, 183, 0, 0, 0, 0, []),
  (56, .aload_n 0, 1, 0, 0, 0, 0, 0, []), (57, .aload_n 0, 1, 0, 0, 0, 0, 0, []), (58, .getfield 197, 3, 6, 81, 3, 2582, 0, []), (61, .invokevirtual 265, 3, 134, 2, 4, 3112, 6, []), (64, .ifCond .ne 14, 3, 78, 0, 0, 0, 0, []), (67, .aload_n 0, 1, 0, 0, 0, 0, 0, []),
  (68, .aload_n 0, 1, 0, 0, 0, 0, 0, []), (69, .getfield 200, 3, 6, 82, 3, 2583, 0, []), (72, .invokevirtual 265, 3, 134, 2, 4, 3112, 6, []), (75, .ifCond .eq 78, 3, 153, 0, 0, 0, 0, []), (78, .aload_n 0, 1, 0, 0, 0, 0, 0, []), (79, .aload_n 0, 1, 0, 0, 0, 0, 0, []),
  (80, .getfield 197, 3, 6, 81, 3, 2582, 0, []), (83, .invokevirtual 269, 3, 135, 2, 4, 3108, 6, []), (86, .istore 4, 2, 4, 0, 0, 0, 0, []), (88, .iload 4, 2, 4, 0, 0, 0, 0, []), (90, .ifCond .ne 11, 3, 101, 0, 0, 0, 0, []), (93, .aload_n 0, 1, 0, 0, 0, 0, 0, []),
  (94, .aload_n 0, 1, 0, 0, 0, 0, 0, []), (95, .getfield 200, 3, 6, 82, 3, 2583, 0, []), (98, .invokevirtual 323, 3, 136, 2, 0, 3153, 6, []), (101, .aload_n 0, 1, 0, 0, 0, 0, 0, []), (102, .invokevirtual 254, 3, 133, 1, 1, 3096, 6, []), (105, .bipush 40, 2, 0, 0, 0, 0, 40, []),
  (107, .if_icmp .ne 10, 3, 117, 0, 0, 0, 0, []), (110, .aload_n 0, 1, 0, 0, 0, 0, 0, []), (111, .getfield 248, 3, 6, 2, 1, 2231, 0, []), (114, .goto 4, 3, 118, 0, 0, 0, 0, []), (117, .iconst (-1), 1, 0, 0, 0, 0, (-1), []), (118, .istore 5, 2, 5, 0, 0, 0, 0, []),
  (120, .iload 5, 2, 5, 0, 0, 0, 0, []), (122, .iconst (-1), 1, 0, 0, 0, 0, (-1), []), (123, .if_icmp .eq 21, 3, 144, 0, 0, 0, 0, []), (126, .aload_n 0, 1, 0, 0, 0, 0, 0, []), (127, .iload 4, 2, 4, 0, 0, 0, 0, []), (129, .ifCond .eq 8, 3, 137, 0, 0, 0, 0, []),
  (132, .bipush 21, 2, 0, 0, 0, 0, 21, []), (134, .goto 5, 3, 139, 0, 0, 0, 0, []), (137, .bipush 22, 2, 0, 0, 0, 0, 22, []), (139, .iload 5, 2, 5, 0, 0, 0, 0, []), (141, .invokevirtual 613, 3, 233, 3, 0, 3191, 6, []), (144, .aload_n 0, 1, 0, 0, 0, 0, 0, []),
  (145, .bipush 40, 2, 0, 0, 0, 0, 40, []), (147, .invokevirtual 381, 3, 138, 2, 0, 3225, 6, []), (150, .goto 33, 3, 183, 0, 0, 0, 0, []), (153, .iload_n 3, 1, 3, 0, 0, 0, 0, []), (154, .iconst (-1), 1, 0, 0, 0, 0, (-1), []), (155, .if_icmp .eq 26, 3, 181, 0, 0, 0, 0, []),
  (158, .aload_n 0, 1, 0, 0, 0, 0, 0, []), (159, .bipush 60, 2, 0, 0, 0, 0, 60, []), (161, .iload_n 3, 1, 3, 0, 0, 0, 0, []), (162, .iadd, 1, 0, 0, 0, 0, 0, []), (163, .bipush 8, 2, 0, 0, 0, 0, 8, []), (165, .isub, 1, 0, 0, 0, 0, 0, []),
  (166, .aload_n 0, 1, 0, 0, 0, 0, 0, []), (167, .getfield 248, 3, 6, 2, 1, 2231, 0, []), (170, .invokevirtual 613, 3, 233, 3, 0, 3191, 6, []), (173, .aload_n 0, 1, 0, 0, 0, 0, 0, []), (174, .iload_n 3, 1, 3, 0, 0, 0, 0, []), (175, .invokevirtual 616, 3, 241, 2, 0, 3233, 6, []),
  (178, .goto 5, 3, 183, 0, 0, 0, 0, []), (181, .iconst 0, 1, 0, 0, 0, 0, 0, []), (182, .istore_n 1, 1, 1, 0, 0, 0, 0, []), (183, .goto (-181), 3, 2, 0, 0, 0, 0, []), (186, .aload_n 0, 1, 0, 0, 0, 0, 0, []), (187, .getfield 242, 3, 6, 5, 1, 2234, 0, []),
  (190, .ifCond .eq 4, 3, 194, 0, 0, 0, 0, []), (193, .return_, 1, 0, 0, 0, 0, 0, []), (194, .aload_n 0, 1, 0, 0, 0, 0, 0, []), (195, .iconst 0, 1, 0, 0, 0, 0, 0, [])]
noncomputable def am_c243_1 : List (Nat × am_E) := [(196, .bipush 8, 2, 0, 0, 0, 0, 8, []), (198, .invokevirtual 610, 3, 240, 3, 1, 3211, 6, []), (201, .istore_n 2, 1, 2, 0, 0, 0, 0, []), (202, .iload_n 2, 1, 2, 0, 0, 0, 0, []), (203, .iconst (-1), 1, 0, 0, 0, 0, (-1), []), (204, .if_icmp .eq 8, 3, 212, 0, 0, 0, 0, []),
  (207, .aload_n 0, 1, 0, 0, 0, 0, 0, []), (208, .iload_n 2, 1, 2, 0, 0, 0, 0, []), (209, .invokevirtual 616, 3, 241, 2, 0, 3233, 6, []), (212, .aload_n 0, 1, 0, 0, 0, 0, 0, []), (213, .iload_n 2, 1, 2, 0, 0, 0, 0, []), (214, .iconst (-1), 1, 0, 0, 0, 0, (-1), []),
  (215, .if_icmp .eq 10, 3, 225, 0, 0, 0, 0, []), (218, .bipush 40, 2, 0, 0, 0, 0, 40, []), (220, .iload_n 2, 1, 2, 0, 0, 0, 0, []), (221, .iadd, 1, 0, 0, 0, 0, 0, []), (222, .goto 15, 3, 237, 0, 0, 0, 0, []), (225, .sipush 1000, 3, 0, 0, 0, 0, 1000, []),
  (228, .aload_n 0, 1, 0, 0, 0, 0, 0, []), (229, .iconst 0, 1, 0, 0, 0, 0, 0, []), (230, .sipush 9999, 3, 0, 0, 0, 0, 9999, []), (233, .invokevirtual 327, 3, 139, 3, 1, 3157, 6, []), (236, .iadd, 1, 0, 0, 0, 0, 0, []), (237, .invokevirtual 595, 3, 232, 2, 0, 3199, 6, []),
  (240, .aload_n 0, 1, 0, 0, 0, 0, 0, []), (241, .invokevirtual 619, 3, 242, 1, 0, 3237, 6, []), (244, .return_, 1, 0, 0, 0, 0, 0, [])]
noncomputable def am_c243 : List (Nat × am_E) := am_c243_0 ++ (am_c243_1)
noncomputable def am_s244 : am_S := (yX6_qGoesOn, cX6_qGoesOn, 2, (some .boolean), 1, 4, 1, 6, 3248, 3247, 97, 523)
noncomputable def am_c244_0 : List (Nat × am_E) := [(0, .aload_n 0, 1, 0, 0, 0, 0, 0, []), (1, .getfield 242, 3, 6, 5, 1, 2234, 0, []), (4, .ifCond .ne 118, 3, 122, 0, 0, 0, 0, []), (7, .aload_n 0, 1, 0, 0, 0, 0, 0, []), (8, .invokevirtual 254, 3, 133, 1, 1, 3096, 6, []), (11, .bipush 41, 2, 0, 0, 0, 0, 41, []),
  (13, .if_icmp .ne 109, 3, 122, 0, 0, 0, 0, []), (16, .aload_n 0, 1, 0, 0, 0, 0, 0, []), (17, .invokevirtual 622, 3, 237, 1, 1, 3249, 6, []), (20, .bipush 20, 2, 0, 0, 0, 0, 20, []), (22, .if_icmp .eq 21, 3, 43, 0, 0, 0, 0, []), (25, .aload_n 0, 1, 0, 0, 0, 0, 0, []),
  (26, .invokevirtual 622, 3, 237, 1, 1, 3249, 6, []), (29, .bipush 23, 2, 0, 0, 0, 0, 23, []), (31, .if_icmp .eq 12, 3, 43, 0, 0, 0, 0, []), (34, .aload_n 0, 1, 0, 0, 0, 0, 0, []), (35, .invokevirtual 622, 3, 237, 1, 1, 3249, 6, []), (38, .bipush 24, 2, 0, 0, 0, 0, 24, []),
  (40, .if_icmp .ne 82, 3, 122, 0, 0, 0, 0, []), (43, .aload_n 0, 1, 0, 0, 0, 0, 0, []), (44, .dup, 1, 0, 0, 0, 0, 0, []), (45, .getfield 248, 3, 6, 2, 1, 2231, 0, []), (48, .iconst 1, 1, 0, 0, 0, 0, 1, []), (49, .iadd, 1, 0, 0, 0, 0, 0, []),
  (50, .putfield 248, 3, 6, 2, 1, 2231, 0, []), (53, .aload_n 0, 1, 0, 0, 0, 0, 0, []), (54, .invokevirtual 625, 3, 238, 1, 0, 3256, 6, []), (57, .aload_n 0, 1, 0, 0, 0, 0, 0, []), (58, .dup, 1, 0, 0, 0, 0, 0, []), (59, .getfield 341, 3, 6, 94, 1, 2595, 0, []),
  (62, .iconst 1, 1, 0, 0, 0, 0, 1, []), (63, .isub, 1, 0, 0, 0, 0, 0, []), (64, .putfield 341, 3, 6, 94, 1, 2595, 0, []), (67, .aload_n 0, 1, 0, 0, 0, 0, 0, []), (68, .dup, 1, 0, 0, 0, 0, 0, []), (69, .getfield 344, 3, 6, 95, 1, 2596, 0, []),
  (72, .iconst 1, 1, 0, 0, 0, 0, 1, []), (73, .isub, 1, 0, 0, 0, 0, 0, []), (74, .putfield 344, 3, 6, 95, 1, 2596, 0, []), (77, .aload_n 0, 1, 0, 0, 0, 0, 0, []), (78, .getfield 230, 3, 6, 93, 3, 2594, 0, []), (81, .aload_n 0, 1, 0, 0, 0, 0, 0, []),
  (82, .getfield 341, 3, 6, 94, 1, 2595, 0, []), (85, .iaload, 1, 0, 0, 0, 0, 0, []), (86, .bipush 20, 2, 0, 0, 0, 0, 20, []), (88, .if_icmp .eq 27, 3, 115, 0, 0, 0, 0, []), (91, .aload_n 0, 1, 0, 0, 0, 0, 0, []), (92, .aload_n 0, 1, 0, 0, 0, 0, 0, []),
  (93, .getfield 230, 3, 6, 93, 3, 2594, 0, []), (96, .aload_n 0, 1, 0, 0, 0, 0, 0, []), (97, .getfield 341, 3, 6, 94, 1, 2595, 0, []), (100, .iaload, 1, 0, 0, 0, 0, 0, []), (101, .bipush 23, 2, 0, 0, 0, 0, 23, []), (103, .if_icmp .ne 7, 3, 110, 0, 0, 0, 0, []),
  (106, .iconst 5, 1, 0, 0, 0, 0, 5, []), (107, .goto 5, 3, 112, 0, 0, 0, 0, []), (110, .bipush 6, 2, 0, 0, 0, 0, 6, []), (112, .invokevirtual 595, 3, 232, 2, 0, 3199, 6, []), (115, .aload_n 0, 1, 0, 0, 0, 0, 0, []), (116, .invokevirtual 619, 3, 242, 1, 0, 3237, 6, []),
  (119, .goto (-119), 3, 0, 0, 0, 0, 0, []), (122, .aload_n 0, 1, 0, 0, 0, 0, 0, []), (123, .bipush 42, 2, 0, 0, 0, 0, 42, []), (125, .invokevirtual 276, 3, 137, 2, 4, 3229, 6, []), (128, .ifCond .ne 12, 3, 140, 0, 0, 0, 0, []), (131, .aload_n 0, 1, 0, 0, 0, 0, 0, []),
  (132, .bipush 47, 2, 0, 0, 0, 0, 47, []), (134, .invokevirtual 276, 3, 137, 2, 4, 3229, 6, []), (137, .ifCond .eq 70, 3, 207, 0, 0, 0, 0, []), (140, .aload_n 0, 1, 0, 0, 0, 0, 0, []), (141, .getfield 7, 3, 6, 0, 3, 2229, 0, []), (144, .aload_n 0, 1, 0, 0, 0, 0, 0, []),
  (145, .getfield 248, 3, 6, 2, 1, 2231, 0, []), (148, .iconst 1, 1, 0, 0, 0, 0, 1, []), (149, .isub, 1, 0, 0, 0, 0, 0, []), (150, .iaload, 1, 0, 0, 0, 0, 0, []), (151, .bipush 42, 2, 0, 0, 0, 0, 42, []), (153, .if_icmp .ne 7, 3, 160, 0, 0, 0, 0, []),
  (156, .iconst 3, 1, 0, 0, 0, 0, 3, []), (157, .goto 4, 3, 161, 0, 0, 0, 0, []), (160, .iconst 4, 1, 0, 0, 0, 0, 4, []), (161, .istore_n 1, 1, 1, 0, 0, 0, 0, []), (162, .aload_n 0, 1, 0, 0, 0, 0, 0, []), (163, .iconst 3, 1, 0, 0, 0, 0, 3, []),
  (164, .invokevirtual 628, 3, 234, 2, 4, 3260, 6, []), (167, .ifCond .ne 11, 3, 178, 0, 0, 0, 0, []), (170, .aload_n 0, 1, 0, 0, 0, 0, 0, []), (171, .iconst 4, 1, 0, 0, 0, 0, 4, []), (172, .invokevirtual 628, 3, 234, 2, 4, 3260, 6, []), (175, .ifCond .eq 10, 3, 185, 0, 0, 0, 0, []),
  (178, .aload_n 0, 1, 0, 0, 0, 0, 0, []), (179, .invokevirtual 601, 3, 235, 1, 0, 3241, 6, []), (182, .goto (-20), 3, 162, 0, 0, 0, 0, []), (185, .aload_n 0, 1, 0, 0, 0, 0, 0, []), (186, .getfield 230, 3, 6, 93, 3, 2594, 0, []), (189, .aload_n 0, 1, 0, 0, 0, 0, 0, []),
  (190, .getfield 341, 3, 6, 94, 1, 2595, 0, []), (193, .iload_n 1, 1, 1, 0, 0, 0, 0, []), (194, .iastore, 1, 0, 0, 0, 0, 0, []), (195, .aload_n 0, 1, 0, 0, 0, 0, 0, [])]
noncomputable def am_c244_1 : List (Nat × am_E) := [(196, .dup, 1, 0, 0, 0, 0, 0, []), (197, .getfield 341, 3, 6, 94, 1, 2595, 0, []), (200, .iconst 1, 1, 0, 0, 0, 0, 1, []), (201, .iadd, 1, 0, 0, 0, 0, 0, []), (202, .putfield 341, 3, 6, 94, 1, 2595, 0, []), (205, .iconst 1, 1, 0, 0, 0, 0, 1, []),
  (206, .ireturn, 1, 0, 0, 4, 0, 0, []), (207, .aload_n 0, 1, 0, 0, 0, 0, 0, []), (208, .bipush 43, 2, 0, 0, 0, 0, 43, []), (210, .invokevirtual 276, 3, 137, 2, 4, 3229, 6, []), (213, .ifCond .ne 12, 3, 225, 0, 0, 0, 0, []), (216, .aload_n 0, 1, 0, 0, 0, 0, 0, []),
  (217, .bipush 45, 2, 0, 0, 0, 0, 45, []), (219, .invokevirtual 276, 3, 137, 2, 4, 3229, 6, []), (222, .ifCond .eq 86, 3, 308, 0, 0, 0, 0, []), (225, .aload_n 0, 1, 0, 0, 0, 0, 0, []), (226, .getfield 7, 3, 6, 0, 3, 2229, 0, []), (229, .aload_n 0, 1, 0, 0, 0, 0, 0, []),
  (230, .getfield 248, 3, 6, 2, 1, 2231, 0, []), (233, .iconst 1, 1, 0, 0, 0, 0, 1, []), (234, .isub, 1, 0, 0, 0, 0, 0, []), (235, .iaload, 1, 0, 0, 0, 0, 0, []), (236, .bipush 43, 2, 0, 0, 0, 0, 43, []), (238, .if_icmp .ne 7, 3, 245, 0, 0, 0, 0, []),
  (241, .iconst 1, 1, 0, 0, 0, 0, 1, []), (242, .goto 4, 3, 246, 0, 0, 0, 0, []), (245, .iconst 2, 1, 0, 0, 0, 0, 2, []), (246, .istore_n 1, 1, 1, 0, 0, 0, 0, []), (247, .aload_n 0, 1, 0, 0, 0, 0, 0, []), (248, .iconst 3, 1, 0, 0, 0, 0, 3, []),
  (249, .invokevirtual 628, 3, 234, 2, 4, 3260, 6, []), (252, .ifCond .ne 27, 3, 279, 0, 0, 0, 0, []), (255, .aload_n 0, 1, 0, 0, 0, 0, 0, []), (256, .iconst 4, 1, 0, 0, 0, 0, 4, []), (257, .invokevirtual 628, 3, 234, 2, 4, 3260, 6, []), (260, .ifCond .ne 19, 3, 279, 0, 0, 0, 0, []),
  (263, .aload_n 0, 1, 0, 0, 0, 0, 0, []), (264, .iconst 1, 1, 0, 0, 0, 0, 1, []), (265, .invokevirtual 628, 3, 234, 2, 4, 3260, 6, []), (268, .ifCond .ne 11, 3, 279, 0, 0, 0, 0, []), (271, .aload_n 0, 1, 0, 0, 0, 0, 0, []), (272, .iconst 2, 1, 0, 0, 0, 0, 2, []),
  (273, .invokevirtual 628, 3, 234, 2, 4, 3260, 6, []), (276, .ifCond .eq 10, 3, 286, 0, 0, 0, 0, []), (279, .aload_n 0, 1, 0, 0, 0, 0, 0, []), (280, .invokevirtual 601, 3, 235, 1, 0, 3241, 6, []), (283, .goto (-36), 3, 247, 0, 0, 0, 0, []), (286, .aload_n 0, 1, 0, 0, 0, 0, 0, []),
  (287, .getfield 230, 3, 6, 93, 3, 2594, 0, []), (290, .aload_n 0, 1, 0, 0, 0, 0, 0, []), (291, .getfield 341, 3, 6, 94, 1, 2595, 0, []), (294, .iload_n 1, 1, 1, 0, 0, 0, 0, []), (295, .iastore, 1, 0, 0, 0, 0, 0, []), (296, .aload_n 0, 1, 0, 0, 0, 0, 0, []),
  (297, .dup, 1, 0, 0, 0, 0, 0, []), (298, .getfield 341, 3, 6, 94, 1, 2595, 0, []), (301, .iconst 1, 1, 0, 0, 0, 0, 1, []), (302, .iadd, 1, 0, 0, 0, 0, 0, []), (303, .putfield 341, 3, 6, 94, 1, 2595, 0, []), (306, .iconst 1, 1, 0, 0, 0, 0, 1, []),
  (307, .ireturn, 1, 0, 0, 4, 0, 0, []), (308, .aload_n 0, 1, 0, 0, 0, 0, 0, []), (309, .invokevirtual 622, 3, 237, 1, 1, 3249, 6, []), (312, .bipush 21, 2, 0, 0, 0, 0, 21, []), (314, .if_icmp .eq 12, 3, 326, 0, 0, 0, 0, []), (317, .aload_n 0, 1, 0, 0, 0, 0, 0, []),
  (318, .invokevirtual 622, 3, 237, 1, 1, 3249, 6, []), (321, .bipush 22, 2, 0, 0, 0, 0, 22, []), (323, .if_icmp .ne 39, 3, 362, 0, 0, 0, 0, []), (326, .aload_n 0, 1, 0, 0, 0, 0, 0, []), (327, .bipush 44, 2, 0, 0, 0, 0, 44, []), (329, .invokevirtual 381, 3, 138, 2, 0, 3225, 6, []),
  (332, .aload_n 0, 1, 0, 0, 0, 0, 0, []), (333, .getfield 242, 3, 6, 5, 1, 2234, 0, []), (336, .ifCond .eq 5, 3, 341, 0, 0, 0, 0, []), (339, .iconst 0, 1, 0, 0, 0, 0, 0, []), (340, .ireturn, 1, 0, 0, 4, 0, 0, []), (341, .aload_n 0, 1, 0, 0, 0, 0, 0, []),
  (342, .invokevirtual 625, 3, 238, 1, 0, 3256, 6, []), (345, .aload_n 0, 1, 0, 0, 0, 0, 0, []), (346, .getfield 230, 3, 6, 93, 3, 2594, 0, []), (349, .aload_n 0, 1, 0, 0, 0, 0, 0, []), (350, .getfield 341, 3, 6, 94, 1, 2595, 0, []), (353, .iconst 1, 1, 0, 0, 0, 0, 1, []),
  (354, .isub, 1, 0, 0, 0, 0, 0, []), (355, .dup2, 1, 0, 0, 0, 0, 0, []), (356, .iaload, 1, 0, 0, 0, 0, 0, []), (357, .iconst 2, 1, 0, 0, 0, 0, 2, []), (358, .iadd, 1, 0, 0, 0, 0, 0, []), (359, .iastore, 1, 0, 0, 0, 0, 0, []),
  (360, .iconst 1, 1, 0, 0, 0, 0, 1, []), (361, .ireturn, 1, 0, 0, 4, 0, 0, []), (362, .aload_n 0, 1, 0, 0, 0, 0, 0, []), (363, .invokevirtual 622, 3, 237, 1, 1, 3249, 6, []), (366, .iconst (-1), 1, 0, 0, 0, 0, (-1), []), (367, .if_icmp .eq 19, 3, 386, 0, 0, 0, 0, []),
  (370, .aload_n 0, 1, 0, 0, 0, 0, 0, []), (371, .getfield 242, 3, 6, 5, 1, 2234, 0, []), (374, .ifCond .ne 12, 3, 386, 0, 0, 0, 0, []), (377, .aload_n 0, 1, 0, 0, 0, 0, 0, [])]
noncomputable def am_c244_2 : List (Nat × am_E) := [(378, .iconst 1, 1, 0, 0, 0, 0, 1, []), (379, .aload_n 0, 1, 0, 0, 0, 0, 0, []), (380, .getfield 248, 3, 6, 2, 1, 2231, 0, []), (383, .invokevirtual 272, 3, 130, 3, 0, 3104, 6, []), (386, .iconst 0, 1, 0, 0, 0, 0, 0, []), (387, .ireturn, 1, 0, 0, 4, 0, 0, [])]
noncomputable def am_c244 : List (Nat × am_E) := am_c244_0 ++ (am_c244_1 ++ (am_c244_2))
noncomputable def am_s245 : am_S := (yX6_qSums, cX6_qSums, 3, none, 1, 0, 1, 6, 3206, 3205, 87, 523)
noncomputable def am_c245 : List (Nat × am_E) := [(0, .aload_n 0, 1, 0, 0, 0, 0, 0, []), (1, .getfield 347, 3, 6, 96, 1, 2597, 0, []), (4, .istore_n 1, 1, 1, 0, 0, 0, 0, []), (5, .aload_n 0, 1, 0, 0, 0, 0, 0, []), (6, .aload_n 0, 1, 0, 0, 0, 0, 0, []), (7, .getfield 341, 3, 6, 94, 1, 2595, 0, []),
  (10, .putfield 347, 3, 6, 96, 1, 2597, 0, []), (13, .iconst 1, 1, 0, 0, 0, 0, 1, []), (14, .istore_n 2, 1, 2, 0, 0, 0, 0, []), (15, .iload_n 2, 1, 2, 0, 0, 0, 0, []), (16, .ifCond .eq 37, 3, 53, 0, 0, 0, 0, []), (19, .aload_n 0, 1, 0, 0, 0, 0, 0, []),
  (20, .getfield 242, 3, 6, 5, 1, 2234, 0, []), (23, .ifCond .ne 30, 3, 53, 0, 0, 0, 0, []), (26, .aload_n 0, 1, 0, 0, 0, 0, 0, []), (27, .invokevirtual 631, 3, 243, 1, 0, 3207, 6, []), (30, .aload_n 0, 1, 0, 0, 0, 0, 0, []), (31, .getfield 242, 3, 6, 5, 1, 2234, 0, []),
  (34, .ifCond .ne 14, 3, 48, 0, 0, 0, 0, []), (37, .aload_n 0, 1, 0, 0, 0, 0, 0, []), (38, .invokevirtual 634, 3, 244, 1, 4, 3245, 6, []), (41, .ifCond .eq 7, 3, 48, 0, 0, 0, 0, []), (44, .iconst 1, 1, 0, 0, 0, 0, 1, []), (45, .goto 4, 3, 49, 0, 0, 0, 0, []),
  (48, .iconst 0, 1, 0, 0, 0, 0, 0, []), (49, .istore_n 2, 1, 2, 0, 0, 0, 0, []), (50, .goto (-35), 3, 15, 0, 0, 0, 0, []), (53, .aload_n 0, 1, 0, 0, 0, 0, 0, []), (54, .getfield 242, 3, 6, 5, 1, 2234, 0, []), (57, .ifCond .ne 21, 3, 78, 0, 0, 0, 0, []),
  (60, .aload_n 0, 1, 0, 0, 0, 0, 0, []), (61, .getfield 341, 3, 6, 94, 1, 2595, 0, []), (64, .aload_n 0, 1, 0, 0, 0, 0, 0, []), (65, .getfield 347, 3, 6, 96, 1, 2597, 0, []), (68, .if_icmp .le 10, 3, 78, 0, 0, 0, 0, []), (71, .aload_n 0, 1, 0, 0, 0, 0, 0, []),
  (72, .invokevirtual 601, 3, 235, 1, 0, 3241, 6, []), (75, .goto (-22), 3, 53, 0, 0, 0, 0, []), (78, .aload_n 0, 1, 0, 0, 0, 0, 0, []), (79, .iload_n 1, 1, 1, 0, 0, 0, 0, []), (80, .putfield 347, 3, 6, 96, 1, 2597, 0, []), (83, .return_, 1, 0, 0, 0, 0, 0, [])]
noncomputable def am_s246 : am_S := (yX6_qFact, cX6_qFact, 2, none, 1, 0, 1, 6, 3198, 3197, 85, 523)
noncomputable def am_c246 : List (Nat × am_E) := [(0, .aload_n 0, 1, 0, 0, 0, 0, 0, []), (1, .aload_n 0, 1, 0, 0, 0, 0, 0, []), (2, .getfield 194, 3, 6, 80, 3, 2581, 0, []), (5, .invokevirtual 269, 3, 135, 2, 4, 3108, 6, []), (8, .ifCond .eq 10, 3, 18, 0, 0, 0, 0, []), (11, .aload_n 0, 1, 0, 0, 0, 0, 0, []),
  (12, .bipush 13, 2, 0, 0, 0, 0, 13, []), (14, .invokevirtual 595, 3, 232, 2, 0, 3199, 6, []), (17, .return_, 1, 0, 0, 0, 0, 0, []), (18, .aload_n 0, 1, 0, 0, 0, 0, 0, []), (19, .invokevirtual 353, 3, 245, 1, 0, 3203, 6, []), (22, .aload_n 0, 1, 0, 0, 0, 0, 0, []),
  (23, .getfield 242, 3, 6, 5, 1, 2234, 0, []), (26, .ifCond .eq 4, 3, 30, 0, 0, 0, 0, []), (29, .return_, 1, 0, 0, 0, 0, 0, []), (30, .aload_n 0, 1, 0, 0, 0, 0, 0, []), (31, .invokevirtual 254, 3, 133, 1, 1, 3096, 6, []), (34, .istore_n 1, 1, 1, 0, 0, 0, 0, []),
  (35, .iload_n 1, 1, 1, 0, 0, 0, 0, []), (36, .bipush 60, 2, 0, 0, 0, 0, 60, []), (38, .if_icmp .eq 25, 3, 63, 0, 0, 0, 0, []), (41, .iload_n 1, 1, 1, 0, 0, 0, 0, []), (42, .bipush 62, 2, 0, 0, 0, 0, 62, []), (44, .if_icmp .eq 19, 3, 63, 0, 0, 0, 0, []),
  (47, .iload_n 1, 1, 1, 0, 0, 0, 0, []), (48, .bipush 61, 2, 0, 0, 0, 0, 61, []), (50, .if_icmp .eq 13, 3, 63, 0, 0, 0, 0, []), (53, .aload_n 0, 1, 0, 0, 0, 0, 0, []), (54, .iconst 1, 1, 0, 0, 0, 0, 1, []), (55, .aload_n 0, 1, 0, 0, 0, 0, 0, []),
  (56, .getfield 248, 3, 6, 2, 1, 2231, 0, []), (59, .invokevirtual 272, 3, 130, 3, 0, 3104, 6, []), (62, .return_, 1, 0, 0, 0, 0, 0, []), (63, .aload_n 0, 1, 0, 0, 0, 0, 0, []), (64, .dup, 1, 0, 0, 0, 0, 0, []), (65, .getfield 248, 3, 6, 2, 1, 2231, 0, []),
  (68, .iconst 1, 1, 0, 0, 0, 0, 1, []), (69, .iadd, 1, 0, 0, 0, 0, 0, []), (70, .putfield 248, 3, 6, 2, 1, 2231, 0, []), (73, .aload_n 0, 1, 0, 0, 0, 0, 0, []), (74, .invokevirtual 353, 3, 245, 1, 0, 3203, 6, []), (77, .aload_n 0, 1, 0, 0, 0, 0, 0, []),
  (78, .iload_n 1, 1, 1, 0, 0, 0, 0, []), (79, .bipush 60, 2, 0, 0, 0, 0, 60, []), (81, .if_icmp .ne 8, 3, 89, 0, 0, 0, 0, []), (84, .bipush 7, 2, 0, 0, 0, 0, 7, []), (86, .goto 16, 3, 102, 0, 0, 0, 0, []), (89, .iload_n 1, 1, 1, 0, 0, 0, 0, []),
  (90, .bipush 62, 2, 0, 0, 0, 0, 62, []), (92, .if_icmp .ne 8, 3, 100, 0, 0, 0, 0, []), (95, .bipush 8, 2, 0, 0, 0, 0, 8, []), (97, .goto 5, 3, 102, 0, 0, 0, 0, []), (100, .bipush 9, 2, 0, 0, 0, 0, 9, []), (102, .invokevirtual 595, 3, 232, 2, 0, 3199, 6, []),
  (105, .return_, 1, 0, 0, 0, 0, 0, [])]
noncomputable def am_s247 : am_S := (yX6_qHasSquare, cX6_qHasSquare, 2, (some .boolean), 1, 4, 1, 6, 3275, 3274, 103, 523)
noncomputable def am_c247 : List (Nat × am_E) := [(0, .iconst 0, 1, 0, 0, 0, 0, 0, []), (1, .istore_n 1, 1, 1, 0, 0, 0, 0, []), (2, .iload_n 1, 1, 1, 0, 0, 0, 0, []), (3, .aload_n 0, 1, 0, 0, 0, 0, 0, []), (4, .getfield 341, 3, 6, 94, 1, 2595, 0, []), (7, .if_icmp .ge 22, 3, 29, 0, 0, 0, 0, []),
  (10, .aload_n 0, 1, 0, 0, 0, 0, 0, []), (11, .getfield 230, 3, 6, 93, 3, 2594, 0, []), (14, .iload_n 1, 1, 1, 0, 0, 0, 0, []), (15, .iaload, 1, 0, 0, 0, 0, 0, []), (16, .bipush 25, 2, 0, 0, 0, 0, 25, []), (18, .if_icmp .ne 5, 3, 23, 0, 0, 0, 0, []),
  (21, .iconst 1, 1, 0, 0, 0, 0, 1, []), (22, .ireturn, 1, 0, 0, 4, 0, 0, []), (23, .iinc 1 1, 3, 1, 0, 0, 0, 1, []), (26, .goto (-24), 3, 2, 0, 0, 0, 0, []), (29, .iconst 0, 1, 0, 0, 0, 0, 0, []), (30, .ireturn, 1, 0, 0, 4, 0, 0, [])]
noncomputable def am_s248 : am_S := (yX6_qDropsNots, cX6_qDropsNots, 1, none, 1, 0, 1, 6, 3267, 3266, 101, 523)
noncomputable def am_c248 : List (Nat × am_E) := [(0, .aload_n 0, 1, 0, 0, 0, 0, 0, []), (1, .getfield 242, 3, 6, 5, 1, 2234, 0, []), (4, .ifCond .ne 29, 3, 33, 0, 0, 0, 0, []), (7, .aload_n 0, 1, 0, 0, 0, 0, 0, []), (8, .bipush 12, 2, 0, 0, 0, 0, 12, []), (10, .invokevirtual 628, 3, 234, 2, 4, 3260, 6, []),
  (13, .ifCond .eq 20, 3, 33, 0, 0, 0, 0, []), (16, .aload_n 0, 1, 0, 0, 0, 0, 0, []), (17, .dup, 1, 0, 0, 0, 0, 0, []), (18, .getfield 344, 3, 6, 95, 1, 2596, 0, []), (21, .iconst 1, 1, 0, 0, 0, 0, 1, []), (22, .isub, 1, 0, 0, 0, 0, 0, []),
  (23, .putfield 344, 3, 6, 95, 1, 2596, 0, []), (26, .aload_n 0, 1, 0, 0, 0, 0, 0, []), (27, .invokevirtual 601, 3, 235, 1, 0, 3241, 6, []), (30, .goto (-30), 3, 0, 0, 0, 0, 0, []), (33, .return_, 1, 0, 0, 0, 0, 0, [])]
noncomputable def am_s249 : am_S := (yX6_qTest, cX6_qTest, 3, none, 1, 0, 1, 6, 3190, 3189, 83, 523)
noncomputable def am_c249 : List (Nat × am_E) := [(0, .iconst 1, 1, 0, 0, 0, 0, 1, []), (1, .istore_n 1, 1, 1, 0, 0, 0, 0, []), (2, .iload_n 1, 1, 1, 0, 0, 0, 0, []), (3, .ifCond .eq 107, 3, 110, 0, 0, 0, 0, []), (6, .aload_n 0, 1, 0, 0, 0, 0, 0, []), (7, .getfield 242, 3, 6, 5, 1, 2234, 0, []),
  (10, .ifCond .ne 100, 3, 110, 0, 0, 0, 0, []), (13, .aload_n 0, 1, 0, 0, 0, 0, 0, []), (14, .invokevirtual 254, 3, 133, 1, 1, 3096, 6, []), (17, .istore_n 2, 1, 2, 0, 0, 0, 0, []), (18, .iload_n 2, 1, 2, 0, 0, 0, 0, []), (19, .bipush 91, 2, 0, 0, 0, 0, 91, []),
  (21, .if_icmp .ne 26, 3, 47, 0, 0, 0, 0, []), (24, .aload_n 0, 1, 0, 0, 0, 0, 0, []), (25, .bipush 25, 2, 0, 0, 0, 0, 25, []), (27, .aload_n 0, 1, 0, 0, 0, 0, 0, []), (28, .getfield 248, 3, 6, 2, 1, 2231, 0, []), (31, .invokevirtual 613, 3, 233, 3, 0, 3191, 6, []),
  (34, .aload_n 0, 1, 0, 0, 0, 0, 0, []), (35, .dup, 1, 0, 0, 0, 0, 0, []), (36, .getfield 248, 3, 6, 2, 1, 2231, 0, []), (39, .iconst 1, 1, 0, 0, 0, 0, 1, []), (40, .iadd, 1, 0, 0, 0, 0, 0, []), (41, .putfield 248, 3, 6, 2, 1, 2231, 0, []),
  (44, .goto (-42), 3, 2, 0, 0, 0, 0, []), (47, .aload_n 0, 1, 0, 0, 0, 0, 0, []), (48, .aload_n 0, 1, 0, 0, 0, 0, 0, []), (49, .getfield 185, 3, 6, 77, 3, 2578, 0, []), (52, .invokevirtual 265, 3, 134, 2, 4, 3112, 6, []), (55, .ifCond .eq 24, 3, 79, 0, 0, 0, 0, []),
  (58, .aload_n 0, 1, 0, 0, 0, 0, 0, []), (59, .bipush 12, 2, 0, 0, 0, 0, 12, []), (61, .aload_n 0, 1, 0, 0, 0, 0, 0, []), (62, .getfield 248, 3, 6, 2, 1, 2231, 0, []), (65, .invokevirtual 613, 3, 233, 3, 0, 3191, 6, []), (68, .aload_n 0, 1, 0, 0, 0, 0, 0, []),
  (69, .aload_n 0, 1, 0, 0, 0, 0, 0, []), (70, .getfield 185, 3, 6, 77, 3, 2578, 0, []), (73, .invokevirtual 323, 3, 136, 2, 0, 3153, 6, []), (76, .goto (-74), 3, 2, 0, 0, 0, 0, []), (79, .aload_n 0, 1, 0, 0, 0, 0, 0, []), (80, .invokevirtual 637, 3, 246, 1, 0, 3195, 6, []),
  (83, .aload_n 0, 1, 0, 0, 0, 0, 0, []), (84, .invokevirtual 640, 3, 248, 1, 0, 3264, 6, []), (87, .aload_n 0, 1, 0, 0, 0, 0, 0, []), (88, .getfield 242, 3, 6, 5, 1, 2234, 0, []), (91, .ifCond .ne 14, 3, 105, 0, 0, 0, 0, []), (94, .aload_n 0, 1, 0, 0, 0, 0, 0, []),
  (95, .invokevirtual 643, 3, 250, 1, 4, 3268, 6, []), (98, .ifCond .eq 7, 3, 105, 0, 0, 0, 0, []), (101, .iconst 1, 1, 0, 0, 0, 0, 1, []), (102, .goto 4, 3, 106, 0, 0, 0, 0, []), (105, .iconst 0, 1, 0, 0, 0, 0, 0, []), (106, .istore_n 1, 1, 1, 0, 0, 0, 0, []),
  (107, .goto (-105), 3, 2, 0, 0, 0, 0, []), (110, .aload_n 0, 1, 0, 0, 0, 0, 0, []), (111, .getfield 242, 3, 6, 5, 1, 2234, 0, []), (114, .ifCond .ne 17, 3, 131, 0, 0, 0, 0, []), (117, .aload_n 0, 1, 0, 0, 0, 0, 0, []), (118, .getfield 341, 3, 6, 94, 1, 2595, 0, []),
  (121, .ifCond .le 10, 3, 131, 0, 0, 0, 0, []), (124, .aload_n 0, 1, 0, 0, 0, 0, 0, []), (125, .invokevirtual 601, 3, 235, 1, 0, 3241, 6, []), (128, .goto (-18), 3, 110, 0, 0, 0, 0, []), (131, .return_, 1, 0, 0, 0, 0, 0, [])]
noncomputable def am_s250 : am_S := (yX6_qGoesOnTest, cX6_qGoesOnTest, 1, (some .boolean), 1, 4, 1, 6, 3271, 3270, 102, 523)
noncomputable def am_c250_0 : List (Nat × am_E) := [(0, .aload_n 0, 1, 0, 0, 0, 0, 0, []), (1, .getfield 242, 3, 6, 5, 1, 2234, 0, []), (4, .ifCond .ne 72, 3, 76, 0, 0, 0, 0, []), (7, .aload_n 0, 1, 0, 0, 0, 0, 0, []), (8, .invokevirtual 254, 3, 133, 1, 1, 3096, 6, []), (11, .bipush 93, 2, 0, 0, 0, 0, 93, []),
  (13, .if_icmp .ne 63, 3, 76, 0, 0, 0, 0, []), (16, .aload_n 0, 1, 0, 0, 0, 0, 0, []), (17, .invokevirtual 646, 3, 247, 1, 4, 3272, 6, []), (20, .ifCond .eq 56, 3, 76, 0, 0, 0, 0, []), (23, .aload_n 0, 1, 0, 0, 0, 0, 0, []), (24, .dup, 1, 0, 0, 0, 0, 0, []),
  (25, .getfield 248, 3, 6, 2, 1, 2231, 0, []), (28, .iconst 1, 1, 0, 0, 0, 0, 1, []), (29, .iadd, 1, 0, 0, 0, 0, 0, []), (30, .putfield 248, 3, 6, 2, 1, 2231, 0, []), (33, .aload_n 0, 1, 0, 0, 0, 0, 0, []), (34, .bipush 25, 2, 0, 0, 0, 0, 25, []),
  (36, .invokevirtual 628, 3, 234, 2, 4, 3260, 6, []), (39, .ifCond .ne 10, 3, 49, 0, 0, 0, 0, []), (42, .aload_n 0, 1, 0, 0, 0, 0, 0, []), (43, .invokevirtual 601, 3, 235, 1, 0, 3241, 6, []), (46, .goto (-13), 3, 33, 0, 0, 0, 0, []), (49, .aload_n 0, 1, 0, 0, 0, 0, 0, []),
  (50, .dup, 1, 0, 0, 0, 0, 0, []), (51, .getfield 341, 3, 6, 94, 1, 2595, 0, []), (54, .iconst 1, 1, 0, 0, 0, 0, 1, []), (55, .isub, 1, 0, 0, 0, 0, 0, []), (56, .putfield 341, 3, 6, 94, 1, 2595, 0, []), (59, .aload_n 0, 1, 0, 0, 0, 0, 0, []),
  (60, .dup, 1, 0, 0, 0, 0, 0, []), (61, .getfield 344, 3, 6, 95, 1, 2596, 0, []), (64, .iconst 1, 1, 0, 0, 0, 0, 1, []), (65, .isub, 1, 0, 0, 0, 0, 0, []), (66, .putfield 344, 3, 6, 95, 1, 2596, 0, []), (69, .aload_n 0, 1, 0, 0, 0, 0, 0, []),
  (70, .invokevirtual 640, 3, 248, 1, 0, 3264, 6, []), (73, .goto (-73), 3, 0, 0, 0, 0, 0, []), (76, .aload_n 0, 1, 0, 0, 0, 0, 0, []), (77, .aload_n 0, 1, 0, 0, 0, 0, 0, []), (78, .getfield 188, 3, 6, 78, 3, 2579, 0, []), (81, .invokevirtual 269, 3, 135, 2, 4, 3108, 6, []),
  (84, .ifCond .eq 42, 3, 126, 0, 0, 0, 0, []), (87, .aload_n 0, 1, 0, 0, 0, 0, 0, []), (88, .bipush 10, 2, 0, 0, 0, 0, 10, []), (90, .invokevirtual 628, 3, 234, 2, 4, 3260, 6, []), (93, .ifCond .eq 10, 3, 103, 0, 0, 0, 0, []), (96, .aload_n 0, 1, 0, 0, 0, 0, 0, []),
  (97, .invokevirtual 601, 3, 235, 1, 0, 3241, 6, []), (100, .goto (-13), 3, 87, 0, 0, 0, 0, []), (103, .aload_n 0, 1, 0, 0, 0, 0, 0, []), (104, .getfield 230, 3, 6, 93, 3, 2594, 0, []), (107, .aload_n 0, 1, 0, 0, 0, 0, 0, []), (108, .getfield 341, 3, 6, 94, 1, 2595, 0, []),
  (111, .bipush 10, 2, 0, 0, 0, 0, 10, []), (113, .iastore, 1, 0, 0, 0, 0, 0, []), (114, .aload_n 0, 1, 0, 0, 0, 0, 0, []), (115, .dup, 1, 0, 0, 0, 0, 0, []), (116, .getfield 341, 3, 6, 94, 1, 2595, 0, []), (119, .iconst 1, 1, 0, 0, 0, 0, 1, []),
  (120, .iadd, 1, 0, 0, 0, 0, 0, []), (121, .putfield 341, 3, 6, 94, 1, 2595, 0, []), (124, .iconst 1, 1, 0, 0, 0, 0, 1, []), (125, .ireturn, 1, 0, 0, 4, 0, 0, []), (126, .aload_n 0, 1, 0, 0, 0, 0, 0, []), (127, .aload_n 0, 1, 0, 0, 0, 0, 0, []),
  (128, .getfield 191, 3, 6, 79, 3, 2580, 0, []), (131, .invokevirtual 269, 3, 135, 2, 4, 3108, 6, []), (134, .ifCond .eq 51, 3, 185, 0, 0, 0, 0, []), (137, .aload_n 0, 1, 0, 0, 0, 0, 0, []), (138, .bipush 10, 2, 0, 0, 0, 0, 10, []), (140, .invokevirtual 628, 3, 234, 2, 4, 3260, 6, []),
  (143, .ifCond .ne 12, 3, 155, 0, 0, 0, 0, []), (146, .aload_n 0, 1, 0, 0, 0, 0, 0, []), (147, .bipush 11, 2, 0, 0, 0, 0, 11, []), (149, .invokevirtual 628, 3, 234, 2, 4, 3260, 6, []), (152, .ifCond .eq 10, 3, 162, 0, 0, 0, 0, []), (155, .aload_n 0, 1, 0, 0, 0, 0, 0, []),
  (156, .invokevirtual 601, 3, 235, 1, 0, 3241, 6, []), (159, .goto (-22), 3, 137, 0, 0, 0, 0, []), (162, .aload_n 0, 1, 0, 0, 0, 0, 0, []), (163, .getfield 230, 3, 6, 93, 3, 2594, 0, []), (166, .aload_n 0, 1, 0, 0, 0, 0, 0, []), (167, .getfield 341, 3, 6, 94, 1, 2595, 0, []),
  (170, .bipush 11, 2, 0, 0, 0, 0, 11, []), (172, .iastore, 1, 0, 0, 0, 0, 0, []), (173, .aload_n 0, 1, 0, 0, 0, 0, 0, []), (174, .dup, 1, 0, 0, 0, 0, 0, []), (175, .getfield 341, 3, 6, 94, 1, 2595, 0, []), (178, .iconst 1, 1, 0, 0, 0, 0, 1, []),
  (179, .iadd, 1, 0, 0, 0, 0, 0, []), (180, .putfield 341, 3, 6, 94, 1, 2595, 0, []), (183, .iconst 1, 1, 0, 0, 0, 0, 1, []), (184, .ireturn, 1, 0, 0, 4, 0, 0, []), (185, .aload_n 0, 1, 0, 0, 0, 0, 0, []), (186, .getfield 242, 3, 6, 5, 1, 2234, 0, []),
  (189, .ifCond .ne 19, 3, 208, 0, 0, 0, 0, []), (192, .aload_n 0, 1, 0, 0, 0, 0, 0, []), (193, .invokevirtual 646, 3, 247, 1, 4, 3272, 6, []), (196, .ifCond .eq 12, 3, 208, 0, 0, 0, 0, [])]
noncomputable def am_c250_1 : List (Nat × am_E) := [(199, .aload_n 0, 1, 0, 0, 0, 0, 0, []), (200, .iconst 1, 1, 0, 0, 0, 0, 1, []), (201, .aload_n 0, 1, 0, 0, 0, 0, 0, []), (202, .getfield 248, 3, 6, 2, 1, 2231, 0, []), (205, .invokevirtual 272, 3, 130, 3, 0, 3104, 6, []), (208, .iconst 0, 1, 0, 0, 0, 0, 0, []),
  (209, .ireturn, 1, 0, 0, 4, 0, 0, [])]
noncomputable def am_c250 : List (Nat × am_E) := am_c250_0 ++ (am_c250_1)
noncomputable def am_s251 : am_S := (yX6_qClip, cX6_qClip, 2, (some .long), 0, 2, 1, 6, 3694, 3693, 0, 523)
noncomputable def am_c251 : List (Nat × am_E) := [(0, .lload_n 0, 1, 0, 0, 0, 0, 0, []), (1, .ldc2_w 554, 3, 0, 0, 0, 3695, 1000000, []), (4, .lcmp, 1, 0, 0, 0, 0, 0, []), (5, .ifCond .le 9, 3, 14, 0, 0, 0, 0, []), (8, .ldc2_w 554, 3, 0, 0, 0, 3695, 1000000, []), (11, .goto 18, 3, 29, 0, 0, 0, 0, []),
  (14, .lload_n 0, 1, 0, 0, 0, 0, 0, []), (15, .ldc2_w 649, 3, 0, 0, 0, 3696, (-1000000), []), (18, .lcmp, 1, 0, 0, 0, 0, 0, []), (19, .ifCond .ge 9, 3, 28, 0, 0, 0, 0, []), (22, .ldc2_w 649, 3, 0, 0, 0, 3696, (-1000000), []), (25, .goto 4, 3, 29, 0, 0, 0, 0, []),
  (28, .lload_n 0, 1, 0, 0, 0, 0, 0, []), (29, .lreturn, 1, 0, 0, 2, 0, 0, [])]
noncomputable def am_s252 : am_S := (yX6_qFloor, cX6_qFloor, 6, (some .long), 0, 2, 2, 6, 3699, 3698, 0, 523)
noncomputable def am_c252 : List (Nat × am_E) := [(0, .lload_n 2, 1, 2, 0, 0, 0, 0, []), (1, .lconst 0, 1, 0, 0, 0, 0, 0, []), (2, .lcmp, 1, 0, 0, 0, 0, 0, []), (3, .ifCond .ne 5, 3, 8, 0, 0, 0, 0, []), (6, .lconst 0, 1, 0, 0, 0, 0, 0, []), (7, .lreturn, 1, 0, 0, 2, 0, 0, []),
  (8, .lload_n 0, 1, 0, 0, 0, 0, 0, []), (9, .lload_n 2, 1, 2, 0, 0, 0, 0, []), (10, .ldiv, 1, 0, 0, 0, 0, 0, []), (11, .lstore 4, 2, 4, 0, 0, 0, 0, []), (13, .lload_n 0, 1, 0, 0, 0, 0, 0, []), (14, .lload_n 2, 1, 2, 0, 0, 0, 0, []),
  (15, .lrem, 1, 0, 0, 0, 0, 0, []), (16, .lconst 0, 1, 0, 0, 0, 0, 0, []), (17, .lcmp, 1, 0, 0, 0, 0, 0, []), (18, .ifCond .eq 35, 3, 53, 0, 0, 0, 0, []), (21, .lload_n 0, 1, 0, 0, 0, 0, 0, []), (22, .lconst 0, 1, 0, 0, 0, 0, 0, []),
  (23, .lcmp, 1, 0, 0, 0, 0, 0, []), (24, .ifCond .ge 7, 3, 31, 0, 0, 0, 0, []), (27, .iconst 1, 1, 0, 0, 0, 0, 1, []), (28, .goto 4, 3, 32, 0, 0, 0, 0, []), (31, .iconst 0, 1, 0, 0, 0, 0, 0, []), (32, .lload_n 2, 1, 2, 0, 0, 0, 0, []),
  (33, .lconst 0, 1, 0, 0, 0, 0, 0, []), (34, .lcmp, 1, 0, 0, 0, 0, 0, []), (35, .ifCond .ge 7, 3, 42, 0, 0, 0, 0, []), (38, .iconst 1, 1, 0, 0, 0, 0, 1, []), (39, .goto 4, 3, 43, 0, 0, 0, 0, []), (42, .iconst 0, 1, 0, 0, 0, 0, 0, []),
  (43, .if_icmp .eq 10, 3, 53, 0, 0, 0, 0, []), (46, .lload 4, 2, 4, 0, 0, 0, 0, []), (48, .lconst 1, 1, 0, 0, 0, 0, 1, []), (49, .lsub, 1, 0, 0, 0, 0, 0, []), (50, .goto 5, 3, 55, 0, 0, 0, 0, []), (53, .lload 4, 2, 4, 0, 0, 0, 0, []),
  (55, .lreturn, 1, 0, 0, 2, 0, 0, [])]
noncomputable def am_s253 : am_S := (yX6_qPuts, cX6_qPuts, 3, none, 1, 0, 2, 6, 3675, 3674, 126, 523)
noncomputable def am_c253 : List (Nat × am_E) := [(0, .aload_n 0, 1, 0, 0, 0, 0, 0, []), (1, .getfield 233, 3, 6, 97, 3, 2598, 0, []), (4, .aload_n 0, 1, 0, 0, 0, 0, 0, []), (5, .getfield 428, 3, 6, 98, 1, 2599, 0, []), (8, .lload_n 1, 1, 1, 0, 0, 0, 0, []), (9, .lastore, 1, 0, 0, 0, 0, 0, []),
  (10, .aload_n 0, 1, 0, 0, 0, 0, 0, []), (11, .dup, 1, 0, 0, 0, 0, 0, []), (12, .getfield 428, 3, 6, 98, 1, 2599, 0, []), (15, .iconst 1, 1, 0, 0, 0, 0, 1, []), (16, .iadd, 1, 0, 0, 0, 0, 0, []), (17, .putfield 428, 3, 6, 98, 1, 2599, 0, []),
  (20, .return_, 1, 0, 0, 0, 0, 0, [])]
noncomputable def am_s254 : am_S := (yX6_qJoins, cX6_qJoins, 6, none, 1, 0, 2, 6, 3691, 3690, 130, 523)
noncomputable def am_c254_0 : List (Nat × am_E) := [(0, .aload_n 0, 1, 0, 0, 0, 0, 0, []), (1, .getfield 233, 3, 6, 97, 3, 2598, 0, []), (4, .aload_n 0, 1, 0, 0, 0, 0, 0, []), (5, .getfield 428, 3, 6, 98, 1, 2599, 0, []), (8, .iconst 1, 1, 0, 0, 0, 0, 1, []), (9, .isub, 1, 0, 0, 0, 0, 0, []),
  (10, .laload, 1, 0, 0, 0, 0, 0, []), (11, .lstore_n 2, 1, 2, 0, 0, 0, 0, []), (12, .aload_n 0, 1, 0, 0, 0, 0, 0, []), (13, .getfield 233, 3, 6, 97, 3, 2598, 0, []), (16, .aload_n 0, 1, 0, 0, 0, 0, 0, []), (17, .getfield 428, 3, 6, 98, 1, 2599, 0, []),
  (20, .iconst 2, 1, 0, 0, 0, 0, 2, []), (21, .isub, 1, 0, 0, 0, 0, 0, []), (22, .laload, 1, 0, 0, 0, 0, 0, []), (23, .lstore 4, 2, 4, 0, 0, 0, 0, []), (25, .aload_n 0, 1, 0, 0, 0, 0, 0, []), (26, .dup, 1, 0, 0, 0, 0, 0, []),
  (27, .getfield 428, 3, 6, 98, 1, 2599, 0, []), (30, .iconst 2, 1, 0, 0, 0, 0, 2, []), (31, .isub, 1, 0, 0, 0, 0, 0, []), (32, .putfield 428, 3, 6, 98, 1, 2599, 0, []), (35, .iload_n 1, 1, 1, 0, 0, 0, 0, []), (36, .tableswitch 219 1 10 #[56, 70, 84, 98, 111, 131, 151, 170, 189, 208], 56, 255, 0, 0, 0, 0, [(1, 92), (2, 106), (3, 120), (4, 134), (5, 147), (6, 167), (7, 187), (8, 206), (9, 225), (10, 244)]),
  (92, .aload_n 0, 1, 0, 0, 0, 0, 0, []), (93, .lload 4, 2, 4, 0, 0, 0, 0, []), (95, .lload_n 2, 1, 2, 0, 0, 0, 0, []), (96, .ladd, 1, 0, 0, 0, 0, 0, []), (97, .invokestatic 651, 3, 251, 1, 2, 3692, 0, []), (100, .invokevirtual 431, 3, 253, 2, 0, 3672, 6, []),
  (103, .goto 170, 3, 273, 0, 0, 0, 0, []), (106, .aload_n 0, 1, 0, 0, 0, 0, 0, []), (107, .lload 4, 2, 4, 0, 0, 0, 0, []), (109, .lload_n 2, 1, 2, 0, 0, 0, 0, []), (110, .lsub, 1, 0, 0, 0, 0, 0, []), (111, .invokestatic 651, 3, 251, 1, 2, 3692, 0, []),
  (114, .invokevirtual 431, 3, 253, 2, 0, 3672, 6, []), (117, .goto 156, 3, 273, 0, 0, 0, 0, []), (120, .aload_n 0, 1, 0, 0, 0, 0, 0, []), (121, .lload 4, 2, 4, 0, 0, 0, 0, []), (123, .lload_n 2, 1, 2, 0, 0, 0, 0, []), (124, .lmul, 1, 0, 0, 0, 0, 0, []),
  (125, .invokestatic 651, 3, 251, 1, 2, 3692, 0, []), (128, .invokevirtual 431, 3, 253, 2, 0, 3672, 6, []), (131, .goto 142, 3, 273, 0, 0, 0, 0, []), (134, .aload_n 0, 1, 0, 0, 0, 0, 0, []), (135, .lload 4, 2, 4, 0, 0, 0, 0, []), (137, .lload_n 2, 1, 2, 0, 0, 0, 0, []),
  (138, .invokestatic 655, 3, 252, 2, 2, 3697, 0, []), (141, .invokevirtual 431, 3, 253, 2, 0, 3672, 6, []), (144, .goto 129, 3, 273, 0, 0, 0, 0, []), (147, .aload_n 0, 1, 0, 0, 0, 0, 0, []), (148, .lload 4, 2, 4, 0, 0, 0, 0, []), (150, .lload_n 2, 1, 2, 0, 0, 0, 0, []),
  (151, .lcmp, 1, 0, 0, 0, 0, 0, []), (152, .ifCond .ge 8, 3, 160, 0, 0, 0, 0, []), (155, .lload 4, 2, 4, 0, 0, 0, 0, []), (157, .goto 4, 3, 161, 0, 0, 0, 0, []), (160, .lload_n 2, 1, 2, 0, 0, 0, 0, []), (161, .invokevirtual 431, 3, 253, 2, 0, 3672, 6, []),
  (164, .goto 109, 3, 273, 0, 0, 0, 0, []), (167, .aload_n 0, 1, 0, 0, 0, 0, 0, []), (168, .lload 4, 2, 4, 0, 0, 0, 0, []), (170, .lload_n 2, 1, 2, 0, 0, 0, 0, []), (171, .lcmp, 1, 0, 0, 0, 0, 0, []), (172, .ifCond .le 8, 3, 180, 0, 0, 0, 0, []),
  (175, .lload 4, 2, 4, 0, 0, 0, 0, []), (177, .goto 4, 3, 181, 0, 0, 0, 0, []), (180, .lload_n 2, 1, 2, 0, 0, 0, 0, []), (181, .invokevirtual 431, 3, 253, 2, 0, 3672, 6, []), (184, .goto 89, 3, 273, 0, 0, 0, 0, []), (187, .aload_n 0, 1, 0, 0, 0, 0, 0, []),
  (188, .lload 4, 2, 4, 0, 0, 0, 0, []), (190, .lload_n 2, 1, 2, 0, 0, 0, 0, []), (191, .lcmp, 1, 0, 0, 0, 0, 0, []), (192, .ifCond .ge 7, 3, 199, 0, 0, 0, 0, []), (195, .lconst 1, 1, 0, 0, 0, 0, 1, []), (196, .goto 4, 3, 200, 0, 0, 0, 0, []),
  (199, .lconst 0, 1, 0, 0, 0, 0, 0, []), (200, .invokevirtual 431, 3, 253, 2, 0, 3672, 6, []), (203, .goto 70, 3, 273, 0, 0, 0, 0, []), (206, .aload_n 0, 1, 0, 0, 0, 0, 0, []), (207, .lload 4, 2, 4, 0, 0, 0, 0, []), (209, .lload_n 2, 1, 2, 0, 0, 0, 0, []),
  (210, .lcmp, 1, 0, 0, 0, 0, 0, []), (211, .ifCond .le 7, 3, 218, 0, 0, 0, 0, []), (214, .lconst 1, 1, 0, 0, 0, 0, 1, []), (215, .goto 4, 3, 219, 0, 0, 0, 0, []), (218, .lconst 0, 1, 0, 0, 0, 0, 0, []), (219, .invokevirtual 431, 3, 253, 2, 0, 3672, 6, []),
  (222, .goto 51, 3, 273, 0, 0, 0, 0, []), (225, .aload_n 0, 1, 0, 0, 0, 0, 0, []), (226, .lload 4, 2, 4, 0, 0, 0, 0, []), (228, .lload_n 2, 1, 2, 0, 0, 0, 0, []), (229, .lcmp, 1, 0, 0, 0, 0, 0, []), (230, .ifCond .ne 7, 3, 237, 0, 0, 0, 0, []),
  (233, .lconst 1, 1, 0, 0, 0, 0, 1, []), (234, .goto 4, 3, 238, 0, 0, 0, 0, []), (237, .lconst 0, 1, 0, 0, 0, 0, 0, []), (238, .invokevirtual 431, 3, 253, 2, 0, 3672, 6, [])]
noncomputable def am_c254_1 : List (Nat × am_E) := [(241, .goto 32, 3, 273, 0, 0, 0, 0, []), (244, .aload_n 0, 1, 0, 0, 0, 0, 0, []), (245, .lload 4, 2, 4, 0, 0, 0, 0, []), (247, .lload_n 2, 1, 2, 0, 0, 0, 0, []), (248, .lmul, 1, 0, 0, 0, 0, 0, []), (249, .invokevirtual 431, 3, 253, 2, 0, 3672, 6, []),
  (252, .goto 21, 3, 273, 0, 0, 0, 0, []), (255, .aload_n 0, 1, 0, 0, 0, 0, 0, []), (256, .lload 4, 2, 4, 0, 0, 0, 0, []), (258, .lload_n 2, 1, 2, 0, 0, 0, 0, []), (259, .ladd, 1, 0, 0, 0, 0, 0, []), (260, .lconst 0, 1, 0, 0, 0, 0, 0, []),
  (261, .lcmp, 1, 0, 0, 0, 0, 0, []), (262, .ifCond .le 7, 3, 269, 0, 0, 0, 0, []), (265, .lconst 1, 1, 0, 0, 0, 0, 1, []), (266, .goto 4, 3, 270, 0, 0, 0, 0, []), (269, .lconst 0, 1, 0, 0, 0, 0, 0, []), (270, .invokevirtual 431, 3, 253, 2, 0, 3672, 6, []),
  (273, .return_, 1, 0, 0, 0, 0, 0, [])]
noncomputable def am_c254 : List (Nat × am_E) := am_c254_0 ++ (am_c254_1)
noncomputable def am_s255 : am_S := (yX6_qPartOf, cX6_qPartOf, 3, (some .long), 1, 2, 3, 6, 3679, 3678, 127, 523)
noncomputable def am_c255 : List (Nat × am_E) := [(0, .iload_n 1, 1, 1, 0, 0, 0, 0, []), (1, .tableswitch 95 0 6 #[43, 51, 57, 63, 70, 81, 92], 43, 96, 0, 0, 0, 0, [(0, 44), (1, 52), (2, 58), (3, 64), (4, 71), (5, 82), (6, 93)]), (44, .aload_n 0, 1, 0, 0, 0, 0, 0, []), (45, .getfield 139, 3, 6, 54, 3, 2283, 0, []), (48, .iconst 1, 1, 0, 0, 0, 0, 1, []), (49, .iaload, 1, 0, 0, 0, 0, 0, []),
  (50, .i2l, 1, 0, 0, 0, 0, 0, []), (51, .lreturn, 1, 0, 0, 2, 0, 0, []), (52, .aload_n 0, 1, 0, 0, 0, 0, 0, []), (53, .getfield 464, 3, 6, 58, 1, 2287, 0, []), (56, .i2l, 1, 0, 0, 0, 0, 0, []), (57, .lreturn, 1, 0, 0, 2, 0, 0, []),
  (58, .aload_n 0, 1, 0, 0, 0, 0, 0, []), (59, .getfield 467, 3, 6, 59, 1, 2560, 0, []), (62, .i2l, 1, 0, 0, 0, 0, 0, []), (63, .lreturn, 1, 0, 0, 2, 0, 0, []), (64, .aload_n 0, 1, 0, 0, 0, 0, 0, []), (65, .iload_n 2, 1, 2, 0, 0, 0, 0, []),
  (66, .invokevirtual 445, 3, 164, 2, 1, 3616, 6, []), (69, .i2l, 1, 0, 0, 0, 0, 0, []), (70, .lreturn, 1, 0, 0, 2, 0, 0, []), (71, .aload_n 0, 1, 0, 0, 0, 0, 0, []), (72, .aload_n 0, 1, 0, 0, 0, 0, 0, []), (73, .getfield 448, 3, 6, 57, 1, 2286, 0, []),
  (76, .iload_n 2, 1, 2, 0, 0, 0, 0, []), (77, .invokevirtual 442, 3, 173, 3, 1, 3644, 6, []), (80, .i2l, 1, 0, 0, 0, 0, 0, []), (81, .lreturn, 1, 0, 0, 2, 0, 0, []), (82, .aload_n 0, 1, 0, 0, 0, 0, 0, []), (83, .aload_n 0, 1, 0, 0, 0, 0, 0, []),
  (84, .getfield 448, 3, 6, 57, 1, 2286, 0, []), (87, .iload_n 2, 1, 2, 0, 0, 0, 0, []), (88, .invokevirtual 461, 3, 174, 3, 1, 3680, 6, []), (91, .i2l, 1, 0, 0, 0, 0, 0, []), (92, .lreturn, 1, 0, 0, 2, 0, 0, []), (93, .iload_n 2, 1, 2, 0, 0, 0, 0, []),
  (94, .i2l, 1, 0, 0, 0, 0, 0, []), (95, .lreturn, 1, 0, 0, 2, 0, 0, []), (96, .aload_n 0, 1, 0, 0, 0, 0, 0, []), (97, .aload_n 0, 1, 0, 0, 0, 0, 0, []), (98, .getfield 659, 3, 6, 56, 1, 2285, 0, []), (101, .iload_n 2, 1, 2, 0, 0, 0, 0, []),
  (102, .invokevirtual 478, 3, 175, 3, 1, 3684, 6, []), (105, .i2l, 1, 0, 0, 0, 0, 0, []), (106, .lreturn, 1, 0, 0, 2, 0, 0, [])]
noncomputable def am_s256 : am_S := (yX6_qOf, cX6_qOf, 5, (some .long), 1, 2, 4, 6, 4166, 4165, 156, 523)
noncomputable def am_c256 : List (Nat × am_E) := [(0, .iload_n 1, 1, 1, 0, 0, 0, 0, []), (1, .lookupswitch 11 #[], 11, 12, 0, 0, 0, 0, []), (12, .lload_n 2, 1, 2, 0, 0, 0, 0, []), (13, .lconst 0, 1, 0, 0, 0, 0, 0, []), (14, .aload_n 0, 1, 0, 0, 0, 0, 0, []), (15, .invokevirtual 402, 3, 158, 1, 1, 3608, 6, []),
  (18, .iconst 1, 1, 0, 0, 0, 0, 1, []), (19, .isub, 1, 0, 0, 0, 0, 0, []), (20, .i2l, 1, 0, 0, 0, 0, 0, []), (21, .invokestatic 282, 3, 127, 3, 4, 3164, 0, []), (24, .ifCond .eq 15, 3, 39, 0, 0, 0, 0, []), (27, .aload_n 0, 1, 0, 0, 0, 0, 0, []),
  (28, .iload 4, 2, 4, 0, 0, 0, 0, []), (30, .lload_n 2, 1, 2, 0, 0, 0, 0, []), (31, .l2i, 1, 0, 0, 0, 0, 0, []), (32, .invokevirtual 417, 3, 165, 3, 1, 3612, 6, []), (35, .i2l, 1, 0, 0, 0, 0, 0, []), (36, .goto 4, 3, 40, 0, 0, 0, 0, []),
  (39, .lconst 0, 1, 0, 0, 0, 0, 0, []), (40, .lreturn, 1, 0, 0, 2, 0, 0, [])]
noncomputable def am_s257 : am_S := (yX6_qTold, cX6_qTold, 4, (some .long), 1, 2, 2, 6, 4162, 4161, 155, 523)
noncomputable def am_c257 : List (Nat × am_E) := [(0, .aload_n 0, 1, 0, 0, 0, 0, 0, []), (1, .iconst 0, 1, 0, 0, 0, 0, 0, []), (2, .putfield 428, 3, 6, 98, 1, 2599, 0, []), (5, .iconst 0, 1, 0, 0, 0, 0, 0, []), (6, .istore_n 2, 1, 2, 0, 0, 0, 0, []), (7, .iload_n 2, 1, 2, 0, 0, 0, 0, []),
  (8, .aload_n 0, 1, 0, 0, 0, 0, 0, []), (9, .getfield 338, 3, 6, 92, 1, 2593, 0, []), (12, .if_icmp .ge 156, 3, 168, 0, 0, 0, 0, []), (15, .aload_n 0, 1, 0, 0, 0, 0, 0, []), (16, .getfield 227, 3, 6, 91, 3, 2592, 0, []), (19, .iload_n 2, 1, 2, 0, 0, 0, 0, []),
  (20, .iaload, 1, 0, 0, 0, 0, 0, []), (21, .istore_n 3, 1, 3, 0, 0, 0, 0, []), (22, .iload_n 3, 1, 3, 0, 0, 0, 0, []), (23, .sipush 1000, 3, 0, 0, 0, 0, 1000, []), (26, .if_icmp .lt 16, 3, 42, 0, 0, 0, 0, []), (29, .aload_n 0, 1, 0, 0, 0, 0, 0, []),
  (30, .iload_n 3, 1, 3, 0, 0, 0, 0, []), (31, .sipush 1000, 3, 0, 0, 0, 0, 1000, []), (34, .isub, 1, 0, 0, 0, 0, 0, []), (35, .i2l, 1, 0, 0, 0, 0, 0, []), (36, .invokevirtual 431, 3, 253, 2, 0, 3672, 6, []), (39, .goto 123, 3, 162, 0, 0, 0, 0, []),
  (42, .iload_n 3, 1, 3, 0, 0, 0, 0, []), (43, .bipush 60, 2, 0, 0, 0, 0, 60, []), (45, .if_icmp .lt 40, 3, 85, 0, 0, 0, 0, []), (48, .aload_n 0, 1, 0, 0, 0, 0, 0, []), (49, .getfield 233, 3, 6, 97, 3, 2598, 0, []), (52, .aload_n 0, 1, 0, 0, 0, 0, 0, []),
  (53, .getfield 428, 3, 6, 98, 1, 2599, 0, []), (56, .iconst 1, 1, 0, 0, 0, 0, 1, []), (57, .isub, 1, 0, 0, 0, 0, 0, []), (58, .aload_n 0, 1, 0, 0, 0, 0, 0, []), (59, .iload_n 3, 1, 3, 0, 0, 0, 0, []), (60, .bipush 60, 2, 0, 0, 0, 0, 60, []),
  (62, .isub, 1, 0, 0, 0, 0, 0, []), (63, .aload_n 0, 1, 0, 0, 0, 0, 0, []), (64, .getfield 233, 3, 6, 97, 3, 2598, 0, []), (67, .aload_n 0, 1, 0, 0, 0, 0, 0, []), (68, .getfield 428, 3, 6, 98, 1, 2599, 0, []), (71, .iconst 1, 1, 0, 0, 0, 0, 1, []),
  (72, .isub, 1, 0, 0, 0, 0, 0, []), (73, .laload, 1, 0, 0, 0, 0, 0, []), (74, .iload_n 1, 1, 1, 0, 0, 0, 0, []), (75, .invokevirtual 662, 3, 256, 4, 2, 4163, 6, []), (78, .invokestatic 651, 3, 251, 1, 2, 3692, 0, []), (81, .lastore, 1, 0, 0, 0, 0, 0, []),
  (82, .goto 80, 3, 162, 0, 0, 0, 0, []), (85, .iload_n 3, 1, 3, 0, 0, 0, 0, []), (86, .bipush 40, 2, 0, 0, 0, 0, 40, []), (88, .if_icmp .lt 22, 3, 110, 0, 0, 0, 0, []), (91, .aload_n 0, 1, 0, 0, 0, 0, 0, []), (92, .aload_n 0, 1, 0, 0, 0, 0, 0, []),
  (93, .iload_n 3, 1, 3, 0, 0, 0, 0, []), (94, .bipush 40, 2, 0, 0, 0, 0, 40, []), (96, .isub, 1, 0, 0, 0, 0, 0, []), (97, .iload_n 1, 1, 1, 0, 0, 0, 0, []), (98, .invokevirtual 435, 3, 255, 3, 2, 3676, 6, []), (101, .invokestatic 651, 3, 251, 1, 2, 3692, 0, []),
  (104, .invokevirtual 431, 3, 253, 2, 0, 3672, 6, []), (107, .goto 55, 3, 162, 0, 0, 0, 0, []), (110, .iload_n 3, 1, 3, 0, 0, 0, 0, []), (111, .bipush 13, 2, 0, 0, 0, 0, 13, []), (113, .if_icmp .ne 11, 3, 124, 0, 0, 0, 0, []), (116, .aload_n 0, 1, 0, 0, 0, 0, 0, []),
  (117, .lconst 1, 1, 0, 0, 0, 0, 1, []), (118, .invokevirtual 431, 3, 253, 2, 0, 3672, 6, []), (121, .goto 41, 3, 162, 0, 0, 0, 0, []), (124, .iload_n 3, 1, 3, 0, 0, 0, 0, []), (125, .bipush 12, 2, 0, 0, 0, 0, 12, []), (127, .if_icmp .ne 30, 3, 157, 0, 0, 0, 0, []),
  (130, .aload_n 0, 1, 0, 0, 0, 0, 0, []), (131, .getfield 233, 3, 6, 97, 3, 2598, 0, []), (134, .aload_n 0, 1, 0, 0, 0, 0, 0, []), (135, .getfield 428, 3, 6, 98, 1, 2599, 0, []), (138, .iconst 1, 1, 0, 0, 0, 0, 1, []), (139, .isub, 1, 0, 0, 0, 0, 0, []),
  (140, .lconst 1, 1, 0, 0, 0, 0, 1, []), (141, .aload_n 0, 1, 0, 0, 0, 0, 0, []), (142, .getfield 233, 3, 6, 97, 3, 2598, 0, []), (145, .aload_n 0, 1, 0, 0, 0, 0, 0, []), (146, .getfield 428, 3, 6, 98, 1, 2599, 0, []), (149, .iconst 1, 1, 0, 0, 0, 0, 1, []),
  (150, .isub, 1, 0, 0, 0, 0, 0, []), (151, .laload, 1, 0, 0, 0, 0, 0, []), (152, .lsub, 1, 0, 0, 0, 0, 0, []), (153, .lastore, 1, 0, 0, 0, 0, 0, []), (154, .goto 8, 3, 162, 0, 0, 0, 0, []), (157, .aload_n 0, 1, 0, 0, 0, 0, 0, []),
  (158, .iload_n 3, 1, 3, 0, 0, 0, 0, []), (159, .invokevirtual 439, 3, 254, 2, 0, 3688, 6, []), (162, .iinc 2 1, 3, 2, 0, 0, 0, 1, []), (165, .goto (-158), 3, 7, 0, 0, 0, 0, []), (168, .aload_n 0, 1, 0, 0, 0, 0, 0, []), (169, .getfield 233, 3, 6, 97, 3, 2598, 0, []),
  (172, .iconst 0, 1, 0, 0, 0, 0, 0, []), (173, .laload, 1, 0, 0, 0, 0, 0, []), (174, .lreturn, 1, 0, 0, 2, 0, 0, [])]
noncomputable def am_s258 : am_S := (yX6_qKind, cX6_qKind, 2, (some .int), 1, 1, 1, 6, 4157, 4156, 154, 523)
noncomputable def am_c258 : List (Nat × am_E) := [(0, .aload_n 0, 1, 0, 0, 0, 0, 0, []), (1, .aload_n 0, 1, 0, 0, 0, 0, 0, []), (2, .getfield 167, 3, 6, 71, 3, 2572, 0, []), (5, .invokevirtual 269, 3, 135, 2, 4, 3108, 6, []), (8, .ifCond .eq 7, 3, 15, 0, 0, 0, 0, []), (11, .iconst 0, 1, 0, 0, 0, 0, 0, []),
  (12, .goto 64, 3, 76, 0, 0, 0, 0, []), (15, .aload_n 0, 1, 0, 0, 0, 0, 0, []), (16, .aload_n 0, 1, 0, 0, 0, 0, 0, []), (17, .getfield 170, 3, 6, 72, 3, 2573, 0, []), (20, .invokevirtual 269, 3, 135, 2, 4, 3108, 6, []), (23, .ifCond .eq 7, 3, 30, 0, 0, 0, 0, []),
  (26, .iconst 1, 1, 0, 0, 0, 0, 1, []), (27, .goto 49, 3, 76, 0, 0, 0, 0, []), (30, .aload_n 0, 1, 0, 0, 0, 0, 0, []), (31, .aload_n 0, 1, 0, 0, 0, 0, 0, []), (32, .getfield 173, 3, 6, 73, 3, 2574, 0, []), (35, .invokevirtual 269, 3, 135, 2, 4, 3108, 6, []),
  (38, .ifCond .eq 7, 3, 45, 0, 0, 0, 0, []), (41, .iconst 2, 1, 0, 0, 0, 0, 2, []), (42, .goto 34, 3, 76, 0, 0, 0, 0, []), (45, .aload_n 0, 1, 0, 0, 0, 0, 0, []), (46, .aload_n 0, 1, 0, 0, 0, 0, 0, []), (47, .getfield 176, 3, 6, 74, 3, 2575, 0, []),
  (50, .invokevirtual 269, 3, 135, 2, 4, 3108, 6, []), (53, .ifCond .eq 7, 3, 60, 0, 0, 0, 0, []), (56, .iconst 3, 1, 0, 0, 0, 0, 3, []), (57, .goto 19, 3, 76, 0, 0, 0, 0, []), (60, .aload_n 0, 1, 0, 0, 0, 0, 0, []), (61, .aload_n 0, 1, 0, 0, 0, 0, 0, []),
  (62, .getfield 179, 3, 6, 75, 3, 2576, 0, []), (65, .invokevirtual 269, 3, 135, 2, 4, 3108, 6, []), (68, .ifCond .eq 7, 3, 75, 0, 0, 0, 0, []), (71, .iconst 4, 1, 0, 0, 0, 0, 4, []), (72, .goto 4, 3, 76, 0, 0, 0, 0, []), (75, .iconst 5, 1, 0, 0, 0, 0, 5, []),
  (76, .istore_n 1, 1, 1, 0, 0, 0, 0, []), (77, .iload_n 1, 1, 1, 0, 0, 0, 0, []), (78, .iconst 5, 1, 0, 0, 0, 0, 5, []), (79, .if_icmp .ne 11, 3, 90, 0, 0, 0, 0, []), (82, .aload_n 0, 1, 0, 0, 0, 0, 0, []), (83, .aload_n 0, 1, 0, 0, 0, 0, 0, []),
  (84, .getfield 182, 3, 6, 76, 3, 2577, 0, []), (87, .invokevirtual 323, 3, 136, 2, 0, 3153, 6, []), (90, .iload_n 1, 1, 1, 0, 0, 0, 0, []), (91, .ireturn, 1, 0, 0, 1, 0, 0, [])]
noncomputable def am_s259 : am_S := (yX6_qTakes, cX6_qTakes, 6, none, 1, 0, 4, 6, 4170, 4169, 157, 523)
noncomputable def am_c259 : List (Nat × am_E) := [(0, .iload_n 1, 1, 1, 0, 0, 0, 0, []), (1, .iconst 3, 1, 0, 0, 0, 0, 3, []), (2, .if_icmp .ge 13, 3, 15, 0, 0, 0, 0, []), (5, .lload_n 2, 1, 2, 0, 0, 0, 0, []), (6, .lconst 1, 1, 0, 0, 0, 0, 1, []), (7, .lcmp, 1, 0, 0, 0, 0, 0, []),
  (8, .ifCond .ne 7, 3, 15, 0, 0, 0, 0, []), (11, .iconst 1, 1, 0, 0, 0, 0, 1, []), (12, .goto 4, 3, 16, 0, 0, 0, 0, []), (15, .iconst 0, 1, 0, 0, 0, 0, 0, []), (16, .istore 5, 2, 5, 0, 0, 0, 0, []), (18, .iload_n 1, 1, 1, 0, 0, 0, 0, []),
  (19, .ifCond .ne 19, 3, 38, 0, 0, 0, 0, []), (22, .iload 5, 2, 5, 0, 0, 0, 0, []), (24, .ifCond .eq 14, 3, 38, 0, 0, 0, 0, []), (27, .aload_n 0, 1, 0, 0, 0, 0, 0, []), (28, .getfield 666, 3, 6, 99, 2, 2600, 0, []), (31, .ldc2_w 669, 3, 0, 0, 0, 4158, (-1), []),
  (34, .lcmp, 1, 0, 0, 0, 0, 0, []), (35, .ifCond .eq 13, 3, 48, 0, 0, 0, 0, []), (38, .iload_n 1, 1, 1, 0, 0, 0, 0, []), (39, .iconst 1, 1, 0, 0, 0, 0, 1, []), (40, .if_icmp .ne 15, 3, 55, 0, 0, 0, 0, []), (43, .iload 5, 2, 5, 0, 0, 0, 0, []),
  (45, .ifCond .eq 10, 3, 55, 0, 0, 0, 0, []), (48, .aload_n 0, 1, 0, 0, 0, 0, 0, []), (49, .iload 4, 2, 4, 0, 0, 0, 0, []), (51, .i2l, 1, 0, 0, 0, 0, 0, []), (52, .putfield 666, 3, 6, 99, 2, 2600, 0, []), (55, .iload_n 1, 1, 1, 0, 0, 0, 0, []),
  (56, .iconst 2, 1, 0, 0, 0, 0, 2, []), (57, .if_icmp .ne 18, 3, 75, 0, 0, 0, 0, []), (60, .iload 5, 2, 5, 0, 0, 0, 0, []), (62, .ifCond .eq 13, 3, 75, 0, 0, 0, 0, []), (65, .aload_n 0, 1, 0, 0, 0, 0, 0, []), (66, .dup, 1, 0, 0, 0, 0, 0, []),
  (67, .getfield 666, 3, 6, 99, 2, 2600, 0, []), (70, .lconst 1, 1, 0, 0, 0, 0, 1, []), (71, .ladd, 1, 0, 0, 0, 0, 0, []), (72, .putfield 666, 3, 6, 99, 2, 2600, 0, []), (75, .iload_n 1, 1, 1, 0, 0, 0, 0, []), (76, .iconst 3, 1, 0, 0, 0, 0, 3, []),
  (77, .if_icmp .ne 13, 3, 90, 0, 0, 0, 0, []), (80, .aload_n 0, 1, 0, 0, 0, 0, 0, []), (81, .dup, 1, 0, 0, 0, 0, 0, []), (82, .getfield 666, 3, 6, 99, 2, 2600, 0, []), (85, .lload_n 2, 1, 2, 0, 0, 0, 0, []), (86, .ladd, 1, 0, 0, 0, 0, 0, []),
  (87, .putfield 666, 3, 6, 99, 2, 2600, 0, []), (90, .iload_n 1, 1, 1, 0, 0, 0, 0, []), (91, .iconst 3, 1, 0, 0, 0, 0, 3, []), (92, .if_icmp .le 41, 3, 133, 0, 0, 0, 0, []), (95, .aload_n 0, 1, 0, 0, 0, 0, 0, []), (96, .getfield 671, 3, 6, 100, 4, 2601, 0, []),
  (99, .ifCond .ne 29, 3, 128, 0, 0, 0, 0, []), (102, .iload_n 1, 1, 1, 0, 0, 0, 0, []), (103, .iconst 4, 1, 0, 0, 0, 0, 4, []), (104, .if_icmp .ne 15, 3, 119, 0, 0, 0, 0, []), (107, .lload_n 2, 1, 2, 0, 0, 0, 0, []), (108, .aload_n 0, 1, 0, 0, 0, 0, 0, []),
  (109, .getfield 666, 3, 6, 99, 2, 2600, 0, []), (112, .lcmp, 1, 0, 0, 0, 0, 0, []), (113, .ifCond .le 20, 3, 133, 0, 0, 0, 0, []), (116, .goto 12, 3, 128, 0, 0, 0, 0, []), (119, .lload_n 2, 1, 2, 0, 0, 0, 0, []), (120, .aload_n 0, 1, 0, 0, 0, 0, 0, []),
  (121, .getfield 666, 3, 6, 99, 2, 2600, 0, []), (124, .lcmp, 1, 0, 0, 0, 0, 0, []), (125, .ifCond .ge 8, 3, 133, 0, 0, 0, 0, []), (128, .aload_n 0, 1, 0, 0, 0, 0, 0, []), (129, .lload_n 2, 1, 2, 0, 0, 0, 0, []), (130, .putfield 666, 3, 6, 99, 2, 2600, 0, []),
  (133, .aload_n 0, 1, 0, 0, 0, 0, 0, []), (134, .iconst 0, 1, 0, 0, 0, 0, 0, []), (135, .putfield 671, 3, 6, 100, 4, 2601, 0, []), (138, .return_, 1, 0, 0, 0, 0, 0, [])]
noncomputable def am_s260 : am_S := (yX6_ask, cX6_ask, 4, (some .long), 1, 2, 2, 6, 4153, 4151, 4152, 523)
noncomputable def am_c260_0 : List (Nat × am_E) := [(0, .aload_n 0, 1, 0, 0, 0, 0, 0, []), (1, .iload_n 1, 1, 1, 0, 0, 0, 0, []), (2, .invokevirtual 528, 3, 163, 2, 4, 3624, 6, []), (5, .ifCond .ne 12, 3, 17, 0, 0, 0, 0, []), (8, .aload_n 0, 1, 0, 0, 0, 0, 0, []), (9, .iconst 0, 1, 0, 0, 0, 0, 0, []),
  (10, .putfield 239, 3, 6, 1, 1, 2230, 0, []), (13, .ldc2_w 534, 3, 0, 0, 0, 3716, (-1000000000000000), []), (16, .lreturn, 1, 0, 0, 2, 0, 0, []), (17, .aload_n 0, 1, 0, 0, 0, 0, 0, []), (18, .aload_n 0, 1, 0, 0, 0, 0, 0, []), (19, .getfield 239, 3, 6, 1, 1, 2230, 0, []),
  (22, .putfield 251, 3, 6, 3, 1, 2232, 0, []), (25, .aload_n 0, 1, 0, 0, 0, 0, 0, []), (26, .iconst 0, 1, 0, 0, 0, 0, 0, []), (27, .putfield 239, 3, 6, 1, 1, 2230, 0, []), (30, .aload_n 0, 1, 0, 0, 0, 0, 0, []), (31, .iconst 0, 1, 0, 0, 0, 0, 0, []),
  (32, .putfield 248, 3, 6, 2, 1, 2231, 0, []), (35, .aload_n 0, 1, 0, 0, 0, 0, 0, []), (36, .iconst (-1), 1, 0, 0, 0, 0, (-1), []), (37, .putfield 262, 3, 6, 4, 1, 2233, 0, []), (40, .aload_n 0, 1, 0, 0, 0, 0, 0, []), (41, .iconst 0, 1, 0, 0, 0, 0, 0, []),
  (42, .putfield 242, 3, 6, 5, 1, 2234, 0, []), (45, .aload_n 0, 1, 0, 0, 0, 0, 0, []), (46, .iconst (-1), 1, 0, 0, 0, 0, (-1), []), (47, .putfield 245, 3, 6, 6, 1, 2235, 0, []), (50, .aload_n 0, 1, 0, 0, 0, 0, 0, []), (51, .iconst 3, 1, 0, 0, 0, 0, 3, []),
  (52, .putfield 297, 3, 6, 53, 1, 2282, 0, []), (55, .aload_n 0, 1, 0, 0, 0, 0, 0, []), (56, .iconst 0, 1, 0, 0, 0, 0, 0, []), (57, .putfield 338, 3, 6, 92, 1, 2593, 0, []), (60, .aload_n 0, 1, 0, 0, 0, 0, 0, []), (61, .iconst 0, 1, 0, 0, 0, 0, 0, []),
  (62, .putfield 341, 3, 6, 94, 1, 2595, 0, []), (65, .aload_n 0, 1, 0, 0, 0, 0, 0, []), (66, .iconst 0, 1, 0, 0, 0, 0, 0, []), (67, .putfield 344, 3, 6, 95, 1, 2596, 0, []), (70, .aload_n 0, 1, 0, 0, 0, 0, 0, []), (71, .iconst 0, 1, 0, 0, 0, 0, 0, []),
  (72, .putfield 347, 3, 6, 96, 1, 2597, 0, []), (75, .aload_n 0, 1, 0, 0, 0, 0, 0, []), (76, .invokevirtual 674, 3, 258, 1, 1, 4154, 6, []), (79, .istore_n 2, 1, 2, 0, 0, 0, 0, []), (80, .aload_n 0, 1, 0, 0, 0, 0, 0, []), (81, .getfield 242, 3, 6, 5, 1, 2234, 0, []),
  (84, .ifCond .ne 15, 3, 99, 0, 0, 0, 0, []), (87, .iload_n 2, 1, 2, 0, 0, 0, 0, []), (88, .iconst 3, 1, 0, 0, 0, 0, 3, []), (89, .if_icmp .ge 10, 3, 99, 0, 0, 0, 0, []), (92, .aload_n 0, 1, 0, 0, 0, 0, 0, []), (93, .invokevirtual 350, 3, 249, 1, 0, 3187, 6, []),
  (96, .goto 14, 3, 110, 0, 0, 0, 0, []), (99, .aload_n 0, 1, 0, 0, 0, 0, 0, []), (100, .getfield 242, 3, 6, 5, 1, 2234, 0, []), (103, .ifCond .ne 7, 3, 110, 0, 0, 0, 0, []), (106, .aload_n 0, 1, 0, 0, 0, 0, 0, []), (107, .invokevirtual 353, 3, 245, 1, 0, 3203, 6, []),
  (110, .aload_n 0, 1, 0, 0, 0, 0, 0, []), (111, .getfield 242, 3, 6, 5, 1, 2234, 0, []), (114, .ifCond .ne 20, 3, 134, 0, 0, 0, 0, []), (117, .aload_n 0, 1, 0, 0, 0, 0, 0, []), (118, .invokevirtual 254, 3, 133, 1, 1, 3096, 6, []), (121, .iconst (-1), 1, 0, 0, 0, 0, (-1), []),
  (122, .if_icmp .eq 12, 3, 134, 0, 0, 0, 0, []), (125, .aload_n 0, 1, 0, 0, 0, 0, 0, []), (126, .iconst 1, 1, 0, 0, 0, 0, 1, []), (127, .aload_n 0, 1, 0, 0, 0, 0, 0, []), (128, .getfield 248, 3, 6, 2, 1, 2231, 0, []), (131, .invokevirtual 272, 3, 130, 3, 0, 3104, 6, []),
  (134, .aload_n 0, 1, 0, 0, 0, 0, 0, []), (135, .aload_n 0, 1, 0, 0, 0, 0, 0, []), (136, .getfield 242, 3, 6, 5, 1, 2234, 0, []), (139, .putfield 387, 3, 6, 7, 1, 2236, 0, []), (142, .aload_n 0, 1, 0, 0, 0, 0, 0, []), (143, .aload_n 0, 1, 0, 0, 0, 0, 0, []),
  (144, .getfield 245, 3, 6, 6, 1, 2235, 0, []), (147, .putfield 13, 3, 6, 8, 1, 2237, 0, []), (150, .aload_n 0, 1, 0, 0, 0, 0, 0, []), (151, .getfield 242, 3, 6, 5, 1, 2234, 0, []), (154, .ifCond .eq 7, 3, 161, 0, 0, 0, 0, []), (157, .ldc2_w 534, 3, 0, 0, 0, 3716, (-1000000000000000), []),
  (160, .lreturn, 1, 0, 0, 2, 0, 0, []), (161, .aload_n 0, 1, 0, 0, 0, 0, 0, []), (162, .iload_n 2, 1, 2, 0, 0, 0, 0, []), (163, .iconst 2, 1, 0, 0, 0, 0, 2, []), (164, .if_icmp .ge 9, 3, 173, 0, 0, 0, 0, []), (167, .ldc2_w 669, 3, 0, 0, 0, 4158, (-1), []),
  (170, .goto 4, 3, 174, 0, 0, 0, 0, []), (173, .lconst 0, 1, 0, 0, 0, 0, 0, []), (174, .putfield 666, 3, 6, 99, 2, 2600, 0, []), (177, .aload_n 0, 1, 0, 0, 0, 0, 0, []), (178, .iconst 1, 1, 0, 0, 0, 0, 1, []), (179, .putfield 671, 3, 6, 100, 4, 2601, 0, []),
  (182, .aload_n 0, 1, 0, 0, 0, 0, 0, []), (183, .iload_n 1, 1, 1, 0, 0, 0, 0, []), (184, .putfield 659, 3, 6, 56, 1, 2285, 0, []), (187, .aload_n 0, 1, 0, 0, 0, 0, 0, [])]
noncomputable def am_c260_1 : List (Nat × am_E) := [(188, .aload_n 0, 1, 0, 0, 0, 0, 0, []), (189, .iload_n 1, 1, 1, 0, 0, 0, 0, []), (190, .invokevirtual 454, 3, 170, 2, 1, 3660, 6, []), (193, .putfield 448, 3, 6, 57, 1, 2286, 0, []), (196, .aload_n 0, 1, 0, 0, 0, 0, 0, []), (197, .iconst 3, 1, 0, 0, 0, 0, 3, []),
  (198, .putfield 297, 3, 6, 53, 1, 2282, 0, []), (201, .iconst 0, 1, 0, 0, 0, 0, 0, []), (202, .istore_n 3, 1, 3, 0, 0, 0, 0, []), (203, .iload_n 3, 1, 3, 0, 0, 0, 0, []), (204, .aload_n 0, 1, 0, 0, 0, 0, 0, []), (205, .invokevirtual 405, 3, 159, 1, 1, 3600, 6, []),
  (208, .if_icmp .ge 20, 3, 228, 0, 0, 0, 0, []), (211, .aload_n 0, 1, 0, 0, 0, 0, 0, []), (212, .iload_n 2, 1, 2, 0, 0, 0, 0, []), (213, .aload_n 0, 1, 0, 0, 0, 0, 0, []), (214, .iload_n 3, 1, 3, 0, 0, 0, 0, []), (215, .invokevirtual 677, 3, 257, 2, 2, 4159, 6, []),
  (218, .iload_n 3, 1, 3, 0, 0, 0, 0, []), (219, .invokevirtual 681, 3, 259, 4, 0, 4167, 6, []), (222, .iinc 3 1, 3, 3, 0, 0, 0, 1, []), (225, .goto (-22), 3, 203, 0, 0, 0, 0, []), (228, .aload_n 0, 1, 0, 0, 0, 0, 0, []), (229, .getfield 666, 3, 6, 99, 2, 2600, 0, []),
  (232, .lreturn, 1, 0, 0, 2, 0, 0, [])]
noncomputable def am_c260 : List (Nat × am_E) := am_c260_0 ++ (am_c260_1)
noncomputable def am_s261 : am_S := (yX6_checked, cX6_checked, 4, (some .int), 0, 1, 2, 6, 4185, 4184, 0, 523)
noncomputable def am_c261 : List (Nat × am_E) := [(0, .bipush 53, 2, 0, 0, 0, 0, 53, []), (2, .istore_n 2, 1, 2, 0, 0, 0, 0, []), (3, .iconst 0, 1, 0, 0, 0, 0, 0, []), (4, .istore_n 3, 1, 3, 0, 0, 0, 0, []), (5, .iload_n 3, 1, 3, 0, 0, 0, 0, []), (6, .iload_n 1, 1, 1, 0, 0, 0, 0, []),
  (7, .if_icmp .ge 21, 3, 28, 0, 0, 0, 0, []), (10, .iconst 3, 1, 0, 0, 0, 0, 3, []), (11, .iload_n 2, 1, 2, 0, 0, 0, 0, []), (12, .imul, 1, 0, 0, 0, 0, 0, []), (13, .aload_n 0, 1, 0, 0, 0, 0, 0, []), (14, .iload_n 3, 1, 3, 0, 0, 0, 0, []),
  (15, .iaload, 1, 0, 0, 0, 0, 0, []), (16, .iadd, 1, 0, 0, 0, 0, 0, []), (17, .sipush 251, 3, 0, 0, 0, 0, 251, []), (20, .irem, 1, 0, 0, 0, 0, 0, []), (21, .istore_n 2, 1, 2, 0, 0, 0, 0, []), (22, .iinc 3 1, 3, 3, 0, 0, 0, 1, []),
  (25, .goto (-20), 3, 5, 0, 0, 0, 0, []), (28, .iload_n 2, 1, 2, 0, 0, 0, 0, []), (29, .ireturn, 1, 0, 0, 1, 0, 0, [])]
noncomputable def am_s262 : am_S := (yX6_writes, cX6_writes, 2, none, 1, 0, 2, 6, 4182, 4181, 159, 523)
noncomputable def am_c262 : List (Nat × am_E) := [(0, .aload_n 0, 1, 0, 0, 0, 0, 0, []), (1, .getfield 236, 3, 6, 101, 3, 2602, 0, []), (4, .aload_n 0, 1, 0, 0, 0, 0, 0, []), (5, .getfield 685, 3, 6, 102, 1, 2603, 0, []), (8, .iload_n 1, 1, 1, 0, 0, 0, 0, []), (9, .iastore, 1, 0, 0, 0, 0, 0, []),
  (10, .aload_n 0, 1, 0, 0, 0, 0, 0, []), (11, .dup, 1, 0, 0, 0, 0, 0, []), (12, .getfield 685, 3, 6, 102, 1, 2603, 0, []), (15, .iconst 1, 1, 0, 0, 0, 0, 1, []), (16, .iadd, 1, 0, 0, 0, 0, 0, []), (17, .putfield 685, 3, 6, 102, 1, 2603, 0, []),
  (20, .return_, 1, 0, 0, 0, 0, 0, [])]
noncomputable def am_s263 : am_S := (yX6_writesTwo, cX6_writesTwo, 2, none, 1, 0, 2, 6, 4178, 4177, 158, 523)
noncomputable def am_c263 : List (Nat × am_E) := [(0, .aload_n 0, 1, 0, 0, 0, 0, 0, []), (1, .iload_n 1, 1, 1, 0, 0, 0, 0, []), (2, .sipush 256, 3, 0, 0, 0, 0, 256, []), (5, .idiv, 1, 0, 0, 0, 0, 0, []), (6, .invokevirtual 688, 3, 262, 2, 0, 4179, 6, []), (9, .aload_n 0, 1, 0, 0, 0, 0, 0, []),
  (10, .iload_n 1, 1, 1, 0, 0, 0, 0, []), (11, .sipush 256, 3, 0, 0, 0, 0, 256, []), (14, .irem, 1, 0, 0, 0, 0, 0, []), (15, .invokevirtual 688, 3, 262, 2, 0, 4179, 6, []), (18, .return_, 1, 0, 0, 0, 0, 0, [])]
noncomputable def am_s264 : am_S := (yX6_image, cX6_image, 3, (some .int), 1, 1, 1, 6, 4174, 4172, 4173, 523)
noncomputable def am_c264 : List (Nat × am_E) := [(0, .aload_n 0, 1, 0, 0, 0, 0, 0, []), (1, .iconst 0, 1, 0, 0, 0, 0, 0, []), (2, .putfield 685, 3, 6, 102, 1, 2603, 0, []), (5, .aload_n 0, 1, 0, 0, 0, 0, 0, []), (6, .aload_n 0, 1, 0, 0, 0, 0, 0, []), (7, .getfield 139, 3, 6, 54, 3, 2283, 0, []),
  (10, .iconst 0, 1, 0, 0, 0, 0, 0, []), (11, .iaload, 1, 0, 0, 0, 0, 0, []), (12, .invokevirtual 691, 3, 263, 2, 0, 4175, 6, []), (15, .aload_n 0, 1, 0, 0, 0, 0, 0, []), (16, .aload_n 0, 1, 0, 0, 0, 0, 0, []), (17, .getfield 139, 3, 6, 54, 3, 2283, 0, []),
  (20, .iconst 1, 1, 0, 0, 0, 0, 1, []), (21, .iaload, 1, 0, 0, 0, 0, 0, []), (22, .invokevirtual 688, 3, 262, 2, 0, 4179, 6, []), (25, .iconst 0, 1, 0, 0, 0, 0, 0, []), (26, .istore_n 1, 1, 1, 0, 0, 0, 0, []), (27, .iload_n 1, 1, 1, 0, 0, 0, 0, []),
  (28, .aload_n 0, 1, 0, 0, 0, 0, 0, []), (29, .invokevirtual 408, 3, 160, 1, 1, 3284, 6, []), (32, .if_icmp .gt 66, 3, 98, 0, 0, 0, 0, []), (35, .iconst 0, 1, 0, 0, 0, 0, 0, []), (36, .istore_n 2, 1, 2, 0, 0, 0, 0, []), (37, .iload_n 2, 1, 2, 0, 0, 0, 0, []),
  (38, .aload_n 0, 1, 0, 0, 0, 0, 0, []), (39, .invokevirtual 402, 3, 158, 1, 1, 3608, 6, []), (42, .if_icmp .ge 24, 3, 66, 0, 0, 0, 0, []), (45, .aload_n 0, 1, 0, 0, 0, 0, 0, []), (46, .aload_n 0, 1, 0, 0, 0, 0, 0, []), (47, .getfield 139, 3, 6, 54, 3, 2283, 0, []),
  (50, .aload_n 0, 1, 0, 0, 0, 0, 0, []), (51, .iload_n 1, 1, 1, 0, 0, 0, 0, []), (52, .iload_n 2, 1, 2, 0, 0, 0, 0, []), (53, .invokevirtual 420, 3, 171, 3, 1, 3636, 6, []), (56, .iaload, 1, 0, 0, 0, 0, 0, []), (57, .invokevirtual 691, 3, 263, 2, 0, 4175, 6, []),
  (60, .iinc 2 1, 3, 2, 0, 0, 0, 1, []), (63, .goto (-26), 3, 37, 0, 0, 0, 0, []), (66, .iconst 0, 1, 0, 0, 0, 0, 0, []), (67, .istore_n 2, 1, 2, 0, 0, 0, 0, []), (68, .iload_n 2, 1, 2, 0, 0, 0, 0, []), (69, .aload_n 0, 1, 0, 0, 0, 0, 0, []),
  (70, .invokevirtual 405, 3, 159, 1, 1, 3600, 6, []), (73, .if_icmp .ge 19, 3, 92, 0, 0, 0, 0, []), (76, .aload_n 0, 1, 0, 0, 0, 0, 0, []), (77, .aload_n 0, 1, 0, 0, 0, 0, 0, []), (78, .iload_n 1, 1, 1, 0, 0, 0, 0, []), (79, .iload_n 2, 1, 2, 0, 0, 0, 0, []),
  (80, .invokevirtual 442, 3, 173, 3, 1, 3644, 6, []), (83, .invokevirtual 688, 3, 262, 2, 0, 4179, 6, []), (86, .iinc 2 1, 3, 2, 0, 0, 0, 1, []), (89, .goto (-21), 3, 68, 0, 0, 0, 0, []), (92, .iinc 1 1, 3, 1, 0, 0, 0, 1, []), (95, .goto (-68), 3, 27, 0, 0, 0, 0, []),
  (98, .iconst 0, 1, 0, 0, 0, 0, 0, []), (99, .istore_n 1, 1, 1, 0, 0, 0, 0, []), (100, .iload_n 1, 1, 1, 0, 0, 0, 0, []), (101, .aload_n 0, 1, 0, 0, 0, 0, 0, []), (102, .invokevirtual 408, 3, 160, 1, 1, 3284, 6, []), (105, .if_icmp .ge 33, 3, 138, 0, 0, 0, 0, []),
  (108, .aload_n 0, 1, 0, 0, 0, 0, 0, []), (109, .aload_n 0, 1, 0, 0, 0, 0, 0, []), (110, .getfield 139, 3, 6, 54, 3, 2283, 0, []), (113, .bipush 86, 2, 0, 0, 0, 0, 86, []), (115, .iconst 2, 1, 0, 0, 0, 0, 2, []), (116, .iload_n 1, 1, 1, 0, 0, 0, 0, []),
  (117, .imul, 1, 0, 0, 0, 0, 0, []), (118, .iadd, 1, 0, 0, 0, 0, 0, []), (119, .iaload, 1, 0, 0, 0, 0, 0, []), (120, .invokevirtual 688, 3, 262, 2, 0, 4179, 6, []), (123, .aload_n 0, 1, 0, 0, 0, 0, 0, []), (124, .aload_n 0, 1, 0, 0, 0, 0, 0, []),
  (125, .iload_n 1, 1, 1, 0, 0, 0, 0, []), (126, .invokevirtual 508, 3, 193, 2, 1, 3311, 6, []), (129, .invokevirtual 691, 3, 263, 2, 0, 4175, 6, []), (132, .iinc 1 1, 3, 1, 0, 0, 0, 1, []), (135, .goto (-35), 3, 100, 0, 0, 0, 0, []), (138, .aload_n 0, 1, 0, 0, 0, 0, 0, []),
  (139, .aload_n 0, 1, 0, 0, 0, 0, 0, []), (140, .getfield 236, 3, 6, 101, 3, 2602, 0, []), (143, .aload_n 0, 1, 0, 0, 0, 0, 0, []), (144, .getfield 685, 3, 6, 102, 1, 2603, 0, []), (147, .invokestatic 694, 3, 261, 2, 1, 4183, 0, []), (150, .invokevirtual 688, 3, 262, 2, 0, 4179, 6, []),
  (153, .aload_n 0, 1, 0, 0, 0, 0, 0, []), (154, .getfield 685, 3, 6, 102, 1, 2603, 0, []), (157, .ireturn, 1, 0, 0, 1, 0, 0, [])]
noncomputable def am_s265 : am_S := (yX6_octet, cX6_octet, 2, (some .int), 1, 1, 2, 6, 4189, 4187, 4188, 523)
noncomputable def am_c265 : List (Nat × am_E) := [(0, .iload_n 1, 1, 1, 0, 0, 0, 0, []), (1, .ifCond .lt 20, 3, 21, 0, 0, 0, 0, []), (4, .iload_n 1, 1, 1, 0, 0, 0, 0, []), (5, .aload_n 0, 1, 0, 0, 0, 0, 0, []), (6, .getfield 685, 3, 6, 102, 1, 2603, 0, []), (9, .if_icmp .ge 12, 3, 21, 0, 0, 0, 0, []),
  (12, .aload_n 0, 1, 0, 0, 0, 0, 0, []), (13, .getfield 236, 3, 6, 101, 3, 2602, 0, []), (16, .iload_n 1, 1, 1, 0, 0, 0, 0, []), (17, .iaload, 1, 0, 0, 0, 0, 0, []), (18, .goto 4, 3, 22, 0, 0, 0, 0, []), (21, .iconst (-1), 1, 0, 0, 0, 0, (-1), []),
  (22, .ireturn, 1, 0, 0, 1, 0, 0, [])]
noncomputable def am_s266 : am_S := (yX6_twoAt, cX6_twoAt, 2, (some .int), 1, 1, 2, 6, 4205, 4204, 162, 523)
noncomputable def am_c266 : List (Nat × am_E) := [(0, .sipush 256, 3, 0, 0, 0, 0, 256, []), (3, .aload_n 0, 1, 0, 0, 0, 0, 0, []), (4, .getfield 7, 3, 6, 0, 3, 2229, 0, []), (7, .iload_n 1, 1, 1, 0, 0, 0, 0, []), (8, .iaload, 1, 0, 0, 0, 0, 0, []), (9, .imul, 1, 0, 0, 0, 0, 0, []),
  (10, .aload_n 0, 1, 0, 0, 0, 0, 0, []), (11, .getfield 7, 3, 6, 0, 3, 2229, 0, []), (14, .iload_n 1, 1, 1, 0, 0, 0, 0, []), (15, .iconst 1, 1, 0, 0, 0, 0, 1, []), (16, .iadd, 1, 0, 0, 0, 0, 0, []), (17, .iaload, 1, 0, 0, 0, 0, 0, []),
  (18, .iadd, 1, 0, 0, 0, 0, 0, []), (19, .ireturn, 1, 0, 0, 1, 0, 0, [])]
noncomputable def am_s267 : am_S := (yX6_profileFrom, cX6_profileFrom, 2, (some .int), 1, 1, 2, 6, 4201, 4200, 161, 523)
noncomputable def am_c267 : List (Nat × am_E) := [(0, .iconst 3, 1, 0, 0, 0, 0, 3, []), (1, .iload_n 1, 1, 1, 0, 0, 0, 0, []), (2, .iconst 2, 1, 0, 0, 0, 0, 2, []), (3, .aload_n 0, 1, 0, 0, 0, 0, 0, []), (4, .invokevirtual 402, 3, 158, 1, 1, 3608, 6, []), (7, .imul, 1, 0, 0, 0, 0, 0, []),
  (8, .aload_n 0, 1, 0, 0, 0, 0, 0, []), (9, .invokevirtual 405, 3, 159, 1, 1, 3600, 6, []), (12, .iadd, 1, 0, 0, 0, 0, 0, []), (13, .imul, 1, 0, 0, 0, 0, 0, []), (14, .iadd, 1, 0, 0, 0, 0, 0, []), (15, .ireturn, 1, 0, 0, 1, 0, 0, [])]
noncomputable def am_s268 : am_S := (yX6_isProfileTold, cX6_isProfileTold, 4, (some .boolean), 1, 4, 2, 6, 4209, 4208, 163, 523)
noncomputable def am_c268 : List (Nat × am_E) := [(0, .aload_n 0, 1, 0, 0, 0, 0, 0, []), (1, .iload_n 1, 1, 1, 0, 0, 0, 0, []), (2, .invokevirtual 698, 3, 267, 2, 1, 4198, 6, []), (5, .istore_n 2, 1, 2, 0, 0, 0, 0, []), (6, .iconst 0, 1, 0, 0, 0, 0, 0, []), (7, .istore_n 3, 1, 3, 0, 0, 0, 0, []),
  (8, .iload_n 3, 1, 3, 0, 0, 0, 0, []), (9, .aload_n 0, 1, 0, 0, 0, 0, 0, []), (10, .invokevirtual 402, 3, 158, 1, 1, 3608, 6, []), (13, .if_icmp .ge 26, 3, 39, 0, 0, 0, 0, []), (16, .aload_n 0, 1, 0, 0, 0, 0, 0, []), (17, .iload_n 2, 1, 2, 0, 0, 0, 0, []),
  (18, .iconst 2, 1, 0, 0, 0, 0, 2, []), (19, .iload_n 3, 1, 3, 0, 0, 0, 0, []), (20, .imul, 1, 0, 0, 0, 0, 0, []), (21, .iadd, 1, 0, 0, 0, 0, 0, []), (22, .invokevirtual 701, 3, 266, 2, 1, 4202, 6, []), (25, .sipush 999, 3, 0, 0, 0, 0, 999, []),
  (28, .if_icmp .le 5, 3, 33, 0, 0, 0, 0, []), (31, .iconst 0, 1, 0, 0, 0, 0, 0, []), (32, .ireturn, 1, 0, 0, 4, 0, 0, []), (33, .iinc 3 1, 3, 3, 0, 0, 0, 1, []), (36, .goto (-28), 3, 8, 0, 0, 0, 0, []), (39, .iload_n 2, 1, 2, 0, 0, 0, 0, []),
  (40, .iconst 2, 1, 0, 0, 0, 0, 2, []), (41, .aload_n 0, 1, 0, 0, 0, 0, 0, []), (42, .invokevirtual 402, 3, 158, 1, 1, 3608, 6, []), (45, .imul, 1, 0, 0, 0, 0, 0, []), (46, .iadd, 1, 0, 0, 0, 0, 0, []), (47, .istore_n 2, 1, 2, 0, 0, 0, 0, []),
  (48, .iconst 0, 1, 0, 0, 0, 0, 0, []), (49, .istore_n 3, 1, 3, 0, 0, 0, 0, []), (50, .iload_n 3, 1, 3, 0, 0, 0, 0, []), (51, .aload_n 0, 1, 0, 0, 0, 0, 0, []), (52, .invokevirtual 405, 3, 159, 1, 1, 3600, 6, []), (55, .if_icmp .ge 27, 3, 82, 0, 0, 0, 0, []),
  (58, .aload_n 0, 1, 0, 0, 0, 0, 0, []), (59, .getfield 7, 3, 6, 0, 3, 2229, 0, []), (62, .iload_n 2, 1, 2, 0, 0, 0, 0, []), (63, .iload_n 3, 1, 3, 0, 0, 0, 0, []), (64, .iadd, 1, 0, 0, 0, 0, 0, []), (65, .iaload, 1, 0, 0, 0, 0, 0, []),
  (66, .aload_n 0, 1, 0, 0, 0, 0, 0, []), (67, .iload_n 3, 1, 3, 0, 0, 0, 0, []), (68, .invokevirtual 445, 3, 164, 2, 1, 3616, 6, []), (71, .if_icmp .le 5, 3, 76, 0, 0, 0, 0, []), (74, .iconst 0, 1, 0, 0, 0, 0, 0, []), (75, .ireturn, 1, 0, 0, 4, 0, 0, []),
  (76, .iinc 3 1, 3, 3, 0, 0, 0, 1, []), (79, .goto (-29), 3, 50, 0, 0, 0, 0, []), (82, .iconst 1, 1, 0, 0, 0, 0, 1, []), (83, .ireturn, 1, 0, 0, 4, 0, 0, [])]
noncomputable def am_s269 : am_S := (yX6_isImage, cX6_isImage, 4, (some .boolean), 1, 4, 2, 6, 4197, 4196, 160, 523)
noncomputable def am_c269 : List (Nat × am_E) := [(0, .aload_n 0, 1, 0, 0, 0, 0, 0, []), (1, .iconst 1, 1, 0, 0, 0, 0, 1, []), (2, .aload_n 0, 1, 0, 0, 0, 0, 0, []), (3, .invokevirtual 408, 3, 160, 1, 1, 3284, 6, []), (6, .iadd, 1, 0, 0, 0, 0, 0, []), (7, .invokevirtual 698, 3, 267, 2, 1, 4198, 6, []),
  (10, .istore_n 2, 1, 2, 0, 0, 0, 0, []), (11, .iload_n 1, 1, 1, 0, 0, 0, 0, []), (12, .iload_n 2, 1, 2, 0, 0, 0, 0, []), (13, .iconst 3, 1, 0, 0, 0, 0, 3, []), (14, .aload_n 0, 1, 0, 0, 0, 0, 0, []), (15, .invokevirtual 408, 3, 160, 1, 1, 3284, 6, []),
  (18, .imul, 1, 0, 0, 0, 0, 0, []), (19, .iadd, 1, 0, 0, 0, 0, 0, []), (20, .iconst 1, 1, 0, 0, 0, 0, 1, []), (21, .iadd, 1, 0, 0, 0, 0, 0, []), (22, .if_icmp .ne 46, 3, 68, 0, 0, 0, 0, []), (25, .aload_n 0, 1, 0, 0, 0, 0, 0, []),
  (26, .getfield 7, 3, 6, 0, 3, 2229, 0, []), (29, .iload_n 1, 1, 1, 0, 0, 0, 0, []), (30, .iconst 1, 1, 0, 0, 0, 0, 1, []), (31, .isub, 1, 0, 0, 0, 0, 0, []), (32, .iaload, 1, 0, 0, 0, 0, 0, []), (33, .aload_n 0, 1, 0, 0, 0, 0, 0, []),
  (34, .getfield 7, 3, 6, 0, 3, 2229, 0, []), (37, .iload_n 1, 1, 1, 0, 0, 0, 0, []), (38, .iconst 1, 1, 0, 0, 0, 0, 1, []), (39, .isub, 1, 0, 0, 0, 0, 0, []), (40, .invokestatic 694, 3, 261, 2, 1, 4183, 0, []), (43, .if_icmp .ne 25, 3, 68, 0, 0, 0, 0, []),
  (46, .aload_n 0, 1, 0, 0, 0, 0, 0, []), (47, .iconst 0, 1, 0, 0, 0, 0, 0, []), (48, .invokevirtual 701, 3, 266, 2, 1, 4202, 6, []), (51, .sipush 999, 3, 0, 0, 0, 0, 999, []), (54, .if_icmp .gt 14, 3, 68, 0, 0, 0, 0, []), (57, .aload_n 0, 1, 0, 0, 0, 0, 0, []),
  (58, .getfield 7, 3, 6, 0, 3, 2229, 0, []), (61, .iconst 2, 1, 0, 0, 0, 0, 2, []), (62, .iaload, 1, 0, 0, 0, 0, 0, []), (63, .bipush 24, 2, 0, 0, 0, 0, 24, []), (65, .if_icmp .lt 5, 3, 70, 0, 0, 0, 0, []), (68, .iconst 0, 1, 0, 0, 0, 0, 0, []),
  (69, .ireturn, 1, 0, 0, 4, 0, 0, []), (70, .iconst 0, 1, 0, 0, 0, 0, 0, []), (71, .istore_n 3, 1, 3, 0, 0, 0, 0, []), (72, .iload_n 3, 1, 3, 0, 0, 0, 0, []), (73, .aload_n 0, 1, 0, 0, 0, 0, 0, []), (74, .invokevirtual 408, 3, 160, 1, 1, 3284, 6, []),
  (77, .if_icmp .gt 19, 3, 96, 0, 0, 0, 0, []), (80, .aload_n 0, 1, 0, 0, 0, 0, 0, []), (81, .iload_n 3, 1, 3, 0, 0, 0, 0, []), (82, .invokevirtual 704, 3, 268, 2, 4, 4206, 6, []), (85, .ifCond .ne 5, 3, 90, 0, 0, 0, 0, []), (88, .iconst 0, 1, 0, 0, 0, 0, 0, []),
  (89, .ireturn, 1, 0, 0, 4, 0, 0, []), (90, .iinc 3 1, 3, 3, 0, 0, 0, 1, []), (93, .goto (-21), 3, 72, 0, 0, 0, 0, []), (96, .iconst 0, 1, 0, 0, 0, 0, 0, []), (97, .istore_n 3, 1, 3, 0, 0, 0, 0, []), (98, .iload_n 3, 1, 3, 0, 0, 0, 0, []),
  (99, .aload_n 0, 1, 0, 0, 0, 0, 0, []), (100, .invokevirtual 408, 3, 160, 1, 1, 3284, 6, []), (103, .if_icmp .ge 42, 3, 145, 0, 0, 0, 0, []), (106, .aload_n 0, 1, 0, 0, 0, 0, 0, []), (107, .getfield 7, 3, 6, 0, 3, 2229, 0, []), (110, .iload_n 2, 1, 2, 0, 0, 0, 0, []),
  (111, .iconst 3, 1, 0, 0, 0, 0, 3, []), (112, .iload_n 3, 1, 3, 0, 0, 0, 0, []), (113, .imul, 1, 0, 0, 0, 0, 0, []), (114, .iadd, 1, 0, 0, 0, 0, 0, []), (115, .iaload, 1, 0, 0, 0, 0, 0, []), (116, .iconst 1, 1, 0, 0, 0, 0, 1, []),
  (117, .if_icmp .gt 20, 3, 137, 0, 0, 0, 0, []), (120, .aload_n 0, 1, 0, 0, 0, 0, 0, []), (121, .iload_n 2, 1, 2, 0, 0, 0, 0, []), (122, .iconst 1, 1, 0, 0, 0, 0, 1, []), (123, .iadd, 1, 0, 0, 0, 0, 0, []), (124, .iconst 3, 1, 0, 0, 0, 0, 3, []),
  (125, .iload_n 3, 1, 3, 0, 0, 0, 0, []), (126, .imul, 1, 0, 0, 0, 0, 0, []), (127, .iadd, 1, 0, 0, 0, 0, 0, []), (128, .invokevirtual 701, 3, 266, 2, 1, 4202, 6, []), (131, .sipush 9999, 3, 0, 0, 0, 0, 9999, []), (134, .if_icmp .le 5, 3, 139, 0, 0, 0, 0, []),
  (137, .iconst 0, 1, 0, 0, 0, 0, 0, []), (138, .ireturn, 1, 0, 0, 4, 0, 0, []), (139, .iinc 3 1, 3, 3, 0, 0, 0, 1, []), (142, .goto (-44), 3, 98, 0, 0, 0, 0, []), (145, .iconst 1, 1, 0, 0, 0, 0, 1, []), (146, .ireturn, 1, 0, 0, 4, 0, 0, [])]
noncomputable def am_s270 : am_S := (yX6_on, cX6_on, 5, (some .boolean), 1, 4, 1, 6, 4193, 4191, 4192, 523)
noncomputable def am_c270_0 : List (Nat × am_E) := [(0, .aload_n 0, 1, 0, 0, 0, 0, 0, []), (1, .getfield 239, 3, 6, 1, 1, 2230, 0, []), (4, .istore_n 1, 1, 1, 0, 0, 0, 0, []), (5, .aload_n 0, 1, 0, 0, 0, 0, 0, []), (6, .iconst 0, 1, 0, 0, 0, 0, 0, []), (7, .putfield 239, 3, 6, 1, 1, 2230, 0, []),
  (10, .aload_n 0, 1, 0, 0, 0, 0, 0, []), (11, .iload_n 1, 1, 1, 0, 0, 0, 0, []), (12, .invokevirtual 707, 3, 269, 2, 4, 4194, 6, []), (15, .ifCond .ne 15, 3, 30, 0, 0, 0, 0, []), (18, .aload_n 0, 1, 0, 0, 0, 0, 0, []), (19, .getfield 17, 3, 6, 9, 3, 2238, 0, []),
  (22, .iconst 5, 1, 0, 0, 0, 0, 5, []), (23, .dup2, 1, 0, 0, 0, 0, 0, []), (24, .iaload, 1, 0, 0, 0, 0, 0, []), (25, .iconst 1, 1, 0, 0, 0, 0, 1, []), (26, .iadd, 1, 0, 0, 0, 0, 0, []), (27, .iastore, 1, 0, 0, 0, 0, 0, []),
  (28, .iconst 0, 1, 0, 0, 0, 0, 0, []), (29, .ireturn, 1, 0, 0, 4, 0, 0, []), (30, .aload_n 0, 1, 0, 0, 0, 0, 0, []), (31, .getfield 139, 3, 6, 54, 3, 2283, 0, []), (34, .iconst 0, 1, 0, 0, 0, 0, 0, []), (35, .aload_n 0, 1, 0, 0, 0, 0, 0, []),
  (36, .iconst 0, 1, 0, 0, 0, 0, 0, []), (37, .invokevirtual 701, 3, 266, 2, 1, 4202, 6, []), (40, .iastore, 1, 0, 0, 0, 0, 0, []), (41, .aload_n 0, 1, 0, 0, 0, 0, 0, []), (42, .getfield 139, 3, 6, 54, 3, 2283, 0, []), (45, .iconst 1, 1, 0, 0, 0, 0, 1, []),
  (46, .aload_n 0, 1, 0, 0, 0, 0, 0, []), (47, .getfield 7, 3, 6, 0, 3, 2229, 0, []), (50, .iconst 2, 1, 0, 0, 0, 0, 2, []), (51, .iaload, 1, 0, 0, 0, 0, 0, []), (52, .iastore, 1, 0, 0, 0, 0, 0, []), (53, .iconst 0, 1, 0, 0, 0, 0, 0, []),
  (54, .istore_n 2, 1, 2, 0, 0, 0, 0, []), (55, .iload_n 2, 1, 2, 0, 0, 0, 0, []), (56, .aload_n 0, 1, 0, 0, 0, 0, 0, []), (57, .invokevirtual 408, 3, 160, 1, 1, 3284, 6, []), (60, .if_icmp .gt 101, 3, 161, 0, 0, 0, 0, []), (63, .aload_n 0, 1, 0, 0, 0, 0, 0, []),
  (64, .iload_n 2, 1, 2, 0, 0, 0, 0, []), (65, .invokevirtual 698, 3, 267, 2, 1, 4198, 6, []), (68, .istore_n 3, 1, 3, 0, 0, 0, 0, []), (69, .iconst 0, 1, 0, 0, 0, 0, 0, []), (70, .istore 4, 2, 4, 0, 0, 0, 0, []), (72, .iload 4, 2, 4, 0, 0, 0, 0, []),
  (74, .aload_n 0, 1, 0, 0, 0, 0, 0, []), (75, .invokevirtual 402, 3, 158, 1, 1, 3608, 6, []), (78, .if_icmp .ge 31, 3, 109, 0, 0, 0, 0, []), (81, .aload_n 0, 1, 0, 0, 0, 0, 0, []), (82, .getfield 139, 3, 6, 54, 3, 2283, 0, []), (85, .aload_n 0, 1, 0, 0, 0, 0, 0, []),
  (86, .iload_n 2, 1, 2, 0, 0, 0, 0, []), (87, .iload 4, 2, 4, 0, 0, 0, 0, []), (89, .invokevirtual 420, 3, 171, 3, 1, 3636, 6, []), (92, .aload_n 0, 1, 0, 0, 0, 0, 0, []), (93, .iload_n 3, 1, 3, 0, 0, 0, 0, []), (94, .iconst 2, 1, 0, 0, 0, 0, 2, []),
  (95, .iload 4, 2, 4, 0, 0, 0, 0, []), (97, .imul, 1, 0, 0, 0, 0, 0, []), (98, .iadd, 1, 0, 0, 0, 0, 0, []), (99, .invokevirtual 701, 3, 266, 2, 1, 4202, 6, []), (102, .iastore, 1, 0, 0, 0, 0, 0, []), (103, .iinc 4 1, 3, 4, 0, 0, 0, 1, []),
  (106, .goto (-34), 3, 72, 0, 0, 0, 0, []), (109, .iconst 0, 1, 0, 0, 0, 0, 0, []), (110, .istore 4, 2, 4, 0, 0, 0, 0, []), (112, .iload 4, 2, 4, 0, 0, 0, 0, []), (114, .aload_n 0, 1, 0, 0, 0, 0, 0, []), (115, .invokevirtual 405, 3, 159, 1, 1, 3600, 6, []),
  (118, .if_icmp .ge 37, 3, 155, 0, 0, 0, 0, []), (121, .aload_n 0, 1, 0, 0, 0, 0, 0, []), (122, .getfield 139, 3, 6, 54, 3, 2283, 0, []), (125, .aload_n 0, 1, 0, 0, 0, 0, 0, []), (126, .iload_n 2, 1, 2, 0, 0, 0, 0, []), (127, .iload 4, 2, 4, 0, 0, 0, 0, []),
  (129, .invokevirtual 414, 3, 172, 3, 1, 3648, 6, []), (132, .aload_n 0, 1, 0, 0, 0, 0, 0, []), (133, .getfield 7, 3, 6, 0, 3, 2229, 0, []), (136, .iload_n 3, 1, 3, 0, 0, 0, 0, []), (137, .iconst 2, 1, 0, 0, 0, 0, 2, []), (138, .aload_n 0, 1, 0, 0, 0, 0, 0, []),
  (139, .invokevirtual 402, 3, 158, 1, 1, 3608, 6, []), (142, .imul, 1, 0, 0, 0, 0, 0, []), (143, .iadd, 1, 0, 0, 0, 0, 0, []), (144, .iload 4, 2, 4, 0, 0, 0, 0, []), (146, .iadd, 1, 0, 0, 0, 0, 0, []), (147, .iaload, 1, 0, 0, 0, 0, 0, []),
  (148, .iastore, 1, 0, 0, 0, 0, 0, []), (149, .iinc 4 1, 3, 4, 0, 0, 0, 1, []), (152, .goto (-40), 3, 112, 0, 0, 0, 0, []), (155, .iinc 2 1, 3, 2, 0, 0, 0, 1, []), (158, .goto (-103), 3, 55, 0, 0, 0, 0, []), (161, .aload_n 0, 1, 0, 0, 0, 0, 0, []),
  (162, .iconst 1, 1, 0, 0, 0, 0, 1, []), (163, .aload_n 0, 1, 0, 0, 0, 0, 0, []), (164, .invokevirtual 408, 3, 160, 1, 1, 3284, 6, []), (167, .iadd, 1, 0, 0, 0, 0, 0, [])]
noncomputable def am_c270_1 : List (Nat × am_E) := [(168, .invokevirtual 698, 3, 267, 2, 1, 4198, 6, []), (171, .istore_n 2, 1, 2, 0, 0, 0, 0, []), (172, .iconst 0, 1, 0, 0, 0, 0, 0, []), (173, .istore_n 3, 1, 3, 0, 0, 0, 0, []), (174, .iload_n 3, 1, 3, 0, 0, 0, 0, []), (175, .aload_n 0, 1, 0, 0, 0, 0, 0, []),
  (176, .invokevirtual 408, 3, 160, 1, 1, 3284, 6, []), (179, .if_icmp .ge 54, 3, 233, 0, 0, 0, 0, []), (182, .aload_n 0, 1, 0, 0, 0, 0, 0, []), (183, .getfield 139, 3, 6, 54, 3, 2283, 0, []), (186, .bipush 86, 2, 0, 0, 0, 0, 86, []), (188, .iconst 2, 1, 0, 0, 0, 0, 2, []),
  (189, .iload_n 3, 1, 3, 0, 0, 0, 0, []), (190, .imul, 1, 0, 0, 0, 0, 0, []), (191, .iadd, 1, 0, 0, 0, 0, 0, []), (192, .aload_n 0, 1, 0, 0, 0, 0, 0, []), (193, .getfield 7, 3, 6, 0, 3, 2229, 0, []), (196, .iload_n 2, 1, 2, 0, 0, 0, 0, []),
  (197, .iconst 3, 1, 0, 0, 0, 0, 3, []), (198, .iload_n 3, 1, 3, 0, 0, 0, 0, []), (199, .imul, 1, 0, 0, 0, 0, 0, []), (200, .iadd, 1, 0, 0, 0, 0, 0, []), (201, .iaload, 1, 0, 0, 0, 0, 0, []), (202, .iastore, 1, 0, 0, 0, 0, 0, []),
  (203, .aload_n 0, 1, 0, 0, 0, 0, 0, []), (204, .getfield 139, 3, 6, 54, 3, 2283, 0, []), (207, .bipush 86, 2, 0, 0, 0, 0, 86, []), (209, .iconst 2, 1, 0, 0, 0, 0, 2, []), (210, .iload_n 3, 1, 3, 0, 0, 0, 0, []), (211, .imul, 1, 0, 0, 0, 0, 0, []),
  (212, .iadd, 1, 0, 0, 0, 0, 0, []), (213, .iconst 1, 1, 0, 0, 0, 0, 1, []), (214, .iadd, 1, 0, 0, 0, 0, 0, []), (215, .aload_n 0, 1, 0, 0, 0, 0, 0, []), (216, .iload_n 2, 1, 2, 0, 0, 0, 0, []), (217, .iconst 1, 1, 0, 0, 0, 0, 1, []),
  (218, .iadd, 1, 0, 0, 0, 0, 0, []), (219, .iconst 3, 1, 0, 0, 0, 0, 3, []), (220, .iload_n 3, 1, 3, 0, 0, 0, 0, []), (221, .imul, 1, 0, 0, 0, 0, 0, []), (222, .iadd, 1, 0, 0, 0, 0, 0, []), (223, .invokevirtual 701, 3, 266, 2, 1, 4202, 6, []),
  (226, .iastore, 1, 0, 0, 0, 0, 0, []), (227, .iinc 3 1, 3, 3, 0, 0, 0, 1, []), (230, .goto (-56), 3, 174, 0, 0, 0, 0, []), (233, .aload_n 0, 1, 0, 0, 0, 0, 0, []), (234, .getfield 139, 3, 6, 54, 3, 2283, 0, []), (237, .bipush 96, 2, 0, 0, 0, 0, 96, []),
  (239, .iconst 0, 1, 0, 0, 0, 0, 0, []), (240, .iastore, 1, 0, 0, 0, 0, 0, []), (241, .aload_n 0, 1, 0, 0, 0, 0, 0, []), (242, .iconst 0, 1, 0, 0, 0, 0, 0, []), (243, .putfield 396, 3, 6, 68, 1, 2569, 0, []), (246, .iconst 1, 1, 0, 0, 0, 0, 1, []),
  (247, .ireturn, 1, 0, 0, 4, 0, 0, [])]
noncomputable def am_c270 : List (Nat × am_E) := am_c270_0 ++ (am_c270_1)
noncomputable def am_s271 : am_S := (yX6_status, cX6_status, 2, (some .int), 1, 1, 2, 6, 4213, 4211, 4212, 523)
noncomputable def am_c271 : List (Nat × am_E) := [(0, .iload_n 1, 1, 1, 0, 0, 0, 0, []), (1, .i2l, 1, 0, 0, 0, 0, 0, []), (2, .lconst 0, 1, 0, 0, 0, 0, 0, []), (3, .ldc2_w 302, 3, 0, 0, 0, 3224, 5, []), (6, .invokestatic 282, 3, 127, 3, 4, 3164, 0, []), (9, .ifCond .eq 12, 3, 21, 0, 0, 0, 0, []),
  (12, .aload_n 0, 1, 0, 0, 0, 0, 0, []), (13, .getfield 17, 3, 6, 9, 3, 2238, 0, []), (16, .iload_n 1, 1, 1, 0, 0, 0, 0, []), (17, .iaload, 1, 0, 0, 0, 0, 0, []), (18, .goto 4, 3, 22, 0, 0, 0, 0, []), (21, .iconst (-1), 1, 0, 0, 0, 0, (-1), []),
  (22, .ireturn, 1, 0, 0, 1, 0, 0, [])]
noncomputable def am_s272 : am_S := (yJ6_bitCount_0f7a4, cJ6_bitCount_0f7a4, 1, (some .int), 0, 1, 1, 99, 1597, 1596, 0, 525)
noncomputable def am_c272 : List (Nat × am_E) := [(0, .iload_n 0, 1, 0, 0, 0, 0, 0, []), (1, .iload_n 0, 1, 0, 0, 0, 0, 0, []), (2, .iconst 1, 1, 0, 0, 0, 0, 1, []), (3, .iushr, 1, 0, 0, 0, 0, 0, []), (4, .ldc_w 265, 3, 0, 0, 0, 1598, 1431655765, []), (7, .iand, 1, 0, 0, 0, 0, 0, []),
  (8, .isub, 1, 0, 0, 0, 0, 0, []), (9, .istore_n 0, 1, 0, 0, 0, 0, 0, []), (10, .iload_n 0, 1, 0, 0, 0, 0, 0, []), (11, .ldc_w 266, 3, 0, 0, 0, 1599, 858993459, []), (14, .iand, 1, 0, 0, 0, 0, 0, []), (15, .iload_n 0, 1, 0, 0, 0, 0, 0, []),
  (16, .iconst 2, 1, 0, 0, 0, 0, 2, []), (17, .iushr, 1, 0, 0, 0, 0, 0, []), (18, .ldc_w 266, 3, 0, 0, 0, 1599, 858993459, []), (21, .iand, 1, 0, 0, 0, 0, 0, []), (22, .iadd, 1, 0, 0, 0, 0, 0, []), (23, .istore_n 0, 1, 0, 0, 0, 0, 0, []),
  (24, .iload_n 0, 1, 0, 0, 0, 0, 0, []), (25, .iload_n 0, 1, 0, 0, 0, 0, 0, []), (26, .iconst 4, 1, 0, 0, 0, 0, 4, []), (27, .iushr, 1, 0, 0, 0, 0, 0, []), (28, .iadd, 1, 0, 0, 0, 0, 0, []), (29, .ldc_w 267, 3, 0, 0, 0, 1600, 252645135, []),
  (32, .iand, 1, 0, 0, 0, 0, 0, []), (33, .istore_n 0, 1, 0, 0, 0, 0, 0, []), (34, .iload_n 0, 1, 0, 0, 0, 0, 0, []), (35, .iload_n 0, 1, 0, 0, 0, 0, 0, []), (36, .bipush 8, 2, 0, 0, 0, 0, 8, []), (38, .iushr, 1, 0, 0, 0, 0, 0, []),
  (39, .iadd, 1, 0, 0, 0, 0, 0, []), (40, .istore_n 0, 1, 0, 0, 0, 0, 0, []), (41, .iload_n 0, 1, 0, 0, 0, 0, 0, []), (42, .iload_n 0, 1, 0, 0, 0, 0, 0, []), (43, .bipush 16, 2, 0, 0, 0, 0, 16, []), (45, .iushr, 1, 0, 0, 0, 0, 0, []),
  (46, .iadd, 1, 0, 0, 0, 0, 0, []), (47, .istore_n 0, 1, 0, 0, 0, 0, 0, []), (48, .iload_n 0, 1, 0, 0, 0, 0, 0, []), (49, .bipush 63, 2, 0, 0, 0, 0, 63, []), (51, .iand, 1, 0, 0, 0, 0, 0, []), (52, .ireturn, 1, 0, 0, 1, 0, 0, [])]
noncomputable def am_s273 : am_S := (yJ9_floorDiv_f86c9, cJ9_floorDiv_f86c9, 6, (some .long), 0, 2, 2, 99, 1679, 1678, 0, 524)
noncomputable def am_c273 : List (Nat × am_E) := [(0, .lload_n 0, 1, 0, 0, 0, 0, 0, []), (1, .lload_n 2, 1, 2, 0, 0, 0, 0, []), (2, .ldiv, 1, 0, 0, 0, 0, 0, []), (3, .lstore 4, 2, 4, 0, 0, 0, 0, []), (5, .lload_n 0, 1, 0, 0, 0, 0, 0, []), (6, .lload_n 2, 1, 2, 0, 0, 0, 0, []),
  (7, .lxor, 1, 0, 0, 0, 0, 0, []), (8, .lconst 0, 1, 0, 0, 0, 0, 0, []), (9, .lcmp, 1, 0, 0, 0, 0, 0, []), (10, .ifCond .ge 17, 3, 27, 0, 0, 0, 0, []), (13, .lload 4, 2, 4, 0, 0, 0, 0, []), (15, .lload_n 2, 1, 2, 0, 0, 0, 0, []),
  (16, .lmul, 1, 0, 0, 0, 0, 0, []), (17, .lload_n 0, 1, 0, 0, 0, 0, 0, []), (18, .lcmp, 1, 0, 0, 0, 0, 0, []), (19, .ifCond .eq 8, 3, 27, 0, 0, 0, 0, []), (22, .lload 4, 2, 4, 0, 0, 0, 0, []), (24, .lconst 1, 1, 0, 0, 0, 0, 1, []),
  (25, .lsub, 1, 0, 0, 0, 0, 0, []), (26, .lreturn, 1, 0, 0, 2, 0, 0, []), (27, .lload 4, 2, 4, 0, 0, 0, 0, []), (29, .lreturn, 1, 0, 0, 2, 0, 0, [])]
noncomputable def am_s274 : am_S := (yJ9_max_7cf53, cJ9_max_7cf53, 2, (some .int), 0, 1, 2, 99, 1664, 1663, 0, 524)
noncomputable def am_c274 : List (Nat × am_E) := [(0, .iload_n 0, 1, 0, 0, 0, 0, 0, []), (1, .iload_n 1, 1, 1, 0, 0, 0, 0, []), (2, .if_icmp .lt 7, 3, 9, 0, 0, 0, 0, []), (5, .iload_n 0, 1, 0, 0, 0, 0, 0, []), (6, .goto 4, 3, 10, 0, 0, 0, 0, []), (9, .iload_n 1, 1, 1, 0, 0, 0, 0, []),
  (10, .ireturn, 1, 0, 0, 1, 0, 0, [])]
noncomputable def am_s275 : am_S := (yJ9_max_f86c9, cJ9_max_f86c9, 4, (some .long), 0, 2, 2, 99, 1685, 1684, 0, 524)
noncomputable def am_c275 : List (Nat × am_E) := [(0, .lload_n 0, 1, 0, 0, 0, 0, 0, []), (1, .lload_n 2, 1, 2, 0, 0, 0, 0, []), (2, .lcmp, 1, 0, 0, 0, 0, 0, []), (3, .ifCond .lt 7, 3, 10, 0, 0, 0, 0, []), (6, .lload_n 0, 1, 0, 0, 0, 0, 0, []), (7, .goto 4, 3, 11, 0, 0, 0, 0, []),
  (10, .lload_n 2, 1, 2, 0, 0, 0, 0, []), (11, .lreturn, 1, 0, 0, 2, 0, 0, [])]
noncomputable def am_s276 : am_S := (yJ9_min_7cf53, cJ9_min_7cf53, 2, (some .int), 0, 1, 2, 99, 1194, 1193, 0, 524)
noncomputable def am_c276 : List (Nat × am_E) := [(0, .iload_n 0, 1, 0, 0, 0, 0, 0, []), (1, .iload_n 1, 1, 1, 0, 0, 0, 0, []), (2, .if_icmp .gt 7, 3, 9, 0, 0, 0, 0, []), (5, .iload_n 0, 1, 0, 0, 0, 0, 0, []), (6, .goto 4, 3, 10, 0, 0, 0, 0, []), (9, .iload_n 1, 1, 1, 0, 0, 0, 0, []),
  (10, .ireturn, 1, 0, 0, 1, 0, 0, [])]
noncomputable def am_s277 : am_S := (yJ9_min_f86c9, cJ9_min_f86c9, 4, (some .long), 0, 2, 2, 99, 1682, 1681, 0, 524)
noncomputable def am_c277 : List (Nat × am_E) := [(0, .lload_n 0, 1, 0, 0, 0, 0, 0, []), (1, .lload_n 2, 1, 2, 0, 0, 0, 0, []), (2, .lcmp, 1, 0, 0, 0, 0, 0, []), (3, .ifCond .gt 7, 3, 10, 0, 0, 0, 0, []), (6, .lload_n 0, 1, 0, 0, 0, 0, 0, []), (7, .goto 4, 3, 11, 0, 0, 0, 0, []),
  (10, .lload_n 2, 1, 2, 0, 0, 0, 0, []), (11, .lreturn, 1, 0, 0, 2, 0, 0, [])]
/-- the tables' words, by blocks -/
def am_blk (j : Nat) : List Jvm.Cond := bif Nat.beq j 0 then k2_sels lw_privs else bif Nat.beq j 1 then tables_1_1 else bif Nat.beq j 2 then tables_1_2 else bif Nat.beq j 3 then tables_1_3 else bif Nat.beq j 4 then tables_1_4 else bif Nat.beq j 5 then tables_1_5 else bif Nat.beq j 6 then tables_1_6 else bif Nat.beq j 7 then tables_1_7 else tables_1_8
def am_wt (e : Nat) : Option Jvm.Cond := (am_blk (e / 512))[e % 512]?
theorem am_cin {c : Bool} {a b : List Jvm.Cond} {P : Jvm.Cond → Prop} (ha : ∀ w ∈ a, P w) (hb : ∀ w ∈ b, P w) : ∀ w ∈ (bif c then a else b), P w := by cases c <;> assumption
theorem am_blk_in (j : Nat) : ∀ w ∈ am_blk j, w ∈ lw_tbl := by
  show ∀ w ∈ am_blk j, w ∈ k2_sels lw_privs ++ (tables_1_1 ++ (tables_1_2 ++ (tables_1_3 ++ (tables_1_4 ++ (tables_1_5 ++ (tables_1_6 ++ (tables_1_7 ++ (tables_1_8))))))))
  unfold am_blk
  exact (am_cin (fun _ h => List.mem_append_left _ h) (am_cin (fun _ h => List.mem_append_right _ (List.mem_append_left _ h)) (am_cin (fun _ h => List.mem_append_right _ (List.mem_append_right _ (List.mem_append_left _ h))) (am_cin (fun _ h => List.mem_append_right _ (List.mem_append_right _ (List.mem_append_right _ (List.mem_append_left _ h)))) (am_cin (fun _ h => List.mem_append_right _ (List.mem_append_right _ (List.mem_append_right _ (List.mem_append_right _ (List.mem_append_left _ h))))) (am_cin (fun _ h => List.mem_append_right _ (List.mem_append_right _ (List.mem_append_right _ (List.mem_append_right _ (List.mem_append_right _ (List.mem_append_left _ h)))))) (am_cin (fun _ h => List.mem_append_right _ (List.mem_append_right _ (List.mem_append_right _ (List.mem_append_right _ (List.mem_append_right _ (List.mem_append_right _ (List.mem_append_left _ h))))))) (am_cin (fun _ h => List.mem_append_right _ (List.mem_append_right _ (List.mem_append_right _ (List.mem_append_right _ (List.mem_append_right _ (List.mem_append_right _ (List.mem_append_right _ (List.mem_append_left _ h)))))))) (fun _ h => List.mem_append_right _ (List.mem_append_right _ (List.mem_append_right _ (List.mem_append_right _ (List.mem_append_right _ (List.mem_append_right _ (List.mem_append_right _ (List.mem_append_right _ (h)))))))))))))))))
theorem am_wt_in {e : Nat} {w : Jvm.Cond} (h : am_wt e = some w) : w ∈ lw_tbl := am_blk_in _ _ (List.mem_of_getElem? h)
noncomputable def am_hd (i : Nat) : am_S := (bif Nat.ble i 138 then (bif Nat.ble i 68 then (bif Nat.ble i 33 then (bif Nat.ble i 16 then (bif Nat.ble i 7 then (bif Nat.ble i 3 then (bif Nat.ble i 1 then (bif Nat.ble i 0 then am_s0 else am_s1) else (bif Nat.ble i 2 then am_s2 else am_s3)) else (bif Nat.ble i 5 then (bif Nat.ble i 4 then am_s4 else am_s5) else (bif Nat.ble i 6 then am_s6 else am_s7))) else (bif Nat.ble i 11 then (bif Nat.ble i 9 then (bif Nat.ble i 8 then am_s8 else am_s9) else (bif Nat.ble i 10 then am_s10 else am_s11)) else (bif Nat.ble i 13 then (bif Nat.ble i 12 then am_s12 else am_s13) else (bif Nat.ble i 14 then am_s14 else (bif Nat.ble i 15 then am_s15 else am_s16))))) else (bif Nat.ble i 24 then (bif Nat.ble i 20 then (bif Nat.ble i 18 then (bif Nat.ble i 17 then am_s17 else am_s18) else (bif Nat.ble i 19 then am_s19 else am_s20)) else (bif Nat.ble i 22 then (bif Nat.ble i 21 then am_s21 else am_s22) else (bif Nat.ble i 23 then am_s23 else am_s24))) else (bif Nat.ble i 28 then (bif Nat.ble i 26 then (bif Nat.ble i 25 then am_s25 else am_s26) else (bif Nat.ble i 27 then am_s27 else am_s28)) else (bif Nat.ble i 30 then (bif Nat.ble i 29 then am_s29 else am_s30) else (bif Nat.ble i 31 then am_s31 else (bif Nat.ble i 32 then am_s32 else am_s33)))))) else (bif Nat.ble i 50 then (bif Nat.ble i 41 then (bif Nat.ble i 37 then (bif Nat.ble i 35 then (bif Nat.ble i 34 then am_s34 else am_s35) else (bif Nat.ble i 36 then am_s36 else am_s37)) else (bif Nat.ble i 39 then (bif Nat.ble i 38 then am_s38 else am_s39) else (bif Nat.ble i 40 then am_s40 else am_s41))) else (bif Nat.ble i 45 then (bif Nat.ble i 43 then (bif Nat.ble i 42 then am_s42 else am_s43) else (bif Nat.ble i 44 then am_s44 else am_s45)) else (bif Nat.ble i 47 then (bif Nat.ble i 46 then am_s46 else am_s47) else (bif Nat.ble i 48 then am_s48 else (bif Nat.ble i 49 then am_s49 else am_s50))))) else (bif Nat.ble i 59 then (bif Nat.ble i 54 then (bif Nat.ble i 52 then (bif Nat.ble i 51 then am_s51 else am_s52) else (bif Nat.ble i 53 then am_s53 else am_s54)) else (bif Nat.ble i 56 then (bif Nat.ble i 55 then am_s55 else am_s56) else (bif Nat.ble i 57 then am_s57 else (bif Nat.ble i 58 then am_s58 else am_s59)))) else (bif Nat.ble i 63 then (bif Nat.ble i 61 then (bif Nat.ble i 60 then am_s60 else am_s61) else (bif Nat.ble i 62 then am_s62 else am_s63)) else (bif Nat.ble i 65 then (bif Nat.ble i 64 then am_s64 else am_s65) else (bif Nat.ble i 66 then am_s66 else (bif Nat.ble i 67 then am_s67 else am_s68))))))) else (bif Nat.ble i 103 then (bif Nat.ble i 85 then (bif Nat.ble i 76 then (bif Nat.ble i 72 then (bif Nat.ble i 70 then (bif Nat.ble i 69 then am_s69 else am_s70) else (bif Nat.ble i 71 then am_s71 else am_s72)) else (bif Nat.ble i 74 then (bif Nat.ble i 73 then am_s73 else am_s74) else (bif Nat.ble i 75 then am_s75 else am_s76))) else (bif Nat.ble i 80 then (bif Nat.ble i 78 then (bif Nat.ble i 77 then am_s77 else am_s78) else (bif Nat.ble i 79 then am_s79 else am_s80)) else (bif Nat.ble i 82 then (bif Nat.ble i 81 then am_s81 else am_s82) else (bif Nat.ble i 83 then am_s83 else (bif Nat.ble i 84 then am_s84 else am_s85))))) else (bif Nat.ble i 94 then (bif Nat.ble i 89 then (bif Nat.ble i 87 then (bif Nat.ble i 86 then am_s86 else am_s87) else (bif Nat.ble i 88 then am_s88 else am_s89)) else (bif Nat.ble i 91 then (bif Nat.ble i 90 then am_s90 else am_s91) else (bif Nat.ble i 92 then am_s92 else (bif Nat.ble i 93 then am_s93 else am_s94)))) else (bif Nat.ble i 98 then (bif Nat.ble i 96 then (bif Nat.ble i 95 then am_s95 else am_s96) else (bif Nat.ble i 97 then am_s97 else am_s98)) else (bif Nat.ble i 100 then (bif Nat.ble i 99 then am_s99 else am_s100) else (bif Nat.ble i 101 then am_s101 else (bif Nat.ble i 102 then am_s102 else am_s103)))))) else (bif Nat.ble i 120 then (bif Nat.ble i 111 then (bif Nat.ble i 107 then (bif Nat.ble i 105 then (bif Nat.ble i 104 then am_s104 else am_s105) else (bif Nat.ble i 106 then am_s106 else am_s107)) else (bif Nat.ble i 109 then (bif Nat.ble i 108 then am_s108 else am_s109) else (bif Nat.ble i 110 then am_s110 else am_s111))) else (bif Nat.ble i 115 then (bif Nat.ble i 113 then (bif Nat.ble i 112 then am_s112 else am_s113) else (bif Nat.ble i 114 then am_s114 else am_s115)) else (bif Nat.ble i 117 then (bif Nat.ble i 116 then am_s116 else am_s117) else (bif Nat.ble i 118 then am_s118 else (bif Nat.ble i 119 then am_s119 else am_s120))))) else (bif Nat.ble i 129 then (bif Nat.ble i 124 then (bif Nat.ble i 122 then (bif Nat.ble i 121 then am_s121 else am_s122) else (bif Nat.ble i 123 then am_s123 else am_s124)) else (bif Nat.ble i 126 then (bif Nat.ble i 125 then am_s125 else am_s126) else (bif Nat.ble i 127 then am_s127 else (bif Nat.ble i 128 then am_s128 else am_s129)))) else (bif Nat.ble i 133 then (bif Nat.ble i 131 then (bif Nat.ble i 130 then am_s130 else am_s131) else (bif Nat.ble i 132 then am_s132 else am_s133)) else (bif Nat.ble i 135 then (bif Nat.ble i 134 then am_s134 else am_s135) else (bif Nat.ble i 136 then am_s136 else (bif Nat.ble i 137 then am_s137 else am_s138)))))))) else (bif Nat.ble i 207 then (bif Nat.ble i 172 then (bif Nat.ble i 155 then (bif Nat.ble i 146 then (bif Nat.ble i 142 then (bif Nat.ble i 140 then (bif Nat.ble i 139 then am_s139 else am_s140) else (bif Nat.ble i 141 then am_s141 else am_s142)) else (bif Nat.ble i 144 then (bif Nat.ble i 143 then am_s143 else am_s144) else (bif Nat.ble i 145 then am_s145 else am_s146))) else (bif Nat.ble i 150 then (bif Nat.ble i 148 then (bif Nat.ble i 147 then am_s147 else am_s148) else (bif Nat.ble i 149 then am_s149 else am_s150)) else (bif Nat.ble i 152 then (bif Nat.ble i 151 then am_s151 else am_s152) else (bif Nat.ble i 153 then am_s153 else (bif Nat.ble i 154 then am_s154 else am_s155))))) else (bif Nat.ble i 163 then (bif Nat.ble i 159 then (bif Nat.ble i 157 then (bif Nat.ble i 156 then am_s156 else am_s157) else (bif Nat.ble i 158 then am_s158 else am_s159)) else (bif Nat.ble i 161 then (bif Nat.ble i 160 then am_s160 else am_s161) else (bif Nat.ble i 162 then am_s162 else am_s163))) else (bif Nat.ble i 167 then (bif Nat.ble i 165 then (bif Nat.ble i 164 then am_s164 else am_s165) else (bif Nat.ble i 166 then am_s166 else am_s167)) else (bif Nat.ble i 169 then (bif Nat.ble i 168 then am_s168 else am_s169) else (bif Nat.ble i 170 then am_s170 else (bif Nat.ble i 171 then am_s171 else am_s172)))))) else (bif Nat.ble i 189 then (bif Nat.ble i 180 then (bif Nat.ble i 176 then (bif Nat.ble i 174 then (bif Nat.ble i 173 then am_s173 else am_s174) else (bif Nat.ble i 175 then am_s175 else am_s176)) else (bif Nat.ble i 178 then (bif Nat.ble i 177 then am_s177 else am_s178) else (bif Nat.ble i 179 then am_s179 else am_s180))) else (bif Nat.ble i 184 then (bif Nat.ble i 182 then (bif Nat.ble i 181 then am_s181 else am_s182) else (bif Nat.ble i 183 then am_s183 else am_s184)) else (bif Nat.ble i 186 then (bif Nat.ble i 185 then am_s185 else am_s186) else (bif Nat.ble i 187 then am_s187 else (bif Nat.ble i 188 then am_s188 else am_s189))))) else (bif Nat.ble i 198 then (bif Nat.ble i 193 then (bif Nat.ble i 191 then (bif Nat.ble i 190 then am_s190 else am_s191) else (bif Nat.ble i 192 then am_s192 else am_s193)) else (bif Nat.ble i 195 then (bif Nat.ble i 194 then am_s194 else am_s195) else (bif Nat.ble i 196 then am_s196 else (bif Nat.ble i 197 then am_s197 else am_s198)))) else (bif Nat.ble i 202 then (bif Nat.ble i 200 then (bif Nat.ble i 199 then am_s199 else am_s200) else (bif Nat.ble i 201 then am_s201 else am_s202)) else (bif Nat.ble i 204 then (bif Nat.ble i 203 then am_s203 else am_s204) else (bif Nat.ble i 205 then am_s205 else (bif Nat.ble i 206 then am_s206 else am_s207))))))) else (bif Nat.ble i 242 then (bif Nat.ble i 224 then (bif Nat.ble i 215 then (bif Nat.ble i 211 then (bif Nat.ble i 209 then (bif Nat.ble i 208 then am_s208 else am_s209) else (bif Nat.ble i 210 then am_s210 else am_s211)) else (bif Nat.ble i 213 then (bif Nat.ble i 212 then am_s212 else am_s213) else (bif Nat.ble i 214 then am_s214 else am_s215))) else (bif Nat.ble i 219 then (bif Nat.ble i 217 then (bif Nat.ble i 216 then am_s216 else am_s217) else (bif Nat.ble i 218 then am_s218 else am_s219)) else (bif Nat.ble i 221 then (bif Nat.ble i 220 then am_s220 else am_s221) else (bif Nat.ble i 222 then am_s222 else (bif Nat.ble i 223 then am_s223 else am_s224))))) else (bif Nat.ble i 233 then (bif Nat.ble i 228 then (bif Nat.ble i 226 then (bif Nat.ble i 225 then am_s225 else am_s226) else (bif Nat.ble i 227 then am_s227 else am_s228)) else (bif Nat.ble i 230 then (bif Nat.ble i 229 then am_s229 else am_s230) else (bif Nat.ble i 231 then am_s231 else (bif Nat.ble i 232 then am_s232 else am_s233)))) else (bif Nat.ble i 237 then (bif Nat.ble i 235 then (bif Nat.ble i 234 then am_s234 else am_s235) else (bif Nat.ble i 236 then am_s236 else am_s237)) else (bif Nat.ble i 239 then (bif Nat.ble i 238 then am_s238 else am_s239) else (bif Nat.ble i 240 then am_s240 else (bif Nat.ble i 241 then am_s241 else am_s242)))))) else (bif Nat.ble i 259 then (bif Nat.ble i 250 then (bif Nat.ble i 246 then (bif Nat.ble i 244 then (bif Nat.ble i 243 then am_s243 else am_s244) else (bif Nat.ble i 245 then am_s245 else am_s246)) else (bif Nat.ble i 248 then (bif Nat.ble i 247 then am_s247 else am_s248) else (bif Nat.ble i 249 then am_s249 else am_s250))) else (bif Nat.ble i 254 then (bif Nat.ble i 252 then (bif Nat.ble i 251 then am_s251 else am_s252) else (bif Nat.ble i 253 then am_s253 else am_s254)) else (bif Nat.ble i 256 then (bif Nat.ble i 255 then am_s255 else am_s256) else (bif Nat.ble i 257 then am_s257 else (bif Nat.ble i 258 then am_s258 else am_s259))))) else (bif Nat.ble i 268 then (bif Nat.ble i 263 then (bif Nat.ble i 261 then (bif Nat.ble i 260 then am_s260 else am_s261) else (bif Nat.ble i 262 then am_s262 else am_s263)) else (bif Nat.ble i 265 then (bif Nat.ble i 264 then am_s264 else am_s265) else (bif Nat.ble i 266 then am_s266 else (bif Nat.ble i 267 then am_s267 else am_s268)))) else (bif Nat.ble i 272 then (bif Nat.ble i 270 then (bif Nat.ble i 269 then am_s269 else am_s270) else (bif Nat.ble i 271 then am_s271 else am_s272)) else (bif Nat.ble i 274 then (bif Nat.ble i 273 then am_s273 else am_s274) else (bif Nat.ble i 275 then am_s275 else (bif Nat.ble i 276 then am_s276 else am_s277)))))))))
noncomputable def am_tb (i : Nat) : List (Nat × am_E) := (bif Nat.ble i 138 then (bif Nat.ble i 68 then (bif Nat.ble i 33 then (bif Nat.ble i 16 then (bif Nat.ble i 7 then (bif Nat.ble i 3 then (bif Nat.ble i 1 then (bif Nat.ble i 0 then am_c0 else am_c1) else (bif Nat.ble i 2 then am_c2 else am_c3)) else (bif Nat.ble i 5 then (bif Nat.ble i 4 then am_c4 else am_c5) else (bif Nat.ble i 6 then am_c6 else am_c7))) else (bif Nat.ble i 11 then (bif Nat.ble i 9 then (bif Nat.ble i 8 then am_c8 else am_c9) else (bif Nat.ble i 10 then am_c10 else am_c11)) else (bif Nat.ble i 13 then (bif Nat.ble i 12 then am_c12 else am_c13) else (bif Nat.ble i 14 then am_c14 else (bif Nat.ble i 15 then am_c15 else am_c16))))) else (bif Nat.ble i 24 then (bif Nat.ble i 20 then (bif Nat.ble i 18 then (bif Nat.ble i 17 then am_c17 else am_c18) else (bif Nat.ble i 19 then am_c19 else am_c20)) else (bif Nat.ble i 22 then (bif Nat.ble i 21 then am_c21 else am_c22) else (bif Nat.ble i 23 then am_c23 else am_c24))) else (bif Nat.ble i 28 then (bif Nat.ble i 26 then (bif Nat.ble i 25 then am_c25 else am_c26) else (bif Nat.ble i 27 then am_c27 else am_c28)) else (bif Nat.ble i 30 then (bif Nat.ble i 29 then am_c29 else am_c30) else (bif Nat.ble i 31 then am_c31 else (bif Nat.ble i 32 then am_c32 else am_c33)))))) else (bif Nat.ble i 50 then (bif Nat.ble i 41 then (bif Nat.ble i 37 then (bif Nat.ble i 35 then (bif Nat.ble i 34 then am_c34 else am_c35) else (bif Nat.ble i 36 then am_c36 else am_c37)) else (bif Nat.ble i 39 then (bif Nat.ble i 38 then am_c38 else am_c39) else (bif Nat.ble i 40 then am_c40 else am_c41))) else (bif Nat.ble i 45 then (bif Nat.ble i 43 then (bif Nat.ble i 42 then am_c42 else am_c43) else (bif Nat.ble i 44 then am_c44 else am_c45)) else (bif Nat.ble i 47 then (bif Nat.ble i 46 then am_c46 else am_c47) else (bif Nat.ble i 48 then am_c48 else (bif Nat.ble i 49 then am_c49 else am_c50))))) else (bif Nat.ble i 59 then (bif Nat.ble i 54 then (bif Nat.ble i 52 then (bif Nat.ble i 51 then am_c51 else am_c52) else (bif Nat.ble i 53 then am_c53 else am_c54)) else (bif Nat.ble i 56 then (bif Nat.ble i 55 then am_c55 else am_c56) else (bif Nat.ble i 57 then am_c57 else (bif Nat.ble i 58 then am_c58 else am_c59)))) else (bif Nat.ble i 63 then (bif Nat.ble i 61 then (bif Nat.ble i 60 then am_c60 else am_c61) else (bif Nat.ble i 62 then am_c62 else am_c63)) else (bif Nat.ble i 65 then (bif Nat.ble i 64 then am_c64 else am_c65) else (bif Nat.ble i 66 then am_c66 else (bif Nat.ble i 67 then am_c67 else am_c68))))))) else (bif Nat.ble i 103 then (bif Nat.ble i 85 then (bif Nat.ble i 76 then (bif Nat.ble i 72 then (bif Nat.ble i 70 then (bif Nat.ble i 69 then am_c69 else am_c70) else (bif Nat.ble i 71 then am_c71 else am_c72)) else (bif Nat.ble i 74 then (bif Nat.ble i 73 then am_c73 else am_c74) else (bif Nat.ble i 75 then am_c75 else am_c76))) else (bif Nat.ble i 80 then (bif Nat.ble i 78 then (bif Nat.ble i 77 then am_c77 else am_c78) else (bif Nat.ble i 79 then am_c79 else am_c80)) else (bif Nat.ble i 82 then (bif Nat.ble i 81 then am_c81 else am_c82) else (bif Nat.ble i 83 then am_c83 else (bif Nat.ble i 84 then am_c84 else am_c85))))) else (bif Nat.ble i 94 then (bif Nat.ble i 89 then (bif Nat.ble i 87 then (bif Nat.ble i 86 then am_c86 else am_c87) else (bif Nat.ble i 88 then am_c88 else am_c89)) else (bif Nat.ble i 91 then (bif Nat.ble i 90 then am_c90 else am_c91) else (bif Nat.ble i 92 then am_c92 else (bif Nat.ble i 93 then am_c93 else am_c94)))) else (bif Nat.ble i 98 then (bif Nat.ble i 96 then (bif Nat.ble i 95 then am_c95 else am_c96) else (bif Nat.ble i 97 then am_c97 else am_c98)) else (bif Nat.ble i 100 then (bif Nat.ble i 99 then am_c99 else am_c100) else (bif Nat.ble i 101 then am_c101 else (bif Nat.ble i 102 then am_c102 else am_c103)))))) else (bif Nat.ble i 120 then (bif Nat.ble i 111 then (bif Nat.ble i 107 then (bif Nat.ble i 105 then (bif Nat.ble i 104 then am_c104 else am_c105) else (bif Nat.ble i 106 then am_c106 else am_c107)) else (bif Nat.ble i 109 then (bif Nat.ble i 108 then am_c108 else am_c109) else (bif Nat.ble i 110 then am_c110 else am_c111))) else (bif Nat.ble i 115 then (bif Nat.ble i 113 then (bif Nat.ble i 112 then am_c112 else am_c113) else (bif Nat.ble i 114 then am_c114 else am_c115)) else (bif Nat.ble i 117 then (bif Nat.ble i 116 then am_c116 else am_c117) else (bif Nat.ble i 118 then am_c118 else (bif Nat.ble i 119 then am_c119 else am_c120))))) else (bif Nat.ble i 129 then (bif Nat.ble i 124 then (bif Nat.ble i 122 then (bif Nat.ble i 121 then am_c121 else am_c122) else (bif Nat.ble i 123 then am_c123 else am_c124)) else (bif Nat.ble i 126 then (bif Nat.ble i 125 then am_c125 else am_c126) else (bif Nat.ble i 127 then am_c127 else (bif Nat.ble i 128 then am_c128 else am_c129)))) else (bif Nat.ble i 133 then (bif Nat.ble i 131 then (bif Nat.ble i 130 then am_c130 else am_c131) else (bif Nat.ble i 132 then am_c132 else am_c133)) else (bif Nat.ble i 135 then (bif Nat.ble i 134 then am_c134 else am_c135) else (bif Nat.ble i 136 then am_c136 else (bif Nat.ble i 137 then am_c137 else am_c138)))))))) else (bif Nat.ble i 207 then (bif Nat.ble i 172 then (bif Nat.ble i 155 then (bif Nat.ble i 146 then (bif Nat.ble i 142 then (bif Nat.ble i 140 then (bif Nat.ble i 139 then am_c139 else am_c140) else (bif Nat.ble i 141 then am_c141 else am_c142)) else (bif Nat.ble i 144 then (bif Nat.ble i 143 then am_c143 else am_c144) else (bif Nat.ble i 145 then am_c145 else am_c146))) else (bif Nat.ble i 150 then (bif Nat.ble i 148 then (bif Nat.ble i 147 then am_c147 else am_c148) else (bif Nat.ble i 149 then am_c149 else am_c150)) else (bif Nat.ble i 152 then (bif Nat.ble i 151 then am_c151 else am_c152) else (bif Nat.ble i 153 then am_c153 else (bif Nat.ble i 154 then am_c154 else am_c155))))) else (bif Nat.ble i 163 then (bif Nat.ble i 159 then (bif Nat.ble i 157 then (bif Nat.ble i 156 then am_c156 else am_c157) else (bif Nat.ble i 158 then am_c158 else am_c159)) else (bif Nat.ble i 161 then (bif Nat.ble i 160 then am_c160 else am_c161) else (bif Nat.ble i 162 then am_c162 else am_c163))) else (bif Nat.ble i 167 then (bif Nat.ble i 165 then (bif Nat.ble i 164 then am_c164 else am_c165) else (bif Nat.ble i 166 then am_c166 else am_c167)) else (bif Nat.ble i 169 then (bif Nat.ble i 168 then am_c168 else am_c169) else (bif Nat.ble i 170 then am_c170 else (bif Nat.ble i 171 then am_c171 else am_c172)))))) else (bif Nat.ble i 189 then (bif Nat.ble i 180 then (bif Nat.ble i 176 then (bif Nat.ble i 174 then (bif Nat.ble i 173 then am_c173 else am_c174) else (bif Nat.ble i 175 then am_c175 else am_c176)) else (bif Nat.ble i 178 then (bif Nat.ble i 177 then am_c177 else am_c178) else (bif Nat.ble i 179 then am_c179 else am_c180))) else (bif Nat.ble i 184 then (bif Nat.ble i 182 then (bif Nat.ble i 181 then am_c181 else am_c182) else (bif Nat.ble i 183 then am_c183 else am_c184)) else (bif Nat.ble i 186 then (bif Nat.ble i 185 then am_c185 else am_c186) else (bif Nat.ble i 187 then am_c187 else (bif Nat.ble i 188 then am_c188 else am_c189))))) else (bif Nat.ble i 198 then (bif Nat.ble i 193 then (bif Nat.ble i 191 then (bif Nat.ble i 190 then am_c190 else am_c191) else (bif Nat.ble i 192 then am_c192 else am_c193)) else (bif Nat.ble i 195 then (bif Nat.ble i 194 then am_c194 else am_c195) else (bif Nat.ble i 196 then am_c196 else (bif Nat.ble i 197 then am_c197 else am_c198)))) else (bif Nat.ble i 202 then (bif Nat.ble i 200 then (bif Nat.ble i 199 then am_c199 else am_c200) else (bif Nat.ble i 201 then am_c201 else am_c202)) else (bif Nat.ble i 204 then (bif Nat.ble i 203 then am_c203 else am_c204) else (bif Nat.ble i 205 then am_c205 else (bif Nat.ble i 206 then am_c206 else am_c207))))))) else (bif Nat.ble i 242 then (bif Nat.ble i 224 then (bif Nat.ble i 215 then (bif Nat.ble i 211 then (bif Nat.ble i 209 then (bif Nat.ble i 208 then am_c208 else am_c209) else (bif Nat.ble i 210 then am_c210 else am_c211)) else (bif Nat.ble i 213 then (bif Nat.ble i 212 then am_c212 else am_c213) else (bif Nat.ble i 214 then am_c214 else am_c215))) else (bif Nat.ble i 219 then (bif Nat.ble i 217 then (bif Nat.ble i 216 then am_c216 else am_c217) else (bif Nat.ble i 218 then am_c218 else am_c219)) else (bif Nat.ble i 221 then (bif Nat.ble i 220 then am_c220 else am_c221) else (bif Nat.ble i 222 then am_c222 else (bif Nat.ble i 223 then am_c223 else am_c224))))) else (bif Nat.ble i 233 then (bif Nat.ble i 228 then (bif Nat.ble i 226 then (bif Nat.ble i 225 then am_c225 else am_c226) else (bif Nat.ble i 227 then am_c227 else am_c228)) else (bif Nat.ble i 230 then (bif Nat.ble i 229 then am_c229 else am_c230) else (bif Nat.ble i 231 then am_c231 else (bif Nat.ble i 232 then am_c232 else am_c233)))) else (bif Nat.ble i 237 then (bif Nat.ble i 235 then (bif Nat.ble i 234 then am_c234 else am_c235) else (bif Nat.ble i 236 then am_c236 else am_c237)) else (bif Nat.ble i 239 then (bif Nat.ble i 238 then am_c238 else am_c239) else (bif Nat.ble i 240 then am_c240 else (bif Nat.ble i 241 then am_c241 else am_c242)))))) else (bif Nat.ble i 259 then (bif Nat.ble i 250 then (bif Nat.ble i 246 then (bif Nat.ble i 244 then (bif Nat.ble i 243 then am_c243 else am_c244) else (bif Nat.ble i 245 then am_c245 else am_c246)) else (bif Nat.ble i 248 then (bif Nat.ble i 247 then am_c247 else am_c248) else (bif Nat.ble i 249 then am_c249 else am_c250))) else (bif Nat.ble i 254 then (bif Nat.ble i 252 then (bif Nat.ble i 251 then am_c251 else am_c252) else (bif Nat.ble i 253 then am_c253 else am_c254)) else (bif Nat.ble i 256 then (bif Nat.ble i 255 then am_c255 else am_c256) else (bif Nat.ble i 257 then am_c257 else (bif Nat.ble i 258 then am_c258 else am_c259))))) else (bif Nat.ble i 268 then (bif Nat.ble i 263 then (bif Nat.ble i 261 then (bif Nat.ble i 260 then am_c260 else am_c261) else (bif Nat.ble i 262 then am_c262 else am_c263)) else (bif Nat.ble i 265 then (bif Nat.ble i 264 then am_c264 else am_c265) else (bif Nat.ble i 266 then am_c266 else (bif Nat.ble i 267 then am_c267 else am_c268)))) else (bif Nat.ble i 272 then (bif Nat.ble i 270 then (bif Nat.ble i 269 then am_c269 else am_c270) else (bif Nat.ble i 271 then am_c271 else am_c272)) else (bif Nat.ble i 274 then (bif Nat.ble i 273 then am_c273 else am_c274) else (bif Nat.ble i 275 then am_c275 else (bif Nat.ble i 276 then am_c276 else am_c277)))))))))
end
section
/-! What a row of a table must be, to agree with the class files. -/
def am_pl (e : Nat) (w : Jvm.Cond) : Bool := decide (am_wt e = some w) && goodWord w
/-- the same, of a word that is carried apart -/
def am_pm (e : Nat) (w : Jvm.Cond) : Bool := decide (am_wt e = some w)
def am_tg (pc : Nat) (off : Int) (a : Nat) : Bool := decide ((pc : Int) + off = (a : Int))
def am_kd (h : am_S) : Nat := h.2.2.2.2.1
def am_rc (h : am_S) : Nat := h.2.2.2.2.2.1
def am_na (h : am_S) : Nat := h.2.2.2.2.2.2.1
def am_ci (h : am_S) : Nat := h.2.2.2.2.2.2.2.1
def am_sok (h : am_S) : Bool := match h with
  | (y, by_, ml, ret, kind, rc, na, ci, pc, pi, ps, pn) =>
    (match rc with
      | 0 => decide (ret = none)
      | 1 => decide (ret = some .int)
      | 2 => decide (ret = some .long)
      | 4 => decide (ret = some .boolean)
      | _ => false) && Nat.ble ml 100 && (Nat.beq kind 3 || (
      plainName y.cls && decide (y.cls ≠ "java/lang/invoke/MethodHandle") && decide (y.cls ≠ "java/lang/invoke/VarHandle") && goodWord (.code y by_ ml ret) && am_pl pn (.initialized y.cls) &&
      decide ((parseMethodDescriptor y.desc).map (fun d => d.parameters.length) = some (if kind = 0 then na else na - 1)) &&
      (match kind with
        | 0 => am_pl pi (.static y)
        | 1 => Nat.ble 1 na && am_pl pi (.instanceMethod y) && am_pl ps (.selects y.cls y y) && Nat.blt ci 7 && decide (am_cR ci = y.cls)
        | 2 => Nat.ble 1 na && am_pl pi (.instanceMethod y) && decide (y.name = "<init>") && decide (ret = none) && Nat.beq rc 0
        | _ => false)))
def am_wstr (own : String) (k : Nat) : Jvm.Cond := .stringRef own k am_words
/-- a head's code is the class files': the law's apart -/
def am_sop (h : am_S) : Prop := am_kd h = 3 ∨ am_wt h.2.2.2.2.2.2.2.2.1 = some (.code h.1 h.2.1 h.2.2.1 h.2.2.2.1)
/-- a row of a method's table -/
noncomputable def am_eok (h : am_S) (q : Nat × am_E) : Bool := match q with
  | (pc, ins, len, a, b, c, e, z, sw) =>
    decide (decode h.2.1 pc = .ok (ins, len)) && (match ins with
      | .iconst n => Nat.beq len 1 && decide (Int32.ofInt n = am_i z)
      | .bipush n => Nat.beq len 2 && decide ((Int8.ofInt n).toInt32 = am_i z)
      | .sipush n => Nat.beq len 3 && decide ((Int16.ofInt n).toInt32 = am_i z)
      | .ldc k => Nat.beq len 2 && (if b = 1 then am_pm e (am_wstr h.1.cls k) else am_pl e (.constant h.1.cls k (am_i z)))
      | .ldc_w k => Nat.beq len 3 && am_pl e (.constant h.1.cls k (am_i z))
      | .lconst n => Nat.beq len 1 && decide (Int64.ofNat (n : Nat) = am_l z)
      | .ldc2_w k => Nat.beq len 3 && am_pl e (.constantLong h.1.cls k (am_l z))
      | .iload_n n | .lload_n n | .aload_n n => Nat.beq len 1 && Nat.beq (n : Nat) a
      | .iload k | .lload k | .aload k => Nat.beq len 2 && Nat.beq k a
      | .istore_n n | .astore_n n => Nat.beq len 1 && Nat.beq (n : Nat) a && Nat.blt a h.2.2.1
      | .istore k | .astore k => Nat.beq len 2 && Nat.beq k a && Nat.blt a h.2.2.1
      | .lstore_n n => Nat.beq len 1 && Nat.beq (n : Nat) a && Nat.blt (a + 1) h.2.2.1
      | .lstore k => Nat.beq len 2 && Nat.beq k a && Nat.blt (a + 1) h.2.2.1
      | .iinc k n => Nat.beq len 3 && Nat.beq k a && decide (n = z) && Nat.blt a h.2.2.1
      | .iadd | .isub | .imul | .iand | .ior | .ixor | .ishl | .ishr | .iushr | .idiv | .irem | .ladd | .lsub | .lmul | .land | .lor | .lxor | .lshl | .ldiv | .lrem | .lcmp | .i2l | .l2i | .i2c | .dup | .pop | .dup2 => Nat.beq len 1
      | .goto off => Nat.beq len 3 && am_tg pc off a
      | .ifCond _ off => Nat.beq len 3 && am_tg pc off a
      | .if_icmp _ off => Nat.beq len 3 && am_tg pc off a
      | .tableswitch d lo hi offs => am_tg pc d a && decide (sw.map (fun x => ((x.2 : Int) - pc)) = offs.toList) && decide (sw.map (fun x => x.1) = (List.range sw.length).map (fun (j : Nat) => lo + (j : Int))) && decide (lo + (sw.length : Int) = hi + 1) && sw.all (fun x => decide ((am_i x.1).toInt = x.1))
      | .lookupswitch d ps => am_tg pc d a && decide (ps.toList = []) && decide (sw = [])
      | .iaload | .caload | .laload | .aaload | .iastore | .castore | .lastore | .aastore | .arraylength => Nat.beq len 1
      | .getfield k => Nat.beq len 3 && Nat.blt a 7 && Nat.blt b (am_nf a) && Nat.beq c (am_ft a b) && am_pl e (.fieldLink h.1.cls k (am_cT a b).1 (am_cT a b).2.1 (am_cT a b).2.2.1)
      | .putfield k => Nat.beq len 3 && Nat.blt a 7 && Nat.blt b (am_nf a) && Nat.beq c (am_ft a b) && am_pl e (.fieldLink h.1.cls k (am_cT a b).1 (am_cT a b).2.1 (am_cT a b).2.2.1) && (!(am_cT a b).2.2.2 || (Nat.beq (am_kd h) 2 && decide ((am_cT a b).1 = h.1.cls)))
      | .new k => Nat.beq len 3 && Nat.blt a 7 && Nat.beq b (am_nf a) && am_pl e (.classLink h.1.cls k (am_cR a)) && decide (Cond.instantiable (am_cR a) (am_nf a) ∈ lw_tbl) && decide (Cond.initialized (am_cR a) ∈ lw_tbl)
      | .newarray t => Nat.beq len 2 && (match t with
        | .int => Nat.beq a 2
        | .long => Nat.beq a 3
        | .char => Nat.beq a 4
        | _ => false)
      | .anewarray k => Nat.beq len 3 && am_pl e (.classLink h.1.cls k RX0)
      | .multianewarray k n => Nat.beq len 4 && decide (n = 2) && am_pl e (.classLink h.1.cls k ("[" ++ (FieldType.array .int).toString))
      | .invokespecial k => Nat.beq len 3 && (match c with
        | 9 => am_pl e (.methodLink h.1.cls k objectInit)
        | _ => Nat.beq (am_kd (am_hd a)) 2 && Nat.beq b (am_na (am_hd a)) && (match sw with
          | [] => am_pl e (.methodLink h.1.cls k (am_hd a).1)
          | _ => am_pm e (.methodLinkNest h.1.cls k (am_hd a).1 "FourOnOne")))
      | .invokestatic k => Nat.beq len 3 && (match c with
        | 8 => am_pl e (.methodLink h.1.cls k arraycopyName)
        | _ => Nat.beq (am_kd (am_hd a)) 0 && Nat.beq b (am_na (am_hd a)) && Nat.beq c (am_rc (am_hd a)) && !(Nat.beq c 0) && am_pl e (.methodLink h.1.cls k (am_hd a).1))
      | .invokevirtual k => Nat.beq len 3 && (match c with
        | 10 => am_pl e (.methodLink h.1.cls k yJ0_length_8abf5)
        | 11 => am_pl e (.methodLink h.1.cls k yJ0_charAt_5068e)
        | _ => Nat.beq (am_kd (am_hd a)) 1 && Nat.beq b (am_na (am_hd a)) && Nat.beq c (am_rc (am_hd a)) && Nat.beq z.toNat (am_ci (am_hd a)) && am_pl e (.methodLink h.1.cls k (am_hd a).1))
      | .ireturn => Nat.beq len 1 && Nat.beq c (am_rc h) && (Nat.beq c 1 || Nat.beq c 4)
      | .lreturn => Nat.beq len 1 && Nat.beq (am_rc h) 2
      | .return_ => Nat.beq len 1 && Nat.beq (am_rc h) 0
      | _ => true)
theorem am_all_app {α : Type} {p : α → Bool} {a b : List α} (ha : a.all p = true) (hb : b.all p = true) : (a ++ b).all p = true := by
  rw [List.all_append, ha, hb]
  rfl
end
section
/-! Every table agrees with the class files: checked by counting. -/
theorem am_k0_0_ok : am_c0_0.all (am_eok am_s0) = true := by decide +kernel
theorem am_k0_1_ok : am_c0_1.all (am_eok am_s0) = true := by decide +kernel
theorem am_k0_2_ok : am_c0_2.all (am_eok am_s0) = true := by decide +kernel
theorem am_k0_3_ok : am_c0_3.all (am_eok am_s0) = true := by decide +kernel
theorem am_k0_4_ok : am_c0_4.all (am_eok am_s0) = true := by decide +kernel
end
section
/-! Every table agrees with the class files: checked by counting. -/
theorem am_k0_5_ok : am_c0_5.all (am_eok am_s0) = true := by decide +kernel
theorem am_k0_6_ok : am_c0_6.all (am_eok am_s0) = true := by decide +kernel
theorem am_k0_7_ok : am_c0_7.all (am_eok am_s0) = true := by decide +kernel
theorem am_k0_ok : am_c0.all (am_eok am_s0) = true := am_all_app am_k0_0_ok (am_all_app am_k0_1_ok (am_all_app am_k0_2_ok (am_all_app am_k0_3_ok (am_all_app am_k0_4_ok (am_all_app am_k0_5_ok (am_all_app am_k0_6_ok am_k0_7_ok))))))
theorem am_h0_ok : am_sok am_s0 = true := by decide +kernel
theorem am_k1_ok : am_c1.all (am_eok am_s1) = true := by decide +kernel
theorem am_h1_ok : am_sok am_s1 = true := by decide +kernel
theorem am_k2_ok : am_c2.all (am_eok am_s2) = true := by decide +kernel
theorem am_h2_ok : am_sok am_s2 = true := by decide +kernel
theorem am_k3_ok : am_c3.all (am_eok am_s3) = true := by decide +kernel
theorem am_h3_ok : am_sok am_s3 = true := by decide +kernel
theorem am_k4_ok : am_c4.all (am_eok am_s4) = true := by decide +kernel
theorem am_h4_ok : am_sok am_s4 = true := by decide +kernel
theorem am_k5_ok : am_c5.all (am_eok am_s5) = true := by decide +kernel
theorem am_h5_ok : am_sok am_s5 = true := by decide +kernel
theorem am_k6_ok : am_c6.all (am_eok am_s6) = true := by decide +kernel
theorem am_h6_ok : am_sok am_s6 = true := by decide +kernel
theorem am_k7_ok : am_c7.all (am_eok am_s7) = true := by decide +kernel
theorem am_h7_ok : am_sok am_s7 = true := by decide +kernel
theorem am_k8_ok : am_c8.all (am_eok am_s8) = true := by decide +kernel
theorem am_h8_ok : am_sok am_s8 = true := by decide +kernel
theorem am_k9_ok : am_c9.all (am_eok am_s9) = true := by decide +kernel
theorem am_h9_ok : am_sok am_s9 = true := by decide +kernel
theorem am_k10_ok : am_c10.all (am_eok am_s10) = true := by decide +kernel
theorem am_h10_ok : am_sok am_s10 = true := by decide +kernel
theorem am_k11_ok : am_c11.all (am_eok am_s11) = true := by decide +kernel
theorem am_h11_ok : am_sok am_s11 = true := by decide +kernel
theorem am_k12_ok : am_c12.all (am_eok am_s12) = true := by decide +kernel
theorem am_h12_ok : am_sok am_s12 = true := by decide +kernel
theorem am_k13_ok : am_c13.all (am_eok am_s13) = true := by decide +kernel
theorem am_h13_ok : am_sok am_s13 = true := by decide +kernel
theorem am_k14_ok : am_c14.all (am_eok am_s14) = true := by decide +kernel
theorem am_h14_ok : am_sok am_s14 = true := by decide +kernel
theorem am_k15_ok : am_c15.all (am_eok am_s15) = true := by decide +kernel
theorem am_h15_ok : am_sok am_s15 = true := by decide +kernel
theorem am_k16_ok : am_c16.all (am_eok am_s16) = true := by decide +kernel
theorem am_h16_ok : am_sok am_s16 = true := by decide +kernel
theorem am_k17_ok : am_c17.all (am_eok am_s17) = true := by decide +kernel
theorem am_h17_ok : am_sok am_s17 = true := by decide +kernel
theorem am_k18_ok : am_c18.all (am_eok am_s18) = true := by decide +kernel
theorem am_h18_ok : am_sok am_s18 = true := by decide +kernel
theorem am_k19_ok : am_c19.all (am_eok am_s19) = true := by decide +kernel
theorem am_h19_ok : am_sok am_s19 = true := by decide +kernel
theorem am_k20_ok : am_c20.all (am_eok am_s20) = true := by decide +kernel
theorem am_h20_ok : am_sok am_s20 = true := by decide +kernel
theorem am_k21_ok : am_c21.all (am_eok am_s21) = true := by decide +kernel
theorem am_h21_ok : am_sok am_s21 = true := by decide +kernel
theorem am_k22_ok : am_c22.all (am_eok am_s22) = true := by decide +kernel
end
section
/-! Every table agrees with the class files: checked by counting. -/
theorem am_h22_ok : am_sok am_s22 = true := by decide +kernel
theorem am_k23_ok : am_c23.all (am_eok am_s23) = true := by decide +kernel
theorem am_h23_ok : am_sok am_s23 = true := by decide +kernel
theorem am_k24_ok : am_c24.all (am_eok am_s24) = true := by decide +kernel
theorem am_h24_ok : am_sok am_s24 = true := by decide +kernel
theorem am_k25_ok : am_c25.all (am_eok am_s25) = true := by decide +kernel
theorem am_h25_ok : am_sok am_s25 = true := by decide +kernel
theorem am_k26_ok : am_c26.all (am_eok am_s26) = true := by decide +kernel
theorem am_h26_ok : am_sok am_s26 = true := by decide +kernel
theorem am_k27_ok : am_c27.all (am_eok am_s27) = true := by decide +kernel
theorem am_h27_ok : am_sok am_s27 = true := by decide +kernel
theorem am_k28_ok : am_c28.all (am_eok am_s28) = true := by decide +kernel
theorem am_h28_ok : am_sok am_s28 = true := by decide +kernel
theorem am_k29_ok : am_c29.all (am_eok am_s29) = true := by decide +kernel
theorem am_h29_ok : am_sok am_s29 = true := by decide +kernel
theorem am_k30_ok : am_c30.all (am_eok am_s30) = true := by decide +kernel
theorem am_h30_ok : am_sok am_s30 = true := by decide +kernel
theorem am_k31_ok : am_c31.all (am_eok am_s31) = true := by decide +kernel
theorem am_h31_ok : am_sok am_s31 = true := by decide +kernel
theorem am_k32_ok : am_c32.all (am_eok am_s32) = true := by decide +kernel
theorem am_h32_ok : am_sok am_s32 = true := by decide +kernel
theorem am_k33_0_ok : am_c33_0.all (am_eok am_s33) = true := by decide +kernel
theorem am_k33_1_ok : am_c33_1.all (am_eok am_s33) = true := by decide +kernel
theorem am_k33_ok : am_c33.all (am_eok am_s33) = true := am_all_app am_k33_0_ok am_k33_1_ok
theorem am_h33_ok : am_sok am_s33 = true := by decide +kernel
theorem am_k34_ok : am_c34.all (am_eok am_s34) = true := by decide +kernel
theorem am_h34_ok : am_sok am_s34 = true := by decide +kernel
theorem am_k35_ok : am_c35.all (am_eok am_s35) = true := by decide +kernel
theorem am_h35_ok : am_sok am_s35 = true := by decide +kernel
theorem am_k36_ok : am_c36.all (am_eok am_s36) = true := by decide +kernel
theorem am_h36_ok : am_sok am_s36 = true := by decide +kernel
theorem am_k37_ok : am_c37.all (am_eok am_s37) = true := by decide +kernel
theorem am_h37_ok : am_sok am_s37 = true := by decide +kernel
theorem am_k38_ok : am_c38.all (am_eok am_s38) = true := by decide +kernel
theorem am_h38_ok : am_sok am_s38 = true := by decide +kernel
theorem am_k39_ok : am_c39.all (am_eok am_s39) = true := by decide +kernel
theorem am_h39_ok : am_sok am_s39 = true := by decide +kernel
theorem am_k40_ok : am_c40.all (am_eok am_s40) = true := by decide +kernel
theorem am_h40_ok : am_sok am_s40 = true := by decide +kernel
theorem am_k41_ok : am_c41.all (am_eok am_s41) = true := by decide +kernel
theorem am_h41_ok : am_sok am_s41 = true := by decide +kernel
theorem am_k42_ok : am_c42.all (am_eok am_s42) = true := by decide +kernel
theorem am_h42_ok : am_sok am_s42 = true := by decide +kernel
theorem am_k43_ok : am_c43.all (am_eok am_s43) = true := by decide +kernel
theorem am_h43_ok : am_sok am_s43 = true := by decide +kernel
theorem am_k44_ok : am_c44.all (am_eok am_s44) = true := by decide +kernel
theorem am_h44_ok : am_sok am_s44 = true := by decide +kernel
theorem am_k45_ok : am_c45.all (am_eok am_s45) = true := by decide +kernel
theorem am_h45_ok : am_sok am_s45 = true := by decide +kernel
theorem am_k46_ok : am_c46.all (am_eok am_s46) = true := by decide +kernel
theorem am_h46_ok : am_sok am_s46 = true := by decide +kernel
theorem am_k47_ok : am_c47.all (am_eok am_s47) = true := by decide +kernel
theorem am_h47_ok : am_sok am_s47 = true := by decide +kernel
theorem am_k48_ok : am_c48.all (am_eok am_s48) = true := by decide +kernel
theorem am_h48_ok : am_sok am_s48 = true := by decide +kernel
theorem am_k49_ok : am_c49.all (am_eok am_s49) = true := by decide +kernel
theorem am_h49_ok : am_sok am_s49 = true := by decide +kernel
theorem am_k50_ok : am_c50.all (am_eok am_s50) = true := by decide +kernel
theorem am_h50_ok : am_sok am_s50 = true := by decide +kernel
theorem am_k51_ok : am_c51.all (am_eok am_s51) = true := by decide +kernel
theorem am_h51_ok : am_sok am_s51 = true := by decide +kernel
theorem am_k52_ok : am_c52.all (am_eok am_s52) = true := by decide +kernel
theorem am_h52_ok : am_sok am_s52 = true := by decide +kernel
theorem am_k53_ok : am_c53.all (am_eok am_s53) = true := by decide +kernel
theorem am_h53_ok : am_sok am_s53 = true := by decide +kernel
theorem am_k54_ok : am_c54.all (am_eok am_s54) = true := by decide +kernel
theorem am_h54_ok : am_sok am_s54 = true := by decide +kernel
theorem am_k55_ok : am_c55.all (am_eok am_s55) = true := by decide +kernel
theorem am_h55_ok : am_sok am_s55 = true := by decide +kernel
theorem am_k56_ok : am_c56.all (am_eok am_s56) = true := by decide +kernel
theorem am_h56_ok : am_sok am_s56 = true := by decide +kernel
theorem am_k57_ok : am_c57.all (am_eok am_s57) = true := by decide +kernel
theorem am_h57_ok : am_sok am_s57 = true := by decide +kernel
theorem am_k58_ok : am_c58.all (am_eok am_s58) = true := by decide +kernel
theorem am_h58_ok : am_sok am_s58 = true := by decide +kernel
theorem am_k59_ok : am_c59.all (am_eok am_s59) = true := by decide +kernel
theorem am_h59_ok : am_sok am_s59 = true := by decide +kernel
theorem am_k60_ok : am_c60.all (am_eok am_s60) = true := by decide +kernel
theorem am_h60_ok : am_sok am_s60 = true := by decide +kernel
theorem am_k61_ok : am_c61.all (am_eok am_s61) = true := by decide +kernel
theorem am_h61_ok : am_sok am_s61 = true := by decide +kernel
theorem am_k62_0_ok : am_c62_0.all (am_eok am_s62) = true := by decide +kernel
theorem am_k62_1_ok : am_c62_1.all (am_eok am_s62) = true := by decide +kernel
theorem am_k62_ok : am_c62.all (am_eok am_s62) = true := am_all_app am_k62_0_ok am_k62_1_ok
theorem am_h62_ok : am_sok am_s62 = true := by decide +kernel
theorem am_k63_ok : am_c63.all (am_eok am_s63) = true := by decide +kernel
theorem am_h63_ok : am_sok am_s63 = true := by decide +kernel
theorem am_k64_ok : am_c64.all (am_eok am_s64) = true := by decide +kernel
theorem am_h64_ok : am_sok am_s64 = true := by decide +kernel
theorem am_k65_ok : am_c65.all (am_eok am_s65) = true := by decide +kernel
theorem am_h65_ok : am_sok am_s65 = true := by decide +kernel
theorem am_k66_ok : am_c66.all (am_eok am_s66) = true := by decide +kernel
theorem am_h66_ok : am_sok am_s66 = true := by decide +kernel
theorem am_k67_ok : am_c67.all (am_eok am_s67) = true := by decide +kernel
theorem am_h67_ok : am_sok am_s67 = true := by decide +kernel
theorem am_k68_ok : am_c68.all (am_eok am_s68) = true := by decide +kernel
theorem am_h68_ok : am_sok am_s68 = true := by decide +kernel
theorem am_k69_ok : am_c69.all (am_eok am_s69) = true := by decide +kernel
theorem am_h69_ok : am_sok am_s69 = true := by decide +kernel
theorem am_k70_ok : am_c70.all (am_eok am_s70) = true := by decide +kernel
theorem am_h70_ok : am_sok am_s70 = true := by decide +kernel
theorem am_k71_ok : am_c71.all (am_eok am_s71) = true := by decide +kernel
theorem am_h71_ok : am_sok am_s71 = true := by decide +kernel
theorem am_k72_ok : am_c72.all (am_eok am_s72) = true := by decide +kernel
theorem am_h72_ok : am_sok am_s72 = true := by decide +kernel
theorem am_k73_ok : am_c73.all (am_eok am_s73) = true := by decide +kernel
theorem am_h73_ok : am_sok am_s73 = true := by decide +kernel
theorem am_k74_ok : am_c74.all (am_eok am_s74) = true := by decide +kernel
theorem am_h74_ok : am_sok am_s74 = true := by decide +kernel
theorem am_k75_ok : am_c75.all (am_eok am_s75) = true := by decide +kernel
theorem am_h75_ok : am_sok am_s75 = true := by decide +kernel
theorem am_k76_ok : am_c76.all (am_eok am_s76) = true := by decide +kernel
theorem am_h76_ok : am_sok am_s76 = true := by decide +kernel
theorem am_k77_0_ok : am_c77_0.all (am_eok am_s77) = true := by decide +kernel
theorem am_k77_1_ok : am_c77_1.all (am_eok am_s77) = true := by decide +kernel
theorem am_k77_ok : am_c77.all (am_eok am_s77) = true := am_all_app am_k77_0_ok am_k77_1_ok
theorem am_h77_ok : am_sok am_s77 = true := by decide +kernel
theorem am_k78_ok : am_c78.all (am_eok am_s78) = true := by decide +kernel
theorem am_h78_ok : am_sok am_s78 = true := by decide +kernel
theorem am_k79_ok : am_c79.all (am_eok am_s79) = true := by decide +kernel
theorem am_h79_ok : am_sok am_s79 = true := by decide +kernel
theorem am_k80_ok : am_c80.all (am_eok am_s80) = true := by decide +kernel
theorem am_h80_ok : am_sok am_s80 = true := by decide +kernel
theorem am_k81_ok : am_c81.all (am_eok am_s81) = true := by decide +kernel
theorem am_h81_ok : am_sok am_s81 = true := by decide +kernel
theorem am_k82_ok : am_c82.all (am_eok am_s82) = true := by decide +kernel
theorem am_h82_ok : am_sok am_s82 = true := by decide +kernel
theorem am_k83_ok : am_c83.all (am_eok am_s83) = true := by decide +kernel
theorem am_h83_ok : am_sok am_s83 = true := by decide +kernel
theorem am_k84_ok : am_c84.all (am_eok am_s84) = true := by decide +kernel
theorem am_h84_ok : am_sok am_s84 = true := by decide +kernel
theorem am_k85_ok : am_c85.all (am_eok am_s85) = true := by decide +kernel
theorem am_h85_ok : am_sok am_s85 = true := by decide +kernel
theorem am_k86_ok : am_c86.all (am_eok am_s86) = true := by decide +kernel
theorem am_h86_ok : am_sok am_s86 = true := by decide +kernel
theorem am_k87_ok : am_c87.all (am_eok am_s87) = true := by decide +kernel
theorem am_h87_ok : am_sok am_s87 = true := by decide +kernel
theorem am_k88_ok : am_c88.all (am_eok am_s88) = true := by decide +kernel
end
section
/-! Every table agrees with the class files: checked by counting. -/
theorem am_h88_ok : am_sok am_s88 = true := by decide +kernel
theorem am_k89_ok : am_c89.all (am_eok am_s89) = true := by decide +kernel
theorem am_h89_ok : am_sok am_s89 = true := by decide +kernel
theorem am_k90_ok : am_c90.all (am_eok am_s90) = true := by decide +kernel
theorem am_h90_ok : am_sok am_s90 = true := by decide +kernel
theorem am_k91_0_ok : am_c91_0.all (am_eok am_s91) = true := by decide +kernel
theorem am_k91_1_ok : am_c91_1.all (am_eok am_s91) = true := by decide +kernel
theorem am_k91_ok : am_c91.all (am_eok am_s91) = true := am_all_app am_k91_0_ok am_k91_1_ok
theorem am_h91_ok : am_sok am_s91 = true := by decide +kernel
theorem am_k92_ok : am_c92.all (am_eok am_s92) = true := by decide +kernel
theorem am_h92_ok : am_sok am_s92 = true := by decide +kernel
theorem am_k93_ok : am_c93.all (am_eok am_s93) = true := by decide +kernel
theorem am_h93_ok : am_sok am_s93 = true := by decide +kernel
theorem am_k94_ok : am_c94.all (am_eok am_s94) = true := by decide +kernel
theorem am_h94_ok : am_sok am_s94 = true := by decide +kernel
theorem am_k95_0_ok : am_c95_0.all (am_eok am_s95) = true := by decide +kernel
theorem am_k95_1_ok : am_c95_1.all (am_eok am_s95) = true := by decide +kernel
theorem am_k95_ok : am_c95.all (am_eok am_s95) = true := am_all_app am_k95_0_ok am_k95_1_ok
theorem am_h95_ok : am_sok am_s95 = true := by decide +kernel
theorem am_k96_ok : am_c96.all (am_eok am_s96) = true := by decide +kernel
theorem am_h96_ok : am_sok am_s96 = true := by decide +kernel
theorem am_k97_ok : am_c97.all (am_eok am_s97) = true := by decide +kernel
theorem am_h97_ok : am_sok am_s97 = true := by decide +kernel
theorem am_k98_ok : am_c98.all (am_eok am_s98) = true := by decide +kernel
theorem am_h98_ok : am_sok am_s98 = true := by decide +kernel
theorem am_k99_ok : am_c99.all (am_eok am_s99) = true := by decide +kernel
theorem am_h99_ok : am_sok am_s99 = true := by decide +kernel
theorem am_k100_0_ok : am_c100_0.all (am_eok am_s100) = true := by decide +kernel
theorem am_k100_1_ok : am_c100_1.all (am_eok am_s100) = true := by decide +kernel
theorem am_k100_ok : am_c100.all (am_eok am_s100) = true := am_all_app am_k100_0_ok am_k100_1_ok
theorem am_h100_ok : am_sok am_s100 = true := by decide +kernel
theorem am_k101_ok : am_c101.all (am_eok am_s101) = true := by decide +kernel
theorem am_h101_ok : am_sok am_s101 = true := by decide +kernel
theorem am_k102_ok : am_c102.all (am_eok am_s102) = true := by decide +kernel
theorem am_h102_ok : am_sok am_s102 = true := by decide +kernel
theorem am_k103_ok : am_c103.all (am_eok am_s103) = true := by decide +kernel
theorem am_h103_ok : am_sok am_s103 = true := by decide +kernel
theorem am_k104_ok : am_c104.all (am_eok am_s104) = true := by decide +kernel
theorem am_h104_ok : am_sok am_s104 = true := by decide +kernel
theorem am_k105_ok : am_c105.all (am_eok am_s105) = true := by decide +kernel
theorem am_h105_ok : am_sok am_s105 = true := by decide +kernel
theorem am_k106_ok : am_c106.all (am_eok am_s106) = true := by decide +kernel
theorem am_h106_ok : am_sok am_s106 = true := by decide +kernel
theorem am_k107_ok : am_c107.all (am_eok am_s107) = true := by decide +kernel
theorem am_h107_ok : am_sok am_s107 = true := by decide +kernel
theorem am_k108_0_ok : am_c108_0.all (am_eok am_s108) = true := by decide +kernel
theorem am_k108_1_ok : am_c108_1.all (am_eok am_s108) = true := by decide +kernel
theorem am_k108_ok : am_c108.all (am_eok am_s108) = true := am_all_app am_k108_0_ok am_k108_1_ok
theorem am_h108_ok : am_sok am_s108 = true := by decide +kernel
theorem am_k109_ok : am_c109.all (am_eok am_s109) = true := by decide +kernel
theorem am_h109_ok : am_sok am_s109 = true := by decide +kernel
theorem am_k110_ok : am_c110.all (am_eok am_s110) = true := by decide +kernel
theorem am_h110_ok : am_sok am_s110 = true := by decide +kernel
theorem am_k111_ok : am_c111.all (am_eok am_s111) = true := by decide +kernel
theorem am_h111_ok : am_sok am_s111 = true := by decide +kernel
theorem am_k112_ok : am_c112.all (am_eok am_s112) = true := by decide +kernel
theorem am_h112_ok : am_sok am_s112 = true := by decide +kernel
theorem am_k113_ok : am_c113.all (am_eok am_s113) = true := by decide +kernel
theorem am_h113_ok : am_sok am_s113 = true := by decide +kernel
theorem am_k114_ok : am_c114.all (am_eok am_s114) = true := by decide +kernel
theorem am_h114_ok : am_sok am_s114 = true := by decide +kernel
theorem am_k115_ok : am_c115.all (am_eok am_s115) = true := by decide +kernel
theorem am_h115_ok : am_sok am_s115 = true := by decide +kernel
theorem am_k116_ok : am_c116.all (am_eok am_s116) = true := by decide +kernel
theorem am_h116_ok : am_sok am_s116 = true := by decide +kernel
theorem am_k117_ok : am_c117.all (am_eok am_s117) = true := by decide +kernel
theorem am_h117_ok : am_sok am_s117 = true := by decide +kernel
theorem am_k118_ok : am_c118.all (am_eok am_s118) = true := by decide +kernel
theorem am_h118_ok : am_sok am_s118 = true := by decide +kernel
theorem am_k119_ok : am_c119.all (am_eok am_s119) = true := by decide +kernel
theorem am_h119_ok : am_sok am_s119 = true := by decide +kernel
theorem am_k120_ok : am_c120.all (am_eok am_s120) = true := by decide +kernel
theorem am_h120_ok : am_sok am_s120 = true := by decide +kernel
theorem am_k121_ok : am_c121.all (am_eok am_s121) = true := by decide +kernel
theorem am_h121_ok : am_sok am_s121 = true := by decide +kernel
theorem am_k122_ok : am_c122.all (am_eok am_s122) = true := by decide +kernel
theorem am_h122_ok : am_sok am_s122 = true := by decide +kernel
theorem am_k123_ok : am_c123.all (am_eok am_s123) = true := by decide +kernel
theorem am_h123_ok : am_sok am_s123 = true := by decide +kernel
theorem am_k124_ok : am_c124.all (am_eok am_s124) = true := by decide +kernel
theorem am_h124_ok : am_sok am_s124 = true := by decide +kernel
theorem am_k125_ok : am_c125.all (am_eok am_s125) = true := by decide +kernel
theorem am_h125_ok : am_sok am_s125 = true := by decide +kernel
theorem am_k126_0_ok : am_c126_0.all (am_eok am_s126) = true := by decide +kernel
end
section
/-! Every table agrees with the class files: checked by counting. -/
theorem am_k126_1_ok : am_c126_1.all (am_eok am_s126) = true := by decide +kernel
theorem am_k126_2_ok : am_c126_2.all (am_eok am_s126) = true := by decide +kernel
theorem am_k126_3_ok : am_c126_3.all (am_eok am_s126) = true := by decide +kernel
theorem am_k126_4_ok : am_c126_4.all (am_eok am_s126) = true := by decide +kernel
end
section
/-! Every table agrees with the class files: checked by counting. -/
theorem am_k126_5_ok : am_c126_5.all (am_eok am_s126) = true := by decide +kernel
theorem am_k126_6_ok : am_c126_6.all (am_eok am_s126) = true := by decide +kernel
theorem am_k126_7_ok : am_c126_7.all (am_eok am_s126) = true := by decide +kernel
theorem am_k126_8_ok : am_c126_8.all (am_eok am_s126) = true := by decide +kernel
end
section
/-! Every table agrees with the class files: checked by counting. -/
theorem am_k126_9_ok : am_c126_9.all (am_eok am_s126) = true := by decide +kernel
theorem am_k126_10_ok : am_c126_10.all (am_eok am_s126) = true := by decide +kernel
theorem am_k126_11_ok : am_c126_11.all (am_eok am_s126) = true := by decide +kernel
theorem am_k126_12_ok : am_c126_12.all (am_eok am_s126) = true := by decide +kernel
theorem am_k126_ok : am_c126.all (am_eok am_s126) = true := am_all_app am_k126_0_ok (am_all_app am_k126_1_ok (am_all_app am_k126_2_ok (am_all_app am_k126_3_ok (am_all_app am_k126_4_ok (am_all_app am_k126_5_ok (am_all_app am_k126_6_ok (am_all_app am_k126_7_ok (am_all_app am_k126_8_ok (am_all_app am_k126_9_ok (am_all_app am_k126_10_ok (am_all_app am_k126_11_ok am_k126_12_ok)))))))))))
theorem am_h126_ok : am_sok am_s126 = true := by decide +kernel
theorem am_k127_ok : am_c127.all (am_eok am_s127) = true := by decide +kernel
theorem am_h127_ok : am_sok am_s127 = true := by decide +kernel
theorem am_k128_ok : am_c128.all (am_eok am_s128) = true := by decide +kernel
theorem am_h128_ok : am_sok am_s128 = true := by decide +kernel
theorem am_k129_ok : am_c129.all (am_eok am_s129) = true := by decide +kernel
theorem am_h129_ok : am_sok am_s129 = true := by decide +kernel
theorem am_k130_ok : am_c130.all (am_eok am_s130) = true := by decide +kernel
theorem am_h130_ok : am_sok am_s130 = true := by decide +kernel
theorem am_k131_ok : am_c131.all (am_eok am_s131) = true := by decide +kernel
theorem am_h131_ok : am_sok am_s131 = true := by decide +kernel
theorem am_k132_ok : am_c132.all (am_eok am_s132) = true := by decide +kernel
theorem am_h132_ok : am_sok am_s132 = true := by decide +kernel
theorem am_k133_ok : am_c133.all (am_eok am_s133) = true := by decide +kernel
theorem am_h133_ok : am_sok am_s133 = true := by decide +kernel
theorem am_k134_ok : am_c134.all (am_eok am_s134) = true := by decide +kernel
theorem am_h134_ok : am_sok am_s134 = true := by decide +kernel
theorem am_k135_ok : am_c135.all (am_eok am_s135) = true := by decide +kernel
theorem am_h135_ok : am_sok am_s135 = true := by decide +kernel
theorem am_k136_ok : am_c136.all (am_eok am_s136) = true := by decide +kernel
theorem am_h136_ok : am_sok am_s136 = true := by decide +kernel
theorem am_k137_ok : am_c137.all (am_eok am_s137) = true := by decide +kernel
theorem am_h137_ok : am_sok am_s137 = true := by decide +kernel
theorem am_k138_ok : am_c138.all (am_eok am_s138) = true := by decide +kernel
theorem am_h138_ok : am_sok am_s138 = true := by decide +kernel
theorem am_k139_ok : am_c139.all (am_eok am_s139) = true := by decide +kernel
theorem am_h139_ok : am_sok am_s139 = true := by decide +kernel
theorem am_k140_0_ok : am_c140_0.all (am_eok am_s140) = true := by decide +kernel
end
section
/-! Every table agrees with the class files: checked by counting. -/
theorem am_k140_1_ok : am_c140_1.all (am_eok am_s140) = true := by decide +kernel
theorem am_k140_ok : am_c140.all (am_eok am_s140) = true := am_all_app am_k140_0_ok am_k140_1_ok
theorem am_h140_ok : am_sok am_s140 = true := by decide +kernel
theorem am_k141_ok : am_c141.all (am_eok am_s141) = true := by decide +kernel
theorem am_h141_ok : am_sok am_s141 = true := by decide +kernel
theorem am_k142_ok : am_c142.all (am_eok am_s142) = true := by decide +kernel
theorem am_h142_ok : am_sok am_s142 = true := by decide +kernel
theorem am_k143_ok : am_c143.all (am_eok am_s143) = true := by decide +kernel
theorem am_h143_ok : am_sok am_s143 = true := by decide +kernel
theorem am_k144_ok : am_c144.all (am_eok am_s144) = true := by decide +kernel
theorem am_h144_ok : am_sok am_s144 = true := by decide +kernel
theorem am_k145_ok : am_c145.all (am_eok am_s145) = true := by decide +kernel
theorem am_h145_ok : am_sok am_s145 = true := by decide +kernel
theorem am_k146_ok : am_c146.all (am_eok am_s146) = true := by decide +kernel
theorem am_h146_ok : am_sok am_s146 = true := by decide +kernel
theorem am_k147_ok : am_c147.all (am_eok am_s147) = true := by decide +kernel
theorem am_h147_ok : am_sok am_s147 = true := by decide +kernel
theorem am_k148_ok : am_c148.all (am_eok am_s148) = true := by decide +kernel
theorem am_h148_ok : am_sok am_s148 = true := by decide +kernel
theorem am_k149_0_ok : am_c149_0.all (am_eok am_s149) = true := by decide +kernel
theorem am_k149_1_ok : am_c149_1.all (am_eok am_s149) = true := by decide +kernel
theorem am_k149_ok : am_c149.all (am_eok am_s149) = true := am_all_app am_k149_0_ok am_k149_1_ok
theorem am_h149_ok : am_sok am_s149 = true := by decide +kernel
theorem am_k150_ok : am_c150.all (am_eok am_s150) = true := by decide +kernel
theorem am_h150_ok : am_sok am_s150 = true := by decide +kernel
theorem am_k151_ok : am_c151.all (am_eok am_s151) = true := by decide +kernel
theorem am_h151_ok : am_sok am_s151 = true := by decide +kernel
theorem am_k152_ok : am_c152.all (am_eok am_s152) = true := by decide +kernel
theorem am_h152_ok : am_sok am_s152 = true := by decide +kernel
theorem am_k153_ok : am_c153.all (am_eok am_s153) = true := by decide +kernel
theorem am_h153_ok : am_sok am_s153 = true := by decide +kernel
theorem am_k154_0_ok : am_c154_0.all (am_eok am_s154) = true := by decide +kernel
theorem am_k154_1_ok : am_c154_1.all (am_eok am_s154) = true := by decide +kernel
theorem am_k154_ok : am_c154.all (am_eok am_s154) = true := am_all_app am_k154_0_ok am_k154_1_ok
theorem am_h154_ok : am_sok am_s154 = true := by decide +kernel
theorem am_k155_0_ok : am_c155_0.all (am_eok am_s155) = true := by decide +kernel
theorem am_k155_1_ok : am_c155_1.all (am_eok am_s155) = true := by decide +kernel
theorem am_k155_ok : am_c155.all (am_eok am_s155) = true := am_all_app am_k155_0_ok am_k155_1_ok
theorem am_h155_ok : am_sok am_s155 = true := by decide +kernel
theorem am_k156_0_ok : am_c156_0.all (am_eok am_s156) = true := by decide +kernel
theorem am_k156_1_ok : am_c156_1.all (am_eok am_s156) = true := by decide +kernel
theorem am_k156_ok : am_c156.all (am_eok am_s156) = true := am_all_app am_k156_0_ok am_k156_1_ok
theorem am_h156_ok : am_sok am_s156 = true := by decide +kernel
theorem am_k157_ok : am_c157.all (am_eok am_s157) = true := by decide +kernel
theorem am_h157_ok : am_sok am_s157 = true := by decide +kernel
theorem am_k158_ok : am_c158.all (am_eok am_s158) = true := by decide +kernel
theorem am_h158_ok : am_sok am_s158 = true := by decide +kernel
theorem am_k159_ok : am_c159.all (am_eok am_s159) = true := by decide +kernel
theorem am_h159_ok : am_sok am_s159 = true := by decide +kernel
theorem am_k160_ok : am_c160.all (am_eok am_s160) = true := by decide +kernel
theorem am_h160_ok : am_sok am_s160 = true := by decide +kernel
theorem am_k161_ok : am_c161.all (am_eok am_s161) = true := by decide +kernel
theorem am_h161_ok : am_sok am_s161 = true := by decide +kernel
theorem am_k162_ok : am_c162.all (am_eok am_s162) = true := by decide +kernel
theorem am_h162_ok : am_sok am_s162 = true := by decide +kernel
theorem am_k163_ok : am_c163.all (am_eok am_s163) = true := by decide +kernel
theorem am_h163_ok : am_sok am_s163 = true := by decide +kernel
theorem am_k164_ok : am_c164.all (am_eok am_s164) = true := by decide +kernel
theorem am_h164_ok : am_sok am_s164 = true := by decide +kernel
theorem am_k165_ok : am_c165.all (am_eok am_s165) = true := by decide +kernel
theorem am_h165_ok : am_sok am_s165 = true := by decide +kernel
theorem am_k166_ok : am_c166.all (am_eok am_s166) = true := by decide +kernel
theorem am_h166_ok : am_sok am_s166 = true := by decide +kernel
theorem am_k167_ok : am_c167.all (am_eok am_s167) = true := by decide +kernel
theorem am_h167_ok : am_sok am_s167 = true := by decide +kernel
theorem am_k168_ok : am_c168.all (am_eok am_s168) = true := by decide +kernel
theorem am_h168_ok : am_sok am_s168 = true := by decide +kernel
theorem am_k169_ok : am_c169.all (am_eok am_s169) = true := by decide +kernel
theorem am_h169_ok : am_sok am_s169 = true := by decide +kernel
theorem am_k170_ok : am_c170.all (am_eok am_s170) = true := by decide +kernel
theorem am_h170_ok : am_sok am_s170 = true := by decide +kernel
theorem am_k171_ok : am_c171.all (am_eok am_s171) = true := by decide +kernel
theorem am_h171_ok : am_sok am_s171 = true := by decide +kernel
theorem am_k172_ok : am_c172.all (am_eok am_s172) = true := by decide +kernel
theorem am_h172_ok : am_sok am_s172 = true := by decide +kernel
theorem am_k173_ok : am_c173.all (am_eok am_s173) = true := by decide +kernel
theorem am_h173_ok : am_sok am_s173 = true := by decide +kernel
theorem am_k174_ok : am_c174.all (am_eok am_s174) = true := by decide +kernel
theorem am_h174_ok : am_sok am_s174 = true := by decide +kernel
theorem am_k175_ok : am_c175.all (am_eok am_s175) = true := by decide +kernel
theorem am_h175_ok : am_sok am_s175 = true := by decide +kernel
theorem am_k176_ok : am_c176.all (am_eok am_s176) = true := by decide +kernel
theorem am_h176_ok : am_sok am_s176 = true := by decide +kernel
theorem am_k177_ok : am_c177.all (am_eok am_s177) = true := by decide +kernel
theorem am_h177_ok : am_sok am_s177 = true := by decide +kernel
theorem am_k178_ok : am_c178.all (am_eok am_s178) = true := by decide +kernel
theorem am_h178_ok : am_sok am_s178 = true := by decide +kernel
theorem am_k179_ok : am_c179.all (am_eok am_s179) = true := by decide +kernel
theorem am_h179_ok : am_sok am_s179 = true := by decide +kernel
theorem am_k180_ok : am_c180.all (am_eok am_s180) = true := by decide +kernel
theorem am_h180_ok : am_sok am_s180 = true := by decide +kernel
theorem am_k181_ok : am_c181.all (am_eok am_s181) = true := by decide +kernel
theorem am_h181_ok : am_sok am_s181 = true := by decide +kernel
theorem am_k182_ok : am_c182.all (am_eok am_s182) = true := by decide +kernel
theorem am_h182_ok : am_sok am_s182 = true := by decide +kernel
theorem am_k183_ok : am_c183.all (am_eok am_s183) = true := by decide +kernel
theorem am_h183_ok : am_sok am_s183 = true := by decide +kernel
theorem am_k184_ok : am_c184.all (am_eok am_s184) = true := by decide +kernel
theorem am_h184_ok : am_sok am_s184 = true := by decide +kernel
theorem am_k185_ok : am_c185.all (am_eok am_s185) = true := by decide +kernel
theorem am_h185_ok : am_sok am_s185 = true := by decide +kernel
theorem am_k186_0_ok : am_c186_0.all (am_eok am_s186) = true := by decide +kernel
theorem am_k186_1_ok : am_c186_1.all (am_eok am_s186) = true := by decide +kernel
theorem am_k186_ok : am_c186.all (am_eok am_s186) = true := am_all_app am_k186_0_ok am_k186_1_ok
theorem am_h186_ok : am_sok am_s186 = true := by decide +kernel
theorem am_k187_ok : am_c187.all (am_eok am_s187) = true := by decide +kernel
theorem am_h187_ok : am_sok am_s187 = true := by decide +kernel
theorem am_k188_ok : am_c188.all (am_eok am_s188) = true := by decide +kernel
theorem am_h188_ok : am_sok am_s188 = true := by decide +kernel
theorem am_k189_ok : am_c189.all (am_eok am_s189) = true := by decide +kernel
theorem am_h189_ok : am_sok am_s189 = true := by decide +kernel
theorem am_k190_ok : am_c190.all (am_eok am_s190) = true := by decide +kernel
theorem am_h190_ok : am_sok am_s190 = true := by decide +kernel
theorem am_k191_ok : am_c191.all (am_eok am_s191) = true := by decide +kernel
theorem am_h191_ok : am_sok am_s191 = true := by decide +kernel
theorem am_k192_ok : am_c192.all (am_eok am_s192) = true := by decide +kernel
theorem am_h192_ok : am_sok am_s192 = true := by decide +kernel
theorem am_k193_ok : am_c193.all (am_eok am_s193) = true := by decide +kernel
theorem am_h193_ok : am_sok am_s193 = true := by decide +kernel
theorem am_k194_ok : am_c194.all (am_eok am_s194) = true := by decide +kernel
theorem am_h194_ok : am_sok am_s194 = true := by decide +kernel
theorem am_k195_ok : am_c195.all (am_eok am_s195) = true := by decide +kernel
theorem am_h195_ok : am_sok am_s195 = true := by decide +kernel
theorem am_k196_ok : am_c196.all (am_eok am_s196) = true := by decide +kernel
theorem am_h196_ok : am_sok am_s196 = true := by decide +kernel
theorem am_k197_ok : am_c197.all (am_eok am_s197) = true := by decide +kernel
end
section
/-! Every table agrees with the class files: checked by counting. -/
theorem am_h197_ok : am_sok am_s197 = true := by decide +kernel
theorem am_k198_ok : am_c198.all (am_eok am_s198) = true := by decide +kernel
theorem am_h198_ok : am_sok am_s198 = true := by decide +kernel
theorem am_k199_ok : am_c199.all (am_eok am_s199) = true := by decide +kernel
theorem am_h199_ok : am_sok am_s199 = true := by decide +kernel
theorem am_k200_ok : am_c200.all (am_eok am_s200) = true := by decide +kernel
theorem am_h200_ok : am_sok am_s200 = true := by decide +kernel
theorem am_k201_ok : am_c201.all (am_eok am_s201) = true := by decide +kernel
theorem am_h201_ok : am_sok am_s201 = true := by decide +kernel
theorem am_k202_ok : am_c202.all (am_eok am_s202) = true := by decide +kernel
theorem am_h202_ok : am_sok am_s202 = true := by decide +kernel
theorem am_k203_ok : am_c203.all (am_eok am_s203) = true := by decide +kernel
theorem am_h203_ok : am_sok am_s203 = true := by decide +kernel
theorem am_k204_ok : am_c204.all (am_eok am_s204) = true := by decide +kernel
theorem am_h204_ok : am_sok am_s204 = true := by decide +kernel
theorem am_k205_ok : am_c205.all (am_eok am_s205) = true := by decide +kernel
theorem am_h205_ok : am_sok am_s205 = true := by decide +kernel
theorem am_k206_ok : am_c206.all (am_eok am_s206) = true := by decide +kernel
theorem am_h206_ok : am_sok am_s206 = true := by decide +kernel
theorem am_k207_ok : am_c207.all (am_eok am_s207) = true := by decide +kernel
theorem am_h207_ok : am_sok am_s207 = true := by decide +kernel
theorem am_k208_ok : am_c208.all (am_eok am_s208) = true := by decide +kernel
theorem am_h208_ok : am_sok am_s208 = true := by decide +kernel
theorem am_k209_ok : am_c209.all (am_eok am_s209) = true := by decide +kernel
theorem am_h209_ok : am_sok am_s209 = true := by decide +kernel
theorem am_k210_ok : am_c210.all (am_eok am_s210) = true := by decide +kernel
theorem am_h210_ok : am_sok am_s210 = true := by decide +kernel
theorem am_k211_ok : am_c211.all (am_eok am_s211) = true := by decide +kernel
theorem am_h211_ok : am_sok am_s211 = true := by decide +kernel
theorem am_k212_ok : am_c212.all (am_eok am_s212) = true := by decide +kernel
theorem am_h212_ok : am_sok am_s212 = true := by decide +kernel
theorem am_k213_ok : am_c213.all (am_eok am_s213) = true := by decide +kernel
theorem am_h213_ok : am_sok am_s213 = true := by decide +kernel
theorem am_k214_ok : am_c214.all (am_eok am_s214) = true := by decide +kernel
theorem am_h214_ok : am_sok am_s214 = true := by decide +kernel
theorem am_k215_ok : am_c215.all (am_eok am_s215) = true := by decide +kernel
theorem am_h215_ok : am_sok am_s215 = true := by decide +kernel
theorem am_k216_ok : am_c216.all (am_eok am_s216) = true := by decide +kernel
theorem am_h216_ok : am_sok am_s216 = true := by decide +kernel
theorem am_k217_ok : am_c217.all (am_eok am_s217) = true := by decide +kernel
theorem am_h217_ok : am_sok am_s217 = true := by decide +kernel
theorem am_k218_ok : am_c218.all (am_eok am_s218) = true := by decide +kernel
theorem am_h218_ok : am_sok am_s218 = true := by decide +kernel
theorem am_k219_ok : am_c219.all (am_eok am_s219) = true := by decide +kernel
theorem am_h219_ok : am_sok am_s219 = true := by decide +kernel
theorem am_k220_ok : am_c220.all (am_eok am_s220) = true := by decide +kernel
theorem am_h220_ok : am_sok am_s220 = true := by decide +kernel
theorem am_k221_ok : am_c221.all (am_eok am_s221) = true := by decide +kernel
theorem am_h221_ok : am_sok am_s221 = true := by decide +kernel
theorem am_k222_ok : am_c222.all (am_eok am_s222) = true := by decide +kernel
theorem am_h222_ok : am_sok am_s222 = true := by decide +kernel
theorem am_k223_ok : am_c223.all (am_eok am_s223) = true := by decide +kernel
theorem am_h223_ok : am_sok am_s223 = true := by decide +kernel
theorem am_k224_ok : am_c224.all (am_eok am_s224) = true := by decide +kernel
theorem am_h224_ok : am_sok am_s224 = true := by decide +kernel
theorem am_k225_ok : am_c225.all (am_eok am_s225) = true := by decide +kernel
theorem am_h225_ok : am_sok am_s225 = true := by decide +kernel
theorem am_k226_ok : am_c226.all (am_eok am_s226) = true := by decide +kernel
theorem am_h226_ok : am_sok am_s226 = true := by decide +kernel
theorem am_k227_ok : am_c227.all (am_eok am_s227) = true := by decide +kernel
theorem am_h227_ok : am_sok am_s227 = true := by decide +kernel
theorem am_k228_ok : am_c228.all (am_eok am_s228) = true := by decide +kernel
theorem am_h228_ok : am_sok am_s228 = true := by decide +kernel
theorem am_k229_ok : am_c229.all (am_eok am_s229) = true := by decide +kernel
theorem am_h229_ok : am_sok am_s229 = true := by decide +kernel
theorem am_k230_ok : am_c230.all (am_eok am_s230) = true := by decide +kernel
theorem am_h230_ok : am_sok am_s230 = true := by decide +kernel
theorem am_k231_ok : am_c231.all (am_eok am_s231) = true := by decide +kernel
theorem am_h231_ok : am_sok am_s231 = true := by decide +kernel
theorem am_k232_ok : am_c232.all (am_eok am_s232) = true := by decide +kernel
theorem am_h232_ok : am_sok am_s232 = true := by decide +kernel
theorem am_k233_ok : am_c233.all (am_eok am_s233) = true := by decide +kernel
theorem am_h233_ok : am_sok am_s233 = true := by decide +kernel
theorem am_k234_ok : am_c234.all (am_eok am_s234) = true := by decide +kernel
theorem am_h234_ok : am_sok am_s234 = true := by decide +kernel
theorem am_k235_ok : am_c235.all (am_eok am_s235) = true := by decide +kernel
theorem am_h235_ok : am_sok am_s235 = true := by decide +kernel
theorem am_k236_ok : am_c236.all (am_eok am_s236) = true := by decide +kernel
theorem am_h236_ok : am_sok am_s236 = true := by decide +kernel
theorem am_k237_ok : am_c237.all (am_eok am_s237) = true := by decide +kernel
theorem am_h237_ok : am_sok am_s237 = true := by decide +kernel
theorem am_k238_ok : am_c238.all (am_eok am_s238) = true := by decide +kernel
theorem am_h238_ok : am_sok am_s238 = true := by decide +kernel
theorem am_k239_ok : am_c239.all (am_eok am_s239) = true := by decide +kernel
theorem am_h239_ok : am_sok am_s239 = true := by decide +kernel
theorem am_k240_ok : am_c240.all (am_eok am_s240) = true := by decide +kernel
theorem am_h240_ok : am_sok am_s240 = true := by decide +kernel
theorem am_k241_ok : am_c241.all (am_eok am_s241) = true := by decide +kernel
theorem am_h241_ok : am_sok am_s241 = true := by decide +kernel
theorem am_k242_ok : am_c242.all (am_eok am_s242) = true := by decide +kernel
theorem am_h242_ok : am_sok am_s242 = true := by decide +kernel
theorem am_k243_0_ok : am_c243_0.all (am_eok am_s243) = true := by decide +kernel
theorem am_k243_1_ok : am_c243_1.all (am_eok am_s243) = true := by decide +kernel
theorem am_k243_ok : am_c243.all (am_eok am_s243) = true := am_all_app am_k243_0_ok am_k243_1_ok
theorem am_h243_ok : am_sok am_s243 = true := by decide +kernel
theorem am_k244_0_ok : am_c244_0.all (am_eok am_s244) = true := by decide +kernel
theorem am_k244_1_ok : am_c244_1.all (am_eok am_s244) = true := by decide +kernel
theorem am_k244_2_ok : am_c244_2.all (am_eok am_s244) = true := by decide +kernel
theorem am_k244_ok : am_c244.all (am_eok am_s244) = true := am_all_app am_k244_0_ok (am_all_app am_k244_1_ok am_k244_2_ok)
theorem am_h244_ok : am_sok am_s244 = true := by decide +kernel
theorem am_k245_ok : am_c245.all (am_eok am_s245) = true := by decide +kernel
theorem am_h245_ok : am_sok am_s245 = true := by decide +kernel
theorem am_k246_ok : am_c246.all (am_eok am_s246) = true := by decide +kernel
theorem am_h246_ok : am_sok am_s246 = true := by decide +kernel
theorem am_k247_ok : am_c247.all (am_eok am_s247) = true := by decide +kernel
theorem am_h247_ok : am_sok am_s247 = true := by decide +kernel
theorem am_k248_ok : am_c248.all (am_eok am_s248) = true := by decide +kernel
theorem am_h248_ok : am_sok am_s248 = true := by decide +kernel
theorem am_k249_ok : am_c249.all (am_eok am_s249) = true := by decide +kernel
theorem am_h249_ok : am_sok am_s249 = true := by decide +kernel
theorem am_k250_0_ok : am_c250_0.all (am_eok am_s250) = true := by decide +kernel
end
section
/-! Every table agrees with the class files: checked by counting. -/
theorem am_k250_1_ok : am_c250_1.all (am_eok am_s250) = true := by decide +kernel
theorem am_k250_ok : am_c250.all (am_eok am_s250) = true := am_all_app am_k250_0_ok am_k250_1_ok
theorem am_h250_ok : am_sok am_s250 = true := by decide +kernel
theorem am_k251_ok : am_c251.all (am_eok am_s251) = true := by decide +kernel
theorem am_h251_ok : am_sok am_s251 = true := by decide +kernel
theorem am_k252_ok : am_c252.all (am_eok am_s252) = true := by decide +kernel
theorem am_h252_ok : am_sok am_s252 = true := by decide +kernel
theorem am_k253_ok : am_c253.all (am_eok am_s253) = true := by decide +kernel
theorem am_h253_ok : am_sok am_s253 = true := by decide +kernel
theorem am_k254_0_ok : am_c254_0.all (am_eok am_s254) = true := by decide +kernel
theorem am_k254_1_ok : am_c254_1.all (am_eok am_s254) = true := by decide +kernel
theorem am_k254_ok : am_c254.all (am_eok am_s254) = true := am_all_app am_k254_0_ok am_k254_1_ok
theorem am_h254_ok : am_sok am_s254 = true := by decide +kernel
theorem am_k255_ok : am_c255.all (am_eok am_s255) = true := by decide +kernel
theorem am_h255_ok : am_sok am_s255 = true := by decide +kernel
theorem am_k256_ok : am_c256.all (am_eok am_s256) = true := by decide +kernel
theorem am_h256_ok : am_sok am_s256 = true := by decide +kernel
theorem am_k257_ok : am_c257.all (am_eok am_s257) = true := by decide +kernel
theorem am_h257_ok : am_sok am_s257 = true := by decide +kernel
theorem am_k258_ok : am_c258.all (am_eok am_s258) = true := by decide +kernel
theorem am_h258_ok : am_sok am_s258 = true := by decide +kernel
theorem am_k259_ok : am_c259.all (am_eok am_s259) = true := by decide +kernel
theorem am_h259_ok : am_sok am_s259 = true := by decide +kernel
theorem am_k260_0_ok : am_c260_0.all (am_eok am_s260) = true := by decide +kernel
theorem am_k260_1_ok : am_c260_1.all (am_eok am_s260) = true := by decide +kernel
theorem am_k260_ok : am_c260.all (am_eok am_s260) = true := am_all_app am_k260_0_ok am_k260_1_ok
theorem am_h260_ok : am_sok am_s260 = true := by decide +kernel
theorem am_k261_ok : am_c261.all (am_eok am_s261) = true := by decide +kernel
theorem am_h261_ok : am_sok am_s261 = true := by decide +kernel
theorem am_k262_ok : am_c262.all (am_eok am_s262) = true := by decide +kernel
theorem am_h262_ok : am_sok am_s262 = true := by decide +kernel
theorem am_k263_ok : am_c263.all (am_eok am_s263) = true := by decide +kernel
theorem am_h263_ok : am_sok am_s263 = true := by decide +kernel
theorem am_k264_ok : am_c264.all (am_eok am_s264) = true := by decide +kernel
theorem am_h264_ok : am_sok am_s264 = true := by decide +kernel
theorem am_k265_ok : am_c265.all (am_eok am_s265) = true := by decide +kernel
theorem am_h265_ok : am_sok am_s265 = true := by decide +kernel
theorem am_k266_ok : am_c266.all (am_eok am_s266) = true := by decide +kernel
theorem am_h266_ok : am_sok am_s266 = true := by decide +kernel
theorem am_k267_ok : am_c267.all (am_eok am_s267) = true := by decide +kernel
theorem am_h267_ok : am_sok am_s267 = true := by decide +kernel
theorem am_k268_ok : am_c268.all (am_eok am_s268) = true := by decide +kernel
theorem am_h268_ok : am_sok am_s268 = true := by decide +kernel
theorem am_k269_ok : am_c269.all (am_eok am_s269) = true := by decide +kernel
theorem am_h269_ok : am_sok am_s269 = true := by decide +kernel
theorem am_k270_0_ok : am_c270_0.all (am_eok am_s270) = true := by decide +kernel
theorem am_k270_1_ok : am_c270_1.all (am_eok am_s270) = true := by decide +kernel
theorem am_k270_ok : am_c270.all (am_eok am_s270) = true := am_all_app am_k270_0_ok am_k270_1_ok
theorem am_h270_ok : am_sok am_s270 = true := by decide +kernel
theorem am_k271_ok : am_c271.all (am_eok am_s271) = true := by decide +kernel
theorem am_h271_ok : am_sok am_s271 = true := by decide +kernel
theorem am_k272_ok : am_c272.all (am_eok am_s272) = true := by decide +kernel
theorem am_h272_ok : am_sok am_s272 = true := by decide +kernel
theorem am_k273_ok : am_c273.all (am_eok am_s273) = true := by decide +kernel
theorem am_h273_ok : am_sok am_s273 = true := by decide +kernel
theorem am_k274_ok : am_c274.all (am_eok am_s274) = true := by decide +kernel
theorem am_h274_ok : am_sok am_s274 = true := by decide +kernel
theorem am_k275_ok : am_c275.all (am_eok am_s275) = true := by decide +kernel
theorem am_h275_ok : am_sok am_s275 = true := by decide +kernel
theorem am_k276_ok : am_c276.all (am_eok am_s276) = true := by decide +kernel
theorem am_h276_ok : am_sok am_s276 = true := by decide +kernel
theorem am_k277_ok : am_c277.all (am_eok am_s277) = true := by decide +kernel
theorem am_h277_ok : am_sok am_s277 = true := by decide +kernel
end
section
/-! Every code is the class files'. -/
theorem am_p0_ok : am_sop am_s0 := Or.inl rfl
theorem am_p1_ok : am_sop am_s1 := Or.inr rfl
theorem am_p2_ok : am_sop am_s2 := Or.inr rfl
theorem am_p3_ok : am_sop am_s3 := Or.inr rfl
theorem am_p4_ok : am_sop am_s4 := Or.inr rfl
theorem am_p5_ok : am_sop am_s5 := Or.inr rfl
theorem am_p6_ok : am_sop am_s6 := Or.inr rfl
theorem am_p7_ok : am_sop am_s7 := Or.inr rfl
theorem am_p8_ok : am_sop am_s8 := Or.inr rfl
theorem am_p9_ok : am_sop am_s9 := Or.inr rfl
theorem am_p10_ok : am_sop am_s10 := Or.inr rfl
theorem am_p11_ok : am_sop am_s11 := Or.inr rfl
theorem am_p12_ok : am_sop am_s12 := Or.inr rfl
theorem am_p13_ok : am_sop am_s13 := Or.inr rfl
theorem am_p14_ok : am_sop am_s14 := Or.inr rfl
theorem am_p15_ok : am_sop am_s15 := Or.inr rfl
theorem am_p16_ok : am_sop am_s16 := Or.inr rfl
theorem am_p17_ok : am_sop am_s17 := Or.inr rfl
theorem am_p18_ok : am_sop am_s18 := Or.inr rfl
theorem am_p19_ok : am_sop am_s19 := Or.inr rfl
theorem am_p20_ok : am_sop am_s20 := Or.inr rfl
theorem am_p21_ok : am_sop am_s21 := Or.inr rfl
theorem am_p22_ok : am_sop am_s22 := Or.inr rfl
theorem am_p23_ok : am_sop am_s23 := Or.inr rfl
theorem am_p24_ok : am_sop am_s24 := Or.inr rfl
theorem am_p25_ok : am_sop am_s25 := Or.inr rfl
theorem am_p26_ok : am_sop am_s26 := Or.inr rfl
theorem am_p27_ok : am_sop am_s27 := Or.inr rfl
theorem am_p28_ok : am_sop am_s28 := Or.inr rfl
theorem am_p29_ok : am_sop am_s29 := Or.inr rfl
theorem am_p30_ok : am_sop am_s30 := Or.inr rfl
theorem am_p31_ok : am_sop am_s31 := Or.inr rfl
theorem am_p32_ok : am_sop am_s32 := Or.inr rfl
theorem am_p33_ok : am_sop am_s33 := Or.inr rfl
theorem am_p34_ok : am_sop am_s34 := Or.inr rfl
theorem am_p35_ok : am_sop am_s35 := Or.inr rfl
theorem am_p36_ok : am_sop am_s36 := Or.inr rfl
theorem am_p37_ok : am_sop am_s37 := Or.inr rfl
theorem am_p38_ok : am_sop am_s38 := Or.inr rfl
theorem am_p39_ok : am_sop am_s39 := Or.inr rfl
theorem am_p40_ok : am_sop am_s40 := Or.inr rfl
theorem am_p41_ok : am_sop am_s41 := Or.inr rfl
theorem am_p42_ok : am_sop am_s42 := Or.inr rfl
theorem am_p43_ok : am_sop am_s43 := Or.inr rfl
theorem am_p44_ok : am_sop am_s44 := Or.inr rfl
theorem am_p45_ok : am_sop am_s45 := Or.inr rfl
theorem am_p46_ok : am_sop am_s46 := Or.inr rfl
theorem am_p47_ok : am_sop am_s47 := Or.inr rfl
theorem am_p48_ok : am_sop am_s48 := Or.inr rfl
theorem am_p49_ok : am_sop am_s49 := Or.inr rfl
theorem am_p50_ok : am_sop am_s50 := Or.inr rfl
theorem am_p51_ok : am_sop am_s51 := Or.inr rfl
theorem am_p52_ok : am_sop am_s52 := Or.inr rfl
theorem am_p53_ok : am_sop am_s53 := Or.inr rfl
theorem am_p54_ok : am_sop am_s54 := Or.inr rfl
theorem am_p55_ok : am_sop am_s55 := Or.inr rfl
theorem am_p56_ok : am_sop am_s56 := Or.inr rfl
theorem am_p57_ok : am_sop am_s57 := Or.inr rfl
theorem am_p58_ok : am_sop am_s58 := Or.inr rfl
theorem am_p59_ok : am_sop am_s59 := Or.inr rfl
theorem am_p60_ok : am_sop am_s60 := Or.inr rfl
theorem am_p61_ok : am_sop am_s61 := Or.inr rfl
theorem am_p62_ok : am_sop am_s62 := Or.inr rfl
theorem am_p63_ok : am_sop am_s63 := Or.inr rfl
theorem am_p64_ok : am_sop am_s64 := Or.inr rfl
theorem am_p65_ok : am_sop am_s65 := Or.inr rfl
theorem am_p66_ok : am_sop am_s66 := Or.inr rfl
theorem am_p67_ok : am_sop am_s67 := Or.inr rfl
theorem am_p68_ok : am_sop am_s68 := Or.inr rfl
theorem am_p69_ok : am_sop am_s69 := Or.inr rfl
theorem am_p70_ok : am_sop am_s70 := Or.inr rfl
theorem am_p71_ok : am_sop am_s71 := Or.inr rfl
theorem am_p72_ok : am_sop am_s72 := Or.inr rfl
theorem am_p73_ok : am_sop am_s73 := Or.inr rfl
theorem am_p74_ok : am_sop am_s74 := Or.inr rfl
theorem am_p75_ok : am_sop am_s75 := Or.inr rfl
theorem am_p76_ok : am_sop am_s76 := Or.inr rfl
theorem am_p77_ok : am_sop am_s77 := Or.inr rfl
theorem am_p78_ok : am_sop am_s78 := Or.inr rfl
theorem am_p79_ok : am_sop am_s79 := Or.inr rfl
theorem am_p80_ok : am_sop am_s80 := Or.inr rfl
theorem am_p81_ok : am_sop am_s81 := Or.inr rfl
theorem am_p82_ok : am_sop am_s82 := Or.inr rfl
theorem am_p83_ok : am_sop am_s83 := Or.inr rfl
theorem am_p84_ok : am_sop am_s84 := Or.inr rfl
theorem am_p85_ok : am_sop am_s85 := Or.inr rfl
theorem am_p86_ok : am_sop am_s86 := Or.inr rfl
theorem am_p87_ok : am_sop am_s87 := Or.inr rfl
theorem am_p88_ok : am_sop am_s88 := Or.inr rfl
theorem am_p89_ok : am_sop am_s89 := Or.inr rfl
theorem am_p90_ok : am_sop am_s90 := Or.inr rfl
theorem am_p91_ok : am_sop am_s91 := Or.inr rfl
theorem am_p92_ok : am_sop am_s92 := Or.inr rfl
theorem am_p93_ok : am_sop am_s93 := Or.inr rfl
theorem am_p94_ok : am_sop am_s94 := Or.inr rfl
theorem am_p95_ok : am_sop am_s95 := Or.inr rfl
theorem am_p96_ok : am_sop am_s96 := Or.inr rfl
theorem am_p97_ok : am_sop am_s97 := Or.inr rfl
theorem am_p98_ok : am_sop am_s98 := Or.inr rfl
theorem am_p99_ok : am_sop am_s99 := Or.inr rfl
theorem am_p100_ok : am_sop am_s100 := Or.inr rfl
theorem am_p101_ok : am_sop am_s101 := Or.inr rfl
theorem am_p102_ok : am_sop am_s102 := Or.inr rfl
theorem am_p103_ok : am_sop am_s103 := Or.inr rfl
theorem am_p104_ok : am_sop am_s104 := Or.inr rfl
theorem am_p105_ok : am_sop am_s105 := Or.inr rfl
theorem am_p106_ok : am_sop am_s106 := Or.inr rfl
theorem am_p107_ok : am_sop am_s107 := Or.inr rfl
theorem am_p108_ok : am_sop am_s108 := Or.inr rfl
theorem am_p109_ok : am_sop am_s109 := Or.inr rfl
theorem am_p110_ok : am_sop am_s110 := Or.inr rfl
theorem am_p111_ok : am_sop am_s111 := Or.inr rfl
theorem am_p112_ok : am_sop am_s112 := Or.inr rfl
theorem am_p113_ok : am_sop am_s113 := Or.inr rfl
theorem am_p114_ok : am_sop am_s114 := Or.inr rfl
theorem am_p115_ok : am_sop am_s115 := Or.inr rfl
theorem am_p116_ok : am_sop am_s116 := Or.inr rfl
theorem am_p117_ok : am_sop am_s117 := Or.inr rfl
theorem am_p118_ok : am_sop am_s118 := Or.inr rfl
theorem am_p119_ok : am_sop am_s119 := Or.inr rfl
theorem am_p120_ok : am_sop am_s120 := Or.inr rfl
theorem am_p121_ok : am_sop am_s121 := Or.inr rfl
theorem am_p122_ok : am_sop am_s122 := Or.inr rfl
theorem am_p123_ok : am_sop am_s123 := Or.inr rfl
theorem am_p124_ok : am_sop am_s124 := Or.inr rfl
theorem am_p125_ok : am_sop am_s125 := Or.inr rfl
theorem am_p126_ok : am_sop am_s126 := Or.inr rfl
theorem am_p127_ok : am_sop am_s127 := Or.inr rfl
theorem am_p128_ok : am_sop am_s128 := Or.inr rfl
theorem am_p129_ok : am_sop am_s129 := Or.inr rfl
theorem am_p130_ok : am_sop am_s130 := Or.inr rfl
theorem am_p131_ok : am_sop am_s131 := Or.inr rfl
theorem am_p132_ok : am_sop am_s132 := Or.inr rfl
theorem am_p133_ok : am_sop am_s133 := Or.inr rfl
theorem am_p134_ok : am_sop am_s134 := Or.inr rfl
theorem am_p135_ok : am_sop am_s135 := Or.inr rfl
theorem am_p136_ok : am_sop am_s136 := Or.inr rfl
theorem am_p137_ok : am_sop am_s137 := Or.inr rfl
theorem am_p138_ok : am_sop am_s138 := Or.inr rfl
theorem am_p139_ok : am_sop am_s139 := Or.inr rfl
theorem am_p140_ok : am_sop am_s140 := Or.inr rfl
theorem am_p141_ok : am_sop am_s141 := Or.inr rfl
theorem am_p142_ok : am_sop am_s142 := Or.inr rfl
theorem am_p143_ok : am_sop am_s143 := Or.inr rfl
theorem am_p144_ok : am_sop am_s144 := Or.inr rfl
theorem am_p145_ok : am_sop am_s145 := Or.inr rfl
theorem am_p146_ok : am_sop am_s146 := Or.inr rfl
theorem am_p147_ok : am_sop am_s147 := Or.inr rfl
theorem am_p148_ok : am_sop am_s148 := Or.inr rfl
theorem am_p149_ok : am_sop am_s149 := Or.inr rfl
theorem am_p150_ok : am_sop am_s150 := Or.inr rfl
theorem am_p151_ok : am_sop am_s151 := Or.inr rfl
theorem am_p152_ok : am_sop am_s152 := Or.inr rfl
theorem am_p153_ok : am_sop am_s153 := Or.inr rfl
theorem am_p154_ok : am_sop am_s154 := Or.inr rfl
theorem am_p155_ok : am_sop am_s155 := Or.inr rfl
theorem am_p156_ok : am_sop am_s156 := Or.inr rfl
theorem am_p157_ok : am_sop am_s157 := Or.inr rfl
theorem am_p158_ok : am_sop am_s158 := Or.inr rfl
theorem am_p159_ok : am_sop am_s159 := Or.inr rfl
theorem am_p160_ok : am_sop am_s160 := Or.inr rfl
theorem am_p161_ok : am_sop am_s161 := Or.inr rfl
theorem am_p162_ok : am_sop am_s162 := Or.inr rfl
theorem am_p163_ok : am_sop am_s163 := Or.inr rfl
theorem am_p164_ok : am_sop am_s164 := Or.inr rfl
theorem am_p165_ok : am_sop am_s165 := Or.inr rfl
theorem am_p166_ok : am_sop am_s166 := Or.inr rfl
theorem am_p167_ok : am_sop am_s167 := Or.inr rfl
theorem am_p168_ok : am_sop am_s168 := Or.inr rfl
theorem am_p169_ok : am_sop am_s169 := Or.inr rfl
theorem am_p170_ok : am_sop am_s170 := Or.inr rfl
theorem am_p171_ok : am_sop am_s171 := Or.inr rfl
theorem am_p172_ok : am_sop am_s172 := Or.inr rfl
theorem am_p173_ok : am_sop am_s173 := Or.inr rfl
theorem am_p174_ok : am_sop am_s174 := Or.inr rfl
theorem am_p175_ok : am_sop am_s175 := Or.inr rfl
theorem am_p176_ok : am_sop am_s176 := Or.inr rfl
theorem am_p177_ok : am_sop am_s177 := Or.inr rfl
theorem am_p178_ok : am_sop am_s178 := Or.inr rfl
theorem am_p179_ok : am_sop am_s179 := Or.inr rfl
theorem am_p180_ok : am_sop am_s180 := Or.inr rfl
theorem am_p181_ok : am_sop am_s181 := Or.inr rfl
theorem am_p182_ok : am_sop am_s182 := Or.inr rfl
theorem am_p183_ok : am_sop am_s183 := Or.inr rfl
theorem am_p184_ok : am_sop am_s184 := Or.inr rfl
theorem am_p185_ok : am_sop am_s185 := Or.inr rfl
theorem am_p186_ok : am_sop am_s186 := Or.inr rfl
theorem am_p187_ok : am_sop am_s187 := Or.inr rfl
theorem am_p188_ok : am_sop am_s188 := Or.inr rfl
theorem am_p189_ok : am_sop am_s189 := Or.inr rfl
theorem am_p190_ok : am_sop am_s190 := Or.inr rfl
theorem am_p191_ok : am_sop am_s191 := Or.inr rfl
theorem am_p192_ok : am_sop am_s192 := Or.inr rfl
theorem am_p193_ok : am_sop am_s193 := Or.inr rfl
theorem am_p194_ok : am_sop am_s194 := Or.inr rfl
theorem am_p195_ok : am_sop am_s195 := Or.inr rfl
theorem am_p196_ok : am_sop am_s196 := Or.inr rfl
theorem am_p197_ok : am_sop am_s197 := Or.inr rfl
theorem am_p198_ok : am_sop am_s198 := Or.inr rfl
theorem am_p199_ok : am_sop am_s199 := Or.inr rfl
theorem am_p200_ok : am_sop am_s200 := Or.inr rfl
theorem am_p201_ok : am_sop am_s201 := Or.inr rfl
theorem am_p202_ok : am_sop am_s202 := Or.inr rfl
theorem am_p203_ok : am_sop am_s203 := Or.inr rfl
theorem am_p204_ok : am_sop am_s204 := Or.inr rfl
theorem am_p205_ok : am_sop am_s205 := Or.inr rfl
theorem am_p206_ok : am_sop am_s206 := Or.inr rfl
theorem am_p207_ok : am_sop am_s207 := Or.inr rfl
theorem am_p208_ok : am_sop am_s208 := Or.inr rfl
theorem am_p209_ok : am_sop am_s209 := Or.inr rfl
theorem am_p210_ok : am_sop am_s210 := Or.inr rfl
theorem am_p211_ok : am_sop am_s211 := Or.inr rfl
theorem am_p212_ok : am_sop am_s212 := Or.inr rfl
theorem am_p213_ok : am_sop am_s213 := Or.inr rfl
theorem am_p214_ok : am_sop am_s214 := Or.inr rfl
theorem am_p215_ok : am_sop am_s215 := Or.inr rfl
theorem am_p216_ok : am_sop am_s216 := Or.inr rfl
theorem am_p217_ok : am_sop am_s217 := Or.inr rfl
theorem am_p218_ok : am_sop am_s218 := Or.inr rfl
theorem am_p219_ok : am_sop am_s219 := Or.inr rfl
theorem am_p220_ok : am_sop am_s220 := Or.inr rfl
theorem am_p221_ok : am_sop am_s221 := Or.inr rfl
theorem am_p222_ok : am_sop am_s222 := Or.inr rfl
theorem am_p223_ok : am_sop am_s223 := Or.inr rfl
theorem am_p224_ok : am_sop am_s224 := Or.inr rfl
theorem am_p225_ok : am_sop am_s225 := Or.inr rfl
theorem am_p226_ok : am_sop am_s226 := Or.inr rfl
theorem am_p227_ok : am_sop am_s227 := Or.inr rfl
theorem am_p228_ok : am_sop am_s228 := Or.inr rfl
theorem am_p229_ok : am_sop am_s229 := Or.inr rfl
theorem am_p230_ok : am_sop am_s230 := Or.inr rfl
theorem am_p231_ok : am_sop am_s231 := Or.inr rfl
theorem am_p232_ok : am_sop am_s232 := Or.inr rfl
theorem am_p233_ok : am_sop am_s233 := Or.inr rfl
theorem am_p234_ok : am_sop am_s234 := Or.inr rfl
theorem am_p235_ok : am_sop am_s235 := Or.inr rfl
theorem am_p236_ok : am_sop am_s236 := Or.inr rfl
theorem am_p237_ok : am_sop am_s237 := Or.inr rfl
theorem am_p238_ok : am_sop am_s238 := Or.inr rfl
theorem am_p239_ok : am_sop am_s239 := Or.inr rfl
theorem am_p240_ok : am_sop am_s240 := Or.inr rfl
theorem am_p241_ok : am_sop am_s241 := Or.inr rfl
theorem am_p242_ok : am_sop am_s242 := Or.inr rfl
theorem am_p243_ok : am_sop am_s243 := Or.inr rfl
theorem am_p244_ok : am_sop am_s244 := Or.inr rfl
theorem am_p245_ok : am_sop am_s245 := Or.inr rfl
theorem am_p246_ok : am_sop am_s246 := Or.inr rfl
theorem am_p247_ok : am_sop am_s247 := Or.inr rfl
theorem am_p248_ok : am_sop am_s248 := Or.inr rfl
theorem am_p249_ok : am_sop am_s249 := Or.inr rfl
theorem am_p250_ok : am_sop am_s250 := Or.inr rfl
theorem am_p251_ok : am_sop am_s251 := Or.inr rfl
theorem am_p252_ok : am_sop am_s252 := Or.inr rfl
theorem am_p253_ok : am_sop am_s253 := Or.inr rfl
theorem am_p254_ok : am_sop am_s254 := Or.inr rfl
theorem am_p255_ok : am_sop am_s255 := Or.inr rfl
theorem am_p256_ok : am_sop am_s256 := Or.inr rfl
theorem am_p257_ok : am_sop am_s257 := Or.inr rfl
theorem am_p258_ok : am_sop am_s258 := Or.inr rfl
theorem am_p259_ok : am_sop am_s259 := Or.inr rfl
theorem am_p260_ok : am_sop am_s260 := Or.inr rfl
theorem am_p261_ok : am_sop am_s261 := Or.inr rfl
theorem am_p262_ok : am_sop am_s262 := Or.inr rfl
theorem am_p263_ok : am_sop am_s263 := Or.inr rfl
theorem am_p264_ok : am_sop am_s264 := Or.inr rfl
theorem am_p265_ok : am_sop am_s265 := Or.inr rfl
theorem am_p266_ok : am_sop am_s266 := Or.inr rfl
theorem am_p267_ok : am_sop am_s267 := Or.inr rfl
theorem am_p268_ok : am_sop am_s268 := Or.inr rfl
theorem am_p269_ok : am_sop am_s269 := Or.inr rfl
theorem am_p270_ok : am_sop am_s270 := Or.inr rfl
theorem am_p271_ok : am_sop am_s271 := Or.inr rfl
theorem am_p272_ok : am_sop am_s272 := Or.inr rfl
theorem am_p273_ok : am_sop am_s273 := Or.inr rfl
theorem am_p274_ok : am_sop am_s274 := Or.inr rfl
theorem am_p275_ok : am_sop am_s275 := Or.inr rfl
theorem am_p276_ok : am_sop am_s276 := Or.inr rfl
theorem am_p277_ok : am_sop am_s277 := Or.inr rfl
end
section
theorem am_cnd {α : Type} {β : Type} {P : α → β → Prop} {c : Bool} {a b : α} {a2 b2 : β} (ha : P a a2) (hb : P b b2) : P (bif c then a else b) (bif c then a2 else b2) := by cases c <;> assumption
theorem am_oks (i : Nat) : (am_sok (am_hd i) = true ∧ am_sop (am_hd i)) ∧ (am_tb i).all (am_eok (am_hd i)) = true := by
  show (fun (h : am_S) (t : List (Nat × am_E)) => (am_sok h = true ∧ am_sop h) ∧ t.all (am_eok h) = true) (am_hd i) (am_tb i)
  unfold am_hd am_tb
  exact am_cnd (am_cnd (am_cnd (am_cnd (am_cnd (am_cnd (am_cnd (am_cnd (⟨⟨am_h0_ok, am_p0_ok⟩, am_k0_ok⟩) (⟨⟨am_h1_ok, am_p1_ok⟩, am_k1_ok⟩)) (am_cnd (⟨⟨am_h2_ok, am_p2_ok⟩, am_k2_ok⟩) (⟨⟨am_h3_ok, am_p3_ok⟩, am_k3_ok⟩))) (am_cnd (am_cnd (⟨⟨am_h4_ok, am_p4_ok⟩, am_k4_ok⟩) (⟨⟨am_h5_ok, am_p5_ok⟩, am_k5_ok⟩)) (am_cnd (⟨⟨am_h6_ok, am_p6_ok⟩, am_k6_ok⟩) (⟨⟨am_h7_ok, am_p7_ok⟩, am_k7_ok⟩)))) (am_cnd (am_cnd (am_cnd (⟨⟨am_h8_ok, am_p8_ok⟩, am_k8_ok⟩) (⟨⟨am_h9_ok, am_p9_ok⟩, am_k9_ok⟩)) (am_cnd (⟨⟨am_h10_ok, am_p10_ok⟩, am_k10_ok⟩) (⟨⟨am_h11_ok, am_p11_ok⟩, am_k11_ok⟩))) (am_cnd (am_cnd (⟨⟨am_h12_ok, am_p12_ok⟩, am_k12_ok⟩) (⟨⟨am_h13_ok, am_p13_ok⟩, am_k13_ok⟩)) (am_cnd (⟨⟨am_h14_ok, am_p14_ok⟩, am_k14_ok⟩) (am_cnd (⟨⟨am_h15_ok, am_p15_ok⟩, am_k15_ok⟩) (⟨⟨am_h16_ok, am_p16_ok⟩, am_k16_ok⟩)))))) (am_cnd (am_cnd (am_cnd (am_cnd (⟨⟨am_h17_ok, am_p17_ok⟩, am_k17_ok⟩) (⟨⟨am_h18_ok, am_p18_ok⟩, am_k18_ok⟩)) (am_cnd (⟨⟨am_h19_ok, am_p19_ok⟩, am_k19_ok⟩) (⟨⟨am_h20_ok, am_p20_ok⟩, am_k20_ok⟩))) (am_cnd (am_cnd (⟨⟨am_h21_ok, am_p21_ok⟩, am_k21_ok⟩) (⟨⟨am_h22_ok, am_p22_ok⟩, am_k22_ok⟩)) (am_cnd (⟨⟨am_h23_ok, am_p23_ok⟩, am_k23_ok⟩) (⟨⟨am_h24_ok, am_p24_ok⟩, am_k24_ok⟩)))) (am_cnd (am_cnd (am_cnd (⟨⟨am_h25_ok, am_p25_ok⟩, am_k25_ok⟩) (⟨⟨am_h26_ok, am_p26_ok⟩, am_k26_ok⟩)) (am_cnd (⟨⟨am_h27_ok, am_p27_ok⟩, am_k27_ok⟩) (⟨⟨am_h28_ok, am_p28_ok⟩, am_k28_ok⟩))) (am_cnd (am_cnd (⟨⟨am_h29_ok, am_p29_ok⟩, am_k29_ok⟩) (⟨⟨am_h30_ok, am_p30_ok⟩, am_k30_ok⟩)) (am_cnd (⟨⟨am_h31_ok, am_p31_ok⟩, am_k31_ok⟩) (am_cnd (⟨⟨am_h32_ok, am_p32_ok⟩, am_k32_ok⟩) (⟨⟨am_h33_ok, am_p33_ok⟩, am_k33_ok⟩))))))) (am_cnd (am_cnd (am_cnd (am_cnd (am_cnd (⟨⟨am_h34_ok, am_p34_ok⟩, am_k34_ok⟩) (⟨⟨am_h35_ok, am_p35_ok⟩, am_k35_ok⟩)) (am_cnd (⟨⟨am_h36_ok, am_p36_ok⟩, am_k36_ok⟩) (⟨⟨am_h37_ok, am_p37_ok⟩, am_k37_ok⟩))) (am_cnd (am_cnd (⟨⟨am_h38_ok, am_p38_ok⟩, am_k38_ok⟩) (⟨⟨am_h39_ok, am_p39_ok⟩, am_k39_ok⟩)) (am_cnd (⟨⟨am_h40_ok, am_p40_ok⟩, am_k40_ok⟩) (⟨⟨am_h41_ok, am_p41_ok⟩, am_k41_ok⟩)))) (am_cnd (am_cnd (am_cnd (⟨⟨am_h42_ok, am_p42_ok⟩, am_k42_ok⟩) (⟨⟨am_h43_ok, am_p43_ok⟩, am_k43_ok⟩)) (am_cnd (⟨⟨am_h44_ok, am_p44_ok⟩, am_k44_ok⟩) (⟨⟨am_h45_ok, am_p45_ok⟩, am_k45_ok⟩))) (am_cnd (am_cnd (⟨⟨am_h46_ok, am_p46_ok⟩, am_k46_ok⟩) (⟨⟨am_h47_ok, am_p47_ok⟩, am_k47_ok⟩)) (am_cnd (⟨⟨am_h48_ok, am_p48_ok⟩, am_k48_ok⟩) (am_cnd (⟨⟨am_h49_ok, am_p49_ok⟩, am_k49_ok⟩) (⟨⟨am_h50_ok, am_p50_ok⟩, am_k50_ok⟩)))))) (am_cnd (am_cnd (am_cnd (am_cnd (⟨⟨am_h51_ok, am_p51_ok⟩, am_k51_ok⟩) (⟨⟨am_h52_ok, am_p52_ok⟩, am_k52_ok⟩)) (am_cnd (⟨⟨am_h53_ok, am_p53_ok⟩, am_k53_ok⟩) (⟨⟨am_h54_ok, am_p54_ok⟩, am_k54_ok⟩))) (am_cnd (am_cnd (⟨⟨am_h55_ok, am_p55_ok⟩, am_k55_ok⟩) (⟨⟨am_h56_ok, am_p56_ok⟩, am_k56_ok⟩)) (am_cnd (⟨⟨am_h57_ok, am_p57_ok⟩, am_k57_ok⟩) (am_cnd (⟨⟨am_h58_ok, am_p58_ok⟩, am_k58_ok⟩) (⟨⟨am_h59_ok, am_p59_ok⟩, am_k59_ok⟩))))) (am_cnd (am_cnd (am_cnd (⟨⟨am_h60_ok, am_p60_ok⟩, am_k60_ok⟩) (⟨⟨am_h61_ok, am_p61_ok⟩, am_k61_ok⟩)) (am_cnd (⟨⟨am_h62_ok, am_p62_ok⟩, am_k62_ok⟩) (⟨⟨am_h63_ok, am_p63_ok⟩, am_k63_ok⟩))) (am_cnd (am_cnd (⟨⟨am_h64_ok, am_p64_ok⟩, am_k64_ok⟩) (⟨⟨am_h65_ok, am_p65_ok⟩, am_k65_ok⟩)) (am_cnd (⟨⟨am_h66_ok, am_p66_ok⟩, am_k66_ok⟩) (am_cnd (⟨⟨am_h67_ok, am_p67_ok⟩, am_k67_ok⟩) (⟨⟨am_h68_ok, am_p68_ok⟩, am_k68_ok⟩)))))))) (am_cnd (am_cnd (am_cnd (am_cnd (am_cnd (am_cnd (⟨⟨am_h69_ok, am_p69_ok⟩, am_k69_ok⟩) (⟨⟨am_h70_ok, am_p70_ok⟩, am_k70_ok⟩)) (am_cnd (⟨⟨am_h71_ok, am_p71_ok⟩, am_k71_ok⟩) (⟨⟨am_h72_ok, am_p72_ok⟩, am_k72_ok⟩))) (am_cnd (am_cnd (⟨⟨am_h73_ok, am_p73_ok⟩, am_k73_ok⟩) (⟨⟨am_h74_ok, am_p74_ok⟩, am_k74_ok⟩)) (am_cnd (⟨⟨am_h75_ok, am_p75_ok⟩, am_k75_ok⟩) (⟨⟨am_h76_ok, am_p76_ok⟩, am_k76_ok⟩)))) (am_cnd (am_cnd (am_cnd (⟨⟨am_h77_ok, am_p77_ok⟩, am_k77_ok⟩) (⟨⟨am_h78_ok, am_p78_ok⟩, am_k78_ok⟩)) (am_cnd (⟨⟨am_h79_ok, am_p79_ok⟩, am_k79_ok⟩) (⟨⟨am_h80_ok, am_p80_ok⟩, am_k80_ok⟩))) (am_cnd (am_cnd (⟨⟨am_h81_ok, am_p81_ok⟩, am_k81_ok⟩) (⟨⟨am_h82_ok, am_p82_ok⟩, am_k82_ok⟩)) (am_cnd (⟨⟨am_h83_ok, am_p83_ok⟩, am_k83_ok⟩) (am_cnd (⟨⟨am_h84_ok, am_p84_ok⟩, am_k84_ok⟩) (⟨⟨am_h85_ok, am_p85_ok⟩, am_k85_ok⟩)))))) (am_cnd (am_cnd (am_cnd (am_cnd (⟨⟨am_h86_ok, am_p86_ok⟩, am_k86_ok⟩) (⟨⟨am_h87_ok, am_p87_ok⟩, am_k87_ok⟩)) (am_cnd (⟨⟨am_h88_ok, am_p88_ok⟩, am_k88_ok⟩) (⟨⟨am_h89_ok, am_p89_ok⟩, am_k89_ok⟩))) (am_cnd (am_cnd (⟨⟨am_h90_ok, am_p90_ok⟩, am_k90_ok⟩) (⟨⟨am_h91_ok, am_p91_ok⟩, am_k91_ok⟩)) (am_cnd (⟨⟨am_h92_ok, am_p92_ok⟩, am_k92_ok⟩) (am_cnd (⟨⟨am_h93_ok, am_p93_ok⟩, am_k93_ok⟩) (⟨⟨am_h94_ok, am_p94_ok⟩, am_k94_ok⟩))))) (am_cnd (am_cnd (am_cnd (⟨⟨am_h95_ok, am_p95_ok⟩, am_k95_ok⟩) (⟨⟨am_h96_ok, am_p96_ok⟩, am_k96_ok⟩)) (am_cnd (⟨⟨am_h97_ok, am_p97_ok⟩, am_k97_ok⟩) (⟨⟨am_h98_ok, am_p98_ok⟩, am_k98_ok⟩))) (am_cnd (am_cnd (⟨⟨am_h99_ok, am_p99_ok⟩, am_k99_ok⟩) (⟨⟨am_h100_ok, am_p100_ok⟩, am_k100_ok⟩)) (am_cnd (⟨⟨am_h101_ok, am_p101_ok⟩, am_k101_ok⟩) (am_cnd (⟨⟨am_h102_ok, am_p102_ok⟩, am_k102_ok⟩) (⟨⟨am_h103_ok, am_p103_ok⟩, am_k103_ok⟩))))))) (am_cnd (am_cnd (am_cnd (am_cnd (am_cnd (⟨⟨am_h104_ok, am_p104_ok⟩, am_k104_ok⟩) (⟨⟨am_h105_ok, am_p105_ok⟩, am_k105_ok⟩)) (am_cnd (⟨⟨am_h106_ok, am_p106_ok⟩, am_k106_ok⟩) (⟨⟨am_h107_ok, am_p107_ok⟩, am_k107_ok⟩))) (am_cnd (am_cnd (⟨⟨am_h108_ok, am_p108_ok⟩, am_k108_ok⟩) (⟨⟨am_h109_ok, am_p109_ok⟩, am_k109_ok⟩)) (am_cnd (⟨⟨am_h110_ok, am_p110_ok⟩, am_k110_ok⟩) (⟨⟨am_h111_ok, am_p111_ok⟩, am_k111_ok⟩)))) (am_cnd (am_cnd (am_cnd (⟨⟨am_h112_ok, am_p112_ok⟩, am_k112_ok⟩) (⟨⟨am_h113_ok, am_p113_ok⟩, am_k113_ok⟩)) (am_cnd (⟨⟨am_h114_ok, am_p114_ok⟩, am_k114_ok⟩) (⟨⟨am_h115_ok, am_p115_ok⟩, am_k115_ok⟩))) (am_cnd (am_cnd (⟨⟨am_h116_ok, am_p116_ok⟩, am_k116_ok⟩) (⟨⟨am_h117_ok, am_p117_ok⟩, am_k117_ok⟩)) (am_cnd (⟨⟨am_h118_ok, am_p118_ok⟩, am_k118_ok⟩) (am_cnd (⟨⟨am_h119_ok, am_p119_ok⟩, am_k119_ok⟩) (⟨⟨am_h120_ok, am_p120_ok⟩, am_k120_ok⟩)))))) (am_cnd (am_cnd (am_cnd (am_cnd (⟨⟨am_h121_ok, am_p121_ok⟩, am_k121_ok⟩) (⟨⟨am_h122_ok, am_p122_ok⟩, am_k122_ok⟩)) (am_cnd (⟨⟨am_h123_ok, am_p123_ok⟩, am_k123_ok⟩) (⟨⟨am_h124_ok, am_p124_ok⟩, am_k124_ok⟩))) (am_cnd (am_cnd (⟨⟨am_h125_ok, am_p125_ok⟩, am_k125_ok⟩) (⟨⟨am_h126_ok, am_p126_ok⟩, am_k126_ok⟩)) (am_cnd (⟨⟨am_h127_ok, am_p127_ok⟩, am_k127_ok⟩) (am_cnd (⟨⟨am_h128_ok, am_p128_ok⟩, am_k128_ok⟩) (⟨⟨am_h129_ok, am_p129_ok⟩, am_k129_ok⟩))))) (am_cnd (am_cnd (am_cnd (⟨⟨am_h130_ok, am_p130_ok⟩, am_k130_ok⟩) (⟨⟨am_h131_ok, am_p131_ok⟩, am_k131_ok⟩)) (am_cnd (⟨⟨am_h132_ok, am_p132_ok⟩, am_k132_ok⟩) (⟨⟨am_h133_ok, am_p133_ok⟩, am_k133_ok⟩))) (am_cnd (am_cnd (⟨⟨am_h134_ok, am_p134_ok⟩, am_k134_ok⟩) (⟨⟨am_h135_ok, am_p135_ok⟩, am_k135_ok⟩)) (am_cnd (⟨⟨am_h136_ok, am_p136_ok⟩, am_k136_ok⟩) (am_cnd (⟨⟨am_h137_ok, am_p137_ok⟩, am_k137_ok⟩) (⟨⟨am_h138_ok, am_p138_ok⟩, am_k138_ok⟩))))))))) (am_cnd (am_cnd (am_cnd (am_cnd (am_cnd (am_cnd (am_cnd (⟨⟨am_h139_ok, am_p139_ok⟩, am_k139_ok⟩) (⟨⟨am_h140_ok, am_p140_ok⟩, am_k140_ok⟩)) (am_cnd (⟨⟨am_h141_ok, am_p141_ok⟩, am_k141_ok⟩) (⟨⟨am_h142_ok, am_p142_ok⟩, am_k142_ok⟩))) (am_cnd (am_cnd (⟨⟨am_h143_ok, am_p143_ok⟩, am_k143_ok⟩) (⟨⟨am_h144_ok, am_p144_ok⟩, am_k144_ok⟩)) (am_cnd (⟨⟨am_h145_ok, am_p145_ok⟩, am_k145_ok⟩) (⟨⟨am_h146_ok, am_p146_ok⟩, am_k146_ok⟩)))) (am_cnd (am_cnd (am_cnd (⟨⟨am_h147_ok, am_p147_ok⟩, am_k147_ok⟩) (⟨⟨am_h148_ok, am_p148_ok⟩, am_k148_ok⟩)) (am_cnd (⟨⟨am_h149_ok, am_p149_ok⟩, am_k149_ok⟩) (⟨⟨am_h150_ok, am_p150_ok⟩, am_k150_ok⟩))) (am_cnd (am_cnd (⟨⟨am_h151_ok, am_p151_ok⟩, am_k151_ok⟩) (⟨⟨am_h152_ok, am_p152_ok⟩, am_k152_ok⟩)) (am_cnd (⟨⟨am_h153_ok, am_p153_ok⟩, am_k153_ok⟩) (am_cnd (⟨⟨am_h154_ok, am_p154_ok⟩, am_k154_ok⟩) (⟨⟨am_h155_ok, am_p155_ok⟩, am_k155_ok⟩)))))) (am_cnd (am_cnd (am_cnd (am_cnd (⟨⟨am_h156_ok, am_p156_ok⟩, am_k156_ok⟩) (⟨⟨am_h157_ok, am_p157_ok⟩, am_k157_ok⟩)) (am_cnd (⟨⟨am_h158_ok, am_p158_ok⟩, am_k158_ok⟩) (⟨⟨am_h159_ok, am_p159_ok⟩, am_k159_ok⟩))) (am_cnd (am_cnd (⟨⟨am_h160_ok, am_p160_ok⟩, am_k160_ok⟩) (⟨⟨am_h161_ok, am_p161_ok⟩, am_k161_ok⟩)) (am_cnd (⟨⟨am_h162_ok, am_p162_ok⟩, am_k162_ok⟩) (⟨⟨am_h163_ok, am_p163_ok⟩, am_k163_ok⟩)))) (am_cnd (am_cnd (am_cnd (⟨⟨am_h164_ok, am_p164_ok⟩, am_k164_ok⟩) (⟨⟨am_h165_ok, am_p165_ok⟩, am_k165_ok⟩)) (am_cnd (⟨⟨am_h166_ok, am_p166_ok⟩, am_k166_ok⟩) (⟨⟨am_h167_ok, am_p167_ok⟩, am_k167_ok⟩))) (am_cnd (am_cnd (⟨⟨am_h168_ok, am_p168_ok⟩, am_k168_ok⟩) (⟨⟨am_h169_ok, am_p169_ok⟩, am_k169_ok⟩)) (am_cnd (⟨⟨am_h170_ok, am_p170_ok⟩, am_k170_ok⟩) (am_cnd (⟨⟨am_h171_ok, am_p171_ok⟩, am_k171_ok⟩) (⟨⟨am_h172_ok, am_p172_ok⟩, am_k172_ok⟩))))))) (am_cnd (am_cnd (am_cnd (am_cnd (am_cnd (⟨⟨am_h173_ok, am_p173_ok⟩, am_k173_ok⟩) (⟨⟨am_h174_ok, am_p174_ok⟩, am_k174_ok⟩)) (am_cnd (⟨⟨am_h175_ok, am_p175_ok⟩, am_k175_ok⟩) (⟨⟨am_h176_ok, am_p176_ok⟩, am_k176_ok⟩))) (am_cnd (am_cnd (⟨⟨am_h177_ok, am_p177_ok⟩, am_k177_ok⟩) (⟨⟨am_h178_ok, am_p178_ok⟩, am_k178_ok⟩)) (am_cnd (⟨⟨am_h179_ok, am_p179_ok⟩, am_k179_ok⟩) (⟨⟨am_h180_ok, am_p180_ok⟩, am_k180_ok⟩)))) (am_cnd (am_cnd (am_cnd (⟨⟨am_h181_ok, am_p181_ok⟩, am_k181_ok⟩) (⟨⟨am_h182_ok, am_p182_ok⟩, am_k182_ok⟩)) (am_cnd (⟨⟨am_h183_ok, am_p183_ok⟩, am_k183_ok⟩) (⟨⟨am_h184_ok, am_p184_ok⟩, am_k184_ok⟩))) (am_cnd (am_cnd (⟨⟨am_h185_ok, am_p185_ok⟩, am_k185_ok⟩) (⟨⟨am_h186_ok, am_p186_ok⟩, am_k186_ok⟩)) (am_cnd (⟨⟨am_h187_ok, am_p187_ok⟩, am_k187_ok⟩) (am_cnd (⟨⟨am_h188_ok, am_p188_ok⟩, am_k188_ok⟩) (⟨⟨am_h189_ok, am_p189_ok⟩, am_k189_ok⟩)))))) (am_cnd (am_cnd (am_cnd (am_cnd (⟨⟨am_h190_ok, am_p190_ok⟩, am_k190_ok⟩) (⟨⟨am_h191_ok, am_p191_ok⟩, am_k191_ok⟩)) (am_cnd (⟨⟨am_h192_ok, am_p192_ok⟩, am_k192_ok⟩) (⟨⟨am_h193_ok, am_p193_ok⟩, am_k193_ok⟩))) (am_cnd (am_cnd (⟨⟨am_h194_ok, am_p194_ok⟩, am_k194_ok⟩) (⟨⟨am_h195_ok, am_p195_ok⟩, am_k195_ok⟩)) (am_cnd (⟨⟨am_h196_ok, am_p196_ok⟩, am_k196_ok⟩) (am_cnd (⟨⟨am_h197_ok, am_p197_ok⟩, am_k197_ok⟩) (⟨⟨am_h198_ok, am_p198_ok⟩, am_k198_ok⟩))))) (am_cnd (am_cnd (am_cnd (⟨⟨am_h199_ok, am_p199_ok⟩, am_k199_ok⟩) (⟨⟨am_h200_ok, am_p200_ok⟩, am_k200_ok⟩)) (am_cnd (⟨⟨am_h201_ok, am_p201_ok⟩, am_k201_ok⟩) (⟨⟨am_h202_ok, am_p202_ok⟩, am_k202_ok⟩))) (am_cnd (am_cnd (⟨⟨am_h203_ok, am_p203_ok⟩, am_k203_ok⟩) (⟨⟨am_h204_ok, am_p204_ok⟩, am_k204_ok⟩)) (am_cnd (⟨⟨am_h205_ok, am_p205_ok⟩, am_k205_ok⟩) (am_cnd (⟨⟨am_h206_ok, am_p206_ok⟩, am_k206_ok⟩) (⟨⟨am_h207_ok, am_p207_ok⟩, am_k207_ok⟩)))))))) (am_cnd (am_cnd (am_cnd (am_cnd (am_cnd (am_cnd (⟨⟨am_h208_ok, am_p208_ok⟩, am_k208_ok⟩) (⟨⟨am_h209_ok, am_p209_ok⟩, am_k209_ok⟩)) (am_cnd (⟨⟨am_h210_ok, am_p210_ok⟩, am_k210_ok⟩) (⟨⟨am_h211_ok, am_p211_ok⟩, am_k211_ok⟩))) (am_cnd (am_cnd (⟨⟨am_h212_ok, am_p212_ok⟩, am_k212_ok⟩) (⟨⟨am_h213_ok, am_p213_ok⟩, am_k213_ok⟩)) (am_cnd (⟨⟨am_h214_ok, am_p214_ok⟩, am_k214_ok⟩) (⟨⟨am_h215_ok, am_p215_ok⟩, am_k215_ok⟩)))) (am_cnd (am_cnd (am_cnd (⟨⟨am_h216_ok, am_p216_ok⟩, am_k216_ok⟩) (⟨⟨am_h217_ok, am_p217_ok⟩, am_k217_ok⟩)) (am_cnd (⟨⟨am_h218_ok, am_p218_ok⟩, am_k218_ok⟩) (⟨⟨am_h219_ok, am_p219_ok⟩, am_k219_ok⟩))) (am_cnd (am_cnd (⟨⟨am_h220_ok, am_p220_ok⟩, am_k220_ok⟩) (⟨⟨am_h221_ok, am_p221_ok⟩, am_k221_ok⟩)) (am_cnd (⟨⟨am_h222_ok, am_p222_ok⟩, am_k222_ok⟩) (am_cnd (⟨⟨am_h223_ok, am_p223_ok⟩, am_k223_ok⟩) (⟨⟨am_h224_ok, am_p224_ok⟩, am_k224_ok⟩)))))) (am_cnd (am_cnd (am_cnd (am_cnd (⟨⟨am_h225_ok, am_p225_ok⟩, am_k225_ok⟩) (⟨⟨am_h226_ok, am_p226_ok⟩, am_k226_ok⟩)) (am_cnd (⟨⟨am_h227_ok, am_p227_ok⟩, am_k227_ok⟩) (⟨⟨am_h228_ok, am_p228_ok⟩, am_k228_ok⟩))) (am_cnd (am_cnd (⟨⟨am_h229_ok, am_p229_ok⟩, am_k229_ok⟩) (⟨⟨am_h230_ok, am_p230_ok⟩, am_k230_ok⟩)) (am_cnd (⟨⟨am_h231_ok, am_p231_ok⟩, am_k231_ok⟩) (am_cnd (⟨⟨am_h232_ok, am_p232_ok⟩, am_k232_ok⟩) (⟨⟨am_h233_ok, am_p233_ok⟩, am_k233_ok⟩))))) (am_cnd (am_cnd (am_cnd (⟨⟨am_h234_ok, am_p234_ok⟩, am_k234_ok⟩) (⟨⟨am_h235_ok, am_p235_ok⟩, am_k235_ok⟩)) (am_cnd (⟨⟨am_h236_ok, am_p236_ok⟩, am_k236_ok⟩) (⟨⟨am_h237_ok, am_p237_ok⟩, am_k237_ok⟩))) (am_cnd (am_cnd (⟨⟨am_h238_ok, am_p238_ok⟩, am_k238_ok⟩) (⟨⟨am_h239_ok, am_p239_ok⟩, am_k239_ok⟩)) (am_cnd (⟨⟨am_h240_ok, am_p240_ok⟩, am_k240_ok⟩) (am_cnd (⟨⟨am_h241_ok, am_p241_ok⟩, am_k241_ok⟩) (⟨⟨am_h242_ok, am_p242_ok⟩, am_k242_ok⟩))))))) (am_cnd (am_cnd (am_cnd (am_cnd (am_cnd (⟨⟨am_h243_ok, am_p243_ok⟩, am_k243_ok⟩) (⟨⟨am_h244_ok, am_p244_ok⟩, am_k244_ok⟩)) (am_cnd (⟨⟨am_h245_ok, am_p245_ok⟩, am_k245_ok⟩) (⟨⟨am_h246_ok, am_p246_ok⟩, am_k246_ok⟩))) (am_cnd (am_cnd (⟨⟨am_h247_ok, am_p247_ok⟩, am_k247_ok⟩) (⟨⟨am_h248_ok, am_p248_ok⟩, am_k248_ok⟩)) (am_cnd (⟨⟨am_h249_ok, am_p249_ok⟩, am_k249_ok⟩) (⟨⟨am_h250_ok, am_p250_ok⟩, am_k250_ok⟩)))) (am_cnd (am_cnd (am_cnd (⟨⟨am_h251_ok, am_p251_ok⟩, am_k251_ok⟩) (⟨⟨am_h252_ok, am_p252_ok⟩, am_k252_ok⟩)) (am_cnd (⟨⟨am_h253_ok, am_p253_ok⟩, am_k253_ok⟩) (⟨⟨am_h254_ok, am_p254_ok⟩, am_k254_ok⟩))) (am_cnd (am_cnd (⟨⟨am_h255_ok, am_p255_ok⟩, am_k255_ok⟩) (⟨⟨am_h256_ok, am_p256_ok⟩, am_k256_ok⟩)) (am_cnd (⟨⟨am_h257_ok, am_p257_ok⟩, am_k257_ok⟩) (am_cnd (⟨⟨am_h258_ok, am_p258_ok⟩, am_k258_ok⟩) (⟨⟨am_h259_ok, am_p259_ok⟩, am_k259_ok⟩)))))) (am_cnd (am_cnd (am_cnd (am_cnd (⟨⟨am_h260_ok, am_p260_ok⟩, am_k260_ok⟩) (⟨⟨am_h261_ok, am_p261_ok⟩, am_k261_ok⟩)) (am_cnd (⟨⟨am_h262_ok, am_p262_ok⟩, am_k262_ok⟩) (⟨⟨am_h263_ok, am_p263_ok⟩, am_k263_ok⟩))) (am_cnd (am_cnd (⟨⟨am_h264_ok, am_p264_ok⟩, am_k264_ok⟩) (⟨⟨am_h265_ok, am_p265_ok⟩, am_k265_ok⟩)) (am_cnd (⟨⟨am_h266_ok, am_p266_ok⟩, am_k266_ok⟩) (am_cnd (⟨⟨am_h267_ok, am_p267_ok⟩, am_k267_ok⟩) (⟨⟨am_h268_ok, am_p268_ok⟩, am_k268_ok⟩))))) (am_cnd (am_cnd (am_cnd (⟨⟨am_h269_ok, am_p269_ok⟩, am_k269_ok⟩) (⟨⟨am_h270_ok, am_p270_ok⟩, am_k270_ok⟩)) (am_cnd (⟨⟨am_h271_ok, am_p271_ok⟩, am_k271_ok⟩) (⟨⟨am_h272_ok, am_p272_ok⟩, am_k272_ok⟩))) (am_cnd (am_cnd (⟨⟨am_h273_ok, am_p273_ok⟩, am_k273_ok⟩) (⟨⟨am_h274_ok, am_p274_ok⟩, am_k274_ok⟩)) (am_cnd (⟨⟨am_h275_ok, am_p275_ok⟩, am_k275_ok⟩) (am_cnd (⟨⟨am_h276_ok, am_p276_ok⟩, am_k276_ok⟩) (⟨⟨am_h277_ok, am_p277_ok⟩, am_k277_ok⟩)))))))))
end
