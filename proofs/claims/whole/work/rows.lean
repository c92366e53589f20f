section
-- ===== PART A: goes FIRST, ahead of the names: the tables' words, and 'selects' of the private methods out of them =====
/-- a private method of a class that the tables say can be made, by its rows of tables_1 -/
def lw_okq (q : MethodName × Nat) : Prop := (q.1.cls ≠ "java/lang/invoke/MethodHandle" ∧ q.1.cls ≠ "java/lang/invoke/VarHandle") ∧ Cond.instantiable q.1.cls q.2 ∈ tables_1 ∧ Cond.privateMethod q.1 ∈ tables_1 ∧ Cond.instanceMethod q.1 ∈ tables_1
theorem lw_p0 : lw_okq (⟨"EndMeters", "forgetAnswers", "()V"⟩, 5) := ⟨⟨by decide +kernel, by decide +kernel⟩, List.mem_of_getElem? (i := 12) (by decide +kernel), List.mem_of_getElem? (i := 216) (by decide +kernel), List.mem_of_getElem? (i := 217) (by decide +kernel)⟩
theorem lw_p1 : lw_okq (⟨"EndMeters$Spans", "takeWays", "(LEndMeters$Net;)V"⟩, 6) := ⟨⟨by decide +kernel, by decide +kernel⟩, List.mem_of_getElem? (i := 155) (by decide +kernel), List.mem_of_getElem? (i := 301) (by decide +kernel), List.mem_of_getElem? (i := 302) (by decide +kernel)⟩
theorem lw_p2 : lw_okq (⟨"EndMeters$Spans", "load", "(LEndMeters$Net;)V"⟩, 6) := ⟨⟨by decide +kernel, by decide +kernel⟩, List.mem_of_getElem? (i := 155) (by decide +kernel), List.mem_of_getElem? (i := 305) (by decide +kernel), List.mem_of_getElem? (i := 306) (by decide +kernel)⟩
theorem lw_p3 : lw_okq (⟨"EndMeters$Spans", "loadRow", "(II)V"⟩, 6) := ⟨⟨by decide +kernel, by decide +kernel⟩, List.mem_of_getElem? (i := 155) (by decide +kernel), List.mem_of_getElem? (i := 314) (by decide +kernel), List.mem_of_getElem? (i := 315) (by decide +kernel)⟩
theorem lw_p4 : lw_okq (⟨"EndMeters$Spans", "firstFilledColumn", "(II)I"⟩, 6) := ⟨⟨by decide +kernel, by decide +kernel⟩, List.mem_of_getElem? (i := 155) (by decide +kernel), List.mem_of_getElem? (i := 322) (by decide +kernel), List.mem_of_getElem? (i := 323) (by decide +kernel)⟩
theorem lw_p5 : lw_okq (⟨"EndMeters$Spans", "takeWay", "(II)V"⟩, 6) := ⟨⟨by decide +kernel, by decide +kernel⟩, List.mem_of_getElem? (i := 155) (by decide +kernel), List.mem_of_getElem? (i := 326) (by decide +kernel), List.mem_of_getElem? (i := 327) (by decide +kernel)⟩
theorem lw_p6 : lw_okq (⟨"EndMeters$Spans", "clearColumn", "(IIIII)V"⟩, 6) := ⟨⟨by decide +kernel, by decide +kernel⟩, List.mem_of_getElem? (i := 155) (by decide +kernel), List.mem_of_getElem? (i := 330) (by decide +kernel), List.mem_of_getElem? (i := 331) (by decide +kernel)⟩
theorem lw_p7 : lw_okq (⟨"EndMeters", "settledLines", "()I"⟩, 5) := ⟨⟨by decide +kernel, by decide +kernel⟩, List.mem_of_getElem? (i := 12) (by decide +kernel), List.mem_of_getElem? (i := 339) (by decide +kernel), List.mem_of_getElem? (i := 340) (by decide +kernel)⟩
theorem lw_p8 : lw_okq (⟨"EndMeters$Delays", "load", "(LEndMeters$Net;I)V"⟩, 13) := ⟨⟨by decide +kernel, by decide +kernel⟩, List.mem_of_getElem? (i := 75) (by decide +kernel), List.mem_of_getElem? (i := 347) (by decide +kernel), List.mem_of_getElem? (i := 348) (by decide +kernel)⟩
theorem lw_p9 : lw_okq (⟨"EndMeters$Delays", "loadRow", "(III)V"⟩, 13) := ⟨⟨by decide +kernel, by decide +kernel⟩, List.mem_of_getElem? (i := 75) (by decide +kernel), List.mem_of_getElem? (i := 356) (by decide +kernel), List.mem_of_getElem? (i := 357) (by decide +kernel)⟩
theorem lw_p10 : lw_okq (⟨"EndMeters$Delays", "setGoal", "(III)V"⟩, 13) := ⟨⟨by decide +kernel, by decide +kernel⟩, List.mem_of_getElem? (i := 75) (by decide +kernel), List.mem_of_getElem? (i := 360) (by decide +kernel), List.mem_of_getElem? (i := 361) (by decide +kernel)⟩
theorem lw_p11 : lw_okq (⟨"EndMeters$Delays", "walkToLeast", "()V"⟩, 13) := ⟨⟨by decide +kernel, by decide +kernel⟩, List.mem_of_getElem? (i := 75) (by decide +kernel), List.mem_of_getElem? (i := 364) (by decide +kernel), List.mem_of_getElem? (i := 365) (by decide +kernel)⟩
theorem lw_p12 : lw_okq (⟨"EndMeters$Delays", "firstLineThatHelps", "()I"⟩, 13) := ⟨⟨by decide +kernel, by decide +kernel⟩, List.mem_of_getElem? (i := 75) (by decide +kernel), List.mem_of_getElem? (i := 369) (by decide +kernel), List.mem_of_getElem? (i := 370) (by decide +kernel)⟩
theorem lw_p13 : lw_okq (⟨"EndMeters$Delays", "costOfColumn", "(I)J"⟩, 13) := ⟨⟨by decide +kernel, by decide +kernel⟩, List.mem_of_getElem? (i := 75) (by decide +kernel), List.mem_of_getElem? (i := 373) (by decide +kernel), List.mem_of_getElem? (i := 374) (by decide +kernel)⟩
theorem lw_p14 : lw_okq (⟨"EndMeters$Delays", "rowThatGivesWay", "(I)I"⟩, 13) := ⟨⟨by decide +kernel, by decide +kernel⟩, List.mem_of_getElem? (i := 75) (by decide +kernel), List.mem_of_getElem? (i := 377) (by decide +kernel), List.mem_of_getElem? (i := 378) (by decide +kernel)⟩
theorem lw_p15 : lw_okq (⟨"EndMeters$Delays", "givesWayBefore", "(III)Z"⟩, 13) := ⟨⟨by decide +kernel, by decide +kernel⟩, List.mem_of_getElem? (i := 75) (by decide +kernel), List.mem_of_getElem? (i := 381) (by decide +kernel), List.mem_of_getElem? (i := 382) (by decide +kernel)⟩
def lw_privs_1 : List (MethodName × Nat) := [(⟨"EndMeters", "forgetAnswers", "()V"⟩, 5), (⟨"EndMeters$Spans", "takeWays", "(LEndMeters$Net;)V"⟩, 6), (⟨"EndMeters$Spans", "load", "(LEndMeters$Net;)V"⟩, 6), (⟨"EndMeters$Spans", "loadRow", "(II)V"⟩, 6), (⟨"EndMeters$Spans", "firstFilledColumn", "(II)I"⟩, 6), (⟨"EndMeters$Spans", "takeWay", "(II)V"⟩, 6), (⟨"EndMeters$Spans", "clearColumn", "(IIIII)V"⟩, 6), (⟨"EndMeters", "settledLines", "()I"⟩, 5), (⟨"EndMeters$Delays", "load", "(LEndMeters$Net;I)V"⟩, 13), (⟨"EndMeters$Delays", "loadRow", "(III)V"⟩, 13), (⟨"EndMeters$Delays", "setGoal", "(III)V"⟩, 13), (⟨"EndMeters$Delays", "walkToLeast", "()V"⟩, 13), (⟨"EndMeters$Delays", "firstLineThatHelps", "()I"⟩, 13), (⟨"EndMeters$Delays", "costOfColumn", "(I)J"⟩, 13), (⟨"EndMeters$Delays", "rowThatGivesWay", "(I)I"⟩, 13), (⟨"EndMeters$Delays", "givesWayBefore", "(III)Z"⟩, 13)]
theorem lw_r1 : ∀ q ∈ lw_privs_1, lw_okq q := List.forall_mem_cons.mpr ⟨lw_p0, List.forall_mem_cons.mpr ⟨lw_p1, List.forall_mem_cons.mpr ⟨lw_p2, List.forall_mem_cons.mpr ⟨lw_p3, List.forall_mem_cons.mpr ⟨lw_p4, List.forall_mem_cons.mpr ⟨lw_p5, List.forall_mem_cons.mpr ⟨lw_p6, List.forall_mem_cons.mpr ⟨lw_p7, List.forall_mem_cons.mpr ⟨lw_p8, List.forall_mem_cons.mpr ⟨lw_p9, List.forall_mem_cons.mpr ⟨lw_p10, List.forall_mem_cons.mpr ⟨lw_p11, List.forall_mem_cons.mpr ⟨lw_p12, List.forall_mem_cons.mpr ⟨lw_p13, List.forall_mem_cons.mpr ⟨lw_p14, List.forall_mem_cons.mpr ⟨lw_p15, fun _ h => absurd h List.not_mem_nil⟩⟩⟩⟩⟩⟩⟩⟩⟩⟩⟩⟩⟩⟩⟩⟩
theorem lw_p16 : lw_okq (⟨"EndMeters$Delays", "exchange", "(II)V"⟩, 13) := ⟨⟨by decide +kernel, by decide +kernel⟩, List.mem_of_getElem? (i := 75) (by decide +kernel), List.mem_of_getElem? (i := 385) (by decide +kernel), List.mem_of_getElem? (i := 386) (by decide +kernel)⟩
theorem lw_p17 : lw_okq (⟨"EndMeters$Delays", "turnSigns", "(I)V"⟩, 13) := ⟨⟨by decide +kernel, by decide +kernel⟩, List.mem_of_getElem? (i := 75) (by decide +kernel), List.mem_of_getElem? (i := 389) (by decide +kernel), List.mem_of_getElem? (i := 390) (by decide +kernel)⟩
theorem lw_p18 : lw_okq (⟨"EndMeters$Delays", "clearColumn", "(III)V"⟩, 13) := ⟨⟨by decide +kernel, by decide +kernel⟩, List.mem_of_getElem? (i := 75) (by decide +kernel), List.mem_of_getElem? (i := 393) (by decide +kernel), List.mem_of_getElem? (i := 394) (by decide +kernel)⟩
theorem lw_p19 : lw_okq (⟨"EndMeters$Delays", "dropSlacks", "()V"⟩, 13) := ⟨⟨by decide +kernel, by decide +kernel⟩, List.mem_of_getElem? (i := 75) (by decide +kernel), List.mem_of_getElem? (i := 397) (by decide +kernel), List.mem_of_getElem? (i := 398) (by decide +kernel)⟩
theorem lw_p20 : lw_okq (⟨"EndMeters$Delays", "waysThatClash", "()I"⟩, 13) := ⟨⟨by decide +kernel, by decide +kernel⟩, List.mem_of_getElem? (i := 75) (by decide +kernel), List.mem_of_getElem? (i := 401) (by decide +kernel), List.mem_of_getElem? (i := 402) (by decide +kernel)⟩
theorem lw_p21 : lw_okq (⟨"EndMeters", "isSettledLine", "(I)Z"⟩, 5) := ⟨⟨by decide +kernel, by decide +kernel⟩, List.mem_of_getElem? (i := 12) (by decide +kernel), List.mem_of_getElem? (i := 405) (by decide +kernel), List.mem_of_getElem? (i := 406) (by decide +kernel)⟩
theorem lw_p22 : lw_okq (⟨"EndMeters", "isEndless", "(II)Z"⟩, 5) := ⟨⟨by decide +kernel, by decide +kernel⟩, List.mem_of_getElem? (i := 12) (by decide +kernel), List.mem_of_getElem? (i := 409) (by decide +kernel), List.mem_of_getElem? (i := 410) (by decide +kernel)⟩
theorem lw_p23 : lw_okq (⟨"EndMeters$Delays", "barWhatCosts", "()V"⟩, 13) := ⟨⟨by decide +kernel, by decide +kernel⟩, List.mem_of_getElem? (i := 75) (by decide +kernel), List.mem_of_getElem? (i := 467) (by decide +kernel), List.mem_of_getElem? (i := 468) (by decide +kernel)⟩
theorem lw_p24 : lw_okq (⟨"EndMeters$Liars", "findOfSize", "(ILEndMeters$Net;LEndMeters$Delays;)V"⟩, 3) := ⟨⟨by decide +kernel, by decide +kernel⟩, List.mem_of_getElem? (i := 124) (by decide +kernel), List.mem_of_getElem? (i := 497) (by decide +kernel), List.mem_of_getElem? (i := 498) (by decide +kernel)⟩
theorem lw_p25 : lw_okq (⟨"EndMeters$Liars", "breaksAllClashes", "(I)Z"⟩, 3) := ⟨⟨by decide +kernel, by decide +kernel⟩, List.mem_of_getElem? (i := 124) (by decide +kernel), List.mem_of_getElem? (i := 501) (by decide +kernel), List.mem_of_getElem? (i := 502) (by decide +kernel)⟩
theorem lw_p26 : lw_okq (⟨"EndMeters$Spans", "allOffersDo", "(I)Z"⟩, 6) := ⟨⟨by decide +kernel, by decide +kernel⟩, List.mem_of_getElem? (i := 155) (by decide +kernel), List.mem_of_getElem? (i := 542) (by decide +kernel), List.mem_of_getElem? (i := 543) (by decide +kernel)⟩
theorem lw_p27 : lw_okq (⟨"EndMeters$Spans", "takeOffer", "(II)Z"⟩, 6) := ⟨⟨by decide +kernel, by decide +kernel⟩, List.mem_of_getElem? (i := 155) (by decide +kernel), List.mem_of_getElem? (i := 549) (by decide +kernel), List.mem_of_getElem? (i := 550) (by decide +kernel)⟩
theorem lw_p28 : lw_okq (⟨"EndMeters$Spans", "allAskedAreEmpty", "(I)Z"⟩, 6) := ⟨⟨by decide +kernel, by decide +kernel⟩, List.mem_of_getElem? (i := 155) (by decide +kernel), List.mem_of_getElem? (i := 553) (by decide +kernel), List.mem_of_getElem? (i := 554) (by decide +kernel)⟩
theorem lw_p29 : lw_okq (⟨"EndMeters$Spans", "takeSet", "(I)Z"⟩, 6) := ⟨⟨by decide +kernel, by decide +kernel⟩, List.mem_of_getElem? (i := 155) (by decide +kernel), List.mem_of_getElem? (i := 558) (by decide +kernel), List.mem_of_getElem? (i := 559) (by decide +kernel)⟩
theorem lw_p30 : lw_okq (⟨"EndMetersModel", "noSet", "(II)Z"⟩, 18) := ⟨⟨by decide +kernel, by decide +kernel⟩, List.mem_of_getElem? (i := 589) (by decide +kernel), List.mem_of_getElem? (i := 663) (by decide +kernel), List.mem_of_getElem? (i := 664) (by decide +kernel)⟩
theorem lw_p31 : lw_okq (⟨"EndMetersModel", "noWay", "(I)Z"⟩, 18) := ⟨⟨by decide +kernel, by decide +kernel⟩, List.mem_of_getElem? (i := 589) (by decide +kernel), List.mem_of_getElem? (i := 672) (by decide +kernel), List.mem_of_getElem? (i := 673) (by decide +kernel)⟩
def lw_privs_2 : List (MethodName × Nat) := [(⟨"EndMeters$Delays", "exchange", "(II)V"⟩, 13), (⟨"EndMeters$Delays", "turnSigns", "(I)V"⟩, 13), (⟨"EndMeters$Delays", "clearColumn", "(III)V"⟩, 13), (⟨"EndMeters$Delays", "dropSlacks", "()V"⟩, 13), (⟨"EndMeters$Delays", "waysThatClash", "()I"⟩, 13), (⟨"EndMeters", "isSettledLine", "(I)Z"⟩, 5), (⟨"EndMeters", "isEndless", "(II)Z"⟩, 5), (⟨"EndMeters$Delays", "barWhatCosts", "()V"⟩, 13), (⟨"EndMeters$Liars", "findOfSize", "(ILEndMeters$Net;LEndMeters$Delays;)V"⟩, 3), (⟨"EndMeters$Liars", "breaksAllClashes", "(I)Z"⟩, 3), (⟨"EndMeters$Spans", "allOffersDo", "(I)Z"⟩, 6), (⟨"EndMeters$Spans", "takeOffer", "(II)Z"⟩, 6), (⟨"EndMeters$Spans", "allAskedAreEmpty", "(I)Z"⟩, 6), (⟨"EndMeters$Spans", "takeSet", "(I)Z"⟩, 6), (⟨"EndMetersModel", "noSet", "(II)Z"⟩, 18), (⟨"EndMetersModel", "noWay", "(I)Z"⟩, 18)]
theorem lw_r2 : ∀ q ∈ lw_privs_2, lw_okq q := List.forall_mem_cons.mpr ⟨lw_p16, List.forall_mem_cons.mpr ⟨lw_p17, List.forall_mem_cons.mpr ⟨lw_p18, List.forall_mem_cons.mpr ⟨lw_p19, List.forall_mem_cons.mpr ⟨lw_p20, List.forall_mem_cons.mpr ⟨lw_p21, List.forall_mem_cons.mpr ⟨lw_p22, List.forall_mem_cons.mpr ⟨lw_p23, List.forall_mem_cons.mpr ⟨lw_p24, List.forall_mem_cons.mpr ⟨lw_p25, List.forall_mem_cons.mpr ⟨lw_p26, List.forall_mem_cons.mpr ⟨lw_p27, List.forall_mem_cons.mpr ⟨lw_p28, List.forall_mem_cons.mpr ⟨lw_p29, List.forall_mem_cons.mpr ⟨lw_p30, List.forall_mem_cons.mpr ⟨lw_p31, fun _ h => absurd h List.not_mem_nil⟩⟩⟩⟩⟩⟩⟩⟩⟩⟩⟩⟩⟩⟩⟩⟩
theorem lw_p32 : lw_okq (⟨"EndMetersModel", "onSet", "()I"⟩, 18) := ⟨⟨by decide +kernel, by decide +kernel⟩, List.mem_of_getElem? (i := 589) (by decide +kernel), List.mem_of_getElem? (i := 700) (by decide +kernel), List.mem_of_getElem? (i := 701) (by decide +kernel)⟩
theorem lw_p33 : lw_okq (⟨"EndMetersModel", "doFit", "(I)Z"⟩, 18) := ⟨⟨by decide +kernel, by decide +kernel⟩, List.mem_of_getElem? (i := 589) (by decide +kernel), List.mem_of_getElem? (i := 704) (by decide +kernel), List.mem_of_getElem? (i := 705) (by decide +kernel)⟩
theorem lw_p34 : lw_okq (⟨"EndMetersModel", "enter", "(I)I"⟩, 18) := ⟨⟨by decide +kernel, by decide +kernel⟩, List.mem_of_getElem? (i := 589) (by decide +kernel), List.mem_of_getElem? (i := 711) (by decide +kernel), List.mem_of_getElem? (i := 712) (by decide +kernel)⟩
theorem lw_p35 : lw_okq (⟨"EndMetersModel", "leave", "(III)I"⟩, 18) := ⟨⟨by decide +kernel, by decide +kernel⟩, List.mem_of_getElem? (i := 589) (by decide +kernel), List.mem_of_getElem? (i := 715) (by decide +kernel), List.mem_of_getElem? (i := 716) (by decide +kernel)⟩
theorem lw_p36 : lw_okq (⟨"EndMetersModel", "pivot", "(III)V"⟩, 18) := ⟨⟨by decide +kernel, by decide +kernel⟩, List.mem_of_getElem? (i := 589) (by decide +kernel), List.mem_of_getElem? (i := 719) (by decide +kernel), List.mem_of_getElem? (i := 720) (by decide +kernel)⟩
theorem lw_p37 : lw_okq (⟨"EndMetersModel", "isEndless", "(II)Z"⟩, 18) := ⟨⟨by decide +kernel, by decide +kernel⟩, List.mem_of_getElem? (i := 589) (by decide +kernel), List.mem_of_getElem? (i := 729) (by decide +kernel), List.mem_of_getElem? (i := 730) (by decide +kernel)⟩
theorem lw_p38 : lw_okq (⟨"EndMetersModel", "seenSet", "()I"⟩, 18) := ⟨⟨by decide +kernel, by decide +kernel⟩, List.mem_of_getElem? (i := 589) (by decide +kernel), List.mem_of_getElem? (i := 733) (by decide +kernel), List.mem_of_getElem? (i := 734) (by decide +kernel)⟩
theorem lw_p39 : lw_okq (⟨"EndMetersModel", "find", "(II)Z"⟩, 18) := ⟨⟨by decide +kernel, by decide +kernel⟩, List.mem_of_getElem? (i := 589) (by decide +kernel), List.mem_of_getElem? (i := 738) (by decide +kernel), List.mem_of_getElem? (i := 739) (by decide +kernel)⟩
theorem lw_p40 : lw_okq (⟨"EndMetersModel", "tries", "(I)Z"⟩, 18) := ⟨⟨by decide +kernel, by decide +kernel⟩, List.mem_of_getElem? (i := 589) (by decide +kernel), List.mem_of_getElem? (i := 742) (by decide +kernel), List.mem_of_getElem? (i := 743) (by decide +kernel)⟩
theorem lw_p41 : lw_okq (⟨"EndMetersModel", "findRow", "(II)I"⟩, 18) := ⟨⟨by decide +kernel, by decide +kernel⟩, List.mem_of_getElem? (i := 589) (by decide +kernel), List.mem_of_getElem? (i := 746) (by decide +kernel), List.mem_of_getElem? (i := 747) (by decide +kernel)⟩
theorem lw_p42 : lw_okq (⟨"EndMetersModel", "swap", "(III)V"⟩, 18) := ⟨⟨by decide +kernel, by decide +kernel⟩, List.mem_of_getElem? (i := 589) (by decide +kernel), List.mem_of_getElem? (i := 750) (by decide +kernel), List.mem_of_getElem? (i := 751) (by decide +kernel)⟩
theorem lw_p43 : lw_okq (⟨"EndMetersModel", "betters", "(II)Z"⟩, 18) := ⟨⟨by decide +kernel, by decide +kernel⟩, List.mem_of_getElem? (i := 589) (by decide +kernel), List.mem_of_getElem? (i := 755) (by decide +kernel), List.mem_of_getElem? (i := 756) (by decide +kernel)⟩
theorem lw_p44 : lw_okq (⟨"EndMetersModel", "noLine", "(I)Z"⟩, 18) := ⟨⟨by decide +kernel, by decide +kernel⟩, List.mem_of_getElem? (i := 589) (by decide +kernel), List.mem_of_getElem? (i := 772) (by decide +kernel), List.mem_of_getElem? (i := 773) (by decide +kernel)⟩
theorem lw_p45 : lw_okq (⟨"EndMetersModel", "isSettled", "(I)Z"⟩, 18) := ⟨⟨by decide +kernel, by decide +kernel⟩, List.mem_of_getElem? (i := 589) (by decide +kernel), List.mem_of_getElem? (i := 781) (by decide +kernel), List.mem_of_getElem? (i := 782) (by decide +kernel)⟩
theorem lw_p46 : lw_okq (⟨"EndMetersModel", "isKnown", "(II)Z"⟩, 18) := ⟨⟨by decide +kernel, by decide +kernel⟩, List.mem_of_getElem? (i := 589) (by decide +kernel), List.mem_of_getElem? (i := 789) (by decide +kernel), List.mem_of_getElem? (i := 790) (by decide +kernel)⟩
theorem lw_p47 : lw_okq (⟨"EndMetersModel", "rank", "(III)I"⟩, 18) := ⟨⟨by decide +kernel, by decide +kernel⟩, List.mem_of_getElem? (i := 589) (by decide +kernel), List.mem_of_getElem? (i := 793) (by decide +kernel), List.mem_of_getElem? (i := 794) (by decide +kernel)⟩
def lw_privs_3 : List (MethodName × Nat) := [(⟨"EndMetersModel", "onSet", "()I"⟩, 18), (⟨"EndMetersModel", "doFit", "(I)Z"⟩, 18), (⟨"EndMetersModel", "enter", "(I)I"⟩, 18), (⟨"EndMetersModel", "leave", "(III)I"⟩, 18), (⟨"EndMetersModel", "pivot", "(III)V"⟩, 18), (⟨"EndMetersModel", "isEndless", "(II)Z"⟩, 18), (⟨"EndMetersModel", "seenSet", "()I"⟩, 18), (⟨"EndMetersModel", "find", "(II)Z"⟩, 18), (⟨"EndMetersModel", "tries", "(I)Z"⟩, 18), (⟨"EndMetersModel", "findRow", "(II)I"⟩, 18), (⟨"EndMetersModel", "swap", "(III)V"⟩, 18), (⟨"EndMetersModel", "betters", "(II)Z"⟩, 18), (⟨"EndMetersModel", "noLine", "(I)Z"⟩, 18), (⟨"EndMetersModel", "isSettled", "(I)Z"⟩, 18), (⟨"EndMetersModel", "isKnown", "(II)Z"⟩, 18), (⟨"EndMetersModel", "rank", "(III)I"⟩, 18)]
theorem lw_r3 : ∀ q ∈ lw_privs_3, lw_okq q := List.forall_mem_cons.mpr ⟨lw_p32, List.forall_mem_cons.mpr ⟨lw_p33, List.forall_mem_cons.mpr ⟨lw_p34, List.forall_mem_cons.mpr ⟨lw_p35, List.forall_mem_cons.mpr ⟨lw_p36, List.forall_mem_cons.mpr ⟨lw_p37, List.forall_mem_cons.mpr ⟨lw_p38, List.forall_mem_cons.mpr ⟨lw_p39, List.forall_mem_cons.mpr ⟨lw_p40, List.forall_mem_cons.mpr ⟨lw_p41, List.forall_mem_cons.mpr ⟨lw_p42, List.forall_mem_cons.mpr ⟨lw_p43, List.forall_mem_cons.mpr ⟨lw_p44, List.forall_mem_cons.mpr ⟨lw_p45, List.forall_mem_cons.mpr ⟨lw_p46, List.forall_mem_cons.mpr ⟨lw_p47, fun _ h => absurd h List.not_mem_nil⟩⟩⟩⟩⟩⟩⟩⟩⟩⟩⟩⟩⟩⟩⟩⟩
theorem lw_p48 : lw_okq (⟨"EndMetersModel", "addRow", "(I)V"⟩, 18) := ⟨⟨by decide +kernel, by decide +kernel⟩, List.mem_of_getElem? (i := 589) (by decide +kernel), List.mem_of_getElem? (i := 797) (by decide +kernel), List.mem_of_getElem? (i := 798) (by decide +kernel)⟩
theorem lw_p49 : lw_okq (⟨"EndMetersModel", "groupOf", "(I)I"⟩, 18) := ⟨⟨by decide +kernel, by decide +kernel⟩, List.mem_of_getElem? (i := 589) (by decide +kernel), List.mem_of_getElem? (i := 805) (by decide +kernel), List.mem_of_getElem? (i := 806) (by decide +kernel)⟩
theorem lw_p50 : lw_okq (⟨"EndMetersModel", "overLine", "(I)I"⟩, 18) := ⟨⟨by decide +kernel, by decide +kernel⟩, List.mem_of_getElem? (i := 589) (by decide +kernel), List.mem_of_getElem? (i := 809) (by decide +kernel), List.mem_of_getElem? (i := 810) (by decide +kernel)⟩
theorem lw_p51 : lw_okq (⟨"EndMetersModel", "foundAt", "(I)I"⟩, 18) := ⟨⟨by decide +kernel, by decide +kernel⟩, List.mem_of_getElem? (i := 589) (by decide +kernel), List.mem_of_getElem? (i := 822) (by decide +kernel), List.mem_of_getElem? (i := 823) (by decide +kernel)⟩
theorem lw_p52 : lw_okq (⟨"EndMetersModel", "advises", "(II)Z"⟩, 18) := ⟨⟨by decide +kernel, by decide +kernel⟩, List.mem_of_getElem? (i := 589) (by decide +kernel), List.mem_of_getElem? (i := 838) (by decide +kernel), List.mem_of_getElem? (i := 839) (by decide +kernel)⟩
theorem lw_p53 : lw_okq (⟨"EndMetersModel", "explains", "(I)Z"⟩, 18) := ⟨⟨by decide +kernel, by decide +kernel⟩, List.mem_of_getElem? (i := 589) (by decide +kernel), List.mem_of_getElem? (i := 846) (by decide +kernel), List.mem_of_getElem? (i := 847) (by decide +kernel)⟩
def lw_privs_4 : List (MethodName × Nat) := [(⟨"EndMetersModel", "addRow", "(I)V"⟩, 18), (⟨"EndMetersModel", "groupOf", "(I)I"⟩, 18), (⟨"EndMetersModel", "overLine", "(I)I"⟩, 18), (⟨"EndMetersModel", "foundAt", "(I)I"⟩, 18), (⟨"EndMetersModel", "advises", "(II)Z"⟩, 18), (⟨"EndMetersModel", "explains", "(I)Z"⟩, 18)]
theorem lw_r4 : ∀ q ∈ lw_privs_4, lw_okq q := List.forall_mem_cons.mpr ⟨lw_p48, List.forall_mem_cons.mpr ⟨lw_p49, List.forall_mem_cons.mpr ⟨lw_p50, List.forall_mem_cons.mpr ⟨lw_p51, List.forall_mem_cons.mpr ⟨lw_p52, List.forall_mem_cons.mpr ⟨lw_p53, fun _ h => absurd h List.not_mem_nil⟩⟩⟩⟩⟩⟩
def lw_privs : List (MethodName × Nat) := lw_privs_1 ++ (lw_privs_2 ++ (lw_privs_3 ++ (lw_privs_4)))
def lw_tbl : List Cond := k2_sels lw_privs ++ tables_1
theorem lw_privs_ok : ∀ q ∈ lw_privs, lw_okq q := by
  show ∀ q ∈ lw_privs_1 ++ (lw_privs_2 ++ (lw_privs_3 ++ (lw_privs_4))), lw_okq q
  exact List.forall_mem_append.mpr ⟨lw_r1, List.forall_mem_append.mpr ⟨lw_r2, List.forall_mem_append.mpr ⟨lw_r3, lw_r4⟩⟩⟩
end
section
/-! ===== BEGIN words of one list among another's, by their places ===== -/
theorem goodIn_r {big : List Cond} (ws : List Cond) (ps : List Nat) (hp : ws = ps.filterMap (fun i => big[i]?)) (h : ws.all goodWord = true) : GoodIn big ws := by
  intro w hw
  have h1 := List.all_eq_true.mp h w hw
  rw [hp] at hw
  obtain ⟨i, -, hi⟩ := List.mem_filterMap.mp hw
  have hm : w ∈ big := by first | exact List.mem_of_getElem? hi | exact List.getElem?_mem hi
  exact ⟨hm, good_of_word h1⟩
theorem goodIn_app {big a b : List Cond} (ha : GoodIn big a) (hb : GoodIn big b) : GoodIn big (a ++ b) := fun w h => (List.mem_append.mp h).elim (ha w) (hb w)
theorem goodIn_ca {big a b : List Cond} {c : Cond} (ha : GoodIn big (c :: a)) (hb : GoodIn big b) : GoodIn big (c :: (a ++ b)) := fun w h => (List.mem_cons.mp h).elim (fun e => ha w (List.mem_cons.mpr (Or.inl e))) (fun h => (List.mem_append.mp h).elim (fun h => ha w (List.mem_cons.mpr (Or.inr h))) (hb w))
theorem goodIn_sub {big ws : List Cond} (hm : ∀ w ∈ ws, w ∈ big) (h : ws.all goodWord = true) : GoodIn big ws := fun w hw => ⟨hm w hw, good_of_word (List.all_eq_true.mp h w hw)⟩
/-! ===== END ===== -/

/-! ===== BEGIN printed: names, fields, word lists, decode rows ===== -/
def RX0 : String := "EndMeters$Delays"
def TX0 : u_T := fun k => match k with
  | 0 => ("EndMeters$Delays", "table", "[J", true)
  | 1 => ("EndMeters$Delays", "holder", "[I", true)
  | 2 => ("EndMeters$Delays", "wayOfRow", "[I", true)
  | 3 => ("EndMeters$Delays", "lineCost", "[I", true)
  | 4 => ("EndMeters$Delays", "slackCost", "I", false)
  | 5 => ("EndMeters$Delays", "lineCount", "I", false)
  | 6 => ("EndMeters$Delays", "rows", "I", false)
  | 7 => ("EndMeters$Delays", "width", "I", false)
  | 8 => ("EndMeters$Delays", "scale", "J", false)
  | 9 => ("EndMeters$Delays", "barred", "I", false)
  | 10 => ("EndMeters$Delays", "loaded", "I", false)
  | 11 => ("EndMeters$Delays", "possible", "Z", false)
  | _ => ("EndMeters$Delays", "clash", "I", false)
def tyX0 : Nat → FieldType := fun k => match k with
  | 0 => .array .long
  | 1 => .array .int
  | 2 => .array .int
  | 3 => .array .int
  | 4 => .int
  | 5 => .int
  | 6 => .int
  | 7 => .int
  | 8 => .long
  | 9 => .int
  | 10 => .int
  | 11 => .boolean
  | _ => .int
abbrev wsX00 : List Cond := u_ws RX0 TX0 13
theorem nmX0 : ∀ a, a < 13 → ∀ b, b < 13 → a ≠ b → (TX0 a).2.1 ≠ (TX0 b).2.1 := by decide +kernel
theorem tyX0_ok : ∀ k, k < 13 → parseFieldDescriptor (TX0 k).2.2.1 = some (tyX0 k) := by decide +kernel
abbrev cX0_init : ByteArray := prog_2_method_1_code
def yX0_init : MethodName := ⟨RX0, "<init>", "()V"⟩
abbrev cX0_forget : ByteArray := prog_2_method_2_code
def yX0_forget : MethodName := ⟨RX0, "forget", "()V"⟩
abbrev cX0_solve : ByteArray := prog_2_method_3_code
def yX0_solve : MethodName := ⟨RX0, "solve", "(LEndMeters$Net;I)Z"⟩
abbrev cX0_goToEnd : ByteArray := prog_2_method_4_code
def yX0_goToEnd : MethodName := ⟨RX0, "goToEnd", "(II)V"⟩
abbrev cX0_leastInTurnUpTo : ByteArray := prog_2_method_5_code
def yX0_leastInTurnUpTo : MethodName := ⟨RX0, "leastInTurnUpTo", "(I)V"⟩
abbrev cX0_upperOf : ByteArray := prog_2_method_6_code
def yX0_upperOf : MethodName := ⟨RX0, "upperOf", "(I)J"⟩
abbrev cX0_load : ByteArray := prog_2_method_7_code
def yX0_load : MethodName := ⟨RX0, "load", "(LEndMeters$Net;I)V"⟩
abbrev cX0_loadRow : ByteArray := prog_2_method_8_code
def yX0_loadRow : MethodName := ⟨RX0, "loadRow", "(III)V"⟩
abbrev cX0_setGoal : ByteArray := prog_2_method_9_code
def yX0_setGoal : MethodName := ⟨RX0, "setGoal", "(III)V"⟩
abbrev cX0_walkToLeast : ByteArray := prog_2_method_10_code
def yX0_walkToLeast : MethodName := ⟨RX0, "walkToLeast", "()V"⟩
abbrev cX0_firstLineThatHelps : ByteArray := prog_2_method_11_code
def yX0_firstLineThatHelps : MethodName := ⟨RX0, "firstLineThatHelps", "()I"⟩
abbrev cX0_costOfColumn : ByteArray := prog_2_method_12_code
def yX0_costOfColumn : MethodName := ⟨RX0, "costOfColumn", "(I)J"⟩
abbrev cX0_rowThatGivesWay : ByteArray := prog_2_method_13_code
def yX0_rowThatGivesWay : MethodName := ⟨RX0, "rowThatGivesWay", "(I)I"⟩
abbrev cX0_givesWayBefore : ByteArray := prog_2_method_14_code
def yX0_givesWayBefore : MethodName := ⟨RX0, "givesWayBefore", "(III)Z"⟩
abbrev cX0_exchange : ByteArray := prog_2_method_15_code
def yX0_exchange : MethodName := ⟨RX0, "exchange", "(II)V"⟩
abbrev cX0_turnSigns : ByteArray := prog_2_method_16_code
def yX0_turnSigns : MethodName := ⟨RX0, "turnSigns", "(I)V"⟩
abbrev cX0_clearColumn : ByteArray := prog_2_method_17_code
def yX0_clearColumn : MethodName := ⟨RX0, "clearColumn", "(III)V"⟩
abbrev cX0_dropSlacks : ByteArray := prog_2_method_18_code
def yX0_dropSlacks : MethodName := ⟨RX0, "dropSlacks", "()V"⟩
abbrev cX0_waysThatClash : ByteArray := prog_2_method_19_code
def yX0_waysThatClash : MethodName := ⟨RX0, "waysThatClash", "()I"⟩
abbrev cX0_barWhatCosts : ByteArray := prog_2_method_20_code
def yX0_barWhatCosts : MethodName := ⟨RX0, "barWhatCosts", "()V"⟩
def RX1 : String := "EndMeters$Liars"
def TX1 : u_T := fun k => match k with
  | 0 => ("EndMeters$Liars", "found", "LEndMeters$SetList;", true)
  | 1 => ("EndMeters$Liars", "clashes", "LEndMeters$SetList;", true)
  | _ => ("EndMeters$Liars", "upToDate", "Z", false)
def tyX1 : Nat → FieldType := fun k => match k with
  | 0 => .object "EndMeters$SetList"
  | 1 => .object "EndMeters$SetList"
  | _ => .boolean
abbrev wsX10 : List Cond := u_ws RX1 TX1 3
theorem nmX1 : ∀ a, a < 3 → ∀ b, b < 3 → a ≠ b → (TX1 a).2.1 ≠ (TX1 b).2.1 := by decide +kernel
theorem tyX1_ok : ∀ k, k < 3 → parseFieldDescriptor (TX1 k).2.2.1 = some (tyX1 k) := by decide +kernel
abbrev cX1_init : ByteArray := prog_3_method_1_code
def yX1_init : MethodName := ⟨RX1, "<init>", "()V"⟩
abbrev cX1_forget : ByteArray := prog_3_method_2_code
def yX1_forget : MethodName := ⟨RX1, "forget", "()V"⟩
abbrev cX1_leastSets : ByteArray := prog_3_method_3_code
def yX1_leastSets : MethodName := ⟨RX1, "leastSets", "(LEndMeters$Net;LEndMeters$Delays;)LEndMeters$SetList;"⟩
abbrev cX1_findOfSize : ByteArray := prog_3_method_4_code
def yX1_findOfSize : MethodName := ⟨RX1, "findOfSize", "(ILEndMeters$Net;LEndMeters$Delays;)V"⟩
abbrev cX1_breaksAllClashes : ByteArray := prog_3_method_5_code
def yX1_breaksAllClashes : MethodName := ⟨RX1, "breaksAllClashes", "(I)Z"⟩
abbrev cX1_leastClash : ByteArray := prog_3_method_6_code
def yX1_leastClash : MethodName := ⟨RX1, "leastClash", "(ILEndMeters$Net;LEndMeters$Delays;)I"⟩
def RX2 : String := "EndMeters$Net"
def TX2 : u_T := fun k => match k with
  | 0 => ("EndMeters$Net", "waySet", "[I", true)
  | 1 => ("EndMeters$Net", "waySum", "[I", true)
  | 2 => ("EndMeters$Net", "offerSet", "[I", true)
  | 3 => ("EndMeters$Net", "lineCount", "I", false)
  | 4 => ("EndMeters$Net", "wayCount", "I", false)
  | 5 => ("EndMeters$Net", "offerCount", "I", false)
  | 6 => ("EndMeters$Net", "onWays", "I", false)
  | _ => ("EndMeters$Net", "badWays", "I", false)
def tyX2 : Nat → FieldType := fun k => match k with
  | 0 => .array .int
  | 1 => .array .int
  | 2 => .array .int
  | 3 => .int
  | 4 => .int
  | 5 => .int
  | 6 => .int
  | _ => .int
abbrev wsX20 : List Cond := u_ws RX2 TX2 8
theorem nmX2 : ∀ a, a < 8 → ∀ b, b < 8 → a ≠ b → (TX2 a).2.1 ≠ (TX2 b).2.1 := by decide +kernel
theorem tyX2_ok : ∀ k, k < 8 → parseFieldDescriptor (TX2 k).2.2.1 = some (tyX2 k) := by decide +kernel
abbrev cX2_init : ByteArray := prog_4_method_1_code
def yX2_init : MethodName := ⟨RX2, "<init>", "()V"⟩
abbrev cX2_startAnew : ByteArray := prog_4_method_2_code
def yX2_startAnew : MethodName := ⟨RX2, "startAnew", "(I)V"⟩
abbrev cX2_hasLine : ByteArray := prog_4_method_3_code
def yX2_hasLine : MethodName := ⟨RX2, "hasLine", "(I)Z"⟩
abbrev cX2_hasWay : ByteArray := prog_4_method_4_code
def yX2_hasWay : MethodName := ⟨RX2, "hasWay", "(I)Z"⟩
abbrev cX2_hasOffer : ByteArray := prog_4_method_5_code
def yX2_hasOffer : MethodName := ⟨RX2, "hasOffer", "(I)Z"⟩
abbrev cX2_isLineSet : ByteArray := prog_4_method_6_code
def yX2_isLineSet : MethodName := ⟨RX2, "isLineSet", "(I)Z"⟩
abbrev cX2_isFilledLineSet : ByteArray := prog_4_method_7_code
def yX2_isFilledLineSet : MethodName := ⟨RX2, "isFilledLineSet", "(I)Z"⟩
abbrev cX2_addWay : ByteArray := prog_4_method_8_code
def yX2_addWay : MethodName := ⟨RX2, "addWay", "(II)I"⟩
abbrev cX2_dropLastWay : ByteArray := prog_4_method_9_code
def yX2_dropLastWay : MethodName := ⟨RX2, "dropLastWay", "()V"⟩
abbrev cX2_addOffer : ByteArray := prog_4_method_10_code
def yX2_addOffer : MethodName := ⟨RX2, "addOffer", "(I)I"⟩
abbrev cX2_isOn : ByteArray := prog_4_method_11_code
def yX2_isOn : MethodName := ⟨RX2, "isOn", "(I)Z"⟩
abbrev cX2_seenLines : ByteArray := prog_4_method_12_code
def yX2_seenLines : MethodName := ⟨RX2, "seenLines", "()I"⟩
abbrev cX2_linesAlike : ByteArray := prog_4_method_13_code
def yX2_linesAlike : MethodName := ⟨RX2, "linesAlike", "(I)I"⟩
abbrev cX2_groupCount : ByteArray := prog_4_method_14_code
def yX2_groupCount : MethodName := ⟨RX2, "groupCount", "()I"⟩
def RX3 : String := "EndMeters$SetList"
def TX3 : u_T := fun k => match k with
  | 0 => ("EndMeters$SetList", "sets", "[I", true)
  | _ => ("EndMeters$SetList", "size", "I", false)
def tyX3 : Nat → FieldType := fun k => match k with
  | 0 => .array .int
  | _ => .int
abbrev wsX30 : List Cond := u_ws RX3 TX3 2
theorem nmX3 : ∀ a, a < 2 → ∀ b, b < 2 → a ≠ b → (TX3 a).2.1 ≠ (TX3 b).2.1 := by decide +kernel
theorem tyX3_ok : ∀ k, k < 2 → parseFieldDescriptor (TX3 k).2.2.1 = some (tyX3 k) := by decide +kernel
abbrev cX3_init : ByteArray := prog_5_method_1_code
def yX3_init : MethodName := ⟨RX3, "<init>", "()V"⟩
abbrev cX3_empty : ByteArray := prog_5_method_2_code
def yX3_empty : MethodName := ⟨RX3, "empty", "()V"⟩
abbrev cX3_add : ByteArray := prog_5_method_3_code
def yX3_add : MethodName := ⟨RX3, "add", "(I)V"⟩
abbrev cX3_answer : ByteArray := prog_5_method_4_code
def yX3_answer : MethodName := ⟨RX3, "answer", "(I)I"⟩
def RX4 : String := "EndMeters$SickLines"
def TX4 : u_T := fun k => match k with
  | _ => ("EndMeters$SickLines", "found", "LEndMeters$SetList;", true)
def tyX4 : Nat → FieldType := fun k => match k with
  | _ => .object "EndMeters$SetList"
abbrev wsX40 : List Cond := u_ws RX4 TX4 1
theorem nmX4 : ∀ a, a < 1 → ∀ b, b < 1 → a ≠ b → (TX4 a).2.1 ≠ (TX4 b).2.1 := by decide +kernel
theorem tyX4_ok : ∀ k, k < 1 → parseFieldDescriptor (TX4 k).2.2.1 = some (tyX4 k) := by decide +kernel
abbrev cX4_init : ByteArray := prog_6_method_1_code
def yX4_init : MethodName := ⟨RX4, "<init>", "()V"⟩
abbrev cX4_leastSets : ByteArray := prog_6_method_2_code
def yX4_leastSets : MethodName := ⟨RX4, "leastSets", "(LEndMeters$Net;)LEndMeters$SetList;"⟩
abbrev cX4_linesOfNoGoodWay : ByteArray := prog_6_method_3_code
def yX4_linesOfNoGoodWay : MethodName := ⟨RX4, "linesOfNoGoodWay", "(LEndMeters$Net;)I"⟩
abbrev cX4_meetsAllBadWays : ByteArray := prog_6_method_4_code
def yX4_meetsAllBadWays : MethodName := ⟨RX4, "meetsAllBadWays", "(LEndMeters$Net;I)Z"⟩
def RX5 : String := "EndMeters$Spans"
def TX5 : u_T := fun k => match k with
  | 0 => ("EndMeters$Spans", "cells", "[I", true)
  | 1 => ("EndMeters$Spans", "takenAt", "[I", true)
  | 2 => ("EndMeters$Spans", "headAt", "[I", true)
  | 3 => ("EndMeters$Spans", "lineCount", "I", false)
  | 4 => ("EndMeters$Spans", "rank", "I", false)
  | _ => ("EndMeters$Spans", "asked", "I", false)
def tyX5 : Nat → FieldType := fun k => match k with
  | 0 => .array .int
  | 1 => .array .int
  | 2 => .array .int
  | 3 => .int
  | 4 => .int
  | _ => .int
abbrev wsX50 : List Cond := u_ws RX5 TX5 6
theorem nmX5 : ∀ a, a < 6 → ∀ b, b < 6 → a ≠ b → (TX5 a).2.1 ≠ (TX5 b).2.1 := by decide +kernel
theorem tyX5_ok : ∀ k, k < 6 → parseFieldDescriptor (TX5 k).2.2.1 = some (tyX5 k) := by decide +kernel
abbrev cX5_init : ByteArray := prog_7_method_1_code
def yX5_init : MethodName := ⟨RX5, "<init>", "()V"⟩
abbrev cX5_rankOfWays : ByteArray := prog_7_method_2_code
def yX5_rankOfWays : MethodName := ⟨RX5, "rankOfWays", "(LEndMeters$Net;)I"⟩
abbrev cX5_linesFromWays : ByteArray := prog_7_method_3_code
def yX5_linesFromWays : MethodName := ⟨RX5, "linesFromWays", "(LEndMeters$Net;)I"⟩
abbrev cX5_fewestOffers : ByteArray := prog_7_method_4_code
def yX5_fewestOffers : MethodName := ⟨RX5, "fewestOffers", "(LEndMeters$Net;I)I"⟩
abbrev cX5_startOf : ByteArray := prog_7_method_5_code
def yX5_startOf : MethodName := ⟨RX5, "startOf", "(II)I"⟩
abbrev cX5_takeWays : ByteArray := prog_7_method_6_code
def yX5_takeWays : MethodName := ⟨RX5, "takeWays", "(LEndMeters$Net;)V"⟩
abbrev cX5_load : ByteArray := prog_7_method_7_code
def yX5_load : MethodName := ⟨RX5, "load", "(LEndMeters$Net;)V"⟩
abbrev cX5_loadRow : ByteArray := prog_7_method_8_code
def yX5_loadRow : MethodName := ⟨RX5, "loadRow", "(II)V"⟩
abbrev cX5_firstFilledColumn : ByteArray := prog_7_method_9_code
def yX5_firstFilledColumn : MethodName := ⟨RX5, "firstFilledColumn", "(II)I"⟩
abbrev cX5_takeWay : ByteArray := prog_7_method_10_code
def yX5_takeWay : MethodName := ⟨RX5, "takeWay", "(II)V"⟩
abbrev cX5_takeSet : ByteArray := prog_7_method_11_code
def yX5_takeSet : MethodName := ⟨RX5, "takeSet", "(I)Z"⟩
abbrev cX5_takeOffer : ByteArray := prog_7_method_12_code
def yX5_takeOffer : MethodName := ⟨RX5, "takeOffer", "(II)Z"⟩
abbrev cX5_clearColumn : ByteArray := prog_7_method_13_code
def yX5_clearColumn : MethodName := ⟨RX5, "clearColumn", "(IIIII)V"⟩
abbrev cX5_allAskedAreEmpty : ByteArray := prog_7_method_14_code
def yX5_allAskedAreEmpty : MethodName := ⟨RX5, "allAskedAreEmpty", "(I)Z"⟩
abbrev cX5_allOffersDo : ByteArray := prog_7_method_15_code
def yX5_allOffersDo : MethodName := ⟨RX5, "allOffersDo", "(I)Z"⟩
def RX6 : String := "EndMeters"
def TX6 : u_T := fun k => match k with
  | 0 => ("EndMeters", "net", "LEndMeters$Net;", true)
  | 1 => ("EndMeters", "delays", "LEndMeters$Delays;", true)
  | 2 => ("EndMeters", "liars", "LEndMeters$Liars;", true)
  | 3 => ("EndMeters", "spans", "LEndMeters$Spans;", true)
  | _ => ("EndMeters", "sickLines", "LEndMeters$SickLines;", true)
def tyX6 : Nat → FieldType := fun k => match k with
  | 0 => .object "EndMeters$Net"
  | 1 => .object "EndMeters$Delays"
  | 2 => .object "EndMeters$Liars"
  | 3 => .object "EndMeters$Spans"
  | _ => .object "EndMeters$SickLines"
abbrev wsX60 : List Cond := u_ws RX6 TX6 5
theorem nmX6 : ∀ a, a < 5 → ∀ b, b < 5 → a ≠ b → (TX6 a).2.1 ≠ (TX6 b).2.1 := by decide +kernel
theorem tyX6_ok : ∀ k, k < 5 → parseFieldDescriptor (TX6 k).2.2.1 = some (tyX6 k) := by decide +kernel
abbrev cX6_init : ByteArray := prog_1_method_1_code
def yX6_init : MethodName := ⟨RX6, "<init>", "()V"⟩
abbrev cX6_lines : ByteArray := prog_1_method_2_code
def yX6_lines : MethodName := ⟨RX6, "lines", "(I)I"⟩
abbrev cX6_way : ByteArray := prog_1_method_3_code
def yX6_way : MethodName := ⟨RX6, "way", "(II)I"⟩
abbrev cX6_sum : ByteArray := prog_1_method_4_code
def yX6_sum : MethodName := ⟨RX6, "sum", "(II)I"⟩
abbrev cX6_over : ByteArray := prog_1_method_5_code
def yX6_over : MethodName := ⟨RX6, "over", "(II)I"⟩
abbrev cX6_on : ByteArray := prog_1_method_6_code
def yX6_on : MethodName := ⟨RX6, "on", "(IZ)I"⟩
abbrev cX6_bad : ByteArray := prog_1_method_7_code
def yX6_bad : MethodName := ⟨RX6, "bad", "(IZ)I"⟩
abbrev cX6_back : ByteArray := prog_1_method_8_code
def yX6_back : MethodName := ⟨RX6, "back", "()I"⟩
abbrev cX6_told : ByteArray := prog_1_method_9_code
def yX6_told : MethodName := ⟨RX6, "told", "(II)I"⟩
abbrev cX6_count : ByteArray := prog_1_method_10_code
def yX6_count : MethodName := ⟨RX6, "count", "(I)I"⟩
abbrev cX6_fits : ByteArray := prog_1_method_11_code
def yX6_fits : MethodName := ⟨RX6, "fits", "()I"⟩
abbrev cX6_bound : ByteArray := prog_1_method_12_code
def yX6_bound : MethodName := ⟨RX6, "bound", "(III)J"⟩
abbrev cX6_shown : ByteArray := prog_1_method_13_code
def yX6_shown : MethodName := ⟨RX6, "shown", "(IIII)J"⟩
abbrev cX6_settled : ByteArray := prog_1_method_14_code
def yX6_settled : MethodName := ⟨RX6, "settled", "(I)I"⟩
abbrev cX6_known : ByteArray := prog_1_method_15_code
def yX6_known : MethodName := ⟨RX6, "known", "(I)I"⟩
abbrev cX6_group : ByteArray := prog_1_method_16_code
def yX6_group : MethodName := ⟨RX6, "group", "(I)I"⟩
abbrev cX6_lying : ByteArray := prog_1_method_17_code
def yX6_lying : MethodName := ⟨RX6, "lying", "(I)I"⟩
abbrev cX6_offer : ByteArray := prog_1_method_18_code
def yX6_offer : MethodName := ⟨RX6, "offer", "(I)I"⟩
abbrev cX6_offered : ByteArray := prog_1_method_19_code
def yX6_offered : MethodName := ⟨RX6, "offered", "(II)I"⟩
abbrev cX6_advice : ByteArray := prog_1_method_20_code
def yX6_advice : MethodName := ⟨RX6, "advice", "(I)I"⟩
abbrev cX6_sick : ByteArray := prog_1_method_21_code
def yX6_sick : MethodName := ⟨RX6, "sick", "(I)I"⟩
abbrev cX6_pair : ByteArray := prog_1_method_22_code
def yX6_pair : MethodName := ⟨RX6, "pair", "(IIIIII)J"⟩
abbrev cX6_forgetAnswers : ByteArray := prog_1_method_23_code
def yX6_forgetAnswers : MethodName := ⟨RX6, "forgetAnswers", "()V"⟩
abbrev cX6_isEndless : ByteArray := prog_1_method_24_code
def yX6_isEndless : MethodName := ⟨RX6, "isEndless", "(II)Z"⟩
abbrev cX6_settledLines : ByteArray := prog_1_method_25_code
def yX6_settledLines : MethodName := ⟨RX6, "settledLines", "()I"⟩
abbrev cX6_isSettledLine : ByteArray := prog_1_method_26_code
def yX6_isSettledLine : MethodName := ⟨RX6, "isSettledLine", "(I)Z"⟩
abbrev cX6_isSum : ByteArray := prog_1_method_27_code
def yX6_isSum : MethodName := ⟨RX6, "isSum", "(I)Z"⟩
abbrev cX6_isZeroOrOne : ByteArray := prog_1_method_28_code
def yX6_isZeroOrOne : MethodName := ⟨RX6, "isZeroOrOne", "(I)Z"⟩
abbrev cX6_isPair : ByteArray := prog_1_method_29_code
def yX6_isPair : MethodName := ⟨RX6, "isPair", "(IIII)Z"⟩
abbrev cX6_bitOf : ByteArray := prog_1_method_30_code
def yX6_bitOf : MethodName := ⟨RX6, "bitOf", "(II)I"⟩
abbrev cX6_withBit : ByteArray := prog_1_method_31_code
def yX6_withBit : MethodName := ⟨RX6, "withBit", "(IIZ)I"⟩
abbrev cX6_partOfFraction : ByteArray := prog_1_method_32_code
def yX6_partOfFraction : MethodName := ⟨RX6, "partOfFraction", "(JJI)J"⟩
abbrev cX6_greatestDivisor : ByteArray := prog_1_method_33_code
def yX6_greatestDivisor : MethodName := ⟨RX6, "greatestDivisor", "(JJ)J"⟩
def RX7 : String := "EndMetersModel"
def TX7 : u_T := fun k => match k with
  | 0 => ("EndMetersModel", "lines", "I", false)
  | 1 => ("EndMetersModel", "way", "[I", true)
  | 2 => ("EndMetersModel", "sum", "[I", true)
  | 3 => ("EndMetersModel", "isOn", "[Z", true)
  | 4 => ("EndMetersModel", "isBad", "[Z", true)
  | 5 => ("EndMetersModel", "ways", "I", false)
  | 6 => ("EndMetersModel", "offer", "[I", true)
  | 7 => ("EndMetersModel", "offers", "I", false)
  | 8 => ("EndMetersModel", "row", "[J", true)
  | 9 => ("EndMetersModel", "rows", "I", false)
  | 10 => ("EndMetersModel", "ahead", "J", false)
  | 11 => ("EndMetersModel", "base", "[I", true)
  | 12 => ("EndMetersModel", "upper", "[J", true)
  | 13 => ("EndMetersModel", "lower", "J", false)
  | 14 => ("EndMetersModel", "best", "[J", true)
  | 15 => ("EndMetersModel", "bestLower", "J", false)
  | 16 => ("EndMetersModel", "found", "[I", true)
  | _ => ("EndMetersModel", "founds", "I", false)
def tyX7 : Nat → FieldType := fun k => match k with
  | 0 => .int
  | 1 => .array .int
  | 2 => .array .int
  | 3 => .array .boolean
  | 4 => .array .boolean
  | 5 => .int
  | 6 => .array .int
  | 7 => .int
  | 8 => .array .long
  | 9 => .int
  | 10 => .long
  | 11 => .array .int
  | 12 => .array .long
  | 13 => .long
  | 14 => .array .long
  | 15 => .long
  | 16 => .array .int
  | _ => .int
abbrev wsX70 : List Cond := u_ws RX7 TX7 18
theorem nmX7 : ∀ a, a < 18 → ∀ b, b < 18 → a ≠ b → (TX7 a).2.1 ≠ (TX7 b).2.1 := by decide +kernel
theorem tyX7_ok : ∀ k, k < 18 → parseFieldDescriptor (TX7 k).2.2.1 = some (tyX7 k) := by decide +kernel
abbrev cX7_init : ByteArray := prog_9_method_1_code
def yX7_init : MethodName := ⟨RX7, "<init>", "()V"⟩
abbrev cX7_in : ByteArray := prog_9_method_3_code
def yX7_in : MethodName := ⟨RX7, "in", "(JJJ)Z"⟩
abbrev cX7_noSet : ByteArray := prog_9_method_4_code
def yX7_noSet : MethodName := ⟨RX7, "noSet", "(II)Z"⟩
abbrev cX7_bits : ByteArray := prog_9_method_5_code
def yX7_bits : MethodName := ⟨RX7, "bits", "(I)I"⟩
abbrev cX7_lines : ByteArray := prog_9_method_6_code
def yX7_lines : MethodName := ⟨RX7, "lines", "(I)I"⟩
abbrev cX7_way : ByteArray := prog_9_method_7_code
def yX7_way : MethodName := ⟨RX7, "way", "(II)I"⟩
abbrev cX7_noWay : ByteArray := prog_9_method_8_code
def yX7_noWay : MethodName := ⟨RX7, "noWay", "(I)Z"⟩
abbrev cX7_sum : ByteArray := prog_9_method_9_code
def yX7_sum : MethodName := ⟨RX7, "sum", "(II)I"⟩
abbrev cX7_over : ByteArray := prog_9_method_10_code
def yX7_over : MethodName := ⟨RX7, "over", "(II)I"⟩
abbrev cX7_on : ByteArray := prog_9_method_11_code
def yX7_on : MethodName := ⟨RX7, "on", "(IZ)I"⟩
abbrev cX7_bad : ByteArray := prog_9_method_12_code
def yX7_bad : MethodName := ⟨RX7, "bad", "(IZ)I"⟩
abbrev cX7_back : ByteArray := prog_9_method_13_code
def yX7_back : MethodName := ⟨RX7, "back", "()I"⟩
abbrev cX7_told : ByteArray := prog_9_method_14_code
def yX7_told : MethodName := ⟨RX7, "told", "(II)I"⟩
abbrev cX7_onSet : ByteArray := prog_9_method_15_code
def yX7_onSet : MethodName := ⟨RX7, "onSet", "()I"⟩
abbrev cX7_seenSet : ByteArray := prog_9_method_16_code
def yX7_seenSet : MethodName := ⟨RX7, "seenSet", "()I"⟩
abbrev cX7_swap : ByteArray := prog_9_method_17_code
def yX7_swap : MethodName := ⟨RX7, "swap", "(III)V"⟩
abbrev cX7_pivot : ByteArray := prog_9_method_18_code
def yX7_pivot : MethodName := ⟨RX7, "pivot", "(III)V"⟩
abbrev cX7_findRow : ByteArray := prog_9_method_19_code
def yX7_findRow : MethodName := ⟨RX7, "findRow", "(II)I"⟩
abbrev cX7_addRow : ByteArray := prog_9_method_20_code
def yX7_addRow : MethodName := ⟨RX7, "addRow", "(I)V"⟩
abbrev cX7_rank : ByteArray := prog_9_method_21_code
def yX7_rank : MethodName := ⟨RX7, "rank", "(III)I"⟩
abbrev cX7_isKnown : ByteArray := prog_9_method_22_code
def yX7_isKnown : MethodName := ⟨RX7, "isKnown", "(II)Z"⟩
abbrev cX7_doFit : ByteArray := prog_9_method_23_code
def yX7_doFit : MethodName := ⟨RX7, "doFit", "(I)Z"⟩
abbrev cX7_enter : ByteArray := prog_9_method_24_code
def yX7_enter : MethodName := ⟨RX7, "enter", "(I)I"⟩
abbrev cX7_leave : ByteArray := prog_9_method_25_code
def yX7_leave : MethodName := ⟨RX7, "leave", "(III)I"⟩
abbrev cX7_fits : ByteArray := prog_9_method_26_code
def yX7_fits : MethodName := ⟨RX7, "fits", "()I"⟩
abbrev cX7_tries : ByteArray := prog_9_method_27_code
def yX7_tries : MethodName := ⟨RX7, "tries", "(I)Z"⟩
abbrev cX7_of : ByteArray := prog_9_method_28_code
def yX7_of : MethodName := ⟨RX7, "of", "([JI)J"⟩
abbrev cX7_betters : ByteArray := prog_9_method_29_code
def yX7_betters : MethodName := ⟨RX7, "betters", "(II)Z"⟩
abbrev cX7_find : ByteArray := prog_9_method_30_code
def yX7_find : MethodName := ⟨RX7, "find", "(II)Z"⟩
abbrev cX7_gcd : ByteArray := prog_9_method_31_code
def yX7_gcd : MethodName := ⟨RX7, "gcd", "(JJ)J"⟩
abbrev cX7_part : ByteArray := prog_9_method_32_code
def yX7_part : MethodName := ⟨RX7, "part", "(JJI)J"⟩
abbrev cX7_isEndless : ByteArray := prog_9_method_33_code
def yX7_isEndless : MethodName := ⟨RX7, "isEndless", "(II)Z"⟩
abbrev cX7_bound : ByteArray := prog_9_method_34_code
def yX7_bound : MethodName := ⟨RX7, "bound", "(III)J"⟩
abbrev cX7_noLine : ByteArray := prog_9_method_35_code
def yX7_noLine : MethodName := ⟨RX7, "noLine", "(I)Z"⟩
abbrev cX7_shown : ByteArray := prog_9_method_36_code
def yX7_shown : MethodName := ⟨RX7, "shown", "(IIII)J"⟩
abbrev cX7_isSettled : ByteArray := prog_9_method_37_code
def yX7_isSettled : MethodName := ⟨RX7, "isSettled", "(I)Z"⟩
abbrev cX7_settled : ByteArray := prog_9_method_38_code
def yX7_settled : MethodName := ⟨RX7, "settled", "(I)I"⟩
abbrev cX7_known : ByteArray := prog_9_method_39_code
def yX7_known : MethodName := ⟨RX7, "known", "(I)I"⟩
abbrev cX7_overLine : ByteArray := prog_9_method_40_code
def yX7_overLine : MethodName := ⟨RX7, "overLine", "(I)I"⟩
abbrev cX7_groupOf : ByteArray := prog_9_method_41_code
def yX7_groupOf : MethodName := ⟨RX7, "groupOf", "(I)I"⟩
abbrev cX7_group : ByteArray := prog_9_method_42_code
def yX7_group : MethodName := ⟨RX7, "group", "(I)I"⟩
abbrev cX7_count : ByteArray := prog_9_method_43_code
def yX7_count : MethodName := ⟨RX7, "count", "(I)I"⟩
abbrev cX7_foundAt : ByteArray := prog_9_method_44_code
def yX7_foundAt : MethodName := ⟨RX7, "foundAt", "(I)I"⟩
abbrev cX7_lying : ByteArray := prog_9_method_45_code
def yX7_lying : MethodName := ⟨RX7, "lying", "(I)I"⟩
abbrev cX7_offer : ByteArray := prog_9_method_46_code
def yX7_offer : MethodName := ⟨RX7, "offer", "(I)I"⟩
abbrev cX7_offered : ByteArray := prog_9_method_47_code
def yX7_offered : MethodName := ⟨RX7, "offered", "(II)I"⟩
abbrev cX7_advises : ByteArray := prog_9_method_48_code
def yX7_advises : MethodName := ⟨RX7, "advises", "(II)Z"⟩
abbrev cX7_advice : ByteArray := prog_9_method_49_code
def yX7_advice : MethodName := ⟨RX7, "advice", "(I)I"⟩
abbrev cX7_explains : ByteArray := prog_9_method_50_code
def yX7_explains : MethodName := ⟨RX7, "explains", "(I)Z"⟩
abbrev cX7_sick : ByteArray := prog_9_method_51_code
def yX7_sick : MethodName := ⟨RX7, "sick", "(I)I"⟩
abbrev cX7_pair : ByteArray := prog_9_method_52_code
def yX7_pair : MethodName := ⟨RX7, "pair", "(IIIIII)J"⟩
def RJ6 : String := "java/lang/Integer"
def TJ6 : u_T := fun k => match k with
  | _ => ("", "", "", false)
def tyJ6 : Nat → FieldType := fun k => match k with
  | _ => .int
abbrev wsJ60 : List Cond := u_ws RJ6 TJ6 0
theorem nmJ6 : ∀ a, a < 0 → ∀ b, b < 0 → a ≠ b → (TJ6 a).2.1 ≠ (TJ6 b).2.1 := by decide +kernel
theorem tyJ6_ok : ∀ k, k < 0 → parseFieldDescriptor (TJ6 k).2.2.1 = some (tyJ6 k) := by decide +kernel
abbrev cJ6_bitCount_0f7a4 : ByteArray := prog_10_method_49_code
def yJ6_bitCount_0f7a4 : MethodName := ⟨RJ6, "bitCount", "(I)I"⟩
def RJ7 : String := "java/util/Arrays"
def TJ7 : u_T := fun k => match k with
  | _ => ("", "", "", false)
def tyJ7 : Nat → FieldType := fun k => match k with
  | _ => .int
abbrev wsJ70 : List Cond := u_ws RJ7 TJ7 0
theorem nmJ7 : ∀ a, a < 0 → ∀ b, b < 0 → a ≠ b → (TJ7 a).2.1 ≠ (TJ7 b).2.1 := by decide +kernel
theorem tyJ7_ok : ∀ k, k < 0 → parseFieldDescriptor (TJ7 k).2.2.1 = some (tyJ7 k) := by decide +kernel
abbrev cJ7_fill_d0a16 : ByteArray := prog_11_method_101_code
def yJ7_fill_d0a16 : MethodName := ⟨RJ7, "fill", "([JJ)V"⟩
abbrev cJ7_fill_53178 : ByteArray := prog_11_method_103_code
def yJ7_fill_53178 : MethodName := ⟨RJ7, "fill", "([II)V"⟩
def RL : String := "EndMetersLaw"
abbrev cL_law : ByteArray := code
def yL_law : MethodName := ⟨RL, "law", "([I)Z"⟩
def wsX0_init : List Cond := .code yX0_init cX0_init 1 none :: ([.methodLink RX0 3 objectInit, .instanceMethod objectInit, .code objectInit ⟨#[0xb1]⟩ 1 none, .arrayClass .long, .fieldLink RX0 9 "EndMeters$Delays" "table" "[J", .arrayClass .int, .fieldLink RX0 15 "EndMeters$Delays" "holder" "[I", .fieldLink RX0 19 "EndMeters$Delays" "wayOfRow" "[I", .fieldLink RX0 22 "EndMeters$Delays" "lineCost" "[I", .fieldLink RX0 25 "EndMeters$Delays" "scale" "J", .fieldLink RX0 29 "EndMeters$Delays" "loaded" "I"] ++ wsX00)
def wsX0_forget : List Cond := .code yX0_forget cX0_forget 1 none :: ([.fieldLink RX0 29 "EndMeters$Delays" "loaded" "I"] ++ wsX00)
def wsJ6_bitCount_0f7a4 : List Cond := .code yJ6_bitCount_0f7a4 cJ6_bitCount_0f7a4 1 (some .int) :: ([.constant RJ6 265 (1431655765), .constant RJ6 266 (858993459), .constant RJ6 267 (252645135)])
def wsJ7_fill_d0a16 : List Cond := .code yJ7_fill_d0a16 cJ7_fill_d0a16 5 none :: ([])
def wsX6_bitOf : List Cond := .code yX6_bitOf cX6_bitOf 2 (some .int) :: ([])
def wsX0_loadRow : List Cond := .code yX0_loadRow cX0_loadRow 6 none :: ([.fieldLink RX0 48 "EndMeters$Delays" "width" "I", .fieldLink RX0 68 "EndMeters$Delays" "lineCount" "I", .fieldLink RX0 9 "EndMeters$Delays" "table" "[J", .fieldLink RX0 15 "EndMeters$Delays" "holder" "[I", .static yX6_bitOf, .initialized RX6, .code yX6_bitOf cX6_bitOf 2 (some .int)] ++ wsX00)
def wsX0_load_r1 : List Cond := [Cond.fieldLink RX0 81 "EndMeters$Net" "lineCount" "I", Cond.fieldLink RX0 68 "EndMeters$Delays" "lineCount" "I", Cond.fieldLink RX0 74 "EndMeters$Delays" "rows" "I", Cond.fieldLink RX0 48 "EndMeters$Delays" "width" "I", Cond.fieldLink RX0 25 "EndMeters$Delays" "scale" "J", Cond.fieldLink RX0 65 "EndMeters$Delays" "barred" "I", Cond.fieldLink RX0 9 "EndMeters$Delays" "table" "[J", Cond.fieldLink RX0 96 "EndMeters$Net" "wayCount" "I", Cond.fieldLink RX0 99 "EndMeters$Net" "waySet" "[I", Cond.fieldLink RX0 102 "EndMeters$Net" "waySum" "[I", Cond.fieldLink RX0 19 "EndMeters$Delays" "wayOfRow" "[I", Cond.methodLink RX0 84 yJ6_bitCount_0f7a4, Cond.static yJ6_bitCount_0f7a4, Cond.initialized RJ6, Cond.code yJ6_bitCount_0f7a4 cJ6_bitCount_0f7a4 1 (some .int), Cond.constant RJ6 265 (1431655765), Cond.constant RJ6 266 (858993459), Cond.constant RJ6 267 (252645135), Cond.methodLink RX0 90 yJ7_fill_d0a16, Cond.static yJ7_fill_d0a16, Cond.initialized RJ7, Cond.code yJ7_fill_d0a16 cJ7_fill_d0a16 5 none, Cond.static yX6_bitOf, Cond.initialized RX6]
def wsX0_load_r2 : List Cond := [Cond.code yX6_bitOf cX6_bitOf 2 (some .int), Cond.methodLink RX0 105 yX0_loadRow, Cond.instanceMethod yX0_loadRow, Cond.selects RX0 yX0_loadRow yX0_loadRow, Cond.initialized RX0, Cond.code yX0_loadRow cX0_loadRow 6 none, Cond.fieldLink RX0 15 "EndMeters$Delays" "holder" "[I"]
def wsX0_load : List Cond := .code yX0_load cX0_load 5 none :: ((wsX0_load_r1 ++ wsX0_load_r2) ++ wsX20 ++ wsX00)
def wsX0_setGoal : List Cond := .code yX0_setGoal cX0_setGoal 5 none :: ([.fieldLink RX0 68 "EndMeters$Delays" "lineCount" "I", .fieldLink RX0 22 "EndMeters$Delays" "lineCost" "[I", .fieldLink RX0 108 "EndMeters$Delays" "slackCost" "I", .static yX6_bitOf, .initialized RX6, .code yX6_bitOf cX6_bitOf 2 (some .int)] ++ wsX00)
def wsX0_costOfColumn : List Cond := .code yX0_costOfColumn cX0_costOfColumn 6 (some .long) :: ([.fieldLink RX0 74 "EndMeters$Delays" "rows" "I", .fieldLink RX0 15 "EndMeters$Delays" "holder" "[I", .fieldLink RX0 108 "EndMeters$Delays" "slackCost" "I", .fieldLink RX0 22 "EndMeters$Delays" "lineCost" "[I", .fieldLink RX0 9 "EndMeters$Delays" "table" "[J", .fieldLink RX0 48 "EndMeters$Delays" "width" "I"] ++ wsX00)
def wsX0_firstLineThatHelps : List Cond := .code yX0_firstLineThatHelps cX0_firstLineThatHelps 2 (some .int) :: ([.fieldLink RX0 68 "EndMeters$Delays" "lineCount" "I", .fieldLink RX0 65 "EndMeters$Delays" "barred" "I", .fieldLink RX0 25 "EndMeters$Delays" "scale" "J", .fieldLink RX0 22 "EndMeters$Delays" "lineCost" "[I", .static yX6_bitOf, .initialized RX6, .code yX6_bitOf cX6_bitOf 2 (some .int), .methodLink RX0 51 yX0_costOfColumn, .instanceMethod yX0_costOfColumn, .selects RX0 yX0_costOfColumn yX0_costOfColumn, .initialized RX0, .code yX0_costOfColumn cX0_costOfColumn 6 (some .long), .fieldLink RX0 74 "EndMeters$Delays" "rows" "I", .fieldLink RX0 15 "EndMeters$Delays" "holder" "[I", .fieldLink RX0 108 "EndMeters$Delays" "slackCost" "I", .fieldLink RX0 9 "EndMeters$Delays" "table" "[J", .fieldLink RX0 48 "EndMeters$Delays" "width" "I"] ++ wsX00)
def wsX0_givesWayBefore : List Cond := .code yX0_givesWayBefore cX0_givesWayBefore 10 (some .boolean) :: ([.fieldLink RX0 48 "EndMeters$Delays" "width" "I", .fieldLink RX0 9 "EndMeters$Delays" "table" "[J", .fieldLink RX0 15 "EndMeters$Delays" "holder" "[I"] ++ wsX00)
def wsX0_rowThatGivesWay : List Cond := .code yX0_rowThatGivesWay cX0_rowThatGivesWay 4 (some .int) :: ([.fieldLink RX0 74 "EndMeters$Delays" "rows" "I", .fieldLink RX0 9 "EndMeters$Delays" "table" "[J", .fieldLink RX0 48 "EndMeters$Delays" "width" "I", .methodLink RX0 122 yX0_givesWayBefore, .instanceMethod yX0_givesWayBefore, .selects RX0 yX0_givesWayBefore yX0_givesWayBefore, .initialized RX0, .code yX0_givesWayBefore cX0_givesWayBefore 10 (some .boolean), .fieldLink RX0 15 "EndMeters$Delays" "holder" "[I"] ++ wsX00)
def wsX0_turnSigns : List Cond := .code yX0_turnSigns cX0_turnSigns 3 none :: ([.fieldLink RX0 48 "EndMeters$Delays" "width" "I", .fieldLink RX0 9 "EndMeters$Delays" "table" "[J"] ++ wsX00)
def wsX0_clearColumn : List Cond := .code yX0_clearColumn cX0_clearColumn 11 none :: ([.fieldLink RX0 9 "EndMeters$Delays" "table" "[J", .fieldLink RX0 25 "EndMeters$Delays" "scale" "J", .fieldLink RX0 48 "EndMeters$Delays" "width" "I"] ++ wsX00)
def wsX0_exchange : List Cond := .code yX0_exchange cX0_exchange 7 none :: ([.fieldLink RX0 48 "EndMeters$Delays" "width" "I", .fieldLink RX0 9 "EndMeters$Delays" "table" "[J", .fieldLink RX0 25 "EndMeters$Delays" "scale" "J", .fieldLink RX0 74 "EndMeters$Delays" "rows" "I", .fieldLink RX0 15 "EndMeters$Delays" "holder" "[I", .methodLink RX0 126 yX0_turnSigns, .instanceMethod yX0_turnSigns, .selects RX0 yX0_turnSigns yX0_turnSigns, .initialized RX0, .code yX0_turnSigns cX0_turnSigns 3 none, .methodLink RX0 130 yX0_clearColumn, .instanceMethod yX0_clearColumn, .selects RX0 yX0_clearColumn yX0_clearColumn, .code yX0_clearColumn cX0_clearColumn 11 none] ++ wsX00)
def wsX0_walkToLeast_r1 : List Cond := [Cond.constant RX0 111 (1000000), Cond.methodLink RX0 112 yX0_firstLineThatHelps, Cond.instanceMethod yX0_firstLineThatHelps, Cond.selects RX0 yX0_firstLineThatHelps yX0_firstLineThatHelps, Cond.initialized RX0, Cond.code yX0_firstLineThatHelps cX0_firstLineThatHelps 2 (some .int), Cond.fieldLink RX0 68 "EndMeters$Delays" "lineCount" "I", Cond.fieldLink RX0 65 "EndMeters$Delays" "barred" "I", Cond.fieldLink RX0 25 "EndMeters$Delays" "scale" "J", Cond.fieldLink RX0 22 "EndMeters$Delays" "lineCost" "[I", Cond.static yX6_bitOf, Cond.initialized RX6, Cond.code yX6_bitOf cX6_bitOf 2 (some .int), Cond.methodLink RX0 51 yX0_costOfColumn, Cond.instanceMethod yX0_costOfColumn, Cond.selects RX0 yX0_costOfColumn yX0_costOfColumn, Cond.code yX0_costOfColumn cX0_costOfColumn 6 (some .long), Cond.fieldLink RX0 74 "EndMeters$Delays" "rows" "I", Cond.fieldLink RX0 15 "EndMeters$Delays" "holder" "[I", Cond.fieldLink RX0 108 "EndMeters$Delays" "slackCost" "I", Cond.fieldLink RX0 9 "EndMeters$Delays" "table" "[J", Cond.fieldLink RX0 48 "EndMeters$Delays" "width" "I", Cond.methodLink RX0 115 yX0_rowThatGivesWay, Cond.instanceMethod yX0_rowThatGivesWay]
def wsX0_walkToLeast_r2 : List Cond := [Cond.selects RX0 yX0_rowThatGivesWay yX0_rowThatGivesWay, Cond.code yX0_rowThatGivesWay cX0_rowThatGivesWay 4 (some .int), Cond.methodLink RX0 122 yX0_givesWayBefore, Cond.instanceMethod yX0_givesWayBefore, Cond.selects RX0 yX0_givesWayBefore yX0_givesWayBefore, Cond.code yX0_givesWayBefore cX0_givesWayBefore 10 (some .boolean), Cond.methodLink RX0 118 yX0_exchange, Cond.instanceMethod yX0_exchange, Cond.selects RX0 yX0_exchange yX0_exchange, Cond.code yX0_exchange cX0_exchange 7 none, Cond.methodLink RX0 126 yX0_turnSigns, Cond.instanceMethod yX0_turnSigns, Cond.selects RX0 yX0_turnSigns yX0_turnSigns, Cond.code yX0_turnSigns cX0_turnSigns 3 none, Cond.methodLink RX0 130 yX0_clearColumn, Cond.instanceMethod yX0_clearColumn, Cond.selects RX0 yX0_clearColumn yX0_clearColumn, Cond.code yX0_clearColumn cX0_clearColumn 11 none]
def wsX0_walkToLeast : List Cond := .code yX0_walkToLeast cX0_walkToLeast 4 none :: ((wsX0_walkToLeast_r1 ++ wsX0_walkToLeast_r2) ++ wsX00)
def wsX0_dropSlacks : List Cond := .code yX0_dropSlacks cX0_dropSlacks 3 none :: ([.fieldLink RX0 74 "EndMeters$Delays" "rows" "I", .fieldLink RX0 68 "EndMeters$Delays" "lineCount" "I", .fieldLink RX0 15 "EndMeters$Delays" "holder" "[I", .fieldLink RX0 9 "EndMeters$Delays" "table" "[J", .fieldLink RX0 48 "EndMeters$Delays" "width" "I", .methodLink RX0 118 yX0_exchange, .instanceMethod yX0_exchange, .selects RX0 yX0_exchange yX0_exchange, .initialized RX0, .code yX0_exchange cX0_exchange 7 none, .fieldLink RX0 25 "EndMeters$Delays" "scale" "J", .methodLink RX0 126 yX0_turnSigns, .instanceMethod yX0_turnSigns, .selects RX0 yX0_turnSigns yX0_turnSigns, .code yX0_turnSigns cX0_turnSigns 3 none, .methodLink RX0 130 yX0_clearColumn, .instanceMethod yX0_clearColumn, .selects RX0 yX0_clearColumn yX0_clearColumn, .code yX0_clearColumn cX0_clearColumn 11 none] ++ wsX00)
def wsX0_waysThatClash : List Cond := .code yX0_waysThatClash cX0_waysThatClash 3 (some .int) :: ([.fieldLink RX0 74 "EndMeters$Delays" "rows" "I", .fieldLink RX0 68 "EndMeters$Delays" "lineCount" "I", .fieldLink RX0 19 "EndMeters$Delays" "wayOfRow" "[I", .methodLink RX0 51 yX0_costOfColumn, .instanceMethod yX0_costOfColumn, .selects RX0 yX0_costOfColumn yX0_costOfColumn, .initialized RX0, .code yX0_costOfColumn cX0_costOfColumn 6 (some .long), .fieldLink RX0 15 "EndMeters$Delays" "holder" "[I", .fieldLink RX0 108 "EndMeters$Delays" "slackCost" "I", .fieldLink RX0 22 "EndMeters$Delays" "lineCost" "[I", .fieldLink RX0 9 "EndMeters$Delays" "table" "[J", .fieldLink RX0 48 "EndMeters$Delays" "width" "I"] ++ wsX00)
def wsX0_solve_r1 : List Cond := [Cond.fieldLink RX0 29 "EndMeters$Delays" "loaded" "I", Cond.fieldLink RX0 33 "EndMeters$Delays" "possible" "Z", Cond.fieldLink RX0 48 "EndMeters$Delays" "width" "I", Cond.fieldLink RX0 62 "EndMeters$Delays" "clash" "I", Cond.methodLink RX0 37 yX0_load, Cond.instanceMethod yX0_load, Cond.selects RX0 yX0_load yX0_load, Cond.initialized RX0, Cond.code yX0_load cX0_load 5 none, Cond.fieldLink RX0 81 "EndMeters$Net" "lineCount" "I", Cond.fieldLink RX0 68 "EndMeters$Delays" "lineCount" "I", Cond.fieldLink RX0 74 "EndMeters$Delays" "rows" "I", Cond.fieldLink RX0 25 "EndMeters$Delays" "scale" "J", Cond.fieldLink RX0 65 "EndMeters$Delays" "barred" "I", Cond.fieldLink RX0 9 "EndMeters$Delays" "table" "[J", Cond.fieldLink RX0 96 "EndMeters$Net" "wayCount" "I", Cond.fieldLink RX0 99 "EndMeters$Net" "waySet" "[I", Cond.fieldLink RX0 102 "EndMeters$Net" "waySum" "[I", Cond.fieldLink RX0 19 "EndMeters$Delays" "wayOfRow" "[I", Cond.methodLink RX0 84 yJ6_bitCount_0f7a4, Cond.static yJ6_bitCount_0f7a4, Cond.initialized RJ6, Cond.code yJ6_bitCount_0f7a4 cJ6_bitCount_0f7a4 1 (some .int), Cond.constant RJ6 265 (1431655765)]
def wsX0_solve_r2 : List Cond := [Cond.constant RJ6 266 (858993459), Cond.constant RJ6 267 (252645135), Cond.methodLink RX0 90 yJ7_fill_d0a16, Cond.static yJ7_fill_d0a16, Cond.initialized RJ7, Cond.code yJ7_fill_d0a16 cJ7_fill_d0a16 5 none, Cond.static yX6_bitOf, Cond.initialized RX6, Cond.code yX6_bitOf cX6_bitOf 2 (some .int), Cond.methodLink RX0 105 yX0_loadRow, Cond.instanceMethod yX0_loadRow, Cond.selects RX0 yX0_loadRow yX0_loadRow, Cond.code yX0_loadRow cX0_loadRow 6 none, Cond.fieldLink RX0 15 "EndMeters$Delays" "holder" "[I", Cond.methodLink RX0 41 yX0_setGoal, Cond.instanceMethod yX0_setGoal, Cond.selects RX0 yX0_setGoal yX0_setGoal, Cond.code yX0_setGoal cX0_setGoal 5 none, Cond.fieldLink RX0 22 "EndMeters$Delays" "lineCost" "[I", Cond.fieldLink RX0 108 "EndMeters$Delays" "slackCost" "I", Cond.methodLink RX0 45 yX0_walkToLeast, Cond.instanceMethod yX0_walkToLeast, Cond.selects RX0 yX0_walkToLeast yX0_walkToLeast, Cond.code yX0_walkToLeast cX0_walkToLeast 4 none]
def wsX0_solve_r3 : List Cond := [Cond.constant RX0 111 (1000000), Cond.methodLink RX0 112 yX0_firstLineThatHelps, Cond.instanceMethod yX0_firstLineThatHelps, Cond.selects RX0 yX0_firstLineThatHelps yX0_firstLineThatHelps, Cond.code yX0_firstLineThatHelps cX0_firstLineThatHelps 2 (some .int), Cond.methodLink RX0 51 yX0_costOfColumn, Cond.instanceMethod yX0_costOfColumn, Cond.selects RX0 yX0_costOfColumn yX0_costOfColumn, Cond.code yX0_costOfColumn cX0_costOfColumn 6 (some .long), Cond.methodLink RX0 115 yX0_rowThatGivesWay, Cond.instanceMethod yX0_rowThatGivesWay, Cond.selects RX0 yX0_rowThatGivesWay yX0_rowThatGivesWay, Cond.code yX0_rowThatGivesWay cX0_rowThatGivesWay 4 (some .int), Cond.methodLink RX0 122 yX0_givesWayBefore, Cond.instanceMethod yX0_givesWayBefore, Cond.selects RX0 yX0_givesWayBefore yX0_givesWayBefore, Cond.code yX0_givesWayBefore cX0_givesWayBefore 10 (some .boolean), Cond.methodLink RX0 118 yX0_exchange, Cond.instanceMethod yX0_exchange, Cond.selects RX0 yX0_exchange yX0_exchange, Cond.code yX0_exchange cX0_exchange 7 none, Cond.methodLink RX0 126 yX0_turnSigns, Cond.instanceMethod yX0_turnSigns, Cond.selects RX0 yX0_turnSigns yX0_turnSigns]
def wsX0_solve_r4 : List Cond := [Cond.code yX0_turnSigns cX0_turnSigns 3 none, Cond.methodLink RX0 130 yX0_clearColumn, Cond.instanceMethod yX0_clearColumn, Cond.selects RX0 yX0_clearColumn yX0_clearColumn, Cond.code yX0_clearColumn cX0_clearColumn 11 none, Cond.methodLink RX0 55 yX0_dropSlacks, Cond.instanceMethod yX0_dropSlacks, Cond.selects RX0 yX0_dropSlacks yX0_dropSlacks, Cond.code yX0_dropSlacks cX0_dropSlacks 3 none, Cond.methodLink RX0 58 yX0_waysThatClash, Cond.instanceMethod yX0_waysThatClash, Cond.selects RX0 yX0_waysThatClash yX0_waysThatClash, Cond.code yX0_waysThatClash cX0_waysThatClash 3 (some .int)]
def wsX0_solve : List Cond := .code yX0_solve cX0_solve 3 (some .boolean) :: ((wsX0_solve_r1 ++ (wsX0_solve_r2 ++ (wsX0_solve_r3 ++ wsX0_solve_r4))) ++ wsX00 ++ wsX20)
def wsX0_goToEnd_r1 : List Cond := [Cond.fieldLink RX0 65 "EndMeters$Delays" "barred" "I", Cond.methodLink RX0 41 yX0_setGoal, Cond.instanceMethod yX0_setGoal, Cond.selects RX0 yX0_setGoal yX0_setGoal, Cond.initialized RX0, Cond.code yX0_setGoal cX0_setGoal 5 none, Cond.fieldLink RX0 68 "EndMeters$Delays" "lineCount" "I", Cond.fieldLink RX0 22 "EndMeters$Delays" "lineCost" "[I", Cond.fieldLink RX0 108 "EndMeters$Delays" "slackCost" "I", Cond.static yX6_bitOf, Cond.initialized RX6, Cond.code yX6_bitOf cX6_bitOf 2 (some .int), Cond.methodLink RX0 45 yX0_walkToLeast, Cond.instanceMethod yX0_walkToLeast, Cond.selects RX0 yX0_walkToLeast yX0_walkToLeast, Cond.code yX0_walkToLeast cX0_walkToLeast 4 none, Cond.constant RX0 111 (1000000), Cond.methodLink RX0 112 yX0_firstLineThatHelps, Cond.instanceMethod yX0_firstLineThatHelps, Cond.selects RX0 yX0_firstLineThatHelps yX0_firstLineThatHelps, Cond.code yX0_firstLineThatHelps cX0_firstLineThatHelps 2 (some .int), Cond.fieldLink RX0 25 "EndMeters$Delays" "scale" "J", Cond.methodLink RX0 51 yX0_costOfColumn, Cond.instanceMethod yX0_costOfColumn]
def wsX0_goToEnd_r2 : List Cond := [Cond.selects RX0 yX0_costOfColumn yX0_costOfColumn, Cond.code yX0_costOfColumn cX0_costOfColumn 6 (some .long), Cond.fieldLink RX0 74 "EndMeters$Delays" "rows" "I", Cond.fieldLink RX0 15 "EndMeters$Delays" "holder" "[I", Cond.fieldLink RX0 9 "EndMeters$Delays" "table" "[J", Cond.fieldLink RX0 48 "EndMeters$Delays" "width" "I", Cond.methodLink RX0 115 yX0_rowThatGivesWay, Cond.instanceMethod yX0_rowThatGivesWay, Cond.selects RX0 yX0_rowThatGivesWay yX0_rowThatGivesWay, Cond.code yX0_rowThatGivesWay cX0_rowThatGivesWay 4 (some .int), Cond.methodLink RX0 122 yX0_givesWayBefore, Cond.instanceMethod yX0_givesWayBefore, Cond.selects RX0 yX0_givesWayBefore yX0_givesWayBefore, Cond.code yX0_givesWayBefore cX0_givesWayBefore 10 (some .boolean), Cond.methodLink RX0 118 yX0_exchange, Cond.instanceMethod yX0_exchange, Cond.selects RX0 yX0_exchange yX0_exchange, Cond.code yX0_exchange cX0_exchange 7 none, Cond.methodLink RX0 126 yX0_turnSigns, Cond.instanceMethod yX0_turnSigns, Cond.selects RX0 yX0_turnSigns yX0_turnSigns, Cond.code yX0_turnSigns cX0_turnSigns 3 none, Cond.methodLink RX0 130 yX0_clearColumn, Cond.instanceMethod yX0_clearColumn]
def wsX0_goToEnd_r3 : List Cond := [Cond.selects RX0 yX0_clearColumn yX0_clearColumn, Cond.code yX0_clearColumn cX0_clearColumn 11 none]
def wsX0_goToEnd : List Cond := .code yX0_goToEnd cX0_goToEnd 3 none :: ((wsX0_goToEnd_r1 ++ (wsX0_goToEnd_r2 ++ wsX0_goToEnd_r3)) ++ wsX00)
def wsX0_barWhatCosts : List Cond := .code yX0_barWhatCosts cX0_barWhatCosts 2 none :: ([.fieldLink RX0 68 "EndMeters$Delays" "lineCount" "I", .fieldLink RX0 25 "EndMeters$Delays" "scale" "J", .fieldLink RX0 22 "EndMeters$Delays" "lineCost" "[I", .fieldLink RX0 65 "EndMeters$Delays" "barred" "I", .methodLink RX0 51 yX0_costOfColumn, .instanceMethod yX0_costOfColumn, .selects RX0 yX0_costOfColumn yX0_costOfColumn, .initialized RX0, .code yX0_costOfColumn cX0_costOfColumn 6 (some .long), .fieldLink RX0 74 "EndMeters$Delays" "rows" "I", .fieldLink RX0 15 "EndMeters$Delays" "holder" "[I", .fieldLink RX0 108 "EndMeters$Delays" "slackCost" "I", .fieldLink RX0 9 "EndMeters$Delays" "table" "[J", .fieldLink RX0 48 "EndMeters$Delays" "width" "I"] ++ wsX00)
def wsX0_leastInTurnUpTo_r1 : List Cond := [Cond.fieldLink RX0 68 "EndMeters$Delays" "lineCount" "I", Cond.methodLink RX0 71 yX0_barWhatCosts, Cond.instanceMethod yX0_barWhatCosts, Cond.selects RX0 yX0_barWhatCosts yX0_barWhatCosts, Cond.initialized RX0, Cond.code yX0_barWhatCosts cX0_barWhatCosts 2 none, Cond.fieldLink RX0 25 "EndMeters$Delays" "scale" "J", Cond.fieldLink RX0 22 "EndMeters$Delays" "lineCost" "[I", Cond.fieldLink RX0 65 "EndMeters$Delays" "barred" "I", Cond.methodLink RX0 51 yX0_costOfColumn, Cond.instanceMethod yX0_costOfColumn, Cond.selects RX0 yX0_costOfColumn yX0_costOfColumn, Cond.code yX0_costOfColumn cX0_costOfColumn 6 (some .long), Cond.fieldLink RX0 74 "EndMeters$Delays" "rows" "I", Cond.fieldLink RX0 15 "EndMeters$Delays" "holder" "[I", Cond.fieldLink RX0 108 "EndMeters$Delays" "slackCost" "I", Cond.fieldLink RX0 9 "EndMeters$Delays" "table" "[J", Cond.fieldLink RX0 48 "EndMeters$Delays" "width" "I", Cond.methodLink RX0 41 yX0_setGoal, Cond.instanceMethod yX0_setGoal, Cond.selects RX0 yX0_setGoal yX0_setGoal, Cond.code yX0_setGoal cX0_setGoal 5 none, Cond.static yX6_bitOf, Cond.initialized RX6]
def wsX0_leastInTurnUpTo_r2 : List Cond := [Cond.code yX6_bitOf cX6_bitOf 2 (some .int), Cond.methodLink RX0 45 yX0_walkToLeast, Cond.instanceMethod yX0_walkToLeast, Cond.selects RX0 yX0_walkToLeast yX0_walkToLeast, Cond.code yX0_walkToLeast cX0_walkToLeast 4 none, Cond.constant RX0 111 (1000000), Cond.methodLink RX0 112 yX0_firstLineThatHelps, Cond.instanceMethod yX0_firstLineThatHelps, Cond.selects RX0 yX0_firstLineThatHelps yX0_firstLineThatHelps, Cond.code yX0_firstLineThatHelps cX0_firstLineThatHelps 2 (some .int), Cond.methodLink RX0 115 yX0_rowThatGivesWay, Cond.instanceMethod yX0_rowThatGivesWay, Cond.selects RX0 yX0_rowThatGivesWay yX0_rowThatGivesWay, Cond.code yX0_rowThatGivesWay cX0_rowThatGivesWay 4 (some .int), Cond.methodLink RX0 122 yX0_givesWayBefore, Cond.instanceMethod yX0_givesWayBefore, Cond.selects RX0 yX0_givesWayBefore yX0_givesWayBefore, Cond.code yX0_givesWayBefore cX0_givesWayBefore 10 (some .boolean), Cond.methodLink RX0 118 yX0_exchange, Cond.instanceMethod yX0_exchange, Cond.selects RX0 yX0_exchange yX0_exchange, Cond.code yX0_exchange cX0_exchange 7 none, Cond.methodLink RX0 126 yX0_turnSigns, Cond.instanceMethod yX0_turnSigns]
def wsX0_leastInTurnUpTo_r3 : List Cond := [Cond.selects RX0 yX0_turnSigns yX0_turnSigns, Cond.code yX0_turnSigns cX0_turnSigns 3 none, Cond.methodLink RX0 130 yX0_clearColumn, Cond.instanceMethod yX0_clearColumn, Cond.selects RX0 yX0_clearColumn yX0_clearColumn, Cond.code yX0_clearColumn cX0_clearColumn 11 none]
def wsX0_leastInTurnUpTo : List Cond := .code yX0_leastInTurnUpTo cX0_leastInTurnUpTo 3 none :: ((wsX0_leastInTurnUpTo_r1 ++ (wsX0_leastInTurnUpTo_r2 ++ wsX0_leastInTurnUpTo_r3)) ++ wsX00)
def wsX0_upperOf : List Cond := .code yX0_upperOf cX0_upperOf 5 (some .long) :: ([.fieldLink RX0 74 "EndMeters$Delays" "rows" "I", .fieldLink RX0 15 "EndMeters$Delays" "holder" "[I", .fieldLink RX0 9 "EndMeters$Delays" "table" "[J", .fieldLink RX0 48 "EndMeters$Delays" "width" "I", .static yX6_bitOf, .initialized RX6, .code yX6_bitOf cX6_bitOf 2 (some .int)] ++ wsX00)
def wsX3_init : List Cond := .code yX3_init cX3_init 1 none :: ([.methodLink RX3 3 objectInit, .instanceMethod objectInit, .code objectInit ⟨#[0xb1]⟩ 1 none, .arrayClass .int, .fieldLink RX3 11 "EndMeters$SetList" "sets" "[I"] ++ wsX30)
def wsX1_init : List Cond := .code yX1_init cX1_init 1 none :: ([.methodLink RX1 1 objectInit, .instanceMethod objectInit, .code objectInit ⟨#[0xb1]⟩ 1 none, .classLink RX1 7 RX3, .instantiable RX3 2, .initialized RX3, .fieldLink RX1 10 "EndMeters$Liars" "found" "LEndMeters$SetList;", .fieldLink RX1 16 "EndMeters$Liars" "clashes" "LEndMeters$SetList;", .instanceMethod yX3_init, .code yX3_init cX3_init 1 none, .methodLink RX3 3 objectInit, .arrayClass .int, .fieldLink RX3 11 "EndMeters$SetList" "sets" "[I"] ++ wsX30 ++ wsX10)
def wsX1_forget : List Cond := .code yX1_forget cX1_forget 1 none :: ([.fieldLink RX1 19 "EndMeters$Liars" "upToDate" "Z"] ++ wsX10)
def wsX3_empty : List Cond := .code yX3_empty cX3_empty 1 none :: ([.fieldLink RX3 15 "EndMeters$SetList" "size" "I"] ++ wsX30)
def wsX1_breaksAllClashes : List Cond := .code yX1_breaksAllClashes cX1_breaksAllClashes 3 (some .boolean) :: ([.fieldLink RX1 16 "EndMeters$Liars" "clashes" "LEndMeters$SetList;", .fieldLink RX1 38 "EndMeters$SetList" "size" "I", .fieldLink RX1 66 "EndMeters$SetList" "sets" "[I"] ++ wsX10 ++ wsX30)
def wsX3_add : List Cond := .code yX3_add cX3_add 2 none :: ([.fieldLink RX3 15 "EndMeters$SetList" "size" "I", .fieldLink RX3 11 "EndMeters$SetList" "sets" "[I"] ++ wsX30)
def wsX6_withBit : List Cond := .code yX6_withBit cX6_withBit 3 (some .int) :: ([])
def wsX1_leastClash_r1 : List Cond := [Cond.fieldLink RX1 70 "EndMeters$Net" "wayCount" "I", Cond.fieldLink RX1 59 "EndMeters$Delays" "clash" "I", Cond.static yX6_withBit, Cond.initialized RX6, Cond.code yX6_withBit cX6_withBit 3 (some .int), Cond.methodLink RX1 49 yX0_solve, Cond.instanceMethod yX0_solve, Cond.selects RX0 yX0_solve yX0_solve, Cond.initialized RX0, Cond.code yX0_solve cX0_solve 3 (some .boolean), Cond.fieldLink RX0 29 "EndMeters$Delays" "loaded" "I", Cond.fieldLink RX0 33 "EndMeters$Delays" "possible" "Z", Cond.fieldLink RX0 48 "EndMeters$Delays" "width" "I", Cond.fieldLink RX0 62 "EndMeters$Delays" "clash" "I", Cond.methodLink RX0 37 yX0_load, Cond.instanceMethod yX0_load, Cond.selects RX0 yX0_load yX0_load, Cond.code yX0_load cX0_load 5 none, Cond.fieldLink RX0 81 "EndMeters$Net" "lineCount" "I", Cond.fieldLink RX0 68 "EndMeters$Delays" "lineCount" "I", Cond.fieldLink RX0 74 "EndMeters$Delays" "rows" "I", Cond.fieldLink RX0 25 "EndMeters$Delays" "scale" "J", Cond.fieldLink RX0 65 "EndMeters$Delays" "barred" "I", Cond.fieldLink RX0 9 "EndMeters$Delays" "table" "[J"]
def wsX1_leastClash_r2 : List Cond := [Cond.fieldLink RX0 96 "EndMeters$Net" "wayCount" "I", Cond.fieldLink RX0 99 "EndMeters$Net" "waySet" "[I", Cond.fieldLink RX0 102 "EndMeters$Net" "waySum" "[I", Cond.fieldLink RX0 19 "EndMeters$Delays" "wayOfRow" "[I", Cond.methodLink RX0 84 yJ6_bitCount_0f7a4, Cond.static yJ6_bitCount_0f7a4, Cond.initialized RJ6, Cond.code yJ6_bitCount_0f7a4 cJ6_bitCount_0f7a4 1 (some .int), Cond.constant RJ6 265 (1431655765), Cond.constant RJ6 266 (858993459), Cond.constant RJ6 267 (252645135), Cond.methodLink RX0 90 yJ7_fill_d0a16, Cond.static yJ7_fill_d0a16, Cond.initialized RJ7, Cond.code yJ7_fill_d0a16 cJ7_fill_d0a16 5 none, Cond.static yX6_bitOf, Cond.code yX6_bitOf cX6_bitOf 2 (some .int), Cond.methodLink RX0 105 yX0_loadRow, Cond.instanceMethod yX0_loadRow, Cond.selects RX0 yX0_loadRow yX0_loadRow, Cond.code yX0_loadRow cX0_loadRow 6 none, Cond.fieldLink RX0 15 "EndMeters$Delays" "holder" "[I", Cond.methodLink RX0 41 yX0_setGoal, Cond.instanceMethod yX0_setGoal]
def wsX1_leastClash_r3 : List Cond := [Cond.selects RX0 yX0_setGoal yX0_setGoal, Cond.code yX0_setGoal cX0_setGoal 5 none, Cond.fieldLink RX0 22 "EndMeters$Delays" "lineCost" "[I", Cond.fieldLink RX0 108 "EndMeters$Delays" "slackCost" "I", Cond.methodLink RX0 45 yX0_walkToLeast, Cond.instanceMethod yX0_walkToLeast, Cond.selects RX0 yX0_walkToLeast yX0_walkToLeast, Cond.code yX0_walkToLeast cX0_walkToLeast 4 none, Cond.constant RX0 111 (1000000), Cond.methodLink RX0 112 yX0_firstLineThatHelps, Cond.instanceMethod yX0_firstLineThatHelps, Cond.selects RX0 yX0_firstLineThatHelps yX0_firstLineThatHelps, Cond.code yX0_firstLineThatHelps cX0_firstLineThatHelps 2 (some .int), Cond.methodLink RX0 51 yX0_costOfColumn, Cond.instanceMethod yX0_costOfColumn, Cond.selects RX0 yX0_costOfColumn yX0_costOfColumn, Cond.code yX0_costOfColumn cX0_costOfColumn 6 (some .long), Cond.methodLink RX0 115 yX0_rowThatGivesWay, Cond.instanceMethod yX0_rowThatGivesWay, Cond.selects RX0 yX0_rowThatGivesWay yX0_rowThatGivesWay, Cond.code yX0_rowThatGivesWay cX0_rowThatGivesWay 4 (some .int), Cond.methodLink RX0 122 yX0_givesWayBefore, Cond.instanceMethod yX0_givesWayBefore, Cond.selects RX0 yX0_givesWayBefore yX0_givesWayBefore]
def wsX1_leastClash_r4 : List Cond := [Cond.code yX0_givesWayBefore cX0_givesWayBefore 10 (some .boolean), Cond.methodLink RX0 118 yX0_exchange, Cond.instanceMethod yX0_exchange, Cond.selects RX0 yX0_exchange yX0_exchange, Cond.code yX0_exchange cX0_exchange 7 none, Cond.methodLink RX0 126 yX0_turnSigns, Cond.instanceMethod yX0_turnSigns, Cond.selects RX0 yX0_turnSigns yX0_turnSigns, Cond.code yX0_turnSigns cX0_turnSigns 3 none, Cond.methodLink RX0 130 yX0_clearColumn, Cond.instanceMethod yX0_clearColumn, Cond.selects RX0 yX0_clearColumn yX0_clearColumn, Cond.code yX0_clearColumn cX0_clearColumn 11 none, Cond.methodLink RX0 55 yX0_dropSlacks, Cond.instanceMethod yX0_dropSlacks, Cond.selects RX0 yX0_dropSlacks yX0_dropSlacks, Cond.code yX0_dropSlacks cX0_dropSlacks 3 none, Cond.methodLink RX0 58 yX0_waysThatClash, Cond.instanceMethod yX0_waysThatClash, Cond.selects RX0 yX0_waysThatClash yX0_waysThatClash, Cond.code yX0_waysThatClash cX0_waysThatClash 3 (some .int)]
def wsX1_leastClash : List Cond := .code yX1_leastClash cX1_leastClash 6 (some .int) :: ((wsX1_leastClash_r1 ++ (wsX1_leastClash_r2 ++ (wsX1_leastClash_r3 ++ wsX1_leastClash_r4))) ++ wsX20 ++ wsX00)
def wsX1_findOfSize_r1 : List Cond := [Cond.fieldLink RX1 26 "EndMeters$Net" "onWays" "I", Cond.fieldLink RX1 10 "EndMeters$Liars" "found" "LEndMeters$SetList;", Cond.fieldLink RX1 16 "EndMeters$Liars" "clashes" "LEndMeters$SetList;", Cond.fieldLink RX1 59 "EndMeters$Delays" "clash" "I", Cond.methodLink RX1 32 yJ6_bitCount_0f7a4, Cond.static yJ6_bitCount_0f7a4, Cond.initialized RJ6, Cond.code yJ6_bitCount_0f7a4 cJ6_bitCount_0f7a4 1 (some .int), Cond.constant RJ6 265 (1431655765), Cond.constant RJ6 266 (858993459), Cond.constant RJ6 267 (252645135), Cond.methodLink RX1 45 yX1_breaksAllClashes, Cond.instanceMethod yX1_breaksAllClashes, Cond.selects RX1 yX1_breaksAllClashes yX1_breaksAllClashes, Cond.initialized RX1, Cond.code yX1_breaksAllClashes cX1_breaksAllClashes 3 (some .boolean), Cond.fieldLink RX1 38 "EndMeters$SetList" "size" "I", Cond.fieldLink RX1 66 "EndMeters$SetList" "sets" "[I", Cond.methodLink RX1 49 yX0_solve, Cond.instanceMethod yX0_solve, Cond.selects RX0 yX0_solve yX0_solve, Cond.initialized RX0, Cond.code yX0_solve cX0_solve 3 (some .boolean), Cond.fieldLink RX0 29 "EndMeters$Delays" "loaded" "I"]
def wsX1_findOfSize_r2 : List Cond := [Cond.fieldLink RX0 33 "EndMeters$Delays" "possible" "Z", Cond.fieldLink RX0 48 "EndMeters$Delays" "width" "I", Cond.fieldLink RX0 62 "EndMeters$Delays" "clash" "I", Cond.methodLink RX0 37 yX0_load, Cond.instanceMethod yX0_load, Cond.selects RX0 yX0_load yX0_load, Cond.code yX0_load cX0_load 5 none, Cond.fieldLink RX0 81 "EndMeters$Net" "lineCount" "I", Cond.fieldLink RX0 68 "EndMeters$Delays" "lineCount" "I", Cond.fieldLink RX0 74 "EndMeters$Delays" "rows" "I", Cond.fieldLink RX0 25 "EndMeters$Delays" "scale" "J", Cond.fieldLink RX0 65 "EndMeters$Delays" "barred" "I", Cond.fieldLink RX0 9 "EndMeters$Delays" "table" "[J", Cond.fieldLink RX0 96 "EndMeters$Net" "wayCount" "I", Cond.fieldLink RX0 99 "EndMeters$Net" "waySet" "[I", Cond.fieldLink RX0 102 "EndMeters$Net" "waySum" "[I", Cond.fieldLink RX0 19 "EndMeters$Delays" "wayOfRow" "[I", Cond.methodLink RX0 84 yJ6_bitCount_0f7a4, Cond.methodLink RX0 90 yJ7_fill_d0a16, Cond.static yJ7_fill_d0a16, Cond.initialized RJ7, Cond.code yJ7_fill_d0a16 cJ7_fill_d0a16 5 none, Cond.static yX6_bitOf, Cond.initialized RX6]
def wsX1_findOfSize_r3 : List Cond := [Cond.code yX6_bitOf cX6_bitOf 2 (some .int), Cond.methodLink RX0 105 yX0_loadRow, Cond.instanceMethod yX0_loadRow, Cond.selects RX0 yX0_loadRow yX0_loadRow, Cond.code yX0_loadRow cX0_loadRow 6 none, Cond.fieldLink RX0 15 "EndMeters$Delays" "holder" "[I", Cond.methodLink RX0 41 yX0_setGoal, Cond.instanceMethod yX0_setGoal, Cond.selects RX0 yX0_setGoal yX0_setGoal, Cond.code yX0_setGoal cX0_setGoal 5 none, Cond.fieldLink RX0 22 "EndMeters$Delays" "lineCost" "[I", Cond.fieldLink RX0 108 "EndMeters$Delays" "slackCost" "I", Cond.methodLink RX0 45 yX0_walkToLeast, Cond.instanceMethod yX0_walkToLeast, Cond.selects RX0 yX0_walkToLeast yX0_walkToLeast, Cond.code yX0_walkToLeast cX0_walkToLeast 4 none, Cond.constant RX0 111 (1000000), Cond.methodLink RX0 112 yX0_firstLineThatHelps, Cond.instanceMethod yX0_firstLineThatHelps, Cond.selects RX0 yX0_firstLineThatHelps yX0_firstLineThatHelps, Cond.code yX0_firstLineThatHelps cX0_firstLineThatHelps 2 (some .int), Cond.methodLink RX0 51 yX0_costOfColumn, Cond.instanceMethod yX0_costOfColumn, Cond.selects RX0 yX0_costOfColumn yX0_costOfColumn]
def wsX1_findOfSize_r4 : List Cond := [Cond.code yX0_costOfColumn cX0_costOfColumn 6 (some .long), Cond.methodLink RX0 115 yX0_rowThatGivesWay, Cond.instanceMethod yX0_rowThatGivesWay, Cond.selects RX0 yX0_rowThatGivesWay yX0_rowThatGivesWay, Cond.code yX0_rowThatGivesWay cX0_rowThatGivesWay 4 (some .int), Cond.methodLink RX0 122 yX0_givesWayBefore, Cond.instanceMethod yX0_givesWayBefore, Cond.selects RX0 yX0_givesWayBefore yX0_givesWayBefore, Cond.code yX0_givesWayBefore cX0_givesWayBefore 10 (some .boolean), Cond.methodLink RX0 118 yX0_exchange, Cond.instanceMethod yX0_exchange, Cond.selects RX0 yX0_exchange yX0_exchange, Cond.code yX0_exchange cX0_exchange 7 none, Cond.methodLink RX0 126 yX0_turnSigns, Cond.instanceMethod yX0_turnSigns, Cond.selects RX0 yX0_turnSigns yX0_turnSigns, Cond.code yX0_turnSigns cX0_turnSigns 3 none, Cond.methodLink RX0 130 yX0_clearColumn, Cond.instanceMethod yX0_clearColumn, Cond.selects RX0 yX0_clearColumn yX0_clearColumn, Cond.code yX0_clearColumn cX0_clearColumn 11 none, Cond.methodLink RX0 55 yX0_dropSlacks, Cond.instanceMethod yX0_dropSlacks, Cond.selects RX0 yX0_dropSlacks yX0_dropSlacks]
def wsX1_findOfSize_r5 : List Cond := [Cond.code yX0_dropSlacks cX0_dropSlacks 3 none, Cond.methodLink RX0 58 yX0_waysThatClash, Cond.instanceMethod yX0_waysThatClash, Cond.selects RX0 yX0_waysThatClash yX0_waysThatClash, Cond.code yX0_waysThatClash cX0_waysThatClash 3 (some .int), Cond.methodLink RX1 55 yX3_add, Cond.instanceMethod yX3_add, Cond.selects RX3 yX3_add yX3_add, Cond.initialized RX3, Cond.code yX3_add cX3_add 2 none, Cond.fieldLink RX3 15 "EndMeters$SetList" "size" "I", Cond.fieldLink RX3 11 "EndMeters$SetList" "sets" "[I", Cond.methodLink RX1 62 yX1_leastClash, Cond.static yX1_leastClash, Cond.code yX1_leastClash cX1_leastClash 6 (some .int), Cond.fieldLink RX1 70 "EndMeters$Net" "wayCount" "I", Cond.static yX6_withBit, Cond.code yX6_withBit cX6_withBit 3 (some .int)]
def wsX1_findOfSize : List Cond := .code yX1_findOfSize cX1_findOfSize 6 none :: ((wsX1_findOfSize_r1 ++ (wsX1_findOfSize_r2 ++ (wsX1_findOfSize_r3 ++ (wsX1_findOfSize_r4 ++ wsX1_findOfSize_r5)))) ++ wsX20 ++ wsX10 ++ wsX00 ++ wsX30)
def wsX1_leastSets_r1 : List Cond := [Cond.fieldLink RX1 19 "EndMeters$Liars" "upToDate" "Z", Cond.fieldLink RX1 10 "EndMeters$Liars" "found" "LEndMeters$SetList;", Cond.fieldLink RX1 16 "EndMeters$Liars" "clashes" "LEndMeters$SetList;", Cond.fieldLink RX1 26 "EndMeters$Net" "onWays" "I", Cond.fieldLink RX1 38 "EndMeters$SetList" "size" "I", Cond.methodLink RX1 23 yX3_empty, Cond.instanceMethod yX3_empty, Cond.selects RX3 yX3_empty yX3_empty, Cond.initialized RX3, Cond.code yX3_empty cX3_empty 1 none, Cond.fieldLink RX3 15 "EndMeters$SetList" "size" "I", Cond.methodLink RX1 32 yJ6_bitCount_0f7a4, Cond.static yJ6_bitCount_0f7a4, Cond.initialized RJ6, Cond.code yJ6_bitCount_0f7a4 cJ6_bitCount_0f7a4 1 (some .int), Cond.constant RJ6 265 (1431655765), Cond.constant RJ6 266 (858993459), Cond.constant RJ6 267 (252645135), Cond.methodLink RX1 41 yX1_findOfSize, Cond.instanceMethod yX1_findOfSize, Cond.selects RX1 yX1_findOfSize yX1_findOfSize, Cond.initialized RX1, Cond.code yX1_findOfSize cX1_findOfSize 6 none, Cond.fieldLink RX1 59 "EndMeters$Delays" "clash" "I"]
def wsX1_leastSets_r2 : List Cond := [Cond.methodLink RX1 45 yX1_breaksAllClashes, Cond.instanceMethod yX1_breaksAllClashes, Cond.selects RX1 yX1_breaksAllClashes yX1_breaksAllClashes, Cond.code yX1_breaksAllClashes cX1_breaksAllClashes 3 (some .boolean), Cond.fieldLink RX1 66 "EndMeters$SetList" "sets" "[I", Cond.methodLink RX1 49 yX0_solve, Cond.instanceMethod yX0_solve, Cond.selects RX0 yX0_solve yX0_solve, Cond.initialized RX0, Cond.code yX0_solve cX0_solve 3 (some .boolean), Cond.fieldLink RX0 29 "EndMeters$Delays" "loaded" "I", Cond.fieldLink RX0 33 "EndMeters$Delays" "possible" "Z", Cond.fieldLink RX0 48 "EndMeters$Delays" "width" "I", Cond.fieldLink RX0 62 "EndMeters$Delays" "clash" "I", Cond.methodLink RX0 37 yX0_load, Cond.instanceMethod yX0_load, Cond.selects RX0 yX0_load yX0_load, Cond.code yX0_load cX0_load 5 none, Cond.fieldLink RX0 81 "EndMeters$Net" "lineCount" "I", Cond.fieldLink RX0 68 "EndMeters$Delays" "lineCount" "I", Cond.fieldLink RX0 74 "EndMeters$Delays" "rows" "I", Cond.fieldLink RX0 25 "EndMeters$Delays" "scale" "J", Cond.fieldLink RX0 65 "EndMeters$Delays" "barred" "I", Cond.fieldLink RX0 9 "EndMeters$Delays" "table" "[J"]
def wsX1_leastSets_r3 : List Cond := [Cond.fieldLink RX0 96 "EndMeters$Net" "wayCount" "I", Cond.fieldLink RX0 99 "EndMeters$Net" "waySet" "[I", Cond.fieldLink RX0 102 "EndMeters$Net" "waySum" "[I", Cond.fieldLink RX0 19 "EndMeters$Delays" "wayOfRow" "[I", Cond.methodLink RX0 84 yJ6_bitCount_0f7a4, Cond.methodLink RX0 90 yJ7_fill_d0a16, Cond.static yJ7_fill_d0a16, Cond.initialized RJ7, Cond.code yJ7_fill_d0a16 cJ7_fill_d0a16 5 none, Cond.static yX6_bitOf, Cond.initialized RX6, Cond.code yX6_bitOf cX6_bitOf 2 (some .int), Cond.methodLink RX0 105 yX0_loadRow, Cond.instanceMethod yX0_loadRow, Cond.selects RX0 yX0_loadRow yX0_loadRow, Cond.code yX0_loadRow cX0_loadRow 6 none, Cond.fieldLink RX0 15 "EndMeters$Delays" "holder" "[I", Cond.methodLink RX0 41 yX0_setGoal, Cond.instanceMethod yX0_setGoal, Cond.selects RX0 yX0_setGoal yX0_setGoal, Cond.code yX0_setGoal cX0_setGoal 5 none, Cond.fieldLink RX0 22 "EndMeters$Delays" "lineCost" "[I", Cond.fieldLink RX0 108 "EndMeters$Delays" "slackCost" "I", Cond.methodLink RX0 45 yX0_walkToLeast]
def wsX1_leastSets_r4 : List Cond := [Cond.instanceMethod yX0_walkToLeast, Cond.selects RX0 yX0_walkToLeast yX0_walkToLeast, Cond.code yX0_walkToLeast cX0_walkToLeast 4 none, Cond.constant RX0 111 (1000000), Cond.methodLink RX0 112 yX0_firstLineThatHelps, Cond.instanceMethod yX0_firstLineThatHelps, Cond.selects RX0 yX0_firstLineThatHelps yX0_firstLineThatHelps, Cond.code yX0_firstLineThatHelps cX0_firstLineThatHelps 2 (some .int), Cond.methodLink RX0 51 yX0_costOfColumn, Cond.instanceMethod yX0_costOfColumn, Cond.selects RX0 yX0_costOfColumn yX0_costOfColumn, Cond.code yX0_costOfColumn cX0_costOfColumn 6 (some .long), Cond.methodLink RX0 115 yX0_rowThatGivesWay, Cond.instanceMethod yX0_rowThatGivesWay, Cond.selects RX0 yX0_rowThatGivesWay yX0_rowThatGivesWay, Cond.code yX0_rowThatGivesWay cX0_rowThatGivesWay 4 (some .int), Cond.methodLink RX0 122 yX0_givesWayBefore, Cond.instanceMethod yX0_givesWayBefore, Cond.selects RX0 yX0_givesWayBefore yX0_givesWayBefore, Cond.code yX0_givesWayBefore cX0_givesWayBefore 10 (some .boolean), Cond.methodLink RX0 118 yX0_exchange, Cond.instanceMethod yX0_exchange, Cond.selects RX0 yX0_exchange yX0_exchange, Cond.code yX0_exchange cX0_exchange 7 none]
def wsX1_leastSets_r5 : List Cond := [Cond.methodLink RX0 126 yX0_turnSigns, Cond.instanceMethod yX0_turnSigns, Cond.selects RX0 yX0_turnSigns yX0_turnSigns, Cond.code yX0_turnSigns cX0_turnSigns 3 none, Cond.methodLink RX0 130 yX0_clearColumn, Cond.instanceMethod yX0_clearColumn, Cond.selects RX0 yX0_clearColumn yX0_clearColumn, Cond.code yX0_clearColumn cX0_clearColumn 11 none, Cond.methodLink RX0 55 yX0_dropSlacks, Cond.instanceMethod yX0_dropSlacks, Cond.selects RX0 yX0_dropSlacks yX0_dropSlacks, Cond.code yX0_dropSlacks cX0_dropSlacks 3 none, Cond.methodLink RX0 58 yX0_waysThatClash, Cond.instanceMethod yX0_waysThatClash, Cond.selects RX0 yX0_waysThatClash yX0_waysThatClash, Cond.code yX0_waysThatClash cX0_waysThatClash 3 (some .int), Cond.methodLink RX1 55 yX3_add, Cond.instanceMethod yX3_add, Cond.selects RX3 yX3_add yX3_add, Cond.code yX3_add cX3_add 2 none, Cond.fieldLink RX3 11 "EndMeters$SetList" "sets" "[I", Cond.methodLink RX1 62 yX1_leastClash, Cond.static yX1_leastClash, Cond.code yX1_leastClash cX1_leastClash 6 (some .int)]
def wsX1_leastSets_r6 : List Cond := [Cond.fieldLink RX1 70 "EndMeters$Net" "wayCount" "I", Cond.static yX6_withBit, Cond.code yX6_withBit cX6_withBit 3 (some .int)]
def wsX1_leastSets : List Cond := .code yX1_leastSets cX1_leastSets 5 (some (.object "EndMeters$SetList")) :: ((wsX1_leastSets_r1 ++ (wsX1_leastSets_r2 ++ (wsX1_leastSets_r3 ++ (wsX1_leastSets_r4 ++ (wsX1_leastSets_r5 ++ wsX1_leastSets_r6))))) ++ wsX10 ++ wsX20 ++ wsX30 ++ wsX00)
def wsX2_init : List Cond := .code yX2_init cX2_init 1 none :: ([.methodLink RX2 3 objectInit, .instanceMethod objectInit, .code objectInit ⟨#[0xb1]⟩ 1 none, .arrayClass .int, .fieldLink RX2 9 "EndMeters$Net" "waySet" "[I", .fieldLink RX2 15 "EndMeters$Net" "waySum" "[I", .fieldLink RX2 18 "EndMeters$Net" "offerSet" "[I", .fieldLink RX2 21 "EndMeters$Net" "lineCount" "I"] ++ wsX20)
def wsX2_startAnew : List Cond := .code yX2_startAnew cX2_startAnew 2 none :: ([.fieldLink RX2 21 "EndMeters$Net" "lineCount" "I", .fieldLink RX2 25 "EndMeters$Net" "wayCount" "I", .fieldLink RX2 28 "EndMeters$Net" "offerCount" "I", .fieldLink RX2 31 "EndMeters$Net" "onWays" "I", .fieldLink RX2 34 "EndMeters$Net" "badWays" "I"] ++ wsX20)
def wsX2_hasLine : List Cond := .code yX2_hasLine cX2_hasLine 2 (some .boolean) :: ([.fieldLink RX2 21 "EndMeters$Net" "lineCount" "I"] ++ wsX20)
def wsX2_hasWay : List Cond := .code yX2_hasWay cX2_hasWay 2 (some .boolean) :: ([.fieldLink RX2 25 "EndMeters$Net" "wayCount" "I"] ++ wsX20)
def wsX2_hasOffer : List Cond := .code yX2_hasOffer cX2_hasOffer 2 (some .boolean) :: ([.fieldLink RX2 28 "EndMeters$Net" "offerCount" "I"] ++ wsX20)
def wsX2_isLineSet : List Cond := .code yX2_isLineSet cX2_isLineSet 2 (some .boolean) :: ([.fieldLink RX2 21 "EndMeters$Net" "lineCount" "I"] ++ wsX20)
def wsX2_isFilledLineSet : List Cond := .code yX2_isFilledLineSet cX2_isFilledLineSet 2 (some .boolean) :: ([.methodLink RX2 37 yX2_isLineSet, .instanceMethod yX2_isLineSet, .selects RX2 yX2_isLineSet yX2_isLineSet, .initialized RX2, .code yX2_isLineSet cX2_isLineSet 2 (some .boolean), .fieldLink RX2 21 "EndMeters$Net" "lineCount" "I"] ++ wsX20)
def wsX2_addWay : List Cond := .code yX2_addWay cX2_addWay 4 (some .int) :: ([.fieldLink RX2 25 "EndMeters$Net" "wayCount" "I", .fieldLink RX2 9 "EndMeters$Net" "waySet" "[I", .fieldLink RX2 15 "EndMeters$Net" "waySum" "[I", .fieldLink RX2 31 "EndMeters$Net" "onWays" "I", .fieldLink RX2 34 "EndMeters$Net" "badWays" "I", .static yX6_withBit, .initialized RX6, .code yX6_withBit cX6_withBit 3 (some .int)] ++ wsX20)
def wsX2_dropLastWay : List Cond := .code yX2_dropLastWay cX2_dropLastWay 1 none :: ([.fieldLink RX2 25 "EndMeters$Net" "wayCount" "I", .fieldLink RX2 31 "EndMeters$Net" "onWays" "I", .fieldLink RX2 34 "EndMeters$Net" "badWays" "I", .static yX6_withBit, .initialized RX6, .code yX6_withBit cX6_withBit 3 (some .int)] ++ wsX20)
def wsX2_addOffer : List Cond := .code yX2_addOffer cX2_addOffer 3 (some .int) :: ([.fieldLink RX2 28 "EndMeters$Net" "offerCount" "I", .fieldLink RX2 18 "EndMeters$Net" "offerSet" "[I"] ++ wsX20)
def wsX2_isOn : List Cond := .code yX2_isOn cX2_isOn 2 (some .boolean) :: ([.fieldLink RX2 31 "EndMeters$Net" "onWays" "I", .static yX6_bitOf, .initialized RX6, .code yX6_bitOf cX6_bitOf 2 (some .int)] ++ wsX20)
def wsX2_seenLines : List Cond := .code yX2_seenLines cX2_seenLines 3 (some .int) :: ([.fieldLink RX2 25 "EndMeters$Net" "wayCount" "I", .fieldLink RX2 9 "EndMeters$Net" "waySet" "[I", .methodLink RX2 49 yX2_isOn, .instanceMethod yX2_isOn, .selects RX2 yX2_isOn yX2_isOn, .initialized RX2, .code yX2_isOn cX2_isOn 2 (some .boolean), .fieldLink RX2 31 "EndMeters$Net" "onWays" "I", .static yX6_bitOf, .initialized RX6, .code yX6_bitOf cX6_bitOf 2 (some .int)] ++ wsX20)
def wsX2_linesAlike : List Cond := .code yX2_linesAlike cX2_linesAlike 4 (some .int) :: ([.fieldLink RX2 21 "EndMeters$Net" "lineCount" "I", .fieldLink RX2 25 "EndMeters$Net" "wayCount" "I", .fieldLink RX2 9 "EndMeters$Net" "waySet" "[I", .methodLink RX2 49 yX2_isOn, .instanceMethod yX2_isOn, .selects RX2 yX2_isOn yX2_isOn, .initialized RX2, .code yX2_isOn cX2_isOn 2 (some .boolean), .fieldLink RX2 31 "EndMeters$Net" "onWays" "I", .static yX6_bitOf, .initialized RX6, .code yX6_bitOf cX6_bitOf 2 (some .int)] ++ wsX20)
def wsX2_groupCount : List Cond := .code yX2_groupCount cX2_groupCount 4 (some .int) :: ([.fieldLink RX2 21 "EndMeters$Net" "lineCount" "I", .methodLink RX2 52 yX2_linesAlike, .instanceMethod yX2_linesAlike, .selects RX2 yX2_linesAlike yX2_linesAlike, .initialized RX2, .code yX2_linesAlike cX2_linesAlike 4 (some .int), .fieldLink RX2 25 "EndMeters$Net" "wayCount" "I", .fieldLink RX2 9 "EndMeters$Net" "waySet" "[I", .methodLink RX2 49 yX2_isOn, .instanceMethod yX2_isOn, .selects RX2 yX2_isOn yX2_isOn, .code yX2_isOn cX2_isOn 2 (some .boolean), .fieldLink RX2 31 "EndMeters$Net" "onWays" "I", .static yX6_bitOf, .initialized RX6, .code yX6_bitOf cX6_bitOf 2 (some .int)] ++ wsX20)
def wsX3_answer : List Cond := .code yX3_answer cX3_answer 2 (some .int) :: ([.fieldLink RX3 15 "EndMeters$SetList" "size" "I", .fieldLink RX3 11 "EndMeters$SetList" "sets" "[I"] ++ wsX30)
def wsX4_init : List Cond := .code yX4_init cX4_init 1 none :: ([.methodLink RX4 3 objectInit, .instanceMethod objectInit, .code objectInit ⟨#[0xb1]⟩ 1 none, .classLink RX4 9 RX3, .instantiable RX3 2, .initialized RX3, .fieldLink RX4 12 "EndMeters$SickLines" "found" "LEndMeters$SetList;", .instanceMethod yX3_init, .code yX3_init cX3_init 1 none, .methodLink RX3 3 objectInit, .arrayClass .int, .fieldLink RX3 11 "EndMeters$SetList" "sets" "[I"] ++ wsX30 ++ wsX40)
def wsX4_linesOfNoGoodWay : List Cond := .code yX4_linesOfNoGoodWay cX4_linesOfNoGoodWay 3 (some .int) :: ([.fieldLink RX4 39 "EndMeters$Net" "lineCount" "I", .fieldLink RX4 45 "EndMeters$Net" "wayCount" "I", .fieldLink RX4 52 "EndMeters$Net" "badWays" "I", .fieldLink RX4 59 "EndMeters$Net" "waySet" "[I", .methodLink RX4 48 yX2_isOn, .instanceMethod yX2_isOn, .selects RX2 yX2_isOn yX2_isOn, .initialized RX2, .code yX2_isOn cX2_isOn 2 (some .boolean), .fieldLink RX2 31 "EndMeters$Net" "onWays" "I", .static yX6_bitOf, .initialized RX6, .code yX6_bitOf cX6_bitOf 2 (some .int)] ++ wsX20)
def wsX4_meetsAllBadWays : List Cond := .code yX4_meetsAllBadWays cX4_meetsAllBadWays 4 (some .boolean) :: ([.fieldLink RX4 45 "EndMeters$Net" "wayCount" "I", .fieldLink RX4 52 "EndMeters$Net" "badWays" "I", .fieldLink RX4 59 "EndMeters$Net" "waySet" "[I", .methodLink RX4 48 yX2_isOn, .instanceMethod yX2_isOn, .selects RX2 yX2_isOn yX2_isOn, .initialized RX2, .code yX2_isOn cX2_isOn 2 (some .boolean), .fieldLink RX2 31 "EndMeters$Net" "onWays" "I", .static yX6_bitOf, .initialized RX6, .code yX6_bitOf cX6_bitOf 2 (some .int)] ++ wsX20)
def wsX4_leastSets_r1 : List Cond := [Cond.fieldLink RX4 12 "EndMeters$SickLines" "found" "LEndMeters$SetList;", Cond.methodLink RX4 18 yX3_empty, Cond.instanceMethod yX3_empty, Cond.selects RX3 yX3_empty yX3_empty, Cond.initialized RX3, Cond.code yX3_empty cX3_empty 1 none, Cond.fieldLink RX3 15 "EndMeters$SetList" "size" "I", Cond.methodLink RX4 21 yX4_linesOfNoGoodWay, Cond.static yX4_linesOfNoGoodWay, Cond.initialized RX4, Cond.code yX4_linesOfNoGoodWay cX4_linesOfNoGoodWay 3 (some .int), Cond.fieldLink RX4 39 "EndMeters$Net" "lineCount" "I", Cond.fieldLink RX4 45 "EndMeters$Net" "wayCount" "I", Cond.fieldLink RX4 52 "EndMeters$Net" "badWays" "I", Cond.fieldLink RX4 59 "EndMeters$Net" "waySet" "[I", Cond.methodLink RX4 48 yX2_isOn, Cond.instanceMethod yX2_isOn, Cond.selects RX2 yX2_isOn yX2_isOn, Cond.initialized RX2, Cond.code yX2_isOn cX2_isOn 2 (some .boolean), Cond.fieldLink RX2 31 "EndMeters$Net" "onWays" "I", Cond.static yX6_bitOf, Cond.initialized RX6, Cond.code yX6_bitOf cX6_bitOf 2 (some .int)]
def wsX4_leastSets_r2 : List Cond := [Cond.methodLink RX4 25 yJ6_bitCount_0f7a4, Cond.static yJ6_bitCount_0f7a4, Cond.initialized RJ6, Cond.code yJ6_bitCount_0f7a4 cJ6_bitCount_0f7a4 1 (some .int), Cond.constant RJ6 265 (1431655765), Cond.constant RJ6 266 (858993459), Cond.constant RJ6 267 (252645135), Cond.methodLink RX4 31 yX4_meetsAllBadWays, Cond.static yX4_meetsAllBadWays, Cond.code yX4_meetsAllBadWays cX4_meetsAllBadWays 4 (some .boolean), Cond.methodLink RX4 35 yX3_add, Cond.instanceMethod yX3_add, Cond.selects RX3 yX3_add yX3_add, Cond.code yX3_add cX3_add 2 none, Cond.fieldLink RX3 11 "EndMeters$SetList" "sets" "[I"]
def wsX4_leastSets : List Cond := .code yX4_leastSets cX4_leastSets 6 (some (.object "EndMeters$SetList")) :: ((wsX4_leastSets_r1 ++ wsX4_leastSets_r2) ++ wsX40 ++ wsX30 ++ wsX20)
def wsX5_init : List Cond := .code yX5_init cX5_init 1 none :: ([.methodLink RX5 3 objectInit, .instanceMethod objectInit, .code objectInit ⟨#[0xb1]⟩ 1 none, .arrayClass .int, .fieldLink RX5 11 "EndMeters$Spans" "cells" "[I", .fieldLink RX5 15 "EndMeters$Spans" "takenAt" "[I", .fieldLink RX5 18 "EndMeters$Spans" "headAt" "[I"] ++ wsX50)
def wsX5_startOf : List Cond := .code yX5_startOf cX5_startOf 2 (some .int) :: ([])
def wsX5_loadRow : List Cond := .code yX5_loadRow cX5_loadRow 5 none :: ([.fieldLink RX5 29 "EndMeters$Spans" "lineCount" "I", .fieldLink RX5 11 "EndMeters$Spans" "cells" "[I", .methodLink RX5 83 yX5_startOf, .static yX5_startOf, .initialized RX5, .code yX5_startOf cX5_startOf 2 (some .int), .static yX6_bitOf, .initialized RX6, .code yX6_bitOf cX6_bitOf 2 (some .int)] ++ wsX50)
def wsX5_load : List Cond := .code yX5_load cX5_load 4 none :: ([.fieldLink RX5 70 "EndMeters$Net" "lineCount" "I", .fieldLink RX5 29 "EndMeters$Spans" "lineCount" "I", .fieldLink RX5 63 "EndMeters$Net" "wayCount" "I", .fieldLink RX5 74 "EndMeters$Net" "waySet" "[I", .fieldLink RX5 39 "EndMeters$Net" "offerCount" "I", .fieldLink RX5 80 "EndMeters$Net" "offerSet" "[I", .methodLink RX5 71 yX2_isOn, .instanceMethod yX2_isOn, .selects RX2 yX2_isOn yX2_isOn, .initialized RX2, .code yX2_isOn cX2_isOn 2 (some .boolean), .fieldLink RX2 31 "EndMeters$Net" "onWays" "I", .static yX6_bitOf, .initialized RX6, .code yX6_bitOf cX6_bitOf 2 (some .int), .methodLink RX5 77 yX5_loadRow, .instanceMethod yX5_loadRow, .selects RX5 yX5_loadRow yX5_loadRow, .initialized RX5, .code yX5_loadRow cX5_loadRow 5 none, .fieldLink RX5 11 "EndMeters$Spans" "cells" "[I", .methodLink RX5 83 yX5_startOf, .static yX5_startOf, .code yX5_startOf cX5_startOf 2 (some .int)] ++ wsX20 ++ wsX50)
def wsX5_firstFilledColumn : List Cond := .code yX5_firstFilledColumn cX5_firstFilledColumn 5 (some .int) :: ([.fieldLink RX5 29 "EndMeters$Spans" "lineCount" "I", .fieldLink RX5 11 "EndMeters$Spans" "cells" "[I", .methodLink RX5 83 yX5_startOf, .static yX5_startOf, .initialized RX5, .code yX5_startOf cX5_startOf 2 (some .int)] ++ wsX50)
def wsX5_clearColumn : List Cond := .code yX5_clearColumn cX5_clearColumn 10 none :: ([.fieldLink RX5 11 "EndMeters$Spans" "cells" "[I", .fieldLink RX5 29 "EndMeters$Spans" "lineCount" "I"] ++ wsX50)
def wsX5_takeWay : List Cond := .code yX5_takeWay cX5_takeWay 5 none :: ([.fieldLink RX5 29 "EndMeters$Spans" "lineCount" "I", .fieldLink RX5 18 "EndMeters$Spans" "headAt" "[I", .fieldLink RX5 11 "EndMeters$Spans" "cells" "[I", .fieldLink RX5 25 "EndMeters$Spans" "rank" "I", .methodLink RX5 83 yX5_startOf, .static yX5_startOf, .initialized RX5, .code yX5_startOf cX5_startOf 2 (some .int), .methodLink RX5 89 yX5_clearColumn, .instanceMethod yX5_clearColumn, .selects RX5 yX5_clearColumn yX5_clearColumn, .code yX5_clearColumn cX5_clearColumn 10 none] ++ wsX50)
def wsX5_takeWays_r1 : List Cond := [Cond.fieldLink RX5 25 "EndMeters$Spans" "rank" "I", Cond.fieldLink RX5 18 "EndMeters$Spans" "headAt" "[I", Cond.fieldLink RX5 63 "EndMeters$Net" "wayCount" "I", Cond.methodLink RX5 60 yX5_load, Cond.instanceMethod yX5_load, Cond.selects RX5 yX5_load yX5_load, Cond.initialized RX5, Cond.code yX5_load cX5_load 4 none, Cond.fieldLink RX5 70 "EndMeters$Net" "lineCount" "I", Cond.fieldLink RX5 29 "EndMeters$Spans" "lineCount" "I", Cond.fieldLink RX5 74 "EndMeters$Net" "waySet" "[I", Cond.fieldLink RX5 39 "EndMeters$Net" "offerCount" "I", Cond.fieldLink RX5 80 "EndMeters$Net" "offerSet" "[I", Cond.methodLink RX5 71 yX2_isOn, Cond.instanceMethod yX2_isOn, Cond.selects RX2 yX2_isOn yX2_isOn, Cond.initialized RX2, Cond.code yX2_isOn cX2_isOn 2 (some .boolean), Cond.fieldLink RX2 31 "EndMeters$Net" "onWays" "I", Cond.static yX6_bitOf, Cond.initialized RX6, Cond.code yX6_bitOf cX6_bitOf 2 (some .int), Cond.methodLink RX5 77 yX5_loadRow, Cond.instanceMethod yX5_loadRow]
def wsX5_takeWays_r2 : List Cond := [Cond.selects RX5 yX5_loadRow yX5_loadRow, Cond.code yX5_loadRow cX5_loadRow 5 none, Cond.fieldLink RX5 11 "EndMeters$Spans" "cells" "[I", Cond.methodLink RX5 83 yX5_startOf, Cond.static yX5_startOf, Cond.code yX5_startOf cX5_startOf 2 (some .int), Cond.methodLink RX5 32 yX5_firstFilledColumn, Cond.instanceMethod yX5_firstFilledColumn, Cond.selects RX5 yX5_firstFilledColumn yX5_firstFilledColumn, Cond.code yX5_firstFilledColumn cX5_firstFilledColumn 5 (some .int), Cond.methodLink RX5 66 yX5_takeWay, Cond.instanceMethod yX5_takeWay, Cond.selects RX5 yX5_takeWay yX5_takeWay, Cond.code yX5_takeWay cX5_takeWay 5 none, Cond.methodLink RX5 89 yX5_clearColumn, Cond.instanceMethod yX5_clearColumn, Cond.selects RX5 yX5_clearColumn yX5_clearColumn, Cond.code yX5_clearColumn cX5_clearColumn 10 none]
def wsX5_takeWays : List Cond := .code yX5_takeWays cX5_takeWays 4 none :: ((wsX5_takeWays_r1 ++ wsX5_takeWays_r2) ++ wsX50 ++ wsX20)
def wsX5_rankOfWays_r1 : List Cond := [Cond.fieldLink RX5 25 "EndMeters$Spans" "rank" "I", Cond.methodLink RX5 21 yX5_takeWays, Cond.instanceMethod yX5_takeWays, Cond.selects RX5 yX5_takeWays yX5_takeWays, Cond.initialized RX5, Cond.code yX5_takeWays cX5_takeWays 4 none, Cond.fieldLink RX5 18 "EndMeters$Spans" "headAt" "[I", Cond.fieldLink RX5 63 "EndMeters$Net" "wayCount" "I", Cond.methodLink RX5 60 yX5_load, Cond.instanceMethod yX5_load, Cond.selects RX5 yX5_load yX5_load, Cond.code yX5_load cX5_load 4 none, Cond.fieldLink RX5 70 "EndMeters$Net" "lineCount" "I", Cond.fieldLink RX5 29 "EndMeters$Spans" "lineCount" "I", Cond.fieldLink RX5 74 "EndMeters$Net" "waySet" "[I", Cond.fieldLink RX5 39 "EndMeters$Net" "offerCount" "I", Cond.fieldLink RX5 80 "EndMeters$Net" "offerSet" "[I", Cond.methodLink RX5 71 yX2_isOn, Cond.instanceMethod yX2_isOn, Cond.selects RX2 yX2_isOn yX2_isOn, Cond.initialized RX2, Cond.code yX2_isOn cX2_isOn 2 (some .boolean), Cond.fieldLink RX2 31 "EndMeters$Net" "onWays" "I", Cond.static yX6_bitOf]
def wsX5_rankOfWays_r2 : List Cond := [Cond.initialized RX6, Cond.code yX6_bitOf cX6_bitOf 2 (some .int), Cond.methodLink RX5 77 yX5_loadRow, Cond.instanceMethod yX5_loadRow, Cond.selects RX5 yX5_loadRow yX5_loadRow, Cond.code yX5_loadRow cX5_loadRow 5 none, Cond.fieldLink RX5 11 "EndMeters$Spans" "cells" "[I", Cond.methodLink RX5 83 yX5_startOf, Cond.static yX5_startOf, Cond.code yX5_startOf cX5_startOf 2 (some .int), Cond.methodLink RX5 32 yX5_firstFilledColumn, Cond.instanceMethod yX5_firstFilledColumn, Cond.selects RX5 yX5_firstFilledColumn yX5_firstFilledColumn, Cond.code yX5_firstFilledColumn cX5_firstFilledColumn 5 (some .int), Cond.methodLink RX5 66 yX5_takeWay, Cond.instanceMethod yX5_takeWay, Cond.selects RX5 yX5_takeWay yX5_takeWay, Cond.code yX5_takeWay cX5_takeWay 5 none, Cond.methodLink RX5 89 yX5_clearColumn, Cond.instanceMethod yX5_clearColumn, Cond.selects RX5 yX5_clearColumn yX5_clearColumn, Cond.code yX5_clearColumn cX5_clearColumn 10 none]
def wsX5_rankOfWays : List Cond := .code yX5_rankOfWays cX5_rankOfWays 2 (some .int) :: ((wsX5_rankOfWays_r1 ++ wsX5_rankOfWays_r2) ++ wsX50 ++ wsX20)
def wsX5_linesFromWays_r1 : List Cond := [Cond.fieldLink RX5 29 "EndMeters$Spans" "lineCount" "I", Cond.methodLink RX5 21 yX5_takeWays, Cond.instanceMethod yX5_takeWays, Cond.selects RX5 yX5_takeWays yX5_takeWays, Cond.initialized RX5, Cond.code yX5_takeWays cX5_takeWays 4 none, Cond.fieldLink RX5 25 "EndMeters$Spans" "rank" "I", Cond.fieldLink RX5 18 "EndMeters$Spans" "headAt" "[I", Cond.fieldLink RX5 63 "EndMeters$Net" "wayCount" "I", Cond.methodLink RX5 60 yX5_load, Cond.instanceMethod yX5_load, Cond.selects RX5 yX5_load yX5_load, Cond.code yX5_load cX5_load 4 none, Cond.fieldLink RX5 70 "EndMeters$Net" "lineCount" "I", Cond.fieldLink RX5 74 "EndMeters$Net" "waySet" "[I", Cond.fieldLink RX5 39 "EndMeters$Net" "offerCount" "I", Cond.fieldLink RX5 80 "EndMeters$Net" "offerSet" "[I", Cond.methodLink RX5 71 yX2_isOn, Cond.instanceMethod yX2_isOn, Cond.selects RX2 yX2_isOn yX2_isOn, Cond.initialized RX2, Cond.code yX2_isOn cX2_isOn 2 (some .boolean), Cond.fieldLink RX2 31 "EndMeters$Net" "onWays" "I", Cond.static yX6_bitOf]
def wsX5_linesFromWays_r2 : List Cond := [Cond.initialized RX6, Cond.code yX6_bitOf cX6_bitOf 2 (some .int), Cond.methodLink RX5 77 yX5_loadRow, Cond.instanceMethod yX5_loadRow, Cond.selects RX5 yX5_loadRow yX5_loadRow, Cond.code yX5_loadRow cX5_loadRow 5 none, Cond.fieldLink RX5 11 "EndMeters$Spans" "cells" "[I", Cond.methodLink RX5 83 yX5_startOf, Cond.static yX5_startOf, Cond.code yX5_startOf cX5_startOf 2 (some .int), Cond.methodLink RX5 32 yX5_firstFilledColumn, Cond.instanceMethod yX5_firstFilledColumn, Cond.selects RX5 yX5_firstFilledColumn yX5_firstFilledColumn, Cond.code yX5_firstFilledColumn cX5_firstFilledColumn 5 (some .int), Cond.methodLink RX5 66 yX5_takeWay, Cond.instanceMethod yX5_takeWay, Cond.selects RX5 yX5_takeWay yX5_takeWay, Cond.code yX5_takeWay cX5_takeWay 5 none, Cond.methodLink RX5 89 yX5_clearColumn, Cond.instanceMethod yX5_clearColumn, Cond.selects RX5 yX5_clearColumn yX5_clearColumn, Cond.code yX5_clearColumn cX5_clearColumn 10 none]
def wsX5_linesFromWays : List Cond := .code yX5_linesFromWays cX5_linesFromWays 4 (some .int) :: ((wsX5_linesFromWays_r1 ++ wsX5_linesFromWays_r2) ++ wsX50 ++ wsX20)
def wsJ7_fill_53178 : List Cond := .code yJ7_fill_53178 cJ7_fill_53178 4 none :: ([])
def wsX5_takeOffer : List Cond := .code yX5_takeOffer cX5_takeOffer 7 (some .boolean) :: ([.fieldLink RX5 29 "EndMeters$Spans" "lineCount" "I", .fieldLink RX5 36 "EndMeters$Spans" "asked" "I", .fieldLink RX5 18 "EndMeters$Spans" "headAt" "[I", .fieldLink RX5 11 "EndMeters$Spans" "cells" "[I", .fieldLink RX5 15 "EndMeters$Spans" "takenAt" "[I", .methodLink RX5 32 yX5_firstFilledColumn, .instanceMethod yX5_firstFilledColumn, .selects RX5 yX5_firstFilledColumn yX5_firstFilledColumn, .initialized RX5, .code yX5_firstFilledColumn cX5_firstFilledColumn 5 (some .int), .methodLink RX5 83 yX5_startOf, .static yX5_startOf, .code yX5_startOf cX5_startOf 2 (some .int), .static yX6_bitOf, .initialized RX6, .code yX6_bitOf cX6_bitOf 2 (some .int), .methodLink RX5 89 yX5_clearColumn, .instanceMethod yX5_clearColumn, .selects RX5 yX5_clearColumn yX5_clearColumn, .code yX5_clearColumn cX5_clearColumn 10 none] ++ wsX50)
def wsX5_allAskedAreEmpty : List Cond := .code yX5_allAskedAreEmpty cX5_allAskedAreEmpty 3 (some .boolean) :: ([.fieldLink RX5 29 "EndMeters$Spans" "lineCount" "I", .fieldLink RX5 36 "EndMeters$Spans" "asked" "I", .static yX6_bitOf, .initialized RX6, .code yX6_bitOf cX6_bitOf 2 (some .int), .methodLink RX5 32 yX5_firstFilledColumn, .instanceMethod yX5_firstFilledColumn, .selects RX5 yX5_firstFilledColumn yX5_firstFilledColumn, .initialized RX5, .code yX5_firstFilledColumn cX5_firstFilledColumn 5 (some .int), .fieldLink RX5 11 "EndMeters$Spans" "cells" "[I", .methodLink RX5 83 yX5_startOf, .static yX5_startOf, .code yX5_startOf cX5_startOf 2 (some .int)] ++ wsX50)
def wsX5_allOffersDo_r1 : List Cond := [Cond.fieldLink RX5 15 "EndMeters$Spans" "takenAt" "[I", Cond.methodLink RX5 97 yJ7_fill_53178, Cond.static yJ7_fill_53178, Cond.initialized RJ7, Cond.code yJ7_fill_53178 cJ7_fill_53178 4 none, Cond.methodLink RX5 93 yX5_takeOffer, Cond.instanceMethod yX5_takeOffer, Cond.selects RX5 yX5_takeOffer yX5_takeOffer, Cond.initialized RX5, Cond.code yX5_takeOffer cX5_takeOffer 7 (some .boolean), Cond.fieldLink RX5 29 "EndMeters$Spans" "lineCount" "I", Cond.fieldLink RX5 36 "EndMeters$Spans" "asked" "I", Cond.fieldLink RX5 18 "EndMeters$Spans" "headAt" "[I", Cond.fieldLink RX5 11 "EndMeters$Spans" "cells" "[I", Cond.methodLink RX5 32 yX5_firstFilledColumn, Cond.instanceMethod yX5_firstFilledColumn, Cond.selects RX5 yX5_firstFilledColumn yX5_firstFilledColumn, Cond.code yX5_firstFilledColumn cX5_firstFilledColumn 5 (some .int), Cond.methodLink RX5 83 yX5_startOf, Cond.static yX5_startOf, Cond.code yX5_startOf cX5_startOf 2 (some .int), Cond.static yX6_bitOf, Cond.initialized RX6, Cond.code yX6_bitOf cX6_bitOf 2 (some .int)]
def wsX5_allOffersDo_r2 : List Cond := [Cond.methodLink RX5 89 yX5_clearColumn, Cond.instanceMethod yX5_clearColumn, Cond.selects RX5 yX5_clearColumn yX5_clearColumn, Cond.code yX5_clearColumn cX5_clearColumn 10 none, Cond.methodLink RX5 57 yX5_allAskedAreEmpty, Cond.instanceMethod yX5_allAskedAreEmpty, Cond.selects RX5 yX5_allAskedAreEmpty yX5_allAskedAreEmpty, Cond.code yX5_allAskedAreEmpty cX5_allAskedAreEmpty 3 (some .boolean)]
def wsX5_allOffersDo : List Cond := .code yX5_allOffersDo cX5_allOffersDo 4 (some .boolean) :: ((wsX5_allOffersDo_r1 ++ wsX5_allOffersDo_r2) ++ wsX50)
def wsX5_takeSet_r1 : List Cond := [Cond.fieldLink RX5 15 "EndMeters$Spans" "takenAt" "[I", Cond.methodLink RX5 48 yJ6_bitCount_0f7a4, Cond.static yJ6_bitCount_0f7a4, Cond.initialized RJ6, Cond.code yJ6_bitCount_0f7a4 cJ6_bitCount_0f7a4 1 (some .int), Cond.constant RJ6 265 (1431655765), Cond.constant RJ6 266 (858993459), Cond.constant RJ6 267 (252645135), Cond.methodLink RX5 93 yX5_takeOffer, Cond.instanceMethod yX5_takeOffer, Cond.selects RX5 yX5_takeOffer yX5_takeOffer, Cond.initialized RX5, Cond.code yX5_takeOffer cX5_takeOffer 7 (some .boolean), Cond.fieldLink RX5 29 "EndMeters$Spans" "lineCount" "I", Cond.fieldLink RX5 36 "EndMeters$Spans" "asked" "I", Cond.fieldLink RX5 18 "EndMeters$Spans" "headAt" "[I", Cond.fieldLink RX5 11 "EndMeters$Spans" "cells" "[I", Cond.methodLink RX5 32 yX5_firstFilledColumn, Cond.instanceMethod yX5_firstFilledColumn, Cond.selects RX5 yX5_firstFilledColumn yX5_firstFilledColumn, Cond.code yX5_firstFilledColumn cX5_firstFilledColumn 5 (some .int), Cond.methodLink RX5 83 yX5_startOf, Cond.static yX5_startOf, Cond.code yX5_startOf cX5_startOf 2 (some .int)]
def wsX5_takeSet_r2 : List Cond := [Cond.static yX6_bitOf, Cond.initialized RX6, Cond.code yX6_bitOf cX6_bitOf 2 (some .int), Cond.methodLink RX5 89 yX5_clearColumn, Cond.instanceMethod yX5_clearColumn, Cond.selects RX5 yX5_clearColumn yX5_clearColumn, Cond.code yX5_clearColumn cX5_clearColumn 10 none]
def wsX5_takeSet : List Cond := .code yX5_takeSet cX5_takeSet 4 (some .boolean) :: ((wsX5_takeSet_r1 ++ wsX5_takeSet_r2) ++ wsX50)
def wsX5_fewestOffers_r1 : List Cond := [Cond.fieldLink RX5 36 "EndMeters$Spans" "asked" "I", Cond.fieldLink RX5 39 "EndMeters$Net" "offerCount" "I", Cond.methodLink RX5 21 yX5_takeWays, Cond.instanceMethod yX5_takeWays, Cond.selects RX5 yX5_takeWays yX5_takeWays, Cond.initialized RX5, Cond.code yX5_takeWays cX5_takeWays 4 none, Cond.fieldLink RX5 25 "EndMeters$Spans" "rank" "I", Cond.fieldLink RX5 18 "EndMeters$Spans" "headAt" "[I", Cond.fieldLink RX5 63 "EndMeters$Net" "wayCount" "I", Cond.methodLink RX5 60 yX5_load, Cond.instanceMethod yX5_load, Cond.selects RX5 yX5_load yX5_load, Cond.code yX5_load cX5_load 4 none, Cond.fieldLink RX5 70 "EndMeters$Net" "lineCount" "I", Cond.fieldLink RX5 29 "EndMeters$Spans" "lineCount" "I", Cond.fieldLink RX5 74 "EndMeters$Net" "waySet" "[I", Cond.fieldLink RX5 80 "EndMeters$Net" "offerSet" "[I", Cond.methodLink RX5 71 yX2_isOn, Cond.instanceMethod yX2_isOn, Cond.selects RX2 yX2_isOn yX2_isOn, Cond.initialized RX2, Cond.code yX2_isOn cX2_isOn 2 (some .boolean), Cond.fieldLink RX2 31 "EndMeters$Net" "onWays" "I"]
def wsX5_fewestOffers_r2 : List Cond := [Cond.static yX6_bitOf, Cond.initialized RX6, Cond.code yX6_bitOf cX6_bitOf 2 (some .int), Cond.methodLink RX5 77 yX5_loadRow, Cond.instanceMethod yX5_loadRow, Cond.selects RX5 yX5_loadRow yX5_loadRow, Cond.code yX5_loadRow cX5_loadRow 5 none, Cond.fieldLink RX5 11 "EndMeters$Spans" "cells" "[I", Cond.methodLink RX5 83 yX5_startOf, Cond.static yX5_startOf, Cond.code yX5_startOf cX5_startOf 2 (some .int), Cond.methodLink RX5 32 yX5_firstFilledColumn, Cond.instanceMethod yX5_firstFilledColumn, Cond.selects RX5 yX5_firstFilledColumn yX5_firstFilledColumn, Cond.code yX5_firstFilledColumn cX5_firstFilledColumn 5 (some .int), Cond.methodLink RX5 66 yX5_takeWay, Cond.instanceMethod yX5_takeWay, Cond.selects RX5 yX5_takeWay yX5_takeWay, Cond.code yX5_takeWay cX5_takeWay 5 none, Cond.methodLink RX5 89 yX5_clearColumn, Cond.instanceMethod yX5_clearColumn, Cond.selects RX5 yX5_clearColumn yX5_clearColumn, Cond.code yX5_clearColumn cX5_clearColumn 10 none, Cond.methodLink RX5 44 yX5_allOffersDo]
def wsX5_fewestOffers_r3 : List Cond := [Cond.instanceMethod yX5_allOffersDo, Cond.selects RX5 yX5_allOffersDo yX5_allOffersDo, Cond.code yX5_allOffersDo cX5_allOffersDo 4 (some .boolean), Cond.fieldLink RX5 15 "EndMeters$Spans" "takenAt" "[I", Cond.methodLink RX5 97 yJ7_fill_53178, Cond.static yJ7_fill_53178, Cond.initialized RJ7, Cond.code yJ7_fill_53178 cJ7_fill_53178 4 none, Cond.methodLink RX5 93 yX5_takeOffer, Cond.instanceMethod yX5_takeOffer, Cond.selects RX5 yX5_takeOffer yX5_takeOffer, Cond.code yX5_takeOffer cX5_takeOffer 7 (some .boolean), Cond.methodLink RX5 57 yX5_allAskedAreEmpty, Cond.instanceMethod yX5_allAskedAreEmpty, Cond.selects RX5 yX5_allAskedAreEmpty yX5_allAskedAreEmpty, Cond.code yX5_allAskedAreEmpty cX5_allAskedAreEmpty 3 (some .boolean), Cond.methodLink RX5 48 yJ6_bitCount_0f7a4, Cond.static yJ6_bitCount_0f7a4, Cond.initialized RJ6, Cond.code yJ6_bitCount_0f7a4 cJ6_bitCount_0f7a4 1 (some .int), Cond.constant RJ6 265 (1431655765), Cond.constant RJ6 266 (858993459), Cond.constant RJ6 267 (252645135), Cond.methodLink RX5 54 yX5_takeSet]
def wsX5_fewestOffers_r4 : List Cond := [Cond.instanceMethod yX5_takeSet, Cond.selects RX5 yX5_takeSet yX5_takeSet, Cond.code yX5_takeSet cX5_takeSet 4 (some .boolean)]
def wsX5_fewestOffers : List Cond := .code yX5_fewestOffers cX5_fewestOffers 8 (some .int) :: ((wsX5_fewestOffers_r1 ++ (wsX5_fewestOffers_r2 ++ (wsX5_fewestOffers_r3 ++ wsX5_fewestOffers_r4))) ++ wsX50 ++ wsX20)
def wsX6_init_r1 : List Cond := [Cond.methodLink RX6 1 objectInit, Cond.instanceMethod objectInit, Cond.code objectInit ⟨#[0xb1]⟩ 1 none, Cond.classLink RX6 7 RX2, Cond.instantiable RX2 8, Cond.initialized RX2, Cond.fieldLink RX6 10 "EndMeters" "net" "LEndMeters$Net;", Cond.classLink RX6 16 RX0, Cond.instantiable RX0 13, Cond.initialized RX0, Cond.fieldLink RX6 19 "EndMeters" "delays" "LEndMeters$Delays;", Cond.classLink RX6 23 RX1, Cond.instantiable RX1 3, Cond.initialized RX1, Cond.fieldLink RX6 26 "EndMeters" "liars" "LEndMeters$Liars;", Cond.classLink RX6 30 RX5, Cond.instantiable RX5 6, Cond.initialized RX5, Cond.fieldLink RX6 33 "EndMeters" "spans" "LEndMeters$Spans;", Cond.classLink RX6 37 RX4, Cond.instantiable RX4 1, Cond.initialized RX4, Cond.fieldLink RX6 40 "EndMeters" "sickLines" "LEndMeters$SickLines;", Cond.instanceMethod yX2_init]
def wsX6_init_r2 : List Cond := [Cond.code yX2_init cX2_init 1 none, Cond.methodLink RX2 3 objectInit, Cond.arrayClass .int, Cond.fieldLink RX2 9 "EndMeters$Net" "waySet" "[I", Cond.fieldLink RX2 15 "EndMeters$Net" "waySum" "[I", Cond.fieldLink RX2 18 "EndMeters$Net" "offerSet" "[I", Cond.fieldLink RX2 21 "EndMeters$Net" "lineCount" "I", Cond.instanceMethod yX0_init, Cond.code yX0_init cX0_init 1 none, Cond.methodLink RX0 3 objectInit, Cond.arrayClass .long, Cond.fieldLink RX0 9 "EndMeters$Delays" "table" "[J", Cond.fieldLink RX0 15 "EndMeters$Delays" "holder" "[I", Cond.fieldLink RX0 19 "EndMeters$Delays" "wayOfRow" "[I", Cond.fieldLink RX0 22 "EndMeters$Delays" "lineCost" "[I", Cond.fieldLink RX0 25 "EndMeters$Delays" "scale" "J", Cond.fieldLink RX0 29 "EndMeters$Delays" "loaded" "I", Cond.instanceMethod yX1_init, Cond.code yX1_init cX1_init 1 none, Cond.methodLink RX1 1 objectInit, Cond.classLink RX1 7 RX3, Cond.instantiable RX3 2, Cond.initialized RX3, Cond.fieldLink RX1 10 "EndMeters$Liars" "found" "LEndMeters$SetList;"]
def wsX6_init_r3 : List Cond := [Cond.fieldLink RX1 16 "EndMeters$Liars" "clashes" "LEndMeters$SetList;", Cond.instanceMethod yX3_init, Cond.code yX3_init cX3_init 1 none, Cond.methodLink RX3 3 objectInit, Cond.fieldLink RX3 11 "EndMeters$SetList" "sets" "[I", Cond.instanceMethod yX5_init, Cond.code yX5_init cX5_init 1 none, Cond.methodLink RX5 3 objectInit, Cond.fieldLink RX5 11 "EndMeters$Spans" "cells" "[I", Cond.fieldLink RX5 15 "EndMeters$Spans" "takenAt" "[I", Cond.fieldLink RX5 18 "EndMeters$Spans" "headAt" "[I", Cond.instanceMethod yX4_init, Cond.code yX4_init cX4_init 1 none, Cond.methodLink RX4 3 objectInit, Cond.classLink RX4 9 RX3, Cond.fieldLink RX4 12 "EndMeters$SickLines" "found" "LEndMeters$SetList;"]
def wsX6_init : List Cond := .code yX6_init cX6_init 1 none :: ((wsX6_init_r1 ++ (wsX6_init_r2 ++ wsX6_init_r3)) ++ wsX20 ++ wsX60 ++ wsX00 ++ wsX10 ++ wsX50 ++ wsX40 ++ wsX30)
def wsX6_forgetAnswers : List Cond := .code yX6_forgetAnswers cX6_forgetAnswers 1 none :: ([.fieldLink RX6 19 "EndMeters" "delays" "LEndMeters$Delays;", .fieldLink RX6 26 "EndMeters" "liars" "LEndMeters$Liars;", .methodLink RX6 200 yX0_forget, .instanceMethod yX0_forget, .selects RX0 yX0_forget yX0_forget, .initialized RX0, .code yX0_forget cX0_forget 1 none, .fieldLink RX0 29 "EndMeters$Delays" "loaded" "I", .methodLink RX6 203 yX1_forget, .instanceMethod yX1_forget, .selects RX1 yX1_forget yX1_forget, .initialized RX1, .code yX1_forget cX1_forget 1 none, .fieldLink RX1 19 "EndMeters$Liars" "upToDate" "Z"] ++ wsX60 ++ wsX00 ++ wsX10)
def wsX6_lines_r1 : List Cond := [Cond.fieldLink RX6 10 "EndMeters" "net" "LEndMeters$Net;", Cond.fieldLink RX6 44 "EndMeters$Net" "lineCount" "I", Cond.methodLink RX6 48 yX2_startAnew, Cond.instanceMethod yX2_startAnew, Cond.selects RX2 yX2_startAnew yX2_startAnew, Cond.initialized RX2, Cond.code yX2_startAnew cX2_startAnew 2 none, Cond.fieldLink RX2 21 "EndMeters$Net" "lineCount" "I", Cond.fieldLink RX2 25 "EndMeters$Net" "wayCount" "I", Cond.fieldLink RX2 28 "EndMeters$Net" "offerCount" "I", Cond.fieldLink RX2 31 "EndMeters$Net" "onWays" "I", Cond.fieldLink RX2 34 "EndMeters$Net" "badWays" "I", Cond.methodLink RX6 52 yX6_forgetAnswers, Cond.instanceMethod yX6_forgetAnswers, Cond.selects RX6 yX6_forgetAnswers yX6_forgetAnswers, Cond.initialized RX6, Cond.code yX6_forgetAnswers cX6_forgetAnswers 1 none, Cond.fieldLink RX6 19 "EndMeters" "delays" "LEndMeters$Delays;", Cond.fieldLink RX6 26 "EndMeters" "liars" "LEndMeters$Liars;", Cond.methodLink RX6 200 yX0_forget, Cond.instanceMethod yX0_forget, Cond.selects RX0 yX0_forget yX0_forget, Cond.initialized RX0, Cond.code yX0_forget cX0_forget 1 none]
def wsX6_lines_r2 : List Cond := [Cond.fieldLink RX0 29 "EndMeters$Delays" "loaded" "I", Cond.methodLink RX6 203 yX1_forget, Cond.instanceMethod yX1_forget, Cond.selects RX1 yX1_forget yX1_forget, Cond.initialized RX1, Cond.code yX1_forget cX1_forget 1 none, Cond.fieldLink RX1 19 "EndMeters$Liars" "upToDate" "Z"]
def wsX6_lines : List Cond := .code yX6_lines cX6_lines 3 (some .int) :: ((wsX6_lines_r1 ++ wsX6_lines_r2) ++ wsX60 ++ wsX20 ++ wsX00 ++ wsX10)
def wsX6_isSum : List Cond := .code yX6_isSum cX6_isSum 1 (some .boolean) :: ([.constant RX6 204 (100000)])
def wsX6_way_r1 : List Cond := [Cond.fieldLink RX6 10 "EndMeters" "net" "LEndMeters$Net;", Cond.fieldLink RX6 62 "EndMeters$Net" "wayCount" "I", Cond.methodLink RX6 55 yX2_isFilledLineSet, Cond.instanceMethod yX2_isFilledLineSet, Cond.selects RX2 yX2_isFilledLineSet yX2_isFilledLineSet, Cond.initialized RX2, Cond.code yX2_isFilledLineSet cX2_isFilledLineSet 2 (some .boolean), Cond.methodLink RX2 37 yX2_isLineSet, Cond.instanceMethod yX2_isLineSet, Cond.selects RX2 yX2_isLineSet yX2_isLineSet, Cond.code yX2_isLineSet cX2_isLineSet 2 (some .boolean), Cond.fieldLink RX2 21 "EndMeters$Net" "lineCount" "I", Cond.methodLink RX6 59 yX6_isSum, Cond.static yX6_isSum, Cond.initialized RX6, Cond.code yX6_isSum cX6_isSum 1 (some .boolean), Cond.constant RX6 204 (100000), Cond.methodLink RX6 52 yX6_forgetAnswers, Cond.instanceMethod yX6_forgetAnswers, Cond.selects RX6 yX6_forgetAnswers yX6_forgetAnswers, Cond.code yX6_forgetAnswers cX6_forgetAnswers 1 none, Cond.fieldLink RX6 19 "EndMeters" "delays" "LEndMeters$Delays;", Cond.fieldLink RX6 26 "EndMeters" "liars" "LEndMeters$Liars;", Cond.methodLink RX6 200 yX0_forget]
def wsX6_way_r2 : List Cond := [Cond.instanceMethod yX0_forget, Cond.selects RX0 yX0_forget yX0_forget, Cond.initialized RX0, Cond.code yX0_forget cX0_forget 1 none, Cond.fieldLink RX0 29 "EndMeters$Delays" "loaded" "I", Cond.methodLink RX6 203 yX1_forget, Cond.instanceMethod yX1_forget, Cond.selects RX1 yX1_forget yX1_forget, Cond.initialized RX1, Cond.code yX1_forget cX1_forget 1 none, Cond.fieldLink RX1 19 "EndMeters$Liars" "upToDate" "Z", Cond.methodLink RX6 65 yX2_addWay, Cond.instanceMethod yX2_addWay, Cond.selects RX2 yX2_addWay yX2_addWay, Cond.code yX2_addWay cX2_addWay 4 (some .int), Cond.fieldLink RX2 25 "EndMeters$Net" "wayCount" "I", Cond.fieldLink RX2 9 "EndMeters$Net" "waySet" "[I", Cond.fieldLink RX2 15 "EndMeters$Net" "waySum" "[I", Cond.fieldLink RX2 31 "EndMeters$Net" "onWays" "I", Cond.fieldLink RX2 34 "EndMeters$Net" "badWays" "I", Cond.static yX6_withBit, Cond.code yX6_withBit cX6_withBit 3 (some .int)]
def wsX6_way : List Cond := .code yX6_way cX6_way 3 (some .int) :: ((wsX6_way_r1 ++ wsX6_way_r2) ++ wsX60 ++ wsX20 ++ wsX00 ++ wsX10)
def wsX6_sum_r1 : List Cond := [Cond.fieldLink RX6 10 "EndMeters" "net" "LEndMeters$Net;", Cond.fieldLink RX6 72 "EndMeters$Net" "waySum" "[I", Cond.methodLink RX6 69 yX2_hasWay, Cond.instanceMethod yX2_hasWay, Cond.selects RX2 yX2_hasWay yX2_hasWay, Cond.initialized RX2, Cond.code yX2_hasWay cX2_hasWay 2 (some .boolean), Cond.fieldLink RX2 25 "EndMeters$Net" "wayCount" "I", Cond.methodLink RX6 59 yX6_isSum, Cond.static yX6_isSum, Cond.initialized RX6, Cond.code yX6_isSum cX6_isSum 1 (some .boolean), Cond.constant RX6 204 (100000), Cond.methodLink RX6 52 yX6_forgetAnswers, Cond.instanceMethod yX6_forgetAnswers, Cond.selects RX6 yX6_forgetAnswers yX6_forgetAnswers, Cond.code yX6_forgetAnswers cX6_forgetAnswers 1 none, Cond.fieldLink RX6 19 "EndMeters" "delays" "LEndMeters$Delays;", Cond.fieldLink RX6 26 "EndMeters" "liars" "LEndMeters$Liars;", Cond.methodLink RX6 200 yX0_forget, Cond.instanceMethod yX0_forget, Cond.selects RX0 yX0_forget yX0_forget, Cond.initialized RX0, Cond.code yX0_forget cX0_forget 1 none]
def wsX6_sum_r2 : List Cond := [Cond.fieldLink RX0 29 "EndMeters$Delays" "loaded" "I", Cond.methodLink RX6 203 yX1_forget, Cond.instanceMethod yX1_forget, Cond.selects RX1 yX1_forget yX1_forget, Cond.initialized RX1, Cond.code yX1_forget cX1_forget 1 none, Cond.fieldLink RX1 19 "EndMeters$Liars" "upToDate" "Z"]
def wsX6_sum : List Cond := .code yX6_sum cX6_sum 4 (some .int) :: ((wsX6_sum_r1 ++ wsX6_sum_r2) ++ wsX60 ++ wsX20 ++ wsX00 ++ wsX10)
def wsX6_over_r1 : List Cond := [Cond.fieldLink RX6 10 "EndMeters" "net" "LEndMeters$Net;", Cond.fieldLink RX6 76 "EndMeters$Net" "waySet" "[I", Cond.methodLink RX6 69 yX2_hasWay, Cond.instanceMethod yX2_hasWay, Cond.selects RX2 yX2_hasWay yX2_hasWay, Cond.initialized RX2, Cond.code yX2_hasWay cX2_hasWay 2 (some .boolean), Cond.fieldLink RX2 25 "EndMeters$Net" "wayCount" "I", Cond.methodLink RX6 55 yX2_isFilledLineSet, Cond.instanceMethod yX2_isFilledLineSet, Cond.selects RX2 yX2_isFilledLineSet yX2_isFilledLineSet, Cond.code yX2_isFilledLineSet cX2_isFilledLineSet 2 (some .boolean), Cond.methodLink RX2 37 yX2_isLineSet, Cond.instanceMethod yX2_isLineSet, Cond.selects RX2 yX2_isLineSet yX2_isLineSet, Cond.code yX2_isLineSet cX2_isLineSet 2 (some .boolean), Cond.fieldLink RX2 21 "EndMeters$Net" "lineCount" "I", Cond.methodLink RX6 52 yX6_forgetAnswers, Cond.instanceMethod yX6_forgetAnswers, Cond.selects RX6 yX6_forgetAnswers yX6_forgetAnswers, Cond.initialized RX6, Cond.code yX6_forgetAnswers cX6_forgetAnswers 1 none, Cond.fieldLink RX6 19 "EndMeters" "delays" "LEndMeters$Delays;", Cond.fieldLink RX6 26 "EndMeters" "liars" "LEndMeters$Liars;"]
def wsX6_over_r2 : List Cond := [Cond.methodLink RX6 200 yX0_forget, Cond.instanceMethod yX0_forget, Cond.selects RX0 yX0_forget yX0_forget, Cond.initialized RX0, Cond.code yX0_forget cX0_forget 1 none, Cond.fieldLink RX0 29 "EndMeters$Delays" "loaded" "I", Cond.methodLink RX6 203 yX1_forget, Cond.instanceMethod yX1_forget, Cond.selects RX1 yX1_forget yX1_forget, Cond.initialized RX1, Cond.code yX1_forget cX1_forget 1 none, Cond.fieldLink RX1 19 "EndMeters$Liars" "upToDate" "Z"]
def wsX6_over : List Cond := .code yX6_over cX6_over 4 (some .int) :: ((wsX6_over_r1 ++ wsX6_over_r2) ++ wsX60 ++ wsX20 ++ wsX00 ++ wsX10)
def wsX6_on_r1 : List Cond := [Cond.fieldLink RX6 10 "EndMeters" "net" "LEndMeters$Net;", Cond.fieldLink RX6 79 "EndMeters$Net" "onWays" "I", Cond.methodLink RX6 69 yX2_hasWay, Cond.instanceMethod yX2_hasWay, Cond.selects RX2 yX2_hasWay yX2_hasWay, Cond.initialized RX2, Cond.code yX2_hasWay cX2_hasWay 2 (some .boolean), Cond.fieldLink RX2 25 "EndMeters$Net" "wayCount" "I", Cond.methodLink RX6 82 yX6_bitOf, Cond.static yX6_bitOf, Cond.initialized RX6, Cond.code yX6_bitOf cX6_bitOf 2 (some .int), Cond.methodLink RX6 85 yX6_withBit, Cond.static yX6_withBit, Cond.code yX6_withBit cX6_withBit 3 (some .int), Cond.methodLink RX6 52 yX6_forgetAnswers, Cond.instanceMethod yX6_forgetAnswers, Cond.selects RX6 yX6_forgetAnswers yX6_forgetAnswers, Cond.code yX6_forgetAnswers cX6_forgetAnswers 1 none, Cond.fieldLink RX6 19 "EndMeters" "delays" "LEndMeters$Delays;", Cond.fieldLink RX6 26 "EndMeters" "liars" "LEndMeters$Liars;", Cond.methodLink RX6 200 yX0_forget, Cond.instanceMethod yX0_forget, Cond.selects RX0 yX0_forget yX0_forget]
def wsX6_on_r2 : List Cond := [Cond.initialized RX0, Cond.code yX0_forget cX0_forget 1 none, Cond.fieldLink RX0 29 "EndMeters$Delays" "loaded" "I", Cond.methodLink RX6 203 yX1_forget, Cond.instanceMethod yX1_forget, Cond.selects RX1 yX1_forget yX1_forget, Cond.initialized RX1, Cond.code yX1_forget cX1_forget 1 none, Cond.fieldLink RX1 19 "EndMeters$Liars" "upToDate" "Z"]
def wsX6_on : List Cond := .code yX6_on cX6_on 4 (some .int) :: ((wsX6_on_r1 ++ wsX6_on_r2) ++ wsX60 ++ wsX20 ++ wsX00 ++ wsX10)
def wsX6_bad : List Cond := .code yX6_bad cX6_bad 4 (some .int) :: ([.fieldLink RX6 10 "EndMeters" "net" "LEndMeters$Net;", .fieldLink RX6 89 "EndMeters$Net" "badWays" "I", .methodLink RX6 69 yX2_hasWay, .instanceMethod yX2_hasWay, .selects RX2 yX2_hasWay yX2_hasWay, .initialized RX2, .code yX2_hasWay cX2_hasWay 2 (some .boolean), .fieldLink RX2 25 "EndMeters$Net" "wayCount" "I", .methodLink RX6 82 yX6_bitOf, .static yX6_bitOf, .initialized RX6, .code yX6_bitOf cX6_bitOf 2 (some .int), .methodLink RX6 85 yX6_withBit, .static yX6_withBit, .code yX6_withBit cX6_withBit 3 (some .int)] ++ wsX60 ++ wsX20)
def wsX6_back_r1 : List Cond := [Cond.fieldLink RX6 10 "EndMeters" "net" "LEndMeters$Net;", Cond.fieldLink RX6 62 "EndMeters$Net" "wayCount" "I", Cond.methodLink RX6 92 yX2_dropLastWay, Cond.instanceMethod yX2_dropLastWay, Cond.selects RX2 yX2_dropLastWay yX2_dropLastWay, Cond.initialized RX2, Cond.code yX2_dropLastWay cX2_dropLastWay 1 none, Cond.fieldLink RX2 25 "EndMeters$Net" "wayCount" "I", Cond.fieldLink RX2 31 "EndMeters$Net" "onWays" "I", Cond.fieldLink RX2 34 "EndMeters$Net" "badWays" "I", Cond.static yX6_withBit, Cond.initialized RX6, Cond.code yX6_withBit cX6_withBit 3 (some .int), Cond.methodLink RX6 52 yX6_forgetAnswers, Cond.instanceMethod yX6_forgetAnswers, Cond.selects RX6 yX6_forgetAnswers yX6_forgetAnswers, Cond.code yX6_forgetAnswers cX6_forgetAnswers 1 none, Cond.fieldLink RX6 19 "EndMeters" "delays" "LEndMeters$Delays;", Cond.fieldLink RX6 26 "EndMeters" "liars" "LEndMeters$Liars;", Cond.methodLink RX6 200 yX0_forget, Cond.instanceMethod yX0_forget, Cond.selects RX0 yX0_forget yX0_forget, Cond.initialized RX0, Cond.code yX0_forget cX0_forget 1 none]
def wsX6_back_r2 : List Cond := [Cond.fieldLink RX0 29 "EndMeters$Delays" "loaded" "I", Cond.methodLink RX6 203 yX1_forget, Cond.instanceMethod yX1_forget, Cond.selects RX1 yX1_forget yX1_forget, Cond.initialized RX1, Cond.code yX1_forget cX1_forget 1 none, Cond.fieldLink RX1 19 "EndMeters$Liars" "upToDate" "Z"]
def wsX6_back : List Cond := .code yX6_back cX6_back 1 (some .int) :: ((wsX6_back_r1 ++ wsX6_back_r2) ++ wsX60 ++ wsX20 ++ wsX00 ++ wsX10)
def wsX6_told : List Cond := .code yX6_told cX6_told 3 (some .int) :: ([.fieldLink RX6 10 "EndMeters" "net" "LEndMeters$Net;", .fieldLink RX6 76 "EndMeters$Net" "waySet" "[I", .fieldLink RX6 72 "EndMeters$Net" "waySum" "[I", .fieldLink RX6 79 "EndMeters$Net" "onWays" "I", .fieldLink RX6 89 "EndMeters$Net" "badWays" "I", .methodLink RX6 69 yX2_hasWay, .instanceMethod yX2_hasWay, .selects RX2 yX2_hasWay yX2_hasWay, .initialized RX2, .code yX2_hasWay cX2_hasWay 2 (some .boolean), .fieldLink RX2 25 "EndMeters$Net" "wayCount" "I", .methodLink RX6 82 yX6_bitOf, .static yX6_bitOf, .initialized RX6, .code yX6_bitOf cX6_bitOf 2 (some .int)] ++ wsX60 ++ wsX20)
def wsX6_isEndless : List Cond := .code yX6_isEndless cX6_isEndless 3 (some .boolean) :: ([.fieldLink RX6 10 "EndMeters" "net" "LEndMeters$Net;", .methodLink RX6 105 yX2_seenLines, .instanceMethod yX2_seenLines, .selects RX2 yX2_seenLines yX2_seenLines, .initialized RX2, .code yX2_seenLines cX2_seenLines 3 (some .int), .fieldLink RX2 25 "EndMeters$Net" "wayCount" "I", .fieldLink RX2 9 "EndMeters$Net" "waySet" "[I", .methodLink RX2 49 yX2_isOn, .instanceMethod yX2_isOn, .selects RX2 yX2_isOn yX2_isOn, .code yX2_isOn cX2_isOn 2 (some .boolean), .fieldLink RX2 31 "EndMeters$Net" "onWays" "I", .static yX6_bitOf, .initialized RX6, .code yX6_bitOf cX6_bitOf 2 (some .int)] ++ wsX60 ++ wsX20)
def wsX6_isSettledLine_r1 : List Cond := [Cond.fieldLink RX6 19 "EndMeters" "delays" "LEndMeters$Delays;", Cond.fieldLink RX6 149 "EndMeters$Delays" "scale" "J", Cond.methodLink RX6 135 yX6_isEndless, Cond.instanceMethod yX6_isEndless, Cond.selects RX6 yX6_isEndless yX6_isEndless, Cond.initialized RX6, Cond.code yX6_isEndless cX6_isEndless 3 (some .boolean), Cond.fieldLink RX6 10 "EndMeters" "net" "LEndMeters$Net;", Cond.methodLink RX6 105 yX2_seenLines, Cond.instanceMethod yX2_seenLines, Cond.selects RX2 yX2_seenLines yX2_seenLines, Cond.initialized RX2, Cond.code yX2_seenLines cX2_seenLines 3 (some .int), Cond.fieldLink RX2 25 "EndMeters$Net" "wayCount" "I", Cond.fieldLink RX2 9 "EndMeters$Net" "waySet" "[I", Cond.methodLink RX2 49 yX2_isOn, Cond.instanceMethod yX2_isOn, Cond.selects RX2 yX2_isOn yX2_isOn, Cond.code yX2_isOn cX2_isOn 2 (some .boolean), Cond.fieldLink RX2 31 "EndMeters$Net" "onWays" "I", Cond.static yX6_bitOf, Cond.code yX6_bitOf cX6_bitOf 2 (some .int), Cond.methodLink RX6 141 yX0_goToEnd, Cond.instanceMethod yX0_goToEnd]
def wsX6_isSettledLine_r2 : List Cond := [Cond.selects RX0 yX0_goToEnd yX0_goToEnd, Cond.initialized RX0, Cond.code yX0_goToEnd cX0_goToEnd 3 none, Cond.fieldLink RX0 65 "EndMeters$Delays" "barred" "I", Cond.methodLink RX0 41 yX0_setGoal, Cond.instanceMethod yX0_setGoal, Cond.selects RX0 yX0_setGoal yX0_setGoal, Cond.code yX0_setGoal cX0_setGoal 5 none, Cond.fieldLink RX0 68 "EndMeters$Delays" "lineCount" "I", Cond.fieldLink RX0 22 "EndMeters$Delays" "lineCost" "[I", Cond.fieldLink RX0 108 "EndMeters$Delays" "slackCost" "I", Cond.methodLink RX0 45 yX0_walkToLeast, Cond.instanceMethod yX0_walkToLeast, Cond.selects RX0 yX0_walkToLeast yX0_walkToLeast, Cond.code yX0_walkToLeast cX0_walkToLeast 4 none, Cond.constant RX0 111 (1000000), Cond.methodLink RX0 112 yX0_firstLineThatHelps, Cond.instanceMethod yX0_firstLineThatHelps, Cond.selects RX0 yX0_firstLineThatHelps yX0_firstLineThatHelps, Cond.code yX0_firstLineThatHelps cX0_firstLineThatHelps 2 (some .int), Cond.fieldLink RX0 25 "EndMeters$Delays" "scale" "J", Cond.methodLink RX0 51 yX0_costOfColumn, Cond.instanceMethod yX0_costOfColumn, Cond.selects RX0 yX0_costOfColumn yX0_costOfColumn]
def wsX6_isSettledLine_r3 : List Cond := [Cond.code yX0_costOfColumn cX0_costOfColumn 6 (some .long), Cond.fieldLink RX0 74 "EndMeters$Delays" "rows" "I", Cond.fieldLink RX0 15 "EndMeters$Delays" "holder" "[I", Cond.fieldLink RX0 9 "EndMeters$Delays" "table" "[J", Cond.fieldLink RX0 48 "EndMeters$Delays" "width" "I", Cond.methodLink RX0 115 yX0_rowThatGivesWay, Cond.instanceMethod yX0_rowThatGivesWay, Cond.selects RX0 yX0_rowThatGivesWay yX0_rowThatGivesWay, Cond.code yX0_rowThatGivesWay cX0_rowThatGivesWay 4 (some .int), Cond.methodLink RX0 122 yX0_givesWayBefore, Cond.instanceMethod yX0_givesWayBefore, Cond.selects RX0 yX0_givesWayBefore yX0_givesWayBefore, Cond.code yX0_givesWayBefore cX0_givesWayBefore 10 (some .boolean), Cond.methodLink RX0 118 yX0_exchange, Cond.instanceMethod yX0_exchange, Cond.selects RX0 yX0_exchange yX0_exchange, Cond.code yX0_exchange cX0_exchange 7 none, Cond.methodLink RX0 126 yX0_turnSigns, Cond.instanceMethod yX0_turnSigns, Cond.selects RX0 yX0_turnSigns yX0_turnSigns, Cond.code yX0_turnSigns cX0_turnSigns 3 none, Cond.methodLink RX0 130 yX0_clearColumn, Cond.instanceMethod yX0_clearColumn, Cond.selects RX0 yX0_clearColumn yX0_clearColumn]
def wsX6_isSettledLine_r4 : List Cond := [Cond.code yX0_clearColumn cX0_clearColumn 11 none, Cond.methodLink RX6 145 yX0_upperOf, Cond.instanceMethod yX0_upperOf, Cond.selects RX0 yX0_upperOf yX0_upperOf, Cond.code yX0_upperOf cX0_upperOf 5 (some .long)]
def wsX6_isSettledLine : List Cond := .code yX6_isSettledLine cX6_isSettledLine 7 (some .boolean) :: ((wsX6_isSettledLine_r1 ++ (wsX6_isSettledLine_r2 ++ (wsX6_isSettledLine_r3 ++ wsX6_isSettledLine_r4))) ++ wsX60 ++ wsX00 ++ wsX20)
def wsX6_settledLines_r1 : List Cond := [Cond.fieldLink RX6 19 "EndMeters" "delays" "LEndMeters$Delays;", Cond.fieldLink RX6 10 "EndMeters" "net" "LEndMeters$Net;", Cond.fieldLink RX6 79 "EndMeters$Net" "onWays" "I", Cond.fieldLink RX6 44 "EndMeters$Net" "lineCount" "I", Cond.methodLink RX6 121 yX0_solve, Cond.instanceMethod yX0_solve, Cond.selects RX0 yX0_solve yX0_solve, Cond.initialized RX0, Cond.code yX0_solve cX0_solve 3 (some .boolean), Cond.fieldLink RX0 29 "EndMeters$Delays" "loaded" "I", Cond.fieldLink RX0 33 "EndMeters$Delays" "possible" "Z", Cond.fieldLink RX0 48 "EndMeters$Delays" "width" "I", Cond.fieldLink RX0 62 "EndMeters$Delays" "clash" "I", Cond.methodLink RX0 37 yX0_load, Cond.instanceMethod yX0_load, Cond.selects RX0 yX0_load yX0_load, Cond.code yX0_load cX0_load 5 none, Cond.fieldLink RX0 81 "EndMeters$Net" "lineCount" "I", Cond.fieldLink RX0 68 "EndMeters$Delays" "lineCount" "I", Cond.fieldLink RX0 74 "EndMeters$Delays" "rows" "I", Cond.fieldLink RX0 25 "EndMeters$Delays" "scale" "J", Cond.fieldLink RX0 65 "EndMeters$Delays" "barred" "I", Cond.fieldLink RX0 9 "EndMeters$Delays" "table" "[J", Cond.fieldLink RX0 96 "EndMeters$Net" "wayCount" "I"]
def wsX6_settledLines_r2 : List Cond := [Cond.fieldLink RX0 99 "EndMeters$Net" "waySet" "[I", Cond.fieldLink RX0 102 "EndMeters$Net" "waySum" "[I", Cond.fieldLink RX0 19 "EndMeters$Delays" "wayOfRow" "[I", Cond.methodLink RX0 84 yJ6_bitCount_0f7a4, Cond.static yJ6_bitCount_0f7a4, Cond.initialized RJ6, Cond.code yJ6_bitCount_0f7a4 cJ6_bitCount_0f7a4 1 (some .int), Cond.constant RJ6 265 (1431655765), Cond.constant RJ6 266 (858993459), Cond.constant RJ6 267 (252645135), Cond.methodLink RX0 90 yJ7_fill_d0a16, Cond.static yJ7_fill_d0a16, Cond.initialized RJ7, Cond.code yJ7_fill_d0a16 cJ7_fill_d0a16 5 none, Cond.static yX6_bitOf, Cond.initialized RX6, Cond.code yX6_bitOf cX6_bitOf 2 (some .int), Cond.methodLink RX0 105 yX0_loadRow, Cond.instanceMethod yX0_loadRow, Cond.selects RX0 yX0_loadRow yX0_loadRow, Cond.code yX0_loadRow cX0_loadRow 6 none, Cond.fieldLink RX0 15 "EndMeters$Delays" "holder" "[I", Cond.methodLink RX0 41 yX0_setGoal, Cond.instanceMethod yX0_setGoal]
def wsX6_settledLines_r3 : List Cond := [Cond.selects RX0 yX0_setGoal yX0_setGoal, Cond.code yX0_setGoal cX0_setGoal 5 none, Cond.fieldLink RX0 22 "EndMeters$Delays" "lineCost" "[I", Cond.fieldLink RX0 108 "EndMeters$Delays" "slackCost" "I", Cond.methodLink RX0 45 yX0_walkToLeast, Cond.instanceMethod yX0_walkToLeast, Cond.selects RX0 yX0_walkToLeast yX0_walkToLeast, Cond.code yX0_walkToLeast cX0_walkToLeast 4 none, Cond.constant RX0 111 (1000000), Cond.methodLink RX0 112 yX0_firstLineThatHelps, Cond.instanceMethod yX0_firstLineThatHelps, Cond.selects RX0 yX0_firstLineThatHelps yX0_firstLineThatHelps, Cond.code yX0_firstLineThatHelps cX0_firstLineThatHelps 2 (some .int), Cond.methodLink RX0 51 yX0_costOfColumn, Cond.instanceMethod yX0_costOfColumn, Cond.selects RX0 yX0_costOfColumn yX0_costOfColumn, Cond.code yX0_costOfColumn cX0_costOfColumn 6 (some .long), Cond.methodLink RX0 115 yX0_rowThatGivesWay, Cond.instanceMethod yX0_rowThatGivesWay, Cond.selects RX0 yX0_rowThatGivesWay yX0_rowThatGivesWay, Cond.code yX0_rowThatGivesWay cX0_rowThatGivesWay 4 (some .int), Cond.methodLink RX0 122 yX0_givesWayBefore, Cond.instanceMethod yX0_givesWayBefore, Cond.selects RX0 yX0_givesWayBefore yX0_givesWayBefore]
def wsX6_settledLines_r4 : List Cond := [Cond.code yX0_givesWayBefore cX0_givesWayBefore 10 (some .boolean), Cond.methodLink RX0 118 yX0_exchange, Cond.instanceMethod yX0_exchange, Cond.selects RX0 yX0_exchange yX0_exchange, Cond.code yX0_exchange cX0_exchange 7 none, Cond.methodLink RX0 126 yX0_turnSigns, Cond.instanceMethod yX0_turnSigns, Cond.selects RX0 yX0_turnSigns yX0_turnSigns, Cond.code yX0_turnSigns cX0_turnSigns 3 none, Cond.methodLink RX0 130 yX0_clearColumn, Cond.instanceMethod yX0_clearColumn, Cond.selects RX0 yX0_clearColumn yX0_clearColumn, Cond.code yX0_clearColumn cX0_clearColumn 11 none, Cond.methodLink RX0 55 yX0_dropSlacks, Cond.instanceMethod yX0_dropSlacks, Cond.selects RX0 yX0_dropSlacks yX0_dropSlacks, Cond.code yX0_dropSlacks cX0_dropSlacks 3 none, Cond.methodLink RX0 58 yX0_waysThatClash, Cond.instanceMethod yX0_waysThatClash, Cond.selects RX0 yX0_waysThatClash yX0_waysThatClash, Cond.code yX0_waysThatClash cX0_waysThatClash 3 (some .int), Cond.methodLink RX6 165 yX6_isSettledLine, Cond.instanceMethod yX6_isSettledLine, Cond.selects RX6 yX6_isSettledLine yX6_isSettledLine]
def wsX6_settledLines_r5 : List Cond := [Cond.code yX6_isSettledLine cX6_isSettledLine 7 (some .boolean), Cond.fieldLink RX6 149 "EndMeters$Delays" "scale" "J", Cond.methodLink RX6 135 yX6_isEndless, Cond.instanceMethod yX6_isEndless, Cond.selects RX6 yX6_isEndless yX6_isEndless, Cond.code yX6_isEndless cX6_isEndless 3 (some .boolean), Cond.methodLink RX6 105 yX2_seenLines, Cond.instanceMethod yX2_seenLines, Cond.selects RX2 yX2_seenLines yX2_seenLines, Cond.initialized RX2, Cond.code yX2_seenLines cX2_seenLines 3 (some .int), Cond.fieldLink RX2 25 "EndMeters$Net" "wayCount" "I", Cond.fieldLink RX2 9 "EndMeters$Net" "waySet" "[I", Cond.methodLink RX2 49 yX2_isOn, Cond.instanceMethod yX2_isOn, Cond.selects RX2 yX2_isOn yX2_isOn, Cond.code yX2_isOn cX2_isOn 2 (some .boolean), Cond.fieldLink RX2 31 "EndMeters$Net" "onWays" "I", Cond.methodLink RX6 141 yX0_goToEnd, Cond.instanceMethod yX0_goToEnd, Cond.selects RX0 yX0_goToEnd yX0_goToEnd, Cond.code yX0_goToEnd cX0_goToEnd 3 none, Cond.methodLink RX6 145 yX0_upperOf, Cond.instanceMethod yX0_upperOf]
def wsX6_settledLines_r6 : List Cond := [Cond.selects RX0 yX0_upperOf yX0_upperOf, Cond.code yX0_upperOf cX0_upperOf 5 (some .long)]
def wsX6_settledLines : List Cond := .code yX6_settledLines cX6_settledLines 3 (some .int) :: ((wsX6_settledLines_r1 ++ (wsX6_settledLines_r2 ++ (wsX6_settledLines_r3 ++ (wsX6_settledLines_r4 ++ (wsX6_settledLines_r5 ++ wsX6_settledLines_r6))))) ++ wsX60 ++ wsX20 ++ wsX00)
def wsX6_count_r1 : List Cond := [Cond.fieldLink RX6 10 "EndMeters" "net" "LEndMeters$Net;", Cond.fieldLink RX6 44 "EndMeters$Net" "lineCount" "I", Cond.fieldLink RX6 62 "EndMeters$Net" "wayCount" "I", Cond.fieldLink RX6 79 "EndMeters$Net" "onWays" "I", Cond.fieldLink RX6 33 "EndMeters" "spans" "LEndMeters$Spans;", Cond.fieldLink RX6 118 "EndMeters$Net" "offerCount" "I", Cond.methodLink RX6 95 yJ6_bitCount_0f7a4, Cond.static yJ6_bitCount_0f7a4, Cond.initialized RJ6, Cond.code yJ6_bitCount_0f7a4 cJ6_bitCount_0f7a4 1 (some .int), Cond.constant RJ6 265 (1431655765), Cond.constant RJ6 266 (858993459), Cond.constant RJ6 267 (252645135), Cond.methodLink RX6 101 yX5_rankOfWays, Cond.instanceMethod yX5_rankOfWays, Cond.selects RX5 yX5_rankOfWays yX5_rankOfWays, Cond.initialized RX5, Cond.code yX5_rankOfWays cX5_rankOfWays 2 (some .int), Cond.fieldLink RX5 25 "EndMeters$Spans" "rank" "I", Cond.methodLink RX5 21 yX5_takeWays, Cond.instanceMethod yX5_takeWays, Cond.selects RX5 yX5_takeWays yX5_takeWays, Cond.code yX5_takeWays cX5_takeWays 4 none, Cond.fieldLink RX5 18 "EndMeters$Spans" "headAt" "[I"]
def wsX6_count_r2 : List Cond := [Cond.fieldLink RX5 63 "EndMeters$Net" "wayCount" "I", Cond.methodLink RX5 60 yX5_load, Cond.instanceMethod yX5_load, Cond.selects RX5 yX5_load yX5_load, Cond.code yX5_load cX5_load 4 none, Cond.fieldLink RX5 70 "EndMeters$Net" "lineCount" "I", Cond.fieldLink RX5 29 "EndMeters$Spans" "lineCount" "I", Cond.fieldLink RX5 74 "EndMeters$Net" "waySet" "[I", Cond.fieldLink RX5 39 "EndMeters$Net" "offerCount" "I", Cond.fieldLink RX5 80 "EndMeters$Net" "offerSet" "[I", Cond.methodLink RX5 71 yX2_isOn, Cond.instanceMethod yX2_isOn, Cond.selects RX2 yX2_isOn yX2_isOn, Cond.initialized RX2, Cond.code yX2_isOn cX2_isOn 2 (some .boolean), Cond.fieldLink RX2 31 "EndMeters$Net" "onWays" "I", Cond.static yX6_bitOf, Cond.initialized RX6, Cond.code yX6_bitOf cX6_bitOf 2 (some .int), Cond.methodLink RX5 77 yX5_loadRow, Cond.instanceMethod yX5_loadRow, Cond.selects RX5 yX5_loadRow yX5_loadRow, Cond.code yX5_loadRow cX5_loadRow 5 none, Cond.fieldLink RX5 11 "EndMeters$Spans" "cells" "[I"]
def wsX6_count_r3 : List Cond := [Cond.methodLink RX5 83 yX5_startOf, Cond.static yX5_startOf, Cond.code yX5_startOf cX5_startOf 2 (some .int), Cond.methodLink RX5 32 yX5_firstFilledColumn, Cond.instanceMethod yX5_firstFilledColumn, Cond.selects RX5 yX5_firstFilledColumn yX5_firstFilledColumn, Cond.code yX5_firstFilledColumn cX5_firstFilledColumn 5 (some .int), Cond.methodLink RX5 66 yX5_takeWay, Cond.instanceMethod yX5_takeWay, Cond.selects RX5 yX5_takeWay yX5_takeWay, Cond.code yX5_takeWay cX5_takeWay 5 none, Cond.methodLink RX5 89 yX5_clearColumn, Cond.instanceMethod yX5_clearColumn, Cond.selects RX5 yX5_clearColumn yX5_clearColumn, Cond.code yX5_clearColumn cX5_clearColumn 10 none, Cond.methodLink RX6 105 yX2_seenLines, Cond.instanceMethod yX2_seenLines, Cond.selects RX2 yX2_seenLines yX2_seenLines, Cond.code yX2_seenLines cX2_seenLines 3 (some .int), Cond.fieldLink RX2 25 "EndMeters$Net" "wayCount" "I", Cond.fieldLink RX2 9 "EndMeters$Net" "waySet" "[I", Cond.methodLink RX2 49 yX2_isOn, Cond.methodLink RX6 109 yX6_settledLines, Cond.instanceMethod yX6_settledLines]
def wsX6_count_r4 : List Cond := [Cond.selects RX6 yX6_settledLines yX6_settledLines, Cond.code yX6_settledLines cX6_settledLines 3 (some .int), Cond.fieldLink RX6 19 "EndMeters" "delays" "LEndMeters$Delays;", Cond.methodLink RX6 121 yX0_solve, Cond.instanceMethod yX0_solve, Cond.selects RX0 yX0_solve yX0_solve, Cond.initialized RX0, Cond.code yX0_solve cX0_solve 3 (some .boolean), Cond.fieldLink RX0 29 "EndMeters$Delays" "loaded" "I", Cond.fieldLink RX0 33 "EndMeters$Delays" "possible" "Z", Cond.fieldLink RX0 48 "EndMeters$Delays" "width" "I", Cond.fieldLink RX0 62 "EndMeters$Delays" "clash" "I", Cond.methodLink RX0 37 yX0_load, Cond.instanceMethod yX0_load, Cond.selects RX0 yX0_load yX0_load, Cond.code yX0_load cX0_load 5 none, Cond.fieldLink RX0 81 "EndMeters$Net" "lineCount" "I", Cond.fieldLink RX0 68 "EndMeters$Delays" "lineCount" "I", Cond.fieldLink RX0 74 "EndMeters$Delays" "rows" "I", Cond.fieldLink RX0 25 "EndMeters$Delays" "scale" "J", Cond.fieldLink RX0 65 "EndMeters$Delays" "barred" "I", Cond.fieldLink RX0 9 "EndMeters$Delays" "table" "[J", Cond.fieldLink RX0 96 "EndMeters$Net" "wayCount" "I", Cond.fieldLink RX0 99 "EndMeters$Net" "waySet" "[I"]
def wsX6_count_r5 : List Cond := [Cond.fieldLink RX0 102 "EndMeters$Net" "waySum" "[I", Cond.fieldLink RX0 19 "EndMeters$Delays" "wayOfRow" "[I", Cond.methodLink RX0 84 yJ6_bitCount_0f7a4, Cond.methodLink RX0 90 yJ7_fill_d0a16, Cond.static yJ7_fill_d0a16, Cond.initialized RJ7, Cond.code yJ7_fill_d0a16 cJ7_fill_d0a16 5 none, Cond.methodLink RX0 105 yX0_loadRow, Cond.instanceMethod yX0_loadRow, Cond.selects RX0 yX0_loadRow yX0_loadRow, Cond.code yX0_loadRow cX0_loadRow 6 none, Cond.fieldLink RX0 15 "EndMeters$Delays" "holder" "[I", Cond.methodLink RX0 41 yX0_setGoal, Cond.instanceMethod yX0_setGoal, Cond.selects RX0 yX0_setGoal yX0_setGoal, Cond.code yX0_setGoal cX0_setGoal 5 none, Cond.fieldLink RX0 22 "EndMeters$Delays" "lineCost" "[I", Cond.fieldLink RX0 108 "EndMeters$Delays" "slackCost" "I", Cond.methodLink RX0 45 yX0_walkToLeast, Cond.instanceMethod yX0_walkToLeast, Cond.selects RX0 yX0_walkToLeast yX0_walkToLeast, Cond.code yX0_walkToLeast cX0_walkToLeast 4 none, Cond.constant RX0 111 (1000000), Cond.methodLink RX0 112 yX0_firstLineThatHelps]
def wsX6_count_r6 : List Cond := [Cond.instanceMethod yX0_firstLineThatHelps, Cond.selects RX0 yX0_firstLineThatHelps yX0_firstLineThatHelps, Cond.code yX0_firstLineThatHelps cX0_firstLineThatHelps 2 (some .int), Cond.methodLink RX0 51 yX0_costOfColumn, Cond.instanceMethod yX0_costOfColumn, Cond.selects RX0 yX0_costOfColumn yX0_costOfColumn, Cond.code yX0_costOfColumn cX0_costOfColumn 6 (some .long), Cond.methodLink RX0 115 yX0_rowThatGivesWay, Cond.instanceMethod yX0_rowThatGivesWay, Cond.selects RX0 yX0_rowThatGivesWay yX0_rowThatGivesWay, Cond.code yX0_rowThatGivesWay cX0_rowThatGivesWay 4 (some .int), Cond.methodLink RX0 122 yX0_givesWayBefore, Cond.instanceMethod yX0_givesWayBefore, Cond.selects RX0 yX0_givesWayBefore yX0_givesWayBefore, Cond.code yX0_givesWayBefore cX0_givesWayBefore 10 (some .boolean), Cond.methodLink RX0 118 yX0_exchange, Cond.instanceMethod yX0_exchange, Cond.selects RX0 yX0_exchange yX0_exchange, Cond.code yX0_exchange cX0_exchange 7 none, Cond.methodLink RX0 126 yX0_turnSigns, Cond.instanceMethod yX0_turnSigns, Cond.selects RX0 yX0_turnSigns yX0_turnSigns, Cond.code yX0_turnSigns cX0_turnSigns 3 none, Cond.methodLink RX0 130 yX0_clearColumn]
def wsX6_count_r7 : List Cond := [Cond.instanceMethod yX0_clearColumn, Cond.selects RX0 yX0_clearColumn yX0_clearColumn, Cond.code yX0_clearColumn cX0_clearColumn 11 none, Cond.methodLink RX0 55 yX0_dropSlacks, Cond.instanceMethod yX0_dropSlacks, Cond.selects RX0 yX0_dropSlacks yX0_dropSlacks, Cond.code yX0_dropSlacks cX0_dropSlacks 3 none, Cond.methodLink RX0 58 yX0_waysThatClash, Cond.instanceMethod yX0_waysThatClash, Cond.selects RX0 yX0_waysThatClash yX0_waysThatClash, Cond.code yX0_waysThatClash cX0_waysThatClash 3 (some .int), Cond.methodLink RX6 165 yX6_isSettledLine, Cond.instanceMethod yX6_isSettledLine, Cond.selects RX6 yX6_isSettledLine yX6_isSettledLine, Cond.code yX6_isSettledLine cX6_isSettledLine 7 (some .boolean), Cond.fieldLink RX6 149 "EndMeters$Delays" "scale" "J", Cond.methodLink RX6 135 yX6_isEndless, Cond.instanceMethod yX6_isEndless, Cond.selects RX6 yX6_isEndless yX6_isEndless, Cond.code yX6_isEndless cX6_isEndless 3 (some .boolean), Cond.methodLink RX6 141 yX0_goToEnd, Cond.instanceMethod yX0_goToEnd, Cond.selects RX0 yX0_goToEnd yX0_goToEnd, Cond.code yX0_goToEnd cX0_goToEnd 3 none]
def wsX6_count_r8 : List Cond := [Cond.methodLink RX6 145 yX0_upperOf, Cond.instanceMethod yX0_upperOf, Cond.selects RX0 yX0_upperOf yX0_upperOf, Cond.code yX0_upperOf cX0_upperOf 5 (some .long), Cond.methodLink RX6 112 yX5_linesFromWays, Cond.instanceMethod yX5_linesFromWays, Cond.selects RX5 yX5_linesFromWays yX5_linesFromWays, Cond.code yX5_linesFromWays cX5_linesFromWays 4 (some .int), Cond.methodLink RX6 115 yX2_groupCount, Cond.instanceMethod yX2_groupCount, Cond.selects RX2 yX2_groupCount yX2_groupCount, Cond.code yX2_groupCount cX2_groupCount 4 (some .int), Cond.fieldLink RX2 21 "EndMeters$Net" "lineCount" "I", Cond.methodLink RX2 52 yX2_linesAlike, Cond.instanceMethod yX2_linesAlike, Cond.selects RX2 yX2_linesAlike yX2_linesAlike, Cond.code yX2_linesAlike cX2_linesAlike 4 (some .int)]
def wsX6_count : List Cond := .code yX6_count cX6_count 2 (some .int) :: ((wsX6_count_r1 ++ (wsX6_count_r2 ++ (wsX6_count_r3 ++ (wsX6_count_r4 ++ (wsX6_count_r5 ++ (wsX6_count_r6 ++ (wsX6_count_r7 ++ wsX6_count_r8))))))) ++ wsX60 ++ wsX20 ++ wsX50 ++ wsX00)
def wsX6_fits_r1 : List Cond := [Cond.fieldLink RX6 19 "EndMeters" "delays" "LEndMeters$Delays;", Cond.fieldLink RX6 10 "EndMeters" "net" "LEndMeters$Net;", Cond.fieldLink RX6 79 "EndMeters$Net" "onWays" "I", Cond.methodLink RX6 121 yX0_solve, Cond.instanceMethod yX0_solve, Cond.selects RX0 yX0_solve yX0_solve, Cond.initialized RX0, Cond.code yX0_solve cX0_solve 3 (some .boolean), Cond.fieldLink RX0 29 "EndMeters$Delays" "loaded" "I", Cond.fieldLink RX0 33 "EndMeters$Delays" "possible" "Z", Cond.fieldLink RX0 48 "EndMeters$Delays" "width" "I", Cond.fieldLink RX0 62 "EndMeters$Delays" "clash" "I", Cond.methodLink RX0 37 yX0_load, Cond.instanceMethod yX0_load, Cond.selects RX0 yX0_load yX0_load, Cond.code yX0_load cX0_load 5 none, Cond.fieldLink RX0 81 "EndMeters$Net" "lineCount" "I", Cond.fieldLink RX0 68 "EndMeters$Delays" "lineCount" "I", Cond.fieldLink RX0 74 "EndMeters$Delays" "rows" "I", Cond.fieldLink RX0 25 "EndMeters$Delays" "scale" "J", Cond.fieldLink RX0 65 "EndMeters$Delays" "barred" "I", Cond.fieldLink RX0 9 "EndMeters$Delays" "table" "[J", Cond.fieldLink RX0 96 "EndMeters$Net" "wayCount" "I", Cond.fieldLink RX0 99 "EndMeters$Net" "waySet" "[I"]
def wsX6_fits_r2 : List Cond := [Cond.fieldLink RX0 102 "EndMeters$Net" "waySum" "[I", Cond.fieldLink RX0 19 "EndMeters$Delays" "wayOfRow" "[I", Cond.methodLink RX0 84 yJ6_bitCount_0f7a4, Cond.static yJ6_bitCount_0f7a4, Cond.initialized RJ6, Cond.code yJ6_bitCount_0f7a4 cJ6_bitCount_0f7a4 1 (some .int), Cond.constant RJ6 265 (1431655765), Cond.constant RJ6 266 (858993459), Cond.constant RJ6 267 (252645135), Cond.methodLink RX0 90 yJ7_fill_d0a16, Cond.static yJ7_fill_d0a16, Cond.initialized RJ7, Cond.code yJ7_fill_d0a16 cJ7_fill_d0a16 5 none, Cond.static yX6_bitOf, Cond.initialized RX6, Cond.code yX6_bitOf cX6_bitOf 2 (some .int), Cond.methodLink RX0 105 yX0_loadRow, Cond.instanceMethod yX0_loadRow, Cond.selects RX0 yX0_loadRow yX0_loadRow, Cond.code yX0_loadRow cX0_loadRow 6 none, Cond.fieldLink RX0 15 "EndMeters$Delays" "holder" "[I", Cond.methodLink RX0 41 yX0_setGoal, Cond.instanceMethod yX0_setGoal, Cond.selects RX0 yX0_setGoal yX0_setGoal]
def wsX6_fits_r3 : List Cond := [Cond.code yX0_setGoal cX0_setGoal 5 none, Cond.fieldLink RX0 22 "EndMeters$Delays" "lineCost" "[I", Cond.fieldLink RX0 108 "EndMeters$Delays" "slackCost" "I", Cond.methodLink RX0 45 yX0_walkToLeast, Cond.instanceMethod yX0_walkToLeast, Cond.selects RX0 yX0_walkToLeast yX0_walkToLeast, Cond.code yX0_walkToLeast cX0_walkToLeast 4 none, Cond.constant RX0 111 (1000000), Cond.methodLink RX0 112 yX0_firstLineThatHelps, Cond.instanceMethod yX0_firstLineThatHelps, Cond.selects RX0 yX0_firstLineThatHelps yX0_firstLineThatHelps, Cond.code yX0_firstLineThatHelps cX0_firstLineThatHelps 2 (some .int), Cond.methodLink RX0 51 yX0_costOfColumn, Cond.instanceMethod yX0_costOfColumn, Cond.selects RX0 yX0_costOfColumn yX0_costOfColumn, Cond.code yX0_costOfColumn cX0_costOfColumn 6 (some .long), Cond.methodLink RX0 115 yX0_rowThatGivesWay, Cond.instanceMethod yX0_rowThatGivesWay, Cond.selects RX0 yX0_rowThatGivesWay yX0_rowThatGivesWay, Cond.code yX0_rowThatGivesWay cX0_rowThatGivesWay 4 (some .int), Cond.methodLink RX0 122 yX0_givesWayBefore, Cond.instanceMethod yX0_givesWayBefore, Cond.selects RX0 yX0_givesWayBefore yX0_givesWayBefore, Cond.code yX0_givesWayBefore cX0_givesWayBefore 10 (some .boolean)]
def wsX6_fits_r4 : List Cond := [Cond.methodLink RX0 118 yX0_exchange, Cond.instanceMethod yX0_exchange, Cond.selects RX0 yX0_exchange yX0_exchange, Cond.code yX0_exchange cX0_exchange 7 none, Cond.methodLink RX0 126 yX0_turnSigns, Cond.instanceMethod yX0_turnSigns, Cond.selects RX0 yX0_turnSigns yX0_turnSigns, Cond.code yX0_turnSigns cX0_turnSigns 3 none, Cond.methodLink RX0 130 yX0_clearColumn, Cond.instanceMethod yX0_clearColumn, Cond.selects RX0 yX0_clearColumn yX0_clearColumn, Cond.code yX0_clearColumn cX0_clearColumn 11 none, Cond.methodLink RX0 55 yX0_dropSlacks, Cond.instanceMethod yX0_dropSlacks, Cond.selects RX0 yX0_dropSlacks yX0_dropSlacks, Cond.code yX0_dropSlacks cX0_dropSlacks 3 none, Cond.methodLink RX0 58 yX0_waysThatClash, Cond.instanceMethod yX0_waysThatClash, Cond.selects RX0 yX0_waysThatClash yX0_waysThatClash, Cond.code yX0_waysThatClash cX0_waysThatClash 3 (some .int)]
def wsX6_fits : List Cond := .code yX6_fits cX6_fits 1 (some .int) :: ((wsX6_fits_r1 ++ (wsX6_fits_r2 ++ (wsX6_fits_r3 ++ wsX6_fits_r4))) ++ wsX60 ++ wsX20 ++ wsX00)
def wsX6_isZeroOrOne : List Cond := .code yX6_isZeroOrOne cX6_isZeroOrOne 1 (some .boolean) :: ([])
def wsX6_greatestDivisor : List Cond := .code yX6_greatestDivisor cX6_greatestDivisor 11 (some .long) :: ([])
def wsX6_partOfFraction : List Cond := .code yX6_partOfFraction cX6_partOfFraction 9 (some .long) :: ([.methodLink RX6 206 yX6_greatestDivisor, .static yX6_greatestDivisor, .initialized RX6, .code yX6_greatestDivisor cX6_greatestDivisor 11 (some .long)])
def wsX6_bound_r1 : List Cond := [Cond.fieldLink RX6 10 "EndMeters" "net" "LEndMeters$Net;", Cond.constantLong RX6 131 (-102), Cond.fieldLink RX6 19 "EndMeters" "delays" "LEndMeters$Delays;", Cond.fieldLink RX6 79 "EndMeters$Net" "onWays" "I", Cond.constantLong RX6 133 (-103), Cond.constantLong RX6 139 (-105), Cond.fieldLink RX6 149 "EndMeters$Delays" "scale" "J", Cond.methodLink RX6 125 yX2_isLineSet, Cond.instanceMethod yX2_isLineSet, Cond.selects RX2 yX2_isLineSet yX2_isLineSet, Cond.initialized RX2, Cond.code yX2_isLineSet cX2_isLineSet 2 (some .boolean), Cond.fieldLink RX2 21 "EndMeters$Net" "lineCount" "I", Cond.methodLink RX6 128 yX6_isZeroOrOne, Cond.static yX6_isZeroOrOne, Cond.initialized RX6, Cond.code yX6_isZeroOrOne cX6_isZeroOrOne 1 (some .boolean), Cond.methodLink RX6 121 yX0_solve, Cond.instanceMethod yX0_solve, Cond.selects RX0 yX0_solve yX0_solve, Cond.initialized RX0, Cond.code yX0_solve cX0_solve 3 (some .boolean), Cond.fieldLink RX0 29 "EndMeters$Delays" "loaded" "I", Cond.fieldLink RX0 33 "EndMeters$Delays" "possible" "Z"]
def wsX6_bound_r2 : List Cond := [Cond.fieldLink RX0 48 "EndMeters$Delays" "width" "I", Cond.fieldLink RX0 62 "EndMeters$Delays" "clash" "I", Cond.methodLink RX0 37 yX0_load, Cond.instanceMethod yX0_load, Cond.selects RX0 yX0_load yX0_load, Cond.code yX0_load cX0_load 5 none, Cond.fieldLink RX0 81 "EndMeters$Net" "lineCount" "I", Cond.fieldLink RX0 68 "EndMeters$Delays" "lineCount" "I", Cond.fieldLink RX0 74 "EndMeters$Delays" "rows" "I", Cond.fieldLink RX0 25 "EndMeters$Delays" "scale" "J", Cond.fieldLink RX0 65 "EndMeters$Delays" "barred" "I", Cond.fieldLink RX0 9 "EndMeters$Delays" "table" "[J", Cond.fieldLink RX0 96 "EndMeters$Net" "wayCount" "I", Cond.fieldLink RX0 99 "EndMeters$Net" "waySet" "[I", Cond.fieldLink RX0 102 "EndMeters$Net" "waySum" "[I", Cond.fieldLink RX0 19 "EndMeters$Delays" "wayOfRow" "[I", Cond.methodLink RX0 84 yJ6_bitCount_0f7a4, Cond.static yJ6_bitCount_0f7a4, Cond.initialized RJ6, Cond.code yJ6_bitCount_0f7a4 cJ6_bitCount_0f7a4 1 (some .int), Cond.constant RJ6 265 (1431655765), Cond.constant RJ6 266 (858993459), Cond.constant RJ6 267 (252645135), Cond.methodLink RX0 90 yJ7_fill_d0a16]
def wsX6_bound_r3 : List Cond := [Cond.static yJ7_fill_d0a16, Cond.initialized RJ7, Cond.code yJ7_fill_d0a16 cJ7_fill_d0a16 5 none, Cond.static yX6_bitOf, Cond.code yX6_bitOf cX6_bitOf 2 (some .int), Cond.methodLink RX0 105 yX0_loadRow, Cond.instanceMethod yX0_loadRow, Cond.selects RX0 yX0_loadRow yX0_loadRow, Cond.code yX0_loadRow cX0_loadRow 6 none, Cond.fieldLink RX0 15 "EndMeters$Delays" "holder" "[I", Cond.methodLink RX0 41 yX0_setGoal, Cond.instanceMethod yX0_setGoal, Cond.selects RX0 yX0_setGoal yX0_setGoal, Cond.code yX0_setGoal cX0_setGoal 5 none, Cond.fieldLink RX0 22 "EndMeters$Delays" "lineCost" "[I", Cond.fieldLink RX0 108 "EndMeters$Delays" "slackCost" "I", Cond.methodLink RX0 45 yX0_walkToLeast, Cond.instanceMethod yX0_walkToLeast, Cond.selects RX0 yX0_walkToLeast yX0_walkToLeast, Cond.code yX0_walkToLeast cX0_walkToLeast 4 none, Cond.constant RX0 111 (1000000), Cond.methodLink RX0 112 yX0_firstLineThatHelps, Cond.instanceMethod yX0_firstLineThatHelps, Cond.selects RX0 yX0_firstLineThatHelps yX0_firstLineThatHelps]
def wsX6_bound_r4 : List Cond := [Cond.code yX0_firstLineThatHelps cX0_firstLineThatHelps 2 (some .int), Cond.methodLink RX0 51 yX0_costOfColumn, Cond.instanceMethod yX0_costOfColumn, Cond.selects RX0 yX0_costOfColumn yX0_costOfColumn, Cond.code yX0_costOfColumn cX0_costOfColumn 6 (some .long), Cond.methodLink RX0 115 yX0_rowThatGivesWay, Cond.instanceMethod yX0_rowThatGivesWay, Cond.selects RX0 yX0_rowThatGivesWay yX0_rowThatGivesWay, Cond.code yX0_rowThatGivesWay cX0_rowThatGivesWay 4 (some .int), Cond.methodLink RX0 122 yX0_givesWayBefore, Cond.instanceMethod yX0_givesWayBefore, Cond.selects RX0 yX0_givesWayBefore yX0_givesWayBefore, Cond.code yX0_givesWayBefore cX0_givesWayBefore 10 (some .boolean), Cond.methodLink RX0 118 yX0_exchange, Cond.instanceMethod yX0_exchange, Cond.selects RX0 yX0_exchange yX0_exchange, Cond.code yX0_exchange cX0_exchange 7 none, Cond.methodLink RX0 126 yX0_turnSigns, Cond.instanceMethod yX0_turnSigns, Cond.selects RX0 yX0_turnSigns yX0_turnSigns, Cond.code yX0_turnSigns cX0_turnSigns 3 none, Cond.methodLink RX0 130 yX0_clearColumn, Cond.instanceMethod yX0_clearColumn, Cond.selects RX0 yX0_clearColumn yX0_clearColumn]
def wsX6_bound_r5 : List Cond := [Cond.code yX0_clearColumn cX0_clearColumn 11 none, Cond.methodLink RX0 55 yX0_dropSlacks, Cond.instanceMethod yX0_dropSlacks, Cond.selects RX0 yX0_dropSlacks yX0_dropSlacks, Cond.code yX0_dropSlacks cX0_dropSlacks 3 none, Cond.methodLink RX0 58 yX0_waysThatClash, Cond.instanceMethod yX0_waysThatClash, Cond.selects RX0 yX0_waysThatClash yX0_waysThatClash, Cond.code yX0_waysThatClash cX0_waysThatClash 3 (some .int), Cond.methodLink RX6 135 yX6_isEndless, Cond.instanceMethod yX6_isEndless, Cond.selects RX6 yX6_isEndless yX6_isEndless, Cond.code yX6_isEndless cX6_isEndless 3 (some .boolean), Cond.methodLink RX6 105 yX2_seenLines, Cond.instanceMethod yX2_seenLines, Cond.selects RX2 yX2_seenLines yX2_seenLines, Cond.code yX2_seenLines cX2_seenLines 3 (some .int), Cond.fieldLink RX2 25 "EndMeters$Net" "wayCount" "I", Cond.fieldLink RX2 9 "EndMeters$Net" "waySet" "[I", Cond.methodLink RX2 49 yX2_isOn, Cond.instanceMethod yX2_isOn, Cond.selects RX2 yX2_isOn yX2_isOn, Cond.code yX2_isOn cX2_isOn 2 (some .boolean), Cond.fieldLink RX2 31 "EndMeters$Net" "onWays" "I"]
def wsX6_bound_r6 : List Cond := [Cond.methodLink RX6 141 yX0_goToEnd, Cond.instanceMethod yX0_goToEnd, Cond.selects RX0 yX0_goToEnd yX0_goToEnd, Cond.code yX0_goToEnd cX0_goToEnd 3 none, Cond.methodLink RX6 145 yX0_upperOf, Cond.instanceMethod yX0_upperOf, Cond.selects RX0 yX0_upperOf yX0_upperOf, Cond.code yX0_upperOf cX0_upperOf 5 (some .long), Cond.methodLink RX6 153 yX6_partOfFraction, Cond.static yX6_partOfFraction, Cond.code yX6_partOfFraction cX6_partOfFraction 9 (some .long), Cond.methodLink RX6 206 yX6_greatestDivisor, Cond.static yX6_greatestDivisor, Cond.code yX6_greatestDivisor cX6_greatestDivisor 11 (some .long)]
def wsX6_bound : List Cond := .code yX6_bound cX6_bound 4 (some .long) :: ((wsX6_bound_r1 ++ (wsX6_bound_r2 ++ (wsX6_bound_r3 ++ (wsX6_bound_r4 ++ (wsX6_bound_r5 ++ wsX6_bound_r6))))) ++ wsX60 ++ wsX20 ++ wsX00)
def wsX6_shown_r1 : List Cond := [Cond.fieldLink RX6 10 "EndMeters" "net" "LEndMeters$Net;", Cond.constantLong RX6 160 (-101), Cond.constantLong RX6 131 (-102), Cond.fieldLink RX6 19 "EndMeters" "delays" "LEndMeters$Delays;", Cond.fieldLink RX6 79 "EndMeters$Net" "onWays" "I", Cond.constantLong RX6 133 (-103), Cond.constantLong RX6 139 (-105), Cond.fieldLink RX6 149 "EndMeters$Delays" "scale" "J", Cond.methodLink RX6 157 yX2_hasLine, Cond.instanceMethod yX2_hasLine, Cond.selects RX2 yX2_hasLine yX2_hasLine, Cond.initialized RX2, Cond.code yX2_hasLine cX2_hasLine 2 (some .boolean), Cond.fieldLink RX2 21 "EndMeters$Net" "lineCount" "I", Cond.methodLink RX6 125 yX2_isLineSet, Cond.instanceMethod yX2_isLineSet, Cond.selects RX2 yX2_isLineSet yX2_isLineSet, Cond.code yX2_isLineSet cX2_isLineSet 2 (some .boolean), Cond.methodLink RX6 128 yX6_isZeroOrOne, Cond.static yX6_isZeroOrOne, Cond.initialized RX6, Cond.code yX6_isZeroOrOne cX6_isZeroOrOne 1 (some .boolean), Cond.methodLink RX6 121 yX0_solve, Cond.instanceMethod yX0_solve]
def wsX6_shown_r2 : List Cond := [Cond.selects RX0 yX0_solve yX0_solve, Cond.initialized RX0, Cond.code yX0_solve cX0_solve 3 (some .boolean), Cond.fieldLink RX0 29 "EndMeters$Delays" "loaded" "I", Cond.fieldLink RX0 33 "EndMeters$Delays" "possible" "Z", Cond.fieldLink RX0 48 "EndMeters$Delays" "width" "I", Cond.fieldLink RX0 62 "EndMeters$Delays" "clash" "I", Cond.methodLink RX0 37 yX0_load, Cond.instanceMethod yX0_load, Cond.selects RX0 yX0_load yX0_load, Cond.code yX0_load cX0_load 5 none, Cond.fieldLink RX0 81 "EndMeters$Net" "lineCount" "I", Cond.fieldLink RX0 68 "EndMeters$Delays" "lineCount" "I", Cond.fieldLink RX0 74 "EndMeters$Delays" "rows" "I", Cond.fieldLink RX0 25 "EndMeters$Delays" "scale" "J", Cond.fieldLink RX0 65 "EndMeters$Delays" "barred" "I", Cond.fieldLink RX0 9 "EndMeters$Delays" "table" "[J", Cond.fieldLink RX0 96 "EndMeters$Net" "wayCount" "I", Cond.fieldLink RX0 99 "EndMeters$Net" "waySet" "[I", Cond.fieldLink RX0 102 "EndMeters$Net" "waySum" "[I", Cond.fieldLink RX0 19 "EndMeters$Delays" "wayOfRow" "[I", Cond.methodLink RX0 84 yJ6_bitCount_0f7a4, Cond.static yJ6_bitCount_0f7a4, Cond.initialized RJ6]
def wsX6_shown_r3 : List Cond := [Cond.code yJ6_bitCount_0f7a4 cJ6_bitCount_0f7a4 1 (some .int), Cond.constant RJ6 265 (1431655765), Cond.constant RJ6 266 (858993459), Cond.constant RJ6 267 (252645135), Cond.methodLink RX0 90 yJ7_fill_d0a16, Cond.static yJ7_fill_d0a16, Cond.initialized RJ7, Cond.code yJ7_fill_d0a16 cJ7_fill_d0a16 5 none, Cond.static yX6_bitOf, Cond.code yX6_bitOf cX6_bitOf 2 (some .int), Cond.methodLink RX0 105 yX0_loadRow, Cond.instanceMethod yX0_loadRow, Cond.selects RX0 yX0_loadRow yX0_loadRow, Cond.code yX0_loadRow cX0_loadRow 6 none, Cond.fieldLink RX0 15 "EndMeters$Delays" "holder" "[I", Cond.methodLink RX0 41 yX0_setGoal, Cond.instanceMethod yX0_setGoal, Cond.selects RX0 yX0_setGoal yX0_setGoal, Cond.code yX0_setGoal cX0_setGoal 5 none, Cond.fieldLink RX0 22 "EndMeters$Delays" "lineCost" "[I", Cond.fieldLink RX0 108 "EndMeters$Delays" "slackCost" "I", Cond.methodLink RX0 45 yX0_walkToLeast, Cond.instanceMethod yX0_walkToLeast, Cond.selects RX0 yX0_walkToLeast yX0_walkToLeast]
def wsX6_shown_r4 : List Cond := [Cond.code yX0_walkToLeast cX0_walkToLeast 4 none, Cond.constant RX0 111 (1000000), Cond.methodLink RX0 112 yX0_firstLineThatHelps, Cond.instanceMethod yX0_firstLineThatHelps, Cond.selects RX0 yX0_firstLineThatHelps yX0_firstLineThatHelps, Cond.code yX0_firstLineThatHelps cX0_firstLineThatHelps 2 (some .int), Cond.methodLink RX0 51 yX0_costOfColumn, Cond.instanceMethod yX0_costOfColumn, Cond.selects RX0 yX0_costOfColumn yX0_costOfColumn, Cond.code yX0_costOfColumn cX0_costOfColumn 6 (some .long), Cond.methodLink RX0 115 yX0_rowThatGivesWay, Cond.instanceMethod yX0_rowThatGivesWay, Cond.selects RX0 yX0_rowThatGivesWay yX0_rowThatGivesWay, Cond.code yX0_rowThatGivesWay cX0_rowThatGivesWay 4 (some .int), Cond.methodLink RX0 122 yX0_givesWayBefore, Cond.instanceMethod yX0_givesWayBefore, Cond.selects RX0 yX0_givesWayBefore yX0_givesWayBefore, Cond.code yX0_givesWayBefore cX0_givesWayBefore 10 (some .boolean), Cond.methodLink RX0 118 yX0_exchange, Cond.instanceMethod yX0_exchange, Cond.selects RX0 yX0_exchange yX0_exchange, Cond.code yX0_exchange cX0_exchange 7 none, Cond.methodLink RX0 126 yX0_turnSigns, Cond.instanceMethod yX0_turnSigns]
def wsX6_shown_r5 : List Cond := [Cond.selects RX0 yX0_turnSigns yX0_turnSigns, Cond.code yX0_turnSigns cX0_turnSigns 3 none, Cond.methodLink RX0 130 yX0_clearColumn, Cond.instanceMethod yX0_clearColumn, Cond.selects RX0 yX0_clearColumn yX0_clearColumn, Cond.code yX0_clearColumn cX0_clearColumn 11 none, Cond.methodLink RX0 55 yX0_dropSlacks, Cond.instanceMethod yX0_dropSlacks, Cond.selects RX0 yX0_dropSlacks yX0_dropSlacks, Cond.code yX0_dropSlacks cX0_dropSlacks 3 none, Cond.methodLink RX0 58 yX0_waysThatClash, Cond.instanceMethod yX0_waysThatClash, Cond.selects RX0 yX0_waysThatClash yX0_waysThatClash, Cond.code yX0_waysThatClash cX0_waysThatClash 3 (some .int), Cond.methodLink RX6 135 yX6_isEndless, Cond.instanceMethod yX6_isEndless, Cond.selects RX6 yX6_isEndless yX6_isEndless, Cond.code yX6_isEndless cX6_isEndless 3 (some .boolean), Cond.methodLink RX6 105 yX2_seenLines, Cond.instanceMethod yX2_seenLines, Cond.selects RX2 yX2_seenLines yX2_seenLines, Cond.code yX2_seenLines cX2_seenLines 3 (some .int), Cond.fieldLink RX2 25 "EndMeters$Net" "wayCount" "I", Cond.fieldLink RX2 9 "EndMeters$Net" "waySet" "[I"]
def wsX6_shown_r6 : List Cond := [Cond.methodLink RX2 49 yX2_isOn, Cond.instanceMethod yX2_isOn, Cond.selects RX2 yX2_isOn yX2_isOn, Cond.code yX2_isOn cX2_isOn 2 (some .boolean), Cond.fieldLink RX2 31 "EndMeters$Net" "onWays" "I", Cond.methodLink RX6 141 yX0_goToEnd, Cond.instanceMethod yX0_goToEnd, Cond.selects RX0 yX0_goToEnd yX0_goToEnd, Cond.code yX0_goToEnd cX0_goToEnd 3 none, Cond.methodLink RX6 162 yX0_leastInTurnUpTo, Cond.instanceMethod yX0_leastInTurnUpTo, Cond.selects RX0 yX0_leastInTurnUpTo yX0_leastInTurnUpTo, Cond.code yX0_leastInTurnUpTo cX0_leastInTurnUpTo 3 none, Cond.methodLink RX0 71 yX0_barWhatCosts, Cond.instanceMethod yX0_barWhatCosts, Cond.selects RX0 yX0_barWhatCosts yX0_barWhatCosts, Cond.code yX0_barWhatCosts cX0_barWhatCosts 2 none, Cond.methodLink RX6 145 yX0_upperOf, Cond.instanceMethod yX0_upperOf, Cond.selects RX0 yX0_upperOf yX0_upperOf, Cond.code yX0_upperOf cX0_upperOf 5 (some .long), Cond.methodLink RX6 153 yX6_partOfFraction, Cond.static yX6_partOfFraction, Cond.code yX6_partOfFraction cX6_partOfFraction 9 (some .long)]
def wsX6_shown_r7 : List Cond := [Cond.methodLink RX6 206 yX6_greatestDivisor, Cond.static yX6_greatestDivisor, Cond.code yX6_greatestDivisor cX6_greatestDivisor 11 (some .long)]
def wsX6_shown : List Cond := .code yX6_shown cX6_shown 5 (some .long) :: ((wsX6_shown_r1 ++ (wsX6_shown_r2 ++ (wsX6_shown_r3 ++ (wsX6_shown_r4 ++ (wsX6_shown_r5 ++ (wsX6_shown_r6 ++ wsX6_shown_r7)))))) ++ wsX60 ++ wsX20 ++ wsX00)
def wsX6_settled_r1 : List Cond := [Cond.fieldLink RX6 10 "EndMeters" "net" "LEndMeters$Net;", Cond.fieldLink RX6 19 "EndMeters" "delays" "LEndMeters$Delays;", Cond.fieldLink RX6 79 "EndMeters$Net" "onWays" "I", Cond.methodLink RX6 157 yX2_hasLine, Cond.instanceMethod yX2_hasLine, Cond.selects RX2 yX2_hasLine yX2_hasLine, Cond.initialized RX2, Cond.code yX2_hasLine cX2_hasLine 2 (some .boolean), Cond.fieldLink RX2 21 "EndMeters$Net" "lineCount" "I", Cond.methodLink RX6 121 yX0_solve, Cond.instanceMethod yX0_solve, Cond.selects RX0 yX0_solve yX0_solve, Cond.initialized RX0, Cond.code yX0_solve cX0_solve 3 (some .boolean), Cond.fieldLink RX0 29 "EndMeters$Delays" "loaded" "I", Cond.fieldLink RX0 33 "EndMeters$Delays" "possible" "Z", Cond.fieldLink RX0 48 "EndMeters$Delays" "width" "I", Cond.fieldLink RX0 62 "EndMeters$Delays" "clash" "I", Cond.methodLink RX0 37 yX0_load, Cond.instanceMethod yX0_load, Cond.selects RX0 yX0_load yX0_load, Cond.code yX0_load cX0_load 5 none, Cond.fieldLink RX0 81 "EndMeters$Net" "lineCount" "I", Cond.fieldLink RX0 68 "EndMeters$Delays" "lineCount" "I"]
def wsX6_settled_r2 : List Cond := [Cond.fieldLink RX0 74 "EndMeters$Delays" "rows" "I", Cond.fieldLink RX0 25 "EndMeters$Delays" "scale" "J", Cond.fieldLink RX0 65 "EndMeters$Delays" "barred" "I", Cond.fieldLink RX0 9 "EndMeters$Delays" "table" "[J", Cond.fieldLink RX0 96 "EndMeters$Net" "wayCount" "I", Cond.fieldLink RX0 99 "EndMeters$Net" "waySet" "[I", Cond.fieldLink RX0 102 "EndMeters$Net" "waySum" "[I", Cond.fieldLink RX0 19 "EndMeters$Delays" "wayOfRow" "[I", Cond.methodLink RX0 84 yJ6_bitCount_0f7a4, Cond.static yJ6_bitCount_0f7a4, Cond.initialized RJ6, Cond.code yJ6_bitCount_0f7a4 cJ6_bitCount_0f7a4 1 (some .int), Cond.constant RJ6 265 (1431655765), Cond.constant RJ6 266 (858993459), Cond.constant RJ6 267 (252645135), Cond.methodLink RX0 90 yJ7_fill_d0a16, Cond.static yJ7_fill_d0a16, Cond.initialized RJ7, Cond.code yJ7_fill_d0a16 cJ7_fill_d0a16 5 none, Cond.static yX6_bitOf, Cond.initialized RX6, Cond.code yX6_bitOf cX6_bitOf 2 (some .int), Cond.methodLink RX0 105 yX0_loadRow, Cond.instanceMethod yX0_loadRow]
def wsX6_settled_r3 : List Cond := [Cond.selects RX0 yX0_loadRow yX0_loadRow, Cond.code yX0_loadRow cX0_loadRow 6 none, Cond.fieldLink RX0 15 "EndMeters$Delays" "holder" "[I", Cond.methodLink RX0 41 yX0_setGoal, Cond.instanceMethod yX0_setGoal, Cond.selects RX0 yX0_setGoal yX0_setGoal, Cond.code yX0_setGoal cX0_setGoal 5 none, Cond.fieldLink RX0 22 "EndMeters$Delays" "lineCost" "[I", Cond.fieldLink RX0 108 "EndMeters$Delays" "slackCost" "I", Cond.methodLink RX0 45 yX0_walkToLeast, Cond.instanceMethod yX0_walkToLeast, Cond.selects RX0 yX0_walkToLeast yX0_walkToLeast, Cond.code yX0_walkToLeast cX0_walkToLeast 4 none, Cond.constant RX0 111 (1000000), Cond.methodLink RX0 112 yX0_firstLineThatHelps, Cond.instanceMethod yX0_firstLineThatHelps, Cond.selects RX0 yX0_firstLineThatHelps yX0_firstLineThatHelps, Cond.code yX0_firstLineThatHelps cX0_firstLineThatHelps 2 (some .int), Cond.methodLink RX0 51 yX0_costOfColumn, Cond.instanceMethod yX0_costOfColumn, Cond.selects RX0 yX0_costOfColumn yX0_costOfColumn, Cond.code yX0_costOfColumn cX0_costOfColumn 6 (some .long), Cond.methodLink RX0 115 yX0_rowThatGivesWay, Cond.instanceMethod yX0_rowThatGivesWay]
def wsX6_settled_r4 : List Cond := [Cond.selects RX0 yX0_rowThatGivesWay yX0_rowThatGivesWay, Cond.code yX0_rowThatGivesWay cX0_rowThatGivesWay 4 (some .int), Cond.methodLink RX0 122 yX0_givesWayBefore, Cond.instanceMethod yX0_givesWayBefore, Cond.selects RX0 yX0_givesWayBefore yX0_givesWayBefore, Cond.code yX0_givesWayBefore cX0_givesWayBefore 10 (some .boolean), Cond.methodLink RX0 118 yX0_exchange, Cond.instanceMethod yX0_exchange, Cond.selects RX0 yX0_exchange yX0_exchange, Cond.code yX0_exchange cX0_exchange 7 none, Cond.methodLink RX0 126 yX0_turnSigns, Cond.instanceMethod yX0_turnSigns, Cond.selects RX0 yX0_turnSigns yX0_turnSigns, Cond.code yX0_turnSigns cX0_turnSigns 3 none, Cond.methodLink RX0 130 yX0_clearColumn, Cond.instanceMethod yX0_clearColumn, Cond.selects RX0 yX0_clearColumn yX0_clearColumn, Cond.code yX0_clearColumn cX0_clearColumn 11 none, Cond.methodLink RX0 55 yX0_dropSlacks, Cond.instanceMethod yX0_dropSlacks, Cond.selects RX0 yX0_dropSlacks yX0_dropSlacks, Cond.code yX0_dropSlacks cX0_dropSlacks 3 none, Cond.methodLink RX0 58 yX0_waysThatClash, Cond.instanceMethod yX0_waysThatClash]
def wsX6_settled_r5 : List Cond := [Cond.selects RX0 yX0_waysThatClash yX0_waysThatClash, Cond.code yX0_waysThatClash cX0_waysThatClash 3 (some .int), Cond.methodLink RX6 165 yX6_isSettledLine, Cond.instanceMethod yX6_isSettledLine, Cond.selects RX6 yX6_isSettledLine yX6_isSettledLine, Cond.code yX6_isSettledLine cX6_isSettledLine 7 (some .boolean), Cond.fieldLink RX6 149 "EndMeters$Delays" "scale" "J", Cond.methodLink RX6 135 yX6_isEndless, Cond.instanceMethod yX6_isEndless, Cond.selects RX6 yX6_isEndless yX6_isEndless, Cond.code yX6_isEndless cX6_isEndless 3 (some .boolean), Cond.methodLink RX6 105 yX2_seenLines, Cond.instanceMethod yX2_seenLines, Cond.selects RX2 yX2_seenLines yX2_seenLines, Cond.code yX2_seenLines cX2_seenLines 3 (some .int), Cond.fieldLink RX2 25 "EndMeters$Net" "wayCount" "I", Cond.fieldLink RX2 9 "EndMeters$Net" "waySet" "[I", Cond.methodLink RX2 49 yX2_isOn, Cond.instanceMethod yX2_isOn, Cond.selects RX2 yX2_isOn yX2_isOn, Cond.code yX2_isOn cX2_isOn 2 (some .boolean), Cond.fieldLink RX2 31 "EndMeters$Net" "onWays" "I", Cond.methodLink RX6 141 yX0_goToEnd, Cond.instanceMethod yX0_goToEnd]
def wsX6_settled_r6 : List Cond := [Cond.selects RX0 yX0_goToEnd yX0_goToEnd, Cond.code yX0_goToEnd cX0_goToEnd 3 none, Cond.methodLink RX6 145 yX0_upperOf, Cond.instanceMethod yX0_upperOf, Cond.selects RX0 yX0_upperOf yX0_upperOf, Cond.code yX0_upperOf cX0_upperOf 5 (some .long)]
def wsX6_settled : List Cond := .code yX6_settled cX6_settled 2 (some .int) :: ((wsX6_settled_r1 ++ (wsX6_settled_r2 ++ (wsX6_settled_r3 ++ (wsX6_settled_r4 ++ (wsX6_settled_r5 ++ wsX6_settled_r6))))) ++ wsX60 ++ wsX20 ++ wsX00)
def wsX6_known_r1 : List Cond := [Cond.fieldLink RX6 10 "EndMeters" "net" "LEndMeters$Net;", Cond.fieldLink RX6 33 "EndMeters" "spans" "LEndMeters$Spans;", Cond.methodLink RX6 157 yX2_hasLine, Cond.instanceMethod yX2_hasLine, Cond.selects RX2 yX2_hasLine yX2_hasLine, Cond.initialized RX2, Cond.code yX2_hasLine cX2_hasLine 2 (some .boolean), Cond.fieldLink RX2 21 "EndMeters$Net" "lineCount" "I", Cond.methodLink RX6 112 yX5_linesFromWays, Cond.instanceMethod yX5_linesFromWays, Cond.selects RX5 yX5_linesFromWays yX5_linesFromWays, Cond.initialized RX5, Cond.code yX5_linesFromWays cX5_linesFromWays 4 (some .int), Cond.fieldLink RX5 29 "EndMeters$Spans" "lineCount" "I", Cond.methodLink RX5 21 yX5_takeWays, Cond.instanceMethod yX5_takeWays, Cond.selects RX5 yX5_takeWays yX5_takeWays, Cond.code yX5_takeWays cX5_takeWays 4 none, Cond.fieldLink RX5 25 "EndMeters$Spans" "rank" "I", Cond.fieldLink RX5 18 "EndMeters$Spans" "headAt" "[I", Cond.fieldLink RX5 63 "EndMeters$Net" "wayCount" "I", Cond.methodLink RX5 60 yX5_load, Cond.instanceMethod yX5_load, Cond.selects RX5 yX5_load yX5_load]
def wsX6_known_r2 : List Cond := [Cond.code yX5_load cX5_load 4 none, Cond.fieldLink RX5 70 "EndMeters$Net" "lineCount" "I", Cond.fieldLink RX5 74 "EndMeters$Net" "waySet" "[I", Cond.fieldLink RX5 39 "EndMeters$Net" "offerCount" "I", Cond.fieldLink RX5 80 "EndMeters$Net" "offerSet" "[I", Cond.methodLink RX5 71 yX2_isOn, Cond.instanceMethod yX2_isOn, Cond.selects RX2 yX2_isOn yX2_isOn, Cond.code yX2_isOn cX2_isOn 2 (some .boolean), Cond.fieldLink RX2 31 "EndMeters$Net" "onWays" "I", Cond.static yX6_bitOf, Cond.initialized RX6, Cond.code yX6_bitOf cX6_bitOf 2 (some .int), Cond.methodLink RX5 77 yX5_loadRow, Cond.instanceMethod yX5_loadRow, Cond.selects RX5 yX5_loadRow yX5_loadRow, Cond.code yX5_loadRow cX5_loadRow 5 none, Cond.fieldLink RX5 11 "EndMeters$Spans" "cells" "[I", Cond.methodLink RX5 83 yX5_startOf, Cond.static yX5_startOf, Cond.code yX5_startOf cX5_startOf 2 (some .int), Cond.methodLink RX5 32 yX5_firstFilledColumn, Cond.instanceMethod yX5_firstFilledColumn, Cond.selects RX5 yX5_firstFilledColumn yX5_firstFilledColumn]
def wsX6_known_r3 : List Cond := [Cond.code yX5_firstFilledColumn cX5_firstFilledColumn 5 (some .int), Cond.methodLink RX5 66 yX5_takeWay, Cond.instanceMethod yX5_takeWay, Cond.selects RX5 yX5_takeWay yX5_takeWay, Cond.code yX5_takeWay cX5_takeWay 5 none, Cond.methodLink RX5 89 yX5_clearColumn, Cond.instanceMethod yX5_clearColumn, Cond.selects RX5 yX5_clearColumn yX5_clearColumn, Cond.code yX5_clearColumn cX5_clearColumn 10 none, Cond.methodLink RX6 82 yX6_bitOf]
def wsX6_known : List Cond := .code yX6_known cX6_known 2 (some .int) :: ((wsX6_known_r1 ++ (wsX6_known_r2 ++ wsX6_known_r3)) ++ wsX60 ++ wsX20 ++ wsX50)
def wsX6_group : List Cond := .code yX6_group cX6_group 2 (some .int) :: ([.fieldLink RX6 10 "EndMeters" "net" "LEndMeters$Net;", .methodLink RX6 157 yX2_hasLine, .instanceMethod yX2_hasLine, .selects RX2 yX2_hasLine yX2_hasLine, .initialized RX2, .code yX2_hasLine cX2_hasLine 2 (some .boolean), .fieldLink RX2 21 "EndMeters$Net" "lineCount" "I", .methodLink RX6 168 yX2_linesAlike, .instanceMethod yX2_linesAlike, .selects RX2 yX2_linesAlike yX2_linesAlike, .code yX2_linesAlike cX2_linesAlike 4 (some .int), .fieldLink RX2 25 "EndMeters$Net" "wayCount" "I", .fieldLink RX2 9 "EndMeters$Net" "waySet" "[I", .methodLink RX2 49 yX2_isOn, .instanceMethod yX2_isOn, .selects RX2 yX2_isOn yX2_isOn, .code yX2_isOn cX2_isOn 2 (some .boolean), .fieldLink RX2 31 "EndMeters$Net" "onWays" "I", .static yX6_bitOf, .initialized RX6, .code yX6_bitOf cX6_bitOf 2 (some .int)] ++ wsX60 ++ wsX20)
def wsX6_lying_r1 : List Cond := [Cond.fieldLink RX6 26 "EndMeters" "liars" "LEndMeters$Liars;", Cond.fieldLink RX6 10 "EndMeters" "net" "LEndMeters$Net;", Cond.fieldLink RX6 19 "EndMeters" "delays" "LEndMeters$Delays;", Cond.methodLink RX6 171 yX1_leastSets, Cond.instanceMethod yX1_leastSets, Cond.selects RX1 yX1_leastSets yX1_leastSets, Cond.initialized RX1, Cond.code yX1_leastSets cX1_leastSets 5 (some (.object "EndMeters$SetList")), Cond.fieldLink RX1 19 "EndMeters$Liars" "upToDate" "Z", Cond.fieldLink RX1 10 "EndMeters$Liars" "found" "LEndMeters$SetList;", Cond.fieldLink RX1 16 "EndMeters$Liars" "clashes" "LEndMeters$SetList;", Cond.fieldLink RX1 26 "EndMeters$Net" "onWays" "I", Cond.fieldLink RX1 38 "EndMeters$SetList" "size" "I", Cond.methodLink RX1 23 yX3_empty, Cond.instanceMethod yX3_empty, Cond.selects RX3 yX3_empty yX3_empty, Cond.initialized RX3, Cond.code yX3_empty cX3_empty 1 none, Cond.fieldLink RX3 15 "EndMeters$SetList" "size" "I", Cond.methodLink RX1 32 yJ6_bitCount_0f7a4, Cond.static yJ6_bitCount_0f7a4, Cond.initialized RJ6, Cond.code yJ6_bitCount_0f7a4 cJ6_bitCount_0f7a4 1 (some .int), Cond.constant RJ6 265 (1431655765)]
def wsX6_lying_r2 : List Cond := [Cond.constant RJ6 266 (858993459), Cond.constant RJ6 267 (252645135), Cond.methodLink RX1 41 yX1_findOfSize, Cond.instanceMethod yX1_findOfSize, Cond.selects RX1 yX1_findOfSize yX1_findOfSize, Cond.code yX1_findOfSize cX1_findOfSize 6 none, Cond.fieldLink RX1 59 "EndMeters$Delays" "clash" "I", Cond.methodLink RX1 45 yX1_breaksAllClashes, Cond.instanceMethod yX1_breaksAllClashes, Cond.selects RX1 yX1_breaksAllClashes yX1_breaksAllClashes, Cond.code yX1_breaksAllClashes cX1_breaksAllClashes 3 (some .boolean), Cond.fieldLink RX1 66 "EndMeters$SetList" "sets" "[I", Cond.methodLink RX1 49 yX0_solve, Cond.instanceMethod yX0_solve, Cond.selects RX0 yX0_solve yX0_solve, Cond.initialized RX0, Cond.code yX0_solve cX0_solve 3 (some .boolean), Cond.fieldLink RX0 29 "EndMeters$Delays" "loaded" "I", Cond.fieldLink RX0 33 "EndMeters$Delays" "possible" "Z", Cond.fieldLink RX0 48 "EndMeters$Delays" "width" "I", Cond.fieldLink RX0 62 "EndMeters$Delays" "clash" "I", Cond.methodLink RX0 37 yX0_load, Cond.instanceMethod yX0_load, Cond.selects RX0 yX0_load yX0_load]
def wsX6_lying_r3 : List Cond := [Cond.code yX0_load cX0_load 5 none, Cond.fieldLink RX0 81 "EndMeters$Net" "lineCount" "I", Cond.fieldLink RX0 68 "EndMeters$Delays" "lineCount" "I", Cond.fieldLink RX0 74 "EndMeters$Delays" "rows" "I", Cond.fieldLink RX0 25 "EndMeters$Delays" "scale" "J", Cond.fieldLink RX0 65 "EndMeters$Delays" "barred" "I", Cond.fieldLink RX0 9 "EndMeters$Delays" "table" "[J", Cond.fieldLink RX0 96 "EndMeters$Net" "wayCount" "I", Cond.fieldLink RX0 99 "EndMeters$Net" "waySet" "[I", Cond.fieldLink RX0 102 "EndMeters$Net" "waySum" "[I", Cond.fieldLink RX0 19 "EndMeters$Delays" "wayOfRow" "[I", Cond.methodLink RX0 84 yJ6_bitCount_0f7a4, Cond.methodLink RX0 90 yJ7_fill_d0a16, Cond.static yJ7_fill_d0a16, Cond.initialized RJ7, Cond.code yJ7_fill_d0a16 cJ7_fill_d0a16 5 none, Cond.static yX6_bitOf, Cond.initialized RX6, Cond.code yX6_bitOf cX6_bitOf 2 (some .int), Cond.methodLink RX0 105 yX0_loadRow, Cond.instanceMethod yX0_loadRow, Cond.selects RX0 yX0_loadRow yX0_loadRow, Cond.code yX0_loadRow cX0_loadRow 6 none, Cond.fieldLink RX0 15 "EndMeters$Delays" "holder" "[I"]
def wsX6_lying_r4 : List Cond := [Cond.methodLink RX0 41 yX0_setGoal, Cond.instanceMethod yX0_setGoal, Cond.selects RX0 yX0_setGoal yX0_setGoal, Cond.code yX0_setGoal cX0_setGoal 5 none, Cond.fieldLink RX0 22 "EndMeters$Delays" "lineCost" "[I", Cond.fieldLink RX0 108 "EndMeters$Delays" "slackCost" "I", Cond.methodLink RX0 45 yX0_walkToLeast, Cond.instanceMethod yX0_walkToLeast, Cond.selects RX0 yX0_walkToLeast yX0_walkToLeast, Cond.code yX0_walkToLeast cX0_walkToLeast 4 none, Cond.constant RX0 111 (1000000), Cond.methodLink RX0 112 yX0_firstLineThatHelps, Cond.instanceMethod yX0_firstLineThatHelps, Cond.selects RX0 yX0_firstLineThatHelps yX0_firstLineThatHelps, Cond.code yX0_firstLineThatHelps cX0_firstLineThatHelps 2 (some .int), Cond.methodLink RX0 51 yX0_costOfColumn, Cond.instanceMethod yX0_costOfColumn, Cond.selects RX0 yX0_costOfColumn yX0_costOfColumn, Cond.code yX0_costOfColumn cX0_costOfColumn 6 (some .long), Cond.methodLink RX0 115 yX0_rowThatGivesWay, Cond.instanceMethod yX0_rowThatGivesWay, Cond.selects RX0 yX0_rowThatGivesWay yX0_rowThatGivesWay, Cond.code yX0_rowThatGivesWay cX0_rowThatGivesWay 4 (some .int), Cond.methodLink RX0 122 yX0_givesWayBefore]
def wsX6_lying_r5 : List Cond := [Cond.instanceMethod yX0_givesWayBefore, Cond.selects RX0 yX0_givesWayBefore yX0_givesWayBefore, Cond.code yX0_givesWayBefore cX0_givesWayBefore 10 (some .boolean), Cond.methodLink RX0 118 yX0_exchange, Cond.instanceMethod yX0_exchange, Cond.selects RX0 yX0_exchange yX0_exchange, Cond.code yX0_exchange cX0_exchange 7 none, Cond.methodLink RX0 126 yX0_turnSigns, Cond.instanceMethod yX0_turnSigns, Cond.selects RX0 yX0_turnSigns yX0_turnSigns, Cond.code yX0_turnSigns cX0_turnSigns 3 none, Cond.methodLink RX0 130 yX0_clearColumn, Cond.instanceMethod yX0_clearColumn, Cond.selects RX0 yX0_clearColumn yX0_clearColumn, Cond.code yX0_clearColumn cX0_clearColumn 11 none, Cond.methodLink RX0 55 yX0_dropSlacks, Cond.instanceMethod yX0_dropSlacks, Cond.selects RX0 yX0_dropSlacks yX0_dropSlacks, Cond.code yX0_dropSlacks cX0_dropSlacks 3 none, Cond.methodLink RX0 58 yX0_waysThatClash, Cond.instanceMethod yX0_waysThatClash, Cond.selects RX0 yX0_waysThatClash yX0_waysThatClash, Cond.code yX0_waysThatClash cX0_waysThatClash 3 (some .int), Cond.methodLink RX1 55 yX3_add]
def wsX6_lying_r6 : List Cond := [Cond.instanceMethod yX3_add, Cond.selects RX3 yX3_add yX3_add, Cond.code yX3_add cX3_add 2 none, Cond.fieldLink RX3 11 "EndMeters$SetList" "sets" "[I", Cond.methodLink RX1 62 yX1_leastClash, Cond.static yX1_leastClash, Cond.code yX1_leastClash cX1_leastClash 6 (some .int), Cond.fieldLink RX1 70 "EndMeters$Net" "wayCount" "I", Cond.static yX6_withBit, Cond.code yX6_withBit cX6_withBit 3 (some .int), Cond.methodLink RX6 175 yX3_answer, Cond.instanceMethod yX3_answer, Cond.selects RX3 yX3_answer yX3_answer, Cond.code yX3_answer cX3_answer 2 (some .int)]
def wsX6_lying : List Cond := .code yX6_lying cX6_lying 2 (some .int) :: ((wsX6_lying_r1 ++ (wsX6_lying_r2 ++ (wsX6_lying_r3 ++ (wsX6_lying_r4 ++ (wsX6_lying_r5 ++ wsX6_lying_r6))))) ++ wsX60 ++ wsX10 ++ wsX20 ++ wsX30 ++ wsX00)
def wsX6_offer : List Cond := .code yX6_offer cX6_offer 2 (some .int) :: ([.fieldLink RX6 10 "EndMeters" "net" "LEndMeters$Net;", .fieldLink RX6 118 "EndMeters$Net" "offerCount" "I", .methodLink RX6 55 yX2_isFilledLineSet, .instanceMethod yX2_isFilledLineSet, .selects RX2 yX2_isFilledLineSet yX2_isFilledLineSet, .initialized RX2, .code yX2_isFilledLineSet cX2_isFilledLineSet 2 (some .boolean), .methodLink RX2 37 yX2_isLineSet, .instanceMethod yX2_isLineSet, .selects RX2 yX2_isLineSet yX2_isLineSet, .code yX2_isLineSet cX2_isLineSet 2 (some .boolean), .fieldLink RX2 21 "EndMeters$Net" "lineCount" "I", .methodLink RX6 180 yX2_addOffer, .instanceMethod yX2_addOffer, .selects RX2 yX2_addOffer yX2_addOffer, .code yX2_addOffer cX2_addOffer 3 (some .int), .fieldLink RX2 28 "EndMeters$Net" "offerCount" "I", .fieldLink RX2 18 "EndMeters$Net" "offerSet" "[I"] ++ wsX60 ++ wsX20)
def wsX6_offered : List Cond := .code yX6_offered cX6_offered 4 (some .int) :: ([.fieldLink RX6 10 "EndMeters" "net" "LEndMeters$Net;", .fieldLink RX6 186 "EndMeters$Net" "offerSet" "[I", .methodLink RX6 183 yX2_hasOffer, .instanceMethod yX2_hasOffer, .selects RX2 yX2_hasOffer yX2_hasOffer, .initialized RX2, .code yX2_hasOffer cX2_hasOffer 2 (some .boolean), .fieldLink RX2 28 "EndMeters$Net" "offerCount" "I", .methodLink RX6 55 yX2_isFilledLineSet, .instanceMethod yX2_isFilledLineSet, .selects RX2 yX2_isFilledLineSet yX2_isFilledLineSet, .code yX2_isFilledLineSet cX2_isFilledLineSet 2 (some .boolean), .methodLink RX2 37 yX2_isLineSet, .instanceMethod yX2_isLineSet, .selects RX2 yX2_isLineSet yX2_isLineSet, .code yX2_isLineSet cX2_isLineSet 2 (some .boolean), .fieldLink RX2 21 "EndMeters$Net" "lineCount" "I"] ++ wsX60 ++ wsX20)
def wsX6_advice_r1 : List Cond := [Cond.fieldLink RX6 10 "EndMeters" "net" "LEndMeters$Net;", Cond.fieldLink RX6 33 "EndMeters" "spans" "LEndMeters$Spans;", Cond.methodLink RX6 125 yX2_isLineSet, Cond.instanceMethod yX2_isLineSet, Cond.selects RX2 yX2_isLineSet yX2_isLineSet, Cond.initialized RX2, Cond.code yX2_isLineSet cX2_isLineSet 2 (some .boolean), Cond.fieldLink RX2 21 "EndMeters$Net" "lineCount" "I", Cond.methodLink RX6 189 yX5_fewestOffers, Cond.instanceMethod yX5_fewestOffers, Cond.selects RX5 yX5_fewestOffers yX5_fewestOffers, Cond.initialized RX5, Cond.code yX5_fewestOffers cX5_fewestOffers 8 (some .int), Cond.fieldLink RX5 36 "EndMeters$Spans" "asked" "I", Cond.fieldLink RX5 39 "EndMeters$Net" "offerCount" "I", Cond.methodLink RX5 21 yX5_takeWays, Cond.instanceMethod yX5_takeWays, Cond.selects RX5 yX5_takeWays yX5_takeWays, Cond.code yX5_takeWays cX5_takeWays 4 none, Cond.fieldLink RX5 25 "EndMeters$Spans" "rank" "I", Cond.fieldLink RX5 18 "EndMeters$Spans" "headAt" "[I", Cond.fieldLink RX5 63 "EndMeters$Net" "wayCount" "I", Cond.methodLink RX5 60 yX5_load, Cond.instanceMethod yX5_load]
def wsX6_advice_r2 : List Cond := [Cond.selects RX5 yX5_load yX5_load, Cond.code yX5_load cX5_load 4 none, Cond.fieldLink RX5 70 "EndMeters$Net" "lineCount" "I", Cond.fieldLink RX5 29 "EndMeters$Spans" "lineCount" "I", Cond.fieldLink RX5 74 "EndMeters$Net" "waySet" "[I", Cond.fieldLink RX5 80 "EndMeters$Net" "offerSet" "[I", Cond.methodLink RX5 71 yX2_isOn, Cond.instanceMethod yX2_isOn, Cond.selects RX2 yX2_isOn yX2_isOn, Cond.code yX2_isOn cX2_isOn 2 (some .boolean), Cond.fieldLink RX2 31 "EndMeters$Net" "onWays" "I", Cond.static yX6_bitOf, Cond.initialized RX6, Cond.code yX6_bitOf cX6_bitOf 2 (some .int), Cond.methodLink RX5 77 yX5_loadRow, Cond.instanceMethod yX5_loadRow, Cond.selects RX5 yX5_loadRow yX5_loadRow, Cond.code yX5_loadRow cX5_loadRow 5 none, Cond.fieldLink RX5 11 "EndMeters$Spans" "cells" "[I", Cond.methodLink RX5 83 yX5_startOf, Cond.static yX5_startOf, Cond.code yX5_startOf cX5_startOf 2 (some .int), Cond.methodLink RX5 32 yX5_firstFilledColumn, Cond.instanceMethod yX5_firstFilledColumn]
def wsX6_advice_r3 : List Cond := [Cond.selects RX5 yX5_firstFilledColumn yX5_firstFilledColumn, Cond.code yX5_firstFilledColumn cX5_firstFilledColumn 5 (some .int), Cond.methodLink RX5 66 yX5_takeWay, Cond.instanceMethod yX5_takeWay, Cond.selects RX5 yX5_takeWay yX5_takeWay, Cond.code yX5_takeWay cX5_takeWay 5 none, Cond.methodLink RX5 89 yX5_clearColumn, Cond.instanceMethod yX5_clearColumn, Cond.selects RX5 yX5_clearColumn yX5_clearColumn, Cond.code yX5_clearColumn cX5_clearColumn 10 none, Cond.methodLink RX5 44 yX5_allOffersDo, Cond.instanceMethod yX5_allOffersDo, Cond.selects RX5 yX5_allOffersDo yX5_allOffersDo, Cond.code yX5_allOffersDo cX5_allOffersDo 4 (some .boolean), Cond.fieldLink RX5 15 "EndMeters$Spans" "takenAt" "[I", Cond.methodLink RX5 97 yJ7_fill_53178, Cond.static yJ7_fill_53178, Cond.initialized RJ7, Cond.code yJ7_fill_53178 cJ7_fill_53178 4 none, Cond.methodLink RX5 93 yX5_takeOffer, Cond.instanceMethod yX5_takeOffer, Cond.selects RX5 yX5_takeOffer yX5_takeOffer, Cond.code yX5_takeOffer cX5_takeOffer 7 (some .boolean), Cond.methodLink RX5 57 yX5_allAskedAreEmpty]
def wsX6_advice_r4 : List Cond := [Cond.instanceMethod yX5_allAskedAreEmpty, Cond.selects RX5 yX5_allAskedAreEmpty yX5_allAskedAreEmpty, Cond.code yX5_allAskedAreEmpty cX5_allAskedAreEmpty 3 (some .boolean), Cond.methodLink RX5 48 yJ6_bitCount_0f7a4, Cond.static yJ6_bitCount_0f7a4, Cond.initialized RJ6, Cond.code yJ6_bitCount_0f7a4 cJ6_bitCount_0f7a4 1 (some .int), Cond.constant RJ6 265 (1431655765), Cond.constant RJ6 266 (858993459), Cond.constant RJ6 267 (252645135), Cond.methodLink RX5 54 yX5_takeSet, Cond.instanceMethod yX5_takeSet, Cond.selects RX5 yX5_takeSet yX5_takeSet, Cond.code yX5_takeSet cX5_takeSet 4 (some .boolean)]
def wsX6_advice : List Cond := .code yX6_advice cX6_advice 2 (some .int) :: ((wsX6_advice_r1 ++ (wsX6_advice_r2 ++ (wsX6_advice_r3 ++ wsX6_advice_r4))) ++ wsX60 ++ wsX20 ++ wsX50)
def wsX6_sick_r1 : List Cond := [Cond.fieldLink RX6 40 "EndMeters" "sickLines" "LEndMeters$SickLines;", Cond.fieldLink RX6 10 "EndMeters" "net" "LEndMeters$Net;", Cond.methodLink RX6 193 yX4_leastSets, Cond.instanceMethod yX4_leastSets, Cond.selects RX4 yX4_leastSets yX4_leastSets, Cond.initialized RX4, Cond.code yX4_leastSets cX4_leastSets 6 (some (.object "EndMeters$SetList")), Cond.fieldLink RX4 12 "EndMeters$SickLines" "found" "LEndMeters$SetList;", Cond.methodLink RX4 18 yX3_empty, Cond.instanceMethod yX3_empty, Cond.selects RX3 yX3_empty yX3_empty, Cond.initialized RX3, Cond.code yX3_empty cX3_empty 1 none, Cond.fieldLink RX3 15 "EndMeters$SetList" "size" "I", Cond.methodLink RX4 21 yX4_linesOfNoGoodWay, Cond.static yX4_linesOfNoGoodWay, Cond.code yX4_linesOfNoGoodWay cX4_linesOfNoGoodWay 3 (some .int), Cond.fieldLink RX4 39 "EndMeters$Net" "lineCount" "I", Cond.fieldLink RX4 45 "EndMeters$Net" "wayCount" "I", Cond.fieldLink RX4 52 "EndMeters$Net" "badWays" "I", Cond.fieldLink RX4 59 "EndMeters$Net" "waySet" "[I", Cond.methodLink RX4 48 yX2_isOn, Cond.instanceMethod yX2_isOn, Cond.selects RX2 yX2_isOn yX2_isOn]
def wsX6_sick_r2 : List Cond := [Cond.initialized RX2, Cond.code yX2_isOn cX2_isOn 2 (some .boolean), Cond.fieldLink RX2 31 "EndMeters$Net" "onWays" "I", Cond.static yX6_bitOf, Cond.initialized RX6, Cond.code yX6_bitOf cX6_bitOf 2 (some .int), Cond.methodLink RX4 25 yJ6_bitCount_0f7a4, Cond.static yJ6_bitCount_0f7a4, Cond.initialized RJ6, Cond.code yJ6_bitCount_0f7a4 cJ6_bitCount_0f7a4 1 (some .int), Cond.constant RJ6 265 (1431655765), Cond.constant RJ6 266 (858993459), Cond.constant RJ6 267 (252645135), Cond.methodLink RX4 31 yX4_meetsAllBadWays, Cond.static yX4_meetsAllBadWays, Cond.code yX4_meetsAllBadWays cX4_meetsAllBadWays 4 (some .boolean), Cond.methodLink RX4 35 yX3_add, Cond.instanceMethod yX3_add, Cond.selects RX3 yX3_add yX3_add, Cond.code yX3_add cX3_add 2 none, Cond.fieldLink RX3 11 "EndMeters$SetList" "sets" "[I", Cond.methodLink RX6 175 yX3_answer, Cond.instanceMethod yX3_answer, Cond.selects RX3 yX3_answer yX3_answer]
def wsX6_sick_r3 : List Cond := [Cond.code yX3_answer cX3_answer 2 (some .int)]
def wsX6_sick : List Cond := .code yX6_sick cX6_sick 2 (some .int) :: ((wsX6_sick_r1 ++ (wsX6_sick_r2 ++ wsX6_sick_r3)) ++ wsX60 ++ wsX40 ++ wsX30 ++ wsX20)
def wsX6_isPair : List Cond := .code yX6_isPair cX6_isPair 4 (some .boolean) :: ([.constant RX6 205 (1000000)])
def wsX6_pair : List Cond := .code yX6_pair cX6_pair 7 (some .long) :: ([.constantLong RX6 131 (-102), .constantLong RX6 133 (-103), .methodLink RX6 196 yX6_isPair, .static yX6_isPair, .initialized RX6, .code yX6_isPair cX6_isPair 4 (some .boolean), .constant RX6 205 (1000000), .methodLink RX6 128 yX6_isZeroOrOne, .static yX6_isZeroOrOne, .code yX6_isZeroOrOne cX6_isZeroOrOne 1 (some .boolean), .methodLink RX6 153 yX6_partOfFraction, .static yX6_partOfFraction, .code yX6_partOfFraction cX6_partOfFraction 9 (some .long), .methodLink RX6 206 yX6_greatestDivisor, .static yX6_greatestDivisor, .code yX6_greatestDivisor cX6_greatestDivisor 11 (some .long)])
def wsX7_init : List Cond := .code yX7_init cX7_init 1 none :: ([.methodLink RX7 1 objectInit, .instanceMethod objectInit, .code objectInit ⟨#[0xb1]⟩ 1 none, .fieldLink RX7 7 "EndMetersModel" "lines" "I", .arrayClass .int, .fieldLink RX7 13 "EndMetersModel" "way" "[I", .fieldLink RX7 17 "EndMetersModel" "sum" "[I", .arrayClass .boolean, .fieldLink RX7 20 "EndMetersModel" "isOn" "[Z", .fieldLink RX7 24 "EndMetersModel" "isBad" "[Z", .fieldLink RX7 27 "EndMetersModel" "offer" "[I", .arrayClass .long, .fieldLink RX7 30 "EndMetersModel" "row" "[J", .fieldLink RX7 34 "EndMetersModel" "base" "[I", .fieldLink RX7 37 "EndMetersModel" "upper" "[J", .fieldLink RX7 40 "EndMetersModel" "best" "[J", .fieldLink RX7 43 "EndMetersModel" "found" "[I"] ++ wsX70)
def wsX7_in : List Cond := .code yX7_in cX7_in 6 (some .boolean) :: ([])
def wsX7_noSet : List Cond := .code yX7_noSet cX7_noSet 3 (some .boolean) :: ([.fieldLink RX7 7 "EndMetersModel" "lines" "I", .methodLink RX7 46 yX7_in, .static yX7_in, .initialized RX7, .code yX7_in cX7_in 6 (some .boolean)] ++ wsX70)
def wsX7_bits : List Cond := .code yX7_bits cX7_bits 3 (some .int) :: ([])
def wsX7_lines : List Cond := .code yX7_lines cX7_lines 3 (some .int) :: ([.constantLong RX7 50 (10), .fieldLink RX7 7 "EndMetersModel" "lines" "I", .fieldLink RX7 52 "EndMetersModel" "ways" "I", .fieldLink RX7 55 "EndMetersModel" "offers" "I", .methodLink RX7 46 yX7_in, .static yX7_in, .initialized RX7, .code yX7_in cX7_in 6 (some .boolean)] ++ wsX70)
def wsX7_way : List Cond := .code yX7_way cX7_way 3 (some .int) :: ([.constantLong RX7 62 (100000), .fieldLink RX7 52 "EndMetersModel" "ways" "I", .fieldLink RX7 13 "EndMetersModel" "way" "[I", .fieldLink RX7 17 "EndMetersModel" "sum" "[I", .fieldLink RX7 20 "EndMetersModel" "isOn" "[Z", .fieldLink RX7 24 "EndMetersModel" "isBad" "[Z", .methodLink RX7 58 yX7_noSet, .instanceMethod yX7_noSet, .selects RX7 yX7_noSet yX7_noSet, .initialized RX7, .code yX7_noSet cX7_noSet 3 (some .boolean), .fieldLink RX7 7 "EndMetersModel" "lines" "I", .methodLink RX7 46 yX7_in, .static yX7_in, .code yX7_in cX7_in 6 (some .boolean)] ++ wsX70)
def wsX7_noWay : List Cond := .code yX7_noWay cX7_noWay 2 (some .boolean) :: ([.fieldLink RX7 52 "EndMetersModel" "ways" "I", .methodLink RX7 46 yX7_in, .static yX7_in, .initialized RX7, .code yX7_in cX7_in 6 (some .boolean)] ++ wsX70)
def wsX7_sum : List Cond := .code yX7_sum cX7_sum 4 (some .int) :: ([.constantLong RX7 62 (100000), .fieldLink RX7 17 "EndMetersModel" "sum" "[I", .methodLink RX7 64 yX7_noWay, .instanceMethod yX7_noWay, .selects RX7 yX7_noWay yX7_noWay, .initialized RX7, .code yX7_noWay cX7_noWay 2 (some .boolean), .fieldLink RX7 52 "EndMetersModel" "ways" "I", .methodLink RX7 46 yX7_in, .static yX7_in, .code yX7_in cX7_in 6 (some .boolean)] ++ wsX70)
def wsX7_over : List Cond := .code yX7_over cX7_over 4 (some .int) :: ([.fieldLink RX7 13 "EndMetersModel" "way" "[I", .methodLink RX7 64 yX7_noWay, .instanceMethod yX7_noWay, .selects RX7 yX7_noWay yX7_noWay, .initialized RX7, .code yX7_noWay cX7_noWay 2 (some .boolean), .fieldLink RX7 52 "EndMetersModel" "ways" "I", .methodLink RX7 46 yX7_in, .static yX7_in, .code yX7_in cX7_in 6 (some .boolean), .methodLink RX7 58 yX7_noSet, .instanceMethod yX7_noSet, .selects RX7 yX7_noSet yX7_noSet, .code yX7_noSet cX7_noSet 3 (some .boolean), .fieldLink RX7 7 "EndMetersModel" "lines" "I"] ++ wsX70)
def wsX7_on : List Cond := .code yX7_on cX7_on 4 (some .int) :: ([.fieldLink RX7 20 "EndMetersModel" "isOn" "[Z", .methodLink RX7 64 yX7_noWay, .instanceMethod yX7_noWay, .selects RX7 yX7_noWay yX7_noWay, .initialized RX7, .code yX7_noWay cX7_noWay 2 (some .boolean), .fieldLink RX7 52 "EndMetersModel" "ways" "I", .methodLink RX7 46 yX7_in, .static yX7_in, .code yX7_in cX7_in 6 (some .boolean)] ++ wsX70)
def wsX7_bad : List Cond := .code yX7_bad cX7_bad 4 (some .int) :: ([.fieldLink RX7 24 "EndMetersModel" "isBad" "[Z", .methodLink RX7 64 yX7_noWay, .instanceMethod yX7_noWay, .selects RX7 yX7_noWay yX7_noWay, .initialized RX7, .code yX7_noWay cX7_noWay 2 (some .boolean), .fieldLink RX7 52 "EndMetersModel" "ways" "I", .methodLink RX7 46 yX7_in, .static yX7_in, .code yX7_in cX7_in 6 (some .boolean)] ++ wsX70)
def wsX7_back : List Cond := .code yX7_back cX7_back 1 (some .int) :: ([.fieldLink RX7 52 "EndMetersModel" "ways" "I"] ++ wsX70)
def wsX7_told : List Cond := .code yX7_told cX7_told 3 (some .int) :: ([.fieldLink RX7 13 "EndMetersModel" "way" "[I", .fieldLink RX7 17 "EndMetersModel" "sum" "[I", .fieldLink RX7 20 "EndMetersModel" "isOn" "[Z", .fieldLink RX7 24 "EndMetersModel" "isBad" "[Z", .methodLink RX7 64 yX7_noWay, .instanceMethod yX7_noWay, .selects RX7 yX7_noWay yX7_noWay, .initialized RX7, .code yX7_noWay cX7_noWay 2 (some .boolean), .fieldLink RX7 52 "EndMetersModel" "ways" "I", .methodLink RX7 46 yX7_in, .static yX7_in, .code yX7_in cX7_in 6 (some .boolean)] ++ wsX70)
def wsX7_onSet : List Cond := .code yX7_onSet cX7_onSet 3 (some .int) :: ([.fieldLink RX7 52 "EndMetersModel" "ways" "I", .fieldLink RX7 20 "EndMetersModel" "isOn" "[Z"] ++ wsX70)
def wsX7_seenSet : List Cond := .code yX7_seenSet cX7_seenSet 3 (some .int) :: ([.fieldLink RX7 52 "EndMetersModel" "ways" "I", .fieldLink RX7 20 "EndMetersModel" "isOn" "[Z", .fieldLink RX7 13 "EndMetersModel" "way" "[I"] ++ wsX70)
def wsX7_swap : List Cond := .code yX7_swap cX7_swap 7 none :: ([.fieldLink RX7 30 "EndMetersModel" "row" "[J"] ++ wsX70)
def wsX7_pivot : List Cond := .code yX7_pivot cX7_pivot 10 none :: ([.fieldLink RX7 30 "EndMetersModel" "row" "[J", .fieldLink RX7 68 "EndMetersModel" "rows" "I", .fieldLink RX7 71 "EndMetersModel" "ahead" "J"] ++ wsX70)
def wsX7_findRow : List Cond := .code yX7_findRow cX7_findRow 4 (some .int) :: ([.fieldLink RX7 68 "EndMetersModel" "rows" "I", .fieldLink RX7 30 "EndMetersModel" "row" "[J"] ++ wsX70)
def wsX7_addRow : List Cond := .code yX7_addRow cX7_addRow 3 none :: ([.fieldLink RX7 7 "EndMetersModel" "lines" "I", .fieldLink RX7 30 "EndMetersModel" "row" "[J", .fieldLink RX7 68 "EndMetersModel" "rows" "I"] ++ wsX70)
def wsX7_rank_r1 : List Cond := [Cond.fieldLink RX7 68 "EndMetersModel" "rows" "I", Cond.fieldLink RX7 52 "EndMetersModel" "ways" "I", Cond.fieldLink RX7 13 "EndMetersModel" "way" "[I", Cond.fieldLink RX7 55 "EndMetersModel" "offers" "I", Cond.fieldLink RX7 27 "EndMetersModel" "offer" "[I", Cond.fieldLink RX7 71 "EndMetersModel" "ahead" "J", Cond.fieldLink RX7 7 "EndMetersModel" "lines" "I", Cond.methodLink RX7 75 yX7_addRow, Cond.instanceMethod yX7_addRow, Cond.selects RX7 yX7_addRow yX7_addRow, Cond.initialized RX7, Cond.code yX7_addRow cX7_addRow 3 none, Cond.fieldLink RX7 30 "EndMetersModel" "row" "[J", Cond.methodLink RX7 79 yX7_findRow, Cond.instanceMethod yX7_findRow, Cond.selects RX7 yX7_findRow yX7_findRow, Cond.code yX7_findRow cX7_findRow 4 (some .int), Cond.methodLink RX7 83 yX7_swap, Cond.instanceMethod yX7_swap, Cond.selects RX7 yX7_swap yX7_swap, Cond.code yX7_swap cX7_swap 7 none, Cond.methodLink RX7 87 yX7_pivot, Cond.instanceMethod yX7_pivot, Cond.selects RX7 yX7_pivot yX7_pivot]
def wsX7_rank_r2 : List Cond := [Cond.code yX7_pivot cX7_pivot 10 none]
def wsX7_rank : List Cond := .code yX7_rank cX7_rank 7 (some .int) :: ((wsX7_rank_r1 ++ wsX7_rank_r2) ++ wsX70)
def wsX7_isKnown_r1 : List Cond := [Cond.methodLink RX7 90 yX7_onSet, Cond.instanceMethod yX7_onSet, Cond.selects RX7 yX7_onSet yX7_onSet, Cond.initialized RX7, Cond.code yX7_onSet cX7_onSet 3 (some .int), Cond.fieldLink RX7 52 "EndMetersModel" "ways" "I", Cond.fieldLink RX7 20 "EndMetersModel" "isOn" "[Z", Cond.methodLink RX7 94 yX7_rank, Cond.instanceMethod yX7_rank, Cond.selects RX7 yX7_rank yX7_rank, Cond.code yX7_rank cX7_rank 7 (some .int), Cond.fieldLink RX7 68 "EndMetersModel" "rows" "I", Cond.fieldLink RX7 13 "EndMetersModel" "way" "[I", Cond.fieldLink RX7 55 "EndMetersModel" "offers" "I", Cond.fieldLink RX7 27 "EndMetersModel" "offer" "[I", Cond.fieldLink RX7 71 "EndMetersModel" "ahead" "J", Cond.fieldLink RX7 7 "EndMetersModel" "lines" "I", Cond.methodLink RX7 75 yX7_addRow, Cond.instanceMethod yX7_addRow, Cond.selects RX7 yX7_addRow yX7_addRow, Cond.code yX7_addRow cX7_addRow 3 none, Cond.fieldLink RX7 30 "EndMetersModel" "row" "[J", Cond.methodLink RX7 79 yX7_findRow, Cond.instanceMethod yX7_findRow]
def wsX7_isKnown_r2 : List Cond := [Cond.selects RX7 yX7_findRow yX7_findRow, Cond.code yX7_findRow cX7_findRow 4 (some .int), Cond.methodLink RX7 83 yX7_swap, Cond.instanceMethod yX7_swap, Cond.selects RX7 yX7_swap yX7_swap, Cond.code yX7_swap cX7_swap 7 none, Cond.methodLink RX7 87 yX7_pivot, Cond.instanceMethod yX7_pivot, Cond.selects RX7 yX7_pivot yX7_pivot, Cond.code yX7_pivot cX7_pivot 10 none]
def wsX7_isKnown : List Cond := .code yX7_isKnown cX7_isKnown 3 (some .boolean) :: ((wsX7_isKnown_r1 ++ wsX7_isKnown_r2) ++ wsX70)
def wsX7_enter : List Cond := .code yX7_enter cX7_enter 3 (some .int) :: ([.fieldLink RX7 7 "EndMetersModel" "lines" "I", .fieldLink RX7 30 "EndMetersModel" "row" "[J"] ++ wsX70)
def wsX7_leave : List Cond := .code yX7_leave cX7_leave 10 (some .int) :: ([.fieldLink RX7 30 "EndMetersModel" "row" "[J", .fieldLink RX7 34 "EndMetersModel" "base" "[I"] ++ wsX70)
def wsX7_doFit : List Cond := .code yX7_doFit cX7_doFit 8 (some .boolean) :: ([.fieldLink RX7 68 "EndMetersModel" "rows" "I", .fieldLink RX7 7 "EndMetersModel" "lines" "I", .fieldLink RX7 52 "EndMetersModel" "ways" "I", .fieldLink RX7 30 "EndMetersModel" "row" "[J", .fieldLink RX7 13 "EndMetersModel" "way" "[I", .fieldLink RX7 17 "EndMetersModel" "sum" "[I", .fieldLink RX7 34 "EndMetersModel" "base" "[I", .fieldLink RX7 71 "EndMetersModel" "ahead" "J", .methodLink RX7 98 yX7_bits, .static yX7_bits, .initialized RX7, .code yX7_bits cX7_bits 3 (some .int), .methodLink RX7 102 yX7_enter, .instanceMethod yX7_enter, .selects RX7 yX7_enter yX7_enter, .code yX7_enter cX7_enter 3 (some .int), .methodLink RX7 105 yX7_leave, .instanceMethod yX7_leave, .selects RX7 yX7_leave yX7_leave, .code yX7_leave cX7_leave 10 (some .int), .methodLink RX7 87 yX7_pivot, .instanceMethod yX7_pivot, .selects RX7 yX7_pivot yX7_pivot, .code yX7_pivot cX7_pivot 10 none] ++ wsX70)
def wsX7_fits_r1 : List Cond := [Cond.methodLink RX7 90 yX7_onSet, Cond.instanceMethod yX7_onSet, Cond.selects RX7 yX7_onSet yX7_onSet, Cond.initialized RX7, Cond.code yX7_onSet cX7_onSet 3 (some .int), Cond.fieldLink RX7 52 "EndMetersModel" "ways" "I", Cond.fieldLink RX7 20 "EndMetersModel" "isOn" "[Z", Cond.methodLink RX7 108 yX7_doFit, Cond.instanceMethod yX7_doFit, Cond.selects RX7 yX7_doFit yX7_doFit, Cond.code yX7_doFit cX7_doFit 8 (some .boolean), Cond.fieldLink RX7 68 "EndMetersModel" "rows" "I", Cond.fieldLink RX7 7 "EndMetersModel" "lines" "I", Cond.fieldLink RX7 30 "EndMetersModel" "row" "[J", Cond.fieldLink RX7 13 "EndMetersModel" "way" "[I", Cond.fieldLink RX7 17 "EndMetersModel" "sum" "[I", Cond.fieldLink RX7 34 "EndMetersModel" "base" "[I", Cond.fieldLink RX7 71 "EndMetersModel" "ahead" "J", Cond.methodLink RX7 98 yX7_bits, Cond.static yX7_bits, Cond.code yX7_bits cX7_bits 3 (some .int), Cond.methodLink RX7 102 yX7_enter, Cond.instanceMethod yX7_enter, Cond.selects RX7 yX7_enter yX7_enter]
def wsX7_fits_r2 : List Cond := [Cond.code yX7_enter cX7_enter 3 (some .int), Cond.methodLink RX7 105 yX7_leave, Cond.instanceMethod yX7_leave, Cond.selects RX7 yX7_leave yX7_leave, Cond.code yX7_leave cX7_leave 10 (some .int), Cond.methodLink RX7 87 yX7_pivot, Cond.instanceMethod yX7_pivot, Cond.selects RX7 yX7_pivot yX7_pivot, Cond.code yX7_pivot cX7_pivot 10 none]
def wsX7_fits : List Cond := .code yX7_fits cX7_fits 1 (some .int) :: ((wsX7_fits_r1 ++ wsX7_fits_r2) ++ wsX70)
def wsX7_tries_r1 : List Cond := [Cond.fieldLink RX7 68 "EndMetersModel" "rows" "I", Cond.fieldLink RX7 52 "EndMetersModel" "ways" "I", Cond.fieldLink RX7 20 "EndMetersModel" "isOn" "[Z", Cond.fieldLink RX7 7 "EndMetersModel" "lines" "I", Cond.fieldLink RX7 30 "EndMetersModel" "row" "[J", Cond.fieldLink RX7 13 "EndMetersModel" "way" "[I", Cond.fieldLink RX7 17 "EndMetersModel" "sum" "[I", Cond.fieldLink RX7 71 "EndMetersModel" "ahead" "J", Cond.constantLong RX7 111 (-1), Cond.fieldLink RX7 113 "EndMetersModel" "lower" "J", Cond.fieldLink RX7 37 "EndMetersModel" "upper" "[J", Cond.methodLink RX7 98 yX7_bits, Cond.static yX7_bits, Cond.initialized RX7, Cond.code yX7_bits cX7_bits 3 (some .int), Cond.methodLink RX7 79 yX7_findRow, Cond.instanceMethod yX7_findRow, Cond.selects RX7 yX7_findRow yX7_findRow, Cond.code yX7_findRow cX7_findRow 4 (some .int), Cond.methodLink RX7 83 yX7_swap, Cond.instanceMethod yX7_swap, Cond.selects RX7 yX7_swap yX7_swap, Cond.code yX7_swap cX7_swap 7 none, Cond.methodLink RX7 87 yX7_pivot]
def wsX7_tries_r2 : List Cond := [Cond.instanceMethod yX7_pivot, Cond.selects RX7 yX7_pivot yX7_pivot, Cond.code yX7_pivot cX7_pivot 10 none]
def wsX7_tries : List Cond := .code yX7_tries cX7_tries 9 (some .boolean) :: ((wsX7_tries_r1 ++ wsX7_tries_r2) ++ wsX70)
def wsX7_of : List Cond := .code yX7_of cX7_of 5 (some .long) :: ([])
def wsX7_betters : List Cond := .code yX7_betters cX7_betters 12 (some .boolean) :: ([.fieldLink RX7 37 "EndMetersModel" "upper" "[J", .fieldLink RX7 120 "EndMetersModel" "bestLower" "J", .fieldLink RX7 40 "EndMetersModel" "best" "[J", .fieldLink RX7 113 "EndMetersModel" "lower" "J", .fieldLink RX7 7 "EndMetersModel" "lines" "I", .methodLink RX7 116 yX7_of, .static yX7_of, .initialized RX7, .code yX7_of cX7_of 5 (some .long)] ++ wsX70)
def wsX7_find_r1 : List Cond := [Cond.fieldLink RX7 7 "EndMetersModel" "lines" "I", Cond.fieldLink RX7 40 "EndMetersModel" "best" "[J", Cond.fieldLink RX7 37 "EndMetersModel" "upper" "[J", Cond.fieldLink RX7 113 "EndMetersModel" "lower" "J", Cond.fieldLink RX7 120 "EndMetersModel" "bestLower" "J", Cond.methodLink RX7 123 yX7_seenSet, Cond.instanceMethod yX7_seenSet, Cond.selects RX7 yX7_seenSet yX7_seenSet, Cond.initialized RX7, Cond.code yX7_seenSet cX7_seenSet 3 (some .int), Cond.fieldLink RX7 52 "EndMetersModel" "ways" "I", Cond.fieldLink RX7 20 "EndMetersModel" "isOn" "[Z", Cond.fieldLink RX7 13 "EndMetersModel" "way" "[I", Cond.methodLink RX7 126 yX7_tries, Cond.instanceMethod yX7_tries, Cond.selects RX7 yX7_tries yX7_tries, Cond.code yX7_tries cX7_tries 9 (some .boolean), Cond.fieldLink RX7 68 "EndMetersModel" "rows" "I", Cond.fieldLink RX7 30 "EndMetersModel" "row" "[J", Cond.fieldLink RX7 17 "EndMetersModel" "sum" "[I", Cond.fieldLink RX7 71 "EndMetersModel" "ahead" "J", Cond.constantLong RX7 111 (-1), Cond.methodLink RX7 98 yX7_bits, Cond.static yX7_bits]
def wsX7_find_r2 : List Cond := [Cond.code yX7_bits cX7_bits 3 (some .int), Cond.methodLink RX7 79 yX7_findRow, Cond.instanceMethod yX7_findRow, Cond.selects RX7 yX7_findRow yX7_findRow, Cond.code yX7_findRow cX7_findRow 4 (some .int), Cond.methodLink RX7 83 yX7_swap, Cond.instanceMethod yX7_swap, Cond.selects RX7 yX7_swap yX7_swap, Cond.code yX7_swap cX7_swap 7 none, Cond.methodLink RX7 87 yX7_pivot, Cond.instanceMethod yX7_pivot, Cond.selects RX7 yX7_pivot yX7_pivot, Cond.code yX7_pivot cX7_pivot 10 none, Cond.methodLink RX7 129 yX7_betters, Cond.instanceMethod yX7_betters, Cond.selects RX7 yX7_betters yX7_betters, Cond.code yX7_betters cX7_betters 12 (some .boolean), Cond.methodLink RX7 116 yX7_of, Cond.static yX7_of, Cond.code yX7_of cX7_of 5 (some .long)]
def wsX7_find : List Cond := .code yX7_find cX7_find 7 (some .boolean) :: ((wsX7_find_r1 ++ wsX7_find_r2) ++ wsX70)
def wsX7_gcd : List Cond := .code yX7_gcd cX7_gcd 10 (some .long) :: ([])
def wsX7_part : List Cond := .code yX7_part cX7_part 7 (some .long) :: ([.methodLink RX7 132 yX7_gcd, .static yX7_gcd, .initialized RX7, .code yX7_gcd cX7_gcd 10 (some .long)])
def wsX7_isEndless : List Cond := .code yX7_isEndless cX7_isEndless 3 (some .boolean) :: ([.methodLink RX7 123 yX7_seenSet, .instanceMethod yX7_seenSet, .selects RX7 yX7_seenSet yX7_seenSet, .initialized RX7, .code yX7_seenSet cX7_seenSet 3 (some .int), .fieldLink RX7 52 "EndMetersModel" "ways" "I", .fieldLink RX7 20 "EndMetersModel" "isOn" "[Z", .fieldLink RX7 13 "EndMetersModel" "way" "[I"] ++ wsX70)
def wsX7_bound_r1 : List Cond := [Cond.constantLong RX7 136 (-102), Cond.constantLong RX7 138 (-103), Cond.constantLong RX7 143 (-105), Cond.fieldLink RX7 40 "EndMetersModel" "best" "[J", Cond.fieldLink RX7 120 "EndMetersModel" "bestLower" "J", Cond.methodLink RX7 58 yX7_noSet, Cond.instanceMethod yX7_noSet, Cond.selects RX7 yX7_noSet yX7_noSet, Cond.initialized RX7, Cond.code yX7_noSet cX7_noSet 3 (some .boolean), Cond.fieldLink RX7 7 "EndMetersModel" "lines" "I", Cond.methodLink RX7 46 yX7_in, Cond.static yX7_in, Cond.code yX7_in cX7_in 6 (some .boolean), Cond.methodLink RX7 90 yX7_onSet, Cond.instanceMethod yX7_onSet, Cond.selects RX7 yX7_onSet yX7_onSet, Cond.code yX7_onSet cX7_onSet 3 (some .int), Cond.fieldLink RX7 52 "EndMetersModel" "ways" "I", Cond.fieldLink RX7 20 "EndMetersModel" "isOn" "[Z", Cond.methodLink RX7 108 yX7_doFit, Cond.instanceMethod yX7_doFit, Cond.selects RX7 yX7_doFit yX7_doFit, Cond.code yX7_doFit cX7_doFit 8 (some .boolean)]
def wsX7_bound_r2 : List Cond := [Cond.fieldLink RX7 68 "EndMetersModel" "rows" "I", Cond.fieldLink RX7 30 "EndMetersModel" "row" "[J", Cond.fieldLink RX7 13 "EndMetersModel" "way" "[I", Cond.fieldLink RX7 17 "EndMetersModel" "sum" "[I", Cond.fieldLink RX7 34 "EndMetersModel" "base" "[I", Cond.fieldLink RX7 71 "EndMetersModel" "ahead" "J", Cond.methodLink RX7 98 yX7_bits, Cond.static yX7_bits, Cond.code yX7_bits cX7_bits 3 (some .int), Cond.methodLink RX7 102 yX7_enter, Cond.instanceMethod yX7_enter, Cond.selects RX7 yX7_enter yX7_enter, Cond.code yX7_enter cX7_enter 3 (some .int), Cond.methodLink RX7 105 yX7_leave, Cond.instanceMethod yX7_leave, Cond.selects RX7 yX7_leave yX7_leave, Cond.code yX7_leave cX7_leave 10 (some .int), Cond.methodLink RX7 87 yX7_pivot, Cond.instanceMethod yX7_pivot, Cond.selects RX7 yX7_pivot yX7_pivot, Cond.code yX7_pivot cX7_pivot 10 none, Cond.methodLink RX7 140 yX7_isEndless, Cond.instanceMethod yX7_isEndless, Cond.selects RX7 yX7_isEndless yX7_isEndless]
def wsX7_bound_r3 : List Cond := [Cond.code yX7_isEndless cX7_isEndless 3 (some .boolean), Cond.methodLink RX7 123 yX7_seenSet, Cond.instanceMethod yX7_seenSet, Cond.selects RX7 yX7_seenSet yX7_seenSet, Cond.code yX7_seenSet cX7_seenSet 3 (some .int), Cond.methodLink RX7 145 yX7_find, Cond.instanceMethod yX7_find, Cond.selects RX7 yX7_find yX7_find, Cond.code yX7_find cX7_find 7 (some .boolean), Cond.fieldLink RX7 37 "EndMetersModel" "upper" "[J", Cond.fieldLink RX7 113 "EndMetersModel" "lower" "J", Cond.methodLink RX7 126 yX7_tries, Cond.instanceMethod yX7_tries, Cond.selects RX7 yX7_tries yX7_tries, Cond.code yX7_tries cX7_tries 9 (some .boolean), Cond.constantLong RX7 111 (-1), Cond.methodLink RX7 79 yX7_findRow, Cond.instanceMethod yX7_findRow, Cond.selects RX7 yX7_findRow yX7_findRow, Cond.code yX7_findRow cX7_findRow 4 (some .int), Cond.methodLink RX7 83 yX7_swap, Cond.instanceMethod yX7_swap, Cond.selects RX7 yX7_swap yX7_swap, Cond.code yX7_swap cX7_swap 7 none]
def wsX7_bound_r4 : List Cond := [Cond.methodLink RX7 129 yX7_betters, Cond.instanceMethod yX7_betters, Cond.selects RX7 yX7_betters yX7_betters, Cond.code yX7_betters cX7_betters 12 (some .boolean), Cond.methodLink RX7 116 yX7_of, Cond.static yX7_of, Cond.code yX7_of cX7_of 5 (some .long), Cond.methodLink RX7 148 yX7_part, Cond.static yX7_part, Cond.code yX7_part cX7_part 7 (some .long), Cond.methodLink RX7 132 yX7_gcd, Cond.static yX7_gcd, Cond.code yX7_gcd cX7_gcd 10 (some .long)]
def wsX7_bound : List Cond := .code yX7_bound cX7_bound 5 (some .long) :: ((wsX7_bound_r1 ++ (wsX7_bound_r2 ++ (wsX7_bound_r3 ++ wsX7_bound_r4))) ++ wsX70)
def wsX7_noLine : List Cond := .code yX7_noLine cX7_noLine 2 (some .boolean) :: ([.fieldLink RX7 7 "EndMetersModel" "lines" "I", .methodLink RX7 46 yX7_in, .static yX7_in, .initialized RX7, .code yX7_in cX7_in 6 (some .boolean)] ++ wsX70)
def wsX7_shown_r1 : List Cond := [Cond.constantLong RX7 155 (-101), Cond.constantLong RX7 136 (-102), Cond.constantLong RX7 138 (-103), Cond.constantLong RX7 143 (-105), Cond.fieldLink RX7 40 "EndMetersModel" "best" "[J", Cond.fieldLink RX7 120 "EndMetersModel" "bestLower" "J", Cond.methodLink RX7 152 yX7_noLine, Cond.instanceMethod yX7_noLine, Cond.selects RX7 yX7_noLine yX7_noLine, Cond.initialized RX7, Cond.code yX7_noLine cX7_noLine 2 (some .boolean), Cond.fieldLink RX7 7 "EndMetersModel" "lines" "I", Cond.methodLink RX7 46 yX7_in, Cond.static yX7_in, Cond.code yX7_in cX7_in 6 (some .boolean), Cond.methodLink RX7 58 yX7_noSet, Cond.instanceMethod yX7_noSet, Cond.selects RX7 yX7_noSet yX7_noSet, Cond.code yX7_noSet cX7_noSet 3 (some .boolean), Cond.methodLink RX7 90 yX7_onSet, Cond.instanceMethod yX7_onSet, Cond.selects RX7 yX7_onSet yX7_onSet, Cond.code yX7_onSet cX7_onSet 3 (some .int), Cond.fieldLink RX7 52 "EndMetersModel" "ways" "I"]
def wsX7_shown_r2 : List Cond := [Cond.fieldLink RX7 20 "EndMetersModel" "isOn" "[Z", Cond.methodLink RX7 108 yX7_doFit, Cond.instanceMethod yX7_doFit, Cond.selects RX7 yX7_doFit yX7_doFit, Cond.code yX7_doFit cX7_doFit 8 (some .boolean), Cond.fieldLink RX7 68 "EndMetersModel" "rows" "I", Cond.fieldLink RX7 30 "EndMetersModel" "row" "[J", Cond.fieldLink RX7 13 "EndMetersModel" "way" "[I", Cond.fieldLink RX7 17 "EndMetersModel" "sum" "[I", Cond.fieldLink RX7 34 "EndMetersModel" "base" "[I", Cond.fieldLink RX7 71 "EndMetersModel" "ahead" "J", Cond.methodLink RX7 98 yX7_bits, Cond.static yX7_bits, Cond.code yX7_bits cX7_bits 3 (some .int), Cond.methodLink RX7 102 yX7_enter, Cond.instanceMethod yX7_enter, Cond.selects RX7 yX7_enter yX7_enter, Cond.code yX7_enter cX7_enter 3 (some .int), Cond.methodLink RX7 105 yX7_leave, Cond.instanceMethod yX7_leave, Cond.selects RX7 yX7_leave yX7_leave, Cond.code yX7_leave cX7_leave 10 (some .int), Cond.methodLink RX7 87 yX7_pivot, Cond.instanceMethod yX7_pivot]
def wsX7_shown_r3 : List Cond := [Cond.selects RX7 yX7_pivot yX7_pivot, Cond.code yX7_pivot cX7_pivot 10 none, Cond.methodLink RX7 140 yX7_isEndless, Cond.instanceMethod yX7_isEndless, Cond.selects RX7 yX7_isEndless yX7_isEndless, Cond.code yX7_isEndless cX7_isEndless 3 (some .boolean), Cond.methodLink RX7 123 yX7_seenSet, Cond.instanceMethod yX7_seenSet, Cond.selects RX7 yX7_seenSet yX7_seenSet, Cond.code yX7_seenSet cX7_seenSet 3 (some .int), Cond.methodLink RX7 145 yX7_find, Cond.instanceMethod yX7_find, Cond.selects RX7 yX7_find yX7_find, Cond.code yX7_find cX7_find 7 (some .boolean), Cond.fieldLink RX7 37 "EndMetersModel" "upper" "[J", Cond.fieldLink RX7 113 "EndMetersModel" "lower" "J", Cond.methodLink RX7 126 yX7_tries, Cond.instanceMethod yX7_tries, Cond.selects RX7 yX7_tries yX7_tries, Cond.code yX7_tries cX7_tries 9 (some .boolean), Cond.constantLong RX7 111 (-1), Cond.methodLink RX7 79 yX7_findRow, Cond.instanceMethod yX7_findRow, Cond.selects RX7 yX7_findRow yX7_findRow]
def wsX7_shown_r4 : List Cond := [Cond.code yX7_findRow cX7_findRow 4 (some .int), Cond.methodLink RX7 83 yX7_swap, Cond.instanceMethod yX7_swap, Cond.selects RX7 yX7_swap yX7_swap, Cond.code yX7_swap cX7_swap 7 none, Cond.methodLink RX7 129 yX7_betters, Cond.instanceMethod yX7_betters, Cond.selects RX7 yX7_betters yX7_betters, Cond.code yX7_betters cX7_betters 12 (some .boolean), Cond.methodLink RX7 116 yX7_of, Cond.static yX7_of, Cond.code yX7_of cX7_of 5 (some .long), Cond.methodLink RX7 148 yX7_part, Cond.static yX7_part, Cond.code yX7_part cX7_part 7 (some .long), Cond.methodLink RX7 132 yX7_gcd, Cond.static yX7_gcd, Cond.code yX7_gcd cX7_gcd 10 (some .long)]
def wsX7_shown : List Cond := .code yX7_shown cX7_shown 6 (some .long) :: ((wsX7_shown_r1 ++ (wsX7_shown_r2 ++ (wsX7_shown_r3 ++ wsX7_shown_r4))) ++ wsX70)
def wsX7_isSettled_r1 : List Cond := [Cond.fieldLink RX7 40 "EndMetersModel" "best" "[J", Cond.fieldLink RX7 120 "EndMetersModel" "bestLower" "J", Cond.methodLink RX7 123 yX7_seenSet, Cond.instanceMethod yX7_seenSet, Cond.selects RX7 yX7_seenSet yX7_seenSet, Cond.initialized RX7, Cond.code yX7_seenSet cX7_seenSet 3 (some .int), Cond.fieldLink RX7 52 "EndMetersModel" "ways" "I", Cond.fieldLink RX7 20 "EndMetersModel" "isOn" "[Z", Cond.fieldLink RX7 13 "EndMetersModel" "way" "[I", Cond.methodLink RX7 145 yX7_find, Cond.instanceMethod yX7_find, Cond.selects RX7 yX7_find yX7_find, Cond.code yX7_find cX7_find 7 (some .boolean), Cond.fieldLink RX7 7 "EndMetersModel" "lines" "I", Cond.fieldLink RX7 37 "EndMetersModel" "upper" "[J", Cond.fieldLink RX7 113 "EndMetersModel" "lower" "J", Cond.methodLink RX7 126 yX7_tries, Cond.instanceMethod yX7_tries, Cond.selects RX7 yX7_tries yX7_tries, Cond.code yX7_tries cX7_tries 9 (some .boolean), Cond.fieldLink RX7 68 "EndMetersModel" "rows" "I", Cond.fieldLink RX7 30 "EndMetersModel" "row" "[J", Cond.fieldLink RX7 17 "EndMetersModel" "sum" "[I"]
def wsX7_isSettled_r2 : List Cond := [Cond.fieldLink RX7 71 "EndMetersModel" "ahead" "J", Cond.constantLong RX7 111 (-1), Cond.methodLink RX7 98 yX7_bits, Cond.static yX7_bits, Cond.code yX7_bits cX7_bits 3 (some .int), Cond.methodLink RX7 79 yX7_findRow, Cond.instanceMethod yX7_findRow, Cond.selects RX7 yX7_findRow yX7_findRow, Cond.code yX7_findRow cX7_findRow 4 (some .int), Cond.methodLink RX7 83 yX7_swap, Cond.instanceMethod yX7_swap, Cond.selects RX7 yX7_swap yX7_swap, Cond.code yX7_swap cX7_swap 7 none, Cond.methodLink RX7 87 yX7_pivot, Cond.instanceMethod yX7_pivot, Cond.selects RX7 yX7_pivot yX7_pivot, Cond.code yX7_pivot cX7_pivot 10 none, Cond.methodLink RX7 129 yX7_betters, Cond.instanceMethod yX7_betters, Cond.selects RX7 yX7_betters yX7_betters, Cond.code yX7_betters cX7_betters 12 (some .boolean), Cond.methodLink RX7 116 yX7_of, Cond.static yX7_of, Cond.code yX7_of cX7_of 5 (some .long)]
def wsX7_isSettled : List Cond := .code yX7_isSettled cX7_isSettled 7 (some .boolean) :: ((wsX7_isSettled_r1 ++ wsX7_isSettled_r2) ++ wsX70)
def wsX7_settled_r1 : List Cond := [Cond.methodLink RX7 152 yX7_noLine, Cond.instanceMethod yX7_noLine, Cond.selects RX7 yX7_noLine yX7_noLine, Cond.initialized RX7, Cond.code yX7_noLine cX7_noLine 2 (some .boolean), Cond.fieldLink RX7 7 "EndMetersModel" "lines" "I", Cond.methodLink RX7 46 yX7_in, Cond.static yX7_in, Cond.code yX7_in cX7_in 6 (some .boolean), Cond.methodLink RX7 90 yX7_onSet, Cond.instanceMethod yX7_onSet, Cond.selects RX7 yX7_onSet yX7_onSet, Cond.code yX7_onSet cX7_onSet 3 (some .int), Cond.fieldLink RX7 52 "EndMetersModel" "ways" "I", Cond.fieldLink RX7 20 "EndMetersModel" "isOn" "[Z", Cond.methodLink RX7 108 yX7_doFit, Cond.instanceMethod yX7_doFit, Cond.selects RX7 yX7_doFit yX7_doFit, Cond.code yX7_doFit cX7_doFit 8 (some .boolean), Cond.fieldLink RX7 68 "EndMetersModel" "rows" "I", Cond.fieldLink RX7 30 "EndMetersModel" "row" "[J", Cond.fieldLink RX7 13 "EndMetersModel" "way" "[I", Cond.fieldLink RX7 17 "EndMetersModel" "sum" "[I", Cond.fieldLink RX7 34 "EndMetersModel" "base" "[I"]
def wsX7_settled_r2 : List Cond := [Cond.fieldLink RX7 71 "EndMetersModel" "ahead" "J", Cond.methodLink RX7 98 yX7_bits, Cond.static yX7_bits, Cond.code yX7_bits cX7_bits 3 (some .int), Cond.methodLink RX7 102 yX7_enter, Cond.instanceMethod yX7_enter, Cond.selects RX7 yX7_enter yX7_enter, Cond.code yX7_enter cX7_enter 3 (some .int), Cond.methodLink RX7 105 yX7_leave, Cond.instanceMethod yX7_leave, Cond.selects RX7 yX7_leave yX7_leave, Cond.code yX7_leave cX7_leave 10 (some .int), Cond.methodLink RX7 87 yX7_pivot, Cond.instanceMethod yX7_pivot, Cond.selects RX7 yX7_pivot yX7_pivot, Cond.code yX7_pivot cX7_pivot 10 none, Cond.methodLink RX7 157 yX7_isSettled, Cond.instanceMethod yX7_isSettled, Cond.selects RX7 yX7_isSettled yX7_isSettled, Cond.code yX7_isSettled cX7_isSettled 7 (some .boolean), Cond.fieldLink RX7 40 "EndMetersModel" "best" "[J", Cond.fieldLink RX7 120 "EndMetersModel" "bestLower" "J", Cond.methodLink RX7 123 yX7_seenSet, Cond.instanceMethod yX7_seenSet]
def wsX7_settled_r3 : List Cond := [Cond.selects RX7 yX7_seenSet yX7_seenSet, Cond.code yX7_seenSet cX7_seenSet 3 (some .int), Cond.methodLink RX7 145 yX7_find, Cond.instanceMethod yX7_find, Cond.selects RX7 yX7_find yX7_find, Cond.code yX7_find cX7_find 7 (some .boolean), Cond.fieldLink RX7 37 "EndMetersModel" "upper" "[J", Cond.fieldLink RX7 113 "EndMetersModel" "lower" "J", Cond.methodLink RX7 126 yX7_tries, Cond.instanceMethod yX7_tries, Cond.selects RX7 yX7_tries yX7_tries, Cond.code yX7_tries cX7_tries 9 (some .boolean), Cond.constantLong RX7 111 (-1), Cond.methodLink RX7 79 yX7_findRow, Cond.instanceMethod yX7_findRow, Cond.selects RX7 yX7_findRow yX7_findRow, Cond.code yX7_findRow cX7_findRow 4 (some .int), Cond.methodLink RX7 83 yX7_swap, Cond.instanceMethod yX7_swap, Cond.selects RX7 yX7_swap yX7_swap, Cond.code yX7_swap cX7_swap 7 none, Cond.methodLink RX7 129 yX7_betters, Cond.instanceMethod yX7_betters, Cond.selects RX7 yX7_betters yX7_betters]
def wsX7_settled_r4 : List Cond := [Cond.code yX7_betters cX7_betters 12 (some .boolean), Cond.methodLink RX7 116 yX7_of, Cond.static yX7_of, Cond.code yX7_of cX7_of 5 (some .long)]
def wsX7_settled : List Cond := .code yX7_settled cX7_settled 2 (some .int) :: ((wsX7_settled_r1 ++ (wsX7_settled_r2 ++ (wsX7_settled_r3 ++ wsX7_settled_r4))) ++ wsX70)
def wsX7_known_r1 : List Cond := [Cond.methodLink RX7 152 yX7_noLine, Cond.instanceMethod yX7_noLine, Cond.selects RX7 yX7_noLine yX7_noLine, Cond.initialized RX7, Cond.code yX7_noLine cX7_noLine 2 (some .boolean), Cond.fieldLink RX7 7 "EndMetersModel" "lines" "I", Cond.methodLink RX7 46 yX7_in, Cond.static yX7_in, Cond.code yX7_in cX7_in 6 (some .boolean), Cond.methodLink RX7 160 yX7_isKnown, Cond.instanceMethod yX7_isKnown, Cond.selects RX7 yX7_isKnown yX7_isKnown, Cond.code yX7_isKnown cX7_isKnown 3 (some .boolean), Cond.methodLink RX7 90 yX7_onSet, Cond.instanceMethod yX7_onSet, Cond.selects RX7 yX7_onSet yX7_onSet, Cond.code yX7_onSet cX7_onSet 3 (some .int), Cond.fieldLink RX7 52 "EndMetersModel" "ways" "I", Cond.fieldLink RX7 20 "EndMetersModel" "isOn" "[Z", Cond.methodLink RX7 94 yX7_rank, Cond.instanceMethod yX7_rank, Cond.selects RX7 yX7_rank yX7_rank, Cond.code yX7_rank cX7_rank 7 (some .int), Cond.fieldLink RX7 68 "EndMetersModel" "rows" "I"]
def wsX7_known_r2 : List Cond := [Cond.fieldLink RX7 13 "EndMetersModel" "way" "[I", Cond.fieldLink RX7 55 "EndMetersModel" "offers" "I", Cond.fieldLink RX7 27 "EndMetersModel" "offer" "[I", Cond.fieldLink RX7 71 "EndMetersModel" "ahead" "J", Cond.methodLink RX7 75 yX7_addRow, Cond.instanceMethod yX7_addRow, Cond.selects RX7 yX7_addRow yX7_addRow, Cond.code yX7_addRow cX7_addRow 3 none, Cond.fieldLink RX7 30 "EndMetersModel" "row" "[J", Cond.methodLink RX7 79 yX7_findRow, Cond.instanceMethod yX7_findRow, Cond.selects RX7 yX7_findRow yX7_findRow, Cond.code yX7_findRow cX7_findRow 4 (some .int), Cond.methodLink RX7 83 yX7_swap, Cond.instanceMethod yX7_swap, Cond.selects RX7 yX7_swap yX7_swap, Cond.code yX7_swap cX7_swap 7 none, Cond.methodLink RX7 87 yX7_pivot, Cond.instanceMethod yX7_pivot, Cond.selects RX7 yX7_pivot yX7_pivot, Cond.code yX7_pivot cX7_pivot 10 none]
def wsX7_known : List Cond := .code yX7_known cX7_known 2 (some .int) :: ((wsX7_known_r1 ++ wsX7_known_r2) ++ wsX70)
def wsX7_overLine : List Cond := .code yX7_overLine cX7_overLine 4 (some .int) :: ([.fieldLink RX7 52 "EndMetersModel" "ways" "I", .fieldLink RX7 20 "EndMetersModel" "isOn" "[Z", .fieldLink RX7 13 "EndMetersModel" "way" "[I"] ++ wsX70)
def wsX7_groupOf : List Cond := .code yX7_groupOf cX7_groupOf 4 (some .int) :: ([.fieldLink RX7 7 "EndMetersModel" "lines" "I", .methodLink RX7 163 yX7_overLine, .instanceMethod yX7_overLine, .selects RX7 yX7_overLine yX7_overLine, .initialized RX7, .code yX7_overLine cX7_overLine 4 (some .int), .fieldLink RX7 52 "EndMetersModel" "ways" "I", .fieldLink RX7 20 "EndMetersModel" "isOn" "[Z", .fieldLink RX7 13 "EndMetersModel" "way" "[I"] ++ wsX70)
def wsX7_group : List Cond := .code yX7_group cX7_group 2 (some .int) :: ([.methodLink RX7 152 yX7_noLine, .instanceMethod yX7_noLine, .selects RX7 yX7_noLine yX7_noLine, .initialized RX7, .code yX7_noLine cX7_noLine 2 (some .boolean), .fieldLink RX7 7 "EndMetersModel" "lines" "I", .methodLink RX7 46 yX7_in, .static yX7_in, .code yX7_in cX7_in 6 (some .boolean), .methodLink RX7 166 yX7_groupOf, .instanceMethod yX7_groupOf, .selects RX7 yX7_groupOf yX7_groupOf, .code yX7_groupOf cX7_groupOf 4 (some .int), .methodLink RX7 163 yX7_overLine, .instanceMethod yX7_overLine, .selects RX7 yX7_overLine yX7_overLine, .code yX7_overLine cX7_overLine 4 (some .int), .fieldLink RX7 52 "EndMetersModel" "ways" "I", .fieldLink RX7 20 "EndMetersModel" "isOn" "[Z", .fieldLink RX7 13 "EndMetersModel" "way" "[I"] ++ wsX70)
def wsX7_count_r1 : List Cond := [Cond.constantLong RX7 169 (8), Cond.fieldLink RX7 7 "EndMetersModel" "lines" "I", Cond.fieldLink RX7 52 "EndMetersModel" "ways" "I", Cond.fieldLink RX7 55 "EndMetersModel" "offers" "I", Cond.methodLink RX7 46 yX7_in, Cond.static yX7_in, Cond.initialized RX7, Cond.code yX7_in cX7_in 6 (some .boolean), Cond.methodLink RX7 90 yX7_onSet, Cond.instanceMethod yX7_onSet, Cond.selects RX7 yX7_onSet yX7_onSet, Cond.code yX7_onSet cX7_onSet 3 (some .int), Cond.fieldLink RX7 20 "EndMetersModel" "isOn" "[Z", Cond.methodLink RX7 108 yX7_doFit, Cond.instanceMethod yX7_doFit, Cond.selects RX7 yX7_doFit yX7_doFit, Cond.code yX7_doFit cX7_doFit 8 (some .boolean), Cond.fieldLink RX7 68 "EndMetersModel" "rows" "I", Cond.fieldLink RX7 30 "EndMetersModel" "row" "[J", Cond.fieldLink RX7 13 "EndMetersModel" "way" "[I", Cond.fieldLink RX7 17 "EndMetersModel" "sum" "[I", Cond.fieldLink RX7 34 "EndMetersModel" "base" "[I", Cond.fieldLink RX7 71 "EndMetersModel" "ahead" "J", Cond.methodLink RX7 98 yX7_bits]
def wsX7_count_r2 : List Cond := [Cond.static yX7_bits, Cond.code yX7_bits cX7_bits 3 (some .int), Cond.methodLink RX7 102 yX7_enter, Cond.instanceMethod yX7_enter, Cond.selects RX7 yX7_enter yX7_enter, Cond.code yX7_enter cX7_enter 3 (some .int), Cond.methodLink RX7 105 yX7_leave, Cond.instanceMethod yX7_leave, Cond.selects RX7 yX7_leave yX7_leave, Cond.code yX7_leave cX7_leave 10 (some .int), Cond.methodLink RX7 87 yX7_pivot, Cond.instanceMethod yX7_pivot, Cond.selects RX7 yX7_pivot yX7_pivot, Cond.code yX7_pivot cX7_pivot 10 none, Cond.methodLink RX7 157 yX7_isSettled, Cond.instanceMethod yX7_isSettled, Cond.selects RX7 yX7_isSettled yX7_isSettled, Cond.code yX7_isSettled cX7_isSettled 7 (some .boolean), Cond.fieldLink RX7 40 "EndMetersModel" "best" "[J", Cond.fieldLink RX7 120 "EndMetersModel" "bestLower" "J", Cond.methodLink RX7 123 yX7_seenSet, Cond.instanceMethod yX7_seenSet, Cond.selects RX7 yX7_seenSet yX7_seenSet, Cond.code yX7_seenSet cX7_seenSet 3 (some .int)]
def wsX7_count_r3 : List Cond := [Cond.methodLink RX7 145 yX7_find, Cond.instanceMethod yX7_find, Cond.selects RX7 yX7_find yX7_find, Cond.code yX7_find cX7_find 7 (some .boolean), Cond.fieldLink RX7 37 "EndMetersModel" "upper" "[J", Cond.fieldLink RX7 113 "EndMetersModel" "lower" "J", Cond.methodLink RX7 126 yX7_tries, Cond.instanceMethod yX7_tries, Cond.selects RX7 yX7_tries yX7_tries, Cond.code yX7_tries cX7_tries 9 (some .boolean), Cond.constantLong RX7 111 (-1), Cond.methodLink RX7 79 yX7_findRow, Cond.instanceMethod yX7_findRow, Cond.selects RX7 yX7_findRow yX7_findRow, Cond.code yX7_findRow cX7_findRow 4 (some .int), Cond.methodLink RX7 83 yX7_swap, Cond.instanceMethod yX7_swap, Cond.selects RX7 yX7_swap yX7_swap, Cond.code yX7_swap cX7_swap 7 none, Cond.methodLink RX7 129 yX7_betters, Cond.instanceMethod yX7_betters, Cond.selects RX7 yX7_betters yX7_betters, Cond.code yX7_betters cX7_betters 12 (some .boolean), Cond.methodLink RX7 116 yX7_of]
def wsX7_count_r4 : List Cond := [Cond.static yX7_of, Cond.code yX7_of cX7_of 5 (some .long), Cond.methodLink RX7 160 yX7_isKnown, Cond.instanceMethod yX7_isKnown, Cond.selects RX7 yX7_isKnown yX7_isKnown, Cond.code yX7_isKnown cX7_isKnown 3 (some .boolean), Cond.methodLink RX7 94 yX7_rank, Cond.instanceMethod yX7_rank, Cond.selects RX7 yX7_rank yX7_rank, Cond.code yX7_rank cX7_rank 7 (some .int), Cond.fieldLink RX7 27 "EndMetersModel" "offer" "[I", Cond.methodLink RX7 75 yX7_addRow, Cond.instanceMethod yX7_addRow, Cond.selects RX7 yX7_addRow yX7_addRow, Cond.code yX7_addRow cX7_addRow 3 none, Cond.methodLink RX7 166 yX7_groupOf, Cond.instanceMethod yX7_groupOf, Cond.selects RX7 yX7_groupOf yX7_groupOf, Cond.code yX7_groupOf cX7_groupOf 4 (some .int), Cond.methodLink RX7 163 yX7_overLine, Cond.instanceMethod yX7_overLine, Cond.selects RX7 yX7_overLine yX7_overLine, Cond.code yX7_overLine cX7_overLine 4 (some .int)]
def wsX7_count : List Cond := .code yX7_count cX7_count 5 (some .int) :: ((wsX7_count_r1 ++ (wsX7_count_r2 ++ (wsX7_count_r3 ++ wsX7_count_r4))) ++ wsX70)
def wsX7_foundAt : List Cond := .code yX7_foundAt cX7_foundAt 2 (some .int) :: ([.fieldLink RX7 171 "EndMetersModel" "founds" "I", .fieldLink RX7 43 "EndMetersModel" "found" "[I", .methodLink RX7 46 yX7_in, .static yX7_in, .initialized RX7, .code yX7_in cX7_in 6 (some .boolean)] ++ wsX70)
def wsX7_lying_r1 : List Cond := [Cond.fieldLink RX7 171 "EndMetersModel" "founds" "I", Cond.fieldLink RX7 52 "EndMetersModel" "ways" "I", Cond.fieldLink RX7 43 "EndMetersModel" "found" "[I", Cond.methodLink RX7 90 yX7_onSet, Cond.instanceMethod yX7_onSet, Cond.selects RX7 yX7_onSet yX7_onSet, Cond.initialized RX7, Cond.code yX7_onSet cX7_onSet 3 (some .int), Cond.fieldLink RX7 20 "EndMetersModel" "isOn" "[Z", Cond.methodLink RX7 98 yX7_bits, Cond.static yX7_bits, Cond.code yX7_bits cX7_bits 3 (some .int), Cond.methodLink RX7 108 yX7_doFit, Cond.instanceMethod yX7_doFit, Cond.selects RX7 yX7_doFit yX7_doFit, Cond.code yX7_doFit cX7_doFit 8 (some .boolean), Cond.fieldLink RX7 68 "EndMetersModel" "rows" "I", Cond.fieldLink RX7 7 "EndMetersModel" "lines" "I", Cond.fieldLink RX7 30 "EndMetersModel" "row" "[J", Cond.fieldLink RX7 13 "EndMetersModel" "way" "[I", Cond.fieldLink RX7 17 "EndMetersModel" "sum" "[I", Cond.fieldLink RX7 34 "EndMetersModel" "base" "[I", Cond.fieldLink RX7 71 "EndMetersModel" "ahead" "J", Cond.methodLink RX7 102 yX7_enter]
def wsX7_lying_r2 : List Cond := [Cond.instanceMethod yX7_enter, Cond.selects RX7 yX7_enter yX7_enter, Cond.code yX7_enter cX7_enter 3 (some .int), Cond.methodLink RX7 105 yX7_leave, Cond.instanceMethod yX7_leave, Cond.selects RX7 yX7_leave yX7_leave, Cond.code yX7_leave cX7_leave 10 (some .int), Cond.methodLink RX7 87 yX7_pivot, Cond.instanceMethod yX7_pivot, Cond.selects RX7 yX7_pivot yX7_pivot, Cond.code yX7_pivot cX7_pivot 10 none, Cond.methodLink RX7 174 yX7_foundAt, Cond.instanceMethod yX7_foundAt, Cond.selects RX7 yX7_foundAt yX7_foundAt, Cond.code yX7_foundAt cX7_foundAt 2 (some .int), Cond.methodLink RX7 46 yX7_in, Cond.static yX7_in, Cond.code yX7_in cX7_in 6 (some .boolean)]
def wsX7_lying : List Cond := .code yX7_lying cX7_lying 5 (some .int) :: ((wsX7_lying_r1 ++ wsX7_lying_r2) ++ wsX70)
def wsX7_offer : List Cond := .code yX7_offer cX7_offer 2 (some .int) :: ([.fieldLink RX7 55 "EndMetersModel" "offers" "I", .fieldLink RX7 27 "EndMetersModel" "offer" "[I", .methodLink RX7 58 yX7_noSet, .instanceMethod yX7_noSet, .selects RX7 yX7_noSet yX7_noSet, .initialized RX7, .code yX7_noSet cX7_noSet 3 (some .boolean), .fieldLink RX7 7 "EndMetersModel" "lines" "I", .methodLink RX7 46 yX7_in, .static yX7_in, .code yX7_in cX7_in 6 (some .boolean)] ++ wsX70)
def wsX7_offered : List Cond := .code yX7_offered cX7_offered 4 (some .int) :: ([.fieldLink RX7 55 "EndMetersModel" "offers" "I", .fieldLink RX7 27 "EndMetersModel" "offer" "[I", .methodLink RX7 46 yX7_in, .static yX7_in, .initialized RX7, .code yX7_in cX7_in 6 (some .boolean), .methodLink RX7 58 yX7_noSet, .instanceMethod yX7_noSet, .selects RX7 yX7_noSet yX7_noSet, .code yX7_noSet cX7_noSet 3 (some .boolean), .fieldLink RX7 7 "EndMetersModel" "lines" "I"] ++ wsX70)
def wsX7_advises_r1 : List Cond := [Cond.fieldLink RX7 7 "EndMetersModel" "lines" "I", Cond.methodLink RX7 160 yX7_isKnown, Cond.instanceMethod yX7_isKnown, Cond.selects RX7 yX7_isKnown yX7_isKnown, Cond.initialized RX7, Cond.code yX7_isKnown cX7_isKnown 3 (some .boolean), Cond.methodLink RX7 90 yX7_onSet, Cond.instanceMethod yX7_onSet, Cond.selects RX7 yX7_onSet yX7_onSet, Cond.code yX7_onSet cX7_onSet 3 (some .int), Cond.fieldLink RX7 52 "EndMetersModel" "ways" "I", Cond.fieldLink RX7 20 "EndMetersModel" "isOn" "[Z", Cond.methodLink RX7 94 yX7_rank, Cond.instanceMethod yX7_rank, Cond.selects RX7 yX7_rank yX7_rank, Cond.code yX7_rank cX7_rank 7 (some .int), Cond.fieldLink RX7 68 "EndMetersModel" "rows" "I", Cond.fieldLink RX7 13 "EndMetersModel" "way" "[I", Cond.fieldLink RX7 55 "EndMetersModel" "offers" "I", Cond.fieldLink RX7 27 "EndMetersModel" "offer" "[I", Cond.fieldLink RX7 71 "EndMetersModel" "ahead" "J", Cond.methodLink RX7 75 yX7_addRow, Cond.instanceMethod yX7_addRow, Cond.selects RX7 yX7_addRow yX7_addRow]
def wsX7_advises_r2 : List Cond := [Cond.code yX7_addRow cX7_addRow 3 none, Cond.fieldLink RX7 30 "EndMetersModel" "row" "[J", Cond.methodLink RX7 79 yX7_findRow, Cond.instanceMethod yX7_findRow, Cond.selects RX7 yX7_findRow yX7_findRow, Cond.code yX7_findRow cX7_findRow 4 (some .int), Cond.methodLink RX7 83 yX7_swap, Cond.instanceMethod yX7_swap, Cond.selects RX7 yX7_swap yX7_swap, Cond.code yX7_swap cX7_swap 7 none, Cond.methodLink RX7 87 yX7_pivot, Cond.instanceMethod yX7_pivot, Cond.selects RX7 yX7_pivot yX7_pivot, Cond.code yX7_pivot cX7_pivot 10 none]
def wsX7_advises : List Cond := .code yX7_advises cX7_advises 5 (some .boolean) :: ((wsX7_advises_r1 ++ wsX7_advises_r2) ++ wsX70)
def wsX7_advice_r1 : List Cond := [Cond.fieldLink RX7 55 "EndMetersModel" "offers" "I", Cond.methodLink RX7 58 yX7_noSet, Cond.instanceMethod yX7_noSet, Cond.selects RX7 yX7_noSet yX7_noSet, Cond.initialized RX7, Cond.code yX7_noSet cX7_noSet 3 (some .boolean), Cond.fieldLink RX7 7 "EndMetersModel" "lines" "I", Cond.methodLink RX7 46 yX7_in, Cond.static yX7_in, Cond.code yX7_in cX7_in 6 (some .boolean), Cond.methodLink RX7 98 yX7_bits, Cond.static yX7_bits, Cond.code yX7_bits cX7_bits 3 (some .int), Cond.methodLink RX7 177 yX7_advises, Cond.instanceMethod yX7_advises, Cond.selects RX7 yX7_advises yX7_advises, Cond.code yX7_advises cX7_advises 5 (some .boolean), Cond.methodLink RX7 160 yX7_isKnown, Cond.instanceMethod yX7_isKnown, Cond.selects RX7 yX7_isKnown yX7_isKnown, Cond.code yX7_isKnown cX7_isKnown 3 (some .boolean), Cond.methodLink RX7 90 yX7_onSet, Cond.instanceMethod yX7_onSet, Cond.selects RX7 yX7_onSet yX7_onSet]
def wsX7_advice_r2 : List Cond := [Cond.code yX7_onSet cX7_onSet 3 (some .int), Cond.fieldLink RX7 52 "EndMetersModel" "ways" "I", Cond.fieldLink RX7 20 "EndMetersModel" "isOn" "[Z", Cond.methodLink RX7 94 yX7_rank, Cond.instanceMethod yX7_rank, Cond.selects RX7 yX7_rank yX7_rank, Cond.code yX7_rank cX7_rank 7 (some .int), Cond.fieldLink RX7 68 "EndMetersModel" "rows" "I", Cond.fieldLink RX7 13 "EndMetersModel" "way" "[I", Cond.fieldLink RX7 27 "EndMetersModel" "offer" "[I", Cond.fieldLink RX7 71 "EndMetersModel" "ahead" "J", Cond.methodLink RX7 75 yX7_addRow, Cond.instanceMethod yX7_addRow, Cond.selects RX7 yX7_addRow yX7_addRow, Cond.code yX7_addRow cX7_addRow 3 none, Cond.fieldLink RX7 30 "EndMetersModel" "row" "[J", Cond.methodLink RX7 79 yX7_findRow, Cond.instanceMethod yX7_findRow, Cond.selects RX7 yX7_findRow yX7_findRow, Cond.code yX7_findRow cX7_findRow 4 (some .int), Cond.methodLink RX7 83 yX7_swap, Cond.instanceMethod yX7_swap, Cond.selects RX7 yX7_swap yX7_swap, Cond.code yX7_swap cX7_swap 7 none]
def wsX7_advice_r3 : List Cond := [Cond.methodLink RX7 87 yX7_pivot, Cond.instanceMethod yX7_pivot, Cond.selects RX7 yX7_pivot yX7_pivot, Cond.code yX7_pivot cX7_pivot 10 none]
def wsX7_advice : List Cond := .code yX7_advice cX7_advice 4 (some .int) :: ((wsX7_advice_r1 ++ (wsX7_advice_r2 ++ wsX7_advice_r3)) ++ wsX70)
def wsX7_explains : List Cond := .code yX7_explains cX7_explains 4 (some .boolean) :: ([.fieldLink RX7 52 "EndMetersModel" "ways" "I", .fieldLink RX7 20 "EndMetersModel" "isOn" "[Z", .fieldLink RX7 24 "EndMetersModel" "isBad" "[Z", .fieldLink RX7 13 "EndMetersModel" "way" "[I"] ++ wsX70)
def wsX7_sick : List Cond := .code yX7_sick cX7_sick 4 (some .int) :: ([.fieldLink RX7 171 "EndMetersModel" "founds" "I", .fieldLink RX7 7 "EndMetersModel" "lines" "I", .fieldLink RX7 43 "EndMetersModel" "found" "[I", .methodLink RX7 98 yX7_bits, .static yX7_bits, .initialized RX7, .code yX7_bits cX7_bits 3 (some .int), .methodLink RX7 180 yX7_explains, .instanceMethod yX7_explains, .selects RX7 yX7_explains yX7_explains, .code yX7_explains cX7_explains 4 (some .boolean), .fieldLink RX7 52 "EndMetersModel" "ways" "I", .fieldLink RX7 20 "EndMetersModel" "isOn" "[Z", .fieldLink RX7 24 "EndMetersModel" "isBad" "[Z", .fieldLink RX7 13 "EndMetersModel" "way" "[I", .methodLink RX7 174 yX7_foundAt, .instanceMethod yX7_foundAt, .selects RX7 yX7_foundAt yX7_foundAt, .code yX7_foundAt cX7_foundAt 2 (some .int), .methodLink RX7 46 yX7_in, .static yX7_in, .code yX7_in cX7_in 6 (some .boolean)] ++ wsX70)
def wsX7_pair : List Cond := .code yX7_pair cX7_pair 8 (some .long) :: ([.constantLong RX7 183 (1000000), .constantLong RX7 185 (2), .constantLong RX7 136 (-102), .constantLong RX7 138 (-103), .methodLink RX7 46 yX7_in, .static yX7_in, .initialized RX7, .code yX7_in cX7_in 6 (some .boolean), .methodLink RX7 148 yX7_part, .static yX7_part, .code yX7_part cX7_part 7 (some .long), .methodLink RX7 132 yX7_gcd, .static yX7_gcd, .code yX7_gcd cX7_gcd 10 (some .long)])
abbrev vwCl : List vw_C := [(RX0, TX0, 13), (RX1, TX1, 3), (RX2, TX2, 8), (RX3, TX3, 2), (RX4, TX4, 1), (RX5, TX5, 6), (RX6, TX6, 5), (RX7, TX7, 18)]
end
section
set_option maxRecDepth 20000 in
theorem ggX0_solve_X0_load : GoodIn wsX0_solve wsX0_load := goodIn_r _ [9, 10, 11, 12, 3, 13, 14, 15, 16, 17, 18, 19, 20, 21, 22, 23, 24, 25, 26, 27, 28, 29, 30, 31, 32, 33, 34, 35, 36, 8, 37, 38, 99, 100, 101, 102, 103, 104, 105, 106, 86, 87, 88, 89, 90, 91, 92, 93, 94, 95, 96, 97, 98] (by decide +kernel) (by decide +kernel)
set_option maxRecDepth 20000 in
theorem gX0_solve_X0_load : GoodIn wsX0_solve (wsV RX0 37 RX0 yX0_load wsX0_load) := goodIn_app (goodIn_of _ (by decide +kernel)) ggX0_solve_X0_load
set_option maxRecDepth 20000 in
theorem ggX0_solve_X0_setGoal : GoodIn wsX0_solve wsX0_setGoal := goodIn_r _ [42, 11, 43, 44, 31, 32, 33, 86, 87, 88, 89, 90, 91, 92, 93, 94, 95, 96, 97, 98] (by decide +kernel) (by decide +kernel)
set_option maxRecDepth 20000 in
theorem gX0_solve_X0_setGoal : GoodIn wsX0_solve (wsV RX0 41 RX0 yX0_setGoal wsX0_setGoal) := goodIn_app (goodIn_of _ (by decide +kernel)) ggX0_solve_X0_setGoal
set_option maxRecDepth 20000 in
theorem ggX0_solve_X0_walkToLeast : GoodIn wsX0_solve wsX0_walkToLeast := goodIn_r _ [48, 49, 50, 51, 52, 8, 53, 11, 14, 13, 43, 31, 32, 33, 54, 55, 56, 57, 12, 38, 44, 15, 3, 58, 59, 60, 61, 62, 63, 64, 65, 66, 67, 68, 69, 70, 71, 72, 73, 74, 75, 76, 77, 86, 87, 88, 89, 90, 91, 92, 93, 94, 95, 96, 97, 98] (by decide +kernel) (by decide +kernel)
set_option maxRecDepth 20000 in
theorem gX0_solve_X0_walkToLeast : GoodIn wsX0_solve (wsV RX0 45 RX0 yX0_walkToLeast wsX0_walkToLeast) := goodIn_app (goodIn_of _ (by decide +kernel)) ggX0_solve_X0_walkToLeast
set_option maxRecDepth 20000 in
theorem ggX0_solve_X0_costOfColumn : GoodIn wsX0_solve wsX0_costOfColumn := goodIn_r _ [57, 12, 38, 44, 43, 15, 3, 86, 87, 88, 89, 90, 91, 92, 93, 94, 95, 96, 97, 98] (by decide +kernel) (by decide +kernel)
set_option maxRecDepth 20000 in
theorem gX0_solve_X0_costOfColumn : GoodIn wsX0_solve (wsV RX0 51 RX0 yX0_costOfColumn wsX0_costOfColumn) := goodIn_app (goodIn_of _ (by decide +kernel)) ggX0_solve_X0_costOfColumn
set_option maxRecDepth 20000 in
theorem ggX0_solve_X0_dropSlacks : GoodIn wsX0_solve wsX0_dropSlacks := goodIn_r _ [81, 12, 11, 38, 15, 3, 66, 67, 68, 8, 69, 13, 70, 71, 72, 73, 74, 75, 76, 77, 86, 87, 88, 89, 90, 91, 92, 93, 94, 95, 96, 97, 98] (by decide +kernel) (by decide +kernel)
set_option maxRecDepth 20000 in
theorem gX0_solve_X0_dropSlacks : GoodIn wsX0_solve (wsV RX0 55 RX0 yX0_dropSlacks wsX0_dropSlacks) := goodIn_app (goodIn_of _ (by decide +kernel)) ggX0_solve_X0_dropSlacks
set_option maxRecDepth 20000 in
theorem ggX0_solve_X0_waysThatClash : GoodIn wsX0_solve wsX0_waysThatClash := goodIn_r _ [85, 12, 11, 19, 54, 55, 56, 8, 57, 38, 44, 43, 15, 3, 86, 87, 88, 89, 90, 91, 92, 93, 94, 95, 96, 97, 98] (by decide +kernel) (by decide +kernel)
set_option maxRecDepth 20000 in
theorem gX0_solve_X0_waysThatClash : GoodIn wsX0_solve (wsV RX0 58 RX0 yX0_waysThatClash wsX0_waysThatClash) := goodIn_app (goodIn_of _ (by decide +kernel)) ggX0_solve_X0_waysThatClash
set_option maxRecDepth 20000 in
theorem ggX0_goToEnd_X0_setGoal : GoodIn wsX0_goToEnd wsX0_setGoal := goodIn_r _ [6, 7, 8, 9, 10, 11, 12, 51, 52, 53, 54, 55, 56, 57, 58, 59, 60, 61, 62, 63] (by decide +kernel) (by decide +kernel)
set_option maxRecDepth 20000 in
theorem gX0_goToEnd_X0_setGoal : GoodIn wsX0_goToEnd (wsV RX0 41 RX0 yX0_setGoal wsX0_setGoal) := goodIn_app (goodIn_of _ (by decide +kernel)) ggX0_goToEnd_X0_setGoal
set_option maxRecDepth 20000 in
theorem ggX0_goToEnd_X0_walkToLeast : GoodIn wsX0_goToEnd wsX0_walkToLeast := goodIn_r _ [16, 17, 18, 19, 20, 5, 21, 7, 1, 22, 8, 10, 11, 12, 23, 24, 25, 26, 27, 28, 9, 29, 30, 31, 32, 33, 34, 35, 36, 37, 38, 39, 40, 41, 42, 43, 44, 45, 46, 47, 48, 49, 50, 51, 52, 53, 54, 55, 56, 57, 58, 59, 60, 61, 62, 63] (by decide +kernel) (by decide +kernel)
set_option maxRecDepth 20000 in
theorem gX0_goToEnd_X0_walkToLeast : GoodIn wsX0_goToEnd (wsV RX0 45 RX0 yX0_walkToLeast wsX0_walkToLeast) := goodIn_app (goodIn_of _ (by decide +kernel)) ggX0_goToEnd_X0_walkToLeast
set_option maxRecDepth 20000 in
theorem ggX0_leastInTurnUpTo_X0_barWhatCosts : GoodIn wsX0_leastInTurnUpTo wsX0_barWhatCosts := goodIn_r _ [6, 1, 7, 8, 9, 10, 11, 12, 5, 13, 14, 15, 16, 17, 18, 55, 56, 57, 58, 59, 60, 61, 62, 63, 64, 65, 66, 67] (by decide +kernel) (by decide +kernel)
set_option maxRecDepth 20000 in
theorem gX0_leastInTurnUpTo_X0_barWhatCosts : GoodIn wsX0_leastInTurnUpTo (wsV RX0 71 RX0 yX0_barWhatCosts wsX0_barWhatCosts) := goodIn_app (goodIn_of _ (by decide +kernel)) ggX0_leastInTurnUpTo_X0_barWhatCosts
set_option maxRecDepth 20000 in
theorem ggX0_leastInTurnUpTo_X0_setGoal : GoodIn wsX0_leastInTurnUpTo wsX0_setGoal := goodIn_r _ [22, 1, 8, 16, 23, 24, 25, 55, 56, 57, 58, 59, 60, 61, 62, 63, 64, 65, 66, 67] (by decide +kernel) (by decide +kernel)
set_option maxRecDepth 20000 in
theorem gX0_leastInTurnUpTo_X0_setGoal : GoodIn wsX0_leastInTurnUpTo (wsV RX0 41 RX0 yX0_setGoal wsX0_setGoal) := goodIn_app (goodIn_of _ (by decide +kernel)) ggX0_leastInTurnUpTo_X0_setGoal
set_option maxRecDepth 20000 in
theorem ggX0_leastInTurnUpTo_X0_walkToLeast : GoodIn wsX0_leastInTurnUpTo wsX0_walkToLeast := goodIn_r _ [29, 30, 31, 32, 33, 5, 34, 1, 9, 7, 8, 23, 24, 25, 10, 11, 12, 13, 14, 15, 16, 17, 18, 35, 36, 37, 38, 39, 40, 41, 42, 43, 44, 45, 46, 47, 48, 49, 50, 51, 52, 53, 54, 55, 56, 57, 58, 59, 60, 61, 62, 63, 64, 65, 66, 67] (by decide +kernel) (by decide +kernel)
set_option maxRecDepth 20000 in
theorem gX0_leastInTurnUpTo_X0_walkToLeast : GoodIn wsX0_leastInTurnUpTo (wsV RX0 45 RX0 yX0_walkToLeast wsX0_walkToLeast) := goodIn_app (goodIn_of _ (by decide +kernel)) ggX0_leastInTurnUpTo_X0_walkToLeast
set_option maxRecDepth 20000 in
theorem ggX0_upperOf_X6_bitOf : GoodIn wsX0_upperOf wsX6_bitOf := goodIn_r _ [7] (by decide +kernel) (by decide +kernel)
set_option maxRecDepth 20000 in
theorem gX0_upperOf_X6_bitOf_n77 : GoodIn wsX0_upperOf (wsX6_bitOf) := ggX0_upperOf_X6_bitOf
set_option maxRecDepth 20000 in
theorem ggX0_load_J6_bitCount_0f7a4 : GoodIn wsX0_load wsJ6_bitCount_0f7a4 := goodIn_r _ [15, 16, 17, 18] (by decide +kernel) (by decide +kernel)
set_option maxRecDepth 20000 in
theorem gX0_load_J6_bitCount_0f7a4 : GoodIn wsX0_load (va_wsS RX0 84 yJ6_bitCount_0f7a4 wsJ6_bitCount_0f7a4) := goodIn_app (goodIn_of _ (by decide +kernel)) ggX0_load_J6_bitCount_0f7a4
set_option maxRecDepth 20000 in
theorem ggX0_load_J7_fill_d0a16 : GoodIn wsX0_load wsJ7_fill_d0a16 := goodIn_r _ [22] (by decide +kernel) (by decide +kernel)
set_option maxRecDepth 20000 in
theorem gX0_load_J7_fill_d0a16 : GoodIn wsX0_load (va_wsS RX0 90 yJ7_fill_d0a16 wsJ7_fill_d0a16) := goodIn_app (goodIn_of _ (by decide +kernel)) ggX0_load_J7_fill_d0a16
set_option maxRecDepth 20000 in
theorem ggX0_load_X6_bitOf : GoodIn wsX0_load wsX6_bitOf := goodIn_r _ [25] (by decide +kernel) (by decide +kernel)
set_option maxRecDepth 20000 in
theorem gX0_load_X6_bitOf_n77 : GoodIn wsX0_load (wsX6_bitOf) := ggX0_load_X6_bitOf
set_option maxRecDepth 20000 in
theorem ggX0_load_X0_loadRow : GoodIn wsX0_load wsX0_loadRow := goodIn_r _ [30, 4, 2, 7, 31, 23, 24, 25, 40, 41, 42, 43, 44, 45, 46, 47, 48, 49, 50, 51, 52] (by decide +kernel) (by decide +kernel)
set_option maxRecDepth 20000 in
theorem gX0_load_X0_loadRow : GoodIn wsX0_load (wsV RX0 105 RX0 yX0_loadRow wsX0_loadRow) := goodIn_app (goodIn_of _ (by decide +kernel)) ggX0_load_X0_loadRow
set_option maxRecDepth 20000 in
theorem ggX0_loadRow_X6_bitOf : GoodIn wsX0_loadRow wsX6_bitOf := goodIn_r _ [7] (by decide +kernel) (by decide +kernel)
set_option maxRecDepth 20000 in
theorem gX0_loadRow_X6_bitOf_n77 : GoodIn wsX0_loadRow (wsX6_bitOf) := ggX0_loadRow_X6_bitOf
set_option maxRecDepth 20000 in
theorem ggX0_setGoal_X6_bitOf : GoodIn wsX0_setGoal wsX6_bitOf := goodIn_r _ [6] (by decide +kernel) (by decide +kernel)
set_option maxRecDepth 20000 in
theorem gX0_setGoal_X6_bitOf_n77 : GoodIn wsX0_setGoal (wsX6_bitOf) := ggX0_setGoal_X6_bitOf
set_option maxRecDepth 20000 in
theorem ggX0_walkToLeast_X0_firstLineThatHelps : GoodIn wsX0_walkToLeast wsX0_firstLineThatHelps := goodIn_r _ [6, 7, 8, 9, 10, 11, 12, 13, 14, 15, 16, 5, 17, 18, 19, 20, 21, 22, 43, 44, 45, 46, 47, 48, 49, 50, 51, 52, 53, 54, 55] (by decide +kernel) (by decide +kernel)
set_option maxRecDepth 20000 in
theorem gX0_walkToLeast_X0_firstLineThatHelps : GoodIn wsX0_walkToLeast (wsV RX0 112 RX0 yX0_firstLineThatHelps wsX0_firstLineThatHelps) := goodIn_app (goodIn_of _ (by decide +kernel)) ggX0_walkToLeast_X0_firstLineThatHelps
set_option maxRecDepth 20000 in
theorem ggX0_walkToLeast_X0_rowThatGivesWay : GoodIn wsX0_walkToLeast wsX0_rowThatGivesWay := goodIn_r _ [26, 18, 21, 22, 27, 28, 29, 5, 30, 19, 43, 44, 45, 46, 47, 48, 49, 50, 51, 52, 53, 54, 55] (by decide +kernel) (by decide +kernel)
set_option maxRecDepth 20000 in
theorem gX0_walkToLeast_X0_rowThatGivesWay : GoodIn wsX0_walkToLeast (wsV RX0 115 RX0 yX0_rowThatGivesWay wsX0_rowThatGivesWay) := goodIn_app (goodIn_of _ (by decide +kernel)) ggX0_walkToLeast_X0_rowThatGivesWay
set_option maxRecDepth 20000 in
theorem ggX0_walkToLeast_X0_exchange : GoodIn wsX0_walkToLeast wsX0_exchange := goodIn_r _ [34, 22, 21, 9, 18, 19, 35, 36, 37, 5, 38, 39, 40, 41, 42, 43, 44, 45, 46, 47, 48, 49, 50, 51, 52, 53, 54, 55] (by decide +kernel) (by decide +kernel)
set_option maxRecDepth 20000 in
theorem gX0_walkToLeast_X0_exchange : GoodIn wsX0_walkToLeast (wsV RX0 118 RX0 yX0_exchange wsX0_exchange) := goodIn_app (goodIn_of _ (by decide +kernel)) ggX0_walkToLeast_X0_exchange
set_option maxRecDepth 20000 in
theorem ggX0_firstLineThatHelps_X6_bitOf : GoodIn wsX0_firstLineThatHelps wsX6_bitOf := goodIn_r _ [7] (by decide +kernel) (by decide +kernel)
set_option maxRecDepth 20000 in
theorem gX0_firstLineThatHelps_X6_bitOf_n77 : GoodIn wsX0_firstLineThatHelps (wsX6_bitOf) := ggX0_firstLineThatHelps_X6_bitOf
set_option maxRecDepth 20000 in
theorem ggX0_firstLineThatHelps_X0_costOfColumn : GoodIn wsX0_firstLineThatHelps wsX0_costOfColumn := goodIn_r _ [12, 13, 14, 15, 4, 16, 17, 18, 19, 20, 21, 22, 23, 24, 25, 26, 27, 28, 29, 30] (by decide +kernel) (by decide +kernel)
set_option maxRecDepth 20000 in
theorem gX0_firstLineThatHelps_X0_costOfColumn : GoodIn wsX0_firstLineThatHelps (wsV RX0 51 RX0 yX0_costOfColumn wsX0_costOfColumn) := goodIn_app (goodIn_of _ (by decide +kernel)) ggX0_firstLineThatHelps_X0_costOfColumn
set_option maxRecDepth 20000 in
theorem ggX0_rowThatGivesWay_X0_givesWayBefore : GoodIn wsX0_rowThatGivesWay wsX0_givesWayBefore := goodIn_r _ [8, 3, 2, 9, 10, 11, 12, 13, 14, 15, 16, 17, 18, 19, 20, 21, 22] (by decide +kernel) (by decide +kernel)
set_option maxRecDepth 20000 in
theorem gX0_rowThatGivesWay_X0_givesWayBefore : GoodIn wsX0_rowThatGivesWay (wsV RX0 122 RX0 yX0_givesWayBefore wsX0_givesWayBefore) := goodIn_app (goodIn_of _ (by decide +kernel)) ggX0_rowThatGivesWay_X0_givesWayBefore
set_option maxRecDepth 20000 in
theorem ggX0_exchange_X0_turnSigns : GoodIn wsX0_exchange wsX0_turnSigns := goodIn_r _ [10, 1, 2, 15, 16, 17, 18, 19, 20, 21, 22, 23, 24, 25, 26, 27] (by decide +kernel) (by decide +kernel)
set_option maxRecDepth 20000 in
theorem gX0_exchange_X0_turnSigns : GoodIn wsX0_exchange (wsV RX0 126 RX0 yX0_turnSigns wsX0_turnSigns) := goodIn_app (goodIn_of _ (by decide +kernel)) ggX0_exchange_X0_turnSigns
set_option maxRecDepth 20000 in
theorem ggX0_exchange_X0_clearColumn : GoodIn wsX0_exchange wsX0_clearColumn := goodIn_r _ [14, 2, 3, 1, 15, 16, 17, 18, 19, 20, 21, 22, 23, 24, 25, 26, 27] (by decide +kernel) (by decide +kernel)
set_option maxRecDepth 20000 in
theorem gX0_exchange_X0_clearColumn : GoodIn wsX0_exchange (wsV RX0 130 RX0 yX0_clearColumn wsX0_clearColumn) := goodIn_app (goodIn_of _ (by decide +kernel)) ggX0_exchange_X0_clearColumn
set_option maxRecDepth 20000 in
theorem ggX0_dropSlacks_X0_exchange : GoodIn wsX0_dropSlacks wsX0_exchange := goodIn_r _ [10, 5, 4, 11, 1, 3, 12, 13, 14, 9, 15, 16, 17, 18, 19, 20, 21, 22, 23, 24, 25, 26, 27, 28, 29, 30, 31, 32] (by decide +kernel) (by decide +kernel)
set_option maxRecDepth 20000 in
theorem gX0_dropSlacks_X0_exchange : GoodIn wsX0_dropSlacks (wsV RX0 118 RX0 yX0_exchange wsX0_exchange) := goodIn_app (goodIn_of _ (by decide +kernel)) ggX0_dropSlacks_X0_exchange
set_option maxRecDepth 20000 in
theorem ggX0_waysThatClash_X0_costOfColumn : GoodIn wsX0_waysThatClash wsX0_costOfColumn := goodIn_r _ [8, 1, 9, 10, 11, 12, 13, 14, 15, 16, 17, 18, 19, 20, 21, 22, 23, 24, 25, 26] (by decide +kernel) (by decide +kernel)
set_option maxRecDepth 20000 in
theorem gX0_waysThatClash_X0_costOfColumn : GoodIn wsX0_waysThatClash (wsV RX0 51 RX0 yX0_costOfColumn wsX0_costOfColumn) := goodIn_app (goodIn_of _ (by decide +kernel)) ggX0_waysThatClash_X0_costOfColumn
set_option maxRecDepth 20000 in
theorem ggX0_barWhatCosts_X0_costOfColumn : GoodIn wsX0_barWhatCosts wsX0_costOfColumn := goodIn_r _ [9, 10, 11, 12, 3, 13, 14, 15, 16, 17, 18, 19, 20, 21, 22, 23, 24, 25, 26, 27] (by decide +kernel) (by decide +kernel)
set_option maxRecDepth 20000 in
theorem gX0_barWhatCosts_X0_costOfColumn : GoodIn wsX0_barWhatCosts (wsV RX0 51 RX0 yX0_costOfColumn wsX0_costOfColumn) := goodIn_app (goodIn_of _ (by decide +kernel)) ggX0_barWhatCosts_X0_costOfColumn
set_option maxRecDepth 20000 in
theorem ggX1_init_X3_init : GoodIn wsX1_init wsX3_init := goodIn_r _ [10, 11, 2, 3, 12, 13, 14, 15] (by decide +kernel) (by decide +kernel)
set_option maxRecDepth 20000 in
theorem gX1_init_X3_init_n9 : GoodIn wsX1_init (wsX3_init) := ggX1_init_X3_init
set_option maxRecDepth 20000 in
theorem ggX1_leastSets_X3_empty : GoodIn wsX1_leastSets wsX3_empty := goodIn_r _ [10, 11, 135, 136] (by decide +kernel) (by decide +kernel)
set_option maxRecDepth 20000 in
theorem gX1_leastSets_X3_empty : GoodIn wsX1_leastSets (wsV RX1 23 RX3 yX3_empty wsX3_empty) := goodIn_app (goodIn_of _ (by decide +kernel)) ggX1_leastSets_X3_empty
set_option maxRecDepth 20000 in
theorem ggX1_leastSets_J6_bitCount_0f7a4 : GoodIn wsX1_leastSets wsJ6_bitCount_0f7a4 := goodIn_r _ [15, 16, 17, 18] (by decide +kernel) (by decide +kernel)
set_option maxRecDepth 20000 in
theorem gX1_leastSets_J6_bitCount_0f7a4 : GoodIn wsX1_leastSets (va_wsS RX1 32 yJ6_bitCount_0f7a4 wsJ6_bitCount_0f7a4) := goodIn_app (goodIn_of _ (by decide +kernel)) ggX1_leastSets_J6_bitCount_0f7a4
set_option maxRecDepth 20000 in
theorem ggX1_leastSets_X1_findOfSize : GoodIn wsX1_leastSets wsX1_findOfSize := goodIn_r _ [23, 4, 2, 3, 24, 12, 13, 14, 15, 16, 17, 18, 25, 26, 27, 22, 28, 5, 29, 30, 31, 32, 33, 34, 35, 36, 37, 38, 39, 40, 41, 42, 43, 44, 45, 46, 47, 48, 49, 50, 51, 52, 53, 54, 55, 56, 57, 58, 59, 60, 61, 62, 63, 64, 65, 66, 67, 68, 69, 70, 71, 72, 73, 74, 75, 76, 77, 78, 79, 80, 81, 82, 83, 84, 85, 86, 87, 88, 89, 90, 91, 92, 93, 94, 95, 96, 97, 98, 99, 100, 101, 102, 103, 104, 105, 106, 107, 108, 109, 110, 111, 112, 113, 114, 115, 9, 116, 11, 117, 118, 119, 120, 121, 122, 123, 127, 128, 129, 130, 131, 132, 133, 134, 124, 125, 126, 137, 138, 139, 140, 141, 142, 143, 144, 145, 146, 147, 148, 149, 135, 136] (by decide +kernel) (by decide +kernel)
set_option maxRecDepth 20000 in
theorem gX1_leastSets_X1_findOfSize : GoodIn wsX1_leastSets (wsV RX1 41 RX1 yX1_findOfSize wsX1_findOfSize) := goodIn_app (goodIn_of _ (by decide +kernel)) ggX1_leastSets_X1_findOfSize
set_option maxRecDepth 20000 in
theorem ggX1_findOfSize_J6_bitCount_0f7a4 : GoodIn wsX1_findOfSize wsJ6_bitCount_0f7a4 := goodIn_r _ [8, 9, 10, 11] (by decide +kernel) (by decide +kernel)
set_option maxRecDepth 20000 in
theorem gX1_findOfSize_J6_bitCount_0f7a4 : GoodIn wsX1_findOfSize (va_wsS RX1 32 yJ6_bitCount_0f7a4 wsJ6_bitCount_0f7a4) := goodIn_app (goodIn_of _ (by decide +kernel)) ggX1_findOfSize_J6_bitCount_0f7a4
set_option maxRecDepth 20000 in
theorem ggX1_findOfSize_X1_breaksAllClashes : GoodIn wsX1_findOfSize wsX1_breaksAllClashes := goodIn_r _ [16, 3, 17, 18, 123, 124, 125, 139, 140] (by decide +kernel) (by decide +kernel)
set_option maxRecDepth 20000 in
theorem gX1_findOfSize_X1_breaksAllClashes : GoodIn wsX1_findOfSize (wsV RX1 45 RX1 yX1_breaksAllClashes wsX1_breaksAllClashes) := goodIn_app (goodIn_of _ (by decide +kernel)) ggX1_findOfSize_X1_breaksAllClashes
set_option maxRecDepth 20000 in
theorem ggX1_findOfSize_X0_solve : GoodIn wsX1_findOfSize wsX0_solve := goodIn_r _ [23, 24, 25, 26, 27, 28, 29, 30, 22, 31, 32, 33, 34, 35, 36, 37, 38, 39, 40, 41, 42, 6, 7, 8, 9, 10, 11, 43, 44, 45, 46, 47, 48, 49, 50, 51, 52, 53, 54, 55, 56, 57, 58, 59, 60, 61, 62, 63, 64, 65, 66, 67, 68, 69, 70, 71, 72, 73, 74, 75, 76, 77, 78, 79, 80, 81, 82, 83, 84, 85, 86, 87, 88, 89, 90, 91, 92, 93, 94, 95, 96, 97, 98, 99, 100, 101, 126, 127, 128, 129, 130, 131, 132, 133, 134, 135, 136, 137, 138, 115, 116, 117, 118, 119, 120, 121, 122] (by decide +kernel) (by decide +kernel)
set_option maxRecDepth 20000 in
theorem gX1_findOfSize_X0_solve : GoodIn wsX1_findOfSize (wsV RX1 49 RX0 yX0_solve wsX0_solve) := goodIn_app (goodIn_of _ (by decide +kernel)) ggX1_findOfSize_X0_solve
set_option maxRecDepth 20000 in
theorem ggX1_findOfSize_X3_add : GoodIn wsX1_findOfSize wsX3_add := goodIn_r _ [106, 107, 108, 139, 140] (by decide +kernel) (by decide +kernel)
set_option maxRecDepth 20000 in
theorem gX1_findOfSize_X3_add : GoodIn wsX1_findOfSize (wsV RX1 55 RX3 yX3_add wsX3_add) := goodIn_app (goodIn_of _ (by decide +kernel)) ggX1_findOfSize_X3_add
set_option maxRecDepth 20000 in
theorem ggX1_findOfSize_X1_leastClash : GoodIn wsX1_findOfSize wsX1_leastClash := goodIn_r _ [111, 112, 4, 113, 48, 114, 19, 20, 21, 22, 23, 24, 25, 26, 27, 28, 29, 30, 31, 32, 33, 34, 35, 36, 37, 38, 39, 40, 41, 42, 6, 7, 8, 9, 10, 11, 43, 44, 45, 46, 47, 49, 50, 51, 52, 53, 54, 55, 56, 57, 58, 59, 60, 61, 62, 63, 64, 65, 66, 67, 68, 69, 70, 71, 72, 73, 74, 75, 76, 77, 78, 79, 80, 81, 82, 83, 84, 85, 86, 87, 88, 89, 90, 91, 92, 93, 94, 95, 96, 97, 98, 99, 100, 101, 115, 116, 117, 118, 119, 120, 121, 122, 126, 127, 128, 129, 130, 131, 132, 133, 134, 135, 136, 137, 138] (by decide +kernel) (by decide +kernel)
set_option maxRecDepth 20000 in
theorem gX1_findOfSize_X1_leastClash : GoodIn wsX1_findOfSize (va_wsS RX1 62 yX1_leastClash wsX1_leastClash) := goodIn_app (goodIn_of _ (by decide +kernel)) ggX1_findOfSize_X1_leastClash
set_option maxRecDepth 20000 in
theorem ggX1_leastClash_X6_withBit : GoodIn wsX1_leastClash wsX6_withBit := goodIn_r _ [5] (by decide +kernel) (by decide +kernel)
set_option maxRecDepth 20000 in
theorem gX1_leastClash_X6_withBit_n73 : GoodIn wsX1_leastClash (wsX6_withBit) := ggX1_leastClash_X6_withBit
set_option maxRecDepth 20000 in
theorem ggX1_leastClash_X0_solve : GoodIn wsX1_leastClash wsX0_solve := goodIn_r _ [10, 11, 12, 13, 14, 15, 16, 17, 9, 18, 19, 20, 21, 22, 23, 24, 25, 26, 27, 28, 29, 30, 31, 32, 33, 34, 35, 36, 37, 38, 39, 40, 4, 41, 42, 43, 44, 45, 46, 47, 48, 49, 50, 51, 52, 53, 54, 55, 56, 57, 58, 59, 60, 61, 62, 63, 64, 65, 66, 67, 68, 69, 70, 71, 72, 73, 74, 75, 76, 77, 78, 79, 80, 81, 82, 83, 84, 85, 86, 87, 88, 89, 90, 91, 92, 93, 102, 103, 104, 105, 106, 107, 108, 109, 110, 111, 112, 113, 114, 94, 95, 96, 97, 98, 99, 100, 101] (by decide +kernel) (by decide +kernel)
set_option maxRecDepth 20000 in
theorem gX1_leastClash_X0_solve : GoodIn wsX1_leastClash (wsV RX1 49 RX0 yX0_solve wsX0_solve) := goodIn_app (goodIn_of _ (by decide +kernel)) ggX1_leastClash_X0_solve
set_option maxRecDepth 20000 in
theorem ggX2_isFilledLineSet_X2_isLineSet : GoodIn wsX2_isFilledLineSet wsX2_isLineSet := goodIn_r _ [5, 6, 7, 8, 9, 10, 11, 12, 13, 14] (by decide +kernel) (by decide +kernel)
set_option maxRecDepth 20000 in
theorem gX2_isFilledLineSet_X2_isLineSet : GoodIn wsX2_isFilledLineSet (wsV RX2 37 RX2 yX2_isLineSet wsX2_isLineSet) := goodIn_app (goodIn_of _ (by decide +kernel)) ggX2_isFilledLineSet_X2_isLineSet
set_option maxRecDepth 20000 in
theorem ggX2_addWay_X6_withBit : GoodIn wsX2_addWay wsX6_withBit := goodIn_r _ [8] (by decide +kernel) (by decide +kernel)
set_option maxRecDepth 20000 in
theorem gX2_addWay_X6_withBit_n41 : GoodIn wsX2_addWay (wsX6_withBit) := ggX2_addWay_X6_withBit
set_option maxRecDepth 20000 in
theorem ggX2_dropLastWay_X6_withBit : GoodIn wsX2_dropLastWay wsX6_withBit := goodIn_r _ [6] (by decide +kernel) (by decide +kernel)
set_option maxRecDepth 20000 in
theorem gX2_dropLastWay_X6_withBit_n41 : GoodIn wsX2_dropLastWay (wsX6_withBit) := ggX2_dropLastWay_X6_withBit
set_option maxRecDepth 20000 in
theorem ggX2_isOn_X6_bitOf : GoodIn wsX2_isOn wsX6_bitOf := goodIn_r _ [4] (by decide +kernel) (by decide +kernel)
set_option maxRecDepth 20000 in
theorem gX2_isOn_X6_bitOf_n45 : GoodIn wsX2_isOn (wsX6_bitOf) := ggX2_isOn_X6_bitOf
set_option maxRecDepth 20000 in
theorem ggX2_seenLines_X2_isOn : GoodIn wsX2_seenLines wsX2_isOn := goodIn_r _ [7, 8, 9, 10, 11, 12, 13, 14, 15, 16, 17, 18, 19] (by decide +kernel) (by decide +kernel)
set_option maxRecDepth 20000 in
theorem gX2_seenLines_X2_isOn : GoodIn wsX2_seenLines (wsV RX2 49 RX2 yX2_isOn wsX2_isOn) := goodIn_app (goodIn_of _ (by decide +kernel)) ggX2_seenLines_X2_isOn
set_option maxRecDepth 20000 in
theorem ggX2_linesAlike_X2_isOn : GoodIn wsX2_linesAlike wsX2_isOn := goodIn_r _ [8, 9, 10, 11, 12, 13, 14, 15, 16, 17, 18, 19, 20] (by decide +kernel) (by decide +kernel)
set_option maxRecDepth 20000 in
theorem gX2_linesAlike_X2_isOn : GoodIn wsX2_linesAlike (wsV RX2 49 RX2 yX2_isOn wsX2_isOn) := goodIn_app (goodIn_of _ (by decide +kernel)) ggX2_linesAlike_X2_isOn
set_option maxRecDepth 20000 in
theorem ggX2_linesAlike_X6_bitOf : GoodIn wsX2_linesAlike wsX6_bitOf := goodIn_r _ [12] (by decide +kernel) (by decide +kernel)
set_option maxRecDepth 20000 in
theorem gX2_linesAlike_X6_bitOf_n45 : GoodIn wsX2_linesAlike (wsX6_bitOf) := ggX2_linesAlike_X6_bitOf
set_option maxRecDepth 20000 in
theorem ggX2_groupCount_X2_linesAlike : GoodIn wsX2_groupCount wsX2_linesAlike := goodIn_r _ [6, 1, 7, 8, 9, 10, 11, 5, 12, 13, 14, 15, 16, 17, 18, 19, 20, 21, 22, 23, 24] (by decide +kernel) (by decide +kernel)
set_option maxRecDepth 20000 in
theorem gX2_groupCount_X2_linesAlike : GoodIn wsX2_groupCount (wsV RX2 52 RX2 yX2_linesAlike wsX2_linesAlike) := goodIn_app (goodIn_of _ (by decide +kernel)) ggX2_groupCount_X2_linesAlike
set_option maxRecDepth 20000 in
theorem ggX4_init_X3_init : GoodIn wsX4_init wsX3_init := goodIn_r _ [9, 10, 2, 3, 11, 12, 13, 14] (by decide +kernel) (by decide +kernel)
set_option maxRecDepth 20000 in
theorem gX4_init_X3_init_n11 : GoodIn wsX4_init (wsX3_init) := ggX4_init_X3_init
set_option maxRecDepth 20000 in
theorem ggX4_leastSets_X3_empty : GoodIn wsX4_leastSets wsX3_empty := goodIn_r _ [6, 7, 41, 42] (by decide +kernel) (by decide +kernel)
set_option maxRecDepth 20000 in
theorem gX4_leastSets_X3_empty : GoodIn wsX4_leastSets (wsV RX4 18 RX3 yX3_empty wsX3_empty) := goodIn_app (goodIn_of _ (by decide +kernel)) ggX4_leastSets_X3_empty
set_option maxRecDepth 20000 in
theorem ggX4_leastSets_X4_linesOfNoGoodWay : GoodIn wsX4_leastSets wsX4_linesOfNoGoodWay := goodIn_r _ [11, 12, 13, 14, 15, 16, 17, 18, 19, 20, 21, 22, 23, 24, 43, 44, 45, 46, 47, 48, 49, 50] (by decide +kernel) (by decide +kernel)
set_option maxRecDepth 20000 in
theorem gX4_leastSets_X4_linesOfNoGoodWay : GoodIn wsX4_leastSets (va_wsS RX4 21 yX4_linesOfNoGoodWay wsX4_linesOfNoGoodWay) := goodIn_app (goodIn_of _ (by decide +kernel)) ggX4_leastSets_X4_linesOfNoGoodWay
set_option maxRecDepth 20000 in
theorem ggX4_leastSets_J6_bitCount_0f7a4 : GoodIn wsX4_leastSets wsJ6_bitCount_0f7a4 := goodIn_r _ [28, 29, 30, 31] (by decide +kernel) (by decide +kernel)
set_option maxRecDepth 20000 in
theorem gX4_leastSets_J6_bitCount_0f7a4 : GoodIn wsX4_leastSets (va_wsS RX4 25 yJ6_bitCount_0f7a4 wsJ6_bitCount_0f7a4) := goodIn_app (goodIn_of _ (by decide +kernel)) ggX4_leastSets_J6_bitCount_0f7a4
set_option maxRecDepth 20000 in
theorem ggX4_leastSets_X4_meetsAllBadWays : GoodIn wsX4_leastSets wsX4_meetsAllBadWays := goodIn_r _ [34, 13, 14, 15, 16, 17, 18, 19, 20, 21, 22, 23, 24, 43, 44, 45, 46, 47, 48, 49, 50] (by decide +kernel) (by decide +kernel)
set_option maxRecDepth 20000 in
theorem gX4_leastSets_X4_meetsAllBadWays : GoodIn wsX4_leastSets (va_wsS RX4 31 yX4_meetsAllBadWays wsX4_meetsAllBadWays) := goodIn_app (goodIn_of _ (by decide +kernel)) ggX4_leastSets_X4_meetsAllBadWays
set_option maxRecDepth 20000 in
theorem ggX4_leastSets_X3_add : GoodIn wsX4_leastSets wsX3_add := goodIn_r _ [38, 7, 39, 41, 42] (by decide +kernel) (by decide +kernel)
set_option maxRecDepth 20000 in
theorem gX4_leastSets_X3_add : GoodIn wsX4_leastSets (wsV RX4 35 RX3 yX3_add wsX3_add) := goodIn_app (goodIn_of _ (by decide +kernel)) ggX4_leastSets_X3_add
set_option maxRecDepth 20000 in
theorem ggX4_linesOfNoGoodWay_X2_isOn : GoodIn wsX4_linesOfNoGoodWay wsX2_isOn := goodIn_r _ [9, 10, 11, 12, 13, 14, 15, 16, 17, 18, 19, 20, 21] (by decide +kernel) (by decide +kernel)
set_option maxRecDepth 20000 in
theorem gX4_linesOfNoGoodWay_X2_isOn : GoodIn wsX4_linesOfNoGoodWay (wsV RX4 48 RX2 yX2_isOn wsX2_isOn) := goodIn_app (goodIn_of _ (by decide +kernel)) ggX4_linesOfNoGoodWay_X2_isOn
set_option maxRecDepth 20000 in
theorem ggX4_linesOfNoGoodWay_X6_bitOf : GoodIn wsX4_linesOfNoGoodWay wsX6_bitOf := goodIn_r _ [13] (by decide +kernel) (by decide +kernel)
set_option maxRecDepth 20000 in
theorem gX4_linesOfNoGoodWay_X6_bitOf_n55 : GoodIn wsX4_linesOfNoGoodWay (wsX6_bitOf) := ggX4_linesOfNoGoodWay_X6_bitOf
set_option maxRecDepth 20000 in
theorem ggX4_meetsAllBadWays_X2_isOn : GoodIn wsX4_meetsAllBadWays wsX2_isOn := goodIn_r _ [8, 9, 10, 11, 12, 13, 14, 15, 16, 17, 18, 19, 20] (by decide +kernel) (by decide +kernel)
set_option maxRecDepth 20000 in
theorem gX4_meetsAllBadWays_X2_isOn : GoodIn wsX4_meetsAllBadWays (wsV RX4 48 RX2 yX2_isOn wsX2_isOn) := goodIn_app (goodIn_of _ (by decide +kernel)) ggX4_meetsAllBadWays_X2_isOn
set_option maxRecDepth 20000 in
theorem ggX4_meetsAllBadWays_X6_bitOf : GoodIn wsX4_meetsAllBadWays wsX6_bitOf := goodIn_r _ [12] (by decide +kernel) (by decide +kernel)
set_option maxRecDepth 20000 in
theorem gX4_meetsAllBadWays_X6_bitOf_n55 : GoodIn wsX4_meetsAllBadWays (wsX6_bitOf) := ggX4_meetsAllBadWays_X6_bitOf
set_option maxRecDepth 20000 in
theorem ggX5_rankOfWays_X5_takeWays : GoodIn wsX5_rankOfWays wsX5_takeWays := goodIn_r _ [6, 1, 7, 8, 9, 10, 11, 5, 12, 13, 14, 15, 16, 17, 18, 19, 20, 21, 22, 23, 24, 25, 26, 27, 28, 29, 30, 31, 32, 33, 34, 35, 36, 37, 38, 39, 40, 41, 42, 43, 44, 45, 46, 47, 48, 49, 50, 51, 52, 53, 54, 55, 56, 57, 58, 59, 60] (by decide +kernel) (by decide +kernel)
set_option maxRecDepth 20000 in
theorem gX5_rankOfWays_X5_takeWays : GoodIn wsX5_rankOfWays (wsV RX5 21 RX5 yX5_takeWays wsX5_takeWays) := goodIn_app (goodIn_of _ (by decide +kernel)) ggX5_rankOfWays_X5_takeWays
set_option maxRecDepth 20000 in
theorem ggX5_linesFromWays_X5_takeWays : GoodIn wsX5_linesFromWays wsX5_takeWays := goodIn_r _ [6, 7, 8, 9, 10, 11, 12, 5, 13, 14, 1, 15, 16, 17, 18, 19, 20, 21, 22, 23, 24, 25, 26, 27, 28, 29, 30, 31, 32, 33, 34, 35, 36, 37, 38, 39, 40, 41, 42, 43, 44, 45, 46, 47, 48, 49, 50, 51, 52, 53, 54, 55, 56, 57, 58, 59, 60] (by decide +kernel) (by decide +kernel)
set_option maxRecDepth 20000 in
theorem gX5_linesFromWays_X5_takeWays : GoodIn wsX5_linesFromWays (wsV RX5 21 RX5 yX5_takeWays wsX5_takeWays) := goodIn_app (goodIn_of _ (by decide +kernel)) ggX5_linesFromWays_X5_takeWays
set_option maxRecDepth 20000 in
theorem ggX5_linesFromWays_X5_firstFilledColumn : GoodIn wsX5_linesFromWays wsX5_firstFilledColumn := goodIn_r _ [38, 1, 31, 32, 33, 5, 34, 47, 48, 49, 50, 51, 52] (by decide +kernel) (by decide +kernel)
set_option maxRecDepth 20000 in
theorem gX5_linesFromWays_X5_firstFilledColumn : GoodIn wsX5_linesFromWays (wsV RX5 32 RX5 yX5_firstFilledColumn wsX5_firstFilledColumn) := goodIn_app (goodIn_of _ (by decide +kernel)) ggX5_linesFromWays_X5_firstFilledColumn
set_option maxRecDepth 20000 in
theorem ggX5_fewestOffers_X5_takeWays : GoodIn wsX5_fewestOffers wsX5_takeWays := goodIn_r _ [7, 8, 9, 10, 11, 12, 13, 6, 14, 15, 16, 17, 2, 18, 19, 20, 21, 22, 23, 24, 25, 26, 27, 28, 29, 30, 31, 32, 33, 34, 35, 36, 37, 38, 39, 40, 41, 42, 43, 44, 45, 46, 47, 76, 77, 78, 79, 80, 81, 82, 83, 84, 85, 86, 87, 88, 89] (by decide +kernel) (by decide +kernel)
set_option maxRecDepth 20000 in
theorem gX5_fewestOffers_X5_takeWays : GoodIn wsX5_fewestOffers (wsV RX5 21 RX5 yX5_takeWays wsX5_takeWays) := goodIn_app (goodIn_of _ (by decide +kernel)) ggX5_fewestOffers_X5_takeWays
set_option maxRecDepth 20000 in
theorem ggX5_fewestOffers_X5_allOffersDo : GoodIn wsX5_fewestOffers wsX5_allOffersDo := goodIn_r _ [51, 52, 53, 54, 55, 56, 57, 58, 59, 6, 60, 16, 1, 9, 32, 36, 37, 38, 39, 33, 34, 35, 25, 26, 27, 44, 45, 46, 47, 61, 62, 63, 64, 76, 77, 78, 79, 80, 81] (by decide +kernel) (by decide +kernel)
set_option maxRecDepth 20000 in
theorem gX5_fewestOffers_X5_allOffersDo : GoodIn wsX5_fewestOffers (wsV RX5 44 RX5 yX5_allOffersDo wsX5_allOffersDo) := goodIn_app (goodIn_of _ (by decide +kernel)) ggX5_fewestOffers_X5_allOffersDo
set_option maxRecDepth 20000 in
theorem ggX5_fewestOffers_J6_bitCount_0f7a4 : GoodIn wsX5_fewestOffers wsJ6_bitCount_0f7a4 := goodIn_r _ [68, 69, 70, 71] (by decide +kernel) (by decide +kernel)
set_option maxRecDepth 20000 in
theorem gX5_fewestOffers_J6_bitCount_0f7a4 : GoodIn wsX5_fewestOffers (va_wsS RX5 48 yJ6_bitCount_0f7a4 wsJ6_bitCount_0f7a4) := goodIn_app (goodIn_of _ (by decide +kernel)) ggX5_fewestOffers_J6_bitCount_0f7a4
set_option maxRecDepth 20000 in
theorem ggX5_fewestOffers_X5_takeSet : GoodIn wsX5_fewestOffers wsX5_takeSet := goodIn_r _ [75, 52, 65, 66, 67, 68, 69, 70, 71, 57, 58, 59, 6, 60, 16, 1, 9, 32, 36, 37, 38, 39, 33, 34, 35, 25, 26, 27, 44, 45, 46, 47, 76, 77, 78, 79, 80, 81] (by decide +kernel) (by decide +kernel)
set_option maxRecDepth 20000 in
theorem gX5_fewestOffers_X5_takeSet : GoodIn wsX5_fewestOffers (wsV RX5 54 RX5 yX5_takeSet wsX5_takeSet) := goodIn_app (goodIn_of _ (by decide +kernel)) ggX5_fewestOffers_X5_takeSet
end
section
set_option maxRecDepth 20000 in
theorem ggX5_fewestOffers_X5_allAskedAreEmpty : GoodIn wsX5_fewestOffers wsX5_allAskedAreEmpty := goodIn_r _ [64, 16, 1, 25, 26, 27, 36, 37, 38, 6, 39, 32, 33, 34, 35, 76, 77, 78, 79, 80, 81] (by decide +kernel) (by decide +kernel)
set_option maxRecDepth 20000 in
theorem gX5_fewestOffers_X5_allAskedAreEmpty : GoodIn wsX5_fewestOffers (wsV RX5 57 RX5 yX5_allAskedAreEmpty wsX5_allAskedAreEmpty) := goodIn_app (goodIn_of _ (by decide +kernel)) ggX5_fewestOffers_X5_allAskedAreEmpty
set_option maxRecDepth 20000 in
theorem ggX5_takeWays_X5_load : GoodIn wsX5_takeWays wsX5_load := goodIn_r _ [8, 9, 10, 3, 11, 12, 13, 14, 15, 16, 17, 18, 19, 20, 21, 22, 23, 24, 25, 7, 26, 27, 28, 29, 30, 49, 50, 51, 52, 53, 54, 55, 56, 43, 44, 45, 46, 47, 48] (by decide +kernel) (by decide +kernel)
set_option maxRecDepth 20000 in
theorem gX5_takeWays_X5_load : GoodIn wsX5_takeWays (wsV RX5 60 RX5 yX5_load wsX5_load) := goodIn_app (goodIn_of _ (by decide +kernel)) ggX5_takeWays_X5_load
set_option maxRecDepth 20000 in
theorem ggX5_takeWays_X5_firstFilledColumn : GoodIn wsX5_takeWays wsX5_firstFilledColumn := goodIn_r _ [34, 10, 27, 28, 29, 7, 30, 43, 44, 45, 46, 47, 48] (by decide +kernel) (by decide +kernel)
set_option maxRecDepth 20000 in
theorem gX5_takeWays_X5_firstFilledColumn : GoodIn wsX5_takeWays (wsV RX5 32 RX5 yX5_firstFilledColumn wsX5_firstFilledColumn) := goodIn_app (goodIn_of _ (by decide +kernel)) ggX5_takeWays_X5_firstFilledColumn
set_option maxRecDepth 20000 in
theorem ggX5_takeWays_X5_takeWay : GoodIn wsX5_takeWays wsX5_takeWay := goodIn_r _ [38, 10, 2, 27, 1, 28, 29, 7, 30, 39, 40, 41, 42, 43, 44, 45, 46, 47, 48] (by decide +kernel) (by decide +kernel)
set_option maxRecDepth 20000 in
theorem gX5_takeWays_X5_takeWay : GoodIn wsX5_takeWays (wsV RX5 66 RX5 yX5_takeWay wsX5_takeWay) := goodIn_app (goodIn_of _ (by decide +kernel)) ggX5_takeWays_X5_takeWay
set_option maxRecDepth 20000 in
theorem ggX5_load_X2_isOn : GoodIn wsX5_load wsX2_isOn := goodIn_r _ [11, 12, 13, 14, 15, 25, 26, 27, 28, 29, 30, 31, 32] (by decide +kernel) (by decide +kernel)
set_option maxRecDepth 20000 in
theorem gX5_load_X2_isOn : GoodIn wsX5_load (wsV RX5 71 RX2 yX2_isOn wsX2_isOn) := goodIn_app (goodIn_of _ (by decide +kernel)) ggX5_load_X2_isOn
set_option maxRecDepth 20000 in
theorem ggX5_load_X5_loadRow : GoodIn wsX5_load wsX5_loadRow := goodIn_r _ [20, 2, 21, 22, 23, 19, 24, 13, 14, 15, 33, 34, 35, 36, 37, 38] (by decide +kernel) (by decide +kernel)
set_option maxRecDepth 20000 in
theorem gX5_load_X5_loadRow : GoodIn wsX5_load (wsV RX5 77 RX5 yX5_loadRow wsX5_loadRow) := goodIn_app (goodIn_of _ (by decide +kernel)) ggX5_load_X5_loadRow
set_option maxRecDepth 20000 in
theorem ggX5_loadRow_X5_startOf : GoodIn wsX5_loadRow wsX5_startOf := goodIn_r _ [6] (by decide +kernel) (by decide +kernel)
set_option maxRecDepth 20000 in
theorem gX5_loadRow_X5_startOf : GoodIn wsX5_loadRow (va_wsS RX5 83 yX5_startOf wsX5_startOf) := goodIn_app (goodIn_of _ (by decide +kernel)) ggX5_loadRow_X5_startOf
set_option maxRecDepth 20000 in
theorem ggX5_loadRow_X6_bitOf : GoodIn wsX5_loadRow wsX6_bitOf := goodIn_r _ [9] (by decide +kernel) (by decide +kernel)
set_option maxRecDepth 20000 in
theorem gX5_loadRow_X6_bitOf_n86 : GoodIn wsX5_loadRow (wsX6_bitOf) := ggX5_loadRow_X6_bitOf
set_option maxRecDepth 20000 in
theorem ggX5_firstFilledColumn_X5_startOf : GoodIn wsX5_firstFilledColumn wsX5_startOf := goodIn_r _ [6] (by decide +kernel) (by decide +kernel)
set_option maxRecDepth 20000 in
theorem gX5_firstFilledColumn_X5_startOf : GoodIn wsX5_firstFilledColumn (va_wsS RX5 83 yX5_startOf wsX5_startOf) := goodIn_app (goodIn_of _ (by decide +kernel)) ggX5_firstFilledColumn_X5_startOf
set_option maxRecDepth 20000 in
theorem ggX5_takeWay_X5_startOf : GoodIn wsX5_takeWay wsX5_startOf := goodIn_r _ [8] (by decide +kernel) (by decide +kernel)
set_option maxRecDepth 20000 in
theorem gX5_takeWay_X5_startOf : GoodIn wsX5_takeWay (va_wsS RX5 83 yX5_startOf wsX5_startOf) := goodIn_app (goodIn_of _ (by decide +kernel)) ggX5_takeWay_X5_startOf
set_option maxRecDepth 20000 in
theorem ggX5_takeWay_X5_clearColumn : GoodIn wsX5_takeWay wsX5_clearColumn := goodIn_r _ [12, 3, 1, 13, 14, 15, 16, 17, 18] (by decide +kernel) (by decide +kernel)
set_option maxRecDepth 20000 in
theorem gX5_takeWay_X5_clearColumn : GoodIn wsX5_takeWay (wsV RX5 89 RX5 yX5_clearColumn wsX5_clearColumn) := goodIn_app (goodIn_of _ (by decide +kernel)) ggX5_takeWay_X5_clearColumn
set_option maxRecDepth 20000 in
theorem ggX5_takeSet_J6_bitCount_0f7a4 : GoodIn wsX5_takeSet wsJ6_bitCount_0f7a4 := goodIn_r _ [5, 6, 7, 8] (by decide +kernel) (by decide +kernel)
set_option maxRecDepth 20000 in
theorem gX5_takeSet_J6_bitCount_0f7a4 : GoodIn wsX5_takeSet (va_wsS RX5 48 yJ6_bitCount_0f7a4 wsJ6_bitCount_0f7a4) := goodIn_app (goodIn_of _ (by decide +kernel)) ggX5_takeSet_J6_bitCount_0f7a4
set_option maxRecDepth 20000 in
theorem ggX5_takeSet_X5_takeOffer : GoodIn wsX5_takeSet wsX5_takeOffer := goodIn_r _ [13, 14, 15, 16, 17, 1, 18, 19, 20, 12, 21, 22, 23, 24, 25, 26, 27, 28, 29, 30, 31, 32, 33, 34, 35, 36, 37] (by decide +kernel) (by decide +kernel)
set_option maxRecDepth 20000 in
theorem gX5_takeSet_X5_takeOffer : GoodIn wsX5_takeSet (wsV RX5 93 RX5 yX5_takeOffer wsX5_takeOffer) := goodIn_app (goodIn_of _ (by decide +kernel)) ggX5_takeSet_X5_takeOffer
set_option maxRecDepth 20000 in
theorem ggX5_takeOffer_X5_firstFilledColumn : GoodIn wsX5_takeOffer wsX5_firstFilledColumn := goodIn_r _ [10, 1, 4, 11, 12, 9, 13, 21, 22, 23, 24, 25, 26] (by decide +kernel) (by decide +kernel)
set_option maxRecDepth 20000 in
theorem gX5_takeOffer_X5_firstFilledColumn : GoodIn wsX5_takeOffer (wsV RX5 32 RX5 yX5_firstFilledColumn wsX5_firstFilledColumn) := goodIn_app (goodIn_of _ (by decide +kernel)) ggX5_takeOffer_X5_firstFilledColumn
set_option maxRecDepth 20000 in
theorem ggX5_takeOffer_X5_startOf : GoodIn wsX5_takeOffer wsX5_startOf := goodIn_r _ [13] (by decide +kernel) (by decide +kernel)
set_option maxRecDepth 20000 in
theorem gX5_takeOffer_X5_startOf : GoodIn wsX5_takeOffer (va_wsS RX5 83 yX5_startOf wsX5_startOf) := goodIn_app (goodIn_of _ (by decide +kernel)) ggX5_takeOffer_X5_startOf
set_option maxRecDepth 20000 in
theorem ggX5_takeOffer_X6_bitOf : GoodIn wsX5_takeOffer wsX6_bitOf := goodIn_r _ [16] (by decide +kernel) (by decide +kernel)
set_option maxRecDepth 20000 in
theorem gX5_takeOffer_X6_bitOf_n86 : GoodIn wsX5_takeOffer (wsX6_bitOf) := ggX5_takeOffer_X6_bitOf
set_option maxRecDepth 20000 in
theorem ggX5_takeOffer_X5_clearColumn : GoodIn wsX5_takeOffer wsX5_clearColumn := goodIn_r _ [20, 4, 1, 21, 22, 23, 24, 25, 26] (by decide +kernel) (by decide +kernel)
set_option maxRecDepth 20000 in
theorem gX5_takeOffer_X5_clearColumn : GoodIn wsX5_takeOffer (wsV RX5 89 RX5 yX5_clearColumn wsX5_clearColumn) := goodIn_app (goodIn_of _ (by decide +kernel)) ggX5_takeOffer_X5_clearColumn
set_option maxRecDepth 20000 in
theorem ggX5_allAskedAreEmpty_X6_bitOf : GoodIn wsX5_allAskedAreEmpty wsX6_bitOf := goodIn_r _ [5] (by decide +kernel) (by decide +kernel)
set_option maxRecDepth 20000 in
theorem gX5_allAskedAreEmpty_X6_bitOf_n86 : GoodIn wsX5_allAskedAreEmpty (wsX6_bitOf) := ggX5_allAskedAreEmpty_X6_bitOf
set_option maxRecDepth 20000 in
theorem ggX5_allAskedAreEmpty_X5_firstFilledColumn : GoodIn wsX5_allAskedAreEmpty wsX5_firstFilledColumn := goodIn_r _ [10, 1, 11, 12, 13, 9, 14, 15, 16, 17, 18, 19, 20] (by decide +kernel) (by decide +kernel)
set_option maxRecDepth 20000 in
theorem gX5_allAskedAreEmpty_X5_firstFilledColumn : GoodIn wsX5_allAskedAreEmpty (wsV RX5 32 RX5 yX5_firstFilledColumn wsX5_firstFilledColumn) := goodIn_app (goodIn_of _ (by decide +kernel)) ggX5_allAskedAreEmpty_X5_firstFilledColumn
set_option maxRecDepth 20000 in
theorem ggX5_allOffersDo_J7_fill_53178 : GoodIn wsX5_allOffersDo wsJ7_fill_53178 := goodIn_r _ [5] (by decide +kernel) (by decide +kernel)
set_option maxRecDepth 20000 in
theorem gX5_allOffersDo_J7_fill_53178 : GoodIn wsX5_allOffersDo (va_wsS RX5 97 yJ7_fill_53178 wsJ7_fill_53178) := goodIn_app (goodIn_of _ (by decide +kernel)) ggX5_allOffersDo_J7_fill_53178
set_option maxRecDepth 20000 in
theorem ggX5_allOffersDo_X5_takeOffer : GoodIn wsX5_allOffersDo wsX5_takeOffer := goodIn_r _ [10, 11, 12, 13, 14, 1, 15, 16, 17, 9, 18, 19, 20, 21, 22, 23, 24, 25, 26, 27, 28, 33, 34, 35, 36, 37, 38] (by decide +kernel) (by decide +kernel)
set_option maxRecDepth 20000 in
theorem gX5_allOffersDo_X5_takeOffer : GoodIn wsX5_allOffersDo (wsV RX5 93 RX5 yX5_takeOffer wsX5_takeOffer) := goodIn_app (goodIn_of _ (by decide +kernel)) ggX5_allOffersDo_X5_takeOffer
set_option maxRecDepth 20000 in
theorem ggX5_allOffersDo_X5_allAskedAreEmpty : GoodIn wsX5_allOffersDo wsX5_allAskedAreEmpty := goodIn_r _ [32, 11, 12, 22, 23, 24, 15, 16, 17, 9, 18, 14, 19, 20, 21, 33, 34, 35, 36, 37, 38] (by decide +kernel) (by decide +kernel)
set_option maxRecDepth 20000 in
theorem gX5_allOffersDo_X5_allAskedAreEmpty : GoodIn wsX5_allOffersDo (wsV RX5 57 RX5 yX5_allAskedAreEmpty wsX5_allAskedAreEmpty) := goodIn_app (goodIn_of _ (by decide +kernel)) ggX5_allOffersDo_X5_allAskedAreEmpty
set_option maxRecDepth 20000 in
theorem ggX6_init_X2_init : GoodIn wsX6_init wsX2_init := goodIn_r _ [25, 26, 2, 3, 27, 28, 29, 30, 31, 65, 66, 67, 68, 69, 70, 71, 72] (by decide +kernel) (by decide +kernel)
set_option maxRecDepth 20000 in
theorem gX6_init_X2_init_n9 : GoodIn wsX6_init (wsX2_init) := ggX6_init_X2_init
set_option maxRecDepth 20000 in
theorem ggX6_init_X0_init : GoodIn wsX6_init wsX0_init := goodIn_r _ [33, 34, 2, 3, 35, 36, 27, 37, 38, 39, 40, 41, 78, 79, 80, 81, 82, 83, 84, 85, 86, 87, 88, 89, 90] (by decide +kernel) (by decide +kernel)
set_option maxRecDepth 20000 in
theorem gX6_init_X0_init_n18 : GoodIn wsX6_init (wsX0_init) := ggX6_init_X0_init
set_option maxRecDepth 20000 in
theorem ggX6_init_X1_init : GoodIn wsX6_init wsX1_init := goodIn_r _ [43, 44, 2, 3, 45, 46, 47, 48, 49, 50, 51, 52, 27, 53, 101, 102, 91, 92, 93] (by decide +kernel) (by decide +kernel)
set_option maxRecDepth 20000 in
theorem gX6_init_X1_init_n25 : GoodIn wsX6_init (wsX1_init) := ggX6_init_X1_init
set_option maxRecDepth 20000 in
theorem ggX6_init_X5_init : GoodIn wsX6_init wsX5_init := goodIn_r _ [55, 56, 2, 3, 27, 57, 58, 59, 94, 95, 96, 97, 98, 99] (by decide +kernel) (by decide +kernel)
set_option maxRecDepth 20000 in
theorem gX6_init_X5_init_n32 : GoodIn wsX6_init (wsX5_init) := ggX6_init_X5_init
set_option maxRecDepth 20000 in
theorem ggX6_init_X4_init : GoodIn wsX6_init wsX4_init := goodIn_r _ [61, 62, 2, 3, 63, 46, 47, 64, 50, 51, 52, 27, 53, 101, 102, 100] (by decide +kernel) (by decide +kernel)
set_option maxRecDepth 20000 in
theorem gX6_init_X4_init_n39 : GoodIn wsX6_init (wsX4_init) := ggX6_init_X4_init
set_option maxRecDepth 20000 in
theorem ggX6_lines_X2_startAnew : GoodIn wsX6_lines wsX2_startAnew := goodIn_r _ [7, 8, 9, 10, 11, 12, 37, 38, 39, 40, 41, 42, 43, 44] (by decide +kernel) (by decide +kernel)
set_option maxRecDepth 20000 in
theorem gX6_lines_X2_startAnew : GoodIn wsX6_lines (wsV RX6 48 RX2 yX2_startAnew wsX2_startAnew) := goodIn_app (goodIn_of _ (by decide +kernel)) ggX6_lines_X2_startAnew
set_option maxRecDepth 20000 in
theorem ggX6_lines_X6_forgetAnswers : GoodIn wsX6_lines wsX6_forgetAnswers := goodIn_r _ [17, 18, 19, 20, 21, 22, 23, 24, 25, 26, 27, 28, 29, 30, 31, 32, 33, 34, 35, 36, 45, 46, 47, 48, 49, 50, 51, 52, 53, 54, 55, 56, 57, 58, 59, 60] (by decide +kernel) (by decide +kernel)
set_option maxRecDepth 20000 in
theorem gX6_lines_X6_forgetAnswers : GoodIn wsX6_lines (wsV RX6 52 RX6 yX6_forgetAnswers wsX6_forgetAnswers) := goodIn_app (goodIn_of _ (by decide +kernel)) ggX6_lines_X6_forgetAnswers
set_option maxRecDepth 20000 in
theorem ggX6_way_X2_isFilledLineSet : GoodIn wsX6_way wsX2_isFilledLineSet := goodIn_r _ [7, 8, 9, 10, 6, 11, 12, 52, 53, 54, 55, 56, 57, 58, 59] (by decide +kernel) (by decide +kernel)
set_option maxRecDepth 20000 in
theorem gX6_way_X2_isFilledLineSet : GoodIn wsX6_way (wsV RX6 55 RX2 yX2_isFilledLineSet wsX2_isFilledLineSet) := goodIn_app (goodIn_of _ (by decide +kernel)) ggX6_way_X2_isFilledLineSet
set_option maxRecDepth 20000 in
theorem ggX6_way_X6_isSum : GoodIn wsX6_way wsX6_isSum := goodIn_r _ [16, 17] (by decide +kernel) (by decide +kernel)
set_option maxRecDepth 20000 in
theorem gX6_way_X6_isSum : GoodIn wsX6_way (va_wsS RX6 59 yX6_isSum wsX6_isSum) := goodIn_app (goodIn_of _ (by decide +kernel)) ggX6_way_X6_isSum
set_option maxRecDepth 20000 in
theorem ggX6_way_X6_forgetAnswers : GoodIn wsX6_way wsX6_forgetAnswers := goodIn_r _ [21, 22, 23, 24, 25, 26, 27, 28, 29, 30, 31, 32, 33, 34, 35, 47, 48, 49, 50, 51, 60, 61, 62, 63, 64, 65, 66, 67, 68, 69, 70, 71, 72, 73, 74, 75] (by decide +kernel) (by decide +kernel)
set_option maxRecDepth 20000 in
theorem gX6_way_X6_forgetAnswers : GoodIn wsX6_way (wsV RX6 52 RX6 yX6_forgetAnswers wsX6_forgetAnswers) := goodIn_app (goodIn_of _ (by decide +kernel)) ggX6_way_X6_forgetAnswers
set_option maxRecDepth 20000 in
theorem ggX6_way_X2_addWay : GoodIn wsX6_way wsX2_addWay := goodIn_r _ [39, 40, 41, 42, 43, 44, 45, 15, 46, 52, 53, 54, 55, 56, 57, 58, 59] (by decide +kernel) (by decide +kernel)
set_option maxRecDepth 20000 in
theorem gX6_way_X2_addWay : GoodIn wsX6_way (wsV RX6 65 RX2 yX2_addWay wsX2_addWay) := goodIn_app (goodIn_of _ (by decide +kernel)) ggX6_way_X2_addWay
set_option maxRecDepth 20000 in
theorem ggX6_sum_X2_hasWay : GoodIn wsX6_sum wsX2_hasWay := goodIn_r _ [7, 8, 37, 38, 39, 40, 41, 42, 43, 44] (by decide +kernel) (by decide +kernel)
set_option maxRecDepth 20000 in
theorem gX6_sum_X2_hasWay : GoodIn wsX6_sum (wsV RX6 69 RX2 yX2_hasWay wsX2_hasWay) := goodIn_app (goodIn_of _ (by decide +kernel)) ggX6_sum_X2_hasWay
set_option maxRecDepth 20000 in
theorem ggX6_sum_X6_isSum : GoodIn wsX6_sum wsX6_isSum := goodIn_r _ [12, 13] (by decide +kernel) (by decide +kernel)
set_option maxRecDepth 20000 in
theorem gX6_sum_X6_isSum : GoodIn wsX6_sum (va_wsS RX6 59 yX6_isSum wsX6_isSum) := goodIn_app (goodIn_of _ (by decide +kernel)) ggX6_sum_X6_isSum
set_option maxRecDepth 20000 in
theorem ggX6_sum_X6_forgetAnswers : GoodIn wsX6_sum wsX6_forgetAnswers := goodIn_r _ [17, 18, 19, 20, 21, 22, 23, 24, 25, 26, 27, 28, 29, 30, 31, 32, 33, 34, 35, 36, 45, 46, 47, 48, 49, 50, 51, 52, 53, 54, 55, 56, 57, 58, 59, 60] (by decide +kernel) (by decide +kernel)
set_option maxRecDepth 20000 in
theorem gX6_sum_X6_forgetAnswers : GoodIn wsX6_sum (wsV RX6 52 RX6 yX6_forgetAnswers wsX6_forgetAnswers) := goodIn_app (goodIn_of _ (by decide +kernel)) ggX6_sum_X6_forgetAnswers
set_option maxRecDepth 20000 in
theorem ggX6_over_X2_hasWay : GoodIn wsX6_over wsX2_hasWay := goodIn_r _ [7, 8, 42, 43, 44, 45, 46, 47, 48, 49] (by decide +kernel) (by decide +kernel)
set_option maxRecDepth 20000 in
theorem gX6_over_X2_hasWay : GoodIn wsX6_over (wsV RX6 69 RX2 yX2_hasWay wsX2_hasWay) := goodIn_app (goodIn_of _ (by decide +kernel)) ggX6_over_X2_hasWay
set_option maxRecDepth 20000 in
theorem ggX6_over_X2_isFilledLineSet : GoodIn wsX6_over wsX2_isFilledLineSet := goodIn_r _ [12, 13, 14, 15, 6, 16, 17, 42, 43, 44, 45, 46, 47, 48, 49] (by decide +kernel) (by decide +kernel)
set_option maxRecDepth 20000 in
theorem gX6_over_X2_isFilledLineSet : GoodIn wsX6_over (wsV RX6 55 RX2 yX2_isFilledLineSet wsX2_isFilledLineSet) := goodIn_app (goodIn_of _ (by decide +kernel)) ggX6_over_X2_isFilledLineSet
set_option maxRecDepth 20000 in
theorem ggX6_over_X6_forgetAnswers : GoodIn wsX6_over wsX6_forgetAnswers := goodIn_r _ [22, 23, 24, 25, 26, 27, 28, 29, 30, 31, 32, 33, 34, 35, 36, 37, 38, 39, 40, 41, 50, 51, 52, 53, 54, 55, 56, 57, 58, 59, 60, 61, 62, 63, 64, 65] (by decide +kernel) (by decide +kernel)
set_option maxRecDepth 20000 in
theorem gX6_over_X6_forgetAnswers : GoodIn wsX6_over (wsV RX6 52 RX6 yX6_forgetAnswers wsX6_forgetAnswers) := goodIn_app (goodIn_of _ (by decide +kernel)) ggX6_over_X6_forgetAnswers
set_option maxRecDepth 20000 in
theorem ggX6_on_X2_hasWay : GoodIn wsX6_on wsX2_hasWay := goodIn_r _ [7, 8, 39, 40, 41, 42, 43, 44, 45, 46] (by decide +kernel) (by decide +kernel)
set_option maxRecDepth 20000 in
theorem gX6_on_X2_hasWay : GoodIn wsX6_on (wsV RX6 69 RX2 yX2_hasWay wsX2_hasWay) := goodIn_app (goodIn_of _ (by decide +kernel)) ggX6_on_X2_hasWay
set_option maxRecDepth 20000 in
theorem ggX6_on_X6_bitOf : GoodIn wsX6_on wsX6_bitOf := goodIn_r _ [12] (by decide +kernel) (by decide +kernel)
set_option maxRecDepth 20000 in
theorem gX6_on_X6_bitOf : GoodIn wsX6_on (va_wsS RX6 82 yX6_bitOf wsX6_bitOf) := goodIn_app (goodIn_of _ (by decide +kernel)) ggX6_on_X6_bitOf
set_option maxRecDepth 20000 in
theorem ggX6_on_X6_withBit : GoodIn wsX6_on wsX6_withBit := goodIn_r _ [15] (by decide +kernel) (by decide +kernel)
set_option maxRecDepth 20000 in
theorem gX6_on_X6_withBit : GoodIn wsX6_on (va_wsS RX6 85 yX6_withBit wsX6_withBit) := goodIn_app (goodIn_of _ (by decide +kernel)) ggX6_on_X6_withBit
set_option maxRecDepth 20000 in
theorem ggX6_on_X6_forgetAnswers : GoodIn wsX6_on wsX6_forgetAnswers := goodIn_r _ [19, 20, 21, 22, 23, 24, 25, 26, 27, 28, 29, 30, 31, 32, 33, 34, 35, 36, 37, 38, 47, 48, 49, 50, 51, 52, 53, 54, 55, 56, 57, 58, 59, 60, 61, 62] (by decide +kernel) (by decide +kernel)
set_option maxRecDepth 20000 in
theorem gX6_on_X6_forgetAnswers : GoodIn wsX6_on (wsV RX6 52 RX6 yX6_forgetAnswers wsX6_forgetAnswers) := goodIn_app (goodIn_of _ (by decide +kernel)) ggX6_on_X6_forgetAnswers
set_option maxRecDepth 20000 in
theorem ggX6_bad_X2_hasWay : GoodIn wsX6_bad wsX2_hasWay := goodIn_r _ [7, 8, 21, 22, 23, 24, 25, 26, 27, 28] (by decide +kernel) (by decide +kernel)
set_option maxRecDepth 20000 in
theorem gX6_bad_X2_hasWay : GoodIn wsX6_bad (wsV RX6 69 RX2 yX2_hasWay wsX2_hasWay) := goodIn_app (goodIn_of _ (by decide +kernel)) ggX6_bad_X2_hasWay
set_option maxRecDepth 20000 in
theorem ggX6_bad_X6_bitOf : GoodIn wsX6_bad wsX6_bitOf := goodIn_r _ [12] (by decide +kernel) (by decide +kernel)
set_option maxRecDepth 20000 in
theorem gX6_bad_X6_bitOf : GoodIn wsX6_bad (va_wsS RX6 82 yX6_bitOf wsX6_bitOf) := goodIn_app (goodIn_of _ (by decide +kernel)) ggX6_bad_X6_bitOf
set_option maxRecDepth 20000 in
theorem ggX6_bad_X6_withBit : GoodIn wsX6_bad wsX6_withBit := goodIn_r _ [15] (by decide +kernel) (by decide +kernel)
set_option maxRecDepth 20000 in
theorem gX6_bad_X6_withBit : GoodIn wsX6_bad (va_wsS RX6 85 yX6_withBit wsX6_withBit) := goodIn_app (goodIn_of _ (by decide +kernel)) ggX6_bad_X6_withBit
set_option maxRecDepth 20000 in
theorem ggX6_back_X2_dropLastWay : GoodIn wsX6_back wsX2_dropLastWay := goodIn_r _ [7, 8, 9, 10, 11, 12, 13, 37, 38, 39, 40, 41, 42, 43, 44] (by decide +kernel) (by decide +kernel)
set_option maxRecDepth 20000 in
theorem gX6_back_X2_dropLastWay : GoodIn wsX6_back (wsV RX6 92 RX2 yX2_dropLastWay wsX2_dropLastWay) := goodIn_app (goodIn_of _ (by decide +kernel)) ggX6_back_X2_dropLastWay
set_option maxRecDepth 20000 in
theorem ggX6_back_X6_forgetAnswers : GoodIn wsX6_back wsX6_forgetAnswers := goodIn_r _ [17, 18, 19, 20, 21, 22, 23, 24, 25, 26, 27, 28, 29, 30, 31, 32, 33, 34, 35, 36, 45, 46, 47, 48, 49, 50, 51, 52, 53, 54, 55, 56, 57, 58, 59, 60] (by decide +kernel) (by decide +kernel)
set_option maxRecDepth 20000 in
theorem gX6_back_X6_forgetAnswers : GoodIn wsX6_back (wsV RX6 52 RX6 yX6_forgetAnswers wsX6_forgetAnswers) := goodIn_app (goodIn_of _ (by decide +kernel)) ggX6_back_X6_forgetAnswers
set_option maxRecDepth 20000 in
theorem ggX6_told_X2_hasWay : GoodIn wsX6_told wsX2_hasWay := goodIn_r _ [10, 11, 21, 22, 23, 24, 25, 26, 27, 28] (by decide +kernel) (by decide +kernel)
set_option maxRecDepth 20000 in
theorem gX6_told_X2_hasWay : GoodIn wsX6_told (wsV RX6 69 RX2 yX2_hasWay wsX2_hasWay) := goodIn_app (goodIn_of _ (by decide +kernel)) ggX6_told_X2_hasWay
set_option maxRecDepth 20000 in
theorem ggX6_told_X6_bitOf : GoodIn wsX6_told wsX6_bitOf := goodIn_r _ [15] (by decide +kernel) (by decide +kernel)
set_option maxRecDepth 20000 in
theorem gX6_told_X6_bitOf : GoodIn wsX6_told (va_wsS RX6 82 yX6_bitOf wsX6_bitOf) := goodIn_app (goodIn_of _ (by decide +kernel)) ggX6_told_X6_bitOf
set_option maxRecDepth 20000 in
theorem ggX6_count_J6_bitCount_0f7a4 : GoodIn wsX6_count wsJ6_bitCount_0f7a4 := goodIn_r _ [10, 11, 12, 13] (by decide +kernel) (by decide +kernel)
set_option maxRecDepth 20000 in
theorem gX6_count_J6_bitCount_0f7a4 : GoodIn wsX6_count (va_wsS RX6 95 yJ6_bitCount_0f7a4 wsJ6_bitCount_0f7a4) := goodIn_app (goodIn_of _ (by decide +kernel)) ggX6_count_J6_bitCount_0f7a4
set_option maxRecDepth 20000 in
theorem ggX6_count_X5_rankOfWays : GoodIn wsX6_count wsX5_rankOfWays := goodIn_r _ [18, 19, 20, 21, 22, 17, 23, 24, 25, 26, 27, 28, 29, 30, 31, 32, 33, 34, 35, 36, 37, 38, 39, 40, 41, 42, 43, 44, 45, 46, 47, 48, 49, 50, 51, 52, 53, 54, 55, 56, 57, 58, 59, 60, 61, 62, 63, 199, 200, 201, 202, 203, 204, 191, 192, 193, 194, 195, 196, 197, 198] (by decide +kernel) (by decide +kernel)
set_option maxRecDepth 20000 in
theorem gX6_count_X5_rankOfWays : GoodIn wsX6_count (wsV RX6 101 RX5 yX5_rankOfWays wsX5_rankOfWays) := goodIn_app (goodIn_of _ (by decide +kernel)) ggX6_count_X5_rankOfWays
set_option maxRecDepth 20000 in
theorem ggX6_count_X2_seenLines : GoodIn wsX6_count wsX2_seenLines := goodIn_r _ [67, 68, 69, 70, 36, 37, 38, 39, 40, 41, 42, 43, 191, 192, 193, 194, 195, 196, 197, 198] (by decide +kernel) (by decide +kernel)
set_option maxRecDepth 20000 in
theorem gX6_count_X2_seenLines : GoodIn wsX6_count (wsV RX6 105 RX2 yX2_seenLines wsX2_seenLines) := goodIn_app (goodIn_of _ (by decide +kernel)) ggX6_count_X2_seenLines
set_option maxRecDepth 20000 in
theorem ggX6_count_X6_settledLines : GoodIn wsX6_count wsX6_settledLines := goodIn_r _ [74, 75, 1, 4, 2, 76, 77, 78, 79, 80, 81, 82, 83, 84, 85, 86, 87, 88, 89, 90, 91, 92, 93, 94, 95, 96, 97, 98, 99, 8, 9, 10, 11, 12, 13, 100, 101, 102, 103, 41, 42, 43, 104, 105, 106, 107, 108, 109, 110, 111, 112, 113, 114, 115, 116, 117, 118, 119, 120, 121, 122, 123, 124, 125, 126, 127, 128, 129, 130, 131, 132, 133, 134, 135, 136, 137, 138, 139, 140, 141, 142, 143, 144, 145, 146, 147, 148, 149, 150, 151, 152, 153, 154, 155, 156, 157, 158, 159, 160, 161, 162, 163, 164, 64, 65, 66, 38, 67, 68, 69, 70, 36, 37, 39, 40, 165, 166, 167, 168, 169, 170, 171, 172, 186, 187, 188, 189, 190, 191, 192, 193, 194, 195, 196, 197, 198, 205, 206, 207, 208, 209, 210, 211, 212, 213, 214, 215, 216, 217] (by decide +kernel) (by decide +kernel)
set_option maxRecDepth 20000 in
theorem gX6_count_X6_settledLines : GoodIn wsX6_count (wsV RX6 109 RX6 yX6_settledLines wsX6_settledLines) := goodIn_app (goodIn_of _ (by decide +kernel)) ggX6_count_X6_settledLines
set_option maxRecDepth 20000 in
theorem ggX6_count_X5_linesFromWays : GoodIn wsX6_count wsX5_linesFromWays := goodIn_r _ [176, 31, 20, 21, 22, 17, 23, 19, 24, 25, 26, 27, 28, 29, 30, 32, 33, 34, 35, 36, 37, 38, 39, 40, 41, 42, 43, 44, 45, 46, 47, 48, 49, 50, 51, 52, 53, 54, 55, 56, 57, 58, 59, 60, 61, 62, 63, 199, 200, 201, 202, 203, 204, 191, 192, 193, 194, 195, 196, 197, 198] (by decide +kernel) (by decide +kernel)
set_option maxRecDepth 20000 in
theorem gX6_count_X5_linesFromWays : GoodIn wsX6_count (wsV RX6 112 RX5 yX5_linesFromWays wsX5_linesFromWays) := goodIn_app (goodIn_of _ (by decide +kernel)) ggX6_count_X5_linesFromWays
set_option maxRecDepth 20000 in
theorem ggX6_count_X2_groupCount : GoodIn wsX6_count wsX2_groupCount := goodIn_r _ [180, 181, 182, 183, 184, 38, 185, 68, 69, 70, 36, 37, 39, 40, 41, 42, 43, 191, 192, 193, 194, 195, 196, 197, 198] (by decide +kernel) (by decide +kernel)
set_option maxRecDepth 20000 in
theorem gX6_count_X2_groupCount : GoodIn wsX6_count (wsV RX6 115 RX2 yX2_groupCount wsX2_groupCount) := goodIn_app (goodIn_of _ (by decide +kernel)) ggX6_count_X2_groupCount
set_option maxRecDepth 20000 in
theorem ggX6_fits_X0_solve : GoodIn wsX6_fits wsX0_solve := goodIn_r _ [8, 9, 10, 11, 12, 13, 14, 15, 7, 16, 17, 18, 19, 20, 21, 22, 23, 24, 25, 26, 27, 28, 29, 30, 31, 32, 33, 34, 35, 36, 37, 38, 39, 40, 41, 42, 43, 44, 45, 46, 47, 48, 49, 50, 51, 52, 53, 54, 55, 56, 57, 58, 59, 60, 61, 62, 63, 64, 65, 66, 67, 68, 69, 70, 71, 72, 73, 74, 75, 76, 77, 78, 79, 80, 81, 82, 83, 84, 85, 86, 87, 88, 89, 90, 91, 92, 106, 107, 108, 109, 110, 111, 112, 113, 114, 115, 116, 117, 118, 98, 99, 100, 101, 102, 103, 104, 105] (by decide +kernel) (by decide +kernel)
set_option maxRecDepth 20000 in
theorem gX6_fits_X0_solve : GoodIn wsX6_fits (wsV RX6 121 RX0 yX0_solve wsX0_solve) := goodIn_app (goodIn_of _ (by decide +kernel)) ggX6_fits_X0_solve
set_option maxRecDepth 20000 in
theorem ggX6_bound_X2_isLineSet : GoodIn wsX6_bound wsX2_isLineSet := goodIn_r _ [12, 13, 140, 141, 142, 143, 144, 145, 146, 147] (by decide +kernel) (by decide +kernel)
set_option maxRecDepth 20000 in
theorem gX6_bound_X2_isLineSet : GoodIn wsX6_bound (wsV RX6 125 RX2 yX2_isLineSet wsX2_isLineSet) := goodIn_app (goodIn_of _ (by decide +kernel)) ggX6_bound_X2_isLineSet
set_option maxRecDepth 20000 in
theorem ggX6_bound_X6_isZeroOrOne : GoodIn wsX6_bound wsX6_isZeroOrOne := goodIn_r _ [17] (by decide +kernel) (by decide +kernel)
set_option maxRecDepth 20000 in
theorem gX6_bound_X6_isZeroOrOne : GoodIn wsX6_bound (va_wsS RX6 128 yX6_isZeroOrOne wsX6_isZeroOrOne) := goodIn_app (goodIn_of _ (by decide +kernel)) ggX6_bound_X6_isZeroOrOne
set_option maxRecDepth 20000 in
theorem ggX6_bound_X0_solve : GoodIn wsX6_bound wsX0_solve := goodIn_r _ [22, 23, 24, 25, 26, 27, 28, 29, 21, 30, 31, 32, 33, 34, 35, 36, 37, 38, 39, 40, 41, 42, 43, 44, 45, 46, 47, 48, 49, 50, 51, 52, 16, 53, 54, 55, 56, 57, 58, 59, 60, 61, 62, 63, 64, 65, 66, 67, 68, 69, 70, 71, 72, 73, 74, 75, 76, 77, 78, 79, 80, 81, 82, 83, 84, 85, 86, 87, 88, 89, 90, 91, 92, 93, 94, 95, 96, 97, 98, 99, 100, 101, 102, 103, 104, 105, 148, 149, 150, 151, 152, 153, 154, 155, 156, 157, 158, 159, 160, 140, 141, 142, 143, 144, 145, 146, 147] (by decide +kernel) (by decide +kernel)
set_option maxRecDepth 20000 in
theorem gX6_bound_X0_solve : GoodIn wsX6_bound (wsV RX6 121 RX0 yX0_solve wsX0_solve) := goodIn_app (goodIn_of _ (by decide +kernel)) ggX6_bound_X0_solve
set_option maxRecDepth 20000 in
theorem ggX6_bound_X6_isEndless : GoodIn wsX6_bound wsX6_isEndless := goodIn_r _ [109, 1, 110, 111, 112, 11, 113, 114, 115, 116, 117, 118, 119, 120, 52, 16, 53, 135, 136, 137, 138, 139, 140, 141, 142, 143, 144, 145, 146, 147] (by decide +kernel) (by decide +kernel)
set_option maxRecDepth 20000 in
theorem gX6_bound_X6_isEndless : GoodIn wsX6_bound (wsV RX6 135 RX6 yX6_isEndless wsX6_isEndless) := goodIn_app (goodIn_of _ (by decide +kernel)) ggX6_bound_X6_isEndless
set_option maxRecDepth 20000 in
theorem ggX6_bound_X0_goToEnd : GoodIn wsX6_bound wsX0_goToEnd := goodIn_r _ [124, 35, 59, 60, 61, 21, 62, 32, 63, 64, 52, 16, 53, 65, 66, 67, 68, 69, 70, 71, 72, 73, 34, 74, 75, 76, 77, 33, 58, 36, 25, 78, 79, 80, 81, 82, 83, 84, 85, 86, 87, 88, 89, 90, 91, 92, 93, 94, 95, 96, 97, 148, 149, 150, 151, 152, 153, 154, 155, 156, 157, 158, 159, 160] (by decide +kernel) (by decide +kernel)
set_option maxRecDepth 20000 in
theorem gX6_bound_X0_goToEnd : GoodIn wsX6_bound (wsV RX6 141 RX0 yX0_goToEnd wsX0_goToEnd) := goodIn_app (goodIn_of _ (by decide +kernel)) ggX6_bound_X0_goToEnd
set_option maxRecDepth 20000 in
theorem ggX6_bound_X0_upperOf : GoodIn wsX6_bound wsX0_upperOf := goodIn_r _ [128, 33, 58, 36, 25, 52, 16, 53, 148, 149, 150, 151, 152, 153, 154, 155, 156, 157, 158, 159, 160] (by decide +kernel) (by decide +kernel)
set_option maxRecDepth 20000 in
theorem gX6_bound_X0_upperOf : GoodIn wsX6_bound (wsV RX6 145 RX0 yX0_upperOf wsX0_upperOf) := goodIn_app (goodIn_of _ (by decide +kernel)) ggX6_bound_X0_upperOf
set_option maxRecDepth 20000 in
theorem ggX6_bound_X6_partOfFraction : GoodIn wsX6_bound wsX6_partOfFraction := goodIn_r _ [131, 132, 133, 16, 134] (by decide +kernel) (by decide +kernel)
set_option maxRecDepth 20000 in
theorem gX6_bound_X6_partOfFraction : GoodIn wsX6_bound (va_wsS RX6 153 yX6_partOfFraction wsX6_partOfFraction) := goodIn_app (goodIn_of _ (by decide +kernel)) ggX6_bound_X6_partOfFraction
set_option maxRecDepth 20000 in
theorem ggX6_shown_X2_hasLine : GoodIn wsX6_shown wsX2_hasLine := goodIn_r _ [13, 14, 153, 154, 155, 156, 157, 158, 159, 160] (by decide +kernel) (by decide +kernel)
set_option maxRecDepth 20000 in
theorem gX6_shown_X2_hasLine : GoodIn wsX6_shown (wsV RX6 157 RX2 yX2_hasLine wsX2_hasLine) := goodIn_app (goodIn_of _ (by decide +kernel)) ggX6_shown_X2_hasLine
end
section
set_option maxRecDepth 20000 in
theorem ggX6_shown_X2_isLineSet : GoodIn wsX6_shown wsX2_isLineSet := goodIn_r _ [18, 14, 153, 154, 155, 156, 157, 158, 159, 160] (by decide +kernel) (by decide +kernel)
set_option maxRecDepth 20000 in
theorem gX6_shown_X2_isLineSet : GoodIn wsX6_shown (wsV RX6 125 RX2 yX2_isLineSet wsX2_isLineSet) := goodIn_app (goodIn_of _ (by decide +kernel)) ggX6_shown_X2_isLineSet
set_option maxRecDepth 20000 in
theorem ggX6_shown_X6_isZeroOrOne : GoodIn wsX6_shown wsX6_isZeroOrOne := goodIn_r _ [22] (by decide +kernel) (by decide +kernel)
set_option maxRecDepth 20000 in
theorem gX6_shown_X6_isZeroOrOne : GoodIn wsX6_shown (va_wsS RX6 128 yX6_isZeroOrOne wsX6_isZeroOrOne) := goodIn_app (goodIn_of _ (by decide +kernel)) ggX6_shown_X6_isZeroOrOne
set_option maxRecDepth 20000 in
theorem ggX6_shown_X0_solve : GoodIn wsX6_shown wsX0_solve := goodIn_r _ [27, 28, 29, 30, 31, 32, 33, 34, 26, 35, 36, 37, 38, 39, 40, 41, 42, 43, 44, 45, 46, 47, 48, 49, 50, 51, 52, 53, 54, 55, 56, 57, 21, 58, 59, 60, 61, 62, 63, 64, 65, 66, 67, 68, 69, 70, 71, 72, 73, 74, 75, 76, 77, 78, 79, 80, 81, 82, 83, 84, 85, 86, 87, 88, 89, 90, 91, 92, 93, 94, 95, 96, 97, 98, 99, 100, 101, 102, 103, 104, 105, 106, 107, 108, 109, 110, 161, 162, 163, 164, 165, 166, 167, 168, 169, 170, 171, 172, 173, 153, 154, 155, 156, 157, 158, 159, 160] (by decide +kernel) (by decide +kernel)
set_option maxRecDepth 20000 in
theorem gX6_shown_X0_solve : GoodIn wsX6_shown (wsV RX6 121 RX0 yX0_solve wsX0_solve) := goodIn_app (goodIn_of _ (by decide +kernel)) ggX6_shown_X0_solve
set_option maxRecDepth 20000 in
theorem ggX6_shown_X6_isEndless : GoodIn wsX6_shown wsX6_isEndless := goodIn_r _ [114, 1, 115, 116, 117, 12, 118, 119, 120, 121, 122, 123, 124, 125, 57, 21, 58, 148, 149, 150, 151, 152, 153, 154, 155, 156, 157, 158, 159, 160] (by decide +kernel) (by decide +kernel)
set_option maxRecDepth 20000 in
theorem gX6_shown_X6_isEndless : GoodIn wsX6_shown (wsV RX6 135 RX6 yX6_isEndless wsX6_isEndless) := goodIn_app (goodIn_of _ (by decide +kernel)) ggX6_shown_X6_isEndless
set_option maxRecDepth 20000 in
theorem ggX6_shown_X0_goToEnd : GoodIn wsX6_shown wsX0_goToEnd := goodIn_r _ [129, 40, 64, 65, 66, 26, 67, 37, 68, 69, 57, 21, 58, 70, 71, 72, 73, 74, 75, 76, 77, 78, 39, 79, 80, 81, 82, 38, 63, 41, 30, 83, 84, 85, 86, 87, 88, 89, 90, 91, 92, 93, 94, 95, 96, 97, 98, 99, 100, 101, 102, 161, 162, 163, 164, 165, 166, 167, 168, 169, 170, 171, 172, 173] (by decide +kernel) (by decide +kernel)
set_option maxRecDepth 20000 in
theorem gX6_shown_X0_goToEnd : GoodIn wsX6_shown (wsV RX6 141 RX0 yX0_goToEnd wsX0_goToEnd) := goodIn_app (goodIn_of _ (by decide +kernel)) ggX6_shown_X0_goToEnd
set_option maxRecDepth 20000 in
theorem ggX6_shown_X0_leastInTurnUpTo : GoodIn wsX6_shown wsX0_leastInTurnUpTo := goodIn_r _ [133, 37, 134, 135, 136, 26, 137, 39, 68, 40, 79, 80, 81, 82, 38, 63, 69, 41, 30, 64, 65, 66, 67, 57, 21, 58, 70, 71, 72, 73, 74, 75, 76, 77, 78, 83, 84, 85, 86, 87, 88, 89, 90, 91, 92, 93, 94, 95, 96, 97, 98, 99, 100, 101, 102, 161, 162, 163, 164, 165, 166, 167, 168, 169, 170, 171, 172, 173] (by decide +kernel) (by decide +kernel)
set_option maxRecDepth 20000 in
theorem gX6_shown_X0_leastInTurnUpTo : GoodIn wsX6_shown (wsV RX6 162 RX0 yX0_leastInTurnUpTo wsX0_leastInTurnUpTo) := goodIn_app (goodIn_of _ (by decide +kernel)) ggX6_shown_X0_leastInTurnUpTo
set_option maxRecDepth 20000 in
theorem ggX6_shown_X0_upperOf : GoodIn wsX6_shown wsX0_upperOf := goodIn_r _ [141, 38, 63, 41, 30, 57, 21, 58, 161, 162, 163, 164, 165, 166, 167, 168, 169, 170, 171, 172, 173] (by decide +kernel) (by decide +kernel)
set_option maxRecDepth 20000 in
theorem gX6_shown_X0_upperOf : GoodIn wsX6_shown (wsV RX6 145 RX0 yX0_upperOf wsX0_upperOf) := goodIn_app (goodIn_of _ (by decide +kernel)) ggX6_shown_X0_upperOf
set_option maxRecDepth 20000 in
theorem ggX6_shown_X6_partOfFraction : GoodIn wsX6_shown wsX6_partOfFraction := goodIn_r _ [144, 145, 146, 21, 147] (by decide +kernel) (by decide +kernel)
set_option maxRecDepth 20000 in
theorem gX6_shown_X6_partOfFraction : GoodIn wsX6_shown (va_wsS RX6 153 yX6_partOfFraction wsX6_partOfFraction) := goodIn_app (goodIn_of _ (by decide +kernel)) ggX6_shown_X6_partOfFraction
set_option maxRecDepth 20000 in
theorem ggX6_settled_X2_hasLine : GoodIn wsX6_settled wsX2_hasLine := goodIn_r _ [8, 9, 132, 133, 134, 135, 136, 137, 138, 139] (by decide +kernel) (by decide +kernel)
set_option maxRecDepth 20000 in
theorem gX6_settled_X2_hasLine : GoodIn wsX6_settled (wsV RX6 157 RX2 yX2_hasLine wsX2_hasLine) := goodIn_app (goodIn_of _ (by decide +kernel)) ggX6_settled_X2_hasLine
set_option maxRecDepth 20000 in
theorem ggX6_settled_X0_solve : GoodIn wsX6_settled wsX0_solve := goodIn_r _ [14, 15, 16, 17, 18, 19, 20, 21, 13, 22, 23, 24, 25, 26, 27, 28, 29, 30, 31, 32, 33, 34, 35, 36, 37, 38, 39, 40, 41, 42, 43, 44, 45, 46, 47, 48, 49, 50, 51, 52, 53, 54, 55, 56, 57, 58, 59, 60, 61, 62, 63, 64, 65, 66, 67, 68, 69, 70, 71, 72, 73, 74, 75, 76, 77, 78, 79, 80, 81, 82, 83, 84, 85, 86, 87, 88, 89, 90, 91, 92, 93, 94, 95, 96, 97, 98, 140, 141, 142, 143, 144, 145, 146, 147, 148, 149, 150, 151, 152, 132, 133, 134, 135, 136, 137, 138, 139] (by decide +kernel) (by decide +kernel)
set_option maxRecDepth 20000 in
theorem gX6_settled_X0_solve : GoodIn wsX6_settled (wsV RX6 121 RX0 yX0_solve wsX0_solve) := goodIn_app (goodIn_of _ (by decide +kernel)) ggX6_settled_X0_solve
set_option maxRecDepth 20000 in
theorem ggX6_settled_X6_isSettledLine : GoodIn wsX6_settled wsX6_isSettledLine := goodIn_r _ [102, 2, 103, 104, 105, 106, 45, 107, 1, 108, 109, 110, 7, 111, 112, 113, 114, 115, 116, 117, 118, 44, 46, 119, 120, 121, 13, 122, 27, 52, 53, 54, 55, 24, 56, 57, 58, 59, 60, 61, 62, 63, 64, 65, 66, 26, 67, 68, 69, 70, 25, 51, 28, 17, 71, 72, 73, 74, 75, 76, 77, 78, 79, 80, 81, 82, 83, 84, 85, 86, 87, 88, 89, 90, 123, 124, 125, 126, 127, 128, 129, 130, 131, 140, 141, 142, 143, 144, 145, 146, 147, 148, 149, 150, 151, 152, 132, 133, 134, 135, 136, 137, 138, 139] (by decide +kernel) (by decide +kernel)
set_option maxRecDepth 20000 in
theorem gX6_settled_X6_isSettledLine : GoodIn wsX6_settled (wsV RX6 165 RX6 yX6_isSettledLine wsX6_isSettledLine) := goodIn_app (goodIn_of _ (by decide +kernel)) ggX6_settled_X6_isSettledLine
set_option maxRecDepth 20000 in
theorem ggX6_known_X2_hasLine : GoodIn wsX6_known wsX2_hasLine := goodIn_r _ [7, 8, 64, 65, 66, 67, 68, 69, 70, 71] (by decide +kernel) (by decide +kernel)
set_option maxRecDepth 20000 in
theorem gX6_known_X2_hasLine : GoodIn wsX6_known (wsV RX6 157 RX2 yX2_hasLine wsX2_hasLine) := goodIn_app (goodIn_of _ (by decide +kernel)) ggX6_known_X2_hasLine
set_option maxRecDepth 20000 in
theorem ggX6_known_X5_linesFromWays : GoodIn wsX6_known wsX5_linesFromWays := goodIn_r _ [13, 14, 15, 16, 17, 12, 18, 19, 20, 21, 22, 23, 24, 25, 26, 27, 28, 29, 30, 31, 32, 6, 33, 34, 35, 36, 37, 38, 39, 40, 41, 42, 43, 44, 45, 46, 47, 48, 49, 50, 51, 52, 53, 54, 55, 56, 57, 72, 73, 74, 75, 76, 77, 64, 65, 66, 67, 68, 69, 70, 71] (by decide +kernel) (by decide +kernel)
set_option maxRecDepth 20000 in
theorem gX6_known_X5_linesFromWays : GoodIn wsX6_known (wsV RX6 112 RX5 yX5_linesFromWays wsX5_linesFromWays) := goodIn_app (goodIn_of _ (by decide +kernel)) ggX6_known_X5_linesFromWays
set_option maxRecDepth 20000 in
theorem ggX6_known_X6_bitOf : GoodIn wsX6_known wsX6_bitOf := goodIn_r _ [37] (by decide +kernel) (by decide +kernel)
set_option maxRecDepth 20000 in
theorem gX6_known_X6_bitOf : GoodIn wsX6_known (va_wsS RX6 82 yX6_bitOf wsX6_bitOf) := goodIn_app (goodIn_of _ (by decide +kernel)) ggX6_known_X6_bitOf
set_option maxRecDepth 20000 in
theorem ggX6_group_X2_hasLine : GoodIn wsX6_group wsX2_hasLine := goodIn_r _ [6, 7, 27, 28, 29, 30, 31, 32, 33, 34] (by decide +kernel) (by decide +kernel)
set_option maxRecDepth 20000 in
theorem gX6_group_X2_hasLine : GoodIn wsX6_group (wsV RX6 157 RX2 yX2_hasLine wsX2_hasLine) := goodIn_app (goodIn_of _ (by decide +kernel)) ggX6_group_X2_hasLine
set_option maxRecDepth 20000 in
theorem ggX6_group_X2_linesAlike : GoodIn wsX6_group wsX2_linesAlike := goodIn_r _ [11, 7, 12, 13, 14, 15, 16, 5, 17, 18, 19, 20, 21, 27, 28, 29, 30, 31, 32, 33, 34] (by decide +kernel) (by decide +kernel)
set_option maxRecDepth 20000 in
theorem gX6_group_X2_linesAlike : GoodIn wsX6_group (wsV RX6 168 RX2 yX2_linesAlike wsX2_linesAlike) := goodIn_app (goodIn_of _ (by decide +kernel)) ggX6_group_X2_linesAlike
set_option maxRecDepth 20000 in
theorem ggX6_lying_X1_leastSets : GoodIn wsX6_lying wsX1_leastSets := goodIn_r _ [8, 9, 10, 11, 12, 13, 14, 15, 16, 17, 18, 19, 20, 21, 22, 23, 24, 25, 26, 27, 28, 29, 7, 30, 31, 32, 33, 34, 35, 36, 37, 38, 39, 40, 41, 42, 43, 44, 45, 46, 47, 48, 49, 50, 51, 52, 53, 54, 55, 56, 57, 58, 59, 60, 61, 62, 63, 64, 65, 66, 67, 68, 69, 70, 71, 72, 73, 74, 75, 76, 77, 78, 79, 80, 81, 82, 83, 84, 85, 86, 87, 88, 89, 90, 91, 92, 93, 94, 95, 96, 97, 98, 99, 100, 101, 102, 103, 104, 105, 106, 107, 108, 109, 110, 111, 112, 113, 114, 115, 116, 117, 118, 119, 120, 121, 122, 123, 124, 125, 126, 127, 128, 129, 130, 140, 141, 142, 143, 144, 145, 146, 147, 148, 149, 150, 151, 152, 153, 154, 155, 156, 157, 158, 159, 160, 161, 162, 163, 164, 165] (by decide +kernel) (by decide +kernel)
set_option maxRecDepth 20000 in
theorem gX6_lying_X1_leastSets : GoodIn wsX6_lying (wsV RX6 171 RX1 yX1_leastSets wsX1_leastSets) := goodIn_app (goodIn_of _ (by decide +kernel)) ggX6_lying_X1_leastSets
set_option maxRecDepth 20000 in
theorem ggX6_lying_X3_answer : GoodIn wsX6_lying wsX3_answer := goodIn_r _ [134, 19, 124, 151, 152] (by decide +kernel) (by decide +kernel)
set_option maxRecDepth 20000 in
theorem gX6_lying_X3_answer : GoodIn wsX6_lying (wsV RX6 175 RX3 yX3_answer wsX3_answer) := goodIn_app (goodIn_of _ (by decide +kernel)) ggX6_lying_X3_answer
set_option maxRecDepth 20000 in
theorem ggX6_offer_X2_isFilledLineSet : GoodIn wsX6_offer wsX2_isFilledLineSet := goodIn_r _ [7, 8, 9, 10, 6, 11, 12, 24, 25, 26, 27, 28, 29, 30, 31] (by decide +kernel) (by decide +kernel)
set_option maxRecDepth 20000 in
theorem gX6_offer_X2_isFilledLineSet : GoodIn wsX6_offer (wsV RX6 55 RX2 yX2_isFilledLineSet wsX2_isFilledLineSet) := goodIn_app (goodIn_of _ (by decide +kernel)) ggX6_offer_X2_isFilledLineSet
set_option maxRecDepth 20000 in
theorem ggX6_offer_X2_addOffer : GoodIn wsX6_offer wsX2_addOffer := goodIn_r _ [16, 17, 18, 24, 25, 26, 27, 28, 29, 30, 31] (by decide +kernel) (by decide +kernel)
set_option maxRecDepth 20000 in
theorem gX6_offer_X2_addOffer : GoodIn wsX6_offer (wsV RX6 180 RX2 yX2_addOffer wsX2_addOffer) := goodIn_app (goodIn_of _ (by decide +kernel)) ggX6_offer_X2_addOffer
set_option maxRecDepth 20000 in
theorem ggX6_offered_X2_hasOffer : GoodIn wsX6_offered wsX2_hasOffer := goodIn_r _ [7, 8, 23, 24, 25, 26, 27, 28, 29, 30] (by decide +kernel) (by decide +kernel)
set_option maxRecDepth 20000 in
theorem gX6_offered_X2_hasOffer : GoodIn wsX6_offered (wsV RX6 183 RX2 yX2_hasOffer wsX2_hasOffer) := goodIn_app (goodIn_of _ (by decide +kernel)) ggX6_offered_X2_hasOffer
set_option maxRecDepth 20000 in
theorem ggX6_offered_X2_isFilledLineSet : GoodIn wsX6_offered wsX2_isFilledLineSet := goodIn_r _ [12, 13, 14, 15, 6, 16, 17, 23, 24, 25, 26, 27, 28, 29, 30] (by decide +kernel) (by decide +kernel)
set_option maxRecDepth 20000 in
theorem gX6_offered_X2_isFilledLineSet : GoodIn wsX6_offered (wsV RX6 55 RX2 yX2_isFilledLineSet wsX2_isFilledLineSet) := goodIn_app (goodIn_of _ (by decide +kernel)) ggX6_offered_X2_isFilledLineSet
set_option maxRecDepth 20000 in
theorem ggX6_advice_X2_isLineSet : GoodIn wsX6_advice wsX2_isLineSet := goodIn_r _ [7, 8, 92, 93, 94, 95, 96, 97, 98, 99] (by decide +kernel) (by decide +kernel)
set_option maxRecDepth 20000 in
theorem gX6_advice_X2_isLineSet : GoodIn wsX6_advice (wsV RX6 125 RX2 yX2_isLineSet wsX2_isLineSet) := goodIn_app (goodIn_of _ (by decide +kernel)) ggX6_advice_X2_isLineSet
set_option maxRecDepth 20000 in
theorem ggX6_advice_X5_fewestOffers : GoodIn wsX6_advice wsX5_fewestOffers := goodIn_r _ [13, 14, 15, 16, 17, 18, 12, 19, 20, 21, 22, 23, 24, 25, 26, 27, 28, 29, 30, 31, 32, 33, 6, 34, 35, 36, 37, 38, 39, 40, 41, 42, 43, 44, 45, 46, 47, 48, 49, 50, 51, 52, 53, 54, 55, 56, 57, 58, 59, 60, 61, 62, 63, 64, 65, 66, 67, 68, 69, 70, 71, 72, 73, 74, 75, 76, 77, 78, 79, 80, 81, 82, 83, 84, 85, 86, 100, 101, 102, 103, 104, 105, 92, 93, 94, 95, 96, 97, 98, 99] (by decide +kernel) (by decide +kernel)
set_option maxRecDepth 20000 in
theorem gX6_advice_X5_fewestOffers : GoodIn wsX6_advice (wsV RX6 189 RX5 yX5_fewestOffers wsX5_fewestOffers) := goodIn_app (goodIn_of _ (by decide +kernel)) ggX6_advice_X5_fewestOffers
set_option maxRecDepth 20000 in
theorem ggX6_sick_X4_leastSets : GoodIn wsX6_sick wsX4_leastSets := goodIn_r _ [7, 8, 9, 10, 11, 12, 13, 14, 15, 16, 6, 17, 18, 19, 20, 21, 22, 23, 24, 25, 26, 27, 28, 29, 30, 31, 32, 33, 34, 35, 36, 37, 38, 39, 40, 41, 42, 43, 44, 45, 55, 56, 57, 58, 59, 60, 61, 62, 63, 64, 65] (by decide +kernel) (by decide +kernel)
set_option maxRecDepth 20000 in
theorem gX6_sick_X4_leastSets : GoodIn wsX6_sick (wsV RX6 193 RX4 yX4_leastSets wsX4_leastSets) := goodIn_app (goodIn_of _ (by decide +kernel)) ggX6_sick_X4_leastSets
set_option maxRecDepth 20000 in
theorem ggX6_sick_X3_answer : GoodIn wsX6_sick wsX3_answer := goodIn_r _ [49, 14, 45, 56, 57] (by decide +kernel) (by decide +kernel)
set_option maxRecDepth 20000 in
theorem gX6_sick_X3_answer : GoodIn wsX6_sick (wsV RX6 175 RX3 yX3_answer wsX3_answer) := goodIn_app (goodIn_of _ (by decide +kernel)) ggX6_sick_X3_answer
set_option maxRecDepth 20000 in
theorem ggX6_pair_X6_isPair : GoodIn wsX6_pair wsX6_isPair := goodIn_r _ [6, 7] (by decide +kernel) (by decide +kernel)
set_option maxRecDepth 20000 in
theorem gX6_pair_X6_isPair : GoodIn wsX6_pair (va_wsS RX6 196 yX6_isPair wsX6_isPair) := goodIn_app (goodIn_of _ (by decide +kernel)) ggX6_pair_X6_isPair
set_option maxRecDepth 20000 in
theorem ggX6_pair_X6_isZeroOrOne : GoodIn wsX6_pair wsX6_isZeroOrOne := goodIn_r _ [10] (by decide +kernel) (by decide +kernel)
set_option maxRecDepth 20000 in
theorem gX6_pair_X6_isZeroOrOne : GoodIn wsX6_pair (va_wsS RX6 128 yX6_isZeroOrOne wsX6_isZeroOrOne) := goodIn_app (goodIn_of _ (by decide +kernel)) ggX6_pair_X6_isZeroOrOne
set_option maxRecDepth 20000 in
theorem ggX6_pair_X6_partOfFraction : GoodIn wsX6_pair wsX6_partOfFraction := goodIn_r _ [13, 14, 15, 5, 16] (by decide +kernel) (by decide +kernel)
set_option maxRecDepth 20000 in
theorem gX6_pair_X6_partOfFraction : GoodIn wsX6_pair (va_wsS RX6 153 yX6_partOfFraction wsX6_partOfFraction) := goodIn_app (goodIn_of _ (by decide +kernel)) ggX6_pair_X6_partOfFraction
set_option maxRecDepth 20000 in
theorem ggX6_forgetAnswers_X0_forget : GoodIn wsX6_forgetAnswers wsX0_forget := goodIn_r _ [7, 8, 20, 21, 22, 23, 24, 25, 26, 27, 28, 29, 30, 31, 32] (by decide +kernel) (by decide +kernel)
set_option maxRecDepth 20000 in
theorem gX6_forgetAnswers_X0_forget : GoodIn wsX6_forgetAnswers (wsV RX6 200 RX0 yX0_forget wsX0_forget) := goodIn_app (goodIn_of _ (by decide +kernel)) ggX6_forgetAnswers_X0_forget
set_option maxRecDepth 20000 in
theorem ggX6_forgetAnswers_X1_forget : GoodIn wsX6_forgetAnswers wsX1_forget := goodIn_r _ [13, 14, 33, 34, 35] (by decide +kernel) (by decide +kernel)
set_option maxRecDepth 20000 in
theorem gX6_forgetAnswers_X1_forget : GoodIn wsX6_forgetAnswers (wsV RX6 203 RX1 yX1_forget wsX1_forget) := goodIn_app (goodIn_of _ (by decide +kernel)) ggX6_forgetAnswers_X1_forget
set_option maxRecDepth 20000 in
theorem ggX6_isEndless_X2_seenLines : GoodIn wsX6_isEndless wsX2_seenLines := goodIn_r _ [6, 7, 8, 9, 10, 11, 5, 12, 13, 14, 15, 16, 22, 23, 24, 25, 26, 27, 28, 29] (by decide +kernel) (by decide +kernel)
set_option maxRecDepth 20000 in
theorem gX6_isEndless_X2_seenLines : GoodIn wsX6_isEndless (wsV RX6 105 RX2 yX2_seenLines wsX2_seenLines) := goodIn_app (goodIn_of _ (by decide +kernel)) ggX6_isEndless_X2_seenLines
set_option maxRecDepth 20000 in
theorem ggX6_settledLines_X0_solve : GoodIn wsX6_settledLines wsX0_solve := goodIn_r _ [9, 10, 11, 12, 13, 14, 15, 16, 8, 17, 18, 19, 20, 21, 22, 23, 24, 25, 26, 27, 28, 29, 30, 31, 32, 33, 34, 35, 36, 37, 38, 39, 40, 41, 42, 43, 44, 45, 46, 47, 48, 49, 50, 51, 52, 53, 54, 55, 56, 57, 58, 59, 60, 61, 62, 63, 64, 65, 66, 67, 68, 69, 70, 71, 72, 73, 74, 75, 76, 77, 78, 79, 80, 81, 82, 83, 84, 85, 86, 87, 88, 89, 90, 91, 92, 93, 136, 137, 138, 139, 140, 141, 142, 143, 144, 145, 146, 147, 148, 128, 129, 130, 131, 132, 133, 134, 135] (by decide +kernel) (by decide +kernel)
set_option maxRecDepth 20000 in
theorem gX6_settledLines_X0_solve : GoodIn wsX6_settledLines (wsV RX6 121 RX0 yX0_solve wsX0_solve) := goodIn_app (goodIn_of _ (by decide +kernel)) ggX6_settledLines_X0_solve
set_option maxRecDepth 20000 in
theorem ggX6_settledLines_X6_isSettledLine : GoodIn wsX6_settledLines wsX6_isSettledLine := goodIn_r _ [97, 1, 98, 99, 100, 101, 40, 102, 2, 103, 104, 105, 106, 107, 108, 109, 110, 111, 112, 113, 114, 39, 41, 115, 116, 117, 8, 118, 22, 47, 48, 49, 50, 19, 51, 52, 53, 54, 55, 56, 57, 58, 59, 60, 61, 21, 62, 63, 64, 65, 20, 46, 23, 12, 66, 67, 68, 69, 70, 71, 72, 73, 74, 75, 76, 77, 78, 79, 80, 81, 82, 83, 84, 85, 119, 120, 121, 122, 123, 124, 125, 126, 127, 136, 137, 138, 139, 140, 141, 142, 143, 144, 145, 146, 147, 148, 128, 129, 130, 131, 132, 133, 134, 135] (by decide +kernel) (by decide +kernel)
set_option maxRecDepth 20000 in
theorem gX6_settledLines_X6_isSettledLine : GoodIn wsX6_settledLines (wsV RX6 165 RX6 yX6_isSettledLine wsX6_isSettledLine) := goodIn_app (goodIn_of _ (by decide +kernel)) ggX6_settledLines_X6_isSettledLine
set_option maxRecDepth 20000 in
theorem ggX6_isSettledLine_X6_isEndless : GoodIn wsX6_isSettledLine wsX6_isEndless := goodIn_r _ [7, 8, 9, 10, 11, 12, 13, 14, 15, 16, 17, 18, 19, 20, 21, 6, 22, 78, 79, 80, 81, 82, 96, 97, 98, 99, 100, 101, 102, 103] (by decide +kernel) (by decide +kernel)
set_option maxRecDepth 20000 in
theorem gX6_isSettledLine_X6_isEndless : GoodIn wsX6_isSettledLine (wsV RX6 135 RX6 yX6_isEndless wsX6_isEndless) := goodIn_app (goodIn_of _ (by decide +kernel)) ggX6_isSettledLine_X6_isEndless
set_option maxRecDepth 20000 in
theorem ggX6_isSettledLine_X0_goToEnd : GoodIn wsX6_isSettledLine wsX0_goToEnd := goodIn_r _ [27, 28, 29, 30, 31, 26, 32, 33, 34, 35, 21, 6, 22, 36, 37, 38, 39, 40, 41, 42, 43, 44, 45, 46, 47, 48, 49, 50, 51, 52, 53, 54, 55, 56, 57, 58, 59, 60, 61, 62, 63, 64, 65, 66, 67, 68, 69, 70, 71, 72, 73, 83, 84, 85, 86, 87, 88, 89, 90, 91, 92, 93, 94, 95] (by decide +kernel) (by decide +kernel)
set_option maxRecDepth 20000 in
theorem gX6_isSettledLine_X0_goToEnd : GoodIn wsX6_isSettledLine (wsV RX6 141 RX0 yX0_goToEnd wsX0_goToEnd) := goodIn_app (goodIn_of _ (by decide +kernel)) ggX6_isSettledLine_X0_goToEnd
set_option maxRecDepth 20000 in
theorem ggX6_isSettledLine_X0_upperOf : GoodIn wsX6_isSettledLine wsX0_upperOf := goodIn_r _ [77, 50, 51, 52, 53, 21, 6, 22, 83, 84, 85, 86, 87, 88, 89, 90, 91, 92, 93, 94, 95] (by decide +kernel) (by decide +kernel)
set_option maxRecDepth 20000 in
theorem gX6_isSettledLine_X0_upperOf : GoodIn wsX6_isSettledLine (wsV RX6 145 RX0 yX0_upperOf wsX0_upperOf) := goodIn_app (goodIn_of _ (by decide +kernel)) ggX6_isSettledLine_X0_upperOf
set_option maxRecDepth 20000 in
theorem ggX6_partOfFraction_X6_greatestDivisor : GoodIn wsX6_partOfFraction wsX6_greatestDivisor := goodIn_r _ [4] (by decide +kernel) (by decide +kernel)
set_option maxRecDepth 20000 in
theorem gX6_partOfFraction_X6_greatestDivisor : GoodIn wsX6_partOfFraction (va_wsS RX6 206 yX6_greatestDivisor wsX6_greatestDivisor) := goodIn_app (goodIn_of _ (by decide +kernel)) ggX6_partOfFraction_X6_greatestDivisor
set_option maxRecDepth 20000 in
theorem ggX7_noSet_X7_in : GoodIn wsX7_noSet wsX7_in := goodIn_r _ [5] (by decide +kernel) (by decide +kernel)
set_option maxRecDepth 20000 in
theorem gX7_noSet_X7_in : GoodIn wsX7_noSet (va_wsS RX7 46 yX7_in wsX7_in) := goodIn_app (goodIn_of _ (by decide +kernel)) ggX7_noSet_X7_in
set_option maxRecDepth 20000 in
theorem ggX7_lines_X7_in : GoodIn wsX7_lines wsX7_in := goodIn_r _ [8] (by decide +kernel) (by decide +kernel)
set_option maxRecDepth 20000 in
theorem gX7_lines_X7_in : GoodIn wsX7_lines (va_wsS RX7 46 yX7_in wsX7_in) := goodIn_app (goodIn_of _ (by decide +kernel)) ggX7_lines_X7_in
set_option maxRecDepth 20000 in
theorem ggX7_way_X7_noSet : GoodIn wsX7_way wsX7_noSet := goodIn_r _ [11, 12, 13, 14, 10, 15, 16, 17, 18, 19, 20, 21, 22, 23, 24, 25, 26, 27, 28, 29, 30, 31, 32, 33] (by decide +kernel) (by decide +kernel)
set_option maxRecDepth 20000 in
theorem gX7_way_X7_noSet : GoodIn wsX7_way (wsV RX7 58 RX7 yX7_noSet wsX7_noSet) := goodIn_app (goodIn_of _ (by decide +kernel)) ggX7_way_X7_noSet
set_option maxRecDepth 20000 in
theorem ggX7_way_X7_in : GoodIn wsX7_way wsX7_in := goodIn_r _ [15] (by decide +kernel) (by decide +kernel)
set_option maxRecDepth 20000 in
theorem gX7_way_X7_in : GoodIn wsX7_way (va_wsS RX7 46 yX7_in wsX7_in) := goodIn_app (goodIn_of _ (by decide +kernel)) ggX7_way_X7_in
set_option maxRecDepth 20000 in
theorem ggX7_noWay_X7_in : GoodIn wsX7_noWay wsX7_in := goodIn_r _ [5] (by decide +kernel) (by decide +kernel)
set_option maxRecDepth 20000 in
theorem gX7_noWay_X7_in : GoodIn wsX7_noWay (va_wsS RX7 46 yX7_in wsX7_in) := goodIn_app (goodIn_of _ (by decide +kernel)) ggX7_noWay_X7_in
set_option maxRecDepth 20000 in
theorem ggX7_sum_X7_noWay : GoodIn wsX7_sum wsX7_noWay := goodIn_r _ [7, 8, 9, 10, 6, 11, 12, 13, 14, 15, 16, 17, 18, 19, 20, 21, 22, 23, 24, 25, 26, 27, 28, 29] (by decide +kernel) (by decide +kernel)
set_option maxRecDepth 20000 in
theorem gX7_sum_X7_noWay : GoodIn wsX7_sum (wsV RX7 64 RX7 yX7_noWay wsX7_noWay) := goodIn_app (goodIn_of _ (by decide +kernel)) ggX7_sum_X7_noWay
set_option maxRecDepth 20000 in
theorem ggX7_sum_X7_in : GoodIn wsX7_sum wsX7_in := goodIn_r _ [11] (by decide +kernel) (by decide +kernel)
set_option maxRecDepth 20000 in
theorem gX7_sum_X7_in : GoodIn wsX7_sum (va_wsS RX7 46 yX7_in wsX7_in) := goodIn_app (goodIn_of _ (by decide +kernel)) ggX7_sum_X7_in
set_option maxRecDepth 20000 in
theorem ggX7_over_X7_noWay : GoodIn wsX7_over wsX7_noWay := goodIn_r _ [6, 7, 8, 9, 5, 10, 16, 17, 18, 19, 20, 21, 22, 23, 24, 25, 26, 27, 28, 29, 30, 31, 32, 33] (by decide +kernel) (by decide +kernel)
set_option maxRecDepth 20000 in
theorem gX7_over_X7_noWay : GoodIn wsX7_over (wsV RX7 64 RX7 yX7_noWay wsX7_noWay) := goodIn_app (goodIn_of _ (by decide +kernel)) ggX7_over_X7_noWay
set_option maxRecDepth 20000 in
theorem ggX7_over_X7_noSet : GoodIn wsX7_over wsX7_noSet := goodIn_r _ [14, 15, 8, 9, 5, 10, 16, 17, 18, 19, 20, 21, 22, 23, 24, 25, 26, 27, 28, 29, 30, 31, 32, 33] (by decide +kernel) (by decide +kernel)
set_option maxRecDepth 20000 in
theorem gX7_over_X7_noSet : GoodIn wsX7_over (wsV RX7 58 RX7 yX7_noSet wsX7_noSet) := goodIn_app (goodIn_of _ (by decide +kernel)) ggX7_over_X7_noSet
set_option maxRecDepth 20000 in
theorem ggX7_on_X7_noWay : GoodIn wsX7_on wsX7_noWay := goodIn_r _ [6, 7, 8, 9, 5, 10, 11, 12, 13, 14, 15, 16, 17, 18, 19, 20, 21, 22, 23, 24, 25, 26, 27, 28] (by decide +kernel) (by decide +kernel)
set_option maxRecDepth 20000 in
theorem gX7_on_X7_noWay : GoodIn wsX7_on (wsV RX7 64 RX7 yX7_noWay wsX7_noWay) := goodIn_app (goodIn_of _ (by decide +kernel)) ggX7_on_X7_noWay
set_option maxRecDepth 20000 in
theorem ggX7_bad_X7_noWay : GoodIn wsX7_bad wsX7_noWay := goodIn_r _ [6, 7, 8, 9, 5, 10, 11, 12, 13, 14, 15, 16, 17, 18, 19, 20, 21, 22, 23, 24, 25, 26, 27, 28] (by decide +kernel) (by decide +kernel)
set_option maxRecDepth 20000 in
theorem gX7_bad_X7_noWay : GoodIn wsX7_bad (wsV RX7 64 RX7 yX7_noWay wsX7_noWay) := goodIn_app (goodIn_of _ (by decide +kernel)) ggX7_bad_X7_noWay
set_option maxRecDepth 20000 in
theorem ggX7_told_X7_noWay : GoodIn wsX7_told wsX7_noWay := goodIn_r _ [9, 10, 11, 12, 8, 13, 14, 15, 16, 17, 18, 19, 20, 21, 22, 23, 24, 25, 26, 27, 28, 29, 30, 31] (by decide +kernel) (by decide +kernel)
set_option maxRecDepth 20000 in
theorem gX7_told_X7_noWay : GoodIn wsX7_told (wsV RX7 64 RX7 yX7_noWay wsX7_noWay) := goodIn_app (goodIn_of _ (by decide +kernel)) ggX7_told_X7_noWay
set_option maxRecDepth 20000 in
theorem ggX7_rank_X7_addRow : GoodIn wsX7_rank wsX7_addRow := goodIn_r _ [12, 7, 13, 1, 26, 27, 28, 29, 30, 31, 32, 33, 34, 35, 36, 37, 38, 39, 40, 41, 42, 43] (by decide +kernel) (by decide +kernel)
set_option maxRecDepth 20000 in
theorem gX7_rank_X7_addRow : GoodIn wsX7_rank (wsV RX7 75 RX7 yX7_addRow wsX7_addRow) := goodIn_app (goodIn_of _ (by decide +kernel)) ggX7_rank_X7_addRow
set_option maxRecDepth 20000 in
theorem ggX7_rank_X7_findRow : GoodIn wsX7_rank wsX7_findRow := goodIn_r _ [17, 1, 13, 26, 27, 28, 29, 30, 31, 32, 33, 34, 35, 36, 37, 38, 39, 40, 41, 42, 43] (by decide +kernel) (by decide +kernel)
set_option maxRecDepth 20000 in
theorem gX7_rank_X7_findRow : GoodIn wsX7_rank (wsV RX7 79 RX7 yX7_findRow wsX7_findRow) := goodIn_app (goodIn_of _ (by decide +kernel)) ggX7_rank_X7_findRow
set_option maxRecDepth 20000 in
theorem ggX7_rank_X7_swap : GoodIn wsX7_rank wsX7_swap := goodIn_r _ [21, 13, 26, 27, 28, 29, 30, 31, 32, 33, 34, 35, 36, 37, 38, 39, 40, 41, 42, 43] (by decide +kernel) (by decide +kernel)
set_option maxRecDepth 20000 in
theorem gX7_rank_X7_swap : GoodIn wsX7_rank (wsV RX7 83 RX7 yX7_swap wsX7_swap) := goodIn_app (goodIn_of _ (by decide +kernel)) ggX7_rank_X7_swap
set_option maxRecDepth 20000 in
theorem ggX7_rank_X7_pivot : GoodIn wsX7_rank wsX7_pivot := goodIn_r _ [25, 13, 1, 6, 26, 27, 28, 29, 30, 31, 32, 33, 34, 35, 36, 37, 38, 39, 40, 41, 42, 43] (by decide +kernel) (by decide +kernel)
set_option maxRecDepth 20000 in
theorem gX7_rank_X7_pivot : GoodIn wsX7_rank (wsV RX7 87 RX7 yX7_pivot wsX7_pivot) := goodIn_app (goodIn_of _ (by decide +kernel)) ggX7_rank_X7_pivot
set_option maxRecDepth 20000 in
theorem ggX7_isKnown_X7_onSet : GoodIn wsX7_isKnown wsX7_onSet := goodIn_r _ [5, 6, 7, 35, 36, 37, 38, 39, 40, 41, 42, 43, 44, 45, 46, 47, 48, 49, 50, 51, 52] (by decide +kernel) (by decide +kernel)
set_option maxRecDepth 20000 in
theorem gX7_isKnown_X7_onSet : GoodIn wsX7_isKnown (wsV RX7 90 RX7 yX7_onSet wsX7_onSet) := goodIn_app (goodIn_of _ (by decide +kernel)) ggX7_isKnown_X7_onSet
set_option maxRecDepth 20000 in
theorem ggX7_isKnown_X7_rank : GoodIn wsX7_isKnown wsX7_rank := goodIn_r _ [11, 12, 6, 13, 14, 15, 16, 17, 18, 19, 20, 4, 21, 22, 23, 24, 25, 26, 27, 28, 29, 30, 31, 32, 33, 34, 35, 36, 37, 38, 39, 40, 41, 42, 43, 44, 45, 46, 47, 48, 49, 50, 51, 52] (by decide +kernel) (by decide +kernel)
set_option maxRecDepth 20000 in
theorem gX7_isKnown_X7_rank : GoodIn wsX7_isKnown (wsV RX7 94 RX7 yX7_rank wsX7_rank) := goodIn_app (goodIn_of _ (by decide +kernel)) ggX7_isKnown_X7_rank
set_option maxRecDepth 20000 in
theorem ggX7_doFit_X7_bits : GoodIn wsX7_doFit wsX7_bits := goodIn_r _ [12] (by decide +kernel) (by decide +kernel)
set_option maxRecDepth 20000 in
theorem gX7_doFit_X7_bits : GoodIn wsX7_doFit (va_wsS RX7 98 yX7_bits wsX7_bits) := goodIn_app (goodIn_of _ (by decide +kernel)) ggX7_doFit_X7_bits
set_option maxRecDepth 20000 in
theorem ggX7_doFit_X7_enter : GoodIn wsX7_doFit wsX7_enter := goodIn_r _ [16, 2, 4, 25, 26, 27, 28, 29, 30, 31, 32, 33, 34, 35, 36, 37, 38, 39, 40, 41, 42] (by decide +kernel) (by decide +kernel)
set_option maxRecDepth 20000 in
theorem gX7_doFit_X7_enter : GoodIn wsX7_doFit (wsV RX7 102 RX7 yX7_enter wsX7_enter) := goodIn_app (goodIn_of _ (by decide +kernel)) ggX7_doFit_X7_enter
set_option maxRecDepth 20000 in
theorem ggX7_doFit_X7_leave : GoodIn wsX7_doFit wsX7_leave := goodIn_r _ [20, 4, 7, 25, 26, 27, 28, 29, 30, 31, 32, 33, 34, 35, 36, 37, 38, 39, 40, 41, 42] (by decide +kernel) (by decide +kernel)
set_option maxRecDepth 20000 in
theorem gX7_doFit_X7_leave : GoodIn wsX7_doFit (wsV RX7 105 RX7 yX7_leave wsX7_leave) := goodIn_app (goodIn_of _ (by decide +kernel)) ggX7_doFit_X7_leave
set_option maxRecDepth 20000 in
theorem ggX7_doFit_X7_pivot : GoodIn wsX7_doFit wsX7_pivot := goodIn_r _ [24, 4, 1, 8, 25, 26, 27, 28, 29, 30, 31, 32, 33, 34, 35, 36, 37, 38, 39, 40, 41, 42] (by decide +kernel) (by decide +kernel)
set_option maxRecDepth 20000 in
theorem gX7_doFit_X7_pivot : GoodIn wsX7_doFit (wsV RX7 87 RX7 yX7_pivot wsX7_pivot) := goodIn_app (goodIn_of _ (by decide +kernel)) ggX7_doFit_X7_pivot
set_option maxRecDepth 20000 in
theorem ggX7_fits_X7_onSet : GoodIn wsX7_fits wsX7_onSet := goodIn_r _ [5, 6, 7, 34, 35, 36, 37, 38, 39, 40, 41, 42, 43, 44, 45, 46, 47, 48, 49, 50, 51] (by decide +kernel) (by decide +kernel)
set_option maxRecDepth 20000 in
theorem gX7_fits_X7_onSet : GoodIn wsX7_fits (wsV RX7 90 RX7 yX7_onSet wsX7_onSet) := goodIn_app (goodIn_of _ (by decide +kernel)) ggX7_fits_X7_onSet
set_option maxRecDepth 20000 in
theorem ggX7_fits_X7_doFit : GoodIn wsX7_fits wsX7_doFit := goodIn_r _ [11, 12, 13, 6, 14, 15, 16, 17, 18, 19, 20, 4, 21, 22, 23, 24, 25, 26, 27, 28, 29, 30, 31, 32, 33, 34, 35, 36, 37, 38, 39, 40, 41, 42, 43, 44, 45, 46, 47, 48, 49, 50, 51] (by decide +kernel) (by decide +kernel)
set_option maxRecDepth 20000 in
theorem gX7_fits_X7_doFit : GoodIn wsX7_fits (wsV RX7 108 RX7 yX7_doFit wsX7_doFit) := goodIn_app (goodIn_of _ (by decide +kernel)) ggX7_fits_X7_doFit
set_option maxRecDepth 20000 in
theorem ggX7_tries_X7_bits : GoodIn wsX7_tries wsX7_bits := goodIn_r _ [15] (by decide +kernel) (by decide +kernel)
set_option maxRecDepth 20000 in
theorem gX7_tries_X7_bits : GoodIn wsX7_tries (va_wsS RX7 98 yX7_bits wsX7_bits) := goodIn_app (goodIn_of _ (by decide +kernel)) ggX7_tries_X7_bits
set_option maxRecDepth 20000 in
theorem ggX7_tries_X7_findRow : GoodIn wsX7_tries wsX7_findRow := goodIn_r _ [19, 1, 5, 28, 29, 30, 31, 32, 33, 34, 35, 36, 37, 38, 39, 40, 41, 42, 43, 44, 45] (by decide +kernel) (by decide +kernel)
set_option maxRecDepth 20000 in
theorem gX7_tries_X7_findRow : GoodIn wsX7_tries (wsV RX7 79 RX7 yX7_findRow wsX7_findRow) := goodIn_app (goodIn_of _ (by decide +kernel)) ggX7_tries_X7_findRow
set_option maxRecDepth 20000 in
theorem ggX7_tries_X7_swap : GoodIn wsX7_tries wsX7_swap := goodIn_r _ [23, 5, 28, 29, 30, 31, 32, 33, 34, 35, 36, 37, 38, 39, 40, 41, 42, 43, 44, 45] (by decide +kernel) (by decide +kernel)
set_option maxRecDepth 20000 in
theorem gX7_tries_X7_swap : GoodIn wsX7_tries (wsV RX7 83 RX7 yX7_swap wsX7_swap) := goodIn_app (goodIn_of _ (by decide +kernel)) ggX7_tries_X7_swap
end
section
set_option maxRecDepth 20000 in
theorem ggX7_tries_X7_pivot : GoodIn wsX7_tries wsX7_pivot := goodIn_r _ [27, 5, 1, 8, 28, 29, 30, 31, 32, 33, 34, 35, 36, 37, 38, 39, 40, 41, 42, 43, 44, 45] (by decide +kernel) (by decide +kernel)
set_option maxRecDepth 20000 in
theorem gX7_tries_X7_pivot : GoodIn wsX7_tries (wsV RX7 87 RX7 yX7_pivot wsX7_pivot) := goodIn_app (goodIn_of _ (by decide +kernel)) ggX7_tries_X7_pivot
set_option maxRecDepth 20000 in
theorem ggX7_betters_X7_of : GoodIn wsX7_betters wsX7_of := goodIn_r _ [9] (by decide +kernel) (by decide +kernel)
set_option maxRecDepth 20000 in
theorem gX7_betters_X7_of : GoodIn wsX7_betters (va_wsS RX7 116 yX7_of wsX7_of) := goodIn_app (goodIn_of _ (by decide +kernel)) ggX7_betters_X7_of
set_option maxRecDepth 20000 in
theorem ggX7_find_X7_seenSet : GoodIn wsX7_find wsX7_seenSet := goodIn_r _ [10, 11, 12, 13, 45, 46, 47, 48, 49, 50, 51, 52, 53, 54, 55, 56, 57, 58, 59, 60, 61, 62] (by decide +kernel) (by decide +kernel)
set_option maxRecDepth 20000 in
theorem gX7_find_X7_seenSet : GoodIn wsX7_find (wsV RX7 123 RX7 yX7_seenSet wsX7_seenSet) := goodIn_app (goodIn_of _ (by decide +kernel)) ggX7_find_X7_seenSet
set_option maxRecDepth 20000 in
theorem ggX7_find_X7_tries : GoodIn wsX7_find wsX7_tries := goodIn_r _ [17, 18, 11, 12, 1, 19, 13, 20, 21, 22, 4, 3, 23, 24, 9, 25, 26, 27, 28, 29, 30, 31, 32, 33, 34, 35, 36, 37, 45, 46, 47, 48, 49, 50, 51, 52, 53, 54, 55, 56, 57, 58, 59, 60, 61, 62] (by decide +kernel) (by decide +kernel)
set_option maxRecDepth 20000 in
theorem gX7_find_X7_tries : GoodIn wsX7_find (wsV RX7 126 RX7 yX7_tries wsX7_tries) := goodIn_app (goodIn_of _ (by decide +kernel)) ggX7_find_X7_tries
set_option maxRecDepth 20000 in
theorem ggX7_find_X7_betters : GoodIn wsX7_find wsX7_betters := goodIn_r _ [41, 3, 5, 2, 4, 1, 42, 43, 9, 44, 45, 46, 47, 48, 49, 50, 51, 52, 53, 54, 55, 56, 57, 58, 59, 60, 61, 62] (by decide +kernel) (by decide +kernel)
set_option maxRecDepth 20000 in
theorem gX7_find_X7_betters : GoodIn wsX7_find (wsV RX7 129 RX7 yX7_betters wsX7_betters) := goodIn_app (goodIn_of _ (by decide +kernel)) ggX7_find_X7_betters
set_option maxRecDepth 20000 in
theorem ggX7_part_X7_gcd : GoodIn wsX7_part wsX7_gcd := goodIn_r _ [4] (by decide +kernel) (by decide +kernel)
set_option maxRecDepth 20000 in
theorem gX7_part_X7_gcd : GoodIn wsX7_part (va_wsS RX7 132 yX7_gcd wsX7_gcd) := goodIn_app (goodIn_of _ (by decide +kernel)) ggX7_part_X7_gcd
set_option maxRecDepth 20000 in
theorem ggX7_isEndless_X7_seenSet : GoodIn wsX7_isEndless wsX7_seenSet := goodIn_r _ [5, 6, 7, 8, 9, 10, 11, 12, 13, 14, 15, 16, 17, 18, 19, 20, 21, 22, 23, 24, 25, 26] (by decide +kernel) (by decide +kernel)
set_option maxRecDepth 20000 in
theorem gX7_isEndless_X7_seenSet : GoodIn wsX7_isEndless (wsV RX7 123 RX7 yX7_seenSet wsX7_seenSet) := goodIn_app (goodIn_of _ (by decide +kernel)) ggX7_isEndless_X7_seenSet
set_option maxRecDepth 20000 in
theorem ggX7_bound_X7_noSet : GoodIn wsX7_bound wsX7_noSet := goodIn_r _ [10, 11, 12, 13, 9, 14, 86, 87, 88, 89, 90, 91, 92, 93, 94, 95, 96, 97, 98, 99, 100, 101, 102, 103] (by decide +kernel) (by decide +kernel)
set_option maxRecDepth 20000 in
theorem gX7_bound_X7_noSet : GoodIn wsX7_bound (wsV RX7 58 RX7 yX7_noSet wsX7_noSet) := goodIn_app (goodIn_of _ (by decide +kernel)) ggX7_bound_X7_noSet
set_option maxRecDepth 20000 in
theorem ggX7_bound_X7_in : GoodIn wsX7_bound wsX7_in := goodIn_r _ [14] (by decide +kernel) (by decide +kernel)
set_option maxRecDepth 20000 in
theorem gX7_bound_X7_in : GoodIn wsX7_bound (va_wsS RX7 46 yX7_in wsX7_in) := goodIn_app (goodIn_of _ (by decide +kernel)) ggX7_bound_X7_in
set_option maxRecDepth 20000 in
theorem ggX7_bound_X7_onSet : GoodIn wsX7_bound wsX7_onSet := goodIn_r _ [18, 19, 20, 86, 87, 88, 89, 90, 91, 92, 93, 94, 95, 96, 97, 98, 99, 100, 101, 102, 103] (by decide +kernel) (by decide +kernel)
set_option maxRecDepth 20000 in
theorem gX7_bound_X7_onSet : GoodIn wsX7_bound (wsV RX7 90 RX7 yX7_onSet wsX7_onSet) := goodIn_app (goodIn_of _ (by decide +kernel)) ggX7_bound_X7_onSet
set_option maxRecDepth 20000 in
theorem ggX7_bound_X7_doFit : GoodIn wsX7_bound wsX7_doFit := goodIn_r _ [24, 25, 11, 19, 26, 27, 28, 29, 30, 31, 32, 9, 33, 34, 35, 36, 37, 38, 39, 40, 41, 42, 43, 44, 45, 86, 87, 88, 89, 90, 91, 92, 93, 94, 95, 96, 97, 98, 99, 100, 101, 102, 103] (by decide +kernel) (by decide +kernel)
set_option maxRecDepth 20000 in
theorem gX7_bound_X7_doFit : GoodIn wsX7_bound (wsV RX7 108 RX7 yX7_doFit wsX7_doFit) := goodIn_app (goodIn_of _ (by decide +kernel)) ggX7_bound_X7_doFit
set_option maxRecDepth 20000 in
theorem ggX7_bound_X7_isEndless : GoodIn wsX7_bound wsX7_isEndless := goodIn_r _ [49, 50, 51, 52, 9, 53, 19, 20, 27, 86, 87, 88, 89, 90, 91, 92, 93, 94, 95, 96, 97, 98, 99, 100, 101, 102, 103] (by decide +kernel) (by decide +kernel)
set_option maxRecDepth 20000 in
theorem gX7_bound_X7_isEndless : GoodIn wsX7_bound (wsV RX7 140 RX7 yX7_isEndless wsX7_isEndless) := goodIn_app (goodIn_of _ (by decide +kernel)) ggX7_bound_X7_isEndless
set_option maxRecDepth 20000 in
theorem ggX7_bound_X7_find : GoodIn wsX7_bound wsX7_find := goodIn_r _ [57, 11, 4, 58, 59, 5, 50, 51, 52, 9, 53, 19, 20, 27, 60, 61, 62, 63, 25, 26, 28, 30, 64, 31, 32, 33, 65, 66, 67, 68, 69, 70, 71, 72, 42, 43, 44, 45, 73, 74, 75, 76, 77, 78, 79, 86, 87, 88, 89, 90, 91, 92, 93, 94, 95, 96, 97, 98, 99, 100, 101, 102, 103] (by decide +kernel) (by decide +kernel)
set_option maxRecDepth 20000 in
theorem gX7_bound_X7_find : GoodIn wsX7_bound (wsV RX7 145 RX7 yX7_find wsX7_find) := goodIn_app (goodIn_of _ (by decide +kernel)) ggX7_bound_X7_find
set_option maxRecDepth 20000 in
theorem ggX7_bound_X7_of : GoodIn wsX7_bound wsX7_of := goodIn_r _ [79] (by decide +kernel) (by decide +kernel)
set_option maxRecDepth 20000 in
theorem gX7_bound_X7_of : GoodIn wsX7_bound (va_wsS RX7 116 yX7_of wsX7_of) := goodIn_app (goodIn_of _ (by decide +kernel)) ggX7_bound_X7_of
set_option maxRecDepth 20000 in
theorem ggX7_bound_X7_part : GoodIn wsX7_bound wsX7_part := goodIn_r _ [82, 83, 84, 9, 85] (by decide +kernel) (by decide +kernel)
set_option maxRecDepth 20000 in
theorem gX7_bound_X7_part : GoodIn wsX7_bound (va_wsS RX7 148 yX7_part wsX7_part) := goodIn_app (goodIn_of _ (by decide +kernel)) ggX7_bound_X7_part
set_option maxRecDepth 20000 in
theorem ggX7_noLine_X7_in : GoodIn wsX7_noLine wsX7_in := goodIn_r _ [5] (by decide +kernel) (by decide +kernel)
set_option maxRecDepth 20000 in
theorem gX7_noLine_X7_in : GoodIn wsX7_noLine (va_wsS RX7 46 yX7_in wsX7_in) := goodIn_app (goodIn_of _ (by decide +kernel)) ggX7_noLine_X7_in
set_option maxRecDepth 20000 in
theorem ggX7_shown_X7_noLine : GoodIn wsX7_shown wsX7_noLine := goodIn_r _ [11, 12, 13, 14, 10, 15, 91, 92, 93, 94, 95, 96, 97, 98, 99, 100, 101, 102, 103, 104, 105, 106, 107, 108] (by decide +kernel) (by decide +kernel)
set_option maxRecDepth 20000 in
theorem gX7_shown_X7_noLine : GoodIn wsX7_shown (wsV RX7 152 RX7 yX7_noLine wsX7_noLine) := goodIn_app (goodIn_of _ (by decide +kernel)) ggX7_shown_X7_noLine
set_option maxRecDepth 20000 in
theorem ggX7_shown_X7_noSet : GoodIn wsX7_shown wsX7_noSet := goodIn_r _ [19, 12, 13, 14, 10, 15, 91, 92, 93, 94, 95, 96, 97, 98, 99, 100, 101, 102, 103, 104, 105, 106, 107, 108] (by decide +kernel) (by decide +kernel)
set_option maxRecDepth 20000 in
theorem gX7_shown_X7_noSet : GoodIn wsX7_shown (wsV RX7 58 RX7 yX7_noSet wsX7_noSet) := goodIn_app (goodIn_of _ (by decide +kernel)) ggX7_shown_X7_noSet
set_option maxRecDepth 20000 in
theorem ggX7_shown_X7_in : GoodIn wsX7_shown wsX7_in := goodIn_r _ [15] (by decide +kernel) (by decide +kernel)
set_option maxRecDepth 20000 in
theorem gX7_shown_X7_in : GoodIn wsX7_shown (va_wsS RX7 46 yX7_in wsX7_in) := goodIn_app (goodIn_of _ (by decide +kernel)) ggX7_shown_X7_in
set_option maxRecDepth 20000 in
theorem ggX7_shown_X7_onSet : GoodIn wsX7_shown wsX7_onSet := goodIn_r _ [23, 24, 25, 91, 92, 93, 94, 95, 96, 97, 98, 99, 100, 101, 102, 103, 104, 105, 106, 107, 108] (by decide +kernel) (by decide +kernel)
set_option maxRecDepth 20000 in
theorem gX7_shown_X7_onSet : GoodIn wsX7_shown (wsV RX7 90 RX7 yX7_onSet wsX7_onSet) := goodIn_app (goodIn_of _ (by decide +kernel)) ggX7_shown_X7_onSet
set_option maxRecDepth 20000 in
theorem ggX7_shown_X7_doFit : GoodIn wsX7_shown wsX7_doFit := goodIn_r _ [29, 30, 12, 24, 31, 32, 33, 34, 35, 36, 37, 10, 38, 39, 40, 41, 42, 43, 44, 45, 46, 47, 48, 49, 50, 91, 92, 93, 94, 95, 96, 97, 98, 99, 100, 101, 102, 103, 104, 105, 106, 107, 108] (by decide +kernel) (by decide +kernel)
set_option maxRecDepth 20000 in
theorem gX7_shown_X7_doFit : GoodIn wsX7_shown (wsV RX7 108 RX7 yX7_doFit wsX7_doFit) := goodIn_app (goodIn_of _ (by decide +kernel)) ggX7_shown_X7_doFit
set_option maxRecDepth 20000 in
theorem ggX7_shown_X7_isEndless : GoodIn wsX7_shown wsX7_isEndless := goodIn_r _ [54, 55, 56, 57, 10, 58, 24, 25, 32, 91, 92, 93, 94, 95, 96, 97, 98, 99, 100, 101, 102, 103, 104, 105, 106, 107, 108] (by decide +kernel) (by decide +kernel)
set_option maxRecDepth 20000 in
theorem gX7_shown_X7_isEndless : GoodIn wsX7_shown (wsV RX7 140 RX7 yX7_isEndless wsX7_isEndless) := goodIn_app (goodIn_of _ (by decide +kernel)) ggX7_shown_X7_isEndless
set_option maxRecDepth 20000 in
theorem ggX7_shown_X7_find : GoodIn wsX7_shown wsX7_find := goodIn_r _ [62, 12, 5, 63, 64, 6, 55, 56, 57, 10, 58, 24, 25, 32, 65, 66, 67, 68, 30, 31, 33, 35, 69, 36, 37, 38, 70, 71, 72, 73, 74, 75, 76, 77, 47, 48, 49, 50, 78, 79, 80, 81, 82, 83, 84, 91, 92, 93, 94, 95, 96, 97, 98, 99, 100, 101, 102, 103, 104, 105, 106, 107, 108] (by decide +kernel) (by decide +kernel)
set_option maxRecDepth 20000 in
theorem gX7_shown_X7_find : GoodIn wsX7_shown (wsV RX7 145 RX7 yX7_find wsX7_find) := goodIn_app (goodIn_of _ (by decide +kernel)) ggX7_shown_X7_find
set_option maxRecDepth 20000 in
theorem ggX7_shown_X7_part : GoodIn wsX7_shown wsX7_part := goodIn_r _ [87, 88, 89, 10, 90] (by decide +kernel) (by decide +kernel)
set_option maxRecDepth 20000 in
theorem gX7_shown_X7_part : GoodIn wsX7_shown (va_wsS RX7 148 yX7_part wsX7_part) := goodIn_app (goodIn_of _ (by decide +kernel)) ggX7_shown_X7_part
set_option maxRecDepth 20000 in
theorem ggX7_isSettled_X7_seenSet : GoodIn wsX7_isSettled wsX7_seenSet := goodIn_r _ [7, 8, 9, 10, 49, 50, 51, 52, 53, 54, 55, 56, 57, 58, 59, 60, 61, 62, 63, 64, 65, 66] (by decide +kernel) (by decide +kernel)
set_option maxRecDepth 20000 in
theorem gX7_isSettled_X7_seenSet : GoodIn wsX7_isSettled (wsV RX7 123 RX7 yX7_seenSet wsX7_seenSet) := goodIn_app (goodIn_of _ (by decide +kernel)) ggX7_isSettled_X7_seenSet
set_option maxRecDepth 20000 in
theorem ggX7_isSettled_X7_find : GoodIn wsX7_isSettled wsX7_find := goodIn_r _ [14, 15, 1, 16, 17, 2, 3, 4, 5, 6, 7, 8, 9, 10, 18, 19, 20, 21, 22, 23, 24, 25, 26, 27, 28, 29, 30, 31, 32, 33, 34, 35, 36, 37, 38, 39, 40, 41, 42, 43, 44, 45, 46, 47, 48, 49, 50, 51, 52, 53, 54, 55, 56, 57, 58, 59, 60, 61, 62, 63, 64, 65, 66] (by decide +kernel) (by decide +kernel)
set_option maxRecDepth 20000 in
theorem gX7_isSettled_X7_find : GoodIn wsX7_isSettled (wsV RX7 145 RX7 yX7_find wsX7_find) := goodIn_app (goodIn_of _ (by decide +kernel)) ggX7_isSettled_X7_find
set_option maxRecDepth 20000 in
theorem ggX7_settled_X7_noLine : GoodIn wsX7_settled wsX7_noLine := goodIn_r _ [5, 6, 7, 8, 4, 9, 77, 78, 79, 80, 81, 82, 83, 84, 85, 86, 87, 88, 89, 90, 91, 92, 93, 94] (by decide +kernel) (by decide +kernel)
set_option maxRecDepth 20000 in
theorem gX7_settled_X7_noLine : GoodIn wsX7_settled (wsV RX7 152 RX7 yX7_noLine wsX7_noLine) := goodIn_app (goodIn_of _ (by decide +kernel)) ggX7_settled_X7_noLine
set_option maxRecDepth 20000 in
theorem ggX7_settled_X7_onSet : GoodIn wsX7_settled wsX7_onSet := goodIn_r _ [13, 14, 15, 77, 78, 79, 80, 81, 82, 83, 84, 85, 86, 87, 88, 89, 90, 91, 92, 93, 94] (by decide +kernel) (by decide +kernel)
set_option maxRecDepth 20000 in
theorem gX7_settled_X7_onSet : GoodIn wsX7_settled (wsV RX7 90 RX7 yX7_onSet wsX7_onSet) := goodIn_app (goodIn_of _ (by decide +kernel)) ggX7_settled_X7_onSet
set_option maxRecDepth 20000 in
theorem ggX7_settled_X7_doFit : GoodIn wsX7_settled wsX7_doFit := goodIn_r _ [19, 20, 6, 14, 21, 22, 23, 24, 25, 26, 27, 4, 28, 29, 30, 31, 32, 33, 34, 35, 36, 37, 38, 39, 40, 77, 78, 79, 80, 81, 82, 83, 84, 85, 86, 87, 88, 89, 90, 91, 92, 93, 94] (by decide +kernel) (by decide +kernel)
set_option maxRecDepth 20000 in
theorem gX7_settled_X7_doFit : GoodIn wsX7_settled (wsV RX7 108 RX7 yX7_doFit wsX7_doFit) := goodIn_app (goodIn_of _ (by decide +kernel)) ggX7_settled_X7_doFit
set_option maxRecDepth 20000 in
theorem ggX7_settled_X7_isSettled : GoodIn wsX7_settled wsX7_isSettled := goodIn_r _ [44, 45, 46, 47, 48, 49, 4, 50, 14, 15, 22, 51, 52, 53, 54, 6, 55, 56, 57, 58, 59, 60, 20, 21, 23, 25, 61, 26, 27, 28, 62, 63, 64, 65, 66, 67, 68, 69, 37, 38, 39, 40, 70, 71, 72, 73, 74, 75, 76, 77, 78, 79, 80, 81, 82, 83, 84, 85, 86, 87, 88, 89, 90, 91, 92, 93, 94] (by decide +kernel) (by decide +kernel)
set_option maxRecDepth 20000 in
theorem gX7_settled_X7_isSettled : GoodIn wsX7_settled (wsV RX7 157 RX7 yX7_isSettled wsX7_isSettled) := goodIn_app (goodIn_of _ (by decide +kernel)) ggX7_settled_X7_isSettled
set_option maxRecDepth 20000 in
theorem ggX7_known_X7_noLine : GoodIn wsX7_known wsX7_noLine := goodIn_r _ [5, 6, 7, 8, 4, 9, 46, 47, 48, 49, 50, 51, 52, 53, 54, 55, 56, 57, 58, 59, 60, 61, 62, 63] (by decide +kernel) (by decide +kernel)
set_option maxRecDepth 20000 in
theorem gX7_known_X7_noLine : GoodIn wsX7_known (wsV RX7 152 RX7 yX7_noLine wsX7_noLine) := goodIn_app (goodIn_of _ (by decide +kernel)) ggX7_known_X7_noLine
set_option maxRecDepth 20000 in
theorem ggX7_known_X7_isKnown : GoodIn wsX7_known wsX7_isKnown := goodIn_r _ [13, 14, 15, 16, 4, 17, 18, 19, 20, 21, 22, 23, 24, 25, 26, 27, 28, 6, 29, 30, 31, 32, 33, 34, 35, 36, 37, 38, 39, 40, 41, 42, 43, 44, 45, 46, 47, 48, 49, 50, 51, 52, 53, 54, 55, 56, 57, 58, 59, 60, 61, 62, 63] (by decide +kernel) (by decide +kernel)
set_option maxRecDepth 20000 in
theorem gX7_known_X7_isKnown : GoodIn wsX7_known (wsV RX7 160 RX7 yX7_isKnown wsX7_isKnown) := goodIn_app (goodIn_of _ (by decide +kernel)) ggX7_known_X7_isKnown
set_option maxRecDepth 20000 in
theorem ggX7_groupOf_X7_overLine : GoodIn wsX7_groupOf wsX7_overLine := goodIn_r _ [6, 7, 8, 9, 10, 11, 12, 13, 14, 15, 16, 17, 18, 19, 20, 21, 22, 23, 24, 25, 26, 27] (by decide +kernel) (by decide +kernel)
set_option maxRecDepth 20000 in
theorem gX7_groupOf_X7_overLine : GoodIn wsX7_groupOf (wsV RX7 163 RX7 yX7_overLine wsX7_overLine) := goodIn_app (goodIn_of _ (by decide +kernel)) ggX7_groupOf_X7_overLine
set_option maxRecDepth 20000 in
theorem ggX7_group_X7_noLine : GoodIn wsX7_group wsX7_noLine := goodIn_r _ [5, 6, 7, 8, 4, 9, 21, 22, 23, 24, 25, 26, 27, 28, 29, 30, 31, 32, 33, 34, 35, 36, 37, 38] (by decide +kernel) (by decide +kernel)
set_option maxRecDepth 20000 in
theorem gX7_group_X7_noLine : GoodIn wsX7_group (wsV RX7 152 RX7 yX7_noLine wsX7_noLine) := goodIn_app (goodIn_of _ (by decide +kernel)) ggX7_group_X7_noLine
set_option maxRecDepth 20000 in
theorem ggX7_group_X7_groupOf : GoodIn wsX7_group wsX7_groupOf := goodIn_r _ [13, 6, 14, 15, 16, 4, 17, 18, 19, 20, 21, 22, 23, 24, 25, 26, 27, 28, 29, 30, 31, 32, 33, 34, 35, 36, 37, 38] (by decide +kernel) (by decide +kernel)
set_option maxRecDepth 20000 in
theorem gX7_group_X7_groupOf : GoodIn wsX7_group (wsV RX7 166 RX7 yX7_groupOf wsX7_groupOf) := goodIn_app (goodIn_of _ (by decide +kernel)) ggX7_group_X7_groupOf
set_option maxRecDepth 20000 in
theorem ggX7_count_X7_in : GoodIn wsX7_count wsX7_in := goodIn_r _ [8] (by decide +kernel) (by decide +kernel)
set_option maxRecDepth 20000 in
theorem gX7_count_X7_in : GoodIn wsX7_count (va_wsS RX7 46 yX7_in wsX7_in) := goodIn_app (goodIn_of _ (by decide +kernel)) ggX7_count_X7_in
set_option maxRecDepth 20000 in
theorem ggX7_count_X7_onSet : GoodIn wsX7_count wsX7_onSet := goodIn_r _ [12, 3, 13, 96, 97, 98, 99, 100, 101, 102, 103, 104, 105, 106, 107, 108, 109, 110, 111, 112, 113] (by decide +kernel) (by decide +kernel)
set_option maxRecDepth 20000 in
theorem gX7_count_X7_onSet : GoodIn wsX7_count (wsV RX7 90 RX7 yX7_onSet wsX7_onSet) := goodIn_app (goodIn_of _ (by decide +kernel)) ggX7_count_X7_onSet
set_option maxRecDepth 20000 in
theorem ggX7_count_X7_doFit : GoodIn wsX7_count wsX7_doFit := goodIn_r _ [17, 18, 2, 3, 19, 20, 21, 22, 23, 24, 25, 7, 26, 27, 28, 29, 30, 31, 32, 33, 34, 35, 36, 37, 38, 96, 97, 98, 99, 100, 101, 102, 103, 104, 105, 106, 107, 108, 109, 110, 111, 112, 113] (by decide +kernel) (by decide +kernel)
set_option maxRecDepth 20000 in
theorem gX7_count_X7_doFit : GoodIn wsX7_count (wsV RX7 108 RX7 yX7_doFit wsX7_doFit) := goodIn_app (goodIn_of _ (by decide +kernel)) ggX7_count_X7_doFit
set_option maxRecDepth 20000 in
theorem ggX7_count_X7_isSettled : GoodIn wsX7_count wsX7_isSettled := goodIn_r _ [42, 43, 44, 45, 46, 47, 7, 48, 3, 13, 20, 49, 50, 51, 52, 2, 53, 54, 55, 56, 57, 58, 18, 19, 21, 23, 59, 24, 25, 26, 60, 61, 62, 63, 64, 65, 66, 67, 35, 36, 37, 38, 68, 69, 70, 71, 72, 73, 74, 96, 97, 98, 99, 100, 101, 102, 103, 104, 105, 106, 107, 108, 109, 110, 111, 112, 113] (by decide +kernel) (by decide +kernel)
set_option maxRecDepth 20000 in
theorem gX7_count_X7_isSettled : GoodIn wsX7_count (wsV RX7 157 RX7 yX7_isSettled wsX7_isSettled) := goodIn_app (goodIn_of _ (by decide +kernel)) ggX7_count_X7_isSettled
set_option maxRecDepth 20000 in
theorem ggX7_count_X7_isKnown : GoodIn wsX7_count wsX7_isKnown := goodIn_r _ [78, 9, 10, 11, 7, 12, 3, 13, 79, 80, 81, 82, 18, 20, 4, 83, 23, 2, 84, 85, 86, 87, 19, 60, 61, 62, 63, 64, 65, 66, 67, 35, 36, 37, 38, 96, 97, 98, 99, 100, 101, 102, 103, 104, 105, 106, 107, 108, 109, 110, 111, 112, 113] (by decide +kernel) (by decide +kernel)
set_option maxRecDepth 20000 in
theorem gX7_count_X7_isKnown : GoodIn wsX7_count (wsV RX7 160 RX7 yX7_isKnown wsX7_isKnown) := goodIn_app (goodIn_of _ (by decide +kernel)) ggX7_count_X7_isKnown
set_option maxRecDepth 20000 in
theorem ggX7_count_X7_groupOf : GoodIn wsX7_count wsX7_groupOf := goodIn_r _ [91, 2, 92, 93, 94, 7, 95, 3, 13, 20, 96, 97, 98, 99, 100, 101, 102, 103, 104, 105, 106, 107, 108, 109, 110, 111, 112, 113] (by decide +kernel) (by decide +kernel)
set_option maxRecDepth 20000 in
theorem gX7_count_X7_groupOf : GoodIn wsX7_count (wsV RX7 166 RX7 yX7_groupOf wsX7_groupOf) := goodIn_app (goodIn_of _ (by decide +kernel)) ggX7_count_X7_groupOf
set_option maxRecDepth 20000 in
theorem ggX7_count_X7_bits : GoodIn wsX7_count wsX7_bits := goodIn_r _ [26] (by decide +kernel) (by decide +kernel)
set_option maxRecDepth 20000 in
theorem gX7_count_X7_bits : GoodIn wsX7_count (va_wsS RX7 98 yX7_bits wsX7_bits) := goodIn_app (goodIn_of _ (by decide +kernel)) ggX7_count_X7_bits
set_option maxRecDepth 20000 in
theorem ggX7_count_X7_rank : GoodIn wsX7_count wsX7_rank := goodIn_r _ [82, 18, 3, 20, 4, 83, 23, 2, 84, 85, 86, 7, 87, 19, 60, 61, 62, 63, 64, 65, 66, 67, 35, 36, 37, 38, 96, 97, 98, 99, 100, 101, 102, 103, 104, 105, 106, 107, 108, 109, 110, 111, 112, 113] (by decide +kernel) (by decide +kernel)
set_option maxRecDepth 20000 in
theorem gX7_count_X7_rank : GoodIn wsX7_count (wsV RX7 94 RX7 yX7_rank wsX7_rank) := goodIn_app (goodIn_of _ (by decide +kernel)) ggX7_count_X7_rank
set_option maxRecDepth 20000 in
theorem ggX7_count_X7_seenSet : GoodIn wsX7_count wsX7_seenSet := goodIn_r _ [48, 3, 13, 20, 96, 97, 98, 99, 100, 101, 102, 103, 104, 105, 106, 107, 108, 109, 110, 111, 112, 113] (by decide +kernel) (by decide +kernel)
set_option maxRecDepth 20000 in
theorem gX7_count_X7_seenSet : GoodIn wsX7_count (wsV RX7 123 RX7 yX7_seenSet wsX7_seenSet) := goodIn_app (goodIn_of _ (by decide +kernel)) ggX7_count_X7_seenSet
set_option maxRecDepth 20000 in
theorem ggX7_foundAt_X7_in : GoodIn wsX7_foundAt wsX7_in := goodIn_r _ [6] (by decide +kernel) (by decide +kernel)
set_option maxRecDepth 20000 in
theorem gX7_foundAt_X7_in : GoodIn wsX7_foundAt (va_wsS RX7 46 yX7_in wsX7_in) := goodIn_app (goodIn_of _ (by decide +kernel)) ggX7_foundAt_X7_in
set_option maxRecDepth 20000 in
theorem ggX7_lying_X7_onSet : GoodIn wsX7_lying wsX7_onSet := goodIn_r _ [8, 2, 9, 43, 44, 45, 46, 47, 48, 49, 50, 51, 52, 53, 54, 55, 56, 57, 58, 59, 60] (by decide +kernel) (by decide +kernel)
set_option maxRecDepth 20000 in
theorem gX7_lying_X7_onSet : GoodIn wsX7_lying (wsV RX7 90 RX7 yX7_onSet wsX7_onSet) := goodIn_app (goodIn_of _ (by decide +kernel)) ggX7_lying_X7_onSet
set_option maxRecDepth 20000 in
theorem ggX7_lying_X7_bits : GoodIn wsX7_lying wsX7_bits := goodIn_r _ [12] (by decide +kernel) (by decide +kernel)
set_option maxRecDepth 20000 in
theorem gX7_lying_X7_bits : GoodIn wsX7_lying (va_wsS RX7 98 yX7_bits wsX7_bits) := goodIn_app (goodIn_of _ (by decide +kernel)) ggX7_lying_X7_bits
set_option maxRecDepth 20000 in
theorem ggX7_lying_X7_doFit : GoodIn wsX7_lying wsX7_doFit := goodIn_r _ [16, 17, 18, 2, 19, 20, 21, 22, 23, 10, 11, 7, 12, 24, 25, 26, 27, 28, 29, 30, 31, 32, 33, 34, 35, 43, 44, 45, 46, 47, 48, 49, 50, 51, 52, 53, 54, 55, 56, 57, 58, 59, 60] (by decide +kernel) (by decide +kernel)
set_option maxRecDepth 20000 in
theorem gX7_lying_X7_doFit : GoodIn wsX7_lying (wsV RX7 108 RX7 yX7_doFit wsX7_doFit) := goodIn_app (goodIn_of _ (by decide +kernel)) ggX7_lying_X7_doFit
set_option maxRecDepth 20000 in
theorem ggX7_lying_X7_foundAt : GoodIn wsX7_lying wsX7_foundAt := goodIn_r _ [39, 1, 3, 40, 41, 7, 42, 43, 44, 45, 46, 47, 48, 49, 50, 51, 52, 53, 54, 55, 56, 57, 58, 59, 60] (by decide +kernel) (by decide +kernel)
set_option maxRecDepth 20000 in
theorem gX7_lying_X7_foundAt : GoodIn wsX7_lying (wsV RX7 174 RX7 yX7_foundAt wsX7_foundAt) := goodIn_app (goodIn_of _ (by decide +kernel)) ggX7_lying_X7_foundAt
set_option maxRecDepth 20000 in
theorem ggX7_offer_X7_noSet : GoodIn wsX7_offer wsX7_noSet := goodIn_r _ [7, 8, 9, 10, 6, 11, 12, 13, 14, 15, 16, 17, 18, 19, 20, 21, 22, 23, 24, 25, 26, 27, 28, 29] (by decide +kernel) (by decide +kernel)
set_option maxRecDepth 20000 in
theorem gX7_offer_X7_noSet : GoodIn wsX7_offer (wsV RX7 58 RX7 yX7_noSet wsX7_noSet) := goodIn_app (goodIn_of _ (by decide +kernel)) ggX7_offer_X7_noSet
set_option maxRecDepth 20000 in
theorem ggX7_offered_X7_in : GoodIn wsX7_offered wsX7_in := goodIn_r _ [6] (by decide +kernel) (by decide +kernel)
set_option maxRecDepth 20000 in
theorem gX7_offered_X7_in : GoodIn wsX7_offered (va_wsS RX7 46 yX7_in wsX7_in) := goodIn_app (goodIn_of _ (by decide +kernel)) ggX7_offered_X7_in
set_option maxRecDepth 20000 in
theorem ggX7_offered_X7_noSet : GoodIn wsX7_offered wsX7_noSet := goodIn_r _ [10, 11, 3, 4, 5, 6, 12, 13, 14, 15, 16, 17, 18, 19, 20, 21, 22, 23, 24, 25, 26, 27, 28, 29] (by decide +kernel) (by decide +kernel)
set_option maxRecDepth 20000 in
theorem gX7_offered_X7_noSet : GoodIn wsX7_offered (wsV RX7 58 RX7 yX7_noSet wsX7_noSet) := goodIn_app (goodIn_of _ (by decide +kernel)) ggX7_offered_X7_noSet
set_option maxRecDepth 20000 in
theorem ggX7_advises_X7_isKnown : GoodIn wsX7_advises wsX7_isKnown := goodIn_r _ [6, 7, 8, 9, 5, 10, 11, 12, 13, 14, 15, 16, 17, 18, 19, 20, 21, 1, 22, 23, 24, 25, 26, 27, 28, 29, 30, 31, 32, 33, 34, 35, 36, 37, 38, 39, 40, 41, 42, 43, 44, 45, 46, 47, 48, 49, 50, 51, 52, 53, 54, 55, 56] (by decide +kernel) (by decide +kernel)
set_option maxRecDepth 20000 in
theorem gX7_advises_X7_isKnown : GoodIn wsX7_advises (wsV RX7 160 RX7 yX7_isKnown wsX7_isKnown) := goodIn_app (goodIn_of _ (by decide +kernel)) ggX7_advises_X7_isKnown
set_option maxRecDepth 20000 in
theorem ggX7_advice_X7_noSet : GoodIn wsX7_advice wsX7_noSet := goodIn_r _ [6, 7, 8, 9, 5, 10, 53, 54, 55, 56, 57, 58, 59, 60, 61, 62, 63, 64, 65, 66, 67, 68, 69, 70] (by decide +kernel) (by decide +kernel)
set_option maxRecDepth 20000 in
theorem gX7_advice_X7_noSet : GoodIn wsX7_advice (wsV RX7 58 RX7 yX7_noSet wsX7_noSet) := goodIn_app (goodIn_of _ (by decide +kernel)) ggX7_advice_X7_noSet
set_option maxRecDepth 20000 in
theorem ggX7_advice_X7_bits : GoodIn wsX7_advice wsX7_bits := goodIn_r _ [13] (by decide +kernel) (by decide +kernel)
set_option maxRecDepth 20000 in
theorem gX7_advice_X7_bits : GoodIn wsX7_advice (va_wsS RX7 98 yX7_bits wsX7_bits) := goodIn_app (goodIn_of _ (by decide +kernel)) ggX7_advice_X7_bits
set_option maxRecDepth 20000 in
theorem ggX7_advice_X7_advises : GoodIn wsX7_advice wsX7_advises := goodIn_r _ [17, 7, 18, 19, 20, 5, 21, 22, 23, 24, 25, 26, 27, 28, 29, 30, 31, 32, 33, 1, 34, 35, 36, 37, 38, 39, 40, 41, 42, 43, 44, 45, 46, 47, 48, 49, 50, 51, 52, 53, 54, 55, 56, 57, 58, 59, 60, 61, 62, 63, 64, 65, 66, 67, 68, 69, 70] (by decide +kernel) (by decide +kernel)
set_option maxRecDepth 20000 in
theorem gX7_advice_X7_advises : GoodIn wsX7_advice (wsV RX7 177 RX7 yX7_advises wsX7_advises) := goodIn_app (goodIn_of _ (by decide +kernel)) ggX7_advice_X7_advises
set_option maxRecDepth 20000 in
theorem ggX7_sick_X7_bits : GoodIn wsX7_sick wsX7_bits := goodIn_r _ [7] (by decide +kernel) (by decide +kernel)
set_option maxRecDepth 20000 in
theorem gX7_sick_X7_bits : GoodIn wsX7_sick (va_wsS RX7 98 yX7_bits wsX7_bits) := goodIn_app (goodIn_of _ (by decide +kernel)) ggX7_sick_X7_bits
set_option maxRecDepth 20000 in
theorem ggX7_sick_X7_explains : GoodIn wsX7_sick wsX7_explains := goodIn_r _ [11, 12, 13, 14, 15, 23, 24, 25, 26, 27, 28, 29, 30, 31, 32, 33, 34, 35, 36, 37, 38, 39, 40] (by decide +kernel) (by decide +kernel)
set_option maxRecDepth 20000 in
theorem gX7_sick_X7_explains : GoodIn wsX7_sick (wsV RX7 180 RX7 yX7_explains wsX7_explains) := goodIn_app (goodIn_of _ (by decide +kernel)) ggX7_sick_X7_explains
set_option maxRecDepth 20000 in
theorem ggX7_sick_X7_foundAt : GoodIn wsX7_sick wsX7_foundAt := goodIn_r _ [19, 1, 3, 20, 21, 6, 22, 23, 24, 25, 26, 27, 28, 29, 30, 31, 32, 33, 34, 35, 36, 37, 38, 39, 40] (by decide +kernel) (by decide +kernel)
set_option maxRecDepth 20000 in
theorem gX7_sick_X7_foundAt : GoodIn wsX7_sick (wsV RX7 174 RX7 yX7_foundAt wsX7_foundAt) := goodIn_app (goodIn_of _ (by decide +kernel)) ggX7_sick_X7_foundAt
set_option maxRecDepth 20000 in
theorem ggX7_pair_X7_in : GoodIn wsX7_pair wsX7_in := goodIn_r _ [8] (by decide +kernel) (by decide +kernel)
set_option maxRecDepth 20000 in
theorem gX7_pair_X7_in : GoodIn wsX7_pair (va_wsS RX7 46 yX7_in wsX7_in) := goodIn_app (goodIn_of _ (by decide +kernel)) ggX7_pair_X7_in
set_option maxRecDepth 20000 in
theorem ggX7_pair_X7_part : GoodIn wsX7_pair wsX7_part := goodIn_r _ [11, 12, 13, 7, 14] (by decide +kernel) (by decide +kernel)
set_option maxRecDepth 20000 in
theorem gX7_pair_X7_part : GoodIn wsX7_pair (va_wsS RX7 148 yX7_part wsX7_part) := goodIn_app (goodIn_of _ (by decide +kernel)) ggX7_pair_X7_part
end
section
theorem dJ6_bitCount_0f7a4_0 : decode cJ6_bitCount_0f7a4 0 = .ok (.iload_n 0, 1) := by decide +kernel
theorem dJ6_bitCount_0f7a4_1 : decode cJ6_bitCount_0f7a4 1 = .ok (.iload_n 0, 1) := by decide +kernel
theorem dJ6_bitCount_0f7a4_2 : decode cJ6_bitCount_0f7a4 2 = .ok (.iconst 1, 1) := by decide +kernel
theorem dJ6_bitCount_0f7a4_3 : decode cJ6_bitCount_0f7a4 3 = .ok (.iushr, 1) := by decide +kernel
theorem dJ6_bitCount_0f7a4_4 : decode cJ6_bitCount_0f7a4 4 = .ok (.ldc_w 265, 3) := by decide +kernel
theorem dJ6_bitCount_0f7a4_7 : decode cJ6_bitCount_0f7a4 7 = .ok (.iand, 1) := by decide +kernel
theorem dJ6_bitCount_0f7a4_8 : decode cJ6_bitCount_0f7a4 8 = .ok (.isub, 1) := by decide +kernel
theorem dJ6_bitCount_0f7a4_9 : decode cJ6_bitCount_0f7a4 9 = .ok (.istore_n 0, 1) := by decide +kernel
theorem dJ6_bitCount_0f7a4_10 : decode cJ6_bitCount_0f7a4 10 = .ok (.iload_n 0, 1) := by decide +kernel
theorem dJ6_bitCount_0f7a4_11 : decode cJ6_bitCount_0f7a4 11 = .ok (.ldc_w 266, 3) := by decide +kernel
theorem dJ6_bitCount_0f7a4_14 : decode cJ6_bitCount_0f7a4 14 = .ok (.iand, 1) := by decide +kernel
theorem dJ6_bitCount_0f7a4_15 : decode cJ6_bitCount_0f7a4 15 = .ok (.iload_n 0, 1) := by decide +kernel
theorem dJ6_bitCount_0f7a4_16 : decode cJ6_bitCount_0f7a4 16 = .ok (.iconst 2, 1) := by decide +kernel
theorem dJ6_bitCount_0f7a4_17 : decode cJ6_bitCount_0f7a4 17 = .ok (.iushr, 1) := by decide +kernel
theorem dJ6_bitCount_0f7a4_18 : decode cJ6_bitCount_0f7a4 18 = .ok (.ldc_w 266, 3) := by decide +kernel
theorem dJ6_bitCount_0f7a4_21 : decode cJ6_bitCount_0f7a4 21 = .ok (.iand, 1) := by decide +kernel
theorem dJ6_bitCount_0f7a4_22 : decode cJ6_bitCount_0f7a4 22 = .ok (.iadd, 1) := by decide +kernel
theorem dJ6_bitCount_0f7a4_23 : decode cJ6_bitCount_0f7a4 23 = .ok (.istore_n 0, 1) := by decide +kernel
theorem dJ6_bitCount_0f7a4_24 : decode cJ6_bitCount_0f7a4 24 = .ok (.iload_n 0, 1) := by decide +kernel
theorem dJ6_bitCount_0f7a4_25 : decode cJ6_bitCount_0f7a4 25 = .ok (.iload_n 0, 1) := by decide +kernel
theorem dJ6_bitCount_0f7a4_26 : decode cJ6_bitCount_0f7a4 26 = .ok (.iconst 4, 1) := by decide +kernel
theorem dJ6_bitCount_0f7a4_27 : decode cJ6_bitCount_0f7a4 27 = .ok (.iushr, 1) := by decide +kernel
theorem dJ6_bitCount_0f7a4_28 : decode cJ6_bitCount_0f7a4 28 = .ok (.iadd, 1) := by decide +kernel
theorem dJ6_bitCount_0f7a4_29 : decode cJ6_bitCount_0f7a4 29 = .ok (.ldc_w 267, 3) := by decide +kernel
theorem dJ6_bitCount_0f7a4_32 : decode cJ6_bitCount_0f7a4 32 = .ok (.iand, 1) := by decide +kernel
theorem dJ6_bitCount_0f7a4_33 : decode cJ6_bitCount_0f7a4 33 = .ok (.istore_n 0, 1) := by decide +kernel
theorem dJ6_bitCount_0f7a4_34 : decode cJ6_bitCount_0f7a4 34 = .ok (.iload_n 0, 1) := by decide +kernel
theorem dJ6_bitCount_0f7a4_35 : decode cJ6_bitCount_0f7a4 35 = .ok (.iload_n 0, 1) := by decide +kernel
theorem dJ6_bitCount_0f7a4_36 : decode cJ6_bitCount_0f7a4 36 = .ok (.bipush 8, 2) := by decide +kernel
theorem dJ6_bitCount_0f7a4_38 : decode cJ6_bitCount_0f7a4 38 = .ok (.iushr, 1) := by decide +kernel
theorem dJ6_bitCount_0f7a4_39 : decode cJ6_bitCount_0f7a4 39 = .ok (.iadd, 1) := by decide +kernel
theorem dJ6_bitCount_0f7a4_40 : decode cJ6_bitCount_0f7a4 40 = .ok (.istore_n 0, 1) := by decide +kernel
theorem dJ6_bitCount_0f7a4_41 : decode cJ6_bitCount_0f7a4 41 = .ok (.iload_n 0, 1) := by decide +kernel
theorem dJ6_bitCount_0f7a4_42 : decode cJ6_bitCount_0f7a4 42 = .ok (.iload_n 0, 1) := by decide +kernel
theorem dJ6_bitCount_0f7a4_43 : decode cJ6_bitCount_0f7a4 43 = .ok (.bipush 16, 2) := by decide +kernel
theorem dJ6_bitCount_0f7a4_45 : decode cJ6_bitCount_0f7a4 45 = .ok (.iushr, 1) := by decide +kernel
theorem dJ6_bitCount_0f7a4_46 : decode cJ6_bitCount_0f7a4 46 = .ok (.iadd, 1) := by decide +kernel
theorem dJ6_bitCount_0f7a4_47 : decode cJ6_bitCount_0f7a4 47 = .ok (.istore_n 0, 1) := by decide +kernel
theorem dJ6_bitCount_0f7a4_48 : decode cJ6_bitCount_0f7a4 48 = .ok (.iload_n 0, 1) := by decide +kernel
theorem dJ6_bitCount_0f7a4_49 : decode cJ6_bitCount_0f7a4 49 = .ok (.bipush 63, 2) := by decide +kernel
theorem dJ6_bitCount_0f7a4_51 : decode cJ6_bitCount_0f7a4 51 = .ok (.iand, 1) := by decide +kernel
theorem dJ6_bitCount_0f7a4_52 : decode cJ6_bitCount_0f7a4 52 = .ok (.ireturn, 1) := by decide +kernel
theorem dJ7_fill_d0a16_0 : decode cJ7_fill_d0a16 0 = .ok (.iconst 0, 1) := by decide +kernel
theorem dJ7_fill_d0a16_1 : decode cJ7_fill_d0a16 1 = .ok (.istore_n 3, 1) := by decide +kernel
theorem dJ7_fill_d0a16_2 : decode cJ7_fill_d0a16 2 = .ok (.aload_n 0, 1) := by decide +kernel
theorem dJ7_fill_d0a16_3 : decode cJ7_fill_d0a16 3 = .ok (.arraylength, 1) := by decide +kernel
theorem dJ7_fill_d0a16_4 : decode cJ7_fill_d0a16 4 = .ok (.istore 4, 2) := by decide +kernel
theorem dJ7_fill_d0a16_6 : decode cJ7_fill_d0a16 6 = .ok (.iload_n 3, 1) := by decide +kernel
theorem dJ7_fill_d0a16_7 : decode cJ7_fill_d0a16 7 = .ok (.iload 4, 2) := by decide +kernel
theorem dJ7_fill_d0a16_9 : decode cJ7_fill_d0a16 9 = .ok (.if_icmp .ge 13, 3) := by decide +kernel
theorem dJ7_fill_d0a16_12 : decode cJ7_fill_d0a16 12 = .ok (.aload_n 0, 1) := by decide +kernel
theorem dJ7_fill_d0a16_13 : decode cJ7_fill_d0a16 13 = .ok (.iload_n 3, 1) := by decide +kernel
theorem dJ7_fill_d0a16_14 : decode cJ7_fill_d0a16 14 = .ok (.lload_n 1, 1) := by decide +kernel
theorem dJ7_fill_d0a16_15 : decode cJ7_fill_d0a16 15 = .ok (.lastore, 1) := by decide +kernel
theorem dJ7_fill_d0a16_16 : decode cJ7_fill_d0a16 16 = .ok (.iinc 3 1, 3) := by decide +kernel
theorem dJ7_fill_d0a16_19 : decode cJ7_fill_d0a16 19 = .ok (.goto (-13), 3) := by decide +kernel
theorem dJ7_fill_d0a16_22 : decode cJ7_fill_d0a16 22 = .ok (.return_, 1) := by decide +kernel
theorem dJ7_fill_53178_0 : decode cJ7_fill_53178 0 = .ok (.iconst 0, 1) := by decide +kernel
theorem dJ7_fill_53178_1 : decode cJ7_fill_53178 1 = .ok (.istore_n 2, 1) := by decide +kernel
theorem dJ7_fill_53178_2 : decode cJ7_fill_53178 2 = .ok (.aload_n 0, 1) := by decide +kernel
theorem dJ7_fill_53178_3 : decode cJ7_fill_53178 3 = .ok (.arraylength, 1) := by decide +kernel
theorem dJ7_fill_53178_4 : decode cJ7_fill_53178 4 = .ok (.istore_n 3, 1) := by decide +kernel
theorem dJ7_fill_53178_5 : decode cJ7_fill_53178 5 = .ok (.iload_n 2, 1) := by decide +kernel
theorem dJ7_fill_53178_6 : decode cJ7_fill_53178 6 = .ok (.iload_n 3, 1) := by decide +kernel
theorem dJ7_fill_53178_7 : decode cJ7_fill_53178 7 = .ok (.if_icmp .ge 13, 3) := by decide +kernel
theorem dJ7_fill_53178_10 : decode cJ7_fill_53178 10 = .ok (.aload_n 0, 1) := by decide +kernel
theorem dJ7_fill_53178_11 : decode cJ7_fill_53178 11 = .ok (.iload_n 2, 1) := by decide +kernel
theorem dJ7_fill_53178_12 : decode cJ7_fill_53178 12 = .ok (.iload_n 1, 1) := by decide +kernel
theorem dJ7_fill_53178_13 : decode cJ7_fill_53178 13 = .ok (.iastore, 1) := by decide +kernel
theorem dJ7_fill_53178_14 : decode cJ7_fill_53178 14 = .ok (.iinc 2 1, 3) := by decide +kernel
theorem dJ7_fill_53178_17 : decode cJ7_fill_53178 17 = .ok (.goto (-12), 3) := by decide +kernel
theorem dJ7_fill_53178_20 : decode cJ7_fill_53178 20 = .ok (.return_, 1) := by decide +kernel
theorem dX1_init_0 : decode cX1_init 0 = .ok (.aload_n 0, 1) := by decide +kernel
theorem dX1_init_1 : decode cX1_init 1 = .ok (.invokespecial 1, 3) := by decide +kernel
theorem dX1_init_4 : decode cX1_init 4 = .ok (.aload_n 0, 1) := by decide +kernel
theorem dX1_init_5 : decode cX1_init 5 = .ok (.new 7, 3) := by decide +kernel
theorem dX1_init_8 : decode cX1_init 8 = .ok (.dup, 1) := by decide +kernel
theorem dX1_init_9 : decode cX1_init 9 = .ok (.invokespecial 9, 3) := by decide +kernel
theorem dX1_init_12 : decode cX1_init 12 = .ok (.putfield 10, 3) := by decide +kernel
theorem dX1_init_15 : decode cX1_init 15 = .ok (.aload_n 0, 1) := by decide +kernel
theorem dX1_init_16 : decode cX1_init 16 = .ok (.new 7, 3) := by decide +kernel
theorem dX1_init_19 : decode cX1_init 19 = .ok (.dup, 1) := by decide +kernel
theorem dX1_init_20 : decode cX1_init 20 = .ok (.invokespecial 9, 3) := by decide +kernel
theorem dX1_init_23 : decode cX1_init 23 = .ok (.putfield 16, 3) := by decide +kernel
theorem dX1_init_26 : decode cX1_init 26 = .ok (.return_, 1) := by decide +kernel
theorem dX1_forget_0 : decode cX1_forget 0 = .ok (.aload_n 0, 1) := by decide +kernel
theorem dX1_forget_1 : decode cX1_forget 1 = .ok (.iconst 0, 1) := by decide +kernel
theorem dX1_forget_2 : decode cX1_forget 2 = .ok (.putfield 19, 3) := by decide +kernel
theorem dX1_forget_5 : decode cX1_forget 5 = .ok (.return_, 1) := by decide +kernel
theorem dX1_leastSets_0 : decode cX1_leastSets 0 = .ok (.aload_n 0, 1) := by decide +kernel
theorem dX1_leastSets_1 : decode cX1_leastSets 1 = .ok (.getfield 19, 3) := by decide +kernel
theorem dX1_leastSets_4 : decode cX1_leastSets 4 = .ok (.ifCond .eq 8, 3) := by decide +kernel
theorem dX1_leastSets_7 : decode cX1_leastSets 7 = .ok (.aload_n 0, 1) := by decide +kernel
theorem dX1_leastSets_8 : decode cX1_leastSets 8 = .ok (.getfield 10, 3) := by decide +kernel
theorem dX1_leastSets_11 : decode cX1_leastSets 11 = .ok (.areturn, 1) := by decide +kernel
theorem dX1_leastSets_12 : decode cX1_leastSets 12 = .ok (.aload_n 0, 1) := by decide +kernel
theorem dX1_leastSets_13 : decode cX1_leastSets 13 = .ok (.getfield 10, 3) := by decide +kernel
theorem dX1_leastSets_16 : decode cX1_leastSets 16 = .ok (.invokevirtual 23, 3) := by decide +kernel
theorem dX1_leastSets_19 : decode cX1_leastSets 19 = .ok (.aload_n 0, 1) := by decide +kernel
theorem dX1_leastSets_20 : decode cX1_leastSets 20 = .ok (.getfield 16, 3) := by decide +kernel
theorem dX1_leastSets_23 : decode cX1_leastSets 23 = .ok (.invokevirtual 23, 3) := by decide +kernel
theorem dX1_leastSets_26 : decode cX1_leastSets 26 = .ok (.aload_n 1, 1) := by decide +kernel
theorem dX1_leastSets_27 : decode cX1_leastSets 27 = .ok (.getfield 26, 3) := by decide +kernel
theorem dX1_leastSets_30 : decode cX1_leastSets 30 = .ok (.invokestatic 32, 3) := by decide +kernel
theorem dX1_leastSets_33 : decode cX1_leastSets 33 = .ok (.istore_n 3, 1) := by decide +kernel
theorem dX1_leastSets_34 : decode cX1_leastSets 34 = .ok (.iconst 0, 1) := by decide +kernel
theorem dX1_leastSets_35 : decode cX1_leastSets 35 = .ok (.istore 4, 2) := by decide +kernel
theorem dX1_leastSets_37 : decode cX1_leastSets 37 = .ok (.iload 4, 2) := by decide +kernel
theorem dX1_leastSets_39 : decode cX1_leastSets 39 = .ok (.iload_n 3, 1) := by decide +kernel
theorem dX1_leastSets_40 : decode cX1_leastSets 40 = .ok (.if_icmp .gt 27, 3) := by decide +kernel
theorem dX1_leastSets_43 : decode cX1_leastSets 43 = .ok (.aload_n 0, 1) := by decide +kernel
theorem dX1_leastSets_44 : decode cX1_leastSets 44 = .ok (.getfield 10, 3) := by decide +kernel
theorem dX1_leastSets_47 : decode cX1_leastSets 47 = .ok (.getfield 38, 3) := by decide +kernel
theorem dX1_leastSets_50 : decode cX1_leastSets 50 = .ok (.ifCond .ne 17, 3) := by decide +kernel
theorem dX1_leastSets_53 : decode cX1_leastSets 53 = .ok (.aload_n 0, 1) := by decide +kernel
theorem dX1_leastSets_54 : decode cX1_leastSets 54 = .ok (.iload 4, 2) := by decide +kernel
theorem dX1_leastSets_56 : decode cX1_leastSets 56 = .ok (.aload_n 1, 1) := by decide +kernel
theorem dX1_leastSets_57 : decode cX1_leastSets 57 = .ok (.aload_n 2, 1) := by decide +kernel
theorem dX1_leastSets_58 : decode cX1_leastSets 58 = .ok (.invokevirtual 41, 3) := by decide +kernel
theorem dX1_leastSets_61 : decode cX1_leastSets 61 = .ok (.iinc 4 1, 3) := by decide +kernel
theorem dX1_leastSets_64 : decode cX1_leastSets 64 = .ok (.goto (-27), 3) := by decide +kernel
theorem dX1_leastSets_67 : decode cX1_leastSets 67 = .ok (.aload_n 0, 1) := by decide +kernel
theorem dX1_leastSets_68 : decode cX1_leastSets 68 = .ok (.iconst 1, 1) := by decide +kernel
theorem dX1_leastSets_69 : decode cX1_leastSets 69 = .ok (.putfield 19, 3) := by decide +kernel
theorem dX1_leastSets_72 : decode cX1_leastSets 72 = .ok (.aload_n 0, 1) := by decide +kernel
theorem dX1_leastSets_73 : decode cX1_leastSets 73 = .ok (.getfield 10, 3) := by decide +kernel
theorem dX1_leastSets_76 : decode cX1_leastSets 76 = .ok (.areturn, 1) := by decide +kernel
theorem dX1_findOfSize_0 : decode cX1_findOfSize 0 = .ok (.iconst 0, 1) := by decide +kernel
theorem dX1_findOfSize_1 : decode cX1_findOfSize 1 = .ok (.istore 4, 2) := by decide +kernel
theorem dX1_findOfSize_3 : decode cX1_findOfSize 3 = .ok (.iload 4, 2) := by decide +kernel
theorem dX1_findOfSize_5 : decode cX1_findOfSize 5 = .ok (.aload_n 2, 1) := by decide +kernel
theorem dX1_findOfSize_6 : decode cX1_findOfSize 6 = .ok (.getfield 26, 3) := by decide +kernel
theorem dX1_findOfSize_9 : decode cX1_findOfSize 9 = .ok (.if_icmp .gt 99, 3) := by decide +kernel
theorem dX1_findOfSize_12 : decode cX1_findOfSize 12 = .ok (.iload 4, 2) := by decide +kernel
theorem dX1_findOfSize_14 : decode cX1_findOfSize 14 = .ok (.aload_n 2, 1) := by decide +kernel
theorem dX1_findOfSize_15 : decode cX1_findOfSize 15 = .ok (.getfield 26, 3) := by decide +kernel
theorem dX1_findOfSize_18 : decode cX1_findOfSize 18 = .ok (.iconst (-1), 1) := by decide +kernel
theorem dX1_findOfSize_19 : decode cX1_findOfSize 19 = .ok (.ixor, 1) := by decide +kernel
theorem dX1_findOfSize_20 : decode cX1_findOfSize 20 = .ok (.iand, 1) := by decide +kernel
theorem dX1_findOfSize_21 : decode cX1_findOfSize 21 = .ok (.ifCond .ne 16, 3) := by decide +kernel
theorem dX1_findOfSize_24 : decode cX1_findOfSize 24 = .ok (.iload 4, 2) := by decide +kernel
theorem dX1_findOfSize_26 : decode cX1_findOfSize 26 = .ok (.invokestatic 32, 3) := by decide +kernel
theorem dX1_findOfSize_29 : decode cX1_findOfSize 29 = .ok (.iload_n 1, 1) := by decide +kernel
theorem dX1_findOfSize_30 : decode cX1_findOfSize 30 = .ok (.if_icmp .ne 7, 3) := by decide +kernel
theorem dX1_findOfSize_33 : decode cX1_findOfSize 33 = .ok (.iconst 1, 1) := by decide +kernel
theorem dX1_findOfSize_34 : decode cX1_findOfSize 34 = .ok (.goto 4, 3) := by decide +kernel
theorem dX1_findOfSize_37 : decode cX1_findOfSize 37 = .ok (.iconst 0, 1) := by decide +kernel
theorem dX1_findOfSize_38 : decode cX1_findOfSize 38 = .ok (.istore 5, 2) := by decide +kernel
theorem dX1_findOfSize_40 : decode cX1_findOfSize 40 = .ok (.iload 5, 2) := by decide +kernel
theorem dX1_findOfSize_42 : decode cX1_findOfSize 42 = .ok (.ifCond .eq 60, 3) := by decide +kernel
theorem dX1_findOfSize_45 : decode cX1_findOfSize 45 = .ok (.aload_n 0, 1) := by decide +kernel
theorem dX1_findOfSize_46 : decode cX1_findOfSize 46 = .ok (.iload 4, 2) := by decide +kernel
theorem dX1_findOfSize_48 : decode cX1_findOfSize 48 = .ok (.invokevirtual 45, 3) := by decide +kernel
theorem dX1_findOfSize_51 : decode cX1_findOfSize 51 = .ok (.ifCond .ne 6, 3) := by decide +kernel
theorem dX1_findOfSize_54 : decode cX1_findOfSize 54 = .ok (.goto 48, 3) := by decide +kernel
theorem dX1_findOfSize_57 : decode cX1_findOfSize 57 = .ok (.aload_n 3, 1) := by decide +kernel
theorem dX1_findOfSize_58 : decode cX1_findOfSize 58 = .ok (.aload_n 2, 1) := by decide +kernel
theorem dX1_findOfSize_59 : decode cX1_findOfSize 59 = .ok (.aload_n 2, 1) := by decide +kernel
theorem dX1_findOfSize_60 : decode cX1_findOfSize 60 = .ok (.getfield 26, 3) := by decide +kernel
theorem dX1_findOfSize_63 : decode cX1_findOfSize 63 = .ok (.iload 4, 2) := by decide +kernel
theorem dX1_findOfSize_65 : decode cX1_findOfSize 65 = .ok (.iconst (-1), 1) := by decide +kernel
theorem dX1_findOfSize_66 : decode cX1_findOfSize 66 = .ok (.ixor, 1) := by decide +kernel
theorem dX1_findOfSize_67 : decode cX1_findOfSize 67 = .ok (.iand, 1) := by decide +kernel
theorem dX1_findOfSize_68 : decode cX1_findOfSize 68 = .ok (.invokevirtual 49, 3) := by decide +kernel
theorem dX1_findOfSize_71 : decode cX1_findOfSize 71 = .ok (.ifCond .eq 15, 3) := by decide +kernel
theorem dX1_findOfSize_74 : decode cX1_findOfSize 74 = .ok (.aload_n 0, 1) := by decide +kernel
theorem dX1_findOfSize_75 : decode cX1_findOfSize 75 = .ok (.getfield 10, 3) := by decide +kernel
theorem dX1_findOfSize_78 : decode cX1_findOfSize 78 = .ok (.iload 4, 2) := by decide +kernel
theorem dX1_findOfSize_80 : decode cX1_findOfSize 80 = .ok (.invokevirtual 55, 3) := by decide +kernel
theorem dX1_findOfSize_83 : decode cX1_findOfSize 83 = .ok (.goto 19, 3) := by decide +kernel
theorem dX1_findOfSize_86 : decode cX1_findOfSize 86 = .ok (.aload_n 0, 1) := by decide +kernel
theorem dX1_findOfSize_87 : decode cX1_findOfSize 87 = .ok (.getfield 16, 3) := by decide +kernel
theorem dX1_findOfSize_90 : decode cX1_findOfSize 90 = .ok (.aload_n 3, 1) := by decide +kernel
theorem dX1_findOfSize_91 : decode cX1_findOfSize 91 = .ok (.getfield 59, 3) := by decide +kernel
theorem dX1_findOfSize_94 : decode cX1_findOfSize 94 = .ok (.aload_n 2, 1) := by decide +kernel
theorem dX1_findOfSize_95 : decode cX1_findOfSize 95 = .ok (.aload_n 3, 1) := by decide +kernel
theorem dX1_findOfSize_96 : decode cX1_findOfSize 96 = .ok (.invokestatic 62, 3) := by decide +kernel
theorem dX1_findOfSize_99 : decode cX1_findOfSize 99 = .ok (.invokevirtual 55, 3) := by decide +kernel
theorem dX1_findOfSize_102 : decode cX1_findOfSize 102 = .ok (.iinc 4 1, 3) := by decide +kernel
theorem dX1_findOfSize_105 : decode cX1_findOfSize 105 = .ok (.goto (-102), 3) := by decide +kernel
theorem dX1_findOfSize_108 : decode cX1_findOfSize 108 = .ok (.return_, 1) := by decide +kernel
theorem dX1_breaksAllClashes_0 : decode cX1_breaksAllClashes 0 = .ok (.iconst 0, 1) := by decide +kernel
theorem dX1_breaksAllClashes_1 : decode cX1_breaksAllClashes 1 = .ok (.istore_n 2, 1) := by decide +kernel
theorem dX1_breaksAllClashes_2 : decode cX1_breaksAllClashes 2 = .ok (.iload_n 2, 1) := by decide +kernel
theorem dX1_breaksAllClashes_3 : decode cX1_breaksAllClashes 3 = .ok (.aload_n 0, 1) := by decide +kernel
theorem dX1_breaksAllClashes_4 : decode cX1_breaksAllClashes 4 = .ok (.getfield 16, 3) := by decide +kernel
theorem dX1_breaksAllClashes_7 : decode cX1_breaksAllClashes 7 = .ok (.getfield 38, 3) := by decide +kernel
theorem dX1_breaksAllClashes_10 : decode cX1_breaksAllClashes 10 = .ok (.if_icmp .ge 25, 3) := by decide +kernel
theorem dX1_breaksAllClashes_13 : decode cX1_breaksAllClashes 13 = .ok (.aload_n 0, 1) := by decide +kernel
theorem dX1_breaksAllClashes_14 : decode cX1_breaksAllClashes 14 = .ok (.getfield 16, 3) := by decide +kernel
theorem dX1_breaksAllClashes_17 : decode cX1_breaksAllClashes 17 = .ok (.getfield 66, 3) := by decide +kernel
theorem dX1_breaksAllClashes_20 : decode cX1_breaksAllClashes 20 = .ok (.iload_n 2, 1) := by decide +kernel
theorem dX1_breaksAllClashes_21 : decode cX1_breaksAllClashes 21 = .ok (.iaload, 1) := by decide +kernel
theorem dX1_breaksAllClashes_22 : decode cX1_breaksAllClashes 22 = .ok (.iload_n 1, 1) := by decide +kernel
theorem dX1_breaksAllClashes_23 : decode cX1_breaksAllClashes 23 = .ok (.iand, 1) := by decide +kernel
theorem dX1_breaksAllClashes_24 : decode cX1_breaksAllClashes 24 = .ok (.ifCond .ne 5, 3) := by decide +kernel
theorem dX1_breaksAllClashes_27 : decode cX1_breaksAllClashes 27 = .ok (.iconst 0, 1) := by decide +kernel
theorem dX1_breaksAllClashes_28 : decode cX1_breaksAllClashes 28 = .ok (.ireturn, 1) := by decide +kernel
theorem dX1_breaksAllClashes_29 : decode cX1_breaksAllClashes 29 = .ok (.iinc 2 1, 3) := by decide +kernel
theorem dX1_breaksAllClashes_32 : decode cX1_breaksAllClashes 32 = .ok (.goto (-30), 3) := by decide +kernel
theorem dX1_breaksAllClashes_35 : decode cX1_breaksAllClashes 35 = .ok (.iconst 1, 1) := by decide +kernel
theorem dX1_breaksAllClashes_36 : decode cX1_breaksAllClashes 36 = .ok (.ireturn, 1) := by decide +kernel
theorem dX1_leastClash_0 : decode cX1_leastClash 0 = .ok (.iload_n 0, 1) := by decide +kernel
theorem dX1_leastClash_1 : decode cX1_leastClash 1 = .ok (.istore_n 3, 1) := by decide +kernel
theorem dX1_leastClash_2 : decode cX1_leastClash 2 = .ok (.iconst 0, 1) := by decide +kernel
theorem dX1_leastClash_3 : decode cX1_leastClash 3 = .ok (.istore 4, 2) := by decide +kernel
theorem dX1_leastClash_5 : decode cX1_leastClash 5 = .ok (.iload 4, 2) := by decide +kernel
theorem dX1_leastClash_7 : decode cX1_leastClash 7 = .ok (.aload_n 1, 1) := by decide +kernel
theorem dX1_leastClash_8 : decode cX1_leastClash 8 = .ok (.getfield 70, 3) := by decide +kernel
theorem dX1_leastClash_11 : decode cX1_leastClash 11 = .ok (.if_icmp .ge 39, 3) := by decide +kernel
theorem dX1_leastClash_14 : decode cX1_leastClash 14 = .ok (.iload_n 3, 1) := by decide +kernel
theorem dX1_leastClash_15 : decode cX1_leastClash 15 = .ok (.iload 4, 2) := by decide +kernel
theorem dX1_leastClash_17 : decode cX1_leastClash 17 = .ok (.iconst 0, 1) := by decide +kernel
theorem dX1_leastClash_18 : decode cX1_leastClash 18 = .ok (.invokestatic 73, 3) := by decide +kernel
theorem dX1_leastClash_21 : decode cX1_leastClash 21 = .ok (.istore 5, 2) := by decide +kernel
theorem dX1_leastClash_23 : decode cX1_leastClash 23 = .ok (.iload 5, 2) := by decide +kernel
theorem dX1_leastClash_25 : decode cX1_leastClash 25 = .ok (.iload_n 3, 1) := by decide +kernel
theorem dX1_leastClash_26 : decode cX1_leastClash 26 = .ok (.if_icmp .eq 18, 3) := by decide +kernel
theorem dX1_leastClash_29 : decode cX1_leastClash 29 = .ok (.aload_n 2, 1) := by decide +kernel
theorem dX1_leastClash_30 : decode cX1_leastClash 30 = .ok (.aload_n 1, 1) := by decide +kernel
theorem dX1_leastClash_31 : decode cX1_leastClash 31 = .ok (.iload 5, 2) := by decide +kernel
theorem dX1_leastClash_33 : decode cX1_leastClash 33 = .ok (.invokevirtual 49, 3) := by decide +kernel
theorem dX1_leastClash_36 : decode cX1_leastClash 36 = .ok (.ifCond .ne 8, 3) := by decide +kernel
theorem dX1_leastClash_39 : decode cX1_leastClash 39 = .ok (.aload_n 2, 1) := by decide +kernel
theorem dX1_leastClash_40 : decode cX1_leastClash 40 = .ok (.getfield 59, 3) := by decide +kernel
theorem dX1_leastClash_43 : decode cX1_leastClash 43 = .ok (.istore_n 3, 1) := by decide +kernel
theorem dX1_leastClash_44 : decode cX1_leastClash 44 = .ok (.iinc 4 1, 3) := by decide +kernel
theorem dX1_leastClash_47 : decode cX1_leastClash 47 = .ok (.goto (-42), 3) := by decide +kernel
theorem dX1_leastClash_50 : decode cX1_leastClash 50 = .ok (.iload_n 3, 1) := by decide +kernel
theorem dX1_leastClash_51 : decode cX1_leastClash 51 = .ok (.ireturn, 1) := by decide +kernel
theorem dX2_init_0 : decode cX2_init 0 = .ok (.aload_n 0, 1) := by decide +kernel
theorem dX2_init_1 : decode cX2_init 1 = .ok (.invokespecial 3, 3) := by decide +kernel
theorem dX2_init_4 : decode cX2_init 4 = .ok (.aload_n 0, 1) := by decide +kernel
theorem dX2_init_5 : decode cX2_init 5 = .ok (.bipush 10, 2) := by decide +kernel
theorem dX2_init_7 : decode cX2_init 7 = .ok (.newarray .int, 2) := by decide +kernel
theorem dX2_init_9 : decode cX2_init 9 = .ok (.putfield 9, 3) := by decide +kernel
theorem dX2_init_12 : decode cX2_init 12 = .ok (.aload_n 0, 1) := by decide +kernel
theorem dX2_init_13 : decode cX2_init 13 = .ok (.bipush 10, 2) := by decide +kernel
theorem dX2_init_15 : decode cX2_init 15 = .ok (.newarray .int, 2) := by decide +kernel
theorem dX2_init_17 : decode cX2_init 17 = .ok (.putfield 15, 3) := by decide +kernel
theorem dX2_init_20 : decode cX2_init 20 = .ok (.aload_n 0, 1) := by decide +kernel
theorem dX2_init_21 : decode cX2_init 21 = .ok (.bipush 10, 2) := by decide +kernel
theorem dX2_init_23 : decode cX2_init 23 = .ok (.newarray .int, 2) := by decide +kernel
theorem dX2_init_25 : decode cX2_init 25 = .ok (.putfield 18, 3) := by decide +kernel
theorem dX2_init_28 : decode cX2_init 28 = .ok (.aload_n 0, 1) := by decide +kernel
theorem dX2_init_29 : decode cX2_init 29 = .ok (.iconst 4, 1) := by decide +kernel
theorem dX2_init_30 : decode cX2_init 30 = .ok (.putfield 21, 3) := by decide +kernel
theorem dX2_init_33 : decode cX2_init 33 = .ok (.return_, 1) := by decide +kernel
theorem dX2_startAnew_0 : decode cX2_startAnew 0 = .ok (.aload_n 0, 1) := by decide +kernel
theorem dX2_startAnew_1 : decode cX2_startAnew 1 = .ok (.iload_n 1, 1) := by decide +kernel
theorem dX2_startAnew_2 : decode cX2_startAnew 2 = .ok (.putfield 21, 3) := by decide +kernel
theorem dX2_startAnew_5 : decode cX2_startAnew 5 = .ok (.aload_n 0, 1) := by decide +kernel
theorem dX2_startAnew_6 : decode cX2_startAnew 6 = .ok (.iconst 0, 1) := by decide +kernel
theorem dX2_startAnew_7 : decode cX2_startAnew 7 = .ok (.putfield 25, 3) := by decide +kernel
theorem dX2_startAnew_10 : decode cX2_startAnew 10 = .ok (.aload_n 0, 1) := by decide +kernel
theorem dX2_startAnew_11 : decode cX2_startAnew 11 = .ok (.iconst 0, 1) := by decide +kernel
theorem dX2_startAnew_12 : decode cX2_startAnew 12 = .ok (.putfield 28, 3) := by decide +kernel
theorem dX2_startAnew_15 : decode cX2_startAnew 15 = .ok (.aload_n 0, 1) := by decide +kernel
theorem dX2_startAnew_16 : decode cX2_startAnew 16 = .ok (.iconst 0, 1) := by decide +kernel
theorem dX2_startAnew_17 : decode cX2_startAnew 17 = .ok (.putfield 31, 3) := by decide +kernel
theorem dX2_startAnew_20 : decode cX2_startAnew 20 = .ok (.aload_n 0, 1) := by decide +kernel
theorem dX2_startAnew_21 : decode cX2_startAnew 21 = .ok (.iconst 0, 1) := by decide +kernel
theorem dX2_startAnew_22 : decode cX2_startAnew 22 = .ok (.putfield 34, 3) := by decide +kernel
theorem dX2_startAnew_25 : decode cX2_startAnew 25 = .ok (.return_, 1) := by decide +kernel
theorem dX2_hasLine_0 : decode cX2_hasLine 0 = .ok (.iload_n 1, 1) := by decide +kernel
theorem dX2_hasLine_1 : decode cX2_hasLine 1 = .ok (.ifCond .lt 15, 3) := by decide +kernel
theorem dX2_hasLine_4 : decode cX2_hasLine 4 = .ok (.iload_n 1, 1) := by decide +kernel
theorem dX2_hasLine_5 : decode cX2_hasLine 5 = .ok (.aload_n 0, 1) := by decide +kernel
theorem dX2_hasLine_6 : decode cX2_hasLine 6 = .ok (.getfield 21, 3) := by decide +kernel
theorem dX2_hasLine_9 : decode cX2_hasLine 9 = .ok (.if_icmp .ge 7, 3) := by decide +kernel
theorem dX2_hasLine_12 : decode cX2_hasLine 12 = .ok (.iconst 1, 1) := by decide +kernel
theorem dX2_hasLine_13 : decode cX2_hasLine 13 = .ok (.goto 4, 3) := by decide +kernel
theorem dX2_hasLine_16 : decode cX2_hasLine 16 = .ok (.iconst 0, 1) := by decide +kernel
theorem dX2_hasLine_17 : decode cX2_hasLine 17 = .ok (.ireturn, 1) := by decide +kernel
theorem dX2_hasWay_0 : decode cX2_hasWay 0 = .ok (.iload_n 1, 1) := by decide +kernel
theorem dX2_hasWay_1 : decode cX2_hasWay 1 = .ok (.ifCond .lt 15, 3) := by decide +kernel
theorem dX2_hasWay_4 : decode cX2_hasWay 4 = .ok (.iload_n 1, 1) := by decide +kernel
theorem dX2_hasWay_5 : decode cX2_hasWay 5 = .ok (.aload_n 0, 1) := by decide +kernel
theorem dX2_hasWay_6 : decode cX2_hasWay 6 = .ok (.getfield 25, 3) := by decide +kernel
theorem dX2_hasWay_9 : decode cX2_hasWay 9 = .ok (.if_icmp .ge 7, 3) := by decide +kernel
theorem dX2_hasWay_12 : decode cX2_hasWay 12 = .ok (.iconst 1, 1) := by decide +kernel
theorem dX2_hasWay_13 : decode cX2_hasWay 13 = .ok (.goto 4, 3) := by decide +kernel
theorem dX2_hasWay_16 : decode cX2_hasWay 16 = .ok (.iconst 0, 1) := by decide +kernel
theorem dX2_hasWay_17 : decode cX2_hasWay 17 = .ok (.ireturn, 1) := by decide +kernel
theorem dX2_hasOffer_0 : decode cX2_hasOffer 0 = .ok (.iload_n 1, 1) := by decide +kernel
theorem dX2_hasOffer_1 : decode cX2_hasOffer 1 = .ok (.ifCond .lt 15, 3) := by decide +kernel
theorem dX2_hasOffer_4 : decode cX2_hasOffer 4 = .ok (.iload_n 1, 1) := by decide +kernel
theorem dX2_hasOffer_5 : decode cX2_hasOffer 5 = .ok (.aload_n 0, 1) := by decide +kernel
theorem dX2_hasOffer_6 : decode cX2_hasOffer 6 = .ok (.getfield 28, 3) := by decide +kernel
theorem dX2_hasOffer_9 : decode cX2_hasOffer 9 = .ok (.if_icmp .ge 7, 3) := by decide +kernel
theorem dX2_hasOffer_12 : decode cX2_hasOffer 12 = .ok (.iconst 1, 1) := by decide +kernel
theorem dX2_hasOffer_13 : decode cX2_hasOffer 13 = .ok (.goto 4, 3) := by decide +kernel
theorem dX2_hasOffer_16 : decode cX2_hasOffer 16 = .ok (.iconst 0, 1) := by decide +kernel
theorem dX2_hasOffer_17 : decode cX2_hasOffer 17 = .ok (.ireturn, 1) := by decide +kernel
theorem dX2_isLineSet_0 : decode cX2_isLineSet 0 = .ok (.iload_n 1, 1) := by decide +kernel
theorem dX2_isLineSet_1 : decode cX2_isLineSet 1 = .ok (.ifCond .lt 17, 3) := by decide +kernel
theorem dX2_isLineSet_4 : decode cX2_isLineSet 4 = .ok (.iload_n 1, 1) := by decide +kernel
theorem dX2_isLineSet_5 : decode cX2_isLineSet 5 = .ok (.iconst 1, 1) := by decide +kernel
theorem dX2_isLineSet_6 : decode cX2_isLineSet 6 = .ok (.aload_n 0, 1) := by decide +kernel
theorem dX2_isLineSet_7 : decode cX2_isLineSet 7 = .ok (.getfield 21, 3) := by decide +kernel
theorem dX2_isLineSet_10 : decode cX2_isLineSet 10 = .ok (.ishl, 1) := by decide +kernel
theorem dX2_isLineSet_11 : decode cX2_isLineSet 11 = .ok (.if_icmp .ge 7, 3) := by decide +kernel
theorem dX2_isLineSet_14 : decode cX2_isLineSet 14 = .ok (.iconst 1, 1) := by decide +kernel
theorem dX2_isLineSet_15 : decode cX2_isLineSet 15 = .ok (.goto 4, 3) := by decide +kernel
theorem dX2_isLineSet_18 : decode cX2_isLineSet 18 = .ok (.iconst 0, 1) := by decide +kernel
theorem dX2_isLineSet_19 : decode cX2_isLineSet 19 = .ok (.ireturn, 1) := by decide +kernel
theorem dX2_isFilledLineSet_0 : decode cX2_isFilledLineSet 0 = .ok (.iload_n 1, 1) := by decide +kernel
theorem dX2_isFilledLineSet_1 : decode cX2_isFilledLineSet 1 = .ok (.ifCond .eq 15, 3) := by decide +kernel
theorem dX2_isFilledLineSet_4 : decode cX2_isFilledLineSet 4 = .ok (.aload_n 0, 1) := by decide +kernel
theorem dX2_isFilledLineSet_5 : decode cX2_isFilledLineSet 5 = .ok (.iload_n 1, 1) := by decide +kernel
theorem dX2_isFilledLineSet_6 : decode cX2_isFilledLineSet 6 = .ok (.invokevirtual 37, 3) := by decide +kernel
theorem dX2_isFilledLineSet_9 : decode cX2_isFilledLineSet 9 = .ok (.ifCond .eq 7, 3) := by decide +kernel
theorem dX2_isFilledLineSet_12 : decode cX2_isFilledLineSet 12 = .ok (.iconst 1, 1) := by decide +kernel
theorem dX2_isFilledLineSet_13 : decode cX2_isFilledLineSet 13 = .ok (.goto 4, 3) := by decide +kernel
theorem dX2_isFilledLineSet_16 : decode cX2_isFilledLineSet 16 = .ok (.iconst 0, 1) := by decide +kernel
theorem dX2_isFilledLineSet_17 : decode cX2_isFilledLineSet 17 = .ok (.ireturn, 1) := by decide +kernel
theorem dX2_addWay_0 : decode cX2_addWay 0 = .ok (.aload_n 0, 1) := by decide +kernel
theorem dX2_addWay_1 : decode cX2_addWay 1 = .ok (.getfield 25, 3) := by decide +kernel
theorem dX2_addWay_4 : decode cX2_addWay 4 = .ok (.istore_n 3, 1) := by decide +kernel
theorem dX2_addWay_5 : decode cX2_addWay 5 = .ok (.aload_n 0, 1) := by decide +kernel
theorem dX2_addWay_6 : decode cX2_addWay 6 = .ok (.getfield 9, 3) := by decide +kernel
theorem dX2_addWay_9 : decode cX2_addWay 9 = .ok (.iload_n 3, 1) := by decide +kernel
theorem dX2_addWay_10 : decode cX2_addWay 10 = .ok (.iload_n 1, 1) := by decide +kernel
theorem dX2_addWay_11 : decode cX2_addWay 11 = .ok (.iastore, 1) := by decide +kernel
theorem dX2_addWay_12 : decode cX2_addWay 12 = .ok (.aload_n 0, 1) := by decide +kernel
theorem dX2_addWay_13 : decode cX2_addWay 13 = .ok (.getfield 15, 3) := by decide +kernel
theorem dX2_addWay_16 : decode cX2_addWay 16 = .ok (.iload_n 3, 1) := by decide +kernel
theorem dX2_addWay_17 : decode cX2_addWay 17 = .ok (.iload_n 2, 1) := by decide +kernel
theorem dX2_addWay_18 : decode cX2_addWay 18 = .ok (.iastore, 1) := by decide +kernel
theorem dX2_addWay_19 : decode cX2_addWay 19 = .ok (.aload_n 0, 1) := by decide +kernel
theorem dX2_addWay_20 : decode cX2_addWay 20 = .ok (.aload_n 0, 1) := by decide +kernel
theorem dX2_addWay_21 : decode cX2_addWay 21 = .ok (.getfield 31, 3) := by decide +kernel
theorem dX2_addWay_24 : decode cX2_addWay 24 = .ok (.iload_n 3, 1) := by decide +kernel
theorem dX2_addWay_25 : decode cX2_addWay 25 = .ok (.iconst 1, 1) := by decide +kernel
theorem dX2_addWay_26 : decode cX2_addWay 26 = .ok (.invokestatic 41, 3) := by decide +kernel
theorem dX2_addWay_29 : decode cX2_addWay 29 = .ok (.putfield 31, 3) := by decide +kernel
theorem dX2_addWay_32 : decode cX2_addWay 32 = .ok (.aload_n 0, 1) := by decide +kernel
theorem dX2_addWay_33 : decode cX2_addWay 33 = .ok (.aload_n 0, 1) := by decide +kernel
theorem dX2_addWay_34 : decode cX2_addWay 34 = .ok (.getfield 34, 3) := by decide +kernel
theorem dX2_addWay_37 : decode cX2_addWay 37 = .ok (.iload_n 3, 1) := by decide +kernel
theorem dX2_addWay_38 : decode cX2_addWay 38 = .ok (.iconst 0, 1) := by decide +kernel
theorem dX2_addWay_39 : decode cX2_addWay 39 = .ok (.invokestatic 41, 3) := by decide +kernel
theorem dX2_addWay_42 : decode cX2_addWay 42 = .ok (.putfield 34, 3) := by decide +kernel
theorem dX2_addWay_45 : decode cX2_addWay 45 = .ok (.aload_n 0, 1) := by decide +kernel
theorem dX2_addWay_46 : decode cX2_addWay 46 = .ok (.dup, 1) := by decide +kernel
theorem dX2_addWay_47 : decode cX2_addWay 47 = .ok (.getfield 25, 3) := by decide +kernel
theorem dX2_addWay_50 : decode cX2_addWay 50 = .ok (.iconst 1, 1) := by decide +kernel
theorem dX2_addWay_51 : decode cX2_addWay 51 = .ok (.iadd, 1) := by decide +kernel
theorem dX2_addWay_52 : decode cX2_addWay 52 = .ok (.putfield 25, 3) := by decide +kernel
theorem dX2_addWay_55 : decode cX2_addWay 55 = .ok (.iload_n 3, 1) := by decide +kernel
theorem dX2_addWay_56 : decode cX2_addWay 56 = .ok (.ireturn, 1) := by decide +kernel
theorem dX2_dropLastWay_0 : decode cX2_dropLastWay 0 = .ok (.aload_n 0, 1) := by decide +kernel
theorem dX2_dropLastWay_1 : decode cX2_dropLastWay 1 = .ok (.dup, 1) := by decide +kernel
theorem dX2_dropLastWay_2 : decode cX2_dropLastWay 2 = .ok (.getfield 25, 3) := by decide +kernel
theorem dX2_dropLastWay_5 : decode cX2_dropLastWay 5 = .ok (.iconst 1, 1) := by decide +kernel
theorem dX2_dropLastWay_6 : decode cX2_dropLastWay 6 = .ok (.isub, 1) := by decide +kernel
theorem dX2_dropLastWay_7 : decode cX2_dropLastWay 7 = .ok (.putfield 25, 3) := by decide +kernel
theorem dX2_dropLastWay_10 : decode cX2_dropLastWay 10 = .ok (.aload_n 0, 1) := by decide +kernel
theorem dX2_dropLastWay_11 : decode cX2_dropLastWay 11 = .ok (.aload_n 0, 1) := by decide +kernel
theorem dX2_dropLastWay_12 : decode cX2_dropLastWay 12 = .ok (.getfield 31, 3) := by decide +kernel
theorem dX2_dropLastWay_15 : decode cX2_dropLastWay 15 = .ok (.aload_n 0, 1) := by decide +kernel
theorem dX2_dropLastWay_16 : decode cX2_dropLastWay 16 = .ok (.getfield 25, 3) := by decide +kernel
theorem dX2_dropLastWay_19 : decode cX2_dropLastWay 19 = .ok (.iconst 0, 1) := by decide +kernel
theorem dX2_dropLastWay_20 : decode cX2_dropLastWay 20 = .ok (.invokestatic 41, 3) := by decide +kernel
theorem dX2_dropLastWay_23 : decode cX2_dropLastWay 23 = .ok (.putfield 31, 3) := by decide +kernel
theorem dX2_dropLastWay_26 : decode cX2_dropLastWay 26 = .ok (.aload_n 0, 1) := by decide +kernel
theorem dX2_dropLastWay_27 : decode cX2_dropLastWay 27 = .ok (.aload_n 0, 1) := by decide +kernel
theorem dX2_dropLastWay_28 : decode cX2_dropLastWay 28 = .ok (.getfield 34, 3) := by decide +kernel
theorem dX2_dropLastWay_31 : decode cX2_dropLastWay 31 = .ok (.aload_n 0, 1) := by decide +kernel
theorem dX2_dropLastWay_32 : decode cX2_dropLastWay 32 = .ok (.getfield 25, 3) := by decide +kernel
theorem dX2_dropLastWay_35 : decode cX2_dropLastWay 35 = .ok (.iconst 0, 1) := by decide +kernel
theorem dX2_dropLastWay_36 : decode cX2_dropLastWay 36 = .ok (.invokestatic 41, 3) := by decide +kernel
theorem dX2_dropLastWay_39 : decode cX2_dropLastWay 39 = .ok (.putfield 34, 3) := by decide +kernel
theorem dX2_dropLastWay_42 : decode cX2_dropLastWay 42 = .ok (.return_, 1) := by decide +kernel
theorem dX2_addOffer_0 : decode cX2_addOffer 0 = .ok (.aload_n 0, 1) := by decide +kernel
theorem dX2_addOffer_1 : decode cX2_addOffer 1 = .ok (.getfield 28, 3) := by decide +kernel
theorem dX2_addOffer_4 : decode cX2_addOffer 4 = .ok (.istore_n 2, 1) := by decide +kernel
theorem dX2_addOffer_5 : decode cX2_addOffer 5 = .ok (.aload_n 0, 1) := by decide +kernel
theorem dX2_addOffer_6 : decode cX2_addOffer 6 = .ok (.getfield 18, 3) := by decide +kernel
theorem dX2_addOffer_9 : decode cX2_addOffer 9 = .ok (.iload_n 2, 1) := by decide +kernel
theorem dX2_addOffer_10 : decode cX2_addOffer 10 = .ok (.iload_n 1, 1) := by decide +kernel
theorem dX2_addOffer_11 : decode cX2_addOffer 11 = .ok (.iastore, 1) := by decide +kernel
theorem dX2_addOffer_12 : decode cX2_addOffer 12 = .ok (.aload_n 0, 1) := by decide +kernel
theorem dX2_addOffer_13 : decode cX2_addOffer 13 = .ok (.dup, 1) := by decide +kernel
theorem dX2_addOffer_14 : decode cX2_addOffer 14 = .ok (.getfield 28, 3) := by decide +kernel
theorem dX2_addOffer_17 : decode cX2_addOffer 17 = .ok (.iconst 1, 1) := by decide +kernel
theorem dX2_addOffer_18 : decode cX2_addOffer 18 = .ok (.iadd, 1) := by decide +kernel
theorem dX2_addOffer_19 : decode cX2_addOffer 19 = .ok (.putfield 28, 3) := by decide +kernel
theorem dX2_addOffer_22 : decode cX2_addOffer 22 = .ok (.iload_n 2, 1) := by decide +kernel
theorem dX2_addOffer_23 : decode cX2_addOffer 23 = .ok (.ireturn, 1) := by decide +kernel
theorem dX2_isOn_0 : decode cX2_isOn 0 = .ok (.aload_n 0, 1) := by decide +kernel
theorem dX2_isOn_1 : decode cX2_isOn 1 = .ok (.getfield 31, 3) := by decide +kernel
theorem dX2_isOn_4 : decode cX2_isOn 4 = .ok (.iload_n 1, 1) := by decide +kernel
theorem dX2_isOn_5 : decode cX2_isOn 5 = .ok (.invokestatic 45, 3) := by decide +kernel
theorem dX2_isOn_8 : decode cX2_isOn 8 = .ok (.iconst 1, 1) := by decide +kernel
theorem dX2_isOn_9 : decode cX2_isOn 9 = .ok (.if_icmp .ne 7, 3) := by decide +kernel
theorem dX2_isOn_12 : decode cX2_isOn 12 = .ok (.iconst 1, 1) := by decide +kernel
theorem dX2_isOn_13 : decode cX2_isOn 13 = .ok (.goto 4, 3) := by decide +kernel
theorem dX2_isOn_16 : decode cX2_isOn 16 = .ok (.iconst 0, 1) := by decide +kernel
theorem dX2_isOn_17 : decode cX2_isOn 17 = .ok (.ireturn, 1) := by decide +kernel
theorem dX2_seenLines_0 : decode cX2_seenLines 0 = .ok (.iconst 0, 1) := by decide +kernel
theorem dX2_seenLines_1 : decode cX2_seenLines 1 = .ok (.istore_n 1, 1) := by decide +kernel
theorem dX2_seenLines_2 : decode cX2_seenLines 2 = .ok (.iconst 0, 1) := by decide +kernel
theorem dX2_seenLines_3 : decode cX2_seenLines 3 = .ok (.istore_n 2, 1) := by decide +kernel
theorem dX2_seenLines_4 : decode cX2_seenLines 4 = .ok (.iload_n 2, 1) := by decide +kernel
theorem dX2_seenLines_5 : decode cX2_seenLines 5 = .ok (.aload_n 0, 1) := by decide +kernel
theorem dX2_seenLines_6 : decode cX2_seenLines 6 = .ok (.getfield 25, 3) := by decide +kernel
theorem dX2_seenLines_9 : decode cX2_seenLines 9 = .ok (.if_icmp .ge 26, 3) := by decide +kernel
theorem dX2_seenLines_12 : decode cX2_seenLines 12 = .ok (.aload_n 0, 1) := by decide +kernel
theorem dX2_seenLines_13 : decode cX2_seenLines 13 = .ok (.iload_n 2, 1) := by decide +kernel
theorem dX2_seenLines_14 : decode cX2_seenLines 14 = .ok (.invokevirtual 49, 3) := by decide +kernel
theorem dX2_seenLines_17 : decode cX2_seenLines 17 = .ok (.ifCond .eq 12, 3) := by decide +kernel
theorem dX2_seenLines_20 : decode cX2_seenLines 20 = .ok (.iload_n 1, 1) := by decide +kernel
theorem dX2_seenLines_21 : decode cX2_seenLines 21 = .ok (.aload_n 0, 1) := by decide +kernel
theorem dX2_seenLines_22 : decode cX2_seenLines 22 = .ok (.getfield 9, 3) := by decide +kernel
theorem dX2_seenLines_25 : decode cX2_seenLines 25 = .ok (.iload_n 2, 1) := by decide +kernel
theorem dX2_seenLines_26 : decode cX2_seenLines 26 = .ok (.iaload, 1) := by decide +kernel
theorem dX2_seenLines_27 : decode cX2_seenLines 27 = .ok (.ior, 1) := by decide +kernel
theorem dX2_seenLines_28 : decode cX2_seenLines 28 = .ok (.istore_n 1, 1) := by decide +kernel
theorem dX2_seenLines_29 : decode cX2_seenLines 29 = .ok (.iinc 2 1, 3) := by decide +kernel
theorem dX2_seenLines_32 : decode cX2_seenLines 32 = .ok (.goto (-28), 3) := by decide +kernel
theorem dX2_seenLines_35 : decode cX2_seenLines 35 = .ok (.iload_n 1, 1) := by decide +kernel
theorem dX2_seenLines_36 : decode cX2_seenLines 36 = .ok (.ireturn, 1) := by decide +kernel
theorem dX2_linesAlike_0 : decode cX2_linesAlike 0 = .ok (.iconst 1, 1) := by decide +kernel
theorem dX2_linesAlike_1 : decode cX2_linesAlike 1 = .ok (.aload_n 0, 1) := by decide +kernel
theorem dX2_linesAlike_2 : decode cX2_linesAlike 2 = .ok (.getfield 21, 3) := by decide +kernel
theorem dX2_linesAlike_5 : decode cX2_linesAlike 5 = .ok (.ishl, 1) := by decide +kernel
theorem dX2_linesAlike_6 : decode cX2_linesAlike 6 = .ok (.iconst 1, 1) := by decide +kernel
theorem dX2_linesAlike_7 : decode cX2_linesAlike 7 = .ok (.isub, 1) := by decide +kernel
theorem dX2_linesAlike_8 : decode cX2_linesAlike 8 = .ok (.istore_n 2, 1) := by decide +kernel
theorem dX2_linesAlike_9 : decode cX2_linesAlike 9 = .ok (.iconst 0, 1) := by decide +kernel
theorem dX2_linesAlike_10 : decode cX2_linesAlike 10 = .ok (.istore_n 3, 1) := by decide +kernel
theorem dX2_linesAlike_11 : decode cX2_linesAlike 11 = .ok (.iload_n 3, 1) := by decide +kernel
theorem dX2_linesAlike_12 : decode cX2_linesAlike 12 = .ok (.aload_n 0, 1) := by decide +kernel
theorem dX2_linesAlike_13 : decode cX2_linesAlike 13 = .ok (.getfield 25, 3) := by decide +kernel
theorem dX2_linesAlike_16 : decode cX2_linesAlike 16 = .ok (.if_icmp .ge 51, 3) := by decide +kernel
theorem dX2_linesAlike_19 : decode cX2_linesAlike 19 = .ok (.aload_n 0, 1) := by decide +kernel
theorem dX2_linesAlike_20 : decode cX2_linesAlike 20 = .ok (.iload_n 3, 1) := by decide +kernel
theorem dX2_linesAlike_21 : decode cX2_linesAlike 21 = .ok (.invokevirtual 49, 3) := by decide +kernel
theorem dX2_linesAlike_24 : decode cX2_linesAlike 24 = .ok (.ifCond .eq 37, 3) := by decide +kernel
theorem dX2_linesAlike_27 : decode cX2_linesAlike 27 = .ok (.iload_n 2, 1) := by decide +kernel
theorem dX2_linesAlike_28 : decode cX2_linesAlike 28 = .ok (.aload_n 0, 1) := by decide +kernel
theorem dX2_linesAlike_29 : decode cX2_linesAlike 29 = .ok (.getfield 9, 3) := by decide +kernel
theorem dX2_linesAlike_32 : decode cX2_linesAlike 32 = .ok (.iload_n 3, 1) := by decide +kernel
theorem dX2_linesAlike_33 : decode cX2_linesAlike 33 = .ok (.iaload, 1) := by decide +kernel
theorem dX2_linesAlike_34 : decode cX2_linesAlike 34 = .ok (.iload_n 1, 1) := by decide +kernel
theorem dX2_linesAlike_35 : decode cX2_linesAlike 35 = .ok (.invokestatic 45, 3) := by decide +kernel
theorem dX2_linesAlike_38 : decode cX2_linesAlike 38 = .ok (.iconst 1, 1) := by decide +kernel
theorem dX2_linesAlike_39 : decode cX2_linesAlike 39 = .ok (.if_icmp .ne 12, 3) := by decide +kernel
theorem dX2_linesAlike_42 : decode cX2_linesAlike 42 = .ok (.aload_n 0, 1) := by decide +kernel
theorem dX2_linesAlike_43 : decode cX2_linesAlike 43 = .ok (.getfield 9, 3) := by decide +kernel
theorem dX2_linesAlike_46 : decode cX2_linesAlike 46 = .ok (.iload_n 3, 1) := by decide +kernel
theorem dX2_linesAlike_47 : decode cX2_linesAlike 47 = .ok (.iaload, 1) := by decide +kernel
theorem dX2_linesAlike_48 : decode cX2_linesAlike 48 = .ok (.goto 11, 3) := by decide +kernel
theorem dX2_linesAlike_51 : decode cX2_linesAlike 51 = .ok (.aload_n 0, 1) := by decide +kernel
theorem dX2_linesAlike_52 : decode cX2_linesAlike 52 = .ok (.getfield 9, 3) := by decide +kernel
theorem dX2_linesAlike_55 : decode cX2_linesAlike 55 = .ok (.iload_n 3, 1) := by decide +kernel
theorem dX2_linesAlike_56 : decode cX2_linesAlike 56 = .ok (.iaload, 1) := by decide +kernel
theorem dX2_linesAlike_57 : decode cX2_linesAlike 57 = .ok (.iconst (-1), 1) := by decide +kernel
theorem dX2_linesAlike_58 : decode cX2_linesAlike 58 = .ok (.ixor, 1) := by decide +kernel
theorem dX2_linesAlike_59 : decode cX2_linesAlike 59 = .ok (.iand, 1) := by decide +kernel
theorem dX2_linesAlike_60 : decode cX2_linesAlike 60 = .ok (.istore_n 2, 1) := by decide +kernel
theorem dX2_linesAlike_61 : decode cX2_linesAlike 61 = .ok (.iinc 3 1, 3) := by decide +kernel
theorem dX2_linesAlike_64 : decode cX2_linesAlike 64 = .ok (.goto (-53), 3) := by decide +kernel
theorem dX2_linesAlike_67 : decode cX2_linesAlike 67 = .ok (.iload_n 2, 1) := by decide +kernel
theorem dX2_linesAlike_68 : decode cX2_linesAlike 68 = .ok (.ireturn, 1) := by decide +kernel
theorem dX2_groupCount_0 : decode cX2_groupCount 0 = .ok (.iconst 0, 1) := by decide +kernel
theorem dX2_groupCount_1 : decode cX2_groupCount 1 = .ok (.istore_n 1, 1) := by decide +kernel
theorem dX2_groupCount_2 : decode cX2_groupCount 2 = .ok (.iconst 0, 1) := by decide +kernel
theorem dX2_groupCount_3 : decode cX2_groupCount 3 = .ok (.istore_n 2, 1) := by decide +kernel
theorem dX2_groupCount_4 : decode cX2_groupCount 4 = .ok (.iload_n 2, 1) := by decide +kernel
theorem dX2_groupCount_5 : decode cX2_groupCount 5 = .ok (.aload_n 0, 1) := by decide +kernel
theorem dX2_groupCount_6 : decode cX2_groupCount 6 = .ok (.getfield 21, 3) := by decide +kernel
theorem dX2_groupCount_9 : decode cX2_groupCount 9 = .ok (.if_icmp .ge 28, 3) := by decide +kernel
theorem dX2_groupCount_12 : decode cX2_groupCount 12 = .ok (.iconst 1, 1) := by decide +kernel
theorem dX2_groupCount_13 : decode cX2_groupCount 13 = .ok (.iload_n 2, 1) := by decide +kernel
theorem dX2_groupCount_14 : decode cX2_groupCount 14 = .ok (.ishl, 1) := by decide +kernel
theorem dX2_groupCount_15 : decode cX2_groupCount 15 = .ok (.iconst 1, 1) := by decide +kernel
theorem dX2_groupCount_16 : decode cX2_groupCount 16 = .ok (.isub, 1) := by decide +kernel
theorem dX2_groupCount_17 : decode cX2_groupCount 17 = .ok (.istore_n 3, 1) := by decide +kernel
theorem dX2_groupCount_18 : decode cX2_groupCount 18 = .ok (.aload_n 0, 1) := by decide +kernel
theorem dX2_groupCount_19 : decode cX2_groupCount 19 = .ok (.iload_n 2, 1) := by decide +kernel
theorem dX2_groupCount_20 : decode cX2_groupCount 20 = .ok (.invokevirtual 52, 3) := by decide +kernel
theorem dX2_groupCount_23 : decode cX2_groupCount 23 = .ok (.iload_n 3, 1) := by decide +kernel
theorem dX2_groupCount_24 : decode cX2_groupCount 24 = .ok (.iand, 1) := by decide +kernel
theorem dX2_groupCount_25 : decode cX2_groupCount 25 = .ok (.ifCond .ne 6, 3) := by decide +kernel
theorem dX2_groupCount_28 : decode cX2_groupCount 28 = .ok (.iinc 1 1, 3) := by decide +kernel
theorem dX2_groupCount_31 : decode cX2_groupCount 31 = .ok (.iinc 2 1, 3) := by decide +kernel
theorem dX2_groupCount_34 : decode cX2_groupCount 34 = .ok (.goto (-30), 3) := by decide +kernel
theorem dX2_groupCount_37 : decode cX2_groupCount 37 = .ok (.iload_n 1, 1) := by decide +kernel
theorem dX2_groupCount_38 : decode cX2_groupCount 38 = .ok (.ireturn, 1) := by decide +kernel
theorem dX3_init_0 : decode cX3_init 0 = .ok (.aload_n 0, 1) := by decide +kernel
theorem dX3_init_1 : decode cX3_init 1 = .ok (.invokespecial 3, 3) := by decide +kernel
theorem dX3_init_4 : decode cX3_init 4 = .ok (.aload_n 0, 1) := by decide +kernel
theorem dX3_init_5 : decode cX3_init 5 = .ok (.sipush 252, 3) := by decide +kernel
theorem dX3_init_8 : decode cX3_init 8 = .ok (.newarray .int, 2) := by decide +kernel
theorem dX3_init_10 : decode cX3_init 10 = .ok (.putfield 11, 3) := by decide +kernel
theorem dX3_init_13 : decode cX3_init 13 = .ok (.return_, 1) := by decide +kernel
theorem dX3_empty_0 : decode cX3_empty 0 = .ok (.aload_n 0, 1) := by decide +kernel
theorem dX3_empty_1 : decode cX3_empty 1 = .ok (.iconst 0, 1) := by decide +kernel
theorem dX3_empty_2 : decode cX3_empty 2 = .ok (.putfield 15, 3) := by decide +kernel
theorem dX3_empty_5 : decode cX3_empty 5 = .ok (.return_, 1) := by decide +kernel
theorem dX3_add_0 : decode cX3_add 0 = .ok (.aload_n 0, 1) := by decide +kernel
theorem dX3_add_1 : decode cX3_add 1 = .ok (.getfield 15, 3) := by decide +kernel
theorem dX3_add_4 : decode cX3_add 4 = .ok (.sipush 252, 3) := by decide +kernel
theorem dX3_add_7 : decode cX3_add 7 = .ok (.if_icmp .ge 23, 3) := by decide +kernel
theorem dX3_add_10 : decode cX3_add 10 = .ok (.aload_n 0, 1) := by decide +kernel
theorem dX3_add_11 : decode cX3_add 11 = .ok (.getfield 11, 3) := by decide +kernel
theorem dX3_add_14 : decode cX3_add 14 = .ok (.aload_n 0, 1) := by decide +kernel
theorem dX3_add_15 : decode cX3_add 15 = .ok (.getfield 15, 3) := by decide +kernel
theorem dX3_add_18 : decode cX3_add 18 = .ok (.iload_n 1, 1) := by decide +kernel
theorem dX3_add_19 : decode cX3_add 19 = .ok (.iastore, 1) := by decide +kernel
theorem dX3_add_20 : decode cX3_add 20 = .ok (.aload_n 0, 1) := by decide +kernel
theorem dX3_add_21 : decode cX3_add 21 = .ok (.dup, 1) := by decide +kernel
theorem dX3_add_22 : decode cX3_add 22 = .ok (.getfield 15, 3) := by decide +kernel
theorem dX3_add_25 : decode cX3_add 25 = .ok (.iconst 1, 1) := by decide +kernel
theorem dX3_add_26 : decode cX3_add 26 = .ok (.iadd, 1) := by decide +kernel
theorem dX3_add_27 : decode cX3_add 27 = .ok (.putfield 15, 3) := by decide +kernel
theorem dX3_add_30 : decode cX3_add 30 = .ok (.return_, 1) := by decide +kernel
theorem dX3_answer_0 : decode cX3_answer 0 = .ok (.iload_n 1, 1) := by decide +kernel
theorem dX3_answer_1 : decode cX3_answer 1 = .ok (.iconst (-1), 1) := by decide +kernel
theorem dX3_answer_2 : decode cX3_answer 2 = .ok (.if_icmp .ne 8, 3) := by decide +kernel
theorem dX3_answer_5 : decode cX3_answer 5 = .ok (.aload_n 0, 1) := by decide +kernel
theorem dX3_answer_6 : decode cX3_answer 6 = .ok (.getfield 15, 3) := by decide +kernel
theorem dX3_answer_9 : decode cX3_answer 9 = .ok (.ireturn, 1) := by decide +kernel
theorem dX3_answer_10 : decode cX3_answer 10 = .ok (.iload_n 1, 1) := by decide +kernel
theorem dX3_answer_11 : decode cX3_answer 11 = .ok (.ifCond .lt 20, 3) := by decide +kernel
theorem dX3_answer_14 : decode cX3_answer 14 = .ok (.iload_n 1, 1) := by decide +kernel
theorem dX3_answer_15 : decode cX3_answer 15 = .ok (.aload_n 0, 1) := by decide +kernel
theorem dX3_answer_16 : decode cX3_answer 16 = .ok (.getfield 15, 3) := by decide +kernel
theorem dX3_answer_19 : decode cX3_answer 19 = .ok (.if_icmp .ge 12, 3) := by decide +kernel
theorem dX3_answer_22 : decode cX3_answer 22 = .ok (.aload_n 0, 1) := by decide +kernel
theorem dX3_answer_23 : decode cX3_answer 23 = .ok (.getfield 11, 3) := by decide +kernel
theorem dX3_answer_26 : decode cX3_answer 26 = .ok (.iload_n 1, 1) := by decide +kernel
theorem dX3_answer_27 : decode cX3_answer 27 = .ok (.iaload, 1) := by decide +kernel
theorem dX3_answer_28 : decode cX3_answer 28 = .ok (.goto 5, 3) := by decide +kernel
theorem dX3_answer_31 : decode cX3_answer 31 = .ok (.bipush (-102), 2) := by decide +kernel
theorem dX3_answer_33 : decode cX3_answer 33 = .ok (.ireturn, 1) := by decide +kernel
theorem dX4_init_0 : decode cX4_init 0 = .ok (.aload_n 0, 1) := by decide +kernel
theorem dX4_init_1 : decode cX4_init 1 = .ok (.invokespecial 3, 3) := by decide +kernel
theorem dX4_init_4 : decode cX4_init 4 = .ok (.aload_n 0, 1) := by decide +kernel
theorem dX4_init_5 : decode cX4_init 5 = .ok (.new 9, 3) := by decide +kernel
theorem dX4_init_8 : decode cX4_init 8 = .ok (.dup, 1) := by decide +kernel
theorem dX4_init_9 : decode cX4_init 9 = .ok (.invokespecial 11, 3) := by decide +kernel
theorem dX4_init_12 : decode cX4_init 12 = .ok (.putfield 12, 3) := by decide +kernel
theorem dX4_init_15 : decode cX4_init 15 = .ok (.return_, 1) := by decide +kernel
theorem dX4_leastSets_0 : decode cX4_leastSets 0 = .ok (.aload_n 0, 1) := by decide +kernel
theorem dX4_leastSets_1 : decode cX4_leastSets 1 = .ok (.getfield 12, 3) := by decide +kernel
theorem dX4_leastSets_4 : decode cX4_leastSets 4 = .ok (.invokevirtual 18, 3) := by decide +kernel
theorem dX4_leastSets_7 : decode cX4_leastSets 7 = .ok (.aload_n 1, 1) := by decide +kernel
theorem dX4_leastSets_8 : decode cX4_leastSets 8 = .ok (.invokestatic 21, 3) := by decide +kernel
theorem dX4_leastSets_11 : decode cX4_leastSets 11 = .ok (.istore_n 2, 1) := by decide +kernel
theorem dX4_leastSets_12 : decode cX4_leastSets 12 = .ok (.bipush 10, 2) := by decide +kernel
theorem dX4_leastSets_14 : decode cX4_leastSets 14 = .ok (.istore_n 3, 1) := by decide +kernel
theorem dX4_leastSets_15 : decode cX4_leastSets 15 = .ok (.iconst 0, 1) := by decide +kernel
theorem dX4_leastSets_16 : decode cX4_leastSets 16 = .ok (.istore 4, 2) := by decide +kernel
theorem dX4_leastSets_18 : decode cX4_leastSets 18 = .ok (.iload 4, 2) := by decide +kernel
theorem dX4_leastSets_20 : decode cX4_leastSets 20 = .ok (.iload_n 2, 1) := by decide +kernel
theorem dX4_leastSets_21 : decode cX4_leastSets 21 = .ok (.if_icmp .gt 65, 3) := by decide +kernel
theorem dX4_leastSets_24 : decode cX4_leastSets 24 = .ok (.iload 4, 2) := by decide +kernel
theorem dX4_leastSets_26 : decode cX4_leastSets 26 = .ok (.invokestatic 25, 3) := by decide +kernel
theorem dX4_leastSets_29 : decode cX4_leastSets 29 = .ok (.istore 5, 2) := by decide +kernel
theorem dX4_leastSets_31 : decode cX4_leastSets 31 = .ok (.iload 4, 2) := by decide +kernel
theorem dX4_leastSets_33 : decode cX4_leastSets 33 = .ok (.iload_n 2, 1) := by decide +kernel
theorem dX4_leastSets_34 : decode cX4_leastSets 34 = .ok (.iconst (-1), 1) := by decide +kernel
theorem dX4_leastSets_35 : decode cX4_leastSets 35 = .ok (.ixor, 1) := by decide +kernel
theorem dX4_leastSets_36 : decode cX4_leastSets 36 = .ok (.iand, 1) := by decide +kernel
theorem dX4_leastSets_37 : decode cX4_leastSets 37 = .ok (.ifCond .ne 43, 3) := by decide +kernel
theorem dX4_leastSets_40 : decode cX4_leastSets 40 = .ok (.iload 5, 2) := by decide +kernel
theorem dX4_leastSets_42 : decode cX4_leastSets 42 = .ok (.iload_n 3, 1) := by decide +kernel
theorem dX4_leastSets_43 : decode cX4_leastSets 43 = .ok (.if_icmp .gt 37, 3) := by decide +kernel
theorem dX4_leastSets_46 : decode cX4_leastSets 46 = .ok (.aload_n 1, 1) := by decide +kernel
theorem dX4_leastSets_47 : decode cX4_leastSets 47 = .ok (.iload 4, 2) := by decide +kernel
theorem dX4_leastSets_49 : decode cX4_leastSets 49 = .ok (.invokestatic 31, 3) := by decide +kernel
theorem dX4_leastSets_52 : decode cX4_leastSets 52 = .ok (.ifCond .eq 28, 3) := by decide +kernel
theorem dX4_leastSets_55 : decode cX4_leastSets 55 = .ok (.iload 5, 2) := by decide +kernel
theorem dX4_leastSets_57 : decode cX4_leastSets 57 = .ok (.iload_n 3, 1) := by decide +kernel
theorem dX4_leastSets_58 : decode cX4_leastSets 58 = .ok (.if_icmp .ge 13, 3) := by decide +kernel
theorem dX4_leastSets_61 : decode cX4_leastSets 61 = .ok (.aload_n 0, 1) := by decide +kernel
theorem dX4_leastSets_62 : decode cX4_leastSets 62 = .ok (.getfield 12, 3) := by decide +kernel
theorem dX4_leastSets_65 : decode cX4_leastSets 65 = .ok (.invokevirtual 18, 3) := by decide +kernel
theorem dX4_leastSets_68 : decode cX4_leastSets 68 = .ok (.iload 5, 2) := by decide +kernel
theorem dX4_leastSets_70 : decode cX4_leastSets 70 = .ok (.istore_n 3, 1) := by decide +kernel
theorem dX4_leastSets_71 : decode cX4_leastSets 71 = .ok (.aload_n 0, 1) := by decide +kernel
theorem dX4_leastSets_72 : decode cX4_leastSets 72 = .ok (.getfield 12, 3) := by decide +kernel
theorem dX4_leastSets_75 : decode cX4_leastSets 75 = .ok (.iload 4, 2) := by decide +kernel
theorem dX4_leastSets_77 : decode cX4_leastSets 77 = .ok (.invokevirtual 35, 3) := by decide +kernel
theorem dX4_leastSets_80 : decode cX4_leastSets 80 = .ok (.iinc 4 1, 3) := by decide +kernel
theorem dX4_leastSets_83 : decode cX4_leastSets 83 = .ok (.goto (-65), 3) := by decide +kernel
theorem dX4_leastSets_86 : decode cX4_leastSets 86 = .ok (.aload_n 0, 1) := by decide +kernel
theorem dX4_leastSets_87 : decode cX4_leastSets 87 = .ok (.getfield 12, 3) := by decide +kernel
theorem dX4_leastSets_90 : decode cX4_leastSets 90 = .ok (.areturn, 1) := by decide +kernel
theorem dX4_linesOfNoGoodWay_0 : decode cX4_linesOfNoGoodWay 0 = .ok (.iconst 1, 1) := by decide +kernel
theorem dX4_linesOfNoGoodWay_1 : decode cX4_linesOfNoGoodWay 1 = .ok (.aload_n 0, 1) := by decide +kernel
theorem dX4_linesOfNoGoodWay_2 : decode cX4_linesOfNoGoodWay 2 = .ok (.getfield 39, 3) := by decide +kernel
theorem dX4_linesOfNoGoodWay_5 : decode cX4_linesOfNoGoodWay 5 = .ok (.ishl, 1) := by decide +kernel
theorem dX4_linesOfNoGoodWay_6 : decode cX4_linesOfNoGoodWay 6 = .ok (.iconst 1, 1) := by decide +kernel
theorem dX4_linesOfNoGoodWay_7 : decode cX4_linesOfNoGoodWay 7 = .ok (.isub, 1) := by decide +kernel
theorem dX4_linesOfNoGoodWay_8 : decode cX4_linesOfNoGoodWay 8 = .ok (.istore_n 1, 1) := by decide +kernel
theorem dX4_linesOfNoGoodWay_9 : decode cX4_linesOfNoGoodWay 9 = .ok (.iconst 0, 1) := by decide +kernel
theorem dX4_linesOfNoGoodWay_10 : decode cX4_linesOfNoGoodWay 10 = .ok (.istore_n 2, 1) := by decide +kernel
theorem dX4_linesOfNoGoodWay_11 : decode cX4_linesOfNoGoodWay 11 = .ok (.iload_n 2, 1) := by decide +kernel
theorem dX4_linesOfNoGoodWay_12 : decode cX4_linesOfNoGoodWay 12 = .ok (.aload_n 0, 1) := by decide +kernel
theorem dX4_linesOfNoGoodWay_13 : decode cX4_linesOfNoGoodWay 13 = .ok (.getfield 45, 3) := by decide +kernel
theorem dX4_linesOfNoGoodWay_16 : decode cX4_linesOfNoGoodWay 16 = .ok (.if_icmp .ge 39, 3) := by decide +kernel
theorem dX4_linesOfNoGoodWay_19 : decode cX4_linesOfNoGoodWay 19 = .ok (.aload_n 0, 1) := by decide +kernel
theorem dX4_linesOfNoGoodWay_20 : decode cX4_linesOfNoGoodWay 20 = .ok (.iload_n 2, 1) := by decide +kernel
theorem dX4_linesOfNoGoodWay_21 : decode cX4_linesOfNoGoodWay 21 = .ok (.invokevirtual 48, 3) := by decide +kernel
theorem dX4_linesOfNoGoodWay_24 : decode cX4_linesOfNoGoodWay 24 = .ok (.ifCond .eq 25, 3) := by decide +kernel
theorem dX4_linesOfNoGoodWay_27 : decode cX4_linesOfNoGoodWay 27 = .ok (.aload_n 0, 1) := by decide +kernel
theorem dX4_linesOfNoGoodWay_28 : decode cX4_linesOfNoGoodWay 28 = .ok (.getfield 52, 3) := by decide +kernel
theorem dX4_linesOfNoGoodWay_31 : decode cX4_linesOfNoGoodWay 31 = .ok (.iload_n 2, 1) := by decide +kernel
theorem dX4_linesOfNoGoodWay_32 : decode cX4_linesOfNoGoodWay 32 = .ok (.invokestatic 55, 3) := by decide +kernel
theorem dX4_linesOfNoGoodWay_35 : decode cX4_linesOfNoGoodWay 35 = .ok (.ifCond .ne 14, 3) := by decide +kernel
theorem dX4_linesOfNoGoodWay_38 : decode cX4_linesOfNoGoodWay 38 = .ok (.iload_n 1, 1) := by decide +kernel
theorem dX4_linesOfNoGoodWay_39 : decode cX4_linesOfNoGoodWay 39 = .ok (.aload_n 0, 1) := by decide +kernel
theorem dX4_linesOfNoGoodWay_40 : decode cX4_linesOfNoGoodWay 40 = .ok (.getfield 59, 3) := by decide +kernel
theorem dX4_linesOfNoGoodWay_43 : decode cX4_linesOfNoGoodWay 43 = .ok (.iload_n 2, 1) := by decide +kernel
theorem dX4_linesOfNoGoodWay_44 : decode cX4_linesOfNoGoodWay 44 = .ok (.iaload, 1) := by decide +kernel
theorem dX4_linesOfNoGoodWay_45 : decode cX4_linesOfNoGoodWay 45 = .ok (.iconst (-1), 1) := by decide +kernel
theorem dX4_linesOfNoGoodWay_46 : decode cX4_linesOfNoGoodWay 46 = .ok (.ixor, 1) := by decide +kernel
theorem dX4_linesOfNoGoodWay_47 : decode cX4_linesOfNoGoodWay 47 = .ok (.iand, 1) := by decide +kernel
theorem dX4_linesOfNoGoodWay_48 : decode cX4_linesOfNoGoodWay 48 = .ok (.istore_n 1, 1) := by decide +kernel
theorem dX4_linesOfNoGoodWay_49 : decode cX4_linesOfNoGoodWay 49 = .ok (.iinc 2 1, 3) := by decide +kernel
theorem dX4_linesOfNoGoodWay_52 : decode cX4_linesOfNoGoodWay 52 = .ok (.goto (-41), 3) := by decide +kernel
theorem dX4_linesOfNoGoodWay_55 : decode cX4_linesOfNoGoodWay 55 = .ok (.iload_n 1, 1) := by decide +kernel
theorem dX4_linesOfNoGoodWay_56 : decode cX4_linesOfNoGoodWay 56 = .ok (.ireturn, 1) := by decide +kernel
theorem dX4_meetsAllBadWays_0 : decode cX4_meetsAllBadWays 0 = .ok (.iconst 0, 1) := by decide +kernel
theorem dX4_meetsAllBadWays_1 : decode cX4_meetsAllBadWays 1 = .ok (.istore_n 2, 1) := by decide +kernel
theorem dX4_meetsAllBadWays_2 : decode cX4_meetsAllBadWays 2 = .ok (.iload_n 2, 1) := by decide +kernel
theorem dX4_meetsAllBadWays_3 : decode cX4_meetsAllBadWays 3 = .ok (.aload_n 0, 1) := by decide +kernel
theorem dX4_meetsAllBadWays_4 : decode cX4_meetsAllBadWays 4 = .ok (.getfield 45, 3) := by decide +kernel
theorem dX4_meetsAllBadWays_7 : decode cX4_meetsAllBadWays 7 = .ok (.if_icmp .ge 52, 3) := by decide +kernel
theorem dX4_meetsAllBadWays_10 : decode cX4_meetsAllBadWays 10 = .ok (.aload_n 0, 1) := by decide +kernel
theorem dX4_meetsAllBadWays_11 : decode cX4_meetsAllBadWays 11 = .ok (.iload_n 2, 1) := by decide +kernel
theorem dX4_meetsAllBadWays_12 : decode cX4_meetsAllBadWays 12 = .ok (.invokevirtual 48, 3) := by decide +kernel
theorem dX4_meetsAllBadWays_15 : decode cX4_meetsAllBadWays 15 = .ok (.ifCond .eq 19, 3) := by decide +kernel
theorem dX4_meetsAllBadWays_18 : decode cX4_meetsAllBadWays 18 = .ok (.aload_n 0, 1) := by decide +kernel
theorem dX4_meetsAllBadWays_19 : decode cX4_meetsAllBadWays 19 = .ok (.getfield 52, 3) := by decide +kernel
theorem dX4_meetsAllBadWays_22 : decode cX4_meetsAllBadWays 22 = .ok (.iload_n 2, 1) := by decide +kernel
theorem dX4_meetsAllBadWays_23 : decode cX4_meetsAllBadWays 23 = .ok (.invokestatic 55, 3) := by decide +kernel
theorem dX4_meetsAllBadWays_26 : decode cX4_meetsAllBadWays 26 = .ok (.iconst 1, 1) := by decide +kernel
theorem dX4_meetsAllBadWays_27 : decode cX4_meetsAllBadWays 27 = .ok (.if_icmp .ne 7, 3) := by decide +kernel
theorem dX4_meetsAllBadWays_30 : decode cX4_meetsAllBadWays 30 = .ok (.iconst 1, 1) := by decide +kernel
theorem dX4_meetsAllBadWays_31 : decode cX4_meetsAllBadWays 31 = .ok (.goto 4, 3) := by decide +kernel
theorem dX4_meetsAllBadWays_34 : decode cX4_meetsAllBadWays 34 = .ok (.iconst 0, 1) := by decide +kernel
theorem dX4_meetsAllBadWays_35 : decode cX4_meetsAllBadWays 35 = .ok (.istore_n 3, 1) := by decide +kernel
theorem dX4_meetsAllBadWays_36 : decode cX4_meetsAllBadWays 36 = .ok (.iload_n 3, 1) := by decide +kernel
theorem dX4_meetsAllBadWays_37 : decode cX4_meetsAllBadWays 37 = .ok (.ifCond .eq 16, 3) := by decide +kernel
theorem dX4_meetsAllBadWays_40 : decode cX4_meetsAllBadWays 40 = .ok (.aload_n 0, 1) := by decide +kernel
theorem dX4_meetsAllBadWays_41 : decode cX4_meetsAllBadWays 41 = .ok (.getfield 59, 3) := by decide +kernel
theorem dX4_meetsAllBadWays_44 : decode cX4_meetsAllBadWays 44 = .ok (.iload_n 2, 1) := by decide +kernel
theorem dX4_meetsAllBadWays_45 : decode cX4_meetsAllBadWays 45 = .ok (.iaload, 1) := by decide +kernel
theorem dX4_meetsAllBadWays_46 : decode cX4_meetsAllBadWays 46 = .ok (.iload_n 1, 1) := by decide +kernel
theorem dX4_meetsAllBadWays_47 : decode cX4_meetsAllBadWays 47 = .ok (.iand, 1) := by decide +kernel
theorem dX4_meetsAllBadWays_48 : decode cX4_meetsAllBadWays 48 = .ok (.ifCond .ne 5, 3) := by decide +kernel
theorem dX4_meetsAllBadWays_51 : decode cX4_meetsAllBadWays 51 = .ok (.iconst 0, 1) := by decide +kernel
theorem dX4_meetsAllBadWays_52 : decode cX4_meetsAllBadWays 52 = .ok (.ireturn, 1) := by decide +kernel
theorem dX4_meetsAllBadWays_53 : decode cX4_meetsAllBadWays 53 = .ok (.iinc 2 1, 3) := by decide +kernel
theorem dX4_meetsAllBadWays_56 : decode cX4_meetsAllBadWays 56 = .ok (.goto (-54), 3) := by decide +kernel
theorem dX4_meetsAllBadWays_59 : decode cX4_meetsAllBadWays 59 = .ok (.iconst 1, 1) := by decide +kernel
theorem dX4_meetsAllBadWays_60 : decode cX4_meetsAllBadWays 60 = .ok (.ireturn, 1) := by decide +kernel
end
section
theorem dX0_init_0 : decode cX0_init 0 = .ok (.aload_n 0, 1) := by decide +kernel
theorem dX0_init_1 : decode cX0_init 1 = .ok (.invokespecial 3, 3) := by decide +kernel
theorem dX0_init_4 : decode cX0_init 4 = .ok (.aload_n 0, 1) := by decide +kernel
theorem dX0_init_5 : decode cX0_init 5 = .ok (.sipush 210, 3) := by decide +kernel
theorem dX0_init_8 : decode cX0_init 8 = .ok (.newarray .long, 2) := by decide +kernel
theorem dX0_init_10 : decode cX0_init 10 = .ok (.putfield 9, 3) := by decide +kernel
theorem dX0_init_13 : decode cX0_init 13 = .ok (.aload_n 0, 1) := by decide +kernel
theorem dX0_init_14 : decode cX0_init 14 = .ok (.bipush 10, 2) := by decide +kernel
theorem dX0_init_16 : decode cX0_init 16 = .ok (.newarray .int, 2) := by decide +kernel
theorem dX0_init_18 : decode cX0_init 18 = .ok (.putfield 15, 3) := by decide +kernel
theorem dX0_init_21 : decode cX0_init 21 = .ok (.aload_n 0, 1) := by decide +kernel
theorem dX0_init_22 : decode cX0_init 22 = .ok (.bipush 10, 2) := by decide +kernel
theorem dX0_init_24 : decode cX0_init 24 = .ok (.newarray .int, 2) := by decide +kernel
theorem dX0_init_26 : decode cX0_init 26 = .ok (.putfield 19, 3) := by decide +kernel
theorem dX0_init_29 : decode cX0_init 29 = .ok (.aload_n 0, 1) := by decide +kernel
theorem dX0_init_30 : decode cX0_init 30 = .ok (.bipush 10, 2) := by decide +kernel
theorem dX0_init_32 : decode cX0_init 32 = .ok (.newarray .int, 2) := by decide +kernel
theorem dX0_init_34 : decode cX0_init 34 = .ok (.putfield 22, 3) := by decide +kernel
theorem dX0_init_37 : decode cX0_init 37 = .ok (.aload_n 0, 1) := by decide +kernel
theorem dX0_init_38 : decode cX0_init 38 = .ok (.lconst 1, 1) := by decide +kernel
theorem dX0_init_39 : decode cX0_init 39 = .ok (.putfield 25, 3) := by decide +kernel
theorem dX0_init_42 : decode cX0_init 42 = .ok (.aload_n 0, 1) := by decide +kernel
theorem dX0_init_43 : decode cX0_init 43 = .ok (.iconst (-1), 1) := by decide +kernel
theorem dX0_init_44 : decode cX0_init 44 = .ok (.putfield 29, 3) := by decide +kernel
theorem dX0_init_47 : decode cX0_init 47 = .ok (.return_, 1) := by decide +kernel
theorem dX0_forget_0 : decode cX0_forget 0 = .ok (.aload_n 0, 1) := by decide +kernel
theorem dX0_forget_1 : decode cX0_forget 1 = .ok (.iconst (-1), 1) := by decide +kernel
theorem dX0_forget_2 : decode cX0_forget 2 = .ok (.putfield 29, 3) := by decide +kernel
theorem dX0_forget_5 : decode cX0_forget 5 = .ok (.return_, 1) := by decide +kernel
theorem dX0_solve_0 : decode cX0_solve 0 = .ok (.iload_n 2, 1) := by decide +kernel
theorem dX0_solve_1 : decode cX0_solve 1 = .ok (.aload_n 0, 1) := by decide +kernel
theorem dX0_solve_2 : decode cX0_solve 2 = .ok (.getfield 29, 3) := by decide +kernel
theorem dX0_solve_5 : decode cX0_solve 5 = .ok (.if_icmp .ne 8, 3) := by decide +kernel
theorem dX0_solve_8 : decode cX0_solve 8 = .ok (.aload_n 0, 1) := by decide +kernel
theorem dX0_solve_9 : decode cX0_solve 9 = .ok (.getfield 33, 3) := by decide +kernel
theorem dX0_solve_12 : decode cX0_solve 12 = .ok (.ireturn, 1) := by decide +kernel
theorem dX0_solve_13 : decode cX0_solve 13 = .ok (.aload_n 0, 1) := by decide +kernel
theorem dX0_solve_14 : decode cX0_solve 14 = .ok (.aload_n 1, 1) := by decide +kernel
theorem dX0_solve_15 : decode cX0_solve 15 = .ok (.iload_n 2, 1) := by decide +kernel
theorem dX0_solve_16 : decode cX0_solve 16 = .ok (.invokevirtual 37, 3) := by decide +kernel
theorem dX0_solve_19 : decode cX0_solve 19 = .ok (.aload_n 0, 1) := by decide +kernel
theorem dX0_solve_20 : decode cX0_solve 20 = .ok (.iconst 0, 1) := by decide +kernel
theorem dX0_solve_21 : decode cX0_solve 21 = .ok (.iconst 0, 1) := by decide +kernel
theorem dX0_solve_22 : decode cX0_solve 22 = .ok (.iconst 1, 1) := by decide +kernel
theorem dX0_solve_23 : decode cX0_solve 23 = .ok (.invokevirtual 41, 3) := by decide +kernel
theorem dX0_solve_26 : decode cX0_solve 26 = .ok (.aload_n 0, 1) := by decide +kernel
theorem dX0_solve_27 : decode cX0_solve 27 = .ok (.invokevirtual 45, 3) := by decide +kernel
theorem dX0_solve_30 : decode cX0_solve 30 = .ok (.aload_n 0, 1) := by decide +kernel
theorem dX0_solve_31 : decode cX0_solve 31 = .ok (.aload_n 0, 1) := by decide +kernel
theorem dX0_solve_32 : decode cX0_solve 32 = .ok (.aload_n 0, 1) := by decide +kernel
theorem dX0_solve_33 : decode cX0_solve 33 = .ok (.getfield 48, 3) := by decide +kernel
theorem dX0_solve_36 : decode cX0_solve 36 = .ok (.iconst 1, 1) := by decide +kernel
theorem dX0_solve_37 : decode cX0_solve 37 = .ok (.isub, 1) := by decide +kernel
theorem dX0_solve_38 : decode cX0_solve 38 = .ok (.invokevirtual 51, 3) := by decide +kernel
theorem dX0_solve_41 : decode cX0_solve 41 = .ok (.lconst 0, 1) := by decide +kernel
theorem dX0_solve_42 : decode cX0_solve 42 = .ok (.lcmp, 1) := by decide +kernel
theorem dX0_solve_43 : decode cX0_solve 43 = .ok (.ifCond .ne 7, 3) := by decide +kernel
theorem dX0_solve_46 : decode cX0_solve 46 = .ok (.iconst 1, 1) := by decide +kernel
theorem dX0_solve_47 : decode cX0_solve 47 = .ok (.goto 4, 3) := by decide +kernel
theorem dX0_solve_50 : decode cX0_solve 50 = .ok (.iconst 0, 1) := by decide +kernel
theorem dX0_solve_51 : decode cX0_solve 51 = .ok (.putfield 33, 3) := by decide +kernel
theorem dX0_solve_54 : decode cX0_solve 54 = .ok (.aload_n 0, 1) := by decide +kernel
theorem dX0_solve_55 : decode cX0_solve 55 = .ok (.getfield 33, 3) := by decide +kernel
theorem dX0_solve_58 : decode cX0_solve 58 = .ok (.ifCond .eq 10, 3) := by decide +kernel
theorem dX0_solve_61 : decode cX0_solve 61 = .ok (.aload_n 0, 1) := by decide +kernel
theorem dX0_solve_62 : decode cX0_solve 62 = .ok (.invokevirtual 55, 3) := by decide +kernel
theorem dX0_solve_65 : decode cX0_solve 65 = .ok (.goto 11, 3) := by decide +kernel
theorem dX0_solve_68 : decode cX0_solve 68 = .ok (.aload_n 0, 1) := by decide +kernel
theorem dX0_solve_69 : decode cX0_solve 69 = .ok (.aload_n 0, 1) := by decide +kernel
theorem dX0_solve_70 : decode cX0_solve 70 = .ok (.invokevirtual 58, 3) := by decide +kernel
theorem dX0_solve_73 : decode cX0_solve 73 = .ok (.putfield 62, 3) := by decide +kernel
theorem dX0_solve_76 : decode cX0_solve 76 = .ok (.aload_n 0, 1) := by decide +kernel
theorem dX0_solve_77 : decode cX0_solve 77 = .ok (.iload_n 2, 1) := by decide +kernel
theorem dX0_solve_78 : decode cX0_solve 78 = .ok (.putfield 29, 3) := by decide +kernel
theorem dX0_solve_81 : decode cX0_solve 81 = .ok (.aload_n 0, 1) := by decide +kernel
theorem dX0_solve_82 : decode cX0_solve 82 = .ok (.getfield 33, 3) := by decide +kernel
theorem dX0_solve_85 : decode cX0_solve 85 = .ok (.ireturn, 1) := by decide +kernel
theorem dX0_goToEnd_0 : decode cX0_goToEnd 0 = .ok (.aload_n 0, 1) := by decide +kernel
theorem dX0_goToEnd_1 : decode cX0_goToEnd 1 = .ok (.iconst 0, 1) := by decide +kernel
theorem dX0_goToEnd_2 : decode cX0_goToEnd 2 = .ok (.putfield 65, 3) := by decide +kernel
theorem dX0_goToEnd_5 : decode cX0_goToEnd 5 = .ok (.aload_n 0, 1) := by decide +kernel
theorem dX0_goToEnd_6 : decode cX0_goToEnd 6 = .ok (.iload_n 1, 1) := by decide +kernel
theorem dX0_goToEnd_7 : decode cX0_goToEnd 7 = .ok (.iload_n 2, 1) := by decide +kernel
theorem dX0_goToEnd_8 : decode cX0_goToEnd 8 = .ok (.ifCond .ne 7, 3) := by decide +kernel
theorem dX0_goToEnd_11 : decode cX0_goToEnd 11 = .ok (.iconst 1, 1) := by decide +kernel
theorem dX0_goToEnd_12 : decode cX0_goToEnd 12 = .ok (.goto 4, 3) := by decide +kernel
theorem dX0_goToEnd_15 : decode cX0_goToEnd 15 = .ok (.iconst (-1), 1) := by decide +kernel
theorem dX0_goToEnd_16 : decode cX0_goToEnd 16 = .ok (.iconst 0, 1) := by decide +kernel
theorem dX0_goToEnd_17 : decode cX0_goToEnd 17 = .ok (.invokevirtual 41, 3) := by decide +kernel
theorem dX0_goToEnd_20 : decode cX0_goToEnd 20 = .ok (.aload_n 0, 1) := by decide +kernel
theorem dX0_goToEnd_21 : decode cX0_goToEnd 21 = .ok (.invokevirtual 45, 3) := by decide +kernel
theorem dX0_goToEnd_24 : decode cX0_goToEnd 24 = .ok (.return_, 1) := by decide +kernel
theorem dX0_leastInTurnUpTo_0 : decode cX0_leastInTurnUpTo 0 = .ok (.iconst 0, 1) := by decide +kernel
theorem dX0_leastInTurnUpTo_1 : decode cX0_leastInTurnUpTo 1 = .ok (.istore_n 2, 1) := by decide +kernel
theorem dX0_leastInTurnUpTo_2 : decode cX0_leastInTurnUpTo 2 = .ok (.iload_n 2, 1) := by decide +kernel
theorem dX0_leastInTurnUpTo_3 : decode cX0_leastInTurnUpTo 3 = .ok (.iload_n 1, 1) := by decide +kernel
theorem dX0_leastInTurnUpTo_4 : decode cX0_leastInTurnUpTo 4 = .ok (.if_icmp .gt 34, 3) := by decide +kernel
theorem dX0_leastInTurnUpTo_7 : decode cX0_leastInTurnUpTo 7 = .ok (.iload_n 2, 1) := by decide +kernel
theorem dX0_leastInTurnUpTo_8 : decode cX0_leastInTurnUpTo 8 = .ok (.aload_n 0, 1) := by decide +kernel
theorem dX0_leastInTurnUpTo_9 : decode cX0_leastInTurnUpTo 9 = .ok (.getfield 68, 3) := by decide +kernel
theorem dX0_leastInTurnUpTo_12 : decode cX0_leastInTurnUpTo 12 = .ok (.if_icmp .ge 26, 3) := by decide +kernel
theorem dX0_leastInTurnUpTo_15 : decode cX0_leastInTurnUpTo 15 = .ok (.aload_n 0, 1) := by decide +kernel
theorem dX0_leastInTurnUpTo_16 : decode cX0_leastInTurnUpTo 16 = .ok (.invokevirtual 71, 3) := by decide +kernel
theorem dX0_leastInTurnUpTo_19 : decode cX0_leastInTurnUpTo 19 = .ok (.aload_n 0, 1) := by decide +kernel
theorem dX0_leastInTurnUpTo_20 : decode cX0_leastInTurnUpTo 20 = .ok (.iconst 1, 1) := by decide +kernel
theorem dX0_leastInTurnUpTo_21 : decode cX0_leastInTurnUpTo 21 = .ok (.iload_n 2, 1) := by decide +kernel
theorem dX0_leastInTurnUpTo_22 : decode cX0_leastInTurnUpTo 22 = .ok (.ishl, 1) := by decide +kernel
theorem dX0_leastInTurnUpTo_23 : decode cX0_leastInTurnUpTo 23 = .ok (.iconst 1, 1) := by decide +kernel
theorem dX0_leastInTurnUpTo_24 : decode cX0_leastInTurnUpTo 24 = .ok (.iconst 0, 1) := by decide +kernel
theorem dX0_leastInTurnUpTo_25 : decode cX0_leastInTurnUpTo 25 = .ok (.invokevirtual 41, 3) := by decide +kernel
theorem dX0_leastInTurnUpTo_28 : decode cX0_leastInTurnUpTo 28 = .ok (.aload_n 0, 1) := by decide +kernel
theorem dX0_leastInTurnUpTo_29 : decode cX0_leastInTurnUpTo 29 = .ok (.invokevirtual 45, 3) := by decide +kernel
theorem dX0_leastInTurnUpTo_32 : decode cX0_leastInTurnUpTo 32 = .ok (.iinc 2 1, 3) := by decide +kernel
theorem dX0_leastInTurnUpTo_35 : decode cX0_leastInTurnUpTo 35 = .ok (.goto (-33), 3) := by decide +kernel
theorem dX0_leastInTurnUpTo_38 : decode cX0_leastInTurnUpTo 38 = .ok (.return_, 1) := by decide +kernel
theorem dX0_upperOf_0 : decode cX0_upperOf 0 = .ok (.lconst 0, 1) := by decide +kernel
theorem dX0_upperOf_1 : decode cX0_upperOf 1 = .ok (.lstore_n 2, 1) := by decide +kernel
theorem dX0_upperOf_2 : decode cX0_upperOf 2 = .ok (.iconst 0, 1) := by decide +kernel
theorem dX0_upperOf_3 : decode cX0_upperOf 3 = .ok (.istore 4, 2) := by decide +kernel
theorem dX0_upperOf_5 : decode cX0_upperOf 5 = .ok (.iload 4, 2) := by decide +kernel
theorem dX0_upperOf_7 : decode cX0_upperOf 7 = .ok (.aload_n 0, 1) := by decide +kernel
theorem dX0_upperOf_8 : decode cX0_upperOf 8 = .ok (.getfield 74, 3) := by decide +kernel
theorem dX0_upperOf_11 : decode cX0_upperOf 11 = .ok (.if_icmp .ge 56, 3) := by decide +kernel
theorem dX0_upperOf_14 : decode cX0_upperOf 14 = .ok (.aload_n 0, 1) := by decide +kernel
theorem dX0_upperOf_15 : decode cX0_upperOf 15 = .ok (.getfield 15, 3) := by decide +kernel
theorem dX0_upperOf_18 : decode cX0_upperOf 18 = .ok (.iload 4, 2) := by decide +kernel
theorem dX0_upperOf_20 : decode cX0_upperOf 20 = .ok (.iaload, 1) := by decide +kernel
theorem dX0_upperOf_21 : decode cX0_upperOf 21 = .ok (.ifCond .lt 40, 3) := by decide +kernel
theorem dX0_upperOf_24 : decode cX0_upperOf 24 = .ok (.iload_n 1, 1) := by decide +kernel
theorem dX0_upperOf_25 : decode cX0_upperOf 25 = .ok (.aload_n 0, 1) := by decide +kernel
theorem dX0_upperOf_26 : decode cX0_upperOf 26 = .ok (.getfield 15, 3) := by decide +kernel
theorem dX0_upperOf_29 : decode cX0_upperOf 29 = .ok (.iload 4, 2) := by decide +kernel
theorem dX0_upperOf_31 : decode cX0_upperOf 31 = .ok (.iaload, 1) := by decide +kernel
theorem dX0_upperOf_32 : decode cX0_upperOf 32 = .ok (.invokestatic 77, 3) := by decide +kernel
theorem dX0_upperOf_35 : decode cX0_upperOf 35 = .ok (.iconst 1, 1) := by decide +kernel
theorem dX0_upperOf_36 : decode cX0_upperOf 36 = .ok (.if_icmp .ne 25, 3) := by decide +kernel
theorem dX0_upperOf_39 : decode cX0_upperOf 39 = .ok (.lload_n 2, 1) := by decide +kernel
theorem dX0_upperOf_40 : decode cX0_upperOf 40 = .ok (.aload_n 0, 1) := by decide +kernel
theorem dX0_upperOf_41 : decode cX0_upperOf 41 = .ok (.getfield 9, 3) := by decide +kernel
theorem dX0_upperOf_44 : decode cX0_upperOf 44 = .ok (.iload 4, 2) := by decide +kernel
theorem dX0_upperOf_46 : decode cX0_upperOf 46 = .ok (.aload_n 0, 1) := by decide +kernel
theorem dX0_upperOf_47 : decode cX0_upperOf 47 = .ok (.getfield 48, 3) := by decide +kernel
theorem dX0_upperOf_50 : decode cX0_upperOf 50 = .ok (.imul, 1) := by decide +kernel
theorem dX0_upperOf_51 : decode cX0_upperOf 51 = .ok (.aload_n 0, 1) := by decide +kernel
theorem dX0_upperOf_52 : decode cX0_upperOf 52 = .ok (.getfield 48, 3) := by decide +kernel
theorem dX0_upperOf_55 : decode cX0_upperOf 55 = .ok (.iadd, 1) := by decide +kernel
theorem dX0_upperOf_56 : decode cX0_upperOf 56 = .ok (.iconst 1, 1) := by decide +kernel
theorem dX0_upperOf_57 : decode cX0_upperOf 57 = .ok (.isub, 1) := by decide +kernel
theorem dX0_upperOf_58 : decode cX0_upperOf 58 = .ok (.laload, 1) := by decide +kernel
theorem dX0_upperOf_59 : decode cX0_upperOf 59 = .ok (.ladd, 1) := by decide +kernel
theorem dX0_upperOf_60 : decode cX0_upperOf 60 = .ok (.lstore_n 2, 1) := by decide +kernel
theorem dX0_upperOf_61 : decode cX0_upperOf 61 = .ok (.iinc 4 1, 3) := by decide +kernel
theorem dX0_upperOf_64 : decode cX0_upperOf 64 = .ok (.goto (-59), 3) := by decide +kernel
theorem dX0_upperOf_67 : decode cX0_upperOf 67 = .ok (.lload_n 2, 1) := by decide +kernel
theorem dX0_upperOf_68 : decode cX0_upperOf 68 = .ok (.lreturn, 1) := by decide +kernel
theorem dX0_load_0 : decode cX0_load 0 = .ok (.aload_n 0, 1) := by decide +kernel
theorem dX0_load_1 : decode cX0_load 1 = .ok (.aload_n 1, 1) := by decide +kernel
theorem dX0_load_2 : decode cX0_load 2 = .ok (.getfield 81, 3) := by decide +kernel
theorem dX0_load_5 : decode cX0_load 5 = .ok (.putfield 68, 3) := by decide +kernel
theorem dX0_load_8 : decode cX0_load 8 = .ok (.aload_n 0, 1) := by decide +kernel
theorem dX0_load_9 : decode cX0_load 9 = .ok (.iload_n 2, 1) := by decide +kernel
theorem dX0_load_10 : decode cX0_load 10 = .ok (.invokestatic 84, 3) := by decide +kernel
theorem dX0_load_13 : decode cX0_load 13 = .ok (.putfield 74, 3) := by decide +kernel
theorem dX0_load_16 : decode cX0_load 16 = .ok (.aload_n 0, 1) := by decide +kernel
theorem dX0_load_17 : decode cX0_load 17 = .ok (.aload_n 0, 1) := by decide +kernel
theorem dX0_load_18 : decode cX0_load 18 = .ok (.getfield 68, 3) := by decide +kernel
theorem dX0_load_21 : decode cX0_load 21 = .ok (.aload_n 0, 1) := by decide +kernel
theorem dX0_load_22 : decode cX0_load 22 = .ok (.getfield 74, 3) := by decide +kernel
theorem dX0_load_25 : decode cX0_load 25 = .ok (.iadd, 1) := by decide +kernel
theorem dX0_load_26 : decode cX0_load 26 = .ok (.iconst 1, 1) := by decide +kernel
theorem dX0_load_27 : decode cX0_load 27 = .ok (.iadd, 1) := by decide +kernel
theorem dX0_load_28 : decode cX0_load 28 = .ok (.putfield 48, 3) := by decide +kernel
theorem dX0_load_31 : decode cX0_load 31 = .ok (.aload_n 0, 1) := by decide +kernel
theorem dX0_load_32 : decode cX0_load 32 = .ok (.lconst 1, 1) := by decide +kernel
theorem dX0_load_33 : decode cX0_load 33 = .ok (.putfield 25, 3) := by decide +kernel
theorem dX0_load_36 : decode cX0_load 36 = .ok (.aload_n 0, 1) := by decide +kernel
theorem dX0_load_37 : decode cX0_load 37 = .ok (.iconst 0, 1) := by decide +kernel
theorem dX0_load_38 : decode cX0_load 38 = .ok (.putfield 65, 3) := by decide +kernel
theorem dX0_load_41 : decode cX0_load 41 = .ok (.aload_n 0, 1) := by decide +kernel
theorem dX0_load_42 : decode cX0_load 42 = .ok (.getfield 9, 3) := by decide +kernel
theorem dX0_load_45 : decode cX0_load 45 = .ok (.lconst 0, 1) := by decide +kernel
theorem dX0_load_46 : decode cX0_load 46 = .ok (.invokestatic 90, 3) := by decide +kernel
theorem dX0_load_49 : decode cX0_load 49 = .ok (.iconst 0, 1) := by decide +kernel
theorem dX0_load_50 : decode cX0_load 50 = .ok (.istore_n 3, 1) := by decide +kernel
theorem dX0_load_51 : decode cX0_load 51 = .ok (.iconst 0, 1) := by decide +kernel
theorem dX0_load_52 : decode cX0_load 52 = .ok (.istore 4, 2) := by decide +kernel
theorem dX0_load_54 : decode cX0_load 54 = .ok (.iload 4, 2) := by decide +kernel
theorem dX0_load_56 : decode cX0_load 56 = .ok (.aload_n 1, 1) := by decide +kernel
theorem dX0_load_57 : decode cX0_load 57 = .ok (.getfield 96, 3) := by decide +kernel
theorem dX0_load_60 : decode cX0_load 60 = .ok (.if_icmp .ge 49, 3) := by decide +kernel
theorem dX0_load_63 : decode cX0_load 63 = .ok (.iload_n 2, 1) := by decide +kernel
theorem dX0_load_64 : decode cX0_load 64 = .ok (.iload 4, 2) := by decide +kernel
theorem dX0_load_66 : decode cX0_load 66 = .ok (.invokestatic 77, 3) := by decide +kernel
theorem dX0_load_69 : decode cX0_load 69 = .ok (.iconst 1, 1) := by decide +kernel
theorem dX0_load_70 : decode cX0_load 70 = .ok (.if_icmp .ne 33, 3) := by decide +kernel
theorem dX0_load_73 : decode cX0_load 73 = .ok (.aload_n 0, 1) := by decide +kernel
theorem dX0_load_74 : decode cX0_load 74 = .ok (.iload_n 3, 1) := by decide +kernel
theorem dX0_load_75 : decode cX0_load 75 = .ok (.aload_n 1, 1) := by decide +kernel
theorem dX0_load_76 : decode cX0_load 76 = .ok (.getfield 99, 3) := by decide +kernel
theorem dX0_load_79 : decode cX0_load 79 = .ok (.iload 4, 2) := by decide +kernel
theorem dX0_load_81 : decode cX0_load 81 = .ok (.iaload, 1) := by decide +kernel
theorem dX0_load_82 : decode cX0_load 82 = .ok (.aload_n 1, 1) := by decide +kernel
theorem dX0_load_83 : decode cX0_load 83 = .ok (.getfield 102, 3) := by decide +kernel
theorem dX0_load_86 : decode cX0_load 86 = .ok (.iload 4, 2) := by decide +kernel
theorem dX0_load_88 : decode cX0_load 88 = .ok (.iaload, 1) := by decide +kernel
theorem dX0_load_89 : decode cX0_load 89 = .ok (.invokevirtual 105, 3) := by decide +kernel
theorem dX0_load_92 : decode cX0_load 92 = .ok (.aload_n 0, 1) := by decide +kernel
theorem dX0_load_93 : decode cX0_load 93 = .ok (.getfield 19, 3) := by decide +kernel
theorem dX0_load_96 : decode cX0_load 96 = .ok (.iload_n 3, 1) := by decide +kernel
theorem dX0_load_97 : decode cX0_load 97 = .ok (.iload 4, 2) := by decide +kernel
theorem dX0_load_99 : decode cX0_load 99 = .ok (.iastore, 1) := by decide +kernel
theorem dX0_load_100 : decode cX0_load 100 = .ok (.iinc 3 1, 3) := by decide +kernel
theorem dX0_load_103 : decode cX0_load 103 = .ok (.iinc 4 1, 3) := by decide +kernel
theorem dX0_load_106 : decode cX0_load 106 = .ok (.goto (-52), 3) := by decide +kernel
theorem dX0_load_109 : decode cX0_load 109 = .ok (.return_, 1) := by decide +kernel
theorem dX0_loadRow_0 : decode cX0_loadRow 0 = .ok (.iload_n 1, 1) := by decide +kernel
theorem dX0_loadRow_1 : decode cX0_loadRow 1 = .ok (.aload_n 0, 1) := by decide +kernel
theorem dX0_loadRow_2 : decode cX0_loadRow 2 = .ok (.getfield 48, 3) := by decide +kernel
theorem dX0_loadRow_5 : decode cX0_loadRow 5 = .ok (.imul, 1) := by decide +kernel
theorem dX0_loadRow_6 : decode cX0_loadRow 6 = .ok (.istore 4, 2) := by decide +kernel
theorem dX0_loadRow_8 : decode cX0_loadRow 8 = .ok (.iconst 0, 1) := by decide +kernel
theorem dX0_loadRow_9 : decode cX0_loadRow 9 = .ok (.istore 5, 2) := by decide +kernel
theorem dX0_loadRow_11 : decode cX0_loadRow 11 = .ok (.iload 5, 2) := by decide +kernel
theorem dX0_loadRow_13 : decode cX0_loadRow 13 = .ok (.aload_n 0, 1) := by decide +kernel
theorem dX0_loadRow_14 : decode cX0_loadRow 14 = .ok (.getfield 68, 3) := by decide +kernel
theorem dX0_loadRow_17 : decode cX0_loadRow 17 = .ok (.if_icmp .ge 26, 3) := by decide +kernel
theorem dX0_loadRow_20 : decode cX0_loadRow 20 = .ok (.aload_n 0, 1) := by decide +kernel
theorem dX0_loadRow_21 : decode cX0_loadRow 21 = .ok (.getfield 9, 3) := by decide +kernel
theorem dX0_loadRow_24 : decode cX0_loadRow 24 = .ok (.iload 4, 2) := by decide +kernel
theorem dX0_loadRow_26 : decode cX0_loadRow 26 = .ok (.iload 5, 2) := by decide +kernel
theorem dX0_loadRow_28 : decode cX0_loadRow 28 = .ok (.iadd, 1) := by decide +kernel
theorem dX0_loadRow_29 : decode cX0_loadRow 29 = .ok (.iload_n 2, 1) := by decide +kernel
theorem dX0_loadRow_30 : decode cX0_loadRow 30 = .ok (.iload 5, 2) := by decide +kernel
theorem dX0_loadRow_32 : decode cX0_loadRow 32 = .ok (.invokestatic 77, 3) := by decide +kernel
theorem dX0_loadRow_35 : decode cX0_loadRow 35 = .ok (.i2l, 1) := by decide +kernel
theorem dX0_loadRow_36 : decode cX0_loadRow 36 = .ok (.lastore, 1) := by decide +kernel
theorem dX0_loadRow_37 : decode cX0_loadRow 37 = .ok (.iinc 5 1, 3) := by decide +kernel
theorem dX0_loadRow_40 : decode cX0_loadRow 40 = .ok (.goto (-29), 3) := by decide +kernel
theorem dX0_loadRow_43 : decode cX0_loadRow 43 = .ok (.aload_n 0, 1) := by decide +kernel
theorem dX0_loadRow_44 : decode cX0_loadRow 44 = .ok (.getfield 9, 3) := by decide +kernel
theorem dX0_loadRow_47 : decode cX0_loadRow 47 = .ok (.iload 4, 2) := by decide +kernel
theorem dX0_loadRow_49 : decode cX0_loadRow 49 = .ok (.aload_n 0, 1) := by decide +kernel
theorem dX0_loadRow_50 : decode cX0_loadRow 50 = .ok (.getfield 68, 3) := by decide +kernel
theorem dX0_loadRow_53 : decode cX0_loadRow 53 = .ok (.iadd, 1) := by decide +kernel
theorem dX0_loadRow_54 : decode cX0_loadRow 54 = .ok (.iload_n 1, 1) := by decide +kernel
theorem dX0_loadRow_55 : decode cX0_loadRow 55 = .ok (.iadd, 1) := by decide +kernel
theorem dX0_loadRow_56 : decode cX0_loadRow 56 = .ok (.lconst 1, 1) := by decide +kernel
theorem dX0_loadRow_57 : decode cX0_loadRow 57 = .ok (.lastore, 1) := by decide +kernel
theorem dX0_loadRow_58 : decode cX0_loadRow 58 = .ok (.aload_n 0, 1) := by decide +kernel
theorem dX0_loadRow_59 : decode cX0_loadRow 59 = .ok (.getfield 9, 3) := by decide +kernel
theorem dX0_loadRow_62 : decode cX0_loadRow 62 = .ok (.iload 4, 2) := by decide +kernel
theorem dX0_loadRow_64 : decode cX0_loadRow 64 = .ok (.aload_n 0, 1) := by decide +kernel
theorem dX0_loadRow_65 : decode cX0_loadRow 65 = .ok (.getfield 48, 3) := by decide +kernel
theorem dX0_loadRow_68 : decode cX0_loadRow 68 = .ok (.iadd, 1) := by decide +kernel
theorem dX0_loadRow_69 : decode cX0_loadRow 69 = .ok (.iconst 1, 1) := by decide +kernel
theorem dX0_loadRow_70 : decode cX0_loadRow 70 = .ok (.isub, 1) := by decide +kernel
theorem dX0_loadRow_71 : decode cX0_loadRow 71 = .ok (.iload_n 3, 1) := by decide +kernel
theorem dX0_loadRow_72 : decode cX0_loadRow 72 = .ok (.i2l, 1) := by decide +kernel
theorem dX0_loadRow_73 : decode cX0_loadRow 73 = .ok (.lastore, 1) := by decide +kernel
theorem dX0_loadRow_74 : decode cX0_loadRow 74 = .ok (.aload_n 0, 1) := by decide +kernel
theorem dX0_loadRow_75 : decode cX0_loadRow 75 = .ok (.getfield 15, 3) := by decide +kernel
theorem dX0_loadRow_78 : decode cX0_loadRow 78 = .ok (.iload_n 1, 1) := by decide +kernel
theorem dX0_loadRow_79 : decode cX0_loadRow 79 = .ok (.iconst (-1), 1) := by decide +kernel
theorem dX0_loadRow_80 : decode cX0_loadRow 80 = .ok (.iastore, 1) := by decide +kernel
theorem dX0_loadRow_81 : decode cX0_loadRow 81 = .ok (.return_, 1) := by decide +kernel
theorem dX0_setGoal_0 : decode cX0_setGoal 0 = .ok (.iconst 0, 1) := by decide +kernel
theorem dX0_setGoal_1 : decode cX0_setGoal 1 = .ok (.istore 4, 2) := by decide +kernel
theorem dX0_setGoal_3 : decode cX0_setGoal 3 = .ok (.iload 4, 2) := by decide +kernel
theorem dX0_setGoal_5 : decode cX0_setGoal 5 = .ok (.aload_n 0, 1) := by decide +kernel
theorem dX0_setGoal_6 : decode cX0_setGoal 6 = .ok (.getfield 68, 3) := by decide +kernel
theorem dX0_setGoal_9 : decode cX0_setGoal 9 = .ok (.if_icmp .ge 31, 3) := by decide +kernel
theorem dX0_setGoal_12 : decode cX0_setGoal 12 = .ok (.aload_n 0, 1) := by decide +kernel
theorem dX0_setGoal_13 : decode cX0_setGoal 13 = .ok (.getfield 22, 3) := by decide +kernel
theorem dX0_setGoal_16 : decode cX0_setGoal 16 = .ok (.iload 4, 2) := by decide +kernel
theorem dX0_setGoal_18 : decode cX0_setGoal 18 = .ok (.iload_n 1, 1) := by decide +kernel
theorem dX0_setGoal_19 : decode cX0_setGoal 19 = .ok (.iload 4, 2) := by decide +kernel
theorem dX0_setGoal_21 : decode cX0_setGoal 21 = .ok (.invokestatic 77, 3) := by decide +kernel
theorem dX0_setGoal_24 : decode cX0_setGoal 24 = .ok (.iconst 1, 1) := by decide +kernel
theorem dX0_setGoal_25 : decode cX0_setGoal 25 = .ok (.if_icmp .ne 7, 3) := by decide +kernel
theorem dX0_setGoal_28 : decode cX0_setGoal 28 = .ok (.iload_n 2, 1) := by decide +kernel
theorem dX0_setGoal_29 : decode cX0_setGoal 29 = .ok (.goto 4, 3) := by decide +kernel
theorem dX0_setGoal_32 : decode cX0_setGoal 32 = .ok (.iconst 0, 1) := by decide +kernel
theorem dX0_setGoal_33 : decode cX0_setGoal 33 = .ok (.iastore, 1) := by decide +kernel
theorem dX0_setGoal_34 : decode cX0_setGoal 34 = .ok (.iinc 4 1, 3) := by decide +kernel
theorem dX0_setGoal_37 : decode cX0_setGoal 37 = .ok (.goto (-34), 3) := by decide +kernel
theorem dX0_setGoal_40 : decode cX0_setGoal 40 = .ok (.aload_n 0, 1) := by decide +kernel
theorem dX0_setGoal_41 : decode cX0_setGoal 41 = .ok (.iload_n 3, 1) := by decide +kernel
theorem dX0_setGoal_42 : decode cX0_setGoal 42 = .ok (.putfield 108, 3) := by decide +kernel
theorem dX0_setGoal_45 : decode cX0_setGoal 45 = .ok (.return_, 1) := by decide +kernel
theorem dX0_walkToLeast_0 : decode cX0_walkToLeast 0 = .ok (.iconst 0, 1) := by decide +kernel
theorem dX0_walkToLeast_1 : decode cX0_walkToLeast 1 = .ok (.istore_n 1, 1) := by decide +kernel
theorem dX0_walkToLeast_2 : decode cX0_walkToLeast 2 = .ok (.iload_n 1, 1) := by decide +kernel
theorem dX0_walkToLeast_3 : decode cX0_walkToLeast 3 = .ok (.ldc 111, 2) := by decide +kernel
theorem dX0_walkToLeast_5 : decode cX0_walkToLeast 5 = .ok (.if_icmp .ge 38, 3) := by decide +kernel
theorem dX0_walkToLeast_8 : decode cX0_walkToLeast 8 = .ok (.aload_n 0, 1) := by decide +kernel
theorem dX0_walkToLeast_9 : decode cX0_walkToLeast 9 = .ok (.invokevirtual 112, 3) := by decide +kernel
theorem dX0_walkToLeast_12 : decode cX0_walkToLeast 12 = .ok (.istore_n 2, 1) := by decide +kernel
theorem dX0_walkToLeast_13 : decode cX0_walkToLeast 13 = .ok (.iload_n 2, 1) := by decide +kernel
theorem dX0_walkToLeast_14 : decode cX0_walkToLeast 14 = .ok (.iconst (-1), 1) := by decide +kernel
theorem dX0_walkToLeast_15 : decode cX0_walkToLeast 15 = .ok (.if_icmp .ne 4, 3) := by decide +kernel
theorem dX0_walkToLeast_18 : decode cX0_walkToLeast 18 = .ok (.return_, 1) := by decide +kernel
theorem dX0_walkToLeast_19 : decode cX0_walkToLeast 19 = .ok (.aload_n 0, 1) := by decide +kernel
theorem dX0_walkToLeast_20 : decode cX0_walkToLeast 20 = .ok (.iload_n 2, 1) := by decide +kernel
theorem dX0_walkToLeast_21 : decode cX0_walkToLeast 21 = .ok (.invokevirtual 115, 3) := by decide +kernel
theorem dX0_walkToLeast_24 : decode cX0_walkToLeast 24 = .ok (.istore_n 3, 1) := by decide +kernel
theorem dX0_walkToLeast_25 : decode cX0_walkToLeast 25 = .ok (.iload_n 3, 1) := by decide +kernel
theorem dX0_walkToLeast_26 : decode cX0_walkToLeast 26 = .ok (.iconst (-1), 1) := by decide +kernel
theorem dX0_walkToLeast_27 : decode cX0_walkToLeast 27 = .ok (.if_icmp .ne 4, 3) := by decide +kernel
theorem dX0_walkToLeast_30 : decode cX0_walkToLeast 30 = .ok (.return_, 1) := by decide +kernel
theorem dX0_walkToLeast_31 : decode cX0_walkToLeast 31 = .ok (.aload_n 0, 1) := by decide +kernel
theorem dX0_walkToLeast_32 : decode cX0_walkToLeast 32 = .ok (.iload_n 3, 1) := by decide +kernel
theorem dX0_walkToLeast_33 : decode cX0_walkToLeast 33 = .ok (.iload_n 2, 1) := by decide +kernel
theorem dX0_walkToLeast_34 : decode cX0_walkToLeast 34 = .ok (.invokevirtual 118, 3) := by decide +kernel
theorem dX0_walkToLeast_37 : decode cX0_walkToLeast 37 = .ok (.iinc 1 1, 3) := by decide +kernel
theorem dX0_walkToLeast_40 : decode cX0_walkToLeast 40 = .ok (.goto (-38), 3) := by decide +kernel
theorem dX0_walkToLeast_43 : decode cX0_walkToLeast 43 = .ok (.return_, 1) := by decide +kernel
theorem dX0_firstLineThatHelps_0 : decode cX0_firstLineThatHelps 0 = .ok (.iconst 0, 1) := by decide +kernel
theorem dX0_firstLineThatHelps_1 : decode cX0_firstLineThatHelps 1 = .ok (.istore_n 1, 1) := by decide +kernel
theorem dX0_firstLineThatHelps_2 : decode cX0_firstLineThatHelps 2 = .ok (.iload_n 1, 1) := by decide +kernel
theorem dX0_firstLineThatHelps_3 : decode cX0_firstLineThatHelps 3 = .ok (.aload_n 0, 1) := by decide +kernel
theorem dX0_firstLineThatHelps_4 : decode cX0_firstLineThatHelps 4 = .ok (.getfield 68, 3) := by decide +kernel
theorem dX0_firstLineThatHelps_7 : decode cX0_firstLineThatHelps 7 = .ok (.if_icmp .ge 43, 3) := by decide +kernel
theorem dX0_firstLineThatHelps_10 : decode cX0_firstLineThatHelps 10 = .ok (.aload_n 0, 1) := by decide +kernel
theorem dX0_firstLineThatHelps_11 : decode cX0_firstLineThatHelps 11 = .ok (.getfield 65, 3) := by decide +kernel
theorem dX0_firstLineThatHelps_14 : decode cX0_firstLineThatHelps 14 = .ok (.iload_n 1, 1) := by decide +kernel
theorem dX0_firstLineThatHelps_15 : decode cX0_firstLineThatHelps 15 = .ok (.invokestatic 77, 3) := by decide +kernel
theorem dX0_firstLineThatHelps_18 : decode cX0_firstLineThatHelps 18 = .ok (.ifCond .ne 26, 3) := by decide +kernel
theorem dX0_firstLineThatHelps_21 : decode cX0_firstLineThatHelps 21 = .ok (.aload_n 0, 1) := by decide +kernel
theorem dX0_firstLineThatHelps_22 : decode cX0_firstLineThatHelps 22 = .ok (.getfield 25, 3) := by decide +kernel
theorem dX0_firstLineThatHelps_25 : decode cX0_firstLineThatHelps 25 = .ok (.aload_n 0, 1) := by decide +kernel
theorem dX0_firstLineThatHelps_26 : decode cX0_firstLineThatHelps 26 = .ok (.getfield 22, 3) := by decide +kernel
theorem dX0_firstLineThatHelps_29 : decode cX0_firstLineThatHelps 29 = .ok (.iload_n 1, 1) := by decide +kernel
theorem dX0_firstLineThatHelps_30 : decode cX0_firstLineThatHelps 30 = .ok (.iaload, 1) := by decide +kernel
theorem dX0_firstLineThatHelps_31 : decode cX0_firstLineThatHelps 31 = .ok (.i2l, 1) := by decide +kernel
theorem dX0_firstLineThatHelps_32 : decode cX0_firstLineThatHelps 32 = .ok (.lmul, 1) := by decide +kernel
theorem dX0_firstLineThatHelps_33 : decode cX0_firstLineThatHelps 33 = .ok (.aload_n 0, 1) := by decide +kernel
theorem dX0_firstLineThatHelps_34 : decode cX0_firstLineThatHelps 34 = .ok (.iload_n 1, 1) := by decide +kernel
theorem dX0_firstLineThatHelps_35 : decode cX0_firstLineThatHelps 35 = .ok (.invokevirtual 51, 3) := by decide +kernel
theorem dX0_firstLineThatHelps_38 : decode cX0_firstLineThatHelps 38 = .ok (.lcmp, 1) := by decide +kernel
theorem dX0_firstLineThatHelps_39 : decode cX0_firstLineThatHelps 39 = .ok (.ifCond .ge 5, 3) := by decide +kernel
theorem dX0_firstLineThatHelps_42 : decode cX0_firstLineThatHelps 42 = .ok (.iload_n 1, 1) := by decide +kernel
theorem dX0_firstLineThatHelps_43 : decode cX0_firstLineThatHelps 43 = .ok (.ireturn, 1) := by decide +kernel
theorem dX0_firstLineThatHelps_44 : decode cX0_firstLineThatHelps 44 = .ok (.iinc 1 1, 3) := by decide +kernel
theorem dX0_firstLineThatHelps_47 : decode cX0_firstLineThatHelps 47 = .ok (.goto (-45), 3) := by decide +kernel
theorem dX0_firstLineThatHelps_50 : decode cX0_firstLineThatHelps 50 = .ok (.iconst (-1), 1) := by decide +kernel
theorem dX0_firstLineThatHelps_51 : decode cX0_firstLineThatHelps 51 = .ok (.ireturn, 1) := by decide +kernel
theorem dX0_costOfColumn_0 : decode cX0_costOfColumn 0 = .ok (.lconst 0, 1) := by decide +kernel
theorem dX0_costOfColumn_1 : decode cX0_costOfColumn 1 = .ok (.lstore_n 2, 1) := by decide +kernel
theorem dX0_costOfColumn_2 : decode cX0_costOfColumn 2 = .ok (.iconst 0, 1) := by decide +kernel
theorem dX0_costOfColumn_3 : decode cX0_costOfColumn 3 = .ok (.istore 4, 2) := by decide +kernel
theorem dX0_costOfColumn_5 : decode cX0_costOfColumn 5 = .ok (.iload 4, 2) := by decide +kernel
theorem dX0_costOfColumn_7 : decode cX0_costOfColumn 7 = .ok (.aload_n 0, 1) := by decide +kernel
theorem dX0_costOfColumn_8 : decode cX0_costOfColumn 8 = .ok (.getfield 74, 3) := by decide +kernel
theorem dX0_costOfColumn_11 : decode cX0_costOfColumn 11 = .ok (.if_icmp .ge 61, 3) := by decide +kernel
theorem dX0_costOfColumn_14 : decode cX0_costOfColumn 14 = .ok (.aload_n 0, 1) := by decide +kernel
theorem dX0_costOfColumn_15 : decode cX0_costOfColumn 15 = .ok (.getfield 15, 3) := by decide +kernel
theorem dX0_costOfColumn_18 : decode cX0_costOfColumn 18 = .ok (.iload 4, 2) := by decide +kernel
theorem dX0_costOfColumn_20 : decode cX0_costOfColumn 20 = .ok (.iaload, 1) := by decide +kernel
theorem dX0_costOfColumn_21 : decode cX0_costOfColumn 21 = .ok (.ifCond .ge 10, 3) := by decide +kernel
theorem dX0_costOfColumn_24 : decode cX0_costOfColumn 24 = .ok (.aload_n 0, 1) := by decide +kernel
theorem dX0_costOfColumn_25 : decode cX0_costOfColumn 25 = .ok (.getfield 108, 3) := by decide +kernel
theorem dX0_costOfColumn_28 : decode cX0_costOfColumn 28 = .ok (.goto 15, 3) := by decide +kernel
theorem dX0_costOfColumn_31 : decode cX0_costOfColumn 31 = .ok (.aload_n 0, 1) := by decide +kernel
theorem dX0_costOfColumn_32 : decode cX0_costOfColumn 32 = .ok (.getfield 22, 3) := by decide +kernel
theorem dX0_costOfColumn_35 : decode cX0_costOfColumn 35 = .ok (.aload_n 0, 1) := by decide +kernel
theorem dX0_costOfColumn_36 : decode cX0_costOfColumn 36 = .ok (.getfield 15, 3) := by decide +kernel
theorem dX0_costOfColumn_39 : decode cX0_costOfColumn 39 = .ok (.iload 4, 2) := by decide +kernel
theorem dX0_costOfColumn_41 : decode cX0_costOfColumn 41 = .ok (.iaload, 1) := by decide +kernel
theorem dX0_costOfColumn_42 : decode cX0_costOfColumn 42 = .ok (.iaload, 1) := by decide +kernel
theorem dX0_costOfColumn_43 : decode cX0_costOfColumn 43 = .ok (.istore 5, 2) := by decide +kernel
theorem dX0_costOfColumn_45 : decode cX0_costOfColumn 45 = .ok (.lload_n 2, 1) := by decide +kernel
theorem dX0_costOfColumn_46 : decode cX0_costOfColumn 46 = .ok (.iload 5, 2) := by decide +kernel
theorem dX0_costOfColumn_48 : decode cX0_costOfColumn 48 = .ok (.i2l, 1) := by decide +kernel
theorem dX0_costOfColumn_49 : decode cX0_costOfColumn 49 = .ok (.aload_n 0, 1) := by decide +kernel
theorem dX0_costOfColumn_50 : decode cX0_costOfColumn 50 = .ok (.getfield 9, 3) := by decide +kernel
theorem dX0_costOfColumn_53 : decode cX0_costOfColumn 53 = .ok (.iload 4, 2) := by decide +kernel
theorem dX0_costOfColumn_55 : decode cX0_costOfColumn 55 = .ok (.aload_n 0, 1) := by decide +kernel
theorem dX0_costOfColumn_56 : decode cX0_costOfColumn 56 = .ok (.getfield 48, 3) := by decide +kernel
theorem dX0_costOfColumn_59 : decode cX0_costOfColumn 59 = .ok (.imul, 1) := by decide +kernel
theorem dX0_costOfColumn_60 : decode cX0_costOfColumn 60 = .ok (.iload_n 1, 1) := by decide +kernel
theorem dX0_costOfColumn_61 : decode cX0_costOfColumn 61 = .ok (.iadd, 1) := by decide +kernel
theorem dX0_costOfColumn_62 : decode cX0_costOfColumn 62 = .ok (.laload, 1) := by decide +kernel
theorem dX0_costOfColumn_63 : decode cX0_costOfColumn 63 = .ok (.lmul, 1) := by decide +kernel
theorem dX0_costOfColumn_64 : decode cX0_costOfColumn 64 = .ok (.ladd, 1) := by decide +kernel
theorem dX0_costOfColumn_65 : decode cX0_costOfColumn 65 = .ok (.lstore_n 2, 1) := by decide +kernel
theorem dX0_costOfColumn_66 : decode cX0_costOfColumn 66 = .ok (.iinc 4 1, 3) := by decide +kernel
theorem dX0_costOfColumn_69 : decode cX0_costOfColumn 69 = .ok (.goto (-64), 3) := by decide +kernel
theorem dX0_costOfColumn_72 : decode cX0_costOfColumn 72 = .ok (.lload_n 2, 1) := by decide +kernel
theorem dX0_costOfColumn_73 : decode cX0_costOfColumn 73 = .ok (.lreturn, 1) := by decide +kernel
theorem dX0_rowThatGivesWay_0 : decode cX0_rowThatGivesWay 0 = .ok (.iconst (-1), 1) := by decide +kernel
theorem dX0_rowThatGivesWay_1 : decode cX0_rowThatGivesWay 1 = .ok (.istore_n 2, 1) := by decide +kernel
theorem dX0_rowThatGivesWay_2 : decode cX0_rowThatGivesWay 2 = .ok (.iconst 0, 1) := by decide +kernel
theorem dX0_rowThatGivesWay_3 : decode cX0_rowThatGivesWay 3 = .ok (.istore_n 3, 1) := by decide +kernel
theorem dX0_rowThatGivesWay_4 : decode cX0_rowThatGivesWay 4 = .ok (.iload_n 3, 1) := by decide +kernel
theorem dX0_rowThatGivesWay_5 : decode cX0_rowThatGivesWay 5 = .ok (.aload_n 0, 1) := by decide +kernel
theorem dX0_rowThatGivesWay_6 : decode cX0_rowThatGivesWay 6 = .ok (.getfield 74, 3) := by decide +kernel
theorem dX0_rowThatGivesWay_9 : decode cX0_rowThatGivesWay 9 = .ok (.if_icmp .ge 44, 3) := by decide +kernel
theorem dX0_rowThatGivesWay_12 : decode cX0_rowThatGivesWay 12 = .ok (.aload_n 0, 1) := by decide +kernel
theorem dX0_rowThatGivesWay_13 : decode cX0_rowThatGivesWay 13 = .ok (.getfield 9, 3) := by decide +kernel
theorem dX0_rowThatGivesWay_16 : decode cX0_rowThatGivesWay 16 = .ok (.iload_n 3, 1) := by decide +kernel
theorem dX0_rowThatGivesWay_17 : decode cX0_rowThatGivesWay 17 = .ok (.aload_n 0, 1) := by decide +kernel
theorem dX0_rowThatGivesWay_18 : decode cX0_rowThatGivesWay 18 = .ok (.getfield 48, 3) := by decide +kernel
theorem dX0_rowThatGivesWay_21 : decode cX0_rowThatGivesWay 21 = .ok (.imul, 1) := by decide +kernel
theorem dX0_rowThatGivesWay_22 : decode cX0_rowThatGivesWay 22 = .ok (.iload_n 1, 1) := by decide +kernel
theorem dX0_rowThatGivesWay_23 : decode cX0_rowThatGivesWay 23 = .ok (.iadd, 1) := by decide +kernel
theorem dX0_rowThatGivesWay_24 : decode cX0_rowThatGivesWay 24 = .ok (.laload, 1) := by decide +kernel
theorem dX0_rowThatGivesWay_25 : decode cX0_rowThatGivesWay 25 = .ok (.lconst 0, 1) := by decide +kernel
theorem dX0_rowThatGivesWay_26 : decode cX0_rowThatGivesWay 26 = .ok (.lcmp, 1) := by decide +kernel
theorem dX0_rowThatGivesWay_27 : decode cX0_rowThatGivesWay 27 = .ok (.ifCond .le 20, 3) := by decide +kernel
theorem dX0_rowThatGivesWay_30 : decode cX0_rowThatGivesWay 30 = .ok (.iload_n 2, 1) := by decide +kernel
theorem dX0_rowThatGivesWay_31 : decode cX0_rowThatGivesWay 31 = .ok (.iconst (-1), 1) := by decide +kernel
theorem dX0_rowThatGivesWay_32 : decode cX0_rowThatGivesWay 32 = .ok (.if_icmp .eq 13, 3) := by decide +kernel
theorem dX0_rowThatGivesWay_35 : decode cX0_rowThatGivesWay 35 = .ok (.aload_n 0, 1) := by decide +kernel
theorem dX0_rowThatGivesWay_36 : decode cX0_rowThatGivesWay 36 = .ok (.iload_n 3, 1) := by decide +kernel
theorem dX0_rowThatGivesWay_37 : decode cX0_rowThatGivesWay 37 = .ok (.iload_n 2, 1) := by decide +kernel
theorem dX0_rowThatGivesWay_38 : decode cX0_rowThatGivesWay 38 = .ok (.iload_n 1, 1) := by decide +kernel
theorem dX0_rowThatGivesWay_39 : decode cX0_rowThatGivesWay 39 = .ok (.invokevirtual 122, 3) := by decide +kernel
theorem dX0_rowThatGivesWay_42 : decode cX0_rowThatGivesWay 42 = .ok (.ifCond .eq 5, 3) := by decide +kernel
theorem dX0_rowThatGivesWay_45 : decode cX0_rowThatGivesWay 45 = .ok (.iload_n 3, 1) := by decide +kernel
theorem dX0_rowThatGivesWay_46 : decode cX0_rowThatGivesWay 46 = .ok (.istore_n 2, 1) := by decide +kernel
theorem dX0_rowThatGivesWay_47 : decode cX0_rowThatGivesWay 47 = .ok (.iinc 3 1, 3) := by decide +kernel
theorem dX0_rowThatGivesWay_50 : decode cX0_rowThatGivesWay 50 = .ok (.goto (-46), 3) := by decide +kernel
theorem dX0_rowThatGivesWay_53 : decode cX0_rowThatGivesWay 53 = .ok (.iload_n 2, 1) := by decide +kernel
theorem dX0_rowThatGivesWay_54 : decode cX0_rowThatGivesWay 54 = .ok (.ireturn, 1) := by decide +kernel
theorem dX0_givesWayBefore_0 : decode cX0_givesWayBefore 0 = .ok (.iload_n 1, 1) := by decide +kernel
theorem dX0_givesWayBefore_1 : decode cX0_givesWayBefore 1 = .ok (.aload_n 0, 1) := by decide +kernel
theorem dX0_givesWayBefore_2 : decode cX0_givesWayBefore 2 = .ok (.getfield 48, 3) := by decide +kernel
theorem dX0_givesWayBefore_5 : decode cX0_givesWayBefore 5 = .ok (.imul, 1) := by decide +kernel
theorem dX0_givesWayBefore_6 : decode cX0_givesWayBefore 6 = .ok (.istore 4, 2) := by decide +kernel
theorem dX0_givesWayBefore_8 : decode cX0_givesWayBefore 8 = .ok (.iload_n 2, 1) := by decide +kernel
theorem dX0_givesWayBefore_9 : decode cX0_givesWayBefore 9 = .ok (.aload_n 0, 1) := by decide +kernel
theorem dX0_givesWayBefore_10 : decode cX0_givesWayBefore 10 = .ok (.getfield 48, 3) := by decide +kernel
theorem dX0_givesWayBefore_13 : decode cX0_givesWayBefore 13 = .ok (.imul, 1) := by decide +kernel
theorem dX0_givesWayBefore_14 : decode cX0_givesWayBefore 14 = .ok (.istore 5, 2) := by decide +kernel
theorem dX0_givesWayBefore_16 : decode cX0_givesWayBefore 16 = .ok (.aload_n 0, 1) := by decide +kernel
theorem dX0_givesWayBefore_17 : decode cX0_givesWayBefore 17 = .ok (.getfield 9, 3) := by decide +kernel
theorem dX0_givesWayBefore_20 : decode cX0_givesWayBefore 20 = .ok (.iload 4, 2) := by decide +kernel
theorem dX0_givesWayBefore_22 : decode cX0_givesWayBefore 22 = .ok (.aload_n 0, 1) := by decide +kernel
theorem dX0_givesWayBefore_23 : decode cX0_givesWayBefore 23 = .ok (.getfield 48, 3) := by decide +kernel
theorem dX0_givesWayBefore_26 : decode cX0_givesWayBefore 26 = .ok (.iadd, 1) := by decide +kernel
theorem dX0_givesWayBefore_27 : decode cX0_givesWayBefore 27 = .ok (.iconst 1, 1) := by decide +kernel
theorem dX0_givesWayBefore_28 : decode cX0_givesWayBefore 28 = .ok (.isub, 1) := by decide +kernel
theorem dX0_givesWayBefore_29 : decode cX0_givesWayBefore 29 = .ok (.laload, 1) := by decide +kernel
theorem dX0_givesWayBefore_30 : decode cX0_givesWayBefore 30 = .ok (.aload_n 0, 1) := by decide +kernel
theorem dX0_givesWayBefore_31 : decode cX0_givesWayBefore 31 = .ok (.getfield 9, 3) := by decide +kernel
theorem dX0_givesWayBefore_34 : decode cX0_givesWayBefore 34 = .ok (.iload 5, 2) := by decide +kernel
theorem dX0_givesWayBefore_36 : decode cX0_givesWayBefore 36 = .ok (.iload_n 3, 1) := by decide +kernel
theorem dX0_givesWayBefore_37 : decode cX0_givesWayBefore 37 = .ok (.iadd, 1) := by decide +kernel
theorem dX0_givesWayBefore_38 : decode cX0_givesWayBefore 38 = .ok (.laload, 1) := by decide +kernel
theorem dX0_givesWayBefore_39 : decode cX0_givesWayBefore 39 = .ok (.lmul, 1) := by decide +kernel
theorem dX0_givesWayBefore_40 : decode cX0_givesWayBefore 40 = .ok (.lstore 6, 2) := by decide +kernel
theorem dX0_givesWayBefore_42 : decode cX0_givesWayBefore 42 = .ok (.aload_n 0, 1) := by decide +kernel
theorem dX0_givesWayBefore_43 : decode cX0_givesWayBefore 43 = .ok (.getfield 9, 3) := by decide +kernel
theorem dX0_givesWayBefore_46 : decode cX0_givesWayBefore 46 = .ok (.iload 5, 2) := by decide +kernel
theorem dX0_givesWayBefore_48 : decode cX0_givesWayBefore 48 = .ok (.aload_n 0, 1) := by decide +kernel
theorem dX0_givesWayBefore_49 : decode cX0_givesWayBefore 49 = .ok (.getfield 48, 3) := by decide +kernel
theorem dX0_givesWayBefore_52 : decode cX0_givesWayBefore 52 = .ok (.iadd, 1) := by decide +kernel
theorem dX0_givesWayBefore_53 : decode cX0_givesWayBefore 53 = .ok (.iconst 1, 1) := by decide +kernel
theorem dX0_givesWayBefore_54 : decode cX0_givesWayBefore 54 = .ok (.isub, 1) := by decide +kernel
theorem dX0_givesWayBefore_55 : decode cX0_givesWayBefore 55 = .ok (.laload, 1) := by decide +kernel
theorem dX0_givesWayBefore_56 : decode cX0_givesWayBefore 56 = .ok (.aload_n 0, 1) := by decide +kernel
theorem dX0_givesWayBefore_57 : decode cX0_givesWayBefore 57 = .ok (.getfield 9, 3) := by decide +kernel
theorem dX0_givesWayBefore_60 : decode cX0_givesWayBefore 60 = .ok (.iload 4, 2) := by decide +kernel
theorem dX0_givesWayBefore_62 : decode cX0_givesWayBefore 62 = .ok (.iload_n 3, 1) := by decide +kernel
theorem dX0_givesWayBefore_63 : decode cX0_givesWayBefore 63 = .ok (.iadd, 1) := by decide +kernel
theorem dX0_givesWayBefore_64 : decode cX0_givesWayBefore 64 = .ok (.laload, 1) := by decide +kernel
theorem dX0_givesWayBefore_65 : decode cX0_givesWayBefore 65 = .ok (.lmul, 1) := by decide +kernel
theorem dX0_givesWayBefore_66 : decode cX0_givesWayBefore 66 = .ok (.lstore 8, 2) := by decide +kernel
theorem dX0_givesWayBefore_68 : decode cX0_givesWayBefore 68 = .ok (.lload 6, 2) := by decide +kernel
theorem dX0_givesWayBefore_70 : decode cX0_givesWayBefore 70 = .ok (.lload 8, 2) := by decide +kernel
theorem dX0_givesWayBefore_72 : decode cX0_givesWayBefore 72 = .ok (.lcmp, 1) := by decide +kernel
theorem dX0_givesWayBefore_73 : decode cX0_givesWayBefore 73 = .ok (.ifCond .lt 26, 3) := by decide +kernel
theorem dX0_givesWayBefore_76 : decode cX0_givesWayBefore 76 = .ok (.lload 6, 2) := by decide +kernel
theorem dX0_givesWayBefore_78 : decode cX0_givesWayBefore 78 = .ok (.lload 8, 2) := by decide +kernel
theorem dX0_givesWayBefore_80 : decode cX0_givesWayBefore 80 = .ok (.lcmp, 1) := by decide +kernel
theorem dX0_givesWayBefore_81 : decode cX0_givesWayBefore 81 = .ok (.ifCond .ne 22, 3) := by decide +kernel
theorem dX0_givesWayBefore_84 : decode cX0_givesWayBefore 84 = .ok (.aload_n 0, 1) := by decide +kernel
theorem dX0_givesWayBefore_85 : decode cX0_givesWayBefore 85 = .ok (.getfield 15, 3) := by decide +kernel
theorem dX0_givesWayBefore_88 : decode cX0_givesWayBefore 88 = .ok (.iload_n 1, 1) := by decide +kernel
theorem dX0_givesWayBefore_89 : decode cX0_givesWayBefore 89 = .ok (.iaload, 1) := by decide +kernel
theorem dX0_givesWayBefore_90 : decode cX0_givesWayBefore 90 = .ok (.aload_n 0, 1) := by decide +kernel
theorem dX0_givesWayBefore_91 : decode cX0_givesWayBefore 91 = .ok (.getfield 15, 3) := by decide +kernel
theorem dX0_givesWayBefore_94 : decode cX0_givesWayBefore 94 = .ok (.iload_n 2, 1) := by decide +kernel
theorem dX0_givesWayBefore_95 : decode cX0_givesWayBefore 95 = .ok (.iaload, 1) := by decide +kernel
theorem dX0_givesWayBefore_96 : decode cX0_givesWayBefore 96 = .ok (.if_icmp .ge 7, 3) := by decide +kernel
theorem dX0_givesWayBefore_99 : decode cX0_givesWayBefore 99 = .ok (.iconst 1, 1) := by decide +kernel
theorem dX0_givesWayBefore_100 : decode cX0_givesWayBefore 100 = .ok (.goto 4, 3) := by decide +kernel
theorem dX0_givesWayBefore_103 : decode cX0_givesWayBefore 103 = .ok (.iconst 0, 1) := by decide +kernel
theorem dX0_givesWayBefore_104 : decode cX0_givesWayBefore 104 = .ok (.ireturn, 1) := by decide +kernel
theorem dX0_exchange_0 : decode cX0_exchange 0 = .ok (.iload_n 1, 1) := by decide +kernel
theorem dX0_exchange_1 : decode cX0_exchange 1 = .ok (.aload_n 0, 1) := by decide +kernel
theorem dX0_exchange_2 : decode cX0_exchange 2 = .ok (.getfield 48, 3) := by decide +kernel
theorem dX0_exchange_5 : decode cX0_exchange 5 = .ok (.imul, 1) := by decide +kernel
theorem dX0_exchange_6 : decode cX0_exchange 6 = .ok (.istore_n 3, 1) := by decide +kernel
theorem dX0_exchange_7 : decode cX0_exchange 7 = .ok (.aload_n 0, 1) := by decide +kernel
theorem dX0_exchange_8 : decode cX0_exchange 8 = .ok (.getfield 9, 3) := by decide +kernel
theorem dX0_exchange_11 : decode cX0_exchange 11 = .ok (.iload_n 3, 1) := by decide +kernel
theorem dX0_exchange_12 : decode cX0_exchange 12 = .ok (.iload_n 2, 1) := by decide +kernel
theorem dX0_exchange_13 : decode cX0_exchange 13 = .ok (.iadd, 1) := by decide +kernel
theorem dX0_exchange_14 : decode cX0_exchange 14 = .ok (.laload, 1) := by decide +kernel
theorem dX0_exchange_15 : decode cX0_exchange 15 = .ok (.lconst 0, 1) := by decide +kernel
theorem dX0_exchange_16 : decode cX0_exchange 16 = .ok (.lcmp, 1) := by decide +kernel
theorem dX0_exchange_17 : decode cX0_exchange 17 = .ok (.ifCond .ge 8, 3) := by decide +kernel
theorem dX0_exchange_20 : decode cX0_exchange 20 = .ok (.aload_n 0, 1) := by decide +kernel
theorem dX0_exchange_21 : decode cX0_exchange 21 = .ok (.iload_n 3, 1) := by decide +kernel
theorem dX0_exchange_22 : decode cX0_exchange 22 = .ok (.invokevirtual 126, 3) := by decide +kernel
theorem dX0_exchange_25 : decode cX0_exchange 25 = .ok (.aload_n 0, 1) := by decide +kernel
theorem dX0_exchange_26 : decode cX0_exchange 26 = .ok (.getfield 9, 3) := by decide +kernel
theorem dX0_exchange_29 : decode cX0_exchange 29 = .ok (.iload_n 3, 1) := by decide +kernel
theorem dX0_exchange_30 : decode cX0_exchange 30 = .ok (.iload_n 2, 1) := by decide +kernel
theorem dX0_exchange_31 : decode cX0_exchange 31 = .ok (.iadd, 1) := by decide +kernel
theorem dX0_exchange_32 : decode cX0_exchange 32 = .ok (.laload, 1) := by decide +kernel
theorem dX0_exchange_33 : decode cX0_exchange 33 = .ok (.lstore 4, 2) := by decide +kernel
theorem dX0_exchange_35 : decode cX0_exchange 35 = .ok (.lload 4, 2) := by decide +kernel
theorem dX0_exchange_37 : decode cX0_exchange 37 = .ok (.lconst 0, 1) := by decide +kernel
theorem dX0_exchange_38 : decode cX0_exchange 38 = .ok (.lcmp, 1) := by decide +kernel
theorem dX0_exchange_39 : decode cX0_exchange 39 = .ok (.ifCond .eq 12, 3) := by decide +kernel
theorem dX0_exchange_42 : decode cX0_exchange 42 = .ok (.aload_n 0, 1) := by decide +kernel
theorem dX0_exchange_43 : decode cX0_exchange 43 = .ok (.getfield 25, 3) := by decide +kernel
theorem dX0_exchange_46 : decode cX0_exchange 46 = .ok (.lconst 0, 1) := by decide +kernel
theorem dX0_exchange_47 : decode cX0_exchange 47 = .ok (.lcmp, 1) := by decide +kernel
theorem dX0_exchange_48 : decode cX0_exchange 48 = .ok (.ifCond .ne 4, 3) := by decide +kernel
theorem dX0_exchange_51 : decode cX0_exchange 51 = .ok (.return_, 1) := by decide +kernel
theorem dX0_exchange_52 : decode cX0_exchange 52 = .ok (.iconst 0, 1) := by decide +kernel
theorem dX0_exchange_53 : decode cX0_exchange 53 = .ok (.istore 6, 2) := by decide +kernel
theorem dX0_exchange_55 : decode cX0_exchange 55 = .ok (.iload 6, 2) := by decide +kernel
theorem dX0_exchange_57 : decode cX0_exchange 57 = .ok (.aload_n 0, 1) := by decide +kernel
theorem dX0_exchange_58 : decode cX0_exchange 58 = .ok (.getfield 74, 3) := by decide +kernel
theorem dX0_exchange_61 : decode cX0_exchange 61 = .ok (.if_icmp .ge 28, 3) := by decide +kernel
theorem dX0_exchange_64 : decode cX0_exchange 64 = .ok (.iload 6, 2) := by decide +kernel
theorem dX0_exchange_66 : decode cX0_exchange 66 = .ok (.iload_n 1, 1) := by decide +kernel
theorem dX0_exchange_67 : decode cX0_exchange 67 = .ok (.if_icmp .eq 16, 3) := by decide +kernel
theorem dX0_exchange_70 : decode cX0_exchange 70 = .ok (.aload_n 0, 1) := by decide +kernel
theorem dX0_exchange_71 : decode cX0_exchange 71 = .ok (.iload 6, 2) := by decide +kernel
theorem dX0_exchange_73 : decode cX0_exchange 73 = .ok (.aload_n 0, 1) := by decide +kernel
theorem dX0_exchange_74 : decode cX0_exchange 74 = .ok (.getfield 48, 3) := by decide +kernel
theorem dX0_exchange_77 : decode cX0_exchange 77 = .ok (.imul, 1) := by decide +kernel
theorem dX0_exchange_78 : decode cX0_exchange 78 = .ok (.iload_n 3, 1) := by decide +kernel
theorem dX0_exchange_79 : decode cX0_exchange 79 = .ok (.iload_n 2, 1) := by decide +kernel
theorem dX0_exchange_80 : decode cX0_exchange 80 = .ok (.invokevirtual 130, 3) := by decide +kernel
theorem dX0_exchange_83 : decode cX0_exchange 83 = .ok (.iinc 6 1, 3) := by decide +kernel
theorem dX0_exchange_86 : decode cX0_exchange 86 = .ok (.goto (-31), 3) := by decide +kernel
theorem dX0_exchange_89 : decode cX0_exchange 89 = .ok (.aload_n 0, 1) := by decide +kernel
theorem dX0_exchange_90 : decode cX0_exchange 90 = .ok (.lload 4, 2) := by decide +kernel
theorem dX0_exchange_92 : decode cX0_exchange 92 = .ok (.putfield 25, 3) := by decide +kernel
theorem dX0_exchange_95 : decode cX0_exchange 95 = .ok (.aload_n 0, 1) := by decide +kernel
theorem dX0_exchange_96 : decode cX0_exchange 96 = .ok (.getfield 15, 3) := by decide +kernel
theorem dX0_exchange_99 : decode cX0_exchange 99 = .ok (.iload_n 1, 1) := by decide +kernel
theorem dX0_exchange_100 : decode cX0_exchange 100 = .ok (.iload_n 2, 1) := by decide +kernel
theorem dX0_exchange_101 : decode cX0_exchange 101 = .ok (.iastore, 1) := by decide +kernel
theorem dX0_exchange_102 : decode cX0_exchange 102 = .ok (.return_, 1) := by decide +kernel
theorem dX0_turnSigns_0 : decode cX0_turnSigns 0 = .ok (.iconst 0, 1) := by decide +kernel
theorem dX0_turnSigns_1 : decode cX0_turnSigns 1 = .ok (.istore_n 2, 1) := by decide +kernel
theorem dX0_turnSigns_2 : decode cX0_turnSigns 2 = .ok (.iload_n 2, 1) := by decide +kernel
theorem dX0_turnSigns_3 : decode cX0_turnSigns 3 = .ok (.aload_n 0, 1) := by decide +kernel
theorem dX0_turnSigns_4 : decode cX0_turnSigns 4 = .ok (.getfield 48, 3) := by decide +kernel
theorem dX0_turnSigns_7 : decode cX0_turnSigns 7 = .ok (.if_icmp .ge 26, 3) := by decide +kernel
theorem dX0_turnSigns_10 : decode cX0_turnSigns 10 = .ok (.aload_n 0, 1) := by decide +kernel
theorem dX0_turnSigns_11 : decode cX0_turnSigns 11 = .ok (.getfield 9, 3) := by decide +kernel
theorem dX0_turnSigns_14 : decode cX0_turnSigns 14 = .ok (.iload_n 1, 1) := by decide +kernel
theorem dX0_turnSigns_15 : decode cX0_turnSigns 15 = .ok (.iload_n 2, 1) := by decide +kernel
theorem dX0_turnSigns_16 : decode cX0_turnSigns 16 = .ok (.iadd, 1) := by decide +kernel
theorem dX0_turnSigns_17 : decode cX0_turnSigns 17 = .ok (.aload_n 0, 1) := by decide +kernel
theorem dX0_turnSigns_18 : decode cX0_turnSigns 18 = .ok (.getfield 9, 3) := by decide +kernel
theorem dX0_turnSigns_21 : decode cX0_turnSigns 21 = .ok (.iload_n 1, 1) := by decide +kernel
theorem dX0_turnSigns_22 : decode cX0_turnSigns 22 = .ok (.iload_n 2, 1) := by decide +kernel
theorem dX0_turnSigns_23 : decode cX0_turnSigns 23 = .ok (.iadd, 1) := by decide +kernel
theorem dX0_turnSigns_24 : decode cX0_turnSigns 24 = .ok (.laload, 1) := by decide +kernel
theorem dX0_turnSigns_25 : decode cX0_turnSigns 25 = .ok (.lneg, 1) := by decide +kernel
theorem dX0_turnSigns_26 : decode cX0_turnSigns 26 = .ok (.lastore, 1) := by decide +kernel
theorem dX0_turnSigns_27 : decode cX0_turnSigns 27 = .ok (.iinc 2 1, 3) := by decide +kernel
theorem dX0_turnSigns_30 : decode cX0_turnSigns 30 = .ok (.goto (-28), 3) := by decide +kernel
theorem dX0_turnSigns_33 : decode cX0_turnSigns 33 = .ok (.return_, 1) := by decide +kernel
theorem dX0_clearColumn_0 : decode cX0_clearColumn 0 = .ok (.aload_n 0, 1) := by decide +kernel
theorem dX0_clearColumn_1 : decode cX0_clearColumn 1 = .ok (.getfield 9, 3) := by decide +kernel
theorem dX0_clearColumn_4 : decode cX0_clearColumn 4 = .ok (.iload_n 2, 1) := by decide +kernel
theorem dX0_clearColumn_5 : decode cX0_clearColumn 5 = .ok (.iload_n 3, 1) := by decide +kernel
theorem dX0_clearColumn_6 : decode cX0_clearColumn 6 = .ok (.iadd, 1) := by decide +kernel
theorem dX0_clearColumn_7 : decode cX0_clearColumn 7 = .ok (.laload, 1) := by decide +kernel
theorem dX0_clearColumn_8 : decode cX0_clearColumn 8 = .ok (.lstore 4, 2) := by decide +kernel
theorem dX0_clearColumn_10 : decode cX0_clearColumn 10 = .ok (.aload_n 0, 1) := by decide +kernel
theorem dX0_clearColumn_11 : decode cX0_clearColumn 11 = .ok (.getfield 9, 3) := by decide +kernel
theorem dX0_clearColumn_14 : decode cX0_clearColumn 14 = .ok (.iload_n 1, 1) := by decide +kernel
theorem dX0_clearColumn_15 : decode cX0_clearColumn 15 = .ok (.iload_n 3, 1) := by decide +kernel
theorem dX0_clearColumn_16 : decode cX0_clearColumn 16 = .ok (.iadd, 1) := by decide +kernel
theorem dX0_clearColumn_17 : decode cX0_clearColumn 17 = .ok (.laload, 1) := by decide +kernel
theorem dX0_clearColumn_18 : decode cX0_clearColumn 18 = .ok (.lstore 6, 2) := by decide +kernel
theorem dX0_clearColumn_20 : decode cX0_clearColumn 20 = .ok (.aload_n 0, 1) := by decide +kernel
theorem dX0_clearColumn_21 : decode cX0_clearColumn 21 = .ok (.getfield 25, 3) := by decide +kernel
theorem dX0_clearColumn_24 : decode cX0_clearColumn 24 = .ok (.lconst 0, 1) := by decide +kernel
theorem dX0_clearColumn_25 : decode cX0_clearColumn 25 = .ok (.lcmp, 1) := by decide +kernel
theorem dX0_clearColumn_26 : decode cX0_clearColumn 26 = .ok (.ifCond .eq 20, 3) := by decide +kernel
theorem dX0_clearColumn_29 : decode cX0_clearColumn 29 = .ok (.lload 6, 2) := by decide +kernel
theorem dX0_clearColumn_31 : decode cX0_clearColumn 31 = .ok (.lconst 0, 1) := by decide +kernel
theorem dX0_clearColumn_32 : decode cX0_clearColumn 32 = .ok (.lcmp, 1) := by decide +kernel
theorem dX0_clearColumn_33 : decode cX0_clearColumn 33 = .ok (.ifCond .ne 14, 3) := by decide +kernel
theorem dX0_clearColumn_36 : decode cX0_clearColumn 36 = .ok (.lload 4, 2) := by decide +kernel
theorem dX0_clearColumn_38 : decode cX0_clearColumn 38 = .ok (.aload_n 0, 1) := by decide +kernel
theorem dX0_clearColumn_39 : decode cX0_clearColumn 39 = .ok (.getfield 25, 3) := by decide +kernel
theorem dX0_clearColumn_42 : decode cX0_clearColumn 42 = .ok (.lcmp, 1) := by decide +kernel
theorem dX0_clearColumn_43 : decode cX0_clearColumn 43 = .ok (.ifCond .ne 4, 3) := by decide +kernel
theorem dX0_clearColumn_46 : decode cX0_clearColumn 46 = .ok (.return_, 1) := by decide +kernel
theorem dX0_clearColumn_47 : decode cX0_clearColumn 47 = .ok (.iconst 0, 1) := by decide +kernel
theorem dX0_clearColumn_48 : decode cX0_clearColumn 48 = .ok (.istore 8, 2) := by decide +kernel
theorem dX0_clearColumn_50 : decode cX0_clearColumn 50 = .ok (.iload 8, 2) := by decide +kernel
theorem dX0_clearColumn_52 : decode cX0_clearColumn 52 = .ok (.aload_n 0, 1) := by decide +kernel
theorem dX0_clearColumn_53 : decode cX0_clearColumn 53 = .ok (.getfield 48, 3) := by decide +kernel
theorem dX0_clearColumn_56 : decode cX0_clearColumn 56 = .ok (.if_icmp .ge 52, 3) := by decide +kernel
theorem dX0_clearColumn_59 : decode cX0_clearColumn 59 = .ok (.aload_n 0, 1) := by decide +kernel
theorem dX0_clearColumn_60 : decode cX0_clearColumn 60 = .ok (.getfield 9, 3) := by decide +kernel
theorem dX0_clearColumn_63 : decode cX0_clearColumn 63 = .ok (.iload_n 1, 1) := by decide +kernel
theorem dX0_clearColumn_64 : decode cX0_clearColumn 64 = .ok (.iload 8, 2) := by decide +kernel
theorem dX0_clearColumn_66 : decode cX0_clearColumn 66 = .ok (.iadd, 1) := by decide +kernel
theorem dX0_clearColumn_67 : decode cX0_clearColumn 67 = .ok (.laload, 1) := by decide +kernel
theorem dX0_clearColumn_68 : decode cX0_clearColumn 68 = .ok (.lload 4, 2) := by decide +kernel
theorem dX0_clearColumn_70 : decode cX0_clearColumn 70 = .ok (.lmul, 1) := by decide +kernel
theorem dX0_clearColumn_71 : decode cX0_clearColumn 71 = .ok (.lload 6, 2) := by decide +kernel
theorem dX0_clearColumn_73 : decode cX0_clearColumn 73 = .ok (.aload_n 0, 1) := by decide +kernel
theorem dX0_clearColumn_74 : decode cX0_clearColumn 74 = .ok (.getfield 9, 3) := by decide +kernel
theorem dX0_clearColumn_77 : decode cX0_clearColumn 77 = .ok (.iload_n 2, 1) := by decide +kernel
theorem dX0_clearColumn_78 : decode cX0_clearColumn 78 = .ok (.iload 8, 2) := by decide +kernel
theorem dX0_clearColumn_80 : decode cX0_clearColumn 80 = .ok (.iadd, 1) := by decide +kernel
theorem dX0_clearColumn_81 : decode cX0_clearColumn 81 = .ok (.laload, 1) := by decide +kernel
theorem dX0_clearColumn_82 : decode cX0_clearColumn 82 = .ok (.lmul, 1) := by decide +kernel
theorem dX0_clearColumn_83 : decode cX0_clearColumn 83 = .ok (.lsub, 1) := by decide +kernel
theorem dX0_clearColumn_84 : decode cX0_clearColumn 84 = .ok (.lstore 9, 2) := by decide +kernel
theorem dX0_clearColumn_86 : decode cX0_clearColumn 86 = .ok (.aload_n 0, 1) := by decide +kernel
theorem dX0_clearColumn_87 : decode cX0_clearColumn 87 = .ok (.getfield 9, 3) := by decide +kernel
theorem dX0_clearColumn_90 : decode cX0_clearColumn 90 = .ok (.iload_n 1, 1) := by decide +kernel
theorem dX0_clearColumn_91 : decode cX0_clearColumn 91 = .ok (.iload 8, 2) := by decide +kernel
theorem dX0_clearColumn_93 : decode cX0_clearColumn 93 = .ok (.iadd, 1) := by decide +kernel
theorem dX0_clearColumn_94 : decode cX0_clearColumn 94 = .ok (.lload 9, 2) := by decide +kernel
theorem dX0_clearColumn_96 : decode cX0_clearColumn 96 = .ok (.aload_n 0, 1) := by decide +kernel
theorem dX0_clearColumn_97 : decode cX0_clearColumn 97 = .ok (.getfield 25, 3) := by decide +kernel
theorem dX0_clearColumn_100 : decode cX0_clearColumn 100 = .ok (.ldiv, 1) := by decide +kernel
theorem dX0_clearColumn_101 : decode cX0_clearColumn 101 = .ok (.lastore, 1) := by decide +kernel
theorem dX0_clearColumn_102 : decode cX0_clearColumn 102 = .ok (.iinc 8 1, 3) := by decide +kernel
theorem dX0_clearColumn_105 : decode cX0_clearColumn 105 = .ok (.goto (-55), 3) := by decide +kernel
theorem dX0_clearColumn_108 : decode cX0_clearColumn 108 = .ok (.return_, 1) := by decide +kernel
theorem dX0_dropSlacks_0 : decode cX0_dropSlacks 0 = .ok (.iconst 0, 1) := by decide +kernel
theorem dX0_dropSlacks_1 : decode cX0_dropSlacks 1 = .ok (.istore_n 1, 1) := by decide +kernel
theorem dX0_dropSlacks_2 : decode cX0_dropSlacks 2 = .ok (.iload_n 1, 1) := by decide +kernel
theorem dX0_dropSlacks_3 : decode cX0_dropSlacks 3 = .ok (.aload_n 0, 1) := by decide +kernel
theorem dX0_dropSlacks_4 : decode cX0_dropSlacks 4 = .ok (.getfield 74, 3) := by decide +kernel
theorem dX0_dropSlacks_7 : decode cX0_dropSlacks 7 = .ok (.if_icmp .ge 58, 3) := by decide +kernel
theorem dX0_dropSlacks_10 : decode cX0_dropSlacks 10 = .ok (.iconst 0, 1) := by decide +kernel
theorem dX0_dropSlacks_11 : decode cX0_dropSlacks 11 = .ok (.istore_n 2, 1) := by decide +kernel
theorem dX0_dropSlacks_12 : decode cX0_dropSlacks 12 = .ok (.iload_n 2, 1) := by decide +kernel
theorem dX0_dropSlacks_13 : decode cX0_dropSlacks 13 = .ok (.aload_n 0, 1) := by decide +kernel
theorem dX0_dropSlacks_14 : decode cX0_dropSlacks 14 = .ok (.getfield 68, 3) := by decide +kernel
theorem dX0_dropSlacks_17 : decode cX0_dropSlacks 17 = .ok (.if_icmp .ge 42, 3) := by decide +kernel
theorem dX0_dropSlacks_20 : decode cX0_dropSlacks 20 = .ok (.aload_n 0, 1) := by decide +kernel
theorem dX0_dropSlacks_21 : decode cX0_dropSlacks 21 = .ok (.getfield 15, 3) := by decide +kernel
theorem dX0_dropSlacks_24 : decode cX0_dropSlacks 24 = .ok (.iload_n 1, 1) := by decide +kernel
theorem dX0_dropSlacks_25 : decode cX0_dropSlacks 25 = .ok (.iaload, 1) := by decide +kernel
theorem dX0_dropSlacks_26 : decode cX0_dropSlacks 26 = .ok (.ifCond .ge 33, 3) := by decide +kernel
theorem dX0_dropSlacks_29 : decode cX0_dropSlacks 29 = .ok (.aload_n 0, 1) := by decide +kernel
theorem dX0_dropSlacks_30 : decode cX0_dropSlacks 30 = .ok (.getfield 9, 3) := by decide +kernel
theorem dX0_dropSlacks_33 : decode cX0_dropSlacks 33 = .ok (.iload_n 1, 1) := by decide +kernel
theorem dX0_dropSlacks_34 : decode cX0_dropSlacks 34 = .ok (.aload_n 0, 1) := by decide +kernel
theorem dX0_dropSlacks_35 : decode cX0_dropSlacks 35 = .ok (.getfield 48, 3) := by decide +kernel
theorem dX0_dropSlacks_38 : decode cX0_dropSlacks 38 = .ok (.imul, 1) := by decide +kernel
theorem dX0_dropSlacks_39 : decode cX0_dropSlacks 39 = .ok (.iload_n 2, 1) := by decide +kernel
theorem dX0_dropSlacks_40 : decode cX0_dropSlacks 40 = .ok (.iadd, 1) := by decide +kernel
theorem dX0_dropSlacks_41 : decode cX0_dropSlacks 41 = .ok (.laload, 1) := by decide +kernel
theorem dX0_dropSlacks_42 : decode cX0_dropSlacks 42 = .ok (.lconst 0, 1) := by decide +kernel
theorem dX0_dropSlacks_43 : decode cX0_dropSlacks 43 = .ok (.lcmp, 1) := by decide +kernel
theorem dX0_dropSlacks_44 : decode cX0_dropSlacks 44 = .ok (.ifCond .eq 9, 3) := by decide +kernel
theorem dX0_dropSlacks_47 : decode cX0_dropSlacks 47 = .ok (.aload_n 0, 1) := by decide +kernel
theorem dX0_dropSlacks_48 : decode cX0_dropSlacks 48 = .ok (.iload_n 1, 1) := by decide +kernel
theorem dX0_dropSlacks_49 : decode cX0_dropSlacks 49 = .ok (.iload_n 2, 1) := by decide +kernel
theorem dX0_dropSlacks_50 : decode cX0_dropSlacks 50 = .ok (.invokevirtual 118, 3) := by decide +kernel
theorem dX0_dropSlacks_53 : decode cX0_dropSlacks 53 = .ok (.iinc 2 1, 3) := by decide +kernel
theorem dX0_dropSlacks_56 : decode cX0_dropSlacks 56 = .ok (.goto (-44), 3) := by decide +kernel
theorem dX0_dropSlacks_59 : decode cX0_dropSlacks 59 = .ok (.iinc 1 1, 3) := by decide +kernel
theorem dX0_dropSlacks_62 : decode cX0_dropSlacks 62 = .ok (.goto (-60), 3) := by decide +kernel
theorem dX0_dropSlacks_65 : decode cX0_dropSlacks 65 = .ok (.return_, 1) := by decide +kernel
theorem dX0_waysThatClash_0 : decode cX0_waysThatClash 0 = .ok (.iconst 0, 1) := by decide +kernel
theorem dX0_waysThatClash_1 : decode cX0_waysThatClash 1 = .ok (.istore_n 1, 1) := by decide +kernel
theorem dX0_waysThatClash_2 : decode cX0_waysThatClash 2 = .ok (.iconst 0, 1) := by decide +kernel
theorem dX0_waysThatClash_3 : decode cX0_waysThatClash 3 = .ok (.istore_n 2, 1) := by decide +kernel
theorem dX0_waysThatClash_4 : decode cX0_waysThatClash 4 = .ok (.iload_n 2, 1) := by decide +kernel
theorem dX0_waysThatClash_5 : decode cX0_waysThatClash 5 = .ok (.aload_n 0, 1) := by decide +kernel
theorem dX0_waysThatClash_6 : decode cX0_waysThatClash 6 = .ok (.getfield 74, 3) := by decide +kernel
theorem dX0_waysThatClash_9 : decode cX0_waysThatClash 9 = .ok (.if_icmp .ge 35, 3) := by decide +kernel
theorem dX0_waysThatClash_12 : decode cX0_waysThatClash 12 = .ok (.aload_n 0, 1) := by decide +kernel
theorem dX0_waysThatClash_13 : decode cX0_waysThatClash 13 = .ok (.aload_n 0, 1) := by decide +kernel
theorem dX0_waysThatClash_14 : decode cX0_waysThatClash 14 = .ok (.getfield 68, 3) := by decide +kernel
theorem dX0_waysThatClash_17 : decode cX0_waysThatClash 17 = .ok (.iload_n 2, 1) := by decide +kernel
theorem dX0_waysThatClash_18 : decode cX0_waysThatClash 18 = .ok (.iadd, 1) := by decide +kernel
theorem dX0_waysThatClash_19 : decode cX0_waysThatClash 19 = .ok (.invokevirtual 51, 3) := by decide +kernel
theorem dX0_waysThatClash_22 : decode cX0_waysThatClash 22 = .ok (.lconst 0, 1) := by decide +kernel
theorem dX0_waysThatClash_23 : decode cX0_waysThatClash 23 = .ok (.lcmp, 1) := by decide +kernel
theorem dX0_waysThatClash_24 : decode cX0_waysThatClash 24 = .ok (.ifCond .eq 14, 3) := by decide +kernel
theorem dX0_waysThatClash_27 : decode cX0_waysThatClash 27 = .ok (.iload_n 1, 1) := by decide +kernel
theorem dX0_waysThatClash_28 : decode cX0_waysThatClash 28 = .ok (.iconst 1, 1) := by decide +kernel
theorem dX0_waysThatClash_29 : decode cX0_waysThatClash 29 = .ok (.aload_n 0, 1) := by decide +kernel
theorem dX0_waysThatClash_30 : decode cX0_waysThatClash 30 = .ok (.getfield 19, 3) := by decide +kernel
theorem dX0_waysThatClash_33 : decode cX0_waysThatClash 33 = .ok (.iload_n 2, 1) := by decide +kernel
theorem dX0_waysThatClash_34 : decode cX0_waysThatClash 34 = .ok (.iaload, 1) := by decide +kernel
theorem dX0_waysThatClash_35 : decode cX0_waysThatClash 35 = .ok (.ishl, 1) := by decide +kernel
theorem dX0_waysThatClash_36 : decode cX0_waysThatClash 36 = .ok (.ior, 1) := by decide +kernel
theorem dX0_waysThatClash_37 : decode cX0_waysThatClash 37 = .ok (.istore_n 1, 1) := by decide +kernel
theorem dX0_waysThatClash_38 : decode cX0_waysThatClash 38 = .ok (.iinc 2 1, 3) := by decide +kernel
theorem dX0_waysThatClash_41 : decode cX0_waysThatClash 41 = .ok (.goto (-37), 3) := by decide +kernel
theorem dX0_waysThatClash_44 : decode cX0_waysThatClash 44 = .ok (.iload_n 1, 1) := by decide +kernel
theorem dX0_waysThatClash_45 : decode cX0_waysThatClash 45 = .ok (.ireturn, 1) := by decide +kernel
theorem dX0_barWhatCosts_0 : decode cX0_barWhatCosts 0 = .ok (.iconst 0, 1) := by decide +kernel
theorem dX0_barWhatCosts_1 : decode cX0_barWhatCosts 1 = .ok (.istore_n 1, 1) := by decide +kernel
theorem dX0_barWhatCosts_2 : decode cX0_barWhatCosts 2 = .ok (.iload_n 1, 1) := by decide +kernel
theorem dX0_barWhatCosts_3 : decode cX0_barWhatCosts 3 = .ok (.aload_n 0, 1) := by decide +kernel
theorem dX0_barWhatCosts_4 : decode cX0_barWhatCosts 4 = .ok (.getfield 68, 3) := by decide +kernel
theorem dX0_barWhatCosts_7 : decode cX0_barWhatCosts 7 = .ok (.if_icmp .ge 42, 3) := by decide +kernel
theorem dX0_barWhatCosts_10 : decode cX0_barWhatCosts 10 = .ok (.aload_n 0, 1) := by decide +kernel
theorem dX0_barWhatCosts_11 : decode cX0_barWhatCosts 11 = .ok (.getfield 25, 3) := by decide +kernel
theorem dX0_barWhatCosts_14 : decode cX0_barWhatCosts 14 = .ok (.aload_n 0, 1) := by decide +kernel
theorem dX0_barWhatCosts_15 : decode cX0_barWhatCosts 15 = .ok (.getfield 22, 3) := by decide +kernel
theorem dX0_barWhatCosts_18 : decode cX0_barWhatCosts 18 = .ok (.iload_n 1, 1) := by decide +kernel
theorem dX0_barWhatCosts_19 : decode cX0_barWhatCosts 19 = .ok (.iaload, 1) := by decide +kernel
theorem dX0_barWhatCosts_20 : decode cX0_barWhatCosts 20 = .ok (.i2l, 1) := by decide +kernel
theorem dX0_barWhatCosts_21 : decode cX0_barWhatCosts 21 = .ok (.lmul, 1) := by decide +kernel
theorem dX0_barWhatCosts_22 : decode cX0_barWhatCosts 22 = .ok (.aload_n 0, 1) := by decide +kernel
theorem dX0_barWhatCosts_23 : decode cX0_barWhatCosts 23 = .ok (.iload_n 1, 1) := by decide +kernel
theorem dX0_barWhatCosts_24 : decode cX0_barWhatCosts 24 = .ok (.invokevirtual 51, 3) := by decide +kernel
theorem dX0_barWhatCosts_27 : decode cX0_barWhatCosts 27 = .ok (.lcmp, 1) := by decide +kernel
theorem dX0_barWhatCosts_28 : decode cX0_barWhatCosts 28 = .ok (.ifCond .le 15, 3) := by decide +kernel
theorem dX0_barWhatCosts_31 : decode cX0_barWhatCosts 31 = .ok (.aload_n 0, 1) := by decide +kernel
theorem dX0_barWhatCosts_32 : decode cX0_barWhatCosts 32 = .ok (.dup, 1) := by decide +kernel
theorem dX0_barWhatCosts_33 : decode cX0_barWhatCosts 33 = .ok (.getfield 65, 3) := by decide +kernel
theorem dX0_barWhatCosts_36 : decode cX0_barWhatCosts 36 = .ok (.iconst 1, 1) := by decide +kernel
theorem dX0_barWhatCosts_37 : decode cX0_barWhatCosts 37 = .ok (.iload_n 1, 1) := by decide +kernel
theorem dX0_barWhatCosts_38 : decode cX0_barWhatCosts 38 = .ok (.ishl, 1) := by decide +kernel
theorem dX0_barWhatCosts_39 : decode cX0_barWhatCosts 39 = .ok (.ior, 1) := by decide +kernel
theorem dX0_barWhatCosts_40 : decode cX0_barWhatCosts 40 = .ok (.putfield 65, 3) := by decide +kernel
theorem dX0_barWhatCosts_43 : decode cX0_barWhatCosts 43 = .ok (.iinc 1 1, 3) := by decide +kernel
theorem dX0_barWhatCosts_46 : decode cX0_barWhatCosts 46 = .ok (.goto (-44), 3) := by decide +kernel
theorem dX0_barWhatCosts_49 : decode cX0_barWhatCosts 49 = .ok (.return_, 1) := by decide +kernel
end
section
theorem dX5_init_0 : decode cX5_init 0 = .ok (.aload_n 0, 1) := by decide +kernel
theorem dX5_init_1 : decode cX5_init 1 = .ok (.invokespecial 3, 3) := by decide +kernel
theorem dX5_init_4 : decode cX5_init 4 = .ok (.aload_n 0, 1) := by decide +kernel
theorem dX5_init_5 : decode cX5_init 5 = .ok (.sipush 3300, 3) := by decide +kernel
theorem dX5_init_8 : decode cX5_init 8 = .ok (.newarray .int, 2) := by decide +kernel
theorem dX5_init_10 : decode cX5_init 10 = .ok (.putfield 11, 3) := by decide +kernel
theorem dX5_init_13 : decode cX5_init 13 = .ok (.aload_n 0, 1) := by decide +kernel
theorem dX5_init_14 : decode cX5_init 14 = .ok (.bipush 11, 2) := by decide +kernel
theorem dX5_init_16 : decode cX5_init 16 = .ok (.newarray .int, 2) := by decide +kernel
theorem dX5_init_18 : decode cX5_init 18 = .ok (.putfield 15, 3) := by decide +kernel
theorem dX5_init_21 : decode cX5_init 21 = .ok (.aload_n 0, 1) := by decide +kernel
theorem dX5_init_22 : decode cX5_init 22 = .ok (.bipush 11, 2) := by decide +kernel
theorem dX5_init_24 : decode cX5_init 24 = .ok (.newarray .int, 2) := by decide +kernel
theorem dX5_init_26 : decode cX5_init 26 = .ok (.putfield 18, 3) := by decide +kernel
theorem dX5_init_29 : decode cX5_init 29 = .ok (.return_, 1) := by decide +kernel
theorem dX5_rankOfWays_0 : decode cX5_rankOfWays 0 = .ok (.aload_n 0, 1) := by decide +kernel
theorem dX5_rankOfWays_1 : decode cX5_rankOfWays 1 = .ok (.aload_n 1, 1) := by decide +kernel
theorem dX5_rankOfWays_2 : decode cX5_rankOfWays 2 = .ok (.invokevirtual 21, 3) := by decide +kernel
theorem dX5_rankOfWays_5 : decode cX5_rankOfWays 5 = .ok (.aload_n 0, 1) := by decide +kernel
theorem dX5_rankOfWays_6 : decode cX5_rankOfWays 6 = .ok (.getfield 25, 3) := by decide +kernel
theorem dX5_rankOfWays_9 : decode cX5_rankOfWays 9 = .ok (.ireturn, 1) := by decide +kernel
theorem dX5_linesFromWays_0 : decode cX5_linesFromWays 0 = .ok (.aload_n 0, 1) := by decide +kernel
theorem dX5_linesFromWays_1 : decode cX5_linesFromWays 1 = .ok (.aload_n 1, 1) := by decide +kernel
theorem dX5_linesFromWays_2 : decode cX5_linesFromWays 2 = .ok (.invokevirtual 21, 3) := by decide +kernel
theorem dX5_linesFromWays_5 : decode cX5_linesFromWays 5 = .ok (.iconst 0, 1) := by decide +kernel
theorem dX5_linesFromWays_6 : decode cX5_linesFromWays 6 = .ok (.istore_n 2, 1) := by decide +kernel
theorem dX5_linesFromWays_7 : decode cX5_linesFromWays 7 = .ok (.iconst 0, 1) := by decide +kernel
theorem dX5_linesFromWays_8 : decode cX5_linesFromWays 8 = .ok (.istore_n 3, 1) := by decide +kernel
theorem dX5_linesFromWays_9 : decode cX5_linesFromWays 9 = .ok (.iload_n 3, 1) := by decide +kernel
theorem dX5_linesFromWays_10 : decode cX5_linesFromWays 10 = .ok (.aload_n 0, 1) := by decide +kernel
theorem dX5_linesFromWays_11 : decode cX5_linesFromWays 11 = .ok (.getfield 29, 3) := by decide +kernel
theorem dX5_linesFromWays_14 : decode cX5_linesFromWays 14 = .ok (.if_icmp .ge 28, 3) := by decide +kernel
theorem dX5_linesFromWays_17 : decode cX5_linesFromWays 17 = .ok (.aload_n 0, 1) := by decide +kernel
theorem dX5_linesFromWays_18 : decode cX5_linesFromWays 18 = .ok (.iconst 0, 1) := by decide +kernel
theorem dX5_linesFromWays_19 : decode cX5_linesFromWays 19 = .ok (.bipush 20, 2) := by decide +kernel
theorem dX5_linesFromWays_21 : decode cX5_linesFromWays 21 = .ok (.iload_n 3, 1) := by decide +kernel
theorem dX5_linesFromWays_22 : decode cX5_linesFromWays 22 = .ok (.iadd, 1) := by decide +kernel
theorem dX5_linesFromWays_23 : decode cX5_linesFromWays 23 = .ok (.invokevirtual 32, 3) := by decide +kernel
theorem dX5_linesFromWays_26 : decode cX5_linesFromWays 26 = .ok (.iconst (-1), 1) := by decide +kernel
theorem dX5_linesFromWays_27 : decode cX5_linesFromWays 27 = .ok (.if_icmp .ne 9, 3) := by decide +kernel
theorem dX5_linesFromWays_30 : decode cX5_linesFromWays 30 = .ok (.iload_n 2, 1) := by decide +kernel
theorem dX5_linesFromWays_31 : decode cX5_linesFromWays 31 = .ok (.iconst 1, 1) := by decide +kernel
theorem dX5_linesFromWays_32 : decode cX5_linesFromWays 32 = .ok (.iload_n 3, 1) := by decide +kernel
theorem dX5_linesFromWays_33 : decode cX5_linesFromWays 33 = .ok (.ishl, 1) := by decide +kernel
theorem dX5_linesFromWays_34 : decode cX5_linesFromWays 34 = .ok (.ior, 1) := by decide +kernel
theorem dX5_linesFromWays_35 : decode cX5_linesFromWays 35 = .ok (.istore_n 2, 1) := by decide +kernel
theorem dX5_linesFromWays_36 : decode cX5_linesFromWays 36 = .ok (.iinc 3 1, 3) := by decide +kernel
theorem dX5_linesFromWays_39 : decode cX5_linesFromWays 39 = .ok (.goto (-30), 3) := by decide +kernel
theorem dX5_linesFromWays_42 : decode cX5_linesFromWays 42 = .ok (.iload_n 2, 1) := by decide +kernel
theorem dX5_linesFromWays_43 : decode cX5_linesFromWays 43 = .ok (.ireturn, 1) := by decide +kernel
theorem dX5_fewestOffers_0 : decode cX5_fewestOffers 0 = .ok (.aload_n 0, 1) := by decide +kernel
theorem dX5_fewestOffers_1 : decode cX5_fewestOffers 1 = .ok (.aload_n 1, 1) := by decide +kernel
theorem dX5_fewestOffers_2 : decode cX5_fewestOffers 2 = .ok (.invokevirtual 21, 3) := by decide +kernel
theorem dX5_fewestOffers_5 : decode cX5_fewestOffers 5 = .ok (.aload_n 0, 1) := by decide +kernel
theorem dX5_fewestOffers_6 : decode cX5_fewestOffers 6 = .ok (.iload_n 2, 1) := by decide +kernel
theorem dX5_fewestOffers_7 : decode cX5_fewestOffers 7 = .ok (.putfield 36, 3) := by decide +kernel
theorem dX5_fewestOffers_10 : decode cX5_fewestOffers 10 = .ok (.iconst (-1), 1) := by decide +kernel
theorem dX5_fewestOffers_11 : decode cX5_fewestOffers 11 = .ok (.istore_n 3, 1) := by decide +kernel
theorem dX5_fewestOffers_12 : decode cX5_fewestOffers 12 = .ok (.bipush 11, 2) := by decide +kernel
theorem dX5_fewestOffers_14 : decode cX5_fewestOffers 14 = .ok (.istore 4, 2) := by decide +kernel
theorem dX5_fewestOffers_16 : decode cX5_fewestOffers 16 = .ok (.aload_n 0, 1) := by decide +kernel
theorem dX5_fewestOffers_17 : decode cX5_fewestOffers 17 = .ok (.aload_n 1, 1) := by decide +kernel
theorem dX5_fewestOffers_18 : decode cX5_fewestOffers 18 = .ok (.getfield 39, 3) := by decide +kernel
theorem dX5_fewestOffers_21 : decode cX5_fewestOffers 21 = .ok (.invokevirtual 44, 3) := by decide +kernel
theorem dX5_fewestOffers_24 : decode cX5_fewestOffers 24 = .ok (.ifCond .eq 12, 3) := by decide +kernel
theorem dX5_fewestOffers_27 : decode cX5_fewestOffers 27 = .ok (.iconst 1, 1) := by decide +kernel
theorem dX5_fewestOffers_28 : decode cX5_fewestOffers 28 = .ok (.aload_n 1, 1) := by decide +kernel
theorem dX5_fewestOffers_29 : decode cX5_fewestOffers 29 = .ok (.getfield 39, 3) := by decide +kernel
theorem dX5_fewestOffers_32 : decode cX5_fewestOffers 32 = .ok (.ishl, 1) := by decide +kernel
theorem dX5_fewestOffers_33 : decode cX5_fewestOffers 33 = .ok (.goto 4, 3) := by decide +kernel
theorem dX5_fewestOffers_36 : decode cX5_fewestOffers 36 = .ok (.iconst 0, 1) := by decide +kernel
theorem dX5_fewestOffers_37 : decode cX5_fewestOffers 37 = .ok (.istore 5, 2) := by decide +kernel
theorem dX5_fewestOffers_39 : decode cX5_fewestOffers 39 = .ok (.iconst 0, 1) := by decide +kernel
theorem dX5_fewestOffers_40 : decode cX5_fewestOffers 40 = .ok (.istore 6, 2) := by decide +kernel
theorem dX5_fewestOffers_42 : decode cX5_fewestOffers 42 = .ok (.iload 6, 2) := by decide +kernel
theorem dX5_fewestOffers_44 : decode cX5_fewestOffers 44 = .ok (.iload 5, 2) := by decide +kernel
theorem dX5_fewestOffers_46 : decode cX5_fewestOffers 46 = .ok (.if_icmp .ge 48, 3) := by decide +kernel
theorem dX5_fewestOffers_49 : decode cX5_fewestOffers 49 = .ok (.iload 6, 2) := by decide +kernel
theorem dX5_fewestOffers_51 : decode cX5_fewestOffers 51 = .ok (.invokestatic 48, 3) := by decide +kernel
theorem dX5_fewestOffers_54 : decode cX5_fewestOffers 54 = .ok (.istore 7, 2) := by decide +kernel
theorem dX5_fewestOffers_56 : decode cX5_fewestOffers 56 = .ok (.iload 7, 2) := by decide +kernel
theorem dX5_fewestOffers_58 : decode cX5_fewestOffers 58 = .ok (.iload 4, 2) := by decide +kernel
theorem dX5_fewestOffers_60 : decode cX5_fewestOffers 60 = .ok (.if_icmp .ge 28, 3) := by decide +kernel
theorem dX5_fewestOffers_63 : decode cX5_fewestOffers 63 = .ok (.aload_n 0, 1) := by decide +kernel
theorem dX5_fewestOffers_64 : decode cX5_fewestOffers 64 = .ok (.iload 6, 2) := by decide +kernel
theorem dX5_fewestOffers_66 : decode cX5_fewestOffers 66 = .ok (.invokevirtual 54, 3) := by decide +kernel
theorem dX5_fewestOffers_69 : decode cX5_fewestOffers 69 = .ok (.ifCond .eq 19, 3) := by decide +kernel
theorem dX5_fewestOffers_72 : decode cX5_fewestOffers 72 = .ok (.aload_n 0, 1) := by decide +kernel
theorem dX5_fewestOffers_73 : decode cX5_fewestOffers 73 = .ok (.iload 7, 2) := by decide +kernel
theorem dX5_fewestOffers_75 : decode cX5_fewestOffers 75 = .ok (.invokevirtual 57, 3) := by decide +kernel
theorem dX5_fewestOffers_78 : decode cX5_fewestOffers 78 = .ok (.ifCond .eq 10, 3) := by decide +kernel
theorem dX5_fewestOffers_81 : decode cX5_fewestOffers 81 = .ok (.iload 6, 2) := by decide +kernel
theorem dX5_fewestOffers_83 : decode cX5_fewestOffers 83 = .ok (.istore_n 3, 1) := by decide +kernel
theorem dX5_fewestOffers_84 : decode cX5_fewestOffers 84 = .ok (.iload 7, 2) := by decide +kernel
theorem dX5_fewestOffers_86 : decode cX5_fewestOffers 86 = .ok (.istore 4, 2) := by decide +kernel
theorem dX5_fewestOffers_88 : decode cX5_fewestOffers 88 = .ok (.iinc 6 1, 3) := by decide +kernel
theorem dX5_fewestOffers_91 : decode cX5_fewestOffers 91 = .ok (.goto (-49), 3) := by decide +kernel
theorem dX5_fewestOffers_94 : decode cX5_fewestOffers 94 = .ok (.iload_n 3, 1) := by decide +kernel
theorem dX5_fewestOffers_95 : decode cX5_fewestOffers 95 = .ok (.ireturn, 1) := by decide +kernel
theorem dX5_startOf_0 : decode cX5_startOf 0 = .ok (.iload_n 0, 1) := by decide +kernel
theorem dX5_startOf_1 : decode cX5_startOf 1 = .ok (.bipush 30, 2) := by decide +kernel
theorem dX5_startOf_3 : decode cX5_startOf 3 = .ok (.imul, 1) := by decide +kernel
theorem dX5_startOf_4 : decode cX5_startOf 4 = .ok (.iload_n 1, 1) := by decide +kernel
theorem dX5_startOf_5 : decode cX5_startOf 5 = .ok (.iadd, 1) := by decide +kernel
theorem dX5_startOf_6 : decode cX5_startOf 6 = .ok (.bipush 10, 2) := by decide +kernel
theorem dX5_startOf_8 : decode cX5_startOf 8 = .ok (.imul, 1) := by decide +kernel
theorem dX5_startOf_9 : decode cX5_startOf 9 = .ok (.ireturn, 1) := by decide +kernel
theorem dX5_takeWays_0 : decode cX5_takeWays 0 = .ok (.aload_n 0, 1) := by decide +kernel
theorem dX5_takeWays_1 : decode cX5_takeWays 1 = .ok (.aload_n 1, 1) := by decide +kernel
theorem dX5_takeWays_2 : decode cX5_takeWays 2 = .ok (.invokevirtual 60, 3) := by decide +kernel
theorem dX5_takeWays_5 : decode cX5_takeWays 5 = .ok (.aload_n 0, 1) := by decide +kernel
theorem dX5_takeWays_6 : decode cX5_takeWays 6 = .ok (.iconst 0, 1) := by decide +kernel
theorem dX5_takeWays_7 : decode cX5_takeWays 7 = .ok (.putfield 25, 3) := by decide +kernel
theorem dX5_takeWays_10 : decode cX5_takeWays 10 = .ok (.aload_n 0, 1) := by decide +kernel
theorem dX5_takeWays_11 : decode cX5_takeWays 11 = .ok (.getfield 18, 3) := by decide +kernel
theorem dX5_takeWays_14 : decode cX5_takeWays 14 = .ok (.iconst 0, 1) := by decide +kernel
theorem dX5_takeWays_15 : decode cX5_takeWays 15 = .ok (.iconst 1, 1) := by decide +kernel
theorem dX5_takeWays_16 : decode cX5_takeWays 16 = .ok (.iastore, 1) := by decide +kernel
theorem dX5_takeWays_17 : decode cX5_takeWays 17 = .ok (.iconst 0, 1) := by decide +kernel
theorem dX5_takeWays_18 : decode cX5_takeWays 18 = .ok (.istore_n 2, 1) := by decide +kernel
theorem dX5_takeWays_19 : decode cX5_takeWays 19 = .ok (.iload_n 2, 1) := by decide +kernel
theorem dX5_takeWays_20 : decode cX5_takeWays 20 = .ok (.aload_n 1, 1) := by decide +kernel
theorem dX5_takeWays_21 : decode cX5_takeWays 21 = .ok (.getfield 63, 3) := by decide +kernel
theorem dX5_takeWays_24 : decode cX5_takeWays 24 = .ok (.if_icmp .ge 27, 3) := by decide +kernel
theorem dX5_takeWays_27 : decode cX5_takeWays 27 = .ok (.aload_n 0, 1) := by decide +kernel
theorem dX5_takeWays_28 : decode cX5_takeWays 28 = .ok (.iconst 0, 1) := by decide +kernel
theorem dX5_takeWays_29 : decode cX5_takeWays 29 = .ok (.iload_n 2, 1) := by decide +kernel
theorem dX5_takeWays_30 : decode cX5_takeWays 30 = .ok (.invokevirtual 32, 3) := by decide +kernel
theorem dX5_takeWays_33 : decode cX5_takeWays 33 = .ok (.istore_n 3, 1) := by decide +kernel
theorem dX5_takeWays_34 : decode cX5_takeWays 34 = .ok (.iload_n 3, 1) := by decide +kernel
theorem dX5_takeWays_35 : decode cX5_takeWays 35 = .ok (.iconst (-1), 1) := by decide +kernel
theorem dX5_takeWays_36 : decode cX5_takeWays 36 = .ok (.if_icmp .eq 9, 3) := by decide +kernel
theorem dX5_takeWays_39 : decode cX5_takeWays 39 = .ok (.aload_n 0, 1) := by decide +kernel
theorem dX5_takeWays_40 : decode cX5_takeWays 40 = .ok (.iload_n 2, 1) := by decide +kernel
theorem dX5_takeWays_41 : decode cX5_takeWays 41 = .ok (.iload_n 3, 1) := by decide +kernel
theorem dX5_takeWays_42 : decode cX5_takeWays 42 = .ok (.invokevirtual 66, 3) := by decide +kernel
theorem dX5_takeWays_45 : decode cX5_takeWays 45 = .ok (.iinc 2 1, 3) := by decide +kernel
theorem dX5_takeWays_48 : decode cX5_takeWays 48 = .ok (.goto (-29), 3) := by decide +kernel
theorem dX5_takeWays_51 : decode cX5_takeWays 51 = .ok (.return_, 1) := by decide +kernel
theorem dX5_load_0 : decode cX5_load 0 = .ok (.aload_n 0, 1) := by decide +kernel
theorem dX5_load_1 : decode cX5_load 1 = .ok (.aload_n 1, 1) := by decide +kernel
theorem dX5_load_2 : decode cX5_load 2 = .ok (.getfield 70, 3) := by decide +kernel
theorem dX5_load_5 : decode cX5_load 5 = .ok (.putfield 29, 3) := by decide +kernel
theorem dX5_load_8 : decode cX5_load 8 = .ok (.iconst 0, 1) := by decide +kernel
theorem dX5_load_9 : decode cX5_load 9 = .ok (.istore_n 2, 1) := by decide +kernel
theorem dX5_load_10 : decode cX5_load 10 = .ok (.iload_n 2, 1) := by decide +kernel
theorem dX5_load_11 : decode cX5_load 11 = .ok (.bipush 10, 2) := by decide +kernel
theorem dX5_load_13 : decode cX5_load 13 = .ok (.if_icmp .ge 50, 3) := by decide +kernel
theorem dX5_load_16 : decode cX5_load 16 = .ok (.iload_n 2, 1) := by decide +kernel
theorem dX5_load_17 : decode cX5_load 17 = .ok (.aload_n 1, 1) := by decide +kernel
theorem dX5_load_18 : decode cX5_load 18 = .ok (.getfield 63, 3) := by decide +kernel
theorem dX5_load_21 : decode cX5_load 21 = .ok (.if_icmp .ge 15, 3) := by decide +kernel
theorem dX5_load_24 : decode cX5_load 24 = .ok (.aload_n 1, 1) := by decide +kernel
theorem dX5_load_25 : decode cX5_load 25 = .ok (.iload_n 2, 1) := by decide +kernel
theorem dX5_load_26 : decode cX5_load 26 = .ok (.invokevirtual 71, 3) := by decide +kernel
theorem dX5_load_29 : decode cX5_load 29 = .ok (.ifCond .eq 7, 3) := by decide +kernel
theorem dX5_load_32 : decode cX5_load 32 = .ok (.iconst 1, 1) := by decide +kernel
theorem dX5_load_33 : decode cX5_load 33 = .ok (.goto 4, 3) := by decide +kernel
theorem dX5_load_36 : decode cX5_load 36 = .ok (.iconst 0, 1) := by decide +kernel
theorem dX5_load_37 : decode cX5_load 37 = .ok (.istore_n 3, 1) := by decide +kernel
theorem dX5_load_38 : decode cX5_load 38 = .ok (.aload_n 0, 1) := by decide +kernel
theorem dX5_load_39 : decode cX5_load 39 = .ok (.iload_n 2, 1) := by decide +kernel
theorem dX5_load_40 : decode cX5_load 40 = .ok (.iload_n 3, 1) := by decide +kernel
theorem dX5_load_41 : decode cX5_load 41 = .ok (.ifCond .eq 12, 3) := by decide +kernel
theorem dX5_load_44 : decode cX5_load 44 = .ok (.aload_n 1, 1) := by decide +kernel
theorem dX5_load_45 : decode cX5_load 45 = .ok (.getfield 74, 3) := by decide +kernel
theorem dX5_load_48 : decode cX5_load 48 = .ok (.iload_n 2, 1) := by decide +kernel
theorem dX5_load_49 : decode cX5_load 49 = .ok (.iaload, 1) := by decide +kernel
theorem dX5_load_50 : decode cX5_load 50 = .ok (.goto 4, 3) := by decide +kernel
theorem dX5_load_53 : decode cX5_load 53 = .ok (.iconst 0, 1) := by decide +kernel
theorem dX5_load_54 : decode cX5_load 54 = .ok (.invokevirtual 77, 3) := by decide +kernel
theorem dX5_load_57 : decode cX5_load 57 = .ok (.iinc 2 1, 3) := by decide +kernel
theorem dX5_load_60 : decode cX5_load 60 = .ok (.goto (-50), 3) := by decide +kernel
theorem dX5_load_63 : decode cX5_load 63 = .ok (.iconst 0, 1) := by decide +kernel
theorem dX5_load_64 : decode cX5_load 64 = .ok (.istore_n 2, 1) := by decide +kernel
theorem dX5_load_65 : decode cX5_load 65 = .ok (.iload_n 2, 1) := by decide +kernel
theorem dX5_load_66 : decode cX5_load 66 = .ok (.bipush 10, 2) := by decide +kernel
theorem dX5_load_68 : decode cX5_load 68 = .ok (.if_icmp .ge 35, 3) := by decide +kernel
theorem dX5_load_71 : decode cX5_load 71 = .ok (.aload_n 0, 1) := by decide +kernel
theorem dX5_load_72 : decode cX5_load 72 = .ok (.bipush 10, 2) := by decide +kernel
theorem dX5_load_74 : decode cX5_load 74 = .ok (.iload_n 2, 1) := by decide +kernel
theorem dX5_load_75 : decode cX5_load 75 = .ok (.iadd, 1) := by decide +kernel
theorem dX5_load_76 : decode cX5_load 76 = .ok (.iload_n 2, 1) := by decide +kernel
theorem dX5_load_77 : decode cX5_load 77 = .ok (.aload_n 1, 1) := by decide +kernel
theorem dX5_load_78 : decode cX5_load 78 = .ok (.getfield 39, 3) := by decide +kernel
theorem dX5_load_81 : decode cX5_load 81 = .ok (.if_icmp .ge 12, 3) := by decide +kernel
theorem dX5_load_84 : decode cX5_load 84 = .ok (.aload_n 1, 1) := by decide +kernel
theorem dX5_load_85 : decode cX5_load 85 = .ok (.getfield 80, 3) := by decide +kernel
theorem dX5_load_88 : decode cX5_load 88 = .ok (.iload_n 2, 1) := by decide +kernel
theorem dX5_load_89 : decode cX5_load 89 = .ok (.iaload, 1) := by decide +kernel
theorem dX5_load_90 : decode cX5_load 90 = .ok (.goto 4, 3) := by decide +kernel
theorem dX5_load_93 : decode cX5_load 93 = .ok (.iconst 0, 1) := by decide +kernel
theorem dX5_load_94 : decode cX5_load 94 = .ok (.invokevirtual 77, 3) := by decide +kernel
theorem dX5_load_97 : decode cX5_load 97 = .ok (.iinc 2 1, 3) := by decide +kernel
theorem dX5_load_100 : decode cX5_load 100 = .ok (.goto (-35), 3) := by decide +kernel
theorem dX5_load_103 : decode cX5_load 103 = .ok (.iconst 0, 1) := by decide +kernel
theorem dX5_load_104 : decode cX5_load 104 = .ok (.istore_n 2, 1) := by decide +kernel
theorem dX5_load_105 : decode cX5_load 105 = .ok (.iload_n 2, 1) := by decide +kernel
theorem dX5_load_106 : decode cX5_load 106 = .ok (.bipush 10, 2) := by decide +kernel
theorem dX5_load_108 : decode cX5_load 108 = .ok (.if_icmp .ge 20, 3) := by decide +kernel
theorem dX5_load_111 : decode cX5_load 111 = .ok (.aload_n 0, 1) := by decide +kernel
theorem dX5_load_112 : decode cX5_load 112 = .ok (.bipush 20, 2) := by decide +kernel
theorem dX5_load_114 : decode cX5_load 114 = .ok (.iload_n 2, 1) := by decide +kernel
theorem dX5_load_115 : decode cX5_load 115 = .ok (.iadd, 1) := by decide +kernel
theorem dX5_load_116 : decode cX5_load 116 = .ok (.iconst 1, 1) := by decide +kernel
theorem dX5_load_117 : decode cX5_load 117 = .ok (.iload_n 2, 1) := by decide +kernel
theorem dX5_load_118 : decode cX5_load 118 = .ok (.ishl, 1) := by decide +kernel
theorem dX5_load_119 : decode cX5_load 119 = .ok (.invokevirtual 77, 3) := by decide +kernel
theorem dX5_load_122 : decode cX5_load 122 = .ok (.iinc 2 1, 3) := by decide +kernel
theorem dX5_load_125 : decode cX5_load 125 = .ok (.goto (-20), 3) := by decide +kernel
theorem dX5_load_128 : decode cX5_load 128 = .ok (.return_, 1) := by decide +kernel
theorem dX5_loadRow_0 : decode cX5_loadRow 0 = .ok (.iconst 0, 1) := by decide +kernel
theorem dX5_loadRow_1 : decode cX5_loadRow 1 = .ok (.iload_n 1, 1) := by decide +kernel
theorem dX5_loadRow_2 : decode cX5_loadRow 2 = .ok (.invokestatic 83, 3) := by decide +kernel
theorem dX5_loadRow_5 : decode cX5_loadRow 5 = .ok (.istore_n 3, 1) := by decide +kernel
theorem dX5_loadRow_6 : decode cX5_loadRow 6 = .ok (.iconst 0, 1) := by decide +kernel
theorem dX5_loadRow_7 : decode cX5_loadRow 7 = .ok (.istore 4, 2) := by decide +kernel
theorem dX5_loadRow_9 : decode cX5_loadRow 9 = .ok (.iload 4, 2) := by decide +kernel
theorem dX5_loadRow_11 : decode cX5_loadRow 11 = .ok (.aload_n 0, 1) := by decide +kernel
theorem dX5_loadRow_12 : decode cX5_loadRow 12 = .ok (.getfield 29, 3) := by decide +kernel
theorem dX5_loadRow_15 : decode cX5_loadRow 15 = .ok (.if_icmp .ge 24, 3) := by decide +kernel
theorem dX5_loadRow_18 : decode cX5_loadRow 18 = .ok (.aload_n 0, 1) := by decide +kernel
theorem dX5_loadRow_19 : decode cX5_loadRow 19 = .ok (.getfield 11, 3) := by decide +kernel
theorem dX5_loadRow_22 : decode cX5_loadRow 22 = .ok (.iload_n 3, 1) := by decide +kernel
theorem dX5_loadRow_23 : decode cX5_loadRow 23 = .ok (.iload 4, 2) := by decide +kernel
theorem dX5_loadRow_25 : decode cX5_loadRow 25 = .ok (.iadd, 1) := by decide +kernel
theorem dX5_loadRow_26 : decode cX5_loadRow 26 = .ok (.iload_n 2, 1) := by decide +kernel
theorem dX5_loadRow_27 : decode cX5_loadRow 27 = .ok (.iload 4, 2) := by decide +kernel
theorem dX5_loadRow_29 : decode cX5_loadRow 29 = .ok (.invokestatic 86, 3) := by decide +kernel
theorem dX5_loadRow_32 : decode cX5_loadRow 32 = .ok (.iastore, 1) := by decide +kernel
theorem dX5_loadRow_33 : decode cX5_loadRow 33 = .ok (.iinc 4 1, 3) := by decide +kernel
theorem dX5_loadRow_36 : decode cX5_loadRow 36 = .ok (.goto (-27), 3) := by decide +kernel
theorem dX5_loadRow_39 : decode cX5_loadRow 39 = .ok (.return_, 1) := by decide +kernel
theorem dX5_firstFilledColumn_0 : decode cX5_firstFilledColumn 0 = .ok (.iload_n 1, 1) := by decide +kernel
theorem dX5_firstFilledColumn_1 : decode cX5_firstFilledColumn 1 = .ok (.iload_n 2, 1) := by decide +kernel
theorem dX5_firstFilledColumn_2 : decode cX5_firstFilledColumn 2 = .ok (.invokestatic 83, 3) := by decide +kernel
theorem dX5_firstFilledColumn_5 : decode cX5_firstFilledColumn 5 = .ok (.istore_n 3, 1) := by decide +kernel
theorem dX5_firstFilledColumn_6 : decode cX5_firstFilledColumn 6 = .ok (.iconst 0, 1) := by decide +kernel
theorem dX5_firstFilledColumn_7 : decode cX5_firstFilledColumn 7 = .ok (.istore 4, 2) := by decide +kernel
theorem dX5_firstFilledColumn_9 : decode cX5_firstFilledColumn 9 = .ok (.iload 4, 2) := by decide +kernel
theorem dX5_firstFilledColumn_11 : decode cX5_firstFilledColumn 11 = .ok (.aload_n 0, 1) := by decide +kernel
theorem dX5_firstFilledColumn_12 : decode cX5_firstFilledColumn 12 = .ok (.getfield 29, 3) := by decide +kernel
theorem dX5_firstFilledColumn_15 : decode cX5_firstFilledColumn 15 = .ok (.if_icmp .ge 24, 3) := by decide +kernel
theorem dX5_firstFilledColumn_18 : decode cX5_firstFilledColumn 18 = .ok (.aload_n 0, 1) := by decide +kernel
theorem dX5_firstFilledColumn_19 : decode cX5_firstFilledColumn 19 = .ok (.getfield 11, 3) := by decide +kernel
theorem dX5_firstFilledColumn_22 : decode cX5_firstFilledColumn 22 = .ok (.iload_n 3, 1) := by decide +kernel
theorem dX5_firstFilledColumn_23 : decode cX5_firstFilledColumn 23 = .ok (.iload 4, 2) := by decide +kernel
theorem dX5_firstFilledColumn_25 : decode cX5_firstFilledColumn 25 = .ok (.iadd, 1) := by decide +kernel
theorem dX5_firstFilledColumn_26 : decode cX5_firstFilledColumn 26 = .ok (.iaload, 1) := by decide +kernel
theorem dX5_firstFilledColumn_27 : decode cX5_firstFilledColumn 27 = .ok (.ifCond .eq 6, 3) := by decide +kernel
theorem dX5_firstFilledColumn_30 : decode cX5_firstFilledColumn 30 = .ok (.iload 4, 2) := by decide +kernel
theorem dX5_firstFilledColumn_32 : decode cX5_firstFilledColumn 32 = .ok (.ireturn, 1) := by decide +kernel
theorem dX5_firstFilledColumn_33 : decode cX5_firstFilledColumn 33 = .ok (.iinc 4 1, 3) := by decide +kernel
theorem dX5_firstFilledColumn_36 : decode cX5_firstFilledColumn 36 = .ok (.goto (-27), 3) := by decide +kernel
theorem dX5_firstFilledColumn_39 : decode cX5_firstFilledColumn 39 = .ok (.iconst (-1), 1) := by decide +kernel
theorem dX5_firstFilledColumn_40 : decode cX5_firstFilledColumn 40 = .ok (.ireturn, 1) := by decide +kernel
theorem dX5_takeWay_0 : decode cX5_takeWay 0 = .ok (.iconst 0, 1) := by decide +kernel
theorem dX5_takeWay_1 : decode cX5_takeWay 1 = .ok (.iload_n 1, 1) := by decide +kernel
theorem dX5_takeWay_2 : decode cX5_takeWay 2 = .ok (.invokestatic 83, 3) := by decide +kernel
theorem dX5_takeWay_5 : decode cX5_takeWay 5 = .ok (.istore_n 3, 1) := by decide +kernel
theorem dX5_takeWay_6 : decode cX5_takeWay 6 = .ok (.iload_n 1, 1) := by decide +kernel
theorem dX5_takeWay_7 : decode cX5_takeWay 7 = .ok (.iconst 1, 1) := by decide +kernel
theorem dX5_takeWay_8 : decode cX5_takeWay 8 = .ok (.iadd, 1) := by decide +kernel
theorem dX5_takeWay_9 : decode cX5_takeWay 9 = .ok (.istore 4, 2) := by decide +kernel
theorem dX5_takeWay_11 : decode cX5_takeWay 11 = .ok (.iload 4, 2) := by decide +kernel
theorem dX5_takeWay_13 : decode cX5_takeWay 13 = .ok (.bipush 20, 2) := by decide +kernel
theorem dX5_takeWay_15 : decode cX5_takeWay 15 = .ok (.aload_n 0, 1) := by decide +kernel
theorem dX5_takeWay_16 : decode cX5_takeWay 16 = .ok (.getfield 29, 3) := by decide +kernel
theorem dX5_takeWay_19 : decode cX5_takeWay 19 = .ok (.iadd, 1) := by decide +kernel
theorem dX5_takeWay_20 : decode cX5_takeWay 20 = .ok (.if_icmp .ge 33, 3) := by decide +kernel
theorem dX5_takeWay_23 : decode cX5_takeWay 23 = .ok (.aload_n 0, 1) := by decide +kernel
theorem dX5_takeWay_24 : decode cX5_takeWay 24 = .ok (.iconst 0, 1) := by decide +kernel
theorem dX5_takeWay_25 : decode cX5_takeWay 25 = .ok (.iload 4, 2) := by decide +kernel
theorem dX5_takeWay_27 : decode cX5_takeWay 27 = .ok (.invokestatic 83, 3) := by decide +kernel
theorem dX5_takeWay_30 : decode cX5_takeWay 30 = .ok (.iconst 0, 1) := by decide +kernel
theorem dX5_takeWay_31 : decode cX5_takeWay 31 = .ok (.iload 4, 2) := by decide +kernel
theorem dX5_takeWay_33 : decode cX5_takeWay 33 = .ok (.invokestatic 83, 3) := by decide +kernel
theorem dX5_takeWay_36 : decode cX5_takeWay 36 = .ok (.iload_n 3, 1) := by decide +kernel
theorem dX5_takeWay_37 : decode cX5_takeWay 37 = .ok (.iload_n 2, 1) := by decide +kernel
theorem dX5_takeWay_38 : decode cX5_takeWay 38 = .ok (.aload_n 0, 1) := by decide +kernel
theorem dX5_takeWay_39 : decode cX5_takeWay 39 = .ok (.getfield 18, 3) := by decide +kernel
theorem dX5_takeWay_42 : decode cX5_takeWay 42 = .ok (.iconst 0, 1) := by decide +kernel
theorem dX5_takeWay_43 : decode cX5_takeWay 43 = .ok (.iaload, 1) := by decide +kernel
theorem dX5_takeWay_44 : decode cX5_takeWay 44 = .ok (.invokevirtual 89, 3) := by decide +kernel
theorem dX5_takeWay_47 : decode cX5_takeWay 47 = .ok (.iinc 4 1, 3) := by decide +kernel
theorem dX5_takeWay_50 : decode cX5_takeWay 50 = .ok (.goto (-39), 3) := by decide +kernel
theorem dX5_takeWay_53 : decode cX5_takeWay 53 = .ok (.aload_n 0, 1) := by decide +kernel
theorem dX5_takeWay_54 : decode cX5_takeWay 54 = .ok (.getfield 18, 3) := by decide +kernel
theorem dX5_takeWay_57 : decode cX5_takeWay 57 = .ok (.iconst 0, 1) := by decide +kernel
theorem dX5_takeWay_58 : decode cX5_takeWay 58 = .ok (.aload_n 0, 1) := by decide +kernel
theorem dX5_takeWay_59 : decode cX5_takeWay 59 = .ok (.getfield 11, 3) := by decide +kernel
theorem dX5_takeWay_62 : decode cX5_takeWay 62 = .ok (.iload_n 3, 1) := by decide +kernel
theorem dX5_takeWay_63 : decode cX5_takeWay 63 = .ok (.iload_n 2, 1) := by decide +kernel
theorem dX5_takeWay_64 : decode cX5_takeWay 64 = .ok (.iadd, 1) := by decide +kernel
theorem dX5_takeWay_65 : decode cX5_takeWay 65 = .ok (.iaload, 1) := by decide +kernel
theorem dX5_takeWay_66 : decode cX5_takeWay 66 = .ok (.iastore, 1) := by decide +kernel
theorem dX5_takeWay_67 : decode cX5_takeWay 67 = .ok (.aload_n 0, 1) := by decide +kernel
theorem dX5_takeWay_68 : decode cX5_takeWay 68 = .ok (.dup, 1) := by decide +kernel
theorem dX5_takeWay_69 : decode cX5_takeWay 69 = .ok (.getfield 25, 3) := by decide +kernel
theorem dX5_takeWay_72 : decode cX5_takeWay 72 = .ok (.iconst 1, 1) := by decide +kernel
theorem dX5_takeWay_73 : decode cX5_takeWay 73 = .ok (.iadd, 1) := by decide +kernel
theorem dX5_takeWay_74 : decode cX5_takeWay 74 = .ok (.putfield 25, 3) := by decide +kernel
theorem dX5_takeWay_77 : decode cX5_takeWay 77 = .ok (.return_, 1) := by decide +kernel
theorem dX5_takeSet_0 : decode cX5_takeSet 0 = .ok (.iload_n 1, 1) := by decide +kernel
theorem dX5_takeSet_1 : decode cX5_takeSet 1 = .ok (.ifCond .ne 5, 3) := by decide +kernel
theorem dX5_takeSet_4 : decode cX5_takeSet 4 = .ok (.iconst 1, 1) := by decide +kernel
theorem dX5_takeSet_5 : decode cX5_takeSet 5 = .ok (.ireturn, 1) := by decide +kernel
theorem dX5_takeSet_6 : decode cX5_takeSet 6 = .ok (.iload_n 1, 1) := by decide +kernel
theorem dX5_takeSet_7 : decode cX5_takeSet 7 = .ok (.invokestatic 48, 3) := by decide +kernel
theorem dX5_takeSet_10 : decode cX5_takeSet 10 = .ok (.iconst 1, 1) := by decide +kernel
theorem dX5_takeSet_11 : decode cX5_takeSet 11 = .ok (.isub, 1) := by decide +kernel
theorem dX5_takeSet_12 : decode cX5_takeSet 12 = .ok (.istore_n 2, 1) := by decide +kernel
theorem dX5_takeSet_13 : decode cX5_takeSet 13 = .ok (.aload_n 0, 1) := by decide +kernel
theorem dX5_takeSet_14 : decode cX5_takeSet 14 = .ok (.getfield 15, 3) := by decide +kernel
theorem dX5_takeSet_17 : decode cX5_takeSet 17 = .ok (.iload_n 2, 1) := by decide +kernel
theorem dX5_takeSet_18 : decode cX5_takeSet 18 = .ok (.iaload, 1) := by decide +kernel
theorem dX5_takeSet_19 : decode cX5_takeSet 19 = .ok (.iload_n 1, 1) := by decide +kernel
theorem dX5_takeSet_20 : decode cX5_takeSet 20 = .ok (.iload_n 1, 1) := by decide +kernel
theorem dX5_takeSet_21 : decode cX5_takeSet 21 = .ok (.iconst 1, 1) := by decide +kernel
theorem dX5_takeSet_22 : decode cX5_takeSet 22 = .ok (.isub, 1) := by decide +kernel
theorem dX5_takeSet_23 : decode cX5_takeSet 23 = .ok (.iand, 1) := by decide +kernel
theorem dX5_takeSet_24 : decode cX5_takeSet 24 = .ok (.if_icmp .eq 5, 3) := by decide +kernel
theorem dX5_takeSet_27 : decode cX5_takeSet 27 = .ok (.iconst 0, 1) := by decide +kernel
theorem dX5_takeSet_28 : decode cX5_takeSet 28 = .ok (.ireturn, 1) := by decide +kernel
theorem dX5_takeSet_29 : decode cX5_takeSet 29 = .ok (.iload_n 1, 1) := by decide +kernel
theorem dX5_takeSet_30 : decode cX5_takeSet 30 = .ok (.iconst 1, 1) := by decide +kernel
theorem dX5_takeSet_31 : decode cX5_takeSet 31 = .ok (.isub, 1) := by decide +kernel
theorem dX5_takeSet_32 : decode cX5_takeSet 32 = .ok (.iload_n 1, 1) := by decide +kernel
theorem dX5_takeSet_33 : decode cX5_takeSet 33 = .ok (.iconst (-1), 1) := by decide +kernel
theorem dX5_takeSet_34 : decode cX5_takeSet 34 = .ok (.ixor, 1) := by decide +kernel
theorem dX5_takeSet_35 : decode cX5_takeSet 35 = .ok (.iand, 1) := by decide +kernel
theorem dX5_takeSet_36 : decode cX5_takeSet 36 = .ok (.invokestatic 48, 3) := by decide +kernel
theorem dX5_takeSet_39 : decode cX5_takeSet 39 = .ok (.istore_n 3, 1) := by decide +kernel
theorem dX5_takeSet_40 : decode cX5_takeSet 40 = .ok (.aload_n 0, 1) := by decide +kernel
theorem dX5_takeSet_41 : decode cX5_takeSet 41 = .ok (.iload_n 2, 1) := by decide +kernel
theorem dX5_takeSet_42 : decode cX5_takeSet 42 = .ok (.iload_n 3, 1) := by decide +kernel
theorem dX5_takeSet_43 : decode cX5_takeSet 43 = .ok (.invokevirtual 93, 3) := by decide +kernel
theorem dX5_takeSet_46 : decode cX5_takeSet 46 = .ok (.ireturn, 1) := by decide +kernel
theorem dX5_takeOffer_0 : decode cX5_takeOffer 0 = .ok (.iload_n 1, 1) := by decide +kernel
theorem dX5_takeOffer_1 : decode cX5_takeOffer 1 = .ok (.bipush 10, 2) := by decide +kernel
theorem dX5_takeOffer_3 : decode cX5_takeOffer 3 = .ok (.if_icmp .ge 15, 3) := by decide +kernel
theorem dX5_takeOffer_6 : decode cX5_takeOffer 6 = .ok (.aload_n 0, 1) := by decide +kernel
theorem dX5_takeOffer_7 : decode cX5_takeOffer 7 = .ok (.iload_n 1, 1) := by decide +kernel
theorem dX5_takeOffer_8 : decode cX5_takeOffer 8 = .ok (.bipush 10, 2) := by decide +kernel
theorem dX5_takeOffer_10 : decode cX5_takeOffer 10 = .ok (.iload_n 2, 1) := by decide +kernel
theorem dX5_takeOffer_11 : decode cX5_takeOffer 11 = .ok (.iadd, 1) := by decide +kernel
theorem dX5_takeOffer_12 : decode cX5_takeOffer 12 = .ok (.invokevirtual 32, 3) := by decide +kernel
theorem dX5_takeOffer_15 : decode cX5_takeOffer 15 = .ok (.goto 4, 3) := by decide +kernel
theorem dX5_takeOffer_18 : decode cX5_takeOffer 18 = .ok (.iconst (-1), 1) := by decide +kernel
theorem dX5_takeOffer_19 : decode cX5_takeOffer 19 = .ok (.istore_n 3, 1) := by decide +kernel
theorem dX5_takeOffer_20 : decode cX5_takeOffer 20 = .ok (.iload_n 3, 1) := by decide +kernel
theorem dX5_takeOffer_21 : decode cX5_takeOffer 21 = .ok (.iconst (-1), 1) := by decide +kernel
theorem dX5_takeOffer_22 : decode cX5_takeOffer 22 = .ok (.if_icmp .ne 5, 3) := by decide +kernel
theorem dX5_takeOffer_25 : decode cX5_takeOffer 25 = .ok (.iconst 0, 1) := by decide +kernel
theorem dX5_takeOffer_26 : decode cX5_takeOffer 26 = .ok (.ireturn, 1) := by decide +kernel
theorem dX5_takeOffer_27 : decode cX5_takeOffer 27 = .ok (.iload_n 1, 1) := by decide +kernel
theorem dX5_takeOffer_28 : decode cX5_takeOffer 28 = .ok (.bipush 10, 2) := by decide +kernel
theorem dX5_takeOffer_30 : decode cX5_takeOffer 30 = .ok (.iload_n 2, 1) := by decide +kernel
theorem dX5_takeOffer_31 : decode cX5_takeOffer 31 = .ok (.iadd, 1) := by decide +kernel
theorem dX5_takeOffer_32 : decode cX5_takeOffer 32 = .ok (.invokestatic 83, 3) := by decide +kernel
theorem dX5_takeOffer_35 : decode cX5_takeOffer 35 = .ok (.istore 4, 2) := by decide +kernel
theorem dX5_takeOffer_37 : decode cX5_takeOffer 37 = .ok (.bipush 10, 2) := by decide +kernel
theorem dX5_takeOffer_39 : decode cX5_takeOffer 39 = .ok (.istore 5, 2) := by decide +kernel
theorem dX5_takeOffer_41 : decode cX5_takeOffer 41 = .ok (.iload 5, 2) := by decide +kernel
theorem dX5_takeOffer_43 : decode cX5_takeOffer 43 = .ok (.bipush 20, 2) := by decide +kernel
theorem dX5_takeOffer_45 : decode cX5_takeOffer 45 = .ok (.aload_n 0, 1) := by decide +kernel
theorem dX5_takeOffer_46 : decode cX5_takeOffer 46 = .ok (.getfield 29, 3) := by decide +kernel
theorem dX5_takeOffer_49 : decode cX5_takeOffer 49 = .ok (.iadd, 1) := by decide +kernel
theorem dX5_takeOffer_50 : decode cX5_takeOffer 50 = .ok (.if_icmp .ge 88, 3) := by decide +kernel
theorem dX5_takeOffer_53 : decode cX5_takeOffer 53 = .ok (.iload 5, 2) := by decide +kernel
theorem dX5_takeOffer_55 : decode cX5_takeOffer 55 = .ok (.bipush 20, 2) := by decide +kernel
theorem dX5_takeOffer_57 : decode cX5_takeOffer 57 = .ok (.if_icmp .ge 20, 3) := by decide +kernel
theorem dX5_takeOffer_60 : decode cX5_takeOffer 60 = .ok (.iload 5, 2) := by decide +kernel
theorem dX5_takeOffer_62 : decode cX5_takeOffer 62 = .ok (.bipush 10, 2) := by decide +kernel
theorem dX5_takeOffer_64 : decode cX5_takeOffer 64 = .ok (.iload_n 2, 1) := by decide +kernel
theorem dX5_takeOffer_65 : decode cX5_takeOffer 65 = .ok (.iadd, 1) := by decide +kernel
theorem dX5_takeOffer_66 : decode cX5_takeOffer 66 = .ok (.if_icmp .ge 7, 3) := by decide +kernel
theorem dX5_takeOffer_69 : decode cX5_takeOffer 69 = .ok (.iconst 1, 1) := by decide +kernel
theorem dX5_takeOffer_70 : decode cX5_takeOffer 70 = .ok (.goto 28, 3) := by decide +kernel
theorem dX5_takeOffer_73 : decode cX5_takeOffer 73 = .ok (.iconst 0, 1) := by decide +kernel
theorem dX5_takeOffer_74 : decode cX5_takeOffer 74 = .ok (.goto 24, 3) := by decide +kernel
theorem dX5_takeOffer_77 : decode cX5_takeOffer 77 = .ok (.aload_n 0, 1) := by decide +kernel
theorem dX5_takeOffer_78 : decode cX5_takeOffer 78 = .ok (.getfield 36, 3) := by decide +kernel
theorem dX5_takeOffer_81 : decode cX5_takeOffer 81 = .ok (.iload 5, 2) := by decide +kernel
theorem dX5_takeOffer_83 : decode cX5_takeOffer 83 = .ok (.bipush 20, 2) := by decide +kernel
theorem dX5_takeOffer_85 : decode cX5_takeOffer 85 = .ok (.isub, 1) := by decide +kernel
theorem dX5_takeOffer_86 : decode cX5_takeOffer 86 = .ok (.invokestatic 86, 3) := by decide +kernel
theorem dX5_takeOffer_89 : decode cX5_takeOffer 89 = .ok (.iconst 1, 1) := by decide +kernel
theorem dX5_takeOffer_90 : decode cX5_takeOffer 90 = .ok (.if_icmp .ne 7, 3) := by decide +kernel
theorem dX5_takeOffer_93 : decode cX5_takeOffer 93 = .ok (.iconst 1, 1) := by decide +kernel
theorem dX5_takeOffer_94 : decode cX5_takeOffer 94 = .ok (.goto 4, 3) := by decide +kernel
theorem dX5_takeOffer_97 : decode cX5_takeOffer 97 = .ok (.iconst 0, 1) := by decide +kernel
theorem dX5_takeOffer_98 : decode cX5_takeOffer 98 = .ok (.istore 6, 2) := by decide +kernel
theorem dX5_takeOffer_100 : decode cX5_takeOffer 100 = .ok (.iload 6, 2) := by decide +kernel
theorem dX5_takeOffer_102 : decode cX5_takeOffer 102 = .ok (.ifCond .eq 30, 3) := by decide +kernel
theorem dX5_takeOffer_105 : decode cX5_takeOffer 105 = .ok (.aload_n 0, 1) := by decide +kernel
theorem dX5_takeOffer_106 : decode cX5_takeOffer 106 = .ok (.iload_n 1, 1) := by decide +kernel
theorem dX5_takeOffer_107 : decode cX5_takeOffer 107 = .ok (.iload 5, 2) := by decide +kernel
theorem dX5_takeOffer_109 : decode cX5_takeOffer 109 = .ok (.invokestatic 83, 3) := by decide +kernel
theorem dX5_takeOffer_112 : decode cX5_takeOffer 112 = .ok (.iload_n 1, 1) := by decide +kernel
theorem dX5_takeOffer_113 : decode cX5_takeOffer 113 = .ok (.iconst 1, 1) := by decide +kernel
theorem dX5_takeOffer_114 : decode cX5_takeOffer 114 = .ok (.iadd, 1) := by decide +kernel
theorem dX5_takeOffer_115 : decode cX5_takeOffer 115 = .ok (.iload 5, 2) := by decide +kernel
theorem dX5_takeOffer_117 : decode cX5_takeOffer 117 = .ok (.invokestatic 83, 3) := by decide +kernel
theorem dX5_takeOffer_120 : decode cX5_takeOffer 120 = .ok (.iload 4, 2) := by decide +kernel
theorem dX5_takeOffer_122 : decode cX5_takeOffer 122 = .ok (.iload_n 3, 1) := by decide +kernel
theorem dX5_takeOffer_123 : decode cX5_takeOffer 123 = .ok (.aload_n 0, 1) := by decide +kernel
theorem dX5_takeOffer_124 : decode cX5_takeOffer 124 = .ok (.getfield 18, 3) := by decide +kernel
theorem dX5_takeOffer_127 : decode cX5_takeOffer 127 = .ok (.iload_n 1, 1) := by decide +kernel
theorem dX5_takeOffer_128 : decode cX5_takeOffer 128 = .ok (.iaload, 1) := by decide +kernel
theorem dX5_takeOffer_129 : decode cX5_takeOffer 129 = .ok (.invokevirtual 89, 3) := by decide +kernel
theorem dX5_takeOffer_132 : decode cX5_takeOffer 132 = .ok (.iinc 5 1, 3) := by decide +kernel
theorem dX5_takeOffer_135 : decode cX5_takeOffer 135 = .ok (.goto (-94), 3) := by decide +kernel
theorem dX5_takeOffer_138 : decode cX5_takeOffer 138 = .ok (.aload_n 0, 1) := by decide +kernel
theorem dX5_takeOffer_139 : decode cX5_takeOffer 139 = .ok (.getfield 18, 3) := by decide +kernel
theorem dX5_takeOffer_142 : decode cX5_takeOffer 142 = .ok (.iload_n 1, 1) := by decide +kernel
theorem dX5_takeOffer_143 : decode cX5_takeOffer 143 = .ok (.iconst 1, 1) := by decide +kernel
theorem dX5_takeOffer_144 : decode cX5_takeOffer 144 = .ok (.iadd, 1) := by decide +kernel
theorem dX5_takeOffer_145 : decode cX5_takeOffer 145 = .ok (.aload_n 0, 1) := by decide +kernel
theorem dX5_takeOffer_146 : decode cX5_takeOffer 146 = .ok (.getfield 11, 3) := by decide +kernel
theorem dX5_takeOffer_149 : decode cX5_takeOffer 149 = .ok (.iload 4, 2) := by decide +kernel
theorem dX5_takeOffer_151 : decode cX5_takeOffer 151 = .ok (.iload_n 3, 1) := by decide +kernel
theorem dX5_takeOffer_152 : decode cX5_takeOffer 152 = .ok (.iadd, 1) := by decide +kernel
theorem dX5_takeOffer_153 : decode cX5_takeOffer 153 = .ok (.iaload, 1) := by decide +kernel
theorem dX5_takeOffer_154 : decode cX5_takeOffer 154 = .ok (.iastore, 1) := by decide +kernel
theorem dX5_takeOffer_155 : decode cX5_takeOffer 155 = .ok (.aload_n 0, 1) := by decide +kernel
theorem dX5_takeOffer_156 : decode cX5_takeOffer 156 = .ok (.getfield 15, 3) := by decide +kernel
theorem dX5_takeOffer_159 : decode cX5_takeOffer 159 = .ok (.iload_n 1, 1) := by decide +kernel
theorem dX5_takeOffer_160 : decode cX5_takeOffer 160 = .ok (.iconst 1, 1) := by decide +kernel
theorem dX5_takeOffer_161 : decode cX5_takeOffer 161 = .ok (.iadd, 1) := by decide +kernel
theorem dX5_takeOffer_162 : decode cX5_takeOffer 162 = .ok (.aload_n 0, 1) := by decide +kernel
theorem dX5_takeOffer_163 : decode cX5_takeOffer 163 = .ok (.getfield 15, 3) := by decide +kernel
theorem dX5_takeOffer_166 : decode cX5_takeOffer 166 = .ok (.iload_n 1, 1) := by decide +kernel
theorem dX5_takeOffer_167 : decode cX5_takeOffer 167 = .ok (.iaload, 1) := by decide +kernel
theorem dX5_takeOffer_168 : decode cX5_takeOffer 168 = .ok (.iconst 1, 1) := by decide +kernel
theorem dX5_takeOffer_169 : decode cX5_takeOffer 169 = .ok (.iload_n 2, 1) := by decide +kernel
theorem dX5_takeOffer_170 : decode cX5_takeOffer 170 = .ok (.ishl, 1) := by decide +kernel
theorem dX5_takeOffer_171 : decode cX5_takeOffer 171 = .ok (.ior, 1) := by decide +kernel
theorem dX5_takeOffer_172 : decode cX5_takeOffer 172 = .ok (.iastore, 1) := by decide +kernel
theorem dX5_takeOffer_173 : decode cX5_takeOffer 173 = .ok (.iconst 1, 1) := by decide +kernel
theorem dX5_takeOffer_174 : decode cX5_takeOffer 174 = .ok (.ireturn, 1) := by decide +kernel
theorem dX5_clearColumn_0 : decode cX5_clearColumn 0 = .ok (.iload 5, 2) := by decide +kernel
theorem dX5_clearColumn_2 : decode cX5_clearColumn 2 = .ok (.ifCond .ne 4, 3) := by decide +kernel
theorem dX5_clearColumn_5 : decode cX5_clearColumn 5 = .ok (.return_, 1) := by decide +kernel
theorem dX5_clearColumn_6 : decode cX5_clearColumn 6 = .ok (.aload_n 0, 1) := by decide +kernel
theorem dX5_clearColumn_7 : decode cX5_clearColumn 7 = .ok (.getfield 11, 3) := by decide +kernel
theorem dX5_clearColumn_10 : decode cX5_clearColumn 10 = .ok (.iload_n 3, 1) := by decide +kernel
theorem dX5_clearColumn_11 : decode cX5_clearColumn 11 = .ok (.iload 4, 2) := by decide +kernel
theorem dX5_clearColumn_13 : decode cX5_clearColumn 13 = .ok (.iadd, 1) := by decide +kernel
theorem dX5_clearColumn_14 : decode cX5_clearColumn 14 = .ok (.iaload, 1) := by decide +kernel
theorem dX5_clearColumn_15 : decode cX5_clearColumn 15 = .ok (.istore 6, 2) := by decide +kernel
theorem dX5_clearColumn_17 : decode cX5_clearColumn 17 = .ok (.aload_n 0, 1) := by decide +kernel
theorem dX5_clearColumn_18 : decode cX5_clearColumn 18 = .ok (.getfield 11, 3) := by decide +kernel
theorem dX5_clearColumn_21 : decode cX5_clearColumn 21 = .ok (.iload_n 1, 1) := by decide +kernel
theorem dX5_clearColumn_22 : decode cX5_clearColumn 22 = .ok (.iload 4, 2) := by decide +kernel
theorem dX5_clearColumn_24 : decode cX5_clearColumn 24 = .ok (.iadd, 1) := by decide +kernel
theorem dX5_clearColumn_25 : decode cX5_clearColumn 25 = .ok (.iaload, 1) := by decide +kernel
theorem dX5_clearColumn_26 : decode cX5_clearColumn 26 = .ok (.istore 7, 2) := by decide +kernel
theorem dX5_clearColumn_28 : decode cX5_clearColumn 28 = .ok (.iconst 0, 1) := by decide +kernel
theorem dX5_clearColumn_29 : decode cX5_clearColumn 29 = .ok (.istore 8, 2) := by decide +kernel
theorem dX5_clearColumn_31 : decode cX5_clearColumn 31 = .ok (.iload 8, 2) := by decide +kernel
theorem dX5_clearColumn_33 : decode cX5_clearColumn 33 = .ok (.aload_n 0, 1) := by decide +kernel
theorem dX5_clearColumn_34 : decode cX5_clearColumn 34 = .ok (.getfield 29, 3) := by decide +kernel
theorem dX5_clearColumn_37 : decode cX5_clearColumn 37 = .ok (.if_icmp .ge 50, 3) := by decide +kernel
theorem dX5_clearColumn_40 : decode cX5_clearColumn 40 = .ok (.aload_n 0, 1) := by decide +kernel
theorem dX5_clearColumn_41 : decode cX5_clearColumn 41 = .ok (.getfield 11, 3) := by decide +kernel
theorem dX5_clearColumn_44 : decode cX5_clearColumn 44 = .ok (.iload_n 1, 1) := by decide +kernel
theorem dX5_clearColumn_45 : decode cX5_clearColumn 45 = .ok (.iload 8, 2) := by decide +kernel
theorem dX5_clearColumn_47 : decode cX5_clearColumn 47 = .ok (.iadd, 1) := by decide +kernel
theorem dX5_clearColumn_48 : decode cX5_clearColumn 48 = .ok (.iaload, 1) := by decide +kernel
theorem dX5_clearColumn_49 : decode cX5_clearColumn 49 = .ok (.iload 6, 2) := by decide +kernel
theorem dX5_clearColumn_51 : decode cX5_clearColumn 51 = .ok (.imul, 1) := by decide +kernel
theorem dX5_clearColumn_52 : decode cX5_clearColumn 52 = .ok (.iload 7, 2) := by decide +kernel
theorem dX5_clearColumn_54 : decode cX5_clearColumn 54 = .ok (.aload_n 0, 1) := by decide +kernel
theorem dX5_clearColumn_55 : decode cX5_clearColumn 55 = .ok (.getfield 11, 3) := by decide +kernel
theorem dX5_clearColumn_58 : decode cX5_clearColumn 58 = .ok (.iload_n 3, 1) := by decide +kernel
theorem dX5_clearColumn_59 : decode cX5_clearColumn 59 = .ok (.iload 8, 2) := by decide +kernel
theorem dX5_clearColumn_61 : decode cX5_clearColumn 61 = .ok (.iadd, 1) := by decide +kernel
theorem dX5_clearColumn_62 : decode cX5_clearColumn 62 = .ok (.iaload, 1) := by decide +kernel
theorem dX5_clearColumn_63 : decode cX5_clearColumn 63 = .ok (.imul, 1) := by decide +kernel
theorem dX5_clearColumn_64 : decode cX5_clearColumn 64 = .ok (.isub, 1) := by decide +kernel
theorem dX5_clearColumn_65 : decode cX5_clearColumn 65 = .ok (.istore 9, 2) := by decide +kernel
theorem dX5_clearColumn_67 : decode cX5_clearColumn 67 = .ok (.aload_n 0, 1) := by decide +kernel
theorem dX5_clearColumn_68 : decode cX5_clearColumn 68 = .ok (.getfield 11, 3) := by decide +kernel
theorem dX5_clearColumn_71 : decode cX5_clearColumn 71 = .ok (.iload_n 2, 1) := by decide +kernel
theorem dX5_clearColumn_72 : decode cX5_clearColumn 72 = .ok (.iload 8, 2) := by decide +kernel
theorem dX5_clearColumn_74 : decode cX5_clearColumn 74 = .ok (.iadd, 1) := by decide +kernel
theorem dX5_clearColumn_75 : decode cX5_clearColumn 75 = .ok (.iload 9, 2) := by decide +kernel
theorem dX5_clearColumn_77 : decode cX5_clearColumn 77 = .ok (.iload 5, 2) := by decide +kernel
theorem dX5_clearColumn_79 : decode cX5_clearColumn 79 = .ok (.idiv, 1) := by decide +kernel
theorem dX5_clearColumn_80 : decode cX5_clearColumn 80 = .ok (.iastore, 1) := by decide +kernel
theorem dX5_clearColumn_81 : decode cX5_clearColumn 81 = .ok (.iinc 8 1, 3) := by decide +kernel
theorem dX5_clearColumn_84 : decode cX5_clearColumn 84 = .ok (.goto (-53), 3) := by decide +kernel
theorem dX5_clearColumn_87 : decode cX5_clearColumn 87 = .ok (.return_, 1) := by decide +kernel
theorem dX5_allAskedAreEmpty_0 : decode cX5_allAskedAreEmpty 0 = .ok (.iconst 0, 1) := by decide +kernel
theorem dX5_allAskedAreEmpty_1 : decode cX5_allAskedAreEmpty 1 = .ok (.istore_n 2, 1) := by decide +kernel
theorem dX5_allAskedAreEmpty_2 : decode cX5_allAskedAreEmpty 2 = .ok (.iload_n 2, 1) := by decide +kernel
theorem dX5_allAskedAreEmpty_3 : decode cX5_allAskedAreEmpty 3 = .ok (.aload_n 0, 1) := by decide +kernel
theorem dX5_allAskedAreEmpty_4 : decode cX5_allAskedAreEmpty 4 = .ok (.getfield 29, 3) := by decide +kernel
theorem dX5_allAskedAreEmpty_7 : decode cX5_allAskedAreEmpty 7 = .ok (.if_icmp .ge 36, 3) := by decide +kernel
theorem dX5_allAskedAreEmpty_10 : decode cX5_allAskedAreEmpty 10 = .ok (.aload_n 0, 1) := by decide +kernel
theorem dX5_allAskedAreEmpty_11 : decode cX5_allAskedAreEmpty 11 = .ok (.getfield 36, 3) := by decide +kernel
theorem dX5_allAskedAreEmpty_14 : decode cX5_allAskedAreEmpty 14 = .ok (.iload_n 2, 1) := by decide +kernel
theorem dX5_allAskedAreEmpty_15 : decode cX5_allAskedAreEmpty 15 = .ok (.invokestatic 86, 3) := by decide +kernel
theorem dX5_allAskedAreEmpty_18 : decode cX5_allAskedAreEmpty 18 = .ok (.iconst 1, 1) := by decide +kernel
theorem dX5_allAskedAreEmpty_19 : decode cX5_allAskedAreEmpty 19 = .ok (.if_icmp .ne 18, 3) := by decide +kernel
theorem dX5_allAskedAreEmpty_22 : decode cX5_allAskedAreEmpty 22 = .ok (.aload_n 0, 1) := by decide +kernel
theorem dX5_allAskedAreEmpty_23 : decode cX5_allAskedAreEmpty 23 = .ok (.iload_n 1, 1) := by decide +kernel
theorem dX5_allAskedAreEmpty_24 : decode cX5_allAskedAreEmpty 24 = .ok (.bipush 20, 2) := by decide +kernel
theorem dX5_allAskedAreEmpty_26 : decode cX5_allAskedAreEmpty 26 = .ok (.iload_n 2, 1) := by decide +kernel
theorem dX5_allAskedAreEmpty_27 : decode cX5_allAskedAreEmpty 27 = .ok (.iadd, 1) := by decide +kernel
theorem dX5_allAskedAreEmpty_28 : decode cX5_allAskedAreEmpty 28 = .ok (.invokevirtual 32, 3) := by decide +kernel
theorem dX5_allAskedAreEmpty_31 : decode cX5_allAskedAreEmpty 31 = .ok (.iconst (-1), 1) := by decide +kernel
theorem dX5_allAskedAreEmpty_32 : decode cX5_allAskedAreEmpty 32 = .ok (.if_icmp .eq 5, 3) := by decide +kernel
theorem dX5_allAskedAreEmpty_35 : decode cX5_allAskedAreEmpty 35 = .ok (.iconst 0, 1) := by decide +kernel
theorem dX5_allAskedAreEmpty_36 : decode cX5_allAskedAreEmpty 36 = .ok (.ireturn, 1) := by decide +kernel
theorem dX5_allAskedAreEmpty_37 : decode cX5_allAskedAreEmpty 37 = .ok (.iinc 2 1, 3) := by decide +kernel
theorem dX5_allAskedAreEmpty_40 : decode cX5_allAskedAreEmpty 40 = .ok (.goto (-38), 3) := by decide +kernel
theorem dX5_allAskedAreEmpty_43 : decode cX5_allAskedAreEmpty 43 = .ok (.iconst 1, 1) := by decide +kernel
theorem dX5_allAskedAreEmpty_44 : decode cX5_allAskedAreEmpty 44 = .ok (.ireturn, 1) := by decide +kernel
theorem dX5_allOffersDo_0 : decode cX5_allOffersDo 0 = .ok (.aload_n 0, 1) := by decide +kernel
theorem dX5_allOffersDo_1 : decode cX5_allOffersDo 1 = .ok (.getfield 15, 3) := by decide +kernel
theorem dX5_allOffersDo_4 : decode cX5_allOffersDo 4 = .ok (.iconst (-1), 1) := by decide +kernel
theorem dX5_allOffersDo_5 : decode cX5_allOffersDo 5 = .ok (.invokestatic 97, 3) := by decide +kernel
theorem dX5_allOffersDo_8 : decode cX5_allOffersDo 8 = .ok (.aload_n 0, 1) := by decide +kernel
theorem dX5_allOffersDo_9 : decode cX5_allOffersDo 9 = .ok (.getfield 15, 3) := by decide +kernel
theorem dX5_allOffersDo_12 : decode cX5_allOffersDo 12 = .ok (.iconst 0, 1) := by decide +kernel
theorem dX5_allOffersDo_13 : decode cX5_allOffersDo 13 = .ok (.iconst 0, 1) := by decide +kernel
theorem dX5_allOffersDo_14 : decode cX5_allOffersDo 14 = .ok (.iastore, 1) := by decide +kernel
theorem dX5_allOffersDo_15 : decode cX5_allOffersDo 15 = .ok (.iconst 0, 1) := by decide +kernel
theorem dX5_allOffersDo_16 : decode cX5_allOffersDo 16 = .ok (.istore_n 2, 1) := by decide +kernel
theorem dX5_allOffersDo_17 : decode cX5_allOffersDo 17 = .ok (.iload_n 1, 1) := by decide +kernel
theorem dX5_allOffersDo_18 : decode cX5_allOffersDo 18 = .ok (.iconst 1, 1) := by decide +kernel
theorem dX5_allOffersDo_19 : decode cX5_allOffersDo 19 = .ok (.isub, 1) := by decide +kernel
theorem dX5_allOffersDo_20 : decode cX5_allOffersDo 20 = .ok (.istore_n 3, 1) := by decide +kernel
theorem dX5_allOffersDo_21 : decode cX5_allOffersDo 21 = .ok (.iload_n 3, 1) := by decide +kernel
theorem dX5_allOffersDo_22 : decode cX5_allOffersDo 22 = .ok (.ifCond .lt 21, 3) := by decide +kernel
theorem dX5_allOffersDo_25 : decode cX5_allOffersDo 25 = .ok (.aload_n 0, 1) := by decide +kernel
theorem dX5_allOffersDo_26 : decode cX5_allOffersDo 26 = .ok (.iload_n 2, 1) := by decide +kernel
theorem dX5_allOffersDo_27 : decode cX5_allOffersDo 27 = .ok (.iload_n 3, 1) := by decide +kernel
theorem dX5_allOffersDo_28 : decode cX5_allOffersDo 28 = .ok (.invokevirtual 93, 3) := by decide +kernel
theorem dX5_allOffersDo_31 : decode cX5_allOffersDo 31 = .ok (.ifCond .eq 6, 3) := by decide +kernel
theorem dX5_allOffersDo_34 : decode cX5_allOffersDo 34 = .ok (.iinc 2 1, 3) := by decide +kernel
theorem dX5_allOffersDo_37 : decode cX5_allOffersDo 37 = .ok (.iinc 3 (-1), 3) := by decide +kernel
theorem dX5_allOffersDo_40 : decode cX5_allOffersDo 40 = .ok (.goto (-19), 3) := by decide +kernel
theorem dX5_allOffersDo_43 : decode cX5_allOffersDo 43 = .ok (.aload_n 0, 1) := by decide +kernel
theorem dX5_allOffersDo_44 : decode cX5_allOffersDo 44 = .ok (.iload_n 2, 1) := by decide +kernel
theorem dX5_allOffersDo_45 : decode cX5_allOffersDo 45 = .ok (.invokevirtual 57, 3) := by decide +kernel
theorem dX5_allOffersDo_48 : decode cX5_allOffersDo 48 = .ok (.ireturn, 1) := by decide +kernel
end
section
theorem dX6_init_0 : decode cX6_init 0 = .ok (.aload_n 0, 1) := by decide +kernel
theorem dX6_init_1 : decode cX6_init 1 = .ok (.invokespecial 1, 3) := by decide +kernel
theorem dX6_init_4 : decode cX6_init 4 = .ok (.aload_n 0, 1) := by decide +kernel
theorem dX6_init_5 : decode cX6_init 5 = .ok (.new 7, 3) := by decide +kernel
theorem dX6_init_8 : decode cX6_init 8 = .ok (.dup, 1) := by decide +kernel
theorem dX6_init_9 : decode cX6_init 9 = .ok (.invokespecial 9, 3) := by decide +kernel
theorem dX6_init_12 : decode cX6_init 12 = .ok (.putfield 10, 3) := by decide +kernel
theorem dX6_init_15 : decode cX6_init 15 = .ok (.aload_n 0, 1) := by decide +kernel
theorem dX6_init_16 : decode cX6_init 16 = .ok (.new 16, 3) := by decide +kernel
theorem dX6_init_19 : decode cX6_init 19 = .ok (.dup, 1) := by decide +kernel
theorem dX6_init_20 : decode cX6_init 20 = .ok (.invokespecial 18, 3) := by decide +kernel
theorem dX6_init_23 : decode cX6_init 23 = .ok (.putfield 19, 3) := by decide +kernel
theorem dX6_init_26 : decode cX6_init 26 = .ok (.aload_n 0, 1) := by decide +kernel
theorem dX6_init_27 : decode cX6_init 27 = .ok (.new 23, 3) := by decide +kernel
theorem dX6_init_30 : decode cX6_init 30 = .ok (.dup, 1) := by decide +kernel
theorem dX6_init_31 : decode cX6_init 31 = .ok (.invokespecial 25, 3) := by decide +kernel
theorem dX6_init_34 : decode cX6_init 34 = .ok (.putfield 26, 3) := by decide +kernel
theorem dX6_init_37 : decode cX6_init 37 = .ok (.aload_n 0, 1) := by decide +kernel
theorem dX6_init_38 : decode cX6_init 38 = .ok (.new 30, 3) := by decide +kernel
theorem dX6_init_41 : decode cX6_init 41 = .ok (.dup, 1) := by decide +kernel
theorem dX6_init_42 : decode cX6_init 42 = .ok (.invokespecial 32, 3) := by decide +kernel
theorem dX6_init_45 : decode cX6_init 45 = .ok (.putfield 33, 3) := by decide +kernel
theorem dX6_init_48 : decode cX6_init 48 = .ok (.aload_n 0, 1) := by decide +kernel
theorem dX6_init_49 : decode cX6_init 49 = .ok (.new 37, 3) := by decide +kernel
theorem dX6_init_52 : decode cX6_init 52 = .ok (.dup, 1) := by decide +kernel
theorem dX6_init_53 : decode cX6_init 53 = .ok (.invokespecial 39, 3) := by decide +kernel
theorem dX6_init_56 : decode cX6_init 56 = .ok (.putfield 40, 3) := by decide +kernel
theorem dX6_init_59 : decode cX6_init 59 = .ok (.return_, 1) := by decide +kernel
theorem dX6_lines_0 : decode cX6_lines 0 = .ok (.iload_n 1, 1) := by decide +kernel
theorem dX6_lines_1 : decode cX6_lines 1 = .ok (.iconst 1, 1) := by decide +kernel
theorem dX6_lines_2 : decode cX6_lines 2 = .ok (.if_icmp .lt 9, 3) := by decide +kernel
theorem dX6_lines_5 : decode cX6_lines 5 = .ok (.iload_n 1, 1) := by decide +kernel
theorem dX6_lines_6 : decode cX6_lines 6 = .ok (.bipush 10, 2) := by decide +kernel
theorem dX6_lines_8 : decode cX6_lines 8 = .ok (.if_icmp .le 6, 3) := by decide +kernel
theorem dX6_lines_11 : decode cX6_lines 11 = .ok (.bipush (-102), 2) := by decide +kernel
theorem dX6_lines_13 : decode cX6_lines 13 = .ok (.ireturn, 1) := by decide +kernel
theorem dX6_lines_14 : decode cX6_lines 14 = .ok (.aload_n 0, 1) := by decide +kernel
theorem dX6_lines_15 : decode cX6_lines 15 = .ok (.getfield 10, 3) := by decide +kernel
theorem dX6_lines_18 : decode cX6_lines 18 = .ok (.getfield 44, 3) := by decide +kernel
theorem dX6_lines_21 : decode cX6_lines 21 = .ok (.istore_n 2, 1) := by decide +kernel
theorem dX6_lines_22 : decode cX6_lines 22 = .ok (.aload_n 0, 1) := by decide +kernel
theorem dX6_lines_23 : decode cX6_lines 23 = .ok (.getfield 10, 3) := by decide +kernel
theorem dX6_lines_26 : decode cX6_lines 26 = .ok (.iload_n 1, 1) := by decide +kernel
theorem dX6_lines_27 : decode cX6_lines 27 = .ok (.invokevirtual 48, 3) := by decide +kernel
theorem dX6_lines_30 : decode cX6_lines 30 = .ok (.aload_n 0, 1) := by decide +kernel
theorem dX6_lines_31 : decode cX6_lines 31 = .ok (.invokevirtual 52, 3) := by decide +kernel
theorem dX6_lines_34 : decode cX6_lines 34 = .ok (.iload_n 2, 1) := by decide +kernel
theorem dX6_lines_35 : decode cX6_lines 35 = .ok (.ireturn, 1) := by decide +kernel
theorem dX6_way_0 : decode cX6_way 0 = .ok (.aload_n 0, 1) := by decide +kernel
theorem dX6_way_1 : decode cX6_way 1 = .ok (.getfield 10, 3) := by decide +kernel
theorem dX6_way_4 : decode cX6_way 4 = .ok (.iload_n 1, 1) := by decide +kernel
theorem dX6_way_5 : decode cX6_way 5 = .ok (.invokevirtual 55, 3) := by decide +kernel
theorem dX6_way_8 : decode cX6_way 8 = .ok (.ifCond .eq 10, 3) := by decide +kernel
theorem dX6_way_11 : decode cX6_way 11 = .ok (.iload_n 2, 1) := by decide +kernel
theorem dX6_way_12 : decode cX6_way 12 = .ok (.invokestatic 59, 3) := by decide +kernel
theorem dX6_way_15 : decode cX6_way 15 = .ok (.ifCond .ne 6, 3) := by decide +kernel
theorem dX6_way_18 : decode cX6_way 18 = .ok (.bipush (-102), 2) := by decide +kernel
theorem dX6_way_20 : decode cX6_way 20 = .ok (.ireturn, 1) := by decide +kernel
theorem dX6_way_21 : decode cX6_way 21 = .ok (.aload_n 0, 1) := by decide +kernel
theorem dX6_way_22 : decode cX6_way 22 = .ok (.getfield 10, 3) := by decide +kernel
theorem dX6_way_25 : decode cX6_way 25 = .ok (.getfield 62, 3) := by decide +kernel
theorem dX6_way_28 : decode cX6_way 28 = .ok (.bipush 10, 2) := by decide +kernel
theorem dX6_way_30 : decode cX6_way 30 = .ok (.if_icmp .lt 6, 3) := by decide +kernel
theorem dX6_way_33 : decode cX6_way 33 = .ok (.bipush (-104), 2) := by decide +kernel
theorem dX6_way_35 : decode cX6_way 35 = .ok (.ireturn, 1) := by decide +kernel
theorem dX6_way_36 : decode cX6_way 36 = .ok (.aload_n 0, 1) := by decide +kernel
theorem dX6_way_37 : decode cX6_way 37 = .ok (.invokevirtual 52, 3) := by decide +kernel
theorem dX6_way_40 : decode cX6_way 40 = .ok (.aload_n 0, 1) := by decide +kernel
theorem dX6_way_41 : decode cX6_way 41 = .ok (.getfield 10, 3) := by decide +kernel
theorem dX6_way_44 : decode cX6_way 44 = .ok (.iload_n 1, 1) := by decide +kernel
theorem dX6_way_45 : decode cX6_way 45 = .ok (.iload_n 2, 1) := by decide +kernel
theorem dX6_way_46 : decode cX6_way 46 = .ok (.invokevirtual 65, 3) := by decide +kernel
theorem dX6_way_49 : decode cX6_way 49 = .ok (.ireturn, 1) := by decide +kernel
theorem dX6_sum_0 : decode cX6_sum 0 = .ok (.aload_n 0, 1) := by decide +kernel
theorem dX6_sum_1 : decode cX6_sum 1 = .ok (.getfield 10, 3) := by decide +kernel
theorem dX6_sum_4 : decode cX6_sum 4 = .ok (.iload_n 1, 1) := by decide +kernel
theorem dX6_sum_5 : decode cX6_sum 5 = .ok (.invokevirtual 69, 3) := by decide +kernel
theorem dX6_sum_8 : decode cX6_sum 8 = .ok (.ifCond .ne 6, 3) := by decide +kernel
theorem dX6_sum_11 : decode cX6_sum 11 = .ok (.bipush (-101), 2) := by decide +kernel
theorem dX6_sum_13 : decode cX6_sum 13 = .ok (.ireturn, 1) := by decide +kernel
theorem dX6_sum_14 : decode cX6_sum 14 = .ok (.iload_n 2, 1) := by decide +kernel
theorem dX6_sum_15 : decode cX6_sum 15 = .ok (.invokestatic 59, 3) := by decide +kernel
theorem dX6_sum_18 : decode cX6_sum 18 = .ok (.ifCond .ne 6, 3) := by decide +kernel
theorem dX6_sum_21 : decode cX6_sum 21 = .ok (.bipush (-102), 2) := by decide +kernel
theorem dX6_sum_23 : decode cX6_sum 23 = .ok (.ireturn, 1) := by decide +kernel
theorem dX6_sum_24 : decode cX6_sum 24 = .ok (.aload_n 0, 1) := by decide +kernel
theorem dX6_sum_25 : decode cX6_sum 25 = .ok (.getfield 10, 3) := by decide +kernel
theorem dX6_sum_28 : decode cX6_sum 28 = .ok (.getfield 72, 3) := by decide +kernel
theorem dX6_sum_31 : decode cX6_sum 31 = .ok (.iload_n 1, 1) := by decide +kernel
theorem dX6_sum_32 : decode cX6_sum 32 = .ok (.iaload, 1) := by decide +kernel
theorem dX6_sum_33 : decode cX6_sum 33 = .ok (.istore_n 3, 1) := by decide +kernel
theorem dX6_sum_34 : decode cX6_sum 34 = .ok (.aload_n 0, 1) := by decide +kernel
theorem dX6_sum_35 : decode cX6_sum 35 = .ok (.getfield 10, 3) := by decide +kernel
theorem dX6_sum_38 : decode cX6_sum 38 = .ok (.getfield 72, 3) := by decide +kernel
theorem dX6_sum_41 : decode cX6_sum 41 = .ok (.iload_n 1, 1) := by decide +kernel
theorem dX6_sum_42 : decode cX6_sum 42 = .ok (.iload_n 2, 1) := by decide +kernel
theorem dX6_sum_43 : decode cX6_sum 43 = .ok (.iastore, 1) := by decide +kernel
theorem dX6_sum_44 : decode cX6_sum 44 = .ok (.aload_n 0, 1) := by decide +kernel
theorem dX6_sum_45 : decode cX6_sum 45 = .ok (.invokevirtual 52, 3) := by decide +kernel
theorem dX6_sum_48 : decode cX6_sum 48 = .ok (.iload_n 3, 1) := by decide +kernel
theorem dX6_sum_49 : decode cX6_sum 49 = .ok (.ireturn, 1) := by decide +kernel
theorem dX6_over_0 : decode cX6_over 0 = .ok (.aload_n 0, 1) := by decide +kernel
theorem dX6_over_1 : decode cX6_over 1 = .ok (.getfield 10, 3) := by decide +kernel
theorem dX6_over_4 : decode cX6_over 4 = .ok (.iload_n 1, 1) := by decide +kernel
theorem dX6_over_5 : decode cX6_over 5 = .ok (.invokevirtual 69, 3) := by decide +kernel
theorem dX6_over_8 : decode cX6_over 8 = .ok (.ifCond .ne 6, 3) := by decide +kernel
theorem dX6_over_11 : decode cX6_over 11 = .ok (.bipush (-101), 2) := by decide +kernel
theorem dX6_over_13 : decode cX6_over 13 = .ok (.ireturn, 1) := by decide +kernel
theorem dX6_over_14 : decode cX6_over 14 = .ok (.aload_n 0, 1) := by decide +kernel
theorem dX6_over_15 : decode cX6_over 15 = .ok (.getfield 10, 3) := by decide +kernel
theorem dX6_over_18 : decode cX6_over 18 = .ok (.iload_n 2, 1) := by decide +kernel
theorem dX6_over_19 : decode cX6_over 19 = .ok (.invokevirtual 55, 3) := by decide +kernel
theorem dX6_over_22 : decode cX6_over 22 = .ok (.ifCond .ne 6, 3) := by decide +kernel
theorem dX6_over_25 : decode cX6_over 25 = .ok (.bipush (-102), 2) := by decide +kernel
theorem dX6_over_27 : decode cX6_over 27 = .ok (.ireturn, 1) := by decide +kernel
theorem dX6_over_28 : decode cX6_over 28 = .ok (.aload_n 0, 1) := by decide +kernel
theorem dX6_over_29 : decode cX6_over 29 = .ok (.getfield 10, 3) := by decide +kernel
theorem dX6_over_32 : decode cX6_over 32 = .ok (.getfield 76, 3) := by decide +kernel
theorem dX6_over_35 : decode cX6_over 35 = .ok (.iload_n 1, 1) := by decide +kernel
theorem dX6_over_36 : decode cX6_over 36 = .ok (.iaload, 1) := by decide +kernel
theorem dX6_over_37 : decode cX6_over 37 = .ok (.istore_n 3, 1) := by decide +kernel
theorem dX6_over_38 : decode cX6_over 38 = .ok (.aload_n 0, 1) := by decide +kernel
theorem dX6_over_39 : decode cX6_over 39 = .ok (.getfield 10, 3) := by decide +kernel
theorem dX6_over_42 : decode cX6_over 42 = .ok (.getfield 76, 3) := by decide +kernel
theorem dX6_over_45 : decode cX6_over 45 = .ok (.iload_n 1, 1) := by decide +kernel
theorem dX6_over_46 : decode cX6_over 46 = .ok (.iload_n 2, 1) := by decide +kernel
theorem dX6_over_47 : decode cX6_over 47 = .ok (.iastore, 1) := by decide +kernel
theorem dX6_over_48 : decode cX6_over 48 = .ok (.aload_n 0, 1) := by decide +kernel
theorem dX6_over_49 : decode cX6_over 49 = .ok (.invokevirtual 52, 3) := by decide +kernel
theorem dX6_over_52 : decode cX6_over 52 = .ok (.iload_n 3, 1) := by decide +kernel
theorem dX6_over_53 : decode cX6_over 53 = .ok (.ireturn, 1) := by decide +kernel
theorem dX6_on_0 : decode cX6_on 0 = .ok (.aload_n 0, 1) := by decide +kernel
theorem dX6_on_1 : decode cX6_on 1 = .ok (.getfield 10, 3) := by decide +kernel
theorem dX6_on_4 : decode cX6_on 4 = .ok (.iload_n 1, 1) := by decide +kernel
theorem dX6_on_5 : decode cX6_on 5 = .ok (.invokevirtual 69, 3) := by decide +kernel
theorem dX6_on_8 : decode cX6_on 8 = .ok (.ifCond .ne 6, 3) := by decide +kernel
theorem dX6_on_11 : decode cX6_on 11 = .ok (.bipush (-101), 2) := by decide +kernel
theorem dX6_on_13 : decode cX6_on 13 = .ok (.ireturn, 1) := by decide +kernel
theorem dX6_on_14 : decode cX6_on 14 = .ok (.aload_n 0, 1) := by decide +kernel
theorem dX6_on_15 : decode cX6_on 15 = .ok (.getfield 10, 3) := by decide +kernel
theorem dX6_on_18 : decode cX6_on 18 = .ok (.getfield 79, 3) := by decide +kernel
theorem dX6_on_21 : decode cX6_on 21 = .ok (.iload_n 1, 1) := by decide +kernel
theorem dX6_on_22 : decode cX6_on 22 = .ok (.invokestatic 82, 3) := by decide +kernel
theorem dX6_on_25 : decode cX6_on 25 = .ok (.istore_n 3, 1) := by decide +kernel
theorem dX6_on_26 : decode cX6_on 26 = .ok (.aload_n 0, 1) := by decide +kernel
theorem dX6_on_27 : decode cX6_on 27 = .ok (.getfield 10, 3) := by decide +kernel
theorem dX6_on_30 : decode cX6_on 30 = .ok (.aload_n 0, 1) := by decide +kernel
theorem dX6_on_31 : decode cX6_on 31 = .ok (.getfield 10, 3) := by decide +kernel
theorem dX6_on_34 : decode cX6_on 34 = .ok (.getfield 79, 3) := by decide +kernel
theorem dX6_on_37 : decode cX6_on 37 = .ok (.iload_n 1, 1) := by decide +kernel
theorem dX6_on_38 : decode cX6_on 38 = .ok (.iload_n 2, 1) := by decide +kernel
theorem dX6_on_39 : decode cX6_on 39 = .ok (.invokestatic 85, 3) := by decide +kernel
theorem dX6_on_42 : decode cX6_on 42 = .ok (.putfield 79, 3) := by decide +kernel
theorem dX6_on_45 : decode cX6_on 45 = .ok (.aload_n 0, 1) := by decide +kernel
theorem dX6_on_46 : decode cX6_on 46 = .ok (.invokevirtual 52, 3) := by decide +kernel
theorem dX6_on_49 : decode cX6_on 49 = .ok (.iload_n 3, 1) := by decide +kernel
theorem dX6_on_50 : decode cX6_on 50 = .ok (.ireturn, 1) := by decide +kernel
theorem dX6_bad_0 : decode cX6_bad 0 = .ok (.aload_n 0, 1) := by decide +kernel
theorem dX6_bad_1 : decode cX6_bad 1 = .ok (.getfield 10, 3) := by decide +kernel
theorem dX6_bad_4 : decode cX6_bad 4 = .ok (.iload_n 1, 1) := by decide +kernel
theorem dX6_bad_5 : decode cX6_bad 5 = .ok (.invokevirtual 69, 3) := by decide +kernel
theorem dX6_bad_8 : decode cX6_bad 8 = .ok (.ifCond .ne 6, 3) := by decide +kernel
theorem dX6_bad_11 : decode cX6_bad 11 = .ok (.bipush (-101), 2) := by decide +kernel
theorem dX6_bad_13 : decode cX6_bad 13 = .ok (.ireturn, 1) := by decide +kernel
theorem dX6_bad_14 : decode cX6_bad 14 = .ok (.aload_n 0, 1) := by decide +kernel
theorem dX6_bad_15 : decode cX6_bad 15 = .ok (.getfield 10, 3) := by decide +kernel
theorem dX6_bad_18 : decode cX6_bad 18 = .ok (.getfield 89, 3) := by decide +kernel
theorem dX6_bad_21 : decode cX6_bad 21 = .ok (.iload_n 1, 1) := by decide +kernel
theorem dX6_bad_22 : decode cX6_bad 22 = .ok (.invokestatic 82, 3) := by decide +kernel
theorem dX6_bad_25 : decode cX6_bad 25 = .ok (.istore_n 3, 1) := by decide +kernel
theorem dX6_bad_26 : decode cX6_bad 26 = .ok (.aload_n 0, 1) := by decide +kernel
theorem dX6_bad_27 : decode cX6_bad 27 = .ok (.getfield 10, 3) := by decide +kernel
theorem dX6_bad_30 : decode cX6_bad 30 = .ok (.aload_n 0, 1) := by decide +kernel
theorem dX6_bad_31 : decode cX6_bad 31 = .ok (.getfield 10, 3) := by decide +kernel
theorem dX6_bad_34 : decode cX6_bad 34 = .ok (.getfield 89, 3) := by decide +kernel
theorem dX6_bad_37 : decode cX6_bad 37 = .ok (.iload_n 1, 1) := by decide +kernel
theorem dX6_bad_38 : decode cX6_bad 38 = .ok (.iload_n 2, 1) := by decide +kernel
theorem dX6_bad_39 : decode cX6_bad 39 = .ok (.invokestatic 85, 3) := by decide +kernel
theorem dX6_bad_42 : decode cX6_bad 42 = .ok (.putfield 89, 3) := by decide +kernel
theorem dX6_bad_45 : decode cX6_bad 45 = .ok (.iload_n 3, 1) := by decide +kernel
theorem dX6_bad_46 : decode cX6_bad 46 = .ok (.ireturn, 1) := by decide +kernel
theorem dX6_back_0 : decode cX6_back 0 = .ok (.aload_n 0, 1) := by decide +kernel
theorem dX6_back_1 : decode cX6_back 1 = .ok (.getfield 10, 3) := by decide +kernel
theorem dX6_back_4 : decode cX6_back 4 = .ok (.getfield 62, 3) := by decide +kernel
theorem dX6_back_7 : decode cX6_back 7 = .ok (.ifCond .ne 6, 3) := by decide +kernel
theorem dX6_back_10 : decode cX6_back 10 = .ok (.bipush (-103), 2) := by decide +kernel
theorem dX6_back_12 : decode cX6_back 12 = .ok (.ireturn, 1) := by decide +kernel
theorem dX6_back_13 : decode cX6_back 13 = .ok (.aload_n 0, 1) := by decide +kernel
theorem dX6_back_14 : decode cX6_back 14 = .ok (.getfield 10, 3) := by decide +kernel
theorem dX6_back_17 : decode cX6_back 17 = .ok (.invokevirtual 92, 3) := by decide +kernel
theorem dX6_back_20 : decode cX6_back 20 = .ok (.aload_n 0, 1) := by decide +kernel
theorem dX6_back_21 : decode cX6_back 21 = .ok (.invokevirtual 52, 3) := by decide +kernel
theorem dX6_back_24 : decode cX6_back 24 = .ok (.aload_n 0, 1) := by decide +kernel
theorem dX6_back_25 : decode cX6_back 25 = .ok (.getfield 10, 3) := by decide +kernel
theorem dX6_back_28 : decode cX6_back 28 = .ok (.getfield 62, 3) := by decide +kernel
theorem dX6_back_31 : decode cX6_back 31 = .ok (.ireturn, 1) := by decide +kernel
theorem dX6_told_0 : decode cX6_told 0 = .ok (.aload_n 0, 1) := by decide +kernel
theorem dX6_told_1 : decode cX6_told 1 = .ok (.getfield 10, 3) := by decide +kernel
theorem dX6_told_4 : decode cX6_told 4 = .ok (.iload_n 1, 1) := by decide +kernel
theorem dX6_told_5 : decode cX6_told 5 = .ok (.invokevirtual 69, 3) := by decide +kernel
theorem dX6_told_8 : decode cX6_told 8 = .ok (.ifCond .ne 6, 3) := by decide +kernel
theorem dX6_told_11 : decode cX6_told 11 = .ok (.bipush (-101), 2) := by decide +kernel
theorem dX6_told_13 : decode cX6_told 13 = .ok (.ireturn, 1) := by decide +kernel
theorem dX6_told_14 : decode cX6_told 14 = .ok (.iload_n 2, 1) := by decide +kernel
theorem dX6_told_15 : decode cX6_told 15 = .ok (.tableswitch 73 0 3 #[29, 39, 49, 61], 29) := by decide +kernel
theorem dX6_told_44 : decode cX6_told 44 = .ok (.aload_n 0, 1) := by decide +kernel
theorem dX6_told_45 : decode cX6_told 45 = .ok (.getfield 10, 3) := by decide +kernel
theorem dX6_told_48 : decode cX6_told 48 = .ok (.getfield 76, 3) := by decide +kernel
theorem dX6_told_51 : decode cX6_told 51 = .ok (.iload_n 1, 1) := by decide +kernel
theorem dX6_told_52 : decode cX6_told 52 = .ok (.iaload, 1) := by decide +kernel
theorem dX6_told_53 : decode cX6_told 53 = .ok (.ireturn, 1) := by decide +kernel
theorem dX6_told_54 : decode cX6_told 54 = .ok (.aload_n 0, 1) := by decide +kernel
theorem dX6_told_55 : decode cX6_told 55 = .ok (.getfield 10, 3) := by decide +kernel
theorem dX6_told_58 : decode cX6_told 58 = .ok (.getfield 72, 3) := by decide +kernel
theorem dX6_told_61 : decode cX6_told 61 = .ok (.iload_n 1, 1) := by decide +kernel
theorem dX6_told_62 : decode cX6_told 62 = .ok (.iaload, 1) := by decide +kernel
theorem dX6_told_63 : decode cX6_told 63 = .ok (.ireturn, 1) := by decide +kernel
theorem dX6_told_64 : decode cX6_told 64 = .ok (.aload_n 0, 1) := by decide +kernel
theorem dX6_told_65 : decode cX6_told 65 = .ok (.getfield 10, 3) := by decide +kernel
theorem dX6_told_68 : decode cX6_told 68 = .ok (.getfield 79, 3) := by decide +kernel
theorem dX6_told_71 : decode cX6_told 71 = .ok (.iload_n 1, 1) := by decide +kernel
theorem dX6_told_72 : decode cX6_told 72 = .ok (.invokestatic 82, 3) := by decide +kernel
theorem dX6_told_75 : decode cX6_told 75 = .ok (.ireturn, 1) := by decide +kernel
theorem dX6_told_76 : decode cX6_told 76 = .ok (.aload_n 0, 1) := by decide +kernel
theorem dX6_told_77 : decode cX6_told 77 = .ok (.getfield 10, 3) := by decide +kernel
theorem dX6_told_80 : decode cX6_told 80 = .ok (.getfield 89, 3) := by decide +kernel
theorem dX6_told_83 : decode cX6_told 83 = .ok (.iload_n 1, 1) := by decide +kernel
theorem dX6_told_84 : decode cX6_told 84 = .ok (.invokestatic 82, 3) := by decide +kernel
theorem dX6_told_87 : decode cX6_told 87 = .ok (.ireturn, 1) := by decide +kernel
theorem dX6_told_88 : decode cX6_told 88 = .ok (.bipush (-102), 2) := by decide +kernel
theorem dX6_told_90 : decode cX6_told 90 = .ok (.ireturn, 1) := by decide +kernel
theorem dX6_count_0 : decode cX6_count 0 = .ok (.iload_n 1, 1) := by decide +kernel
theorem dX6_count_1 : decode cX6_count 1 = .ok (.tableswitch 137 0 8 #[51, 59, 67, 78, 90, 101, 106, 121, 129], 51) := by decide +kernel
theorem dX6_count_52 : decode cX6_count 52 = .ok (.aload_n 0, 1) := by decide +kernel
theorem dX6_count_53 : decode cX6_count 53 = .ok (.getfield 10, 3) := by decide +kernel
theorem dX6_count_56 : decode cX6_count 56 = .ok (.getfield 44, 3) := by decide +kernel
theorem dX6_count_59 : decode cX6_count 59 = .ok (.ireturn, 1) := by decide +kernel
theorem dX6_count_60 : decode cX6_count 60 = .ok (.aload_n 0, 1) := by decide +kernel
theorem dX6_count_61 : decode cX6_count 61 = .ok (.getfield 10, 3) := by decide +kernel
theorem dX6_count_64 : decode cX6_count 64 = .ok (.getfield 62, 3) := by decide +kernel
theorem dX6_count_67 : decode cX6_count 67 = .ok (.ireturn, 1) := by decide +kernel
theorem dX6_count_68 : decode cX6_count 68 = .ok (.aload_n 0, 1) := by decide +kernel
theorem dX6_count_69 : decode cX6_count 69 = .ok (.getfield 10, 3) := by decide +kernel
theorem dX6_count_72 : decode cX6_count 72 = .ok (.getfield 79, 3) := by decide +kernel
theorem dX6_count_75 : decode cX6_count 75 = .ok (.invokestatic 95, 3) := by decide +kernel
theorem dX6_count_78 : decode cX6_count 78 = .ok (.ireturn, 1) := by decide +kernel
theorem dX6_count_79 : decode cX6_count 79 = .ok (.aload_n 0, 1) := by decide +kernel
theorem dX6_count_80 : decode cX6_count 80 = .ok (.getfield 33, 3) := by decide +kernel
theorem dX6_count_83 : decode cX6_count 83 = .ok (.aload_n 0, 1) := by decide +kernel
theorem dX6_count_84 : decode cX6_count 84 = .ok (.getfield 10, 3) := by decide +kernel
theorem dX6_count_87 : decode cX6_count 87 = .ok (.invokevirtual 101, 3) := by decide +kernel
theorem dX6_count_90 : decode cX6_count 90 = .ok (.ireturn, 1) := by decide +kernel
theorem dX6_count_91 : decode cX6_count 91 = .ok (.aload_n 0, 1) := by decide +kernel
theorem dX6_count_92 : decode cX6_count 92 = .ok (.getfield 10, 3) := by decide +kernel
theorem dX6_count_95 : decode cX6_count 95 = .ok (.invokevirtual 105, 3) := by decide +kernel
theorem dX6_count_98 : decode cX6_count 98 = .ok (.invokestatic 95, 3) := by decide +kernel
theorem dX6_count_101 : decode cX6_count 101 = .ok (.ireturn, 1) := by decide +kernel
theorem dX6_count_102 : decode cX6_count 102 = .ok (.aload_n 0, 1) := by decide +kernel
theorem dX6_count_103 : decode cX6_count 103 = .ok (.invokevirtual 109, 3) := by decide +kernel
theorem dX6_count_106 : decode cX6_count 106 = .ok (.ireturn, 1) := by decide +kernel
theorem dX6_count_107 : decode cX6_count 107 = .ok (.aload_n 0, 1) := by decide +kernel
theorem dX6_count_108 : decode cX6_count 108 = .ok (.getfield 33, 3) := by decide +kernel
theorem dX6_count_111 : decode cX6_count 111 = .ok (.aload_n 0, 1) := by decide +kernel
theorem dX6_count_112 : decode cX6_count 112 = .ok (.getfield 10, 3) := by decide +kernel
theorem dX6_count_115 : decode cX6_count 115 = .ok (.invokevirtual 112, 3) := by decide +kernel
theorem dX6_count_118 : decode cX6_count 118 = .ok (.invokestatic 95, 3) := by decide +kernel
theorem dX6_count_121 : decode cX6_count 121 = .ok (.ireturn, 1) := by decide +kernel
theorem dX6_count_122 : decode cX6_count 122 = .ok (.aload_n 0, 1) := by decide +kernel
theorem dX6_count_123 : decode cX6_count 123 = .ok (.getfield 10, 3) := by decide +kernel
theorem dX6_count_126 : decode cX6_count 126 = .ok (.invokevirtual 115, 3) := by decide +kernel
theorem dX6_count_129 : decode cX6_count 129 = .ok (.ireturn, 1) := by decide +kernel
theorem dX6_count_130 : decode cX6_count 130 = .ok (.aload_n 0, 1) := by decide +kernel
theorem dX6_count_131 : decode cX6_count 131 = .ok (.getfield 10, 3) := by decide +kernel
theorem dX6_count_134 : decode cX6_count 134 = .ok (.getfield 118, 3) := by decide +kernel
theorem dX6_count_137 : decode cX6_count 137 = .ok (.ireturn, 1) := by decide +kernel
theorem dX6_count_138 : decode cX6_count 138 = .ok (.bipush (-102), 2) := by decide +kernel
theorem dX6_count_140 : decode cX6_count 140 = .ok (.ireturn, 1) := by decide +kernel
theorem dX6_fits_0 : decode cX6_fits 0 = .ok (.aload_n 0, 1) := by decide +kernel
theorem dX6_fits_1 : decode cX6_fits 1 = .ok (.getfield 19, 3) := by decide +kernel
theorem dX6_fits_4 : decode cX6_fits 4 = .ok (.aload_n 0, 1) := by decide +kernel
theorem dX6_fits_5 : decode cX6_fits 5 = .ok (.getfield 10, 3) := by decide +kernel
theorem dX6_fits_8 : decode cX6_fits 8 = .ok (.aload_n 0, 1) := by decide +kernel
theorem dX6_fits_9 : decode cX6_fits 9 = .ok (.getfield 10, 3) := by decide +kernel
theorem dX6_fits_12 : decode cX6_fits 12 = .ok (.getfield 79, 3) := by decide +kernel
theorem dX6_fits_15 : decode cX6_fits 15 = .ok (.invokevirtual 121, 3) := by decide +kernel
theorem dX6_fits_18 : decode cX6_fits 18 = .ok (.ifCond .eq 7, 3) := by decide +kernel
theorem dX6_fits_21 : decode cX6_fits 21 = .ok (.iconst 1, 1) := by decide +kernel
theorem dX6_fits_22 : decode cX6_fits 22 = .ok (.goto 4, 3) := by decide +kernel
theorem dX6_fits_25 : decode cX6_fits 25 = .ok (.iconst 0, 1) := by decide +kernel
theorem dX6_fits_26 : decode cX6_fits 26 = .ok (.ireturn, 1) := by decide +kernel
theorem dX6_bound_0 : decode cX6_bound 0 = .ok (.aload_n 0, 1) := by decide +kernel
theorem dX6_bound_1 : decode cX6_bound 1 = .ok (.getfield 10, 3) := by decide +kernel
theorem dX6_bound_4 : decode cX6_bound 4 = .ok (.iload_n 1, 1) := by decide +kernel
theorem dX6_bound_5 : decode cX6_bound 5 = .ok (.invokevirtual 125, 3) := by decide +kernel
theorem dX6_bound_8 : decode cX6_bound 8 = .ok (.ifCond .eq 17, 3) := by decide +kernel
theorem dX6_bound_11 : decode cX6_bound 11 = .ok (.iload_n 2, 1) := by decide +kernel
theorem dX6_bound_12 : decode cX6_bound 12 = .ok (.invokestatic 128, 3) := by decide +kernel
theorem dX6_bound_15 : decode cX6_bound 15 = .ok (.ifCond .eq 10, 3) := by decide +kernel
theorem dX6_bound_18 : decode cX6_bound 18 = .ok (.iload_n 3, 1) := by decide +kernel
theorem dX6_bound_19 : decode cX6_bound 19 = .ok (.invokestatic 128, 3) := by decide +kernel
theorem dX6_bound_22 : decode cX6_bound 22 = .ok (.ifCond .ne 7, 3) := by decide +kernel
theorem dX6_bound_25 : decode cX6_bound 25 = .ok (.ldc2_w 131, 3) := by decide +kernel
theorem dX6_bound_28 : decode cX6_bound 28 = .ok (.lreturn, 1) := by decide +kernel
theorem dX6_bound_29 : decode cX6_bound 29 = .ok (.aload_n 0, 1) := by decide +kernel
theorem dX6_bound_30 : decode cX6_bound 30 = .ok (.getfield 19, 3) := by decide +kernel
theorem dX6_bound_33 : decode cX6_bound 33 = .ok (.aload_n 0, 1) := by decide +kernel
theorem dX6_bound_34 : decode cX6_bound 34 = .ok (.getfield 10, 3) := by decide +kernel
theorem dX6_bound_37 : decode cX6_bound 37 = .ok (.aload_n 0, 1) := by decide +kernel
theorem dX6_bound_38 : decode cX6_bound 38 = .ok (.getfield 10, 3) := by decide +kernel
theorem dX6_bound_41 : decode cX6_bound 41 = .ok (.getfield 79, 3) := by decide +kernel
theorem dX6_bound_44 : decode cX6_bound 44 = .ok (.invokevirtual 121, 3) := by decide +kernel
theorem dX6_bound_47 : decode cX6_bound 47 = .ok (.ifCond .ne 7, 3) := by decide +kernel
theorem dX6_bound_50 : decode cX6_bound 50 = .ok (.ldc2_w 133, 3) := by decide +kernel
theorem dX6_bound_53 : decode cX6_bound 53 = .ok (.lreturn, 1) := by decide +kernel
theorem dX6_bound_54 : decode cX6_bound 54 = .ok (.aload_n 0, 1) := by decide +kernel
theorem dX6_bound_55 : decode cX6_bound 55 = .ok (.iload_n 1, 1) := by decide +kernel
theorem dX6_bound_56 : decode cX6_bound 56 = .ok (.iload_n 2, 1) := by decide +kernel
theorem dX6_bound_57 : decode cX6_bound 57 = .ok (.invokevirtual 135, 3) := by decide +kernel
theorem dX6_bound_60 : decode cX6_bound 60 = .ok (.ifCond .eq 7, 3) := by decide +kernel
theorem dX6_bound_63 : decode cX6_bound 63 = .ok (.ldc2_w 139, 3) := by decide +kernel
theorem dX6_bound_66 : decode cX6_bound 66 = .ok (.lreturn, 1) := by decide +kernel
theorem dX6_bound_67 : decode cX6_bound 67 = .ok (.aload_n 0, 1) := by decide +kernel
theorem dX6_bound_68 : decode cX6_bound 68 = .ok (.getfield 19, 3) := by decide +kernel
theorem dX6_bound_71 : decode cX6_bound 71 = .ok (.iload_n 1, 1) := by decide +kernel
theorem dX6_bound_72 : decode cX6_bound 72 = .ok (.iload_n 2, 1) := by decide +kernel
theorem dX6_bound_73 : decode cX6_bound 73 = .ok (.invokevirtual 141, 3) := by decide +kernel
theorem dX6_bound_76 : decode cX6_bound 76 = .ok (.aload_n 0, 1) := by decide +kernel
theorem dX6_bound_77 : decode cX6_bound 77 = .ok (.getfield 19, 3) := by decide +kernel
theorem dX6_bound_80 : decode cX6_bound 80 = .ok (.iload_n 1, 1) := by decide +kernel
theorem dX6_bound_81 : decode cX6_bound 81 = .ok (.invokevirtual 145, 3) := by decide +kernel
theorem dX6_bound_84 : decode cX6_bound 84 = .ok (.aload_n 0, 1) := by decide +kernel
theorem dX6_bound_85 : decode cX6_bound 85 = .ok (.getfield 19, 3) := by decide +kernel
theorem dX6_bound_88 : decode cX6_bound 88 = .ok (.getfield 149, 3) := by decide +kernel
theorem dX6_bound_91 : decode cX6_bound 91 = .ok (.iload_n 3, 1) := by decide +kernel
theorem dX6_bound_92 : decode cX6_bound 92 = .ok (.invokestatic 153, 3) := by decide +kernel
theorem dX6_bound_95 : decode cX6_bound 95 = .ok (.lreturn, 1) := by decide +kernel
theorem dX6_shown_0 : decode cX6_shown 0 = .ok (.aload_n 0, 1) := by decide +kernel
theorem dX6_shown_1 : decode cX6_shown 1 = .ok (.getfield 10, 3) := by decide +kernel
theorem dX6_shown_4 : decode cX6_shown 4 = .ok (.iload_n 3, 1) := by decide +kernel
theorem dX6_shown_5 : decode cX6_shown 5 = .ok (.invokevirtual 157, 3) := by decide +kernel
theorem dX6_shown_8 : decode cX6_shown 8 = .ok (.ifCond .ne 7, 3) := by decide +kernel
theorem dX6_shown_11 : decode cX6_shown 11 = .ok (.ldc2_w 160, 3) := by decide +kernel
theorem dX6_shown_14 : decode cX6_shown 14 = .ok (.lreturn, 1) := by decide +kernel
theorem dX6_shown_15 : decode cX6_shown 15 = .ok (.aload_n 0, 1) := by decide +kernel
theorem dX6_shown_16 : decode cX6_shown 16 = .ok (.getfield 10, 3) := by decide +kernel
theorem dX6_shown_19 : decode cX6_shown 19 = .ok (.iload_n 1, 1) := by decide +kernel
theorem dX6_shown_20 : decode cX6_shown 20 = .ok (.invokevirtual 125, 3) := by decide +kernel
theorem dX6_shown_23 : decode cX6_shown 23 = .ok (.ifCond .eq 18, 3) := by decide +kernel
theorem dX6_shown_26 : decode cX6_shown 26 = .ok (.iload_n 2, 1) := by decide +kernel
theorem dX6_shown_27 : decode cX6_shown 27 = .ok (.invokestatic 128, 3) := by decide +kernel
theorem dX6_shown_30 : decode cX6_shown 30 = .ok (.ifCond .eq 11, 3) := by decide +kernel
theorem dX6_shown_33 : decode cX6_shown 33 = .ok (.iload 4, 2) := by decide +kernel
theorem dX6_shown_35 : decode cX6_shown 35 = .ok (.invokestatic 128, 3) := by decide +kernel
theorem dX6_shown_38 : decode cX6_shown 38 = .ok (.ifCond .ne 7, 3) := by decide +kernel
theorem dX6_shown_41 : decode cX6_shown 41 = .ok (.ldc2_w 131, 3) := by decide +kernel
theorem dX6_shown_44 : decode cX6_shown 44 = .ok (.lreturn, 1) := by decide +kernel
theorem dX6_shown_45 : decode cX6_shown 45 = .ok (.aload_n 0, 1) := by decide +kernel
theorem dX6_shown_46 : decode cX6_shown 46 = .ok (.getfield 19, 3) := by decide +kernel
theorem dX6_shown_49 : decode cX6_shown 49 = .ok (.aload_n 0, 1) := by decide +kernel
theorem dX6_shown_50 : decode cX6_shown 50 = .ok (.getfield 10, 3) := by decide +kernel
theorem dX6_shown_53 : decode cX6_shown 53 = .ok (.aload_n 0, 1) := by decide +kernel
theorem dX6_shown_54 : decode cX6_shown 54 = .ok (.getfield 10, 3) := by decide +kernel
theorem dX6_shown_57 : decode cX6_shown 57 = .ok (.getfield 79, 3) := by decide +kernel
theorem dX6_shown_60 : decode cX6_shown 60 = .ok (.invokevirtual 121, 3) := by decide +kernel
theorem dX6_shown_63 : decode cX6_shown 63 = .ok (.ifCond .ne 7, 3) := by decide +kernel
theorem dX6_shown_66 : decode cX6_shown 66 = .ok (.ldc2_w 133, 3) := by decide +kernel
theorem dX6_shown_69 : decode cX6_shown 69 = .ok (.lreturn, 1) := by decide +kernel
theorem dX6_shown_70 : decode cX6_shown 70 = .ok (.aload_n 0, 1) := by decide +kernel
theorem dX6_shown_71 : decode cX6_shown 71 = .ok (.iload_n 1, 1) := by decide +kernel
theorem dX6_shown_72 : decode cX6_shown 72 = .ok (.iload_n 2, 1) := by decide +kernel
theorem dX6_shown_73 : decode cX6_shown 73 = .ok (.invokevirtual 135, 3) := by decide +kernel
theorem dX6_shown_76 : decode cX6_shown 76 = .ok (.ifCond .eq 7, 3) := by decide +kernel
theorem dX6_shown_79 : decode cX6_shown 79 = .ok (.ldc2_w 139, 3) := by decide +kernel
theorem dX6_shown_82 : decode cX6_shown 82 = .ok (.lreturn, 1) := by decide +kernel
theorem dX6_shown_83 : decode cX6_shown 83 = .ok (.aload_n 0, 1) := by decide +kernel
theorem dX6_shown_84 : decode cX6_shown 84 = .ok (.getfield 19, 3) := by decide +kernel
theorem dX6_shown_87 : decode cX6_shown 87 = .ok (.iload_n 1, 1) := by decide +kernel
theorem dX6_shown_88 : decode cX6_shown 88 = .ok (.iload_n 2, 1) := by decide +kernel
theorem dX6_shown_89 : decode cX6_shown 89 = .ok (.invokevirtual 141, 3) := by decide +kernel
theorem dX6_shown_92 : decode cX6_shown 92 = .ok (.aload_n 0, 1) := by decide +kernel
theorem dX6_shown_93 : decode cX6_shown 93 = .ok (.getfield 19, 3) := by decide +kernel
theorem dX6_shown_96 : decode cX6_shown 96 = .ok (.iload_n 3, 1) := by decide +kernel
theorem dX6_shown_97 : decode cX6_shown 97 = .ok (.invokevirtual 162, 3) := by decide +kernel
theorem dX6_shown_100 : decode cX6_shown 100 = .ok (.aload_n 0, 1) := by decide +kernel
theorem dX6_shown_101 : decode cX6_shown 101 = .ok (.getfield 19, 3) := by decide +kernel
theorem dX6_shown_104 : decode cX6_shown 104 = .ok (.iconst 1, 1) := by decide +kernel
theorem dX6_shown_105 : decode cX6_shown 105 = .ok (.iload_n 3, 1) := by decide +kernel
theorem dX6_shown_106 : decode cX6_shown 106 = .ok (.ishl, 1) := by decide +kernel
theorem dX6_shown_107 : decode cX6_shown 107 = .ok (.invokevirtual 145, 3) := by decide +kernel
theorem dX6_shown_110 : decode cX6_shown 110 = .ok (.aload_n 0, 1) := by decide +kernel
theorem dX6_shown_111 : decode cX6_shown 111 = .ok (.getfield 19, 3) := by decide +kernel
theorem dX6_shown_114 : decode cX6_shown 114 = .ok (.getfield 149, 3) := by decide +kernel
theorem dX6_shown_117 : decode cX6_shown 117 = .ok (.iload 4, 2) := by decide +kernel
theorem dX6_shown_119 : decode cX6_shown 119 = .ok (.invokestatic 153, 3) := by decide +kernel
theorem dX6_shown_122 : decode cX6_shown 122 = .ok (.lreturn, 1) := by decide +kernel
theorem dX6_settled_0 : decode cX6_settled 0 = .ok (.aload_n 0, 1) := by decide +kernel
theorem dX6_settled_1 : decode cX6_settled 1 = .ok (.getfield 10, 3) := by decide +kernel
theorem dX6_settled_4 : decode cX6_settled 4 = .ok (.iload_n 1, 1) := by decide +kernel
theorem dX6_settled_5 : decode cX6_settled 5 = .ok (.invokevirtual 157, 3) := by decide +kernel
theorem dX6_settled_8 : decode cX6_settled 8 = .ok (.ifCond .ne 6, 3) := by decide +kernel
theorem dX6_settled_11 : decode cX6_settled 11 = .ok (.bipush (-101), 2) := by decide +kernel
theorem dX6_settled_13 : decode cX6_settled 13 = .ok (.ireturn, 1) := by decide +kernel
theorem dX6_settled_14 : decode cX6_settled 14 = .ok (.aload_n 0, 1) := by decide +kernel
theorem dX6_settled_15 : decode cX6_settled 15 = .ok (.getfield 19, 3) := by decide +kernel
theorem dX6_settled_18 : decode cX6_settled 18 = .ok (.aload_n 0, 1) := by decide +kernel
theorem dX6_settled_19 : decode cX6_settled 19 = .ok (.getfield 10, 3) := by decide +kernel
theorem dX6_settled_22 : decode cX6_settled 22 = .ok (.aload_n 0, 1) := by decide +kernel
theorem dX6_settled_23 : decode cX6_settled 23 = .ok (.getfield 10, 3) := by decide +kernel
theorem dX6_settled_26 : decode cX6_settled 26 = .ok (.getfield 79, 3) := by decide +kernel
theorem dX6_settled_29 : decode cX6_settled 29 = .ok (.invokevirtual 121, 3) := by decide +kernel
theorem dX6_settled_32 : decode cX6_settled 32 = .ok (.ifCond .ne 6, 3) := by decide +kernel
theorem dX6_settled_35 : decode cX6_settled 35 = .ok (.bipush (-103), 2) := by decide +kernel
theorem dX6_settled_37 : decode cX6_settled 37 = .ok (.ireturn, 1) := by decide +kernel
theorem dX6_settled_38 : decode cX6_settled 38 = .ok (.aload_n 0, 1) := by decide +kernel
theorem dX6_settled_39 : decode cX6_settled 39 = .ok (.iload_n 1, 1) := by decide +kernel
theorem dX6_settled_40 : decode cX6_settled 40 = .ok (.invokevirtual 165, 3) := by decide +kernel
theorem dX6_settled_43 : decode cX6_settled 43 = .ok (.ifCond .eq 7, 3) := by decide +kernel
theorem dX6_settled_46 : decode cX6_settled 46 = .ok (.iconst 1, 1) := by decide +kernel
theorem dX6_settled_47 : decode cX6_settled 47 = .ok (.goto 4, 3) := by decide +kernel
theorem dX6_settled_50 : decode cX6_settled 50 = .ok (.iconst 0, 1) := by decide +kernel
theorem dX6_settled_51 : decode cX6_settled 51 = .ok (.ireturn, 1) := by decide +kernel
theorem dX6_known_0 : decode cX6_known 0 = .ok (.aload_n 0, 1) := by decide +kernel
theorem dX6_known_1 : decode cX6_known 1 = .ok (.getfield 10, 3) := by decide +kernel
theorem dX6_known_4 : decode cX6_known 4 = .ok (.iload_n 1, 1) := by decide +kernel
theorem dX6_known_5 : decode cX6_known 5 = .ok (.invokevirtual 157, 3) := by decide +kernel
theorem dX6_known_8 : decode cX6_known 8 = .ok (.ifCond .ne 6, 3) := by decide +kernel
theorem dX6_known_11 : decode cX6_known 11 = .ok (.bipush (-101), 2) := by decide +kernel
theorem dX6_known_13 : decode cX6_known 13 = .ok (.ireturn, 1) := by decide +kernel
theorem dX6_known_14 : decode cX6_known 14 = .ok (.aload_n 0, 1) := by decide +kernel
theorem dX6_known_15 : decode cX6_known 15 = .ok (.getfield 33, 3) := by decide +kernel
theorem dX6_known_18 : decode cX6_known 18 = .ok (.aload_n 0, 1) := by decide +kernel
theorem dX6_known_19 : decode cX6_known 19 = .ok (.getfield 10, 3) := by decide +kernel
theorem dX6_known_22 : decode cX6_known 22 = .ok (.invokevirtual 112, 3) := by decide +kernel
theorem dX6_known_25 : decode cX6_known 25 = .ok (.iload_n 1, 1) := by decide +kernel
theorem dX6_known_26 : decode cX6_known 26 = .ok (.invokestatic 82, 3) := by decide +kernel
theorem dX6_known_29 : decode cX6_known 29 = .ok (.ireturn, 1) := by decide +kernel
theorem dX6_group_0 : decode cX6_group 0 = .ok (.aload_n 0, 1) := by decide +kernel
theorem dX6_group_1 : decode cX6_group 1 = .ok (.getfield 10, 3) := by decide +kernel
theorem dX6_group_4 : decode cX6_group 4 = .ok (.iload_n 1, 1) := by decide +kernel
theorem dX6_group_5 : decode cX6_group 5 = .ok (.invokevirtual 157, 3) := by decide +kernel
theorem dX6_group_8 : decode cX6_group 8 = .ok (.ifCond .ne 6, 3) := by decide +kernel
theorem dX6_group_11 : decode cX6_group 11 = .ok (.bipush (-101), 2) := by decide +kernel
theorem dX6_group_13 : decode cX6_group 13 = .ok (.ireturn, 1) := by decide +kernel
theorem dX6_group_14 : decode cX6_group 14 = .ok (.aload_n 0, 1) := by decide +kernel
theorem dX6_group_15 : decode cX6_group 15 = .ok (.getfield 10, 3) := by decide +kernel
theorem dX6_group_18 : decode cX6_group 18 = .ok (.iload_n 1, 1) := by decide +kernel
theorem dX6_group_19 : decode cX6_group 19 = .ok (.invokevirtual 168, 3) := by decide +kernel
theorem dX6_group_22 : decode cX6_group 22 = .ok (.ireturn, 1) := by decide +kernel
theorem dX6_lying_0 : decode cX6_lying 0 = .ok (.aload_n 0, 1) := by decide +kernel
theorem dX6_lying_1 : decode cX6_lying 1 = .ok (.getfield 26, 3) := by decide +kernel
theorem dX6_lying_4 : decode cX6_lying 4 = .ok (.aload_n 0, 1) := by decide +kernel
theorem dX6_lying_5 : decode cX6_lying 5 = .ok (.getfield 10, 3) := by decide +kernel
theorem dX6_lying_8 : decode cX6_lying 8 = .ok (.aload_n 0, 1) := by decide +kernel
theorem dX6_lying_9 : decode cX6_lying 9 = .ok (.getfield 19, 3) := by decide +kernel
theorem dX6_lying_12 : decode cX6_lying 12 = .ok (.invokevirtual 171, 3) := by decide +kernel
theorem dX6_lying_15 : decode cX6_lying 15 = .ok (.iload_n 1, 1) := by decide +kernel
theorem dX6_lying_16 : decode cX6_lying 16 = .ok (.invokevirtual 175, 3) := by decide +kernel
theorem dX6_lying_19 : decode cX6_lying 19 = .ok (.ireturn, 1) := by decide +kernel
theorem dX6_offer_0 : decode cX6_offer 0 = .ok (.aload_n 0, 1) := by decide +kernel
theorem dX6_offer_1 : decode cX6_offer 1 = .ok (.getfield 10, 3) := by decide +kernel
theorem dX6_offer_4 : decode cX6_offer 4 = .ok (.iload_n 1, 1) := by decide +kernel
theorem dX6_offer_5 : decode cX6_offer 5 = .ok (.invokevirtual 55, 3) := by decide +kernel
theorem dX6_offer_8 : decode cX6_offer 8 = .ok (.ifCond .ne 6, 3) := by decide +kernel
theorem dX6_offer_11 : decode cX6_offer 11 = .ok (.bipush (-102), 2) := by decide +kernel
theorem dX6_offer_13 : decode cX6_offer 13 = .ok (.ireturn, 1) := by decide +kernel
theorem dX6_offer_14 : decode cX6_offer 14 = .ok (.aload_n 0, 1) := by decide +kernel
theorem dX6_offer_15 : decode cX6_offer 15 = .ok (.getfield 10, 3) := by decide +kernel
theorem dX6_offer_18 : decode cX6_offer 18 = .ok (.getfield 118, 3) := by decide +kernel
theorem dX6_offer_21 : decode cX6_offer 21 = .ok (.bipush 10, 2) := by decide +kernel
theorem dX6_offer_23 : decode cX6_offer 23 = .ok (.if_icmp .lt 6, 3) := by decide +kernel
theorem dX6_offer_26 : decode cX6_offer 26 = .ok (.bipush (-104), 2) := by decide +kernel
theorem dX6_offer_28 : decode cX6_offer 28 = .ok (.ireturn, 1) := by decide +kernel
theorem dX6_offer_29 : decode cX6_offer 29 = .ok (.aload_n 0, 1) := by decide +kernel
theorem dX6_offer_30 : decode cX6_offer 30 = .ok (.getfield 10, 3) := by decide +kernel
theorem dX6_offer_33 : decode cX6_offer 33 = .ok (.iload_n 1, 1) := by decide +kernel
theorem dX6_offer_34 : decode cX6_offer 34 = .ok (.invokevirtual 180, 3) := by decide +kernel
theorem dX6_offer_37 : decode cX6_offer 37 = .ok (.ireturn, 1) := by decide +kernel
theorem dX6_offered_0 : decode cX6_offered 0 = .ok (.aload_n 0, 1) := by decide +kernel
theorem dX6_offered_1 : decode cX6_offered 1 = .ok (.getfield 10, 3) := by decide +kernel
theorem dX6_offered_4 : decode cX6_offered 4 = .ok (.iload_n 1, 1) := by decide +kernel
theorem dX6_offered_5 : decode cX6_offered 5 = .ok (.invokevirtual 183, 3) := by decide +kernel
theorem dX6_offered_8 : decode cX6_offered 8 = .ok (.ifCond .ne 6, 3) := by decide +kernel
theorem dX6_offered_11 : decode cX6_offered 11 = .ok (.bipush (-101), 2) := by decide +kernel
theorem dX6_offered_13 : decode cX6_offered 13 = .ok (.ireturn, 1) := by decide +kernel
theorem dX6_offered_14 : decode cX6_offered 14 = .ok (.aload_n 0, 1) := by decide +kernel
theorem dX6_offered_15 : decode cX6_offered 15 = .ok (.getfield 10, 3) := by decide +kernel
theorem dX6_offered_18 : decode cX6_offered 18 = .ok (.iload_n 2, 1) := by decide +kernel
theorem dX6_offered_19 : decode cX6_offered 19 = .ok (.invokevirtual 55, 3) := by decide +kernel
theorem dX6_offered_22 : decode cX6_offered 22 = .ok (.ifCond .ne 6, 3) := by decide +kernel
theorem dX6_offered_25 : decode cX6_offered 25 = .ok (.bipush (-102), 2) := by decide +kernel
theorem dX6_offered_27 : decode cX6_offered 27 = .ok (.ireturn, 1) := by decide +kernel
theorem dX6_offered_28 : decode cX6_offered 28 = .ok (.aload_n 0, 1) := by decide +kernel
theorem dX6_offered_29 : decode cX6_offered 29 = .ok (.getfield 10, 3) := by decide +kernel
theorem dX6_offered_32 : decode cX6_offered 32 = .ok (.getfield 186, 3) := by decide +kernel
theorem dX6_offered_35 : decode cX6_offered 35 = .ok (.iload_n 1, 1) := by decide +kernel
theorem dX6_offered_36 : decode cX6_offered 36 = .ok (.iaload, 1) := by decide +kernel
theorem dX6_offered_37 : decode cX6_offered 37 = .ok (.istore_n 3, 1) := by decide +kernel
theorem dX6_offered_38 : decode cX6_offered 38 = .ok (.aload_n 0, 1) := by decide +kernel
theorem dX6_offered_39 : decode cX6_offered 39 = .ok (.getfield 10, 3) := by decide +kernel
theorem dX6_offered_42 : decode cX6_offered 42 = .ok (.getfield 186, 3) := by decide +kernel
theorem dX6_offered_45 : decode cX6_offered 45 = .ok (.iload_n 1, 1) := by decide +kernel
theorem dX6_offered_46 : decode cX6_offered 46 = .ok (.iload_n 2, 1) := by decide +kernel
theorem dX6_offered_47 : decode cX6_offered 47 = .ok (.iastore, 1) := by decide +kernel
theorem dX6_offered_48 : decode cX6_offered 48 = .ok (.iload_n 3, 1) := by decide +kernel
theorem dX6_offered_49 : decode cX6_offered 49 = .ok (.ireturn, 1) := by decide +kernel
theorem dX6_advice_0 : decode cX6_advice 0 = .ok (.aload_n 0, 1) := by decide +kernel
theorem dX6_advice_1 : decode cX6_advice 1 = .ok (.getfield 10, 3) := by decide +kernel
theorem dX6_advice_4 : decode cX6_advice 4 = .ok (.iload_n 1, 1) := by decide +kernel
theorem dX6_advice_5 : decode cX6_advice 5 = .ok (.invokevirtual 125, 3) := by decide +kernel
theorem dX6_advice_8 : decode cX6_advice 8 = .ok (.ifCond .ne 6, 3) := by decide +kernel
theorem dX6_advice_11 : decode cX6_advice 11 = .ok (.bipush (-102), 2) := by decide +kernel
theorem dX6_advice_13 : decode cX6_advice 13 = .ok (.ireturn, 1) := by decide +kernel
theorem dX6_advice_14 : decode cX6_advice 14 = .ok (.aload_n 0, 1) := by decide +kernel
theorem dX6_advice_15 : decode cX6_advice 15 = .ok (.getfield 33, 3) := by decide +kernel
theorem dX6_advice_18 : decode cX6_advice 18 = .ok (.aload_n 0, 1) := by decide +kernel
theorem dX6_advice_19 : decode cX6_advice 19 = .ok (.getfield 10, 3) := by decide +kernel
theorem dX6_advice_22 : decode cX6_advice 22 = .ok (.iload_n 1, 1) := by decide +kernel
theorem dX6_advice_23 : decode cX6_advice 23 = .ok (.invokevirtual 189, 3) := by decide +kernel
theorem dX6_advice_26 : decode cX6_advice 26 = .ok (.ireturn, 1) := by decide +kernel
theorem dX6_sick_0 : decode cX6_sick 0 = .ok (.aload_n 0, 1) := by decide +kernel
theorem dX6_sick_1 : decode cX6_sick 1 = .ok (.getfield 40, 3) := by decide +kernel
theorem dX6_sick_4 : decode cX6_sick 4 = .ok (.aload_n 0, 1) := by decide +kernel
theorem dX6_sick_5 : decode cX6_sick 5 = .ok (.getfield 10, 3) := by decide +kernel
theorem dX6_sick_8 : decode cX6_sick 8 = .ok (.invokevirtual 193, 3) := by decide +kernel
theorem dX6_sick_11 : decode cX6_sick 11 = .ok (.iload_n 1, 1) := by decide +kernel
theorem dX6_sick_12 : decode cX6_sick 12 = .ok (.invokevirtual 175, 3) := by decide +kernel
theorem dX6_sick_15 : decode cX6_sick 15 = .ok (.ireturn, 1) := by decide +kernel
theorem dX6_pair_0 : decode cX6_pair 0 = .ok (.iload_n 1, 1) := by decide +kernel
theorem dX6_pair_1 : decode cX6_pair 1 = .ok (.iload_n 2, 1) := by decide +kernel
theorem dX6_pair_2 : decode cX6_pair 2 = .ok (.iload_n 3, 1) := by decide +kernel
theorem dX6_pair_3 : decode cX6_pair 3 = .ok (.iload 4, 2) := by decide +kernel
theorem dX6_pair_5 : decode cX6_pair 5 = .ok (.invokestatic 196, 3) := by decide +kernel
theorem dX6_pair_8 : decode cX6_pair 8 = .ok (.ifCond .eq 22, 3) := by decide +kernel
theorem dX6_pair_11 : decode cX6_pair 11 = .ok (.iload 5, 2) := by decide +kernel
theorem dX6_pair_13 : decode cX6_pair 13 = .ok (.ifCond .lt 17, 3) := by decide +kernel
theorem dX6_pair_16 : decode cX6_pair 16 = .ok (.iload 5, 2) := by decide +kernel
theorem dX6_pair_18 : decode cX6_pair 18 = .ok (.iconst 2, 1) := by decide +kernel
theorem dX6_pair_19 : decode cX6_pair 19 = .ok (.if_icmp .gt 11, 3) := by decide +kernel
theorem dX6_pair_22 : decode cX6_pair 22 = .ok (.iload 6, 2) := by decide +kernel
theorem dX6_pair_24 : decode cX6_pair 24 = .ok (.invokestatic 128, 3) := by decide +kernel
theorem dX6_pair_27 : decode cX6_pair 27 = .ok (.ifCond .ne 7, 3) := by decide +kernel
theorem dX6_pair_30 : decode cX6_pair 30 = .ok (.ldc2_w 131, 3) := by decide +kernel
theorem dX6_pair_33 : decode cX6_pair 33 = .ok (.lreturn, 1) := by decide +kernel
theorem dX6_pair_34 : decode cX6_pair 34 = .ok (.iload 4, 2) := by decide +kernel
theorem dX6_pair_36 : decode cX6_pair 36 = .ok (.ifCond .ne 7, 3) := by decide +kernel
theorem dX6_pair_39 : decode cX6_pair 39 = .ok (.ldc2_w 133, 3) := by decide +kernel
theorem dX6_pair_42 : decode cX6_pair 42 = .ok (.lreturn, 1) := by decide +kernel
theorem dX6_pair_43 : decode cX6_pair 43 = .ok (.iload 5, 2) := by decide +kernel
theorem dX6_pair_45 : decode cX6_pair 45 = .ok (.ifCond .ne 20, 3) := by decide +kernel
theorem dX6_pair_48 : decode cX6_pair 48 = .ok (.iload_n 2, 1) := by decide +kernel
theorem dX6_pair_49 : decode cX6_pair 49 = .ok (.i2l, 1) := by decide +kernel
theorem dX6_pair_50 : decode cX6_pair 50 = .ok (.iload_n 3, 1) := by decide +kernel
theorem dX6_pair_51 : decode cX6_pair 51 = .ok (.i2l, 1) := by decide +kernel
theorem dX6_pair_52 : decode cX6_pair 52 = .ok (.lmul, 1) := by decide +kernel
theorem dX6_pair_53 : decode cX6_pair 53 = .ok (.iload_n 1, 1) := by decide +kernel
theorem dX6_pair_54 : decode cX6_pair 54 = .ok (.i2l, 1) := by decide +kernel
theorem dX6_pair_55 : decode cX6_pair 55 = .ok (.iload 4, 2) := by decide +kernel
theorem dX6_pair_57 : decode cX6_pair 57 = .ok (.i2l, 1) := by decide +kernel
theorem dX6_pair_58 : decode cX6_pair 58 = .ok (.lmul, 1) := by decide +kernel
theorem dX6_pair_59 : decode cX6_pair 59 = .ok (.iload 6, 2) := by decide +kernel
theorem dX6_pair_61 : decode cX6_pair 61 = .ok (.invokestatic 153, 3) := by decide +kernel
theorem dX6_pair_64 : decode cX6_pair 64 = .ok (.lreturn, 1) := by decide +kernel
theorem dX6_pair_65 : decode cX6_pair 65 = .ok (.iload 4, 2) := by decide +kernel
theorem dX6_pair_67 : decode cX6_pair 67 = .ok (.i2l, 1) := by decide +kernel
theorem dX6_pair_68 : decode cX6_pair 68 = .ok (.iload 5, 2) := by decide +kernel
theorem dX6_pair_70 : decode cX6_pair 70 = .ok (.iconst 1, 1) := by decide +kernel
theorem dX6_pair_71 : decode cX6_pair 71 = .ok (.if_icmp .ne 8, 3) := by decide +kernel
theorem dX6_pair_74 : decode cX6_pair 74 = .ok (.iload_n 3, 1) := by decide +kernel
theorem dX6_pair_75 : decode cX6_pair 75 = .ok (.i2l, 1) := by decide +kernel
theorem dX6_pair_76 : decode cX6_pair 76 = .ok (.goto 5, 3) := by decide +kernel
theorem dX6_pair_79 : decode cX6_pair 79 = .ok (.iload_n 2, 1) := by decide +kernel
theorem dX6_pair_80 : decode cX6_pair 80 = .ok (.i2l, 1) := by decide +kernel
theorem dX6_pair_81 : decode cX6_pair 81 = .ok (.iload 6, 2) := by decide +kernel
theorem dX6_pair_83 : decode cX6_pair 83 = .ok (.invokestatic 153, 3) := by decide +kernel
theorem dX6_pair_86 : decode cX6_pair 86 = .ok (.lreturn, 1) := by decide +kernel
theorem dX6_forgetAnswers_0 : decode cX6_forgetAnswers 0 = .ok (.aload_n 0, 1) := by decide +kernel
theorem dX6_forgetAnswers_1 : decode cX6_forgetAnswers 1 = .ok (.getfield 19, 3) := by decide +kernel
theorem dX6_forgetAnswers_4 : decode cX6_forgetAnswers 4 = .ok (.invokevirtual 200, 3) := by decide +kernel
theorem dX6_forgetAnswers_7 : decode cX6_forgetAnswers 7 = .ok (.aload_n 0, 1) := by decide +kernel
theorem dX6_forgetAnswers_8 : decode cX6_forgetAnswers 8 = .ok (.getfield 26, 3) := by decide +kernel
theorem dX6_forgetAnswers_11 : decode cX6_forgetAnswers 11 = .ok (.invokevirtual 203, 3) := by decide +kernel
theorem dX6_forgetAnswers_14 : decode cX6_forgetAnswers 14 = .ok (.return_, 1) := by decide +kernel
theorem dX6_isEndless_0 : decode cX6_isEndless 0 = .ok (.iload_n 2, 1) := by decide +kernel
theorem dX6_isEndless_1 : decode cX6_isEndless 1 = .ok (.iconst 1, 1) := by decide +kernel
theorem dX6_isEndless_2 : decode cX6_isEndless 2 = .ok (.if_icmp .ne 21, 3) := by decide +kernel
theorem dX6_isEndless_5 : decode cX6_isEndless 5 = .ok (.iload_n 1, 1) := by decide +kernel
theorem dX6_isEndless_6 : decode cX6_isEndless 6 = .ok (.aload_n 0, 1) := by decide +kernel
theorem dX6_isEndless_7 : decode cX6_isEndless 7 = .ok (.getfield 10, 3) := by decide +kernel
theorem dX6_isEndless_10 : decode cX6_isEndless 10 = .ok (.invokevirtual 105, 3) := by decide +kernel
theorem dX6_isEndless_13 : decode cX6_isEndless 13 = .ok (.iconst (-1), 1) := by decide +kernel
theorem dX6_isEndless_14 : decode cX6_isEndless 14 = .ok (.ixor, 1) := by decide +kernel
theorem dX6_isEndless_15 : decode cX6_isEndless 15 = .ok (.iand, 1) := by decide +kernel
theorem dX6_isEndless_16 : decode cX6_isEndless 16 = .ok (.ifCond .eq 7, 3) := by decide +kernel
theorem dX6_isEndless_19 : decode cX6_isEndless 19 = .ok (.iconst 1, 1) := by decide +kernel
theorem dX6_isEndless_20 : decode cX6_isEndless 20 = .ok (.goto 4, 3) := by decide +kernel
theorem dX6_isEndless_23 : decode cX6_isEndless 23 = .ok (.iconst 0, 1) := by decide +kernel
theorem dX6_isEndless_24 : decode cX6_isEndless 24 = .ok (.ireturn, 1) := by decide +kernel
theorem dX6_settledLines_0 : decode cX6_settledLines 0 = .ok (.aload_n 0, 1) := by decide +kernel
theorem dX6_settledLines_1 : decode cX6_settledLines 1 = .ok (.getfield 19, 3) := by decide +kernel
theorem dX6_settledLines_4 : decode cX6_settledLines 4 = .ok (.aload_n 0, 1) := by decide +kernel
theorem dX6_settledLines_5 : decode cX6_settledLines 5 = .ok (.getfield 10, 3) := by decide +kernel
theorem dX6_settledLines_8 : decode cX6_settledLines 8 = .ok (.aload_n 0, 1) := by decide +kernel
theorem dX6_settledLines_9 : decode cX6_settledLines 9 = .ok (.getfield 10, 3) := by decide +kernel
theorem dX6_settledLines_12 : decode cX6_settledLines 12 = .ok (.getfield 79, 3) := by decide +kernel
theorem dX6_settledLines_15 : decode cX6_settledLines 15 = .ok (.invokevirtual 121, 3) := by decide +kernel
theorem dX6_settledLines_18 : decode cX6_settledLines 18 = .ok (.ifCond .ne 6, 3) := by decide +kernel
theorem dX6_settledLines_21 : decode cX6_settledLines 21 = .ok (.bipush (-103), 2) := by decide +kernel
theorem dX6_settledLines_23 : decode cX6_settledLines 23 = .ok (.ireturn, 1) := by decide +kernel
theorem dX6_settledLines_24 : decode cX6_settledLines 24 = .ok (.iconst 0, 1) := by decide +kernel
theorem dX6_settledLines_25 : decode cX6_settledLines 25 = .ok (.istore_n 1, 1) := by decide +kernel
theorem dX6_settledLines_26 : decode cX6_settledLines 26 = .ok (.iconst 0, 1) := by decide +kernel
theorem dX6_settledLines_27 : decode cX6_settledLines 27 = .ok (.istore_n 2, 1) := by decide +kernel
theorem dX6_settledLines_28 : decode cX6_settledLines 28 = .ok (.iload_n 2, 1) := by decide +kernel
theorem dX6_settledLines_29 : decode cX6_settledLines 29 = .ok (.aload_n 0, 1) := by decide +kernel
theorem dX6_settledLines_30 : decode cX6_settledLines 30 = .ok (.getfield 10, 3) := by decide +kernel
theorem dX6_settledLines_33 : decode cX6_settledLines 33 = .ok (.getfield 44, 3) := by decide +kernel
theorem dX6_settledLines_36 : decode cX6_settledLines 36 = .ok (.if_icmp .ge 20, 3) := by decide +kernel
theorem dX6_settledLines_39 : decode cX6_settledLines 39 = .ok (.aload_n 0, 1) := by decide +kernel
theorem dX6_settledLines_40 : decode cX6_settledLines 40 = .ok (.iload_n 2, 1) := by decide +kernel
theorem dX6_settledLines_41 : decode cX6_settledLines 41 = .ok (.invokevirtual 165, 3) := by decide +kernel
theorem dX6_settledLines_44 : decode cX6_settledLines 44 = .ok (.ifCond .eq 6, 3) := by decide +kernel
theorem dX6_settledLines_47 : decode cX6_settledLines 47 = .ok (.iinc 1 1, 3) := by decide +kernel
theorem dX6_settledLines_50 : decode cX6_settledLines 50 = .ok (.iinc 2 1, 3) := by decide +kernel
theorem dX6_settledLines_53 : decode cX6_settledLines 53 = .ok (.goto (-25), 3) := by decide +kernel
theorem dX6_settledLines_56 : decode cX6_settledLines 56 = .ok (.iload_n 1, 1) := by decide +kernel
theorem dX6_settledLines_57 : decode cX6_settledLines 57 = .ok (.ireturn, 1) := by decide +kernel
theorem dX6_isSettledLine_0 : decode cX6_isSettledLine 0 = .ok (.iconst 1, 1) := by decide +kernel
theorem dX6_isSettledLine_1 : decode cX6_isSettledLine 1 = .ok (.iload_n 1, 1) := by decide +kernel
theorem dX6_isSettledLine_2 : decode cX6_isSettledLine 2 = .ok (.ishl, 1) := by decide +kernel
theorem dX6_isSettledLine_3 : decode cX6_isSettledLine 3 = .ok (.istore_n 2, 1) := by decide +kernel
theorem dX6_isSettledLine_4 : decode cX6_isSettledLine 4 = .ok (.aload_n 0, 1) := by decide +kernel
theorem dX6_isSettledLine_5 : decode cX6_isSettledLine 5 = .ok (.iload_n 2, 1) := by decide +kernel
theorem dX6_isSettledLine_6 : decode cX6_isSettledLine 6 = .ok (.iconst 1, 1) := by decide +kernel
theorem dX6_isSettledLine_7 : decode cX6_isSettledLine 7 = .ok (.invokevirtual 135, 3) := by decide +kernel
theorem dX6_isSettledLine_10 : decode cX6_isSettledLine 10 = .ok (.ifCond .eq 5, 3) := by decide +kernel
theorem dX6_isSettledLine_13 : decode cX6_isSettledLine 13 = .ok (.iconst 0, 1) := by decide +kernel
theorem dX6_isSettledLine_14 : decode cX6_isSettledLine 14 = .ok (.ireturn, 1) := by decide +kernel
theorem dX6_isSettledLine_15 : decode cX6_isSettledLine 15 = .ok (.aload_n 0, 1) := by decide +kernel
theorem dX6_isSettledLine_16 : decode cX6_isSettledLine 16 = .ok (.getfield 19, 3) := by decide +kernel
theorem dX6_isSettledLine_19 : decode cX6_isSettledLine 19 = .ok (.iload_n 2, 1) := by decide +kernel
theorem dX6_isSettledLine_20 : decode cX6_isSettledLine 20 = .ok (.iconst 0, 1) := by decide +kernel
theorem dX6_isSettledLine_21 : decode cX6_isSettledLine 21 = .ok (.invokevirtual 141, 3) := by decide +kernel
theorem dX6_isSettledLine_24 : decode cX6_isSettledLine 24 = .ok (.aload_n 0, 1) := by decide +kernel
theorem dX6_isSettledLine_25 : decode cX6_isSettledLine 25 = .ok (.getfield 19, 3) := by decide +kernel
theorem dX6_isSettledLine_28 : decode cX6_isSettledLine 28 = .ok (.iload_n 2, 1) := by decide +kernel
theorem dX6_isSettledLine_29 : decode cX6_isSettledLine 29 = .ok (.invokevirtual 145, 3) := by decide +kernel
theorem dX6_isSettledLine_32 : decode cX6_isSettledLine 32 = .ok (.lstore_n 3, 1) := by decide +kernel
theorem dX6_isSettledLine_33 : decode cX6_isSettledLine 33 = .ok (.aload_n 0, 1) := by decide +kernel
theorem dX6_isSettledLine_34 : decode cX6_isSettledLine 34 = .ok (.getfield 19, 3) := by decide +kernel
theorem dX6_isSettledLine_37 : decode cX6_isSettledLine 37 = .ok (.getfield 149, 3) := by decide +kernel
theorem dX6_isSettledLine_40 : decode cX6_isSettledLine 40 = .ok (.lstore 5, 2) := by decide +kernel
theorem dX6_isSettledLine_42 : decode cX6_isSettledLine 42 = .ok (.aload_n 0, 1) := by decide +kernel
theorem dX6_isSettledLine_43 : decode cX6_isSettledLine 43 = .ok (.getfield 19, 3) := by decide +kernel
theorem dX6_isSettledLine_46 : decode cX6_isSettledLine 46 = .ok (.iload_n 2, 1) := by decide +kernel
theorem dX6_isSettledLine_47 : decode cX6_isSettledLine 47 = .ok (.iconst 1, 1) := by decide +kernel
theorem dX6_isSettledLine_48 : decode cX6_isSettledLine 48 = .ok (.invokevirtual 141, 3) := by decide +kernel
theorem dX6_isSettledLine_51 : decode cX6_isSettledLine 51 = .ok (.lload_n 3, 1) := by decide +kernel
theorem dX6_isSettledLine_52 : decode cX6_isSettledLine 52 = .ok (.aload_n 0, 1) := by decide +kernel
theorem dX6_isSettledLine_53 : decode cX6_isSettledLine 53 = .ok (.getfield 19, 3) := by decide +kernel
theorem dX6_isSettledLine_56 : decode cX6_isSettledLine 56 = .ok (.getfield 149, 3) := by decide +kernel
theorem dX6_isSettledLine_59 : decode cX6_isSettledLine 59 = .ok (.lmul, 1) := by decide +kernel
theorem dX6_isSettledLine_60 : decode cX6_isSettledLine 60 = .ok (.aload_n 0, 1) := by decide +kernel
theorem dX6_isSettledLine_61 : decode cX6_isSettledLine 61 = .ok (.getfield 19, 3) := by decide +kernel
theorem dX6_isSettledLine_64 : decode cX6_isSettledLine 64 = .ok (.iload_n 2, 1) := by decide +kernel
theorem dX6_isSettledLine_65 : decode cX6_isSettledLine 65 = .ok (.invokevirtual 145, 3) := by decide +kernel
theorem dX6_isSettledLine_68 : decode cX6_isSettledLine 68 = .ok (.lload 5, 2) := by decide +kernel
theorem dX6_isSettledLine_70 : decode cX6_isSettledLine 70 = .ok (.lmul, 1) := by decide +kernel
theorem dX6_isSettledLine_71 : decode cX6_isSettledLine 71 = .ok (.lcmp, 1) := by decide +kernel
theorem dX6_isSettledLine_72 : decode cX6_isSettledLine 72 = .ok (.ifCond .ne 7, 3) := by decide +kernel
theorem dX6_isSettledLine_75 : decode cX6_isSettledLine 75 = .ok (.iconst 1, 1) := by decide +kernel
theorem dX6_isSettledLine_76 : decode cX6_isSettledLine 76 = .ok (.goto 4, 3) := by decide +kernel
theorem dX6_isSettledLine_79 : decode cX6_isSettledLine 79 = .ok (.iconst 0, 1) := by decide +kernel
theorem dX6_isSettledLine_80 : decode cX6_isSettledLine 80 = .ok (.ireturn, 1) := by decide +kernel
theorem dX6_isSum_0 : decode cX6_isSum 0 = .ok (.iload_n 0, 1) := by decide +kernel
theorem dX6_isSum_1 : decode cX6_isSum 1 = .ok (.ifCond .lt 13, 3) := by decide +kernel
theorem dX6_isSum_4 : decode cX6_isSum 4 = .ok (.iload_n 0, 1) := by decide +kernel
theorem dX6_isSum_5 : decode cX6_isSum 5 = .ok (.ldc 204, 2) := by decide +kernel
theorem dX6_isSum_7 : decode cX6_isSum 7 = .ok (.if_icmp .gt 7, 3) := by decide +kernel
theorem dX6_isSum_10 : decode cX6_isSum 10 = .ok (.iconst 1, 1) := by decide +kernel
theorem dX6_isSum_11 : decode cX6_isSum 11 = .ok (.goto 4, 3) := by decide +kernel
theorem dX6_isSum_14 : decode cX6_isSum 14 = .ok (.iconst 0, 1) := by decide +kernel
theorem dX6_isSum_15 : decode cX6_isSum 15 = .ok (.ireturn, 1) := by decide +kernel
theorem dX6_isZeroOrOne_0 : decode cX6_isZeroOrOne 0 = .ok (.iload_n 0, 1) := by decide +kernel
theorem dX6_isZeroOrOne_1 : decode cX6_isZeroOrOne 1 = .ok (.ifCond .eq 8, 3) := by decide +kernel
theorem dX6_isZeroOrOne_4 : decode cX6_isZeroOrOne 4 = .ok (.iload_n 0, 1) := by decide +kernel
theorem dX6_isZeroOrOne_5 : decode cX6_isZeroOrOne 5 = .ok (.iconst 1, 1) := by decide +kernel
theorem dX6_isZeroOrOne_6 : decode cX6_isZeroOrOne 6 = .ok (.if_icmp .ne 7, 3) := by decide +kernel
theorem dX6_isZeroOrOne_9 : decode cX6_isZeroOrOne 9 = .ok (.iconst 1, 1) := by decide +kernel
theorem dX6_isZeroOrOne_10 : decode cX6_isZeroOrOne 10 = .ok (.goto 4, 3) := by decide +kernel
theorem dX6_isZeroOrOne_13 : decode cX6_isZeroOrOne 13 = .ok (.iconst 0, 1) := by decide +kernel
theorem dX6_isZeroOrOne_14 : decode cX6_isZeroOrOne 14 = .ok (.ireturn, 1) := by decide +kernel
theorem dX6_isPair_0 : decode cX6_isPair 0 = .ok (.iload_n 0, 1) := by decide +kernel
theorem dX6_isPair_1 : decode cX6_isPair 1 = .ok (.ldc 205, 2) := by decide +kernel
theorem dX6_isPair_3 : decode cX6_isPair 3 = .ok (.if_icmp .gt 31, 3) := by decide +kernel
theorem dX6_isPair_6 : decode cX6_isPair 6 = .ok (.iload_n 1, 1) := by decide +kernel
theorem dX6_isPair_7 : decode cX6_isPair 7 = .ok (.iload_n 0, 1) := by decide +kernel
theorem dX6_isPair_8 : decode cX6_isPair 8 = .ok (.if_icmp .gt 26, 3) := by decide +kernel
theorem dX6_isPair_11 : decode cX6_isPair 11 = .ok (.iload_n 2, 1) := by decide +kernel
theorem dX6_isPair_12 : decode cX6_isPair 12 = .ok (.iload_n 0, 1) := by decide +kernel
theorem dX6_isPair_13 : decode cX6_isPair 13 = .ok (.if_icmp .gt 21, 3) := by decide +kernel
theorem dX6_isPair_16 : decode cX6_isPair 16 = .ok (.iload_n 3, 1) := by decide +kernel
theorem dX6_isPair_17 : decode cX6_isPair 17 = .ok (.iload_n 1, 1) := by decide +kernel
theorem dX6_isPair_18 : decode cX6_isPair 18 = .ok (.if_icmp .gt 16, 3) := by decide +kernel
theorem dX6_isPair_21 : decode cX6_isPair 21 = .ok (.iload_n 3, 1) := by decide +kernel
theorem dX6_isPair_22 : decode cX6_isPair 22 = .ok (.iload_n 2, 1) := by decide +kernel
theorem dX6_isPair_23 : decode cX6_isPair 23 = .ok (.if_icmp .gt 11, 3) := by decide +kernel
theorem dX6_isPair_26 : decode cX6_isPair 26 = .ok (.iload_n 3, 1) := by decide +kernel
theorem dX6_isPair_27 : decode cX6_isPair 27 = .ok (.ifCond .lt 7, 3) := by decide +kernel
theorem dX6_isPair_30 : decode cX6_isPair 30 = .ok (.iconst 1, 1) := by decide +kernel
theorem dX6_isPair_31 : decode cX6_isPair 31 = .ok (.goto 4, 3) := by decide +kernel
theorem dX6_isPair_34 : decode cX6_isPair 34 = .ok (.iconst 0, 1) := by decide +kernel
theorem dX6_isPair_35 : decode cX6_isPair 35 = .ok (.ireturn, 1) := by decide +kernel
theorem dX6_bitOf_0 : decode cX6_bitOf 0 = .ok (.iload_n 0, 1) := by decide +kernel
theorem dX6_bitOf_1 : decode cX6_bitOf 1 = .ok (.iload_n 1, 1) := by decide +kernel
theorem dX6_bitOf_2 : decode cX6_bitOf 2 = .ok (.ishr, 1) := by decide +kernel
theorem dX6_bitOf_3 : decode cX6_bitOf 3 = .ok (.iconst 1, 1) := by decide +kernel
theorem dX6_bitOf_4 : decode cX6_bitOf 4 = .ok (.iand, 1) := by decide +kernel
theorem dX6_bitOf_5 : decode cX6_bitOf 5 = .ok (.ireturn, 1) := by decide +kernel
theorem dX6_withBit_0 : decode cX6_withBit 0 = .ok (.iload_n 2, 1) := by decide +kernel
theorem dX6_withBit_1 : decode cX6_withBit 1 = .ok (.ifCond .eq 11, 3) := by decide +kernel
theorem dX6_withBit_4 : decode cX6_withBit 4 = .ok (.iload_n 0, 1) := by decide +kernel
theorem dX6_withBit_5 : decode cX6_withBit 5 = .ok (.iconst 1, 1) := by decide +kernel
theorem dX6_withBit_6 : decode cX6_withBit 6 = .ok (.iload_n 1, 1) := by decide +kernel
theorem dX6_withBit_7 : decode cX6_withBit 7 = .ok (.ishl, 1) := by decide +kernel
theorem dX6_withBit_8 : decode cX6_withBit 8 = .ok (.ior, 1) := by decide +kernel
theorem dX6_withBit_9 : decode cX6_withBit 9 = .ok (.goto 10, 3) := by decide +kernel
theorem dX6_withBit_12 : decode cX6_withBit 12 = .ok (.iload_n 0, 1) := by decide +kernel
theorem dX6_withBit_13 : decode cX6_withBit 13 = .ok (.iconst 1, 1) := by decide +kernel
theorem dX6_withBit_14 : decode cX6_withBit 14 = .ok (.iload_n 1, 1) := by decide +kernel
theorem dX6_withBit_15 : decode cX6_withBit 15 = .ok (.ishl, 1) := by decide +kernel
theorem dX6_withBit_16 : decode cX6_withBit 16 = .ok (.iconst (-1), 1) := by decide +kernel
theorem dX6_withBit_17 : decode cX6_withBit 17 = .ok (.ixor, 1) := by decide +kernel
theorem dX6_withBit_18 : decode cX6_withBit 18 = .ok (.iand, 1) := by decide +kernel
theorem dX6_withBit_19 : decode cX6_withBit 19 = .ok (.ireturn, 1) := by decide +kernel
theorem dX6_partOfFraction_0 : decode cX6_partOfFraction 0 = .ok (.lload_n 0, 1) := by decide +kernel
theorem dX6_partOfFraction_1 : decode cX6_partOfFraction 1 = .ok (.lload_n 2, 1) := by decide +kernel
theorem dX6_partOfFraction_2 : decode cX6_partOfFraction 2 = .ok (.invokestatic 206, 3) := by decide +kernel
theorem dX6_partOfFraction_5 : decode cX6_partOfFraction 5 = .ok (.lstore 5, 2) := by decide +kernel
theorem dX6_partOfFraction_7 : decode cX6_partOfFraction 7 = .ok (.iload 4, 2) := by decide +kernel
theorem dX6_partOfFraction_9 : decode cX6_partOfFraction 9 = .ok (.ifCond .ne 7, 3) := by decide +kernel
theorem dX6_partOfFraction_12 : decode cX6_partOfFraction 12 = .ok (.lload_n 0, 1) := by decide +kernel
theorem dX6_partOfFraction_13 : decode cX6_partOfFraction 13 = .ok (.goto 4, 3) := by decide +kernel
theorem dX6_partOfFraction_16 : decode cX6_partOfFraction 16 = .ok (.lload_n 2, 1) := by decide +kernel
theorem dX6_partOfFraction_17 : decode cX6_partOfFraction 17 = .ok (.lstore 7, 2) := by decide +kernel
theorem dX6_partOfFraction_19 : decode cX6_partOfFraction 19 = .ok (.lload 5, 2) := by decide +kernel
theorem dX6_partOfFraction_21 : decode cX6_partOfFraction 21 = .ok (.lconst 0, 1) := by decide +kernel
theorem dX6_partOfFraction_22 : decode cX6_partOfFraction 22 = .ok (.lcmp, 1) := by decide +kernel
theorem dX6_partOfFraction_23 : decode cX6_partOfFraction 23 = .ok (.ifCond .le 11, 3) := by decide +kernel
theorem dX6_partOfFraction_26 : decode cX6_partOfFraction 26 = .ok (.lload 7, 2) := by decide +kernel
theorem dX6_partOfFraction_28 : decode cX6_partOfFraction 28 = .ok (.lload 5, 2) := by decide +kernel
theorem dX6_partOfFraction_30 : decode cX6_partOfFraction 30 = .ok (.ldiv, 1) := by decide +kernel
theorem dX6_partOfFraction_31 : decode cX6_partOfFraction 31 = .ok (.goto 5, 3) := by decide +kernel
theorem dX6_partOfFraction_34 : decode cX6_partOfFraction 34 = .ok (.lload 7, 2) := by decide +kernel
theorem dX6_partOfFraction_36 : decode cX6_partOfFraction 36 = .ok (.lreturn, 1) := by decide +kernel
theorem dX6_greatestDivisor_0 : decode cX6_greatestDivisor 0 = .ok (.lload_n 0, 1) := by decide +kernel
theorem dX6_greatestDivisor_1 : decode cX6_greatestDivisor 1 = .ok (.lstore 4, 2) := by decide +kernel
theorem dX6_greatestDivisor_3 : decode cX6_greatestDivisor 3 = .ok (.lload_n 2, 1) := by decide +kernel
theorem dX6_greatestDivisor_4 : decode cX6_greatestDivisor 4 = .ok (.lstore 6, 2) := by decide +kernel
theorem dX6_greatestDivisor_6 : decode cX6_greatestDivisor 6 = .ok (.iconst 0, 1) := by decide +kernel
theorem dX6_greatestDivisor_7 : decode cX6_greatestDivisor 7 = .ok (.istore 8, 2) := by decide +kernel
theorem dX6_greatestDivisor_9 : decode cX6_greatestDivisor 9 = .ok (.iload 8, 2) := by decide +kernel
theorem dX6_greatestDivisor_11 : decode cX6_greatestDivisor 11 = .ok (.bipush 100, 2) := by decide +kernel
theorem dX6_greatestDivisor_13 : decode cX6_greatestDivisor 13 = .ok (.if_icmp .ge 31, 3) := by decide +kernel
theorem dX6_greatestDivisor_16 : decode cX6_greatestDivisor 16 = .ok (.lload 6, 2) := by decide +kernel
theorem dX6_greatestDivisor_18 : decode cX6_greatestDivisor 18 = .ok (.lconst 0, 1) := by decide +kernel
theorem dX6_greatestDivisor_19 : decode cX6_greatestDivisor 19 = .ok (.lcmp, 1) := by decide +kernel
theorem dX6_greatestDivisor_20 : decode cX6_greatestDivisor 20 = .ok (.ifCond .eq 24, 3) := by decide +kernel
theorem dX6_greatestDivisor_23 : decode cX6_greatestDivisor 23 = .ok (.lload 4, 2) := by decide +kernel
theorem dX6_greatestDivisor_25 : decode cX6_greatestDivisor 25 = .ok (.lload 6, 2) := by decide +kernel
theorem dX6_greatestDivisor_27 : decode cX6_greatestDivisor 27 = .ok (.lrem, 1) := by decide +kernel
theorem dX6_greatestDivisor_28 : decode cX6_greatestDivisor 28 = .ok (.lstore 9, 2) := by decide +kernel
theorem dX6_greatestDivisor_30 : decode cX6_greatestDivisor 30 = .ok (.lload 6, 2) := by decide +kernel
theorem dX6_greatestDivisor_32 : decode cX6_greatestDivisor 32 = .ok (.lstore 4, 2) := by decide +kernel
theorem dX6_greatestDivisor_34 : decode cX6_greatestDivisor 34 = .ok (.lload 9, 2) := by decide +kernel
theorem dX6_greatestDivisor_36 : decode cX6_greatestDivisor 36 = .ok (.lstore 6, 2) := by decide +kernel
theorem dX6_greatestDivisor_38 : decode cX6_greatestDivisor 38 = .ok (.iinc 8 1, 3) := by decide +kernel
theorem dX6_greatestDivisor_41 : decode cX6_greatestDivisor 41 = .ok (.goto (-32), 3) := by decide +kernel
theorem dX6_greatestDivisor_44 : decode cX6_greatestDivisor 44 = .ok (.lload 4, 2) := by decide +kernel
theorem dX6_greatestDivisor_46 : decode cX6_greatestDivisor 46 = .ok (.lreturn, 1) := by decide +kernel
end
section
theorem dX7_init_0 : decode cX7_init 0 = .ok (.aload_n 0, 1) := by decide +kernel
theorem dX7_init_1 : decode cX7_init 1 = .ok (.invokespecial 1, 3) := by decide +kernel
theorem dX7_init_4 : decode cX7_init 4 = .ok (.aload_n 0, 1) := by decide +kernel
theorem dX7_init_5 : decode cX7_init 5 = .ok (.iconst 4, 1) := by decide +kernel
theorem dX7_init_6 : decode cX7_init 6 = .ok (.putfield 7, 3) := by decide +kernel
theorem dX7_init_9 : decode cX7_init 9 = .ok (.aload_n 0, 1) := by decide +kernel
theorem dX7_init_10 : decode cX7_init 10 = .ok (.bipush 10, 2) := by decide +kernel
theorem dX7_init_12 : decode cX7_init 12 = .ok (.newarray .int, 2) := by decide +kernel
theorem dX7_init_14 : decode cX7_init 14 = .ok (.putfield 13, 3) := by decide +kernel
theorem dX7_init_17 : decode cX7_init 17 = .ok (.aload_n 0, 1) := by decide +kernel
theorem dX7_init_18 : decode cX7_init 18 = .ok (.bipush 10, 2) := by decide +kernel
theorem dX7_init_20 : decode cX7_init 20 = .ok (.newarray .int, 2) := by decide +kernel
theorem dX7_init_22 : decode cX7_init 22 = .ok (.putfield 17, 3) := by decide +kernel
theorem dX7_init_25 : decode cX7_init 25 = .ok (.aload_n 0, 1) := by decide +kernel
theorem dX7_init_26 : decode cX7_init 26 = .ok (.bipush 10, 2) := by decide +kernel
theorem dX7_init_28 : decode cX7_init 28 = .ok (.newarray .boolean, 2) := by decide +kernel
theorem dX7_init_30 : decode cX7_init 30 = .ok (.putfield 20, 3) := by decide +kernel
theorem dX7_init_33 : decode cX7_init 33 = .ok (.aload_n 0, 1) := by decide +kernel
theorem dX7_init_34 : decode cX7_init 34 = .ok (.bipush 10, 2) := by decide +kernel
theorem dX7_init_36 : decode cX7_init 36 = .ok (.newarray .boolean, 2) := by decide +kernel
theorem dX7_init_38 : decode cX7_init 38 = .ok (.putfield 24, 3) := by decide +kernel
theorem dX7_init_41 : decode cX7_init 41 = .ok (.aload_n 0, 1) := by decide +kernel
theorem dX7_init_42 : decode cX7_init 42 = .ok (.bipush 10, 2) := by decide +kernel
theorem dX7_init_44 : decode cX7_init 44 = .ok (.newarray .int, 2) := by decide +kernel
theorem dX7_init_46 : decode cX7_init 46 = .ok (.putfield 27, 3) := by decide +kernel
theorem dX7_init_49 : decode cX7_init 49 = .ok (.aload_n 0, 1) := by decide +kernel
theorem dX7_init_50 : decode cX7_init 50 = .ok (.sipush 800, 3) := by decide +kernel
theorem dX7_init_53 : decode cX7_init 53 = .ok (.newarray .long, 2) := by decide +kernel
theorem dX7_init_55 : decode cX7_init 55 = .ok (.putfield 30, 3) := by decide +kernel
theorem dX7_init_58 : decode cX7_init 58 = .ok (.aload_n 0, 1) := by decide +kernel
theorem dX7_init_59 : decode cX7_init 59 = .ok (.bipush 10, 2) := by decide +kernel
theorem dX7_init_61 : decode cX7_init 61 = .ok (.newarray .int, 2) := by decide +kernel
theorem dX7_init_63 : decode cX7_init 63 = .ok (.putfield 34, 3) := by decide +kernel
theorem dX7_init_66 : decode cX7_init 66 = .ok (.aload_n 0, 1) := by decide +kernel
theorem dX7_init_67 : decode cX7_init 67 = .ok (.bipush 10, 2) := by decide +kernel
theorem dX7_init_69 : decode cX7_init 69 = .ok (.newarray .long, 2) := by decide +kernel
theorem dX7_init_71 : decode cX7_init 71 = .ok (.putfield 37, 3) := by decide +kernel
theorem dX7_init_74 : decode cX7_init 74 = .ok (.aload_n 0, 1) := by decide +kernel
theorem dX7_init_75 : decode cX7_init 75 = .ok (.bipush 10, 2) := by decide +kernel
theorem dX7_init_77 : decode cX7_init 77 = .ok (.newarray .long, 2) := by decide +kernel
theorem dX7_init_79 : decode cX7_init 79 = .ok (.putfield 40, 3) := by decide +kernel
theorem dX7_init_82 : decode cX7_init 82 = .ok (.aload_n 0, 1) := by decide +kernel
theorem dX7_init_83 : decode cX7_init 83 = .ok (.sipush 1024, 3) := by decide +kernel
theorem dX7_init_86 : decode cX7_init 86 = .ok (.newarray .int, 2) := by decide +kernel
theorem dX7_init_88 : decode cX7_init 88 = .ok (.putfield 43, 3) := by decide +kernel
theorem dX7_init_91 : decode cX7_init 91 = .ok (.return_, 1) := by decide +kernel
theorem dX7_in_0 : decode cX7_in 0 = .ok (.lload_n 0, 1) := by decide +kernel
theorem dX7_in_1 : decode cX7_in 1 = .ok (.lload_n 2, 1) := by decide +kernel
theorem dX7_in_2 : decode cX7_in 2 = .ok (.lcmp, 1) := by decide +kernel
theorem dX7_in_3 : decode cX7_in 3 = .ok (.ifCond .lt 14, 3) := by decide +kernel
theorem dX7_in_6 : decode cX7_in 6 = .ok (.lload_n 0, 1) := by decide +kernel
theorem dX7_in_7 : decode cX7_in 7 = .ok (.lload 4, 2) := by decide +kernel
theorem dX7_in_9 : decode cX7_in 9 = .ok (.lcmp, 1) := by decide +kernel
theorem dX7_in_10 : decode cX7_in 10 = .ok (.ifCond .gt 7, 3) := by decide +kernel
theorem dX7_in_13 : decode cX7_in 13 = .ok (.iconst 1, 1) := by decide +kernel
theorem dX7_in_14 : decode cX7_in 14 = .ok (.goto 4, 3) := by decide +kernel
theorem dX7_in_17 : decode cX7_in 17 = .ok (.iconst 0, 1) := by decide +kernel
theorem dX7_in_18 : decode cX7_in 18 = .ok (.ireturn, 1) := by decide +kernel
theorem dX7_noSet_0 : decode cX7_noSet 0 = .ok (.iload_n 1, 1) := by decide +kernel
theorem dX7_noSet_1 : decode cX7_noSet 1 = .ok (.i2l, 1) := by decide +kernel
theorem dX7_noSet_2 : decode cX7_noSet 2 = .ok (.iload_n 2, 1) := by decide +kernel
theorem dX7_noSet_3 : decode cX7_noSet 3 = .ok (.i2l, 1) := by decide +kernel
theorem dX7_noSet_4 : decode cX7_noSet 4 = .ok (.iconst 1, 1) := by decide +kernel
theorem dX7_noSet_5 : decode cX7_noSet 5 = .ok (.aload_n 0, 1) := by decide +kernel
theorem dX7_noSet_6 : decode cX7_noSet 6 = .ok (.getfield 7, 3) := by decide +kernel
theorem dX7_noSet_9 : decode cX7_noSet 9 = .ok (.ishl, 1) := by decide +kernel
theorem dX7_noSet_10 : decode cX7_noSet 10 = .ok (.iconst 1, 1) := by decide +kernel
theorem dX7_noSet_11 : decode cX7_noSet 11 = .ok (.isub, 1) := by decide +kernel
theorem dX7_noSet_12 : decode cX7_noSet 12 = .ok (.i2l, 1) := by decide +kernel
theorem dX7_noSet_13 : decode cX7_noSet 13 = .ok (.invokestatic 46, 3) := by decide +kernel
theorem dX7_noSet_16 : decode cX7_noSet 16 = .ok (.ifCond .ne 7, 3) := by decide +kernel
theorem dX7_noSet_19 : decode cX7_noSet 19 = .ok (.iconst 1, 1) := by decide +kernel
theorem dX7_noSet_20 : decode cX7_noSet 20 = .ok (.goto 4, 3) := by decide +kernel
theorem dX7_noSet_23 : decode cX7_noSet 23 = .ok (.iconst 0, 1) := by decide +kernel
theorem dX7_noSet_24 : decode cX7_noSet 24 = .ok (.ireturn, 1) := by decide +kernel
theorem dX7_bits_0 : decode cX7_bits 0 = .ok (.iconst 0, 1) := by decide +kernel
theorem dX7_bits_1 : decode cX7_bits 1 = .ok (.istore_n 1, 1) := by decide +kernel
theorem dX7_bits_2 : decode cX7_bits 2 = .ok (.iconst 0, 1) := by decide +kernel
theorem dX7_bits_3 : decode cX7_bits 3 = .ok (.istore_n 2, 1) := by decide +kernel
theorem dX7_bits_4 : decode cX7_bits 4 = .ok (.iload_n 2, 1) := by decide +kernel
theorem dX7_bits_5 : decode cX7_bits 5 = .ok (.bipush 10, 2) := by decide +kernel
theorem dX7_bits_7 : decode cX7_bits 7 = .ok (.if_icmp .ge 17, 3) := by decide +kernel
theorem dX7_bits_10 : decode cX7_bits 10 = .ok (.iload_n 1, 1) := by decide +kernel
theorem dX7_bits_11 : decode cX7_bits 11 = .ok (.iload_n 0, 1) := by decide +kernel
theorem dX7_bits_12 : decode cX7_bits 12 = .ok (.iload_n 2, 1) := by decide +kernel
theorem dX7_bits_13 : decode cX7_bits 13 = .ok (.ishr, 1) := by decide +kernel
theorem dX7_bits_14 : decode cX7_bits 14 = .ok (.iconst 1, 1) := by decide +kernel
theorem dX7_bits_15 : decode cX7_bits 15 = .ok (.iand, 1) := by decide +kernel
theorem dX7_bits_16 : decode cX7_bits 16 = .ok (.iadd, 1) := by decide +kernel
theorem dX7_bits_17 : decode cX7_bits 17 = .ok (.istore_n 1, 1) := by decide +kernel
theorem dX7_bits_18 : decode cX7_bits 18 = .ok (.iinc 2 1, 3) := by decide +kernel
theorem dX7_bits_21 : decode cX7_bits 21 = .ok (.goto (-17), 3) := by decide +kernel
theorem dX7_bits_24 : decode cX7_bits 24 = .ok (.iload_n 1, 1) := by decide +kernel
theorem dX7_bits_25 : decode cX7_bits 25 = .ok (.ireturn, 1) := by decide +kernel
theorem dX7_lines_0 : decode cX7_lines 0 = .ok (.iload_n 1, 1) := by decide +kernel
theorem dX7_lines_1 : decode cX7_lines 1 = .ok (.i2l, 1) := by decide +kernel
theorem dX7_lines_2 : decode cX7_lines 2 = .ok (.lconst 1, 1) := by decide +kernel
theorem dX7_lines_3 : decode cX7_lines 3 = .ok (.ldc2_w 50, 3) := by decide +kernel
theorem dX7_lines_6 : decode cX7_lines 6 = .ok (.invokestatic 46, 3) := by decide +kernel
theorem dX7_lines_9 : decode cX7_lines 9 = .ok (.ifCond .ne 6, 3) := by decide +kernel
theorem dX7_lines_12 : decode cX7_lines 12 = .ok (.bipush (-102), 2) := by decide +kernel
theorem dX7_lines_14 : decode cX7_lines 14 = .ok (.ireturn, 1) := by decide +kernel
theorem dX7_lines_15 : decode cX7_lines 15 = .ok (.aload_n 0, 1) := by decide +kernel
theorem dX7_lines_16 : decode cX7_lines 16 = .ok (.getfield 7, 3) := by decide +kernel
theorem dX7_lines_19 : decode cX7_lines 19 = .ok (.istore_n 2, 1) := by decide +kernel
theorem dX7_lines_20 : decode cX7_lines 20 = .ok (.aload_n 0, 1) := by decide +kernel
theorem dX7_lines_21 : decode cX7_lines 21 = .ok (.iload_n 1, 1) := by decide +kernel
theorem dX7_lines_22 : decode cX7_lines 22 = .ok (.putfield 7, 3) := by decide +kernel
theorem dX7_lines_25 : decode cX7_lines 25 = .ok (.aload_n 0, 1) := by decide +kernel
theorem dX7_lines_26 : decode cX7_lines 26 = .ok (.iconst 0, 1) := by decide +kernel
theorem dX7_lines_27 : decode cX7_lines 27 = .ok (.putfield 52, 3) := by decide +kernel
theorem dX7_lines_30 : decode cX7_lines 30 = .ok (.aload_n 0, 1) := by decide +kernel
theorem dX7_lines_31 : decode cX7_lines 31 = .ok (.iconst 0, 1) := by decide +kernel
theorem dX7_lines_32 : decode cX7_lines 32 = .ok (.putfield 55, 3) := by decide +kernel
theorem dX7_lines_35 : decode cX7_lines 35 = .ok (.iload_n 2, 1) := by decide +kernel
theorem dX7_lines_36 : decode cX7_lines 36 = .ok (.ireturn, 1) := by decide +kernel
theorem dX7_way_0 : decode cX7_way 0 = .ok (.aload_n 0, 1) := by decide +kernel
theorem dX7_way_1 : decode cX7_way 1 = .ok (.iload_n 1, 1) := by decide +kernel
theorem dX7_way_2 : decode cX7_way 2 = .ok (.iconst 1, 1) := by decide +kernel
theorem dX7_way_3 : decode cX7_way 3 = .ok (.invokevirtual 58, 3) := by decide +kernel
theorem dX7_way_6 : decode cX7_way 6 = .ok (.ifCond .ne 15, 3) := by decide +kernel
theorem dX7_way_9 : decode cX7_way 9 = .ok (.iload_n 2, 1) := by decide +kernel
theorem dX7_way_10 : decode cX7_way 10 = .ok (.i2l, 1) := by decide +kernel
theorem dX7_way_11 : decode cX7_way 11 = .ok (.lconst 0, 1) := by decide +kernel
theorem dX7_way_12 : decode cX7_way 12 = .ok (.ldc2_w 62, 3) := by decide +kernel
theorem dX7_way_15 : decode cX7_way 15 = .ok (.invokestatic 46, 3) := by decide +kernel
theorem dX7_way_18 : decode cX7_way 18 = .ok (.ifCond .ne 6, 3) := by decide +kernel
theorem dX7_way_21 : decode cX7_way 21 = .ok (.bipush (-102), 2) := by decide +kernel
theorem dX7_way_23 : decode cX7_way 23 = .ok (.ireturn, 1) := by decide +kernel
theorem dX7_way_24 : decode cX7_way 24 = .ok (.aload_n 0, 1) := by decide +kernel
theorem dX7_way_25 : decode cX7_way 25 = .ok (.getfield 52, 3) := by decide +kernel
theorem dX7_way_28 : decode cX7_way 28 = .ok (.bipush 10, 2) := by decide +kernel
theorem dX7_way_30 : decode cX7_way 30 = .ok (.if_icmp .ne 6, 3) := by decide +kernel
theorem dX7_way_33 : decode cX7_way 33 = .ok (.bipush (-104), 2) := by decide +kernel
theorem dX7_way_35 : decode cX7_way 35 = .ok (.ireturn, 1) := by decide +kernel
theorem dX7_way_36 : decode cX7_way 36 = .ok (.aload_n 0, 1) := by decide +kernel
theorem dX7_way_37 : decode cX7_way 37 = .ok (.getfield 13, 3) := by decide +kernel
theorem dX7_way_40 : decode cX7_way 40 = .ok (.aload_n 0, 1) := by decide +kernel
theorem dX7_way_41 : decode cX7_way 41 = .ok (.getfield 52, 3) := by decide +kernel
theorem dX7_way_44 : decode cX7_way 44 = .ok (.iload_n 1, 1) := by decide +kernel
theorem dX7_way_45 : decode cX7_way 45 = .ok (.iastore, 1) := by decide +kernel
theorem dX7_way_46 : decode cX7_way 46 = .ok (.aload_n 0, 1) := by decide +kernel
theorem dX7_way_47 : decode cX7_way 47 = .ok (.getfield 17, 3) := by decide +kernel
theorem dX7_way_50 : decode cX7_way 50 = .ok (.aload_n 0, 1) := by decide +kernel
theorem dX7_way_51 : decode cX7_way 51 = .ok (.getfield 52, 3) := by decide +kernel
theorem dX7_way_54 : decode cX7_way 54 = .ok (.iload_n 2, 1) := by decide +kernel
theorem dX7_way_55 : decode cX7_way 55 = .ok (.iastore, 1) := by decide +kernel
theorem dX7_way_56 : decode cX7_way 56 = .ok (.aload_n 0, 1) := by decide +kernel
theorem dX7_way_57 : decode cX7_way 57 = .ok (.getfield 20, 3) := by decide +kernel
theorem dX7_way_60 : decode cX7_way 60 = .ok (.aload_n 0, 1) := by decide +kernel
theorem dX7_way_61 : decode cX7_way 61 = .ok (.getfield 52, 3) := by decide +kernel
theorem dX7_way_64 : decode cX7_way 64 = .ok (.iconst 1, 1) := by decide +kernel
theorem dX7_way_65 : decode cX7_way 65 = .ok (.bastore, 1) := by decide +kernel
theorem dX7_way_66 : decode cX7_way 66 = .ok (.aload_n 0, 1) := by decide +kernel
theorem dX7_way_67 : decode cX7_way 67 = .ok (.getfield 24, 3) := by decide +kernel
theorem dX7_way_70 : decode cX7_way 70 = .ok (.aload_n 0, 1) := by decide +kernel
theorem dX7_way_71 : decode cX7_way 71 = .ok (.getfield 52, 3) := by decide +kernel
theorem dX7_way_74 : decode cX7_way 74 = .ok (.iconst 0, 1) := by decide +kernel
theorem dX7_way_75 : decode cX7_way 75 = .ok (.bastore, 1) := by decide +kernel
theorem dX7_way_76 : decode cX7_way 76 = .ok (.aload_n 0, 1) := by decide +kernel
theorem dX7_way_77 : decode cX7_way 77 = .ok (.dup, 1) := by decide +kernel
theorem dX7_way_78 : decode cX7_way 78 = .ok (.getfield 52, 3) := by decide +kernel
theorem dX7_way_81 : decode cX7_way 81 = .ok (.iconst 1, 1) := by decide +kernel
theorem dX7_way_82 : decode cX7_way 82 = .ok (.iadd, 1) := by decide +kernel
theorem dX7_way_83 : decode cX7_way 83 = .ok (.putfield 52, 3) := by decide +kernel
theorem dX7_way_86 : decode cX7_way 86 = .ok (.aload_n 0, 1) := by decide +kernel
theorem dX7_way_87 : decode cX7_way 87 = .ok (.getfield 52, 3) := by decide +kernel
theorem dX7_way_90 : decode cX7_way 90 = .ok (.iconst 1, 1) := by decide +kernel
theorem dX7_way_91 : decode cX7_way 91 = .ok (.isub, 1) := by decide +kernel
theorem dX7_way_92 : decode cX7_way 92 = .ok (.ireturn, 1) := by decide +kernel
theorem dX7_noWay_0 : decode cX7_noWay 0 = .ok (.iload_n 1, 1) := by decide +kernel
theorem dX7_noWay_1 : decode cX7_noWay 1 = .ok (.i2l, 1) := by decide +kernel
theorem dX7_noWay_2 : decode cX7_noWay 2 = .ok (.lconst 0, 1) := by decide +kernel
theorem dX7_noWay_3 : decode cX7_noWay 3 = .ok (.aload_n 0, 1) := by decide +kernel
theorem dX7_noWay_4 : decode cX7_noWay 4 = .ok (.getfield 52, 3) := by decide +kernel
theorem dX7_noWay_7 : decode cX7_noWay 7 = .ok (.iconst 1, 1) := by decide +kernel
theorem dX7_noWay_8 : decode cX7_noWay 8 = .ok (.isub, 1) := by decide +kernel
theorem dX7_noWay_9 : decode cX7_noWay 9 = .ok (.i2l, 1) := by decide +kernel
theorem dX7_noWay_10 : decode cX7_noWay 10 = .ok (.invokestatic 46, 3) := by decide +kernel
theorem dX7_noWay_13 : decode cX7_noWay 13 = .ok (.ifCond .ne 7, 3) := by decide +kernel
theorem dX7_noWay_16 : decode cX7_noWay 16 = .ok (.iconst 1, 1) := by decide +kernel
theorem dX7_noWay_17 : decode cX7_noWay 17 = .ok (.goto 4, 3) := by decide +kernel
theorem dX7_noWay_20 : decode cX7_noWay 20 = .ok (.iconst 0, 1) := by decide +kernel
theorem dX7_noWay_21 : decode cX7_noWay 21 = .ok (.ireturn, 1) := by decide +kernel
theorem dX7_sum_0 : decode cX7_sum 0 = .ok (.aload_n 0, 1) := by decide +kernel
theorem dX7_sum_1 : decode cX7_sum 1 = .ok (.iload_n 1, 1) := by decide +kernel
theorem dX7_sum_2 : decode cX7_sum 2 = .ok (.invokevirtual 64, 3) := by decide +kernel
theorem dX7_sum_5 : decode cX7_sum 5 = .ok (.ifCond .eq 6, 3) := by decide +kernel
theorem dX7_sum_8 : decode cX7_sum 8 = .ok (.bipush (-101), 2) := by decide +kernel
theorem dX7_sum_10 : decode cX7_sum 10 = .ok (.ireturn, 1) := by decide +kernel
theorem dX7_sum_11 : decode cX7_sum 11 = .ok (.iload_n 2, 1) := by decide +kernel
theorem dX7_sum_12 : decode cX7_sum 12 = .ok (.i2l, 1) := by decide +kernel
theorem dX7_sum_13 : decode cX7_sum 13 = .ok (.lconst 0, 1) := by decide +kernel
theorem dX7_sum_14 : decode cX7_sum 14 = .ok (.ldc2_w 62, 3) := by decide +kernel
theorem dX7_sum_17 : decode cX7_sum 17 = .ok (.invokestatic 46, 3) := by decide +kernel
theorem dX7_sum_20 : decode cX7_sum 20 = .ok (.ifCond .ne 6, 3) := by decide +kernel
theorem dX7_sum_23 : decode cX7_sum 23 = .ok (.bipush (-102), 2) := by decide +kernel
theorem dX7_sum_25 : decode cX7_sum 25 = .ok (.ireturn, 1) := by decide +kernel
theorem dX7_sum_26 : decode cX7_sum 26 = .ok (.aload_n 0, 1) := by decide +kernel
theorem dX7_sum_27 : decode cX7_sum 27 = .ok (.getfield 17, 3) := by decide +kernel
theorem dX7_sum_30 : decode cX7_sum 30 = .ok (.iload_n 1, 1) := by decide +kernel
theorem dX7_sum_31 : decode cX7_sum 31 = .ok (.iaload, 1) := by decide +kernel
theorem dX7_sum_32 : decode cX7_sum 32 = .ok (.istore_n 3, 1) := by decide +kernel
theorem dX7_sum_33 : decode cX7_sum 33 = .ok (.aload_n 0, 1) := by decide +kernel
theorem dX7_sum_34 : decode cX7_sum 34 = .ok (.getfield 17, 3) := by decide +kernel
theorem dX7_sum_37 : decode cX7_sum 37 = .ok (.iload_n 1, 1) := by decide +kernel
theorem dX7_sum_38 : decode cX7_sum 38 = .ok (.iload_n 2, 1) := by decide +kernel
theorem dX7_sum_39 : decode cX7_sum 39 = .ok (.iastore, 1) := by decide +kernel
theorem dX7_sum_40 : decode cX7_sum 40 = .ok (.iload_n 3, 1) := by decide +kernel
theorem dX7_sum_41 : decode cX7_sum 41 = .ok (.ireturn, 1) := by decide +kernel
theorem dX7_over_0 : decode cX7_over 0 = .ok (.aload_n 0, 1) := by decide +kernel
theorem dX7_over_1 : decode cX7_over 1 = .ok (.iload_n 1, 1) := by decide +kernel
theorem dX7_over_2 : decode cX7_over 2 = .ok (.invokevirtual 64, 3) := by decide +kernel
theorem dX7_over_5 : decode cX7_over 5 = .ok (.ifCond .eq 6, 3) := by decide +kernel
theorem dX7_over_8 : decode cX7_over 8 = .ok (.bipush (-101), 2) := by decide +kernel
theorem dX7_over_10 : decode cX7_over 10 = .ok (.ireturn, 1) := by decide +kernel
theorem dX7_over_11 : decode cX7_over 11 = .ok (.aload_n 0, 1) := by decide +kernel
theorem dX7_over_12 : decode cX7_over 12 = .ok (.iload_n 2, 1) := by decide +kernel
theorem dX7_over_13 : decode cX7_over 13 = .ok (.iconst 1, 1) := by decide +kernel
theorem dX7_over_14 : decode cX7_over 14 = .ok (.invokevirtual 58, 3) := by decide +kernel
theorem dX7_over_17 : decode cX7_over 17 = .ok (.ifCond .eq 6, 3) := by decide +kernel
theorem dX7_over_20 : decode cX7_over 20 = .ok (.bipush (-102), 2) := by decide +kernel
theorem dX7_over_22 : decode cX7_over 22 = .ok (.ireturn, 1) := by decide +kernel
theorem dX7_over_23 : decode cX7_over 23 = .ok (.aload_n 0, 1) := by decide +kernel
theorem dX7_over_24 : decode cX7_over 24 = .ok (.getfield 13, 3) := by decide +kernel
theorem dX7_over_27 : decode cX7_over 27 = .ok (.iload_n 1, 1) := by decide +kernel
theorem dX7_over_28 : decode cX7_over 28 = .ok (.iaload, 1) := by decide +kernel
theorem dX7_over_29 : decode cX7_over 29 = .ok (.istore_n 3, 1) := by decide +kernel
theorem dX7_over_30 : decode cX7_over 30 = .ok (.aload_n 0, 1) := by decide +kernel
theorem dX7_over_31 : decode cX7_over 31 = .ok (.getfield 13, 3) := by decide +kernel
theorem dX7_over_34 : decode cX7_over 34 = .ok (.iload_n 1, 1) := by decide +kernel
theorem dX7_over_35 : decode cX7_over 35 = .ok (.iload_n 2, 1) := by decide +kernel
theorem dX7_over_36 : decode cX7_over 36 = .ok (.iastore, 1) := by decide +kernel
theorem dX7_over_37 : decode cX7_over 37 = .ok (.iload_n 3, 1) := by decide +kernel
theorem dX7_over_38 : decode cX7_over 38 = .ok (.ireturn, 1) := by decide +kernel
theorem dX7_on_0 : decode cX7_on 0 = .ok (.aload_n 0, 1) := by decide +kernel
theorem dX7_on_1 : decode cX7_on 1 = .ok (.iload_n 1, 1) := by decide +kernel
theorem dX7_on_2 : decode cX7_on 2 = .ok (.invokevirtual 64, 3) := by decide +kernel
theorem dX7_on_5 : decode cX7_on 5 = .ok (.ifCond .eq 6, 3) := by decide +kernel
theorem dX7_on_8 : decode cX7_on 8 = .ok (.bipush (-101), 2) := by decide +kernel
theorem dX7_on_10 : decode cX7_on 10 = .ok (.ireturn, 1) := by decide +kernel
theorem dX7_on_11 : decode cX7_on 11 = .ok (.aload_n 0, 1) := by decide +kernel
theorem dX7_on_12 : decode cX7_on 12 = .ok (.getfield 20, 3) := by decide +kernel
theorem dX7_on_15 : decode cX7_on 15 = .ok (.iload_n 1, 1) := by decide +kernel
theorem dX7_on_16 : decode cX7_on 16 = .ok (.baload, 1) := by decide +kernel
theorem dX7_on_17 : decode cX7_on 17 = .ok (.ifCond .eq 7, 3) := by decide +kernel
theorem dX7_on_20 : decode cX7_on 20 = .ok (.iconst 1, 1) := by decide +kernel
theorem dX7_on_21 : decode cX7_on 21 = .ok (.goto 4, 3) := by decide +kernel
theorem dX7_on_24 : decode cX7_on 24 = .ok (.iconst 0, 1) := by decide +kernel
theorem dX7_on_25 : decode cX7_on 25 = .ok (.istore_n 3, 1) := by decide +kernel
theorem dX7_on_26 : decode cX7_on 26 = .ok (.aload_n 0, 1) := by decide +kernel
theorem dX7_on_27 : decode cX7_on 27 = .ok (.getfield 20, 3) := by decide +kernel
theorem dX7_on_30 : decode cX7_on 30 = .ok (.iload_n 1, 1) := by decide +kernel
theorem dX7_on_31 : decode cX7_on 31 = .ok (.iload_n 2, 1) := by decide +kernel
theorem dX7_on_32 : decode cX7_on 32 = .ok (.bastore, 1) := by decide +kernel
theorem dX7_on_33 : decode cX7_on 33 = .ok (.iload_n 3, 1) := by decide +kernel
theorem dX7_on_34 : decode cX7_on 34 = .ok (.ireturn, 1) := by decide +kernel
theorem dX7_bad_0 : decode cX7_bad 0 = .ok (.aload_n 0, 1) := by decide +kernel
theorem dX7_bad_1 : decode cX7_bad 1 = .ok (.iload_n 1, 1) := by decide +kernel
theorem dX7_bad_2 : decode cX7_bad 2 = .ok (.invokevirtual 64, 3) := by decide +kernel
theorem dX7_bad_5 : decode cX7_bad 5 = .ok (.ifCond .eq 6, 3) := by decide +kernel
theorem dX7_bad_8 : decode cX7_bad 8 = .ok (.bipush (-101), 2) := by decide +kernel
theorem dX7_bad_10 : decode cX7_bad 10 = .ok (.ireturn, 1) := by decide +kernel
theorem dX7_bad_11 : decode cX7_bad 11 = .ok (.aload_n 0, 1) := by decide +kernel
theorem dX7_bad_12 : decode cX7_bad 12 = .ok (.getfield 24, 3) := by decide +kernel
theorem dX7_bad_15 : decode cX7_bad 15 = .ok (.iload_n 1, 1) := by decide +kernel
theorem dX7_bad_16 : decode cX7_bad 16 = .ok (.baload, 1) := by decide +kernel
theorem dX7_bad_17 : decode cX7_bad 17 = .ok (.ifCond .eq 7, 3) := by decide +kernel
theorem dX7_bad_20 : decode cX7_bad 20 = .ok (.iconst 1, 1) := by decide +kernel
theorem dX7_bad_21 : decode cX7_bad 21 = .ok (.goto 4, 3) := by decide +kernel
theorem dX7_bad_24 : decode cX7_bad 24 = .ok (.iconst 0, 1) := by decide +kernel
theorem dX7_bad_25 : decode cX7_bad 25 = .ok (.istore_n 3, 1) := by decide +kernel
theorem dX7_bad_26 : decode cX7_bad 26 = .ok (.aload_n 0, 1) := by decide +kernel
theorem dX7_bad_27 : decode cX7_bad 27 = .ok (.getfield 24, 3) := by decide +kernel
theorem dX7_bad_30 : decode cX7_bad 30 = .ok (.iload_n 1, 1) := by decide +kernel
theorem dX7_bad_31 : decode cX7_bad 31 = .ok (.iload_n 2, 1) := by decide +kernel
theorem dX7_bad_32 : decode cX7_bad 32 = .ok (.bastore, 1) := by decide +kernel
theorem dX7_bad_33 : decode cX7_bad 33 = .ok (.iload_n 3, 1) := by decide +kernel
theorem dX7_bad_34 : decode cX7_bad 34 = .ok (.ireturn, 1) := by decide +kernel
theorem dX7_back_0 : decode cX7_back 0 = .ok (.aload_n 0, 1) := by decide +kernel
theorem dX7_back_1 : decode cX7_back 1 = .ok (.getfield 52, 3) := by decide +kernel
theorem dX7_back_4 : decode cX7_back 4 = .ok (.ifCond .ne 6, 3) := by decide +kernel
theorem dX7_back_7 : decode cX7_back 7 = .ok (.bipush (-103), 2) := by decide +kernel
theorem dX7_back_9 : decode cX7_back 9 = .ok (.ireturn, 1) := by decide +kernel
theorem dX7_back_10 : decode cX7_back 10 = .ok (.aload_n 0, 1) := by decide +kernel
theorem dX7_back_11 : decode cX7_back 11 = .ok (.dup, 1) := by decide +kernel
theorem dX7_back_12 : decode cX7_back 12 = .ok (.getfield 52, 3) := by decide +kernel
theorem dX7_back_15 : decode cX7_back 15 = .ok (.iconst 1, 1) := by decide +kernel
theorem dX7_back_16 : decode cX7_back 16 = .ok (.isub, 1) := by decide +kernel
theorem dX7_back_17 : decode cX7_back 17 = .ok (.putfield 52, 3) := by decide +kernel
theorem dX7_back_20 : decode cX7_back 20 = .ok (.aload_n 0, 1) := by decide +kernel
theorem dX7_back_21 : decode cX7_back 21 = .ok (.getfield 52, 3) := by decide +kernel
theorem dX7_back_24 : decode cX7_back 24 = .ok (.ireturn, 1) := by decide +kernel
theorem dX7_told_0 : decode cX7_told 0 = .ok (.aload_n 0, 1) := by decide +kernel
theorem dX7_told_1 : decode cX7_told 1 = .ok (.iload_n 1, 1) := by decide +kernel
theorem dX7_told_2 : decode cX7_told 2 = .ok (.invokevirtual 64, 3) := by decide +kernel
theorem dX7_told_5 : decode cX7_told 5 = .ok (.ifCond .eq 6, 3) := by decide +kernel
theorem dX7_told_8 : decode cX7_told 8 = .ok (.bipush (-101), 2) := by decide +kernel
theorem dX7_told_10 : decode cX7_told 10 = .ok (.ireturn, 1) := by decide +kernel
theorem dX7_told_11 : decode cX7_told 11 = .ok (.iload_n 2, 1) := by decide +kernel
theorem dX7_told_12 : decode cX7_told 12 = .ok (.tableswitch 76 0 3 #[32, 39, 46, 61], 32) := by decide +kernel
theorem dX7_told_44 : decode cX7_told 44 = .ok (.aload_n 0, 1) := by decide +kernel
theorem dX7_told_45 : decode cX7_told 45 = .ok (.getfield 13, 3) := by decide +kernel
theorem dX7_told_48 : decode cX7_told 48 = .ok (.iload_n 1, 1) := by decide +kernel
theorem dX7_told_49 : decode cX7_told 49 = .ok (.iaload, 1) := by decide +kernel
theorem dX7_told_50 : decode cX7_told 50 = .ok (.ireturn, 1) := by decide +kernel
theorem dX7_told_51 : decode cX7_told 51 = .ok (.aload_n 0, 1) := by decide +kernel
theorem dX7_told_52 : decode cX7_told 52 = .ok (.getfield 17, 3) := by decide +kernel
theorem dX7_told_55 : decode cX7_told 55 = .ok (.iload_n 1, 1) := by decide +kernel
theorem dX7_told_56 : decode cX7_told 56 = .ok (.iaload, 1) := by decide +kernel
theorem dX7_told_57 : decode cX7_told 57 = .ok (.ireturn, 1) := by decide +kernel
theorem dX7_told_58 : decode cX7_told 58 = .ok (.aload_n 0, 1) := by decide +kernel
theorem dX7_told_59 : decode cX7_told 59 = .ok (.getfield 20, 3) := by decide +kernel
theorem dX7_told_62 : decode cX7_told 62 = .ok (.iload_n 1, 1) := by decide +kernel
theorem dX7_told_63 : decode cX7_told 63 = .ok (.baload, 1) := by decide +kernel
theorem dX7_told_64 : decode cX7_told 64 = .ok (.ifCond .eq 7, 3) := by decide +kernel
theorem dX7_told_67 : decode cX7_told 67 = .ok (.iconst 1, 1) := by decide +kernel
theorem dX7_told_68 : decode cX7_told 68 = .ok (.goto 4, 3) := by decide +kernel
theorem dX7_told_71 : decode cX7_told 71 = .ok (.iconst 0, 1) := by decide +kernel
theorem dX7_told_72 : decode cX7_told 72 = .ok (.ireturn, 1) := by decide +kernel
theorem dX7_told_73 : decode cX7_told 73 = .ok (.aload_n 0, 1) := by decide +kernel
theorem dX7_told_74 : decode cX7_told 74 = .ok (.getfield 24, 3) := by decide +kernel
theorem dX7_told_77 : decode cX7_told 77 = .ok (.iload_n 1, 1) := by decide +kernel
theorem dX7_told_78 : decode cX7_told 78 = .ok (.baload, 1) := by decide +kernel
theorem dX7_told_79 : decode cX7_told 79 = .ok (.ifCond .eq 7, 3) := by decide +kernel
theorem dX7_told_82 : decode cX7_told 82 = .ok (.iconst 1, 1) := by decide +kernel
theorem dX7_told_83 : decode cX7_told 83 = .ok (.goto 4, 3) := by decide +kernel
theorem dX7_told_86 : decode cX7_told 86 = .ok (.iconst 0, 1) := by decide +kernel
theorem dX7_told_87 : decode cX7_told 87 = .ok (.ireturn, 1) := by decide +kernel
theorem dX7_told_88 : decode cX7_told 88 = .ok (.bipush (-102), 2) := by decide +kernel
theorem dX7_told_90 : decode cX7_told 90 = .ok (.ireturn, 1) := by decide +kernel
theorem dX7_onSet_0 : decode cX7_onSet 0 = .ok (.iconst 0, 1) := by decide +kernel
theorem dX7_onSet_1 : decode cX7_onSet 1 = .ok (.istore_n 1, 1) := by decide +kernel
theorem dX7_onSet_2 : decode cX7_onSet 2 = .ok (.iconst 0, 1) := by decide +kernel
theorem dX7_onSet_3 : decode cX7_onSet 3 = .ok (.istore_n 2, 1) := by decide +kernel
theorem dX7_onSet_4 : decode cX7_onSet 4 = .ok (.iload_n 2, 1) := by decide +kernel
theorem dX7_onSet_5 : decode cX7_onSet 5 = .ok (.aload_n 0, 1) := by decide +kernel
theorem dX7_onSet_6 : decode cX7_onSet 6 = .ok (.getfield 52, 3) := by decide +kernel
theorem dX7_onSet_9 : decode cX7_onSet 9 = .ok (.if_icmp .ge 28, 3) := by decide +kernel
theorem dX7_onSet_12 : decode cX7_onSet 12 = .ok (.iload_n 1, 1) := by decide +kernel
theorem dX7_onSet_13 : decode cX7_onSet 13 = .ok (.aload_n 0, 1) := by decide +kernel
theorem dX7_onSet_14 : decode cX7_onSet 14 = .ok (.getfield 20, 3) := by decide +kernel
theorem dX7_onSet_17 : decode cX7_onSet 17 = .ok (.iload_n 2, 1) := by decide +kernel
theorem dX7_onSet_18 : decode cX7_onSet 18 = .ok (.baload, 1) := by decide +kernel
theorem dX7_onSet_19 : decode cX7_onSet 19 = .ok (.ifCond .eq 9, 3) := by decide +kernel
theorem dX7_onSet_22 : decode cX7_onSet 22 = .ok (.iconst 1, 1) := by decide +kernel
theorem dX7_onSet_23 : decode cX7_onSet 23 = .ok (.iload_n 2, 1) := by decide +kernel
theorem dX7_onSet_24 : decode cX7_onSet 24 = .ok (.ishl, 1) := by decide +kernel
theorem dX7_onSet_25 : decode cX7_onSet 25 = .ok (.goto 4, 3) := by decide +kernel
theorem dX7_onSet_28 : decode cX7_onSet 28 = .ok (.iconst 0, 1) := by decide +kernel
theorem dX7_onSet_29 : decode cX7_onSet 29 = .ok (.ior, 1) := by decide +kernel
theorem dX7_onSet_30 : decode cX7_onSet 30 = .ok (.istore_n 1, 1) := by decide +kernel
theorem dX7_onSet_31 : decode cX7_onSet 31 = .ok (.iinc 2 1, 3) := by decide +kernel
theorem dX7_onSet_34 : decode cX7_onSet 34 = .ok (.goto (-30), 3) := by decide +kernel
theorem dX7_onSet_37 : decode cX7_onSet 37 = .ok (.iload_n 1, 1) := by decide +kernel
theorem dX7_onSet_38 : decode cX7_onSet 38 = .ok (.ireturn, 1) := by decide +kernel
theorem dX7_seenSet_0 : decode cX7_seenSet 0 = .ok (.iconst 0, 1) := by decide +kernel
theorem dX7_seenSet_1 : decode cX7_seenSet 1 = .ok (.istore_n 1, 1) := by decide +kernel
theorem dX7_seenSet_2 : decode cX7_seenSet 2 = .ok (.iconst 0, 1) := by decide +kernel
theorem dX7_seenSet_3 : decode cX7_seenSet 3 = .ok (.istore_n 2, 1) := by decide +kernel
theorem dX7_seenSet_4 : decode cX7_seenSet 4 = .ok (.iload_n 2, 1) := by decide +kernel
theorem dX7_seenSet_5 : decode cX7_seenSet 5 = .ok (.aload_n 0, 1) := by decide +kernel
theorem dX7_seenSet_6 : decode cX7_seenSet 6 = .ok (.getfield 52, 3) := by decide +kernel
theorem dX7_seenSet_9 : decode cX7_seenSet 9 = .ok (.if_icmp .ge 31, 3) := by decide +kernel
theorem dX7_seenSet_12 : decode cX7_seenSet 12 = .ok (.iload_n 1, 1) := by decide +kernel
theorem dX7_seenSet_13 : decode cX7_seenSet 13 = .ok (.aload_n 0, 1) := by decide +kernel
theorem dX7_seenSet_14 : decode cX7_seenSet 14 = .ok (.getfield 20, 3) := by decide +kernel
theorem dX7_seenSet_17 : decode cX7_seenSet 17 = .ok (.iload_n 2, 1) := by decide +kernel
theorem dX7_seenSet_18 : decode cX7_seenSet 18 = .ok (.baload, 1) := by decide +kernel
theorem dX7_seenSet_19 : decode cX7_seenSet 19 = .ok (.ifCond .eq 12, 3) := by decide +kernel
theorem dX7_seenSet_22 : decode cX7_seenSet 22 = .ok (.aload_n 0, 1) := by decide +kernel
theorem dX7_seenSet_23 : decode cX7_seenSet 23 = .ok (.getfield 13, 3) := by decide +kernel
theorem dX7_seenSet_26 : decode cX7_seenSet 26 = .ok (.iload_n 2, 1) := by decide +kernel
theorem dX7_seenSet_27 : decode cX7_seenSet 27 = .ok (.iaload, 1) := by decide +kernel
theorem dX7_seenSet_28 : decode cX7_seenSet 28 = .ok (.goto 4, 3) := by decide +kernel
theorem dX7_seenSet_31 : decode cX7_seenSet 31 = .ok (.iconst 0, 1) := by decide +kernel
theorem dX7_seenSet_32 : decode cX7_seenSet 32 = .ok (.ior, 1) := by decide +kernel
theorem dX7_seenSet_33 : decode cX7_seenSet 33 = .ok (.istore_n 1, 1) := by decide +kernel
theorem dX7_seenSet_34 : decode cX7_seenSet 34 = .ok (.iinc 2 1, 3) := by decide +kernel
theorem dX7_seenSet_37 : decode cX7_seenSet 37 = .ok (.goto (-33), 3) := by decide +kernel
theorem dX7_seenSet_40 : decode cX7_seenSet 40 = .ok (.iload_n 1, 1) := by decide +kernel
theorem dX7_seenSet_41 : decode cX7_seenSet 41 = .ok (.ireturn, 1) := by decide +kernel
theorem dX7_swap_0 : decode cX7_swap 0 = .ok (.iconst 0, 1) := by decide +kernel
theorem dX7_swap_1 : decode cX7_swap 1 = .ok (.istore 4, 2) := by decide +kernel
theorem dX7_swap_3 : decode cX7_swap 3 = .ok (.iload 4, 2) := by decide +kernel
theorem dX7_swap_5 : decode cX7_swap 5 = .ok (.iload_n 3, 1) := by decide +kernel
theorem dX7_swap_6 : decode cX7_swap 6 = .ok (.if_icmp .ge 61, 3) := by decide +kernel
theorem dX7_swap_9 : decode cX7_swap 9 = .ok (.aload_n 0, 1) := by decide +kernel
theorem dX7_swap_10 : decode cX7_swap 10 = .ok (.getfield 30, 3) := by decide +kernel
theorem dX7_swap_13 : decode cX7_swap 13 = .ok (.bipush 32, 2) := by decide +kernel
theorem dX7_swap_15 : decode cX7_swap 15 = .ok (.iload_n 1, 1) := by decide +kernel
theorem dX7_swap_16 : decode cX7_swap 16 = .ok (.imul, 1) := by decide +kernel
theorem dX7_swap_17 : decode cX7_swap 17 = .ok (.iload 4, 2) := by decide +kernel
theorem dX7_swap_19 : decode cX7_swap 19 = .ok (.iadd, 1) := by decide +kernel
theorem dX7_swap_20 : decode cX7_swap 20 = .ok (.laload, 1) := by decide +kernel
theorem dX7_swap_21 : decode cX7_swap 21 = .ok (.lstore 5, 2) := by decide +kernel
theorem dX7_swap_23 : decode cX7_swap 23 = .ok (.aload_n 0, 1) := by decide +kernel
theorem dX7_swap_24 : decode cX7_swap 24 = .ok (.getfield 30, 3) := by decide +kernel
theorem dX7_swap_27 : decode cX7_swap 27 = .ok (.bipush 32, 2) := by decide +kernel
theorem dX7_swap_29 : decode cX7_swap 29 = .ok (.iload_n 1, 1) := by decide +kernel
theorem dX7_swap_30 : decode cX7_swap 30 = .ok (.imul, 1) := by decide +kernel
theorem dX7_swap_31 : decode cX7_swap 31 = .ok (.iload 4, 2) := by decide +kernel
theorem dX7_swap_33 : decode cX7_swap 33 = .ok (.iadd, 1) := by decide +kernel
theorem dX7_swap_34 : decode cX7_swap 34 = .ok (.aload_n 0, 1) := by decide +kernel
theorem dX7_swap_35 : decode cX7_swap 35 = .ok (.getfield 30, 3) := by decide +kernel
theorem dX7_swap_38 : decode cX7_swap 38 = .ok (.bipush 32, 2) := by decide +kernel
theorem dX7_swap_40 : decode cX7_swap 40 = .ok (.iload_n 2, 1) := by decide +kernel
theorem dX7_swap_41 : decode cX7_swap 41 = .ok (.imul, 1) := by decide +kernel
theorem dX7_swap_42 : decode cX7_swap 42 = .ok (.iload 4, 2) := by decide +kernel
theorem dX7_swap_44 : decode cX7_swap 44 = .ok (.iadd, 1) := by decide +kernel
theorem dX7_swap_45 : decode cX7_swap 45 = .ok (.laload, 1) := by decide +kernel
theorem dX7_swap_46 : decode cX7_swap 46 = .ok (.lastore, 1) := by decide +kernel
theorem dX7_swap_47 : decode cX7_swap 47 = .ok (.aload_n 0, 1) := by decide +kernel
theorem dX7_swap_48 : decode cX7_swap 48 = .ok (.getfield 30, 3) := by decide +kernel
theorem dX7_swap_51 : decode cX7_swap 51 = .ok (.bipush 32, 2) := by decide +kernel
theorem dX7_swap_53 : decode cX7_swap 53 = .ok (.iload_n 2, 1) := by decide +kernel
theorem dX7_swap_54 : decode cX7_swap 54 = .ok (.imul, 1) := by decide +kernel
theorem dX7_swap_55 : decode cX7_swap 55 = .ok (.iload 4, 2) := by decide +kernel
theorem dX7_swap_57 : decode cX7_swap 57 = .ok (.iadd, 1) := by decide +kernel
theorem dX7_swap_58 : decode cX7_swap 58 = .ok (.lload 5, 2) := by decide +kernel
theorem dX7_swap_60 : decode cX7_swap 60 = .ok (.lastore, 1) := by decide +kernel
theorem dX7_swap_61 : decode cX7_swap 61 = .ok (.iinc 4 1, 3) := by decide +kernel
theorem dX7_swap_64 : decode cX7_swap 64 = .ok (.goto (-61), 3) := by decide +kernel
theorem dX7_swap_67 : decode cX7_swap 67 = .ok (.return_, 1) := by decide +kernel
theorem dX7_pivot_0 : decode cX7_pivot 0 = .ok (.aload_n 0, 1) := by decide +kernel
theorem dX7_pivot_1 : decode cX7_pivot 1 = .ok (.getfield 30, 3) := by decide +kernel
theorem dX7_pivot_4 : decode cX7_pivot 4 = .ok (.bipush 32, 2) := by decide +kernel
theorem dX7_pivot_6 : decode cX7_pivot 6 = .ok (.iload_n 1, 1) := by decide +kernel
theorem dX7_pivot_7 : decode cX7_pivot 7 = .ok (.imul, 1) := by decide +kernel
theorem dX7_pivot_8 : decode cX7_pivot 8 = .ok (.iload_n 2, 1) := by decide +kernel
theorem dX7_pivot_9 : decode cX7_pivot 9 = .ok (.iadd, 1) := by decide +kernel
theorem dX7_pivot_10 : decode cX7_pivot 10 = .ok (.laload, 1) := by decide +kernel
theorem dX7_pivot_11 : decode cX7_pivot 11 = .ok (.lstore 4, 2) := by decide +kernel
theorem dX7_pivot_13 : decode cX7_pivot 13 = .ok (.iconst 0, 1) := by decide +kernel
theorem dX7_pivot_14 : decode cX7_pivot 14 = .ok (.istore 6, 2) := by decide +kernel
theorem dX7_pivot_16 : decode cX7_pivot 16 = .ok (.iload 6, 2) := by decide +kernel
theorem dX7_pivot_18 : decode cX7_pivot 18 = .ok (.aload_n 0, 1) := by decide +kernel
theorem dX7_pivot_19 : decode cX7_pivot 19 = .ok (.getfield 68, 3) := by decide +kernel
theorem dX7_pivot_22 : decode cX7_pivot 22 = .ok (.if_icmp .ge 94, 3) := by decide +kernel
theorem dX7_pivot_25 : decode cX7_pivot 25 = .ok (.aload_n 0, 1) := by decide +kernel
theorem dX7_pivot_26 : decode cX7_pivot 26 = .ok (.getfield 30, 3) := by decide +kernel
theorem dX7_pivot_29 : decode cX7_pivot 29 = .ok (.bipush 32, 2) := by decide +kernel
theorem dX7_pivot_31 : decode cX7_pivot 31 = .ok (.iload 6, 2) := by decide +kernel
theorem dX7_pivot_33 : decode cX7_pivot 33 = .ok (.imul, 1) := by decide +kernel
theorem dX7_pivot_34 : decode cX7_pivot 34 = .ok (.iload_n 2, 1) := by decide +kernel
theorem dX7_pivot_35 : decode cX7_pivot 35 = .ok (.iadd, 1) := by decide +kernel
theorem dX7_pivot_36 : decode cX7_pivot 36 = .ok (.laload, 1) := by decide +kernel
theorem dX7_pivot_37 : decode cX7_pivot 37 = .ok (.lstore 7, 2) := by decide +kernel
theorem dX7_pivot_39 : decode cX7_pivot 39 = .ok (.iconst 0, 1) := by decide +kernel
theorem dX7_pivot_40 : decode cX7_pivot 40 = .ok (.istore 9, 2) := by decide +kernel
theorem dX7_pivot_42 : decode cX7_pivot 42 = .ok (.iload 9, 2) := by decide +kernel
theorem dX7_pivot_44 : decode cX7_pivot 44 = .ok (.iload_n 3, 1) := by decide +kernel
theorem dX7_pivot_45 : decode cX7_pivot 45 = .ok (.if_icmp .ge 65, 3) := by decide +kernel
theorem dX7_pivot_48 : decode cX7_pivot 48 = .ok (.iload 6, 2) := by decide +kernel
theorem dX7_pivot_50 : decode cX7_pivot 50 = .ok (.iload_n 1, 1) := by decide +kernel
theorem dX7_pivot_51 : decode cX7_pivot 51 = .ok (.if_icmp .eq 59, 3) := by decide +kernel
theorem dX7_pivot_54 : decode cX7_pivot 54 = .ok (.aload_n 0, 1) := by decide +kernel
theorem dX7_pivot_55 : decode cX7_pivot 55 = .ok (.getfield 30, 3) := by decide +kernel
theorem dX7_pivot_58 : decode cX7_pivot 58 = .ok (.bipush 32, 2) := by decide +kernel
theorem dX7_pivot_60 : decode cX7_pivot 60 = .ok (.iload 6, 2) := by decide +kernel
theorem dX7_pivot_62 : decode cX7_pivot 62 = .ok (.imul, 1) := by decide +kernel
theorem dX7_pivot_63 : decode cX7_pivot 63 = .ok (.iload 9, 2) := by decide +kernel
theorem dX7_pivot_65 : decode cX7_pivot 65 = .ok (.iadd, 1) := by decide +kernel
theorem dX7_pivot_66 : decode cX7_pivot 66 = .ok (.aload_n 0, 1) := by decide +kernel
theorem dX7_pivot_67 : decode cX7_pivot 67 = .ok (.getfield 30, 3) := by decide +kernel
theorem dX7_pivot_70 : decode cX7_pivot 70 = .ok (.bipush 32, 2) := by decide +kernel
theorem dX7_pivot_72 : decode cX7_pivot 72 = .ok (.iload 6, 2) := by decide +kernel
theorem dX7_pivot_74 : decode cX7_pivot 74 = .ok (.imul, 1) := by decide +kernel
theorem dX7_pivot_75 : decode cX7_pivot 75 = .ok (.iload 9, 2) := by decide +kernel
theorem dX7_pivot_77 : decode cX7_pivot 77 = .ok (.iadd, 1) := by decide +kernel
theorem dX7_pivot_78 : decode cX7_pivot 78 = .ok (.laload, 1) := by decide +kernel
theorem dX7_pivot_79 : decode cX7_pivot 79 = .ok (.lload 4, 2) := by decide +kernel
theorem dX7_pivot_81 : decode cX7_pivot 81 = .ok (.lmul, 1) := by decide +kernel
theorem dX7_pivot_82 : decode cX7_pivot 82 = .ok (.lload 7, 2) := by decide +kernel
theorem dX7_pivot_84 : decode cX7_pivot 84 = .ok (.aload_n 0, 1) := by decide +kernel
theorem dX7_pivot_85 : decode cX7_pivot 85 = .ok (.getfield 30, 3) := by decide +kernel
theorem dX7_pivot_88 : decode cX7_pivot 88 = .ok (.bipush 32, 2) := by decide +kernel
theorem dX7_pivot_90 : decode cX7_pivot 90 = .ok (.iload_n 1, 1) := by decide +kernel
theorem dX7_pivot_91 : decode cX7_pivot 91 = .ok (.imul, 1) := by decide +kernel
theorem dX7_pivot_92 : decode cX7_pivot 92 = .ok (.iload 9, 2) := by decide +kernel
theorem dX7_pivot_94 : decode cX7_pivot 94 = .ok (.iadd, 1) := by decide +kernel
theorem dX7_pivot_95 : decode cX7_pivot 95 = .ok (.laload, 1) := by decide +kernel
theorem dX7_pivot_96 : decode cX7_pivot 96 = .ok (.lmul, 1) := by decide +kernel
theorem dX7_pivot_97 : decode cX7_pivot 97 = .ok (.lsub, 1) := by decide +kernel
theorem dX7_pivot_98 : decode cX7_pivot 98 = .ok (.aload_n 0, 1) := by decide +kernel
theorem dX7_pivot_99 : decode cX7_pivot 99 = .ok (.getfield 71, 3) := by decide +kernel
theorem dX7_pivot_102 : decode cX7_pivot 102 = .ok (.ldiv, 1) := by decide +kernel
theorem dX7_pivot_103 : decode cX7_pivot 103 = .ok (.lastore, 1) := by decide +kernel
theorem dX7_pivot_104 : decode cX7_pivot 104 = .ok (.iinc 9 1, 3) := by decide +kernel
theorem dX7_pivot_107 : decode cX7_pivot 107 = .ok (.goto (-65), 3) := by decide +kernel
theorem dX7_pivot_110 : decode cX7_pivot 110 = .ok (.iinc 6 1, 3) := by decide +kernel
theorem dX7_pivot_113 : decode cX7_pivot 113 = .ok (.goto (-97), 3) := by decide +kernel
theorem dX7_pivot_116 : decode cX7_pivot 116 = .ok (.aload_n 0, 1) := by decide +kernel
theorem dX7_pivot_117 : decode cX7_pivot 117 = .ok (.lload 4, 2) := by decide +kernel
theorem dX7_pivot_119 : decode cX7_pivot 119 = .ok (.putfield 71, 3) := by decide +kernel
theorem dX7_pivot_122 : decode cX7_pivot 122 = .ok (.return_, 1) := by decide +kernel
theorem dX7_findRow_0 : decode cX7_findRow 0 = .ok (.iload_n 1, 1) := by decide +kernel
theorem dX7_findRow_1 : decode cX7_findRow 1 = .ok (.istore_n 3, 1) := by decide +kernel
theorem dX7_findRow_2 : decode cX7_findRow 2 = .ok (.iload_n 3, 1) := by decide +kernel
theorem dX7_findRow_3 : decode cX7_findRow 3 = .ok (.aload_n 0, 1) := by decide +kernel
theorem dX7_findRow_4 : decode cX7_findRow 4 = .ok (.getfield 68, 3) := by decide +kernel
theorem dX7_findRow_7 : decode cX7_findRow 7 = .ok (.if_icmp .ge 25, 3) := by decide +kernel
theorem dX7_findRow_10 : decode cX7_findRow 10 = .ok (.aload_n 0, 1) := by decide +kernel
theorem dX7_findRow_11 : decode cX7_findRow 11 = .ok (.getfield 30, 3) := by decide +kernel
theorem dX7_findRow_14 : decode cX7_findRow 14 = .ok (.bipush 32, 2) := by decide +kernel
theorem dX7_findRow_16 : decode cX7_findRow 16 = .ok (.iload_n 3, 1) := by decide +kernel
theorem dX7_findRow_17 : decode cX7_findRow 17 = .ok (.imul, 1) := by decide +kernel
theorem dX7_findRow_18 : decode cX7_findRow 18 = .ok (.iload_n 2, 1) := by decide +kernel
theorem dX7_findRow_19 : decode cX7_findRow 19 = .ok (.iadd, 1) := by decide +kernel
theorem dX7_findRow_20 : decode cX7_findRow 20 = .ok (.laload, 1) := by decide +kernel
theorem dX7_findRow_21 : decode cX7_findRow 21 = .ok (.lconst 0, 1) := by decide +kernel
theorem dX7_findRow_22 : decode cX7_findRow 22 = .ok (.lcmp, 1) := by decide +kernel
theorem dX7_findRow_23 : decode cX7_findRow 23 = .ok (.ifCond .ne 9, 3) := by decide +kernel
theorem dX7_findRow_26 : decode cX7_findRow 26 = .ok (.iinc 3 1, 3) := by decide +kernel
theorem dX7_findRow_29 : decode cX7_findRow 29 = .ok (.goto (-27), 3) := by decide +kernel
theorem dX7_findRow_32 : decode cX7_findRow 32 = .ok (.iload_n 3, 1) := by decide +kernel
theorem dX7_findRow_33 : decode cX7_findRow 33 = .ok (.ireturn, 1) := by decide +kernel
theorem dX7_addRow_0 : decode cX7_addRow 0 = .ok (.iconst 0, 1) := by decide +kernel
theorem dX7_addRow_1 : decode cX7_addRow 1 = .ok (.istore_n 2, 1) := by decide +kernel
theorem dX7_addRow_2 : decode cX7_addRow 2 = .ok (.iload_n 2, 1) := by decide +kernel
theorem dX7_addRow_3 : decode cX7_addRow 3 = .ok (.aload_n 0, 1) := by decide +kernel
theorem dX7_addRow_4 : decode cX7_addRow 4 = .ok (.getfield 7, 3) := by decide +kernel
theorem dX7_addRow_7 : decode cX7_addRow 7 = .ok (.if_icmp .ge 29, 3) := by decide +kernel
theorem dX7_addRow_10 : decode cX7_addRow 10 = .ok (.aload_n 0, 1) := by decide +kernel
theorem dX7_addRow_11 : decode cX7_addRow 11 = .ok (.getfield 30, 3) := by decide +kernel
theorem dX7_addRow_14 : decode cX7_addRow 14 = .ok (.bipush 32, 2) := by decide +kernel
theorem dX7_addRow_16 : decode cX7_addRow 16 = .ok (.aload_n 0, 1) := by decide +kernel
theorem dX7_addRow_17 : decode cX7_addRow 17 = .ok (.getfield 68, 3) := by decide +kernel
theorem dX7_addRow_20 : decode cX7_addRow 20 = .ok (.imul, 1) := by decide +kernel
theorem dX7_addRow_21 : decode cX7_addRow 21 = .ok (.iload_n 2, 1) := by decide +kernel
theorem dX7_addRow_22 : decode cX7_addRow 22 = .ok (.iadd, 1) := by decide +kernel
theorem dX7_addRow_23 : decode cX7_addRow 23 = .ok (.iload_n 1, 1) := by decide +kernel
theorem dX7_addRow_24 : decode cX7_addRow 24 = .ok (.iload_n 2, 1) := by decide +kernel
theorem dX7_addRow_25 : decode cX7_addRow 25 = .ok (.ishr, 1) := by decide +kernel
theorem dX7_addRow_26 : decode cX7_addRow 26 = .ok (.iconst 1, 1) := by decide +kernel
theorem dX7_addRow_27 : decode cX7_addRow 27 = .ok (.iand, 1) := by decide +kernel
theorem dX7_addRow_28 : decode cX7_addRow 28 = .ok (.i2l, 1) := by decide +kernel
theorem dX7_addRow_29 : decode cX7_addRow 29 = .ok (.lastore, 1) := by decide +kernel
theorem dX7_addRow_30 : decode cX7_addRow 30 = .ok (.iinc 2 1, 3) := by decide +kernel
theorem dX7_addRow_33 : decode cX7_addRow 33 = .ok (.goto (-31), 3) := by decide +kernel
theorem dX7_addRow_36 : decode cX7_addRow 36 = .ok (.aload_n 0, 1) := by decide +kernel
theorem dX7_addRow_37 : decode cX7_addRow 37 = .ok (.dup, 1) := by decide +kernel
theorem dX7_addRow_38 : decode cX7_addRow 38 = .ok (.getfield 68, 3) := by decide +kernel
theorem dX7_addRow_41 : decode cX7_addRow 41 = .ok (.iconst 1, 1) := by decide +kernel
theorem dX7_addRow_42 : decode cX7_addRow 42 = .ok (.iadd, 1) := by decide +kernel
theorem dX7_addRow_43 : decode cX7_addRow 43 = .ok (.putfield 68, 3) := by decide +kernel
theorem dX7_addRow_46 : decode cX7_addRow 46 = .ok (.return_, 1) := by decide +kernel
theorem dX7_rank_0 : decode cX7_rank 0 = .ok (.aload_n 0, 1) := by decide +kernel
theorem dX7_rank_1 : decode cX7_rank 1 = .ok (.iconst 0, 1) := by decide +kernel
theorem dX7_rank_2 : decode cX7_rank 2 = .ok (.putfield 68, 3) := by decide +kernel
theorem dX7_rank_5 : decode cX7_rank 5 = .ok (.iconst 0, 1) := by decide +kernel
theorem dX7_rank_6 : decode cX7_rank 6 = .ok (.istore 4, 2) := by decide +kernel
theorem dX7_rank_8 : decode cX7_rank 8 = .ok (.iload 4, 2) := by decide +kernel
theorem dX7_rank_10 : decode cX7_rank 10 = .ok (.aload_n 0, 1) := by decide +kernel
theorem dX7_rank_11 : decode cX7_rank 11 = .ok (.getfield 52, 3) := by decide +kernel
theorem dX7_rank_14 : decode cX7_rank 14 = .ok (.if_icmp .ge 30, 3) := by decide +kernel
theorem dX7_rank_17 : decode cX7_rank 17 = .ok (.iload_n 1, 1) := by decide +kernel
theorem dX7_rank_18 : decode cX7_rank 18 = .ok (.iload 4, 2) := by decide +kernel
theorem dX7_rank_20 : decode cX7_rank 20 = .ok (.ishr, 1) := by decide +kernel
theorem dX7_rank_21 : decode cX7_rank 21 = .ok (.iconst 1, 1) := by decide +kernel
theorem dX7_rank_22 : decode cX7_rank 22 = .ok (.iand, 1) := by decide +kernel
theorem dX7_rank_23 : decode cX7_rank 23 = .ok (.iconst 1, 1) := by decide +kernel
theorem dX7_rank_24 : decode cX7_rank 24 = .ok (.if_icmp .ne 14, 3) := by decide +kernel
theorem dX7_rank_27 : decode cX7_rank 27 = .ok (.aload_n 0, 1) := by decide +kernel
theorem dX7_rank_28 : decode cX7_rank 28 = .ok (.aload_n 0, 1) := by decide +kernel
theorem dX7_rank_29 : decode cX7_rank 29 = .ok (.getfield 13, 3) := by decide +kernel
theorem dX7_rank_32 : decode cX7_rank 32 = .ok (.iload 4, 2) := by decide +kernel
theorem dX7_rank_34 : decode cX7_rank 34 = .ok (.iaload, 1) := by decide +kernel
theorem dX7_rank_35 : decode cX7_rank 35 = .ok (.invokevirtual 75, 3) := by decide +kernel
theorem dX7_rank_38 : decode cX7_rank 38 = .ok (.iinc 4 1, 3) := by decide +kernel
theorem dX7_rank_41 : decode cX7_rank 41 = .ok (.goto (-33), 3) := by decide +kernel
theorem dX7_rank_44 : decode cX7_rank 44 = .ok (.iconst 0, 1) := by decide +kernel
theorem dX7_rank_45 : decode cX7_rank 45 = .ok (.istore 4, 2) := by decide +kernel
theorem dX7_rank_47 : decode cX7_rank 47 = .ok (.iload 4, 2) := by decide +kernel
theorem dX7_rank_49 : decode cX7_rank 49 = .ok (.aload_n 0, 1) := by decide +kernel
theorem dX7_rank_50 : decode cX7_rank 50 = .ok (.getfield 55, 3) := by decide +kernel
theorem dX7_rank_53 : decode cX7_rank 53 = .ok (.if_icmp .ge 30, 3) := by decide +kernel
theorem dX7_rank_56 : decode cX7_rank 56 = .ok (.iload_n 2, 1) := by decide +kernel
theorem dX7_rank_57 : decode cX7_rank 57 = .ok (.iload 4, 2) := by decide +kernel
theorem dX7_rank_59 : decode cX7_rank 59 = .ok (.ishr, 1) := by decide +kernel
theorem dX7_rank_60 : decode cX7_rank 60 = .ok (.iconst 1, 1) := by decide +kernel
theorem dX7_rank_61 : decode cX7_rank 61 = .ok (.iand, 1) := by decide +kernel
theorem dX7_rank_62 : decode cX7_rank 62 = .ok (.iconst 1, 1) := by decide +kernel
theorem dX7_rank_63 : decode cX7_rank 63 = .ok (.if_icmp .ne 14, 3) := by decide +kernel
theorem dX7_rank_66 : decode cX7_rank 66 = .ok (.aload_n 0, 1) := by decide +kernel
theorem dX7_rank_67 : decode cX7_rank 67 = .ok (.aload_n 0, 1) := by decide +kernel
theorem dX7_rank_68 : decode cX7_rank 68 = .ok (.getfield 27, 3) := by decide +kernel
theorem dX7_rank_71 : decode cX7_rank 71 = .ok (.iload 4, 2) := by decide +kernel
theorem dX7_rank_73 : decode cX7_rank 73 = .ok (.iaload, 1) := by decide +kernel
theorem dX7_rank_74 : decode cX7_rank 74 = .ok (.invokevirtual 75, 3) := by decide +kernel
theorem dX7_rank_77 : decode cX7_rank 77 = .ok (.iinc 4 1, 3) := by decide +kernel
theorem dX7_rank_80 : decode cX7_rank 80 = .ok (.goto (-33), 3) := by decide +kernel
theorem dX7_rank_83 : decode cX7_rank 83 = .ok (.iload_n 3, 1) := by decide +kernel
theorem dX7_rank_84 : decode cX7_rank 84 = .ok (.ifCond .lt 10, 3) := by decide +kernel
theorem dX7_rank_87 : decode cX7_rank 87 = .ok (.aload_n 0, 1) := by decide +kernel
theorem dX7_rank_88 : decode cX7_rank 88 = .ok (.iconst 1, 1) := by decide +kernel
theorem dX7_rank_89 : decode cX7_rank 89 = .ok (.iload_n 3, 1) := by decide +kernel
theorem dX7_rank_90 : decode cX7_rank 90 = .ok (.ishl, 1) := by decide +kernel
theorem dX7_rank_91 : decode cX7_rank 91 = .ok (.invokevirtual 75, 3) := by decide +kernel
theorem dX7_rank_94 : decode cX7_rank 94 = .ok (.aload_n 0, 1) := by decide +kernel
theorem dX7_rank_95 : decode cX7_rank 95 = .ok (.lconst 1, 1) := by decide +kernel
theorem dX7_rank_96 : decode cX7_rank 96 = .ok (.putfield 71, 3) := by decide +kernel
theorem dX7_rank_99 : decode cX7_rank 99 = .ok (.iconst 0, 1) := by decide +kernel
theorem dX7_rank_100 : decode cX7_rank 100 = .ok (.istore 4, 2) := by decide +kernel
theorem dX7_rank_102 : decode cX7_rank 102 = .ok (.iconst 0, 1) := by decide +kernel
theorem dX7_rank_103 : decode cX7_rank 103 = .ok (.istore 5, 2) := by decide +kernel
theorem dX7_rank_105 : decode cX7_rank 105 = .ok (.iload 5, 2) := by decide +kernel
theorem dX7_rank_107 : decode cX7_rank 107 = .ok (.aload_n 0, 1) := by decide +kernel
theorem dX7_rank_108 : decode cX7_rank 108 = .ok (.getfield 7, 3) := by decide +kernel
theorem dX7_rank_111 : decode cX7_rank 111 = .ok (.if_icmp .ge 55, 3) := by decide +kernel
theorem dX7_rank_114 : decode cX7_rank 114 = .ok (.aload_n 0, 1) := by decide +kernel
theorem dX7_rank_115 : decode cX7_rank 115 = .ok (.iload 4, 2) := by decide +kernel
theorem dX7_rank_117 : decode cX7_rank 117 = .ok (.iload 5, 2) := by decide +kernel
theorem dX7_rank_119 : decode cX7_rank 119 = .ok (.invokevirtual 79, 3) := by decide +kernel
theorem dX7_rank_122 : decode cX7_rank 122 = .ok (.istore 6, 2) := by decide +kernel
theorem dX7_rank_124 : decode cX7_rank 124 = .ok (.iload 6, 2) := by decide +kernel
theorem dX7_rank_126 : decode cX7_rank 126 = .ok (.aload_n 0, 1) := by decide +kernel
theorem dX7_rank_127 : decode cX7_rank 127 = .ok (.getfield 68, 3) := by decide +kernel
theorem dX7_rank_130 : decode cX7_rank 130 = .ok (.if_icmp .ge 30, 3) := by decide +kernel
theorem dX7_rank_133 : decode cX7_rank 133 = .ok (.aload_n 0, 1) := by decide +kernel
theorem dX7_rank_134 : decode cX7_rank 134 = .ok (.iload 6, 2) := by decide +kernel
theorem dX7_rank_136 : decode cX7_rank 136 = .ok (.iload 4, 2) := by decide +kernel
theorem dX7_rank_138 : decode cX7_rank 138 = .ok (.aload_n 0, 1) := by decide +kernel
theorem dX7_rank_139 : decode cX7_rank 139 = .ok (.getfield 7, 3) := by decide +kernel
theorem dX7_rank_142 : decode cX7_rank 142 = .ok (.invokevirtual 83, 3) := by decide +kernel
theorem dX7_rank_145 : decode cX7_rank 145 = .ok (.aload_n 0, 1) := by decide +kernel
theorem dX7_rank_146 : decode cX7_rank 146 = .ok (.iload 4, 2) := by decide +kernel
theorem dX7_rank_148 : decode cX7_rank 148 = .ok (.iload 5, 2) := by decide +kernel
theorem dX7_rank_150 : decode cX7_rank 150 = .ok (.aload_n 0, 1) := by decide +kernel
theorem dX7_rank_151 : decode cX7_rank 151 = .ok (.getfield 7, 3) := by decide +kernel
theorem dX7_rank_154 : decode cX7_rank 154 = .ok (.invokevirtual 87, 3) := by decide +kernel
theorem dX7_rank_157 : decode cX7_rank 157 = .ok (.iinc 4 1, 3) := by decide +kernel
theorem dX7_rank_160 : decode cX7_rank 160 = .ok (.iinc 5 1, 3) := by decide +kernel
theorem dX7_rank_163 : decode cX7_rank 163 = .ok (.goto (-58), 3) := by decide +kernel
theorem dX7_rank_166 : decode cX7_rank 166 = .ok (.iload 4, 2) := by decide +kernel
theorem dX7_rank_168 : decode cX7_rank 168 = .ok (.ireturn, 1) := by decide +kernel
theorem dX7_isKnown_0 : decode cX7_isKnown 0 = .ok (.aload_n 0, 1) := by decide +kernel
theorem dX7_isKnown_1 : decode cX7_isKnown 1 = .ok (.aload_n 0, 1) := by decide +kernel
theorem dX7_isKnown_2 : decode cX7_isKnown 2 = .ok (.invokevirtual 90, 3) := by decide +kernel
theorem dX7_isKnown_5 : decode cX7_isKnown 5 = .ok (.iload_n 2, 1) := by decide +kernel
theorem dX7_isKnown_6 : decode cX7_isKnown 6 = .ok (.iload_n 1, 1) := by decide +kernel
theorem dX7_isKnown_7 : decode cX7_isKnown 7 = .ok (.invokevirtual 94, 3) := by decide +kernel
theorem dX7_isKnown_10 : decode cX7_isKnown 10 = .ok (.aload_n 0, 1) := by decide +kernel
theorem dX7_isKnown_11 : decode cX7_isKnown 11 = .ok (.aload_n 0, 1) := by decide +kernel
theorem dX7_isKnown_12 : decode cX7_isKnown 12 = .ok (.invokevirtual 90, 3) := by decide +kernel
theorem dX7_isKnown_15 : decode cX7_isKnown 15 = .ok (.iload_n 2, 1) := by decide +kernel
theorem dX7_isKnown_16 : decode cX7_isKnown 16 = .ok (.iconst (-1), 1) := by decide +kernel
theorem dX7_isKnown_17 : decode cX7_isKnown 17 = .ok (.invokevirtual 94, 3) := by decide +kernel
theorem dX7_isKnown_20 : decode cX7_isKnown 20 = .ok (.if_icmp .ne 7, 3) := by decide +kernel
theorem dX7_isKnown_23 : decode cX7_isKnown 23 = .ok (.iconst 1, 1) := by decide +kernel
theorem dX7_isKnown_24 : decode cX7_isKnown 24 = .ok (.goto 4, 3) := by decide +kernel
theorem dX7_isKnown_27 : decode cX7_isKnown 27 = .ok (.iconst 0, 1) := by decide +kernel
theorem dX7_isKnown_28 : decode cX7_isKnown 28 = .ok (.ireturn, 1) := by decide +kernel
theorem dX7_doFit_0 : decode cX7_doFit 0 = .ok (.iload_n 1, 1) := by decide +kernel
theorem dX7_doFit_1 : decode cX7_doFit 1 = .ok (.invokestatic 98, 3) := by decide +kernel
theorem dX7_doFit_4 : decode cX7_doFit 4 = .ok (.istore_n 2, 1) := by decide +kernel
theorem dX7_doFit_5 : decode cX7_doFit 5 = .ok (.aload_n 0, 1) := by decide +kernel
theorem dX7_doFit_6 : decode cX7_doFit 6 = .ok (.iconst 0, 1) := by decide +kernel
theorem dX7_doFit_7 : decode cX7_doFit 7 = .ok (.putfield 68, 3) := by decide +kernel
theorem dX7_doFit_10 : decode cX7_doFit 10 = .ok (.aload_n 0, 1) := by decide +kernel
theorem dX7_doFit_11 : decode cX7_doFit 11 = .ok (.getfield 7, 3) := by decide +kernel
theorem dX7_doFit_14 : decode cX7_doFit 14 = .ok (.iload_n 2, 1) := by decide +kernel
theorem dX7_doFit_15 : decode cX7_doFit 15 = .ok (.iadd, 1) := by decide +kernel
theorem dX7_doFit_16 : decode cX7_doFit 16 = .ok (.iconst 1, 1) := by decide +kernel
theorem dX7_doFit_17 : decode cX7_doFit 17 = .ok (.iadd, 1) := by decide +kernel
theorem dX7_doFit_18 : decode cX7_doFit 18 = .ok (.istore_n 3, 1) := by decide +kernel
theorem dX7_doFit_19 : decode cX7_doFit 19 = .ok (.iconst 0, 1) := by decide +kernel
theorem dX7_doFit_20 : decode cX7_doFit 20 = .ok (.istore 4, 2) := by decide +kernel
theorem dX7_doFit_22 : decode cX7_doFit 22 = .ok (.iload 4, 2) := by decide +kernel
theorem dX7_doFit_24 : decode cX7_doFit 24 = .ok (.aload_n 0, 1) := by decide +kernel
theorem dX7_doFit_25 : decode cX7_doFit 25 = .ok (.getfield 52, 3) := by decide +kernel
theorem dX7_doFit_28 : decode cX7_doFit 28 = .ok (.if_icmp .ge 140, 3) := by decide +kernel
theorem dX7_doFit_31 : decode cX7_doFit 31 = .ok (.iload_n 1, 1) := by decide +kernel
theorem dX7_doFit_32 : decode cX7_doFit 32 = .ok (.iload 4, 2) := by decide +kernel
theorem dX7_doFit_34 : decode cX7_doFit 34 = .ok (.ishr, 1) := by decide +kernel
theorem dX7_doFit_35 : decode cX7_doFit 35 = .ok (.iconst 1, 1) := by decide +kernel
theorem dX7_doFit_36 : decode cX7_doFit 36 = .ok (.iand, 1) := by decide +kernel
theorem dX7_doFit_37 : decode cX7_doFit 37 = .ok (.iconst 1, 1) := by decide +kernel
theorem dX7_doFit_38 : decode cX7_doFit 38 = .ok (.if_icmp .ne 124, 3) := by decide +kernel
theorem dX7_doFit_41 : decode cX7_doFit 41 = .ok (.iconst 0, 1) := by decide +kernel
theorem dX7_doFit_42 : decode cX7_doFit 42 = .ok (.istore 5, 2) := by decide +kernel
theorem dX7_doFit_44 : decode cX7_doFit 44 = .ok (.iload 5, 2) := by decide +kernel
theorem dX7_doFit_46 : decode cX7_doFit 46 = .ok (.iload_n 3, 1) := by decide +kernel
theorem dX7_doFit_47 : decode cX7_doFit 47 = .ok (.if_icmp .ge 87, 3) := by decide +kernel
theorem dX7_doFit_50 : decode cX7_doFit 50 = .ok (.aload_n 0, 1) := by decide +kernel
theorem dX7_doFit_51 : decode cX7_doFit 51 = .ok (.getfield 30, 3) := by decide +kernel
theorem dX7_doFit_54 : decode cX7_doFit 54 = .ok (.bipush 32, 2) := by decide +kernel
theorem dX7_doFit_56 : decode cX7_doFit 56 = .ok (.aload_n 0, 1) := by decide +kernel
theorem dX7_doFit_57 : decode cX7_doFit 57 = .ok (.getfield 68, 3) := by decide +kernel
theorem dX7_doFit_60 : decode cX7_doFit 60 = .ok (.imul, 1) := by decide +kernel
theorem dX7_doFit_61 : decode cX7_doFit 61 = .ok (.iload 5, 2) := by decide +kernel
theorem dX7_doFit_63 : decode cX7_doFit 63 = .ok (.iadd, 1) := by decide +kernel
theorem dX7_doFit_64 : decode cX7_doFit 64 = .ok (.iload 5, 2) := by decide +kernel
theorem dX7_doFit_66 : decode cX7_doFit 66 = .ok (.aload_n 0, 1) := by decide +kernel
theorem dX7_doFit_67 : decode cX7_doFit 67 = .ok (.getfield 7, 3) := by decide +kernel
theorem dX7_doFit_70 : decode cX7_doFit 70 = .ok (.if_icmp .ge 19, 3) := by decide +kernel
theorem dX7_doFit_73 : decode cX7_doFit 73 = .ok (.aload_n 0, 1) := by decide +kernel
theorem dX7_doFit_74 : decode cX7_doFit 74 = .ok (.getfield 13, 3) := by decide +kernel
theorem dX7_doFit_77 : decode cX7_doFit 77 = .ok (.iload 4, 2) := by decide +kernel
theorem dX7_doFit_79 : decode cX7_doFit 79 = .ok (.iaload, 1) := by decide +kernel
theorem dX7_doFit_80 : decode cX7_doFit 80 = .ok (.iload 5, 2) := by decide +kernel
theorem dX7_doFit_82 : decode cX7_doFit 82 = .ok (.ishr, 1) := by decide +kernel
theorem dX7_doFit_83 : decode cX7_doFit 83 = .ok (.iconst 1, 1) := by decide +kernel
theorem dX7_doFit_84 : decode cX7_doFit 84 = .ok (.iand, 1) := by decide +kernel
theorem dX7_doFit_85 : decode cX7_doFit 85 = .ok (.i2l, 1) := by decide +kernel
theorem dX7_doFit_86 : decode cX7_doFit 86 = .ok (.goto 41, 3) := by decide +kernel
theorem dX7_doFit_89 : decode cX7_doFit 89 = .ok (.iload 5, 2) := by decide +kernel
theorem dX7_doFit_91 : decode cX7_doFit 91 = .ok (.aload_n 0, 1) := by decide +kernel
theorem dX7_doFit_92 : decode cX7_doFit 92 = .ok (.getfield 7, 3) := by decide +kernel
theorem dX7_doFit_95 : decode cX7_doFit 95 = .ok (.aload_n 0, 1) := by decide +kernel
theorem dX7_doFit_96 : decode cX7_doFit 96 = .ok (.getfield 68, 3) := by decide +kernel
theorem dX7_doFit_99 : decode cX7_doFit 99 = .ok (.iadd, 1) := by decide +kernel
theorem dX7_doFit_100 : decode cX7_doFit 100 = .ok (.if_icmp .ne 7, 3) := by decide +kernel
theorem dX7_doFit_103 : decode cX7_doFit 103 = .ok (.lconst 1, 1) := by decide +kernel
theorem dX7_doFit_104 : decode cX7_doFit 104 = .ok (.goto 23, 3) := by decide +kernel
theorem dX7_doFit_107 : decode cX7_doFit 107 = .ok (.iload 5, 2) := by decide +kernel
theorem dX7_doFit_109 : decode cX7_doFit 109 = .ok (.iload_n 3, 1) := by decide +kernel
theorem dX7_doFit_110 : decode cX7_doFit 110 = .ok (.iconst 1, 1) := by decide +kernel
theorem dX7_doFit_111 : decode cX7_doFit 111 = .ok (.isub, 1) := by decide +kernel
theorem dX7_doFit_112 : decode cX7_doFit 112 = .ok (.if_icmp .ne 14, 3) := by decide +kernel
end
section
theorem dX7_doFit_115 : decode cX7_doFit 115 = .ok (.aload_n 0, 1) := by decide +kernel
theorem dX7_doFit_116 : decode cX7_doFit 116 = .ok (.getfield 17, 3) := by decide +kernel
theorem dX7_doFit_119 : decode cX7_doFit 119 = .ok (.iload 4, 2) := by decide +kernel
theorem dX7_doFit_121 : decode cX7_doFit 121 = .ok (.iaload, 1) := by decide +kernel
theorem dX7_doFit_122 : decode cX7_doFit 122 = .ok (.i2l, 1) := by decide +kernel
theorem dX7_doFit_123 : decode cX7_doFit 123 = .ok (.goto 4, 3) := by decide +kernel
theorem dX7_doFit_126 : decode cX7_doFit 126 = .ok (.lconst 0, 1) := by decide +kernel
theorem dX7_doFit_127 : decode cX7_doFit 127 = .ok (.lastore, 1) := by decide +kernel
theorem dX7_doFit_128 : decode cX7_doFit 128 = .ok (.iinc 5 1, 3) := by decide +kernel
theorem dX7_doFit_131 : decode cX7_doFit 131 = .ok (.goto (-87), 3) := by decide +kernel
theorem dX7_doFit_134 : decode cX7_doFit 134 = .ok (.aload_n 0, 1) := by decide +kernel
theorem dX7_doFit_135 : decode cX7_doFit 135 = .ok (.getfield 34, 3) := by decide +kernel
theorem dX7_doFit_138 : decode cX7_doFit 138 = .ok (.aload_n 0, 1) := by decide +kernel
theorem dX7_doFit_139 : decode cX7_doFit 139 = .ok (.getfield 68, 3) := by decide +kernel
theorem dX7_doFit_142 : decode cX7_doFit 142 = .ok (.aload_n 0, 1) := by decide +kernel
theorem dX7_doFit_143 : decode cX7_doFit 143 = .ok (.getfield 7, 3) := by decide +kernel
theorem dX7_doFit_146 : decode cX7_doFit 146 = .ok (.aload_n 0, 1) := by decide +kernel
theorem dX7_doFit_147 : decode cX7_doFit 147 = .ok (.getfield 68, 3) := by decide +kernel
theorem dX7_doFit_150 : decode cX7_doFit 150 = .ok (.iadd, 1) := by decide +kernel
theorem dX7_doFit_151 : decode cX7_doFit 151 = .ok (.iastore, 1) := by decide +kernel
theorem dX7_doFit_152 : decode cX7_doFit 152 = .ok (.aload_n 0, 1) := by decide +kernel
theorem dX7_doFit_153 : decode cX7_doFit 153 = .ok (.dup, 1) := by decide +kernel
theorem dX7_doFit_154 : decode cX7_doFit 154 = .ok (.getfield 68, 3) := by decide +kernel
theorem dX7_doFit_157 : decode cX7_doFit 157 = .ok (.iconst 1, 1) := by decide +kernel
theorem dX7_doFit_158 : decode cX7_doFit 158 = .ok (.iadd, 1) := by decide +kernel
theorem dX7_doFit_159 : decode cX7_doFit 159 = .ok (.putfield 68, 3) := by decide +kernel
theorem dX7_doFit_162 : decode cX7_doFit 162 = .ok (.iinc 4 1, 3) := by decide +kernel
theorem dX7_doFit_165 : decode cX7_doFit 165 = .ok (.goto (-143), 3) := by decide +kernel
theorem dX7_doFit_168 : decode cX7_doFit 168 = .ok (.iconst 0, 1) := by decide +kernel
theorem dX7_doFit_169 : decode cX7_doFit 169 = .ok (.istore 4, 2) := by decide +kernel
theorem dX7_doFit_171 : decode cX7_doFit 171 = .ok (.iload 4, 2) := by decide +kernel
theorem dX7_doFit_173 : decode cX7_doFit 173 = .ok (.iload_n 3, 1) := by decide +kernel
theorem dX7_doFit_174 : decode cX7_doFit 174 = .ok (.if_icmp .ge 80, 3) := by decide +kernel
theorem dX7_doFit_177 : decode cX7_doFit 177 = .ok (.lconst 0, 1) := by decide +kernel
theorem dX7_doFit_178 : decode cX7_doFit 178 = .ok (.lstore 5, 2) := by decide +kernel
theorem dX7_doFit_180 : decode cX7_doFit 180 = .ok (.iconst 0, 1) := by decide +kernel
theorem dX7_doFit_181 : decode cX7_doFit 181 = .ok (.istore 7, 2) := by decide +kernel
theorem dX7_doFit_183 : decode cX7_doFit 183 = .ok (.iload 7, 2) := by decide +kernel
theorem dX7_doFit_185 : decode cX7_doFit 185 = .ok (.iload_n 2, 1) := by decide +kernel
theorem dX7_doFit_186 : decode cX7_doFit 186 = .ok (.if_icmp .ge 48, 3) := by decide +kernel
theorem dX7_doFit_189 : decode cX7_doFit 189 = .ok (.lload 5, 2) := by decide +kernel
theorem dX7_doFit_191 : decode cX7_doFit 191 = .ok (.iload 4, 2) := by decide +kernel
theorem dX7_doFit_193 : decode cX7_doFit 193 = .ok (.aload_n 0, 1) := by decide +kernel
theorem dX7_doFit_194 : decode cX7_doFit 194 = .ok (.getfield 7, 3) := by decide +kernel
theorem dX7_doFit_197 : decode cX7_doFit 197 = .ok (.if_icmp .lt 11, 3) := by decide +kernel
theorem dX7_doFit_200 : decode cX7_doFit 200 = .ok (.iload 4, 2) := by decide +kernel
theorem dX7_doFit_202 : decode cX7_doFit 202 = .ok (.iload_n 3, 1) := by decide +kernel
theorem dX7_doFit_203 : decode cX7_doFit 203 = .ok (.iconst 1, 1) := by decide +kernel
theorem dX7_doFit_204 : decode cX7_doFit 204 = .ok (.isub, 1) := by decide +kernel
theorem dX7_doFit_205 : decode cX7_doFit 205 = .ok (.if_icmp .ne 19, 3) := by decide +kernel
theorem dX7_doFit_208 : decode cX7_doFit 208 = .ok (.aload_n 0, 1) := by decide +kernel
theorem dX7_doFit_209 : decode cX7_doFit 209 = .ok (.getfield 30, 3) := by decide +kernel
theorem dX7_doFit_212 : decode cX7_doFit 212 = .ok (.bipush 32, 2) := by decide +kernel
theorem dX7_doFit_214 : decode cX7_doFit 214 = .ok (.iload 7, 2) := by decide +kernel
theorem dX7_doFit_216 : decode cX7_doFit 216 = .ok (.imul, 1) := by decide +kernel
theorem dX7_doFit_217 : decode cX7_doFit 217 = .ok (.iload 4, 2) := by decide +kernel
theorem dX7_doFit_219 : decode cX7_doFit 219 = .ok (.iadd, 1) := by decide +kernel
theorem dX7_doFit_220 : decode cX7_doFit 220 = .ok (.laload, 1) := by decide +kernel
theorem dX7_doFit_221 : decode cX7_doFit 221 = .ok (.goto 4, 3) := by decide +kernel
theorem dX7_doFit_224 : decode cX7_doFit 224 = .ok (.lconst 0, 1) := by decide +kernel
theorem dX7_doFit_225 : decode cX7_doFit 225 = .ok (.ladd, 1) := by decide +kernel
theorem dX7_doFit_226 : decode cX7_doFit 226 = .ok (.lstore 5, 2) := by decide +kernel
theorem dX7_doFit_228 : decode cX7_doFit 228 = .ok (.iinc 7 1, 3) := by decide +kernel
theorem dX7_doFit_231 : decode cX7_doFit 231 = .ok (.goto (-48), 3) := by decide +kernel
theorem dX7_doFit_234 : decode cX7_doFit 234 = .ok (.aload_n 0, 1) := by decide +kernel
theorem dX7_doFit_235 : decode cX7_doFit 235 = .ok (.getfield 30, 3) := by decide +kernel
theorem dX7_doFit_238 : decode cX7_doFit 238 = .ok (.bipush 32, 2) := by decide +kernel
theorem dX7_doFit_240 : decode cX7_doFit 240 = .ok (.iload_n 2, 1) := by decide +kernel
theorem dX7_doFit_241 : decode cX7_doFit 241 = .ok (.imul, 1) := by decide +kernel
theorem dX7_doFit_242 : decode cX7_doFit 242 = .ok (.iload 4, 2) := by decide +kernel
theorem dX7_doFit_244 : decode cX7_doFit 244 = .ok (.iadd, 1) := by decide +kernel
theorem dX7_doFit_245 : decode cX7_doFit 245 = .ok (.lload 5, 2) := by decide +kernel
theorem dX7_doFit_247 : decode cX7_doFit 247 = .ok (.lastore, 1) := by decide +kernel
theorem dX7_doFit_248 : decode cX7_doFit 248 = .ok (.iinc 4 1, 3) := by decide +kernel
theorem dX7_doFit_251 : decode cX7_doFit 251 = .ok (.goto (-80), 3) := by decide +kernel
theorem dX7_doFit_254 : decode cX7_doFit 254 = .ok (.aload_n 0, 1) := by decide +kernel
theorem dX7_doFit_255 : decode cX7_doFit 255 = .ok (.iload_n 2, 1) := by decide +kernel
theorem dX7_doFit_256 : decode cX7_doFit 256 = .ok (.iconst 1, 1) := by decide +kernel
theorem dX7_doFit_257 : decode cX7_doFit 257 = .ok (.iadd, 1) := by decide +kernel
theorem dX7_doFit_258 : decode cX7_doFit 258 = .ok (.putfield 68, 3) := by decide +kernel
theorem dX7_doFit_261 : decode cX7_doFit 261 = .ok (.aload_n 0, 1) := by decide +kernel
theorem dX7_doFit_262 : decode cX7_doFit 262 = .ok (.lconst 1, 1) := by decide +kernel
theorem dX7_doFit_263 : decode cX7_doFit 263 = .ok (.putfield 71, 3) := by decide +kernel
theorem dX7_doFit_266 : decode cX7_doFit 266 = .ok (.aload_n 0, 1) := by decide +kernel
theorem dX7_doFit_267 : decode cX7_doFit 267 = .ok (.iload_n 2, 1) := by decide +kernel
theorem dX7_doFit_268 : decode cX7_doFit 268 = .ok (.invokevirtual 102, 3) := by decide +kernel
theorem dX7_doFit_271 : decode cX7_doFit 271 = .ok (.istore 4, 2) := by decide +kernel
theorem dX7_doFit_273 : decode cX7_doFit 273 = .ok (.iload 4, 2) := by decide +kernel
theorem dX7_doFit_275 : decode cX7_doFit 275 = .ok (.ifCond .lt 41, 3) := by decide +kernel
theorem dX7_doFit_278 : decode cX7_doFit 278 = .ok (.aload_n 0, 1) := by decide +kernel
theorem dX7_doFit_279 : decode cX7_doFit 279 = .ok (.iload 4, 2) := by decide +kernel
theorem dX7_doFit_281 : decode cX7_doFit 281 = .ok (.iload_n 2, 1) := by decide +kernel
theorem dX7_doFit_282 : decode cX7_doFit 282 = .ok (.iload_n 3, 1) := by decide +kernel
theorem dX7_doFit_283 : decode cX7_doFit 283 = .ok (.invokevirtual 105, 3) := by decide +kernel
theorem dX7_doFit_286 : decode cX7_doFit 286 = .ok (.istore 5, 2) := by decide +kernel
theorem dX7_doFit_288 : decode cX7_doFit 288 = .ok (.aload_n 0, 1) := by decide +kernel
theorem dX7_doFit_289 : decode cX7_doFit 289 = .ok (.getfield 34, 3) := by decide +kernel
theorem dX7_doFit_292 : decode cX7_doFit 292 = .ok (.iload 5, 2) := by decide +kernel
theorem dX7_doFit_294 : decode cX7_doFit 294 = .ok (.iload 4, 2) := by decide +kernel
theorem dX7_doFit_296 : decode cX7_doFit 296 = .ok (.iastore, 1) := by decide +kernel
theorem dX7_doFit_297 : decode cX7_doFit 297 = .ok (.aload_n 0, 1) := by decide +kernel
theorem dX7_doFit_298 : decode cX7_doFit 298 = .ok (.iload 5, 2) := by decide +kernel
theorem dX7_doFit_300 : decode cX7_doFit 300 = .ok (.iload 4, 2) := by decide +kernel
theorem dX7_doFit_302 : decode cX7_doFit 302 = .ok (.iload_n 3, 1) := by decide +kernel
theorem dX7_doFit_303 : decode cX7_doFit 303 = .ok (.invokevirtual 87, 3) := by decide +kernel
theorem dX7_doFit_306 : decode cX7_doFit 306 = .ok (.aload_n 0, 1) := by decide +kernel
theorem dX7_doFit_307 : decode cX7_doFit 307 = .ok (.iload_n 2, 1) := by decide +kernel
theorem dX7_doFit_308 : decode cX7_doFit 308 = .ok (.invokevirtual 102, 3) := by decide +kernel
theorem dX7_doFit_311 : decode cX7_doFit 311 = .ok (.istore 4, 2) := by decide +kernel
theorem dX7_doFit_313 : decode cX7_doFit 313 = .ok (.goto (-40), 3) := by decide +kernel
theorem dX7_doFit_316 : decode cX7_doFit 316 = .ok (.aload_n 0, 1) := by decide +kernel
theorem dX7_doFit_317 : decode cX7_doFit 317 = .ok (.getfield 30, 3) := by decide +kernel
theorem dX7_doFit_320 : decode cX7_doFit 320 = .ok (.bipush 32, 2) := by decide +kernel
theorem dX7_doFit_322 : decode cX7_doFit 322 = .ok (.iload_n 2, 1) := by decide +kernel
theorem dX7_doFit_323 : decode cX7_doFit 323 = .ok (.imul, 1) := by decide +kernel
theorem dX7_doFit_324 : decode cX7_doFit 324 = .ok (.iload_n 3, 1) := by decide +kernel
theorem dX7_doFit_325 : decode cX7_doFit 325 = .ok (.iadd, 1) := by decide +kernel
theorem dX7_doFit_326 : decode cX7_doFit 326 = .ok (.iconst 1, 1) := by decide +kernel
theorem dX7_doFit_327 : decode cX7_doFit 327 = .ok (.isub, 1) := by decide +kernel
theorem dX7_doFit_328 : decode cX7_doFit 328 = .ok (.laload, 1) := by decide +kernel
theorem dX7_doFit_329 : decode cX7_doFit 329 = .ok (.lconst 0, 1) := by decide +kernel
theorem dX7_doFit_330 : decode cX7_doFit 330 = .ok (.lcmp, 1) := by decide +kernel
theorem dX7_doFit_331 : decode cX7_doFit 331 = .ok (.ifCond .ne 7, 3) := by decide +kernel
theorem dX7_doFit_334 : decode cX7_doFit 334 = .ok (.iconst 1, 1) := by decide +kernel
theorem dX7_doFit_335 : decode cX7_doFit 335 = .ok (.goto 4, 3) := by decide +kernel
theorem dX7_doFit_338 : decode cX7_doFit 338 = .ok (.iconst 0, 1) := by decide +kernel
theorem dX7_doFit_339 : decode cX7_doFit 339 = .ok (.ireturn, 1) := by decide +kernel
theorem dX7_enter_0 : decode cX7_enter 0 = .ok (.iconst 0, 1) := by decide +kernel
theorem dX7_enter_1 : decode cX7_enter 1 = .ok (.istore_n 2, 1) := by decide +kernel
theorem dX7_enter_2 : decode cX7_enter 2 = .ok (.iload_n 2, 1) := by decide +kernel
theorem dX7_enter_3 : decode cX7_enter 3 = .ok (.aload_n 0, 1) := by decide +kernel
theorem dX7_enter_4 : decode cX7_enter 4 = .ok (.getfield 7, 3) := by decide +kernel
theorem dX7_enter_7 : decode cX7_enter 7 = .ok (.if_icmp .ge 27, 3) := by decide +kernel
theorem dX7_enter_10 : decode cX7_enter 10 = .ok (.aload_n 0, 1) := by decide +kernel
theorem dX7_enter_11 : decode cX7_enter 11 = .ok (.getfield 30, 3) := by decide +kernel
theorem dX7_enter_14 : decode cX7_enter 14 = .ok (.bipush 32, 2) := by decide +kernel
theorem dX7_enter_16 : decode cX7_enter 16 = .ok (.iload_n 1, 1) := by decide +kernel
theorem dX7_enter_17 : decode cX7_enter 17 = .ok (.imul, 1) := by decide +kernel
theorem dX7_enter_18 : decode cX7_enter 18 = .ok (.iload_n 2, 1) := by decide +kernel
theorem dX7_enter_19 : decode cX7_enter 19 = .ok (.iadd, 1) := by decide +kernel
theorem dX7_enter_20 : decode cX7_enter 20 = .ok (.laload, 1) := by decide +kernel
theorem dX7_enter_21 : decode cX7_enter 21 = .ok (.lconst 0, 1) := by decide +kernel
theorem dX7_enter_22 : decode cX7_enter 22 = .ok (.lcmp, 1) := by decide +kernel
theorem dX7_enter_23 : decode cX7_enter 23 = .ok (.ifCond .le 5, 3) := by decide +kernel
theorem dX7_enter_26 : decode cX7_enter 26 = .ok (.iload_n 2, 1) := by decide +kernel
theorem dX7_enter_27 : decode cX7_enter 27 = .ok (.ireturn, 1) := by decide +kernel
theorem dX7_enter_28 : decode cX7_enter 28 = .ok (.iinc 2 1, 3) := by decide +kernel
theorem dX7_enter_31 : decode cX7_enter 31 = .ok (.goto (-29), 3) := by decide +kernel
theorem dX7_enter_34 : decode cX7_enter 34 = .ok (.iconst (-1), 1) := by decide +kernel
theorem dX7_enter_35 : decode cX7_enter 35 = .ok (.ireturn, 1) := by decide +kernel
theorem dX7_leave_0 : decode cX7_leave 0 = .ok (.iconst (-1), 1) := by decide +kernel
theorem dX7_leave_1 : decode cX7_leave 1 = .ok (.istore 4, 2) := by decide +kernel
theorem dX7_leave_3 : decode cX7_leave 3 = .ok (.iconst 0, 1) := by decide +kernel
theorem dX7_leave_4 : decode cX7_leave 4 = .ok (.istore 5, 2) := by decide +kernel
theorem dX7_leave_6 : decode cX7_leave 6 = .ok (.iload 5, 2) := by decide +kernel
theorem dX7_leave_8 : decode cX7_leave 8 = .ok (.iload_n 2, 1) := by decide +kernel
theorem dX7_leave_9 : decode cX7_leave 9 = .ok (.if_icmp .ge 149, 3) := by decide +kernel
theorem dX7_leave_12 : decode cX7_leave 12 = .ok (.aload_n 0, 1) := by decide +kernel
theorem dX7_leave_13 : decode cX7_leave 13 = .ok (.getfield 30, 3) := by decide +kernel
theorem dX7_leave_16 : decode cX7_leave 16 = .ok (.bipush 32, 2) := by decide +kernel
theorem dX7_leave_18 : decode cX7_leave 18 = .ok (.iload 5, 2) := by decide +kernel
theorem dX7_leave_20 : decode cX7_leave 20 = .ok (.imul, 1) := by decide +kernel
theorem dX7_leave_21 : decode cX7_leave 21 = .ok (.iload_n 1, 1) := by decide +kernel
theorem dX7_leave_22 : decode cX7_leave 22 = .ok (.iadd, 1) := by decide +kernel
theorem dX7_leave_23 : decode cX7_leave 23 = .ok (.laload, 1) := by decide +kernel
theorem dX7_leave_24 : decode cX7_leave 24 = .ok (.lconst 0, 1) := by decide +kernel
theorem dX7_leave_25 : decode cX7_leave 25 = .ok (.lcmp, 1) := by decide +kernel
theorem dX7_leave_26 : decode cX7_leave 26 = .ok (.ifCond .le 126, 3) := by decide +kernel
theorem dX7_leave_29 : decode cX7_leave 29 = .ok (.iload 4, 2) := by decide +kernel
theorem dX7_leave_31 : decode cX7_leave 31 = .ok (.ifCond .ge 7, 3) := by decide +kernel
theorem dX7_leave_34 : decode cX7_leave 34 = .ok (.lconst 0, 1) := by decide +kernel
theorem dX7_leave_35 : decode cX7_leave 35 = .ok (.goto 30, 3) := by decide +kernel
theorem dX7_leave_38 : decode cX7_leave 38 = .ok (.aload_n 0, 1) := by decide +kernel
theorem dX7_leave_39 : decode cX7_leave 39 = .ok (.getfield 30, 3) := by decide +kernel
theorem dX7_leave_42 : decode cX7_leave 42 = .ok (.bipush 32, 2) := by decide +kernel
theorem dX7_leave_44 : decode cX7_leave 44 = .ok (.iload 5, 2) := by decide +kernel
theorem dX7_leave_46 : decode cX7_leave 46 = .ok (.imul, 1) := by decide +kernel
theorem dX7_leave_47 : decode cX7_leave 47 = .ok (.iload_n 3, 1) := by decide +kernel
theorem dX7_leave_48 : decode cX7_leave 48 = .ok (.iadd, 1) := by decide +kernel
theorem dX7_leave_49 : decode cX7_leave 49 = .ok (.iconst 1, 1) := by decide +kernel
theorem dX7_leave_50 : decode cX7_leave 50 = .ok (.isub, 1) := by decide +kernel
theorem dX7_leave_51 : decode cX7_leave 51 = .ok (.laload, 1) := by decide +kernel
theorem dX7_leave_52 : decode cX7_leave 52 = .ok (.aload_n 0, 1) := by decide +kernel
theorem dX7_leave_53 : decode cX7_leave 53 = .ok (.getfield 30, 3) := by decide +kernel
theorem dX7_leave_56 : decode cX7_leave 56 = .ok (.bipush 32, 2) := by decide +kernel
theorem dX7_leave_58 : decode cX7_leave 58 = .ok (.iload 4, 2) := by decide +kernel
theorem dX7_leave_60 : decode cX7_leave 60 = .ok (.imul, 1) := by decide +kernel
theorem dX7_leave_61 : decode cX7_leave 61 = .ok (.iload_n 1, 1) := by decide +kernel
theorem dX7_leave_62 : decode cX7_leave 62 = .ok (.iadd, 1) := by decide +kernel
theorem dX7_leave_63 : decode cX7_leave 63 = .ok (.laload, 1) := by decide +kernel
theorem dX7_leave_64 : decode cX7_leave 64 = .ok (.lmul, 1) := by decide +kernel
theorem dX7_leave_65 : decode cX7_leave 65 = .ok (.lstore 6, 2) := by decide +kernel
theorem dX7_leave_67 : decode cX7_leave 67 = .ok (.iload 4, 2) := by decide +kernel
theorem dX7_leave_69 : decode cX7_leave 69 = .ok (.ifCond .ge 7, 3) := by decide +kernel
theorem dX7_leave_72 : decode cX7_leave 72 = .ok (.lconst 0, 1) := by decide +kernel
theorem dX7_leave_73 : decode cX7_leave 73 = .ok (.goto 30, 3) := by decide +kernel
theorem dX7_leave_76 : decode cX7_leave 76 = .ok (.aload_n 0, 1) := by decide +kernel
theorem dX7_leave_77 : decode cX7_leave 77 = .ok (.getfield 30, 3) := by decide +kernel
theorem dX7_leave_80 : decode cX7_leave 80 = .ok (.bipush 32, 2) := by decide +kernel
theorem dX7_leave_82 : decode cX7_leave 82 = .ok (.iload 4, 2) := by decide +kernel
theorem dX7_leave_84 : decode cX7_leave 84 = .ok (.imul, 1) := by decide +kernel
theorem dX7_leave_85 : decode cX7_leave 85 = .ok (.iload_n 3, 1) := by decide +kernel
theorem dX7_leave_86 : decode cX7_leave 86 = .ok (.iadd, 1) := by decide +kernel
theorem dX7_leave_87 : decode cX7_leave 87 = .ok (.iconst 1, 1) := by decide +kernel
theorem dX7_leave_88 : decode cX7_leave 88 = .ok (.isub, 1) := by decide +kernel
theorem dX7_leave_89 : decode cX7_leave 89 = .ok (.laload, 1) := by decide +kernel
theorem dX7_leave_90 : decode cX7_leave 90 = .ok (.aload_n 0, 1) := by decide +kernel
theorem dX7_leave_91 : decode cX7_leave 91 = .ok (.getfield 30, 3) := by decide +kernel
theorem dX7_leave_94 : decode cX7_leave 94 = .ok (.bipush 32, 2) := by decide +kernel
theorem dX7_leave_96 : decode cX7_leave 96 = .ok (.iload 5, 2) := by decide +kernel
theorem dX7_leave_98 : decode cX7_leave 98 = .ok (.imul, 1) := by decide +kernel
theorem dX7_leave_99 : decode cX7_leave 99 = .ok (.iload_n 1, 1) := by decide +kernel
theorem dX7_leave_100 : decode cX7_leave 100 = .ok (.iadd, 1) := by decide +kernel
theorem dX7_leave_101 : decode cX7_leave 101 = .ok (.laload, 1) := by decide +kernel
theorem dX7_leave_102 : decode cX7_leave 102 = .ok (.lmul, 1) := by decide +kernel
theorem dX7_leave_103 : decode cX7_leave 103 = .ok (.lstore 8, 2) := by decide +kernel
theorem dX7_leave_105 : decode cX7_leave 105 = .ok (.iload 4, 2) := by decide +kernel
theorem dX7_leave_107 : decode cX7_leave 107 = .ok (.ifCond .lt 36, 3) := by decide +kernel
theorem dX7_leave_110 : decode cX7_leave 110 = .ok (.lload 6, 2) := by decide +kernel
theorem dX7_leave_112 : decode cX7_leave 112 = .ok (.lload 8, 2) := by decide +kernel
theorem dX7_leave_114 : decode cX7_leave 114 = .ok (.lcmp, 1) := by decide +kernel
theorem dX7_leave_115 : decode cX7_leave 115 = .ok (.ifCond .lt 28, 3) := by decide +kernel
theorem dX7_leave_118 : decode cX7_leave 118 = .ok (.lload 6, 2) := by decide +kernel
theorem dX7_leave_120 : decode cX7_leave 120 = .ok (.lload 8, 2) := by decide +kernel
theorem dX7_leave_122 : decode cX7_leave 122 = .ok (.lcmp, 1) := by decide +kernel
theorem dX7_leave_123 : decode cX7_leave 123 = .ok (.ifCond .ne 25, 3) := by decide +kernel
theorem dX7_leave_126 : decode cX7_leave 126 = .ok (.aload_n 0, 1) := by decide +kernel
theorem dX7_leave_127 : decode cX7_leave 127 = .ok (.getfield 34, 3) := by decide +kernel
theorem dX7_leave_130 : decode cX7_leave 130 = .ok (.iload 5, 2) := by decide +kernel
theorem dX7_leave_132 : decode cX7_leave 132 = .ok (.iaload, 1) := by decide +kernel
theorem dX7_leave_133 : decode cX7_leave 133 = .ok (.aload_n 0, 1) := by decide +kernel
theorem dX7_leave_134 : decode cX7_leave 134 = .ok (.getfield 34, 3) := by decide +kernel
theorem dX7_leave_137 : decode cX7_leave 137 = .ok (.iload 4, 2) := by decide +kernel
theorem dX7_leave_139 : decode cX7_leave 139 = .ok (.iaload, 1) := by decide +kernel
theorem dX7_leave_140 : decode cX7_leave 140 = .ok (.if_icmp .ge 8, 3) := by decide +kernel
theorem dX7_leave_143 : decode cX7_leave 143 = .ok (.iload 5, 2) := by decide +kernel
theorem dX7_leave_145 : decode cX7_leave 145 = .ok (.goto 5, 3) := by decide +kernel
theorem dX7_leave_148 : decode cX7_leave 148 = .ok (.iload 4, 2) := by decide +kernel
theorem dX7_leave_150 : decode cX7_leave 150 = .ok (.istore 4, 2) := by decide +kernel
theorem dX7_leave_152 : decode cX7_leave 152 = .ok (.iinc 5 1, 3) := by decide +kernel
theorem dX7_leave_155 : decode cX7_leave 155 = .ok (.goto (-149), 3) := by decide +kernel
theorem dX7_leave_158 : decode cX7_leave 158 = .ok (.iload 4, 2) := by decide +kernel
theorem dX7_leave_160 : decode cX7_leave 160 = .ok (.ireturn, 1) := by decide +kernel
theorem dX7_fits_0 : decode cX7_fits 0 = .ok (.aload_n 0, 1) := by decide +kernel
theorem dX7_fits_1 : decode cX7_fits 1 = .ok (.aload_n 0, 1) := by decide +kernel
theorem dX7_fits_2 : decode cX7_fits 2 = .ok (.invokevirtual 90, 3) := by decide +kernel
theorem dX7_fits_5 : decode cX7_fits 5 = .ok (.invokevirtual 108, 3) := by decide +kernel
theorem dX7_fits_8 : decode cX7_fits 8 = .ok (.ifCond .eq 7, 3) := by decide +kernel
theorem dX7_fits_11 : decode cX7_fits 11 = .ok (.iconst 1, 1) := by decide +kernel
theorem dX7_fits_12 : decode cX7_fits 12 = .ok (.goto 4, 3) := by decide +kernel
theorem dX7_fits_15 : decode cX7_fits 15 = .ok (.iconst 0, 1) := by decide +kernel
theorem dX7_fits_16 : decode cX7_fits 16 = .ok (.ireturn, 1) := by decide +kernel
theorem dX7_tries_0 : decode cX7_tries 0 = .ok (.iconst 0, 1) := by decide +kernel
theorem dX7_tries_1 : decode cX7_tries 1 = .ok (.istore_n 2, 1) := by decide +kernel
theorem dX7_tries_2 : decode cX7_tries 2 = .ok (.aload_n 0, 1) := by decide +kernel
theorem dX7_tries_3 : decode cX7_tries 3 = .ok (.iconst 0, 1) := by decide +kernel
theorem dX7_tries_4 : decode cX7_tries 4 = .ok (.putfield 68, 3) := by decide +kernel
theorem dX7_tries_7 : decode cX7_tries 7 = .ok (.iconst 0, 1) := by decide +kernel
theorem dX7_tries_8 : decode cX7_tries 8 = .ok (.istore_n 3, 1) := by decide +kernel
theorem dX7_tries_9 : decode cX7_tries 9 = .ok (.iload_n 3, 1) := by decide +kernel
theorem dX7_tries_10 : decode cX7_tries 10 = .ok (.aload_n 0, 1) := by decide +kernel
theorem dX7_tries_11 : decode cX7_tries 11 = .ok (.getfield 52, 3) := by decide +kernel
theorem dX7_tries_14 : decode cX7_tries 14 = .ok (.if_icmp .ge 108, 3) := by decide +kernel
theorem dX7_tries_17 : decode cX7_tries 17 = .ok (.aload_n 0, 1) := by decide +kernel
theorem dX7_tries_18 : decode cX7_tries 18 = .ok (.getfield 20, 3) := by decide +kernel
theorem dX7_tries_21 : decode cX7_tries 21 = .ok (.iload_n 3, 1) := by decide +kernel
theorem dX7_tries_22 : decode cX7_tries 22 = .ok (.baload, 1) := by decide +kernel
theorem dX7_tries_23 : decode cX7_tries 23 = .ok (.ifCond .eq 93, 3) := by decide +kernel
theorem dX7_tries_26 : decode cX7_tries 26 = .ok (.iconst 0, 1) := by decide +kernel
theorem dX7_tries_27 : decode cX7_tries 27 = .ok (.istore_n 2, 1) := by decide +kernel
theorem dX7_tries_28 : decode cX7_tries 28 = .ok (.iconst 0, 1) := by decide +kernel
theorem dX7_tries_29 : decode cX7_tries 29 = .ok (.istore 4, 2) := by decide +kernel
theorem dX7_tries_31 : decode cX7_tries 31 = .ok (.iload 4, 2) := by decide +kernel
theorem dX7_tries_33 : decode cX7_tries 33 = .ok (.aload_n 0, 1) := by decide +kernel
theorem dX7_tries_34 : decode cX7_tries 34 = .ok (.getfield 7, 3) := by decide +kernel
theorem dX7_tries_37 : decode cX7_tries 37 = .ok (.if_icmp .ge 48, 3) := by decide +kernel
theorem dX7_tries_40 : decode cX7_tries 40 = .ok (.iload_n 1, 1) := by decide +kernel
theorem dX7_tries_41 : decode cX7_tries 41 = .ok (.iload 4, 2) := by decide +kernel
theorem dX7_tries_43 : decode cX7_tries 43 = .ok (.ishr, 1) := by decide +kernel
theorem dX7_tries_44 : decode cX7_tries 44 = .ok (.iconst 1, 1) := by decide +kernel
theorem dX7_tries_45 : decode cX7_tries 45 = .ok (.iand, 1) := by decide +kernel
theorem dX7_tries_46 : decode cX7_tries 46 = .ok (.iconst 1, 1) := by decide +kernel
theorem dX7_tries_47 : decode cX7_tries 47 = .ok (.if_icmp .ne 32, 3) := by decide +kernel
theorem dX7_tries_50 : decode cX7_tries 50 = .ok (.aload_n 0, 1) := by decide +kernel
theorem dX7_tries_51 : decode cX7_tries 51 = .ok (.getfield 30, 3) := by decide +kernel
theorem dX7_tries_54 : decode cX7_tries 54 = .ok (.bipush 32, 2) := by decide +kernel
theorem dX7_tries_56 : decode cX7_tries 56 = .ok (.aload_n 0, 1) := by decide +kernel
theorem dX7_tries_57 : decode cX7_tries 57 = .ok (.getfield 68, 3) := by decide +kernel
theorem dX7_tries_60 : decode cX7_tries 60 = .ok (.imul, 1) := by decide +kernel
theorem dX7_tries_61 : decode cX7_tries 61 = .ok (.iload_n 2, 1) := by decide +kernel
theorem dX7_tries_62 : decode cX7_tries 62 = .ok (.iadd, 1) := by decide +kernel
theorem dX7_tries_63 : decode cX7_tries 63 = .ok (.aload_n 0, 1) := by decide +kernel
theorem dX7_tries_64 : decode cX7_tries 64 = .ok (.getfield 13, 3) := by decide +kernel
theorem dX7_tries_67 : decode cX7_tries 67 = .ok (.iload_n 3, 1) := by decide +kernel
theorem dX7_tries_68 : decode cX7_tries 68 = .ok (.iaload, 1) := by decide +kernel
theorem dX7_tries_69 : decode cX7_tries 69 = .ok (.iload 4, 2) := by decide +kernel
theorem dX7_tries_71 : decode cX7_tries 71 = .ok (.ishr, 1) := by decide +kernel
theorem dX7_tries_72 : decode cX7_tries 72 = .ok (.iconst 1, 1) := by decide +kernel
theorem dX7_tries_73 : decode cX7_tries 73 = .ok (.iand, 1) := by decide +kernel
theorem dX7_tries_74 : decode cX7_tries 74 = .ok (.i2l, 1) := by decide +kernel
theorem dX7_tries_75 : decode cX7_tries 75 = .ok (.lastore, 1) := by decide +kernel
theorem dX7_tries_76 : decode cX7_tries 76 = .ok (.iinc 2 1, 3) := by decide +kernel
theorem dX7_tries_79 : decode cX7_tries 79 = .ok (.iinc 4 1, 3) := by decide +kernel
theorem dX7_tries_82 : decode cX7_tries 82 = .ok (.goto (-51), 3) := by decide +kernel
theorem dX7_tries_85 : decode cX7_tries 85 = .ok (.aload_n 0, 1) := by decide +kernel
theorem dX7_tries_86 : decode cX7_tries 86 = .ok (.getfield 30, 3) := by decide +kernel
theorem dX7_tries_89 : decode cX7_tries 89 = .ok (.bipush 32, 2) := by decide +kernel
theorem dX7_tries_91 : decode cX7_tries 91 = .ok (.aload_n 0, 1) := by decide +kernel
theorem dX7_tries_92 : decode cX7_tries 92 = .ok (.getfield 68, 3) := by decide +kernel
theorem dX7_tries_95 : decode cX7_tries 95 = .ok (.imul, 1) := by decide +kernel
theorem dX7_tries_96 : decode cX7_tries 96 = .ok (.iload_n 2, 1) := by decide +kernel
theorem dX7_tries_97 : decode cX7_tries 97 = .ok (.iadd, 1) := by decide +kernel
theorem dX7_tries_98 : decode cX7_tries 98 = .ok (.aload_n 0, 1) := by decide +kernel
theorem dX7_tries_99 : decode cX7_tries 99 = .ok (.getfield 17, 3) := by decide +kernel
theorem dX7_tries_102 : decode cX7_tries 102 = .ok (.iload_n 3, 1) := by decide +kernel
theorem dX7_tries_103 : decode cX7_tries 103 = .ok (.iaload, 1) := by decide +kernel
theorem dX7_tries_104 : decode cX7_tries 104 = .ok (.i2l, 1) := by decide +kernel
theorem dX7_tries_105 : decode cX7_tries 105 = .ok (.lastore, 1) := by decide +kernel
theorem dX7_tries_106 : decode cX7_tries 106 = .ok (.aload_n 0, 1) := by decide +kernel
theorem dX7_tries_107 : decode cX7_tries 107 = .ok (.dup, 1) := by decide +kernel
theorem dX7_tries_108 : decode cX7_tries 108 = .ok (.getfield 68, 3) := by decide +kernel
theorem dX7_tries_111 : decode cX7_tries 111 = .ok (.iconst 1, 1) := by decide +kernel
theorem dX7_tries_112 : decode cX7_tries 112 = .ok (.iadd, 1) := by decide +kernel
theorem dX7_tries_113 : decode cX7_tries 113 = .ok (.putfield 68, 3) := by decide +kernel
theorem dX7_tries_116 : decode cX7_tries 116 = .ok (.iinc 3 1, 3) := by decide +kernel
theorem dX7_tries_119 : decode cX7_tries 119 = .ok (.goto (-110), 3) := by decide +kernel
theorem dX7_tries_122 : decode cX7_tries 122 = .ok (.iload_n 1, 1) := by decide +kernel
theorem dX7_tries_123 : decode cX7_tries 123 = .ok (.invokestatic 98, 3) := by decide +kernel
theorem dX7_tries_126 : decode cX7_tries 126 = .ok (.istore_n 2, 1) := by decide +kernel
theorem dX7_tries_127 : decode cX7_tries 127 = .ok (.aload_n 0, 1) := by decide +kernel
theorem dX7_tries_128 : decode cX7_tries 128 = .ok (.lconst 1, 1) := by decide +kernel
theorem dX7_tries_129 : decode cX7_tries 129 = .ok (.putfield 71, 3) := by decide +kernel
theorem dX7_tries_132 : decode cX7_tries 132 = .ok (.iconst 0, 1) := by decide +kernel
theorem dX7_tries_133 : decode cX7_tries 133 = .ok (.istore_n 3, 1) := by decide +kernel
theorem dX7_tries_134 : decode cX7_tries 134 = .ok (.iload_n 3, 1) := by decide +kernel
theorem dX7_tries_135 : decode cX7_tries 135 = .ok (.iload_n 2, 1) := by decide +kernel
theorem dX7_tries_136 : decode cX7_tries 136 = .ok (.if_icmp .ge 47, 3) := by decide +kernel
theorem dX7_tries_139 : decode cX7_tries 139 = .ok (.aload_n 0, 1) := by decide +kernel
theorem dX7_tries_140 : decode cX7_tries 140 = .ok (.iload_n 3, 1) := by decide +kernel
theorem dX7_tries_141 : decode cX7_tries 141 = .ok (.iload_n 3, 1) := by decide +kernel
theorem dX7_tries_142 : decode cX7_tries 142 = .ok (.invokevirtual 79, 3) := by decide +kernel
theorem dX7_tries_145 : decode cX7_tries 145 = .ok (.istore 4, 2) := by decide +kernel
theorem dX7_tries_147 : decode cX7_tries 147 = .ok (.iload 4, 2) := by decide +kernel
theorem dX7_tries_149 : decode cX7_tries 149 = .ok (.aload_n 0, 1) := by decide +kernel
theorem dX7_tries_150 : decode cX7_tries 150 = .ok (.getfield 68, 3) := by decide +kernel
theorem dX7_tries_153 : decode cX7_tries 153 = .ok (.if_icmp .lt 5, 3) := by decide +kernel
theorem dX7_tries_156 : decode cX7_tries 156 = .ok (.iconst 0, 1) := by decide +kernel
theorem dX7_tries_157 : decode cX7_tries 157 = .ok (.ireturn, 1) := by decide +kernel
theorem dX7_tries_158 : decode cX7_tries 158 = .ok (.aload_n 0, 1) := by decide +kernel
theorem dX7_tries_159 : decode cX7_tries 159 = .ok (.iload 4, 2) := by decide +kernel
theorem dX7_tries_161 : decode cX7_tries 161 = .ok (.iload_n 3, 1) := by decide +kernel
theorem dX7_tries_162 : decode cX7_tries 162 = .ok (.iload_n 2, 1) := by decide +kernel
theorem dX7_tries_163 : decode cX7_tries 163 = .ok (.iconst 1, 1) := by decide +kernel
theorem dX7_tries_164 : decode cX7_tries 164 = .ok (.iadd, 1) := by decide +kernel
theorem dX7_tries_165 : decode cX7_tries 165 = .ok (.invokevirtual 83, 3) := by decide +kernel
theorem dX7_tries_168 : decode cX7_tries 168 = .ok (.aload_n 0, 1) := by decide +kernel
theorem dX7_tries_169 : decode cX7_tries 169 = .ok (.iload_n 3, 1) := by decide +kernel
theorem dX7_tries_170 : decode cX7_tries 170 = .ok (.iload_n 3, 1) := by decide +kernel
theorem dX7_tries_171 : decode cX7_tries 171 = .ok (.iload_n 2, 1) := by decide +kernel
theorem dX7_tries_172 : decode cX7_tries 172 = .ok (.iconst 1, 1) := by decide +kernel
theorem dX7_tries_173 : decode cX7_tries 173 = .ok (.iadd, 1) := by decide +kernel
theorem dX7_tries_174 : decode cX7_tries 174 = .ok (.invokevirtual 87, 3) := by decide +kernel
theorem dX7_tries_177 : decode cX7_tries 177 = .ok (.iinc 3 1, 3) := by decide +kernel
theorem dX7_tries_180 : decode cX7_tries 180 = .ok (.goto (-46), 3) := by decide +kernel
theorem dX7_tries_183 : decode cX7_tries 183 = .ok (.iconst 1, 1) := by decide +kernel
theorem dX7_tries_184 : decode cX7_tries 184 = .ok (.istore_n 3, 1) := by decide +kernel
theorem dX7_tries_185 : decode cX7_tries 185 = .ok (.iload_n 2, 1) := by decide +kernel
theorem dX7_tries_186 : decode cX7_tries 186 = .ok (.istore 4, 2) := by decide +kernel
theorem dX7_tries_188 : decode cX7_tries 188 = .ok (.iload 4, 2) := by decide +kernel
theorem dX7_tries_190 : decode cX7_tries 190 = .ok (.aload_n 0, 1) := by decide +kernel
theorem dX7_tries_191 : decode cX7_tries 191 = .ok (.getfield 68, 3) := by decide +kernel
theorem dX7_tries_194 : decode cX7_tries 194 = .ok (.if_icmp .ge 36, 3) := by decide +kernel
theorem dX7_tries_197 : decode cX7_tries 197 = .ok (.iload_n 3, 1) := by decide +kernel
theorem dX7_tries_198 : decode cX7_tries 198 = .ok (.ifCond .eq 24, 3) := by decide +kernel
theorem dX7_tries_201 : decode cX7_tries 201 = .ok (.aload_n 0, 1) := by decide +kernel
theorem dX7_tries_202 : decode cX7_tries 202 = .ok (.getfield 30, 3) := by decide +kernel
theorem dX7_tries_205 : decode cX7_tries 205 = .ok (.bipush 32, 2) := by decide +kernel
theorem dX7_tries_207 : decode cX7_tries 207 = .ok (.iload 4, 2) := by decide +kernel
theorem dX7_tries_209 : decode cX7_tries 209 = .ok (.imul, 1) := by decide +kernel
theorem dX7_tries_210 : decode cX7_tries 210 = .ok (.iload_n 2, 1) := by decide +kernel
theorem dX7_tries_211 : decode cX7_tries 211 = .ok (.iadd, 1) := by decide +kernel
theorem dX7_tries_212 : decode cX7_tries 212 = .ok (.laload, 1) := by decide +kernel
theorem dX7_tries_213 : decode cX7_tries 213 = .ok (.lconst 0, 1) := by decide +kernel
theorem dX7_tries_214 : decode cX7_tries 214 = .ok (.lcmp, 1) := by decide +kernel
theorem dX7_tries_215 : decode cX7_tries 215 = .ok (.ifCond .ne 7, 3) := by decide +kernel
theorem dX7_tries_218 : decode cX7_tries 218 = .ok (.iconst 1, 1) := by decide +kernel
theorem dX7_tries_219 : decode cX7_tries 219 = .ok (.goto 4, 3) := by decide +kernel
theorem dX7_tries_222 : decode cX7_tries 222 = .ok (.iconst 0, 1) := by decide +kernel
theorem dX7_tries_223 : decode cX7_tries 223 = .ok (.istore_n 3, 1) := by decide +kernel
theorem dX7_tries_224 : decode cX7_tries 224 = .ok (.iinc 4 1, 3) := by decide +kernel
theorem dX7_tries_227 : decode cX7_tries 227 = .ok (.goto (-39), 3) := by decide +kernel
theorem dX7_tries_230 : decode cX7_tries 230 = .ok (.aload_n 0, 1) := by decide +kernel
theorem dX7_tries_231 : decode cX7_tries 231 = .ok (.getfield 71, 3) := by decide +kernel
theorem dX7_tries_234 : decode cX7_tries 234 = .ok (.lconst 0, 1) := by decide +kernel
theorem dX7_tries_235 : decode cX7_tries 235 = .ok (.lcmp, 1) := by decide +kernel
theorem dX7_tries_236 : decode cX7_tries 236 = .ok (.ifCond .ge 9, 3) := by decide +kernel
theorem dX7_tries_239 : decode cX7_tries 239 = .ok (.ldc2_w 111, 3) := by decide +kernel
theorem dX7_tries_242 : decode cX7_tries 242 = .ok (.goto 4, 3) := by decide +kernel
theorem dX7_tries_245 : decode cX7_tries 245 = .ok (.lconst 1, 1) := by decide +kernel
theorem dX7_tries_246 : decode cX7_tries 246 = .ok (.lstore 4, 2) := by decide +kernel
theorem dX7_tries_248 : decode cX7_tries 248 = .ok (.aload_n 0, 1) := by decide +kernel
theorem dX7_tries_249 : decode cX7_tries 249 = .ok (.aload_n 0, 1) := by decide +kernel
theorem dX7_tries_250 : decode cX7_tries 250 = .ok (.getfield 71, 3) := by decide +kernel
theorem dX7_tries_253 : decode cX7_tries 253 = .ok (.lload 4, 2) := by decide +kernel
theorem dX7_tries_255 : decode cX7_tries 255 = .ok (.lmul, 1) := by decide +kernel
theorem dX7_tries_256 : decode cX7_tries 256 = .ok (.putfield 113, 3) := by decide +kernel
theorem dX7_tries_259 : decode cX7_tries 259 = .ok (.iconst 0, 1) := by decide +kernel
theorem dX7_tries_260 : decode cX7_tries 260 = .ok (.istore 6, 2) := by decide +kernel
theorem dX7_tries_262 : decode cX7_tries 262 = .ok (.iconst 0, 1) := by decide +kernel
theorem dX7_tries_263 : decode cX7_tries 263 = .ok (.istore 7, 2) := by decide +kernel
theorem dX7_tries_265 : decode cX7_tries 265 = .ok (.iload 7, 2) := by decide +kernel
theorem dX7_tries_267 : decode cX7_tries 267 = .ok (.aload_n 0, 1) := by decide +kernel
theorem dX7_tries_268 : decode cX7_tries 268 = .ok (.getfield 7, 3) := by decide +kernel
theorem dX7_tries_271 : decode cX7_tries 271 = .ok (.if_icmp .ge 98, 3) := by decide +kernel
theorem dX7_tries_274 : decode cX7_tries 274 = .ok (.iload_n 1, 1) := by decide +kernel
theorem dX7_tries_275 : decode cX7_tries 275 = .ok (.iload 7, 2) := by decide +kernel
theorem dX7_tries_277 : decode cX7_tries 277 = .ok (.ishr, 1) := by decide +kernel
theorem dX7_tries_278 : decode cX7_tries 278 = .ok (.iconst 1, 1) := by decide +kernel
theorem dX7_tries_279 : decode cX7_tries 279 = .ok (.iand, 1) := by decide +kernel
theorem dX7_tries_280 : decode cX7_tries 280 = .ok (.iconst 1, 1) := by decide +kernel
theorem dX7_tries_281 : decode cX7_tries 281 = .ok (.if_icmp .ne 7, 3) := by decide +kernel
theorem dX7_tries_284 : decode cX7_tries 284 = .ok (.iconst 1, 1) := by decide +kernel
theorem dX7_tries_285 : decode cX7_tries 285 = .ok (.goto 4, 3) := by decide +kernel
theorem dX7_tries_288 : decode cX7_tries 288 = .ok (.iconst 0, 1) := by decide +kernel
theorem dX7_tries_289 : decode cX7_tries 289 = .ok (.istore 8, 2) := by decide +kernel
theorem dX7_tries_291 : decode cX7_tries 291 = .ok (.aload_n 0, 1) := by decide +kernel
theorem dX7_tries_292 : decode cX7_tries 292 = .ok (.getfield 37, 3) := by decide +kernel
theorem dX7_tries_295 : decode cX7_tries 295 = .ok (.iload 7, 2) := by decide +kernel
theorem dX7_tries_297 : decode cX7_tries 297 = .ok (.iload 8, 2) := by decide +kernel
theorem dX7_tries_299 : decode cX7_tries 299 = .ok (.ifCond .eq 25, 3) := by decide +kernel
theorem dX7_tries_302 : decode cX7_tries 302 = .ok (.iload_n 3, 1) := by decide +kernel
theorem dX7_tries_303 : decode cX7_tries 303 = .ok (.ifCond .eq 21, 3) := by decide +kernel
theorem dX7_tries_306 : decode cX7_tries 306 = .ok (.aload_n 0, 1) := by decide +kernel
theorem dX7_tries_307 : decode cX7_tries 307 = .ok (.getfield 30, 3) := by decide +kernel
theorem dX7_tries_310 : decode cX7_tries 310 = .ok (.bipush 32, 2) := by decide +kernel
theorem dX7_tries_312 : decode cX7_tries 312 = .ok (.iload 6, 2) := by decide +kernel
theorem dX7_tries_314 : decode cX7_tries 314 = .ok (.imul, 1) := by decide +kernel
theorem dX7_tries_315 : decode cX7_tries 315 = .ok (.iload_n 2, 1) := by decide +kernel
theorem dX7_tries_316 : decode cX7_tries 316 = .ok (.iadd, 1) := by decide +kernel
theorem dX7_tries_317 : decode cX7_tries 317 = .ok (.laload, 1) := by decide +kernel
theorem dX7_tries_318 : decode cX7_tries 318 = .ok (.lload 4, 2) := by decide +kernel
theorem dX7_tries_320 : decode cX7_tries 320 = .ok (.lmul, 1) := by decide +kernel
theorem dX7_tries_321 : decode cX7_tries 321 = .ok (.goto 4, 3) := by decide +kernel
theorem dX7_tries_324 : decode cX7_tries 324 = .ok (.lconst 0, 1) := by decide +kernel
theorem dX7_tries_325 : decode cX7_tries 325 = .ok (.lastore, 1) := by decide +kernel
theorem dX7_tries_326 : decode cX7_tries 326 = .ok (.iload_n 3, 1) := by decide +kernel
theorem dX7_tries_327 : decode cX7_tries 327 = .ok (.ifCond .eq 19, 3) := by decide +kernel
theorem dX7_tries_330 : decode cX7_tries 330 = .ok (.aload_n 0, 1) := by decide +kernel
theorem dX7_tries_331 : decode cX7_tries 331 = .ok (.getfield 37, 3) := by decide +kernel
theorem dX7_tries_334 : decode cX7_tries 334 = .ok (.iload 7, 2) := by decide +kernel
theorem dX7_tries_336 : decode cX7_tries 336 = .ok (.laload, 1) := by decide +kernel
theorem dX7_tries_337 : decode cX7_tries 337 = .ok (.lconst 0, 1) := by decide +kernel
theorem dX7_tries_338 : decode cX7_tries 338 = .ok (.lcmp, 1) := by decide +kernel
theorem dX7_tries_339 : decode cX7_tries 339 = .ok (.ifCond .lt 7, 3) := by decide +kernel
theorem dX7_tries_342 : decode cX7_tries 342 = .ok (.iconst 1, 1) := by decide +kernel
theorem dX7_tries_343 : decode cX7_tries 343 = .ok (.goto 4, 3) := by decide +kernel
theorem dX7_tries_346 : decode cX7_tries 346 = .ok (.iconst 0, 1) := by decide +kernel
theorem dX7_tries_347 : decode cX7_tries 347 = .ok (.istore_n 3, 1) := by decide +kernel
theorem dX7_tries_348 : decode cX7_tries 348 = .ok (.iload 6, 2) := by decide +kernel
theorem dX7_tries_350 : decode cX7_tries 350 = .ok (.iload 8, 2) := by decide +kernel
theorem dX7_tries_352 : decode cX7_tries 352 = .ok (.ifCond .eq 7, 3) := by decide +kernel
theorem dX7_tries_355 : decode cX7_tries 355 = .ok (.iconst 1, 1) := by decide +kernel
theorem dX7_tries_356 : decode cX7_tries 356 = .ok (.goto 4, 3) := by decide +kernel
theorem dX7_tries_359 : decode cX7_tries 359 = .ok (.iconst 0, 1) := by decide +kernel
theorem dX7_tries_360 : decode cX7_tries 360 = .ok (.iadd, 1) := by decide +kernel
theorem dX7_tries_361 : decode cX7_tries 361 = .ok (.istore 6, 2) := by decide +kernel
theorem dX7_tries_363 : decode cX7_tries 363 = .ok (.iinc 7 1, 3) := by decide +kernel
theorem dX7_tries_366 : decode cX7_tries 366 = .ok (.goto (-101), 3) := by decide +kernel
theorem dX7_tries_369 : decode cX7_tries 369 = .ok (.iload_n 3, 1) := by decide +kernel
theorem dX7_tries_370 : decode cX7_tries 370 = .ok (.ireturn, 1) := by decide +kernel
theorem dX7_of_0 : decode cX7_of 0 = .ok (.lconst 0, 1) := by decide +kernel
theorem dX7_of_1 : decode cX7_of 1 = .ok (.lstore_n 2, 1) := by decide +kernel
theorem dX7_of_2 : decode cX7_of 2 = .ok (.iconst 0, 1) := by decide +kernel
theorem dX7_of_3 : decode cX7_of 3 = .ok (.istore 4, 2) := by decide +kernel
theorem dX7_of_5 : decode cX7_of 5 = .ok (.iload 4, 2) := by decide +kernel
theorem dX7_of_7 : decode cX7_of 7 = .ok (.bipush 10, 2) := by decide +kernel
theorem dX7_of_9 : decode cX7_of 9 = .ok (.if_icmp .ge 30, 3) := by decide +kernel
theorem dX7_of_12 : decode cX7_of 12 = .ok (.lload_n 2, 1) := by decide +kernel
theorem dX7_of_13 : decode cX7_of 13 = .ok (.iload_n 1, 1) := by decide +kernel
theorem dX7_of_14 : decode cX7_of 14 = .ok (.iload 4, 2) := by decide +kernel
theorem dX7_of_16 : decode cX7_of 16 = .ok (.ishr, 1) := by decide +kernel
theorem dX7_of_17 : decode cX7_of 17 = .ok (.iconst 1, 1) := by decide +kernel
theorem dX7_of_18 : decode cX7_of 18 = .ok (.iand, 1) := by decide +kernel
theorem dX7_of_19 : decode cX7_of 19 = .ok (.iconst 1, 1) := by decide +kernel
theorem dX7_of_20 : decode cX7_of 20 = .ok (.if_icmp .ne 10, 3) := by decide +kernel
theorem dX7_of_23 : decode cX7_of 23 = .ok (.aload_n 0, 1) := by decide +kernel
theorem dX7_of_24 : decode cX7_of 24 = .ok (.iload 4, 2) := by decide +kernel
theorem dX7_of_26 : decode cX7_of 26 = .ok (.laload, 1) := by decide +kernel
theorem dX7_of_27 : decode cX7_of 27 = .ok (.goto 4, 3) := by decide +kernel
theorem dX7_of_30 : decode cX7_of 30 = .ok (.lconst 0, 1) := by decide +kernel
theorem dX7_of_31 : decode cX7_of 31 = .ok (.ladd, 1) := by decide +kernel
theorem dX7_of_32 : decode cX7_of 32 = .ok (.lstore_n 2, 1) := by decide +kernel
theorem dX7_of_33 : decode cX7_of 33 = .ok (.iinc 4 1, 3) := by decide +kernel
theorem dX7_of_36 : decode cX7_of 36 = .ok (.goto (-31), 3) := by decide +kernel
theorem dX7_of_39 : decode cX7_of 39 = .ok (.lload_n 2, 1) := by decide +kernel
theorem dX7_of_40 : decode cX7_of 40 = .ok (.lreturn, 1) := by decide +kernel
theorem dX7_betters_0 : decode cX7_betters 0 = .ok (.aload_n 0, 1) := by decide +kernel
theorem dX7_betters_1 : decode cX7_betters 1 = .ok (.getfield 37, 3) := by decide +kernel
theorem dX7_betters_4 : decode cX7_betters 4 = .ok (.iload_n 1, 1) := by decide +kernel
theorem dX7_betters_5 : decode cX7_betters 5 = .ok (.invokestatic 116, 3) := by decide +kernel
theorem dX7_betters_8 : decode cX7_betters 8 = .ok (.aload_n 0, 1) := by decide +kernel
theorem dX7_betters_9 : decode cX7_betters 9 = .ok (.getfield 120, 3) := by decide +kernel
theorem dX7_betters_12 : decode cX7_betters 12 = .ok (.lmul, 1) := by decide +kernel
theorem dX7_betters_13 : decode cX7_betters 13 = .ok (.lstore_n 3, 1) := by decide +kernel
theorem dX7_betters_14 : decode cX7_betters 14 = .ok (.aload_n 0, 1) := by decide +kernel
theorem dX7_betters_15 : decode cX7_betters 15 = .ok (.getfield 40, 3) := by decide +kernel
theorem dX7_betters_18 : decode cX7_betters 18 = .ok (.iload_n 1, 1) := by decide +kernel
theorem dX7_betters_19 : decode cX7_betters 19 = .ok (.invokestatic 116, 3) := by decide +kernel
theorem dX7_betters_22 : decode cX7_betters 22 = .ok (.aload_n 0, 1) := by decide +kernel
theorem dX7_betters_23 : decode cX7_betters 23 = .ok (.getfield 113, 3) := by decide +kernel
theorem dX7_betters_26 : decode cX7_betters 26 = .ok (.lmul, 1) := by decide +kernel
theorem dX7_betters_27 : decode cX7_betters 27 = .ok (.lstore 5, 2) := by decide +kernel
theorem dX7_betters_29 : decode cX7_betters 29 = .ok (.lload_n 3, 1) := by decide +kernel
theorem dX7_betters_30 : decode cX7_betters 30 = .ok (.lload 5, 2) := by decide +kernel
theorem dX7_betters_32 : decode cX7_betters 32 = .ok (.lcmp, 1) := by decide +kernel
theorem dX7_betters_33 : decode cX7_betters 33 = .ok (.ifCond .eq 35, 3) := by decide +kernel
theorem dX7_betters_36 : decode cX7_betters 36 = .ok (.iload_n 2, 1) := by decide +kernel
theorem dX7_betters_37 : decode cX7_betters 37 = .ok (.ifCond .ne 18, 3) := by decide +kernel
theorem dX7_betters_40 : decode cX7_betters 40 = .ok (.lload_n 3, 1) := by decide +kernel
theorem dX7_betters_41 : decode cX7_betters 41 = .ok (.lload 5, 2) := by decide +kernel
theorem dX7_betters_43 : decode cX7_betters 43 = .ok (.lcmp, 1) := by decide +kernel
theorem dX7_betters_44 : decode cX7_betters 44 = .ok (.ifCond .ge 7, 3) := by decide +kernel
theorem dX7_betters_47 : decode cX7_betters 47 = .ok (.iconst 1, 1) := by decide +kernel
theorem dX7_betters_48 : decode cX7_betters 48 = .ok (.goto 19, 3) := by decide +kernel
theorem dX7_betters_51 : decode cX7_betters 51 = .ok (.iconst 0, 1) := by decide +kernel
theorem dX7_betters_52 : decode cX7_betters 52 = .ok (.goto 15, 3) := by decide +kernel
theorem dX7_betters_55 : decode cX7_betters 55 = .ok (.lload_n 3, 1) := by decide +kernel
theorem dX7_betters_56 : decode cX7_betters 56 = .ok (.lload 5, 2) := by decide +kernel
theorem dX7_betters_58 : decode cX7_betters 58 = .ok (.lcmp, 1) := by decide +kernel
theorem dX7_betters_59 : decode cX7_betters 59 = .ok (.ifCond .le 7, 3) := by decide +kernel
theorem dX7_betters_62 : decode cX7_betters 62 = .ok (.iconst 1, 1) := by decide +kernel
theorem dX7_betters_63 : decode cX7_betters 63 = .ok (.goto 4, 3) := by decide +kernel
theorem dX7_betters_66 : decode cX7_betters 66 = .ok (.iconst 0, 1) := by decide +kernel
theorem dX7_betters_67 : decode cX7_betters 67 = .ok (.ireturn, 1) := by decide +kernel
theorem dX7_betters_68 : decode cX7_betters 68 = .ok (.iconst 0, 1) := by decide +kernel
theorem dX7_betters_69 : decode cX7_betters 69 = .ok (.istore 7, 2) := by decide +kernel
theorem dX7_betters_71 : decode cX7_betters 71 = .ok (.iload 7, 2) := by decide +kernel
theorem dX7_betters_73 : decode cX7_betters 73 = .ok (.aload_n 0, 1) := by decide +kernel
theorem dX7_betters_74 : decode cX7_betters 74 = .ok (.getfield 7, 3) := by decide +kernel
theorem dX7_betters_77 : decode cX7_betters 77 = .ok (.if_icmp .ge 59, 3) := by decide +kernel
theorem dX7_betters_80 : decode cX7_betters 80 = .ok (.aload_n 0, 1) := by decide +kernel
theorem dX7_betters_81 : decode cX7_betters 81 = .ok (.getfield 37, 3) := by decide +kernel
theorem dX7_betters_84 : decode cX7_betters 84 = .ok (.iload 7, 2) := by decide +kernel
theorem dX7_betters_86 : decode cX7_betters 86 = .ok (.laload, 1) := by decide +kernel
theorem dX7_betters_87 : decode cX7_betters 87 = .ok (.aload_n 0, 1) := by decide +kernel
theorem dX7_betters_88 : decode cX7_betters 88 = .ok (.getfield 120, 3) := by decide +kernel
theorem dX7_betters_91 : decode cX7_betters 91 = .ok (.lmul, 1) := by decide +kernel
theorem dX7_betters_92 : decode cX7_betters 92 = .ok (.lstore 8, 2) := by decide +kernel
theorem dX7_betters_94 : decode cX7_betters 94 = .ok (.aload_n 0, 1) := by decide +kernel
theorem dX7_betters_95 : decode cX7_betters 95 = .ok (.getfield 40, 3) := by decide +kernel
theorem dX7_betters_98 : decode cX7_betters 98 = .ok (.iload 7, 2) := by decide +kernel
theorem dX7_betters_100 : decode cX7_betters 100 = .ok (.laload, 1) := by decide +kernel
theorem dX7_betters_101 : decode cX7_betters 101 = .ok (.aload_n 0, 1) := by decide +kernel
theorem dX7_betters_102 : decode cX7_betters 102 = .ok (.getfield 113, 3) := by decide +kernel
theorem dX7_betters_105 : decode cX7_betters 105 = .ok (.lmul, 1) := by decide +kernel
theorem dX7_betters_106 : decode cX7_betters 106 = .ok (.lstore 10, 2) := by decide +kernel
theorem dX7_betters_108 : decode cX7_betters 108 = .ok (.lload 8, 2) := by decide +kernel
theorem dX7_betters_110 : decode cX7_betters 110 = .ok (.lload 10, 2) := by decide +kernel
theorem dX7_betters_112 : decode cX7_betters 112 = .ok (.lcmp, 1) := by decide +kernel
theorem dX7_betters_113 : decode cX7_betters 113 = .ok (.ifCond .eq 17, 3) := by decide +kernel
theorem dX7_betters_116 : decode cX7_betters 116 = .ok (.lload 8, 2) := by decide +kernel
theorem dX7_betters_118 : decode cX7_betters 118 = .ok (.lload 10, 2) := by decide +kernel
theorem dX7_betters_120 : decode cX7_betters 120 = .ok (.lcmp, 1) := by decide +kernel
theorem dX7_betters_121 : decode cX7_betters 121 = .ok (.ifCond .ge 7, 3) := by decide +kernel
theorem dX7_betters_124 : decode cX7_betters 124 = .ok (.iconst 1, 1) := by decide +kernel
theorem dX7_betters_125 : decode cX7_betters 125 = .ok (.goto 4, 3) := by decide +kernel
theorem dX7_betters_128 : decode cX7_betters 128 = .ok (.iconst 0, 1) := by decide +kernel
theorem dX7_betters_129 : decode cX7_betters 129 = .ok (.ireturn, 1) := by decide +kernel
theorem dX7_betters_130 : decode cX7_betters 130 = .ok (.iinc 7 1, 3) := by decide +kernel
theorem dX7_betters_133 : decode cX7_betters 133 = .ok (.goto (-62), 3) := by decide +kernel
theorem dX7_betters_136 : decode cX7_betters 136 = .ok (.iconst 0, 1) := by decide +kernel
theorem dX7_betters_137 : decode cX7_betters 137 = .ok (.ireturn, 1) := by decide +kernel
theorem dX7_find_0 : decode cX7_find 0 = .ok (.iconst 0, 1) := by decide +kernel
theorem dX7_find_1 : decode cX7_find 1 = .ok (.istore_n 3, 1) := by decide +kernel
theorem dX7_find_2 : decode cX7_find 2 = .ok (.aload_n 0, 1) := by decide +kernel
theorem dX7_find_3 : decode cX7_find 3 = .ok (.invokevirtual 123, 3) := by decide +kernel
theorem dX7_find_6 : decode cX7_find 6 = .ok (.istore 4, 2) := by decide +kernel
theorem dX7_find_8 : decode cX7_find 8 = .ok (.iconst 0, 1) := by decide +kernel
theorem dX7_find_9 : decode cX7_find 9 = .ok (.istore 5, 2) := by decide +kernel
theorem dX7_find_11 : decode cX7_find 11 = .ok (.iload 5, 2) := by decide +kernel
theorem dX7_find_13 : decode cX7_find 13 = .ok (.iconst 1, 1) := by decide +kernel
theorem dX7_find_14 : decode cX7_find 14 = .ok (.aload_n 0, 1) := by decide +kernel
theorem dX7_find_15 : decode cX7_find 15 = .ok (.getfield 7, 3) := by decide +kernel
theorem dX7_find_18 : decode cX7_find 18 = .ok (.ishl, 1) := by decide +kernel
theorem dX7_find_19 : decode cX7_find 19 = .ok (.if_icmp .ge 94, 3) := by decide +kernel
theorem dX7_find_22 : decode cX7_find 22 = .ok (.iload 5, 2) := by decide +kernel
theorem dX7_find_24 : decode cX7_find 24 = .ok (.iload 4, 2) := by decide +kernel
theorem dX7_find_26 : decode cX7_find 26 = .ok (.iconst (-1), 1) := by decide +kernel
theorem dX7_find_27 : decode cX7_find 27 = .ok (.ixor, 1) := by decide +kernel
theorem dX7_find_28 : decode cX7_find 28 = .ok (.iand, 1) := by decide +kernel
theorem dX7_find_29 : decode cX7_find 29 = .ok (.ifCond .ne 78, 3) := by decide +kernel
theorem dX7_find_32 : decode cX7_find 32 = .ok (.aload_n 0, 1) := by decide +kernel
theorem dX7_find_33 : decode cX7_find 33 = .ok (.iload 5, 2) := by decide +kernel
theorem dX7_find_35 : decode cX7_find 35 = .ok (.invokevirtual 126, 3) := by decide +kernel
theorem dX7_find_38 : decode cX7_find 38 = .ok (.ifCond .eq 69, 3) := by decide +kernel
theorem dX7_find_41 : decode cX7_find 41 = .ok (.iload_n 3, 1) := by decide +kernel
theorem dX7_find_42 : decode cX7_find 42 = .ok (.ifCond .eq 12, 3) := by decide +kernel
theorem dX7_find_45 : decode cX7_find 45 = .ok (.aload_n 0, 1) := by decide +kernel
theorem dX7_find_46 : decode cX7_find 46 = .ok (.iload_n 1, 1) := by decide +kernel
theorem dX7_find_47 : decode cX7_find 47 = .ok (.iload_n 2, 1) := by decide +kernel
theorem dX7_find_48 : decode cX7_find 48 = .ok (.invokevirtual 129, 3) := by decide +kernel
theorem dX7_find_51 : decode cX7_find 51 = .ok (.ifCond .eq 56, 3) := by decide +kernel
theorem dX7_find_54 : decode cX7_find 54 = .ok (.iconst 0, 1) := by decide +kernel
theorem dX7_find_55 : decode cX7_find 55 = .ok (.istore 6, 2) := by decide +kernel
theorem dX7_find_57 : decode cX7_find 57 = .ok (.iload 6, 2) := by decide +kernel
theorem dX7_find_59 : decode cX7_find 59 = .ok (.bipush 10, 2) := by decide +kernel
theorem dX7_find_61 : decode cX7_find 61 = .ok (.if_icmp .ge 36, 3) := by decide +kernel
theorem dX7_find_64 : decode cX7_find 64 = .ok (.aload_n 0, 1) := by decide +kernel
theorem dX7_find_65 : decode cX7_find 65 = .ok (.getfield 40, 3) := by decide +kernel
theorem dX7_find_68 : decode cX7_find 68 = .ok (.iload 6, 2) := by decide +kernel
theorem dX7_find_70 : decode cX7_find 70 = .ok (.iload 6, 2) := by decide +kernel
theorem dX7_find_72 : decode cX7_find 72 = .ok (.aload_n 0, 1) := by decide +kernel
theorem dX7_find_73 : decode cX7_find 73 = .ok (.getfield 7, 3) := by decide +kernel
theorem dX7_find_76 : decode cX7_find 76 = .ok (.if_icmp .ge 13, 3) := by decide +kernel
theorem dX7_find_79 : decode cX7_find 79 = .ok (.aload_n 0, 1) := by decide +kernel
theorem dX7_find_80 : decode cX7_find 80 = .ok (.getfield 37, 3) := by decide +kernel
theorem dX7_find_83 : decode cX7_find 83 = .ok (.iload 6, 2) := by decide +kernel
theorem dX7_find_85 : decode cX7_find 85 = .ok (.laload, 1) := by decide +kernel
theorem dX7_find_86 : decode cX7_find 86 = .ok (.goto 4, 3) := by decide +kernel
theorem dX7_find_89 : decode cX7_find 89 = .ok (.lconst 0, 1) := by decide +kernel
theorem dX7_find_90 : decode cX7_find 90 = .ok (.lastore, 1) := by decide +kernel
theorem dX7_find_91 : decode cX7_find 91 = .ok (.iinc 6 1, 3) := by decide +kernel
theorem dX7_find_94 : decode cX7_find 94 = .ok (.goto (-37), 3) := by decide +kernel
theorem dX7_find_97 : decode cX7_find 97 = .ok (.aload_n 0, 1) := by decide +kernel
theorem dX7_find_98 : decode cX7_find 98 = .ok (.aload_n 0, 1) := by decide +kernel
theorem dX7_find_99 : decode cX7_find 99 = .ok (.getfield 113, 3) := by decide +kernel
theorem dX7_find_102 : decode cX7_find 102 = .ok (.putfield 120, 3) := by decide +kernel
theorem dX7_find_105 : decode cX7_find 105 = .ok (.iconst 1, 1) := by decide +kernel
theorem dX7_find_106 : decode cX7_find 106 = .ok (.istore_n 3, 1) := by decide +kernel
theorem dX7_find_107 : decode cX7_find 107 = .ok (.iinc 5 1, 3) := by decide +kernel
theorem dX7_find_110 : decode cX7_find 110 = .ok (.goto (-99), 3) := by decide +kernel
theorem dX7_find_113 : decode cX7_find 113 = .ok (.iload_n 3, 1) := by decide +kernel
theorem dX7_find_114 : decode cX7_find 114 = .ok (.ireturn, 1) := by decide +kernel
theorem dX7_gcd_0 : decode cX7_gcd 0 = .ok (.lload_n 0, 1) := by decide +kernel
theorem dX7_gcd_1 : decode cX7_gcd 1 = .ok (.lstore 4, 2) := by decide +kernel
theorem dX7_gcd_3 : decode cX7_gcd 3 = .ok (.lload_n 2, 1) := by decide +kernel
theorem dX7_gcd_4 : decode cX7_gcd 4 = .ok (.lstore 6, 2) := by decide +kernel
theorem dX7_gcd_6 : decode cX7_gcd 6 = .ok (.lload 6, 2) := by decide +kernel
theorem dX7_gcd_8 : decode cX7_gcd 8 = .ok (.lconst 0, 1) := by decide +kernel
theorem dX7_gcd_9 : decode cX7_gcd 9 = .ok (.lcmp, 1) := by decide +kernel
theorem dX7_gcd_10 : decode cX7_gcd 10 = .ok (.ifCond .eq 21, 3) := by decide +kernel
theorem dX7_gcd_13 : decode cX7_gcd 13 = .ok (.lload 4, 2) := by decide +kernel
theorem dX7_gcd_15 : decode cX7_gcd 15 = .ok (.lload 6, 2) := by decide +kernel
theorem dX7_gcd_17 : decode cX7_gcd 17 = .ok (.lrem, 1) := by decide +kernel
theorem dX7_gcd_18 : decode cX7_gcd 18 = .ok (.lstore 8, 2) := by decide +kernel
theorem dX7_gcd_20 : decode cX7_gcd 20 = .ok (.lload 6, 2) := by decide +kernel
theorem dX7_gcd_22 : decode cX7_gcd 22 = .ok (.lstore 4, 2) := by decide +kernel
theorem dX7_gcd_24 : decode cX7_gcd 24 = .ok (.lload 8, 2) := by decide +kernel
theorem dX7_gcd_26 : decode cX7_gcd 26 = .ok (.lstore 6, 2) := by decide +kernel
theorem dX7_gcd_28 : decode cX7_gcd 28 = .ok (.goto (-22), 3) := by decide +kernel
theorem dX7_gcd_31 : decode cX7_gcd 31 = .ok (.lload 4, 2) := by decide +kernel
theorem dX7_gcd_33 : decode cX7_gcd 33 = .ok (.lreturn, 1) := by decide +kernel
theorem dX7_part_0 : decode cX7_part 0 = .ok (.lload_n 0, 1) := by decide +kernel
theorem dX7_part_1 : decode cX7_part 1 = .ok (.lload_n 2, 1) := by decide +kernel
theorem dX7_part_2 : decode cX7_part 2 = .ok (.invokestatic 132, 3) := by decide +kernel
theorem dX7_part_5 : decode cX7_part 5 = .ok (.lstore 5, 2) := by decide +kernel
theorem dX7_part_7 : decode cX7_part 7 = .ok (.iload 4, 2) := by decide +kernel
theorem dX7_part_9 : decode cX7_part 9 = .ok (.ifCond .ne 10, 3) := by decide +kernel
theorem dX7_part_12 : decode cX7_part 12 = .ok (.lload_n 0, 1) := by decide +kernel
theorem dX7_part_13 : decode cX7_part 13 = .ok (.lload 5, 2) := by decide +kernel
theorem dX7_part_15 : decode cX7_part 15 = .ok (.ldiv, 1) := by decide +kernel
theorem dX7_part_16 : decode cX7_part 16 = .ok (.goto 7, 3) := by decide +kernel
theorem dX7_part_19 : decode cX7_part 19 = .ok (.lload_n 2, 1) := by decide +kernel
theorem dX7_part_20 : decode cX7_part 20 = .ok (.lload 5, 2) := by decide +kernel
theorem dX7_part_22 : decode cX7_part 22 = .ok (.ldiv, 1) := by decide +kernel
theorem dX7_part_23 : decode cX7_part 23 = .ok (.lreturn, 1) := by decide +kernel
theorem dX7_isEndless_0 : decode cX7_isEndless 0 = .ok (.iload_n 2, 1) := by decide +kernel
theorem dX7_isEndless_1 : decode cX7_isEndless 1 = .ok (.iconst 1, 1) := by decide +kernel
theorem dX7_isEndless_2 : decode cX7_isEndless 2 = .ok (.if_icmp .ne 18, 3) := by decide +kernel
theorem dX7_isEndless_5 : decode cX7_isEndless 5 = .ok (.iload_n 1, 1) := by decide +kernel
theorem dX7_isEndless_6 : decode cX7_isEndless 6 = .ok (.aload_n 0, 1) := by decide +kernel
theorem dX7_isEndless_7 : decode cX7_isEndless 7 = .ok (.invokevirtual 123, 3) := by decide +kernel
theorem dX7_isEndless_10 : decode cX7_isEndless 10 = .ok (.iconst (-1), 1) := by decide +kernel
theorem dX7_isEndless_11 : decode cX7_isEndless 11 = .ok (.ixor, 1) := by decide +kernel
theorem dX7_isEndless_12 : decode cX7_isEndless 12 = .ok (.iand, 1) := by decide +kernel
theorem dX7_isEndless_13 : decode cX7_isEndless 13 = .ok (.ifCond .eq 7, 3) := by decide +kernel
theorem dX7_isEndless_16 : decode cX7_isEndless 16 = .ok (.iconst 1, 1) := by decide +kernel
theorem dX7_isEndless_17 : decode cX7_isEndless 17 = .ok (.goto 4, 3) := by decide +kernel
theorem dX7_isEndless_20 : decode cX7_isEndless 20 = .ok (.iconst 0, 1) := by decide +kernel
theorem dX7_isEndless_21 : decode cX7_isEndless 21 = .ok (.ireturn, 1) := by decide +kernel
theorem dX7_bound_0 : decode cX7_bound 0 = .ok (.aload_n 0, 1) := by decide +kernel
theorem dX7_bound_1 : decode cX7_bound 1 = .ok (.iload_n 1, 1) := by decide +kernel
theorem dX7_bound_2 : decode cX7_bound 2 = .ok (.iconst 0, 1) := by decide +kernel
theorem dX7_bound_3 : decode cX7_bound 3 = .ok (.invokevirtual 58, 3) := by decide +kernel
theorem dX7_bound_6 : decode cX7_bound 6 = .ok (.ifCond .ne 23, 3) := by decide +kernel
theorem dX7_bound_9 : decode cX7_bound 9 = .ok (.iload_n 2, 1) := by decide +kernel
theorem dX7_bound_10 : decode cX7_bound 10 = .ok (.i2l, 1) := by decide +kernel
theorem dX7_bound_11 : decode cX7_bound 11 = .ok (.lconst 0, 1) := by decide +kernel
theorem dX7_bound_12 : decode cX7_bound 12 = .ok (.lconst 1, 1) := by decide +kernel
theorem dX7_bound_13 : decode cX7_bound 13 = .ok (.invokestatic 46, 3) := by decide +kernel
theorem dX7_bound_16 : decode cX7_bound 16 = .ok (.ifCond .eq 13, 3) := by decide +kernel
theorem dX7_bound_19 : decode cX7_bound 19 = .ok (.iload_n 3, 1) := by decide +kernel
theorem dX7_bound_20 : decode cX7_bound 20 = .ok (.i2l, 1) := by decide +kernel
theorem dX7_bound_21 : decode cX7_bound 21 = .ok (.lconst 0, 1) := by decide +kernel
theorem dX7_bound_22 : decode cX7_bound 22 = .ok (.lconst 1, 1) := by decide +kernel
theorem dX7_bound_23 : decode cX7_bound 23 = .ok (.invokestatic 46, 3) := by decide +kernel
theorem dX7_bound_26 : decode cX7_bound 26 = .ok (.ifCond .ne 7, 3) := by decide +kernel
theorem dX7_bound_29 : decode cX7_bound 29 = .ok (.ldc2_w 136, 3) := by decide +kernel
theorem dX7_bound_32 : decode cX7_bound 32 = .ok (.lreturn, 1) := by decide +kernel
theorem dX7_bound_33 : decode cX7_bound 33 = .ok (.aload_n 0, 1) := by decide +kernel
theorem dX7_bound_34 : decode cX7_bound 34 = .ok (.aload_n 0, 1) := by decide +kernel
theorem dX7_bound_35 : decode cX7_bound 35 = .ok (.invokevirtual 90, 3) := by decide +kernel
theorem dX7_bound_38 : decode cX7_bound 38 = .ok (.invokevirtual 108, 3) := by decide +kernel
theorem dX7_bound_41 : decode cX7_bound 41 = .ok (.ifCond .ne 7, 3) := by decide +kernel
theorem dX7_bound_44 : decode cX7_bound 44 = .ok (.ldc2_w 138, 3) := by decide +kernel
theorem dX7_bound_47 : decode cX7_bound 47 = .ok (.lreturn, 1) := by decide +kernel
theorem dX7_bound_48 : decode cX7_bound 48 = .ok (.aload_n 0, 1) := by decide +kernel
theorem dX7_bound_49 : decode cX7_bound 49 = .ok (.iload_n 1, 1) := by decide +kernel
theorem dX7_bound_50 : decode cX7_bound 50 = .ok (.iload_n 2, 1) := by decide +kernel
theorem dX7_bound_51 : decode cX7_bound 51 = .ok (.invokevirtual 140, 3) := by decide +kernel
theorem dX7_bound_54 : decode cX7_bound 54 = .ok (.ifCond .eq 7, 3) := by decide +kernel
theorem dX7_bound_57 : decode cX7_bound 57 = .ok (.ldc2_w 143, 3) := by decide +kernel
theorem dX7_bound_60 : decode cX7_bound 60 = .ok (.lreturn, 1) := by decide +kernel
theorem dX7_bound_61 : decode cX7_bound 61 = .ok (.aload_n 0, 1) := by decide +kernel
theorem dX7_bound_62 : decode cX7_bound 62 = .ok (.iload_n 1, 1) := by decide +kernel
theorem dX7_bound_63 : decode cX7_bound 63 = .ok (.iload_n 2, 1) := by decide +kernel
theorem dX7_bound_64 : decode cX7_bound 64 = .ok (.invokevirtual 145, 3) := by decide +kernel
theorem dX7_bound_67 : decode cX7_bound 67 = .ok (.istore 4, 2) := by decide +kernel
theorem dX7_bound_69 : decode cX7_bound 69 = .ok (.aload_n 0, 1) := by decide +kernel
theorem dX7_bound_70 : decode cX7_bound 70 = .ok (.getfield 40, 3) := by decide +kernel
end
section
theorem dX7_bound_73 : decode cX7_bound 73 = .ok (.iload_n 1, 1) := by decide +kernel
theorem dX7_bound_74 : decode cX7_bound 74 = .ok (.invokestatic 116, 3) := by decide +kernel
theorem dX7_bound_77 : decode cX7_bound 77 = .ok (.aload_n 0, 1) := by decide +kernel
theorem dX7_bound_78 : decode cX7_bound 78 = .ok (.getfield 120, 3) := by decide +kernel
theorem dX7_bound_81 : decode cX7_bound 81 = .ok (.iload_n 3, 1) := by decide +kernel
theorem dX7_bound_82 : decode cX7_bound 82 = .ok (.invokestatic 148, 3) := by decide +kernel
theorem dX7_bound_85 : decode cX7_bound 85 = .ok (.lreturn, 1) := by decide +kernel
theorem dX7_noLine_0 : decode cX7_noLine 0 = .ok (.iload_n 1, 1) := by decide +kernel
theorem dX7_noLine_1 : decode cX7_noLine 1 = .ok (.i2l, 1) := by decide +kernel
theorem dX7_noLine_2 : decode cX7_noLine 2 = .ok (.lconst 0, 1) := by decide +kernel
theorem dX7_noLine_3 : decode cX7_noLine 3 = .ok (.aload_n 0, 1) := by decide +kernel
theorem dX7_noLine_4 : decode cX7_noLine 4 = .ok (.getfield 7, 3) := by decide +kernel
theorem dX7_noLine_7 : decode cX7_noLine 7 = .ok (.iconst 1, 1) := by decide +kernel
theorem dX7_noLine_8 : decode cX7_noLine 8 = .ok (.isub, 1) := by decide +kernel
theorem dX7_noLine_9 : decode cX7_noLine 9 = .ok (.i2l, 1) := by decide +kernel
theorem dX7_noLine_10 : decode cX7_noLine 10 = .ok (.invokestatic 46, 3) := by decide +kernel
theorem dX7_noLine_13 : decode cX7_noLine 13 = .ok (.ifCond .ne 7, 3) := by decide +kernel
theorem dX7_noLine_16 : decode cX7_noLine 16 = .ok (.iconst 1, 1) := by decide +kernel
theorem dX7_noLine_17 : decode cX7_noLine 17 = .ok (.goto 4, 3) := by decide +kernel
theorem dX7_noLine_20 : decode cX7_noLine 20 = .ok (.iconst 0, 1) := by decide +kernel
theorem dX7_noLine_21 : decode cX7_noLine 21 = .ok (.ireturn, 1) := by decide +kernel
theorem dX7_shown_0 : decode cX7_shown 0 = .ok (.aload_n 0, 1) := by decide +kernel
theorem dX7_shown_1 : decode cX7_shown 1 = .ok (.iload_n 3, 1) := by decide +kernel
theorem dX7_shown_2 : decode cX7_shown 2 = .ok (.invokevirtual 152, 3) := by decide +kernel
theorem dX7_shown_5 : decode cX7_shown 5 = .ok (.ifCond .eq 7, 3) := by decide +kernel
theorem dX7_shown_8 : decode cX7_shown 8 = .ok (.ldc2_w 155, 3) := by decide +kernel
theorem dX7_shown_11 : decode cX7_shown 11 = .ok (.lreturn, 1) := by decide +kernel
theorem dX7_shown_12 : decode cX7_shown 12 = .ok (.aload_n 0, 1) := by decide +kernel
theorem dX7_shown_13 : decode cX7_shown 13 = .ok (.iload_n 1, 1) := by decide +kernel
theorem dX7_shown_14 : decode cX7_shown 14 = .ok (.iconst 0, 1) := by decide +kernel
theorem dX7_shown_15 : decode cX7_shown 15 = .ok (.invokevirtual 58, 3) := by decide +kernel
theorem dX7_shown_18 : decode cX7_shown 18 = .ok (.ifCond .ne 24, 3) := by decide +kernel
theorem dX7_shown_21 : decode cX7_shown 21 = .ok (.iload_n 2, 1) := by decide +kernel
theorem dX7_shown_22 : decode cX7_shown 22 = .ok (.i2l, 1) := by decide +kernel
theorem dX7_shown_23 : decode cX7_shown 23 = .ok (.lconst 0, 1) := by decide +kernel
theorem dX7_shown_24 : decode cX7_shown 24 = .ok (.lconst 1, 1) := by decide +kernel
theorem dX7_shown_25 : decode cX7_shown 25 = .ok (.invokestatic 46, 3) := by decide +kernel
theorem dX7_shown_28 : decode cX7_shown 28 = .ok (.ifCond .eq 14, 3) := by decide +kernel
theorem dX7_shown_31 : decode cX7_shown 31 = .ok (.iload 4, 2) := by decide +kernel
theorem dX7_shown_33 : decode cX7_shown 33 = .ok (.i2l, 1) := by decide +kernel
theorem dX7_shown_34 : decode cX7_shown 34 = .ok (.lconst 0, 1) := by decide +kernel
theorem dX7_shown_35 : decode cX7_shown 35 = .ok (.lconst 1, 1) := by decide +kernel
theorem dX7_shown_36 : decode cX7_shown 36 = .ok (.invokestatic 46, 3) := by decide +kernel
theorem dX7_shown_39 : decode cX7_shown 39 = .ok (.ifCond .ne 7, 3) := by decide +kernel
theorem dX7_shown_42 : decode cX7_shown 42 = .ok (.ldc2_w 136, 3) := by decide +kernel
theorem dX7_shown_45 : decode cX7_shown 45 = .ok (.lreturn, 1) := by decide +kernel
theorem dX7_shown_46 : decode cX7_shown 46 = .ok (.aload_n 0, 1) := by decide +kernel
theorem dX7_shown_47 : decode cX7_shown 47 = .ok (.aload_n 0, 1) := by decide +kernel
theorem dX7_shown_48 : decode cX7_shown 48 = .ok (.invokevirtual 90, 3) := by decide +kernel
theorem dX7_shown_51 : decode cX7_shown 51 = .ok (.invokevirtual 108, 3) := by decide +kernel
theorem dX7_shown_54 : decode cX7_shown 54 = .ok (.ifCond .ne 7, 3) := by decide +kernel
theorem dX7_shown_57 : decode cX7_shown 57 = .ok (.ldc2_w 138, 3) := by decide +kernel
theorem dX7_shown_60 : decode cX7_shown 60 = .ok (.lreturn, 1) := by decide +kernel
theorem dX7_shown_61 : decode cX7_shown 61 = .ok (.aload_n 0, 1) := by decide +kernel
theorem dX7_shown_62 : decode cX7_shown 62 = .ok (.iload_n 1, 1) := by decide +kernel
theorem dX7_shown_63 : decode cX7_shown 63 = .ok (.iload_n 2, 1) := by decide +kernel
theorem dX7_shown_64 : decode cX7_shown 64 = .ok (.invokevirtual 140, 3) := by decide +kernel
theorem dX7_shown_67 : decode cX7_shown 67 = .ok (.ifCond .eq 7, 3) := by decide +kernel
theorem dX7_shown_70 : decode cX7_shown 70 = .ok (.ldc2_w 143, 3) := by decide +kernel
theorem dX7_shown_73 : decode cX7_shown 73 = .ok (.lreturn, 1) := by decide +kernel
theorem dX7_shown_74 : decode cX7_shown 74 = .ok (.aload_n 0, 1) := by decide +kernel
theorem dX7_shown_75 : decode cX7_shown 75 = .ok (.iload_n 1, 1) := by decide +kernel
theorem dX7_shown_76 : decode cX7_shown 76 = .ok (.iload_n 2, 1) := by decide +kernel
theorem dX7_shown_77 : decode cX7_shown 77 = .ok (.invokevirtual 145, 3) := by decide +kernel
theorem dX7_shown_80 : decode cX7_shown 80 = .ok (.istore 5, 2) := by decide +kernel
theorem dX7_shown_82 : decode cX7_shown 82 = .ok (.aload_n 0, 1) := by decide +kernel
theorem dX7_shown_83 : decode cX7_shown 83 = .ok (.getfield 40, 3) := by decide +kernel
theorem dX7_shown_86 : decode cX7_shown 86 = .ok (.iload_n 3, 1) := by decide +kernel
theorem dX7_shown_87 : decode cX7_shown 87 = .ok (.laload, 1) := by decide +kernel
theorem dX7_shown_88 : decode cX7_shown 88 = .ok (.aload_n 0, 1) := by decide +kernel
theorem dX7_shown_89 : decode cX7_shown 89 = .ok (.getfield 120, 3) := by decide +kernel
theorem dX7_shown_92 : decode cX7_shown 92 = .ok (.iload 4, 2) := by decide +kernel
theorem dX7_shown_94 : decode cX7_shown 94 = .ok (.invokestatic 148, 3) := by decide +kernel
theorem dX7_shown_97 : decode cX7_shown 97 = .ok (.lreturn, 1) := by decide +kernel
theorem dX7_isSettled_0 : decode cX7_isSettled 0 = .ok (.aload_n 0, 1) := by decide +kernel
theorem dX7_isSettled_1 : decode cX7_isSettled 1 = .ok (.invokevirtual 123, 3) := by decide +kernel
theorem dX7_isSettled_4 : decode cX7_isSettled 4 = .ok (.iload_n 1, 1) := by decide +kernel
theorem dX7_isSettled_5 : decode cX7_isSettled 5 = .ok (.ishr, 1) := by decide +kernel
theorem dX7_isSettled_6 : decode cX7_isSettled 6 = .ok (.iconst 1, 1) := by decide +kernel
theorem dX7_isSettled_7 : decode cX7_isSettled 7 = .ok (.iand, 1) := by decide +kernel
theorem dX7_isSettled_8 : decode cX7_isSettled 8 = .ok (.ifCond .ne 5, 3) := by decide +kernel
theorem dX7_isSettled_11 : decode cX7_isSettled 11 = .ok (.iconst 0, 1) := by decide +kernel
theorem dX7_isSettled_12 : decode cX7_isSettled 12 = .ok (.ireturn, 1) := by decide +kernel
theorem dX7_isSettled_13 : decode cX7_isSettled 13 = .ok (.aload_n 0, 1) := by decide +kernel
theorem dX7_isSettled_14 : decode cX7_isSettled 14 = .ok (.iconst 1, 1) := by decide +kernel
theorem dX7_isSettled_15 : decode cX7_isSettled 15 = .ok (.iload_n 1, 1) := by decide +kernel
theorem dX7_isSettled_16 : decode cX7_isSettled 16 = .ok (.ishl, 1) := by decide +kernel
theorem dX7_isSettled_17 : decode cX7_isSettled 17 = .ok (.iconst 0, 1) := by decide +kernel
theorem dX7_isSettled_18 : decode cX7_isSettled 18 = .ok (.invokevirtual 145, 3) := by decide +kernel
theorem dX7_isSettled_21 : decode cX7_isSettled 21 = .ok (.istore_n 2, 1) := by decide +kernel
theorem dX7_isSettled_22 : decode cX7_isSettled 22 = .ok (.aload_n 0, 1) := by decide +kernel
theorem dX7_isSettled_23 : decode cX7_isSettled 23 = .ok (.getfield 40, 3) := by decide +kernel
theorem dX7_isSettled_26 : decode cX7_isSettled 26 = .ok (.iload_n 1, 1) := by decide +kernel
theorem dX7_isSettled_27 : decode cX7_isSettled 27 = .ok (.laload, 1) := by decide +kernel
theorem dX7_isSettled_28 : decode cX7_isSettled 28 = .ok (.lstore_n 3, 1) := by decide +kernel
theorem dX7_isSettled_29 : decode cX7_isSettled 29 = .ok (.aload_n 0, 1) := by decide +kernel
theorem dX7_isSettled_30 : decode cX7_isSettled 30 = .ok (.getfield 120, 3) := by decide +kernel
theorem dX7_isSettled_33 : decode cX7_isSettled 33 = .ok (.lstore 5, 2) := by decide +kernel
theorem dX7_isSettled_35 : decode cX7_isSettled 35 = .ok (.aload_n 0, 1) := by decide +kernel
theorem dX7_isSettled_36 : decode cX7_isSettled 36 = .ok (.iconst 1, 1) := by decide +kernel
theorem dX7_isSettled_37 : decode cX7_isSettled 37 = .ok (.iload_n 1, 1) := by decide +kernel
theorem dX7_isSettled_38 : decode cX7_isSettled 38 = .ok (.ishl, 1) := by decide +kernel
theorem dX7_isSettled_39 : decode cX7_isSettled 39 = .ok (.iconst 1, 1) := by decide +kernel
theorem dX7_isSettled_40 : decode cX7_isSettled 40 = .ok (.invokevirtual 145, 3) := by decide +kernel
theorem dX7_isSettled_43 : decode cX7_isSettled 43 = .ok (.istore_n 2, 1) := by decide +kernel
theorem dX7_isSettled_44 : decode cX7_isSettled 44 = .ok (.lload_n 3, 1) := by decide +kernel
theorem dX7_isSettled_45 : decode cX7_isSettled 45 = .ok (.aload_n 0, 1) := by decide +kernel
theorem dX7_isSettled_46 : decode cX7_isSettled 46 = .ok (.getfield 120, 3) := by decide +kernel
theorem dX7_isSettled_49 : decode cX7_isSettled 49 = .ok (.lmul, 1) := by decide +kernel
theorem dX7_isSettled_50 : decode cX7_isSettled 50 = .ok (.aload_n 0, 1) := by decide +kernel
theorem dX7_isSettled_51 : decode cX7_isSettled 51 = .ok (.getfield 40, 3) := by decide +kernel
theorem dX7_isSettled_54 : decode cX7_isSettled 54 = .ok (.iload_n 1, 1) := by decide +kernel
theorem dX7_isSettled_55 : decode cX7_isSettled 55 = .ok (.laload, 1) := by decide +kernel
theorem dX7_isSettled_56 : decode cX7_isSettled 56 = .ok (.lload 5, 2) := by decide +kernel
theorem dX7_isSettled_58 : decode cX7_isSettled 58 = .ok (.lmul, 1) := by decide +kernel
theorem dX7_isSettled_59 : decode cX7_isSettled 59 = .ok (.lcmp, 1) := by decide +kernel
theorem dX7_isSettled_60 : decode cX7_isSettled 60 = .ok (.ifCond .ne 7, 3) := by decide +kernel
theorem dX7_isSettled_63 : decode cX7_isSettled 63 = .ok (.iconst 1, 1) := by decide +kernel
theorem dX7_isSettled_64 : decode cX7_isSettled 64 = .ok (.goto 4, 3) := by decide +kernel
theorem dX7_isSettled_67 : decode cX7_isSettled 67 = .ok (.iconst 0, 1) := by decide +kernel
theorem dX7_isSettled_68 : decode cX7_isSettled 68 = .ok (.ireturn, 1) := by decide +kernel
theorem dX7_settled_0 : decode cX7_settled 0 = .ok (.aload_n 0, 1) := by decide +kernel
theorem dX7_settled_1 : decode cX7_settled 1 = .ok (.iload_n 1, 1) := by decide +kernel
theorem dX7_settled_2 : decode cX7_settled 2 = .ok (.invokevirtual 152, 3) := by decide +kernel
theorem dX7_settled_5 : decode cX7_settled 5 = .ok (.ifCond .eq 6, 3) := by decide +kernel
theorem dX7_settled_8 : decode cX7_settled 8 = .ok (.bipush (-101), 2) := by decide +kernel
theorem dX7_settled_10 : decode cX7_settled 10 = .ok (.ireturn, 1) := by decide +kernel
theorem dX7_settled_11 : decode cX7_settled 11 = .ok (.aload_n 0, 1) := by decide +kernel
theorem dX7_settled_12 : decode cX7_settled 12 = .ok (.aload_n 0, 1) := by decide +kernel
theorem dX7_settled_13 : decode cX7_settled 13 = .ok (.invokevirtual 90, 3) := by decide +kernel
theorem dX7_settled_16 : decode cX7_settled 16 = .ok (.invokevirtual 108, 3) := by decide +kernel
theorem dX7_settled_19 : decode cX7_settled 19 = .ok (.ifCond .ne 8, 3) := by decide +kernel
theorem dX7_settled_22 : decode cX7_settled 22 = .ok (.bipush (-103), 2) := by decide +kernel
theorem dX7_settled_24 : decode cX7_settled 24 = .ok (.goto 16, 3) := by decide +kernel
theorem dX7_settled_27 : decode cX7_settled 27 = .ok (.aload_n 0, 1) := by decide +kernel
theorem dX7_settled_28 : decode cX7_settled 28 = .ok (.iload_n 1, 1) := by decide +kernel
theorem dX7_settled_29 : decode cX7_settled 29 = .ok (.invokevirtual 157, 3) := by decide +kernel
theorem dX7_settled_32 : decode cX7_settled 32 = .ok (.ifCond .eq 7, 3) := by decide +kernel
theorem dX7_settled_35 : decode cX7_settled 35 = .ok (.iconst 1, 1) := by decide +kernel
theorem dX7_settled_36 : decode cX7_settled 36 = .ok (.goto 4, 3) := by decide +kernel
theorem dX7_settled_39 : decode cX7_settled 39 = .ok (.iconst 0, 1) := by decide +kernel
theorem dX7_settled_40 : decode cX7_settled 40 = .ok (.ireturn, 1) := by decide +kernel
theorem dX7_known_0 : decode cX7_known 0 = .ok (.aload_n 0, 1) := by decide +kernel
theorem dX7_known_1 : decode cX7_known 1 = .ok (.iload_n 1, 1) := by decide +kernel
theorem dX7_known_2 : decode cX7_known 2 = .ok (.invokevirtual 152, 3) := by decide +kernel
theorem dX7_known_5 : decode cX7_known 5 = .ok (.ifCond .eq 8, 3) := by decide +kernel
theorem dX7_known_8 : decode cX7_known 8 = .ok (.bipush (-101), 2) := by decide +kernel
theorem dX7_known_10 : decode cX7_known 10 = .ok (.goto 17, 3) := by decide +kernel
theorem dX7_known_13 : decode cX7_known 13 = .ok (.aload_n 0, 1) := by decide +kernel
theorem dX7_known_14 : decode cX7_known 14 = .ok (.iload_n 1, 1) := by decide +kernel
theorem dX7_known_15 : decode cX7_known 15 = .ok (.iconst 0, 1) := by decide +kernel
theorem dX7_known_16 : decode cX7_known 16 = .ok (.invokevirtual 160, 3) := by decide +kernel
theorem dX7_known_19 : decode cX7_known 19 = .ok (.ifCond .eq 7, 3) := by decide +kernel
theorem dX7_known_22 : decode cX7_known 22 = .ok (.iconst 1, 1) := by decide +kernel
theorem dX7_known_23 : decode cX7_known 23 = .ok (.goto 4, 3) := by decide +kernel
theorem dX7_known_26 : decode cX7_known 26 = .ok (.iconst 0, 1) := by decide +kernel
theorem dX7_known_27 : decode cX7_known 27 = .ok (.ireturn, 1) := by decide +kernel
theorem dX7_overLine_0 : decode cX7_overLine 0 = .ok (.iconst 0, 1) := by decide +kernel
theorem dX7_overLine_1 : decode cX7_overLine 1 = .ok (.istore_n 2, 1) := by decide +kernel
theorem dX7_overLine_2 : decode cX7_overLine 2 = .ok (.iconst 0, 1) := by decide +kernel
theorem dX7_overLine_3 : decode cX7_overLine 3 = .ok (.istore_n 3, 1) := by decide +kernel
theorem dX7_overLine_4 : decode cX7_overLine 4 = .ok (.iload_n 3, 1) := by decide +kernel
theorem dX7_overLine_5 : decode cX7_overLine 5 = .ok (.aload_n 0, 1) := by decide +kernel
theorem dX7_overLine_6 : decode cX7_overLine 6 = .ok (.getfield 52, 3) := by decide +kernel
theorem dX7_overLine_9 : decode cX7_overLine 9 = .ok (.if_icmp .ge 42, 3) := by decide +kernel
theorem dX7_overLine_12 : decode cX7_overLine 12 = .ok (.iload_n 2, 1) := by decide +kernel
theorem dX7_overLine_13 : decode cX7_overLine 13 = .ok (.aload_n 0, 1) := by decide +kernel
theorem dX7_overLine_14 : decode cX7_overLine 14 = .ok (.getfield 20, 3) := by decide +kernel
theorem dX7_overLine_17 : decode cX7_overLine 17 = .ok (.iload_n 3, 1) := by decide +kernel
theorem dX7_overLine_18 : decode cX7_overLine 18 = .ok (.baload, 1) := by decide +kernel
theorem dX7_overLine_19 : decode cX7_overLine 19 = .ok (.ifCond .eq 23, 3) := by decide +kernel
theorem dX7_overLine_22 : decode cX7_overLine 22 = .ok (.aload_n 0, 1) := by decide +kernel
theorem dX7_overLine_23 : decode cX7_overLine 23 = .ok (.getfield 13, 3) := by decide +kernel
theorem dX7_overLine_26 : decode cX7_overLine 26 = .ok (.iload_n 3, 1) := by decide +kernel
theorem dX7_overLine_27 : decode cX7_overLine 27 = .ok (.iaload, 1) := by decide +kernel
theorem dX7_overLine_28 : decode cX7_overLine 28 = .ok (.iload_n 1, 1) := by decide +kernel
theorem dX7_overLine_29 : decode cX7_overLine 29 = .ok (.ishr, 1) := by decide +kernel
theorem dX7_overLine_30 : decode cX7_overLine 30 = .ok (.iconst 1, 1) := by decide +kernel
theorem dX7_overLine_31 : decode cX7_overLine 31 = .ok (.iand, 1) := by decide +kernel
theorem dX7_overLine_32 : decode cX7_overLine 32 = .ok (.iconst 1, 1) := by decide +kernel
theorem dX7_overLine_33 : decode cX7_overLine 33 = .ok (.if_icmp .ne 9, 3) := by decide +kernel
theorem dX7_overLine_36 : decode cX7_overLine 36 = .ok (.iconst 1, 1) := by decide +kernel
theorem dX7_overLine_37 : decode cX7_overLine 37 = .ok (.iload_n 3, 1) := by decide +kernel
theorem dX7_overLine_38 : decode cX7_overLine 38 = .ok (.ishl, 1) := by decide +kernel
theorem dX7_overLine_39 : decode cX7_overLine 39 = .ok (.goto 4, 3) := by decide +kernel
theorem dX7_overLine_42 : decode cX7_overLine 42 = .ok (.iconst 0, 1) := by decide +kernel
theorem dX7_overLine_43 : decode cX7_overLine 43 = .ok (.ior, 1) := by decide +kernel
theorem dX7_overLine_44 : decode cX7_overLine 44 = .ok (.istore_n 2, 1) := by decide +kernel
theorem dX7_overLine_45 : decode cX7_overLine 45 = .ok (.iinc 3 1, 3) := by decide +kernel
theorem dX7_overLine_48 : decode cX7_overLine 48 = .ok (.goto (-44), 3) := by decide +kernel
theorem dX7_overLine_51 : decode cX7_overLine 51 = .ok (.iload_n 2, 1) := by decide +kernel
theorem dX7_overLine_52 : decode cX7_overLine 52 = .ok (.ireturn, 1) := by decide +kernel
theorem dX7_groupOf_0 : decode cX7_groupOf 0 = .ok (.iconst 0, 1) := by decide +kernel
theorem dX7_groupOf_1 : decode cX7_groupOf 1 = .ok (.istore_n 2, 1) := by decide +kernel
theorem dX7_groupOf_2 : decode cX7_groupOf 2 = .ok (.iconst 0, 1) := by decide +kernel
theorem dX7_groupOf_3 : decode cX7_groupOf 3 = .ok (.istore_n 3, 1) := by decide +kernel
theorem dX7_groupOf_4 : decode cX7_groupOf 4 = .ok (.iload_n 3, 1) := by decide +kernel
theorem dX7_groupOf_5 : decode cX7_groupOf 5 = .ok (.aload_n 0, 1) := by decide +kernel
theorem dX7_groupOf_6 : decode cX7_groupOf 6 = .ok (.getfield 7, 3) := by decide +kernel
theorem dX7_groupOf_9 : decode cX7_groupOf 9 = .ok (.if_icmp .ge 32, 3) := by decide +kernel
theorem dX7_groupOf_12 : decode cX7_groupOf 12 = .ok (.iload_n 2, 1) := by decide +kernel
theorem dX7_groupOf_13 : decode cX7_groupOf 13 = .ok (.aload_n 0, 1) := by decide +kernel
theorem dX7_groupOf_14 : decode cX7_groupOf 14 = .ok (.iload_n 3, 1) := by decide +kernel
theorem dX7_groupOf_15 : decode cX7_groupOf 15 = .ok (.invokevirtual 163, 3) := by decide +kernel
theorem dX7_groupOf_18 : decode cX7_groupOf 18 = .ok (.aload_n 0, 1) := by decide +kernel
theorem dX7_groupOf_19 : decode cX7_groupOf 19 = .ok (.iload_n 1, 1) := by decide +kernel
theorem dX7_groupOf_20 : decode cX7_groupOf 20 = .ok (.invokevirtual 163, 3) := by decide +kernel
theorem dX7_groupOf_23 : decode cX7_groupOf 23 = .ok (.if_icmp .ne 9, 3) := by decide +kernel
theorem dX7_groupOf_26 : decode cX7_groupOf 26 = .ok (.iconst 1, 1) := by decide +kernel
theorem dX7_groupOf_27 : decode cX7_groupOf 27 = .ok (.iload_n 3, 1) := by decide +kernel
theorem dX7_groupOf_28 : decode cX7_groupOf 28 = .ok (.ishl, 1) := by decide +kernel
theorem dX7_groupOf_29 : decode cX7_groupOf 29 = .ok (.goto 4, 3) := by decide +kernel
theorem dX7_groupOf_32 : decode cX7_groupOf 32 = .ok (.iconst 0, 1) := by decide +kernel
theorem dX7_groupOf_33 : decode cX7_groupOf 33 = .ok (.ior, 1) := by decide +kernel
theorem dX7_groupOf_34 : decode cX7_groupOf 34 = .ok (.istore_n 2, 1) := by decide +kernel
theorem dX7_groupOf_35 : decode cX7_groupOf 35 = .ok (.iinc 3 1, 3) := by decide +kernel
theorem dX7_groupOf_38 : decode cX7_groupOf 38 = .ok (.goto (-34), 3) := by decide +kernel
theorem dX7_groupOf_41 : decode cX7_groupOf 41 = .ok (.iload_n 2, 1) := by decide +kernel
theorem dX7_groupOf_42 : decode cX7_groupOf 42 = .ok (.ireturn, 1) := by decide +kernel
theorem dX7_group_0 : decode cX7_group 0 = .ok (.aload_n 0, 1) := by decide +kernel
theorem dX7_group_1 : decode cX7_group 1 = .ok (.iload_n 1, 1) := by decide +kernel
theorem dX7_group_2 : decode cX7_group 2 = .ok (.invokevirtual 152, 3) := by decide +kernel
theorem dX7_group_5 : decode cX7_group 5 = .ok (.ifCond .eq 8, 3) := by decide +kernel
theorem dX7_group_8 : decode cX7_group 8 = .ok (.bipush (-101), 2) := by decide +kernel
theorem dX7_group_10 : decode cX7_group 10 = .ok (.goto 8, 3) := by decide +kernel
theorem dX7_group_13 : decode cX7_group 13 = .ok (.aload_n 0, 1) := by decide +kernel
theorem dX7_group_14 : decode cX7_group 14 = .ok (.iload_n 1, 1) := by decide +kernel
theorem dX7_group_15 : decode cX7_group 15 = .ok (.invokevirtual 166, 3) := by decide +kernel
theorem dX7_group_18 : decode cX7_group 18 = .ok (.ireturn, 1) := by decide +kernel
theorem dX7_count_0 : decode cX7_count 0 = .ok (.iload_n 1, 1) := by decide +kernel
theorem dX7_count_1 : decode cX7_count 1 = .ok (.i2l, 1) := by decide +kernel
theorem dX7_count_2 : decode cX7_count 2 = .ok (.lconst 0, 1) := by decide +kernel
theorem dX7_count_3 : decode cX7_count 3 = .ok (.ldc2_w 169, 3) := by decide +kernel
theorem dX7_count_6 : decode cX7_count 6 = .ok (.invokestatic 46, 3) := by decide +kernel
theorem dX7_count_9 : decode cX7_count 9 = .ok (.ifCond .ne 6, 3) := by decide +kernel
theorem dX7_count_12 : decode cX7_count 12 = .ok (.bipush (-102), 2) := by decide +kernel
theorem dX7_count_14 : decode cX7_count 14 = .ok (.ireturn, 1) := by decide +kernel
theorem dX7_count_15 : decode cX7_count 15 = .ok (.iload_n 1, 1) := by decide +kernel
theorem dX7_count_16 : decode cX7_count 16 = .ok (.iconst 5, 1) := by decide +kernel
theorem dX7_count_17 : decode cX7_count 17 = .ok (.if_icmp .ne 17, 3) := by decide +kernel
theorem dX7_count_20 : decode cX7_count 20 = .ok (.aload_n 0, 1) := by decide +kernel
theorem dX7_count_21 : decode cX7_count 21 = .ok (.aload_n 0, 1) := by decide +kernel
theorem dX7_count_22 : decode cX7_count 22 = .ok (.invokevirtual 90, 3) := by decide +kernel
theorem dX7_count_25 : decode cX7_count 25 = .ok (.invokevirtual 108, 3) := by decide +kernel
theorem dX7_count_28 : decode cX7_count 28 = .ok (.ifCond .ne 6, 3) := by decide +kernel
theorem dX7_count_31 : decode cX7_count 31 = .ok (.bipush (-103), 2) := by decide +kernel
theorem dX7_count_33 : decode cX7_count 33 = .ok (.ireturn, 1) := by decide +kernel
theorem dX7_count_34 : decode cX7_count 34 = .ok (.iconst 0, 1) := by decide +kernel
theorem dX7_count_35 : decode cX7_count 35 = .ok (.istore_n 2, 1) := by decide +kernel
theorem dX7_count_36 : decode cX7_count 36 = .ok (.iconst 0, 1) := by decide +kernel
theorem dX7_count_37 : decode cX7_count 37 = .ok (.istore_n 3, 1) := by decide +kernel
theorem dX7_count_38 : decode cX7_count 38 = .ok (.iload_n 3, 1) := by decide +kernel
theorem dX7_count_39 : decode cX7_count 39 = .ok (.aload_n 0, 1) := by decide +kernel
theorem dX7_count_40 : decode cX7_count 40 = .ok (.getfield 7, 3) := by decide +kernel
theorem dX7_count_43 : decode cX7_count 43 = .ok (.if_icmp .ge 77, 3) := by decide +kernel
theorem dX7_count_46 : decode cX7_count 46 = .ok (.iload_n 1, 1) := by decide +kernel
theorem dX7_count_47 : decode cX7_count 47 = .ok (.iconst 5, 1) := by decide +kernel
theorem dX7_count_48 : decode cX7_count 48 = .ok (.if_icmp .ne 11, 3) := by decide +kernel
theorem dX7_count_51 : decode cX7_count 51 = .ok (.aload_n 0, 1) := by decide +kernel
theorem dX7_count_52 : decode cX7_count 52 = .ok (.iload_n 3, 1) := by decide +kernel
theorem dX7_count_53 : decode cX7_count 53 = .ok (.invokevirtual 157, 3) := by decide +kernel
theorem dX7_count_56 : decode cX7_count 56 = .ok (.goto 43, 3) := by decide +kernel
theorem dX7_count_59 : decode cX7_count 59 = .ok (.iload_n 1, 1) := by decide +kernel
theorem dX7_count_60 : decode cX7_count 60 = .ok (.bipush 6, 2) := by decide +kernel
theorem dX7_count_62 : decode cX7_count 62 = .ok (.if_icmp .ne 12, 3) := by decide +kernel
theorem dX7_count_65 : decode cX7_count 65 = .ok (.aload_n 0, 1) := by decide +kernel
theorem dX7_count_66 : decode cX7_count 66 = .ok (.iload_n 3, 1) := by decide +kernel
theorem dX7_count_67 : decode cX7_count 67 = .ok (.iconst 0, 1) := by decide +kernel
theorem dX7_count_68 : decode cX7_count 68 = .ok (.invokevirtual 160, 3) := by decide +kernel
theorem dX7_count_71 : decode cX7_count 71 = .ok (.goto 28, 3) := by decide +kernel
theorem dX7_count_74 : decode cX7_count 74 = .ok (.iload_n 1, 1) := by decide +kernel
theorem dX7_count_75 : decode cX7_count 75 = .ok (.bipush 7, 2) := by decide +kernel
theorem dX7_count_77 : decode cX7_count 77 = .ok (.if_icmp .ne 21, 3) := by decide +kernel
theorem dX7_count_80 : decode cX7_count 80 = .ok (.aload_n 0, 1) := by decide +kernel
theorem dX7_count_81 : decode cX7_count 81 = .ok (.iload_n 3, 1) := by decide +kernel
theorem dX7_count_82 : decode cX7_count 82 = .ok (.invokevirtual 166, 3) := by decide +kernel
theorem dX7_count_85 : decode cX7_count 85 = .ok (.iconst 1, 1) := by decide +kernel
theorem dX7_count_86 : decode cX7_count 86 = .ok (.iload_n 3, 1) := by decide +kernel
theorem dX7_count_87 : decode cX7_count 87 = .ok (.ishl, 1) := by decide +kernel
theorem dX7_count_88 : decode cX7_count 88 = .ok (.iconst 1, 1) := by decide +kernel
theorem dX7_count_89 : decode cX7_count 89 = .ok (.isub, 1) := by decide +kernel
theorem dX7_count_90 : decode cX7_count 90 = .ok (.iand, 1) := by decide +kernel
theorem dX7_count_91 : decode cX7_count 91 = .ok (.ifCond .ne 7, 3) := by decide +kernel
theorem dX7_count_94 : decode cX7_count 94 = .ok (.iconst 1, 1) := by decide +kernel
theorem dX7_count_95 : decode cX7_count 95 = .ok (.goto 4, 3) := by decide +kernel
theorem dX7_count_98 : decode cX7_count 98 = .ok (.iconst 0, 1) := by decide +kernel
theorem dX7_count_99 : decode cX7_count 99 = .ok (.istore 4, 2) := by decide +kernel
theorem dX7_count_101 : decode cX7_count 101 = .ok (.iload_n 2, 1) := by decide +kernel
theorem dX7_count_102 : decode cX7_count 102 = .ok (.iload 4, 2) := by decide +kernel
theorem dX7_count_104 : decode cX7_count 104 = .ok (.ifCond .eq 7, 3) := by decide +kernel
theorem dX7_count_107 : decode cX7_count 107 = .ok (.iconst 1, 1) := by decide +kernel
theorem dX7_count_108 : decode cX7_count 108 = .ok (.goto 4, 3) := by decide +kernel
theorem dX7_count_111 : decode cX7_count 111 = .ok (.iconst 0, 1) := by decide +kernel
theorem dX7_count_112 : decode cX7_count 112 = .ok (.iadd, 1) := by decide +kernel
theorem dX7_count_113 : decode cX7_count 113 = .ok (.istore_n 2, 1) := by decide +kernel
theorem dX7_count_114 : decode cX7_count 114 = .ok (.iinc 3 1, 3) := by decide +kernel
theorem dX7_count_117 : decode cX7_count 117 = .ok (.goto (-79), 3) := by decide +kernel
theorem dX7_count_120 : decode cX7_count 120 = .ok (.iload_n 1, 1) := by decide +kernel
theorem dX7_count_121 : decode cX7_count 121 = .ok (.tableswitch 93 0 8 #[51, 56, 61, 69, 80, 93, 93, 93, 88], 51) := by decide +kernel
theorem dX7_count_172 : decode cX7_count 172 = .ok (.aload_n 0, 1) := by decide +kernel
theorem dX7_count_173 : decode cX7_count 173 = .ok (.getfield 7, 3) := by decide +kernel
theorem dX7_count_176 : decode cX7_count 176 = .ok (.ireturn, 1) := by decide +kernel
theorem dX7_count_177 : decode cX7_count 177 = .ok (.aload_n 0, 1) := by decide +kernel
theorem dX7_count_178 : decode cX7_count 178 = .ok (.getfield 52, 3) := by decide +kernel
theorem dX7_count_181 : decode cX7_count 181 = .ok (.ireturn, 1) := by decide +kernel
theorem dX7_count_182 : decode cX7_count 182 = .ok (.aload_n 0, 1) := by decide +kernel
theorem dX7_count_183 : decode cX7_count 183 = .ok (.invokevirtual 90, 3) := by decide +kernel
theorem dX7_count_186 : decode cX7_count 186 = .ok (.invokestatic 98, 3) := by decide +kernel
theorem dX7_count_189 : decode cX7_count 189 = .ok (.ireturn, 1) := by decide +kernel
theorem dX7_count_190 : decode cX7_count 190 = .ok (.aload_n 0, 1) := by decide +kernel
theorem dX7_count_191 : decode cX7_count 191 = .ok (.aload_n 0, 1) := by decide +kernel
theorem dX7_count_192 : decode cX7_count 192 = .ok (.invokevirtual 90, 3) := by decide +kernel
theorem dX7_count_195 : decode cX7_count 195 = .ok (.iconst 0, 1) := by decide +kernel
theorem dX7_count_196 : decode cX7_count 196 = .ok (.iconst (-1), 1) := by decide +kernel
theorem dX7_count_197 : decode cX7_count 197 = .ok (.invokevirtual 94, 3) := by decide +kernel
theorem dX7_count_200 : decode cX7_count 200 = .ok (.ireturn, 1) := by decide +kernel
theorem dX7_count_201 : decode cX7_count 201 = .ok (.aload_n 0, 1) := by decide +kernel
theorem dX7_count_202 : decode cX7_count 202 = .ok (.invokevirtual 123, 3) := by decide +kernel
theorem dX7_count_205 : decode cX7_count 205 = .ok (.invokestatic 98, 3) := by decide +kernel
theorem dX7_count_208 : decode cX7_count 208 = .ok (.ireturn, 1) := by decide +kernel
theorem dX7_count_209 : decode cX7_count 209 = .ok (.aload_n 0, 1) := by decide +kernel
theorem dX7_count_210 : decode cX7_count 210 = .ok (.getfield 55, 3) := by decide +kernel
theorem dX7_count_213 : decode cX7_count 213 = .ok (.ireturn, 1) := by decide +kernel
theorem dX7_count_214 : decode cX7_count 214 = .ok (.iload_n 2, 1) := by decide +kernel
theorem dX7_count_215 : decode cX7_count 215 = .ok (.ireturn, 1) := by decide +kernel
theorem dX7_foundAt_0 : decode cX7_foundAt 0 = .ok (.iload_n 1, 1) := by decide +kernel
theorem dX7_foundAt_1 : decode cX7_foundAt 1 = .ok (.iconst (-1), 1) := by decide +kernel
theorem dX7_foundAt_2 : decode cX7_foundAt 2 = .ok (.if_icmp .ne 10, 3) := by decide +kernel
theorem dX7_foundAt_5 : decode cX7_foundAt 5 = .ok (.aload_n 0, 1) := by decide +kernel
theorem dX7_foundAt_6 : decode cX7_foundAt 6 = .ok (.getfield 171, 3) := by decide +kernel
theorem dX7_foundAt_9 : decode cX7_foundAt 9 = .ok (.goto 30, 3) := by decide +kernel
theorem dX7_foundAt_12 : decode cX7_foundAt 12 = .ok (.iload_n 1, 1) := by decide +kernel
theorem dX7_foundAt_13 : decode cX7_foundAt 13 = .ok (.i2l, 1) := by decide +kernel
theorem dX7_foundAt_14 : decode cX7_foundAt 14 = .ok (.lconst 0, 1) := by decide +kernel
theorem dX7_foundAt_15 : decode cX7_foundAt 15 = .ok (.aload_n 0, 1) := by decide +kernel
theorem dX7_foundAt_16 : decode cX7_foundAt 16 = .ok (.getfield 171, 3) := by decide +kernel
theorem dX7_foundAt_19 : decode cX7_foundAt 19 = .ok (.iconst 1, 1) := by decide +kernel
theorem dX7_foundAt_20 : decode cX7_foundAt 20 = .ok (.isub, 1) := by decide +kernel
theorem dX7_foundAt_21 : decode cX7_foundAt 21 = .ok (.i2l, 1) := by decide +kernel
theorem dX7_foundAt_22 : decode cX7_foundAt 22 = .ok (.invokestatic 46, 3) := by decide +kernel
theorem dX7_foundAt_25 : decode cX7_foundAt 25 = .ok (.ifCond .eq 12, 3) := by decide +kernel
theorem dX7_foundAt_28 : decode cX7_foundAt 28 = .ok (.aload_n 0, 1) := by decide +kernel
theorem dX7_foundAt_29 : decode cX7_foundAt 29 = .ok (.getfield 43, 3) := by decide +kernel
theorem dX7_foundAt_32 : decode cX7_foundAt 32 = .ok (.iload_n 1, 1) := by decide +kernel
theorem dX7_foundAt_33 : decode cX7_foundAt 33 = .ok (.iaload, 1) := by decide +kernel
theorem dX7_foundAt_34 : decode cX7_foundAt 34 = .ok (.goto 5, 3) := by decide +kernel
theorem dX7_foundAt_37 : decode cX7_foundAt 37 = .ok (.bipush (-102), 2) := by decide +kernel
theorem dX7_foundAt_39 : decode cX7_foundAt 39 = .ok (.ireturn, 1) := by decide +kernel
theorem dX7_lying_0 : decode cX7_lying 0 = .ok (.aload_n 0, 1) := by decide +kernel
theorem dX7_lying_1 : decode cX7_lying 1 = .ok (.invokevirtual 90, 3) := by decide +kernel
theorem dX7_lying_4 : decode cX7_lying 4 = .ok (.istore_n 2, 1) := by decide +kernel
theorem dX7_lying_5 : decode cX7_lying 5 = .ok (.aload_n 0, 1) := by decide +kernel
theorem dX7_lying_6 : decode cX7_lying 6 = .ok (.iconst 0, 1) := by decide +kernel
theorem dX7_lying_7 : decode cX7_lying 7 = .ok (.putfield 171, 3) := by decide +kernel
theorem dX7_lying_10 : decode cX7_lying 10 = .ok (.iconst 0, 1) := by decide +kernel
theorem dX7_lying_11 : decode cX7_lying 11 = .ok (.istore_n 3, 1) := by decide +kernel
theorem dX7_lying_12 : decode cX7_lying 12 = .ok (.iload_n 3, 1) := by decide +kernel
theorem dX7_lying_13 : decode cX7_lying 13 = .ok (.bipush 10, 2) := by decide +kernel
theorem dX7_lying_15 : decode cX7_lying 15 = .ok (.if_icmp .gt 88, 3) := by decide +kernel
theorem dX7_lying_18 : decode cX7_lying 18 = .ok (.aload_n 0, 1) := by decide +kernel
theorem dX7_lying_19 : decode cX7_lying 19 = .ok (.getfield 171, 3) := by decide +kernel
theorem dX7_lying_22 : decode cX7_lying 22 = .ok (.ifCond .ne 81, 3) := by decide +kernel
theorem dX7_lying_25 : decode cX7_lying 25 = .ok (.iconst 0, 1) := by decide +kernel
theorem dX7_lying_26 : decode cX7_lying 26 = .ok (.istore 4, 2) := by decide +kernel
theorem dX7_lying_28 : decode cX7_lying 28 = .ok (.iload 4, 2) := by decide +kernel
theorem dX7_lying_30 : decode cX7_lying 30 = .ok (.iconst 1, 1) := by decide +kernel
theorem dX7_lying_31 : decode cX7_lying 31 = .ok (.aload_n 0, 1) := by decide +kernel
theorem dX7_lying_32 : decode cX7_lying 32 = .ok (.getfield 52, 3) := by decide +kernel
theorem dX7_lying_35 : decode cX7_lying 35 = .ok (.ishl, 1) := by decide +kernel
theorem dX7_lying_36 : decode cX7_lying 36 = .ok (.if_icmp .ge 61, 3) := by decide +kernel
theorem dX7_lying_39 : decode cX7_lying 39 = .ok (.iload 4, 2) := by decide +kernel
theorem dX7_lying_41 : decode cX7_lying 41 = .ok (.iload_n 2, 1) := by decide +kernel
theorem dX7_lying_42 : decode cX7_lying 42 = .ok (.iconst (-1), 1) := by decide +kernel
theorem dX7_lying_43 : decode cX7_lying 43 = .ok (.ixor, 1) := by decide +kernel
theorem dX7_lying_44 : decode cX7_lying 44 = .ok (.iand, 1) := by decide +kernel
theorem dX7_lying_45 : decode cX7_lying 45 = .ok (.ifCond .ne 46, 3) := by decide +kernel
theorem dX7_lying_48 : decode cX7_lying 48 = .ok (.iload 4, 2) := by decide +kernel
theorem dX7_lying_50 : decode cX7_lying 50 = .ok (.invokestatic 98, 3) := by decide +kernel
theorem dX7_lying_53 : decode cX7_lying 53 = .ok (.iload_n 3, 1) := by decide +kernel
theorem dX7_lying_54 : decode cX7_lying 54 = .ok (.if_icmp .ne 37, 3) := by decide +kernel
theorem dX7_lying_57 : decode cX7_lying 57 = .ok (.aload_n 0, 1) := by decide +kernel
theorem dX7_lying_58 : decode cX7_lying 58 = .ok (.iload_n 2, 1) := by decide +kernel
theorem dX7_lying_59 : decode cX7_lying 59 = .ok (.iload 4, 2) := by decide +kernel
theorem dX7_lying_61 : decode cX7_lying 61 = .ok (.iconst (-1), 1) := by decide +kernel
theorem dX7_lying_62 : decode cX7_lying 62 = .ok (.ixor, 1) := by decide +kernel
theorem dX7_lying_63 : decode cX7_lying 63 = .ok (.iand, 1) := by decide +kernel
theorem dX7_lying_64 : decode cX7_lying 64 = .ok (.invokevirtual 108, 3) := by decide +kernel
theorem dX7_lying_67 : decode cX7_lying 67 = .ok (.ifCond .eq 24, 3) := by decide +kernel
theorem dX7_lying_70 : decode cX7_lying 70 = .ok (.aload_n 0, 1) := by decide +kernel
theorem dX7_lying_71 : decode cX7_lying 71 = .ok (.getfield 43, 3) := by decide +kernel
theorem dX7_lying_74 : decode cX7_lying 74 = .ok (.aload_n 0, 1) := by decide +kernel
theorem dX7_lying_75 : decode cX7_lying 75 = .ok (.getfield 171, 3) := by decide +kernel
theorem dX7_lying_78 : decode cX7_lying 78 = .ok (.iload 4, 2) := by decide +kernel
theorem dX7_lying_80 : decode cX7_lying 80 = .ok (.iastore, 1) := by decide +kernel
theorem dX7_lying_81 : decode cX7_lying 81 = .ok (.aload_n 0, 1) := by decide +kernel
theorem dX7_lying_82 : decode cX7_lying 82 = .ok (.dup, 1) := by decide +kernel
theorem dX7_lying_83 : decode cX7_lying 83 = .ok (.getfield 171, 3) := by decide +kernel
theorem dX7_lying_86 : decode cX7_lying 86 = .ok (.iconst 1, 1) := by decide +kernel
theorem dX7_lying_87 : decode cX7_lying 87 = .ok (.iadd, 1) := by decide +kernel
theorem dX7_lying_88 : decode cX7_lying 88 = .ok (.putfield 171, 3) := by decide +kernel
theorem dX7_lying_91 : decode cX7_lying 91 = .ok (.iinc 4 1, 3) := by decide +kernel
theorem dX7_lying_94 : decode cX7_lying 94 = .ok (.goto (-66), 3) := by decide +kernel
theorem dX7_lying_97 : decode cX7_lying 97 = .ok (.iinc 3 1, 3) := by decide +kernel
theorem dX7_lying_100 : decode cX7_lying 100 = .ok (.goto (-88), 3) := by decide +kernel
theorem dX7_lying_103 : decode cX7_lying 103 = .ok (.aload_n 0, 1) := by decide +kernel
theorem dX7_lying_104 : decode cX7_lying 104 = .ok (.iload_n 1, 1) := by decide +kernel
theorem dX7_lying_105 : decode cX7_lying 105 = .ok (.invokevirtual 174, 3) := by decide +kernel
theorem dX7_lying_108 : decode cX7_lying 108 = .ok (.ireturn, 1) := by decide +kernel
theorem dX7_offer_0 : decode cX7_offer 0 = .ok (.aload_n 0, 1) := by decide +kernel
theorem dX7_offer_1 : decode cX7_offer 1 = .ok (.iload_n 1, 1) := by decide +kernel
theorem dX7_offer_2 : decode cX7_offer 2 = .ok (.iconst 1, 1) := by decide +kernel
theorem dX7_offer_3 : decode cX7_offer 3 = .ok (.invokevirtual 58, 3) := by decide +kernel
theorem dX7_offer_6 : decode cX7_offer 6 = .ok (.ifCond .eq 6, 3) := by decide +kernel
theorem dX7_offer_9 : decode cX7_offer 9 = .ok (.bipush (-102), 2) := by decide +kernel
theorem dX7_offer_11 : decode cX7_offer 11 = .ok (.ireturn, 1) := by decide +kernel
theorem dX7_offer_12 : decode cX7_offer 12 = .ok (.aload_n 0, 1) := by decide +kernel
theorem dX7_offer_13 : decode cX7_offer 13 = .ok (.getfield 55, 3) := by decide +kernel
theorem dX7_offer_16 : decode cX7_offer 16 = .ok (.bipush 10, 2) := by decide +kernel
theorem dX7_offer_18 : decode cX7_offer 18 = .ok (.if_icmp .ne 6, 3) := by decide +kernel
theorem dX7_offer_21 : decode cX7_offer 21 = .ok (.bipush (-104), 2) := by decide +kernel
theorem dX7_offer_23 : decode cX7_offer 23 = .ok (.ireturn, 1) := by decide +kernel
theorem dX7_offer_24 : decode cX7_offer 24 = .ok (.aload_n 0, 1) := by decide +kernel
theorem dX7_offer_25 : decode cX7_offer 25 = .ok (.getfield 27, 3) := by decide +kernel
theorem dX7_offer_28 : decode cX7_offer 28 = .ok (.aload_n 0, 1) := by decide +kernel
theorem dX7_offer_29 : decode cX7_offer 29 = .ok (.getfield 55, 3) := by decide +kernel
theorem dX7_offer_32 : decode cX7_offer 32 = .ok (.iload_n 1, 1) := by decide +kernel
theorem dX7_offer_33 : decode cX7_offer 33 = .ok (.iastore, 1) := by decide +kernel
theorem dX7_offer_34 : decode cX7_offer 34 = .ok (.aload_n 0, 1) := by decide +kernel
theorem dX7_offer_35 : decode cX7_offer 35 = .ok (.dup, 1) := by decide +kernel
theorem dX7_offer_36 : decode cX7_offer 36 = .ok (.getfield 55, 3) := by decide +kernel
theorem dX7_offer_39 : decode cX7_offer 39 = .ok (.iconst 1, 1) := by decide +kernel
theorem dX7_offer_40 : decode cX7_offer 40 = .ok (.iadd, 1) := by decide +kernel
theorem dX7_offer_41 : decode cX7_offer 41 = .ok (.putfield 55, 3) := by decide +kernel
theorem dX7_offer_44 : decode cX7_offer 44 = .ok (.aload_n 0, 1) := by decide +kernel
theorem dX7_offer_45 : decode cX7_offer 45 = .ok (.getfield 55, 3) := by decide +kernel
theorem dX7_offer_48 : decode cX7_offer 48 = .ok (.iconst 1, 1) := by decide +kernel
theorem dX7_offer_49 : decode cX7_offer 49 = .ok (.isub, 1) := by decide +kernel
theorem dX7_offer_50 : decode cX7_offer 50 = .ok (.ireturn, 1) := by decide +kernel
theorem dX7_offered_0 : decode cX7_offered 0 = .ok (.iload_n 1, 1) := by decide +kernel
theorem dX7_offered_1 : decode cX7_offered 1 = .ok (.i2l, 1) := by decide +kernel
theorem dX7_offered_2 : decode cX7_offered 2 = .ok (.lconst 0, 1) := by decide +kernel
theorem dX7_offered_3 : decode cX7_offered 3 = .ok (.aload_n 0, 1) := by decide +kernel
theorem dX7_offered_4 : decode cX7_offered 4 = .ok (.getfield 55, 3) := by decide +kernel
theorem dX7_offered_7 : decode cX7_offered 7 = .ok (.iconst 1, 1) := by decide +kernel
theorem dX7_offered_8 : decode cX7_offered 8 = .ok (.isub, 1) := by decide +kernel
theorem dX7_offered_9 : decode cX7_offered 9 = .ok (.i2l, 1) := by decide +kernel
theorem dX7_offered_10 : decode cX7_offered 10 = .ok (.invokestatic 46, 3) := by decide +kernel
theorem dX7_offered_13 : decode cX7_offered 13 = .ok (.ifCond .ne 6, 3) := by decide +kernel
theorem dX7_offered_16 : decode cX7_offered 16 = .ok (.bipush (-101), 2) := by decide +kernel
theorem dX7_offered_18 : decode cX7_offered 18 = .ok (.ireturn, 1) := by decide +kernel
theorem dX7_offered_19 : decode cX7_offered 19 = .ok (.aload_n 0, 1) := by decide +kernel
theorem dX7_offered_20 : decode cX7_offered 20 = .ok (.iload_n 2, 1) := by decide +kernel
theorem dX7_offered_21 : decode cX7_offered 21 = .ok (.iconst 1, 1) := by decide +kernel
theorem dX7_offered_22 : decode cX7_offered 22 = .ok (.invokevirtual 58, 3) := by decide +kernel
theorem dX7_offered_25 : decode cX7_offered 25 = .ok (.ifCond .eq 6, 3) := by decide +kernel
theorem dX7_offered_28 : decode cX7_offered 28 = .ok (.bipush (-102), 2) := by decide +kernel
theorem dX7_offered_30 : decode cX7_offered 30 = .ok (.ireturn, 1) := by decide +kernel
theorem dX7_offered_31 : decode cX7_offered 31 = .ok (.aload_n 0, 1) := by decide +kernel
theorem dX7_offered_32 : decode cX7_offered 32 = .ok (.getfield 27, 3) := by decide +kernel
theorem dX7_offered_35 : decode cX7_offered 35 = .ok (.iload_n 1, 1) := by decide +kernel
theorem dX7_offered_36 : decode cX7_offered 36 = .ok (.iaload, 1) := by decide +kernel
theorem dX7_offered_37 : decode cX7_offered 37 = .ok (.istore_n 3, 1) := by decide +kernel
theorem dX7_offered_38 : decode cX7_offered 38 = .ok (.aload_n 0, 1) := by decide +kernel
theorem dX7_offered_39 : decode cX7_offered 39 = .ok (.getfield 27, 3) := by decide +kernel
theorem dX7_offered_42 : decode cX7_offered 42 = .ok (.iload_n 1, 1) := by decide +kernel
theorem dX7_offered_43 : decode cX7_offered 43 = .ok (.iload_n 2, 1) := by decide +kernel
theorem dX7_offered_44 : decode cX7_offered 44 = .ok (.iastore, 1) := by decide +kernel
theorem dX7_offered_45 : decode cX7_offered 45 = .ok (.iload_n 3, 1) := by decide +kernel
theorem dX7_offered_46 : decode cX7_offered 46 = .ok (.ireturn, 1) := by decide +kernel
theorem dX7_advises_0 : decode cX7_advises 0 = .ok (.iconst 1, 1) := by decide +kernel
theorem dX7_advises_1 : decode cX7_advises 1 = .ok (.istore_n 3, 1) := by decide +kernel
theorem dX7_advises_2 : decode cX7_advises 2 = .ok (.iconst 0, 1) := by decide +kernel
theorem dX7_advises_3 : decode cX7_advises 3 = .ok (.istore 4, 2) := by decide +kernel
theorem dX7_advises_5 : decode cX7_advises 5 = .ok (.iload 4, 2) := by decide +kernel
theorem dX7_advises_7 : decode cX7_advises 7 = .ok (.aload_n 0, 1) := by decide +kernel
theorem dX7_advises_8 : decode cX7_advises 8 = .ok (.getfield 7, 3) := by decide +kernel
theorem dX7_advises_11 : decode cX7_advises 11 = .ok (.if_icmp .ge 38, 3) := by decide +kernel
theorem dX7_advises_14 : decode cX7_advises 14 = .ok (.iload_n 3, 1) := by decide +kernel
theorem dX7_advises_15 : decode cX7_advises 15 = .ok (.ifCond .eq 34, 3) := by decide +kernel
theorem dX7_advises_18 : decode cX7_advises 18 = .ok (.iload_n 2, 1) := by decide +kernel
theorem dX7_advises_19 : decode cX7_advises 19 = .ok (.iload 4, 2) := by decide +kernel
theorem dX7_advises_21 : decode cX7_advises 21 = .ok (.ishr, 1) := by decide +kernel
theorem dX7_advises_22 : decode cX7_advises 22 = .ok (.iconst 1, 1) := by decide +kernel
theorem dX7_advises_23 : decode cX7_advises 23 = .ok (.iand, 1) := by decide +kernel
theorem dX7_advises_24 : decode cX7_advises 24 = .ok (.ifCond .eq 13, 3) := by decide +kernel
theorem dX7_advises_27 : decode cX7_advises 27 = .ok (.aload_n 0, 1) := by decide +kernel
theorem dX7_advises_28 : decode cX7_advises 28 = .ok (.iload 4, 2) := by decide +kernel
theorem dX7_advises_30 : decode cX7_advises 30 = .ok (.iload_n 1, 1) := by decide +kernel
theorem dX7_advises_31 : decode cX7_advises 31 = .ok (.invokevirtual 160, 3) := by decide +kernel
theorem dX7_advises_34 : decode cX7_advises 34 = .ok (.ifCond .eq 7, 3) := by decide +kernel
theorem dX7_advises_37 : decode cX7_advises 37 = .ok (.iconst 1, 1) := by decide +kernel
theorem dX7_advises_38 : decode cX7_advises 38 = .ok (.goto 4, 3) := by decide +kernel
theorem dX7_advises_41 : decode cX7_advises 41 = .ok (.iconst 0, 1) := by decide +kernel
theorem dX7_advises_42 : decode cX7_advises 42 = .ok (.istore_n 3, 1) := by decide +kernel
theorem dX7_advises_43 : decode cX7_advises 43 = .ok (.iinc 4 1, 3) := by decide +kernel
theorem dX7_advises_46 : decode cX7_advises 46 = .ok (.goto (-41), 3) := by decide +kernel
theorem dX7_advises_49 : decode cX7_advises 49 = .ok (.iload_n 3, 1) := by decide +kernel
theorem dX7_advises_50 : decode cX7_advises 50 = .ok (.ireturn, 1) := by decide +kernel
theorem dX7_advice_0 : decode cX7_advice 0 = .ok (.aload_n 0, 1) := by decide +kernel
theorem dX7_advice_1 : decode cX7_advice 1 = .ok (.iload_n 1, 1) := by decide +kernel
theorem dX7_advice_2 : decode cX7_advice 2 = .ok (.iconst 0, 1) := by decide +kernel
theorem dX7_advice_3 : decode cX7_advice 3 = .ok (.invokevirtual 58, 3) := by decide +kernel
theorem dX7_advice_6 : decode cX7_advice 6 = .ok (.ifCond .eq 6, 3) := by decide +kernel
theorem dX7_advice_9 : decode cX7_advice 9 = .ok (.bipush (-102), 2) := by decide +kernel
theorem dX7_advice_11 : decode cX7_advice 11 = .ok (.ireturn, 1) := by decide +kernel
theorem dX7_advice_12 : decode cX7_advice 12 = .ok (.iconst 0, 1) := by decide +kernel
theorem dX7_advice_13 : decode cX7_advice 13 = .ok (.istore_n 2, 1) := by decide +kernel
theorem dX7_advice_14 : decode cX7_advice 14 = .ok (.iload_n 2, 1) := by decide +kernel
theorem dX7_advice_15 : decode cX7_advice 15 = .ok (.aload_n 0, 1) := by decide +kernel
theorem dX7_advice_16 : decode cX7_advice 16 = .ok (.getfield 55, 3) := by decide +kernel
theorem dX7_advice_19 : decode cX7_advice 19 = .ok (.if_icmp .gt 46, 3) := by decide +kernel
theorem dX7_advice_22 : decode cX7_advice 22 = .ok (.iconst 0, 1) := by decide +kernel
theorem dX7_advice_23 : decode cX7_advice 23 = .ok (.istore_n 3, 1) := by decide +kernel
theorem dX7_advice_24 : decode cX7_advice 24 = .ok (.iload_n 3, 1) := by decide +kernel
theorem dX7_advice_25 : decode cX7_advice 25 = .ok (.iconst 1, 1) := by decide +kernel
theorem dX7_advice_26 : decode cX7_advice 26 = .ok (.aload_n 0, 1) := by decide +kernel
theorem dX7_advice_27 : decode cX7_advice 27 = .ok (.getfield 55, 3) := by decide +kernel
theorem dX7_advice_30 : decode cX7_advice 30 = .ok (.ishl, 1) := by decide +kernel
theorem dX7_advice_31 : decode cX7_advice 31 = .ok (.if_icmp .ge 28, 3) := by decide +kernel
theorem dX7_advice_34 : decode cX7_advice 34 = .ok (.iload_n 3, 1) := by decide +kernel
theorem dX7_advice_35 : decode cX7_advice 35 = .ok (.invokestatic 98, 3) := by decide +kernel
theorem dX7_advice_38 : decode cX7_advice 38 = .ok (.iload_n 2, 1) := by decide +kernel
theorem dX7_advice_39 : decode cX7_advice 39 = .ok (.if_icmp .ne 14, 3) := by decide +kernel
theorem dX7_advice_42 : decode cX7_advice 42 = .ok (.aload_n 0, 1) := by decide +kernel
theorem dX7_advice_43 : decode cX7_advice 43 = .ok (.iload_n 3, 1) := by decide +kernel
theorem dX7_advice_44 : decode cX7_advice 44 = .ok (.iload_n 1, 1) := by decide +kernel
theorem dX7_advice_45 : decode cX7_advice 45 = .ok (.invokevirtual 177, 3) := by decide +kernel
theorem dX7_advice_48 : decode cX7_advice 48 = .ok (.ifCond .eq 5, 3) := by decide +kernel
theorem dX7_advice_51 : decode cX7_advice 51 = .ok (.iload_n 3, 1) := by decide +kernel
theorem dX7_advice_52 : decode cX7_advice 52 = .ok (.ireturn, 1) := by decide +kernel
theorem dX7_advice_53 : decode cX7_advice 53 = .ok (.iinc 3 1, 3) := by decide +kernel
theorem dX7_advice_56 : decode cX7_advice 56 = .ok (.goto (-32), 3) := by decide +kernel
theorem dX7_advice_59 : decode cX7_advice 59 = .ok (.iinc 2 1, 3) := by decide +kernel
theorem dX7_advice_62 : decode cX7_advice 62 = .ok (.goto (-48), 3) := by decide +kernel
theorem dX7_advice_65 : decode cX7_advice 65 = .ok (.iconst (-1), 1) := by decide +kernel
theorem dX7_advice_66 : decode cX7_advice 66 = .ok (.ireturn, 1) := by decide +kernel
theorem dX7_explains_0 : decode cX7_explains 0 = .ok (.iconst 1, 1) := by decide +kernel
theorem dX7_explains_1 : decode cX7_explains 1 = .ok (.istore_n 2, 1) := by decide +kernel
theorem dX7_explains_2 : decode cX7_explains 2 = .ok (.iconst 0, 1) := by decide +kernel
theorem dX7_explains_3 : decode cX7_explains 3 = .ok (.istore_n 3, 1) := by decide +kernel
theorem dX7_explains_4 : decode cX7_explains 4 = .ok (.iload_n 3, 1) := by decide +kernel
theorem dX7_explains_5 : decode cX7_explains 5 = .ok (.aload_n 0, 1) := by decide +kernel
theorem dX7_explains_6 : decode cX7_explains 6 = .ok (.getfield 52, 3) := by decide +kernel
theorem dX7_explains_9 : decode cX7_explains 9 = .ok (.if_icmp .ge 53, 3) := by decide +kernel
theorem dX7_explains_12 : decode cX7_explains 12 = .ok (.iload_n 2, 1) := by decide +kernel
theorem dX7_explains_13 : decode cX7_explains 13 = .ok (.ifCond .eq 41, 3) := by decide +kernel
theorem dX7_explains_16 : decode cX7_explains 16 = .ok (.aload_n 0, 1) := by decide +kernel
theorem dX7_explains_17 : decode cX7_explains 17 = .ok (.getfield 20, 3) := by decide +kernel
theorem dX7_explains_20 : decode cX7_explains 20 = .ok (.iload_n 3, 1) := by decide +kernel
theorem dX7_explains_21 : decode cX7_explains 21 = .ok (.baload, 1) := by decide +kernel
theorem dX7_explains_22 : decode cX7_explains 22 = .ok (.ifCond .eq 28, 3) := by decide +kernel
theorem dX7_explains_25 : decode cX7_explains 25 = .ok (.aload_n 0, 1) := by decide +kernel
theorem dX7_explains_26 : decode cX7_explains 26 = .ok (.getfield 24, 3) := by decide +kernel
theorem dX7_explains_29 : decode cX7_explains 29 = .ok (.iload_n 3, 1) := by decide +kernel
theorem dX7_explains_30 : decode cX7_explains 30 = .ok (.baload, 1) := by decide +kernel
theorem dX7_explains_31 : decode cX7_explains 31 = .ok (.aload_n 0, 1) := by decide +kernel
theorem dX7_explains_32 : decode cX7_explains 32 = .ok (.getfield 13, 3) := by decide +kernel
theorem dX7_explains_35 : decode cX7_explains 35 = .ok (.iload_n 3, 1) := by decide +kernel
theorem dX7_explains_36 : decode cX7_explains 36 = .ok (.iaload, 1) := by decide +kernel
theorem dX7_explains_37 : decode cX7_explains 37 = .ok (.iload_n 1, 1) := by decide +kernel
theorem dX7_explains_38 : decode cX7_explains 38 = .ok (.iand, 1) := by decide +kernel
theorem dX7_explains_39 : decode cX7_explains 39 = .ok (.ifCond .eq 7, 3) := by decide +kernel
theorem dX7_explains_42 : decode cX7_explains 42 = .ok (.iconst 1, 1) := by decide +kernel
theorem dX7_explains_43 : decode cX7_explains 43 = .ok (.goto 4, 3) := by decide +kernel
theorem dX7_explains_46 : decode cX7_explains 46 = .ok (.iconst 0, 1) := by decide +kernel
theorem dX7_explains_47 : decode cX7_explains 47 = .ok (.if_icmp .ne 7, 3) := by decide +kernel
theorem dX7_explains_50 : decode cX7_explains 50 = .ok (.iconst 1, 1) := by decide +kernel
theorem dX7_explains_51 : decode cX7_explains 51 = .ok (.goto 4, 3) := by decide +kernel
theorem dX7_explains_54 : decode cX7_explains 54 = .ok (.iconst 0, 1) := by decide +kernel
theorem dX7_explains_55 : decode cX7_explains 55 = .ok (.istore_n 2, 1) := by decide +kernel
theorem dX7_explains_56 : decode cX7_explains 56 = .ok (.iinc 3 1, 3) := by decide +kernel
theorem dX7_explains_59 : decode cX7_explains 59 = .ok (.goto (-55), 3) := by decide +kernel
theorem dX7_explains_62 : decode cX7_explains 62 = .ok (.iload_n 2, 1) := by decide +kernel
theorem dX7_explains_63 : decode cX7_explains 63 = .ok (.ireturn, 1) := by decide +kernel
theorem dX7_sick_0 : decode cX7_sick 0 = .ok (.aload_n 0, 1) := by decide +kernel
theorem dX7_sick_1 : decode cX7_sick 1 = .ok (.iconst 0, 1) := by decide +kernel
theorem dX7_sick_2 : decode cX7_sick 2 = .ok (.putfield 171, 3) := by decide +kernel
theorem dX7_sick_5 : decode cX7_sick 5 = .ok (.iconst 0, 1) := by decide +kernel
theorem dX7_sick_6 : decode cX7_sick 6 = .ok (.istore_n 2, 1) := by decide +kernel
theorem dX7_sick_7 : decode cX7_sick 7 = .ok (.iload_n 2, 1) := by decide +kernel
theorem dX7_sick_8 : decode cX7_sick 8 = .ok (.aload_n 0, 1) := by decide +kernel
theorem dX7_sick_9 : decode cX7_sick 9 = .ok (.getfield 7, 3) := by decide +kernel
theorem dX7_sick_12 : decode cX7_sick 12 = .ok (.if_icmp .gt 70, 3) := by decide +kernel
theorem dX7_sick_15 : decode cX7_sick 15 = .ok (.aload_n 0, 1) := by decide +kernel
theorem dX7_sick_16 : decode cX7_sick 16 = .ok (.getfield 171, 3) := by decide +kernel
theorem dX7_sick_19 : decode cX7_sick 19 = .ok (.ifCond .ne 63, 3) := by decide +kernel
theorem dX7_sick_22 : decode cX7_sick 22 = .ok (.iconst 0, 1) := by decide +kernel
theorem dX7_sick_23 : decode cX7_sick 23 = .ok (.istore_n 3, 1) := by decide +kernel
theorem dX7_sick_24 : decode cX7_sick 24 = .ok (.iload_n 3, 1) := by decide +kernel
theorem dX7_sick_25 : decode cX7_sick 25 = .ok (.iconst 1, 1) := by decide +kernel
theorem dX7_sick_26 : decode cX7_sick 26 = .ok (.aload_n 0, 1) := by decide +kernel
theorem dX7_sick_27 : decode cX7_sick 27 = .ok (.getfield 7, 3) := by decide +kernel
theorem dX7_sick_30 : decode cX7_sick 30 = .ok (.ishl, 1) := by decide +kernel
theorem dX7_sick_31 : decode cX7_sick 31 = .ok (.if_icmp .ge 45, 3) := by decide +kernel
theorem dX7_sick_34 : decode cX7_sick 34 = .ok (.iload_n 3, 1) := by decide +kernel
theorem dX7_sick_35 : decode cX7_sick 35 = .ok (.invokestatic 98, 3) := by decide +kernel
theorem dX7_sick_38 : decode cX7_sick 38 = .ok (.iload_n 2, 1) := by decide +kernel
theorem dX7_sick_39 : decode cX7_sick 39 = .ok (.if_icmp .ne 31, 3) := by decide +kernel
theorem dX7_sick_42 : decode cX7_sick 42 = .ok (.aload_n 0, 1) := by decide +kernel
theorem dX7_sick_43 : decode cX7_sick 43 = .ok (.iload_n 3, 1) := by decide +kernel
theorem dX7_sick_44 : decode cX7_sick 44 = .ok (.invokevirtual 180, 3) := by decide +kernel
theorem dX7_sick_47 : decode cX7_sick 47 = .ok (.ifCond .eq 23, 3) := by decide +kernel
theorem dX7_sick_50 : decode cX7_sick 50 = .ok (.aload_n 0, 1) := by decide +kernel
theorem dX7_sick_51 : decode cX7_sick 51 = .ok (.getfield 43, 3) := by decide +kernel
theorem dX7_sick_54 : decode cX7_sick 54 = .ok (.aload_n 0, 1) := by decide +kernel
theorem dX7_sick_55 : decode cX7_sick 55 = .ok (.getfield 171, 3) := by decide +kernel
theorem dX7_sick_58 : decode cX7_sick 58 = .ok (.iload_n 3, 1) := by decide +kernel
theorem dX7_sick_59 : decode cX7_sick 59 = .ok (.iastore, 1) := by decide +kernel
theorem dX7_sick_60 : decode cX7_sick 60 = .ok (.aload_n 0, 1) := by decide +kernel
theorem dX7_sick_61 : decode cX7_sick 61 = .ok (.dup, 1) := by decide +kernel
theorem dX7_sick_62 : decode cX7_sick 62 = .ok (.getfield 171, 3) := by decide +kernel
theorem dX7_sick_65 : decode cX7_sick 65 = .ok (.iconst 1, 1) := by decide +kernel
theorem dX7_sick_66 : decode cX7_sick 66 = .ok (.iadd, 1) := by decide +kernel
theorem dX7_sick_67 : decode cX7_sick 67 = .ok (.putfield 171, 3) := by decide +kernel
theorem dX7_sick_70 : decode cX7_sick 70 = .ok (.iinc 3 1, 3) := by decide +kernel
theorem dX7_sick_73 : decode cX7_sick 73 = .ok (.goto (-49), 3) := by decide +kernel
theorem dX7_sick_76 : decode cX7_sick 76 = .ok (.iinc 2 1, 3) := by decide +kernel
theorem dX7_sick_79 : decode cX7_sick 79 = .ok (.goto (-72), 3) := by decide +kernel
theorem dX7_sick_82 : decode cX7_sick 82 = .ok (.aload_n 0, 1) := by decide +kernel
theorem dX7_sick_83 : decode cX7_sick 83 = .ok (.iload_n 1, 1) := by decide +kernel
theorem dX7_sick_84 : decode cX7_sick 84 = .ok (.invokevirtual 174, 3) := by decide +kernel
theorem dX7_sick_87 : decode cX7_sick 87 = .ok (.ireturn, 1) := by decide +kernel
theorem dX7_pair_0 : decode cX7_pair 0 = .ok (.iload_n 1, 1) := by decide +kernel
theorem dX7_pair_1 : decode cX7_pair 1 = .ok (.i2l, 1) := by decide +kernel
theorem dX7_pair_2 : decode cX7_pair 2 = .ok (.lconst 0, 1) := by decide +kernel
theorem dX7_pair_3 : decode cX7_pair 3 = .ok (.ldc2_w 183, 3) := by decide +kernel
theorem dX7_pair_6 : decode cX7_pair 6 = .ok (.invokestatic 46, 3) := by decide +kernel
theorem dX7_pair_9 : decode cX7_pair 9 = .ok (.ifCond .eq 47, 3) := by decide +kernel
theorem dX7_pair_12 : decode cX7_pair 12 = .ok (.iload_n 2, 1) := by decide +kernel
theorem dX7_pair_13 : decode cX7_pair 13 = .ok (.i2l, 1) := by decide +kernel
theorem dX7_pair_14 : decode cX7_pair 14 = .ok (.lconst 0, 1) := by decide +kernel
theorem dX7_pair_15 : decode cX7_pair 15 = .ok (.iload_n 1, 1) := by decide +kernel
theorem dX7_pair_16 : decode cX7_pair 16 = .ok (.i2l, 1) := by decide +kernel
theorem dX7_pair_17 : decode cX7_pair 17 = .ok (.invokestatic 46, 3) := by decide +kernel
theorem dX7_pair_20 : decode cX7_pair 20 = .ok (.ifCond .eq 36, 3) := by decide +kernel
theorem dX7_pair_23 : decode cX7_pair 23 = .ok (.iload_n 3, 1) := by decide +kernel
theorem dX7_pair_24 : decode cX7_pair 24 = .ok (.i2l, 1) := by decide +kernel
theorem dX7_pair_25 : decode cX7_pair 25 = .ok (.lconst 0, 1) := by decide +kernel
theorem dX7_pair_26 : decode cX7_pair 26 = .ok (.iload_n 1, 1) := by decide +kernel
theorem dX7_pair_27 : decode cX7_pair 27 = .ok (.i2l, 1) := by decide +kernel
theorem dX7_pair_28 : decode cX7_pair 28 = .ok (.invokestatic 46, 3) := by decide +kernel
theorem dX7_pair_31 : decode cX7_pair 31 = .ok (.ifCond .eq 25, 3) := by decide +kernel
theorem dX7_pair_34 : decode cX7_pair 34 = .ok (.iload 4, 2) := by decide +kernel
theorem dX7_pair_36 : decode cX7_pair 36 = .ok (.i2l, 1) := by decide +kernel
theorem dX7_pair_37 : decode cX7_pair 37 = .ok (.lconst 0, 1) := by decide +kernel
theorem dX7_pair_38 : decode cX7_pair 38 = .ok (.iload_n 2, 1) := by decide +kernel
theorem dX7_pair_39 : decode cX7_pair 39 = .ok (.i2l, 1) := by decide +kernel
theorem dX7_pair_40 : decode cX7_pair 40 = .ok (.invokestatic 46, 3) := by decide +kernel
theorem dX7_pair_43 : decode cX7_pair 43 = .ok (.ifCond .eq 13, 3) := by decide +kernel
theorem dX7_pair_46 : decode cX7_pair 46 = .ok (.iload 4, 2) := by decide +kernel
theorem dX7_pair_48 : decode cX7_pair 48 = .ok (.iload_n 3, 1) := by decide +kernel
theorem dX7_pair_49 : decode cX7_pair 49 = .ok (.if_icmp .gt 7, 3) := by decide +kernel
theorem dX7_pair_52 : decode cX7_pair 52 = .ok (.iconst 1, 1) := by decide +kernel
theorem dX7_pair_53 : decode cX7_pair 53 = .ok (.goto 4, 3) := by decide +kernel
theorem dX7_pair_56 : decode cX7_pair 56 = .ok (.iconst 0, 1) := by decide +kernel
theorem dX7_pair_57 : decode cX7_pair 57 = .ok (.istore 7, 2) := by decide +kernel
theorem dX7_pair_59 : decode cX7_pair 59 = .ok (.iload 7, 2) := by decide +kernel
theorem dX7_pair_61 : decode cX7_pair 61 = .ok (.ifCond .eq 27, 3) := by decide +kernel
theorem dX7_pair_64 : decode cX7_pair 64 = .ok (.iload 5, 2) := by decide +kernel
theorem dX7_pair_66 : decode cX7_pair 66 = .ok (.i2l, 1) := by decide +kernel
theorem dX7_pair_67 : decode cX7_pair 67 = .ok (.lconst 0, 1) := by decide +kernel
theorem dX7_pair_68 : decode cX7_pair 68 = .ok (.ldc2_w 185, 3) := by decide +kernel
theorem dX7_pair_71 : decode cX7_pair 71 = .ok (.invokestatic 46, 3) := by decide +kernel
theorem dX7_pair_74 : decode cX7_pair 74 = .ok (.ifCond .eq 14, 3) := by decide +kernel
theorem dX7_pair_77 : decode cX7_pair 77 = .ok (.iload 6, 2) := by decide +kernel
theorem dX7_pair_79 : decode cX7_pair 79 = .ok (.i2l, 1) := by decide +kernel
theorem dX7_pair_80 : decode cX7_pair 80 = .ok (.lconst 0, 1) := by decide +kernel
theorem dX7_pair_81 : decode cX7_pair 81 = .ok (.lconst 1, 1) := by decide +kernel
theorem dX7_pair_82 : decode cX7_pair 82 = .ok (.invokestatic 46, 3) := by decide +kernel
theorem dX7_pair_85 : decode cX7_pair 85 = .ok (.ifCond .ne 7, 3) := by decide +kernel
theorem dX7_pair_88 : decode cX7_pair 88 = .ok (.ldc2_w 136, 3) := by decide +kernel
theorem dX7_pair_91 : decode cX7_pair 91 = .ok (.lreturn, 1) := by decide +kernel
theorem dX7_pair_92 : decode cX7_pair 92 = .ok (.iload 4, 2) := by decide +kernel
theorem dX7_pair_94 : decode cX7_pair 94 = .ok (.ifCond .ne 7, 3) := by decide +kernel
theorem dX7_pair_97 : decode cX7_pair 97 = .ok (.ldc2_w 138, 3) := by decide +kernel
theorem dX7_pair_100 : decode cX7_pair 100 = .ok (.lreturn, 1) := by decide +kernel
theorem dX7_pair_101 : decode cX7_pair 101 = .ok (.iload 5, 2) := by decide +kernel
theorem dX7_pair_103 : decode cX7_pair 103 = .ok (.ifCond .ne 22, 3) := by decide +kernel
theorem dX7_pair_106 : decode cX7_pair 106 = .ok (.iload_n 2, 1) := by decide +kernel
theorem dX7_pair_107 : decode cX7_pair 107 = .ok (.i2l, 1) := by decide +kernel
theorem dX7_pair_108 : decode cX7_pair 108 = .ok (.iload_n 3, 1) := by decide +kernel
theorem dX7_pair_109 : decode cX7_pair 109 = .ok (.i2l, 1) := by decide +kernel
theorem dX7_pair_110 : decode cX7_pair 110 = .ok (.lmul, 1) := by decide +kernel
theorem dX7_pair_111 : decode cX7_pair 111 = .ok (.iload_n 1, 1) := by decide +kernel
theorem dX7_pair_112 : decode cX7_pair 112 = .ok (.i2l, 1) := by decide +kernel
theorem dX7_pair_113 : decode cX7_pair 113 = .ok (.iload 4, 2) := by decide +kernel
theorem dX7_pair_115 : decode cX7_pair 115 = .ok (.i2l, 1) := by decide +kernel
theorem dX7_pair_116 : decode cX7_pair 116 = .ok (.lmul, 1) := by decide +kernel
theorem dX7_pair_117 : decode cX7_pair 117 = .ok (.iload 6, 2) := by decide +kernel
theorem dX7_pair_119 : decode cX7_pair 119 = .ok (.invokestatic 148, 3) := by decide +kernel
theorem dX7_pair_122 : decode cX7_pair 122 = .ok (.goto 24, 3) := by decide +kernel
theorem dX7_pair_125 : decode cX7_pair 125 = .ok (.iload 4, 2) := by decide +kernel
theorem dX7_pair_127 : decode cX7_pair 127 = .ok (.i2l, 1) := by decide +kernel
theorem dX7_pair_128 : decode cX7_pair 128 = .ok (.iload 5, 2) := by decide +kernel
theorem dX7_pair_130 : decode cX7_pair 130 = .ok (.iconst 1, 1) := by decide +kernel
theorem dX7_pair_131 : decode cX7_pair 131 = .ok (.if_icmp .ne 8, 3) := by decide +kernel
theorem dX7_pair_134 : decode cX7_pair 134 = .ok (.iload_n 3, 1) := by decide +kernel
theorem dX7_pair_135 : decode cX7_pair 135 = .ok (.i2l, 1) := by decide +kernel
theorem dX7_pair_136 : decode cX7_pair 136 = .ok (.goto 5, 3) := by decide +kernel
theorem dX7_pair_139 : decode cX7_pair 139 = .ok (.iload_n 2, 1) := by decide +kernel
theorem dX7_pair_140 : decode cX7_pair 140 = .ok (.i2l, 1) := by decide +kernel
theorem dX7_pair_141 : decode cX7_pair 141 = .ok (.iload 6, 2) := by decide +kernel
theorem dX7_pair_143 : decode cX7_pair 143 = .ok (.invokestatic 148, 3) := by decide +kernel
theorem dX7_pair_146 : decode cX7_pair 146 = .ok (.lreturn, 1) := by decide +kernel
end
section
/-! ===== the base layer: world, locals and stack as indices of one judgement; a row an instruction ===== -/
abbrev St : Type := (Nat → Int32) × (Nat → Int64) × (Nat → Nat → Int32) × (Nat → Nat → Int64)
def gI (σ : St) (k : Nat) : Int32 := σ.1 k
def gL (σ : St) (k : Nat) : Int64 := σ.2.1 k
def gA (σ : St) (k : Nat) : Nat → Int32 := σ.2.2.1 k
def gB (σ : St) (k : Nat) : Nat → Int64 := σ.2.2.2 k
def sI (σ : St) (k : Nat) (v : Int32) : St := (upd σ.1 k v, σ.2)
def sL (σ : St) (k : Nat) (v : Int64) : St := (σ.1, vp_updL σ.2.1 k v, σ.2.2)
def sA (σ : St) (k i : Nat) (v : Int32) : St := (σ.1, σ.2.1, (fun j => if j = k then upd (σ.2.2.1 k) i v else σ.2.2.1 j), σ.2.2.2)
def sB (σ : St) (k i : Nat) (v : Int64) : St := (σ.1, σ.2.1, σ.2.2.1, fun j => if j = k then vp_updL (σ.2.2.2 k) i v else σ.2.2.2 j)
def bz (r : Int32) : Prop := r = 0 ∨ r = 1
theorem bz_narrow {r : Int32} (h : bz r) : narrow .boolean (.int r) = .int r := by rcases h with rfl | rfl <;> rfl
theorem bz_fits {r : Int32} (h : bz r) : fits .boolean (.int r) = true := by rcases h with rfl | rfl <;> decide
theorem bz_nar {r : Int32} (h : bz r) : vp_nar .boolean r = r := by rcases h with rfl | rfl <;> rfl
theorem bz_0 : bz 0 := Or.inl rfl
theorem bz_1 : bz 1 := Or.inr rfl
/-- the nest mates' words, by which private methods are called from another class -/
def NstL : List (String × Nat × MethodName) := [(RX6, 9, yX2_init), (RX6, 18, yX0_init), (RX6, 25, yX1_init), (RX1, 9, yX3_init), (RX6, 32, yX5_init), (RX6, 39, yX4_init), (RX4, 11, yX3_init), (RX2, 41, yX6_withBit), (RX2, 45, yX6_bitOf), (RX5, 86, yX6_bitOf), (RX0, 77, yX6_bitOf), (RX1, 73, yX6_withBit), (RX4, 55, yX6_bitOf)]
def Nst (U : State) : Prop := ∀ q ∈ NstL, va_Nw (.methodLinkNest q.1 q.2.1 q.2.2 "EndMeters") U
theorem Nst.warm {s U : State} (hW : s.WarmedH U.vm) (h : Nst s) : Nst U := fun q hq => va_Nw.warmM hW (h q hq)
theorem Nst.call {U : State} {g : JFrame} {mk : MethodId} {a : Array Value} (h : Nst U) : Nst (U.calling g mk a) := fun q hq => va_Nw.same rfl (u := U) rfl (h q hq)
/-- the addresses of a world of n cells -/
def Ad (n : Nat) (ad : Nat → Nat) : Nat → Prop := fun q => ∃ i, i < n ∧ ad i = q
abbrev tyL (tI tJ tZ : ClassId) : List (ClassId × FieldType) := [(tI, .int), (tJ, .long), (tZ, .boolean)]
def Cx (p : Program) (s : State) (m : MethodId) (args : Array Value) (meth : Method) (c : Code) (cc : ByteArray) (nL : Nat) (own : String) (ws : List Cond) (G : va_G) (tys : List (ClassId × FieldType)) (wd : St → va_W) (A : Nat → Prop) : Prop :=
  p.tables.exec = Jvm.exec ∧ c.code = cc ∧ c.maxLocals = nL ∧ s.vm.findClass own = some m.cls ∧ (∀ w ∈ ws, w.before args s = true) ∧ meth.locks = false ∧ va_K G vwCl tys s ∧ Nst s ∧ (∀ σ, va_D A (wd σ))
def wm (p : Program) (l : Launch) (e : Env) (R : Room) (s : State) (m : MethodId) (args : Array Value) (below : List Frame) (meth : Method) (c : Code) (G : va_G) (wd : St → va_W) (A : Nat → Prop) (nL : Nat) (Q : State → Prop) (σ : St) (lv : List (Nat × Value)) (pc : Nat) (st : List Value) : Prop :=
  ∀ (H : Heap) (locs : List Loc) (ls : Array Slot), va_P G vwCl (wd σ) H → va_S A s.heap H locs → lv_has ls nL lv → W p l e R s m args below meth c H locs 0 0 Q (F0 m pc ls st)
abbrev Pre (G : va_G) (tys : List (ClassId × FieldType)) (wd : St → va_W) (σ : St) (av : List Value) : Array Value → State → Prop := va_Pc av (fun U => va_P G vwCl (wd σ) U.heap ∧ va_K G vwCl tys U ∧ Nst U)
abbrev Qi (G : va_G) (wd : St → va_W) (A : Nat → Prop) (post : Int32 → St → Prop) : Array Value → State → Outcome → State → Prop := va_Qi post (fun σ' t => va_P G vwCl (wd σ') t.heap) A
abbrev Ql (G : va_G) (wd : St → va_W) (A : Nat → Prop) (post : Int64 → St → Prop) : Array Value → State → Outcome → State → Prop := va_Ql post (fun σ' t => va_P G vwCl (wd σ') t.heap) A
abbrev Qv (G : va_G) (wd : St → va_W) (A : Nat → Prop) (post : St → Prop) : Array Value → State → Outcome → State → Prop := va_Qv post (fun σ' t => va_P G vwCl (wd σ') t.heap) A
abbrev Qr (G : va_G) (wd : St → va_W) (A : Nat → Prop) (a0 : Nat) (post : St → Prop) : Array Value → State → Outcome → State → Prop := va_Qr post (fun σ' a t => a = a0 ∧ va_P G vwCl (wd σ') t.heap) A
abbrev Ct (l : Launch) (y : MethodName) (wy : List Cond) (rm : Room) (G : va_G) (tys : List (ClassId × FieldType)) (wd : St → va_W) (A : Nat → Prop) (av : List Value) (σ : St) (Qc : Array Value → State → Outcome → State → Prop) : Prop := Met l y wy rm (Pre G tys wd σ av) Qc 0 0 A
theorem Pre.blind {G : va_G} {tys : List (ClassId × FieldType)} {wd : St → va_W} {σ : St} {av : List Value} : FrameBlind (Pre G tys wd σ av) := fun a U g mk q => by
  obtain ⟨q0, qP, qK, qN⟩ := q
  exact ⟨q0, qP, va_K.moved (u := U) (U := U.calling g mk a) (Vm.Alike.refl U.vm) qK, qN.call⟩
section BASE
variable {p : Program} {l : Launch} {e : Env} {R : Room} {s : State} {m : MethodId} {args : Array Value} {below : List Frame} {meth : Method} {c : Code} {G : va_G} {wd : St → va_W} {A : Nat → Prop} {nL : Nat} {Q : State → Prop} {σ σ' : St} {lv lv' : List (Nat × Value)} {pc : Nat} {st rest : List Value} {cc : ByteArray} {own : String} {ws : List Cond} {tys : List (ClassId × FieldType)}
/-- a method's entry -/
theorem wm_entry {y : MethodName} {ws' : List Cond} {rm : Room} {maxL : Nat} {ret : Option FieldType} {av : List Value} {Qc : Array Value → State → Outcome → State → Prop} (hy : plainName y.cls = true) (hw : ws = Cond.code y cc maxL ret :: ws') (hown : y.cls = own) (hav : (lg_sl av).length ≤ maxL) (hlv : lv_args 0 av = lv) (hD : ∀ σ, va_D A (wd σ))
    (body : ∀ (p : Program) (e : Env) (s : State) (m : MethodId) (below : List Frame) (meth : Method) (c : Code), Cx p s m av.toArray meth c cc maxL own ws G tys wd A → meth.sig.returnType = ret → wm p l e rm s m av.toArray below meth c G wd A maxL (MQ below Qc av.toArray s 0 0 A) σ lv 0 []) : Ct l y ws rm G tys wd A av σ Qc := by
  refine Met.ofW (cc := cc) (maxL := maxL) (ret := ret) hy hw ?_
  intro p e s m args below meth c s₁ B hml hv
  obtain ⟨rfl, hP, hK, hN⟩ := hv
  have hl := lv_entry av (n := maxL) hav
  rw [hlv] at hl
  rw [lg_entry_eq]
  exact body p e s m below meth c ⟨B.exec, B.bytes, hml, hown ▸ findClass_of_methodNamed B.named, atoms_spec (ws := ws) B.pre, B.notSynchronized, hK, hN, hD⟩ B.returns s.heap [] _ hP va_S.rf hl
theorem wm_sub (ks : List Nat) (hl : lv_pick lv ks = lv') (h : wm p l e R s m args below meth c G wd A nL Q σ lv' pc st) : wm p l e R s m args below meth c G wd A nL Q σ lv pc st := fun H locs ls hP hS hl0 => h H locs ls hP hS (lv_sub hl0 ks hl)
theorem wm_nmI {x : Int32} (h : ∀ y : Int32, y = x → wm p l e R s m args below meth c G wd A nL Q σ lv pc (.int y :: st)) : wm p l e R s m args below meth c G wd A nL Q σ lv pc (.int x :: st) := h x rfl
theorem wm_nmL {x : Int64} (h : ∀ y : Int64, y = x → wm p l e R s m args below meth c G wd A nL Q σ lv pc (.long y :: st)) : wm p l e R s m args below meth c G wd A nL Q σ lv pc (.long x :: st) := h x rfl
theorem wm_nmS (h : ∀ τ : St, τ = σ → wm p l e R s m args below meth c G wd A nL Q τ lv pc st) : wm p l e R s m args below meth c G wd A nL Q σ lv pc st := h σ rfl
theorem wm_iload_n (X : Cx p s m args meth c cc nL own ws G tys wd A) {k : Fin 4} {x : Int32} (j : Nat) (hj : lv[j]? = some ((k : Nat), .int x)) (d : decode cc pc = .ok (.iload_n k, 1)) (h : wm p l e R s m args below meth c G wd A nL Q σ lv (pc + 1) (.int x :: st)) : wm p l e R s m args below meth c G wd A nL Q σ lv pc st := fun H locs ls hP hS hl => lv_iload_n X.1 X.2.1 d rfl (lv_at hl j hj) (h H locs ls hP hS hl)
theorem wm_iload (X : Cx p s m args meth c cc nL own ws G tys wd A) {i : Nat} {x : Int32} (j : Nat) (hj : lv[j]? = some (i, .int x)) (d : decode cc pc = .ok (.iload i, 2)) (h : wm p l e R s m args below meth c G wd A nL Q σ lv (pc + 2) (.int x :: st)) : wm p l e R s m args below meth c G wd A nL Q σ lv pc st := fun H locs ls hP hS hl => lv_iload X.1 X.2.1 d (lv_at hl j hj) (h H locs ls hP hS hl)
theorem wm_lload_n (X : Cx p s m args meth c cc nL own ws G tys wd A) {k : Fin 4} {x : Int64} (j : Nat) (hj : lv[j]? = some ((k : Nat), .long x)) (d : decode cc pc = .ok (.lload_n k, 1)) (h : wm p l e R s m args below meth c G wd A nL Q σ lv (pc + 1) (.long x :: st)) : wm p l e R s m args below meth c G wd A nL Q σ lv pc st := fun H locs ls hP hS hl => lv_lload_n X.1 X.2.1 d rfl (lv_at hl j hj) (h H locs ls hP hS hl)
theorem wm_lload (X : Cx p s m args meth c cc nL own ws G tys wd A) {i : Nat} {x : Int64} (j : Nat) (hj : lv[j]? = some (i, .long x)) (d : decode cc pc = .ok (.lload i, 2)) (h : wm p l e R s m args below meth c G wd A nL Q σ lv (pc + 2) (.long x :: st)) : wm p l e R s m args below meth c G wd A nL Q σ lv pc st := fun H locs ls hP hS hl => lv_lload X.1 X.2.1 d (lv_at hl j hj) (h H locs ls hP hS hl)
theorem wm_aload_n (X : Cx p s m args meth c cc nL own ws G tys wd A) {k : Fin 4} {x : Nat} (j : Nat) (hj : lv[j]? = some ((k : Nat), .ref x)) (d : decode cc pc = .ok (.aload_n k, 1)) (h : wm p l e R s m args below meth c G wd A nL Q σ lv (pc + 1) (.ref x :: st)) : wm p l e R s m args below meth c G wd A nL Q σ lv pc st := fun H locs ls hP hS hl => lv_aload_n X.1 X.2.1 d rfl (lv_at hl j hj) (h H locs ls hP hS hl)
theorem wm_aload (X : Cx p s m args meth c cc nL own ws G tys wd A) {i : Nat} {x : Nat} (j : Nat) (hj : lv[j]? = some (i, .ref x)) (d : decode cc pc = .ok (.aload i, 2)) (h : wm p l e R s m args below meth c G wd A nL Q σ lv (pc + 2) (.ref x :: st)) : wm p l e R s m args below meth c G wd A nL Q σ lv pc st := fun H locs ls hP hS hl => lv_aload X.1 X.2.1 d (lv_at hl j hj) (h H locs ls hP hS hl)
theorem wm_istore_n (X : Cx p s m args meth c cc nL own ws G tys wd A) {k : Fin 4} {i : Nat} {x : Int32} (hi : (k : Nat) = i) (hn : i < nL) (hl0 : (i, Value.int x) :: lv.filter (fun q => !(q.1 == i) && !(q.1 + 1 == i && q.2.category == 2)) = lv') (d : decode cc pc = .ok (.istore_n k, 1)) (h : wm p l e R s m args below meth c G wd A nL Q σ lv' (pc + 1) st) : wm p l e R s m args below meth c G wd A nL Q σ lv pc (.int x :: st) := fun H locs ls hP hS hl => lv_istore_n X.1 X.2.1 d hi hl hn hl0 (fun ls2 hl2 => h H locs ls2 hP hS hl2)
theorem wm_istore (X : Cx p s m args meth c cc nL own ws G tys wd A) {i : Nat} {x : Int32} (hn : i < nL) (hl0 : (i, Value.int x) :: lv.filter (fun q => !(q.1 == i) && !(q.1 + 1 == i && q.2.category == 2)) = lv') (d : decode cc pc = .ok (.istore i, 2)) (h : wm p l e R s m args below meth c G wd A nL Q σ lv' (pc + 2) st) : wm p l e R s m args below meth c G wd A nL Q σ lv pc (.int x :: st) := fun H locs ls hP hS hl => lv_istore X.1 X.2.1 d hl hn hl0 (fun ls2 hl2 => h H locs ls2 hP hS hl2)
theorem wm_lstore_n (X : Cx p s m args meth c cc nL own ws G tys wd A) {k : Fin 4} {i : Nat} {x : Int64} (hi : (k : Nat) = i) (hn : i + 1 < nL) (hl0 : (i, Value.long x) :: lv.filter (fun q => !(q.1 == i) && (!(q.1 == i + 1) && !(q.1 + 1 == i && q.2.category == 2))) = lv') (d : decode cc pc = .ok (.lstore_n k, 1)) (h : wm p l e R s m args below meth c G wd A nL Q σ lv' (pc + 1) st) : wm p l e R s m args below meth c G wd A nL Q σ lv pc (.long x :: st) := fun H locs ls hP hS hl => lv_lstore_n X.1 X.2.1 d hi hl hn hl0 (fun ls2 hl2 => h H locs ls2 hP hS hl2)
theorem wm_lstore (X : Cx p s m args meth c cc nL own ws G tys wd A) {i : Nat} {x : Int64} (hn : i + 1 < nL) (hl0 : (i, Value.long x) :: lv.filter (fun q => !(q.1 == i) && (!(q.1 == i + 1) && !(q.1 + 1 == i && q.2.category == 2))) = lv') (d : decode cc pc = .ok (.lstore i, 2)) (h : wm p l e R s m args below meth c G wd A nL Q σ lv' (pc + 2) st) : wm p l e R s m args below meth c G wd A nL Q σ lv pc (.long x :: st) := fun H locs ls hP hS hl => lv_lstore X.1 X.2.1 d hl hn hl0 (fun ls2 hl2 => h H locs ls2 hP hS hl2)
theorem wm_astore_n (X : Cx p s m args meth c cc nL own ws G tys wd A) {k : Fin 4} {i : Nat} {x : Nat} (hi : (k : Nat) = i) (hn : i < nL) (hl0 : (i, Value.ref x) :: lv.filter (fun q => !(q.1 == i) && !(q.1 + 1 == i && q.2.category == 2)) = lv') (d : decode cc pc = .ok (.astore_n k, 1)) (h : wm p l e R s m args below meth c G wd A nL Q σ lv' (pc + 1) st) : wm p l e R s m args below meth c G wd A nL Q σ lv pc (.ref x :: st) := fun H locs ls hP hS hl => lv_astore_n X.1 X.2.1 d hi hl hn hl0 (fun ls2 hl2 => h H locs ls2 hP hS hl2)
theorem wm_astore (X : Cx p s m args meth c cc nL own ws G tys wd A) {i : Nat} {x : Nat} (hn : i < nL) (hl0 : (i, Value.ref x) :: lv.filter (fun q => !(q.1 == i) && !(q.1 + 1 == i && q.2.category == 2)) = lv') (d : decode cc pc = .ok (.astore i, 2)) (h : wm p l e R s m args below meth c G wd A nL Q σ lv' (pc + 2) st) : wm p l e R s m args below meth c G wd A nL Q σ lv pc (.ref x :: st) := fun H locs ls hP hS hl => lv_astore X.1 X.2.1 d hl hn hl0 (fun ls2 hl2 => h H locs ls2 hP hS hl2)
theorem wm_iinc (X : Cx p s m args meth c cc nL own ws G tys wd A) {i : Nat} {n : Int} {x v : Int32} (j : Nat) (hj : lv[j]? = some (i, .int x)) (hv : x + Int32.ofInt n = v) (hn : i < nL) (hl0 : (i, Value.int v) :: lv.filter (fun q => !(q.1 == i) && !(q.1 + 1 == i && q.2.category == 2)) = lv') (d : decode cc pc = .ok (.iinc i n, 3)) (h : wm p l e R s m args below meth c G wd A nL Q σ lv' (pc + 3) st) : wm p l e R s m args below meth c G wd A nL Q σ lv pc st := fun H locs ls hP hS hl => lv_iinc X.1 X.2.1 d hl hj hv hn hl0 (fun ls2 hl2 => h H locs ls2 hP hS hl2)
theorem wm_iconst (X : Cx p s m args meth c cc nL own ws G tys wd A) {n : Int} {v : Int32} (hv : Int32.ofInt n = v) (d : decode cc pc = .ok (.iconst n, 1)) (h : wm p l e R s m args below meth c G wd A nL Q σ lv (pc + 1) (.int v :: st)) : wm p l e R s m args below meth c G wd A nL Q σ lv pc st := fun H locs ls hP hS hl => lv_iconst X.1 X.2.1 d hv (h H locs ls hP hS hl)
theorem wm_bipush (X : Cx p s m args meth c cc nL own ws G tys wd A) {n : Int} {v : Int32} (hv : (Int8.ofInt n).toInt32 = v) (d : decode cc pc = .ok (.bipush n, 2)) (h : wm p l e R s m args below meth c G wd A nL Q σ lv (pc + 2) (.int v :: st)) : wm p l e R s m args below meth c G wd A nL Q σ lv pc st := fun H locs ls hP hS hl => lv_bipush X.1 X.2.1 d hv (h H locs ls hP hS hl)
theorem wm_sipush (X : Cx p s m args meth c cc nL own ws G tys wd A) {n : Int} {v : Int32} (hv : (Int16.ofInt n).toInt32 = v) (d : decode cc pc = .ok (.sipush n, 3)) (h : wm p l e R s m args below meth c G wd A nL Q σ lv (pc + 3) (.int v :: st)) : wm p l e R s m args below meth c G wd A nL Q σ lv pc st := fun H locs ls hP hS hl => lv_sipush X.1 X.2.1 d hv (h H locs ls hP hS hl)
theorem wm_lconst (X : Cx p s m args meth c cc nL own ws G tys wd A) {n : Fin 2} {v : Int64} (hv : Int64.ofNat (n : Nat) = v) (d : decode cc pc = .ok (.lconst n, 1)) (h : wm p l e R s m args below meth c G wd A nL Q σ lv (pc + 1) (.long v :: st)) : wm p l e R s m args below meth c G wd A nL Q σ lv pc st := fun H locs ls hP hS hl => lv_lconst X.1 X.2.1 d hv (h H locs ls hP hS hl)
theorem wm_ldc (X : Cx p s m args meth c cc nL own ws G tys wd A) {index : Nat} {v : Int32} (hc : Jvm.Cond.constant own index v ∈ ws) (d : decode cc pc = .ok (.ldc index, 2)) (h : wm p l e R s m args below meth c G wd A nL Q σ lv (pc + 2) (.int v :: st)) : wm p l e R s m args below meth c G wd A nL Q σ lv pc st := fun H locs ls hP hS hl => lv_ldc X.1 X.2.1 X.2.2.2.1 (X.2.2.2.2.1 _ hc) d (h H locs ls hP hS hl)
theorem wm_ldcw (X : Cx p s m args meth c cc nL own ws G tys wd A) {index : Nat} {v : Int32} (hc : Jvm.Cond.constant own index v ∈ ws) (d : decode cc pc = .ok (.ldc_w index, 3)) (h : wm p l e R s m args below meth c G wd A nL Q σ lv (pc + 3) (.int v :: st)) : wm p l e R s m args below meth c G wd A nL Q σ lv pc st := fun H locs ls hP hS hl => lv_ldcw X.1 X.2.1 X.2.2.2.1 (X.2.2.2.2.1 _ hc) d (h H locs ls hP hS hl)
theorem wm_ldc2 (X : Cx p s m args meth c cc nL own ws G tys wd A) {index : Nat} {v : Int64} (hc : Jvm.Cond.constantLong own index v ∈ ws) (d : decode cc pc = .ok (.ldc2_w index, 3)) (h : wm p l e R s m args below meth c G wd A nL Q σ lv (pc + 3) (.long v :: st)) : wm p l e R s m args below meth c G wd A nL Q σ lv pc st := fun H locs ls hP hS hl => lv_ldc2 X.1 X.2.1 X.2.2.2.1 (X.2.2.2.2.1 _ hc) d (h H locs ls hP hS hl)
theorem wm_iadd (X : Cx p s m args meth c cc nL own ws G tys wd A) {x y : Int32} (d : decode cc pc = .ok (.iadd, 1)) (h : wm p l e R s m args below meth c G wd A nL Q σ lv (pc + 1) (.int (x + y) :: st)) : wm p l e R s m args below meth c G wd A nL Q σ lv pc (.int y :: .int x :: st) := fun H locs ls hP hS hl => lv_iadd X.1 X.2.1 d (h H locs ls hP hS hl)
theorem wm_isub (X : Cx p s m args meth c cc nL own ws G tys wd A) {x y : Int32} (d : decode cc pc = .ok (.isub, 1)) (h : wm p l e R s m args below meth c G wd A nL Q σ lv (pc + 1) (.int (x - y) :: st)) : wm p l e R s m args below meth c G wd A nL Q σ lv pc (.int y :: .int x :: st) := fun H locs ls hP hS hl => lv_isub X.1 X.2.1 d (h H locs ls hP hS hl)
theorem wm_imul (X : Cx p s m args meth c cc nL own ws G tys wd A) {x y : Int32} (d : decode cc pc = .ok (.imul, 1)) (h : wm p l e R s m args below meth c G wd A nL Q σ lv (pc + 1) (.int (x * y) :: st)) : wm p l e R s m args below meth c G wd A nL Q σ lv pc (.int y :: .int x :: st) := fun H locs ls hP hS hl => lv_imul X.1 X.2.1 d (h H locs ls hP hS hl)
theorem wm_iand (X : Cx p s m args meth c cc nL own ws G tys wd A) {x y : Int32} (d : decode cc pc = .ok (.iand, 1)) (h : wm p l e R s m args below meth c G wd A nL Q σ lv (pc + 1) (.int (x &&& y) :: st)) : wm p l e R s m args below meth c G wd A nL Q σ lv pc (.int y :: .int x :: st) := fun H locs ls hP hS hl => lv_iand X.1 X.2.1 d (h H locs ls hP hS hl)
theorem wm_ior (X : Cx p s m args meth c cc nL own ws G tys wd A) {x y : Int32} (d : decode cc pc = .ok (.ior, 1)) (h : wm p l e R s m args below meth c G wd A nL Q σ lv (pc + 1) (.int (x ||| y) :: st)) : wm p l e R s m args below meth c G wd A nL Q σ lv pc (.int y :: .int x :: st) := fun H locs ls hP hS hl => lv_ior X.1 X.2.1 d (h H locs ls hP hS hl)
theorem wm_ixor (X : Cx p s m args meth c cc nL own ws G tys wd A) {x y : Int32} (d : decode cc pc = .ok (.ixor, 1)) (h : wm p l e R s m args below meth c G wd A nL Q σ lv (pc + 1) (.int (x ^^^ y) :: st)) : wm p l e R s m args below meth c G wd A nL Q σ lv pc (.int y :: .int x :: st) := fun H locs ls hP hS hl => lv_ixor X.1 X.2.1 d (h H locs ls hP hS hl)
theorem wm_ishl (X : Cx p s m args meth c cc nL own ws G tys wd A) {x y : Int32} (d : decode cc pc = .ok (.ishl, 1)) (h : wm p l e R s m args below meth c G wd A nL Q σ lv (pc + 1) (.int (x <<< (y &&& 31)) :: st)) : wm p l e R s m args below meth c G wd A nL Q σ lv pc (.int y :: .int x :: st) := fun H locs ls hP hS hl => lv_ishl X.1 X.2.1 d (h H locs ls hP hS hl)
theorem wm_ishr (X : Cx p s m args meth c cc nL own ws G tys wd A) {x y : Int32} (d : decode cc pc = .ok (.ishr, 1)) (h : wm p l e R s m args below meth c G wd A nL Q σ lv (pc + 1) (.int (x >>> (y &&& 31)) :: st)) : wm p l e R s m args below meth c G wd A nL Q σ lv pc (.int y :: .int x :: st) := fun H locs ls hP hS hl => lv_ishr X.1 X.2.1 d (h H locs ls hP hS hl)
theorem wm_ladd (X : Cx p s m args meth c cc nL own ws G tys wd A) {x y : Int64} (d : decode cc pc = .ok (.ladd, 1)) (h : wm p l e R s m args below meth c G wd A nL Q σ lv (pc + 1) (.long (x + y) :: st)) : wm p l e R s m args below meth c G wd A nL Q σ lv pc (.long y :: .long x :: st) := fun H locs ls hP hS hl => lv_ladd X.1 X.2.1 d (h H locs ls hP hS hl)
theorem wm_lsub (X : Cx p s m args meth c cc nL own ws G tys wd A) {x y : Int64} (d : decode cc pc = .ok (.lsub, 1)) (h : wm p l e R s m args below meth c G wd A nL Q σ lv (pc + 1) (.long (x - y) :: st)) : wm p l e R s m args below meth c G wd A nL Q σ lv pc (.long y :: .long x :: st) := fun H locs ls hP hS hl => lv_lsub X.1 X.2.1 d (h H locs ls hP hS hl)
theorem wm_lmul (X : Cx p s m args meth c cc nL own ws G tys wd A) {x y : Int64} (d : decode cc pc = .ok (.lmul, 1)) (h : wm p l e R s m args below meth c G wd A nL Q σ lv (pc + 1) (.long (x * y) :: st)) : wm p l e R s m args below meth c G wd A nL Q σ lv pc (.long y :: .long x :: st) := fun H locs ls hP hS hl => lv_lmul X.1 X.2.1 d (h H locs ls hP hS hl)
theorem wm_idiv (X : Cx p s m args meth c cc nL own ws G tys wd A) {x y : Int32} (hne : ¬ y = 0) (d : decode cc pc = .ok (.idiv, 1)) (h : wm p l e R s m args below meth c G wd A nL Q σ lv (pc + 1) (.int (x / y) :: st)) : wm p l e R s m args below meth c G wd A nL Q σ lv pc (.int y :: .int x :: st) := fun H locs ls hP hS hl => lv_idiv X.1 X.2.1 d hne (h H locs ls hP hS hl)
theorem wm_ldiv (X : Cx p s m args meth c cc nL own ws G tys wd A) {x y : Int64} (hne : ¬ y = 0) (d : decode cc pc = .ok (.ldiv, 1)) (h : wm p l e R s m args below meth c G wd A nL Q σ lv (pc + 1) (.long (x / y) :: st)) : wm p l e R s m args below meth c G wd A nL Q σ lv pc (.long y :: .long x :: st) := fun H locs ls hP hS hl => lv_ldiv X.1 X.2.1 d hne (h H locs ls hP hS hl)
theorem wm_lrem (X : Cx p s m args meth c cc nL own ws G tys wd A) {x y : Int64} (hne : ¬ y = 0) (d : decode cc pc = .ok (.lrem, 1)) (h : wm p l e R s m args below meth c G wd A nL Q σ lv (pc + 1) (.long (x - x / y * y) :: st)) : wm p l e R s m args below meth c G wd A nL Q σ lv pc (.long y :: .long x :: st) := fun H locs ls hP hS hl => lv_lrem X.1 X.2.1 d hne (h H locs ls hP hS hl)
theorem wm_iushr (X : Cx p s m args meth c cc nL own ws G tys wd A) {x y : Int32} (d : decode cc pc = .ok (.iushr, 1)) (h : wm p l e R s m args below meth c G wd A nL Q σ lv (pc + 1) (.int ((x.toUInt32 >>> (y.toUInt32 &&& Int32.toUInt32 31)).toInt32) :: st)) : wm p l e R s m args below meth c G wd A nL Q σ lv pc (.int y :: .int x :: st) := fun H locs ls hP hS hl => lv_iushr X.1 X.2.1 d rfl (h H locs ls hP hS hl)
theorem wm_lneg (X : Cx p s m args meth c cc nL own ws G tys wd A) {x : Int64} (d : decode cc pc = .ok (.lneg, 1)) (h : wm p l e R s m args below meth c G wd A nL Q σ lv (pc + 1) (.long (-x) :: st)) : wm p l e R s m args below meth c G wd A nL Q σ lv pc (.long x :: st) := fun H locs ls hP hS hl => lv_lneg X.1 X.2.1 d (h H locs ls hP hS hl)
theorem wm_i2l (X : Cx p s m args meth c cc nL own ws G tys wd A) {x : Int32} (d : decode cc pc = .ok (.i2l, 1)) (h : wm p l e R s m args below meth c G wd A nL Q σ lv (pc + 1) (.long x.toInt64 :: st)) : wm p l e R s m args below meth c G wd A nL Q σ lv pc (.int x :: st) := fun H locs ls hP hS hl => lv_i2l X.1 X.2.1 d rfl (h H locs ls hP hS hl)
theorem wm_lcmp (X : Cx p s m args meth c cc nL own ws G tys wd A) {x y : Int64} (d : decode cc pc = .ok (.lcmp, 1)) (h : wm p l e R s m args below meth c G wd A nL Q σ lv (pc + 1) (.int (lg_cmp x y) :: st)) : wm p l e R s m args below meth c G wd A nL Q σ lv pc (.long y :: .long x :: st) := fun H locs ls hP hS hl => W.lcmp X.1 X.2.1 d (h H locs ls hP hS hl)
theorem wm_dup (X : Cx p s m args meth c cc nL own ws G tys wd A) {v : Value} (hv : v.category = 1) (d : decode cc pc = .ok (.dup, 1)) (h : wm p l e R s m args below meth c G wd A nL Q σ lv (pc + 1) (v :: v :: st)) : wm p l e R s m args below meth c G wd A nL Q σ lv pc (v :: st) := fun H locs ls hP hS hl => lv_dup X.1 X.2.1 d hv (h H locs ls hP hS hl)
theorem wm_goto (X : Cx p s m args meth c cc nL own ws G tys wd A) {off : Int} {tgt : Nat} (ht : (pc : Int) + off = (tgt : Int)) (d : decode cc pc = .ok (.goto off, 3)) (h : wm p l e R s m args below meth c G wd A nL Q σ lv tgt st) : wm p l e R s m args below meth c G wd A nL Q σ lv pc st := fun H locs ls hP hS hl => lv_goto X.1 X.2.1 d ht (h H locs ls hP hS hl)
theorem wm_if_eq (X : Cx p s m args meth c cc nL own ws G tys wd A) {x : Int32} {off : Int} {tgt : Nat} (ht : (pc : Int) + off = (tgt : Int)) (d : decode cc pc = .ok (.ifCond .eq off, 3)) (h1 : x = 0 → wm p l e R s m args below meth c G wd A nL Q σ lv tgt st) (h2 : ¬ x = 0 → wm p l e R s m args below meth c G wd A nL Q σ lv (pc + 3) st) : wm p l e R s m args below meth c G wd A nL Q σ lv pc (.int x :: st) := fun H locs ls hP hS hl => lv_if_eq X.1 X.2.1 d ht (fun q => h1 q H locs ls hP hS hl) (fun q => h2 q H locs ls hP hS hl)
theorem wm_icmp_eq (X : Cx p s m args meth c cc nL own ws G tys wd A) {x y : Int32} {off : Int} {tgt : Nat} (ht : (pc : Int) + off = (tgt : Int)) (d : decode cc pc = .ok (.if_icmp .eq off, 3)) (h1 : x = y → wm p l e R s m args below meth c G wd A nL Q σ lv tgt st) (h2 : ¬ x = y → wm p l e R s m args below meth c G wd A nL Q σ lv (pc + 3) st) : wm p l e R s m args below meth c G wd A nL Q σ lv pc (.int y :: .int x :: st) := fun H locs ls hP hS hl => lv_icmp_eq X.1 X.2.1 d ht (fun q => h1 q H locs ls hP hS hl) (fun q => h2 q H locs ls hP hS hl)
theorem wm_if_ne (X : Cx p s m args meth c cc nL own ws G tys wd A) {x : Int32} {off : Int} {tgt : Nat} (ht : (pc : Int) + off = (tgt : Int)) (d : decode cc pc = .ok (.ifCond .ne off, 3)) (h1 : ¬ x = 0 → wm p l e R s m args below meth c G wd A nL Q σ lv tgt st) (h2 : x = 0 → wm p l e R s m args below meth c G wd A nL Q σ lv (pc + 3) st) : wm p l e R s m args below meth c G wd A nL Q σ lv pc (.int x :: st) := fun H locs ls hP hS hl => lv_if_ne X.1 X.2.1 d ht (fun q => h1 q H locs ls hP hS hl) (fun q => h2 q H locs ls hP hS hl)
theorem wm_icmp_ne (X : Cx p s m args meth c cc nL own ws G tys wd A) {x y : Int32} {off : Int} {tgt : Nat} (ht : (pc : Int) + off = (tgt : Int)) (d : decode cc pc = .ok (.if_icmp .ne off, 3)) (h1 : ¬ x = y → wm p l e R s m args below meth c G wd A nL Q σ lv tgt st) (h2 : x = y → wm p l e R s m args below meth c G wd A nL Q σ lv (pc + 3) st) : wm p l e R s m args below meth c G wd A nL Q σ lv pc (.int y :: .int x :: st) := fun H locs ls hP hS hl => lv_icmp_ne X.1 X.2.1 d ht (fun q => h1 q H locs ls hP hS hl) (fun q => h2 q H locs ls hP hS hl)
theorem wm_if_lt (X : Cx p s m args meth c cc nL own ws G tys wd A) {x : Int32} {off : Int} {tgt : Nat} (ht : (pc : Int) + off = (tgt : Int)) (d : decode cc pc = .ok (.ifCond .lt off, 3)) (h1 : x < 0 → wm p l e R s m args below meth c G wd A nL Q σ lv tgt st) (h2 : ¬ x < 0 → wm p l e R s m args below meth c G wd A nL Q σ lv (pc + 3) st) : wm p l e R s m args below meth c G wd A nL Q σ lv pc (.int x :: st) := fun H locs ls hP hS hl => lv_if_lt X.1 X.2.1 d ht (fun q => h1 q H locs ls hP hS hl) (fun q => h2 q H locs ls hP hS hl)
theorem wm_icmp_lt (X : Cx p s m args meth c cc nL own ws G tys wd A) {x y : Int32} {off : Int} {tgt : Nat} (ht : (pc : Int) + off = (tgt : Int)) (d : decode cc pc = .ok (.if_icmp .lt off, 3)) (h1 : x < y → wm p l e R s m args below meth c G wd A nL Q σ lv tgt st) (h2 : ¬ x < y → wm p l e R s m args below meth c G wd A nL Q σ lv (pc + 3) st) : wm p l e R s m args below meth c G wd A nL Q σ lv pc (.int y :: .int x :: st) := fun H locs ls hP hS hl => lv_icmp_lt X.1 X.2.1 d ht (fun q => h1 q H locs ls hP hS hl) (fun q => h2 q H locs ls hP hS hl)
theorem wm_if_ge (X : Cx p s m args meth c cc nL own ws G tys wd A) {x : Int32} {off : Int} {tgt : Nat} (ht : (pc : Int) + off = (tgt : Int)) (d : decode cc pc = .ok (.ifCond .ge off, 3)) (h1 : 0 ≤ x → wm p l e R s m args below meth c G wd A nL Q σ lv tgt st) (h2 : ¬ 0 ≤ x → wm p l e R s m args below meth c G wd A nL Q σ lv (pc + 3) st) : wm p l e R s m args below meth c G wd A nL Q σ lv pc (.int x :: st) := fun H locs ls hP hS hl => lv_if_ge X.1 X.2.1 d ht (fun q => h1 q H locs ls hP hS hl) (fun q => h2 q H locs ls hP hS hl)
theorem wm_icmp_ge (X : Cx p s m args meth c cc nL own ws G tys wd A) {x y : Int32} {off : Int} {tgt : Nat} (ht : (pc : Int) + off = (tgt : Int)) (d : decode cc pc = .ok (.if_icmp .ge off, 3)) (h1 : y ≤ x → wm p l e R s m args below meth c G wd A nL Q σ lv tgt st) (h2 : ¬ y ≤ x → wm p l e R s m args below meth c G wd A nL Q σ lv (pc + 3) st) : wm p l e R s m args below meth c G wd A nL Q σ lv pc (.int y :: .int x :: st) := fun H locs ls hP hS hl => lv_icmp_ge X.1 X.2.1 d ht (fun q => h1 q H locs ls hP hS hl) (fun q => h2 q H locs ls hP hS hl)
theorem wm_if_gt (X : Cx p s m args meth c cc nL own ws G tys wd A) {x : Int32} {off : Int} {tgt : Nat} (ht : (pc : Int) + off = (tgt : Int)) (d : decode cc pc = .ok (.ifCond .gt off, 3)) (h1 : 0 < x → wm p l e R s m args below meth c G wd A nL Q σ lv tgt st) (h2 : ¬ 0 < x → wm p l e R s m args below meth c G wd A nL Q σ lv (pc + 3) st) : wm p l e R s m args below meth c G wd A nL Q σ lv pc (.int x :: st) := fun H locs ls hP hS hl => lv_if_gt X.1 X.2.1 d ht (fun q => h1 q H locs ls hP hS hl) (fun q => h2 q H locs ls hP hS hl)
theorem wm_icmp_gt (X : Cx p s m args meth c cc nL own ws G tys wd A) {x y : Int32} {off : Int} {tgt : Nat} (ht : (pc : Int) + off = (tgt : Int)) (d : decode cc pc = .ok (.if_icmp .gt off, 3)) (h1 : y < x → wm p l e R s m args below meth c G wd A nL Q σ lv tgt st) (h2 : ¬ y < x → wm p l e R s m args below meth c G wd A nL Q σ lv (pc + 3) st) : wm p l e R s m args below meth c G wd A nL Q σ lv pc (.int y :: .int x :: st) := fun H locs ls hP hS hl => lv_icmp_gt X.1 X.2.1 d ht (fun q => h1 q H locs ls hP hS hl) (fun q => h2 q H locs ls hP hS hl)
theorem wm_if_le (X : Cx p s m args meth c cc nL own ws G tys wd A) {x : Int32} {off : Int} {tgt : Nat} (ht : (pc : Int) + off = (tgt : Int)) (d : decode cc pc = .ok (.ifCond .le off, 3)) (h1 : x ≤ 0 → wm p l e R s m args below meth c G wd A nL Q σ lv tgt st) (h2 : ¬ x ≤ 0 → wm p l e R s m args below meth c G wd A nL Q σ lv (pc + 3) st) : wm p l e R s m args below meth c G wd A nL Q σ lv pc (.int x :: st) := fun H locs ls hP hS hl => lv_if_le X.1 X.2.1 d ht (fun q => h1 q H locs ls hP hS hl) (fun q => h2 q H locs ls hP hS hl)
theorem wm_icmp_le (X : Cx p s m args meth c cc nL own ws G tys wd A) {x y : Int32} {off : Int} {tgt : Nat} (ht : (pc : Int) + off = (tgt : Int)) (d : decode cc pc = .ok (.if_icmp .le off, 3)) (h1 : x ≤ y → wm p l e R s m args below meth c G wd A nL Q σ lv tgt st) (h2 : ¬ x ≤ y → wm p l e R s m args below meth c G wd A nL Q σ lv (pc + 3) st) : wm p l e R s m args below meth c G wd A nL Q σ lv pc (.int y :: .int x :: st) := fun H locs ls hP hS hl => lv_icmp_le X.1 X.2.1 d ht (fun q => h1 q H locs ls hP hS hl) (fun q => h2 q H locs ls hP hS hl)
theorem wm_tabOut (X : Cx p s m args meth c cc nL own ws G tys wd A) {dflt lo hi : Int} {offs : Array Int} {len : Nat} {x : Int32} {tgt : Nat} (hc : x.toInt < lo ∨ hi < x.toInt) (ht : (pc : Int) + dflt = (tgt : Int)) (d : decode cc pc = .ok (.tableswitch dflt lo hi offs, len)) (h : wm p l e R s m args below meth c G wd A nL Q σ lv tgt st) : wm p l e R s m args below meth c G wd A nL Q σ lv pc (.int x :: st) := fun H locs ls hP hS hl => lv_tableOut X.1 X.2.1 d hc ht (h H locs ls hP hS hl)
theorem wm_tabIn (X : Cx p s m args meth c cc nL own ws G tys wd A) {dflt lo hi : Int} {offs : Array Int} {len : Nat} {x : Int32} {off : Int} {tgt : Nat} (h1 : ¬ x.toInt < lo) (h2 : ¬ hi < x.toInt) (ho : offs[(x.toInt - lo).toNat]? = some off) (ht : (pc : Int) + off = (tgt : Int)) (d : decode cc pc = .ok (.tableswitch dflt lo hi offs, len)) (h : wm p l e R s m args below meth c G wd A nL Q σ lv tgt st) : wm p l e R s m args below meth c G wd A nL Q σ lv pc (.int x :: st) := fun H locs ls hP hS hl => lv_tableIn X.1 X.2.1 d h1 h2 ho ht (h H locs ls hP hS hl)
theorem wm_get (X : Cx p s m args meth c cc nL own ws G tys wd A) {C : String} {T : u_T} {N ci index a : Nat} {fs : List Value} {v : Value} (hin : ∀ w ∈ u_ws C T N, w ∈ ws) (q0 : Nat) (he : (wd σ)[q0]? = some (a, .inr (ci, fs))) (hc : vwCl[ci]? = some (C, T, N)) (k : Nat) (hk : k < N) (hlink : Cond.fieldLink own index (T k).1 (T k).2.1 (T k).2.2.1 ∈ ws) (hv : fs[k]? = some v) (d : decode cc pc = .ok (.getfield index, 3)) (h : wm p l e R s m args below meth c G wd A nL Q σ lv (pc + 3) (v :: st)) : wm p l e R s m args below meth c G wd A nL Q σ lv pc (.ref a :: st) := fun H locs ls hP hS hl => va_get X.1 X.2.1 X.2.2.2.2.1 hin X.2.2.2.1 X.2.2.2.2.2.2.1 hP q0 he hc k hk (X.2.2.2.2.1 _ hlink) (fun _ h9 => h9) hv d (h H locs ls hP hS hl)
theorem wm_put (X : Cx p s m args meth c cc nL own ws G tys wd A) {C : String} {T : u_T} {N ci index a : Nat} {fs : List Value} {v : Value} {ty : FieldType} (hin : ∀ w ∈ u_ws C T N, w ∈ ws) (ty0 : Nat → FieldType) (hty : ∀ k, k < N → parseFieldDescriptor (T k).2.2.1 = some (ty0 k)) (hnm : ∀ a, a < N → ∀ b, b < N → a ≠ b → (T a).2.1 ≠ (T b).2.1) (q0 : Nat) (he : (wd σ)[q0]? = some (a, .inr (ci, fs))) (hc : vwCl[ci]? = some (C, T, N)) (k : Nat) (hk : k < N) (hlink : Cond.fieldLink own index (T k).1 (T k).2.1 (T k).2.2.1 ∈ ws) (hfin : (T k).2.2.2 = false) (hd : parseFieldDescriptor (T k).2.2.1 = some ty) (hn : narrow ty v = v) (hfit : fits ty v = true) (hlen : k < fs.length) (hw : (wd σ).set q0 (a, .inr (ci, fs.set k v)) = wd σ') (d : decode cc pc = .ok (.putfield index, 3)) (h : wm p l e R s m args below meth c G wd A nL Q σ' lv (pc + 3) st) : wm p l e R s m args below meth c G wd A nL Q σ lv pc (v :: .ref a :: st) := fun H locs ls hP hS hl => va_put X.1 X.2.1 X.2.2.2.2.1 hin ty0 hty hnm X.2.2.2.1 X.2.2.2.2.2.2.1 hP (X.2.2.2.2.2.2.2.2 σ) hS q0 he hc k hk (X.2.2.2.2.1 _ hlink) (fun _ h9 => h9) hfin hd hn hfit hlen d (fun H1 locs1 hP1 _ hS1 => h H1 locs1 ls (hw ▸ hP1) hS1 hl)
theorem wm_iald (X : Cx p s m args meth c cc nL own ws G tys wd A) {cA : ClassId} {a n : Nat} {f : Nat → Int32} {i : Int32} (q0 t0 : Nat) (ha : (wd σ)[q0]? = some (a, .inl (cA, n, .inl f))) (ht : tys[t0]? = some (cA, .int)) (hi : vp_in i n) (d : decode cc pc = .ok (.iaload, 1)) (h : wm p l e R s m args below meth c G wd A nL Q σ lv (pc + 1) (.int (f i.toNatClampNeg) :: st)) : wm p l e R s m args below meth c G wd A nL Q σ lv pc (.int i :: .ref a :: st) := fun H locs ls hP hS hl => va_iald X.1 X.2.1 X.2.2.2.2.2.2.1 hP q0 t0 ha ht hi d (h H locs ls hP hS hl)
theorem wm_zald (X : Cx p s m args meth c cc nL own ws G tys wd A) {cA : ClassId} {a n : Nat} {f : Nat → Int32} {i : Int32} (q0 t0 : Nat) (ha : (wd σ)[q0]? = some (a, .inl (cA, n, .inl f))) (ht : tys[t0]? = some (cA, .boolean)) (hi : vp_in i n) (d : decode cc pc = .ok (.baload, 1)) (h : wm p l e R s m args below meth c G wd A nL Q σ lv (pc + 1) (.int (f i.toNatClampNeg) :: st)) : wm p l e R s m args below meth c G wd A nL Q σ lv pc (.int i :: .ref a :: st) := fun H locs ls hP hS hl => va_zald X.1 X.2.1 X.2.2.2.2.2.2.1 hP q0 t0 ha ht hi d (h H locs ls hP hS hl)
theorem wm_lald (X : Cx p s m args meth c cc nL own ws G tys wd A) {cA : ClassId} {a n : Nat} {f : Nat → Int64} {i : Int32} (q0 t0 : Nat) (ha : (wd σ)[q0]? = some (a, .inl (cA, n, .inr (.inl f)))) (ht : tys[t0]? = some (cA, .long)) (hi : vp_in i n) (d : decode cc pc = .ok (.laload, 1)) (h : wm p l e R s m args below meth c G wd A nL Q σ lv (pc + 1) (.long (f i.toNatClampNeg) :: st)) : wm p l e R s m args below meth c G wd A nL Q σ lv pc (.int i :: .ref a :: st) := fun H locs ls hP hS hl => va_lald X.1 X.2.1 X.2.2.2.2.2.2.1 hP q0 t0 ha ht hi d (h H locs ls hP hS hl)
theorem wm_iast (X : Cx p s m args meth c cc nL own ws G tys wd A) {cA : ClassId} {a n : Nat} {f : Nat → Int32} {i : Int32} {x : Int32} (q0 t0 : Nat) (ha : (wd σ)[q0]? = some (a, .inl (cA, n, .inl (f)))) (ht : tys[t0]? = some (cA, .int)) (hi : vp_in i n) (hw : (wd σ).set q0 (a, .inl (cA, n, .inl (upd f i.toNatClampNeg x))) = wd σ') (d : decode cc pc = .ok (.iastore, 1)) (h : wm p l e R s m args below meth c G wd A nL Q σ' lv (pc + 1) st) : wm p l e R s m args below meth c G wd A nL Q σ lv pc (.int x :: .int i :: .ref a :: st) := fun H locs ls hP hS hl => va_iast X.1 X.2.1 X.2.2.2.2.2.2.1 hP (X.2.2.2.2.2.2.2.2 σ) hS q0 t0 ha ht hi d (fun H1 locs1 hP1 _ hS1 => h H1 locs1 ls (hw ▸ hP1) hS1 hl)
theorem wm_last (X : Cx p s m args meth c cc nL own ws G tys wd A) {cA : ClassId} {a n : Nat} {f : Nat → Int64} {i : Int32} {x : Int64} (q0 t0 : Nat) (ha : (wd σ)[q0]? = some (a, .inl (cA, n, .inr (.inl (f))))) (ht : tys[t0]? = some (cA, .long)) (hi : vp_in i n) (hw : (wd σ).set q0 (a, .inl (cA, n, .inr (.inl (vp_updL f i.toNatClampNeg x)))) = wd σ') (d : decode cc pc = .ok (.lastore, 1)) (h : wm p l e R s m args below meth c G wd A nL Q σ' lv (pc + 1) st) : wm p l e R s m args below meth c G wd A nL Q σ lv pc (.long x :: .int i :: .ref a :: st) := fun H locs ls hP hS hl => va_last X.1 X.2.1 X.2.2.2.2.2.2.1 hP (X.2.2.2.2.2.2.2.2 σ) hS q0 t0 ha ht hi d (fun H1 locs1 hP1 _ hS1 => h H1 locs1 ls (hw ▸ hP1) hS1 hl)
theorem wm_zast (X : Cx p s m args meth c cc nL own ws G tys wd A) {cA : ClassId} {a n : Nat} {f : Nat → Int32} {i x : Int32} (q0 t0 : Nat) (ha : (wd σ)[q0]? = some (a, .inl (cA, n, .inl f))) (ht : tys[t0]? = some (cA, .boolean)) (hi : vp_in i n) (hx : bz x) (hw : (wd σ).set q0 (a, .inl (cA, n, .inl (upd f i.toNatClampNeg x))) = wd σ') (d : decode cc pc = .ok (.bastore, 1)) (h : wm p l e R s m args below meth c G wd A nL Q σ' lv (pc + 1) st) : wm p l e R s m args below meth c G wd A nL Q σ lv pc (.int x :: .int i :: .ref a :: st) := fun H locs ls hP hS hl => va_zast X.1 X.2.1 X.2.2.2.2.2.2.1 hP (X.2.2.2.2.2.2.2.2 σ) hS q0 t0 ha ht hi d (fun H1 locs1 hP1 _ hS1 => h H1 locs1 ls (by rw [bz_nar hx, hw] at hP1; exact hP1) hS1 hl)
theorem wm_alen (X : Cx p s m args meth c cc nL own ws G tys wd A) {cA : ClassId} {a : Nat} {x : vp_A} {ty : FieldType} {v : Int32} (q0 t0 : Nat) (ha : (wd σ)[q0]? = some (a, .inl (cA, x))) (ht : tys[t0]? = some (cA, ty)) (hv : Int32.ofNat x.1 = v) (d : decode cc pc = .ok (.arraylength, 1)) (h : wm p l e R s m args below meth c G wd A nL Q σ lv (pc + 1) (.int v :: st)) : wm p l e R s m args below meth c G wd A nL Q σ lv pc (.ref a :: st) := fun H locs ls hP hS hl => va_alen X.1 X.2.1 X.2.2.2.2.2.2.1 hP q0 t0 ha ht hv d (h H locs ls hP hS hl)
theorem wm_iret (X : Cx p s m args meth c cc nL own ws G tys wd A) (hr : meth.sig.returnType = some .int) {post : Int32 → St → Prop} {v : Int32} (hq : post v σ) (d : decode cc pc = .ok (.ireturn, 1)) : wm p l e R s m args below meth c G wd A nL (MQ below (Qi G wd A post) args s 0 0 A) σ lv pc [.int v] := fun H locs ls hP hS hl => W.iret X.1 X.2.1 hr (fun t ht hW => ⟨⟨v, σ, rfl, hq, by rw [ht]; exact hP⟩, hS.F ht⟩) hS.2.2 d X.2.2.2.2.2.1
theorem wm_zret (X : Cx p s m args meth c cc nL own ws G tys wd A) (hr : meth.sig.returnType = some .boolean) {post : Int32 → St → Prop} {v : Int32} (hz : bz v) (hq : post v σ) (d : decode cc pc = .ok (.ireturn, 1)) : wm p l e R s m args below meth c G wd A nL (MQ below (Qi G wd A post) args s 0 0 A) σ lv pc [.int v] := fun H locs ls hP hS hl => W.zret X.1 X.2.1 hr (bz_narrow hz) (fun t ht hW => ⟨⟨v, σ, rfl, hq, by rw [ht]; exact hP⟩, hS.F ht⟩) hS.2.2 d X.2.2.2.2.2.1
theorem wm_lret (X : Cx p s m args meth c cc nL own ws G tys wd A) (hr : meth.sig.returnType = some .long) {post : Int64 → St → Prop} {v : Int64} (hq : post v σ) (d : decode cc pc = .ok (.lreturn, 1)) : wm p l e R s m args below meth c G wd A nL (MQ below (Ql G wd A post) args s 0 0 A) σ lv pc [.long v] := fun H locs ls hP hS hl => W.lret X.1 X.2.1 hr (fun t ht hW => ⟨⟨v, σ, rfl, hq, by rw [ht]; exact hP⟩, hS.F ht⟩) hS.2.2 d X.2.2.2.2.2.1
theorem wm_vret (X : Cx p s m args meth c cc nL own ws G tys wd A) (hr : meth.sig.returnType = none) {post : St → Prop} (hq : post σ) (d : decode cc pc = .ok (.return_, 1)) : wm p l e R s m args below meth c G wd A nL (MQ below (Qv G wd A post) args s 0 0 A) σ lv pc [] := fun H locs ls hP hS hl => W.vret X.1 X.2.1 hr (fun t ht hW => ⟨⟨σ, rfl, hq, by rw [ht]; exact hP⟩, hS.F ht⟩) hS.2.2 d X.2.2.2.2.2.1
theorem wm_aret (X : Cx p s m args meth c cc nL own ws G tys wd A) {rt : FieldType} (hr : meth.sig.returnType = some rt) (hrt : (∃ n, rt = .object n) ∨ ∃ t, rt = .array t) {post : St → Prop} {a0 : Nat} (hq : post σ) (d : decode cc pc = .ok (.areturn, 1)) : wm p l e R s m args below meth c G wd A nL (MQ below (Qr G wd A a0 post) args s 0 0 A) σ lv pc [.ref a0] := fun H locs ls hP hS hl => W.aret X.1 X.2.1 hr hrt (Or.inr ⟨a0, rfl⟩) (fun t ht hW => ⟨⟨σ, a0, rfl, hq, rfl, by rw [ht]; exact hP⟩, hS.F ht⟩) hS.2.2 d X.2.2.2.2.2.1
theorem wm_callVi (X : Cx p s m args meth c cc nL own ws G tys wd A) {y : MethodName} {wy wy2 : List Cond} {rm : Room} {bytes : ByteArray} {maxL n index : Nat} {ret : Option FieldType} {As : List Value} {C : String} {b ci : Nat} {fs : List Value} {q : vw_C} {post : Int32 → St → Prop} (hM : Ct l y wy rm G tys wd A (.ref b :: As) σ (Qi G wd A post)) (hg : GoodIn ws (wsV own index C y wy)) (hwy : wy = Cond.code y bytes maxL ret :: wy2) (hrc : rm.cells = 0 ∧ rm.slots = 0) (hd : y.cls = C ∧ y.cls ≠ "java/lang/invoke/MethodHandle" ∧ y.cls ≠ "java/lang/invoke/VarHandle" ∧ (parseMethodDescriptor y.desc).map (fun d => d.parameters.length) = some n) (hR : rm.frames + 1 ≤ R.frames ∧ 8 + (maxL + 11) + rm.locals ≤ R.locals) (q0 : Nat) (he : (wd σ)[q0]? = some (b, .inr (ci, fs))) (hc : vwCl[ci]? = some q) (hq : q.1 = C) (hn : As.length = n) (hst : st = As.reverse ++ .ref b :: rest) (hcat : (rest.map fun v => v.category).sum ≤ 8) (d : decode cc pc = .ok (.invokevirtual index, 3)) (k : ∀ (r : Int32) (τ : St), post r τ → wm p l e R s m args below meth c G wd A nL Q τ lv (pc + 3) (.int r :: rest)) : wm p l e R s m args below meth c G wd A nL Q σ lv pc st := fun H locs ls hP hS hl => by
  subst hst; subst hq
  exact va_calli (va_runV (As := As) (rest := rest) ⟨X.1, X.2.1, X.2.2.1, X.2.2.2.1, X.2.2.2.2.1⟩ hM (cwV n X.2.2.2.2.1 hg hwy hrc.1 hrc.2 hd hR) ⟨Pre.blind, va_recv X.2.2.2.2.2.2.1 hP hc he, fun U hU hW => ⟨rfl, by rw [hU]; exact hP, va_K.moved hW.alike X.2.2.2.2.2.2.1, X.2.2.2.2.2.2.2.1.warm hW⟩⟩ rfl hn hl.1 rfl (lv_room hcat) d ⟨Nat.zero_le _, Nat.zero_le _⟩) hS (fun q _ h => h) (fun q h => h) (fun r u t H1 locs1 ht hvm hw1 hB hz1 hk1 hS1 => k r u hw1 H1 locs1 ls (ht ▸ hB) hS1 hl)
theorem wm_callVl (X : Cx p s m args meth c cc nL own ws G tys wd A) {y : MethodName} {wy wy2 : List Cond} {rm : Room} {bytes : ByteArray} {maxL n index : Nat} {ret : Option FieldType} {As : List Value} {C : String} {b ci : Nat} {fs : List Value} {q : vw_C} {post : Int64 → St → Prop} (hM : Ct l y wy rm G tys wd A (.ref b :: As) σ (Ql G wd A post)) (hg : GoodIn ws (wsV own index C y wy)) (hwy : wy = Cond.code y bytes maxL ret :: wy2) (hrc : rm.cells = 0 ∧ rm.slots = 0) (hd : y.cls = C ∧ y.cls ≠ "java/lang/invoke/MethodHandle" ∧ y.cls ≠ "java/lang/invoke/VarHandle" ∧ (parseMethodDescriptor y.desc).map (fun d => d.parameters.length) = some n) (hR : rm.frames + 1 ≤ R.frames ∧ 8 + (maxL + 11) + rm.locals ≤ R.locals) (q0 : Nat) (he : (wd σ)[q0]? = some (b, .inr (ci, fs))) (hc : vwCl[ci]? = some q) (hq : q.1 = C) (hn : As.length = n) (hst : st = As.reverse ++ .ref b :: rest) (hcat : (rest.map fun v => v.category).sum ≤ 8) (d : decode cc pc = .ok (.invokevirtual index, 3)) (k : ∀ (r : Int64) (τ : St), post r τ → wm p l e R s m args below meth c G wd A nL Q τ lv (pc + 3) (.long r :: rest)) : wm p l e R s m args below meth c G wd A nL Q σ lv pc st := fun H locs ls hP hS hl => by
  subst hst; subst hq
  exact va_calll (va_runV (As := As) (rest := rest) ⟨X.1, X.2.1, X.2.2.1, X.2.2.2.1, X.2.2.2.2.1⟩ hM (cwV n X.2.2.2.2.1 hg hwy hrc.1 hrc.2 hd hR) ⟨Pre.blind, va_recv X.2.2.2.2.2.2.1 hP hc he, fun U hU hW => ⟨rfl, by rw [hU]; exact hP, va_K.moved hW.alike X.2.2.2.2.2.2.1, X.2.2.2.2.2.2.2.1.warm hW⟩⟩ rfl hn hl.1 rfl (lv_room hcat) d ⟨Nat.zero_le _, Nat.zero_le _⟩) hS (fun q _ h => h) (fun q h => h) (fun r u t H1 locs1 ht hvm hw1 hB hz1 hk1 hS1 => k r u hw1 H1 locs1 ls (ht ▸ hB) hS1 hl)
theorem wm_callVv (X : Cx p s m args meth c cc nL own ws G tys wd A) {y : MethodName} {wy wy2 : List Cond} {rm : Room} {bytes : ByteArray} {maxL n index : Nat} {ret : Option FieldType} {As : List Value} {C : String} {b ci : Nat} {fs : List Value} {q : vw_C} {post : St → Prop} (hM : Ct l y wy rm G tys wd A (.ref b :: As) σ (Qv G wd A post)) (hg : GoodIn ws (wsV own index C y wy)) (hwy : wy = Cond.code y bytes maxL ret :: wy2) (hrc : rm.cells = 0 ∧ rm.slots = 0) (hd : y.cls = C ∧ y.cls ≠ "java/lang/invoke/MethodHandle" ∧ y.cls ≠ "java/lang/invoke/VarHandle" ∧ (parseMethodDescriptor y.desc).map (fun d => d.parameters.length) = some n) (hR : rm.frames + 1 ≤ R.frames ∧ 8 + (maxL + 11) + rm.locals ≤ R.locals) (q0 : Nat) (he : (wd σ)[q0]? = some (b, .inr (ci, fs))) (hc : vwCl[ci]? = some q) (hq : q.1 = C) (hn : As.length = n) (hst : st = As.reverse ++ .ref b :: rest) (hcat : (rest.map fun v => v.category).sum ≤ 8) (d : decode cc pc = .ok (.invokevirtual index, 3)) (k : ∀ (τ : St), post τ → wm p l e R s m args below meth c G wd A nL Q τ lv (pc + 3) rest) : wm p l e R s m args below meth c G wd A nL Q σ lv pc st := fun H locs ls hP hS hl => by
  subst hst; subst hq
  exact va_callv (va_runV (As := As) (rest := rest) ⟨X.1, X.2.1, X.2.2.1, X.2.2.2.1, X.2.2.2.2.1⟩ hM (cwV n X.2.2.2.2.1 hg hwy hrc.1 hrc.2 hd hR) ⟨Pre.blind, va_recv X.2.2.2.2.2.2.1 hP hc he, fun U hU hW => ⟨rfl, by rw [hU]; exact hP, va_K.moved hW.alike X.2.2.2.2.2.2.1, X.2.2.2.2.2.2.2.1.warm hW⟩⟩ rfl hn hl.1 rfl (lv_room hcat) d ⟨Nat.zero_le _, Nat.zero_le _⟩) hS (fun q _ h => h) (fun q h => h) (fun u t H1 locs1 ht hvm hw1 hB hz1 hk1 hS1 => k u hw1 H1 locs1 ls (ht ▸ hB) hS1 hl)
theorem wm_callVr (X : Cx p s m args meth c cc nL own ws G tys wd A) {y : MethodName} {wy wy2 : List Cond} {rm : Room} {bytes : ByteArray} {maxL n index : Nat} {ret : Option FieldType} {As : List Value} {C : String} {b ci : Nat} {fs : List Value} {q : vw_C} {post : St → Prop} {a0 : Nat} (hM : Ct l y wy rm G tys wd A (.ref b :: As) σ (Qr G wd A a0 post)) (hg : GoodIn ws (wsV own index C y wy)) (hwy : wy = Cond.code y bytes maxL ret :: wy2) (hrc : rm.cells = 0 ∧ rm.slots = 0) (hd : y.cls = C ∧ y.cls ≠ "java/lang/invoke/MethodHandle" ∧ y.cls ≠ "java/lang/invoke/VarHandle" ∧ (parseMethodDescriptor y.desc).map (fun d => d.parameters.length) = some n) (hR : rm.frames + 1 ≤ R.frames ∧ 8 + (maxL + 11) + rm.locals ≤ R.locals) (q0 : Nat) (he : (wd σ)[q0]? = some (b, .inr (ci, fs))) (hc : vwCl[ci]? = some q) (hq : q.1 = C) (hn : As.length = n) (hst : st = As.reverse ++ .ref b :: rest) (hcat : (rest.map fun v => v.category).sum ≤ 8) (d : decode cc pc = .ok (.invokevirtual index, 3)) (k : ∀ (τ : St), post τ → wm p l e R s m args below meth c G wd A nL Q τ lv (pc + 3) (.ref a0 :: rest)) : wm p l e R s m args below meth c G wd A nL Q σ lv pc st := fun H locs ls hP hS hl => by
  subst hst; subst hq
  exact va_callr (va_runV (As := As) (rest := rest) ⟨X.1, X.2.1, X.2.2.1, X.2.2.2.1, X.2.2.2.2.1⟩ hM (cwV n X.2.2.2.2.1 hg hwy hrc.1 hrc.2 hd hR) ⟨Pre.blind, va_recv X.2.2.2.2.2.2.1 hP hc he, fun U hU hW => ⟨rfl, by rw [hU]; exact hP, va_K.moved hW.alike X.2.2.2.2.2.2.1, X.2.2.2.2.2.2.2.1.warm hW⟩⟩ rfl hn hl.1 rfl (lv_room hcat) d ⟨Nat.zero_le _, Nat.zero_le _⟩) hS (fun q _ h => h) (fun q h => h) (fun u ra t H1 locs1 ht hvm hw1 hB hz1 hk1 hS1 => by
    obtain ⟨rfl, hB⟩ := hB
    exact k u hw1 H1 locs1 ls (ht ▸ hB) hS1 hl)
theorem wm_callSi (X : Cx p s m args meth c cc nL own ws G tys wd A) {y : MethodName} {wy wy2 : List Cond} {rm : Room} {bytes : ByteArray} {maxL n index : Nat} {ret : Option FieldType} {As : List Value} {post : Int32 → St → Prop} (hM : Ct l y wy rm G tys wd A As σ (Qi G wd A post)) (hg : GoodIn ws (va_wsS own index y wy)) (hwy : wy = Cond.code y bytes maxL ret :: wy2) (hrc : rm.cells = 0 ∧ rm.slots = 0) (hd : y.cls ≠ "java/lang/invoke/MethodHandle" ∧ y.cls ≠ "java/lang/invoke/VarHandle" ∧ (parseMethodDescriptor y.desc).map (fun d => d.parameters.length) = some n) (hR : rm.frames + 1 ≤ R.frames ∧ 8 + (maxL + 11) + rm.locals ≤ R.locals) (hn : As.length = n) (hst : st = As.reverse ++ rest) (hcat : (rest.map fun v => v.category).sum ≤ 8) (d : decode cc pc = .ok (.invokestatic index, 3)) (k : ∀ (r : Int32) (τ : St), post r τ → wm p l e R s m args below meth c G wd A nL Q τ lv (pc + 3) (.int r :: rest)) : wm p l e R s m args below meth c G wd A nL Q σ lv pc st := fun H locs ls hP hS hl => by
  subst hst
  exact va_calli (va_runS (As := As) (rest := rest) ⟨X.1, X.2.1, X.2.2.1, X.2.2.2.1, X.2.2.2.2.1⟩ hM (va_cwS n X.2.2.2.2.1 hg hwy hrc.1 hrc.2 hd hR) ⟨Pre.blind, fun U hU hW => ⟨rfl, by rw [hU]; exact hP, va_K.moved hW.alike X.2.2.2.2.2.2.1, X.2.2.2.2.2.2.2.1.warm hW⟩⟩ rfl hn hl.1 rfl (lv_room hcat) d ⟨Nat.zero_le _, Nat.zero_le _⟩) hS (fun q _ h => h) (fun q h => h) (fun r u t H1 locs1 ht hvm hw1 hB hz1 hk1 hS1 => k r u hw1 H1 locs1 ls (ht ▸ hB) hS1 hl)
theorem wm_callSl (X : Cx p s m args meth c cc nL own ws G tys wd A) {y : MethodName} {wy wy2 : List Cond} {rm : Room} {bytes : ByteArray} {maxL n index : Nat} {ret : Option FieldType} {As : List Value} {post : Int64 → St → Prop} (hM : Ct l y wy rm G tys wd A As σ (Ql G wd A post)) (hg : GoodIn ws (va_wsS own index y wy)) (hwy : wy = Cond.code y bytes maxL ret :: wy2) (hrc : rm.cells = 0 ∧ rm.slots = 0) (hd : y.cls ≠ "java/lang/invoke/MethodHandle" ∧ y.cls ≠ "java/lang/invoke/VarHandle" ∧ (parseMethodDescriptor y.desc).map (fun d => d.parameters.length) = some n) (hR : rm.frames + 1 ≤ R.frames ∧ 8 + (maxL + 11) + rm.locals ≤ R.locals) (hn : As.length = n) (hst : st = As.reverse ++ rest) (hcat : (rest.map fun v => v.category).sum ≤ 8) (d : decode cc pc = .ok (.invokestatic index, 3)) (k : ∀ (r : Int64) (τ : St), post r τ → wm p l e R s m args below meth c G wd A nL Q τ lv (pc + 3) (.long r :: rest)) : wm p l e R s m args below meth c G wd A nL Q σ lv pc st := fun H locs ls hP hS hl => by
  subst hst
  exact va_calll (va_runS (As := As) (rest := rest) ⟨X.1, X.2.1, X.2.2.1, X.2.2.2.1, X.2.2.2.2.1⟩ hM (va_cwS n X.2.2.2.2.1 hg hwy hrc.1 hrc.2 hd hR) ⟨Pre.blind, fun U hU hW => ⟨rfl, by rw [hU]; exact hP, va_K.moved hW.alike X.2.2.2.2.2.2.1, X.2.2.2.2.2.2.2.1.warm hW⟩⟩ rfl hn hl.1 rfl (lv_room hcat) d ⟨Nat.zero_le _, Nat.zero_le _⟩) hS (fun q _ h => h) (fun q h => h) (fun r u t H1 locs1 ht hvm hw1 hB hz1 hk1 hS1 => k r u hw1 H1 locs1 ls (ht ▸ hB) hS1 hl)
theorem wm_callSv (X : Cx p s m args meth c cc nL own ws G tys wd A) {y : MethodName} {wy wy2 : List Cond} {rm : Room} {bytes : ByteArray} {maxL n index : Nat} {ret : Option FieldType} {As : List Value} {post : St → Prop} (hM : Ct l y wy rm G tys wd A As σ (Qv G wd A post)) (hg : GoodIn ws (va_wsS own index y wy)) (hwy : wy = Cond.code y bytes maxL ret :: wy2) (hrc : rm.cells = 0 ∧ rm.slots = 0) (hd : y.cls ≠ "java/lang/invoke/MethodHandle" ∧ y.cls ≠ "java/lang/invoke/VarHandle" ∧ (parseMethodDescriptor y.desc).map (fun d => d.parameters.length) = some n) (hR : rm.frames + 1 ≤ R.frames ∧ 8 + (maxL + 11) + rm.locals ≤ R.locals) (hn : As.length = n) (hst : st = As.reverse ++ rest) (hcat : (rest.map fun v => v.category).sum ≤ 8) (d : decode cc pc = .ok (.invokestatic index, 3)) (k : ∀ (τ : St), post τ → wm p l e R s m args below meth c G wd A nL Q τ lv (pc + 3) rest) : wm p l e R s m args below meth c G wd A nL Q σ lv pc st := fun H locs ls hP hS hl => by
  subst hst
  exact va_callv (va_runS (As := As) (rest := rest) ⟨X.1, X.2.1, X.2.2.1, X.2.2.2.1, X.2.2.2.2.1⟩ hM (va_cwS n X.2.2.2.2.1 hg hwy hrc.1 hrc.2 hd hR) ⟨Pre.blind, fun U hU hW => ⟨rfl, by rw [hU]; exact hP, va_K.moved hW.alike X.2.2.2.2.2.2.1, X.2.2.2.2.2.2.2.1.warm hW⟩⟩ rfl hn hl.1 rfl (lv_room hcat) d ⟨Nat.zero_le _, Nat.zero_le _⟩) hS (fun q _ h => h) (fun q h => h) (fun u t H1 locs1 ht hvm hw1 hB hz1 hk1 hS1 => k u hw1 H1 locs1 ls (ht ▸ hB) hS1 hl)
theorem wm_callNi (X : Cx p s m args meth c cc nL own ws G tys wd A) {y : MethodName} {wy wy2 : List Cond} {rm : Room} {bytes : ByteArray} {maxL n index : Nat} {ret : Option FieldType} {As : List Value} {post : Int32 → St → Prop} (hM : Ct l y wy rm G tys wd A As σ (Qi G wd A post)) (hg : GoodIn ws wy) (hwy : wy = Cond.code y bytes maxL ret :: wy2) (hrc : rm.cells = 0 ∧ rm.slots = 0) (hnl : (own, index, y) ∈ NstL) (hini : Cond.initialized y.cls ∈ ws) (hsta : Cond.static y ∈ ws) (hd : y.cls ≠ "java/lang/invoke/MethodHandle" ∧ y.cls ≠ "java/lang/invoke/VarHandle" ∧ (parseMethodDescriptor y.desc).map (fun d => d.parameters.length) = some n) (hR : rm.frames + 1 ≤ R.frames ∧ 8 + (maxL + 11) + rm.locals ≤ R.locals) (hn : As.length = n) (hst : st = As.reverse ++ rest) (hcat : (rest.map fun v => v.category).sum ≤ 8) (d : decode cc pc = .ok (.invokestatic index, 3)) (k : ∀ (r : Int32) (τ : St), post r τ → wm p l e R s m args below meth c G wd A nL Q τ lv (pc + 3) (.int r :: rest)) : wm p l e R s m args below meth c G wd A nL Q σ lv pc st := fun H locs ls hP hS hl => by
  subst hst
  exact va_calli (va_runSN (As := As) (rest := rest) ⟨X.1, X.2.1, X.2.2.1, X.2.2.2.1, X.2.2.2.2.1⟩ hM ⟨va_cnB n X.2.2.2.2.1 hg hwy hrc.1 hrc.2 (X.2.2.2.2.2.2.2.1 _ hnl) (X.2.2.2.2.1 _ hini) hd hR, X.2.2.2.2.1 _ hsta, trivial⟩ ⟨Pre.blind, fun U hU hW => ⟨rfl, by rw [hU]; exact hP, va_K.moved hW.alike X.2.2.2.2.2.2.1, X.2.2.2.2.2.2.2.1.warm hW⟩⟩ rfl hn hl.1 rfl (lv_room hcat) d ⟨Nat.zero_le _, Nat.zero_le _⟩) hS (fun q _ h => h) (fun q h => h) (fun r u t H1 locs1 ht hvm hw1 hB hz1 hk1 hS1 => k r u hw1 H1 locs1 ls (ht ▸ hB) hS1 hl)
theorem wm_callNl (X : Cx p s m args meth c cc nL own ws G tys wd A) {y : MethodName} {wy wy2 : List Cond} {rm : Room} {bytes : ByteArray} {maxL n index : Nat} {ret : Option FieldType} {As : List Value} {post : Int64 → St → Prop} (hM : Ct l y wy rm G tys wd A As σ (Ql G wd A post)) (hg : GoodIn ws wy) (hwy : wy = Cond.code y bytes maxL ret :: wy2) (hrc : rm.cells = 0 ∧ rm.slots = 0) (hnl : (own, index, y) ∈ NstL) (hini : Cond.initialized y.cls ∈ ws) (hsta : Cond.static y ∈ ws) (hd : y.cls ≠ "java/lang/invoke/MethodHandle" ∧ y.cls ≠ "java/lang/invoke/VarHandle" ∧ (parseMethodDescriptor y.desc).map (fun d => d.parameters.length) = some n) (hR : rm.frames + 1 ≤ R.frames ∧ 8 + (maxL + 11) + rm.locals ≤ R.locals) (hn : As.length = n) (hst : st = As.reverse ++ rest) (hcat : (rest.map fun v => v.category).sum ≤ 8) (d : decode cc pc = .ok (.invokestatic index, 3)) (k : ∀ (r : Int64) (τ : St), post r τ → wm p l e R s m args below meth c G wd A nL Q τ lv (pc + 3) (.long r :: rest)) : wm p l e R s m args below meth c G wd A nL Q σ lv pc st := fun H locs ls hP hS hl => by
  subst hst
  exact va_calll (va_runSN (As := As) (rest := rest) ⟨X.1, X.2.1, X.2.2.1, X.2.2.2.1, X.2.2.2.2.1⟩ hM ⟨va_cnB n X.2.2.2.2.1 hg hwy hrc.1 hrc.2 (X.2.2.2.2.2.2.2.1 _ hnl) (X.2.2.2.2.1 _ hini) hd hR, X.2.2.2.2.1 _ hsta, trivial⟩ ⟨Pre.blind, fun U hU hW => ⟨rfl, by rw [hU]; exact hP, va_K.moved hW.alike X.2.2.2.2.2.2.1, X.2.2.2.2.2.2.2.1.warm hW⟩⟩ rfl hn hl.1 rfl (lv_room hcat) d ⟨Nat.zero_le _, Nat.zero_le _⟩) hS (fun q _ h => h) (fun q h => h) (fun r u t H1 locs1 ht hvm hw1 hB hz1 hk1 hS1 => k r u hw1 H1 locs1 ls (ht ▸ hB) hS1 hl)
theorem wm_callNv (X : Cx p s m args meth c cc nL own ws G tys wd A) {y : MethodName} {wy wy2 : List Cond} {rm : Room} {bytes : ByteArray} {maxL n index : Nat} {ret : Option FieldType} {As : List Value} {post : St → Prop} (hM : Ct l y wy rm G tys wd A As σ (Qv G wd A post)) (hg : GoodIn ws wy) (hwy : wy = Cond.code y bytes maxL ret :: wy2) (hrc : rm.cells = 0 ∧ rm.slots = 0) (hnl : (own, index, y) ∈ NstL) (hini : Cond.initialized y.cls ∈ ws) (hsta : Cond.static y ∈ ws) (hd : y.cls ≠ "java/lang/invoke/MethodHandle" ∧ y.cls ≠ "java/lang/invoke/VarHandle" ∧ (parseMethodDescriptor y.desc).map (fun d => d.parameters.length) = some n) (hR : rm.frames + 1 ≤ R.frames ∧ 8 + (maxL + 11) + rm.locals ≤ R.locals) (hn : As.length = n) (hst : st = As.reverse ++ rest) (hcat : (rest.map fun v => v.category).sum ≤ 8) (d : decode cc pc = .ok (.invokestatic index, 3)) (k : ∀ (τ : St), post τ → wm p l e R s m args below meth c G wd A nL Q τ lv (pc + 3) rest) : wm p l e R s m args below meth c G wd A nL Q σ lv pc st := fun H locs ls hP hS hl => by
  subst hst
  exact va_callv (va_runSN (As := As) (rest := rest) ⟨X.1, X.2.1, X.2.2.1, X.2.2.2.1, X.2.2.2.2.1⟩ hM ⟨va_cnB n X.2.2.2.2.1 hg hwy hrc.1 hrc.2 (X.2.2.2.2.2.2.2.1 _ hnl) (X.2.2.2.2.1 _ hini) hd hR, X.2.2.2.2.1 _ hsta, trivial⟩ ⟨Pre.blind, fun U hU hW => ⟨rfl, by rw [hU]; exact hP, va_K.moved hW.alike X.2.2.2.2.2.2.1, X.2.2.2.2.2.2.2.1.warm hW⟩⟩ rfl hn hl.1 rfl (lv_room hcat) d ⟨Nat.zero_le _, Nat.zero_le _⟩) hS (fun q _ h => h) (fun q h => h) (fun u t H1 locs1 ht hvm hw1 hB hz1 hk1 hS1 => k u hw1 H1 locs1 ls (ht ▸ hB) hS1 hl)
end BASE
end
