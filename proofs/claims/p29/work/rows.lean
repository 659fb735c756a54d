section
-- ===== PART A: goes FIRST, ahead of the names: the tables' words, and 'selects' of the private methods out of them =====
/-- a private method of a class that the tables say can be made, by its rows of tables_1 -/
def lw_okq (q : MethodName × Nat) : Prop := (q.1.cls ≠ "java/lang/invoke/MethodHandle" ∧ q.1.cls ≠ "java/lang/invoke/VarHandle") ∧ Cond.instantiable q.1.cls q.2 ∈ tables_1 ∧ Cond.privateMethod q.1 ∈ tables_1 ∧ Cond.instanceMethod q.1 ∈ tables_1
theorem lw_p0 : lw_okq (⟨"java/lang/Throwable", "fillInStackTrace", "(I)Ljava/lang/Throwable;"⟩, 6) := ⟨⟨by decide +kernel, by decide +kernel⟩, List.mem_of_getElem? (i := 213) (by decide +kernel), List.mem_of_getElem? (i := 211) (by decide +kernel), List.mem_of_getElem? (i := 212) (by decide +kernel)⟩
theorem lw_p1 : lw_okq (⟨"Shortring$Net", "lay", "(I)V"⟩, 2) := ⟨⟨by decide +kernel, by decide +kernel⟩, List.mem_of_getElem? (i := 25) (by decide +kernel), List.mem_of_getElem? (i := 243) (by decide +kernel), List.mem_of_getElem? (i := 244) (by decide +kernel)⟩
theorem lw_p2 : lw_okq (⟨"Shortring$Hunt", "end", "()V"⟩, 11) := ⟨⟨by decide +kernel, by decide +kernel⟩, List.mem_of_getElem? (i := 46) (by decide +kernel), List.mem_of_getElem? (i := 247) (by decide +kernel), List.mem_of_getElem? (i := 248) (by decide +kernel)⟩
theorem lw_p3 : lw_okq (⟨"Shortring$Ledger", "look", "(LShortring$Net;)V"⟩, 2) := ⟨⟨by decide +kernel, by decide +kernel⟩, List.mem_of_getElem? (i := 93) (by decide +kernel), List.mem_of_getElem? (i := 251) (by decide +kernel), List.mem_of_getElem? (i := 252) (by decide +kernel)⟩
theorem lw_p4 : lw_okq (⟨"Shortring$Net", "evenCount", "()I"⟩, 2) := ⟨⟨by decide +kernel, by decide +kernel⟩, List.mem_of_getElem? (i := 25) (by decide +kernel), List.mem_of_getElem? (i := 255) (by decide +kernel), List.mem_of_getElem? (i := 256) (by decide +kernel)⟩
theorem lw_p5 : lw_okq (⟨"Shortring$Net", "countOf", "(I)I"⟩, 2) := ⟨⟨by decide +kernel, by decide +kernel⟩, List.mem_of_getElem? (i := 25) (by decide +kernel), List.mem_of_getElem? (i := 259) (by decide +kernel), List.mem_of_getElem? (i := 260) (by decide +kernel)⟩
theorem lw_p6 : lw_okq (⟨"Shortring$Net", "nearOf", "(I)I"⟩, 2) := ⟨⟨by decide +kernel, by decide +kernel⟩, List.mem_of_getElem? (i := 25) (by decide +kernel), List.mem_of_getElem? (i := 263) (by decide +kernel), List.mem_of_getElem? (i := 264) (by decide +kernel)⟩
theorem lw_p7 : lw_okq (⟨"Shortring$Net", "isNear", "(II)Z"⟩, 2) := ⟨⟨by decide +kernel, by decide +kernel⟩, List.mem_of_getElem? (i := 25) (by decide +kernel), List.mem_of_getElem? (i := 280) (by decide +kernel), List.mem_of_getElem? (i := 281) (by decide +kernel)⟩
theorem lw_p8 : lw_okq (⟨"Shortring$Ledger", "tablePlace", "(II)I"⟩, 2) := ⟨⟨by decide +kernel, by decide +kernel⟩, List.mem_of_getElem? (i := 93) (by decide +kernel), List.mem_of_getElem? (i := 305) (by decide +kernel), List.mem_of_getElem? (i := 306) (by decide +kernel)⟩
theorem lw_p9 : lw_okq (⟨"Shortring$Hunt", "nextKnot", "(LShortring$Net;)I"⟩, 11) := ⟨⟨by decide +kernel, by decide +kernel⟩, List.mem_of_getElem? (i := 46) (by decide +kernel), List.mem_of_getElem? (i := 314) (by decide +kernel), List.mem_of_getElem? (i := 315) (by decide +kernel)⟩
theorem lw_p10 : lw_okq (⟨"Shortring$Hunt", "needy", "(LShortring$Net;)I"⟩, 11) := ⟨⟨by decide +kernel, by decide +kernel⟩, List.mem_of_getElem? (i := 46) (by decide +kernel), List.mem_of_getElem? (i := 318) (by decide +kernel), List.mem_of_getElem? (i := 319) (by decide +kernel)⟩
theorem lw_p11 : lw_okq (⟨"Shortring$Hunt", "joinableOf", "(LShortring$Net;II)I"⟩, 11) := ⟨⟨by decide +kernel, by decide +kernel⟩, List.mem_of_getElem? (i := 46) (by decide +kernel), List.mem_of_getElem? (i := 325) (by decide +kernel), List.mem_of_getElem? (i := 326) (by decide +kernel)⟩
theorem lw_p12 : lw_okq (⟨"Shortring$Hunt", "partnerOf", "(LShortring$Net;I)I"⟩, 11) := ⟨⟨by decide +kernel, by decide +kernel⟩, List.mem_of_getElem? (i := 46) (by decide +kernel), List.mem_of_getElem? (i := 333) (by decide +kernel), List.mem_of_getElem? (i := 334) (by decide +kernel)⟩
theorem lw_p13 : lw_okq (⟨"Shortring$Net", "edgesInAll", "()I"⟩, 2) := ⟨⟨by decide +kernel, by decide +kernel⟩, List.mem_of_getElem? (i := 25) (by decide +kernel), List.mem_of_getElem? (i := 346) (by decide +kernel), List.mem_of_getElem? (i := 347) (by decide +kernel)⟩
theorem lw_p14 : lw_okq (⟨"Shortring$Paint", "fewest", "(LShortring$Net;)I"⟩, 1) := ⟨⟨by decide +kernel, by decide +kernel⟩, List.mem_of_getElem? (i := 127) (by decide +kernel), List.mem_of_getElem? (i := 369) (by decide +kernel), List.mem_of_getElem? (i := 370) (by decide +kernel)⟩
theorem lw_p15 : lw_okq (⟨"Shortring$Paint", "fewestOf", "(LShortring$Net;II)I"⟩, 1) := ⟨⟨by decide +kernel, by decide +kernel⟩, List.mem_of_getElem? (i := 127) (by decide +kernel), List.mem_of_getElem? (i := 376) (by decide +kernel), List.mem_of_getElem? (i := 377) (by decide +kernel)⟩
def lw_privs_1 : List (MethodName × Nat) := [(⟨"java/lang/Throwable", "fillInStackTrace", "(I)Ljava/lang/Throwable;"⟩, 6), (⟨"Shortring$Net", "lay", "(I)V"⟩, 2), (⟨"Shortring$Hunt", "end", "()V"⟩, 11), (⟨"Shortring$Ledger", "look", "(LShortring$Net;)V"⟩, 2), (⟨"Shortring$Net", "evenCount", "()I"⟩, 2), (⟨"Shortring$Net", "countOf", "(I)I"⟩, 2), (⟨"Shortring$Net", "nearOf", "(I)I"⟩, 2), (⟨"Shortring$Net", "isNear", "(II)Z"⟩, 2), (⟨"Shortring$Ledger", "tablePlace", "(II)I"⟩, 2), (⟨"Shortring$Hunt", "nextKnot", "(LShortring$Net;)I"⟩, 11), (⟨"Shortring$Hunt", "needy", "(LShortring$Net;)I"⟩, 11), (⟨"Shortring$Hunt", "joinableOf", "(LShortring$Net;II)I"⟩, 11), (⟨"Shortring$Hunt", "partnerOf", "(LShortring$Net;I)I"⟩, 11), (⟨"Shortring$Net", "edgesInAll", "()I"⟩, 2), (⟨"Shortring$Paint", "fewest", "(LShortring$Net;)I"⟩, 1), (⟨"Shortring$Paint", "fewestOf", "(LShortring$Net;II)I"⟩, 1)]
theorem lw_r1 : ∀ q ∈ lw_privs_1, lw_okq q := List.forall_mem_cons.mpr ⟨lw_p0, List.forall_mem_cons.mpr ⟨lw_p1, List.forall_mem_cons.mpr ⟨lw_p2, List.forall_mem_cons.mpr ⟨lw_p3, List.forall_mem_cons.mpr ⟨lw_p4, List.forall_mem_cons.mpr ⟨lw_p5, List.forall_mem_cons.mpr ⟨lw_p6, List.forall_mem_cons.mpr ⟨lw_p7, List.forall_mem_cons.mpr ⟨lw_p8, List.forall_mem_cons.mpr ⟨lw_p9, List.forall_mem_cons.mpr ⟨lw_p10, List.forall_mem_cons.mpr ⟨lw_p11, List.forall_mem_cons.mpr ⟨lw_p12, List.forall_mem_cons.mpr ⟨lw_p13, List.forall_mem_cons.mpr ⟨lw_p14, List.forall_mem_cons.mpr ⟨lw_p15, fun _ h => absurd h List.not_mem_nil⟩⟩⟩⟩⟩⟩⟩⟩⟩⟩⟩⟩⟩⟩⟩⟩
theorem lw_p16 : lw_okq (⟨"Shortring$Likeness", "turnsOf", "(LShortring$Net;)I"⟩, 4) := ⟨⟨by decide +kernel, by decide +kernel⟩, List.mem_of_getElem? (i := 106) (by decide +kernel), List.mem_of_getElem? (i := 388) (by decide +kernel), List.mem_of_getElem? (i := 389) (by decide +kernel)⟩
theorem lw_p17 : lw_okq (⟨"Shortring$Net", "take", "(LShortring$Net;)V"⟩, 2) := ⟨⟨by decide +kernel, by decide +kernel⟩, List.mem_of_getElem? (i := 25) (by decide +kernel), List.mem_of_getElem? (i := 392) (by decide +kernel), List.mem_of_getElem? (i := 393) (by decide +kernel)⟩
theorem lw_p18 : lw_okq (⟨"Shortring$Likeness", "partsLike", "(II)I"⟩, 4) := ⟨⟨by decide +kernel, by decide +kernel⟩, List.mem_of_getElem? (i := 106) (by decide +kernel), List.mem_of_getElem? (i := 398) (by decide +kernel), List.mem_of_getElem? (i := 399) (by decide +kernel)⟩
theorem lw_p19 : lw_okq (⟨"Shortring$Likeness", "waysOf", "(III)I"⟩, 4) := ⟨⟨by decide +kernel, by decide +kernel⟩, List.mem_of_getElem? (i := 106) (by decide +kernel), List.mem_of_getElem? (i := 402) (by decide +kernel), List.mem_of_getElem? (i := 403) (by decide +kernel)⟩
theorem lw_p20 : lw_okq (⟨"Shortring$Likeness", "nextToPlace", "(I)I"⟩, 4) := ⟨⟨by decide +kernel, by decide +kernel⟩, List.mem_of_getElem? (i := 106) (by decide +kernel), List.mem_of_getElem? (i := 410) (by decide +kernel), List.mem_of_getElem? (i := 411) (by decide +kernel)⟩
theorem lw_p21 : lw_okq (⟨"Shortring$Likeness", "fitting", "(II)I"⟩, 4) := ⟨⟨by decide +kernel, by decide +kernel⟩, List.mem_of_getElem? (i := 106) (by decide +kernel), List.mem_of_getElem? (i := 415) (by decide +kernel), List.mem_of_getElem? (i := 416) (by decide +kernel)⟩
theorem lw_p22 : lw_okq (⟨"Shortring$Likeness", "place", "(II)V"⟩, 4) := ⟨⟨by decide +kernel, by decide +kernel⟩, List.mem_of_getElem? (i := 106) (by decide +kernel), List.mem_of_getElem? (i := 420) (by decide +kernel), List.mem_of_getElem? (i := 421) (by decide +kernel)⟩
theorem lw_p23 : lw_okq (⟨"Shortring$Net", "loneliest", "()I"⟩, 2) := ⟨⟨by decide +kernel, by decide +kernel⟩, List.mem_of_getElem? (i := 25) (by decide +kernel), List.mem_of_getElem? (i := 425) (by decide +kernel), List.mem_of_getElem? (i := 426) (by decide +kernel)⟩
theorem lw_p24 : lw_okq (⟨"Shortring$Net", "isKnot", "(I)Z"⟩, 2) := ⟨⟨by decide +kernel, by decide +kernel⟩, List.mem_of_getElem? (i := 25) (by decide +kernel), List.mem_of_getElem? (i := 434) (by decide +kernel), List.mem_of_getElem? (i := 435) (by decide +kernel)⟩
theorem lw_p25 : lw_okq (⟨"Shortring$Hunt", "joinable", "(LShortring$Net;I)I"⟩, 11) := ⟨⟨by decide +kernel, by decide +kernel⟩, List.mem_of_getElem? (i := 46) (by decide +kernel), List.mem_of_getElem? (i := 462) (by decide +kernel), List.mem_of_getElem? (i := 463) (by decide +kernel)⟩
theorem lw_p26 : lw_okq (⟨"Shortring", "requireTabled", "(II)V"⟩, 10) := ⟨⟨by decide +kernel, by decide +kernel⟩, List.mem_of_getElem? (i := 17) (by decide +kernel), List.mem_of_getElem? (i := 470) (by decide +kernel), List.mem_of_getElem? (i := 471) (by decide +kernel)⟩
theorem lw_p27 : lw_okq (⟨"Shortring$Net", "isMutual", "()Z"⟩, 2) := ⟨⟨by decide +kernel, by decide +kernel⟩, List.mem_of_getElem? (i := 25) (by decide +kernel), List.mem_of_getElem? (i := 483) (by decide +kernel), List.mem_of_getElem? (i := 484) (by decide +kernel)⟩
theorem lw_p28 : lw_okq (⟨"Shortring", "isAimSound", "()Z"⟩, 10) := ⟨⟨by decide +kernel, by decide +kernel⟩, List.mem_of_getElem? (i := 17) (by decide +kernel), List.mem_of_getElem? (i := 488) (by decide +kernel), List.mem_of_getElem? (i := 489) (by decide +kernel)⟩
theorem lw_p29 : lw_okq (⟨"Shortring", "isEvenSound", "()Z"⟩, 10) := ⟨⟨by decide +kernel, by decide +kernel⟩, List.mem_of_getElem? (i := 17) (by decide +kernel), List.mem_of_getElem? (i := 492) (by decide +kernel), List.mem_of_getElem? (i := 493) (by decide +kernel)⟩
theorem lw_p30 : lw_okq (⟨"Shortring$Ledger", "why", "(III)I"⟩, 2) := ⟨⟨by decide +kernel, by decide +kernel⟩, List.mem_of_getElem? (i := 93) (by decide +kernel), List.mem_of_getElem? (i := 496) (by decide +kernel), List.mem_of_getElem? (i := 497) (by decide +kernel)⟩
theorem lw_p31 : lw_okq (⟨"Shortring$Ledger", "isProved", "(III)Z"⟩, 2) := ⟨⟨by decide +kernel, by decide +kernel⟩, List.mem_of_getElem? (i := 93) (by decide +kernel), List.mem_of_getElem? (i := 501) (by decide +kernel), List.mem_of_getElem? (i := 502) (by decide +kernel)⟩
def lw_privs_2 : List (MethodName × Nat) := [(⟨"Shortring$Likeness", "turnsOf", "(LShortring$Net;)I"⟩, 4), (⟨"Shortring$Net", "take", "(LShortring$Net;)V"⟩, 2), (⟨"Shortring$Likeness", "partsLike", "(II)I"⟩, 4), (⟨"Shortring$Likeness", "waysOf", "(III)I"⟩, 4), (⟨"Shortring$Likeness", "nextToPlace", "(I)I"⟩, 4), (⟨"Shortring$Likeness", "fitting", "(II)I"⟩, 4), (⟨"Shortring$Likeness", "place", "(II)V"⟩, 4), (⟨"Shortring$Net", "loneliest", "()I"⟩, 2), (⟨"Shortring$Net", "isKnot", "(I)Z"⟩, 2), (⟨"Shortring$Hunt", "joinable", "(LShortring$Net;I)I"⟩, 11), (⟨"Shortring", "requireTabled", "(II)V"⟩, 10), (⟨"Shortring$Net", "isMutual", "()Z"⟩, 2), (⟨"Shortring", "isAimSound", "()Z"⟩, 10), (⟨"Shortring", "isEvenSound", "()Z"⟩, 10), (⟨"Shortring$Ledger", "why", "(III)I"⟩, 2), (⟨"Shortring$Ledger", "isProved", "(III)Z"⟩, 2)]
theorem lw_r2 : ∀ q ∈ lw_privs_2, lw_okq q := List.forall_mem_cons.mpr ⟨lw_p16, List.forall_mem_cons.mpr ⟨lw_p17, List.forall_mem_cons.mpr ⟨lw_p18, List.forall_mem_cons.mpr ⟨lw_p19, List.forall_mem_cons.mpr ⟨lw_p20, List.forall_mem_cons.mpr ⟨lw_p21, List.forall_mem_cons.mpr ⟨lw_p22, List.forall_mem_cons.mpr ⟨lw_p23, List.forall_mem_cons.mpr ⟨lw_p24, List.forall_mem_cons.mpr ⟨lw_p25, List.forall_mem_cons.mpr ⟨lw_p26, List.forall_mem_cons.mpr ⟨lw_p27, List.forall_mem_cons.mpr ⟨lw_p28, List.forall_mem_cons.mpr ⟨lw_p29, List.forall_mem_cons.mpr ⟨lw_p30, List.forall_mem_cons.mpr ⟨lw_p31, fun _ h => absurd h List.not_mem_nil⟩⟩⟩⟩⟩⟩⟩⟩⟩⟩⟩⟩⟩⟩⟩⟩
theorem lw_p32 : lw_okq (⟨"Shortring$Ledger", "proofPlace", "(II)I"⟩, 2) := ⟨⟨by decide +kernel, by decide +kernel⟩, List.mem_of_getElem? (i := 93) (by decide +kernel), List.mem_of_getElem? (i := 505) (by decide +kernel), List.mem_of_getElem? (i := 506) (by decide +kernel)⟩
theorem lw_p33 : lw_okq (⟨"Shortring$Ledger", "isTableSound", "()Z"⟩, 2) := ⟨⟨by decide +kernel, by decide +kernel⟩, List.mem_of_getElem? (i := 93) (by decide +kernel), List.mem_of_getElem? (i := 509) (by decide +kernel), List.mem_of_getElem? (i := 510) (by decide +kernel)⟩
theorem lw_p34 : lw_okq (⟨"Shortring$Ledger", "smallestOf", "(II)I"⟩, 2) := ⟨⟨by decide +kernel, by decide +kernel⟩, List.mem_of_getElem? (i := 93) (by decide +kernel), List.mem_of_getElem? (i := 513) (by decide +kernel), List.mem_of_getElem? (i := 514) (by decide +kernel)⟩
theorem lw_p35 : lw_okq (⟨"Shortring$Ledger", "nextOf", "(II)I"⟩, 2) := ⟨⟨by decide +kernel, by decide +kernel⟩, List.mem_of_getElem? (i := 93) (by decide +kernel), List.mem_of_getElem? (i := 518) (by decide +kernel), List.mem_of_getElem? (i := 519) (by decide +kernel)⟩
theorem lw_p36 : lw_okq (⟨"Shortring", "digestOfKnots", "(J)J"⟩, 10) := ⟨⟨by decide +kernel, by decide +kernel⟩, List.mem_of_getElem? (i := 17) (by decide +kernel), List.mem_of_getElem? (i := 530) (by decide +kernel), List.mem_of_getElem? (i := 531) (by decide +kernel)⟩
theorem lw_p37 : lw_okq (⟨"Shortring", "digestOfEdges", "(J)J"⟩, 10) := ⟨⟨by decide +kernel, by decide +kernel⟩, List.mem_of_getElem? (i := 17) (by decide +kernel), List.mem_of_getElem? (i := 535) (by decide +kernel), List.mem_of_getElem? (i := 536) (by decide +kernel)⟩
theorem lw_p38 : lw_okq (⟨"Shortring$Net", "edgeAt", "(I)I"⟩, 2) := ⟨⟨by decide +kernel, by decide +kernel⟩, List.mem_of_getElem? (i := 25) (by decide +kernel), List.mem_of_getElem? (i := 543) (by decide +kernel), List.mem_of_getElem? (i := 544) (by decide +kernel)⟩
theorem lw_p39 : lw_okq (⟨"Shortring", "countRings", "(I)V"⟩, 10) := ⟨⟨by decide +kernel, by decide +kernel⟩, List.mem_of_getElem? (i := 17) (by decide +kernel), List.mem_of_getElem? (i := 568) (by decide +kernel), List.mem_of_getElem? (i := 569) (by decide +kernel)⟩
theorem lw_p40 : lw_okq (⟨"Shortring", "tallied", "(I)I"⟩, 10) := ⟨⟨by decide +kernel, by decide +kernel⟩, List.mem_of_getElem? (i := 17) (by decide +kernel), List.mem_of_getElem? (i := 577) (by decide +kernel), List.mem_of_getElem? (i := 578) (by decide +kernel)⟩
theorem lw_p41 : lw_okq (⟨"Shortring", "digestOfTable", "(J)J"⟩, 10) := ⟨⟨by decide +kernel, by decide +kernel⟩, List.mem_of_getElem? (i := 17) (by decide +kernel), List.mem_of_getElem? (i := 581) (by decide +kernel), List.mem_of_getElem? (i := 582) (by decide +kernel)⟩
theorem lw_p42 : lw_okq (⟨"Shortring", "keptAt", "(I)LShortring$Net;"⟩, 10) := ⟨⟨by decide +kernel, by decide +kernel⟩, List.mem_of_getElem? (i := 17) (by decide +kernel), List.mem_of_getElem? (i := 595) (by decide +kernel), List.mem_of_getElem? (i := 596) (by decide +kernel)⟩
theorem lw_p43 : lw_okq (⟨"Shortring$Likeness", "areAlike", "(LShortring$Net;LShortring$Net;)Z"⟩, 4) := ⟨⟨by decide +kernel, by decide +kernel⟩, List.mem_of_getElem? (i := 106) (by decide +kernel), List.mem_of_getElem? (i := 600) (by decide +kernel), List.mem_of_getElem? (i := 601) (by decide +kernel)⟩
theorem lw_p44 : lw_okq (⟨"Shortring$Likeness", "partMatching", "(II)I"⟩, 4) := ⟨⟨by decide +kernel, by decide +kernel⟩, List.mem_of_getElem? (i := 106) (by decide +kernel), List.mem_of_getElem? (i := 605) (by decide +kernel), List.mem_of_getElem? (i := 606) (by decide +kernel)⟩
theorem lw_p45 : lw_okq (⟨"Shortring$Net", "join", "(II)V"⟩, 2) := ⟨⟨by decide +kernel, by decide +kernel⟩, List.mem_of_getElem? (i := 25) (by decide +kernel), List.mem_of_getElem? (i := 646) (by decide +kernel), List.mem_of_getElem? (i := 647) (by decide +kernel)⟩
theorem lw_p46 : lw_okq (⟨"Shortring$Net", "loosen", "(II)V"⟩, 2) := ⟨⟨by decide +kernel, by decide +kernel⟩, List.mem_of_getElem? (i := 25) (by decide +kernel), List.mem_of_getElem? (i := 651) (by decide +kernel), List.mem_of_getElem? (i := 652) (by decide +kernel)⟩
theorem lw_p47 : lw_okq (⟨"Shortring", "layByJumps", "(II)V"⟩, 10) := ⟨⟨by decide +kernel, by decide +kernel⟩, List.mem_of_getElem? (i := 17) (by decide +kernel), List.mem_of_getElem? (i := 663) (by decide +kernel), List.mem_of_getElem? (i := 664) (by decide +kernel)⟩
def lw_privs_3 : List (MethodName × Nat) := [(⟨"Shortring$Ledger", "proofPlace", "(II)I"⟩, 2), (⟨"Shortring$Ledger", "isTableSound", "()Z"⟩, 2), (⟨"Shortring$Ledger", "smallestOf", "(II)I"⟩, 2), (⟨"Shortring$Ledger", "nextOf", "(II)I"⟩, 2), (⟨"Shortring", "digestOfKnots", "(J)J"⟩, 10), (⟨"Shortring", "digestOfEdges", "(J)J"⟩, 10), (⟨"Shortring$Net", "edgeAt", "(I)I"⟩, 2), (⟨"Shortring", "countRings", "(I)V"⟩, 10), (⟨"Shortring", "tallied", "(I)I"⟩, 10), (⟨"Shortring", "digestOfTable", "(J)J"⟩, 10), (⟨"Shortring", "keptAt", "(I)LShortring$Net;"⟩, 10), (⟨"Shortring$Likeness", "areAlike", "(LShortring$Net;LShortring$Net;)Z"⟩, 4), (⟨"Shortring$Likeness", "partMatching", "(II)I"⟩, 4), (⟨"Shortring$Net", "join", "(II)V"⟩, 2), (⟨"Shortring$Net", "loosen", "(II)V"⟩, 2), (⟨"Shortring", "layByJumps", "(II)V"⟩, 10)]
theorem lw_r3 : ∀ q ∈ lw_privs_3, lw_okq q := List.forall_mem_cons.mpr ⟨lw_p32, List.forall_mem_cons.mpr ⟨lw_p33, List.forall_mem_cons.mpr ⟨lw_p34, List.forall_mem_cons.mpr ⟨lw_p35, List.forall_mem_cons.mpr ⟨lw_p36, List.forall_mem_cons.mpr ⟨lw_p37, List.forall_mem_cons.mpr ⟨lw_p38, List.forall_mem_cons.mpr ⟨lw_p39, List.forall_mem_cons.mpr ⟨lw_p40, List.forall_mem_cons.mpr ⟨lw_p41, List.forall_mem_cons.mpr ⟨lw_p42, List.forall_mem_cons.mpr ⟨lw_p43, List.forall_mem_cons.mpr ⟨lw_p44, List.forall_mem_cons.mpr ⟨lw_p45, List.forall_mem_cons.mpr ⟨lw_p46, List.forall_mem_cons.mpr ⟨lw_p47, fun _ h => absurd h List.not_mem_nil⟩⟩⟩⟩⟩⟩⟩⟩⟩⟩⟩⟩⟩⟩⟩⟩
theorem lw_p48 : lw_okq (⟨"Shortring", "layDouble", "(I)V"⟩, 10) := ⟨⟨by decide +kernel, by decide +kernel⟩, List.mem_of_getElem? (i := 17) (by decide +kernel), List.mem_of_getElem? (i := 677) (by decide +kernel), List.mem_of_getElem? (i := 678) (by decide +kernel)⟩
theorem lw_p49 : lw_okq (⟨"Shortring", "canExchange", "(II)Z"⟩, 10) := ⟨⟨by decide +kernel, by decide +kernel⟩, List.mem_of_getElem? (i := 17) (by decide +kernel), List.mem_of_getElem? (i := 690) (by decide +kernel), List.mem_of_getElem? (i := 691) (by decide +kernel)⟩
theorem lw_p50 : lw_okq (⟨"Shortring", "exchange", "(II)V"⟩, 10) := ⟨⟨by decide +kernel, by decide +kernel⟩, List.mem_of_getElem? (i := 17) (by decide +kernel), List.mem_of_getElem? (i := 694) (by decide +kernel), List.mem_of_getElem? (i := 695) (by decide +kernel)⟩
theorem lw_p51 : lw_okq (⟨"Shortring", "mendByRounds", "(III)I"⟩, 10) := ⟨⟨by decide +kernel, by decide +kernel⟩, List.mem_of_getElem? (i := 17) (by decide +kernel), List.mem_of_getElem? (i := 706) (by decide +kernel), List.mem_of_getElem? (i := 707) (by decide +kernel)⟩
theorem lw_p52 : lw_okq (⟨"Shortring", "shortRings", "(I)I"⟩, 10) := ⟨⟨by decide +kernel, by decide +kernel⟩, List.mem_of_getElem? (i := 17) (by decide +kernel), List.mem_of_getElem? (i := 710) (by decide +kernel), List.mem_of_getElem? (i := 711) (by decide +kernel)⟩
theorem lw_p53 : lw_okq (⟨"Shortring$Hunt", "begin", "(II)V"⟩, 11) := ⟨⟨by decide +kernel, by decide +kernel⟩, List.mem_of_getElem? (i := 46) (by decide +kernel), List.mem_of_getElem? (i := 721) (by decide +kernel), List.mem_of_getElem? (i := 722) (by decide +kernel)⟩
theorem lw_p54 : lw_okq (⟨"Shortring$Hunt", "unbarDownTo", "(I)V"⟩, 11) := ⟨⟨by decide +kernel, by decide +kernel⟩, List.mem_of_getElem? (i := 46) (by decide +kernel), List.mem_of_getElem? (i := 725) (by decide +kernel), List.mem_of_getElem? (i := 726) (by decide +kernel)⟩
theorem lw_p55 : lw_okq (⟨"Shortring$Hunt", "flipBar", "(II)V"⟩, 11) := ⟨⟨by decide +kernel, by decide +kernel⟩, List.mem_of_getElem? (i := 46) (by decide +kernel), List.mem_of_getElem? (i := 731) (by decide +kernel), List.mem_of_getElem? (i := 732) (by decide +kernel)⟩
theorem lw_p56 : lw_okq (⟨"Shortring$Hunt", "step", "(LShortring$Net;)V"⟩, 11) := ⟨⟨by decide +kernel, by decide +kernel⟩, List.mem_of_getElem? (i := 46) (by decide +kernel), List.mem_of_getElem? (i := 741) (by decide +kernel), List.mem_of_getElem? (i := 742) (by decide +kernel)⟩
theorem lw_p57 : lw_okq (⟨"Shortring$Hunt", "goBack", "(LShortring$Net;)V"⟩, 11) := ⟨⟨by decide +kernel, by decide +kernel⟩, List.mem_of_getElem? (i := 46) (by decide +kernel), List.mem_of_getElem? (i := 747) (by decide +kernel), List.mem_of_getElem? (i := 748) (by decide +kernel)⟩
theorem lw_p58 : lw_okq (⟨"Shortring$Hunt", "bar", "(I)V"⟩, 11) := ⟨⟨by decide +kernel, by decide +kernel⟩, List.mem_of_getElem? (i := 46) (by decide +kernel), List.mem_of_getElem? (i := 752) (by decide +kernel), List.mem_of_getElem? (i := 753) (by decide +kernel)⟩
theorem lw_p59 : lw_okq (⟨"Shortring$Hunt", "put", "(LShortring$Net;II)V"⟩, 11) := ⟨⟨by decide +kernel, by decide +kernel⟩, List.mem_of_getElem? (i := 46) (by decide +kernel), List.mem_of_getElem? (i := 756) (by decide +kernel), List.mem_of_getElem? (i := 757) (by decide +kernel)⟩
theorem lw_p60 : lw_okq (⟨"Shortring$Ledger", "prove", "(III)V"⟩, 2) := ⟨⟨by decide +kernel, by decide +kernel⟩, List.mem_of_getElem? (i := 93) (by decide +kernel), List.mem_of_getElem? (i := 762) (by decide +kernel), List.mem_of_getElem? (i := 763) (by decide +kernel)⟩
def lw_privs_4 : List (MethodName × Nat) := [(⟨"Shortring", "layDouble", "(I)V"⟩, 10), (⟨"Shortring", "canExchange", "(II)Z"⟩, 10), (⟨"Shortring", "exchange", "(II)V"⟩, 10), (⟨"Shortring", "mendByRounds", "(III)I"⟩, 10), (⟨"Shortring", "shortRings", "(I)I"⟩, 10), (⟨"Shortring$Hunt", "begin", "(II)V"⟩, 11), (⟨"Shortring$Hunt", "unbarDownTo", "(I)V"⟩, 11), (⟨"Shortring$Hunt", "flipBar", "(II)V"⟩, 11), (⟨"Shortring$Hunt", "step", "(LShortring$Net;)V"⟩, 11), (⟨"Shortring$Hunt", "goBack", "(LShortring$Net;)V"⟩, 11), (⟨"Shortring$Hunt", "bar", "(I)V"⟩, 11), (⟨"Shortring$Hunt", "put", "(LShortring$Net;II)V"⟩, 11), (⟨"Shortring$Ledger", "prove", "(III)V"⟩, 2)]
theorem lw_r4 : ∀ q ∈ lw_privs_4, lw_okq q := List.forall_mem_cons.mpr ⟨lw_p48, List.forall_mem_cons.mpr ⟨lw_p49, List.forall_mem_cons.mpr ⟨lw_p50, List.forall_mem_cons.mpr ⟨lw_p51, List.forall_mem_cons.mpr ⟨lw_p52, List.forall_mem_cons.mpr ⟨lw_p53, List.forall_mem_cons.mpr ⟨lw_p54, List.forall_mem_cons.mpr ⟨lw_p55, List.forall_mem_cons.mpr ⟨lw_p56, List.forall_mem_cons.mpr ⟨lw_p57, List.forall_mem_cons.mpr ⟨lw_p58, List.forall_mem_cons.mpr ⟨lw_p59, List.forall_mem_cons.mpr ⟨lw_p60, fun _ h => absurd h List.not_mem_nil⟩⟩⟩⟩⟩⟩⟩⟩⟩⟩⟩⟩⟩
def lw_privs : List (MethodName × Nat) := lw_privs_1 ++ (lw_privs_2 ++ (lw_privs_3 ++ (lw_privs_4)))
def lw_tbl : List Cond := k2_sels lw_privs ++ tables_1
theorem lw_privs_ok : ∀ q ∈ lw_privs, lw_okq q := by
  show ∀ q ∈ lw_privs_1 ++ (lw_privs_2 ++ (lw_privs_3 ++ (lw_privs_4))), lw_okq q
  exact List.forall_mem_append.mpr ⟨lw_r1, List.forall_mem_append.mpr ⟨lw_r2, List.forall_mem_append.mpr ⟨lw_r3, lw_r4⟩⟩⟩
-- ===== end of PART A; then your names; then what follows =====
end
section
/-! ===== BEGIN words of one list among another's, by their places ===== -/
theorem goodIn_r {big : List Cond} (ws : List Cond) (ps : List Nat) (hp : ws = ps.filterMap (fun i => big[i]?)) (h : ws.all goodWord = true) : GoodIn big ws := by
  intro w hw
  have h1 := List.all_eq_true.mp h w hw
  rw [hp] at hw
  obtain ⟨i, -, hi⟩ := List.mem_filterMap.mp hw
  have hm : w ∈ big := by first | exact List.mem_of_getElem? hi | exact List.getElem?_mem hi
  exact ⟨hm, good_of_word h1⟩
theorem goodIn_app {big a b : List Cond} (ha : GoodIn big a) (hb : GoodIn big b) : GoodIn big (a ++ b) := fun w h => (List.mem_append.mp h).elim (ha w) (hb w)
theorem goodIn_ca {big a b : List Cond} {c : Cond} (ha : GoodIn big (c :: a)) (hb : GoodIn big b) : GoodIn big (c :: (a ++ b)) := fun w h => (List.mem_cons.mp h).elim (fun e => ha w (List.mem_cons.mpr (Or.inl e))) (fun h => (List.mem_append.mp h).elim (fun h => ha w (List.mem_cons.mpr (Or.inr h))) (hb w))
theorem goodIn_sub {big ws : List Cond} (hm : ∀ w ∈ ws, w ∈ big) (h : ws.all goodWord = true) : GoodIn big ws := fun w hw => ⟨hm w hw, good_of_word (List.all_eq_true.mp h w hw)⟩
/-! ===== END ===== -/

/-! ===== BEGIN exceptions that leave a method, and their catching by the caller (launches without stack traces) ===== -/
section VXA
/-! The laws vx_back, vx_callV, vx_callS, vx_callSW, vx_throw0, vx_throwS follow proofs of the library, with one case more: JvmDerived/Free/Laws.lean (Back.of_free), Shelf42/LK1.lean (callV, callS), Shelf/KitTraced.lean (throwNew0V, throwNewS). -/
/-- where a method has thrown q: the class by its name, the cell, what was written, the world -/
def vx_T (XC : String → State → State → Prop) (st : State) (q : Addr) (t : State) (mc ms : Nat) (free : Addr → Prop) : Prop :=
  ∃ (E : String) (ce : Cell) (L : List Loc), XC E st t ∧ t.heap[q]? = some ce ∧ ce.vm = .none ∧ st.vm.findClass E = some ce.cls ∧ st.WarmedH t.vm ∧ st.sameButNew ({ t with vm := st.vm } : State) L mc ms ∧ ∀ z ∈ L, free z.base
def vx_Q (Qc : Array Value → State → Outcome → State → Prop) (XC : String → State → State → Prop) (mc ms : Nat) (free : Addr → Prop) : Array Value → State → Outcome → State → Prop := fun a st o t =>
  (Qc a st o t ∧ ∃ L, FrameEnd st o t L mc ms ∧ ∀ q ∈ L, free q.base) ∨ ∃ q, o = .threw q ∧ vx_T XC st q t mc ms free
/-- a callee that returns or throws -/
def vx_Met (l : Launch) (y : MethodName) (ws : List Cond) (rm : Room) (Pc : Array Value → State → Prop) (Qc : Array Value → State → Outcome → State → Prop) (XC : String → State → State → Prop) (mc ms : Nat) (free : Addr → Prop) : Prop :=
  MetFree l y (headSpec ws rm) Pc (fun _ _ _ _ _ => True) (vx_Q Qc XC mc ms free)
def vx_Post (XC : String → State → State → Prop) (mc ms : Nat) (free : Addr → Prop) : Pt → Array Value → Addr → Pt → Prop := fun A a q B =>
  ∃ (g : JFrame) (mk : MethodId) (t : State) (L : List Loc) (E : String) (ce : Cell), B.U.heap = t.heap ∧ B.U.vm = t.vm ∧ XC E (A.U.calling g mk a) t ∧ t.heap[q]? = some ce ∧ ce.vm = .none ∧ A.U.vm.findClass E = some ce.cls ∧ B.locs = A.locs ++ L ∧ (∀ z ∈ L, free z.base) ∧ B.cells = A.cells + mc ∧ B.slots = A.slots + ms
def vx_Back (l : Launch) (R : Room) (p : Program) (e : Env) (below : List Frame) (s : State) (sargs : Array Value) (y : MethodName) (len W9 : Nat)
    (Pre : Pt → Array Value → Prop) (Post : Pt → Array Value → Option Value → Pt → Prop) (PostX : Pt → Array Value → Addr → Pt → Prop) : Prop :=
  ∀ (m : MethodId) (meth : Method) (c : Code) (A : Pt) (g : JFrame) (ig : Instr) (mk : MethodId) (a : Array Value),
    Stand p l e R s m sargs below meth c A.U A.locs A.cells A.slots → g.method = m → g.locals.size = c.maxLocals → decode c.code g.pc = .ok (ig, len) →
    2 * g.monitorRoom + (g.stack.map fun v => v.category).sum ≤ W9 → A.U.methodNamed? y = some mk → Pre A a →
    (∃ (v : Option Value) (B : Pt), Stand p l e R s m sargs below meth c B.U B.locs B.cells B.slots ∧ Post A a v B ∧
      Steps p.tables e below (doInvoke e (A.U.setTop g) [] mk a).1 (B.U.setTop { g with pc := g.pc + len, stack := v.toList ++ g.stack })) ∨
    (∃ (q : Addr) (B : Pt), Stand p l e R s m sargs below meth c B.U B.locs B.cells B.slots ∧ PostX A a q B ∧
      Steps p.tables e below (doInvoke e (A.U.setTop g) [] mk a).1 ((B.U.setTop g).pushFrame (.throwing q)))
section Payer
variable {l : Launch} {R : Room} {p : Program} {e : Env} {below : List Frame} {s : State} {sargs : Array Value} {y : MethodName} {len W9 : Nat}
theorem vx_back {ws : List Cond} {rm : Room} {Pc : Array Value → State → Prop} {Qc : Array Value → State → Outcome → State → Prop} {XC : String → State → State → Prop} {mc ms : Nat} {free : Addr → Prop} {bytes : ByteArray} {maxL : Nat} {ret : Option FieldType}
    (hM : vx_Met l y ws rm Pc Qc XC mc ms free) (hblind : FrameBlind Pc) (hrc : rm.cells = mc) (hrs : rm.slots = ms)
    (hframes : rm.frames + 1 ≤ R.frames) (hlocals : W9 + (maxL + 11) + rm.locals ≤ R.locals)
    (hws : ∀ w ∈ ws, ∀ a' U, s.WarmedH U.vm → w.before a' U = true) (hcode : Cond.code y bytes maxL ret ∈ ws) (hinit : ∀ a' U, s.WarmedH U.vm → (Cond.initialized y.cls).before a' U = true) :
    vx_Back l R p e below s sargs y len W9 (PreOf R mc ms Pc) (PostOf Qc mc ms free) (vx_Post XC mc ms free) := by
  intro m meth c A g ig mk a X hg hsize hdg hW hn hp
  have h1 : (headSpec ws rm).pre.before a A.U = true := atoms_intro fun w hw => hws w hw _ _ X.warmed
  have h2 : (Cond.code y bytes maxL ret).before a A.U = true := hws _ hcode _ _ X.warmed
  have h3 : (Cond.initialized y.cls).before a A.U = true := hinit _ _ X.warmed
  have h4 : A.cells + (headSpec ws rm).room.cells ≤ R.cells := by rw [show (headSpec ws rm).room.cells = mc from hrc]; exact hp.1
  have h5 : A.slots + (headSpec ws rm).room.slots ≤ R.slots := by rw [show (headSpec ws rm).room.slots = ms from hrs]; exact hp.2.1
  have hPc : Pc a (A.U.calling g mk a) := hblind _ _ _ _ hp.2.2
  obtain ⟨U, Ls, c0, s0⟩ := A
  dsimp only [Pt.U, Pt.locs, Pt.cells, Pt.slots] at h1 h2 h3 h4 h5 X hn hPc ⊢
  obtain ⟨methY, cY, hmY, hcY, -, hlY, -, -, -, -⟩ := Cond.code_spec hn h2
  obtain ⟨kY, hkY, -⟩ := className_of_methodNamed hn
  have hinitY : kY.init = .initialized := Cond.initialized_spec (findClass_of_methodNamed hn) hkY h3
  have h : At U g.method c below := by rw [hg]; exact X.here
  have hlocals9 : W9 + (maxL + 11) + (headSpec ws rm).room.locals ≤ R.locals := hlocals
  have happ : (headSpec ws rm).appliesLoose y e.platform (U.calling g mk a) = true :=
    Spec.appliesLoose_calling (g := g) h hdg hn hkY hinitY
      (X.room_calling (g := g) (R' := (headSpec ws rm).room) hsize hmY hcY hframes (by rw [hlY]; omega) h4 h5) h1
  obtain ⟨mid, hmid⟩ := h.above
  have hfr : (U.setTop g).frames = (.java g :: mid) ++ below := by rw [State.frames_setTop' g h.top, hmid]; rfl
  obtain ⟨o, s₂, hsteps, -, hend, hq⟩ := Steps.callFree hM p X.admits X.cas X.clock (acts := []) hfr happ hPc trivial
  have hq' : vx_Q Qc XC mc ms free a (U.calling g mk a) o s₂ := hq
  rw [State.frames_setTop' g h.top] at hend
  obtain ⟨g₀, hg0⟩ := Option.isSome_iff_exists.mp h.top
  obtain ⟨r, hr⟩ := State.topJava?_eq_some.mp hg0
  have hr' : (({ U with heap := s₂.heap, slotsUsed := s₂.slotsUsed } : State).setVm s₂.vm).frames = .java g₀ :: r := hr
  rcases hq' with ⟨hqc, L, hfe, hL⟩ | ⟨q, rfl, E, ce, L, hx, hce, hcv, hcl, hW₂, hsm, hL⟩
  · obtain ⟨⟨v, rfl⟩, hW₂, e2, q2, q3, q4, q5, q6⟩ := id hfe
    have e3 : s₂ = ({ (U.calling g mk a).setFrames s₂.frames with heap := s₂.heap, slotsUsed := s₂.slotsUsed } : State).setVm s₂.vm := by
      have : s₂ = ({ s₂ with vm := (U.calling g mk a).vm } : State).setVm s₂.vm := rfl
      rw [e2] at this
      exact this
    obtain ⟨c₂, i₂, len₂, hc₂, hd₂, hf₂⟩ := hend
    have hW' : U.WarmedH s₂.vm := hW₂
    have hcc : c₂ = c := by
      have h1 : s₂.code? g.method = U.code? g.method := by
        rw [State.code?_eq, State.code?_eq, hW'.alike.method?]
      exact Option.some.inj (hc₂.symm.trans (h1.trans h.code))
    subst hcc
    have hlen : len₂ = len := by rw [hdg] at hd₂; cases hd₂; rfl
    subst hlen
    have hs₂ : s₂ = (({ U with heap := s₂.heap, slotsUsed := s₂.slotsUsed } : State).setVm s₂.vm).setTop { g with pc := g.pc + len₂, stack := v.toList ++ g.stack } := by
      refine e3.trans ?_
      rw [hf₂, State.calling_eq h.top, State.setFrames_setFrames, State.setTop_of_frames _ hr', hr]
      rfl
    have hsame : U.sameButNew ({ U with heap := s₂.heap, slotsUsed := s₂.slotsUsed } : State) L mc ms := by
      refine ⟨?_, q2, q3, q4, q5, q6⟩
      obtain ⟨t, ht, -⟩ := State.frames_cons hr
      show ({ U with heap := s₂.heap, slotsUsed := s₂.slotsUsed } : State) = { U.setFrames U.frames with heap := s₂.heap, slotsUsed := s₂.slotsUsed }
      rw [State.setFrames_self ht]
    subst hg
    refine Or.inl ⟨v, ⟨(({ U with heap := s₂.heap, slotsUsed := s₂.slotsUsed } : State).setVm s₂.vm), Ls ++ L, c0 + mc, s0 + ms⟩,
      ⟨X.admits, X.cas, X.clock, X.frames, X.room, X.hears, X.method, X.code, (X.here.setHeapUsed s₂.heap s₂.slotsUsed).setVm hW'.alike, X.tail, State.WarmedH.trans X.warmed hW', X.limits, X.bytes, X.same.trans (hsame.setVm s.vm)⟩,
      ⟨g, mk, s₂, L, rfl, rfl, hqc, rfl, hL, rfl, rfl⟩, ?_⟩
    show Steps p.tables e below _ ((({ U with heap := s₂.heap, slotsUsed := s₂.slotsUsed } : State).setVm s₂.vm).setTop { g with pc := g.pc + len₂, stack := v.toList ++ g.stack })
    rw [← hs₂]
    exact hsteps
  · obtain ⟨e2, q2, q3, q4, q5, q6⟩ := id hsm
    have e3 : s₂ = ({ (U.calling g mk a).setFrames s₂.frames with heap := s₂.heap, slotsUsed := s₂.slotsUsed } : State).setVm s₂.vm := by
      have : s₂ = ({ s₂ with vm := (U.calling g mk a).vm } : State).setVm s₂.vm := rfl
      rw [e2] at this
      exact this
    have hf₂ : s₂.frames = .throwing q :: .java g :: U.frames.tail := hend
    have hW' : U.WarmedH s₂.vm := hW₂
    have hs₂ : s₂ = ((({ U with heap := s₂.heap, slotsUsed := s₂.slotsUsed } : State).setVm s₂.vm).setTop g).pushFrame (.throwing q) := by
      refine e3.trans ?_
      rw [hf₂, State.calling_eq h.top, State.setFrames_setFrames, State.pushFrame, State.frames_setTop _ hr', State.setTop_of_frames _ hr', State.setFrames_setFrames, hr]
      rfl
    have hsame : U.sameButNew ({ U with heap := s₂.heap, slotsUsed := s₂.slotsUsed } : State) L mc ms := by
      refine ⟨?_, q2, q3, q4, q5, q6⟩
      obtain ⟨t, ht, -⟩ := State.frames_cons hr
      show ({ U with heap := s₂.heap, slotsUsed := s₂.slotsUsed } : State) = { U.setFrames U.frames with heap := s₂.heap, slotsUsed := s₂.slotsUsed }
      rw [State.setFrames_self ht]
    subst hg
    refine Or.inr ⟨q, ⟨(({ U with heap := s₂.heap, slotsUsed := s₂.slotsUsed } : State).setVm s₂.vm), Ls ++ L, c0 + mc, s0 + ms⟩,
      ⟨X.admits, X.cas, X.clock, X.frames, X.room, X.hears, X.method, X.code, (X.here.setHeapUsed s₂.heap s₂.slotsUsed).setVm hW'.alike, X.tail, State.WarmedH.trans X.warmed hW', X.limits, X.bytes, X.same.trans (hsame.setVm s.vm)⟩,
      ⟨g, mk, s₂, L, E, ce, rfl, rfl, hx, hce, hcv, hcl, rfl, hL, rfl, rfl⟩, ?_⟩
    show Steps p.tables e below _ (((({ U with heap := s₂.heap, slotsUsed := s₂.slotsUsed } : State).setVm s₂.vm).setTop g).pushFrame (.throwing q))
    rw [← hs₂]
    exact hsteps
end Payer
section Calls
variable {p : Program} {l : Launch} {e : Env} {R : Room} {s : State} {m : MethodId} {args : Array Value} {below : List Frame} {meth : Method} {c : Code} {T : State} {locs : List Loc} {cells slots : Nat}
theorem vx_callV (X : Stand p l e R s m args below meth c T locs cells slots) (hexec : p.tables.exec = Jvm.exec) {own C : String} {index : Nat} {y : MethodName} {bytes : ByteArray} {maxL : Nat} {ret : Option FieldType}
    (hown : s.vm.findClass own = some m.cls) (hlink : (Cond.methodLink own index y).before args s = true) (hinst : (Cond.instanceMethod y).before args s = true) (hsel : (Cond.selects C y y).before args s = true)
    (hcode : (Cond.code y bytes maxL ret).before args s = true) (hy : y.cls ≠ "java/lang/invoke/MethodHandle" ∧ y.cls ≠ "java/lang/invoke/VarHandle")
    {W9 : Nat} {Pre : Pt → Array Value → Prop} {Post : Pt → Array Value → Option Value → Pt → Prop} {PostX : Pt → Array Value → Addr → Pt → Prop} (hK : vx_Back l R p e below s args y 3 W9 Pre Post PostX)
    {b : Addr} {cellB : Cell} (hcell : T.heap[b]? = some cellB) (hobj : cellB.vm.isStatics = false) (hcls : s.vm.findClass C = some cellB.cls)
    {g : JFrame} (hg : g.method = m) (hsize : g.locals.size = c.maxLocals) {argsL rest : List Value} (hlen : ∀ sig, parseMethodDescriptor y.desc = some sig → argsL.length = sig.parameters.length)
    (hstack : g.stack = argsL.reverse ++ .ref b :: rest) (hW : 2 * g.monitorRoom + (rest.map fun v => v.category).sum ≤ W9) (hdg : decode c.code g.pc = .ok (.invokevirtual index, 3))
    (hpre : ∀ vm₁, s.WarmedH vm₁ → Pre ⟨T.setVm vm₁, locs, cells, slots⟩ (Value.ref b :: argsL).toArray) :
    (∃ (v : Option Value) (vm₁ : Vm) (B : Pt), s.WarmedH vm₁ ∧ Stand p l e R s m args below meth c B.U B.locs B.cells B.slots ∧ Post ⟨T.setVm vm₁, locs, cells, slots⟩ (Value.ref b :: argsL).toArray v B ∧
      ∀ target, Steps p.tables e below (B.U.setTop { g with pc := g.pc + 3, stack := v.toList ++ rest }) target → Steps p.tables e below (T.setTop g) target) ∨
    (∃ (q : Addr) (vm₁ : Vm) (B : Pt), s.WarmedH vm₁ ∧ Stand p l e R s m args below meth c B.U B.locs B.cells B.slots ∧ PostX ⟨T.setVm vm₁, locs, cells, slots⟩ (Value.ref b :: argsL).toArray q B ∧
      Steps p.tables e below (T.setTop g) ((B.U.setTop { g with stack := rest }).pushFrame (.throwing q))) := by
  obtain ⟨mk, methM, hnamed, hmethM, hstM, habM⟩ := Cond.instanceMethod_spec hinst
  obtain ⟨methM', cM, hmethM', -, -, -, -, -, -, hsigM⟩ := Cond.code_spec hnamed hcode
  cases hmethM.symm.trans hmethM'
  obtain ⟨c2, r2, m2, q1, q2, q3, q4, kP, hkP, hkPi⟩ := Cond.selects_spec hsel
  cases hcls.symm.trans q1
  cases (State.methodFound?_of_named hnamed hy).symm.trans q2
  cases hnamed.symm.trans q3
  have hselP : selectMethod e.platform s.vm cellB.cls mk = .method mk := by rw [Launch.admits_selectMethod X.admits]; exact q4
  obtain ⟨vm₁, X₁, hstep₁⟩ := X.invokevirtual hexec hown hlink hnamed hmethM hstM hkP hkPi hy (a := b) (cell := cellB) hcell
    (fun z h => by rw [h] at hobj; cases hobj) hselP hmethM habM hkP hkPi (g := g) hg (argsL := argsL) (rest := rest) (hlen _ hsigM) hstack hdg
  rcases hK m meth c ⟨T.setVm vm₁, locs, cells, slots⟩ { g with stack := rest } (.invokevirtual index) mk (Value.ref b :: argsL).toArray X₁ hg hsize hdg hW (X₁.named hnamed) (hpre vm₁ X₁.warmed) with ⟨v, B, X', hpost, hsteps⟩ | ⟨q, B, X', hpost, hsteps⟩
  · exact Or.inl ⟨v, vm₁, B, X₁.warmed, X', hpost, fun target h => hstep₁ _ fun acts => by rw [doInvoke_state]; exact hsteps.trans h⟩
  · exact Or.inr ⟨q, vm₁, B, X₁.warmed, X', hpost, hstep₁ _ fun acts => by rw [doInvoke_state]; exact hsteps⟩
theorem vx_callS (X : Stand p l e R s m args below meth c T locs cells slots) (hexec : p.tables.exec = Jvm.exec) {own : String} {index : Nat} {y : MethodName} {bytes : ByteArray} {maxL : Nat} {ret : Option FieldType}
    (hown : s.vm.findClass own = some m.cls) (hlink : (Cond.methodLink own index y).before args s = true) (hstat : (Cond.static y).before args s = true) (hinit : (Cond.initialized y.cls).before args s = true)
    (hcode : (Cond.code y bytes maxL ret).before args s = true) (hy : y.cls ≠ "java/lang/invoke/MethodHandle" ∧ y.cls ≠ "java/lang/invoke/VarHandle")
    {W9 : Nat} {Pre : Pt → Array Value → Prop} {Post : Pt → Array Value → Option Value → Pt → Prop} {PostX : Pt → Array Value → Addr → Pt → Prop} (hK : vx_Back l R p e below s args y 3 W9 Pre Post PostX)
    {g : JFrame} (hg : g.method = m) (hsize : g.locals.size = c.maxLocals) {argsL rest : List Value} (hlen : ∀ sig, parseMethodDescriptor y.desc = some sig → argsL.length = sig.parameters.length)
    (hstack : g.stack = argsL.reverse ++ rest) (hW : 2 * g.monitorRoom + (rest.map fun v => v.category).sum ≤ W9) (hdg : decode c.code g.pc = .ok (.invokestatic index, 3))
    (hpre : ∀ vm₁, s.WarmedH vm₁ → Pre ⟨T.setVm vm₁, locs, cells, slots⟩ argsL.toArray) :
    (∃ (v : Option Value) (vm₁ : Vm) (B : Pt), s.WarmedH vm₁ ∧ Stand p l e R s m args below meth c B.U B.locs B.cells B.slots ∧ Post ⟨T.setVm vm₁, locs, cells, slots⟩ argsL.toArray v B ∧
      ∀ target, Steps p.tables e below (B.U.setTop { g with pc := g.pc + 3, stack := v.toList ++ rest }) target → Steps p.tables e below (T.setTop g) target) ∨
    (∃ (q : Addr) (vm₁ : Vm) (B : Pt), s.WarmedH vm₁ ∧ Stand p l e R s m args below meth c B.U B.locs B.cells B.slots ∧ PostX ⟨T.setVm vm₁, locs, cells, slots⟩ argsL.toArray q B ∧
      Steps p.tables e below (T.setTop g) ((B.U.setTop { g with stack := rest }).pushFrame (.throwing q))) := by
  obtain ⟨mk, hnamed⟩ := Cond.code_named hcode
  obtain ⟨methM, cM, hmethM, -, -, -, -, -, -, hsigM⟩ := Cond.code_spec hnamed hcode
  have hstatic : methM.isStatic = true := Cond.static_spec hnamed hmethM hstat
  obtain ⟨kP, hkP, -⟩ := className_of_methodNamed hnamed
  have hinitP : kP.init = .initialized := Cond.initialized_spec (findClass_of_methodNamed hnamed) hkP hinit
  obtain ⟨vm₁, X₁, hstep₁⟩ := X.invokestatic hexec hown hlink hnamed hmethM hstatic hkP hinitP hy (g := g) hg (argsL := argsL) (rest := rest) (hlen _ hsigM) hstack hdg
  rcases hK m meth c ⟨T.setVm vm₁, locs, cells, slots⟩ { g with stack := rest } (.invokestatic index) mk argsL.toArray X₁ hg hsize hdg hW (X₁.named hnamed) (hpre vm₁ X₁.warmed) with ⟨v, B, X', hpost, hsteps⟩ | ⟨q, B, X', hpost, hsteps⟩
  · exact Or.inl ⟨v, vm₁, B, X₁.warmed, X', hpost, fun target h => hstep₁ _ fun acts => by rw [doInvoke_state]; exact hsteps.trans h⟩
  · exact Or.inr ⟨q, vm₁, B, X₁.warmed, X', hpost, hstep₁ _ fun acts => by rw [doInvoke_state]; exact hsteps⟩
end Calls
theorem vx_cls {s : State} {T : State} {vm₁ : Vm} {E : String} {k : ClassId} (hW : s.WarmedH vm₁) (h : (T.setVm vm₁).vm.findClass E = some k) : s.vm.findClass E = some k := by
  have h1 : vm₁.findClass E = some k := h
  rw [hW.alike.findClass] at h1
  exact h1
/-- the method's frame g, with q thrown over it -/
def vx_W (p : Program) (l : Launch) (e : Env) (R : Room) (s : State) (m : MethodId) (args : Array Value) (below : List Frame) (meth : Method) (c : Code) (H : Heap) (locs : List Loc) (cells slots : Nat) (Q : State → Prop) (g : JFrame) (q : Addr) : Prop :=
  ∀ T : State, T.heap = H → Stand p l e R s m args below meth c T locs cells slots → ∃ t, Steps p.tables e below ((T.setTop g).pushFrame (.throwing q)) t ∧ Q t
def vx_Run (p : Program) (l : Launch) (e : Env) (R : Room) (s : State) (m : MethodId) (args : Array Value) (below : List Frame) (meth : Method) (c : Code) (H : Heap) (locs : List Loc) (cells slots mc ms : Nat) (g : JFrame) (rest : List Value) (Qa : State → Outcome → State → Prop) (XC : String → State → State → Prop) (free : Addr → Prop) : Prop :=
  ∀ T : State, T.heap = H → Stand p l e R s m args below meth c T locs cells slots →
    (∃ (v : Option Value) (st₀ t T' : State) (L : List Loc), st₀.heap = H ∧ Stand p l e R s m args below meth c T' (locs ++ L) (cells + mc) (slots + ms) ∧ (∀ q ∈ L, free q.base) ∧ T'.heap = t.heap ∧ T'.vm = t.vm ∧ Qa st₀ (.returned v) t ∧
      Goes p e below T g T' { g with pc := g.pc + 3, stack := v.toList ++ rest }) ∨
    (∃ (q : Addr) (st₀ t T' : State) (L : List Loc) (E : String) (ce : Cell), st₀.heap = H ∧ Stand p l e R s m args below meth c T' (locs ++ L) (cells + mc) (slots + ms) ∧ (∀ z ∈ L, free z.base) ∧ T'.heap = t.heap ∧ T'.vm = t.vm ∧ XC E st₀ t ∧ t.heap[q]? = some ce ∧ ce.vm = .none ∧ s.vm.findClass E = some ce.cls ∧
      Steps p.tables e below (T.setTop g) ((T'.setTop { g with stack := rest }).pushFrame (.throwing q)))
def vx_X {S : Type} (px : S → Prop) (B : String → S → State → Prop) (A : Nat → Prop) : String → State → State → Prop := fun E st t => ∃ u : S, px u ∧ B E u t ∧ va_F A st t
section Runs
variable {p : Program} {l : Launch} {e : Env} {R : Room} {s : State} {m : MethodId} {args : Array Value} {below : List Frame} {meth : Method} {c : Code} {H : Heap} {locs : List Loc} {cells slots : Nat}
variable {y : MethodName} {bytes cc : ByteArray} {maxL nL mc ms n index : Nat} {ret : Option FieldType} {ws : List Cond} {rm : Room} {Pc : Array Value → State → Prop} {Qc : Array Value → State → Outcome → State → Prop} {XC : String → State → State → Prop} {free : Addr → Prop} {Ts : List Cond} {own C : String} {b : Addr} {As rest : List Value} {g : JFrame}
theorem vx_callBack (cb : CallB R s args own index y bytes maxL ret ws rm mc ms n) (hM : vx_Met l y ws rm Pc Qc XC mc ms free) (hbl : FrameBlind Pc) : vx_Back l R p e below s args y 3 8 (PreOf R mc ms Pc) (PostOf Qc mc ms free) (vx_Post XC mc ms free) := by
  obtain ⟨hrc, hrs, hfr, hlo, hws, hcw, -, hini, -⟩ := cb
  exact vx_back (bytes := bytes) (maxL := maxL) (ret := ret) hM hbl hrc hrs hfr hlo hws hcw (fun a' U hW => word_at hW (Or.inl (by first | rfl | simp [Cond.onTables, Cond.keeps, Cond.steady])) hini)
theorem vx_runV (S : CallFix p m c cc nL s args Ts own) (hM : vx_Met l y ws rm Pc Qc XC mc ms free) (cw : CallW R s args own C index y bytes maxL ret ws rm mc ms n) (hp : PreV s H C b Pc As)
    (hg : g.method = m) (hn : As.length = n) (hsize : g.locals.size = nL) (hstack : g.stack = As.reverse ++ .ref b :: rest) (hW : 2 * g.monitorRoom + (rest.map fun v => v.category).sum ≤ 8) (hdg : decode cc g.pc = .ok (.invokevirtual index, 3)) (hf : cells + mc ≤ R.cells ∧ slots + ms ≤ R.slots) :
    vx_Run p l e R s m args below meth c H locs cells slots mc ms g rest (Qc (Value.ref b :: As).toArray) XC free := by
  have hK : vx_Back l R p e below s args y 3 8 (PreOf R mc ms Pc) (PostOf Qc mc ms free) (vx_Post XC mc ms free) := vx_callBack cw.1 hM hp.1
  obtain ⟨⟨-, -, -, -, -, -, hcode, -, hy, hlen, hl⟩, hin, hse⟩ := cw
  obtain ⟨hx, hb, hml, ho, -⟩ := S
  obtain ⟨-, ⟨cellB, hcB, hoB, hclB⟩, hPc⟩ := hp
  intro T hT X
  rcases vx_callV X hx (C := C) (bytes := bytes) (maxL := maxL) (ret := ret) ho hl hin hse hcode hy hK (by rw [hT]; exact hcB) hoB hclB hg (hsize.trans hml.symm) (argsL := As) (rest := rest) (fun sig h => hn.trans (hlen sig h)) hstack hW (by rw [hb]; exact hdg)
    (fun vm₁ hW₁ => ⟨hf.1, hf.2, hPc (T.setVm vm₁) hT hW₁⟩) with ⟨v, vm₁, ⟨U', l2, c2, s2⟩, hW₁, X', ⟨g', mk, t, L, e1, e2, hq, h1, hL, h2, h3⟩, st⟩ | ⟨q, vm₁, ⟨U', l2, c2, s2⟩, hW₁, X', ⟨g', mk, t, L, E, ce, e1, e2, hq, hce, hcv, hcl, h1, hL, h2, h3⟩, st⟩
  · dsimp only [Pt.U, Pt.locs, Pt.cells, Pt.slots] at X' e1 e2 h1 h2 h3 st
    subst h1; subst h2; subst h3
    exact Or.inl ⟨v, (T.setVm vm₁).calling g' mk (Value.ref b :: As).toArray, t, U', L, hT, X', hL, e1, e2, hq, st⟩
  · dsimp only [Pt.U, Pt.locs, Pt.cells, Pt.slots] at X' e1 e2 h1 h2 h3 st hcl
    subst h1; subst h2; subst h3
    exact Or.inr ⟨q, (T.setVm vm₁).calling g' mk (Value.ref b :: As).toArray, t, U', L, E, ce, hT, X', hL, e1, e2, hq, hce, hcv, vx_cls hW₁ hcl, st⟩
theorem vx_runS (S : CallFix p m c cc nL s args Ts own) (hM : vx_Met l y ws rm Pc Qc XC mc ms free) (cw : CallB R s args own index y bytes maxL ret ws rm mc ms n ∧ (Cond.static y).before args s = true) (hp : PreS s H Pc As)
    (hg : g.method = m) (hn : As.length = n) (hsize : g.locals.size = nL) (hstack : g.stack = As.reverse ++ rest) (hW : 2 * g.monitorRoom + (rest.map fun v => v.category).sum ≤ 8) (hdg : decode cc g.pc = .ok (.invokestatic index, 3)) (hf : cells + mc ≤ R.cells ∧ slots + ms ≤ R.slots) :
    vx_Run p l e R s m args below meth c H locs cells slots mc ms g rest (Qc As.toArray) XC free := by
  have hK : vx_Back l R p e below s args y 3 8 (PreOf R mc ms Pc) (PostOf Qc mc ms free) (vx_Post XC mc ms free) := vx_callBack cw.1 hM hp.1
  obtain ⟨⟨-, -, -, -, -, -, hcode, hini, hy, hlen, hl⟩, hstt⟩ := cw
  obtain ⟨hx, hb, hml, ho, -⟩ := S
  intro T hT X
  rcases vx_callS X hx (bytes := bytes) (maxL := maxL) (ret := ret) ho hl hstt hini hcode hy hK hg (hsize.trans hml.symm) (argsL := As) (rest := rest) (fun sig h => hn.trans (hlen sig h)) hstack hW (by rw [hb]; exact hdg)
    (fun vm₁ hW₁ => ⟨hf.1, hf.2, hp.2 (T.setVm vm₁) hT hW₁⟩) with ⟨v, vm₁, ⟨U', l2, c2, s2⟩, hW₁, X', ⟨g', mk, t, L, e1, e2, hq, h1, hL, h2, h3⟩, st⟩ | ⟨q, vm₁, ⟨U', l2, c2, s2⟩, hW₁, X', ⟨g', mk, t, L, E, ce, e1, e2, hq, hce, hcv, hcl, h1, hL, h2, h3⟩, st⟩
  · dsimp only [Pt.U, Pt.locs, Pt.cells, Pt.slots] at X' e1 e2 h1 h2 h3 st
    subst h1; subst h2; subst h3
    exact Or.inl ⟨v, (T.setVm vm₁).calling g' mk As.toArray, t, U', L, hT, X', hL, e1, e2, hq, st⟩
  · dsimp only [Pt.U, Pt.locs, Pt.cells, Pt.slots] at X' e1 e2 h1 h2 h3 st hcl
    subst h1; subst h2; subst h3
    exact Or.inr ⟨q, (T.setVm vm₁).calling g' mk As.toArray, t, U', L, E, ce, hT, X', hL, e1, e2, hq, hce, hcv, vx_cls hW₁ hcl, st⟩
end Runs
section Rows
variable {p : Program} {l : Launch} {e : Env} {R : Room} {s : State} {m : MethodId} {args : Array Value} {below : List Frame} {meth : Method} {c : Code} {H : Heap} {locs : List Loc} {cells slots : Nat} {Q : State → Prop}
variable {mc ms : Nat} {free : Addr → Prop} {A0 A1 : Nat → Prop} {H0 : Heap} {a : Array Value} {pc : Nat} {ls : Array Slot} {st0 rest : List Value}
theorem vx_keep {st₀ t T' : State} {L : List Loc} (h0 : st₀.heap = H) (e1 : T'.heap = t.heap) (hS : va_S A0 H0 H locs) (hA : ∀ q, q < H.size → A1 q → A0 q) (hf : ∀ q, free q → A0 q) (hL : ∀ q ∈ L, free q.base) (hF : va_F A1 st₀ t) :
    H.size ≤ T'.heap.size ∧ (∀ q : Nat, q < H.size → ¬ A1 q → T'.heap[q]? = H[q]?) ∧ va_S A0 H0 T'.heap (locs ++ L) := by
  obtain ⟨hz, hk⟩ := hF
  rw [h0] at hz hk
  exact ⟨by rw [e1]; exact hz, fun q h1 h2 => by rw [e1]; exact hk q h1 h2,
    ⟨Nat.le_trans hS.1 (by rw [e1]; exact hz), fun q h1 h2 => by rw [e1, hk q (Nat.lt_of_lt_of_le h1 hS.1) (fun z => h2 (hA q (Nat.lt_of_lt_of_le h1 hS.1) z))]; exact hS.2.1 q h1 h2, fun q hq => by
      rcases List.mem_append.mp hq with h | h
      · exact hS.2.2 q h
      · exact hf _ (hL q h)⟩⟩
theorem vx_calli {S SX : Type} {post : Int32 → S → Prop} {px : SX → Prop} {B : S → State → Prop} {BX : String → SX → State → Prop} {AX : Nat → Prop} (hr : vx_Run p l e R s m args below meth c H locs cells slots mc ms (F0 m pc ls st0) rest (va_Qi post B A1 a) (vx_X px BX AX) free) (hS : va_S A0 H0 H locs) (hA : ∀ q, q < H.size → A1 q → A0 q) (hf : ∀ q, free q → A0 q) (hAX : ∀ q, q < H.size → AX q → A0 q)
    (kx : ∀ (E : String) (ce : Cell) (q9 : Addr) (u : SX) (t : State) (H1 : Heap) (locs1 : List Loc), t.heap = H1 → s.vm.Alike t.vm → px u → BX E u t → H.size ≤ H1.size → (∀ q : Nat, q < H.size → ¬ AX q → H1[q]? = H[q]?) → va_S A0 H0 H1 locs1 → H1[q9]? = some ce → ce.vm = .none → s.vm.findClass E = some ce.cls → vx_W p l e R s m args below meth c H1 locs1 (cells + mc) (slots + ms) Q (F0 m pc ls rest) q9)
    (kk : ∀ (r : Int32) (u : S) (t : State) (H1 : Heap) (locs1 : List Loc), t.heap = H1 → s.vm.Alike t.vm → post r u → B u t → H.size ≤ H1.size → (∀ q : Nat, q < H.size → ¬ A1 q → H1[q]? = H[q]?) → va_S A0 H0 H1 locs1 → W p l e R s m args below meth c H1 locs1 (cells + mc) (slots + ms) Q (F0 m (pc + 3) ls (.int r :: rest))) : W p l e R s m args below meth c H locs cells slots Q (F0 m pc ls st0) := by
  intro T hT X
  rcases hr T hT X with ⟨v, st₀, t, T', L, h0, X', hL, e1, e2, ⟨⟨r, u, hv, hp, hb⟩, hF⟩, st⟩ | ⟨q, st₀, t, T', L, E, ce, h0, X', hL, e1, e2, ⟨u, hp, hb, hF⟩, hce, hcv, hcl, st⟩
  · cases hv
    obtain ⟨k1, k2, k3⟩ := vx_keep h0 e1 hS hA hf hL hF
    obtain ⟨t2, a1, b1⟩ := kk r u t T'.heap (locs ++ L) e1.symm (by rw [← e2]; exact X'.warmed.alike) hp hb k1 k2 k3 T' rfl X'
    exact ⟨t2, st t2 a1, b1⟩
  · obtain ⟨k1, k2, k3⟩ := vx_keep h0 e1 hS hAX hf hL hF
    obtain ⟨t2, a1, b1⟩ := kx E ce q u t T'.heap (locs ++ L) e1.symm (by rw [← e2]; exact X'.warmed.alike) hp hb k1 k2 k3 (by rw [e1]; exact hce) hcv hcl T' rfl X'
    exact ⟨t2, st.trans a1, b1⟩
theorem vx_calll {S SX : Type} {post : Int64 → S → Prop} {px : SX → Prop} {B : S → State → Prop} {BX : String → SX → State → Prop} {AX : Nat → Prop} (hr : vx_Run p l e R s m args below meth c H locs cells slots mc ms (F0 m pc ls st0) rest (va_Ql post B A1 a) (vx_X px BX AX) free) (hS : va_S A0 H0 H locs) (hA : ∀ q, q < H.size → A1 q → A0 q) (hf : ∀ q, free q → A0 q) (hAX : ∀ q, q < H.size → AX q → A0 q)
    (kx : ∀ (E : String) (ce : Cell) (q9 : Addr) (u : SX) (t : State) (H1 : Heap) (locs1 : List Loc), t.heap = H1 → s.vm.Alike t.vm → px u → BX E u t → H.size ≤ H1.size → (∀ q : Nat, q < H.size → ¬ AX q → H1[q]? = H[q]?) → va_S A0 H0 H1 locs1 → H1[q9]? = some ce → ce.vm = .none → s.vm.findClass E = some ce.cls → vx_W p l e R s m args below meth c H1 locs1 (cells + mc) (slots + ms) Q (F0 m pc ls rest) q9)
    (kk : ∀ (r : Int64) (u : S) (t : State) (H1 : Heap) (locs1 : List Loc), t.heap = H1 → s.vm.Alike t.vm → post r u → B u t → H.size ≤ H1.size → (∀ q : Nat, q < H.size → ¬ A1 q → H1[q]? = H[q]?) → va_S A0 H0 H1 locs1 → W p l e R s m args below meth c H1 locs1 (cells + mc) (slots + ms) Q (F0 m (pc + 3) ls (.long r :: rest))) : W p l e R s m args below meth c H locs cells slots Q (F0 m pc ls st0) := by
  intro T hT X
  rcases hr T hT X with ⟨v, st₀, t, T', L, h0, X', hL, e1, e2, ⟨⟨r, u, hv, hp, hb⟩, hF⟩, st⟩ | ⟨q, st₀, t, T', L, E, ce, h0, X', hL, e1, e2, ⟨u, hp, hb, hF⟩, hce, hcv, hcl, st⟩
  · cases hv
    obtain ⟨k1, k2, k3⟩ := vx_keep h0 e1 hS hA hf hL hF
    obtain ⟨t2, a1, b1⟩ := kk r u t T'.heap (locs ++ L) e1.symm (by rw [← e2]; exact X'.warmed.alike) hp hb k1 k2 k3 T' rfl X'
    exact ⟨t2, st t2 a1, b1⟩
  · obtain ⟨k1, k2, k3⟩ := vx_keep h0 e1 hS hAX hf hL hF
    obtain ⟨t2, a1, b1⟩ := kx E ce q u t T'.heap (locs ++ L) e1.symm (by rw [← e2]; exact X'.warmed.alike) hp hb k1 k2 k3 (by rw [e1]; exact hce) hcv hcl T' rfl X'
    exact ⟨t2, st.trans a1, b1⟩
theorem vx_callf {S SX : Type} {post : UInt32 → S → Prop} {px : SX → Prop} {B : S → State → Prop} {BX : String → SX → State → Prop} {AX : Nat → Prop} (hr : vx_Run p l e R s m args below meth c H locs cells slots mc ms (F0 m pc ls st0) rest (va_Qf post B A1 a) (vx_X px BX AX) free) (hS : va_S A0 H0 H locs) (hA : ∀ q, q < H.size → A1 q → A0 q) (hf : ∀ q, free q → A0 q) (hAX : ∀ q, q < H.size → AX q → A0 q)
    (kx : ∀ (E : String) (ce : Cell) (q9 : Addr) (u : SX) (t : State) (H1 : Heap) (locs1 : List Loc), t.heap = H1 → s.vm.Alike t.vm → px u → BX E u t → H.size ≤ H1.size → (∀ q : Nat, q < H.size → ¬ AX q → H1[q]? = H[q]?) → va_S A0 H0 H1 locs1 → H1[q9]? = some ce → ce.vm = .none → s.vm.findClass E = some ce.cls → vx_W p l e R s m args below meth c H1 locs1 (cells + mc) (slots + ms) Q (F0 m pc ls rest) q9)
    (kk : ∀ (r : UInt32) (u : S) (t : State) (H1 : Heap) (locs1 : List Loc), t.heap = H1 → s.vm.Alike t.vm → post r u → B u t → H.size ≤ H1.size → (∀ q : Nat, q < H.size → ¬ A1 q → H1[q]? = H[q]?) → va_S A0 H0 H1 locs1 → W p l e R s m args below meth c H1 locs1 (cells + mc) (slots + ms) Q (F0 m (pc + 3) ls (.float r :: rest))) : W p l e R s m args below meth c H locs cells slots Q (F0 m pc ls st0) := by
  intro T hT X
  rcases hr T hT X with ⟨v, st₀, t, T', L, h0, X', hL, e1, e2, ⟨⟨r, u, hv, hp, hb⟩, hF⟩, st⟩ | ⟨q, st₀, t, T', L, E, ce, h0, X', hL, e1, e2, ⟨u, hp, hb, hF⟩, hce, hcv, hcl, st⟩
  · cases hv
    obtain ⟨k1, k2, k3⟩ := vx_keep h0 e1 hS hA hf hL hF
    obtain ⟨t2, a1, b1⟩ := kk r u t T'.heap (locs ++ L) e1.symm (by rw [← e2]; exact X'.warmed.alike) hp hb k1 k2 k3 T' rfl X'
    exact ⟨t2, st t2 a1, b1⟩
  · obtain ⟨k1, k2, k3⟩ := vx_keep h0 e1 hS hAX hf hL hF
    obtain ⟨t2, a1, b1⟩ := kx E ce q u t T'.heap (locs ++ L) e1.symm (by rw [← e2]; exact X'.warmed.alike) hp hb k1 k2 k3 (by rw [e1]; exact hce) hcv hcl T' rfl X'
    exact ⟨t2, st.trans a1, b1⟩
theorem vx_calld {S SX : Type} {post : UInt64 → S → Prop} {px : SX → Prop} {B : S → State → Prop} {BX : String → SX → State → Prop} {AX : Nat → Prop} (hr : vx_Run p l e R s m args below meth c H locs cells slots mc ms (F0 m pc ls st0) rest (va_Qd post B A1 a) (vx_X px BX AX) free) (hS : va_S A0 H0 H locs) (hA : ∀ q, q < H.size → A1 q → A0 q) (hf : ∀ q, free q → A0 q) (hAX : ∀ q, q < H.size → AX q → A0 q)
    (kx : ∀ (E : String) (ce : Cell) (q9 : Addr) (u : SX) (t : State) (H1 : Heap) (locs1 : List Loc), t.heap = H1 → s.vm.Alike t.vm → px u → BX E u t → H.size ≤ H1.size → (∀ q : Nat, q < H.size → ¬ AX q → H1[q]? = H[q]?) → va_S A0 H0 H1 locs1 → H1[q9]? = some ce → ce.vm = .none → s.vm.findClass E = some ce.cls → vx_W p l e R s m args below meth c H1 locs1 (cells + mc) (slots + ms) Q (F0 m pc ls rest) q9)
    (kk : ∀ (r : UInt64) (u : S) (t : State) (H1 : Heap) (locs1 : List Loc), t.heap = H1 → s.vm.Alike t.vm → post r u → B u t → H.size ≤ H1.size → (∀ q : Nat, q < H.size → ¬ A1 q → H1[q]? = H[q]?) → va_S A0 H0 H1 locs1 → W p l e R s m args below meth c H1 locs1 (cells + mc) (slots + ms) Q (F0 m (pc + 3) ls (.double r :: rest))) : W p l e R s m args below meth c H locs cells slots Q (F0 m pc ls st0) := by
  intro T hT X
  rcases hr T hT X with ⟨v, st₀, t, T', L, h0, X', hL, e1, e2, ⟨⟨r, u, hv, hp, hb⟩, hF⟩, st⟩ | ⟨q, st₀, t, T', L, E, ce, h0, X', hL, e1, e2, ⟨u, hp, hb, hF⟩, hce, hcv, hcl, st⟩
  · cases hv
    obtain ⟨k1, k2, k3⟩ := vx_keep h0 e1 hS hA hf hL hF
    obtain ⟨t2, a1, b1⟩ := kk r u t T'.heap (locs ++ L) e1.symm (by rw [← e2]; exact X'.warmed.alike) hp hb k1 k2 k3 T' rfl X'
    exact ⟨t2, st t2 a1, b1⟩
  · obtain ⟨k1, k2, k3⟩ := vx_keep h0 e1 hS hAX hf hL hF
    obtain ⟨t2, a1, b1⟩ := kx E ce q u t T'.heap (locs ++ L) e1.symm (by rw [← e2]; exact X'.warmed.alike) hp hb k1 k2 k3 (by rw [e1]; exact hce) hcv hcl T' rfl X'
    exact ⟨t2, st.trans a1, b1⟩
theorem vx_callv {S SX : Type} {post : S → Prop} {px : SX → Prop} {B : S → State → Prop} {BX : String → SX → State → Prop} {AX : Nat → Prop} (hr : vx_Run p l e R s m args below meth c H locs cells slots mc ms (F0 m pc ls st0) rest (va_Qv post B A1 a) (vx_X px BX AX) free) (hS : va_S A0 H0 H locs) (hA : ∀ q, q < H.size → A1 q → A0 q) (hf : ∀ q, free q → A0 q) (hAX : ∀ q, q < H.size → AX q → A0 q)
    (kx : ∀ (E : String) (ce : Cell) (q9 : Addr) (u : SX) (t : State) (H1 : Heap) (locs1 : List Loc), t.heap = H1 → s.vm.Alike t.vm → px u → BX E u t → H.size ≤ H1.size → (∀ q : Nat, q < H.size → ¬ AX q → H1[q]? = H[q]?) → va_S A0 H0 H1 locs1 → H1[q9]? = some ce → ce.vm = .none → s.vm.findClass E = some ce.cls → vx_W p l e R s m args below meth c H1 locs1 (cells + mc) (slots + ms) Q (F0 m pc ls rest) q9)
    (kk : ∀ (u : S) (t : State) (H1 : Heap) (locs1 : List Loc), t.heap = H1 → s.vm.Alike t.vm → post u → B u t → H.size ≤ H1.size → (∀ q : Nat, q < H.size → ¬ A1 q → H1[q]? = H[q]?) → va_S A0 H0 H1 locs1 → W p l e R s m args below meth c H1 locs1 (cells + mc) (slots + ms) Q (F0 m (pc + 3) ls (rest))) : W p l e R s m args below meth c H locs cells slots Q (F0 m pc ls st0) := by
  intro T hT X
  rcases hr T hT X with ⟨v, st₀, t, T', L, h0, X', hL, e1, e2, ⟨⟨u, hv, hp, hb⟩, hF⟩, st⟩ | ⟨q, st₀, t, T', L, E, ce, h0, X', hL, e1, e2, ⟨u, hp, hb, hF⟩, hce, hcv, hcl, st⟩
  · cases hv
    obtain ⟨k1, k2, k3⟩ := vx_keep h0 e1 hS hA hf hL hF
    obtain ⟨t2, a1, b1⟩ := kk u t T'.heap (locs ++ L) e1.symm (by rw [← e2]; exact X'.warmed.alike) hp hb k1 k2 k3 T' rfl X'
    exact ⟨t2, st t2 a1, b1⟩
  · obtain ⟨k1, k2, k3⟩ := vx_keep h0 e1 hS hAX hf hL hF
    obtain ⟨t2, a1, b1⟩ := kx E ce q u t T'.heap (locs ++ L) e1.symm (by rw [← e2]; exact X'.warmed.alike) hp hb k1 k2 k3 (by rw [e1]; exact hce) hcv hcl T' rfl X'
    exact ⟨t2, st.trans a1, b1⟩
/-- caught by the row x of this method's table; the rows ahead don't take it -/
theorem vx_catch {own name : String} {E : String} {ce : Cell} {q : Addr} (hown : s.vm.findClass own = some m.cls) (pre : List ExceptionTableEntry) (x : ExceptionTableEntry) (suf : List ExceptionTableEntry) (hsplit : c.exceptionTable.toList = pre ++ x :: suf)
    (hpass : ∀ z ∈ pre, covers z pc = false ∨ (z.catchType ≠ 0 ∧ ∃ nm : String, (Cond.classLink own z.catchType nm).before args s = true ∧ va_Nc E nm s)) (hx : covers x pc = true) (h0 : x.catchType ≠ 0)
    (hlink : (Cond.classLink own x.catchType name).before args s = true) (hcast : (Cond.castable E name).before args s = true) (hcell : H[q]? = some ce) (hv : ce.vm = .none) (hcl : s.vm.findClass E = some ce.cls)
    (kk : W p l e R s m args below meth c H locs cells slots Q (F0 m x.handlerPc ls [.ref q])) : vx_W p l e R s m args below meth c H locs cells slots Q (F0 m pc ls rest) q := by
  intro T hT X
  have hpl : e.platform.magicAccessors = ({} : Platform).magicAccessors := by rw [X.admits.platform]
  obtain ⟨c3, c4, hc3, hc4, hasg⟩ := Cond.castable_spec hcast
  cases Option.some.inj (hc3.symm.trans hcl)
  obtain ⟨c5, hc5, hcl5⟩ := Cond.classLink_spec hown hlink e.platform hpl
  cases Option.some.inj (hc4.symm.trans hc5)
  obtain ⟨vm', X', st⟩ := X.thenCaughtThrough q (g := F0 m pc ls rest) rfl (Steps.refl _) (by rw [hT]; exact hcell) (by rw [hv]; rfl) (by obtain ⟨k9, h9, -⟩ := Vm.findClass_spec hcl; exact ⟨k9, h9⟩) pre x suf hsplit
    (fun z hz => by
      rcases hpass z hz with h | ⟨hz0, nm, hl1, hn1⟩
      · exact Or.inl h
      · obtain ⟨c6, hc6, hcl6⟩ := Cond.classLink_spec hown hl1 e.platform hpl
        obtain ⟨a8, b8, h1, h2, h3⟩ := hn1
        cases Option.some.inj (h1.symm.trans hcl)
        cases Option.some.inj (h2.symm.trans hc6)
        exact Or.inr ⟨hz0, _, hcl6, h3⟩) hx (Or.inr ⟨h0, c4, hcl5, hasg⟩)
  obtain ⟨t, a1, b1⟩ := kk (T.setVm vm') hT X'
  exact ⟨t, st.trans a1, b1⟩
end Rows
section Ends
variable {p : Program} {l : Launch} {e : Env} {R : Room} {s : State} {m : MethodId} {args : Array Value} {below : List Frame} {meth : Method} {c : Code} {H : Heap} {locs : List Loc} {cells slots : Nat} {Q : State → Prop}
variable {mc ms : Nat} {free : Addr → Prop} {A0 A1 : Nat → Prop} {H0 : Heap} {a : Array Value} {ls : Array Slot} {st0 rest : List Value}
variable {Qc : Array Value → State → Outcome → State → Prop} {XC : String → State → State → Prop}
/-- what a body that may throw owes at its end -/
def vx_MQ (below : List Frame) (Qc : Array Value → State → Outcome → State → Prop) (XC : String → State → State → Prop) (a : Array Value) (s : State) (mc ms : Nat) (free : Addr → Prop) : State → Prop := fun t =>
  ∃ o, t.status = .running ∧ Ended t below o ∧ vx_Q Qc XC mc ms free a s o t
theorem vx_ret {g : JFrame} {mc ms : Nat} (k : W p l e R s m args below meth c H locs cells slots (MQ below Qc args s mc ms free) g) : W p l e R s m args below meth c H locs cells slots (vx_MQ below Qc XC args s mc ms free) g := by
  intro T hT X
  obtain ⟨t, a1, o, b1, b2, b3, b4⟩ := k T hT X
  exact ⟨t, a1, o, b1, b2, Or.inl ⟨b3, b4⟩⟩
/-- not caught here: it goes on to the caller -/
theorem vx_widen {g : JFrame} {q : Addr} {k n : Nat} (h1 : cells ≤ k) (h2 : slots ≤ n) (kk : vx_W p l e R s m args below meth c H locs k n Q g q) : vx_W p l e R s m args below meth c H locs cells slots Q g q := fun T hT X => kk T hT (stand_widen X h1 h2)
theorem vx_out {pc : Nat} {E : String} {ce : Cell} {q : Addr} {mc ms : Nat} (hout : ∀ x ∈ c.exceptionTable.toList, covers x pc = false) (hlocks : meth.locks = false) (hcell : H[q]? = some ce) (hv : ce.vm = .none) (hcl : s.vm.findClass E = some ce.cls)
    (hx : ∀ t : State, t.heap = H → s.vm.Alike t.vm → XC E s t) (hf : ∀ z ∈ locs, free z.base) (hc : cells ≤ mc) (hs : slots ≤ ms) :
    vx_W p l e R s m args below meth c H locs cells slots (vx_MQ below Qc XC args s mc ms free) (F0 m pc ls rest) q := by
  intro T hT X
  obtain ⟨st1, hrun, hend, hW, hsm⟩ := X.leaveThrown q (g := F0 m pc ls rest) rfl rfl rfl hout hlocks
  have hcell9 : (T.setFrames (.throwing q :: below)).heap[q]? = some ce := by
    show T.heap[q]? = some ce
    rw [hT]; exact hcell
  exact ⟨_, st1, .threw q, hrun, hend, Or.inr ⟨q, rfl, E, ce, locs, hx _ hT hW.alike, hcell9, hv, hcl, hW, hsm.mono hc hs, hf⟩⟩
theorem vx_frame {U : State} {k n : Nat} (h : s.sameButNew ({ U with vm := s.vm } : State) locs k n) : s.heap.size ≤ U.heap.size ∧ ∀ q : Nat, q < s.heap.size → (∀ z ∈ locs, z.base ≠ q) → U.heap[q]? = s.heap[q]? := by
  obtain ⟨-, h2, -, -, -, h6⟩ := h
  refine ⟨h2, fun q hq hz => ?_⟩
  obtain ⟨c9, e1, e2, e3, e4⟩ := h6 q _ (Array.getElem?_eq_getElem hq)
  have hs : c9.slots = (s.heap[q]).slots := Array.ext_getElem? fun i => e4 i fun hm => hz _ hm rfl
  have h9 : c9 = s.heap[q] := by
    rw [hs] at e2
    exact e2
  have e5 : U.heap[q]? = some c9 := e1
  rw [e5, h9, Array.getElem?_eq_getElem hq]
/-- the words of a throw but the four that speak of the heap -/
def vx_no (w : Cond) : Bool := decide (w ≠ .isRef (.static Bundle.tN "UNASSIGNED_STACK" Bundle.steD)) && decide (w ≠ .isRef (.static Bundle.tN "SUPPRESSED_SENTINEL" Bundle.listD)) && decide (w ≠ .laysStatic Bundle.tN "UNASSIGNED_STACK" Bundle.steD) && decide (w ≠ .laysStatic Bundle.tN "SUPPRESSED_SENTINEL" Bundle.listD)
def vx_at0 (own : String) (ic : Nat) (X : String) (names : List String) : List Cond := (Bundle.ownAtoms0 own ic X names).filter vx_no
def vx_atS (own : String) (ic : Nat) (X : String) (names : List String) : List Cond := (Bundle.ownAtoms own ic X names).filter vx_no
/-- a word that the tables alone decide, or a good one -/
def vx_ot (w : Cond) : Bool := w.onTables || goodWord w
theorem vx_ot_at {args a' : Array Value} {s U : State} {w : Cond} (hW : s.WarmedH U.vm) (hvm : s.vm = U.vm) (hg : vx_ot w = true) (h : w.before args s = true) : w.before a' U = true := by
  simp only [vx_ot, Bool.or_eq_true] at hg
  rcases hg with hg | hg
  · exact va_tabs hg hvm h
  · exact word_at hW (good_of_word hg) h
/-- a list's words: the good ones out of the method's own list, the others by premises of their own -/
theorem vx_hat {args : Array Value} {s : State} {L B : List Cond} (h1 : ∀ w ∈ L.filter goodWord, w.before args s = true) (h2 : ∀ w ∈ L.filter (fun w => !goodWord w), w ∈ B) (h3 : ∀ w ∈ B, w.before args s = true) : ∀ w ∈ L, w.before args s = true := by
  intro w hw
  by_cases g : goodWord w = true
  · exact h1 w (List.mem_filter.mpr ⟨hw, g⟩)
  · refine h3 w (h2 w (List.mem_filter.mpr ⟨hw, ?_⟩))
    show (!goodWord w) = true
    cases hgw : goodWord w
    · rfl
    · exact absurd hgw g
theorem vx_c {args : Array Value} {s : State} {w : Cond} {B : List Cond} (h : w.before args s = true) (t : ∀ w ∈ B, w.before args s = true) : ∀ w' ∈ w :: B, w'.before args s = true := fun w' h' => (List.mem_cons.mp h').elim (fun e => by rw [e]; exact h) (t w')
theorem vx_n {args : Array Value} {s : State} : ∀ w ∈ ([] : List Cond), w.before args s = true := fun _ h => nomatch h
theorem vx_own {args : Array Value} {s : State} {L : List Cond} (h1 : ∀ w ∈ L.filter vx_no, w.before args s = true)
    (hU : (Cond.isRef (.static Bundle.tN "UNASSIGNED_STACK" Bundle.steD)).before args s = true) (hN : (Cond.isRef (.static Bundle.tN "SUPPRESSED_SENTINEL" Bundle.listD)).before args s = true)
    (lU : (Cond.laysStatic Bundle.tN "UNASSIGNED_STACK" Bundle.steD).before args s = true) (lN : (Cond.laysStatic Bundle.tN "SUPPRESSED_SENTINEL" Bundle.listD).before args s = true) : ∀ w ∈ L, w.before args s = true := by
  intro w hw
  by_cases e1 : w = .isRef (.static Bundle.tN "UNASSIGNED_STACK" Bundle.steD)
  · rw [e1]; exact hU
  · by_cases e2 : w = .isRef (.static Bundle.tN "SUPPRESSED_SENTINEL" Bundle.listD)
    · rw [e2]; exact hN
    · by_cases e3 : w = .laysStatic Bundle.tN "UNASSIGNED_STACK" Bundle.steD
      · rw [e3]; exact lU
      · by_cases e4 : w = .laysStatic Bundle.tN "SUPPRESSED_SENTINEL" Bundle.listD
        · rw [e4]; exact lN
        · exact h1 w (List.mem_filter.mpr ⟨hw, by unfold vx_no; rw [decide_eq_true e1, decide_eq_true e2, decide_eq_true e3, decide_eq_true e4]; rfl⟩)
/-- where a static field lies, its class's statics cell in H -/
def vx_L (C n d : String) (A : Nat → Prop) (U : State) (H : Heap) : Prop := ∃ (c : ClassId) (k : Class) (i : Nat) (f : Field) (a : Nat) (cell : Cell), U.vm.findClass C = some c ∧ U.fieldFound? C n d = some (c, k, i, f) ∧ f.isStatic = true ∧ k.statics = some a ∧ H[a]? = some cell ∧ cell.vm.isStatics = true ∧ cell.cls = c ∧ f.slot < cell.slots.size ∧ k.staticTypes[f.slot]? = some f.type ∧ ¬ A a
theorem vx_L.moved {C n d : String} {A : Nat → Prop} {u U : State} {H : Heap} (hvm : u.vm.Alike U.vm) (h : vx_L C n d A u H) : vx_L C n d A U H := by
  obtain ⟨c, k, i, f, a, cell, h1, h2, h3, h4, h5, h6, h7, h8, h9, h10⟩ := h
  obtain ⟨k', hi', he⟩ := State.fieldFound?_setVm hvm h2
  exact ⟨c, k', i, f, a, cell, by rw [hvm.findClass]; exact h1, hi', h3, by rw [he]; exact h4, h5, h6, h7, h8, by rw [he]; exact h9, h10⟩
theorem vx_L.kept {C n d : String} {A : Nat → Prop} {U : State} {H H1 : Heap} (h : vx_L C n d A U H) (hq : ∀ a : Nat, a < H.size → ¬ A a → H1[a]? = H[a]?) : vx_L C n d A U H1 := by
  obtain ⟨c, k, i, f, a, cell, h1, h2, h3, h4, h5, h6, h7, h8, h9, h10⟩ := h
  exact ⟨c, k, i, f, a, cell, h1, h2, h3, h4, by rw [hq a (Array.getElem?_eq_some_iff.mp h5).1 h10]; exact h5, h6, h7, h8, h9, h10⟩
theorem vx_L.narrow {C n d : String} {A B : Nat → Prop} {U : State} {H : Heap} (h : vx_L C n d A U H) (hAB : ∀ q, B q → A q) : vx_L C n d B U H := by
  obtain ⟨c, k, i, f, a, cell, h1, h2, h3, h4, h5, h6, h7, h8, h9, h10⟩ := h
  exact ⟨c, k, i, f, a, cell, h1, h2, h3, h4, h5, h6, h7, h8, h9, fun z => h10 (hAB _ z)⟩
theorem vx_L.word {C n d : String} {A : Nat → Prop} {s : State} {args : Array Value} (h : vx_L C n d A s s.heap) : (Cond.laysStatic C n d).before args s = true := by
  obtain ⟨c, k, i, f, a, cell, h1, h2, h3, h4, h5, h6, h7, h8, h9, -⟩ := h
  show (Cond.laysStatic C n d).holds args s none s [] = true
  exact Cond.laysStatic_of h1 h2 h3 h4 h5 h6 h7 h8 h9
/-- .. and what it holds: null or some reference -/
def vx_Zq (C n d : String) (A : Nat → Prop) (U : State) (H : Heap) : Prop := va_Zq C n d A U H ∧ vx_L C n d A U H
theorem vx_Zq.moved {C n d : String} {A : Nat → Prop} {u U : State} {H : Heap} (hvm : u.vm.Alike U.vm) (h : vx_Zq C n d A u H) : vx_Zq C n d A U H := ⟨va_Zq.moved hvm h.1, vx_L.moved hvm h.2⟩
theorem vx_Zq.kept {C n d : String} {A : Nat → Prop} {U : State} {H H1 : Heap} (h : vx_Zq C n d A U H) (hq : ∀ a : Nat, a < H.size → ¬ A a → H1[a]? = H[a]?) : vx_Zq C n d A U H1 := ⟨va_Zq.kept h.1 hq, vx_L.kept h.2 hq⟩
theorem vx_Zq.narrow {C n d : String} {A B : Nat → Prop} {U : State} {H : Heap} (h : vx_Zq C n d A U H) (hAB : ∀ q, B q → A q) : vx_Zq C n d B U H := ⟨va_Zq.narrow h.1 hAB, vx_L.narrow h.2 hAB⟩
theorem vx_Zqof {args : Array Value} {s : State} {C n d : String} {A : Nat → Prop} (hl : (Cond.laysStatic C n d).before args s = true) (hini : (Cond.initialized C).before args s = true) (h : (Cond.isRef (.static C n d)).before args s = true) (hA : ∀ a : Nat, a < s.heap.size → ¬ A a) : vx_Zq C n d A s s.heap := by
  refine ⟨va_Zqof hl hini h hA, ?_⟩
  obtain ⟨c, k, i, f, a, cell, h1, h2, h3, h4, h5, h6, h7, h8, h9⟩ := Cond.laysStatic_spec hl
  exact ⟨c, k, i, f, a, cell, h1, h2, h3, h4, h5, h6, h7, h8, h9, hA a (Array.getElem?_eq_some_iff.mp h5).1⟩
theorem vx_isRef {C n d : String} {v : Value} {A : Nat → Prop} {s : State} {args : Array Value} (h : va_Z C n d v A s s.heap) (hv : v.isRef = true) : (Cond.isRef (.static C n d)).before args s = true := by
  obtain ⟨cf, kf, fi, f, a, cell, h1, h2, h3, h4, h5, h6, h7, -⟩ := h
  have he : (Term.static C n d).eval args s none [] s = some v := by
    simp [Term.eval, State.fieldNamed?, h1, h2, h4, h5, h6, h7]
  simp only [Cond.before, Cond.holds, Cond.value, he]
  cases v <;> simp_all [Value.isRef]
theorem vx_isRefq {C n d : String} {A : Nat → Prop} {s : State} {args : Array Value} (h : va_Zq C n d A s s.heap) : (Cond.isRef (.static C n d)).before args s = true := by
  rcases h with h | ⟨t, h⟩
  · exact vx_isRef h rfl
  · exact vx_isRef h rfl
/-- the same frame, seen from here: as if the method were called anew in this heap -/
theorem vx_rebase {T : State} (X : Stand p l e R s m args below meth c T locs cells slots) {R' : Room} (hf : R'.frames ≤ R.frames) (hl : R'.locals ≤ R.locals) (hc : cells + R'.cells ≤ R.cells) (hs : slots + R'.slots ≤ R.slots) :
    Stand p l e R' ((T.setVm s.vm).setFrames (.invoking m args :: below)) m args below meth c T [] 0 0 := by
  have htop : (T.setVm s.vm).topJava?.isSome := X.here.top
  have hF : ((T.setVm s.vm).setFrames (.invoking m args :: below)).frames = .invoking m args :: below := State.frames_setFrames _ (State.cur_lt_of_top htop)
  obtain ⟨g₀, hg0⟩ := Option.isSome_iff_exists.mp htop
  obtain ⟨r, hr⟩ := State.topJava?_eq_some.mp hg0
  have hl9 : e.platform.stackLimits (T.setVm s.vm).me = e.platform.stackLimits s.me := X.limits
  have hb9 : (T.setVm s.vm).me.stackBytes = s.me.stackBytes := X.bytes
  refine ⟨X.admits, X.cas, X.clock, hF, ?_, X.hears, X.method, X.code, X.here, X.tail, X.warmed, ?_, ?_, ?_⟩
  · have h := X.room
    have hU : ((T.setVm s.vm).setFrames (.invoking m args :: below)).localsInUse = s.localsInUse := by
      rw [State.localsInUse_invoking hF (meth := meth) (c := c) X.method X.code, State.localsInUse_invoking X.frames X.method X.code]
    simp only [State.hasRoom, Bool.and_eq_true, decide_eq_true_eq] at h ⊢
    obtain ⟨⟨⟨⟨h1, h2, h3, h4, h5, h6⟩, h7⟩, h8⟩, h9⟩ := h
    rw [X.frames, List.length_cons] at h2 h3
    have q1 := X.heapSize
    have q2 := X.used
    simp only [hF, hU, List.length_cons, State.stackLimits_setFrames, State.stackBytes_setFrames, hl9, hb9]
    refine ⟨⟨⟨⟨by omega, by omega, by omega, by omega, by omega, h6⟩, ?_⟩, ?_⟩, X.book⟩
    · show T.heap.size + R'.cells ≤ e.platform.maxCells
      omega
    · show T.slotsUsed + R'.slots ≤ e.platform.maxSlots
      omega
  · rw [State.stackLimits_setFrames]; rfl
  · rw [State.stackBytes_setFrames]; rfl
  · refine ⟨?_, Nat.le_refl _, Nat.le_refl _, ?_, ?_, fun a c9 h9 => ⟨c9, h9, rfl, rfl, fun _ _ => rfl⟩⟩
    · obtain ⟨t, ht, -⟩ := State.frames_cons hr
      show T.setVm s.vm = { ((T.setVm s.vm).setFrames (.invoking m args :: below)).setFrames (T.setVm s.vm).frames with heap := T.heap, slotsUsed := T.slotsUsed }
      rw [State.setFrames_setFrames, State.setFrames_self ht]
      rfl
    · show T.slotsUsed = T.slotsUsed + ((T.heap.toList.drop T.heap.size).map (·.slots.size)).sum
      rw [List.drop_eq_nil_of_le (Nat.le_of_eq Array.length_toList)]
      rfl
    · show ((T.heap.toList.drop T.heap.size).map (·.slots.size)).sum ≤ 0
      rw [List.drop_eq_nil_of_le (Nat.le_of_eq Array.length_toList)]
      exact Nat.le_refl _
/-- 'throw new E()': new; dup; invokespecial; athrow -/
theorem vx_throw0 {cc : ByteArray} {pc : Nat} (hexec : p.tables.exec = Jvm.exec) (hb : c.code = cc) (hl : l.stackTraces = false) {own cls : String} {names : List String} {ik ic mc ms : Nat} {A : Nat → Prop}
    (hown : s.vm.findClass own = some m.cls) (hcls : Bundle.fit cls = true) (hnames : ∀ n ∈ names, Bundle.fit n = true)
    (hk : (Cond.classLink own ik cls).before args s = true) (hini : (Cond.initialized cls).before args s = true) (hat : ∀ w ∈ vx_at0 own ic cls names, w.before args s = true)
    (hgood : ∀ w ∈ Cond.classLink own ik cls :: Cond.initialized cls :: vx_at0 own ic cls names, vx_ot w = true)
    (hU : vx_Zq Bundle.tN "UNASSIGNED_STACK" Bundle.steD A s s.heap) (hN : vx_Zq Bundle.tN "SUPPRESSED_SENTINEL" Bundle.listD A s s.heap) (hS : va_S A s.heap H locs) (hsize : ls.size = c.maxLocals)
    (d0 : decode cc pc = .ok (.new ik, 3)) (d3 : decode cc (pc + 3) = .ok (.dup, 1)) (d4 : decode cc (pc + 4) = .ok (.invokespecial ic, 3)) (d7 : decode cc (pc + 7) = .ok (.athrow, 1))
    (hout : ∀ x ∈ c.exceptionTable.toList, covers x (pc + 7) = false)
    (hRframes : names.length + 3 < R.frames) (hRlocals : (rest.map fun v => v.category).sum + (13 * (names.length + 1) + 42) ≤ R.locals) (hRcells : cells + 1 ≤ R.cells) (hRslots : slots + 6 ≤ R.slots) (hlocks : meth.locks = false)
    (hx : ∀ t : State, s.vm.Alike t.vm → H.size ≤ t.heap.size → (∀ q : Nat, q < H.size → t.heap[q]? = H[q]?) → XC cls s t)
    (hf : ∀ z ∈ locs, free z.base) (hc : cells + 1 ≤ mc) (hs : slots + 6 ≤ ms) :
    W p l e R s m args below meth c H locs cells slots (vx_MQ below Qc XC args s mc ms free) (F0 m pc ls rest) := by
  intro T hT X
  have htr : e.platform.stackTraces = false := (show e.platform.stackTraces = l.stackTraces by rw [X.admits.platform]).trans hl
  have Y := vx_rebase X (R' := { frames := R.frames, locals := R.locals, cells := 1, slots := 6 }) (Nat.le_refl _) (Nat.le_refl _) hRcells hRslots
  obtain ⟨s', hA⟩ : ∃ z, z = (T.setVm s.vm).setFrames (.invoking m args :: below) := ⟨_, rfl⟩
  rw [← hA] at Y
  have hvm : s'.vm = s.vm := by rw [hA]; rfl
  have hhp : s'.heap = H := by rw [hA]; exact hT
  have hW0 : s.WarmedH s'.vm := by rw [hvm]; exact State.WarmedH.refl s
  have hat' : ∀ w ∈ vx_at0 own ic cls names, w.before args s' = true := fun w hw => vx_ot_at hW0 hvm.symm (hgood w (List.mem_cons_of_mem _ (List.mem_cons_of_mem _ hw))) (hat w hw)
  have hk' : (Cond.classLink own ik cls).before args s' = true := vx_ot_at hW0 hvm.symm (hgood _ List.mem_cons_self) hk
  have hini' : (Cond.initialized cls).before args s' = true := vx_ot_at hW0 hvm.symm (hgood _ (List.mem_cons_of_mem _ List.mem_cons_self)) hini
  have hU' : vx_Zq Bundle.tN "UNASSIGNED_STACK" Bundle.steD A s' s'.heap := by rw [hhp]; exact vx_Zq.moved hW0.alike (hU.kept hS.2.1)
  have hN' : vx_Zq Bundle.tN "SUPPRESSED_SENTINEL" Bundle.listD A s' s'.heap := by rw [hhp]; exact vx_Zq.moved hW0.alike (hN.kept hS.2.1)
  have h : ∀ w ∈ Bundle.ownAtoms0 own ic cls names, w.before args s' = true := vx_own hat' (vx_isRefq hU'.1) (vx_isRefq hN'.1) hU'.2.word hN'.2.word
  have hown' : s'.vm.findClass own = some m.cls := by rw [hvm]; exact hown
  have hins : (Cond.instantiable cls 6).before args s' = true := h _ (by simp [Bundle.ownAtoms0])
  obtain ⟨vm₁, cX, kX, hfX, hkX, -, -, X₁, st1⟩ := Y.newCold hexec (own := own) (C := cls) (index := ik) (n := 6) hown' hk' hins hini'
    (g := F0 m pc ls rest) rfl (by rw [hb]; exact d0) (Nat.le_refl _) (Nat.le_refl _)
  generalize hT1 : (T.setVm vm₁).pushCell { cls := cX, slots := kX.instanceTypes.map defaultValue, vm := .none } = T1 at X₁ st1
  have hcat : (Value.ref T.heap.size).category = 1 := rfl
  have hcellA : T1.heap[T.heap.size]? = some (freshCell cX kX) := by rw [← hT1]; exact State.heap_pushCell_size _ _
  have d3' : decode c.code (pc + 3) = .ok (.dup, 1) := by rw [hb]; exact d3
  obtain ⟨U, hsteps, hrun, hend, hW, hsame, ce, hce, hO⟩ := X₁.ctorThrow0 hexec htr (own := own) (cls := cls) (names := names) (ic := ic) hown' hcls hnames h (fun x hx => nomatch hx) hfX hkX hcellA (by rw [hhp, hT]; exact Nat.le_refl _)
    (g := { method := m, pc := pc + 4, locals := ls, stack := .ref T.heap.size :: .ref T.heap.size :: rest, locked := none }) rfl hsize rfl rfl (rest := rest) rfl
    (by rw [hb]; exact d4) (by rw [hb]; exact d7) hout hRframes (by simp only [List.map_cons, List.sum_cons, hcat]; omega) hlocks
  obtain ⟨f1, f2⟩ := vx_frame hsame
  rw [hhp] at f1 f2
  have hWs : s.WarmedH U.vm := State.WarmedH.trans hW0 hW
  have hcl : s.vm.findClass cls = some ce.cls := by
    have h9 := hO.cls
    rw [hvm] at h9
    exact h9
  have hall : s.sameButNew ({ U with vm := s.vm } : State) locs mc ms := by
    subst hA
    obtain ⟨e1, e2⟩ := hsame
    rw [State.setFrames_setFrames] at e1
    have h2 : (T.setVm s.vm).sameButNew ({ U with vm := s.vm } : State) [] (0 + 1) (0 + 6) := ⟨e1, e2⟩
    have h3 := X.same.trans h2
    rw [List.append_nil] at h3
    exact h3.mono hc hs
  refine ⟨U, ?_, .threw T.heap.size, hrun, hend, Or.inr ⟨T.heap.size, rfl, cls, ce, locs, hx U hWs.alike f1 (fun q hq => f2 q hq (fun z hz => nomatch hz)), hce, hO.vm, hcl, hWs, hall, hf⟩⟩
  refine st1 _ ?_
  show Steps p.tables e below (T1.setTop { method := m, pc := pc + 3, locals := ls, stack := .ref T.heap.size :: rest, locked := none }) _
  jvm_step X₁.here [X₁.here.top, hexec, d3', Value.category]
  exact hsteps
/-- 'throw new E("text")': new; dup; ldc; invokespecial; athrow -/
theorem vx_throwS {cc : ByteArray} {pc : Nat} (hexec : p.tables.exec = Jvm.exec) (hb : c.code = cc) (hl : l.stackTraces = false) {own cls text : String} {names : List String} {ik is ic mc ms sa : Nat} {A : Nat → Prop}
    (hown : s.vm.findClass own = some m.cls) (hcls : Bundle.fit cls = true) (hnames : ∀ n ∈ names, Bundle.fit n = true)
    (hk : (Cond.classLink own ik cls).before args s = true) (hini : (Cond.initialized cls).before args s = true) (hstr : vk_R own is text sa s) (hat : ∀ w ∈ vx_atS own ic cls names, w.before args s = true)
    (hgood : ∀ w ∈ Cond.classLink own ik cls :: Cond.initialized cls :: vx_atS own ic cls names, vx_ot w = true)
    (hU : vx_Zq Bundle.tN "UNASSIGNED_STACK" Bundle.steD A s s.heap) (hN : vx_Zq Bundle.tN "SUPPRESSED_SENTINEL" Bundle.listD A s s.heap) (hS : va_S A s.heap H locs) (hsize : ls.size = c.maxLocals)
    (d0 : decode cc pc = .ok (.new ik, 3)) (d3 : decode cc (pc + 3) = .ok (.dup, 1)) (d4 : decode cc (pc + 4) = .ok (.ldc is, 2)) (d6 : decode cc (pc + 6) = .ok (.invokespecial ic, 3)) (d9 : decode cc (pc + 9) = .ok (.athrow, 1))
    (hout : ∀ x ∈ c.exceptionTable.toList, covers x (pc + 9) = false)
    (hRframes : names.length + 3 < R.frames) (hRlocals : (rest.map fun v => v.category).sum + (13 * (names.length + 1) + 43) ≤ R.locals) (hRcells : cells + 1 ≤ R.cells) (hRslots : slots + 6 ≤ R.slots) (hlocks : meth.locks = false)
    (hx : ∀ t : State, s.vm.Alike t.vm → H.size ≤ t.heap.size → (∀ q : Nat, q < H.size → t.heap[q]? = H[q]?) → XC cls s t)
    (hf : ∀ z ∈ locs, free z.base) (hc : cells + 1 ≤ mc) (hs : slots + 6 ≤ ms) :
    W p l e R s m args below meth c H locs cells slots (vx_MQ below Qc XC args s mc ms free) (F0 m pc ls rest) := by
  intro T hT X
  have htr : e.platform.stackTraces = false := (show e.platform.stackTraces = l.stackTraces by rw [X.admits.platform]).trans hl
  have Y := vx_rebase X (R' := { frames := R.frames, locals := R.locals, cells := 1, slots := 6 }) (Nat.le_refl _) (Nat.le_refl _) hRcells hRslots
  obtain ⟨s', hA⟩ : ∃ z, z = (T.setVm s.vm).setFrames (.invoking m args :: below) := ⟨_, rfl⟩
  rw [← hA] at Y
  have hvm : s'.vm = s.vm := by rw [hA]; rfl
  have hhp : s'.heap = H := by rw [hA]; exact hT
  have hW0 : s.WarmedH s'.vm := by rw [hvm]; exact State.WarmedH.refl s
  have hat' : ∀ w ∈ vx_atS own ic cls names, w.before args s' = true := fun w hw => vx_ot_at hW0 hvm.symm (hgood w (List.mem_cons_of_mem _ (List.mem_cons_of_mem _ hw))) (hat w hw)
  have hk' : (Cond.classLink own ik cls).before args s' = true := vx_ot_at hW0 hvm.symm (hgood _ List.mem_cons_self) hk
  have hini' : (Cond.initialized cls).before args s' = true := vx_ot_at hW0 hvm.symm (hgood _ (List.mem_cons_of_mem _ List.mem_cons_self)) hini
  have hU' : vx_Zq Bundle.tN "UNASSIGNED_STACK" Bundle.steD A s' s'.heap := by rw [hhp]; exact vx_Zq.moved hW0.alike (hU.kept hS.2.1)
  have hN' : vx_Zq Bundle.tN "SUPPRESSED_SENTINEL" Bundle.listD A s' s'.heap := by rw [hhp]; exact vx_Zq.moved hW0.alike (hN.kept hS.2.1)
  have h : ∀ w ∈ Bundle.ownAtoms own ic cls names, w.before args s' = true := vx_own hat' (vx_isRefq hU'.1) (vx_isRefq hN'.1) hU'.2.word hN'.2.word
  have hown' : s'.vm.findClass own = some m.cls := by rw [hvm]; exact hown
  have hins : (Cond.instantiable cls 6).before args s' = true := h _ (by simp [Bundle.ownAtoms])
  obtain ⟨vm₁, cX, kX, hfX, hkX, -, -, X₁, st1⟩ := Y.newCold hexec (own := own) (C := cls) (index := ik) (n := 6) hown' hk' hins hini'
    (g := F0 m pc ls rest) rfl (by rw [hb]; exact d0) (Nat.le_refl _) (Nat.le_refl _)
  generalize hT1 : (T.setVm vm₁).pushCell { cls := cX, slots := kX.instanceTypes.map defaultValue, vm := .none } = T1 at X₁ st1
  have hcat : (Value.ref T.heap.size).category = 1 := rfl
  have hcellA : T1.heap[T.heap.size]? = some (freshCell cX kX) := by rw [← hT1]; exact State.heap_pushCell_size _ _
  have d3' : decode c.code (pc + 3) = .ok (.dup, 1) := by rw [hb]; exact d3
  have d4' : decode c.code (pc + 4) = .ok (.ldc is, 2) := by rw [hb]; exact d4
  have hstr' : vk_R own is text sa s' := vk_R.warm hW0 hstr
  obtain ⟨U, hsteps, hrun, hend, hW, hsame, ce, hce, hO⟩ := X₁.ctorThrowS hexec htr (own := own) (cls := cls) (names := names) (ic := ic) hown' hcls hnames h (fun x hx => nomatch hx) hfX hkX hcellA (by rw [hhp, hT]; exact Nat.le_refl _) (msg := .ref sa) rfl
    (g := { method := m, pc := pc + 6, locals := ls, stack := .ref sa :: .ref T.heap.size :: .ref T.heap.size :: rest, locked := none }) rfl hsize rfl rfl (rest := rest) rfl
    (by rw [hb]; exact d6) (by rw [hb]; exact d9) hout hRframes (by simp only [List.map_cons, List.sum_cons, hcat]; omega) hlocks
  obtain ⟨f1, f2⟩ := vx_frame hsame
  rw [hhp] at f1 f2
  have hWs : s.WarmedH U.vm := State.WarmedH.trans hW0 hW
  have hcl : s.vm.findClass cls = some ce.cls := by
    have h9 := hO.cls
    rw [hvm] at h9
    exact h9
  have hall : s.sameButNew ({ U with vm := s.vm } : State) locs mc ms := by
    subst hA
    obtain ⟨e1, e2⟩ := hsame
    rw [State.setFrames_setFrames] at e1
    have h2 : (T.setVm s.vm).sameButNew ({ U with vm := s.vm } : State) [] (0 + 1) (0 + 6) := ⟨e1, e2⟩
    have h3 := X.same.trans h2
    rw [List.append_nil] at h3
    exact h3.mono hc hs
  refine ⟨U, ?_, .threw T.heap.size, hrun, hend, Or.inr ⟨T.heap.size, rfl, cls, ce, locs, hx U hWs.alike f1 (fun q hq => f2 q hq (fun z hz => nomatch hz)), hce, hO.vm, hcl, hWs, hall, hf⟩⟩
  refine st1 _ ?_
  show Steps p.tables e below (T1.setTop { method := m, pc := pc + 3, locals := ls, stack := .ref T.heap.size :: rest, locked := none }) _
  jvm_step X₁.here [X₁.here.top, hexec, d3', Value.category]
  exact X₁.ldcString hexec (own := own) (text := text) (index := is) (a := sa) hown' hstr'.1 hstr'.2
    (g := { method := m, pc := pc + 4, locals := ls, stack := .ref T.heap.size :: .ref T.heap.size :: rest, locked := none }) rfl d4' _ hsteps
/-- 'throw new E("text")', the text by a wide index -/
theorem vx_throwSW {cc : ByteArray} {pc : Nat} (hexec : p.tables.exec = Jvm.exec) (hb : c.code = cc) (hl : l.stackTraces = false) {own cls text : String} {names : List String} {ik is ic mc ms sa : Nat} {A : Nat → Prop}
    (hown : s.vm.findClass own = some m.cls) (hcls : Bundle.fit cls = true) (hnames : ∀ n ∈ names, Bundle.fit n = true)
    (hk : (Cond.classLink own ik cls).before args s = true) (hini : (Cond.initialized cls).before args s = true) (hstr : vk_R own is text sa s) (hat : ∀ w ∈ vx_atS own ic cls names, w.before args s = true)
    (hgood : ∀ w ∈ Cond.classLink own ik cls :: Cond.initialized cls :: vx_atS own ic cls names, vx_ot w = true)
    (hU : vx_Zq Bundle.tN "UNASSIGNED_STACK" Bundle.steD A s s.heap) (hN : vx_Zq Bundle.tN "SUPPRESSED_SENTINEL" Bundle.listD A s s.heap) (hS : va_S A s.heap H locs) (hsize : ls.size = c.maxLocals)
    (d0 : decode cc pc = .ok (.new ik, 3)) (d3 : decode cc (pc + 3) = .ok (.dup, 1)) (d4 : decode cc (pc + 4) = .ok (.ldc_w is, 3)) (d7 : decode cc (pc + 7) = .ok (.invokespecial ic, 3)) (d10 : decode cc (pc + 10) = .ok (.athrow, 1))
    (hout : ∀ x ∈ c.exceptionTable.toList, covers x (pc + 10) = false)
    (hRframes : names.length + 3 < R.frames) (hRlocals : (rest.map fun v => v.category).sum + (13 * (names.length + 1) + 43) ≤ R.locals) (hRcells : cells + 1 ≤ R.cells) (hRslots : slots + 6 ≤ R.slots) (hlocks : meth.locks = false)
    (hx : ∀ t : State, s.vm.Alike t.vm → H.size ≤ t.heap.size → (∀ q : Nat, q < H.size → t.heap[q]? = H[q]?) → XC cls s t)
    (hf : ∀ z ∈ locs, free z.base) (hc : cells + 1 ≤ mc) (hs : slots + 6 ≤ ms) :
    W p l e R s m args below meth c H locs cells slots (vx_MQ below Qc XC args s mc ms free) (F0 m pc ls rest) := by
  intro T hT X
  have htr : e.platform.stackTraces = false := (show e.platform.stackTraces = l.stackTraces by rw [X.admits.platform]).trans hl
  have Y := vx_rebase X (R' := { frames := R.frames, locals := R.locals, cells := 1, slots := 6 }) (Nat.le_refl _) (Nat.le_refl _) hRcells hRslots
  obtain ⟨s', hA⟩ : ∃ z, z = (T.setVm s.vm).setFrames (.invoking m args :: below) := ⟨_, rfl⟩
  rw [← hA] at Y
  have hvm : s'.vm = s.vm := by rw [hA]; rfl
  have hhp : s'.heap = H := by rw [hA]; exact hT
  have hW0 : s.WarmedH s'.vm := by rw [hvm]; exact State.WarmedH.refl s
  have hat' : ∀ w ∈ vx_atS own ic cls names, w.before args s' = true := fun w hw => vx_ot_at hW0 hvm.symm (hgood w (List.mem_cons_of_mem _ (List.mem_cons_of_mem _ hw))) (hat w hw)
  have hk' : (Cond.classLink own ik cls).before args s' = true := vx_ot_at hW0 hvm.symm (hgood _ List.mem_cons_self) hk
  have hini' : (Cond.initialized cls).before args s' = true := vx_ot_at hW0 hvm.symm (hgood _ (List.mem_cons_of_mem _ List.mem_cons_self)) hini
  have hU' : vx_Zq Bundle.tN "UNASSIGNED_STACK" Bundle.steD A s' s'.heap := by rw [hhp]; exact vx_Zq.moved hW0.alike (hU.kept hS.2.1)
  have hN' : vx_Zq Bundle.tN "SUPPRESSED_SENTINEL" Bundle.listD A s' s'.heap := by rw [hhp]; exact vx_Zq.moved hW0.alike (hN.kept hS.2.1)
  have h : ∀ w ∈ Bundle.ownAtoms own ic cls names, w.before args s' = true := vx_own hat' (vx_isRefq hU'.1) (vx_isRefq hN'.1) hU'.2.word hN'.2.word
  have hown' : s'.vm.findClass own = some m.cls := by rw [hvm]; exact hown
  have hins : (Cond.instantiable cls 6).before args s' = true := h _ (by simp [Bundle.ownAtoms])
  obtain ⟨vm₁, cX, kX, hfX, hkX, -, -, X₁, st1⟩ := Y.newCold hexec (own := own) (C := cls) (index := ik) (n := 6) hown' hk' hins hini'
    (g := F0 m pc ls rest) rfl (by rw [hb]; exact d0) (Nat.le_refl _) (Nat.le_refl _)
  generalize hT1 : (T.setVm vm₁).pushCell { cls := cX, slots := kX.instanceTypes.map defaultValue, vm := .none } = T1 at X₁ st1
  have hcat : (Value.ref T.heap.size).category = 1 := rfl
  have hcellA : T1.heap[T.heap.size]? = some (freshCell cX kX) := by rw [← hT1]; exact State.heap_pushCell_size _ _
  have d3' : decode c.code (pc + 3) = .ok (.dup, 1) := by rw [hb]; exact d3
  have d4' : decode c.code (pc + 4) = .ok (.ldc_w is, 3) := by rw [hb]; exact d4
  have hstr' : vk_R own is text sa s' := vk_R.warm hW0 hstr
  obtain ⟨U, hsteps, hrun, hend, hW, hsame, ce, hce, hO⟩ := X₁.ctorThrowS hexec htr (own := own) (cls := cls) (names := names) (ic := ic) hown' hcls hnames h (fun x hx => nomatch hx) hfX hkX hcellA (by rw [hhp, hT]; exact Nat.le_refl _) (msg := .ref sa) rfl
    (g := { method := m, pc := pc + 7, locals := ls, stack := .ref sa :: .ref T.heap.size :: .ref T.heap.size :: rest, locked := none }) rfl hsize rfl rfl (rest := rest) rfl
    (by rw [hb]; exact d7) (by rw [hb]; exact d10) hout hRframes (by simp only [List.map_cons, List.sum_cons, hcat]; omega) hlocks
  obtain ⟨f1, f2⟩ := vx_frame hsame
  rw [hhp] at f1 f2
  have hWs : s.WarmedH U.vm := State.WarmedH.trans hW0 hW
  have hcl : s.vm.findClass cls = some ce.cls := by
    have h9 := hO.cls
    rw [hvm] at h9
    exact h9
  have hall : s.sameButNew ({ U with vm := s.vm } : State) locs mc ms := by
    subst hA
    obtain ⟨e1, e2⟩ := hsame
    rw [State.setFrames_setFrames] at e1
    have h2 : (T.setVm s.vm).sameButNew ({ U with vm := s.vm } : State) [] (0 + 1) (0 + 6) := ⟨e1, e2⟩
    have h3 := X.same.trans h2
    rw [List.append_nil] at h3
    exact h3.mono hc hs
  refine ⟨U, ?_, .threw T.heap.size, hrun, hend, Or.inr ⟨T.heap.size, rfl, cls, ce, locs, hx U hWs.alike f1 (fun q hq => f2 q hq (fun z hz => nomatch hz)), hce, hO.vm, hcl, hWs, hall, hf⟩⟩
  refine st1 _ ?_
  show Steps p.tables e below (T1.setTop { method := m, pc := pc + 3, locals := ls, stack := .ref T.heap.size :: rest, locked := none }) _
  jvm_step X₁.here [X₁.here.top, hexec, d3', Value.category]
  exact X₁.ldcStringW hexec (own := own) (text := text) (index := is) (a := sa) hown' hstr'.1 hstr'.2
    (g := { method := m, pc := pc + 4, locals := ls, stack := .ref T.heap.size :: .ref T.heap.size :: rest, locked := none }) rfl d4' _ hsteps
end Ends
section Bodies
variable {l : Launch}
theorem vx_ofW {y : MethodName} {ws ws' : List Cond} {rm : Room} {Pc : Array Value → State → Prop} {Qc : Array Value → State → Outcome → State → Prop} {XC : String → State → State → Prop} {mc ms : Nat} {free : Addr → Prop} {cc : ByteArray} {maxL : Nat} {ret : Option FieldType}
    (hy : plainName y.cls = true) (hw : ws = Cond.code y cc maxL ret :: ws')
    (body : ∀ p e s m args below meth c s₁, BodyLoose p l y (headSpec ws rm) cc maxL ret e s m args below meth c s₁ → c.maxLocals = maxL → (∀ x ∈ c.exceptionTable.toList, False) → Pc args s →
      W p l e (headSpec ws rm).room s m args below meth c s.heap [] 0 0 (vx_MQ below Qc XC args s mc ms free) (entryFrame m args maxL)) : vx_Met l y ws rm Pc Qc XC mc ms free := by
  refine MetFree.of_bodyS (code := cc) (maxLocals := maxL) (ret := ret) hy ?_ ?_
  · intro args s m h hn
    obtain ⟨meth, c, h1, h2, h3, h4, h5, h6, -, -⟩ := Cond.code_spec hn (atoms_spec (ws := ws) h _ (by rw [hw]; exact List.mem_cons_self))
    exact ⟨meth, c, h1, h2, h3, h4, h5, h6⟩
  · intro p e s m args below meth c s₁ B hml hP _
    have hh0 : s₁.heap = s.heap := by rw [B.state]; rfl
    have ht : ∀ x ∈ c.exceptionTable.toList, False := by
      obtain ⟨meth9, c9, h1, h2, -, -, -, -, h7, -⟩ := Cond.code_spec B.named (atoms_spec (ws := ws) B.pre _ (by rw [hw]; exact List.mem_cons_self))
      cases Option.some.inj (h1.symm.trans B.method)
      cases Option.some.inj (h2.symm.trans (Stand.of_body B).code)
      intro x hx
      rw [Array.isEmpty_iff.mp h7] at hx
      cases hx
    obtain ⟨t, a1, o, b1, b2, b3⟩ := body p e s m args below meth c s₁ B hml ht hP s₁ hh0 (Stand.of_body B)
    exact ⟨t, o, a1, b1, b2, b3⟩
/-- the table of a body with handlers -/
theorem vx_table {p : Program} {x y : MethodName} {S : Spec} {cc bytes : ByteArray} {maxL maxL' : Nat} {ret ret' : Option FieldType} {e : Env} {s s₁ : State} {m : MethodId} {args : Array Value} {below : List Frame} {meth : Method} {c : Code} {hh : List (Nat × Nat × Nat × Nat)}
    (B : BodyLoose p l y S cc maxL ret e s m args below meth c s₁) (h : (Cond.codeWith y bytes maxL' ret' hh).before args s = true) : c.exceptionTable.toList = tableOf hh := by
  obtain ⟨m9, meth9, c9, hn9, h1, h2, -, -, h6, -⟩ := Cond.codeWith_spec h
  cases Option.some.inj (hn9.symm.trans B.named)
  cases Option.some.inj (h1.symm.trans B.method)
  cases Option.some.inj (h2.symm.trans (Stand.of_body B).code)
  rw [← h6, table_eq]
end Bodies
end VXA
/-! ===== END ===== -/
/-! ===== BEGIN a static call of a method with an exception table ===== -/
section VXS
variable {p : Program} {l : Launch} {e : Env} {R : Room} {s : State} {m : MethodId} {args : Array Value} {below : List Frame} {meth : Method} {c : Code} {T : State} {H : Heap} {locs : List Loc} {cells slots : Nat}
abbrev vx_CSW (R : Room) (s : State) (args : Array Value) (own : String) (index : Nat) (y : MethodName) (bytes : ByteArray) (maxL : Nat) (ret : Option FieldType) (hh : List (Nat × Nat × Nat × Nat)) (ws : List Cond) (rm : Room) (mc ms n : Nat) : Prop :=
  (rm.cells = mc ∧ rm.slots = ms ∧ rm.frames + 1 ≤ R.frames ∧ 8 + (maxL + 11) + rm.locals ≤ R.locals ∧ (∀ w ∈ ws, ∀ (a' : Array Value) (U : State), s.WarmedH U.vm → w.before a' U = true) ∧ Cond.codeWith y bytes maxL ret hh ∈ ws) ∧
  (Cond.codeWith y bytes maxL ret hh).before args s = true ∧ (Cond.initialized y.cls).before args s = true ∧ (y.cls ≠ "java/lang/invoke/MethodHandle" ∧ y.cls ≠ "java/lang/invoke/VarHandle") ∧
  (∀ sig, parseMethodDescriptor y.desc = some sig → n = sig.parameters.length) ∧ (Cond.methodLink own index y).before args s = true ∧ (Cond.static y).before args s = true
theorem vx_cwSW {own : String} {index maxL mc ms : Nat} {y : MethodName} {bytes : ByteArray} {ret : Option FieldType} {hh : List (Nat × Nat × Nat × Nat)} {Ts ws ws' : List Cond} {rm : Room} (n : Nat) (ht : ∀ w ∈ Ts, w.before args s = true) (hT : GoodIn Ts (va_wsS own index y ws)) (hw : ws = Cond.codeWith y bytes maxL ret hh :: ws') (hrc : rm.cells = mc) (hrs : rm.slots = ms)
    (hd : y.cls ≠ "java/lang/invoke/MethodHandle" ∧ y.cls ≠ "java/lang/invoke/VarHandle" ∧ (parseMethodDescriptor y.desc).map (fun d => d.parameters.length) = some n) (hR : rm.frames + 1 ≤ R.frames ∧ 8 + (maxL + 11) + rm.locals ≤ R.locals) :
    vx_CSW R s args own index y bytes maxL ret hh ws rm mc ms n := by
  have ok : ∀ w ∈ va_wsS own index y ws, w.before args s = true := fun w h => ht w (hT w h).1
  have hG : GoodIn Ts ws := fun w h => hT w (by unfold va_wsS; exact List.mem_append_right _ h)
  have hc : Cond.codeWith y bytes maxL ret hh ∈ ws := by rw [hw]; exact List.mem_cons_self
  refine ⟨⟨hrc, hrs, hR.1, hR.2, pay_in ht hG, hc⟩, ht _ (hG _ hc).1, ok _ (by simp [va_wsS]), ⟨hd.1, hd.2.1⟩, fun sig h => ?_, ok _ (by simp [va_wsS]), ok _ (by simp [va_wsS])⟩
  have h2 := hd.2.2
  rw [h] at h2
  exact (Option.some.inj h2).symm
theorem vx_callSW (X : Stand p l e R s m args below meth c T locs cells slots) (hexec : p.tables.exec = Jvm.exec) {own : String} {index : Nat} {y : MethodName} {bytes : ByteArray} {maxL : Nat} {ret : Option FieldType} {hh : List (Nat × Nat × Nat × Nat)}
    (hown : s.vm.findClass own = some m.cls) (hlink : (Cond.methodLink own index y).before args s = true) (hstat : (Cond.static y).before args s = true) (hinit : (Cond.initialized y.cls).before args s = true)
    (hcode : (Cond.codeWith y bytes maxL ret hh).before args s = true) (hy : y.cls ≠ "java/lang/invoke/MethodHandle" ∧ y.cls ≠ "java/lang/invoke/VarHandle")
    {W9 : Nat} {Pre : Pt → Array Value → Prop} {Post : Pt → Array Value → Option Value → Pt → Prop} (hK : Back l R p e below s args y 3 W9 Pre Post)
    {g : JFrame} (hg : g.method = m) (hsize : g.locals.size = c.maxLocals) {argsL rest : List Value} (hlen : ∀ sig, parseMethodDescriptor y.desc = some sig → argsL.length = sig.parameters.length)
    (hstack : g.stack = argsL.reverse ++ rest) (hW : 2 * g.monitorRoom + (rest.map fun v => v.category).sum ≤ W9) (hdg : decode c.code g.pc = .ok (.invokestatic index, 3))
    (hpre : ∀ vm₁, s.WarmedH vm₁ → Pre ⟨T.setVm vm₁, locs, cells, slots⟩ argsL.toArray) :
    ∃ (v : Option Value) (vm₁ : Vm) (B : Pt), s.WarmedH vm₁ ∧ Stand p l e R s m args below meth c B.U B.locs B.cells B.slots ∧ Post ⟨T.setVm vm₁, locs, cells, slots⟩ argsL.toArray v B ∧
      ∀ target, Steps p.tables e below (B.U.setTop { g with pc := g.pc + 3, stack := v.toList ++ rest }) target → Steps p.tables e below (T.setTop g) target := by
  obtain ⟨mk, methM, cM, hnamed, hmethM, -, -, -, -, -, -, hsigM⟩ := Cond.codeWith_spec hcode
  have hstatic : methM.isStatic = true := Cond.static_spec hnamed hmethM hstat
  obtain ⟨kP, hkP, -⟩ := className_of_methodNamed hnamed
  have hinitP : kP.init = .initialized := Cond.initialized_spec (findClass_of_methodNamed hnamed) hkP hinit
  obtain ⟨vm₁, X₁, hstep₁⟩ := X.invokestatic hexec hown hlink hnamed hmethM hstatic hkP hinitP hy (g := g) hg (argsL := argsL) (rest := rest) (hlen _ hsigM) hstack hdg
  obtain ⟨v, B, X', hpost, hsteps⟩ := hK m meth c ⟨T.setVm vm₁, locs, cells, slots⟩ { g with stack := rest } (.invokestatic index) mk argsL.toArray X₁ hg hsize hdg hW (X₁.named hnamed) (hpre vm₁ X₁.warmed)
  exact ⟨v, vm₁, B, X₁.warmed, X', hpost, fun target h => hstep₁ _ fun acts => by rw [doInvoke_state]; exact hsteps.trans h⟩
theorem vx_runSW {y : MethodName} {bytes cc : ByteArray} {maxL nL mc ms n index : Nat} {ret : Option FieldType} {hh : List (Nat × Nat × Nat × Nat)} {ws : List Cond} {rm : Room} {Pc : Array Value → State → Prop} {Qc : Array Value → State → Outcome → State → Prop} {free : Addr → Prop} {Ts : List Cond} {own : String} {As rest : List Value} {g : JFrame}
    (S : CallFix p m c cc nL s args Ts own) (hM : Met l y ws rm Pc Qc mc ms free) (cw : vx_CSW R s args own index y bytes maxL ret hh ws rm mc ms n) (hp : PreS s H Pc As)
    (hg : g.method = m) (hn : As.length = n) (hsize : g.locals.size = nL) (hstack : g.stack = As.reverse ++ rest) (hW : 2 * g.monitorRoom + (rest.map fun v => v.category).sum ≤ 8) (hdg : decode cc g.pc = .ok (.invokestatic index, 3)) (hf : cells + mc ≤ R.cells ∧ slots + ms ≤ R.slots) :
    va_Run p l e R s m args below meth c H locs cells slots mc ms g rest (Qc As.toArray) (free) := by
  obtain ⟨⟨hrc, hrs, hfr, hlo, hws, hcw⟩, hcode, hini, hy, hlen, hl, hstt⟩ := cw
  have hK : Back l R p e below s args y 3 8 (PreOf R mc ms Pc) (PostOf Qc mc ms free) := va_backW (hh := hh) (bytes := bytes) (maxL := maxL) (ret := ret) hM hp.1 hrc hrs hfr hlo hws hcw (fun a' U hW => word_at hW (Or.inl (by first | rfl | simp [Cond.onTables, Cond.keeps, Cond.steady])) hini)
  obtain ⟨hx, hb, hml, ho, -⟩ := S
  intro T hT X
  obtain ⟨v, vm₁, ⟨U', l2, c2, s2⟩, hW₁, X', ⟨g', mk, t, L, e1, e2, hq, h1, hL, h2, h3⟩, st⟩ := vx_callSW X hx (hh := hh) (bytes := bytes) (maxL := maxL) (ret := ret) ho hl hstt hini hcode hy hK hg (hsize.trans hml.symm) (argsL := As) (rest := rest) (fun sig h => hn.trans (hlen sig h)) hstack hW (by rw [hb]; exact hdg)
    (fun vm₁ hW₁ => ⟨hf.1, hf.2, hp.2 (T.setVm vm₁) hT hW₁⟩)
  dsimp only [Pt.U, Pt.locs, Pt.cells, Pt.slots] at X' e1 e2 h1 h2 h3 st
  subst h1; subst h2; subst h3
  exact ⟨v, (T.setVm vm₁).calling g' mk As.toArray, t, U', L, hT, X', hL, e1, e2, hq, st⟩
/-- not caught here, past rows that name other classes: it goes on to the caller -/
theorem vx_outP {p : Program} {l : Launch} {e : Env} {R : Room} {s : State} {m : MethodId} {args : Array Value} {below : List Frame} {meth : Method} {c : Code} {H : Heap} {locs : List Loc} {cells slots : Nat} {free : Addr → Prop} {ls : Array Slot} {rest : List Value} {Qc : Array Value → State → Outcome → State → Prop} {XC : String → State → State → Prop}
    {pc : Nat} {own E : String} {ce : Cell} {q : Addr} {mc ms : Nat} (hown : s.vm.findClass own = some m.cls) (hlocks : meth.locks = false)
    (hpass : ∀ z ∈ c.exceptionTable.toList, covers z pc = false ∨ (z.catchType ≠ 0 ∧ ∃ nm : String, (Cond.classLink own z.catchType nm).before args s = true ∧ va_Nc E nm s)) (hcell : H[q]? = some ce) (hv : ce.vm = .none) (hcl : s.vm.findClass E = some ce.cls)
    (hx : ∀ t : State, t.heap = H → s.vm.Alike t.vm → XC E s t) (hf : ∀ z ∈ locs, free z.base) (hc : cells ≤ mc) (hs : slots ≤ ms) :
    vx_W p l e R s m args below meth c H locs cells slots (vx_MQ below Qc XC args s mc ms free) (F0 m pc ls rest) q := by
  intro T hT X
  have hpl : e.platform.magicAccessors = ({} : Platform).magicAccessors := by rw [X.admits.platform]
  obtain ⟨vm', hW', X', st⟩ := X.outThrough hlocks q (g := F0 m pc ls rest) rfl rfl rfl (cell := ce) (by rw [hT]; exact hcell) (by rw [hv]; rfl)
    (by obtain ⟨k9, h9, -⟩ := Vm.findClass_spec hcl; exact ⟨k9, h9⟩) (fun z hz => by
      rcases hpass z hz with h | ⟨hz0, nm, hl1, hn1⟩
      · exact Or.inl h
      · obtain ⟨c6, hc6, hcl6⟩ := Cond.classLink_spec hown hl1 e.platform hpl
        obtain ⟨a8, b8, h1, h2, h3⟩ := hn1
        cases Option.some.inj (h1.symm.trans hcl)
        cases Option.some.inj (h2.symm.trans hc6)
        exact Or.inr ⟨hz0, _, hcl6, h3⟩)
  obtain ⟨g₀, hfr⟩ := X'.frames_eq
  have hcell9 : ((T.setVm vm').setFrames (.throwing q :: below)).heap[q]? = some ce := by
    show T.heap[q]? = some ce
    rw [hT]; exact hcell
  have hend : Ended ((T.setVm vm').setFrames (.throwing q :: below)) below (.threw q) := State.frames_setFrames _ (State.cur_lt_of_frames hfr)
  refine ⟨(T.setVm vm').setFrames (.throwing q :: below), ?_, .threw q, X'.here.running, hend, Or.inr ⟨q, rfl, E, ce, locs, hx _ hT (X'.ends _).1.alike, hcell9, hv, hcl, (X'.ends _).1, (X'.ends _).2.mono hc hs, hf⟩⟩
  rw [X.pushThrowing_eq]
  exact st
/-- a thing of a world lies in the heap -/
theorem vx_lt {D : va_G} {cl : List vw_C} {ws : va_W} {H1 : Heap} (h : va_P D cl ws H1) {k : Nat} {q : Nat × va_E} (hk : ws[k]? = some q) : q.1 < H1.size := (h k q hk).lt
end VXS
/-! ===== END ===== -/
/-! ===== BEGIN methods with a table of their own: called by a name, returning or throwing ===== -/
section VXH
/-! vx_backW, vx_callVX, vx_callSX, vx_callVW, vx_runVW, vx_runVX, vx_runSX, vx_ofWH follow the same proofs as their sisters above (Free/Laws.lean, Shelf42/LK1.lean); vx_outP calls Shelf42/NT130.lean (outThrough). -/
section
variable {l : Launch} {R : Room} {p : Program} {e : Env} {below : List Frame} {s : State} {sargs : Array Value} {y : MethodName} {len W9 : Nat}
theorem vx_backW {ws : List Cond} {rm : Room} {Pc : Array Value → State → Prop} {Qc : Array Value → State → Outcome → State → Prop} {XC : String → State → State → Prop} {mc ms : Nat} {free : Addr → Prop} {bytes : ByteArray} {maxL : Nat} {ret : Option FieldType} {hh : List (Nat × Nat × Nat × Nat)}
    (hM : vx_Met l y ws rm Pc Qc XC mc ms free) (hblind : FrameBlind Pc) (hrc : rm.cells = mc) (hrs : rm.slots = ms)
    (hframes : rm.frames + 1 ≤ R.frames) (hlocals : W9 + (maxL + 11) + rm.locals ≤ R.locals)
    (hws : ∀ w ∈ ws, ∀ a' U, s.WarmedH U.vm → w.before a' U = true) (hcode : Cond.codeWith y bytes maxL ret hh ∈ ws) (hinit : ∀ a' U, s.WarmedH U.vm → (Cond.initialized y.cls).before a' U = true) :
    vx_Back l R p e below s sargs y len W9 (PreOf R mc ms Pc) (PostOf Qc mc ms free) (vx_Post XC mc ms free) := by
  intro m meth c A g ig mk a X hg hsize hdg hW hn hp
  have h1 : (headSpec ws rm).pre.before a A.U = true := atoms_intro fun w hw => hws w hw _ _ X.warmed
  have h2 : (Cond.codeWith y bytes maxL ret hh).before a A.U = true := hws _ hcode _ _ X.warmed
  have h3 : (Cond.initialized y.cls).before a A.U = true := hinit _ _ X.warmed
  have h4 : A.cells + (headSpec ws rm).room.cells ≤ R.cells := by rw [show (headSpec ws rm).room.cells = mc from hrc]; exact hp.1
  have h5 : A.slots + (headSpec ws rm).room.slots ≤ R.slots := by rw [show (headSpec ws rm).room.slots = ms from hrs]; exact hp.2.1
  have hPc : Pc a (A.U.calling g mk a) := hblind _ _ _ _ hp.2.2
  obtain ⟨U, Ls, c0, s0⟩ := A
  dsimp only [Pt.U, Pt.locs, Pt.cells, Pt.slots] at h1 h2 h3 h4 h5 X hn hPc ⊢
  obtain ⟨m9, methY, cY, hn9, hmY, hcY, -, hlY, -⟩ := Cond.codeWith_spec h2
  cases Option.some.inj (hn9.symm.trans hn)
  obtain ⟨kY, hkY, -⟩ := className_of_methodNamed hn
  have hinitY : kY.init = .initialized := Cond.initialized_spec (findClass_of_methodNamed hn) hkY h3
  have h : At U g.method c below := by rw [hg]; exact X.here
  have hlocals9 : W9 + (maxL + 11) + (headSpec ws rm).room.locals ≤ R.locals := hlocals
  have happ : (headSpec ws rm).appliesLoose y e.platform (U.calling g mk a) = true :=
    Spec.appliesLoose_calling (g := g) h hdg hn hkY hinitY
      (X.room_calling (g := g) (R' := (headSpec ws rm).room) hsize hmY hcY hframes (by rw [hlY]; omega) h4 h5) h1
  obtain ⟨mid, hmid⟩ := h.above
  have hfr : (U.setTop g).frames = (.java g :: mid) ++ below := by rw [State.frames_setTop' g h.top, hmid]; rfl
  obtain ⟨o, s₂, hsteps, -, hend, hq⟩ := Steps.callFree hM p X.admits X.cas X.clock (acts := []) hfr happ hPc trivial
  have hq' : vx_Q Qc XC mc ms free a (U.calling g mk a) o s₂ := hq
  rw [State.frames_setTop' g h.top] at hend
  obtain ⟨g₀, hg0⟩ := Option.isSome_iff_exists.mp h.top
  obtain ⟨r, hr⟩ := State.topJava?_eq_some.mp hg0
  have hr' : (({ U with heap := s₂.heap, slotsUsed := s₂.slotsUsed } : State).setVm s₂.vm).frames = .java g₀ :: r := hr
  rcases hq' with ⟨hqc, L, hfe, hL⟩ | ⟨q, rfl, E, ce, L, hx, hce, hcv, hcl, hW₂, hsm, hL⟩
  · obtain ⟨⟨v, rfl⟩, hW₂, e2, q2, q3, q4, q5, q6⟩ := id hfe
    have e3 : s₂ = ({ (U.calling g mk a).setFrames s₂.frames with heap := s₂.heap, slotsUsed := s₂.slotsUsed } : State).setVm s₂.vm := by
      have : s₂ = ({ s₂ with vm := (U.calling g mk a).vm } : State).setVm s₂.vm := rfl
      rw [e2] at this
      exact this
    obtain ⟨c₂, i₂, len₂, hc₂, hd₂, hf₂⟩ := hend
    have hW' : U.WarmedH s₂.vm := hW₂
    have hcc : c₂ = c := by
      have h1 : s₂.code? g.method = U.code? g.method := by
        rw [State.code?_eq, State.code?_eq, hW'.alike.method?]
      exact Option.some.inj (hc₂.symm.trans (h1.trans h.code))
    subst hcc
    have hlen : len₂ = len := by rw [hdg] at hd₂; cases hd₂; rfl
    subst hlen
    have hs₂ : s₂ = (({ U with heap := s₂.heap, slotsUsed := s₂.slotsUsed } : State).setVm s₂.vm).setTop { g with pc := g.pc + len₂, stack := v.toList ++ g.stack } := by
      refine e3.trans ?_
      rw [hf₂, State.calling_eq h.top, State.setFrames_setFrames, State.setTop_of_frames _ hr', hr]
      rfl
    have hsame : U.sameButNew ({ U with heap := s₂.heap, slotsUsed := s₂.slotsUsed } : State) L mc ms := by
      refine ⟨?_, q2, q3, q4, q5, q6⟩
      obtain ⟨t, ht, -⟩ := State.frames_cons hr
      show ({ U with heap := s₂.heap, slotsUsed := s₂.slotsUsed } : State) = { U.setFrames U.frames with heap := s₂.heap, slotsUsed := s₂.slotsUsed }
      rw [State.setFrames_self ht]
    subst hg
    refine Or.inl ⟨v, ⟨(({ U with heap := s₂.heap, slotsUsed := s₂.slotsUsed } : State).setVm s₂.vm), Ls ++ L, c0 + mc, s0 + ms⟩,
      ⟨X.admits, X.cas, X.clock, X.frames, X.room, X.hears, X.method, X.code, (X.here.setHeapUsed s₂.heap s₂.slotsUsed).setVm hW'.alike, X.tail, State.WarmedH.trans X.warmed hW', X.limits, X.bytes, X.same.trans (hsame.setVm s.vm)⟩,
      ⟨g, mk, s₂, L, rfl, rfl, hqc, rfl, hL, rfl, rfl⟩, ?_⟩
    show Steps p.tables e below _ ((({ U with heap := s₂.heap, slotsUsed := s₂.slotsUsed } : State).setVm s₂.vm).setTop { g with pc := g.pc + len₂, stack := v.toList ++ g.stack })
    rw [← hs₂]
    exact hsteps
  · obtain ⟨e2, q2, q3, q4, q5, q6⟩ := id hsm
    have e3 : s₂ = ({ (U.calling g mk a).setFrames s₂.frames with heap := s₂.heap, slotsUsed := s₂.slotsUsed } : State).setVm s₂.vm := by
      have : s₂ = ({ s₂ with vm := (U.calling g mk a).vm } : State).setVm s₂.vm := rfl
      rw [e2] at this
      exact this
    have hf₂ : s₂.frames = .throwing q :: .java g :: U.frames.tail := hend
    have hW' : U.WarmedH s₂.vm := hW₂
    have hs₂ : s₂ = ((({ U with heap := s₂.heap, slotsUsed := s₂.slotsUsed } : State).setVm s₂.vm).setTop g).pushFrame (.throwing q) := by
      refine e3.trans ?_
      rw [hf₂, State.calling_eq h.top, State.setFrames_setFrames, State.pushFrame, State.frames_setTop _ hr', State.setTop_of_frames _ hr', State.setFrames_setFrames, hr]
      rfl
    have hsame : U.sameButNew ({ U with heap := s₂.heap, slotsUsed := s₂.slotsUsed } : State) L mc ms := by
      refine ⟨?_, q2, q3, q4, q5, q6⟩
      obtain ⟨t, ht, -⟩ := State.frames_cons hr
      show ({ U with heap := s₂.heap, slotsUsed := s₂.slotsUsed } : State) = { U.setFrames U.frames with heap := s₂.heap, slotsUsed := s₂.slotsUsed }
      rw [State.setFrames_self ht]
    subst hg
    refine Or.inr ⟨q, ⟨(({ U with heap := s₂.heap, slotsUsed := s₂.slotsUsed } : State).setVm s₂.vm), Ls ++ L, c0 + mc, s0 + ms⟩,
      ⟨X.admits, X.cas, X.clock, X.frames, X.room, X.hears, X.method, X.code, (X.here.setHeapUsed s₂.heap s₂.slotsUsed).setVm hW'.alike, X.tail, State.WarmedH.trans X.warmed hW', X.limits, X.bytes, X.same.trans (hsame.setVm s.vm)⟩,
      ⟨g, mk, s₂, L, E, ce, rfl, rfl, hx, hce, hcv, hcl, rfl, hL, rfl, rfl⟩, ?_⟩
    show Steps p.tables e below _ (((({ U with heap := s₂.heap, slotsUsed := s₂.slotsUsed } : State).setVm s₂.vm).setTop g).pushFrame (.throwing q))
    rw [← hs₂]
    exact hsteps
end
variable {p : Program} {l : Launch} {e : Env} {R : Room} {s : State} {m : MethodId} {args : Array Value} {below : List Frame} {meth : Method} {c : Code} {T : State} {H : Heap} {locs : List Loc} {cells slots : Nat}
theorem vx_callVX (X : Stand p l e R s m args below meth c T locs cells slots) (hexec : p.tables.exec = Jvm.exec) {own C : String} {index : Nat} {y : MethodName} {bytes : ByteArray} {maxL : Nat} {ret : Option FieldType} {hh : List (Nat × Nat × Nat × Nat)}
    (hown : s.vm.findClass own = some m.cls) (hlink : (Cond.methodLink own index y).before args s = true) (hinst : (Cond.instanceMethod y).before args s = true) (hsel : (Cond.selects C y y).before args s = true)
    (hcode : (Cond.codeWith y bytes maxL ret hh).before args s = true) (hy : y.cls ≠ "java/lang/invoke/MethodHandle" ∧ y.cls ≠ "java/lang/invoke/VarHandle")
    {W9 : Nat} {Pre : Pt → Array Value → Prop} {Post : Pt → Array Value → Option Value → Pt → Prop} {PostX : Pt → Array Value → Addr → Pt → Prop} (hK : vx_Back l R p e below s args y 3 W9 Pre Post PostX)
    {b : Addr} {cellB : Cell} (hcell : T.heap[b]? = some cellB) (hobj : cellB.vm.isStatics = false) (hcls : s.vm.findClass C = some cellB.cls)
    {g : JFrame} (hg : g.method = m) (hsize : g.locals.size = c.maxLocals) {argsL rest : List Value} (hlen : ∀ sig, parseMethodDescriptor y.desc = some sig → argsL.length = sig.parameters.length)
    (hstack : g.stack = argsL.reverse ++ .ref b :: rest) (hW : 2 * g.monitorRoom + (rest.map fun v => v.category).sum ≤ W9) (hdg : decode c.code g.pc = .ok (.invokevirtual index, 3))
    (hpre : ∀ vm₁, s.WarmedH vm₁ → Pre ⟨T.setVm vm₁, locs, cells, slots⟩ (Value.ref b :: argsL).toArray) :
    (∃ (v : Option Value) (vm₁ : Vm) (B : Pt), s.WarmedH vm₁ ∧ Stand p l e R s m args below meth c B.U B.locs B.cells B.slots ∧ Post ⟨T.setVm vm₁, locs, cells, slots⟩ (Value.ref b :: argsL).toArray v B ∧
      ∀ target, Steps p.tables e below (B.U.setTop { g with pc := g.pc + 3, stack := v.toList ++ rest }) target → Steps p.tables e below (T.setTop g) target) ∨
    (∃ (q : Addr) (vm₁ : Vm) (B : Pt), s.WarmedH vm₁ ∧ Stand p l e R s m args below meth c B.U B.locs B.cells B.slots ∧ PostX ⟨T.setVm vm₁, locs, cells, slots⟩ (Value.ref b :: argsL).toArray q B ∧
      Steps p.tables e below (T.setTop g) ((B.U.setTop { g with stack := rest }).pushFrame (.throwing q))) := by
  obtain ⟨mk, methM, hnamed, hmethM, hstM, habM⟩ := Cond.instanceMethod_spec hinst
  obtain ⟨m8, methM', cM, hn8, hmethM', -, -, -, -, -, -, hsigM⟩ := Cond.codeWith_spec hcode
  cases Option.some.inj (hn8.symm.trans hnamed)
  cases hmethM.symm.trans hmethM'
  obtain ⟨c2, r2, m2, q1, q2, q3, q4, kP, hkP, hkPi⟩ := Cond.selects_spec hsel
  cases hcls.symm.trans q1
  cases (State.methodFound?_of_named hnamed hy).symm.trans q2
  cases hnamed.symm.trans q3
  have hselP : selectMethod e.platform s.vm cellB.cls mk = .method mk := by rw [Launch.admits_selectMethod X.admits]; exact q4
  obtain ⟨vm₁, X₁, hstep₁⟩ := X.invokevirtual hexec hown hlink hnamed hmethM hstM hkP hkPi hy (a := b) (cell := cellB) hcell
    (fun z h => by rw [h] at hobj; cases hobj) hselP hmethM habM hkP hkPi (g := g) hg (argsL := argsL) (rest := rest) (hlen _ hsigM) hstack hdg
  rcases hK m meth c ⟨T.setVm vm₁, locs, cells, slots⟩ { g with stack := rest } (.invokevirtual index) mk (Value.ref b :: argsL).toArray X₁ hg hsize hdg hW (X₁.named hnamed) (hpre vm₁ X₁.warmed) with ⟨v, B, X', hpost, hsteps⟩ | ⟨q, B, X', hpost, hsteps⟩
  · exact Or.inl ⟨v, vm₁, B, X₁.warmed, X', hpost, fun target h => hstep₁ _ fun acts => by rw [doInvoke_state]; exact hsteps.trans h⟩
  · exact Or.inr ⟨q, vm₁, B, X₁.warmed, X', hpost, hstep₁ _ fun acts => by rw [doInvoke_state]; exact hsteps⟩
theorem vx_callSX (X : Stand p l e R s m args below meth c T locs cells slots) (hexec : p.tables.exec = Jvm.exec) {own : String} {index : Nat} {y : MethodName} {bytes : ByteArray} {maxL : Nat} {ret : Option FieldType} {hh : List (Nat × Nat × Nat × Nat)}
    (hown : s.vm.findClass own = some m.cls) (hlink : (Cond.methodLink own index y).before args s = true) (hstat : (Cond.static y).before args s = true) (hinit : (Cond.initialized y.cls).before args s = true)
    (hcode : (Cond.codeWith y bytes maxL ret hh).before args s = true) (hy : y.cls ≠ "java/lang/invoke/MethodHandle" ∧ y.cls ≠ "java/lang/invoke/VarHandle")
    {W9 : Nat} {Pre : Pt → Array Value → Prop} {Post : Pt → Array Value → Option Value → Pt → Prop} {PostX : Pt → Array Value → Addr → Pt → Prop} (hK : vx_Back l R p e below s args y 3 W9 Pre Post PostX)
    {g : JFrame} (hg : g.method = m) (hsize : g.locals.size = c.maxLocals) {argsL rest : List Value} (hlen : ∀ sig, parseMethodDescriptor y.desc = some sig → argsL.length = sig.parameters.length)
    (hstack : g.stack = argsL.reverse ++ rest) (hW : 2 * g.monitorRoom + (rest.map fun v => v.category).sum ≤ W9) (hdg : decode c.code g.pc = .ok (.invokestatic index, 3))
    (hpre : ∀ vm₁, s.WarmedH vm₁ → Pre ⟨T.setVm vm₁, locs, cells, slots⟩ argsL.toArray) :
    (∃ (v : Option Value) (vm₁ : Vm) (B : Pt), s.WarmedH vm₁ ∧ Stand p l e R s m args below meth c B.U B.locs B.cells B.slots ∧ Post ⟨T.setVm vm₁, locs, cells, slots⟩ argsL.toArray v B ∧
      ∀ target, Steps p.tables e below (B.U.setTop { g with pc := g.pc + 3, stack := v.toList ++ rest }) target → Steps p.tables e below (T.setTop g) target) ∨
    (∃ (q : Addr) (vm₁ : Vm) (B : Pt), s.WarmedH vm₁ ∧ Stand p l e R s m args below meth c B.U B.locs B.cells B.slots ∧ PostX ⟨T.setVm vm₁, locs, cells, slots⟩ argsL.toArray q B ∧
      Steps p.tables e below (T.setTop g) ((B.U.setTop { g with stack := rest }).pushFrame (.throwing q))) := by
  obtain ⟨mk, methM, cM, hnamed, hmethM, -, -, -, -, -, -, hsigM⟩ := Cond.codeWith_spec hcode
  have hstatic : methM.isStatic = true := Cond.static_spec hnamed hmethM hstat
  obtain ⟨kP, hkP, -⟩ := className_of_methodNamed hnamed
  have hinitP : kP.init = .initialized := Cond.initialized_spec (findClass_of_methodNamed hnamed) hkP hinit
  obtain ⟨vm₁, X₁, hstep₁⟩ := X.invokestatic hexec hown hlink hnamed hmethM hstatic hkP hinitP hy (g := g) hg (argsL := argsL) (rest := rest) (hlen _ hsigM) hstack hdg
  rcases hK m meth c ⟨T.setVm vm₁, locs, cells, slots⟩ { g with stack := rest } (.invokestatic index) mk argsL.toArray X₁ hg hsize hdg hW (X₁.named hnamed) (hpre vm₁ X₁.warmed) with ⟨v, B, X', hpost, hsteps⟩ | ⟨q, B, X', hpost, hsteps⟩
  · exact Or.inl ⟨v, vm₁, B, X₁.warmed, X', hpost, fun target h => hstep₁ _ fun acts => by rw [doInvoke_state]; exact hsteps.trans h⟩
  · exact Or.inr ⟨q, vm₁, B, X₁.warmed, X', hpost, hstep₁ _ fun acts => by rw [doInvoke_state]; exact hsteps⟩
theorem vx_callVW (X : Stand p l e R s m args below meth c T locs cells slots) (hexec : p.tables.exec = Jvm.exec) {own C : String} {index : Nat} {y : MethodName} {bytes : ByteArray} {maxL : Nat} {ret : Option FieldType} {hh : List (Nat × Nat × Nat × Nat)}
    (hown : s.vm.findClass own = some m.cls) (hlink : (Cond.methodLink own index y).before args s = true) (hinst : (Cond.instanceMethod y).before args s = true) (hsel : (Cond.selects C y y).before args s = true)
    (hcode : (Cond.codeWith y bytes maxL ret hh).before args s = true) (hy : y.cls ≠ "java/lang/invoke/MethodHandle" ∧ y.cls ≠ "java/lang/invoke/VarHandle")
    {W9 : Nat} {Pre : Pt → Array Value → Prop} {Post : Pt → Array Value → Option Value → Pt → Prop} (hK : Back l R p e below s args y 3 W9 Pre Post)
    {b : Addr} {cellB : Cell} (hcell : T.heap[b]? = some cellB) (hobj : cellB.vm.isStatics = false) (hcls : s.vm.findClass C = some cellB.cls)
    {g : JFrame} (hg : g.method = m) (hsize : g.locals.size = c.maxLocals) {argsL rest : List Value} (hlen : ∀ sig, parseMethodDescriptor y.desc = some sig → argsL.length = sig.parameters.length)
    (hstack : g.stack = argsL.reverse ++ .ref b :: rest) (hW : 2 * g.monitorRoom + (rest.map fun v => v.category).sum ≤ W9) (hdg : decode c.code g.pc = .ok (.invokevirtual index, 3))
    (hpre : ∀ vm₁, s.WarmedH vm₁ → Pre ⟨T.setVm vm₁, locs, cells, slots⟩ (Value.ref b :: argsL).toArray) :
    ∃ (v : Option Value) (vm₁ : Vm) (B : Pt), s.WarmedH vm₁ ∧ Stand p l e R s m args below meth c B.U B.locs B.cells B.slots ∧ Post ⟨T.setVm vm₁, locs, cells, slots⟩ (Value.ref b :: argsL).toArray v B ∧
      ∀ target, Steps p.tables e below (B.U.setTop { g with pc := g.pc + 3, stack := v.toList ++ rest }) target → Steps p.tables e below (T.setTop g) target := by
  obtain ⟨mk, methM, hnamed, hmethM, hstM, habM⟩ := Cond.instanceMethod_spec hinst
  obtain ⟨m8, methM', cM, hn8, hmethM', -, -, -, -, -, -, hsigM⟩ := Cond.codeWith_spec hcode
  cases Option.some.inj (hn8.symm.trans hnamed)
  cases hmethM.symm.trans hmethM'
  obtain ⟨c2, r2, m2, q1, q2, q3, q4, kP, hkP, hkPi⟩ := Cond.selects_spec hsel
  cases hcls.symm.trans q1
  cases (State.methodFound?_of_named hnamed hy).symm.trans q2
  cases hnamed.symm.trans q3
  have hselP : selectMethod e.platform s.vm cellB.cls mk = .method mk := by rw [Launch.admits_selectMethod X.admits]; exact q4
  obtain ⟨vm₁, X₁, hstep₁⟩ := X.invokevirtual hexec hown hlink hnamed hmethM hstM hkP hkPi hy (a := b) (cell := cellB) hcell
    (fun z h => by rw [h] at hobj; cases hobj) hselP hmethM habM hkP hkPi (g := g) hg (argsL := argsL) (rest := rest) (hlen _ hsigM) hstack hdg
  obtain ⟨v, B, X', hpost, hsteps⟩ := hK m meth c ⟨T.setVm vm₁, locs, cells, slots⟩ { g with stack := rest } (.invokevirtual index) mk (Value.ref b :: argsL).toArray X₁ hg hsize hdg hW (X₁.named hnamed) (hpre vm₁ X₁.warmed)
  exact ⟨v, vm₁, B, X₁.warmed, X', hpost, fun target h => hstep₁ _ fun acts => by rw [doInvoke_state]; exact hsteps.trans h⟩
abbrev vx_CVW (R : Room) (s : State) (args : Array Value) (own C : String) (index : Nat) (y : MethodName) (bytes : ByteArray) (maxL : Nat) (ret : Option FieldType) (hh : List (Nat × Nat × Nat × Nat)) (ws : List Cond) (rm : Room) (mc ms n : Nat) : Prop :=
  (rm.cells = mc ∧ rm.slots = ms ∧ rm.frames + 1 ≤ R.frames ∧ 8 + (maxL + 11) + rm.locals ≤ R.locals ∧ (∀ w ∈ ws, ∀ (a' : Array Value) (U : State), s.WarmedH U.vm → w.before a' U = true) ∧ Cond.codeWith y bytes maxL ret hh ∈ ws) ∧
  (Cond.codeWith y bytes maxL ret hh).before args s = true ∧ (Cond.initialized y.cls).before args s = true ∧ (y.cls ≠ "java/lang/invoke/MethodHandle" ∧ y.cls ≠ "java/lang/invoke/VarHandle") ∧
  (∀ sig, parseMethodDescriptor y.desc = some sig → n = sig.parameters.length) ∧ (Cond.methodLink own index y).before args s = true ∧ (Cond.instanceMethod y).before args s = true ∧ (Cond.selects C y y).before args s = true
theorem vx_cwVW {own C : String} {index maxL mc ms : Nat} {y : MethodName} {bytes : ByteArray} {ret : Option FieldType} {hh : List (Nat × Nat × Nat × Nat)} {Ts ws ws' : List Cond} {rm : Room} (n : Nat) (ht : ∀ w ∈ Ts, w.before args s = true) (hT : GoodIn Ts (wsV own index C y ws)) (hw : ws = Cond.codeWith y bytes maxL ret hh :: ws') (hrc : rm.cells = mc) (hrs : rm.slots = ms)
    (hd : y.cls = C ∧ y.cls ≠ "java/lang/invoke/MethodHandle" ∧ y.cls ≠ "java/lang/invoke/VarHandle" ∧ (parseMethodDescriptor y.desc).map (fun d => d.parameters.length) = some n) (hR : rm.frames + 1 ≤ R.frames ∧ 8 + (maxL + 11) + rm.locals ≤ R.locals) :
    vx_CVW R s args own C index y bytes maxL ret hh ws rm mc ms n := by
  obtain ⟨hC, hd⟩ := hd
  subst hC
  have ok : ∀ w ∈ wsV own index y.cls y ws, w.before args s = true := fun w h => ht w (hT w h).1
  have hG : GoodIn Ts ws := fun w h => hT w (by unfold wsV; exact List.mem_append_right _ h)
  have hc : Cond.codeWith y bytes maxL ret hh ∈ ws := by rw [hw]; exact List.mem_cons_self
  refine ⟨⟨hrc, hrs, hR.1, hR.2, pay_in ht hG, hc⟩, ht _ (hG _ hc).1, ok _ (by simp [wsV]), ⟨hd.1, hd.2.1⟩, fun sig h => ?_, ok _ (by simp [wsV]), ok _ (by simp [wsV]), ok _ (by simp [wsV])⟩
  have h2 := hd.2.2
  rw [h] at h2
  exact (Option.some.inj h2).symm
theorem vx_runVW {y : MethodName} {bytes cc : ByteArray} {maxL nL mc ms n index : Nat} {ret : Option FieldType} {hh : List (Nat × Nat × Nat × Nat)} {ws : List Cond} {rm : Room} {Pc : Array Value → State → Prop} {Qc : Array Value → State → Outcome → State → Prop} {free : Addr → Prop} {Ts : List Cond} {own C : String} {b : Addr} {As rest : List Value} {g : JFrame}
    (S : CallFix p m c cc nL s args Ts own) (hM : Met l y ws rm Pc Qc mc ms free) (cw : vx_CVW R s args own C index y bytes maxL ret hh ws rm mc ms n) (hp : PreV s H C b Pc As)
    (hg : g.method = m) (hn : As.length = n) (hsize : g.locals.size = nL) (hstack : g.stack = As.reverse ++ .ref b :: rest) (hW : 2 * g.monitorRoom + (rest.map fun v => v.category).sum ≤ 8) (hdg : decode cc g.pc = .ok (.invokevirtual index, 3)) (hf : cells + mc ≤ R.cells ∧ slots + ms ≤ R.slots) :
    va_Run p l e R s m args below meth c H locs cells slots mc ms g rest (Qc (Value.ref b :: As).toArray) free := by
  obtain ⟨⟨hrc, hrs, hfr, hlo, hws, hcw⟩, hcode, hini, hy, hlen, hl, hin, hse⟩ := cw
  have hK : Back l R p e below s args y 3 8 (PreOf R mc ms Pc) (PostOf Qc mc ms free) := va_backW (hh := hh) (bytes := bytes) (maxL := maxL) (ret := ret) hM hp.1 hrc hrs hfr hlo hws hcw (fun a' U hW => word_at hW (Or.inl (by first | rfl | simp [Cond.onTables, Cond.keeps, Cond.steady])) hini)
  obtain ⟨hx, hb, hml, ho, -⟩ := S
  obtain ⟨-, ⟨cellB, hcB, hoB, hclB⟩, hPc⟩ := hp
  intro T hT X
  obtain ⟨v, vm₁, ⟨U', l2, c2, s2⟩, hW₁, X', ⟨g', mk, t, L, e1, e2, hq, h1, hL, h2, h3⟩, st⟩ := vx_callVW X hx (C := C) (hh := hh) (bytes := bytes) (maxL := maxL) (ret := ret) ho hl hin hse hcode hy hK (by rw [hT]; exact hcB) hoB hclB hg (hsize.trans hml.symm) (argsL := As) (rest := rest) (fun sig h => hn.trans (hlen sig h)) hstack hW (by rw [hb]; exact hdg)
    (fun vm₁ hW₁ => ⟨hf.1, hf.2, hPc (T.setVm vm₁) hT hW₁⟩)
  dsimp only [Pt.U, Pt.locs, Pt.cells, Pt.slots] at X' e1 e2 h1 h2 h3 st
  subst h1; subst h2; subst h3
  exact ⟨v, (T.setVm vm₁).calling g' mk (Value.ref b :: As).toArray, t, U', L, hT, X', hL, e1, e2, hq, st⟩
section
variable {y : MethodName} {bytes cc : ByteArray} {maxL nL mc ms n index : Nat} {ret : Option FieldType} {ws : List Cond} {rm : Room} {Pc : Array Value → State → Prop} {Qc : Array Value → State → Outcome → State → Prop} {XC : String → State → State → Prop} {free : Addr → Prop} {Ts : List Cond} {own C : String} {b : Addr} {As rest : List Value} {g : JFrame}
theorem vx_runVX {hh : List (Nat × Nat × Nat × Nat)} (S : CallFix p m c cc nL s args Ts own) (hM : vx_Met l y ws rm Pc Qc XC mc ms free) (cw : vx_CVW R s args own C index y bytes maxL ret hh ws rm mc ms n) (hp : PreV s H C b Pc As)
    (hg : g.method = m) (hn : As.length = n) (hsize : g.locals.size = nL) (hstack : g.stack = As.reverse ++ .ref b :: rest) (hW : 2 * g.monitorRoom + (rest.map fun v => v.category).sum ≤ 8) (hdg : decode cc g.pc = .ok (.invokevirtual index, 3)) (hf : cells + mc ≤ R.cells ∧ slots + ms ≤ R.slots) :
    vx_Run p l e R s m args below meth c H locs cells slots mc ms g rest (Qc (Value.ref b :: As).toArray) XC free := by
  obtain ⟨⟨hrc, hrs, hfr, hlo, hws, hcw⟩, hcode, hini, hy, hlen, hl, hin, hse⟩ := cw
  have hK : vx_Back l R p e below s args y 3 8 (PreOf R mc ms Pc) (PostOf Qc mc ms free) (vx_Post XC mc ms free) := vx_backW (hh := hh) (bytes := bytes) (maxL := maxL) (ret := ret) hM hp.1 hrc hrs hfr hlo hws hcw (fun a' U hW => word_at hW (Or.inl (by first | rfl | simp [Cond.onTables, Cond.keeps, Cond.steady])) hini)
  obtain ⟨hx, hb, hml, ho, -⟩ := S
  obtain ⟨-, ⟨cellB, hcB, hoB, hclB⟩, hPc⟩ := hp
  intro T hT X
  rcases vx_callVX X hx (C := C) (hh := hh) (bytes := bytes) (maxL := maxL) (ret := ret) ho hl hin hse hcode hy hK (by rw [hT]; exact hcB) hoB hclB hg (hsize.trans hml.symm) (argsL := As) (rest := rest) (fun sig h => hn.trans (hlen sig h)) hstack hW (by rw [hb]; exact hdg)
    (fun vm₁ hW₁ => ⟨hf.1, hf.2, hPc (T.setVm vm₁) hT hW₁⟩) with ⟨v, vm₁, ⟨U', l2, c2, s2⟩, hW₁, X', ⟨g', mk, t, L, e1, e2, hq, h1, hL, h2, h3⟩, st⟩ | ⟨q, vm₁, ⟨U', l2, c2, s2⟩, hW₁, X', ⟨g', mk, t, L, E, ce, e1, e2, hq, hce, hcv, hcl, h1, hL, h2, h3⟩, st⟩
  · dsimp only [Pt.U, Pt.locs, Pt.cells, Pt.slots] at X' e1 e2 h1 h2 h3 st
    subst h1; subst h2; subst h3
    exact Or.inl ⟨v, (T.setVm vm₁).calling g' mk (Value.ref b :: As).toArray, t, U', L, hT, X', hL, e1, e2, hq, st⟩
  · dsimp only [Pt.U, Pt.locs, Pt.cells, Pt.slots] at X' e1 e2 h1 h2 h3 st hcl
    subst h1; subst h2; subst h3
    exact Or.inr ⟨q, (T.setVm vm₁).calling g' mk (Value.ref b :: As).toArray, t, U', L, E, ce, hT, X', hL, e1, e2, hq, hce, hcv, vx_cls hW₁ hcl, st⟩
theorem vx_runSX {hh : List (Nat × Nat × Nat × Nat)} (S : CallFix p m c cc nL s args Ts own) (hM : vx_Met l y ws rm Pc Qc XC mc ms free) (cw : vx_CSW R s args own index y bytes maxL ret hh ws rm mc ms n) (hp : PreS s H Pc As)
    (hg : g.method = m) (hn : As.length = n) (hsize : g.locals.size = nL) (hstack : g.stack = As.reverse ++ rest) (hW : 2 * g.monitorRoom + (rest.map fun v => v.category).sum ≤ 8) (hdg : decode cc g.pc = .ok (.invokestatic index, 3)) (hf : cells + mc ≤ R.cells ∧ slots + ms ≤ R.slots) :
    vx_Run p l e R s m args below meth c H locs cells slots mc ms g rest (Qc As.toArray) XC free := by
  obtain ⟨⟨hrc, hrs, hfr, hlo, hws, hcw⟩, hcode, hini, hy, hlen, hl, hstt⟩ := cw
  have hK : vx_Back l R p e below s args y 3 8 (PreOf R mc ms Pc) (PostOf Qc mc ms free) (vx_Post XC mc ms free) := vx_backW (hh := hh) (bytes := bytes) (maxL := maxL) (ret := ret) hM hp.1 hrc hrs hfr hlo hws hcw (fun a' U hW => word_at hW (Or.inl (by first | rfl | simp [Cond.onTables, Cond.keeps, Cond.steady])) hini)
  obtain ⟨hx, hb, hml, ho, -⟩ := S
  intro T hT X
  rcases vx_callSX X hx (hh := hh) (bytes := bytes) (maxL := maxL) (ret := ret) ho hl hstt hini hcode hy hK hg (hsize.trans hml.symm) (argsL := As) (rest := rest) (fun sig h => hn.trans (hlen sig h)) hstack hW (by rw [hb]; exact hdg)
    (fun vm₁ hW₁ => ⟨hf.1, hf.2, hp.2 (T.setVm vm₁) hT hW₁⟩) with ⟨v, vm₁, ⟨U', l2, c2, s2⟩, hW₁, X', ⟨g', mk, t, L, e1, e2, hq, h1, hL, h2, h3⟩, st⟩ | ⟨q, vm₁, ⟨U', l2, c2, s2⟩, hW₁, X', ⟨g', mk, t, L, E, ce, e1, e2, hq, hce, hcv, hcl, h1, hL, h2, h3⟩, st⟩
  · dsimp only [Pt.U, Pt.locs, Pt.cells, Pt.slots] at X' e1 e2 h1 h2 h3 st
    subst h1; subst h2; subst h3
    exact Or.inl ⟨v, (T.setVm vm₁).calling g' mk As.toArray, t, U', L, hT, X', hL, e1, e2, hq, st⟩
  · dsimp only [Pt.U, Pt.locs, Pt.cells, Pt.slots] at X' e1 e2 h1 h2 h3 st hcl
    subst h1; subst h2; subst h3
    exact Or.inr ⟨q, (T.setVm vm₁).calling g' mk As.toArray, t, U', L, E, ce, hT, X', hL, e1, e2, hq, hce, hcv, vx_cls hW₁ hcl, st⟩
end
end VXH
theorem vx_ofWH {l : Launch} {y : MethodName} {ws ws' : List Cond} {rm : Room} {Pc : Array Value → State → Prop} {Qc : Array Value → State → Outcome → State → Prop} {XC : String → State → State → Prop} {mc ms : Nat} {free : Addr → Prop} {cc : ByteArray} {maxL : Nat} {ret : Option FieldType} {hh : List (Nat × Nat × Nat × Nat)}
    (hy : plainName y.cls = true) (hw : ws = Cond.codeWith y cc maxL ret hh :: ws')
    (body : ∀ p e s m args below meth c s₁, BodyLoose p l y (headSpec ws rm) cc maxL ret e s m args below meth c s₁ → c.maxLocals = maxL → Pc args s →
      W p l e (headSpec ws rm).room s m args below meth c s.heap [] 0 0 (vx_MQ below Qc XC args s mc ms free) (entryFrame m args maxL)) : vx_Met l y ws rm Pc Qc XC mc ms free := by
  refine MetFree.of_bodyS (code := cc) (maxLocals := maxL) (ret := ret) hy ?_ ?_
  · intro args s m h hn
    obtain ⟨m9, meth, c, hn9, h1, h2, h3, h4, -, h5, h6, -⟩ := Cond.codeWith_spec (atoms_spec (ws := ws) h _ (by rw [hw]; exact List.mem_cons_self))
    cases hn.symm.trans hn9
    exact ⟨meth, c, h1, h2, h3, h4, h5, h6⟩
  · intro p e s m args below meth c s₁ B hml hP _
    have hh0 : s₁.heap = s.heap := by rw [B.state]; rfl
    obtain ⟨t, a1, o, b1, b2, b3⟩ := body p e s m args below meth c s₁ B hml hP s₁ hh0 (Stand.of_body B)
    exact ⟨t, o, a1, b1, b2, b3⟩
/-! ===== END ===== -/
end
section
/-! ===== BEGIN printed: names, fields, word lists, decode rows ===== -/
def RX0 : String := "Shortring$Hunt"
def TX0 : u_T := fun k => match k with
  | 0 => ("Shortring$Hunt", "barredWith", "[I", true)
  | 1 => ("Shortring$Hunt", "bars", "[I", true)
  | 2 => ("Shortring$Hunt", "puts", "[I", true)
  | 3 => ("Shortring$Hunt", "barsAtPut", "[I", true)
  | 4 => ("Shortring$Hunt", "isOn", "Z", false)
  | 5 => ("Shortring$Hunt", "count", "I", false)
  | 6 => ("Shortring$Hunt", "length", "I", false)
  | 7 => ("Shortring$Hunt", "steps", "I", false)
  | 8 => ("Shortring$Hunt", "state", "I", false)
  | 9 => ("Shortring$Hunt", "putMany", "I", false)
  | _ => ("Shortring$Hunt", "barMany", "I", false)
def tyX0 : Nat → FieldType := fun k => match k with
  | 0 => .array .int
  | 1 => .array .int
  | 2 => .array .int
  | 3 => .array .int
  | 4 => .boolean
  | 5 => .int
  | 6 => .int
  | 7 => .int
  | 8 => .int
  | 9 => .int
  | _ => .int
abbrev wsX00 : List Cond := u_ws RX0 TX0 11
theorem nmX0 : ∀ a, a < 11 → ∀ b, b < 11 → a ≠ b → (TX0 a).2.1 ≠ (TX0 b).2.1 := by decide +kernel
theorem tyX0_ok : ∀ k, k < 11 → parseFieldDescriptor (TX0 k).2.2.1 = some (tyX0 k) := by decide +kernel
abbrev cX0_init : ByteArray := prog_2_method_1_code
def yX0_init : MethodName := ⟨RX0, "<init>", "()V"⟩
abbrev cX0_begin : ByteArray := prog_2_method_2_code
def yX0_begin : MethodName := ⟨RX0, "begin", "(II)V"⟩
abbrev cX0_end : ByteArray := prog_2_method_3_code
def yX0_end : MethodName := ⟨RX0, "end", "()V"⟩
abbrev cX0_step : ByteArray := prog_2_method_4_code
def yX0_step : MethodName := ⟨RX0, "step", "(LShortring$Net;)V"⟩
abbrev cX0_put : ByteArray := prog_2_method_5_code
def yX0_put : MethodName := ⟨RX0, "put", "(LShortring$Net;II)V"⟩
abbrev cX0_goBack : ByteArray := prog_2_method_6_code
def yX0_goBack : MethodName := ⟨RX0, "goBack", "(LShortring$Net;)V"⟩
abbrev cX0_bar : ByteArray := prog_2_method_7_code
def yX0_bar : MethodName := ⟨RX0, "bar", "(I)V"⟩
abbrev cX0_unbarDownTo : ByteArray := prog_2_method_8_code
def yX0_unbarDownTo : MethodName := ⟨RX0, "unbarDownTo", "(I)V"⟩
abbrev cX0_flipBar : ByteArray := prog_2_method_9_code
def yX0_flipBar : MethodName := ⟨RX0, "flipBar", "(II)V"⟩
abbrev cX0_needy : ByteArray := prog_2_method_10_code
def yX0_needy : MethodName := ⟨RX0, "needy", "(LShortring$Net;)I"⟩
abbrev cX0_joinableOf : ByteArray := prog_2_method_11_code
def yX0_joinableOf : MethodName := ⟨RX0, "joinableOf", "(LShortring$Net;II)I"⟩
abbrev cX0_joinable : ByteArray := prog_2_method_12_code
def yX0_joinable : MethodName := ⟨RX0, "joinable", "(LShortring$Net;I)I"⟩
abbrev cX0_nextKnot : ByteArray := prog_2_method_13_code
def yX0_nextKnot : MethodName := ⟨RX0, "nextKnot", "(LShortring$Net;)I"⟩
abbrev cX0_partnerOf : ByteArray := prog_2_method_14_code
def yX0_partnerOf : MethodName := ⟨RX0, "partnerOf", "(LShortring$Net;I)I"⟩
def RX1 : String := "Shortring$Ledger"
def TX1 : u_T := fun k => match k with
  | 0 => ("Shortring$Ledger", "leastProved", "[I", true)
  | _ => ("Shortring$Ledger", "smallest", "[I", true)
def tyX1 : Nat → FieldType := fun k => match k with
  | 0 => .array .int
  | _ => .array .int
abbrev wsX10 : List Cond := u_ws RX1 TX1 2
theorem nmX1 : ∀ a, a < 2 → ∀ b, b < 2 → a ≠ b → (TX1 a).2.1 ≠ (TX1 b).2.1 := by decide +kernel
theorem tyX1_ok : ∀ k, k < 2 → parseFieldDescriptor (TX1 k).2.2.1 = some (tyX1 k) := by decide +kernel
abbrev cX1_init : ByteArray := prog_3_method_1_code
def yX1_init : MethodName := ⟨RX1, "<init>", "()V"⟩
abbrev cX1_leastKnots : ByteArray := prog_3_method_2_code
def yX1_leastKnots : MethodName := ⟨RX1, "leastKnots", "(II)I"⟩
abbrev cX1_why : ByteArray := prog_3_method_3_code
def yX1_why : MethodName := ⟨RX1, "why", "(III)I"⟩
abbrev cX1_proofPlace : ByteArray := prog_3_method_4_code
def yX1_proofPlace : MethodName := ⟨RX1, "proofPlace", "(II)I"⟩
abbrev cX1_isProved : ByteArray := prog_3_method_5_code
def yX1_isProved : MethodName := ⟨RX1, "isProved", "(III)Z"⟩
abbrev cX1_prove : ByteArray := prog_3_method_6_code
def yX1_prove : MethodName := ⟨RX1, "prove", "(III)V"⟩
abbrev cX1_tablePlace : ByteArray := prog_3_method_7_code
def yX1_tablePlace : MethodName := ⟨RX1, "tablePlace", "(II)I"⟩
abbrev cX1_look : ByteArray := prog_3_method_8_code
def yX1_look : MethodName := ⟨RX1, "look", "(LShortring$Net;)V"⟩
abbrev cX1_smallestOf : ByteArray := prog_3_method_9_code
def yX1_smallestOf : MethodName := ⟨RX1, "smallestOf", "(II)I"⟩
abbrev cX1_nextOf : ByteArray := prog_3_method_10_code
def yX1_nextOf : MethodName := ⟨RX1, "nextOf", "(II)I"⟩
abbrev cX1_isTableSound : ByteArray := prog_3_method_11_code
def yX1_isTableSound : MethodName := ⟨RX1, "isTableSound", "()Z"⟩
def RX2 : String := "Shortring$Likeness"
def TX2 : u_T := fun k => match k with
  | 0 => ("Shortring$Likeness", "from", "LShortring$Net;", true)
  | 1 => ("Shortring$Likeness", "to", "LShortring$Net;", true)
  | 2 => ("Shortring$Likeness", "image", "[I", true)
  | _ => ("Shortring$Likeness", "placed", "I", false)
def tyX2 : Nat → FieldType := fun k => match k with
  | 0 => .object "Shortring$Net"
  | 1 => .object "Shortring$Net"
  | 2 => .array .int
  | _ => .int
abbrev wsX20 : List Cond := u_ws RX2 TX2 4
theorem nmX2 : ∀ a, a < 4 → ∀ b, b < 4 → a ≠ b → (TX2 a).2.1 ≠ (TX2 b).2.1 := by decide +kernel
theorem tyX2_ok : ∀ k, k < 4 → parseFieldDescriptor (TX2 k).2.2.1 = some (tyX2 k) := by decide +kernel
abbrev cX2_init : ByteArray := prog_4_method_1_code
def yX2_init : MethodName := ⟨RX2, "<init>", "()V"⟩
abbrev cX2_turnsOf : ByteArray := prog_4_method_2_code
def yX2_turnsOf : MethodName := ⟨RX2, "turnsOf", "(LShortring$Net;)I"⟩
abbrev cX2_partsLike : ByteArray := prog_4_method_3_code
def yX2_partsLike : MethodName := ⟨RX2, "partsLike", "(II)I"⟩
abbrev cX2_areAlike : ByteArray := prog_4_method_4_code
def yX2_areAlike : MethodName := ⟨RX2, "areAlike", "(LShortring$Net;LShortring$Net;)Z"⟩
abbrev cX2_partMatching : ByteArray := prog_4_method_5_code
def yX2_partMatching : MethodName := ⟨RX2, "partMatching", "(II)I"⟩
abbrev cX2_waysOf : ByteArray := prog_4_method_6_code
def yX2_waysOf : MethodName := ⟨RX2, "waysOf", "(III)I"⟩
abbrev cX2_ways : ByteArray := prog_4_method_7_code
def yX2_ways : MethodName := ⟨RX2, "ways", "(LShortring$Likeness;IIII)I"⟩
abbrev cX2_place : ByteArray := prog_4_method_8_code
def yX2_place : MethodName := ⟨RX2, "place", "(II)V"⟩
abbrev cX2_nextToPlace : ByteArray := prog_4_method_9_code
def yX2_nextToPlace : MethodName := ⟨RX2, "nextToPlace", "(I)I"⟩
abbrev cX2_fitting : ByteArray := prog_4_method_10_code
def yX2_fitting : MethodName := ⟨RX2, "fitting", "(II)I"⟩
def RX3 : String := "Shortring$Net"
def TX3 : u_T := fun k => match k with
  | 0 => ("Shortring$Net", "near", "[I", true)
  | _ => ("Shortring$Net", "knots", "I", false)
def tyX3 : Nat → FieldType := fun k => match k with
  | 0 => .array .int
  | _ => .int
abbrev wsX30 : List Cond := u_ws RX3 TX3 2
theorem nmX3 : ∀ a, a < 2 → ∀ b, b < 2 → a ≠ b → (TX3 a).2.1 ≠ (TX3 b).2.1 := by decide +kernel
theorem tyX3_ok : ∀ k, k < 2 → parseFieldDescriptor (TX3 k).2.2.1 = some (tyX3 k) := by decide +kernel
abbrev cX3_init : ByteArray := prog_5_method_1_code
def yX3_init : MethodName := ⟨RX3, "<init>", "()V"⟩
abbrev cX3_lay : ByteArray := prog_5_method_2_code
def yX3_lay : MethodName := ⟨RX3, "lay", "(I)V"⟩
abbrev cX3_take : ByteArray := prog_5_method_3_code
def yX3_take : MethodName := ⟨RX3, "take", "(LShortring$Net;)V"⟩
abbrev cX3_isKnot : ByteArray := prog_5_method_4_code
def yX3_isKnot : MethodName := ⟨RX3, "isKnot", "(I)Z"⟩
abbrev cX3_nearOf : ByteArray := prog_5_method_5_code
def yX3_nearOf : MethodName := ⟨RX3, "nearOf", "(I)I"⟩
abbrev cX3_isNear : ByteArray := prog_5_method_6_code
def yX3_isNear : MethodName := ⟨RX3, "isNear", "(II)Z"⟩
abbrev cX3_countOf : ByteArray := prog_5_method_7_code
def yX3_countOf : MethodName := ⟨RX3, "countOf", "(I)I"⟩
abbrev cX3_join : ByteArray := prog_5_method_8_code
def yX3_join : MethodName := ⟨RX3, "join", "(II)V"⟩
abbrev cX3_loosen : ByteArray := prog_5_method_9_code
def yX3_loosen : MethodName := ⟨RX3, "loosen", "(II)V"⟩
abbrev cX3_edgesInAll : ByteArray := prog_5_method_10_code
def yX3_edgesInAll : MethodName := ⟨RX3, "edgesInAll", "()I"⟩
abbrev cX3_edgeAt : ByteArray := prog_5_method_11_code
def yX3_edgeAt : MethodName := ⟨RX3, "edgeAt", "(I)I"⟩
abbrev cX3_numberedIn : ByteArray := prog_5_method_12_code
def yX3_numberedIn : MethodName := ⟨RX3, "numberedIn", "(II)I"⟩
abbrev cX3_evenCount : ByteArray := prog_5_method_13_code
def yX3_evenCount : MethodName := ⟨RX3, "evenCount", "()I"⟩
abbrev cX3_loneliest : ByteArray := prog_5_method_14_code
def yX3_loneliest : MethodName := ⟨RX3, "loneliest", "()I"⟩
abbrev cX3_isMutual : ByteArray := prog_5_method_15_code
def yX3_isMutual : MethodName := ⟨RX3, "isMutual", "()Z"⟩
def RX4 : String := "Shortring$Paint"
def TX4 : u_T := fun k => match k with
  | _ => ("Shortring$Paint", "hues", "[I", true)
def tyX4 : Nat → FieldType := fun k => match k with
  | _ => .array .int
abbrev wsX40 : List Cond := u_ws RX4 TX4 1
theorem nmX4 : ∀ a, a < 1 → ∀ b, b < 1 → a ≠ b → (TX4 a).2.1 ≠ (TX4 b).2.1 := by decide +kernel
theorem tyX4_ok : ∀ k, k < 1 → parseFieldDescriptor (TX4 k).2.2.1 = some (tyX4 k) := by decide +kernel
abbrev cX4_init : ByteArray := prog_6_method_1_code
def yX4_init : MethodName := ⟨RX4, "<init>", "()V"⟩
abbrev cX4_fewest : ByteArray := prog_6_method_2_code
def yX4_fewest : MethodName := ⟨RX4, "fewest", "(LShortring$Net;)I"⟩
abbrev cX4_fewestOf : ByteArray := prog_6_method_3_code
def yX4_fewestOf : MethodName := ⟨RX4, "fewestOf", "(LShortring$Net;II)I"⟩
abbrev cX4_canPaint : ByteArray := prog_6_method_4_code
def yX4_canPaint : MethodName := ⟨RX4, "canPaint", "(LShortring$Net;[IIII)Z"⟩
abbrev cX4_hardest : ByteArray := prog_6_method_5_code
def yX4_hardest : MethodName := ⟨RX4, "hardest", "(LShortring$Net;[II)I"⟩
def RX5 : String := "Shortring$Paths"
def TX5 : u_T := fun k => match k with
  | _ => ("", "", "", false)
def tyX5 : Nat → FieldType := fun k => match k with
  | _ => .int
abbrev wsX50 : List Cond := u_ws RX5 TX5 0
theorem nmX5 : ∀ a, a < 0 → ∀ b, b < 0 → a ≠ b → (TX5 a).2.1 ≠ (TX5 b).2.1 := by decide +kernel
theorem tyX5_ok : ∀ k, k < 0 → parseFieldDescriptor (TX5 k).2.2.1 = some (tyX5 k) := by decide +kernel
abbrev cX5_around : ByteArray := prog_7_method_2_code
def yX5_around : MethodName := ⟨RX5, "around", "(LShortring$Net;I)I"⟩
abbrev cX5_within : ByteArray := prog_7_method_3_code
def yX5_within : MethodName := ⟨RX5, "within", "(LShortring$Net;II)I"⟩
abbrev cX5_partWith : ByteArray := prog_7_method_4_code
def yX5_partWith : MethodName := ⟨RX5, "partWith", "(LShortring$Net;I)I"⟩
abbrev cX5_partsInAll : ByteArray := prog_7_method_5_code
def yX5_partsInAll : MethodName := ⟨RX5, "partsInAll", "(LShortring$Net;)I"⟩
abbrev cX5_partNumber : ByteArray := prog_7_method_6_code
def yX5_partNumber : MethodName := ⟨RX5, "partNumber", "(LShortring$Net;I)I"⟩
abbrev cX5_greatestDistance : ByteArray := prog_7_method_8_code
def yX5_greatestDistance : MethodName := ⟨RX5, "greatestDistance", "(LShortring$Net;I)I"⟩
abbrev cX5_width : ByteArray := prog_7_method_9_code
def yX5_width : MethodName := ⟨RX5, "width", "(LShortring$Net;)I"⟩
abbrev cX5_leastRingBy : ByteArray := prog_7_method_10_code
def yX5_leastRingBy : MethodName := ⟨RX5, "leastRingBy", "(LShortring$Net;II)I"⟩
abbrev cX5_leastRingAt : ByteArray := prog_7_method_11_code
def yX5_leastRingAt : MethodName := ⟨RX5, "leastRingAt", "(LShortring$Net;I)I"⟩
abbrev cX5_leastRing : ByteArray := prog_7_method_12_code
def yX5_leastRing : MethodName := ⟨RX5, "leastRing", "(LShortring$Net;)I"⟩
def RX6 : String := "Shortring"
def TX6 : u_T := fun k => match k with
  | 0 => ("Shortring", "net", "LShortring$Net;", true)
  | 1 => ("Shortring", "scratch", "LShortring$Net;", true)
  | 2 => ("Shortring", "kept", "[LShortring$Net;", true)
  | 3 => ("Shortring", "hunt", "LShortring$Hunt;", true)
  | 4 => ("Shortring", "ledger", "LShortring$Ledger;", true)
  | 5 => ("Shortring", "likeness", "LShortring$Likeness;", true)
  | 6 => ("Shortring", "paint", "LShortring$Paint;", true)
  | 7 => ("Shortring", "tally", "[I", true)
  | 8 => ("Shortring", "keptMany", "I", false)
  | _ => ("Shortring", "refused", "I", false)
def tyX6 : Nat → FieldType := fun k => match k with
  | 0 => .object "Shortring$Net"
  | 1 => .object "Shortring$Net"
  | 2 => .array (.object "Shortring$Net")
  | 3 => .object "Shortring$Hunt"
  | 4 => .object "Shortring$Ledger"
  | 5 => .object "Shortring$Likeness"
  | 6 => .object "Shortring$Paint"
  | 7 => .array .int
  | 8 => .int
  | _ => .int
abbrev wsX60 : List Cond := u_ws RX6 TX6 10
theorem nmX6 : ∀ a, a < 10 → ∀ b, b < 10 → a ≠ b → (TX6 a).2.1 ≠ (TX6 b).2.1 := by decide +kernel
theorem tyX6_ok : ∀ k, k < 10 → parseFieldDescriptor (TX6 k).2.2.1 = some (tyX6 k) := by decide +kernel
abbrev cX6_init : ByteArray := prog_1_method_1_code
def yX6_init : MethodName := ⟨RX6, "<init>", "()V"⟩
abbrev cX6_garden : ByteArray := prog_1_method_2_code
def yX6_garden : MethodName := ⟨RX6, "garden", "(I)I"⟩
abbrev cX6_edge : ByteArray := prog_1_method_3_code
def yX6_edge : MethodName := ⟨RX6, "edge", "(IIZ)Z"⟩
abbrev cX6_ring : ByteArray := prog_1_method_4_code
def yX6_ring : MethodName := ⟨RX6, "ring", "(II)I"⟩
abbrev cX6_doubled : ByteArray := prog_1_method_5_code
def yX6_doubled : MethodName := ⟨RX6, "doubled", "(I)I"⟩
abbrev cX6_swap : ByteArray := prog_1_method_6_code
def yX6_swap : MethodName := ⟨RX6, "swap", "(IIZ)Z"⟩
abbrev cX6_mend : ByteArray := prog_1_method_7_code
def yX6_mend : MethodName := ⟨RX6, "mend", "(III)I"⟩
abbrev cX6_aim : ByteArray := prog_1_method_8_code
def yX6_aim : MethodName := ⟨RX6, "aim", "(II)I"⟩
abbrev cX6_grow : ByteArray := prog_1_method_9_code
def yX6_grow : MethodName := ⟨RX6, "grow", "(I)I"⟩
abbrev cX6_search : ByteArray := prog_1_method_10_code
def yX6_search : MethodName := ⟨RX6, "search", "(I)I"⟩
abbrev cX6_now : ByteArray := prog_1_method_11_code
def yX6_now : MethodName := ⟨RX6, "now", "(I)I"⟩
abbrev cX6_ofKnot : ByteArray := prog_1_method_12_code
def yX6_ofKnot : MethodName := ⟨RX6, "ofKnot", "(II)I"⟩
abbrev cX6_ofEdge : ByteArray := prog_1_method_13_code
def yX6_ofEdge : MethodName := ⟨RX6, "ofEdge", "(II)I"⟩
abbrev cX6_rings : ByteArray := prog_1_method_15_code
def yX6_rings : MethodName := ⟨RX6, "rings", "(I)I"⟩
abbrev cX6_bound : ByteArray := prog_1_method_16_code
def yX6_bound : MethodName := ⟨RX6, "bound", "(II)I"⟩
abbrev cX6_table : ByteArray := prog_1_method_18_code
def yX6_table : MethodName := ⟨RX6, "table", "(IIZ)I"⟩
abbrev cX6_keep : ByteArray := prog_1_method_19_code
def yX6_keep : MethodName := ⟨RX6, "keep", "()I"⟩
abbrev cX6_back : ByteArray := prog_1_method_20_code
def yX6_back : MethodName := ⟨RX6, "back", "(I)I"⟩
abbrev cX6_isAlike : ByteArray := prog_1_method_21_code
def yX6_isAlike : MethodName := ⟨RX6, "isAlike", "(I)Z"⟩
abbrev cX6_isSound : ByteArray := prog_1_method_25_code
def yX6_isSound : MethodName := ⟨RX6, "isSound", "()Z"⟩
abbrev cX6_digest : ByteArray := prog_1_method_27_code
def yX6_digest : MethodName := ⟨RX6, "digest", "()J"⟩
abbrev cX6_requireTabled : ByteArray := prog_1_method_28_code
def yX6_requireTabled : MethodName := ⟨RX6, "requireTabled", "(II)V"⟩
abbrev cX6_keptAt : ByteArray := prog_1_method_29_code
def yX6_keptAt : MethodName := ⟨RX6, "keptAt", "(I)LShortring$Net;"⟩
abbrev cX6_countByJumps : ByteArray := prog_1_method_30_code
def yX6_countByJumps : MethodName := ⟨RX6, "countByJumps", "(II)I"⟩
abbrev cX6_layByJumps : ByteArray := prog_1_method_31_code
def yX6_layByJumps : MethodName := ⟨RX6, "layByJumps", "(II)V"⟩
abbrev cX6_layDouble : ByteArray := prog_1_method_32_code
def yX6_layDouble : MethodName := ⟨RX6, "layDouble", "(I)V"⟩
abbrev cX6_turned : ByteArray := prog_1_method_33_code
def yX6_turned : MethodName := ⟨RX6, "turned", "(IZ)I"⟩
abbrev cX6_canExchange : ByteArray := prog_1_method_34_code
def yX6_canExchange : MethodName := ⟨RX6, "canExchange", "(II)Z"⟩
abbrev cX6_exchange : ByteArray := prog_1_method_35_code
def yX6_exchange : MethodName := ⟨RX6, "exchange", "(II)V"⟩
abbrev cX6_mendByRounds : ByteArray := prog_1_method_36_code
def yX6_mendByRounds : MethodName := ⟨RX6, "mendByRounds", "(III)I"⟩
abbrev cX6_shortRings : ByteArray := prog_1_method_37_code
def yX6_shortRings : MethodName := ⟨RX6, "shortRings", "(I)I"⟩
abbrev cX6_countRings : ByteArray := prog_1_method_38_code
def yX6_countRings : MethodName := ⟨RX6, "countRings", "(I)V"⟩
abbrev cX6_tallied : ByteArray := prog_1_method_39_code
def yX6_tallied : MethodName := ⟨RX6, "tallied", "(I)I"⟩
abbrev cX6_walk : ByteArray := prog_1_method_40_code
def yX6_walk : MethodName := ⟨RX6, "walk", "(LShortring$Net;[IIIIII)V"⟩
abbrev cX6_isAimSound : ByteArray := prog_1_method_41_code
def yX6_isAimSound : MethodName := ⟨RX6, "isAimSound", "()Z"⟩
abbrev cX6_isEvenSound : ByteArray := prog_1_method_42_code
def yX6_isEvenSound : MethodName := ⟨RX6, "isEvenSound", "()Z"⟩
abbrev cX6_digestOfKnots : ByteArray := prog_1_method_43_code
def yX6_digestOfKnots : MethodName := ⟨RX6, "digestOfKnots", "(J)J"⟩
abbrev cX6_digestOfEdges : ByteArray := prog_1_method_44_code
def yX6_digestOfEdges : MethodName := ⟨RX6, "digestOfEdges", "(J)J"⟩
abbrev cX6_digestOfTable : ByteArray := prog_1_method_45_code
def yX6_digestOfTable : MethodName := ⟨RX6, "digestOfTable", "(J)J"⟩
abbrev cX6_isWithin : ByteArray := prog_1_method_46_code
def yX6_isWithin : MethodName := ⟨RX6, "isWithin", "(III)Z"⟩
abbrev cX6_bit : ByteArray := prog_1_method_47_code
def yX6_bit : MethodName := ⟨RX6, "bit", "(I)I"⟩
abbrev cX6_holds : ByteArray := prog_1_method_48_code
def yX6_holds : MethodName := ⟨RX6, "holds", "(II)Z"⟩
abbrev cX6_isSetBelow : ByteArray := prog_1_method_49_code
def yX6_isSetBelow : MethodName := ⟨RX6, "isSetBelow", "(II)Z"⟩
abbrev cX6_firstOf : ByteArray := prog_1_method_50_code
def yX6_firstOf : MethodName := ⟨RX6, "firstOf", "(I)I"⟩
abbrev cX6_lesser : ByteArray := prog_1_method_51_code
def yX6_lesser : MethodName := ⟨RX6, "lesser", "(II)I"⟩
abbrev cX6_pairOf : ByteArray := prog_1_method_52_code
def yX6_pairOf : MethodName := ⟨RX6, "pairOf", "(II)I"⟩
abbrev cX6_oneOf : ByteArray := prog_1_method_53_code
def yX6_oneOf : MethodName := ⟨RX6, "oneOf", "(I)I"⟩
abbrev cX6_otherOf : ByteArray := prog_1_method_54_code
def yX6_otherOf : MethodName := ⟨RX6, "otherOf", "(I)I"⟩
def RX7 : String := "ShortringModel"
def TX7 : u_T := fun k => match k with
  | _ => ("", "", "", false)
def tyX7 : Nat → FieldType := fun k => match k with
  | _ => .int
abbrev wsX70 : List Cond := u_ws RX7 TX7 0
theorem nmX7 : ∀ a, a < 0 → ∀ b, b < 0 → a ≠ b → (TX7 a).2.1 ≠ (TX7 b).2.1 := by decide +kernel
theorem tyX7_ok : ∀ k, k < 0 → parseFieldDescriptor (TX7 k).2.2.1 = some (tyX7 k) := by decide +kernel
def RJx145de : String := "java/io/Serializable"
def TJx145de : u_T := fun k => match k with
  | _ => ("", "", "", false)
def tyJx145de : Nat → FieldType := fun k => match k with
  | _ => .int
abbrev wsJx145de0 : List Cond := u_ws RJx145de TJx145de 0
theorem nmJx145de : ∀ a, a < 0 → ∀ b, b < 0 → a ≠ b → (TJx145de a).2.1 ≠ (TJx145de b).2.1 := by decide +kernel
theorem tyJx145de_ok : ∀ k, k < 0 → parseFieldDescriptor (TJx145de k).2.2.1 = some (tyJx145de k) := by decide +kernel
def RJ6 : String := "java/lang/Integer"
def TJ6 : u_T := fun k => match k with
  | _ => ("", "", "", false)
def tyJ6 : Nat → FieldType := fun k => match k with
  | _ => .int
abbrev wsJ60 : List Cond := u_ws RJ6 TJ6 0
theorem nmJ6 : ∀ a, a < 0 → ∀ b, b < 0 → a ≠ b → (TJ6 a).2.1 ≠ (TJ6 b).2.1 := by decide +kernel
theorem tyJ6_ok : ∀ k, k < 0 → parseFieldDescriptor (TJ6 k).2.2.1 = some (tyJ6 k) := by decide +kernel
abbrev cJ6_bitCount_0f7a4 : ByteArray := prog_14_method_49_code
def yJ6_bitCount_0f7a4 : MethodName := ⟨RJ6, "bitCount", "(I)I"⟩
def RJ9 : String := "java/lang/Math"
def TJ9 : u_T := fun k => match k with
  | _ => ("", "", "", false)
def tyJ9 : Nat → FieldType := fun k => match k with
  | _ => .int
abbrev wsJ90 : List Cond := u_ws RJ9 TJ9 0
theorem nmJ9 : ∀ a, a < 0 → ∀ b, b < 0 → a ≠ b → (TJ9 a).2.1 ≠ (TJ9 b).2.1 := by decide +kernel
theorem tyJ9_ok : ∀ k, k < 0 → parseFieldDescriptor (TJ9 k).2.2.1 = some (tyJ9 k) := by decide +kernel
abbrev cJ9_max_7cf53 : ByteArray := prog_15_method_65_code
def yJ9_max_7cf53 : MethodName := ⟨RJ9, "max", "(II)I"⟩
abbrev cJ9_min_7cf53 : ByteArray := prog_15_method_69_code
def yJ9_min_7cf53 : MethodName := ⟨RJ9, "min", "(II)I"⟩
def RJ0 : String := "java/lang/String"
def TJ0 : u_T := fun k => match k with
  | _ => ("", "", "", false)
def tyJ0 : Nat → FieldType := fun k => match k with
  | _ => .int
abbrev wsJ00 : List Cond := u_ws RJ0 TJ0 0
theorem nmJ0 : ∀ a, a < 0 → ∀ b, b < 0 → a ≠ b → (TJ0 a).2.1 ≠ (TJ0 b).2.1 := by decide +kernel
theorem tyJ0_ok : ∀ k, k < 0 → parseFieldDescriptor (TJ0 k).2.2.1 = some (tyJ0 k) := by decide +kernel
def RL : String := "ShortringLaw"
abbrev cL_below : ByteArray := method_2_code
def yL_below : MethodName := ⟨RL, "below", "(II)I"⟩
abbrev cL_cell : ByteArray := method_3_code
def yL_cell : MethodName := ⟨RL, "cell", "([II)I"⟩
abbrev cL_law : ByteArray := code
def yL_law : MethodName := ⟨RL, "law", "([I)Z"⟩
abbrev cL_act : ByteArray := method_5_code
def yL_act : MethodName := ⟨RL, "act", "(LShortring;III)I"⟩
def wsX0_init : List Cond := .code yX0_init cX0_init 1 none :: ([.methodLink RX0 3 objectInit, .instanceMethod objectInit, .code objectInit ⟨#[0xb1]⟩ 1 none, .arrayClass .int, .fieldLink RX0 9 "Shortring$Hunt" "barredWith" "[I", .fieldLink RX0 15 "Shortring$Hunt" "bars" "[I", .fieldLink RX0 18 "Shortring$Hunt" "puts" "[I", .fieldLink RX0 21 "Shortring$Hunt" "barsAtPut" "[I", .fieldLink RX0 24 "Shortring$Hunt" "isOn" "Z", .fieldLink RX0 28 "Shortring$Hunt" "state" "I"] ++ wsX00)
def wsX6_oneOf : List Cond := .code yX6_oneOf cX6_oneOf 1 (some .int) :: ([])
def wsX6_otherOf : List Cond := .code yX6_otherOf cX6_otherOf 1 (some .int) :: ([])
def wsX6_bit : List Cond := .code yX6_bit cX6_bit 1 (some .int) :: ([])
def wsX0_flipBar : List Cond := .code yX0_flipBar cX0_flipBar 3 none :: ([.fieldLink RX0 9 "Shortring$Hunt" "barredWith" "[I", .static yX6_bit, .initialized RX6, .code yX6_bit cX6_bit 1 (some .int)] ++ wsX00)
def wsX0_unbarDownTo : List Cond := .code yX0_unbarDownTo cX0_unbarDownTo 3 none :: ([.fieldLink RX0 68 "Shortring$Hunt" "barMany" "I", .fieldLink RX0 15 "Shortring$Hunt" "bars" "[I", .static yX6_oneOf, .initialized RX6, .code yX6_oneOf cX6_oneOf 1 (some .int), .static yX6_otherOf, .code yX6_otherOf cX6_otherOf 1 (some .int), .methodLink RX0 90 yX0_flipBar, .instanceMethod yX0_flipBar, .selects RX0 yX0_flipBar yX0_flipBar, .initialized RX0, .code yX0_flipBar cX0_flipBar 3 none, .fieldLink RX0 9 "Shortring$Hunt" "barredWith" "[I", .static yX6_bit, .code yX6_bit cX6_bit 1 (some .int)] ++ wsX00)
def wsX0_begin_r1 : List Cond := [Cond.fieldLink RX0 24 "Shortring$Hunt" "isOn" "Z", Cond.fieldLink RX0 32 "Shortring$Hunt" "count" "I", Cond.fieldLink RX0 35 "Shortring$Hunt" "length" "I", Cond.fieldLink RX0 38 "Shortring$Hunt" "steps" "I", Cond.fieldLink RX0 28 "Shortring$Hunt" "state" "I", Cond.fieldLink RX0 41 "Shortring$Hunt" "putMany" "I", Cond.methodLink RX0 44 yX0_unbarDownTo, Cond.instanceMethod yX0_unbarDownTo, Cond.selects RX0 yX0_unbarDownTo yX0_unbarDownTo, Cond.initialized RX0, Cond.code yX0_unbarDownTo cX0_unbarDownTo 3 none, Cond.fieldLink RX0 68 "Shortring$Hunt" "barMany" "I", Cond.fieldLink RX0 15 "Shortring$Hunt" "bars" "[I", Cond.static yX6_oneOf, Cond.initialized RX6, Cond.code yX6_oneOf cX6_oneOf 1 (some .int), Cond.static yX6_otherOf, Cond.code yX6_otherOf cX6_otherOf 1 (some .int), Cond.methodLink RX0 90 yX0_flipBar, Cond.instanceMethod yX0_flipBar, Cond.selects RX0 yX0_flipBar yX0_flipBar, Cond.code yX0_flipBar cX0_flipBar 3 none, Cond.fieldLink RX0 9 "Shortring$Hunt" "barredWith" "[I", Cond.static yX6_bit]
def wsX0_begin_r2 : List Cond := [Cond.code yX6_bit cX6_bit 1 (some .int)]
def wsX0_begin : List Cond := .code yX0_begin cX0_begin 3 none :: ((wsX0_begin_r1 ++ wsX0_begin_r2) ++ wsX00)
def wsX0_end : List Cond := .code yX0_end cX0_end 1 none :: ([.fieldLink RX0 24 "Shortring$Hunt" "isOn" "Z"] ++ wsX00)
def wsX3_nearOf : List Cond := .code yX3_nearOf cX3_nearOf 2 (some .int) :: ([.fieldLink RX3 9 "Shortring$Net" "near" "[I"] ++ wsX30)
def wsJ6_bitCount_0f7a4 : List Cond := .code yJ6_bitCount_0f7a4 cJ6_bitCount_0f7a4 1 (some .int) :: ([.constant RJ6 265 (1431655765), .constant RJ6 266 (858993459), .constant RJ6 267 (252645135)])
def wsX3_countOf : List Cond := .code yX3_countOf cX3_countOf 2 (some .int) :: ([.methodLink RX3 19 yX3_nearOf, .instanceMethod yX3_nearOf, .selects RX3 yX3_nearOf yX3_nearOf, .initialized RX3, .code yX3_nearOf cX3_nearOf 2 (some .int), .fieldLink RX3 9 "Shortring$Net" "near" "[I", .methodLink RX3 27 yJ6_bitCount_0f7a4, .static yJ6_bitCount_0f7a4, .initialized RJ6, .code yJ6_bitCount_0f7a4 cJ6_bitCount_0f7a4 1 (some .int), .constant RJ6 265 (1431655765), .constant RJ6 266 (858993459), .constant RJ6 267 (252645135)] ++ wsX30)
def wsX0_needy : List Cond := .code yX0_needy cX0_needy 4 (some .int) :: ([.fieldLink RX0 32 "Shortring$Hunt" "count" "I", .instanceMethod yX3_countOf, .initialized RX3, .selects RX3 yX3_countOf yX3_countOf, .code yX3_countOf cX3_countOf 2 (some .int), .methodLink RX3 19 yX3_nearOf, .instanceMethod yX3_nearOf, .selects RX3 yX3_nearOf yX3_nearOf, .code yX3_nearOf cX3_nearOf 2 (some .int), .fieldLink RX3 9 "Shortring$Net" "near" "[I", .methodLink RX3 27 yJ6_bitCount_0f7a4, .static yJ6_bitCount_0f7a4, .initialized RJ6, .code yJ6_bitCount_0f7a4 cJ6_bitCount_0f7a4 1 (some .int), .constant RJ6 265 (1431655765), .constant RJ6 266 (858993459), .constant RJ6 267 (252645135), .static yX6_bit, .initialized RX6, .code yX6_bit cX6_bit 1 (some .int)] ++ wsX30 ++ wsX00)
def wsX6_holds : List Cond := .code yX6_holds cX6_holds 2 (some .boolean) :: ([])
def wsX5_around : List Cond := .code yX5_around cX5_around 6 (some .int) :: ([.methodLink RX5 9 yJ6_bitCount_0f7a4, .static yJ6_bitCount_0f7a4, .initialized RJ6, .code yJ6_bitCount_0f7a4 cJ6_bitCount_0f7a4 1 (some .int), .constant RJ6 265 (1431655765), .constant RJ6 266 (858993459), .constant RJ6 267 (252645135), .instanceMethod yX3_nearOf, .initialized RX3, .selects RX3 yX3_nearOf yX3_nearOf, .code yX3_nearOf cX3_nearOf 2 (some .int), .fieldLink RX3 9 "Shortring$Net" "near" "[I"] ++ wsX30)
def wsX5_within : List Cond := .code yX5_within cX5_within 6 (some .int) :: ([.static yX6_bit, .initialized RX6, .code yX6_bit cX6_bit 1 (some .int), .methodLink RX5 23 yX5_around, .static yX5_around, .initialized RX5, .code yX5_around cX5_around 6 (some .int), .methodLink RX5 9 yJ6_bitCount_0f7a4, .static yJ6_bitCount_0f7a4, .initialized RJ6, .code yJ6_bitCount_0f7a4 cJ6_bitCount_0f7a4 1 (some .int), .constant RJ6 265 (1431655765), .constant RJ6 266 (858993459), .constant RJ6 267 (252645135), .instanceMethod yX3_nearOf, .initialized RX3, .selects RX3 yX3_nearOf yX3_nearOf, .code yX3_nearOf cX3_nearOf 2 (some .int), .fieldLink RX3 9 "Shortring$Net" "near" "[I"] ++ wsX30)
def wsX0_joinableOf_r1 : List Cond := [Cond.fieldLink RX0 9 "Shortring$Hunt" "barredWith" "[I", Cond.fieldLink RX0 35 "Shortring$Hunt" "length" "I", Cond.static yX6_holds, Cond.initialized RX6, Cond.code yX6_holds cX6_holds 2 (some .boolean), Cond.static yX5_within, Cond.initialized RX5, Cond.code yX5_within cX5_within 6 (some .int), Cond.static yX6_bit, Cond.code yX6_bit cX6_bit 1 (some .int), Cond.methodLink RX5 23 yX5_around, Cond.static yX5_around, Cond.code yX5_around cX5_around 6 (some .int), Cond.methodLink RX5 9 yJ6_bitCount_0f7a4, Cond.static yJ6_bitCount_0f7a4, Cond.initialized RJ6, Cond.code yJ6_bitCount_0f7a4 cJ6_bitCount_0f7a4 1 (some .int), Cond.constant RJ6 265 (1431655765), Cond.constant RJ6 266 (858993459), Cond.constant RJ6 267 (252645135), Cond.instanceMethod yX3_nearOf, Cond.initialized RX3, Cond.selects RX3 yX3_nearOf yX3_nearOf, Cond.code yX3_nearOf cX3_nearOf 2 (some .int)]
def wsX0_joinableOf_r2 : List Cond := [Cond.fieldLink RX3 9 "Shortring$Net" "near" "[I"]
def wsX0_joinableOf : List Cond := .code yX0_joinableOf cX0_joinableOf 4 (some .int) :: ((wsX0_joinableOf_r1 ++ wsX0_joinableOf_r2) ++ wsX00 ++ wsX30)
def wsX0_nextKnot_r1 : List Cond := [Cond.fieldLink RX0 28 "Shortring$Hunt" "state" "I", Cond.methodLink RX0 112 yX0_needy, Cond.instanceMethod yX0_needy, Cond.selects RX0 yX0_needy yX0_needy, Cond.initialized RX0, Cond.code yX0_needy cX0_needy 4 (some .int), Cond.fieldLink RX0 32 "Shortring$Hunt" "count" "I", Cond.instanceMethod yX3_countOf, Cond.initialized RX3, Cond.selects RX3 yX3_countOf yX3_countOf, Cond.code yX3_countOf cX3_countOf 2 (some .int), Cond.methodLink RX3 19 yX3_nearOf, Cond.instanceMethod yX3_nearOf, Cond.selects RX3 yX3_nearOf yX3_nearOf, Cond.code yX3_nearOf cX3_nearOf 2 (some .int), Cond.fieldLink RX3 9 "Shortring$Net" "near" "[I", Cond.methodLink RX3 27 yJ6_bitCount_0f7a4, Cond.static yJ6_bitCount_0f7a4, Cond.initialized RJ6, Cond.code yJ6_bitCount_0f7a4 cJ6_bitCount_0f7a4 1 (some .int), Cond.constant RJ6 265 (1431655765), Cond.constant RJ6 266 (858993459), Cond.constant RJ6 267 (252645135), Cond.static yX6_bit]
def wsX0_nextKnot_r2 : List Cond := [Cond.initialized RX6, Cond.code yX6_bit cX6_bit 1 (some .int), Cond.static yX6_holds, Cond.code yX6_holds cX6_holds 2 (some .boolean), Cond.methodLink RX0 115 yX0_joinableOf, Cond.instanceMethod yX0_joinableOf, Cond.selects RX0 yX0_joinableOf yX0_joinableOf, Cond.code yX0_joinableOf cX0_joinableOf 4 (some .int), Cond.fieldLink RX0 9 "Shortring$Hunt" "barredWith" "[I", Cond.fieldLink RX0 35 "Shortring$Hunt" "length" "I", Cond.static yX5_within, Cond.initialized RX5, Cond.code yX5_within cX5_within 6 (some .int), Cond.methodLink RX5 23 yX5_around, Cond.static yX5_around, Cond.code yX5_around cX5_around 6 (some .int), Cond.methodLink RX5 9 yJ6_bitCount_0f7a4, Cond.methodLink RX0 118 yJ6_bitCount_0f7a4]
def wsX0_nextKnot : List Cond := .code yX0_nextKnot cX0_nextKnot 7 (some .int) :: ((wsX0_nextKnot_r1 ++ wsX0_nextKnot_r2) ++ wsX00 ++ wsX30)
def wsX6_firstOf : List Cond := .code yX6_firstOf cX6_firstOf 1 (some .int) :: ([.methodLink RX6 270 yJ6_bitCount_0f7a4, .static yJ6_bitCount_0f7a4, .initialized RJ6, .code yJ6_bitCount_0f7a4 cJ6_bitCount_0f7a4 1 (some .int), .constant RJ6 265 (1431655765), .constant RJ6 266 (858993459), .constant RJ6 267 (252645135)])
def wsX0_partnerOf_r1 : List Cond := [Cond.fieldLink RX0 32 "Shortring$Hunt" "count" "I", Cond.methodLink RX0 112 yX0_needy, Cond.instanceMethod yX0_needy, Cond.selects RX0 yX0_needy yX0_needy, Cond.initialized RX0, Cond.code yX0_needy cX0_needy 4 (some .int), Cond.instanceMethod yX3_countOf, Cond.initialized RX3, Cond.selects RX3 yX3_countOf yX3_countOf, Cond.code yX3_countOf cX3_countOf 2 (some .int), Cond.methodLink RX3 19 yX3_nearOf, Cond.instanceMethod yX3_nearOf, Cond.selects RX3 yX3_nearOf yX3_nearOf, Cond.code yX3_nearOf cX3_nearOf 2 (some .int), Cond.fieldLink RX3 9 "Shortring$Net" "near" "[I", Cond.methodLink RX3 27 yJ6_bitCount_0f7a4, Cond.static yJ6_bitCount_0f7a4, Cond.initialized RJ6, Cond.code yJ6_bitCount_0f7a4 cJ6_bitCount_0f7a4 1 (some .int), Cond.constant RJ6 265 (1431655765), Cond.constant RJ6 266 (858993459), Cond.constant RJ6 267 (252645135), Cond.static yX6_bit, Cond.initialized RX6]
def wsX0_partnerOf_r2 : List Cond := [Cond.code yX6_bit cX6_bit 1 (some .int), Cond.methodLink RX0 115 yX0_joinableOf, Cond.instanceMethod yX0_joinableOf, Cond.selects RX0 yX0_joinableOf yX0_joinableOf, Cond.code yX0_joinableOf cX0_joinableOf 4 (some .int), Cond.fieldLink RX0 9 "Shortring$Hunt" "barredWith" "[I", Cond.fieldLink RX0 35 "Shortring$Hunt" "length" "I", Cond.static yX6_holds, Cond.code yX6_holds cX6_holds 2 (some .boolean), Cond.static yX5_within, Cond.initialized RX5, Cond.code yX5_within cX5_within 6 (some .int), Cond.methodLink RX5 23 yX5_around, Cond.static yX5_around, Cond.code yX5_around cX5_around 6 (some .int), Cond.methodLink RX5 9 yJ6_bitCount_0f7a4, Cond.methodLink RX0 118 yJ6_bitCount_0f7a4, Cond.static yX6_firstOf, Cond.code yX6_firstOf cX6_firstOf 1 (some .int), Cond.methodLink RX6 270 yJ6_bitCount_0f7a4]
def wsX0_partnerOf : List Cond := .code yX0_partnerOf cX0_partnerOf 5 (some .int) :: ((wsX0_partnerOf_r1 ++ wsX0_partnerOf_r2) ++ wsX00 ++ wsX30)
def wsX3_isKnot : List Cond := .code yX3_isKnot cX3_isKnot 2 (some .boolean) :: ([.fieldLink RX3 15 "Shortring$Net" "knots" "I", .fieldLink RX3 9 "Shortring$Net" "near" "[I"] ++ wsX30)
def wsX3_loosen : List Cond := .code yX3_loosen cX3_loosen 3 none :: ([.fieldLink RX3 9 "Shortring$Net" "near" "[I", .methodLink RX3 32 yX3_isKnot, .instanceMethod yX3_isKnot, .selects RX3 yX3_isKnot yX3_isKnot, .initialized RX3, .code yX3_isKnot cX3_isKnot 2 (some .boolean), .fieldLink RX3 15 "Shortring$Net" "knots" "I", .static yX6_bit, .initialized RX6, .code yX6_bit cX6_bit 1 (some .int)] ++ wsX30)
def wsX0_bar : List Cond := .code yX0_bar cX0_bar 2 none :: ([.fieldLink RX0 68 "Shortring$Hunt" "barMany" "I", .fieldLink RX0 15 "Shortring$Hunt" "bars" "[I", .static yX6_oneOf, .initialized RX6, .code yX6_oneOf cX6_oneOf 1 (some .int), .static yX6_otherOf, .code yX6_otherOf cX6_otherOf 1 (some .int), .methodLink RX0 90 yX0_flipBar, .instanceMethod yX0_flipBar, .selects RX0 yX0_flipBar yX0_flipBar, .initialized RX0, .code yX0_flipBar cX0_flipBar 3 none, .fieldLink RX0 9 "Shortring$Hunt" "barredWith" "[I", .static yX6_bit, .code yX6_bit cX6_bit 1 (some .int)] ++ wsX00)
def wsX0_goBack_r1 : List Cond := [Cond.fieldLink RX0 41 "Shortring$Hunt" "putMany" "I", Cond.fieldLink RX0 18 "Shortring$Hunt" "puts" "[I", Cond.fieldLink RX0 21 "Shortring$Hunt" "barsAtPut" "[I", Cond.fieldLink RX0 28 "Shortring$Hunt" "state" "I", Cond.methodLink RX0 44 yX0_unbarDownTo, Cond.instanceMethod yX0_unbarDownTo, Cond.selects RX0 yX0_unbarDownTo yX0_unbarDownTo, Cond.initialized RX0, Cond.code yX0_unbarDownTo cX0_unbarDownTo 3 none, Cond.fieldLink RX0 68 "Shortring$Hunt" "barMany" "I", Cond.fieldLink RX0 15 "Shortring$Hunt" "bars" "[I", Cond.static yX6_oneOf, Cond.initialized RX6, Cond.code yX6_oneOf cX6_oneOf 1 (some .int), Cond.static yX6_otherOf, Cond.code yX6_otherOf cX6_otherOf 1 (some .int), Cond.methodLink RX0 90 yX0_flipBar, Cond.instanceMethod yX0_flipBar, Cond.selects RX0 yX0_flipBar yX0_flipBar, Cond.code yX0_flipBar cX0_flipBar 3 none, Cond.fieldLink RX0 9 "Shortring$Hunt" "barredWith" "[I", Cond.static yX6_bit, Cond.code yX6_bit cX6_bit 1 (some .int), Cond.instanceMethod yX3_loosen]
def wsX0_goBack_r2 : List Cond := [Cond.initialized RX3, Cond.selects RX3 yX3_loosen yX3_loosen, Cond.code yX3_loosen cX3_loosen 3 none, Cond.fieldLink RX3 9 "Shortring$Net" "near" "[I", Cond.methodLink RX3 32 yX3_isKnot, Cond.instanceMethod yX3_isKnot, Cond.selects RX3 yX3_isKnot yX3_isKnot, Cond.code yX3_isKnot cX3_isKnot 2 (some .boolean), Cond.fieldLink RX3 15 "Shortring$Net" "knots" "I", Cond.methodLink RX0 87 yX0_bar, Cond.instanceMethod yX0_bar, Cond.selects RX0 yX0_bar yX0_bar, Cond.code yX0_bar cX0_bar 2 none]
def wsX0_goBack : List Cond := .code yX0_goBack cX0_goBack 3 none :: ((wsX0_goBack_r1 ++ wsX0_goBack_r2) ++ wsX00 ++ wsX30)
def wsX6_pairOf : List Cond := .code yX6_pairOf cX6_pairOf 2 (some .int) :: ([])
def wsX3_join : List Cond := .code yX3_join cX3_join 3 none :: ([.fieldLink RX3 9 "Shortring$Net" "near" "[I", .methodLink RX3 32 yX3_isKnot, .instanceMethod yX3_isKnot, .selects RX3 yX3_isKnot yX3_isKnot, .initialized RX3, .code yX3_isKnot cX3_isKnot 2 (some .boolean), .fieldLink RX3 15 "Shortring$Net" "knots" "I", .static yX6_bit, .initialized RX6, .code yX6_bit cX6_bit 1 (some .int)] ++ wsX30)
def wsX0_put : List Cond := .code yX0_put cX0_put 4 none :: ([.fieldLink RX0 41 "Shortring$Hunt" "putMany" "I", .fieldLink RX0 18 "Shortring$Hunt" "puts" "[I", .fieldLink RX0 21 "Shortring$Hunt" "barsAtPut" "[I", .fieldLink RX0 68 "Shortring$Hunt" "barMany" "I", .static yX6_pairOf, .initialized RX6, .code yX6_pairOf cX6_pairOf 2 (some .int), .instanceMethod yX3_join, .initialized RX3, .selects RX3 yX3_join yX3_join, .code yX3_join cX3_join 3 none, .fieldLink RX3 9 "Shortring$Net" "near" "[I", .methodLink RX3 32 yX3_isKnot, .instanceMethod yX3_isKnot, .selects RX3 yX3_isKnot yX3_isKnot, .code yX3_isKnot cX3_isKnot 2 (some .boolean), .fieldLink RX3 15 "Shortring$Net" "knots" "I", .static yX6_bit, .code yX6_bit cX6_bit 1 (some .int)] ++ wsX00 ++ wsX30)
def wsX0_step_r1 : List Cond := [Cond.fieldLink RX0 38 "Shortring$Hunt" "steps" "I", Cond.fieldLink RX0 28 "Shortring$Hunt" "state" "I", Cond.methodLink RX0 48 yX0_nextKnot, Cond.instanceMethod yX0_nextKnot, Cond.selects RX0 yX0_nextKnot yX0_nextKnot, Cond.initialized RX0, Cond.code yX0_nextKnot cX0_nextKnot 7 (some .int), Cond.methodLink RX0 112 yX0_needy, Cond.instanceMethod yX0_needy, Cond.selects RX0 yX0_needy yX0_needy, Cond.code yX0_needy cX0_needy 4 (some .int), Cond.fieldLink RX0 32 "Shortring$Hunt" "count" "I", Cond.instanceMethod yX3_countOf, Cond.initialized RX3, Cond.selects RX3 yX3_countOf yX3_countOf, Cond.code yX3_countOf cX3_countOf 2 (some .int), Cond.methodLink RX3 19 yX3_nearOf, Cond.instanceMethod yX3_nearOf, Cond.selects RX3 yX3_nearOf yX3_nearOf, Cond.code yX3_nearOf cX3_nearOf 2 (some .int), Cond.fieldLink RX3 9 "Shortring$Net" "near" "[I", Cond.methodLink RX3 27 yJ6_bitCount_0f7a4, Cond.static yJ6_bitCount_0f7a4, Cond.initialized RJ6]
def wsX0_step_r2 : List Cond := [Cond.code yJ6_bitCount_0f7a4 cJ6_bitCount_0f7a4 1 (some .int), Cond.constant RJ6 265 (1431655765), Cond.constant RJ6 266 (858993459), Cond.constant RJ6 267 (252645135), Cond.static yX6_bit, Cond.initialized RX6, Cond.code yX6_bit cX6_bit 1 (some .int), Cond.static yX6_holds, Cond.code yX6_holds cX6_holds 2 (some .boolean), Cond.methodLink RX0 115 yX0_joinableOf, Cond.instanceMethod yX0_joinableOf, Cond.selects RX0 yX0_joinableOf yX0_joinableOf, Cond.code yX0_joinableOf cX0_joinableOf 4 (some .int), Cond.fieldLink RX0 9 "Shortring$Hunt" "barredWith" "[I", Cond.fieldLink RX0 35 "Shortring$Hunt" "length" "I", Cond.static yX5_within, Cond.initialized RX5, Cond.code yX5_within cX5_within 6 (some .int), Cond.methodLink RX5 23 yX5_around, Cond.static yX5_around, Cond.code yX5_around cX5_around 6 (some .int), Cond.methodLink RX5 9 yJ6_bitCount_0f7a4, Cond.methodLink RX0 118 yJ6_bitCount_0f7a4, Cond.methodLink RX0 52 yX0_partnerOf]
def wsX0_step_r3 : List Cond := [Cond.instanceMethod yX0_partnerOf, Cond.selects RX0 yX0_partnerOf yX0_partnerOf, Cond.code yX0_partnerOf cX0_partnerOf 5 (some .int), Cond.static yX6_firstOf, Cond.code yX6_firstOf cX6_firstOf 1 (some .int), Cond.methodLink RX6 270 yJ6_bitCount_0f7a4, Cond.methodLink RX0 56 yX0_goBack, Cond.instanceMethod yX0_goBack, Cond.selects RX0 yX0_goBack yX0_goBack, Cond.code yX0_goBack cX0_goBack 3 none, Cond.fieldLink RX0 41 "Shortring$Hunt" "putMany" "I", Cond.fieldLink RX0 18 "Shortring$Hunt" "puts" "[I", Cond.fieldLink RX0 21 "Shortring$Hunt" "barsAtPut" "[I", Cond.methodLink RX0 44 yX0_unbarDownTo, Cond.instanceMethod yX0_unbarDownTo, Cond.selects RX0 yX0_unbarDownTo yX0_unbarDownTo, Cond.code yX0_unbarDownTo cX0_unbarDownTo 3 none, Cond.fieldLink RX0 68 "Shortring$Hunt" "barMany" "I", Cond.fieldLink RX0 15 "Shortring$Hunt" "bars" "[I", Cond.static yX6_oneOf, Cond.code yX6_oneOf cX6_oneOf 1 (some .int), Cond.static yX6_otherOf, Cond.code yX6_otherOf cX6_otherOf 1 (some .int), Cond.methodLink RX0 90 yX0_flipBar]
def wsX0_step_r4 : List Cond := [Cond.instanceMethod yX0_flipBar, Cond.selects RX0 yX0_flipBar yX0_flipBar, Cond.code yX0_flipBar cX0_flipBar 3 none, Cond.instanceMethod yX3_loosen, Cond.selects RX3 yX3_loosen yX3_loosen, Cond.code yX3_loosen cX3_loosen 3 none, Cond.methodLink RX3 32 yX3_isKnot, Cond.instanceMethod yX3_isKnot, Cond.selects RX3 yX3_isKnot yX3_isKnot, Cond.code yX3_isKnot cX3_isKnot 2 (some .boolean), Cond.fieldLink RX3 15 "Shortring$Net" "knots" "I", Cond.methodLink RX0 87 yX0_bar, Cond.instanceMethod yX0_bar, Cond.selects RX0 yX0_bar yX0_bar, Cond.code yX0_bar cX0_bar 2 none, Cond.methodLink RX0 60 yX0_put, Cond.instanceMethod yX0_put, Cond.selects RX0 yX0_put yX0_put, Cond.code yX0_put cX0_put 4 none, Cond.static yX6_pairOf, Cond.code yX6_pairOf cX6_pairOf 2 (some .int), Cond.instanceMethod yX3_join, Cond.selects RX3 yX3_join yX3_join, Cond.code yX3_join cX3_join 3 none]
def wsX0_step : List Cond := .code yX0_step cX0_step 4 none :: ((wsX0_step_r1 ++ (wsX0_step_r2 ++ (wsX0_step_r3 ++ wsX0_step_r4))) ++ wsX00 ++ wsX30)
def wsX0_joinable_r1 : List Cond := [Cond.fieldLink RX0 24 "Shortring$Hunt" "isOn" "Z", Cond.methodLink RX0 112 yX0_needy, Cond.instanceMethod yX0_needy, Cond.selects RX0 yX0_needy yX0_needy, Cond.initialized RX0, Cond.code yX0_needy cX0_needy 4 (some .int), Cond.fieldLink RX0 32 "Shortring$Hunt" "count" "I", Cond.instanceMethod yX3_countOf, Cond.initialized RX3, Cond.selects RX3 yX3_countOf yX3_countOf, Cond.code yX3_countOf cX3_countOf 2 (some .int), Cond.methodLink RX3 19 yX3_nearOf, Cond.instanceMethod yX3_nearOf, Cond.selects RX3 yX3_nearOf yX3_nearOf, Cond.code yX3_nearOf cX3_nearOf 2 (some .int), Cond.fieldLink RX3 9 "Shortring$Net" "near" "[I", Cond.methodLink RX3 27 yJ6_bitCount_0f7a4, Cond.static yJ6_bitCount_0f7a4, Cond.initialized RJ6, Cond.code yJ6_bitCount_0f7a4 cJ6_bitCount_0f7a4 1 (some .int), Cond.constant RJ6 265 (1431655765), Cond.constant RJ6 266 (858993459), Cond.constant RJ6 267 (252645135), Cond.static yX6_bit]
def wsX0_joinable_r2 : List Cond := [Cond.initialized RX6, Cond.code yX6_bit cX6_bit 1 (some .int), Cond.methodLink RX0 115 yX0_joinableOf, Cond.instanceMethod yX0_joinableOf, Cond.selects RX0 yX0_joinableOf yX0_joinableOf, Cond.code yX0_joinableOf cX0_joinableOf 4 (some .int), Cond.fieldLink RX0 9 "Shortring$Hunt" "barredWith" "[I", Cond.fieldLink RX0 35 "Shortring$Hunt" "length" "I", Cond.static yX6_holds, Cond.code yX6_holds cX6_holds 2 (some .boolean), Cond.static yX5_within, Cond.initialized RX5, Cond.code yX5_within cX5_within 6 (some .int), Cond.methodLink RX5 23 yX5_around, Cond.static yX5_around, Cond.code yX5_around cX5_around 6 (some .int), Cond.methodLink RX5 9 yJ6_bitCount_0f7a4]
def wsX0_joinable : List Cond := .code yX0_joinable cX0_joinable 3 (some .int) :: ((wsX0_joinable_r1 ++ wsX0_joinable_r2) ++ wsX00 ++ wsX30)
def wsX1_init : List Cond := .code yX1_init cX1_init 1 none :: ([.methodLink RX1 3 objectInit, .instanceMethod objectInit, .code objectInit ⟨#[0xb1]⟩ 1 none, .arrayClass .int, .fieldLink RX1 9 "Shortring$Ledger" "leastProved" "[I", .fieldLink RX1 15 "Shortring$Ledger" "smallest" "[I"] ++ wsX10)
def wsX1_leastKnots : List Cond := .code yX1_leastKnots cX1_leastKnots 6 (some .int) :: ([])
def wsX6_isWithin : List Cond := .code yX6_isWithin cX6_isWithin 3 (some .boolean) :: ([])
def wsX1_proofPlace : List Cond := .code yX1_proofPlace cX1_proofPlace 5 (some .int) :: ([.fieldLink RX1 9 "Shortring$Ledger" "leastProved" "[I", .static yX6_isWithin, .initialized RX6, .code yX6_isWithin cX6_isWithin 3 (some .boolean)] ++ wsX10)
def wsX1_isProved : List Cond := .code yX1_isProved cX1_isProved 6 (some .boolean) :: ([.fieldLink RX1 9 "Shortring$Ledger" "leastProved" "[I", .methodLink RX1 29 yX1_proofPlace, .instanceMethod yX1_proofPlace, .selects RX1 yX1_proofPlace yX1_proofPlace, .initialized RX1, .code yX1_proofPlace cX1_proofPlace 5 (some .int), .static yX6_isWithin, .initialized RX6, .code yX6_isWithin cX6_isWithin 3 (some .boolean)] ++ wsX10)
def wsX1_why : List Cond := .code yX1_why cX1_why 4 (some .int) :: ([.methodLink RX1 18 yX1_leastKnots, .static yX1_leastKnots, .initialized RX1, .code yX1_leastKnots cX1_leastKnots 6 (some .int), .methodLink RX1 22 yX1_isProved, .instanceMethod yX1_isProved, .selects RX1 yX1_isProved yX1_isProved, .code yX1_isProved cX1_isProved 6 (some .boolean), .fieldLink RX1 9 "Shortring$Ledger" "leastProved" "[I", .methodLink RX1 29 yX1_proofPlace, .instanceMethod yX1_proofPlace, .selects RX1 yX1_proofPlace yX1_proofPlace, .code yX1_proofPlace cX1_proofPlace 5 (some .int), .static yX6_isWithin, .initialized RX6, .code yX6_isWithin cX6_isWithin 3 (some .boolean)] ++ wsX10)
def wsX1_prove : List Cond := .code yX1_prove cX1_prove 5 none :: ([.fieldLink RX1 9 "Shortring$Ledger" "leastProved" "[I", .methodLink RX1 29 yX1_proofPlace, .instanceMethod yX1_proofPlace, .selects RX1 yX1_proofPlace yX1_proofPlace, .initialized RX1, .code yX1_proofPlace cX1_proofPlace 5 (some .int), .static yX6_isWithin, .initialized RX6, .code yX6_isWithin cX6_isWithin 3 (some .boolean), .methodLink RX1 22 yX1_isProved, .instanceMethod yX1_isProved, .selects RX1 yX1_isProved yX1_isProved, .code yX1_isProved cX1_isProved 6 (some .boolean)] ++ wsX10)
def wsX1_tablePlace : List Cond := .code yX1_tablePlace cX1_tablePlace 5 (some .int) :: ([.fieldLink RX1 15 "Shortring$Ledger" "smallest" "[I", .static yX6_isWithin, .initialized RX6, .code yX6_isWithin cX6_isWithin 3 (some .boolean)] ++ wsX10)
def wsX3_evenCount : List Cond := .code yX3_evenCount cX3_evenCount 3 (some .int) :: ([.fieldLink RX3 15 "Shortring$Net" "knots" "I", .methodLink RX3 39 yX3_countOf, .instanceMethod yX3_countOf, .selects RX3 yX3_countOf yX3_countOf, .initialized RX3, .code yX3_countOf cX3_countOf 2 (some .int), .methodLink RX3 19 yX3_nearOf, .instanceMethod yX3_nearOf, .selects RX3 yX3_nearOf yX3_nearOf, .code yX3_nearOf cX3_nearOf 2 (some .int), .fieldLink RX3 9 "Shortring$Net" "near" "[I", .methodLink RX3 27 yJ6_bitCount_0f7a4, .static yJ6_bitCount_0f7a4, .initialized RJ6, .code yJ6_bitCount_0f7a4 cJ6_bitCount_0f7a4 1 (some .int), .constant RJ6 265 (1431655765), .constant RJ6 266 (858993459), .constant RJ6 267 (252645135)] ++ wsX30)
def wsX3_isNear : List Cond := .code yX3_isNear cX3_isNear 3 (some .boolean) :: ([.methodLink RX3 19 yX3_nearOf, .instanceMethod yX3_nearOf, .selects RX3 yX3_nearOf yX3_nearOf, .initialized RX3, .code yX3_nearOf cX3_nearOf 2 (some .int), .fieldLink RX3 9 "Shortring$Net" "near" "[I", .static yX6_holds, .initialized RX6, .code yX6_holds cX6_holds 2 (some .boolean)] ++ wsX30)
def wsX5_leastRingBy : List Cond := .code yX5_leastRingBy cX5_leastRingBy 6 (some .int) :: ([.static yX6_bit, .initialized RX6, .code yX6_bit cX6_bit 1 (some .int), .instanceMethod yX3_nearOf, .initialized RX3, .selects RX3 yX3_nearOf yX3_nearOf, .code yX3_nearOf cX3_nearOf 2 (some .int), .fieldLink RX3 9 "Shortring$Net" "near" "[I", .methodLink RX5 23 yX5_around, .static yX5_around, .initialized RX5, .code yX5_around cX5_around 6 (some .int), .methodLink RX5 9 yJ6_bitCount_0f7a4, .static yJ6_bitCount_0f7a4, .initialized RJ6, .code yJ6_bitCount_0f7a4 cJ6_bitCount_0f7a4 1 (some .int), .constant RJ6 265 (1431655765), .constant RJ6 266 (858993459), .constant RJ6 267 (252645135), .static yX6_holds, .code yX6_holds cX6_holds 2 (some .boolean)] ++ wsX30)
def wsX6_lesser : List Cond := .code yX6_lesser cX6_lesser 2 (some .int) :: ([.methodLink RX6 324 Lib.Math.min.name, .static Lib.Math.min.name, .initialized "java/lang/Math", .code Lib.Math.min.name Lib.Math.min.code 2 (some .int)])
def wsX5_leastRingAt_r1 : List Cond := [Cond.instanceMethod yX3_isNear, Cond.initialized RX3, Cond.selects RX3 yX3_isNear yX3_isNear, Cond.code yX3_isNear cX3_isNear 3 (some .boolean), Cond.methodLink RX3 19 yX3_nearOf, Cond.instanceMethod yX3_nearOf, Cond.selects RX3 yX3_nearOf yX3_nearOf, Cond.code yX3_nearOf cX3_nearOf 2 (some .int), Cond.fieldLink RX3 9 "Shortring$Net" "near" "[I", Cond.static yX6_holds, Cond.initialized RX6, Cond.code yX6_holds cX6_holds 2 (some .boolean), Cond.methodLink RX5 60 yX5_leastRingBy, Cond.static yX5_leastRingBy, Cond.initialized RX5, Cond.code yX5_leastRingBy cX5_leastRingBy 6 (some .int), Cond.static yX6_bit, Cond.code yX6_bit cX6_bit 1 (some .int), Cond.methodLink RX5 23 yX5_around, Cond.static yX5_around, Cond.code yX5_around cX5_around 6 (some .int), Cond.methodLink RX5 9 yJ6_bitCount_0f7a4, Cond.static yJ6_bitCount_0f7a4, Cond.initialized RJ6]
def wsX5_leastRingAt_r2 : List Cond := [Cond.code yJ6_bitCount_0f7a4 cJ6_bitCount_0f7a4 1 (some .int), Cond.constant RJ6 265 (1431655765), Cond.constant RJ6 266 (858993459), Cond.constant RJ6 267 (252645135), Cond.static yX6_lesser, Cond.code yX6_lesser cX6_lesser 2 (some .int), Cond.methodLink RX6 324 Lib.Math.min.name, Cond.static Lib.Math.min.name, Cond.initialized "java/lang/Math", Cond.code Lib.Math.min.name Lib.Math.min.code 2 (some .int)]
def wsX5_leastRingAt : List Cond := .code yX5_leastRingAt cX5_leastRingAt 4 (some .int) :: ((wsX5_leastRingAt_r1 ++ wsX5_leastRingAt_r2) ++ wsX30)
def wsX5_leastRing_r1 : List Cond := [Cond.methodLink RX5 66 yX5_leastRingAt, Cond.static yX5_leastRingAt, Cond.initialized RX5, Cond.code yX5_leastRingAt cX5_leastRingAt 4 (some .int), Cond.instanceMethod yX3_isNear, Cond.initialized RX3, Cond.selects RX3 yX3_isNear yX3_isNear, Cond.code yX3_isNear cX3_isNear 3 (some .boolean), Cond.methodLink RX3 19 yX3_nearOf, Cond.instanceMethod yX3_nearOf, Cond.selects RX3 yX3_nearOf yX3_nearOf, Cond.code yX3_nearOf cX3_nearOf 2 (some .int), Cond.fieldLink RX3 9 "Shortring$Net" "near" "[I", Cond.static yX6_holds, Cond.initialized RX6, Cond.code yX6_holds cX6_holds 2 (some .boolean), Cond.methodLink RX5 60 yX5_leastRingBy, Cond.static yX5_leastRingBy, Cond.code yX5_leastRingBy cX5_leastRingBy 6 (some .int), Cond.static yX6_bit, Cond.code yX6_bit cX6_bit 1 (some .int), Cond.methodLink RX5 23 yX5_around, Cond.static yX5_around, Cond.code yX5_around cX5_around 6 (some .int)]
def wsX5_leastRing_r2 : List Cond := [Cond.methodLink RX5 9 yJ6_bitCount_0f7a4, Cond.static yJ6_bitCount_0f7a4, Cond.initialized RJ6, Cond.code yJ6_bitCount_0f7a4 cJ6_bitCount_0f7a4 1 (some .int), Cond.constant RJ6 265 (1431655765), Cond.constant RJ6 266 (858993459), Cond.constant RJ6 267 (252645135), Cond.static yX6_lesser, Cond.code yX6_lesser cX6_lesser 2 (some .int), Cond.methodLink RX6 324 Lib.Math.min.name, Cond.static Lib.Math.min.name, Cond.initialized "java/lang/Math", Cond.code Lib.Math.min.name Lib.Math.min.code 2 (some .int)]
def wsX5_leastRing : List Cond := .code yX5_leastRing cX5_leastRing 3 (some .int) :: ((wsX5_leastRing_r1 ++ wsX5_leastRing_r2) ++ wsX30)
def wsX1_look_r1 : List Cond := [Cond.fieldLink RX1 15 "Shortring$Ledger" "smallest" "[I", Cond.instanceMethod yX3_evenCount, Cond.initialized RX3, Cond.selects RX3 yX3_evenCount yX3_evenCount, Cond.code yX3_evenCount cX3_evenCount 3 (some .int), Cond.fieldLink RX3 15 "Shortring$Net" "knots" "I", Cond.methodLink RX3 39 yX3_countOf, Cond.instanceMethod yX3_countOf, Cond.selects RX3 yX3_countOf yX3_countOf, Cond.code yX3_countOf cX3_countOf 2 (some .int), Cond.methodLink RX3 19 yX3_nearOf, Cond.instanceMethod yX3_nearOf, Cond.selects RX3 yX3_nearOf yX3_nearOf, Cond.code yX3_nearOf cX3_nearOf 2 (some .int), Cond.fieldLink RX3 9 "Shortring$Net" "near" "[I", Cond.methodLink RX3 27 yJ6_bitCount_0f7a4, Cond.static yJ6_bitCount_0f7a4, Cond.initialized RJ6, Cond.code yJ6_bitCount_0f7a4 cJ6_bitCount_0f7a4 1 (some .int), Cond.constant RJ6 265 (1431655765), Cond.constant RJ6 266 (858993459), Cond.constant RJ6 267 (252645135), Cond.static yX6_isWithin, Cond.initialized RX6]
def wsX1_look_r2 : List Cond := [Cond.code yX6_isWithin cX6_isWithin 3 (some .boolean), Cond.static yX5_leastRing, Cond.initialized RX5, Cond.code yX5_leastRing cX5_leastRing 3 (some .int), Cond.methodLink RX5 66 yX5_leastRingAt, Cond.static yX5_leastRingAt, Cond.code yX5_leastRingAt cX5_leastRingAt 4 (some .int), Cond.instanceMethod yX3_isNear, Cond.selects RX3 yX3_isNear yX3_isNear, Cond.code yX3_isNear cX3_isNear 3 (some .boolean), Cond.static yX6_holds, Cond.code yX6_holds cX6_holds 2 (some .boolean), Cond.methodLink RX5 60 yX5_leastRingBy, Cond.static yX5_leastRingBy, Cond.code yX5_leastRingBy cX5_leastRingBy 6 (some .int), Cond.static yX6_bit, Cond.code yX6_bit cX6_bit 1 (some .int), Cond.methodLink RX5 23 yX5_around, Cond.static yX5_around, Cond.code yX5_around cX5_around 6 (some .int), Cond.methodLink RX5 9 yJ6_bitCount_0f7a4, Cond.static yX6_lesser, Cond.code yX6_lesser cX6_lesser 2 (some .int), Cond.methodLink RX6 324 Lib.Math.min.name]
def wsX1_look_r3 : List Cond := [Cond.static Lib.Math.min.name, Cond.initialized "java/lang/Math", Cond.code Lib.Math.min.name Lib.Math.min.code 2 (some .int), Cond.methodLink RX1 44 yX1_tablePlace, Cond.instanceMethod yX1_tablePlace, Cond.selects RX1 yX1_tablePlace yX1_tablePlace, Cond.initialized RX1, Cond.code yX1_tablePlace cX1_tablePlace 5 (some .int)]
def wsX1_look : List Cond := .code yX1_look cX1_look 4 none :: ((wsX1_look_r1 ++ (wsX1_look_r2 ++ wsX1_look_r3)) ++ wsX10 ++ wsX30)
def wsX1_smallestOf : List Cond := .code yX1_smallestOf cX1_smallestOf 4 (some .int) :: ([.fieldLink RX1 15 "Shortring$Ledger" "smallest" "[I", .methodLink RX1 44 yX1_tablePlace, .instanceMethod yX1_tablePlace, .selects RX1 yX1_tablePlace yX1_tablePlace, .initialized RX1, .code yX1_tablePlace cX1_tablePlace 5 (some .int), .static yX6_isWithin, .initialized RX6, .code yX6_isWithin cX6_isWithin 3 (some .boolean)] ++ wsX10)
def wsX1_nextOf : List Cond := .code yX1_nextOf cX1_nextOf 4 (some .int) :: ([.methodLink RX1 51 yX1_why, .instanceMethod yX1_why, .selects RX1 yX1_why yX1_why, .initialized RX1, .code yX1_why cX1_why 4 (some .int), .methodLink RX1 18 yX1_leastKnots, .static yX1_leastKnots, .code yX1_leastKnots cX1_leastKnots 6 (some .int), .methodLink RX1 22 yX1_isProved, .instanceMethod yX1_isProved, .selects RX1 yX1_isProved yX1_isProved, .code yX1_isProved cX1_isProved 6 (some .boolean), .fieldLink RX1 9 "Shortring$Ledger" "leastProved" "[I", .methodLink RX1 29 yX1_proofPlace, .instanceMethod yX1_proofPlace, .selects RX1 yX1_proofPlace yX1_proofPlace, .code yX1_proofPlace cX1_proofPlace 5 (some .int), .static yX6_isWithin, .initialized RX6, .code yX6_isWithin cX6_isWithin 3 (some .boolean)] ++ wsX10)
def wsX1_isTableSound_r1 : List Cond := [Cond.methodLink RX1 55 yX1_smallestOf, Cond.instanceMethod yX1_smallestOf, Cond.selects RX1 yX1_smallestOf yX1_smallestOf, Cond.initialized RX1, Cond.code yX1_smallestOf cX1_smallestOf 4 (some .int), Cond.fieldLink RX1 15 "Shortring$Ledger" "smallest" "[I", Cond.methodLink RX1 44 yX1_tablePlace, Cond.instanceMethod yX1_tablePlace, Cond.selects RX1 yX1_tablePlace yX1_tablePlace, Cond.code yX1_tablePlace cX1_tablePlace 5 (some .int), Cond.static yX6_isWithin, Cond.initialized RX6, Cond.code yX6_isWithin cX6_isWithin 3 (some .boolean), Cond.methodLink RX1 51 yX1_why, Cond.instanceMethod yX1_why, Cond.selects RX1 yX1_why yX1_why, Cond.code yX1_why cX1_why 4 (some .int), Cond.methodLink RX1 18 yX1_leastKnots, Cond.static yX1_leastKnots, Cond.code yX1_leastKnots cX1_leastKnots 6 (some .int), Cond.methodLink RX1 22 yX1_isProved, Cond.instanceMethod yX1_isProved, Cond.selects RX1 yX1_isProved yX1_isProved, Cond.code yX1_isProved cX1_isProved 6 (some .boolean)]
def wsX1_isTableSound_r2 : List Cond := [Cond.fieldLink RX1 9 "Shortring$Ledger" "leastProved" "[I", Cond.methodLink RX1 29 yX1_proofPlace, Cond.instanceMethod yX1_proofPlace, Cond.selects RX1 yX1_proofPlace yX1_proofPlace, Cond.code yX1_proofPlace cX1_proofPlace 5 (some .int), Cond.methodLink RX1 58 yX1_nextOf, Cond.instanceMethod yX1_nextOf, Cond.selects RX1 yX1_nextOf yX1_nextOf, Cond.code yX1_nextOf cX1_nextOf 4 (some .int)]
def wsX1_isTableSound : List Cond := .code yX1_isTableSound cX1_isTableSound 5 (some .boolean) :: ((wsX1_isTableSound_r1 ++ wsX1_isTableSound_r2) ++ wsX10)
def wsX3_init : List Cond := .code yX3_init cX3_init 1 none :: ([.methodLink RX3 3 objectInit, .instanceMethod objectInit, .code objectInit ⟨#[0xb1]⟩ 1 none, .arrayClass .int, .fieldLink RX3 9 "Shortring$Net" "near" "[I", .fieldLink RX3 15 "Shortring$Net" "knots" "I"] ++ wsX30)
def wsX2_init : List Cond := .code yX2_init cX2_init 1 none :: ([.methodLink RX2 3 objectInit, .instanceMethod objectInit, .code objectInit ⟨#[0xb1]⟩ 1 none, .classLink RX2 9 RX3, .instantiable RX3 2, .initialized RX3, .fieldLink RX2 12 "Shortring$Likeness" "from" "LShortring$Net;", .fieldLink RX2 18 "Shortring$Likeness" "to" "LShortring$Net;", .arrayClass .int, .fieldLink RX2 21 "Shortring$Likeness" "image" "[I", .fieldLink RX2 25 "Shortring$Likeness" "placed" "I", .instanceMethod yX3_init, .code yX3_init cX3_init 1 none, .methodLink RX3 3 objectInit, .fieldLink RX3 9 "Shortring$Net" "near" "[I", .fieldLink RX3 15 "Shortring$Net" "knots" "I"] ++ wsX30 ++ wsX20)
def wsX3_take : List Cond := .code yX3_take cX3_take 3 none :: ([.fieldLink RX3 15 "Shortring$Net" "knots" "I", .fieldLink RX3 9 "Shortring$Net" "near" "[I", .methodLink RX3 19 yX3_nearOf, .instanceMethod yX3_nearOf, .selects RX3 yX3_nearOf yX3_nearOf, .initialized RX3, .code yX3_nearOf cX3_nearOf 2 (some .int)] ++ wsX30)
def wsX5_partWith : List Cond := .code yX5_partWith cX5_partWith 2 (some .int) :: ([.methodLink RX5 29 yX5_within, .static yX5_within, .initialized RX5, .code yX5_within cX5_within 6 (some .int), .static yX6_bit, .initialized RX6, .code yX6_bit cX6_bit 1 (some .int), .methodLink RX5 23 yX5_around, .static yX5_around, .code yX5_around cX5_around 6 (some .int), .methodLink RX5 9 yJ6_bitCount_0f7a4, .static yJ6_bitCount_0f7a4, .initialized RJ6, .code yJ6_bitCount_0f7a4 cJ6_bitCount_0f7a4 1 (some .int), .constant RJ6 265 (1431655765), .constant RJ6 266 (858993459), .constant RJ6 267 (252645135), .instanceMethod yX3_nearOf, .initialized RX3, .selects RX3 yX3_nearOf yX3_nearOf, .code yX3_nearOf cX3_nearOf 2 (some .int), .fieldLink RX3 9 "Shortring$Net" "near" "[I"] ++ wsX30)
def wsX2_nextToPlace : List Cond := .code yX2_nextToPlace cX2_nextToPlace 6 (some .int) :: ([.fieldLink RX2 12 "Shortring$Likeness" "from" "LShortring$Net;", .fieldLink RX2 25 "Shortring$Likeness" "placed" "I", .instanceMethod yX3_nearOf, .initialized RX3, .selects RX3 yX3_nearOf yX3_nearOf, .code yX3_nearOf cX3_nearOf 2 (some .int), .fieldLink RX3 9 "Shortring$Net" "near" "[I", .methodLink RX2 70 yJ6_bitCount_0f7a4, .static yJ6_bitCount_0f7a4, .initialized RJ6, .code yJ6_bitCount_0f7a4 cJ6_bitCount_0f7a4 1 (some .int), .constant RJ6 265 (1431655765), .constant RJ6 266 (858993459), .constant RJ6 267 (252645135), .static yX6_holds, .initialized RX6, .code yX6_holds cX6_holds 2 (some .boolean)] ++ wsX20 ++ wsX30)
def wsX2_fitting : List Cond := .code yX2_fitting cX2_fitting 8 (some .int) :: ([.fieldLink RX2 12 "Shortring$Likeness" "from" "LShortring$Net;", .fieldLink RX2 18 "Shortring$Likeness" "to" "LShortring$Net;", .fieldLink RX2 21 "Shortring$Likeness" "image" "[I", .fieldLink RX2 25 "Shortring$Likeness" "placed" "I", .instanceMethod yX3_nearOf, .initialized RX3, .selects RX3 yX3_nearOf yX3_nearOf, .code yX3_nearOf cX3_nearOf 2 (some .int), .fieldLink RX3 9 "Shortring$Net" "near" "[I", .methodLink RX2 70 yJ6_bitCount_0f7a4, .static yJ6_bitCount_0f7a4, .initialized RJ6, .code yJ6_bitCount_0f7a4 cJ6_bitCount_0f7a4 1 (some .int), .constant RJ6 265 (1431655765), .constant RJ6 266 (858993459), .constant RJ6 267 (252645135), .static yX6_holds, .initialized RX6, .code yX6_holds cX6_holds 2 (some .boolean), .static yX6_bit, .code yX6_bit cX6_bit 1 (some .int)] ++ wsX20 ++ wsX30)
def wsX2_place : List Cond := .code yX2_place cX2_place 3 none :: ([.fieldLink RX2 21 "Shortring$Likeness" "image" "[I", .fieldLink RX2 25 "Shortring$Likeness" "placed" "I", .static yX6_bit, .initialized RX6, .code yX6_bit cX6_bit 1 (some .int)] ++ wsX20)
def wsX2_ways_r1 : List Cond := [Cond.fieldLink RX2 18 "Shortring$Likeness" "to" "LShortring$Net;", Cond.fieldLink RX2 25 "Shortring$Likeness" "placed" "I", Cond.methodLink RX2 79 yX2_nextToPlace, Cond.instanceMethod yX2_nextToPlace, Cond.selects RX2 yX2_nextToPlace yX2_nextToPlace, Cond.initialized RX2, Cond.code yX2_nextToPlace cX2_nextToPlace 6 (some .int), Cond.fieldLink RX2 12 "Shortring$Likeness" "from" "LShortring$Net;", Cond.instanceMethod yX3_nearOf, Cond.initialized RX3, Cond.selects RX3 yX3_nearOf yX3_nearOf, Cond.code yX3_nearOf cX3_nearOf 2 (some .int), Cond.fieldLink RX3 9 "Shortring$Net" "near" "[I", Cond.methodLink RX2 70 yJ6_bitCount_0f7a4, Cond.static yJ6_bitCount_0f7a4, Cond.initialized RJ6, Cond.code yJ6_bitCount_0f7a4 cJ6_bitCount_0f7a4 1 (some .int), Cond.constant RJ6 265 (1431655765), Cond.constant RJ6 266 (858993459), Cond.constant RJ6 267 (252645135), Cond.static yX6_holds, Cond.initialized RX6, Cond.code yX6_holds cX6_holds 2 (some .boolean), Cond.methodLink RX2 82 yX2_fitting]
def wsX2_ways_r2 : List Cond := [Cond.instanceMethod yX2_fitting, Cond.selects RX2 yX2_fitting yX2_fitting, Cond.code yX2_fitting cX2_fitting 8 (some .int), Cond.fieldLink RX2 21 "Shortring$Likeness" "image" "[I", Cond.static yX6_bit, Cond.code yX6_bit cX6_bit 1 (some .int), Cond.methodLink RX2 85 yX2_place, Cond.instanceMethod yX2_place, Cond.selects RX2 yX2_place yX2_place, Cond.code yX2_place cX2_place 3 none, Cond.methodLink RX2 75 yX2_ways, Cond.static yX2_ways]
def wsX2_ways : List Cond := .code yX2_ways cX2_ways 9 (some .int) :: ((wsX2_ways_r1 ++ wsX2_ways_r2) ++ wsX20 ++ wsX30)
def wsX2_waysOf_r1 : List Cond := [Cond.fieldLink RX2 25 "Shortring$Likeness" "placed" "I", Cond.methodLink RX2 70 yJ6_bitCount_0f7a4, Cond.static yJ6_bitCount_0f7a4, Cond.initialized RJ6, Cond.code yJ6_bitCount_0f7a4 cJ6_bitCount_0f7a4 1 (some .int), Cond.constant RJ6 265 (1431655765), Cond.constant RJ6 266 (858993459), Cond.constant RJ6 267 (252645135), Cond.methodLink RX2 75 yX2_ways, Cond.static yX2_ways, Cond.initialized RX2, Cond.code yX2_ways cX2_ways 9 (some .int), Cond.fieldLink RX2 18 "Shortring$Likeness" "to" "LShortring$Net;", Cond.methodLink RX2 79 yX2_nextToPlace, Cond.instanceMethod yX2_nextToPlace, Cond.selects RX2 yX2_nextToPlace yX2_nextToPlace, Cond.code yX2_nextToPlace cX2_nextToPlace 6 (some .int), Cond.fieldLink RX2 12 "Shortring$Likeness" "from" "LShortring$Net;", Cond.instanceMethod yX3_nearOf, Cond.initialized RX3, Cond.selects RX3 yX3_nearOf yX3_nearOf, Cond.code yX3_nearOf cX3_nearOf 2 (some .int), Cond.fieldLink RX3 9 "Shortring$Net" "near" "[I", Cond.static yX6_holds]
def wsX2_waysOf_r2 : List Cond := [Cond.initialized RX6, Cond.code yX6_holds cX6_holds 2 (some .boolean), Cond.methodLink RX2 82 yX2_fitting, Cond.instanceMethod yX2_fitting, Cond.selects RX2 yX2_fitting yX2_fitting, Cond.code yX2_fitting cX2_fitting 8 (some .int), Cond.fieldLink RX2 21 "Shortring$Likeness" "image" "[I", Cond.static yX6_bit, Cond.code yX6_bit cX6_bit 1 (some .int), Cond.methodLink RX2 85 yX2_place, Cond.instanceMethod yX2_place, Cond.selects RX2 yX2_place yX2_place, Cond.code yX2_place cX2_place 3 none]
def wsX2_waysOf : List Cond := .code yX2_waysOf cX2_waysOf 4 (some .int) :: ((wsX2_waysOf_r1 ++ wsX2_waysOf_r2) ++ wsX20 ++ wsX30)
def wsX2_partsLike_r1 : List Cond := [Cond.fieldLink RX2 18 "Shortring$Likeness" "to" "LShortring$Net;", Cond.static yX6_holds, Cond.initialized RX6, Cond.code yX6_holds cX6_holds 2 (some .boolean), Cond.static yX5_partWith, Cond.initialized RX5, Cond.code yX5_partWith cX5_partWith 2 (some .int), Cond.methodLink RX5 29 yX5_within, Cond.static yX5_within, Cond.code yX5_within cX5_within 6 (some .int), Cond.static yX6_bit, Cond.code yX6_bit cX6_bit 1 (some .int), Cond.methodLink RX5 23 yX5_around, Cond.static yX5_around, Cond.code yX5_around cX5_around 6 (some .int), Cond.methodLink RX5 9 yJ6_bitCount_0f7a4, Cond.static yJ6_bitCount_0f7a4, Cond.initialized RJ6, Cond.code yJ6_bitCount_0f7a4 cJ6_bitCount_0f7a4 1 (some .int), Cond.constant RJ6 265 (1431655765), Cond.constant RJ6 266 (858993459), Cond.constant RJ6 267 (252645135), Cond.instanceMethod yX3_nearOf, Cond.initialized RX3]
def wsX2_partsLike_r2 : List Cond := [Cond.selects RX3 yX3_nearOf yX3_nearOf, Cond.code yX3_nearOf cX3_nearOf 2 (some .int), Cond.fieldLink RX3 9 "Shortring$Net" "near" "[I", Cond.methodLink RX2 55 yX2_waysOf, Cond.instanceMethod yX2_waysOf, Cond.selects RX2 yX2_waysOf yX2_waysOf, Cond.initialized RX2, Cond.code yX2_waysOf cX2_waysOf 4 (some .int), Cond.fieldLink RX2 25 "Shortring$Likeness" "placed" "I", Cond.methodLink RX2 70 yJ6_bitCount_0f7a4, Cond.methodLink RX2 75 yX2_ways, Cond.static yX2_ways, Cond.code yX2_ways cX2_ways 9 (some .int), Cond.methodLink RX2 79 yX2_nextToPlace, Cond.instanceMethod yX2_nextToPlace, Cond.selects RX2 yX2_nextToPlace yX2_nextToPlace, Cond.code yX2_nextToPlace cX2_nextToPlace 6 (some .int), Cond.fieldLink RX2 12 "Shortring$Likeness" "from" "LShortring$Net;", Cond.methodLink RX2 82 yX2_fitting, Cond.instanceMethod yX2_fitting, Cond.selects RX2 yX2_fitting yX2_fitting, Cond.code yX2_fitting cX2_fitting 8 (some .int), Cond.fieldLink RX2 21 "Shortring$Likeness" "image" "[I", Cond.methodLink RX2 85 yX2_place]
def wsX2_partsLike_r3 : List Cond := [Cond.instanceMethod yX2_place, Cond.selects RX2 yX2_place yX2_place, Cond.code yX2_place cX2_place 3 none]
def wsX2_partsLike : List Cond := .code yX2_partsLike cX2_partsLike 7 (some .int) :: ((wsX2_partsLike_r1 ++ (wsX2_partsLike_r2 ++ wsX2_partsLike_r3)) ++ wsX20 ++ wsX30)
def wsX2_turnsOf_r1 : List Cond := [Cond.fieldLink RX2 12 "Shortring$Likeness" "from" "LShortring$Net;", Cond.fieldLink RX2 18 "Shortring$Likeness" "to" "LShortring$Net;", Cond.methodLink RX2 50 Lib.Math.min.name, Cond.static Lib.Math.min.name, Cond.initialized "java/lang/Math", Cond.code Lib.Math.min.name Lib.Math.min.code 2 (some .int), Cond.instanceMethod yX3_take, Cond.initialized RX3, Cond.selects RX3 yX3_take yX3_take, Cond.code yX3_take cX3_take 3 none, Cond.fieldLink RX3 15 "Shortring$Net" "knots" "I", Cond.fieldLink RX3 9 "Shortring$Net" "near" "[I", Cond.methodLink RX3 19 yX3_nearOf, Cond.instanceMethod yX3_nearOf, Cond.selects RX3 yX3_nearOf yX3_nearOf, Cond.code yX3_nearOf cX3_nearOf 2 (some .int), Cond.static yX6_holds, Cond.initialized RX6, Cond.code yX6_holds cX6_holds 2 (some .boolean), Cond.static yX5_partWith, Cond.initialized RX5, Cond.code yX5_partWith cX5_partWith 2 (some .int), Cond.methodLink RX5 29 yX5_within, Cond.static yX5_within]
def wsX2_turnsOf_r2 : List Cond := [Cond.code yX5_within cX5_within 6 (some .int), Cond.static yX6_bit, Cond.code yX6_bit cX6_bit 1 (some .int), Cond.methodLink RX5 23 yX5_around, Cond.static yX5_around, Cond.code yX5_around cX5_around 6 (some .int), Cond.methodLink RX5 9 yJ6_bitCount_0f7a4, Cond.static yJ6_bitCount_0f7a4, Cond.initialized RJ6, Cond.code yJ6_bitCount_0f7a4 cJ6_bitCount_0f7a4 1 (some .int), Cond.constant RJ6 265 (1431655765), Cond.constant RJ6 266 (858993459), Cond.constant RJ6 267 (252645135), Cond.methodLink RX2 46 yX2_partsLike, Cond.instanceMethod yX2_partsLike, Cond.selects RX2 yX2_partsLike yX2_partsLike, Cond.initialized RX2, Cond.code yX2_partsLike cX2_partsLike 7 (some .int), Cond.methodLink RX2 55 yX2_waysOf, Cond.instanceMethod yX2_waysOf, Cond.selects RX2 yX2_waysOf yX2_waysOf, Cond.code yX2_waysOf cX2_waysOf 4 (some .int), Cond.fieldLink RX2 25 "Shortring$Likeness" "placed" "I", Cond.methodLink RX2 70 yJ6_bitCount_0f7a4]
def wsX2_turnsOf_r3 : List Cond := [Cond.methodLink RX2 75 yX2_ways, Cond.static yX2_ways, Cond.code yX2_ways cX2_ways 9 (some .int), Cond.methodLink RX2 79 yX2_nextToPlace, Cond.instanceMethod yX2_nextToPlace, Cond.selects RX2 yX2_nextToPlace yX2_nextToPlace, Cond.code yX2_nextToPlace cX2_nextToPlace 6 (some .int), Cond.methodLink RX2 82 yX2_fitting, Cond.instanceMethod yX2_fitting, Cond.selects RX2 yX2_fitting yX2_fitting, Cond.code yX2_fitting cX2_fitting 8 (some .int), Cond.fieldLink RX2 21 "Shortring$Likeness" "image" "[I", Cond.methodLink RX2 85 yX2_place, Cond.instanceMethod yX2_place, Cond.selects RX2 yX2_place yX2_place, Cond.code yX2_place cX2_place 3 none]
def wsX2_turnsOf : List Cond := .code yX2_turnsOf cX2_turnsOf 7 (some .int) :: ((wsX2_turnsOf_r1 ++ (wsX2_turnsOf_r2 ++ wsX2_turnsOf_r3)) ++ wsX30 ++ wsX20)
def wsX3_edgesInAll : List Cond := .code yX3_edgesInAll cX3_edgesInAll 3 (some .int) :: ([.fieldLink RX3 15 "Shortring$Net" "knots" "I", .methodLink RX3 39 yX3_countOf, .instanceMethod yX3_countOf, .selects RX3 yX3_countOf yX3_countOf, .initialized RX3, .code yX3_countOf cX3_countOf 2 (some .int), .methodLink RX3 19 yX3_nearOf, .instanceMethod yX3_nearOf, .selects RX3 yX3_nearOf yX3_nearOf, .code yX3_nearOf cX3_nearOf 2 (some .int), .fieldLink RX3 9 "Shortring$Net" "near" "[I", .methodLink RX3 27 yJ6_bitCount_0f7a4, .static yJ6_bitCount_0f7a4, .initialized RJ6, .code yJ6_bitCount_0f7a4 cJ6_bitCount_0f7a4 1 (some .int), .constant RJ6 265 (1431655765), .constant RJ6 266 (858993459), .constant RJ6 267 (252645135)] ++ wsX30)
def wsX2_partMatching_r1 : List Cond := [Cond.fieldLink RX2 18 "Shortring$Likeness" "to" "LShortring$Net;", Cond.static yX6_holds, Cond.initialized RX6, Cond.code yX6_holds cX6_holds 2 (some .boolean), Cond.static yX5_partWith, Cond.initialized RX5, Cond.code yX5_partWith cX5_partWith 2 (some .int), Cond.methodLink RX5 29 yX5_within, Cond.static yX5_within, Cond.code yX5_within cX5_within 6 (some .int), Cond.static yX6_bit, Cond.code yX6_bit cX6_bit 1 (some .int), Cond.methodLink RX5 23 yX5_around, Cond.static yX5_around, Cond.code yX5_around cX5_around 6 (some .int), Cond.methodLink RX5 9 yJ6_bitCount_0f7a4, Cond.static yJ6_bitCount_0f7a4, Cond.initialized RJ6, Cond.code yJ6_bitCount_0f7a4 cJ6_bitCount_0f7a4 1 (some .int), Cond.constant RJ6 265 (1431655765), Cond.constant RJ6 266 (858993459), Cond.constant RJ6 267 (252645135), Cond.instanceMethod yX3_nearOf, Cond.initialized RX3]
def wsX2_partMatching_r2 : List Cond := [Cond.selects RX3 yX3_nearOf yX3_nearOf, Cond.code yX3_nearOf cX3_nearOf 2 (some .int), Cond.fieldLink RX3 9 "Shortring$Net" "near" "[I", Cond.methodLink RX2 55 yX2_waysOf, Cond.instanceMethod yX2_waysOf, Cond.selects RX2 yX2_waysOf yX2_waysOf, Cond.initialized RX2, Cond.code yX2_waysOf cX2_waysOf 4 (some .int), Cond.fieldLink RX2 25 "Shortring$Likeness" "placed" "I", Cond.methodLink RX2 70 yJ6_bitCount_0f7a4, Cond.methodLink RX2 75 yX2_ways, Cond.static yX2_ways, Cond.code yX2_ways cX2_ways 9 (some .int), Cond.methodLink RX2 79 yX2_nextToPlace, Cond.instanceMethod yX2_nextToPlace, Cond.selects RX2 yX2_nextToPlace yX2_nextToPlace, Cond.code yX2_nextToPlace cX2_nextToPlace 6 (some .int), Cond.fieldLink RX2 12 "Shortring$Likeness" "from" "LShortring$Net;", Cond.methodLink RX2 82 yX2_fitting, Cond.instanceMethod yX2_fitting, Cond.selects RX2 yX2_fitting yX2_fitting, Cond.code yX2_fitting cX2_fitting 8 (some .int), Cond.fieldLink RX2 21 "Shortring$Likeness" "image" "[I", Cond.methodLink RX2 85 yX2_place]
def wsX2_partMatching_r3 : List Cond := [Cond.instanceMethod yX2_place, Cond.selects RX2 yX2_place yX2_place, Cond.code yX2_place cX2_place 3 none]
def wsX2_partMatching : List Cond := .code yX2_partMatching cX2_partMatching 6 (some .int) :: ((wsX2_partMatching_r1 ++ (wsX2_partMatching_r2 ++ wsX2_partMatching_r3)) ++ wsX20 ++ wsX30)
def wsX2_areAlike_r1 : List Cond := [Cond.fieldLink RX2 12 "Shortring$Likeness" "from" "LShortring$Net;", Cond.fieldLink RX2 18 "Shortring$Likeness" "to" "LShortring$Net;", Cond.instanceMethod yX3_edgesInAll, Cond.initialized RX3, Cond.selects RX3 yX3_edgesInAll yX3_edgesInAll, Cond.code yX3_edgesInAll cX3_edgesInAll 3 (some .int), Cond.fieldLink RX3 15 "Shortring$Net" "knots" "I", Cond.methodLink RX3 39 yX3_countOf, Cond.instanceMethod yX3_countOf, Cond.selects RX3 yX3_countOf yX3_countOf, Cond.code yX3_countOf cX3_countOf 2 (some .int), Cond.methodLink RX3 19 yX3_nearOf, Cond.instanceMethod yX3_nearOf, Cond.selects RX3 yX3_nearOf yX3_nearOf, Cond.code yX3_nearOf cX3_nearOf 2 (some .int), Cond.fieldLink RX3 9 "Shortring$Net" "near" "[I", Cond.methodLink RX3 27 yJ6_bitCount_0f7a4, Cond.static yJ6_bitCount_0f7a4, Cond.initialized RJ6, Cond.code yJ6_bitCount_0f7a4 cJ6_bitCount_0f7a4 1 (some .int), Cond.constant RJ6 265 (1431655765), Cond.constant RJ6 266 (858993459), Cond.constant RJ6 267 (252645135), Cond.instanceMethod yX3_take]
def wsX2_areAlike_r2 : List Cond := [Cond.selects RX3 yX3_take yX3_take, Cond.code yX3_take cX3_take 3 none, Cond.static yX6_bit, Cond.initialized RX6, Cond.code yX6_bit cX6_bit 1 (some .int), Cond.static yX6_holds, Cond.code yX6_holds cX6_holds 2 (some .boolean), Cond.static yX5_partWith, Cond.initialized RX5, Cond.code yX5_partWith cX5_partWith 2 (some .int), Cond.methodLink RX5 29 yX5_within, Cond.static yX5_within, Cond.code yX5_within cX5_within 6 (some .int), Cond.methodLink RX5 23 yX5_around, Cond.static yX5_around, Cond.code yX5_around cX5_around 6 (some .int), Cond.methodLink RX5 9 yJ6_bitCount_0f7a4, Cond.methodLink RX2 67 yX2_partMatching, Cond.instanceMethod yX2_partMatching, Cond.selects RX2 yX2_partMatching yX2_partMatching, Cond.initialized RX2, Cond.code yX2_partMatching cX2_partMatching 6 (some .int), Cond.methodLink RX2 55 yX2_waysOf, Cond.instanceMethod yX2_waysOf]
def wsX2_areAlike_r3 : List Cond := [Cond.selects RX2 yX2_waysOf yX2_waysOf, Cond.code yX2_waysOf cX2_waysOf 4 (some .int), Cond.fieldLink RX2 25 "Shortring$Likeness" "placed" "I", Cond.methodLink RX2 70 yJ6_bitCount_0f7a4, Cond.methodLink RX2 75 yX2_ways, Cond.static yX2_ways, Cond.code yX2_ways cX2_ways 9 (some .int), Cond.methodLink RX2 79 yX2_nextToPlace, Cond.instanceMethod yX2_nextToPlace, Cond.selects RX2 yX2_nextToPlace yX2_nextToPlace, Cond.code yX2_nextToPlace cX2_nextToPlace 6 (some .int), Cond.methodLink RX2 82 yX2_fitting, Cond.instanceMethod yX2_fitting, Cond.selects RX2 yX2_fitting yX2_fitting, Cond.code yX2_fitting cX2_fitting 8 (some .int), Cond.fieldLink RX2 21 "Shortring$Likeness" "image" "[I", Cond.methodLink RX2 85 yX2_place, Cond.instanceMethod yX2_place, Cond.selects RX2 yX2_place yX2_place, Cond.code yX2_place cX2_place 3 none]
def wsX2_areAlike : List Cond := .code yX2_areAlike cX2_areAlike 8 (some .boolean) :: ((wsX2_areAlike_r1 ++ (wsX2_areAlike_r2 ++ wsX2_areAlike_r3)) ++ wsX30 ++ wsX20)
def wsX3_lay : List Cond := .code yX3_lay cX3_lay 3 none :: ([.fieldLink RX3 15 "Shortring$Net" "knots" "I", .fieldLink RX3 9 "Shortring$Net" "near" "[I"] ++ wsX30)
def wsX3_numberedIn : List Cond := .code yX3_numberedIn cX3_numberedIn 4 (some .int) :: ([.static yX6_firstOf, .initialized RX6, .code yX6_firstOf cX6_firstOf 1 (some .int), .methodLink RX6 270 yJ6_bitCount_0f7a4, .static yJ6_bitCount_0f7a4, .initialized RJ6, .code yJ6_bitCount_0f7a4 cJ6_bitCount_0f7a4 1 (some .int), .constant RJ6 265 (1431655765), .constant RJ6 266 (858993459), .constant RJ6 267 (252645135)])
def wsX3_edgeAt_r1 : List Cond := [Cond.fieldLink RX3 15 "Shortring$Net" "knots" "I", Cond.methodLink RX3 19 yX3_nearOf, Cond.instanceMethod yX3_nearOf, Cond.selects RX3 yX3_nearOf yX3_nearOf, Cond.initialized RX3, Cond.code yX3_nearOf cX3_nearOf 2 (some .int), Cond.fieldLink RX3 9 "Shortring$Net" "near" "[I", Cond.static yX6_bit, Cond.initialized RX6, Cond.code yX6_bit cX6_bit 1 (some .int), Cond.methodLink RX3 27 yJ6_bitCount_0f7a4, Cond.static yJ6_bitCount_0f7a4, Cond.initialized RJ6, Cond.code yJ6_bitCount_0f7a4 cJ6_bitCount_0f7a4 1 (some .int), Cond.constant RJ6 265 (1431655765), Cond.constant RJ6 266 (858993459), Cond.constant RJ6 267 (252645135), Cond.methodLink RX3 42 yX3_numberedIn, Cond.static yX3_numberedIn, Cond.code yX3_numberedIn cX3_numberedIn 4 (some .int), Cond.static yX6_firstOf, Cond.code yX6_firstOf cX6_firstOf 1 (some .int), Cond.methodLink RX6 270 yJ6_bitCount_0f7a4, Cond.static yX6_pairOf]
def wsX3_edgeAt_r2 : List Cond := [Cond.code yX6_pairOf cX6_pairOf 2 (some .int)]
def wsX3_edgeAt : List Cond := .code yX3_edgeAt cX3_edgeAt 6 (some .int) :: ((wsX3_edgeAt_r1 ++ wsX3_edgeAt_r2) ++ wsX30)
def wsX3_loneliest : List Cond := .code yX3_loneliest cX3_loneliest 5 (some .int) :: ([.fieldLink RX3 15 "Shortring$Net" "knots" "I", .methodLink RX3 39 yX3_countOf, .instanceMethod yX3_countOf, .selects RX3 yX3_countOf yX3_countOf, .initialized RX3, .code yX3_countOf cX3_countOf 2 (some .int), .methodLink RX3 19 yX3_nearOf, .instanceMethod yX3_nearOf, .selects RX3 yX3_nearOf yX3_nearOf, .code yX3_nearOf cX3_nearOf 2 (some .int), .fieldLink RX3 9 "Shortring$Net" "near" "[I", .methodLink RX3 27 yJ6_bitCount_0f7a4, .static yJ6_bitCount_0f7a4, .initialized RJ6, .code yJ6_bitCount_0f7a4 cJ6_bitCount_0f7a4 1 (some .int), .constant RJ6 265 (1431655765), .constant RJ6 266 (858993459), .constant RJ6 267 (252645135), .static yX6_bit, .initialized RX6, .code yX6_bit cX6_bit 1 (some .int)] ++ wsX30)
def wsX3_isMutual : List Cond := .code yX3_isMutual cX3_isMutual 4 (some .boolean) :: ([.fieldLink RX3 15 "Shortring$Net" "knots" "I", .methodLink RX3 52 yX3_isNear, .instanceMethod yX3_isNear, .selects RX3 yX3_isNear yX3_isNear, .initialized RX3, .code yX3_isNear cX3_isNear 3 (some .boolean), .methodLink RX3 19 yX3_nearOf, .instanceMethod yX3_nearOf, .selects RX3 yX3_nearOf yX3_nearOf, .code yX3_nearOf cX3_nearOf 2 (some .int), .fieldLink RX3 9 "Shortring$Net" "near" "[I", .static yX6_holds, .initialized RX6, .code yX6_holds cX6_holds 2 (some .boolean)] ++ wsX30)
def wsX4_init : List Cond := .code yX4_init cX4_init 1 none :: ([.methodLink RX4 3 objectInit, .instanceMethod objectInit, .code objectInit ⟨#[0xb1]⟩ 1 none, .arrayClass .int, .fieldLink RX4 9 "Shortring$Paint" "hues" "[I"] ++ wsX40)
def wsX4_hardest : List Cond := .code yX4_hardest cX4_hardest 8 (some .int) :: ([.static yX6_holds, .initialized RX6, .code yX6_holds cX6_holds 2 (some .boolean), .instanceMethod yX3_nearOf, .initialized RX3, .selects RX3 yX3_nearOf yX3_nearOf, .code yX3_nearOf cX3_nearOf 2 (some .int), .fieldLink RX3 9 "Shortring$Net" "near" "[I"] ++ wsX30)
def wsX4_canPaint : List Cond := .code yX4_canPaint cX4_canPaint 8 (some .boolean) :: ([.methodLink RX4 45 yX4_hardest, .static yX4_hardest, .initialized RX4, .code yX4_hardest cX4_hardest 8 (some .int), .static yX6_holds, .initialized RX6, .code yX6_holds cX6_holds 2 (some .boolean), .instanceMethod yX3_nearOf, .initialized RX3, .selects RX3 yX3_nearOf yX3_nearOf, .code yX3_nearOf cX3_nearOf 2 (some .int), .fieldLink RX3 9 "Shortring$Net" "near" "[I", .static yX6_bit, .code yX6_bit cX6_bit 1 (some .int), .methodLink RX4 41 yX4_canPaint, .static yX4_canPaint] ++ wsX30)
def wsX4_fewestOf : List Cond := .code yX4_fewestOf cX4_fewestOf 6 (some .int) :: ([.fieldLink RX4 9 "Shortring$Paint" "hues" "[I", .methodLink RX4 41 yX4_canPaint, .static yX4_canPaint, .initialized RX4, .code yX4_canPaint cX4_canPaint 8 (some .boolean), .methodLink RX4 45 yX4_hardest, .static yX4_hardest, .code yX4_hardest cX4_hardest 8 (some .int), .static yX6_holds, .initialized RX6, .code yX6_holds cX6_holds 2 (some .boolean), .instanceMethod yX3_nearOf, .initialized RX3, .selects RX3 yX3_nearOf yX3_nearOf, .code yX3_nearOf cX3_nearOf 2 (some .int), .fieldLink RX3 9 "Shortring$Net" "near" "[I", .static yX6_bit, .code yX6_bit cX6_bit 1 (some .int)] ++ wsX40 ++ wsX30)
def wsX4_fewest_r1 : List Cond := [Cond.methodLink RX4 31 Lib.Math.max.name, Cond.static Lib.Math.max.name, Cond.initialized "java/lang/Math", Cond.code Lib.Math.max.name Lib.Math.max.code 2 (some .int), Cond.static yX6_holds, Cond.initialized RX6, Cond.code yX6_holds cX6_holds 2 (some .boolean), Cond.static yX5_partWith, Cond.initialized RX5, Cond.code yX5_partWith cX5_partWith 2 (some .int), Cond.methodLink RX5 29 yX5_within, Cond.static yX5_within, Cond.code yX5_within cX5_within 6 (some .int), Cond.static yX6_bit, Cond.code yX6_bit cX6_bit 1 (some .int), Cond.methodLink RX5 23 yX5_around, Cond.static yX5_around, Cond.code yX5_around cX5_around 6 (some .int), Cond.methodLink RX5 9 yJ6_bitCount_0f7a4, Cond.static yJ6_bitCount_0f7a4, Cond.initialized RJ6, Cond.code yJ6_bitCount_0f7a4 cJ6_bitCount_0f7a4 1 (some .int), Cond.constant RJ6 265 (1431655765), Cond.constant RJ6 266 (858993459)]
def wsX4_fewest_r2 : List Cond := [Cond.constant RJ6 267 (252645135), Cond.instanceMethod yX3_nearOf, Cond.initialized RX3, Cond.selects RX3 yX3_nearOf yX3_nearOf, Cond.code yX3_nearOf cX3_nearOf 2 (some .int), Cond.fieldLink RX3 9 "Shortring$Net" "near" "[I", Cond.methodLink RX4 37 yX4_fewestOf, Cond.instanceMethod yX4_fewestOf, Cond.selects RX4 yX4_fewestOf yX4_fewestOf, Cond.initialized RX4, Cond.code yX4_fewestOf cX4_fewestOf 6 (some .int), Cond.fieldLink RX4 9 "Shortring$Paint" "hues" "[I", Cond.methodLink RX4 41 yX4_canPaint, Cond.static yX4_canPaint, Cond.code yX4_canPaint cX4_canPaint 8 (some .boolean), Cond.methodLink RX4 45 yX4_hardest, Cond.static yX4_hardest, Cond.code yX4_hardest cX4_hardest 8 (some .int)]
def wsX4_fewest : List Cond := .code yX4_fewest cX4_fewest 6 (some .int) :: ((wsX4_fewest_r1 ++ wsX4_fewest_r2) ++ wsX30 ++ wsX40)
def wsX5_partsInAll_r1 : List Cond := [Cond.static yX6_holds, Cond.initialized RX6, Cond.code yX6_holds cX6_holds 2 (some .boolean), Cond.methodLink RX5 41 yX5_partWith, Cond.static yX5_partWith, Cond.initialized RX5, Cond.code yX5_partWith cX5_partWith 2 (some .int), Cond.methodLink RX5 29 yX5_within, Cond.static yX5_within, Cond.code yX5_within cX5_within 6 (some .int), Cond.static yX6_bit, Cond.code yX6_bit cX6_bit 1 (some .int), Cond.methodLink RX5 23 yX5_around, Cond.static yX5_around, Cond.code yX5_around cX5_around 6 (some .int), Cond.methodLink RX5 9 yJ6_bitCount_0f7a4, Cond.static yJ6_bitCount_0f7a4, Cond.initialized RJ6, Cond.code yJ6_bitCount_0f7a4 cJ6_bitCount_0f7a4 1 (some .int), Cond.constant RJ6 265 (1431655765), Cond.constant RJ6 266 (858993459), Cond.constant RJ6 267 (252645135), Cond.instanceMethod yX3_nearOf, Cond.initialized RX3]
def wsX5_partsInAll_r2 : List Cond := [Cond.selects RX3 yX3_nearOf yX3_nearOf, Cond.code yX3_nearOf cX3_nearOf 2 (some .int), Cond.fieldLink RX3 9 "Shortring$Net" "near" "[I"]
def wsX5_partsInAll : List Cond := .code yX5_partsInAll cX5_partsInAll 4 (some .int) :: ((wsX5_partsInAll_r1 ++ wsX5_partsInAll_r2) ++ wsX30)
def wsX5_partNumber_r1 : List Cond := [Cond.static yX6_holds, Cond.initialized RX6, Cond.code yX6_holds cX6_holds 2 (some .boolean), Cond.methodLink RX5 41 yX5_partWith, Cond.static yX5_partWith, Cond.initialized RX5, Cond.code yX5_partWith cX5_partWith 2 (some .int), Cond.methodLink RX5 29 yX5_within, Cond.static yX5_within, Cond.code yX5_within cX5_within 6 (some .int), Cond.static yX6_bit, Cond.code yX6_bit cX6_bit 1 (some .int), Cond.methodLink RX5 23 yX5_around, Cond.static yX5_around, Cond.code yX5_around cX5_around 6 (some .int), Cond.methodLink RX5 9 yJ6_bitCount_0f7a4, Cond.static yJ6_bitCount_0f7a4, Cond.initialized RJ6, Cond.code yJ6_bitCount_0f7a4 cJ6_bitCount_0f7a4 1 (some .int), Cond.constant RJ6 265 (1431655765), Cond.constant RJ6 266 (858993459), Cond.constant RJ6 267 (252645135), Cond.instanceMethod yX3_nearOf, Cond.initialized RX3]
def wsX5_partNumber_r2 : List Cond := [Cond.selects RX3 yX3_nearOf yX3_nearOf, Cond.code yX3_nearOf cX3_nearOf 2 (some .int), Cond.fieldLink RX3 9 "Shortring$Net" "near" "[I"]
def wsX5_partNumber : List Cond := .code yX5_partNumber cX5_partNumber 5 (some .int) :: ((wsX5_partNumber_r1 ++ wsX5_partNumber_r2) ++ wsX30)
def wsX5_greatestDistance : List Cond := .code yX5_greatestDistance cX5_greatestDistance 5 (some .int) :: ([.static yX6_bit, .initialized RX6, .code yX6_bit cX6_bit 1 (some .int), .methodLink RX5 23 yX5_around, .static yX5_around, .initialized RX5, .code yX5_around cX5_around 6 (some .int), .methodLink RX5 9 yJ6_bitCount_0f7a4, .static yJ6_bitCount_0f7a4, .initialized RJ6, .code yJ6_bitCount_0f7a4 cJ6_bitCount_0f7a4 1 (some .int), .constant RJ6 265 (1431655765), .constant RJ6 266 (858993459), .constant RJ6 267 (252645135), .instanceMethod yX3_nearOf, .initialized RX3, .selects RX3 yX3_nearOf yX3_nearOf, .code yX3_nearOf cX3_nearOf 2 (some .int), .fieldLink RX3 9 "Shortring$Net" "near" "[I"] ++ wsX30)
def wsX5_width_r1 : List Cond := [Cond.methodLink RX5 51 Lib.Math.max.name, Cond.static Lib.Math.max.name, Cond.initialized "java/lang/Math", Cond.code Lib.Math.max.name Lib.Math.max.code 2 (some .int), Cond.methodLink RX5 44 yX5_partsInAll, Cond.static yX5_partsInAll, Cond.initialized RX5, Cond.code yX5_partsInAll cX5_partsInAll 4 (some .int), Cond.static yX6_holds, Cond.initialized RX6, Cond.code yX6_holds cX6_holds 2 (some .boolean), Cond.methodLink RX5 41 yX5_partWith, Cond.static yX5_partWith, Cond.code yX5_partWith cX5_partWith 2 (some .int), Cond.methodLink RX5 29 yX5_within, Cond.static yX5_within, Cond.code yX5_within cX5_within 6 (some .int), Cond.static yX6_bit, Cond.code yX6_bit cX6_bit 1 (some .int), Cond.methodLink RX5 23 yX5_around, Cond.static yX5_around, Cond.code yX5_around cX5_around 6 (some .int), Cond.methodLink RX5 9 yJ6_bitCount_0f7a4, Cond.static yJ6_bitCount_0f7a4]
def wsX5_width_r2 : List Cond := [Cond.initialized RJ6, Cond.code yJ6_bitCount_0f7a4 cJ6_bitCount_0f7a4 1 (some .int), Cond.constant RJ6 265 (1431655765), Cond.constant RJ6 266 (858993459), Cond.constant RJ6 267 (252645135), Cond.instanceMethod yX3_nearOf, Cond.initialized RX3, Cond.selects RX3 yX3_nearOf yX3_nearOf, Cond.code yX3_nearOf cX3_nearOf 2 (some .int), Cond.fieldLink RX3 9 "Shortring$Net" "near" "[I", Cond.methodLink RX5 48 yX5_greatestDistance, Cond.static yX5_greatestDistance, Cond.code yX5_greatestDistance cX5_greatestDistance 5 (some .int)]
def wsX5_width : List Cond := .code yX5_width cX5_width 3 (some .int) :: ((wsX5_width_r1 ++ wsX5_width_r2) ++ wsX30)
def wsX6_init_r1 : List Cond := [Cond.methodLink RX6 3 objectInit, Cond.instanceMethod objectInit, Cond.code objectInit ⟨#[0xb1]⟩ 1 none, Cond.classLink RX6 9 RX3, Cond.instantiable RX3 2, Cond.initialized RX3, Cond.fieldLink RX6 12 "Shortring" "net" "LShortring$Net;", Cond.fieldLink RX6 16 "Shortring" "scratch" "LShortring$Net;", Cond.fieldLink RX6 19 "Shortring" "kept" "[LShortring$Net;", Cond.classLink RX6 23 RX0, Cond.instantiable RX0 11, Cond.initialized RX0, Cond.fieldLink RX6 26 "Shortring" "hunt" "LShortring$Hunt;", Cond.classLink RX6 30 RX1, Cond.instantiable RX1 2, Cond.initialized RX1, Cond.fieldLink RX6 33 "Shortring" "ledger" "LShortring$Ledger;", Cond.classLink RX6 37 RX2, Cond.instantiable RX2 4, Cond.initialized RX2, Cond.fieldLink RX6 40 "Shortring" "likeness" "LShortring$Likeness;", Cond.classLink RX6 44 RX4, Cond.instantiable RX4 1, Cond.initialized RX4]
def wsX6_init_r2 : List Cond := [Cond.fieldLink RX6 47 "Shortring" "paint" "LShortring$Paint;", Cond.arrayClass .int, Cond.fieldLink RX6 51 "Shortring" "tally" "[I", Cond.fieldLink RX6 55 "Shortring" "keptMany" "I", Cond.fieldLink RX6 59 "Shortring" "refused" "I", Cond.instanceMethod yX3_init, Cond.code yX3_init cX3_init 1 none, Cond.methodLink RX3 3 objectInit, Cond.fieldLink RX3 9 "Shortring$Net" "near" "[I", Cond.fieldLink RX3 15 "Shortring$Net" "knots" "I", Cond.instanceMethod yX0_init, Cond.code yX0_init cX0_init 1 none, Cond.methodLink RX0 3 objectInit, Cond.fieldLink RX0 9 "Shortring$Hunt" "barredWith" "[I", Cond.fieldLink RX0 15 "Shortring$Hunt" "bars" "[I", Cond.fieldLink RX0 18 "Shortring$Hunt" "puts" "[I", Cond.fieldLink RX0 21 "Shortring$Hunt" "barsAtPut" "[I", Cond.fieldLink RX0 24 "Shortring$Hunt" "isOn" "Z", Cond.fieldLink RX0 28 "Shortring$Hunt" "state" "I", Cond.instanceMethod yX1_init, Cond.code yX1_init cX1_init 1 none, Cond.methodLink RX1 3 objectInit, Cond.fieldLink RX1 9 "Shortring$Ledger" "leastProved" "[I", Cond.fieldLink RX1 15 "Shortring$Ledger" "smallest" "[I"]
def wsX6_init_r3 : List Cond := [Cond.instanceMethod yX2_init, Cond.code yX2_init cX2_init 1 none, Cond.methodLink RX2 3 objectInit, Cond.classLink RX2 9 RX3, Cond.fieldLink RX2 12 "Shortring$Likeness" "from" "LShortring$Net;", Cond.fieldLink RX2 18 "Shortring$Likeness" "to" "LShortring$Net;", Cond.fieldLink RX2 21 "Shortring$Likeness" "image" "[I", Cond.fieldLink RX2 25 "Shortring$Likeness" "placed" "I", Cond.instanceMethod yX4_init, Cond.code yX4_init cX4_init 1 none, Cond.methodLink RX4 3 objectInit, Cond.fieldLink RX4 9 "Shortring$Paint" "hues" "[I"]
def wsX6_init : List Cond := .code yX6_init cX6_init 1 none :: ((wsX6_init_r1 ++ (wsX6_init_r2 ++ wsX6_init_r3)) ++ wsX30 ++ wsX60 ++ wsX00 ++ wsX10 ++ wsX20 ++ wsX40)
def wsX6_garden_r1 : List Cond := [Cond.classLink RX6 66 "java/lang/IllegalArgumentException", Cond.initialized "java/lang/IllegalArgumentException", Cond.fieldLink RX6 12 "Shortring" "net" "LShortring$Net;", Cond.fieldLink RX6 26 "Shortring" "hunt" "LShortring$Hunt;", Cond.fieldLink RX6 33 "Shortring" "ledger" "LShortring$Ledger;", Cond.methodLink RX6 62 yX6_isWithin, Cond.static yX6_isWithin, Cond.initialized RX6, Cond.code yX6_isWithin cX6_isWithin 3 (some .boolean), Cond.instanceMethod yX3_lay, Cond.initialized RX3, Cond.selects RX3 yX3_lay yX3_lay, Cond.code yX3_lay cX3_lay 3 none, Cond.fieldLink RX3 15 "Shortring$Net" "knots" "I", Cond.fieldLink RX3 9 "Shortring$Net" "near" "[I", Cond.instanceMethod yX0_end, Cond.initialized RX0, Cond.selects RX0 yX0_end yX0_end, Cond.code yX0_end cX0_end 1 none, Cond.fieldLink RX0 24 "Shortring$Hunt" "isOn" "Z", Cond.instanceMethod yX1_look, Cond.initialized RX1, Cond.selects RX1 yX1_look yX1_look, Cond.code yX1_look cX1_look 4 none]
def wsX6_garden_r2 : List Cond := [Cond.fieldLink RX1 15 "Shortring$Ledger" "smallest" "[I", Cond.instanceMethod yX3_evenCount, Cond.selects RX3 yX3_evenCount yX3_evenCount, Cond.code yX3_evenCount cX3_evenCount 3 (some .int), Cond.methodLink RX3 39 yX3_countOf, Cond.instanceMethod yX3_countOf, Cond.selects RX3 yX3_countOf yX3_countOf, Cond.code yX3_countOf cX3_countOf 2 (some .int), Cond.methodLink RX3 19 yX3_nearOf, Cond.instanceMethod yX3_nearOf, Cond.selects RX3 yX3_nearOf yX3_nearOf, Cond.code yX3_nearOf cX3_nearOf 2 (some .int), Cond.methodLink RX3 27 yJ6_bitCount_0f7a4, Cond.static yJ6_bitCount_0f7a4, Cond.initialized RJ6, Cond.code yJ6_bitCount_0f7a4 cJ6_bitCount_0f7a4 1 (some .int), Cond.constant RJ6 265 (1431655765), Cond.constant RJ6 266 (858993459), Cond.constant RJ6 267 (252645135), Cond.static yX5_leastRing, Cond.initialized RX5, Cond.code yX5_leastRing cX5_leastRing 3 (some .int), Cond.methodLink RX5 66 yX5_leastRingAt, Cond.static yX5_leastRingAt]
def wsX6_garden_r3 : List Cond := [Cond.code yX5_leastRingAt cX5_leastRingAt 4 (some .int), Cond.instanceMethod yX3_isNear, Cond.selects RX3 yX3_isNear yX3_isNear, Cond.code yX3_isNear cX3_isNear 3 (some .boolean), Cond.static yX6_holds, Cond.code yX6_holds cX6_holds 2 (some .boolean), Cond.methodLink RX5 60 yX5_leastRingBy, Cond.static yX5_leastRingBy, Cond.code yX5_leastRingBy cX5_leastRingBy 6 (some .int), Cond.static yX6_bit, Cond.code yX6_bit cX6_bit 1 (some .int), Cond.methodLink RX5 23 yX5_around, Cond.static yX5_around, Cond.code yX5_around cX5_around 6 (some .int), Cond.methodLink RX5 9 yJ6_bitCount_0f7a4, Cond.static yX6_lesser, Cond.code yX6_lesser cX6_lesser 2 (some .int), Cond.methodLink RX6 324 Lib.Math.min.name, Cond.static Lib.Math.min.name, Cond.initialized "java/lang/Math", Cond.code Lib.Math.min.name Lib.Math.min.code 2 (some .int), Cond.methodLink RX1 44 yX1_tablePlace, Cond.instanceMethod yX1_tablePlace, Cond.selects RX1 yX1_tablePlace yX1_tablePlace]
def wsX6_garden_r4 : List Cond := [Cond.code yX1_tablePlace cX1_tablePlace 5 (some .int)]
def wsX6_garden : List Cond := .code yX6_garden cX6_garden 3 (some .int) :: ((wsX6_garden_r1 ++ (wsX6_garden_r2 ++ (wsX6_garden_r3 ++ wsX6_garden_r4))) ++ wsX60 ++ wsX30 ++ wsX00 ++ wsX10 ++ (vx_atS RX6 70 "java/lang/IllegalArgumentException" ["java/lang/RuntimeException", "java/lang/Exception"]).filter goodWord)
def wsX6_edge_r1 : List Cond := [Cond.classLink RX6 91 "java/lang/IndexOutOfBoundsException", Cond.initialized "java/lang/IndexOutOfBoundsException", Cond.classLink RX6 66 "java/lang/IllegalArgumentException", Cond.initialized "java/lang/IllegalArgumentException", Cond.classLink RX6 106 "java/lang/IllegalStateException", Cond.initialized "java/lang/IllegalStateException", Cond.fieldLink RX6 12 "Shortring" "net" "LShortring$Net;", Cond.fieldLink RX6 26 "Shortring" "hunt" "LShortring$Hunt;", Cond.fieldLink RX6 33 "Shortring" "ledger" "LShortring$Ledger;", Cond.instanceMethod yX3_isKnot, Cond.initialized RX3, Cond.selects RX3 yX3_isKnot yX3_isKnot, Cond.code yX3_isKnot cX3_isKnot 2 (some .boolean), Cond.fieldLink RX3 15 "Shortring$Net" "knots" "I", Cond.fieldLink RX3 9 "Shortring$Net" "near" "[I", Cond.instanceMethod yX3_isNear, Cond.selects RX3 yX3_isNear yX3_isNear, Cond.code yX3_isNear cX3_isNear 3 (some .boolean), Cond.methodLink RX3 19 yX3_nearOf, Cond.instanceMethod yX3_nearOf, Cond.selects RX3 yX3_nearOf yX3_nearOf, Cond.code yX3_nearOf cX3_nearOf 2 (some .int), Cond.static yX6_holds, Cond.initialized RX6]
def wsX6_edge_r2 : List Cond := [Cond.code yX6_holds cX6_holds 2 (some .boolean), Cond.instanceMethod yX3_countOf, Cond.selects RX3 yX3_countOf yX3_countOf, Cond.code yX3_countOf cX3_countOf 2 (some .int), Cond.methodLink RX3 27 yJ6_bitCount_0f7a4, Cond.static yJ6_bitCount_0f7a4, Cond.initialized RJ6, Cond.code yJ6_bitCount_0f7a4 cJ6_bitCount_0f7a4 1 (some .int), Cond.constant RJ6 265 (1431655765), Cond.constant RJ6 266 (858993459), Cond.constant RJ6 267 (252645135), Cond.instanceMethod yX3_join, Cond.selects RX3 yX3_join yX3_join, Cond.code yX3_join cX3_join 3 none, Cond.methodLink RX3 32 yX3_isKnot, Cond.static yX6_bit, Cond.code yX6_bit cX6_bit 1 (some .int), Cond.instanceMethod yX3_loosen, Cond.selects RX3 yX3_loosen yX3_loosen, Cond.code yX3_loosen cX3_loosen 3 none, Cond.instanceMethod yX0_end, Cond.initialized RX0, Cond.selects RX0 yX0_end yX0_end, Cond.code yX0_end cX0_end 1 none]
def wsX6_edge_r3 : List Cond := [Cond.fieldLink RX0 24 "Shortring$Hunt" "isOn" "Z", Cond.instanceMethod yX1_look, Cond.initialized RX1, Cond.selects RX1 yX1_look yX1_look, Cond.code yX1_look cX1_look 4 none, Cond.fieldLink RX1 15 "Shortring$Ledger" "smallest" "[I", Cond.instanceMethod yX3_evenCount, Cond.selects RX3 yX3_evenCount yX3_evenCount, Cond.code yX3_evenCount cX3_evenCount 3 (some .int), Cond.methodLink RX3 39 yX3_countOf, Cond.static yX6_isWithin, Cond.code yX6_isWithin cX6_isWithin 3 (some .boolean), Cond.static yX5_leastRing, Cond.initialized RX5, Cond.code yX5_leastRing cX5_leastRing 3 (some .int), Cond.methodLink RX5 66 yX5_leastRingAt, Cond.static yX5_leastRingAt, Cond.code yX5_leastRingAt cX5_leastRingAt 4 (some .int), Cond.methodLink RX5 60 yX5_leastRingBy, Cond.static yX5_leastRingBy, Cond.code yX5_leastRingBy cX5_leastRingBy 6 (some .int), Cond.methodLink RX5 23 yX5_around, Cond.static yX5_around, Cond.code yX5_around cX5_around 6 (some .int)]
def wsX6_edge_r4 : List Cond := [Cond.methodLink RX5 9 yJ6_bitCount_0f7a4, Cond.static yX6_lesser, Cond.code yX6_lesser cX6_lesser 2 (some .int), Cond.methodLink RX6 324 Lib.Math.min.name, Cond.static Lib.Math.min.name, Cond.initialized "java/lang/Math", Cond.code Lib.Math.min.name Lib.Math.min.code 2 (some .int), Cond.methodLink RX1 44 yX1_tablePlace, Cond.instanceMethod yX1_tablePlace, Cond.selects RX1 yX1_tablePlace yX1_tablePlace, Cond.code yX1_tablePlace cX1_tablePlace 5 (some .int)]
def wsX6_edge : List Cond := .code yX6_edge cX6_edge 6 (some .boolean) :: ((wsX6_edge_r1 ++ (wsX6_edge_r2 ++ (wsX6_edge_r3 ++ wsX6_edge_r4))) ++ wsX60 ++ wsX30 ++ wsX00 ++ wsX10 ++ (vx_atS RX6 95 "java/lang/IndexOutOfBoundsException" ["java/lang/RuntimeException", "java/lang/Exception"]).filter goodWord ++ (vx_atS RX6 70 "java/lang/IllegalArgumentException" ["java/lang/RuntimeException", "java/lang/Exception"]).filter goodWord ++ (vx_atS RX6 110 "java/lang/IllegalStateException" ["java/lang/RuntimeException", "java/lang/Exception"]).filter goodWord)
def wsX6_countByJumps : List Cond := .code yX6_countByJumps cX6_countByJumps 4 (some .int) :: ([.methodLink RX6 270 yJ6_bitCount_0f7a4, .static yJ6_bitCount_0f7a4, .initialized RJ6, .code yJ6_bitCount_0f7a4 cJ6_bitCount_0f7a4 1 (some .int), .constant RJ6 265 (1431655765), .constant RJ6 266 (858993459), .constant RJ6 267 (252645135), .methodLink RX6 386 yX6_holds, .static yX6_holds, .initialized RX6, .code yX6_holds cX6_holds 2 (some .boolean)])
def wsX6_layByJumps : List Cond := .code yX6_layByJumps cX6_layByJumps 6 none :: ([.fieldLink RX6 12 "Shortring" "net" "LShortring$Net;", .methodLink RX6 324 Lib.Math.min.name, .static Lib.Math.min.name, .initialized "java/lang/Math", .code Lib.Math.min.name Lib.Math.min.code 2 (some .int), .instanceMethod yX3_lay, .initialized RX3, .selects RX3 yX3_lay yX3_lay, .code yX3_lay cX3_lay 3 none, .fieldLink RX3 15 "Shortring$Net" "knots" "I", .fieldLink RX3 9 "Shortring$Net" "near" "[I", .methodLink RX6 386 yX6_holds, .static yX6_holds, .initialized RX6, .code yX6_holds cX6_holds 2 (some .boolean), .instanceMethod yX3_join, .selects RX3 yX3_join yX3_join, .code yX3_join cX3_join 3 none, .methodLink RX3 32 yX3_isKnot, .instanceMethod yX3_isKnot, .selects RX3 yX3_isKnot yX3_isKnot, .code yX3_isKnot cX3_isKnot 2 (some .boolean), .static yX6_bit, .code yX6_bit cX6_bit 1 (some .int)] ++ wsX60 ++ wsX30)
def wsX6_ring_r1 : List Cond := [Cond.classLink RX6 66 "java/lang/IllegalArgumentException", Cond.initialized "java/lang/IllegalArgumentException", Cond.fieldLink RX6 26 "Shortring" "hunt" "LShortring$Hunt;", Cond.fieldLink RX6 33 "Shortring" "ledger" "LShortring$Ledger;", Cond.fieldLink RX6 12 "Shortring" "net" "LShortring$Net;", Cond.methodLink RX6 62 yX6_isWithin, Cond.static yX6_isWithin, Cond.initialized RX6, Cond.code yX6_isWithin cX6_isWithin 3 (some .boolean), Cond.methodLink RX6 118 yX6_bit, Cond.static yX6_bit, Cond.code yX6_bit cX6_bit 1 (some .int), Cond.methodLink RX6 123 yX6_countByJumps, Cond.static yX6_countByJumps, Cond.code yX6_countByJumps cX6_countByJumps 4 (some .int), Cond.methodLink RX6 270 yJ6_bitCount_0f7a4, Cond.static yJ6_bitCount_0f7a4, Cond.initialized RJ6, Cond.code yJ6_bitCount_0f7a4 cJ6_bitCount_0f7a4 1 (some .int), Cond.constant RJ6 265 (1431655765), Cond.constant RJ6 266 (858993459), Cond.constant RJ6 267 (252645135), Cond.methodLink RX6 386 yX6_holds, Cond.static yX6_holds]
def wsX6_ring_r2 : List Cond := [Cond.code yX6_holds cX6_holds 2 (some .boolean), Cond.methodLink RX6 127 yX6_layByJumps, Cond.instanceMethod yX6_layByJumps, Cond.selects RX6 yX6_layByJumps yX6_layByJumps, Cond.code yX6_layByJumps cX6_layByJumps 6 none, Cond.methodLink RX6 324 Lib.Math.min.name, Cond.static Lib.Math.min.name, Cond.initialized "java/lang/Math", Cond.code Lib.Math.min.name Lib.Math.min.code 2 (some .int), Cond.instanceMethod yX3_lay, Cond.initialized RX3, Cond.selects RX3 yX3_lay yX3_lay, Cond.code yX3_lay cX3_lay 3 none, Cond.fieldLink RX3 15 "Shortring$Net" "knots" "I", Cond.fieldLink RX3 9 "Shortring$Net" "near" "[I", Cond.instanceMethod yX3_join, Cond.selects RX3 yX3_join yX3_join, Cond.code yX3_join cX3_join 3 none, Cond.methodLink RX3 32 yX3_isKnot, Cond.instanceMethod yX3_isKnot, Cond.selects RX3 yX3_isKnot yX3_isKnot, Cond.code yX3_isKnot cX3_isKnot 2 (some .boolean), Cond.instanceMethod yX0_end, Cond.initialized RX0]
def wsX6_ring_r3 : List Cond := [Cond.selects RX0 yX0_end yX0_end, Cond.code yX0_end cX0_end 1 none, Cond.fieldLink RX0 24 "Shortring$Hunt" "isOn" "Z", Cond.instanceMethod yX1_look, Cond.initialized RX1, Cond.selects RX1 yX1_look yX1_look, Cond.code yX1_look cX1_look 4 none, Cond.fieldLink RX1 15 "Shortring$Ledger" "smallest" "[I", Cond.instanceMethod yX3_evenCount, Cond.selects RX3 yX3_evenCount yX3_evenCount, Cond.code yX3_evenCount cX3_evenCount 3 (some .int), Cond.methodLink RX3 39 yX3_countOf, Cond.instanceMethod yX3_countOf, Cond.selects RX3 yX3_countOf yX3_countOf, Cond.code yX3_countOf cX3_countOf 2 (some .int), Cond.methodLink RX3 19 yX3_nearOf, Cond.instanceMethod yX3_nearOf, Cond.selects RX3 yX3_nearOf yX3_nearOf, Cond.code yX3_nearOf cX3_nearOf 2 (some .int), Cond.methodLink RX3 27 yJ6_bitCount_0f7a4, Cond.static yX5_leastRing, Cond.initialized RX5, Cond.code yX5_leastRing cX5_leastRing 3 (some .int), Cond.methodLink RX5 66 yX5_leastRingAt]
def wsX6_ring_r4 : List Cond := [Cond.static yX5_leastRingAt, Cond.code yX5_leastRingAt cX5_leastRingAt 4 (some .int), Cond.instanceMethod yX3_isNear, Cond.selects RX3 yX3_isNear yX3_isNear, Cond.code yX3_isNear cX3_isNear 3 (some .boolean), Cond.methodLink RX5 60 yX5_leastRingBy, Cond.static yX5_leastRingBy, Cond.code yX5_leastRingBy cX5_leastRingBy 6 (some .int), Cond.methodLink RX5 23 yX5_around, Cond.static yX5_around, Cond.code yX5_around cX5_around 6 (some .int), Cond.methodLink RX5 9 yJ6_bitCount_0f7a4, Cond.static yX6_lesser, Cond.code yX6_lesser cX6_lesser 2 (some .int), Cond.methodLink RX1 44 yX1_tablePlace, Cond.instanceMethod yX1_tablePlace, Cond.selects RX1 yX1_tablePlace yX1_tablePlace, Cond.code yX1_tablePlace cX1_tablePlace 5 (some .int), Cond.instanceMethod yX3_edgesInAll, Cond.selects RX3 yX3_edgesInAll yX3_edgesInAll, Cond.code yX3_edgesInAll cX3_edgesInAll 3 (some .int)]
def wsX6_ring : List Cond := .code yX6_ring cX6_ring 4 (some .int) :: ((wsX6_ring_r1 ++ (wsX6_ring_r2 ++ (wsX6_ring_r3 ++ wsX6_ring_r4))) ++ wsX60 ++ wsX30 ++ wsX00 ++ wsX10 ++ (vx_atS RX6 70 "java/lang/IllegalArgumentException" ["java/lang/RuntimeException", "java/lang/Exception"]).filter goodWord)
def wsX6_isSetBelow : List Cond := .code yX6_isSetBelow cX6_isSetBelow 2 (some .boolean) :: ([.methodLink RX6 118 yX6_bit, .static yX6_bit, .initialized RX6, .code yX6_bit cX6_bit 1 (some .int)])
def wsX6_layDouble_r1 : List Cond := [Cond.fieldLink RX6 12 "Shortring" "net" "LShortring$Net;", Cond.fieldLink RX6 16 "Shortring" "scratch" "LShortring$Net;", Cond.instanceMethod yX3_lay, Cond.initialized RX3, Cond.selects RX3 yX3_lay yX3_lay, Cond.code yX3_lay cX3_lay 3 none, Cond.fieldLink RX3 15 "Shortring$Net" "knots" "I", Cond.fieldLink RX3 9 "Shortring$Net" "near" "[I", Cond.instanceMethod yX3_isNear, Cond.selects RX3 yX3_isNear yX3_isNear, Cond.code yX3_isNear cX3_isNear 3 (some .boolean), Cond.methodLink RX3 19 yX3_nearOf, Cond.instanceMethod yX3_nearOf, Cond.selects RX3 yX3_nearOf yX3_nearOf, Cond.code yX3_nearOf cX3_nearOf 2 (some .int), Cond.static yX6_holds, Cond.initialized RX6, Cond.code yX6_holds cX6_holds 2 (some .boolean), Cond.methodLink RX6 386 yX6_holds, Cond.instanceMethod yX3_join, Cond.selects RX3 yX3_join yX3_join, Cond.code yX3_join cX3_join 3 none, Cond.methodLink RX3 32 yX3_isKnot, Cond.instanceMethod yX3_isKnot]
def wsX6_layDouble_r2 : List Cond := [Cond.selects RX3 yX3_isKnot yX3_isKnot, Cond.code yX3_isKnot cX3_isKnot 2 (some .boolean), Cond.static yX6_bit, Cond.code yX6_bit cX6_bit 1 (some .int)]
def wsX6_layDouble : List Cond := .code yX6_layDouble cX6_layDouble 7 none :: ((wsX6_layDouble_r1 ++ wsX6_layDouble_r2) ++ wsX60 ++ wsX30)
def wsX6_doubled_r1 : List Cond := [Cond.classLink RX6 66 "java/lang/IllegalArgumentException", Cond.initialized "java/lang/IllegalArgumentException", Cond.classLink RX6 106 "java/lang/IllegalStateException", Cond.initialized "java/lang/IllegalStateException", Cond.fieldLink RX6 12 "Shortring" "net" "LShortring$Net;", Cond.fieldLink RX6 16 "Shortring" "scratch" "LShortring$Net;", Cond.fieldLink RX6 26 "Shortring" "hunt" "LShortring$Hunt;", Cond.fieldLink RX6 33 "Shortring" "ledger" "LShortring$Ledger;", Cond.instanceMethod yX3_edgesInAll, Cond.initialized RX3, Cond.selects RX3 yX3_edgesInAll yX3_edgesInAll, Cond.code yX3_edgesInAll cX3_edgesInAll 3 (some .int), Cond.fieldLink RX3 15 "Shortring$Net" "knots" "I", Cond.methodLink RX3 39 yX3_countOf, Cond.instanceMethod yX3_countOf, Cond.selects RX3 yX3_countOf yX3_countOf, Cond.code yX3_countOf cX3_countOf 2 (some .int), Cond.methodLink RX3 19 yX3_nearOf, Cond.instanceMethod yX3_nearOf, Cond.selects RX3 yX3_nearOf yX3_nearOf, Cond.code yX3_nearOf cX3_nearOf 2 (some .int), Cond.fieldLink RX3 9 "Shortring$Net" "near" "[I", Cond.methodLink RX3 27 yJ6_bitCount_0f7a4, Cond.static yJ6_bitCount_0f7a4]
def wsX6_doubled_r2 : List Cond := [Cond.initialized RJ6, Cond.code yJ6_bitCount_0f7a4 cJ6_bitCount_0f7a4 1 (some .int), Cond.constant RJ6 265 (1431655765), Cond.constant RJ6 266 (858993459), Cond.constant RJ6 267 (252645135), Cond.methodLink RX6 134 yX6_isSetBelow, Cond.static yX6_isSetBelow, Cond.initialized RX6, Cond.code yX6_isSetBelow cX6_isSetBelow 2 (some .boolean), Cond.methodLink RX6 118 yX6_bit, Cond.static yX6_bit, Cond.code yX6_bit cX6_bit 1 (some .int), Cond.methodLink RX6 62 yX6_isWithin, Cond.static yX6_isWithin, Cond.code yX6_isWithin cX6_isWithin 3 (some .boolean), Cond.methodLink RX6 141 yX6_layDouble, Cond.instanceMethod yX6_layDouble, Cond.selects RX6 yX6_layDouble yX6_layDouble, Cond.code yX6_layDouble cX6_layDouble 7 none, Cond.instanceMethod yX3_lay, Cond.selects RX3 yX3_lay yX3_lay, Cond.code yX3_lay cX3_lay 3 none, Cond.instanceMethod yX3_isNear, Cond.selects RX3 yX3_isNear yX3_isNear]
def wsX6_doubled_r3 : List Cond := [Cond.code yX3_isNear cX3_isNear 3 (some .boolean), Cond.static yX6_holds, Cond.code yX6_holds cX6_holds 2 (some .boolean), Cond.methodLink RX6 386 yX6_holds, Cond.instanceMethod yX3_join, Cond.selects RX3 yX3_join yX3_join, Cond.code yX3_join cX3_join 3 none, Cond.methodLink RX3 32 yX3_isKnot, Cond.instanceMethod yX3_isKnot, Cond.selects RX3 yX3_isKnot yX3_isKnot, Cond.code yX3_isKnot cX3_isKnot 2 (some .boolean), Cond.instanceMethod yX3_take, Cond.selects RX3 yX3_take yX3_take, Cond.code yX3_take cX3_take 3 none, Cond.instanceMethod yX0_end, Cond.initialized RX0, Cond.selects RX0 yX0_end yX0_end, Cond.code yX0_end cX0_end 1 none, Cond.fieldLink RX0 24 "Shortring$Hunt" "isOn" "Z", Cond.instanceMethod yX1_look, Cond.initialized RX1, Cond.selects RX1 yX1_look yX1_look, Cond.code yX1_look cX1_look 4 none, Cond.fieldLink RX1 15 "Shortring$Ledger" "smallest" "[I"]
def wsX6_doubled_r4 : List Cond := [Cond.instanceMethod yX3_evenCount, Cond.selects RX3 yX3_evenCount yX3_evenCount, Cond.code yX3_evenCount cX3_evenCount 3 (some .int), Cond.static yX5_leastRing, Cond.initialized RX5, Cond.code yX5_leastRing cX5_leastRing 3 (some .int), Cond.methodLink RX5 66 yX5_leastRingAt, Cond.static yX5_leastRingAt, Cond.code yX5_leastRingAt cX5_leastRingAt 4 (some .int), Cond.methodLink RX5 60 yX5_leastRingBy, Cond.static yX5_leastRingBy, Cond.code yX5_leastRingBy cX5_leastRingBy 6 (some .int), Cond.methodLink RX5 23 yX5_around, Cond.static yX5_around, Cond.code yX5_around cX5_around 6 (some .int), Cond.methodLink RX5 9 yJ6_bitCount_0f7a4, Cond.static yX6_lesser, Cond.code yX6_lesser cX6_lesser 2 (some .int), Cond.methodLink RX6 324 Lib.Math.min.name, Cond.static Lib.Math.min.name, Cond.initialized "java/lang/Math", Cond.code Lib.Math.min.name Lib.Math.min.code 2 (some .int), Cond.methodLink RX1 44 yX1_tablePlace, Cond.instanceMethod yX1_tablePlace]
def wsX6_doubled_r5 : List Cond := [Cond.selects RX1 yX1_tablePlace yX1_tablePlace, Cond.code yX1_tablePlace cX1_tablePlace 5 (some .int)]
def wsX6_doubled : List Cond := .code yX6_doubled cX6_doubled 2 (some .int) :: ((wsX6_doubled_r1 ++ (wsX6_doubled_r2 ++ (wsX6_doubled_r3 ++ (wsX6_doubled_r4 ++ wsX6_doubled_r5)))) ++ wsX60 ++ wsX30 ++ wsX00 ++ wsX10 ++ (vx_atS RX6 70 "java/lang/IllegalArgumentException" ["java/lang/RuntimeException", "java/lang/Exception"]).filter goodWord ++ (vx_atS RX6 110 "java/lang/IllegalStateException" ["java/lang/RuntimeException", "java/lang/Exception"]).filter goodWord)
def wsX6_turned : List Cond := .code yX6_turned cX6_turned 2 (some .int) :: ([.methodLink RX6 280 yX6_otherOf, .static yX6_otherOf, .initialized RX6, .code yX6_otherOf cX6_otherOf 1 (some .int), .methodLink RX6 277 yX6_oneOf, .static yX6_oneOf, .code yX6_oneOf cX6_oneOf 1 (some .int), .methodLink RX6 389 yX6_pairOf, .static yX6_pairOf, .code yX6_pairOf cX6_pairOf 2 (some .int)])
def wsX6_canExchange_r1 : List Cond := [Cond.fieldLink RX6 12 "Shortring" "net" "LShortring$Net;", Cond.methodLink RX6 277 yX6_oneOf, Cond.static yX6_oneOf, Cond.initialized RX6, Cond.code yX6_oneOf cX6_oneOf 1 (some .int), Cond.methodLink RX6 118 yX6_bit, Cond.static yX6_bit, Cond.code yX6_bit cX6_bit 1 (some .int), Cond.methodLink RX6 280 yX6_otherOf, Cond.static yX6_otherOf, Cond.code yX6_otherOf cX6_otherOf 1 (some .int), Cond.methodLink RX6 270 yJ6_bitCount_0f7a4, Cond.static yJ6_bitCount_0f7a4, Cond.initialized RJ6, Cond.code yJ6_bitCount_0f7a4 cJ6_bitCount_0f7a4 1 (some .int), Cond.constant RJ6 265 (1431655765), Cond.constant RJ6 266 (858993459), Cond.constant RJ6 267 (252645135), Cond.instanceMethod yX3_isNear, Cond.initialized RX3, Cond.selects RX3 yX3_isNear yX3_isNear, Cond.code yX3_isNear cX3_isNear 3 (some .boolean), Cond.methodLink RX3 19 yX3_nearOf, Cond.instanceMethod yX3_nearOf]
def wsX6_canExchange_r2 : List Cond := [Cond.selects RX3 yX3_nearOf yX3_nearOf, Cond.code yX3_nearOf cX3_nearOf 2 (some .int), Cond.fieldLink RX3 9 "Shortring$Net" "near" "[I", Cond.static yX6_holds, Cond.code yX6_holds cX6_holds 2 (some .boolean)]
def wsX6_canExchange : List Cond := .code yX6_canExchange cX6_canExchange 4 (some .boolean) :: ((wsX6_canExchange_r1 ++ wsX6_canExchange_r2) ++ wsX60 ++ wsX30)
def wsX6_exchange : List Cond := .code yX6_exchange cX6_exchange 3 none :: ([.fieldLink RX6 12 "Shortring" "net" "LShortring$Net;", .methodLink RX6 277 yX6_oneOf, .static yX6_oneOf, .initialized RX6, .code yX6_oneOf cX6_oneOf 1 (some .int), .methodLink RX6 280 yX6_otherOf, .static yX6_otherOf, .code yX6_otherOf cX6_otherOf 1 (some .int), .instanceMethod yX3_loosen, .initialized RX3, .selects RX3 yX3_loosen yX3_loosen, .code yX3_loosen cX3_loosen 3 none, .fieldLink RX3 9 "Shortring$Net" "near" "[I", .methodLink RX3 32 yX3_isKnot, .instanceMethod yX3_isKnot, .selects RX3 yX3_isKnot yX3_isKnot, .code yX3_isKnot cX3_isKnot 2 (some .boolean), .fieldLink RX3 15 "Shortring$Net" "knots" "I", .static yX6_bit, .code yX6_bit cX6_bit 1 (some .int), .instanceMethod yX3_join, .selects RX3 yX3_join yX3_join, .code yX3_join cX3_join 3 none] ++ wsX60 ++ wsX30)
def wsX6_swap_r1 : List Cond := [Cond.classLink RX6 91 "java/lang/IndexOutOfBoundsException", Cond.initialized "java/lang/IndexOutOfBoundsException", Cond.fieldLink RX6 12 "Shortring" "net" "LShortring$Net;", Cond.fieldLink RX6 26 "Shortring" "hunt" "LShortring$Hunt;", Cond.fieldLink RX6 33 "Shortring" "ledger" "LShortring$Ledger;", Cond.instanceMethod yX3_edgeAt, Cond.initialized RX3, Cond.selects RX3 yX3_edgeAt yX3_edgeAt, Cond.code yX3_edgeAt cX3_edgeAt 6 (some .int), Cond.fieldLink RX3 15 "Shortring$Net" "knots" "I", Cond.methodLink RX3 19 yX3_nearOf, Cond.instanceMethod yX3_nearOf, Cond.selects RX3 yX3_nearOf yX3_nearOf, Cond.code yX3_nearOf cX3_nearOf 2 (some .int), Cond.fieldLink RX3 9 "Shortring$Net" "near" "[I", Cond.static yX6_bit, Cond.initialized RX6, Cond.code yX6_bit cX6_bit 1 (some .int), Cond.methodLink RX3 27 yJ6_bitCount_0f7a4, Cond.static yJ6_bitCount_0f7a4, Cond.initialized RJ6, Cond.code yJ6_bitCount_0f7a4 cJ6_bitCount_0f7a4 1 (some .int), Cond.constant RJ6 265 (1431655765), Cond.constant RJ6 266 (858993459)]
def wsX6_swap_r2 : List Cond := [Cond.constant RJ6 267 (252645135), Cond.methodLink RX3 42 yX3_numberedIn, Cond.static yX3_numberedIn, Cond.code yX3_numberedIn cX3_numberedIn 4 (some .int), Cond.static yX6_firstOf, Cond.code yX6_firstOf cX6_firstOf 1 (some .int), Cond.methodLink RX6 270 yJ6_bitCount_0f7a4, Cond.static yX6_pairOf, Cond.code yX6_pairOf cX6_pairOf 2 (some .int), Cond.methodLink RX6 158 yX6_turned, Cond.static yX6_turned, Cond.code yX6_turned cX6_turned 2 (some .int), Cond.methodLink RX6 280 yX6_otherOf, Cond.static yX6_otherOf, Cond.code yX6_otherOf cX6_otherOf 1 (some .int), Cond.methodLink RX6 277 yX6_oneOf, Cond.static yX6_oneOf, Cond.code yX6_oneOf cX6_oneOf 1 (some .int), Cond.methodLink RX6 389 yX6_pairOf, Cond.methodLink RX6 162 yX6_canExchange, Cond.instanceMethod yX6_canExchange, Cond.selects RX6 yX6_canExchange yX6_canExchange, Cond.code yX6_canExchange cX6_canExchange 4 (some .boolean), Cond.methodLink RX6 118 yX6_bit]
def wsX6_swap_r3 : List Cond := [Cond.instanceMethod yX3_isNear, Cond.selects RX3 yX3_isNear yX3_isNear, Cond.code yX3_isNear cX3_isNear 3 (some .boolean), Cond.static yX6_holds, Cond.code yX6_holds cX6_holds 2 (some .boolean), Cond.methodLink RX6 165 yX6_exchange, Cond.instanceMethod yX6_exchange, Cond.selects RX6 yX6_exchange yX6_exchange, Cond.code yX6_exchange cX6_exchange 3 none, Cond.instanceMethod yX3_loosen, Cond.selects RX3 yX3_loosen yX3_loosen, Cond.code yX3_loosen cX3_loosen 3 none, Cond.methodLink RX3 32 yX3_isKnot, Cond.instanceMethod yX3_isKnot, Cond.selects RX3 yX3_isKnot yX3_isKnot, Cond.code yX3_isKnot cX3_isKnot 2 (some .boolean), Cond.instanceMethod yX3_join, Cond.selects RX3 yX3_join yX3_join, Cond.code yX3_join cX3_join 3 none, Cond.instanceMethod yX0_end, Cond.initialized RX0, Cond.selects RX0 yX0_end yX0_end, Cond.code yX0_end cX0_end 1 none, Cond.fieldLink RX0 24 "Shortring$Hunt" "isOn" "Z"]
def wsX6_swap_r4 : List Cond := [Cond.instanceMethod yX1_look, Cond.initialized RX1, Cond.selects RX1 yX1_look yX1_look, Cond.code yX1_look cX1_look 4 none, Cond.fieldLink RX1 15 "Shortring$Ledger" "smallest" "[I", Cond.instanceMethod yX3_evenCount, Cond.selects RX3 yX3_evenCount yX3_evenCount, Cond.code yX3_evenCount cX3_evenCount 3 (some .int), Cond.methodLink RX3 39 yX3_countOf, Cond.instanceMethod yX3_countOf, Cond.selects RX3 yX3_countOf yX3_countOf, Cond.code yX3_countOf cX3_countOf 2 (some .int), Cond.static yX6_isWithin, Cond.code yX6_isWithin cX6_isWithin 3 (some .boolean), Cond.static yX5_leastRing, Cond.initialized RX5, Cond.code yX5_leastRing cX5_leastRing 3 (some .int), Cond.methodLink RX5 66 yX5_leastRingAt, Cond.static yX5_leastRingAt, Cond.code yX5_leastRingAt cX5_leastRingAt 4 (some .int), Cond.methodLink RX5 60 yX5_leastRingBy, Cond.static yX5_leastRingBy, Cond.code yX5_leastRingBy cX5_leastRingBy 6 (some .int), Cond.methodLink RX5 23 yX5_around]
def wsX6_swap_r5 : List Cond := [Cond.static yX5_around, Cond.code yX5_around cX5_around 6 (some .int), Cond.methodLink RX5 9 yJ6_bitCount_0f7a4, Cond.static yX6_lesser, Cond.code yX6_lesser cX6_lesser 2 (some .int), Cond.methodLink RX6 324 Lib.Math.min.name, Cond.static Lib.Math.min.name, Cond.initialized "java/lang/Math", Cond.code Lib.Math.min.name Lib.Math.min.code 2 (some .int), Cond.methodLink RX1 44 yX1_tablePlace, Cond.instanceMethod yX1_tablePlace, Cond.selects RX1 yX1_tablePlace yX1_tablePlace, Cond.code yX1_tablePlace cX1_tablePlace 5 (some .int)]
def wsX6_swap : List Cond := .code yX6_swap cX6_swap 6 (some .boolean) :: ((wsX6_swap_r1 ++ (wsX6_swap_r2 ++ (wsX6_swap_r3 ++ (wsX6_swap_r4 ++ wsX6_swap_r5)))) ++ wsX60 ++ wsX30 ++ wsX00 ++ wsX10 ++ (vx_atS RX6 95 "java/lang/IndexOutOfBoundsException" ["java/lang/RuntimeException", "java/lang/Exception"]).filter goodWord)
def wsX6_walk : List Cond := .code yX6_walk cX6_walk 9 none :: ([.instanceMethod yX3_nearOf, .initialized RX3, .selects RX3 yX3_nearOf yX3_nearOf, .code yX3_nearOf cX3_nearOf 2 (some .int), .fieldLink RX3 9 "Shortring$Net" "near" "[I", .methodLink RX6 270 yJ6_bitCount_0f7a4, .static yJ6_bitCount_0f7a4, .initialized RJ6, .code yJ6_bitCount_0f7a4 cJ6_bitCount_0f7a4 1 (some .int), .constant RJ6 265 (1431655765), .constant RJ6 266 (858993459), .constant RJ6 267 (252645135), .methodLink RX6 386 yX6_holds, .static yX6_holds, .initialized RX6, .code yX6_holds cX6_holds 2 (some .boolean), .methodLink RX6 118 yX6_bit, .static yX6_bit, .code yX6_bit cX6_bit 1 (some .int), .methodLink RX6 397 yX6_walk, .static yX6_walk] ++ wsX30)
def wsX6_countRings : List Cond := .code yX6_countRings cX6_countRings 3 none :: ([.fieldLink RX6 51 "Shortring" "tally" "[I", .fieldLink RX6 12 "Shortring" "net" "LShortring$Net;", .methodLink RX6 118 yX6_bit, .static yX6_bit, .initialized RX6, .code yX6_bit cX6_bit 1 (some .int), .methodLink RX6 397 yX6_walk, .static yX6_walk, .code yX6_walk cX6_walk 9 none, .instanceMethod yX3_nearOf, .initialized RX3, .selects RX3 yX3_nearOf yX3_nearOf, .code yX3_nearOf cX3_nearOf 2 (some .int), .fieldLink RX3 9 "Shortring$Net" "near" "[I", .methodLink RX6 270 yJ6_bitCount_0f7a4, .static yJ6_bitCount_0f7a4, .initialized RJ6, .code yJ6_bitCount_0f7a4 cJ6_bitCount_0f7a4 1 (some .int), .constant RJ6 265 (1431655765), .constant RJ6 266 (858993459), .constant RJ6 267 (252645135), .methodLink RX6 386 yX6_holds, .static yX6_holds, .code yX6_holds cX6_holds 2 (some .boolean)] ++ wsX60 ++ wsX30)
def wsX6_tallied : List Cond := .code yX6_tallied cX6_tallied 2 (some .int) :: ([.fieldLink RX6 51 "Shortring" "tally" "[I"] ++ wsX60)
def wsX6_shortRings_r1 : List Cond := [Cond.methodLink RX6 292 yX6_countRings, Cond.instanceMethod yX6_countRings, Cond.selects RX6 yX6_countRings yX6_countRings, Cond.initialized RX6, Cond.code yX6_countRings cX6_countRings 3 none, Cond.fieldLink RX6 51 "Shortring" "tally" "[I", Cond.fieldLink RX6 12 "Shortring" "net" "LShortring$Net;", Cond.methodLink RX6 118 yX6_bit, Cond.static yX6_bit, Cond.code yX6_bit cX6_bit 1 (some .int), Cond.methodLink RX6 397 yX6_walk, Cond.static yX6_walk, Cond.code yX6_walk cX6_walk 9 none, Cond.instanceMethod yX3_nearOf, Cond.initialized RX3, Cond.selects RX3 yX3_nearOf yX3_nearOf, Cond.code yX3_nearOf cX3_nearOf 2 (some .int), Cond.fieldLink RX3 9 "Shortring$Net" "near" "[I", Cond.methodLink RX6 270 yJ6_bitCount_0f7a4, Cond.static yJ6_bitCount_0f7a4, Cond.initialized RJ6, Cond.code yJ6_bitCount_0f7a4 cJ6_bitCount_0f7a4 1 (some .int), Cond.constant RJ6 265 (1431655765), Cond.constant RJ6 266 (858993459)]
def wsX6_shortRings_r2 : List Cond := [Cond.constant RJ6 267 (252645135), Cond.methodLink RX6 386 yX6_holds, Cond.static yX6_holds, Cond.code yX6_holds cX6_holds 2 (some .boolean), Cond.methodLink RX6 295 yX6_tallied, Cond.instanceMethod yX6_tallied, Cond.selects RX6 yX6_tallied yX6_tallied, Cond.code yX6_tallied cX6_tallied 2 (some .int)]
def wsX6_shortRings : List Cond := .code yX6_shortRings cX6_shortRings 4 (some .int) :: ((wsX6_shortRings_r1 ++ wsX6_shortRings_r2) ++ wsX60 ++ wsX30)
def wsX6_mendByRounds_r1 : List Cond := [Cond.fieldLink RX6 12 "Shortring" "net" "LShortring$Net;", Cond.constant RX6 395 (1103515245), Cond.constant RX6 396 (2147483647), Cond.fieldLink RX6 16 "Shortring" "scratch" "LShortring$Net;", Cond.instanceMethod yX3_edgesInAll, Cond.initialized RX3, Cond.selects RX3 yX3_edgesInAll yX3_edgesInAll, Cond.code yX3_edgesInAll cX3_edgesInAll 3 (some .int), Cond.fieldLink RX3 15 "Shortring$Net" "knots" "I", Cond.methodLink RX3 39 yX3_countOf, Cond.instanceMethod yX3_countOf, Cond.selects RX3 yX3_countOf yX3_countOf, Cond.code yX3_countOf cX3_countOf 2 (some .int), Cond.methodLink RX3 19 yX3_nearOf, Cond.instanceMethod yX3_nearOf, Cond.selects RX3 yX3_nearOf yX3_nearOf, Cond.code yX3_nearOf cX3_nearOf 2 (some .int), Cond.fieldLink RX3 9 "Shortring$Net" "near" "[I", Cond.methodLink RX3 27 yJ6_bitCount_0f7a4, Cond.static yJ6_bitCount_0f7a4, Cond.initialized RJ6, Cond.code yJ6_bitCount_0f7a4 cJ6_bitCount_0f7a4 1 (some .int), Cond.constant RJ6 265 (1431655765), Cond.constant RJ6 266 (858993459)]
def wsX6_mendByRounds_r2 : List Cond := [Cond.constant RJ6 267 (252645135), Cond.methodLink RX6 392 yX6_shortRings, Cond.instanceMethod yX6_shortRings, Cond.selects RX6 yX6_shortRings yX6_shortRings, Cond.initialized RX6, Cond.code yX6_shortRings cX6_shortRings 4 (some .int), Cond.methodLink RX6 292 yX6_countRings, Cond.instanceMethod yX6_countRings, Cond.selects RX6 yX6_countRings yX6_countRings, Cond.code yX6_countRings cX6_countRings 3 none, Cond.fieldLink RX6 51 "Shortring" "tally" "[I", Cond.methodLink RX6 118 yX6_bit, Cond.static yX6_bit, Cond.code yX6_bit cX6_bit 1 (some .int), Cond.methodLink RX6 397 yX6_walk, Cond.static yX6_walk, Cond.code yX6_walk cX6_walk 9 none, Cond.methodLink RX6 270 yJ6_bitCount_0f7a4, Cond.methodLink RX6 386 yX6_holds, Cond.static yX6_holds, Cond.code yX6_holds cX6_holds 2 (some .boolean), Cond.methodLink RX6 295 yX6_tallied, Cond.instanceMethod yX6_tallied, Cond.selects RX6 yX6_tallied yX6_tallied]
def wsX6_mendByRounds_r3 : List Cond := [Cond.code yX6_tallied cX6_tallied 2 (some .int), Cond.instanceMethod yX3_edgeAt, Cond.selects RX3 yX3_edgeAt yX3_edgeAt, Cond.code yX3_edgeAt cX3_edgeAt 6 (some .int), Cond.methodLink RX3 42 yX3_numberedIn, Cond.static yX3_numberedIn, Cond.code yX3_numberedIn cX3_numberedIn 4 (some .int), Cond.static yX6_firstOf, Cond.code yX6_firstOf cX6_firstOf 1 (some .int), Cond.static yX6_pairOf, Cond.code yX6_pairOf cX6_pairOf 2 (some .int), Cond.methodLink RX6 158 yX6_turned, Cond.static yX6_turned, Cond.code yX6_turned cX6_turned 2 (some .int), Cond.methodLink RX6 280 yX6_otherOf, Cond.static yX6_otherOf, Cond.code yX6_otherOf cX6_otherOf 1 (some .int), Cond.methodLink RX6 277 yX6_oneOf, Cond.static yX6_oneOf, Cond.code yX6_oneOf cX6_oneOf 1 (some .int), Cond.methodLink RX6 389 yX6_pairOf, Cond.methodLink RX6 162 yX6_canExchange, Cond.instanceMethod yX6_canExchange, Cond.selects RX6 yX6_canExchange yX6_canExchange]
def wsX6_mendByRounds_r4 : List Cond := [Cond.code yX6_canExchange cX6_canExchange 4 (some .boolean), Cond.instanceMethod yX3_isNear, Cond.selects RX3 yX3_isNear yX3_isNear, Cond.code yX3_isNear cX3_isNear 3 (some .boolean), Cond.instanceMethod yX3_take, Cond.selects RX3 yX3_take yX3_take, Cond.code yX3_take cX3_take 3 none, Cond.methodLink RX6 165 yX6_exchange, Cond.instanceMethod yX6_exchange, Cond.selects RX6 yX6_exchange yX6_exchange, Cond.code yX6_exchange cX6_exchange 3 none, Cond.instanceMethod yX3_loosen, Cond.selects RX3 yX3_loosen yX3_loosen, Cond.code yX3_loosen cX3_loosen 3 none, Cond.methodLink RX3 32 yX3_isKnot, Cond.instanceMethod yX3_isKnot, Cond.selects RX3 yX3_isKnot yX3_isKnot, Cond.code yX3_isKnot cX3_isKnot 2 (some .boolean), Cond.instanceMethod yX3_join, Cond.selects RX3 yX3_join yX3_join, Cond.code yX3_join cX3_join 3 none]
def wsX6_mendByRounds : List Cond := .code yX6_mendByRounds cX6_mendByRounds 12 (some .int) :: ((wsX6_mendByRounds_r1 ++ (wsX6_mendByRounds_r2 ++ (wsX6_mendByRounds_r3 ++ wsX6_mendByRounds_r4))) ++ wsX60 ++ wsX30)
def wsX6_mend_r1 : List Cond := [Cond.classLink RX6 66 "java/lang/IllegalArgumentException", Cond.initialized "java/lang/IllegalArgumentException", Cond.classLink RX6 106 "java/lang/IllegalStateException", Cond.initialized "java/lang/IllegalStateException", Cond.fieldLink RX6 12 "Shortring" "net" "LShortring$Net;", Cond.fieldLink RX6 26 "Shortring" "hunt" "LShortring$Hunt;", Cond.fieldLink RX6 33 "Shortring" "ledger" "LShortring$Ledger;", Cond.methodLink RX6 62 yX6_isWithin, Cond.static yX6_isWithin, Cond.initialized RX6, Cond.code yX6_isWithin cX6_isWithin 3 (some .boolean), Cond.instanceMethod yX3_edgesInAll, Cond.initialized RX3, Cond.selects RX3 yX3_edgesInAll yX3_edgesInAll, Cond.code yX3_edgesInAll cX3_edgesInAll 3 (some .int), Cond.fieldLink RX3 15 "Shortring$Net" "knots" "I", Cond.methodLink RX3 39 yX3_countOf, Cond.instanceMethod yX3_countOf, Cond.selects RX3 yX3_countOf yX3_countOf, Cond.code yX3_countOf cX3_countOf 2 (some .int), Cond.methodLink RX3 19 yX3_nearOf, Cond.instanceMethod yX3_nearOf, Cond.selects RX3 yX3_nearOf yX3_nearOf, Cond.code yX3_nearOf cX3_nearOf 2 (some .int)]
def wsX6_mend_r2 : List Cond := [Cond.fieldLink RX3 9 "Shortring$Net" "near" "[I", Cond.methodLink RX3 27 yJ6_bitCount_0f7a4, Cond.static yJ6_bitCount_0f7a4, Cond.initialized RJ6, Cond.code yJ6_bitCount_0f7a4 cJ6_bitCount_0f7a4 1 (some .int), Cond.constant RJ6 265 (1431655765), Cond.constant RJ6 266 (858993459), Cond.constant RJ6 267 (252645135), Cond.methodLink RX6 176 yX6_mendByRounds, Cond.instanceMethod yX6_mendByRounds, Cond.selects RX6 yX6_mendByRounds yX6_mendByRounds, Cond.code yX6_mendByRounds cX6_mendByRounds 12 (some .int), Cond.constant RX6 395 (1103515245), Cond.constant RX6 396 (2147483647), Cond.fieldLink RX6 16 "Shortring" "scratch" "LShortring$Net;", Cond.methodLink RX6 392 yX6_shortRings, Cond.instanceMethod yX6_shortRings, Cond.selects RX6 yX6_shortRings yX6_shortRings, Cond.code yX6_shortRings cX6_shortRings 4 (some .int), Cond.methodLink RX6 292 yX6_countRings, Cond.instanceMethod yX6_countRings, Cond.selects RX6 yX6_countRings yX6_countRings, Cond.code yX6_countRings cX6_countRings 3 none, Cond.fieldLink RX6 51 "Shortring" "tally" "[I"]
def wsX6_mend_r3 : List Cond := [Cond.methodLink RX6 118 yX6_bit, Cond.static yX6_bit, Cond.code yX6_bit cX6_bit 1 (some .int), Cond.methodLink RX6 397 yX6_walk, Cond.static yX6_walk, Cond.code yX6_walk cX6_walk 9 none, Cond.methodLink RX6 270 yJ6_bitCount_0f7a4, Cond.methodLink RX6 386 yX6_holds, Cond.static yX6_holds, Cond.code yX6_holds cX6_holds 2 (some .boolean), Cond.methodLink RX6 295 yX6_tallied, Cond.instanceMethod yX6_tallied, Cond.selects RX6 yX6_tallied yX6_tallied, Cond.code yX6_tallied cX6_tallied 2 (some .int), Cond.instanceMethod yX3_edgeAt, Cond.selects RX3 yX3_edgeAt yX3_edgeAt, Cond.code yX3_edgeAt cX3_edgeAt 6 (some .int), Cond.methodLink RX3 42 yX3_numberedIn, Cond.static yX3_numberedIn, Cond.code yX3_numberedIn cX3_numberedIn 4 (some .int), Cond.static yX6_firstOf, Cond.code yX6_firstOf cX6_firstOf 1 (some .int), Cond.static yX6_pairOf, Cond.code yX6_pairOf cX6_pairOf 2 (some .int)]
def wsX6_mend_r4 : List Cond := [Cond.methodLink RX6 158 yX6_turned, Cond.static yX6_turned, Cond.code yX6_turned cX6_turned 2 (some .int), Cond.methodLink RX6 280 yX6_otherOf, Cond.static yX6_otherOf, Cond.code yX6_otherOf cX6_otherOf 1 (some .int), Cond.methodLink RX6 277 yX6_oneOf, Cond.static yX6_oneOf, Cond.code yX6_oneOf cX6_oneOf 1 (some .int), Cond.methodLink RX6 389 yX6_pairOf, Cond.methodLink RX6 162 yX6_canExchange, Cond.instanceMethod yX6_canExchange, Cond.selects RX6 yX6_canExchange yX6_canExchange, Cond.code yX6_canExchange cX6_canExchange 4 (some .boolean), Cond.instanceMethod yX3_isNear, Cond.selects RX3 yX3_isNear yX3_isNear, Cond.code yX3_isNear cX3_isNear 3 (some .boolean), Cond.instanceMethod yX3_take, Cond.selects RX3 yX3_take yX3_take, Cond.code yX3_take cX3_take 3 none, Cond.methodLink RX6 165 yX6_exchange, Cond.instanceMethod yX6_exchange, Cond.selects RX6 yX6_exchange yX6_exchange, Cond.code yX6_exchange cX6_exchange 3 none]
def wsX6_mend_r5 : List Cond := [Cond.instanceMethod yX3_loosen, Cond.selects RX3 yX3_loosen yX3_loosen, Cond.code yX3_loosen cX3_loosen 3 none, Cond.methodLink RX3 32 yX3_isKnot, Cond.instanceMethod yX3_isKnot, Cond.selects RX3 yX3_isKnot yX3_isKnot, Cond.code yX3_isKnot cX3_isKnot 2 (some .boolean), Cond.instanceMethod yX3_join, Cond.selects RX3 yX3_join yX3_join, Cond.code yX3_join cX3_join 3 none, Cond.instanceMethod yX0_end, Cond.initialized RX0, Cond.selects RX0 yX0_end yX0_end, Cond.code yX0_end cX0_end 1 none, Cond.fieldLink RX0 24 "Shortring$Hunt" "isOn" "Z", Cond.instanceMethod yX1_look, Cond.initialized RX1, Cond.selects RX1 yX1_look yX1_look, Cond.code yX1_look cX1_look 4 none, Cond.fieldLink RX1 15 "Shortring$Ledger" "smallest" "[I", Cond.instanceMethod yX3_evenCount, Cond.selects RX3 yX3_evenCount yX3_evenCount, Cond.code yX3_evenCount cX3_evenCount 3 (some .int), Cond.static yX5_leastRing]
def wsX6_mend_r6 : List Cond := [Cond.initialized RX5, Cond.code yX5_leastRing cX5_leastRing 3 (some .int), Cond.methodLink RX5 66 yX5_leastRingAt, Cond.static yX5_leastRingAt, Cond.code yX5_leastRingAt cX5_leastRingAt 4 (some .int), Cond.methodLink RX5 60 yX5_leastRingBy, Cond.static yX5_leastRingBy, Cond.code yX5_leastRingBy cX5_leastRingBy 6 (some .int), Cond.methodLink RX5 23 yX5_around, Cond.static yX5_around, Cond.code yX5_around cX5_around 6 (some .int), Cond.methodLink RX5 9 yJ6_bitCount_0f7a4, Cond.static yX6_lesser, Cond.code yX6_lesser cX6_lesser 2 (some .int), Cond.methodLink RX6 324 Lib.Math.min.name, Cond.static Lib.Math.min.name, Cond.initialized "java/lang/Math", Cond.code Lib.Math.min.name Lib.Math.min.code 2 (some .int), Cond.methodLink RX1 44 yX1_tablePlace, Cond.instanceMethod yX1_tablePlace, Cond.selects RX1 yX1_tablePlace yX1_tablePlace, Cond.code yX1_tablePlace cX1_tablePlace 5 (some .int)]
def wsX6_mend : List Cond := .code yX6_mend cX6_mend 5 (some .int) :: ((wsX6_mend_r1 ++ (wsX6_mend_r2 ++ (wsX6_mend_r3 ++ (wsX6_mend_r4 ++ (wsX6_mend_r5 ++ wsX6_mend_r6))))) ++ wsX60 ++ wsX30 ++ wsX00 ++ wsX10 ++ (vx_atS RX6 70 "java/lang/IllegalArgumentException" ["java/lang/RuntimeException", "java/lang/Exception"]).filter goodWord ++ (vx_atS RX6 110 "java/lang/IllegalStateException" ["java/lang/RuntimeException", "java/lang/Exception"]).filter goodWord)
def wsX6_requireTabled : List Cond := .code yX6_requireTabled cX6_requireTabled 3 none :: ([.classLink RX6 66 "java/lang/IllegalArgumentException", .initialized "java/lang/IllegalArgumentException", .methodLink RX6 62 yX6_isWithin, .static yX6_isWithin, .initialized RX6, .code yX6_isWithin cX6_isWithin 3 (some .boolean)] ++ (vx_atS RX6 70 "java/lang/IllegalArgumentException" ["java/lang/RuntimeException", "java/lang/Exception"]).filter goodWord)
def wsX6_aim_r1 : List Cond := [Cond.classLink RX6 106 "java/lang/IllegalStateException", Cond.initialized "java/lang/IllegalStateException", Cond.fieldLink RX6 12 "Shortring" "net" "LShortring$Net;", Cond.fieldLink RX6 26 "Shortring" "hunt" "LShortring$Hunt;", Cond.fieldLink RX6 33 "Shortring" "ledger" "LShortring$Ledger;", Cond.methodLink RX6 180 yX6_requireTabled, Cond.instanceMethod yX6_requireTabled, Cond.selects RX6 yX6_requireTabled yX6_requireTabled, Cond.initialized RX6, Cond.code yX6_requireTabled cX6_requireTabled 3 none, Cond.classLink RX6 66 "java/lang/IllegalArgumentException", Cond.initialized "java/lang/IllegalArgumentException", Cond.methodLink RX6 62 yX6_isWithin, Cond.static yX6_isWithin, Cond.code yX6_isWithin cX6_isWithin 3 (some .boolean), Cond.instanceMethod yX3_lay, Cond.initialized RX3, Cond.selects RX3 yX3_lay yX3_lay, Cond.code yX3_lay cX3_lay 3 none, Cond.fieldLink RX3 15 "Shortring$Net" "knots" "I", Cond.fieldLink RX3 9 "Shortring$Net" "near" "[I", Cond.instanceMethod yX0_begin, Cond.initialized RX0, Cond.selects RX0 yX0_begin yX0_begin]
def wsX6_aim_r2 : List Cond := [Cond.code yX0_begin cX0_begin 3 none, Cond.fieldLink RX0 24 "Shortring$Hunt" "isOn" "Z", Cond.fieldLink RX0 32 "Shortring$Hunt" "count" "I", Cond.fieldLink RX0 35 "Shortring$Hunt" "length" "I", Cond.fieldLink RX0 38 "Shortring$Hunt" "steps" "I", Cond.fieldLink RX0 28 "Shortring$Hunt" "state" "I", Cond.fieldLink RX0 41 "Shortring$Hunt" "putMany" "I", Cond.methodLink RX0 44 yX0_unbarDownTo, Cond.instanceMethod yX0_unbarDownTo, Cond.selects RX0 yX0_unbarDownTo yX0_unbarDownTo, Cond.code yX0_unbarDownTo cX0_unbarDownTo 3 none, Cond.fieldLink RX0 68 "Shortring$Hunt" "barMany" "I", Cond.fieldLink RX0 15 "Shortring$Hunt" "bars" "[I", Cond.static yX6_oneOf, Cond.code yX6_oneOf cX6_oneOf 1 (some .int), Cond.static yX6_otherOf, Cond.code yX6_otherOf cX6_otherOf 1 (some .int), Cond.methodLink RX0 90 yX0_flipBar, Cond.instanceMethod yX0_flipBar, Cond.selects RX0 yX0_flipBar yX0_flipBar, Cond.code yX0_flipBar cX0_flipBar 3 none, Cond.fieldLink RX0 9 "Shortring$Hunt" "barredWith" "[I", Cond.static yX6_bit, Cond.code yX6_bit cX6_bit 1 (some .int)]
def wsX6_aim_r3 : List Cond := [Cond.instanceMethod yX1_look, Cond.initialized RX1, Cond.selects RX1 yX1_look yX1_look, Cond.code yX1_look cX1_look 4 none, Cond.fieldLink RX1 15 "Shortring$Ledger" "smallest" "[I", Cond.instanceMethod yX3_evenCount, Cond.selects RX3 yX3_evenCount yX3_evenCount, Cond.code yX3_evenCount cX3_evenCount 3 (some .int), Cond.methodLink RX3 39 yX3_countOf, Cond.instanceMethod yX3_countOf, Cond.selects RX3 yX3_countOf yX3_countOf, Cond.code yX3_countOf cX3_countOf 2 (some .int), Cond.methodLink RX3 19 yX3_nearOf, Cond.instanceMethod yX3_nearOf, Cond.selects RX3 yX3_nearOf yX3_nearOf, Cond.code yX3_nearOf cX3_nearOf 2 (some .int), Cond.methodLink RX3 27 yJ6_bitCount_0f7a4, Cond.static yJ6_bitCount_0f7a4, Cond.initialized RJ6, Cond.code yJ6_bitCount_0f7a4 cJ6_bitCount_0f7a4 1 (some .int), Cond.constant RJ6 265 (1431655765), Cond.constant RJ6 266 (858993459), Cond.constant RJ6 267 (252645135), Cond.static yX5_leastRing]
def wsX6_aim_r4 : List Cond := [Cond.initialized RX5, Cond.code yX5_leastRing cX5_leastRing 3 (some .int), Cond.methodLink RX5 66 yX5_leastRingAt, Cond.static yX5_leastRingAt, Cond.code yX5_leastRingAt cX5_leastRingAt 4 (some .int), Cond.instanceMethod yX3_isNear, Cond.selects RX3 yX3_isNear yX3_isNear, Cond.code yX3_isNear cX3_isNear 3 (some .boolean), Cond.static yX6_holds, Cond.code yX6_holds cX6_holds 2 (some .boolean), Cond.methodLink RX5 60 yX5_leastRingBy, Cond.static yX5_leastRingBy, Cond.code yX5_leastRingBy cX5_leastRingBy 6 (some .int), Cond.methodLink RX5 23 yX5_around, Cond.static yX5_around, Cond.code yX5_around cX5_around 6 (some .int), Cond.methodLink RX5 9 yJ6_bitCount_0f7a4, Cond.static yX6_lesser, Cond.code yX6_lesser cX6_lesser 2 (some .int), Cond.methodLink RX6 324 Lib.Math.min.name, Cond.static Lib.Math.min.name, Cond.initialized "java/lang/Math", Cond.code Lib.Math.min.name Lib.Math.min.code 2 (some .int), Cond.methodLink RX1 44 yX1_tablePlace]
def wsX6_aim_r5 : List Cond := [Cond.instanceMethod yX1_tablePlace, Cond.selects RX1 yX1_tablePlace yX1_tablePlace, Cond.code yX1_tablePlace cX1_tablePlace 5 (some .int), Cond.instanceMethod yX1_why, Cond.selects RX1 yX1_why yX1_why, Cond.code yX1_why cX1_why 4 (some .int), Cond.methodLink RX1 18 yX1_leastKnots, Cond.static yX1_leastKnots, Cond.code yX1_leastKnots cX1_leastKnots 6 (some .int), Cond.methodLink RX1 22 yX1_isProved, Cond.instanceMethod yX1_isProved, Cond.selects RX1 yX1_isProved yX1_isProved, Cond.code yX1_isProved cX1_isProved 6 (some .boolean), Cond.fieldLink RX1 9 "Shortring$Ledger" "leastProved" "[I", Cond.methodLink RX1 29 yX1_proofPlace, Cond.instanceMethod yX1_proofPlace, Cond.selects RX1 yX1_proofPlace yX1_proofPlace, Cond.code yX1_proofPlace cX1_proofPlace 5 (some .int)]
def wsX6_aim : List Cond := .code yX6_aim cX6_aim 3 (some .int) :: ((wsX6_aim_r1 ++ (wsX6_aim_r2 ++ (wsX6_aim_r3 ++ (wsX6_aim_r4 ++ wsX6_aim_r5)))) ++ wsX60 ++ wsX30 ++ wsX00 ++ wsX10 ++ (vx_atS RX6 110 "java/lang/IllegalStateException" ["java/lang/RuntimeException", "java/lang/Exception"]).filter goodWord ++ (vx_atS RX6 70 "java/lang/IllegalArgumentException" ["java/lang/RuntimeException", "java/lang/Exception"]).filter goodWord)
def wsX6_grow_r1 : List Cond := [Cond.classLink RX6 66 "java/lang/IllegalArgumentException", Cond.initialized "java/lang/IllegalArgumentException", Cond.classLink RX6 106 "java/lang/IllegalStateException", Cond.initialized "java/lang/IllegalStateException", Cond.fieldLink RX6 26 "Shortring" "hunt" "LShortring$Hunt;", Cond.fieldLink RX6 12 "Shortring" "net" "LShortring$Net;", Cond.fieldLink RX6 33 "Shortring" "ledger" "LShortring$Ledger;", Cond.methodLink RX6 62 yX6_isWithin, Cond.static yX6_isWithin, Cond.initialized RX6, Cond.code yX6_isWithin cX6_isWithin 3 (some .boolean), Cond.instanceMethod yX0_step, Cond.initialized RX0, Cond.selects RX0 yX0_step yX0_step, Cond.code yX0_step cX0_step 4 none, Cond.fieldLink RX0 38 "Shortring$Hunt" "steps" "I", Cond.fieldLink RX0 28 "Shortring$Hunt" "state" "I", Cond.methodLink RX0 48 yX0_nextKnot, Cond.instanceMethod yX0_nextKnot, Cond.selects RX0 yX0_nextKnot yX0_nextKnot, Cond.code yX0_nextKnot cX0_nextKnot 7 (some .int), Cond.methodLink RX0 112 yX0_needy, Cond.instanceMethod yX0_needy, Cond.selects RX0 yX0_needy yX0_needy]
def wsX6_grow_r2 : List Cond := [Cond.code yX0_needy cX0_needy 4 (some .int), Cond.fieldLink RX0 32 "Shortring$Hunt" "count" "I", Cond.instanceMethod yX3_countOf, Cond.initialized RX3, Cond.selects RX3 yX3_countOf yX3_countOf, Cond.code yX3_countOf cX3_countOf 2 (some .int), Cond.methodLink RX3 19 yX3_nearOf, Cond.instanceMethod yX3_nearOf, Cond.selects RX3 yX3_nearOf yX3_nearOf, Cond.code yX3_nearOf cX3_nearOf 2 (some .int), Cond.fieldLink RX3 9 "Shortring$Net" "near" "[I", Cond.methodLink RX3 27 yJ6_bitCount_0f7a4, Cond.static yJ6_bitCount_0f7a4, Cond.initialized RJ6, Cond.code yJ6_bitCount_0f7a4 cJ6_bitCount_0f7a4 1 (some .int), Cond.constant RJ6 265 (1431655765), Cond.constant RJ6 266 (858993459), Cond.constant RJ6 267 (252645135), Cond.static yX6_bit, Cond.code yX6_bit cX6_bit 1 (some .int), Cond.static yX6_holds, Cond.code yX6_holds cX6_holds 2 (some .boolean), Cond.methodLink RX0 115 yX0_joinableOf, Cond.instanceMethod yX0_joinableOf]
def wsX6_grow_r3 : List Cond := [Cond.selects RX0 yX0_joinableOf yX0_joinableOf, Cond.code yX0_joinableOf cX0_joinableOf 4 (some .int), Cond.fieldLink RX0 9 "Shortring$Hunt" "barredWith" "[I", Cond.fieldLink RX0 35 "Shortring$Hunt" "length" "I", Cond.static yX5_within, Cond.initialized RX5, Cond.code yX5_within cX5_within 6 (some .int), Cond.methodLink RX5 23 yX5_around, Cond.static yX5_around, Cond.code yX5_around cX5_around 6 (some .int), Cond.methodLink RX5 9 yJ6_bitCount_0f7a4, Cond.methodLink RX0 118 yJ6_bitCount_0f7a4, Cond.methodLink RX0 52 yX0_partnerOf, Cond.instanceMethod yX0_partnerOf, Cond.selects RX0 yX0_partnerOf yX0_partnerOf, Cond.code yX0_partnerOf cX0_partnerOf 5 (some .int), Cond.static yX6_firstOf, Cond.code yX6_firstOf cX6_firstOf 1 (some .int), Cond.methodLink RX6 270 yJ6_bitCount_0f7a4, Cond.methodLink RX0 56 yX0_goBack, Cond.instanceMethod yX0_goBack, Cond.selects RX0 yX0_goBack yX0_goBack, Cond.code yX0_goBack cX0_goBack 3 none, Cond.fieldLink RX0 41 "Shortring$Hunt" "putMany" "I"]
def wsX6_grow_r4 : List Cond := [Cond.fieldLink RX0 18 "Shortring$Hunt" "puts" "[I", Cond.fieldLink RX0 21 "Shortring$Hunt" "barsAtPut" "[I", Cond.methodLink RX0 44 yX0_unbarDownTo, Cond.instanceMethod yX0_unbarDownTo, Cond.selects RX0 yX0_unbarDownTo yX0_unbarDownTo, Cond.code yX0_unbarDownTo cX0_unbarDownTo 3 none, Cond.fieldLink RX0 68 "Shortring$Hunt" "barMany" "I", Cond.fieldLink RX0 15 "Shortring$Hunt" "bars" "[I", Cond.static yX6_oneOf, Cond.code yX6_oneOf cX6_oneOf 1 (some .int), Cond.static yX6_otherOf, Cond.code yX6_otherOf cX6_otherOf 1 (some .int), Cond.methodLink RX0 90 yX0_flipBar, Cond.instanceMethod yX0_flipBar, Cond.selects RX0 yX0_flipBar yX0_flipBar, Cond.code yX0_flipBar cX0_flipBar 3 none, Cond.instanceMethod yX3_loosen, Cond.selects RX3 yX3_loosen yX3_loosen, Cond.code yX3_loosen cX3_loosen 3 none, Cond.methodLink RX3 32 yX3_isKnot, Cond.instanceMethod yX3_isKnot, Cond.selects RX3 yX3_isKnot yX3_isKnot, Cond.code yX3_isKnot cX3_isKnot 2 (some .boolean), Cond.fieldLink RX3 15 "Shortring$Net" "knots" "I"]
def wsX6_grow_r5 : List Cond := [Cond.methodLink RX0 87 yX0_bar, Cond.instanceMethod yX0_bar, Cond.selects RX0 yX0_bar yX0_bar, Cond.code yX0_bar cX0_bar 2 none, Cond.methodLink RX0 60 yX0_put, Cond.instanceMethod yX0_put, Cond.selects RX0 yX0_put yX0_put, Cond.code yX0_put cX0_put 4 none, Cond.static yX6_pairOf, Cond.code yX6_pairOf cX6_pairOf 2 (some .int), Cond.instanceMethod yX3_join, Cond.selects RX3 yX3_join yX3_join, Cond.code yX3_join cX3_join 3 none, Cond.instanceMethod yX1_prove, Cond.initialized RX1, Cond.selects RX1 yX1_prove yX1_prove, Cond.code yX1_prove cX1_prove 5 none, Cond.fieldLink RX1 9 "Shortring$Ledger" "leastProved" "[I", Cond.methodLink RX1 29 yX1_proofPlace, Cond.instanceMethod yX1_proofPlace, Cond.selects RX1 yX1_proofPlace yX1_proofPlace, Cond.code yX1_proofPlace cX1_proofPlace 5 (some .int), Cond.methodLink RX1 22 yX1_isProved, Cond.instanceMethod yX1_isProved]
def wsX6_grow_r6 : List Cond := [Cond.selects RX1 yX1_isProved yX1_isProved, Cond.code yX1_isProved cX1_isProved 6 (some .boolean), Cond.instanceMethod yX1_look, Cond.selects RX1 yX1_look yX1_look, Cond.code yX1_look cX1_look 4 none, Cond.fieldLink RX1 15 "Shortring$Ledger" "smallest" "[I", Cond.instanceMethod yX3_evenCount, Cond.selects RX3 yX3_evenCount yX3_evenCount, Cond.code yX3_evenCount cX3_evenCount 3 (some .int), Cond.methodLink RX3 39 yX3_countOf, Cond.static yX5_leastRing, Cond.code yX5_leastRing cX5_leastRing 3 (some .int), Cond.methodLink RX5 66 yX5_leastRingAt, Cond.static yX5_leastRingAt, Cond.code yX5_leastRingAt cX5_leastRingAt 4 (some .int), Cond.instanceMethod yX3_isNear, Cond.selects RX3 yX3_isNear yX3_isNear, Cond.code yX3_isNear cX3_isNear 3 (some .boolean), Cond.methodLink RX5 60 yX5_leastRingBy, Cond.static yX5_leastRingBy, Cond.code yX5_leastRingBy cX5_leastRingBy 6 (some .int), Cond.static yX6_lesser, Cond.code yX6_lesser cX6_lesser 2 (some .int), Cond.methodLink RX6 324 Lib.Math.min.name]
def wsX6_grow_r7 : List Cond := [Cond.static Lib.Math.min.name, Cond.initialized "java/lang/Math", Cond.code Lib.Math.min.name Lib.Math.min.code 2 (some .int), Cond.methodLink RX1 44 yX1_tablePlace, Cond.instanceMethod yX1_tablePlace, Cond.selects RX1 yX1_tablePlace yX1_tablePlace, Cond.code yX1_tablePlace cX1_tablePlace 5 (some .int)]
def wsX6_grow : List Cond := .code yX6_grow cX6_grow 3 (some .int) :: ((wsX6_grow_r1 ++ (wsX6_grow_r2 ++ (wsX6_grow_r3 ++ (wsX6_grow_r4 ++ (wsX6_grow_r5 ++ (wsX6_grow_r6 ++ wsX6_grow_r7)))))) ++ wsX60 ++ wsX00 ++ wsX30 ++ wsX10 ++ (vx_atS RX6 70 "java/lang/IllegalArgumentException" ["java/lang/RuntimeException", "java/lang/Exception"]).filter goodWord ++ (vx_atS RX6 110 "java/lang/IllegalStateException" ["java/lang/RuntimeException", "java/lang/Exception"]).filter goodWord)
def wsX6_search_r1 : List Cond := [Cond.classLink RX6 66 "java/lang/IllegalArgumentException", Cond.initialized "java/lang/IllegalArgumentException", Cond.fieldLink RX6 26 "Shortring" "hunt" "LShortring$Hunt;", Cond.fieldLink RX6 12 "Shortring" "net" "LShortring$Net;", Cond.methodLink RX6 62 yX6_isWithin, Cond.static yX6_isWithin, Cond.initialized RX6, Cond.code yX6_isWithin cX6_isWithin 3 (some .boolean), Cond.instanceMethod yX0_nextKnot, Cond.initialized RX0, Cond.selects RX0 yX0_nextKnot yX0_nextKnot, Cond.code yX0_nextKnot cX0_nextKnot 7 (some .int), Cond.fieldLink RX0 28 "Shortring$Hunt" "state" "I", Cond.methodLink RX0 112 yX0_needy, Cond.instanceMethod yX0_needy, Cond.selects RX0 yX0_needy yX0_needy, Cond.code yX0_needy cX0_needy 4 (some .int), Cond.fieldLink RX0 32 "Shortring$Hunt" "count" "I", Cond.instanceMethod yX3_countOf, Cond.initialized RX3, Cond.selects RX3 yX3_countOf yX3_countOf, Cond.code yX3_countOf cX3_countOf 2 (some .int), Cond.methodLink RX3 19 yX3_nearOf, Cond.instanceMethod yX3_nearOf]
def wsX6_search_r2 : List Cond := [Cond.selects RX3 yX3_nearOf yX3_nearOf, Cond.code yX3_nearOf cX3_nearOf 2 (some .int), Cond.fieldLink RX3 9 "Shortring$Net" "near" "[I", Cond.methodLink RX3 27 yJ6_bitCount_0f7a4, Cond.static yJ6_bitCount_0f7a4, Cond.initialized RJ6, Cond.code yJ6_bitCount_0f7a4 cJ6_bitCount_0f7a4 1 (some .int), Cond.constant RJ6 265 (1431655765), Cond.constant RJ6 266 (858993459), Cond.constant RJ6 267 (252645135), Cond.static yX6_bit, Cond.code yX6_bit cX6_bit 1 (some .int), Cond.static yX6_holds, Cond.code yX6_holds cX6_holds 2 (some .boolean), Cond.methodLink RX0 115 yX0_joinableOf, Cond.instanceMethod yX0_joinableOf, Cond.selects RX0 yX0_joinableOf yX0_joinableOf, Cond.code yX0_joinableOf cX0_joinableOf 4 (some .int), Cond.fieldLink RX0 9 "Shortring$Hunt" "barredWith" "[I", Cond.fieldLink RX0 35 "Shortring$Hunt" "length" "I", Cond.static yX5_within, Cond.initialized RX5, Cond.code yX5_within cX5_within 6 (some .int), Cond.methodLink RX5 23 yX5_around]
def wsX6_search_r3 : List Cond := [Cond.static yX5_around, Cond.code yX5_around cX5_around 6 (some .int), Cond.methodLink RX5 9 yJ6_bitCount_0f7a4, Cond.methodLink RX0 118 yJ6_bitCount_0f7a4, Cond.instanceMethod yX0_partnerOf, Cond.selects RX0 yX0_partnerOf yX0_partnerOf, Cond.code yX0_partnerOf cX0_partnerOf 5 (some .int), Cond.static yX6_firstOf, Cond.code yX6_firstOf cX6_firstOf 1 (some .int), Cond.methodLink RX6 270 yJ6_bitCount_0f7a4]
def wsX6_search : List Cond := .code yX6_search cX6_search 2 (some .int) :: ((wsX6_search_r1 ++ (wsX6_search_r2 ++ wsX6_search_r3)) ++ wsX60 ++ wsX00 ++ wsX30 ++ (vx_atS RX6 70 "java/lang/IllegalArgumentException" ["java/lang/RuntimeException", "java/lang/Exception"]).filter goodWord)
def wsX6_now_r1 : List Cond := [Cond.classLink RX6 66 "java/lang/IllegalArgumentException", Cond.initialized "java/lang/IllegalArgumentException", Cond.fieldLink RX6 12 "Shortring" "net" "LShortring$Net;", Cond.fieldLink RX6 47 "Shortring" "paint" "LShortring$Paint;", Cond.fieldLink RX6 40 "Shortring" "likeness" "LShortring$Likeness;", Cond.fieldLink RX6 55 "Shortring" "keptMany" "I", Cond.fieldLink RX6 59 "Shortring" "refused" "I", Cond.methodLink RX6 62 yX6_isWithin, Cond.static yX6_isWithin, Cond.initialized RX6, Cond.code yX6_isWithin cX6_isWithin 3 (some .boolean), Cond.instanceMethod yX3_edgesInAll, Cond.initialized RX3, Cond.selects RX3 yX3_edgesInAll yX3_edgesInAll, Cond.code yX3_edgesInAll cX3_edgesInAll 3 (some .int), Cond.fieldLink RX3 15 "Shortring$Net" "knots" "I", Cond.methodLink RX3 39 yX3_countOf, Cond.instanceMethod yX3_countOf, Cond.selects RX3 yX3_countOf yX3_countOf, Cond.code yX3_countOf cX3_countOf 2 (some .int), Cond.methodLink RX3 19 yX3_nearOf, Cond.instanceMethod yX3_nearOf, Cond.selects RX3 yX3_nearOf yX3_nearOf, Cond.code yX3_nearOf cX3_nearOf 2 (some .int)]
def wsX6_now_r2 : List Cond := [Cond.fieldLink RX3 9 "Shortring$Net" "near" "[I", Cond.methodLink RX3 27 yJ6_bitCount_0f7a4, Cond.static yJ6_bitCount_0f7a4, Cond.initialized RJ6, Cond.code yJ6_bitCount_0f7a4 cJ6_bitCount_0f7a4 1 (some .int), Cond.constant RJ6 265 (1431655765), Cond.constant RJ6 266 (858993459), Cond.constant RJ6 267 (252645135), Cond.static yX5_partsInAll, Cond.initialized RX5, Cond.code yX5_partsInAll cX5_partsInAll 4 (some .int), Cond.static yX6_holds, Cond.code yX6_holds cX6_holds 2 (some .boolean), Cond.methodLink RX5 41 yX5_partWith, Cond.static yX5_partWith, Cond.code yX5_partWith cX5_partWith 2 (some .int), Cond.methodLink RX5 29 yX5_within, Cond.static yX5_within, Cond.code yX5_within cX5_within 6 (some .int), Cond.static yX6_bit, Cond.code yX6_bit cX6_bit 1 (some .int), Cond.methodLink RX5 23 yX5_around, Cond.static yX5_around, Cond.code yX5_around cX5_around 6 (some .int)]
def wsX6_now_r3 : List Cond := [Cond.methodLink RX5 9 yJ6_bitCount_0f7a4, Cond.static yX5_leastRing, Cond.code yX5_leastRing cX5_leastRing 3 (some .int), Cond.methodLink RX5 66 yX5_leastRingAt, Cond.static yX5_leastRingAt, Cond.code yX5_leastRingAt cX5_leastRingAt 4 (some .int), Cond.instanceMethod yX3_isNear, Cond.selects RX3 yX3_isNear yX3_isNear, Cond.code yX3_isNear cX3_isNear 3 (some .boolean), Cond.methodLink RX5 60 yX5_leastRingBy, Cond.static yX5_leastRingBy, Cond.code yX5_leastRingBy cX5_leastRingBy 6 (some .int), Cond.static yX6_lesser, Cond.code yX6_lesser cX6_lesser 2 (some .int), Cond.methodLink RX6 324 Lib.Math.min.name, Cond.static Lib.Math.min.name, Cond.initialized "java/lang/Math", Cond.code Lib.Math.min.name Lib.Math.min.code 2 (some .int), Cond.instanceMethod yX3_evenCount, Cond.selects RX3 yX3_evenCount yX3_evenCount, Cond.code yX3_evenCount cX3_evenCount 3 (some .int), Cond.static yX5_width, Cond.code yX5_width cX5_width 3 (some .int), Cond.methodLink RX5 51 Lib.Math.max.name]
def wsX6_now_r4 : List Cond := [Cond.static Lib.Math.max.name, Cond.code Lib.Math.max.name Lib.Math.max.code 2 (some .int), Cond.methodLink RX5 44 yX5_partsInAll, Cond.methodLink RX5 48 yX5_greatestDistance, Cond.static yX5_greatestDistance, Cond.code yX5_greatestDistance cX5_greatestDistance 5 (some .int), Cond.instanceMethod yX4_fewest, Cond.initialized RX4, Cond.selects RX4 yX4_fewest yX4_fewest, Cond.code yX4_fewest cX4_fewest 6 (some .int), Cond.methodLink RX4 31 Lib.Math.max.name, Cond.methodLink RX4 37 yX4_fewestOf, Cond.instanceMethod yX4_fewestOf, Cond.selects RX4 yX4_fewestOf yX4_fewestOf, Cond.code yX4_fewestOf cX4_fewestOf 6 (some .int), Cond.fieldLink RX4 9 "Shortring$Paint" "hues" "[I", Cond.methodLink RX4 41 yX4_canPaint, Cond.static yX4_canPaint, Cond.code yX4_canPaint cX4_canPaint 8 (some .boolean), Cond.methodLink RX4 45 yX4_hardest, Cond.static yX4_hardest, Cond.code yX4_hardest cX4_hardest 8 (some .int), Cond.instanceMethod yX2_turnsOf, Cond.initialized RX2]
def wsX6_now_r5 : List Cond := [Cond.selects RX2 yX2_turnsOf yX2_turnsOf, Cond.code yX2_turnsOf cX2_turnsOf 7 (some .int), Cond.fieldLink RX2 12 "Shortring$Likeness" "from" "LShortring$Net;", Cond.fieldLink RX2 18 "Shortring$Likeness" "to" "LShortring$Net;", Cond.methodLink RX2 50 Lib.Math.min.name, Cond.instanceMethod yX3_take, Cond.selects RX3 yX3_take yX3_take, Cond.code yX3_take cX3_take 3 none, Cond.methodLink RX2 46 yX2_partsLike, Cond.instanceMethod yX2_partsLike, Cond.selects RX2 yX2_partsLike yX2_partsLike, Cond.code yX2_partsLike cX2_partsLike 7 (some .int), Cond.methodLink RX2 55 yX2_waysOf, Cond.instanceMethod yX2_waysOf, Cond.selects RX2 yX2_waysOf yX2_waysOf, Cond.code yX2_waysOf cX2_waysOf 4 (some .int), Cond.fieldLink RX2 25 "Shortring$Likeness" "placed" "I", Cond.methodLink RX2 70 yJ6_bitCount_0f7a4, Cond.methodLink RX2 75 yX2_ways, Cond.static yX2_ways, Cond.code yX2_ways cX2_ways 9 (some .int), Cond.methodLink RX2 79 yX2_nextToPlace, Cond.instanceMethod yX2_nextToPlace, Cond.selects RX2 yX2_nextToPlace yX2_nextToPlace]
def wsX6_now_r6 : List Cond := [Cond.code yX2_nextToPlace cX2_nextToPlace 6 (some .int), Cond.methodLink RX2 82 yX2_fitting, Cond.instanceMethod yX2_fitting, Cond.selects RX2 yX2_fitting yX2_fitting, Cond.code yX2_fitting cX2_fitting 8 (some .int), Cond.fieldLink RX2 21 "Shortring$Likeness" "image" "[I", Cond.methodLink RX2 85 yX2_place, Cond.instanceMethod yX2_place, Cond.selects RX2 yX2_place yX2_place, Cond.code yX2_place cX2_place 3 none, Cond.instanceMethod yX3_loneliest, Cond.selects RX3 yX3_loneliest yX3_loneliest, Cond.code yX3_loneliest cX3_loneliest 5 (some .int)]
def wsX6_now : List Cond := .code yX6_now cX6_now 2 (some .int) :: ((wsX6_now_r1 ++ (wsX6_now_r2 ++ (wsX6_now_r3 ++ (wsX6_now_r4 ++ (wsX6_now_r5 ++ wsX6_now_r6))))) ++ wsX60 ++ wsX30 ++ wsX40 ++ wsX20 ++ (vx_atS RX6 70 "java/lang/IllegalArgumentException" ["java/lang/RuntimeException", "java/lang/Exception"]).filter goodWord)
def wsX6_ofKnot_r1 : List Cond := [Cond.classLink RX6 91 "java/lang/IndexOutOfBoundsException", Cond.initialized "java/lang/IndexOutOfBoundsException", Cond.classLink RX6 66 "java/lang/IllegalArgumentException", Cond.initialized "java/lang/IllegalArgumentException", Cond.fieldLink RX6 12 "Shortring" "net" "LShortring$Net;", Cond.fieldLink RX6 26 "Shortring" "hunt" "LShortring$Hunt;", Cond.instanceMethod yX3_isKnot, Cond.initialized RX3, Cond.selects RX3 yX3_isKnot yX3_isKnot, Cond.code yX3_isKnot cX3_isKnot 2 (some .boolean), Cond.fieldLink RX3 15 "Shortring$Net" "knots" "I", Cond.fieldLink RX3 9 "Shortring$Net" "near" "[I", Cond.methodLink RX6 62 yX6_isWithin, Cond.static yX6_isWithin, Cond.initialized RX6, Cond.code yX6_isWithin cX6_isWithin 3 (some .boolean), Cond.instanceMethod yX3_countOf, Cond.selects RX3 yX3_countOf yX3_countOf, Cond.code yX3_countOf cX3_countOf 2 (some .int), Cond.methodLink RX3 19 yX3_nearOf, Cond.instanceMethod yX3_nearOf, Cond.selects RX3 yX3_nearOf yX3_nearOf, Cond.code yX3_nearOf cX3_nearOf 2 (some .int), Cond.methodLink RX3 27 yJ6_bitCount_0f7a4]
def wsX6_ofKnot_r2 : List Cond := [Cond.static yJ6_bitCount_0f7a4, Cond.initialized RJ6, Cond.code yJ6_bitCount_0f7a4 cJ6_bitCount_0f7a4 1 (some .int), Cond.constant RJ6 265 (1431655765), Cond.constant RJ6 266 (858993459), Cond.constant RJ6 267 (252645135), Cond.static yX5_partNumber, Cond.initialized RX5, Cond.code yX5_partNumber cX5_partNumber 5 (some .int), Cond.static yX6_holds, Cond.code yX6_holds cX6_holds 2 (some .boolean), Cond.methodLink RX5 41 yX5_partWith, Cond.static yX5_partWith, Cond.code yX5_partWith cX5_partWith 2 (some .int), Cond.methodLink RX5 29 yX5_within, Cond.static yX5_within, Cond.code yX5_within cX5_within 6 (some .int), Cond.static yX6_bit, Cond.code yX6_bit cX6_bit 1 (some .int), Cond.methodLink RX5 23 yX5_around, Cond.static yX5_around, Cond.code yX5_around cX5_around 6 (some .int), Cond.methodLink RX5 9 yJ6_bitCount_0f7a4, Cond.static yX5_leastRingAt]
def wsX6_ofKnot_r3 : List Cond := [Cond.code yX5_leastRingAt cX5_leastRingAt 4 (some .int), Cond.instanceMethod yX3_isNear, Cond.selects RX3 yX3_isNear yX3_isNear, Cond.code yX3_isNear cX3_isNear 3 (some .boolean), Cond.methodLink RX5 60 yX5_leastRingBy, Cond.static yX5_leastRingBy, Cond.code yX5_leastRingBy cX5_leastRingBy 6 (some .int), Cond.static yX6_lesser, Cond.code yX6_lesser cX6_lesser 2 (some .int), Cond.methodLink RX6 324 Lib.Math.min.name, Cond.static Lib.Math.min.name, Cond.initialized "java/lang/Math", Cond.code Lib.Math.min.name Lib.Math.min.code 2 (some .int), Cond.static yX5_greatestDistance, Cond.code yX5_greatestDistance cX5_greatestDistance 5 (some .int), Cond.instanceMethod yX0_joinable, Cond.initialized RX0, Cond.selects RX0 yX0_joinable yX0_joinable, Cond.code yX0_joinable cX0_joinable 3 (some .int), Cond.fieldLink RX0 24 "Shortring$Hunt" "isOn" "Z", Cond.methodLink RX0 112 yX0_needy, Cond.instanceMethod yX0_needy, Cond.selects RX0 yX0_needy yX0_needy, Cond.code yX0_needy cX0_needy 4 (some .int)]
def wsX6_ofKnot_r4 : List Cond := [Cond.fieldLink RX0 32 "Shortring$Hunt" "count" "I", Cond.methodLink RX0 115 yX0_joinableOf, Cond.instanceMethod yX0_joinableOf, Cond.selects RX0 yX0_joinableOf yX0_joinableOf, Cond.code yX0_joinableOf cX0_joinableOf 4 (some .int), Cond.fieldLink RX0 9 "Shortring$Hunt" "barredWith" "[I", Cond.fieldLink RX0 35 "Shortring$Hunt" "length" "I", Cond.methodLink RX6 270 yJ6_bitCount_0f7a4]
def wsX6_ofKnot : List Cond := .code yX6_ofKnot cX6_ofKnot 3 (some .int) :: ((wsX6_ofKnot_r1 ++ (wsX6_ofKnot_r2 ++ (wsX6_ofKnot_r3 ++ wsX6_ofKnot_r4))) ++ wsX60 ++ wsX30 ++ wsX00 ++ (vx_atS RX6 95 "java/lang/IndexOutOfBoundsException" ["java/lang/RuntimeException", "java/lang/Exception"]).filter goodWord ++ (vx_atS RX6 70 "java/lang/IllegalArgumentException" ["java/lang/RuntimeException", "java/lang/Exception"]).filter goodWord)
def wsX6_ofEdge_r1 : List Cond := [Cond.classLink RX6 91 "java/lang/IndexOutOfBoundsException", Cond.initialized "java/lang/IndexOutOfBoundsException", Cond.classLink RX6 66 "java/lang/IllegalArgumentException", Cond.initialized "java/lang/IllegalArgumentException", Cond.fieldLink RX6 12 "Shortring" "net" "LShortring$Net;", Cond.instanceMethod yX3_edgeAt, Cond.initialized RX3, Cond.selects RX3 yX3_edgeAt yX3_edgeAt, Cond.code yX3_edgeAt cX3_edgeAt 6 (some .int), Cond.fieldLink RX3 15 "Shortring$Net" "knots" "I", Cond.methodLink RX3 19 yX3_nearOf, Cond.instanceMethod yX3_nearOf, Cond.selects RX3 yX3_nearOf yX3_nearOf, Cond.code yX3_nearOf cX3_nearOf 2 (some .int), Cond.fieldLink RX3 9 "Shortring$Net" "near" "[I", Cond.static yX6_bit, Cond.initialized RX6, Cond.code yX6_bit cX6_bit 1 (some .int), Cond.methodLink RX3 27 yJ6_bitCount_0f7a4, Cond.static yJ6_bitCount_0f7a4, Cond.initialized RJ6, Cond.code yJ6_bitCount_0f7a4 cJ6_bitCount_0f7a4 1 (some .int), Cond.constant RJ6 265 (1431655765), Cond.constant RJ6 266 (858993459)]
def wsX6_ofEdge_r2 : List Cond := [Cond.constant RJ6 267 (252645135), Cond.methodLink RX3 42 yX3_numberedIn, Cond.static yX3_numberedIn, Cond.code yX3_numberedIn cX3_numberedIn 4 (some .int), Cond.static yX6_firstOf, Cond.code yX6_firstOf cX6_firstOf 1 (some .int), Cond.methodLink RX6 270 yJ6_bitCount_0f7a4, Cond.static yX6_pairOf, Cond.code yX6_pairOf cX6_pairOf 2 (some .int), Cond.methodLink RX6 62 yX6_isWithin, Cond.static yX6_isWithin, Cond.code yX6_isWithin cX6_isWithin 3 (some .boolean), Cond.methodLink RX6 277 yX6_oneOf, Cond.static yX6_oneOf, Cond.code yX6_oneOf cX6_oneOf 1 (some .int), Cond.methodLink RX6 280 yX6_otherOf, Cond.static yX6_otherOf, Cond.code yX6_otherOf cX6_otherOf 1 (some .int), Cond.static yX5_leastRingBy, Cond.initialized RX5, Cond.code yX5_leastRingBy cX5_leastRingBy 6 (some .int), Cond.methodLink RX5 23 yX5_around, Cond.static yX5_around, Cond.code yX5_around cX5_around 6 (some .int)]
def wsX6_ofEdge_r3 : List Cond := [Cond.methodLink RX5 9 yJ6_bitCount_0f7a4, Cond.static yX6_holds, Cond.code yX6_holds cX6_holds 2 (some .boolean)]
def wsX6_ofEdge : List Cond := .code yX6_ofEdge cX6_ofEdge 4 (some .int) :: ((wsX6_ofEdge_r1 ++ (wsX6_ofEdge_r2 ++ wsX6_ofEdge_r3)) ++ wsX60 ++ wsX30 ++ (vx_atS RX6 95 "java/lang/IndexOutOfBoundsException" ["java/lang/RuntimeException", "java/lang/Exception"]).filter goodWord ++ (vx_atS RX6 70 "java/lang/IllegalArgumentException" ["java/lang/RuntimeException", "java/lang/Exception"]).filter goodWord)
def wsX6_rings_r1 : List Cond := [Cond.classLink RX6 66 "java/lang/IllegalArgumentException", Cond.initialized "java/lang/IllegalArgumentException", Cond.methodLink RX6 62 yX6_isWithin, Cond.static yX6_isWithin, Cond.initialized RX6, Cond.code yX6_isWithin cX6_isWithin 3 (some .boolean), Cond.methodLink RX6 292 yX6_countRings, Cond.instanceMethod yX6_countRings, Cond.selects RX6 yX6_countRings yX6_countRings, Cond.code yX6_countRings cX6_countRings 3 none, Cond.fieldLink RX6 51 "Shortring" "tally" "[I", Cond.fieldLink RX6 12 "Shortring" "net" "LShortring$Net;", Cond.methodLink RX6 118 yX6_bit, Cond.static yX6_bit, Cond.code yX6_bit cX6_bit 1 (some .int), Cond.methodLink RX6 397 yX6_walk, Cond.static yX6_walk, Cond.code yX6_walk cX6_walk 9 none, Cond.instanceMethod yX3_nearOf, Cond.initialized RX3, Cond.selects RX3 yX3_nearOf yX3_nearOf, Cond.code yX3_nearOf cX3_nearOf 2 (some .int), Cond.fieldLink RX3 9 "Shortring$Net" "near" "[I", Cond.methodLink RX6 270 yJ6_bitCount_0f7a4]
def wsX6_rings_r2 : List Cond := [Cond.static yJ6_bitCount_0f7a4, Cond.initialized RJ6, Cond.code yJ6_bitCount_0f7a4 cJ6_bitCount_0f7a4 1 (some .int), Cond.constant RJ6 265 (1431655765), Cond.constant RJ6 266 (858993459), Cond.constant RJ6 267 (252645135), Cond.methodLink RX6 386 yX6_holds, Cond.static yX6_holds, Cond.code yX6_holds cX6_holds 2 (some .boolean), Cond.methodLink RX6 295 yX6_tallied, Cond.instanceMethod yX6_tallied, Cond.selects RX6 yX6_tallied yX6_tallied, Cond.code yX6_tallied cX6_tallied 2 (some .int)]
def wsX6_rings : List Cond := .code yX6_rings cX6_rings 2 (some .int) :: ((wsX6_rings_r1 ++ wsX6_rings_r2) ++ wsX60 ++ wsX30 ++ (vx_atS RX6 70 "java/lang/IllegalArgumentException" ["java/lang/RuntimeException", "java/lang/Exception"]).filter goodWord)
def wsX6_bound : List Cond := .code yX6_bound cX6_bound 3 (some .int) :: ([.methodLink RX6 180 yX6_requireTabled, .instanceMethod yX6_requireTabled, .selects RX6 yX6_requireTabled yX6_requireTabled, .initialized RX6, .code yX6_requireTabled cX6_requireTabled 3 none, .classLink RX6 66 "java/lang/IllegalArgumentException", .initialized "java/lang/IllegalArgumentException", .methodLink RX6 62 yX6_isWithin, .static yX6_isWithin, .code yX6_isWithin cX6_isWithin 3 (some .boolean), .static yX1_leastKnots, .initialized RX1, .code yX1_leastKnots cX1_leastKnots 6 (some .int)] ++ (vx_atS RX6 70 "java/lang/IllegalArgumentException" ["java/lang/RuntimeException", "java/lang/Exception"]).filter goodWord)
def wsX6_table_r1 : List Cond := [Cond.fieldLink RX6 33 "Shortring" "ledger" "LShortring$Ledger;", Cond.methodLink RX6 180 yX6_requireTabled, Cond.instanceMethod yX6_requireTabled, Cond.selects RX6 yX6_requireTabled yX6_requireTabled, Cond.initialized RX6, Cond.code yX6_requireTabled cX6_requireTabled 3 none, Cond.classLink RX6 66 "java/lang/IllegalArgumentException", Cond.initialized "java/lang/IllegalArgumentException", Cond.methodLink RX6 62 yX6_isWithin, Cond.static yX6_isWithin, Cond.code yX6_isWithin cX6_isWithin 3 (some .boolean), Cond.instanceMethod yX1_nextOf, Cond.initialized RX1, Cond.selects RX1 yX1_nextOf yX1_nextOf, Cond.code yX1_nextOf cX1_nextOf 4 (some .int), Cond.methodLink RX1 51 yX1_why, Cond.instanceMethod yX1_why, Cond.selects RX1 yX1_why yX1_why, Cond.code yX1_why cX1_why 4 (some .int), Cond.methodLink RX1 18 yX1_leastKnots, Cond.static yX1_leastKnots, Cond.code yX1_leastKnots cX1_leastKnots 6 (some .int), Cond.methodLink RX1 22 yX1_isProved, Cond.instanceMethod yX1_isProved]
def wsX6_table_r2 : List Cond := [Cond.selects RX1 yX1_isProved yX1_isProved, Cond.code yX1_isProved cX1_isProved 6 (some .boolean), Cond.fieldLink RX1 9 "Shortring$Ledger" "leastProved" "[I", Cond.methodLink RX1 29 yX1_proofPlace, Cond.instanceMethod yX1_proofPlace, Cond.selects RX1 yX1_proofPlace yX1_proofPlace, Cond.code yX1_proofPlace cX1_proofPlace 5 (some .int), Cond.instanceMethod yX1_smallestOf, Cond.selects RX1 yX1_smallestOf yX1_smallestOf, Cond.code yX1_smallestOf cX1_smallestOf 4 (some .int), Cond.fieldLink RX1 15 "Shortring$Ledger" "smallest" "[I", Cond.methodLink RX1 44 yX1_tablePlace, Cond.instanceMethod yX1_tablePlace, Cond.selects RX1 yX1_tablePlace yX1_tablePlace, Cond.code yX1_tablePlace cX1_tablePlace 5 (some .int)]
def wsX6_table : List Cond := .code yX6_table cX6_table 4 (some .int) :: ((wsX6_table_r1 ++ wsX6_table_r2) ++ wsX60 ++ wsX10 ++ (vx_atS RX6 70 "java/lang/IllegalArgumentException" ["java/lang/RuntimeException", "java/lang/Exception"]).filter goodWord)
def wsX6_keep : List Cond := .code yX6_keep cX6_keep 3 (some .int) :: ([.classLink RX6 106 "java/lang/IllegalStateException", .initialized "java/lang/IllegalStateException", .fieldLink RX6 12 "Shortring" "net" "LShortring$Net;", .fieldLink RX6 55 "Shortring" "keptMany" "I", .fieldLink RX6 19 "Shortring" "kept" "[LShortring$Net;", .classLink RX6 9 RX3, .instantiable RX3 2, .initialized RX3, .instanceMethod yX3_init, .code yX3_init cX3_init 1 none, .methodLink RX3 3 objectInit, .instanceMethod objectInit, .code objectInit ⟨#[0xb1]⟩ 1 none, .arrayClass .int, .fieldLink RX3 9 "Shortring$Net" "near" "[I", .fieldLink RX3 15 "Shortring$Net" "knots" "I", .instanceMethod yX3_take, .selects RX3 yX3_take yX3_take, .code yX3_take cX3_take 3 none, .methodLink RX3 19 yX3_nearOf, .instanceMethod yX3_nearOf, .selects RX3 yX3_nearOf yX3_nearOf, .code yX3_nearOf cX3_nearOf 2 (some .int)] ++ wsX60 ++ wsX30 ++ (vx_atS RX6 110 "java/lang/IllegalStateException" ["java/lang/RuntimeException", "java/lang/Exception"]).filter goodWord)
def wsX6_keptAt : List Cond := .code yX6_keptAt cX6_keptAt 2 (some (.object "Shortring$Net")) :: ([.fieldLink RX6 55 "Shortring" "keptMany" "I", .fieldLink RX6 19 "Shortring" "kept" "[LShortring$Net;"] ++ wsX60)
def wsX6_back_r1 : List Cond := [Cond.classLink RX6 91 "java/lang/IndexOutOfBoundsException", Cond.initialized "java/lang/IndexOutOfBoundsException", Cond.fieldLink RX6 12 "Shortring" "net" "LShortring$Net;", Cond.fieldLink RX6 26 "Shortring" "hunt" "LShortring$Hunt;", Cond.fieldLink RX6 33 "Shortring" "ledger" "LShortring$Ledger;", Cond.methodLink RX6 311 yX6_keptAt, Cond.instanceMethod yX6_keptAt, Cond.selects RX6 yX6_keptAt yX6_keptAt, Cond.initialized RX6, Cond.code yX6_keptAt cX6_keptAt 2 (some (.object "Shortring$Net")), Cond.fieldLink RX6 55 "Shortring" "keptMany" "I", Cond.fieldLink RX6 19 "Shortring" "kept" "[LShortring$Net;", Cond.instanceMethod yX3_take, Cond.initialized RX3, Cond.selects RX3 yX3_take yX3_take, Cond.code yX3_take cX3_take 3 none, Cond.fieldLink RX3 15 "Shortring$Net" "knots" "I", Cond.fieldLink RX3 9 "Shortring$Net" "near" "[I", Cond.methodLink RX3 19 yX3_nearOf, Cond.instanceMethod yX3_nearOf, Cond.selects RX3 yX3_nearOf yX3_nearOf, Cond.code yX3_nearOf cX3_nearOf 2 (some .int), Cond.instanceMethod yX0_end, Cond.initialized RX0]
def wsX6_back_r2 : List Cond := [Cond.selects RX0 yX0_end yX0_end, Cond.code yX0_end cX0_end 1 none, Cond.fieldLink RX0 24 "Shortring$Hunt" "isOn" "Z", Cond.instanceMethod yX1_look, Cond.initialized RX1, Cond.selects RX1 yX1_look yX1_look, Cond.code yX1_look cX1_look 4 none, Cond.fieldLink RX1 15 "Shortring$Ledger" "smallest" "[I", Cond.instanceMethod yX3_evenCount, Cond.selects RX3 yX3_evenCount yX3_evenCount, Cond.code yX3_evenCount cX3_evenCount 3 (some .int), Cond.methodLink RX3 39 yX3_countOf, Cond.instanceMethod yX3_countOf, Cond.selects RX3 yX3_countOf yX3_countOf, Cond.code yX3_countOf cX3_countOf 2 (some .int), Cond.methodLink RX3 27 yJ6_bitCount_0f7a4, Cond.static yJ6_bitCount_0f7a4, Cond.initialized RJ6, Cond.code yJ6_bitCount_0f7a4 cJ6_bitCount_0f7a4 1 (some .int), Cond.constant RJ6 265 (1431655765), Cond.constant RJ6 266 (858993459), Cond.constant RJ6 267 (252645135), Cond.static yX6_isWithin, Cond.code yX6_isWithin cX6_isWithin 3 (some .boolean)]
def wsX6_back_r3 : List Cond := [Cond.static yX5_leastRing, Cond.initialized RX5, Cond.code yX5_leastRing cX5_leastRing 3 (some .int), Cond.methodLink RX5 66 yX5_leastRingAt, Cond.static yX5_leastRingAt, Cond.code yX5_leastRingAt cX5_leastRingAt 4 (some .int), Cond.instanceMethod yX3_isNear, Cond.selects RX3 yX3_isNear yX3_isNear, Cond.code yX3_isNear cX3_isNear 3 (some .boolean), Cond.static yX6_holds, Cond.code yX6_holds cX6_holds 2 (some .boolean), Cond.methodLink RX5 60 yX5_leastRingBy, Cond.static yX5_leastRingBy, Cond.code yX5_leastRingBy cX5_leastRingBy 6 (some .int), Cond.static yX6_bit, Cond.code yX6_bit cX6_bit 1 (some .int), Cond.methodLink RX5 23 yX5_around, Cond.static yX5_around, Cond.code yX5_around cX5_around 6 (some .int), Cond.methodLink RX5 9 yJ6_bitCount_0f7a4, Cond.static yX6_lesser, Cond.code yX6_lesser cX6_lesser 2 (some .int), Cond.methodLink RX6 324 Lib.Math.min.name, Cond.static Lib.Math.min.name]
def wsX6_back_r4 : List Cond := [Cond.initialized "java/lang/Math", Cond.code Lib.Math.min.name Lib.Math.min.code 2 (some .int), Cond.methodLink RX1 44 yX1_tablePlace, Cond.instanceMethod yX1_tablePlace, Cond.selects RX1 yX1_tablePlace yX1_tablePlace, Cond.code yX1_tablePlace cX1_tablePlace 5 (some .int), Cond.instanceMethod yX3_edgesInAll, Cond.selects RX3 yX3_edgesInAll yX3_edgesInAll, Cond.code yX3_edgesInAll cX3_edgesInAll 3 (some .int)]
def wsX6_back : List Cond := .code yX6_back cX6_back 3 (some .int) :: ((wsX6_back_r1 ++ (wsX6_back_r2 ++ (wsX6_back_r3 ++ wsX6_back_r4))) ++ wsX60 ++ wsX30 ++ wsX00 ++ wsX10 ++ (vx_atS RX6 95 "java/lang/IndexOutOfBoundsException" ["java/lang/RuntimeException", "java/lang/Exception"]).filter goodWord)
def wsX6_isAlike_r1 : List Cond := [Cond.classLink RX6 91 "java/lang/IndexOutOfBoundsException", Cond.initialized "java/lang/IndexOutOfBoundsException", Cond.fieldLink RX6 40 "Shortring" "likeness" "LShortring$Likeness;", Cond.fieldLink RX6 12 "Shortring" "net" "LShortring$Net;", Cond.methodLink RX6 311 yX6_keptAt, Cond.instanceMethod yX6_keptAt, Cond.selects RX6 yX6_keptAt yX6_keptAt, Cond.initialized RX6, Cond.code yX6_keptAt cX6_keptAt 2 (some (.object "Shortring$Net")), Cond.fieldLink RX6 55 "Shortring" "keptMany" "I", Cond.fieldLink RX6 19 "Shortring" "kept" "[LShortring$Net;", Cond.instanceMethod yX2_areAlike, Cond.initialized RX2, Cond.selects RX2 yX2_areAlike yX2_areAlike, Cond.code yX2_areAlike cX2_areAlike 8 (some .boolean), Cond.fieldLink RX2 12 "Shortring$Likeness" "from" "LShortring$Net;", Cond.fieldLink RX2 18 "Shortring$Likeness" "to" "LShortring$Net;", Cond.instanceMethod yX3_edgesInAll, Cond.initialized RX3, Cond.selects RX3 yX3_edgesInAll yX3_edgesInAll, Cond.code yX3_edgesInAll cX3_edgesInAll 3 (some .int), Cond.fieldLink RX3 15 "Shortring$Net" "knots" "I", Cond.methodLink RX3 39 yX3_countOf, Cond.instanceMethod yX3_countOf]
def wsX6_isAlike_r2 : List Cond := [Cond.selects RX3 yX3_countOf yX3_countOf, Cond.code yX3_countOf cX3_countOf 2 (some .int), Cond.methodLink RX3 19 yX3_nearOf, Cond.instanceMethod yX3_nearOf, Cond.selects RX3 yX3_nearOf yX3_nearOf, Cond.code yX3_nearOf cX3_nearOf 2 (some .int), Cond.fieldLink RX3 9 "Shortring$Net" "near" "[I", Cond.methodLink RX3 27 yJ6_bitCount_0f7a4, Cond.static yJ6_bitCount_0f7a4, Cond.initialized RJ6, Cond.code yJ6_bitCount_0f7a4 cJ6_bitCount_0f7a4 1 (some .int), Cond.constant RJ6 265 (1431655765), Cond.constant RJ6 266 (858993459), Cond.constant RJ6 267 (252645135), Cond.instanceMethod yX3_take, Cond.selects RX3 yX3_take yX3_take, Cond.code yX3_take cX3_take 3 none, Cond.static yX6_bit, Cond.code yX6_bit cX6_bit 1 (some .int), Cond.static yX6_holds, Cond.code yX6_holds cX6_holds 2 (some .boolean), Cond.static yX5_partWith, Cond.initialized RX5, Cond.code yX5_partWith cX5_partWith 2 (some .int)]
def wsX6_isAlike_r3 : List Cond := [Cond.methodLink RX5 29 yX5_within, Cond.static yX5_within, Cond.code yX5_within cX5_within 6 (some .int), Cond.methodLink RX5 23 yX5_around, Cond.static yX5_around, Cond.code yX5_around cX5_around 6 (some .int), Cond.methodLink RX5 9 yJ6_bitCount_0f7a4, Cond.methodLink RX2 67 yX2_partMatching, Cond.instanceMethod yX2_partMatching, Cond.selects RX2 yX2_partMatching yX2_partMatching, Cond.code yX2_partMatching cX2_partMatching 6 (some .int), Cond.methodLink RX2 55 yX2_waysOf, Cond.instanceMethod yX2_waysOf, Cond.selects RX2 yX2_waysOf yX2_waysOf, Cond.code yX2_waysOf cX2_waysOf 4 (some .int), Cond.fieldLink RX2 25 "Shortring$Likeness" "placed" "I", Cond.methodLink RX2 70 yJ6_bitCount_0f7a4, Cond.methodLink RX2 75 yX2_ways, Cond.static yX2_ways, Cond.code yX2_ways cX2_ways 9 (some .int), Cond.methodLink RX2 79 yX2_nextToPlace, Cond.instanceMethod yX2_nextToPlace, Cond.selects RX2 yX2_nextToPlace yX2_nextToPlace, Cond.code yX2_nextToPlace cX2_nextToPlace 6 (some .int)]
def wsX6_isAlike_r4 : List Cond := [Cond.methodLink RX2 82 yX2_fitting, Cond.instanceMethod yX2_fitting, Cond.selects RX2 yX2_fitting yX2_fitting, Cond.code yX2_fitting cX2_fitting 8 (some .int), Cond.fieldLink RX2 21 "Shortring$Likeness" "image" "[I", Cond.methodLink RX2 85 yX2_place, Cond.instanceMethod yX2_place, Cond.selects RX2 yX2_place yX2_place, Cond.code yX2_place cX2_place 3 none]
def wsX6_isAlike : List Cond := .code yX6_isAlike cX6_isAlike 3 (some .boolean) :: ((wsX6_isAlike_r1 ++ (wsX6_isAlike_r2 ++ (wsX6_isAlike_r3 ++ wsX6_isAlike_r4))) ++ wsX60 ++ wsX30 ++ wsX20 ++ (vx_atS RX6 95 "java/lang/IndexOutOfBoundsException" ["java/lang/RuntimeException", "java/lang/Exception"]).filter goodWord)
def wsX6_isAimSound_r1 : List Cond := [Cond.fieldLink RX6 26 "Shortring" "hunt" "LShortring$Hunt;", Cond.fieldLink RX6 12 "Shortring" "net" "LShortring$Net;", Cond.instanceMethod yX3_countOf, Cond.initialized RX3, Cond.selects RX3 yX3_countOf yX3_countOf, Cond.code yX3_countOf cX3_countOf 2 (some .int), Cond.methodLink RX3 19 yX3_nearOf, Cond.instanceMethod yX3_nearOf, Cond.selects RX3 yX3_nearOf yX3_nearOf, Cond.code yX3_nearOf cX3_nearOf 2 (some .int), Cond.fieldLink RX3 9 "Shortring$Net" "near" "[I", Cond.methodLink RX3 27 yJ6_bitCount_0f7a4, Cond.static yJ6_bitCount_0f7a4, Cond.initialized RJ6, Cond.code yJ6_bitCount_0f7a4 cJ6_bitCount_0f7a4 1 (some .int), Cond.constant RJ6 265 (1431655765), Cond.constant RJ6 266 (858993459), Cond.constant RJ6 267 (252645135), Cond.static yX5_leastRing, Cond.initialized RX5, Cond.code yX5_leastRing cX5_leastRing 3 (some .int), Cond.methodLink RX5 66 yX5_leastRingAt, Cond.static yX5_leastRingAt, Cond.code yX5_leastRingAt cX5_leastRingAt 4 (some .int)]
def wsX6_isAimSound_r2 : List Cond := [Cond.instanceMethod yX3_isNear, Cond.selects RX3 yX3_isNear yX3_isNear, Cond.code yX3_isNear cX3_isNear 3 (some .boolean), Cond.static yX6_holds, Cond.initialized RX6, Cond.code yX6_holds cX6_holds 2 (some .boolean), Cond.methodLink RX5 60 yX5_leastRingBy, Cond.static yX5_leastRingBy, Cond.code yX5_leastRingBy cX5_leastRingBy 6 (some .int), Cond.static yX6_bit, Cond.code yX6_bit cX6_bit 1 (some .int), Cond.methodLink RX5 23 yX5_around, Cond.static yX5_around, Cond.code yX5_around cX5_around 6 (some .int), Cond.methodLink RX5 9 yJ6_bitCount_0f7a4, Cond.static yX6_lesser, Cond.code yX6_lesser cX6_lesser 2 (some .int), Cond.methodLink RX6 324 Lib.Math.min.name, Cond.static Lib.Math.min.name, Cond.initialized "java/lang/Math", Cond.code Lib.Math.min.name Lib.Math.min.code 2 (some .int)]
def wsX6_isAimSound : List Cond := .code yX6_isAimSound cX6_isAimSound 2 (some .boolean) :: ((wsX6_isAimSound_r1 ++ wsX6_isAimSound_r2) ++ wsX60 ++ wsX00 ++ wsX30)
def wsX6_isEvenSound_r1 : List Cond := [Cond.fieldLink RX6 12 "Shortring" "net" "LShortring$Net;", Cond.fieldLink RX6 33 "Shortring" "ledger" "LShortring$Ledger;", Cond.instanceMethod yX3_evenCount, Cond.initialized RX3, Cond.selects RX3 yX3_evenCount yX3_evenCount, Cond.code yX3_evenCount cX3_evenCount 3 (some .int), Cond.fieldLink RX3 15 "Shortring$Net" "knots" "I", Cond.methodLink RX3 39 yX3_countOf, Cond.instanceMethod yX3_countOf, Cond.selects RX3 yX3_countOf yX3_countOf, Cond.code yX3_countOf cX3_countOf 2 (some .int), Cond.methodLink RX3 19 yX3_nearOf, Cond.instanceMethod yX3_nearOf, Cond.selects RX3 yX3_nearOf yX3_nearOf, Cond.code yX3_nearOf cX3_nearOf 2 (some .int), Cond.fieldLink RX3 9 "Shortring$Net" "near" "[I", Cond.methodLink RX3 27 yJ6_bitCount_0f7a4, Cond.static yJ6_bitCount_0f7a4, Cond.initialized RJ6, Cond.code yJ6_bitCount_0f7a4 cJ6_bitCount_0f7a4 1 (some .int), Cond.constant RJ6 265 (1431655765), Cond.constant RJ6 266 (858993459), Cond.constant RJ6 267 (252645135), Cond.static yX5_leastRing]
def wsX6_isEvenSound_r2 : List Cond := [Cond.initialized RX5, Cond.code yX5_leastRing cX5_leastRing 3 (some .int), Cond.methodLink RX5 66 yX5_leastRingAt, Cond.static yX5_leastRingAt, Cond.code yX5_leastRingAt cX5_leastRingAt 4 (some .int), Cond.instanceMethod yX3_isNear, Cond.selects RX3 yX3_isNear yX3_isNear, Cond.code yX3_isNear cX3_isNear 3 (some .boolean), Cond.static yX6_holds, Cond.initialized RX6, Cond.code yX6_holds cX6_holds 2 (some .boolean), Cond.methodLink RX5 60 yX5_leastRingBy, Cond.static yX5_leastRingBy, Cond.code yX5_leastRingBy cX5_leastRingBy 6 (some .int), Cond.static yX6_bit, Cond.code yX6_bit cX6_bit 1 (some .int), Cond.methodLink RX5 23 yX5_around, Cond.static yX5_around, Cond.code yX5_around cX5_around 6 (some .int), Cond.methodLink RX5 9 yJ6_bitCount_0f7a4, Cond.static yX6_lesser, Cond.code yX6_lesser cX6_lesser 2 (some .int), Cond.methodLink RX6 324 Lib.Math.min.name, Cond.static Lib.Math.min.name]
def wsX6_isEvenSound_r3 : List Cond := [Cond.initialized "java/lang/Math", Cond.code Lib.Math.min.name Lib.Math.min.code 2 (some .int), Cond.methodLink RX6 62 yX6_isWithin, Cond.static yX6_isWithin, Cond.code yX6_isWithin cX6_isWithin 3 (some .boolean), Cond.instanceMethod yX1_why, Cond.initialized RX1, Cond.selects RX1 yX1_why yX1_why, Cond.code yX1_why cX1_why 4 (some .int), Cond.methodLink RX1 18 yX1_leastKnots, Cond.static yX1_leastKnots, Cond.code yX1_leastKnots cX1_leastKnots 6 (some .int), Cond.methodLink RX1 22 yX1_isProved, Cond.instanceMethod yX1_isProved, Cond.selects RX1 yX1_isProved yX1_isProved, Cond.code yX1_isProved cX1_isProved 6 (some .boolean), Cond.fieldLink RX1 9 "Shortring$Ledger" "leastProved" "[I", Cond.methodLink RX1 29 yX1_proofPlace, Cond.instanceMethod yX1_proofPlace, Cond.selects RX1 yX1_proofPlace yX1_proofPlace, Cond.code yX1_proofPlace cX1_proofPlace 5 (some .int)]
def wsX6_isEvenSound : List Cond := .code yX6_isEvenSound cX6_isEvenSound 3 (some .boolean) :: ((wsX6_isEvenSound_r1 ++ (wsX6_isEvenSound_r2 ++ wsX6_isEvenSound_r3)) ++ wsX60 ++ wsX30 ++ wsX10)
def wsX6_isSound_r1 : List Cond := [Cond.fieldLink RX6 12 "Shortring" "net" "LShortring$Net;", Cond.fieldLink RX6 33 "Shortring" "ledger" "LShortring$Ledger;", Cond.instanceMethod yX3_isMutual, Cond.initialized RX3, Cond.selects RX3 yX3_isMutual yX3_isMutual, Cond.code yX3_isMutual cX3_isMutual 4 (some .boolean), Cond.fieldLink RX3 15 "Shortring$Net" "knots" "I", Cond.methodLink RX3 52 yX3_isNear, Cond.instanceMethod yX3_isNear, Cond.selects RX3 yX3_isNear yX3_isNear, Cond.code yX3_isNear cX3_isNear 3 (some .boolean), Cond.methodLink RX3 19 yX3_nearOf, Cond.instanceMethod yX3_nearOf, Cond.selects RX3 yX3_nearOf yX3_nearOf, Cond.code yX3_nearOf cX3_nearOf 2 (some .int), Cond.fieldLink RX3 9 "Shortring$Net" "near" "[I", Cond.static yX6_holds, Cond.initialized RX6, Cond.code yX6_holds cX6_holds 2 (some .boolean), Cond.methodLink RX6 344 yX6_isAimSound, Cond.instanceMethod yX6_isAimSound, Cond.selects RX6 yX6_isAimSound yX6_isAimSound, Cond.code yX6_isAimSound cX6_isAimSound 2 (some .boolean), Cond.fieldLink RX6 26 "Shortring" "hunt" "LShortring$Hunt;"]
def wsX6_isSound_r2 : List Cond := [Cond.instanceMethod yX3_countOf, Cond.selects RX3 yX3_countOf yX3_countOf, Cond.code yX3_countOf cX3_countOf 2 (some .int), Cond.methodLink RX3 27 yJ6_bitCount_0f7a4, Cond.static yJ6_bitCount_0f7a4, Cond.initialized RJ6, Cond.code yJ6_bitCount_0f7a4 cJ6_bitCount_0f7a4 1 (some .int), Cond.constant RJ6 265 (1431655765), Cond.constant RJ6 266 (858993459), Cond.constant RJ6 267 (252645135), Cond.static yX5_leastRing, Cond.initialized RX5, Cond.code yX5_leastRing cX5_leastRing 3 (some .int), Cond.methodLink RX5 66 yX5_leastRingAt, Cond.static yX5_leastRingAt, Cond.code yX5_leastRingAt cX5_leastRingAt 4 (some .int), Cond.methodLink RX5 60 yX5_leastRingBy, Cond.static yX5_leastRingBy, Cond.code yX5_leastRingBy cX5_leastRingBy 6 (some .int), Cond.static yX6_bit, Cond.code yX6_bit cX6_bit 1 (some .int), Cond.methodLink RX5 23 yX5_around, Cond.static yX5_around, Cond.code yX5_around cX5_around 6 (some .int)]
def wsX6_isSound_r3 : List Cond := [Cond.methodLink RX5 9 yJ6_bitCount_0f7a4, Cond.static yX6_lesser, Cond.code yX6_lesser cX6_lesser 2 (some .int), Cond.methodLink RX6 324 Lib.Math.min.name, Cond.static Lib.Math.min.name, Cond.initialized "java/lang/Math", Cond.code Lib.Math.min.name Lib.Math.min.code 2 (some .int), Cond.methodLink RX6 347 yX6_isEvenSound, Cond.instanceMethod yX6_isEvenSound, Cond.selects RX6 yX6_isEvenSound yX6_isEvenSound, Cond.code yX6_isEvenSound cX6_isEvenSound 3 (some .boolean), Cond.instanceMethod yX3_evenCount, Cond.selects RX3 yX3_evenCount yX3_evenCount, Cond.code yX3_evenCount cX3_evenCount 3 (some .int), Cond.methodLink RX3 39 yX3_countOf, Cond.methodLink RX6 62 yX6_isWithin, Cond.static yX6_isWithin, Cond.code yX6_isWithin cX6_isWithin 3 (some .boolean), Cond.instanceMethod yX1_why, Cond.initialized RX1, Cond.selects RX1 yX1_why yX1_why, Cond.code yX1_why cX1_why 4 (some .int), Cond.methodLink RX1 18 yX1_leastKnots, Cond.static yX1_leastKnots]
def wsX6_isSound_r4 : List Cond := [Cond.code yX1_leastKnots cX1_leastKnots 6 (some .int), Cond.methodLink RX1 22 yX1_isProved, Cond.instanceMethod yX1_isProved, Cond.selects RX1 yX1_isProved yX1_isProved, Cond.code yX1_isProved cX1_isProved 6 (some .boolean), Cond.fieldLink RX1 9 "Shortring$Ledger" "leastProved" "[I", Cond.methodLink RX1 29 yX1_proofPlace, Cond.instanceMethod yX1_proofPlace, Cond.selects RX1 yX1_proofPlace yX1_proofPlace, Cond.code yX1_proofPlace cX1_proofPlace 5 (some .int), Cond.instanceMethod yX1_isTableSound, Cond.selects RX1 yX1_isTableSound yX1_isTableSound, Cond.code yX1_isTableSound cX1_isTableSound 5 (some .boolean), Cond.methodLink RX1 55 yX1_smallestOf, Cond.instanceMethod yX1_smallestOf, Cond.selects RX1 yX1_smallestOf yX1_smallestOf, Cond.code yX1_smallestOf cX1_smallestOf 4 (some .int), Cond.fieldLink RX1 15 "Shortring$Ledger" "smallest" "[I", Cond.methodLink RX1 44 yX1_tablePlace, Cond.instanceMethod yX1_tablePlace, Cond.selects RX1 yX1_tablePlace yX1_tablePlace, Cond.code yX1_tablePlace cX1_tablePlace 5 (some .int), Cond.methodLink RX1 51 yX1_why, Cond.methodLink RX1 58 yX1_nextOf]
def wsX6_isSound_r5 : List Cond := [Cond.instanceMethod yX1_nextOf, Cond.selects RX1 yX1_nextOf yX1_nextOf, Cond.code yX1_nextOf cX1_nextOf 4 (some .int)]
def wsX6_isSound : List Cond := .code yX6_isSound cX6_isSound 1 (some .boolean) :: ((wsX6_isSound_r1 ++ (wsX6_isSound_r2 ++ (wsX6_isSound_r3 ++ (wsX6_isSound_r4 ++ wsX6_isSound_r5)))) ++ wsX60 ++ wsX30 ++ wsX00 ++ wsX10)
def wsX6_digestOfKnots_r1 : List Cond := [Cond.fieldLink RX6 12 "Shortring" "net" "LShortring$Net;", Cond.constantLong RX6 355 (31), Cond.methodLink RX6 401 yX6_ofKnot, Cond.instanceMethod yX6_ofKnot, Cond.selects RX6 yX6_ofKnot yX6_ofKnot, Cond.initialized RX6, Cond.code yX6_ofKnot cX6_ofKnot 3 (some .int), Cond.classLink RX6 91 "java/lang/IndexOutOfBoundsException", Cond.initialized "java/lang/IndexOutOfBoundsException", Cond.classLink RX6 66 "java/lang/IllegalArgumentException", Cond.initialized "java/lang/IllegalArgumentException", Cond.fieldLink RX6 26 "Shortring" "hunt" "LShortring$Hunt;", Cond.instanceMethod yX3_isKnot, Cond.initialized RX3, Cond.selects RX3 yX3_isKnot yX3_isKnot, Cond.code yX3_isKnot cX3_isKnot 2 (some .boolean), Cond.fieldLink RX3 15 "Shortring$Net" "knots" "I", Cond.fieldLink RX3 9 "Shortring$Net" "near" "[I", Cond.methodLink RX6 62 yX6_isWithin, Cond.static yX6_isWithin, Cond.code yX6_isWithin cX6_isWithin 3 (some .boolean), Cond.instanceMethod yX3_countOf, Cond.selects RX3 yX3_countOf yX3_countOf, Cond.code yX3_countOf cX3_countOf 2 (some .int)]
def wsX6_digestOfKnots_r2 : List Cond := [Cond.methodLink RX3 19 yX3_nearOf, Cond.instanceMethod yX3_nearOf, Cond.selects RX3 yX3_nearOf yX3_nearOf, Cond.code yX3_nearOf cX3_nearOf 2 (some .int), Cond.methodLink RX3 27 yJ6_bitCount_0f7a4, Cond.static yJ6_bitCount_0f7a4, Cond.initialized RJ6, Cond.code yJ6_bitCount_0f7a4 cJ6_bitCount_0f7a4 1 (some .int), Cond.constant RJ6 265 (1431655765), Cond.constant RJ6 266 (858993459), Cond.constant RJ6 267 (252645135), Cond.static yX5_partNumber, Cond.initialized RX5, Cond.code yX5_partNumber cX5_partNumber 5 (some .int), Cond.static yX6_holds, Cond.code yX6_holds cX6_holds 2 (some .boolean), Cond.methodLink RX5 41 yX5_partWith, Cond.static yX5_partWith, Cond.code yX5_partWith cX5_partWith 2 (some .int), Cond.methodLink RX5 29 yX5_within, Cond.static yX5_within, Cond.code yX5_within cX5_within 6 (some .int), Cond.static yX6_bit, Cond.code yX6_bit cX6_bit 1 (some .int)]
def wsX6_digestOfKnots_r3 : List Cond := [Cond.methodLink RX5 23 yX5_around, Cond.static yX5_around, Cond.code yX5_around cX5_around 6 (some .int), Cond.methodLink RX5 9 yJ6_bitCount_0f7a4, Cond.static yX5_leastRingAt, Cond.code yX5_leastRingAt cX5_leastRingAt 4 (some .int), Cond.instanceMethod yX3_isNear, Cond.selects RX3 yX3_isNear yX3_isNear, Cond.code yX3_isNear cX3_isNear 3 (some .boolean), Cond.methodLink RX5 60 yX5_leastRingBy, Cond.static yX5_leastRingBy, Cond.code yX5_leastRingBy cX5_leastRingBy 6 (some .int), Cond.static yX6_lesser, Cond.code yX6_lesser cX6_lesser 2 (some .int), Cond.methodLink RX6 324 Lib.Math.min.name, Cond.static Lib.Math.min.name, Cond.initialized "java/lang/Math", Cond.code Lib.Math.min.name Lib.Math.min.code 2 (some .int), Cond.static yX5_greatestDistance, Cond.code yX5_greatestDistance cX5_greatestDistance 5 (some .int), Cond.instanceMethod yX0_joinable, Cond.initialized RX0, Cond.selects RX0 yX0_joinable yX0_joinable, Cond.code yX0_joinable cX0_joinable 3 (some .int)]
def wsX6_digestOfKnots_r4 : List Cond := [Cond.fieldLink RX0 24 "Shortring$Hunt" "isOn" "Z", Cond.methodLink RX0 112 yX0_needy, Cond.instanceMethod yX0_needy, Cond.selects RX0 yX0_needy yX0_needy, Cond.code yX0_needy cX0_needy 4 (some .int), Cond.fieldLink RX0 32 "Shortring$Hunt" "count" "I", Cond.methodLink RX0 115 yX0_joinableOf, Cond.instanceMethod yX0_joinableOf, Cond.selects RX0 yX0_joinableOf yX0_joinableOf, Cond.code yX0_joinableOf cX0_joinableOf 4 (some .int), Cond.fieldLink RX0 9 "Shortring$Hunt" "barredWith" "[I", Cond.fieldLink RX0 35 "Shortring$Hunt" "length" "I", Cond.methodLink RX6 270 yJ6_bitCount_0f7a4]
def wsX6_digestOfKnots : List Cond := .code yX6_digestOfKnots cX6_digestOfKnots 7 (some .long) :: ((wsX6_digestOfKnots_r1 ++ (wsX6_digestOfKnots_r2 ++ (wsX6_digestOfKnots_r3 ++ wsX6_digestOfKnots_r4))) ++ wsX60 ++ wsX30 ++ wsX00 ++ (vx_atS RX6 95 "java/lang/IndexOutOfBoundsException" ["java/lang/RuntimeException", "java/lang/Exception"]).filter goodWord ++ (vx_atS RX6 70 "java/lang/IllegalArgumentException" ["java/lang/RuntimeException", "java/lang/Exception"]).filter goodWord)
def wsX6_digestOfEdges_r1 : List Cond := [Cond.fieldLink RX6 12 "Shortring" "net" "LShortring$Net;", Cond.constantLong RX6 355 (31), Cond.instanceMethod yX3_edgesInAll, Cond.initialized RX3, Cond.selects RX3 yX3_edgesInAll yX3_edgesInAll, Cond.code yX3_edgesInAll cX3_edgesInAll 3 (some .int), Cond.fieldLink RX3 15 "Shortring$Net" "knots" "I", Cond.methodLink RX3 39 yX3_countOf, Cond.instanceMethod yX3_countOf, Cond.selects RX3 yX3_countOf yX3_countOf, Cond.code yX3_countOf cX3_countOf 2 (some .int), Cond.methodLink RX3 19 yX3_nearOf, Cond.instanceMethod yX3_nearOf, Cond.selects RX3 yX3_nearOf yX3_nearOf, Cond.code yX3_nearOf cX3_nearOf 2 (some .int), Cond.fieldLink RX3 9 "Shortring$Net" "near" "[I", Cond.methodLink RX3 27 yJ6_bitCount_0f7a4, Cond.static yJ6_bitCount_0f7a4, Cond.initialized RJ6, Cond.code yJ6_bitCount_0f7a4 cJ6_bitCount_0f7a4 1 (some .int), Cond.constant RJ6 265 (1431655765), Cond.constant RJ6 266 (858993459), Cond.constant RJ6 267 (252645135), Cond.methodLink RX6 404 yX6_ofEdge]
def wsX6_digestOfEdges_r2 : List Cond := [Cond.instanceMethod yX6_ofEdge, Cond.selects RX6 yX6_ofEdge yX6_ofEdge, Cond.initialized RX6, Cond.code yX6_ofEdge cX6_ofEdge 4 (some .int), Cond.classLink RX6 91 "java/lang/IndexOutOfBoundsException", Cond.initialized "java/lang/IndexOutOfBoundsException", Cond.classLink RX6 66 "java/lang/IllegalArgumentException", Cond.initialized "java/lang/IllegalArgumentException", Cond.instanceMethod yX3_edgeAt, Cond.selects RX3 yX3_edgeAt yX3_edgeAt, Cond.code yX3_edgeAt cX3_edgeAt 6 (some .int), Cond.static yX6_bit, Cond.code yX6_bit cX6_bit 1 (some .int), Cond.methodLink RX3 42 yX3_numberedIn, Cond.static yX3_numberedIn, Cond.code yX3_numberedIn cX3_numberedIn 4 (some .int), Cond.static yX6_firstOf, Cond.code yX6_firstOf cX6_firstOf 1 (some .int), Cond.methodLink RX6 270 yJ6_bitCount_0f7a4, Cond.static yX6_pairOf, Cond.code yX6_pairOf cX6_pairOf 2 (some .int), Cond.methodLink RX6 62 yX6_isWithin, Cond.static yX6_isWithin, Cond.code yX6_isWithin cX6_isWithin 3 (some .boolean)]
def wsX6_digestOfEdges_r3 : List Cond := [Cond.methodLink RX6 277 yX6_oneOf, Cond.static yX6_oneOf, Cond.code yX6_oneOf cX6_oneOf 1 (some .int), Cond.methodLink RX6 280 yX6_otherOf, Cond.static yX6_otherOf, Cond.code yX6_otherOf cX6_otherOf 1 (some .int), Cond.static yX5_leastRingBy, Cond.initialized RX5, Cond.code yX5_leastRingBy cX5_leastRingBy 6 (some .int), Cond.methodLink RX5 23 yX5_around, Cond.static yX5_around, Cond.code yX5_around cX5_around 6 (some .int), Cond.methodLink RX5 9 yJ6_bitCount_0f7a4, Cond.static yX6_holds, Cond.code yX6_holds cX6_holds 2 (some .boolean)]
def wsX6_digestOfEdges : List Cond := .code yX6_digestOfEdges cX6_digestOfEdges 8 (some .long) :: ((wsX6_digestOfEdges_r1 ++ (wsX6_digestOfEdges_r2 ++ wsX6_digestOfEdges_r3)) ++ wsX60 ++ wsX30 ++ (vx_atS RX6 95 "java/lang/IndexOutOfBoundsException" ["java/lang/RuntimeException", "java/lang/Exception"]).filter goodWord ++ (vx_atS RX6 70 "java/lang/IllegalArgumentException" ["java/lang/RuntimeException", "java/lang/Exception"]).filter goodWord)
def wsX6_digestOfTable_r1 : List Cond := [Cond.constantLong RX6 355 (31), Cond.methodLink RX6 407 yX6_table, Cond.instanceMethod yX6_table, Cond.selects RX6 yX6_table yX6_table, Cond.initialized RX6, Cond.code yX6_table cX6_table 4 (some .int), Cond.fieldLink RX6 33 "Shortring" "ledger" "LShortring$Ledger;", Cond.methodLink RX6 180 yX6_requireTabled, Cond.instanceMethod yX6_requireTabled, Cond.selects RX6 yX6_requireTabled yX6_requireTabled, Cond.code yX6_requireTabled cX6_requireTabled 3 none, Cond.classLink RX6 66 "java/lang/IllegalArgumentException", Cond.initialized "java/lang/IllegalArgumentException", Cond.methodLink RX6 62 yX6_isWithin, Cond.static yX6_isWithin, Cond.code yX6_isWithin cX6_isWithin 3 (some .boolean), Cond.instanceMethod yX1_nextOf, Cond.initialized RX1, Cond.selects RX1 yX1_nextOf yX1_nextOf, Cond.code yX1_nextOf cX1_nextOf 4 (some .int), Cond.methodLink RX1 51 yX1_why, Cond.instanceMethod yX1_why, Cond.selects RX1 yX1_why yX1_why, Cond.code yX1_why cX1_why 4 (some .int)]
def wsX6_digestOfTable_r2 : List Cond := [Cond.methodLink RX1 18 yX1_leastKnots, Cond.static yX1_leastKnots, Cond.code yX1_leastKnots cX1_leastKnots 6 (some .int), Cond.methodLink RX1 22 yX1_isProved, Cond.instanceMethod yX1_isProved, Cond.selects RX1 yX1_isProved yX1_isProved, Cond.code yX1_isProved cX1_isProved 6 (some .boolean), Cond.fieldLink RX1 9 "Shortring$Ledger" "leastProved" "[I", Cond.methodLink RX1 29 yX1_proofPlace, Cond.instanceMethod yX1_proofPlace, Cond.selects RX1 yX1_proofPlace yX1_proofPlace, Cond.code yX1_proofPlace cX1_proofPlace 5 (some .int), Cond.instanceMethod yX1_smallestOf, Cond.selects RX1 yX1_smallestOf yX1_smallestOf, Cond.code yX1_smallestOf cX1_smallestOf 4 (some .int), Cond.fieldLink RX1 15 "Shortring$Ledger" "smallest" "[I", Cond.methodLink RX1 44 yX1_tablePlace, Cond.instanceMethod yX1_tablePlace, Cond.selects RX1 yX1_tablePlace yX1_tablePlace, Cond.code yX1_tablePlace cX1_tablePlace 5 (some .int)]
def wsX6_digestOfTable : List Cond := .code yX6_digestOfTable cX6_digestOfTable 7 (some .long) :: ((wsX6_digestOfTable_r1 ++ wsX6_digestOfTable_r2) ++ wsX60 ++ wsX10 ++ (vx_atS RX6 70 "java/lang/IllegalArgumentException" ["java/lang/RuntimeException", "java/lang/Exception"]).filter goodWord)
def wsX6_digest_r1 : List Cond := [Cond.constantLong RX6 353 (9241), Cond.constantLong RX6 355 (31), Cond.fieldLink RX6 55 "Shortring" "keptMany" "I", Cond.methodLink RX6 357 yX6_now, Cond.instanceMethod yX6_now, Cond.selects RX6 yX6_now yX6_now, Cond.initialized RX6, Cond.code yX6_now cX6_now 2 (some .int), Cond.classLink RX6 66 "java/lang/IllegalArgumentException", Cond.initialized "java/lang/IllegalArgumentException", Cond.fieldLink RX6 12 "Shortring" "net" "LShortring$Net;", Cond.fieldLink RX6 47 "Shortring" "paint" "LShortring$Paint;", Cond.fieldLink RX6 40 "Shortring" "likeness" "LShortring$Likeness;", Cond.fieldLink RX6 59 "Shortring" "refused" "I", Cond.methodLink RX6 62 yX6_isWithin, Cond.static yX6_isWithin, Cond.code yX6_isWithin cX6_isWithin 3 (some .boolean), Cond.instanceMethod yX3_edgesInAll, Cond.initialized RX3, Cond.selects RX3 yX3_edgesInAll yX3_edgesInAll, Cond.code yX3_edgesInAll cX3_edgesInAll 3 (some .int), Cond.fieldLink RX3 15 "Shortring$Net" "knots" "I", Cond.methodLink RX3 39 yX3_countOf, Cond.instanceMethod yX3_countOf]
def wsX6_digest_r2 : List Cond := [Cond.selects RX3 yX3_countOf yX3_countOf, Cond.code yX3_countOf cX3_countOf 2 (some .int), Cond.methodLink RX3 19 yX3_nearOf, Cond.instanceMethod yX3_nearOf, Cond.selects RX3 yX3_nearOf yX3_nearOf, Cond.code yX3_nearOf cX3_nearOf 2 (some .int), Cond.fieldLink RX3 9 "Shortring$Net" "near" "[I", Cond.methodLink RX3 27 yJ6_bitCount_0f7a4, Cond.static yJ6_bitCount_0f7a4, Cond.initialized RJ6, Cond.code yJ6_bitCount_0f7a4 cJ6_bitCount_0f7a4 1 (some .int), Cond.constant RJ6 265 (1431655765), Cond.constant RJ6 266 (858993459), Cond.constant RJ6 267 (252645135), Cond.static yX5_partsInAll, Cond.initialized RX5, Cond.code yX5_partsInAll cX5_partsInAll 4 (some .int), Cond.static yX6_holds, Cond.code yX6_holds cX6_holds 2 (some .boolean), Cond.methodLink RX5 41 yX5_partWith, Cond.static yX5_partWith, Cond.code yX5_partWith cX5_partWith 2 (some .int), Cond.methodLink RX5 29 yX5_within, Cond.static yX5_within]
def wsX6_digest_r3 : List Cond := [Cond.code yX5_within cX5_within 6 (some .int), Cond.static yX6_bit, Cond.code yX6_bit cX6_bit 1 (some .int), Cond.methodLink RX5 23 yX5_around, Cond.static yX5_around, Cond.code yX5_around cX5_around 6 (some .int), Cond.methodLink RX5 9 yJ6_bitCount_0f7a4, Cond.static yX5_leastRing, Cond.code yX5_leastRing cX5_leastRing 3 (some .int), Cond.methodLink RX5 66 yX5_leastRingAt, Cond.static yX5_leastRingAt, Cond.code yX5_leastRingAt cX5_leastRingAt 4 (some .int), Cond.instanceMethod yX3_isNear, Cond.selects RX3 yX3_isNear yX3_isNear, Cond.code yX3_isNear cX3_isNear 3 (some .boolean), Cond.methodLink RX5 60 yX5_leastRingBy, Cond.static yX5_leastRingBy, Cond.code yX5_leastRingBy cX5_leastRingBy 6 (some .int), Cond.static yX6_lesser, Cond.code yX6_lesser cX6_lesser 2 (some .int), Cond.methodLink RX6 324 Lib.Math.min.name, Cond.static Lib.Math.min.name, Cond.initialized "java/lang/Math", Cond.code Lib.Math.min.name Lib.Math.min.code 2 (some .int)]
def wsX6_digest_r4 : List Cond := [Cond.instanceMethod yX3_evenCount, Cond.selects RX3 yX3_evenCount yX3_evenCount, Cond.code yX3_evenCount cX3_evenCount 3 (some .int), Cond.static yX5_width, Cond.code yX5_width cX5_width 3 (some .int), Cond.methodLink RX5 51 Lib.Math.max.name, Cond.static Lib.Math.max.name, Cond.code Lib.Math.max.name Lib.Math.max.code 2 (some .int), Cond.methodLink RX5 44 yX5_partsInAll, Cond.methodLink RX5 48 yX5_greatestDistance, Cond.static yX5_greatestDistance, Cond.code yX5_greatestDistance cX5_greatestDistance 5 (some .int), Cond.instanceMethod yX4_fewest, Cond.initialized RX4, Cond.selects RX4 yX4_fewest yX4_fewest, Cond.code yX4_fewest cX4_fewest 6 (some .int), Cond.methodLink RX4 31 Lib.Math.max.name, Cond.methodLink RX4 37 yX4_fewestOf, Cond.instanceMethod yX4_fewestOf, Cond.selects RX4 yX4_fewestOf yX4_fewestOf, Cond.code yX4_fewestOf cX4_fewestOf 6 (some .int), Cond.fieldLink RX4 9 "Shortring$Paint" "hues" "[I", Cond.methodLink RX4 41 yX4_canPaint, Cond.static yX4_canPaint]
def wsX6_digest_r5 : List Cond := [Cond.code yX4_canPaint cX4_canPaint 8 (some .boolean), Cond.methodLink RX4 45 yX4_hardest, Cond.static yX4_hardest, Cond.code yX4_hardest cX4_hardest 8 (some .int), Cond.instanceMethod yX2_turnsOf, Cond.initialized RX2, Cond.selects RX2 yX2_turnsOf yX2_turnsOf, Cond.code yX2_turnsOf cX2_turnsOf 7 (some .int), Cond.fieldLink RX2 12 "Shortring$Likeness" "from" "LShortring$Net;", Cond.fieldLink RX2 18 "Shortring$Likeness" "to" "LShortring$Net;", Cond.methodLink RX2 50 Lib.Math.min.name, Cond.instanceMethod yX3_take, Cond.selects RX3 yX3_take yX3_take, Cond.code yX3_take cX3_take 3 none, Cond.methodLink RX2 46 yX2_partsLike, Cond.instanceMethod yX2_partsLike, Cond.selects RX2 yX2_partsLike yX2_partsLike, Cond.code yX2_partsLike cX2_partsLike 7 (some .int), Cond.methodLink RX2 55 yX2_waysOf, Cond.instanceMethod yX2_waysOf, Cond.selects RX2 yX2_waysOf yX2_waysOf, Cond.code yX2_waysOf cX2_waysOf 4 (some .int), Cond.fieldLink RX2 25 "Shortring$Likeness" "placed" "I", Cond.methodLink RX2 70 yJ6_bitCount_0f7a4]
def wsX6_digest_r6 : List Cond := [Cond.methodLink RX2 75 yX2_ways, Cond.static yX2_ways, Cond.code yX2_ways cX2_ways 9 (some .int), Cond.methodLink RX2 79 yX2_nextToPlace, Cond.instanceMethod yX2_nextToPlace, Cond.selects RX2 yX2_nextToPlace yX2_nextToPlace, Cond.code yX2_nextToPlace cX2_nextToPlace 6 (some .int), Cond.methodLink RX2 82 yX2_fitting, Cond.instanceMethod yX2_fitting, Cond.selects RX2 yX2_fitting yX2_fitting, Cond.code yX2_fitting cX2_fitting 8 (some .int), Cond.fieldLink RX2 21 "Shortring$Likeness" "image" "[I", Cond.methodLink RX2 85 yX2_place, Cond.instanceMethod yX2_place, Cond.selects RX2 yX2_place yX2_place, Cond.code yX2_place cX2_place 3 none, Cond.instanceMethod yX3_loneliest, Cond.selects RX3 yX3_loneliest yX3_loneliest, Cond.code yX3_loneliest cX3_loneliest 5 (some .int), Cond.methodLink RX6 360 yX6_search, Cond.instanceMethod yX6_search, Cond.selects RX6 yX6_search yX6_search, Cond.code yX6_search cX6_search 2 (some .int), Cond.fieldLink RX6 26 "Shortring" "hunt" "LShortring$Hunt;"]
def wsX6_digest_r7 : List Cond := [Cond.instanceMethod yX0_nextKnot, Cond.initialized RX0, Cond.selects RX0 yX0_nextKnot yX0_nextKnot, Cond.code yX0_nextKnot cX0_nextKnot 7 (some .int), Cond.fieldLink RX0 28 "Shortring$Hunt" "state" "I", Cond.methodLink RX0 112 yX0_needy, Cond.instanceMethod yX0_needy, Cond.selects RX0 yX0_needy yX0_needy, Cond.code yX0_needy cX0_needy 4 (some .int), Cond.fieldLink RX0 32 "Shortring$Hunt" "count" "I", Cond.methodLink RX0 115 yX0_joinableOf, Cond.instanceMethod yX0_joinableOf, Cond.selects RX0 yX0_joinableOf yX0_joinableOf, Cond.code yX0_joinableOf cX0_joinableOf 4 (some .int), Cond.fieldLink RX0 9 "Shortring$Hunt" "barredWith" "[I", Cond.fieldLink RX0 35 "Shortring$Hunt" "length" "I", Cond.methodLink RX0 118 yJ6_bitCount_0f7a4, Cond.instanceMethod yX0_partnerOf, Cond.selects RX0 yX0_partnerOf yX0_partnerOf, Cond.code yX0_partnerOf cX0_partnerOf 5 (some .int), Cond.static yX6_firstOf, Cond.code yX6_firstOf cX6_firstOf 1 (some .int), Cond.methodLink RX6 270 yJ6_bitCount_0f7a4, Cond.methodLink RX6 363 yX6_digestOfKnots]
def wsX6_digest_r8 : List Cond := [Cond.instanceMethod yX6_digestOfKnots, Cond.selects RX6 yX6_digestOfKnots yX6_digestOfKnots, Cond.code yX6_digestOfKnots cX6_digestOfKnots 7 (some .long), Cond.methodLink RX6 401 yX6_ofKnot, Cond.instanceMethod yX6_ofKnot, Cond.selects RX6 yX6_ofKnot yX6_ofKnot, Cond.code yX6_ofKnot cX6_ofKnot 3 (some .int), Cond.classLink RX6 91 "java/lang/IndexOutOfBoundsException", Cond.initialized "java/lang/IndexOutOfBoundsException", Cond.instanceMethod yX3_isKnot, Cond.selects RX3 yX3_isKnot yX3_isKnot, Cond.code yX3_isKnot cX3_isKnot 2 (some .boolean), Cond.static yX5_partNumber, Cond.code yX5_partNumber cX5_partNumber 5 (some .int), Cond.instanceMethod yX0_joinable, Cond.selects RX0 yX0_joinable yX0_joinable, Cond.code yX0_joinable cX0_joinable 3 (some .int), Cond.fieldLink RX0 24 "Shortring$Hunt" "isOn" "Z", Cond.methodLink RX6 367 yX6_digestOfEdges, Cond.instanceMethod yX6_digestOfEdges, Cond.selects RX6 yX6_digestOfEdges yX6_digestOfEdges, Cond.code yX6_digestOfEdges cX6_digestOfEdges 8 (some .long), Cond.methodLink RX6 404 yX6_ofEdge, Cond.instanceMethod yX6_ofEdge]
def wsX6_digest_r9 : List Cond := [Cond.selects RX6 yX6_ofEdge yX6_ofEdge, Cond.code yX6_ofEdge cX6_ofEdge 4 (some .int), Cond.instanceMethod yX3_edgeAt, Cond.selects RX3 yX3_edgeAt yX3_edgeAt, Cond.code yX3_edgeAt cX3_edgeAt 6 (some .int), Cond.methodLink RX3 42 yX3_numberedIn, Cond.static yX3_numberedIn, Cond.code yX3_numberedIn cX3_numberedIn 4 (some .int), Cond.static yX6_pairOf, Cond.code yX6_pairOf cX6_pairOf 2 (some .int), Cond.methodLink RX6 277 yX6_oneOf, Cond.static yX6_oneOf, Cond.code yX6_oneOf cX6_oneOf 1 (some .int), Cond.methodLink RX6 280 yX6_otherOf, Cond.static yX6_otherOf, Cond.code yX6_otherOf cX6_otherOf 1 (some .int), Cond.methodLink RX6 370 yX6_rings, Cond.instanceMethod yX6_rings, Cond.selects RX6 yX6_rings yX6_rings, Cond.code yX6_rings cX6_rings 2 (some .int), Cond.methodLink RX6 292 yX6_countRings, Cond.instanceMethod yX6_countRings, Cond.selects RX6 yX6_countRings yX6_countRings, Cond.code yX6_countRings cX6_countRings 3 none]
def wsX6_digest_r10 : List Cond := [Cond.fieldLink RX6 51 "Shortring" "tally" "[I", Cond.methodLink RX6 118 yX6_bit, Cond.methodLink RX6 397 yX6_walk, Cond.static yX6_walk, Cond.code yX6_walk cX6_walk 9 none, Cond.methodLink RX6 386 yX6_holds, Cond.methodLink RX6 295 yX6_tallied, Cond.instanceMethod yX6_tallied, Cond.selects RX6 yX6_tallied yX6_tallied, Cond.code yX6_tallied cX6_tallied 2 (some .int), Cond.methodLink RX6 373 yX6_digestOfTable, Cond.instanceMethod yX6_digestOfTable, Cond.selects RX6 yX6_digestOfTable yX6_digestOfTable, Cond.code yX6_digestOfTable cX6_digestOfTable 7 (some .long), Cond.methodLink RX6 407 yX6_table, Cond.instanceMethod yX6_table, Cond.selects RX6 yX6_table yX6_table, Cond.code yX6_table cX6_table 4 (some .int), Cond.fieldLink RX6 33 "Shortring" "ledger" "LShortring$Ledger;", Cond.methodLink RX6 180 yX6_requireTabled, Cond.instanceMethod yX6_requireTabled, Cond.selects RX6 yX6_requireTabled yX6_requireTabled, Cond.code yX6_requireTabled cX6_requireTabled 3 none, Cond.instanceMethod yX1_nextOf]
def wsX6_digest_r11 : List Cond := [Cond.initialized RX1, Cond.selects RX1 yX1_nextOf yX1_nextOf, Cond.code yX1_nextOf cX1_nextOf 4 (some .int), Cond.methodLink RX1 51 yX1_why, Cond.instanceMethod yX1_why, Cond.selects RX1 yX1_why yX1_why, Cond.code yX1_why cX1_why 4 (some .int), Cond.methodLink RX1 18 yX1_leastKnots, Cond.static yX1_leastKnots, Cond.code yX1_leastKnots cX1_leastKnots 6 (some .int), Cond.methodLink RX1 22 yX1_isProved, Cond.instanceMethod yX1_isProved, Cond.selects RX1 yX1_isProved yX1_isProved, Cond.code yX1_isProved cX1_isProved 6 (some .boolean), Cond.fieldLink RX1 9 "Shortring$Ledger" "leastProved" "[I", Cond.methodLink RX1 29 yX1_proofPlace, Cond.instanceMethod yX1_proofPlace, Cond.selects RX1 yX1_proofPlace yX1_proofPlace, Cond.code yX1_proofPlace cX1_proofPlace 5 (some .int), Cond.instanceMethod yX1_smallestOf, Cond.selects RX1 yX1_smallestOf yX1_smallestOf, Cond.code yX1_smallestOf cX1_smallestOf 4 (some .int), Cond.fieldLink RX1 15 "Shortring$Ledger" "smallest" "[I", Cond.methodLink RX1 44 yX1_tablePlace]
def wsX6_digest_r12 : List Cond := [Cond.instanceMethod yX1_tablePlace, Cond.selects RX1 yX1_tablePlace yX1_tablePlace, Cond.code yX1_tablePlace cX1_tablePlace 5 (some .int), Cond.methodLink RX6 376 yX6_isAlike, Cond.instanceMethod yX6_isAlike, Cond.selects RX6 yX6_isAlike yX6_isAlike, Cond.code yX6_isAlike cX6_isAlike 3 (some .boolean), Cond.methodLink RX6 311 yX6_keptAt, Cond.instanceMethod yX6_keptAt, Cond.selects RX6 yX6_keptAt yX6_keptAt, Cond.code yX6_keptAt cX6_keptAt 2 (some (.object "Shortring$Net")), Cond.fieldLink RX6 19 "Shortring" "kept" "[LShortring$Net;", Cond.instanceMethod yX2_areAlike, Cond.selects RX2 yX2_areAlike yX2_areAlike, Cond.code yX2_areAlike cX2_areAlike 8 (some .boolean), Cond.methodLink RX2 67 yX2_partMatching, Cond.instanceMethod yX2_partMatching, Cond.selects RX2 yX2_partMatching yX2_partMatching, Cond.code yX2_partMatching cX2_partMatching 6 (some .int), Cond.methodLink RX6 379 yX6_isSound, Cond.instanceMethod yX6_isSound, Cond.selects RX6 yX6_isSound yX6_isSound, Cond.code yX6_isSound cX6_isSound 1 (some .boolean), Cond.instanceMethod yX3_isMutual]
def wsX6_digest_r13 : List Cond := [Cond.selects RX3 yX3_isMutual yX3_isMutual, Cond.code yX3_isMutual cX3_isMutual 4 (some .boolean), Cond.methodLink RX3 52 yX3_isNear, Cond.methodLink RX6 344 yX6_isAimSound, Cond.instanceMethod yX6_isAimSound, Cond.selects RX6 yX6_isAimSound yX6_isAimSound, Cond.code yX6_isAimSound cX6_isAimSound 2 (some .boolean), Cond.methodLink RX6 347 yX6_isEvenSound, Cond.instanceMethod yX6_isEvenSound, Cond.selects RX6 yX6_isEvenSound yX6_isEvenSound, Cond.code yX6_isEvenSound cX6_isEvenSound 3 (some .boolean), Cond.instanceMethod yX1_isTableSound, Cond.selects RX1 yX1_isTableSound yX1_isTableSound, Cond.code yX1_isTableSound cX1_isTableSound 5 (some .boolean), Cond.methodLink RX1 55 yX1_smallestOf, Cond.methodLink RX1 58 yX1_nextOf]
def wsX6_digest : List Cond := .code yX6_digest cX6_digest 4 (some .long) :: ((wsX6_digest_r1 ++ (wsX6_digest_r2 ++ (wsX6_digest_r3 ++ (wsX6_digest_r4 ++ (wsX6_digest_r5 ++ (wsX6_digest_r6 ++ (wsX6_digest_r7 ++ (wsX6_digest_r8 ++ (wsX6_digest_r9 ++ (wsX6_digest_r10 ++ (wsX6_digest_r11 ++ (wsX6_digest_r12 ++ wsX6_digest_r13)))))))))))) ++ wsX60 ++ wsX30 ++ wsX40 ++ wsX20 ++ wsX00 ++ wsX10 ++ (vx_atS RX6 70 "java/lang/IllegalArgumentException" ["java/lang/RuntimeException", "java/lang/Exception"]).filter goodWord ++ (vx_atS RX6 95 "java/lang/IndexOutOfBoundsException" ["java/lang/RuntimeException", "java/lang/Exception"]).filter goodWord)
def wsJ9_max_7cf53 : List Cond := .code yJ9_max_7cf53 cJ9_max_7cf53 2 (some .int) :: ([])
def wsJ9_min_7cf53 : List Cond := .code yJ9_min_7cf53 cJ9_min_7cf53 2 (some .int) :: ([])
def wsL_below : List Cond := .code yL_below cL_below 2 (some .int) :: ([.constant RL 7 (2147483647)])
def wsL_cell : List Cond := .code yL_cell cL_cell 2 (some .int) :: ([.constant RL 8 (790386105)])
def wsL_act_r1 : List Cond := [Cond.classLink RL 87 "java/lang/IndexOutOfBoundsException", Cond.classLink RL 89 "java/lang/IllegalArgumentException", Cond.classLink RL 91 "java/lang/IllegalStateException", Cond.methodLink RL 59 Lib.Math.min.name, Cond.static Lib.Math.min.name, Cond.initialized "java/lang/Math", Cond.code Lib.Math.min.name Lib.Math.min.code 2 (some .int), Cond.methodLink RL 18 yL_below, Cond.static yL_below, Cond.initialized RL, Cond.code yL_below cL_below 2 (some .int), Cond.constant RL 7 (2147483647), Cond.methodLink RL 22 yX6_garden, Cond.instanceMethod yX6_garden, Cond.selects RX6 yX6_garden yX6_garden, Cond.initialized RX6, Cond.code yX6_garden cX6_garden 3 (some .int), Cond.classLink RX6 66 "java/lang/IllegalArgumentException", Cond.initialized "java/lang/IllegalArgumentException", Cond.fieldLink RX6 12 "Shortring" "net" "LShortring$Net;", Cond.fieldLink RX6 26 "Shortring" "hunt" "LShortring$Hunt;", Cond.fieldLink RX6 33 "Shortring" "ledger" "LShortring$Ledger;", Cond.methodLink RX6 62 yX6_isWithin, Cond.static yX6_isWithin]
def wsL_act_r2 : List Cond := [Cond.code yX6_isWithin cX6_isWithin 3 (some .boolean), Cond.instanceMethod yX3_lay, Cond.initialized RX3, Cond.selects RX3 yX3_lay yX3_lay, Cond.code yX3_lay cX3_lay 3 none, Cond.fieldLink RX3 15 "Shortring$Net" "knots" "I", Cond.fieldLink RX3 9 "Shortring$Net" "near" "[I", Cond.instanceMethod yX0_end, Cond.initialized RX0, Cond.selects RX0 yX0_end yX0_end, Cond.code yX0_end cX0_end 1 none, Cond.fieldLink RX0 24 "Shortring$Hunt" "isOn" "Z", Cond.instanceMethod yX1_look, Cond.initialized RX1, Cond.selects RX1 yX1_look yX1_look, Cond.code yX1_look cX1_look 4 none, Cond.fieldLink RX1 15 "Shortring$Ledger" "smallest" "[I", Cond.instanceMethod yX3_evenCount, Cond.selects RX3 yX3_evenCount yX3_evenCount, Cond.code yX3_evenCount cX3_evenCount 3 (some .int), Cond.methodLink RX3 39 yX3_countOf, Cond.instanceMethod yX3_countOf, Cond.selects RX3 yX3_countOf yX3_countOf, Cond.code yX3_countOf cX3_countOf 2 (some .int)]
def wsL_act_r3 : List Cond := [Cond.methodLink RX3 19 yX3_nearOf, Cond.instanceMethod yX3_nearOf, Cond.selects RX3 yX3_nearOf yX3_nearOf, Cond.code yX3_nearOf cX3_nearOf 2 (some .int), Cond.methodLink RX3 27 yJ6_bitCount_0f7a4, Cond.static yJ6_bitCount_0f7a4, Cond.initialized RJ6, Cond.code yJ6_bitCount_0f7a4 cJ6_bitCount_0f7a4 1 (some .int), Cond.constant RJ6 265 (1431655765), Cond.constant RJ6 266 (858993459), Cond.constant RJ6 267 (252645135), Cond.static yX5_leastRing, Cond.initialized RX5, Cond.code yX5_leastRing cX5_leastRing 3 (some .int), Cond.methodLink RX5 66 yX5_leastRingAt, Cond.static yX5_leastRingAt, Cond.code yX5_leastRingAt cX5_leastRingAt 4 (some .int), Cond.instanceMethod yX3_isNear, Cond.selects RX3 yX3_isNear yX3_isNear, Cond.code yX3_isNear cX3_isNear 3 (some .boolean), Cond.static yX6_holds, Cond.code yX6_holds cX6_holds 2 (some .boolean), Cond.methodLink RX5 60 yX5_leastRingBy, Cond.static yX5_leastRingBy]
def wsL_act_r4 : List Cond := [Cond.code yX5_leastRingBy cX5_leastRingBy 6 (some .int), Cond.static yX6_bit, Cond.code yX6_bit cX6_bit 1 (some .int), Cond.methodLink RX5 23 yX5_around, Cond.static yX5_around, Cond.code yX5_around cX5_around 6 (some .int), Cond.methodLink RX5 9 yJ6_bitCount_0f7a4, Cond.static yX6_lesser, Cond.code yX6_lesser cX6_lesser 2 (some .int), Cond.methodLink RX6 324 Lib.Math.min.name, Cond.methodLink RX1 44 yX1_tablePlace, Cond.instanceMethod yX1_tablePlace, Cond.selects RX1 yX1_tablePlace yX1_tablePlace, Cond.code yX1_tablePlace cX1_tablePlace 5 (some .int), Cond.methodLink RL 52 yX6_edge, Cond.instanceMethod yX6_edge, Cond.selects RX6 yX6_edge yX6_edge, Cond.code yX6_edge cX6_edge 6 (some .boolean), Cond.classLink RX6 91 "java/lang/IndexOutOfBoundsException", Cond.initialized "java/lang/IndexOutOfBoundsException", Cond.classLink RX6 106 "java/lang/IllegalStateException", Cond.initialized "java/lang/IllegalStateException", Cond.instanceMethod yX3_isKnot, Cond.selects RX3 yX3_isKnot yX3_isKnot]
def wsL_act_r5 : List Cond := [Cond.code yX3_isKnot cX3_isKnot 2 (some .boolean), Cond.instanceMethod yX3_join, Cond.selects RX3 yX3_join yX3_join, Cond.code yX3_join cX3_join 3 none, Cond.methodLink RX3 32 yX3_isKnot, Cond.instanceMethod yX3_loosen, Cond.selects RX3 yX3_loosen yX3_loosen, Cond.code yX3_loosen cX3_loosen 3 none, Cond.methodLink RL 56 yX6_ring, Cond.instanceMethod yX6_ring, Cond.selects RX6 yX6_ring yX6_ring, Cond.code yX6_ring cX6_ring 4 (some .int), Cond.methodLink RX6 118 yX6_bit, Cond.methodLink RX6 123 yX6_countByJumps, Cond.static yX6_countByJumps, Cond.code yX6_countByJumps cX6_countByJumps 4 (some .int), Cond.methodLink RX6 270 yJ6_bitCount_0f7a4, Cond.methodLink RX6 386 yX6_holds, Cond.methodLink RX6 127 yX6_layByJumps, Cond.instanceMethod yX6_layByJumps, Cond.selects RX6 yX6_layByJumps yX6_layByJumps, Cond.code yX6_layByJumps cX6_layByJumps 6 none, Cond.instanceMethod yX3_edgesInAll, Cond.selects RX3 yX3_edgesInAll yX3_edgesInAll]
def wsL_act_r6 : List Cond := [Cond.code yX3_edgesInAll cX3_edgesInAll 3 (some .int), Cond.methodLink RL 28 yX6_now, Cond.instanceMethod yX6_now, Cond.selects RX6 yX6_now yX6_now, Cond.code yX6_now cX6_now 2 (some .int), Cond.fieldLink RX6 47 "Shortring" "paint" "LShortring$Paint;", Cond.fieldLink RX6 40 "Shortring" "likeness" "LShortring$Likeness;", Cond.fieldLink RX6 55 "Shortring" "keptMany" "I", Cond.fieldLink RX6 59 "Shortring" "refused" "I", Cond.static yX5_partsInAll, Cond.code yX5_partsInAll cX5_partsInAll 4 (some .int), Cond.methodLink RX5 41 yX5_partWith, Cond.static yX5_partWith, Cond.code yX5_partWith cX5_partWith 2 (some .int), Cond.methodLink RX5 29 yX5_within, Cond.static yX5_within, Cond.code yX5_within cX5_within 6 (some .int), Cond.static yX5_width, Cond.code yX5_width cX5_width 3 (some .int), Cond.methodLink RX5 51 Lib.Math.max.name, Cond.static Lib.Math.max.name, Cond.code Lib.Math.max.name Lib.Math.max.code 2 (some .int), Cond.methodLink RX5 44 yX5_partsInAll, Cond.methodLink RX5 48 yX5_greatestDistance]
def wsL_act_r7 : List Cond := [Cond.static yX5_greatestDistance, Cond.code yX5_greatestDistance cX5_greatestDistance 5 (some .int), Cond.instanceMethod yX4_fewest, Cond.initialized RX4, Cond.selects RX4 yX4_fewest yX4_fewest, Cond.code yX4_fewest cX4_fewest 6 (some .int), Cond.methodLink RX4 31 Lib.Math.max.name, Cond.methodLink RX4 37 yX4_fewestOf, Cond.instanceMethod yX4_fewestOf, Cond.selects RX4 yX4_fewestOf yX4_fewestOf, Cond.code yX4_fewestOf cX4_fewestOf 6 (some .int), Cond.fieldLink RX4 9 "Shortring$Paint" "hues" "[I", Cond.methodLink RX4 41 yX4_canPaint, Cond.static yX4_canPaint, Cond.code yX4_canPaint cX4_canPaint 8 (some .boolean), Cond.methodLink RX4 45 yX4_hardest, Cond.static yX4_hardest, Cond.code yX4_hardest cX4_hardest 8 (some .int), Cond.instanceMethod yX2_turnsOf, Cond.initialized RX2, Cond.selects RX2 yX2_turnsOf yX2_turnsOf, Cond.code yX2_turnsOf cX2_turnsOf 7 (some .int), Cond.fieldLink RX2 12 "Shortring$Likeness" "from" "LShortring$Net;", Cond.fieldLink RX2 18 "Shortring$Likeness" "to" "LShortring$Net;"]
def wsL_act_r8 : List Cond := [Cond.methodLink RX2 50 Lib.Math.min.name, Cond.instanceMethod yX3_take, Cond.selects RX3 yX3_take yX3_take, Cond.code yX3_take cX3_take 3 none, Cond.methodLink RX2 46 yX2_partsLike, Cond.instanceMethod yX2_partsLike, Cond.selects RX2 yX2_partsLike yX2_partsLike, Cond.code yX2_partsLike cX2_partsLike 7 (some .int), Cond.methodLink RX2 55 yX2_waysOf, Cond.instanceMethod yX2_waysOf, Cond.selects RX2 yX2_waysOf yX2_waysOf, Cond.code yX2_waysOf cX2_waysOf 4 (some .int), Cond.fieldLink RX2 25 "Shortring$Likeness" "placed" "I", Cond.methodLink RX2 70 yJ6_bitCount_0f7a4, Cond.methodLink RX2 75 yX2_ways, Cond.static yX2_ways, Cond.code yX2_ways cX2_ways 9 (some .int), Cond.methodLink RX2 79 yX2_nextToPlace, Cond.instanceMethod yX2_nextToPlace, Cond.selects RX2 yX2_nextToPlace yX2_nextToPlace, Cond.code yX2_nextToPlace cX2_nextToPlace 6 (some .int), Cond.methodLink RX2 82 yX2_fitting, Cond.instanceMethod yX2_fitting, Cond.selects RX2 yX2_fitting yX2_fitting]
def wsL_act_r9 : List Cond := [Cond.code yX2_fitting cX2_fitting 8 (some .int), Cond.fieldLink RX2 21 "Shortring$Likeness" "image" "[I", Cond.methodLink RX2 85 yX2_place, Cond.instanceMethod yX2_place, Cond.selects RX2 yX2_place yX2_place, Cond.code yX2_place cX2_place 3 none, Cond.instanceMethod yX3_loneliest, Cond.selects RX3 yX3_loneliest yX3_loneliest, Cond.code yX3_loneliest cX3_loneliest 5 (some .int), Cond.methodLink RL 64 yX6_doubled, Cond.instanceMethod yX6_doubled, Cond.selects RX6 yX6_doubled yX6_doubled, Cond.code yX6_doubled cX6_doubled 2 (some .int), Cond.fieldLink RX6 16 "Shortring" "scratch" "LShortring$Net;", Cond.methodLink RX6 134 yX6_isSetBelow, Cond.static yX6_isSetBelow, Cond.code yX6_isSetBelow cX6_isSetBelow 2 (some .boolean), Cond.methodLink RX6 141 yX6_layDouble, Cond.instanceMethod yX6_layDouble, Cond.selects RX6 yX6_layDouble yX6_layDouble, Cond.code yX6_layDouble cX6_layDouble 7 none, Cond.methodLink RL 67 yX6_swap, Cond.instanceMethod yX6_swap, Cond.selects RX6 yX6_swap yX6_swap]
def wsL_act_r10 : List Cond := [Cond.code yX6_swap cX6_swap 6 (some .boolean), Cond.instanceMethod yX3_edgeAt, Cond.selects RX3 yX3_edgeAt yX3_edgeAt, Cond.code yX3_edgeAt cX3_edgeAt 6 (some .int), Cond.methodLink RX3 42 yX3_numberedIn, Cond.static yX3_numberedIn, Cond.code yX3_numberedIn cX3_numberedIn 4 (some .int), Cond.static yX6_firstOf, Cond.code yX6_firstOf cX6_firstOf 1 (some .int), Cond.static yX6_pairOf, Cond.code yX6_pairOf cX6_pairOf 2 (some .int), Cond.methodLink RX6 158 yX6_turned, Cond.static yX6_turned, Cond.code yX6_turned cX6_turned 2 (some .int), Cond.methodLink RX6 280 yX6_otherOf, Cond.static yX6_otherOf, Cond.code yX6_otherOf cX6_otherOf 1 (some .int), Cond.methodLink RX6 277 yX6_oneOf, Cond.static yX6_oneOf, Cond.code yX6_oneOf cX6_oneOf 1 (some .int), Cond.methodLink RX6 389 yX6_pairOf, Cond.methodLink RX6 162 yX6_canExchange, Cond.instanceMethod yX6_canExchange, Cond.selects RX6 yX6_canExchange yX6_canExchange]
def wsL_act_r11 : List Cond := [Cond.code yX6_canExchange cX6_canExchange 4 (some .boolean), Cond.methodLink RX6 165 yX6_exchange, Cond.instanceMethod yX6_exchange, Cond.selects RX6 yX6_exchange yX6_exchange, Cond.code yX6_exchange cX6_exchange 3 none, Cond.methodLink RL 70 yX6_mend, Cond.instanceMethod yX6_mend, Cond.selects RX6 yX6_mend yX6_mend, Cond.code yX6_mend cX6_mend 5 (some .int), Cond.methodLink RX6 176 yX6_mendByRounds, Cond.instanceMethod yX6_mendByRounds, Cond.selects RX6 yX6_mendByRounds yX6_mendByRounds, Cond.code yX6_mendByRounds cX6_mendByRounds 12 (some .int), Cond.constant RX6 395 (1103515245), Cond.constant RX6 396 (2147483647), Cond.methodLink RX6 392 yX6_shortRings, Cond.instanceMethod yX6_shortRings, Cond.selects RX6 yX6_shortRings yX6_shortRings, Cond.code yX6_shortRings cX6_shortRings 4 (some .int), Cond.methodLink RX6 292 yX6_countRings, Cond.instanceMethod yX6_countRings, Cond.selects RX6 yX6_countRings yX6_countRings, Cond.code yX6_countRings cX6_countRings 3 none, Cond.fieldLink RX6 51 "Shortring" "tally" "[I"]
def wsL_act_r12 : List Cond := [Cond.methodLink RX6 397 yX6_walk, Cond.static yX6_walk, Cond.code yX6_walk cX6_walk 9 none, Cond.methodLink RX6 295 yX6_tallied, Cond.instanceMethod yX6_tallied, Cond.selects RX6 yX6_tallied yX6_tallied, Cond.code yX6_tallied cX6_tallied 2 (some .int), Cond.methodLink RL 74 yX6_aim, Cond.instanceMethod yX6_aim, Cond.selects RX6 yX6_aim yX6_aim, Cond.code yX6_aim cX6_aim 3 (some .int), Cond.methodLink RX6 180 yX6_requireTabled, Cond.instanceMethod yX6_requireTabled, Cond.selects RX6 yX6_requireTabled yX6_requireTabled, Cond.code yX6_requireTabled cX6_requireTabled 3 none, Cond.instanceMethod yX0_begin, Cond.selects RX0 yX0_begin yX0_begin, Cond.code yX0_begin cX0_begin 3 none, Cond.fieldLink RX0 32 "Shortring$Hunt" "count" "I", Cond.fieldLink RX0 35 "Shortring$Hunt" "length" "I", Cond.fieldLink RX0 38 "Shortring$Hunt" "steps" "I", Cond.fieldLink RX0 28 "Shortring$Hunt" "state" "I", Cond.fieldLink RX0 41 "Shortring$Hunt" "putMany" "I", Cond.methodLink RX0 44 yX0_unbarDownTo]
def wsL_act_r13 : List Cond := [Cond.instanceMethod yX0_unbarDownTo, Cond.selects RX0 yX0_unbarDownTo yX0_unbarDownTo, Cond.code yX0_unbarDownTo cX0_unbarDownTo 3 none, Cond.fieldLink RX0 68 "Shortring$Hunt" "barMany" "I", Cond.fieldLink RX0 15 "Shortring$Hunt" "bars" "[I", Cond.methodLink RX0 90 yX0_flipBar, Cond.instanceMethod yX0_flipBar, Cond.selects RX0 yX0_flipBar yX0_flipBar, Cond.code yX0_flipBar cX0_flipBar 3 none, Cond.fieldLink RX0 9 "Shortring$Hunt" "barredWith" "[I", Cond.instanceMethod yX1_why, Cond.selects RX1 yX1_why yX1_why, Cond.code yX1_why cX1_why 4 (some .int), Cond.methodLink RX1 18 yX1_leastKnots, Cond.static yX1_leastKnots, Cond.code yX1_leastKnots cX1_leastKnots 6 (some .int), Cond.methodLink RX1 22 yX1_isProved, Cond.instanceMethod yX1_isProved, Cond.selects RX1 yX1_isProved yX1_isProved, Cond.code yX1_isProved cX1_isProved 6 (some .boolean), Cond.fieldLink RX1 9 "Shortring$Ledger" "leastProved" "[I", Cond.methodLink RX1 29 yX1_proofPlace, Cond.instanceMethod yX1_proofPlace, Cond.selects RX1 yX1_proofPlace yX1_proofPlace]
def wsL_act_r14 : List Cond := [Cond.code yX1_proofPlace cX1_proofPlace 5 (some .int), Cond.methodLink RL 38 yX6_search, Cond.instanceMethod yX6_search, Cond.selects RX6 yX6_search yX6_search, Cond.code yX6_search cX6_search 2 (some .int), Cond.instanceMethod yX0_nextKnot, Cond.selects RX0 yX0_nextKnot yX0_nextKnot, Cond.code yX0_nextKnot cX0_nextKnot 7 (some .int), Cond.methodLink RX0 112 yX0_needy, Cond.instanceMethod yX0_needy, Cond.selects RX0 yX0_needy yX0_needy, Cond.code yX0_needy cX0_needy 4 (some .int), Cond.methodLink RX0 115 yX0_joinableOf, Cond.instanceMethod yX0_joinableOf, Cond.selects RX0 yX0_joinableOf yX0_joinableOf, Cond.code yX0_joinableOf cX0_joinableOf 4 (some .int), Cond.methodLink RX0 118 yJ6_bitCount_0f7a4, Cond.instanceMethod yX0_partnerOf, Cond.selects RX0 yX0_partnerOf yX0_partnerOf, Cond.code yX0_partnerOf cX0_partnerOf 5 (some .int), Cond.methodLink RL 77 yX6_grow, Cond.instanceMethod yX6_grow, Cond.selects RX6 yX6_grow yX6_grow, Cond.code yX6_grow cX6_grow 3 (some .int)]
def wsL_act_r15 : List Cond := [Cond.instanceMethod yX0_step, Cond.selects RX0 yX0_step yX0_step, Cond.code yX0_step cX0_step 4 none, Cond.methodLink RX0 48 yX0_nextKnot, Cond.methodLink RX0 52 yX0_partnerOf, Cond.methodLink RX0 56 yX0_goBack, Cond.instanceMethod yX0_goBack, Cond.selects RX0 yX0_goBack yX0_goBack, Cond.code yX0_goBack cX0_goBack 3 none, Cond.fieldLink RX0 18 "Shortring$Hunt" "puts" "[I", Cond.fieldLink RX0 21 "Shortring$Hunt" "barsAtPut" "[I", Cond.methodLink RX0 87 yX0_bar, Cond.instanceMethod yX0_bar, Cond.selects RX0 yX0_bar yX0_bar, Cond.code yX0_bar cX0_bar 2 none, Cond.methodLink RX0 60 yX0_put, Cond.instanceMethod yX0_put, Cond.selects RX0 yX0_put yX0_put, Cond.code yX0_put cX0_put 4 none, Cond.instanceMethod yX1_prove, Cond.selects RX1 yX1_prove yX1_prove, Cond.code yX1_prove cX1_prove 5 none, Cond.methodLink RL 80 yX6_keep, Cond.instanceMethod yX6_keep]
def wsL_act_r16 : List Cond := [Cond.selects RX6 yX6_keep yX6_keep, Cond.code yX6_keep cX6_keep 3 (some .int), Cond.fieldLink RX6 19 "Shortring" "kept" "[LShortring$Net;", Cond.classLink RX6 9 RX3, Cond.instantiable RX3 2, Cond.instanceMethod yX3_init, Cond.code yX3_init cX3_init 1 none, Cond.methodLink RX3 3 objectInit, Cond.instanceMethod objectInit, Cond.code objectInit ⟨#[0xb1]⟩ 1 none, Cond.arrayClass .int, Cond.methodLink RL 84 yX6_back, Cond.instanceMethod yX6_back, Cond.selects RX6 yX6_back yX6_back, Cond.code yX6_back cX6_back 3 (some .int), Cond.methodLink RX6 311 yX6_keptAt, Cond.instanceMethod yX6_keptAt, Cond.selects RX6 yX6_keptAt yX6_keptAt, Cond.code yX6_keptAt cX6_keptAt 2 (some (.object "Shortring$Net"))]
def wsL_act : List Cond := .codeWith yL_act cL_act 5 (some .int) [(0, 76, 327, 87), (77, 110, 327, 87), (111, 136, 327, 87), (137, 162, 327, 87), (163, 198, 327, 87), (199, 230, 327, 87), (231, 254, 327, 87), (255, 296, 327, 87), (297, 326, 327, 87), (0, 76, 331, 89), (77, 110, 331, 89), (111, 136, 331, 89), (137, 162, 331, 89), (163, 198, 331, 89), (199, 230, 331, 89), (231, 254, 331, 89), (255, 296, 331, 89), (297, 326, 331, 89), (0, 76, 335, 91), (77, 110, 335, 91), (111, 136, 335, 91), (137, 162, 335, 91), (163, 198, 335, 91), (199, 230, 335, 91), (231, 254, 335, 91), (255, 296, 335, 91), (297, 326, 335, 91)] :: ((wsL_act_r1 ++ (wsL_act_r2 ++ (wsL_act_r3 ++ (wsL_act_r4 ++ (wsL_act_r5 ++ (wsL_act_r6 ++ (wsL_act_r7 ++ (wsL_act_r8 ++ (wsL_act_r9 ++ (wsL_act_r10 ++ (wsL_act_r11 ++ (wsL_act_r12 ++ (wsL_act_r13 ++ (wsL_act_r14 ++ (wsL_act_r15 ++ wsL_act_r16))))))))))))))) ++ wsX60 ++ wsX30 ++ wsX00 ++ wsX10 ++ wsX40 ++ wsX20 ++ (vx_atS RX6 70 "java/lang/IllegalArgumentException" ["java/lang/RuntimeException", "java/lang/Exception"]).filter goodWord ++ (vx_atS RX6 95 "java/lang/IndexOutOfBoundsException" ["java/lang/RuntimeException", "java/lang/Exception"]).filter goodWord ++ (vx_atS RX6 110 "java/lang/IllegalStateException" ["java/lang/RuntimeException", "java/lang/Exception"]).filter goodWord)
def wsL_law0_r1 : List Cond := [Cond.classLink RL 9 RX6, Cond.instantiable RX6 10, Cond.initialized RX6, Cond.classLink RL 26 "[I", Cond.arrayClass .int, Cond.methodLink RL 11 yX6_init, Cond.instanceMethod yX6_init, Cond.code yX6_init cX6_init 1 none, Cond.methodLink RX6 3 objectInit, Cond.instanceMethod objectInit, Cond.code objectInit ⟨#[0xb1]⟩ 1 none, Cond.classLink RX6 9 RX3, Cond.instantiable RX3 2, Cond.initialized RX3, Cond.fieldLink RX6 12 "Shortring" "net" "LShortring$Net;", Cond.fieldLink RX6 16 "Shortring" "scratch" "LShortring$Net;", Cond.fieldLink RX6 19 "Shortring" "kept" "[LShortring$Net;", Cond.classLink RX6 23 RX0, Cond.instantiable RX0 11, Cond.initialized RX0, Cond.fieldLink RX6 26 "Shortring" "hunt" "LShortring$Hunt;", Cond.classLink RX6 30 RX1, Cond.instantiable RX1 2, Cond.initialized RX1]
def wsL_law0_r2 : List Cond := [Cond.fieldLink RX6 33 "Shortring" "ledger" "LShortring$Ledger;", Cond.classLink RX6 37 RX2, Cond.instantiable RX2 4, Cond.initialized RX2, Cond.fieldLink RX6 40 "Shortring" "likeness" "LShortring$Likeness;", Cond.classLink RX6 44 RX4, Cond.instantiable RX4 1, Cond.initialized RX4, Cond.fieldLink RX6 47 "Shortring" "paint" "LShortring$Paint;", Cond.fieldLink RX6 51 "Shortring" "tally" "[I", Cond.fieldLink RX6 55 "Shortring" "keptMany" "I", Cond.fieldLink RX6 59 "Shortring" "refused" "I", Cond.instanceMethod yX3_init, Cond.code yX3_init cX3_init 1 none, Cond.methodLink RX3 3 objectInit, Cond.fieldLink RX3 9 "Shortring$Net" "near" "[I", Cond.fieldLink RX3 15 "Shortring$Net" "knots" "I", Cond.instanceMethod yX0_init, Cond.code yX0_init cX0_init 1 none, Cond.methodLink RX0 3 objectInit, Cond.fieldLink RX0 9 "Shortring$Hunt" "barredWith" "[I", Cond.fieldLink RX0 15 "Shortring$Hunt" "bars" "[I", Cond.fieldLink RX0 18 "Shortring$Hunt" "puts" "[I", Cond.fieldLink RX0 21 "Shortring$Hunt" "barsAtPut" "[I"]
def wsL_law0_r3 : List Cond := [Cond.fieldLink RX0 24 "Shortring$Hunt" "isOn" "Z", Cond.fieldLink RX0 28 "Shortring$Hunt" "state" "I", Cond.instanceMethod yX1_init, Cond.code yX1_init cX1_init 1 none, Cond.methodLink RX1 3 objectInit, Cond.fieldLink RX1 9 "Shortring$Ledger" "leastProved" "[I", Cond.fieldLink RX1 15 "Shortring$Ledger" "smallest" "[I", Cond.instanceMethod yX2_init, Cond.code yX2_init cX2_init 1 none, Cond.methodLink RX2 3 objectInit, Cond.classLink RX2 9 RX3, Cond.fieldLink RX2 12 "Shortring$Likeness" "from" "LShortring$Net;", Cond.fieldLink RX2 18 "Shortring$Likeness" "to" "LShortring$Net;", Cond.fieldLink RX2 21 "Shortring$Likeness" "image" "[I", Cond.fieldLink RX2 25 "Shortring$Likeness" "placed" "I", Cond.instanceMethod yX4_init, Cond.code yX4_init cX4_init 1 none, Cond.methodLink RX4 3 objectInit, Cond.fieldLink RX4 9 "Shortring$Paint" "hues" "[I", Cond.methodLink RL 12 yL_cell, Cond.static yL_cell, Cond.initialized RL, Cond.code yL_cell cL_cell 2 (some .int), Cond.constant RL 8 (790386105)]
def wsL_law0_r4 : List Cond := [Cond.methodLink RL 18 yL_below, Cond.static yL_below, Cond.code yL_below cL_below 2 (some .int), Cond.constant RL 7 (2147483647), Cond.methodLink RL 22 yX6_garden, Cond.instanceMethod yX6_garden, Cond.selects RX6 yX6_garden yX6_garden, Cond.code yX6_garden cX6_garden 3 (some .int), Cond.classLink RX6 66 "java/lang/IllegalArgumentException", Cond.initialized "java/lang/IllegalArgumentException", Cond.methodLink RX6 62 yX6_isWithin, Cond.static yX6_isWithin, Cond.code yX6_isWithin cX6_isWithin 3 (some .boolean), Cond.instanceMethod yX3_lay, Cond.selects RX3 yX3_lay yX3_lay, Cond.code yX3_lay cX3_lay 3 none, Cond.instanceMethod yX0_end, Cond.selects RX0 yX0_end yX0_end, Cond.code yX0_end cX0_end 1 none, Cond.instanceMethod yX1_look, Cond.selects RX1 yX1_look yX1_look, Cond.code yX1_look cX1_look 4 none, Cond.instanceMethod yX3_evenCount, Cond.selects RX3 yX3_evenCount yX3_evenCount]
def wsL_law0_r5 : List Cond := [Cond.code yX3_evenCount cX3_evenCount 3 (some .int), Cond.methodLink RX3 39 yX3_countOf, Cond.instanceMethod yX3_countOf, Cond.selects RX3 yX3_countOf yX3_countOf, Cond.code yX3_countOf cX3_countOf 2 (some .int), Cond.methodLink RX3 19 yX3_nearOf, Cond.instanceMethod yX3_nearOf, Cond.selects RX3 yX3_nearOf yX3_nearOf, Cond.code yX3_nearOf cX3_nearOf 2 (some .int), Cond.methodLink RX3 27 yJ6_bitCount_0f7a4, Cond.static yJ6_bitCount_0f7a4, Cond.initialized RJ6, Cond.code yJ6_bitCount_0f7a4 cJ6_bitCount_0f7a4 1 (some .int), Cond.constant RJ6 265 (1431655765), Cond.constant RJ6 266 (858993459), Cond.constant RJ6 267 (252645135), Cond.static yX5_leastRing, Cond.initialized RX5, Cond.code yX5_leastRing cX5_leastRing 3 (some .int), Cond.methodLink RX5 66 yX5_leastRingAt, Cond.static yX5_leastRingAt, Cond.code yX5_leastRingAt cX5_leastRingAt 4 (some .int), Cond.instanceMethod yX3_isNear, Cond.selects RX3 yX3_isNear yX3_isNear]
def wsL_law0_r6 : List Cond := [Cond.code yX3_isNear cX3_isNear 3 (some .boolean), Cond.static yX6_holds, Cond.code yX6_holds cX6_holds 2 (some .boolean), Cond.methodLink RX5 60 yX5_leastRingBy, Cond.static yX5_leastRingBy, Cond.code yX5_leastRingBy cX5_leastRingBy 6 (some .int), Cond.static yX6_bit, Cond.code yX6_bit cX6_bit 1 (some .int), Cond.methodLink RX5 23 yX5_around, Cond.static yX5_around, Cond.code yX5_around cX5_around 6 (some .int), Cond.methodLink RX5 9 yJ6_bitCount_0f7a4, Cond.static yX6_lesser, Cond.code yX6_lesser cX6_lesser 2 (some .int), Cond.methodLink RX6 324 Lib.Math.min.name, Cond.static Lib.Math.min.name, Cond.initialized "java/lang/Math", Cond.code Lib.Math.min.name Lib.Math.min.code 2 (some .int), Cond.methodLink RX1 44 yX1_tablePlace, Cond.instanceMethod yX1_tablePlace, Cond.selects RX1 yX1_tablePlace yX1_tablePlace, Cond.code yX1_tablePlace cX1_tablePlace 5 (some .int), Cond.methodLink RL 28 yX6_now, Cond.instanceMethod yX6_now]
def wsL_law0_r7 : List Cond := [Cond.selects RX6 yX6_now yX6_now, Cond.code yX6_now cX6_now 2 (some .int), Cond.instanceMethod yX3_edgesInAll, Cond.selects RX3 yX3_edgesInAll yX3_edgesInAll, Cond.code yX3_edgesInAll cX3_edgesInAll 3 (some .int), Cond.static yX5_partsInAll, Cond.code yX5_partsInAll cX5_partsInAll 4 (some .int), Cond.methodLink RX5 41 yX5_partWith, Cond.static yX5_partWith, Cond.code yX5_partWith cX5_partWith 2 (some .int), Cond.methodLink RX5 29 yX5_within, Cond.static yX5_within, Cond.code yX5_within cX5_within 6 (some .int), Cond.static yX5_width, Cond.code yX5_width cX5_width 3 (some .int), Cond.methodLink RX5 51 Lib.Math.max.name, Cond.static Lib.Math.max.name, Cond.code Lib.Math.max.name Lib.Math.max.code 2 (some .int), Cond.methodLink RX5 44 yX5_partsInAll, Cond.methodLink RX5 48 yX5_greatestDistance, Cond.static yX5_greatestDistance, Cond.code yX5_greatestDistance cX5_greatestDistance 5 (some .int), Cond.instanceMethod yX4_fewest, Cond.selects RX4 yX4_fewest yX4_fewest]
def wsL_law0_r8 : List Cond := [Cond.code yX4_fewest cX4_fewest 6 (some .int), Cond.methodLink RX4 31 Lib.Math.max.name, Cond.methodLink RX4 37 yX4_fewestOf, Cond.instanceMethod yX4_fewestOf, Cond.selects RX4 yX4_fewestOf yX4_fewestOf, Cond.code yX4_fewestOf cX4_fewestOf 6 (some .int), Cond.methodLink RX4 41 yX4_canPaint, Cond.static yX4_canPaint, Cond.code yX4_canPaint cX4_canPaint 8 (some .boolean), Cond.methodLink RX4 45 yX4_hardest, Cond.static yX4_hardest, Cond.code yX4_hardest cX4_hardest 8 (some .int), Cond.instanceMethod yX2_turnsOf, Cond.selects RX2 yX2_turnsOf yX2_turnsOf, Cond.code yX2_turnsOf cX2_turnsOf 7 (some .int), Cond.methodLink RX2 50 Lib.Math.min.name, Cond.instanceMethod yX3_take, Cond.selects RX3 yX3_take yX3_take, Cond.code yX3_take cX3_take 3 none, Cond.methodLink RX2 46 yX2_partsLike, Cond.instanceMethod yX2_partsLike, Cond.selects RX2 yX2_partsLike yX2_partsLike, Cond.code yX2_partsLike cX2_partsLike 7 (some .int), Cond.methodLink RX2 55 yX2_waysOf]
def wsL_law0_r9 : List Cond := [Cond.instanceMethod yX2_waysOf, Cond.selects RX2 yX2_waysOf yX2_waysOf, Cond.code yX2_waysOf cX2_waysOf 4 (some .int), Cond.methodLink RX2 70 yJ6_bitCount_0f7a4, Cond.methodLink RX2 75 yX2_ways, Cond.static yX2_ways, Cond.code yX2_ways cX2_ways 9 (some .int), Cond.methodLink RX2 79 yX2_nextToPlace, Cond.instanceMethod yX2_nextToPlace, Cond.selects RX2 yX2_nextToPlace yX2_nextToPlace, Cond.code yX2_nextToPlace cX2_nextToPlace 6 (some .int), Cond.methodLink RX2 82 yX2_fitting, Cond.instanceMethod yX2_fitting, Cond.selects RX2 yX2_fitting yX2_fitting, Cond.code yX2_fitting cX2_fitting 8 (some .int), Cond.methodLink RX2 85 yX2_place, Cond.instanceMethod yX2_place, Cond.selects RX2 yX2_place yX2_place, Cond.code yX2_place cX2_place 3 none, Cond.instanceMethod yX3_loneliest, Cond.selects RX3 yX3_loneliest yX3_loneliest, Cond.code yX3_loneliest cX3_loneliest 5 (some .int), Cond.methodLink RL 31 yX6_ofKnot, Cond.instanceMethod yX6_ofKnot]
def wsL_law0_r10 : List Cond := [Cond.selects RX6 yX6_ofKnot yX6_ofKnot, Cond.code yX6_ofKnot cX6_ofKnot 3 (some .int), Cond.classLink RX6 91 "java/lang/IndexOutOfBoundsException", Cond.initialized "java/lang/IndexOutOfBoundsException", Cond.instanceMethod yX3_isKnot, Cond.selects RX3 yX3_isKnot yX3_isKnot, Cond.code yX3_isKnot cX3_isKnot 2 (some .boolean), Cond.static yX5_partNumber, Cond.code yX5_partNumber cX5_partNumber 5 (some .int), Cond.instanceMethod yX0_joinable, Cond.selects RX0 yX0_joinable yX0_joinable, Cond.code yX0_joinable cX0_joinable 3 (some .int), Cond.methodLink RX0 112 yX0_needy, Cond.instanceMethod yX0_needy, Cond.selects RX0 yX0_needy yX0_needy, Cond.code yX0_needy cX0_needy 4 (some .int), Cond.fieldLink RX0 32 "Shortring$Hunt" "count" "I", Cond.methodLink RX0 115 yX0_joinableOf, Cond.instanceMethod yX0_joinableOf, Cond.selects RX0 yX0_joinableOf yX0_joinableOf, Cond.code yX0_joinableOf cX0_joinableOf 4 (some .int), Cond.fieldLink RX0 35 "Shortring$Hunt" "length" "I", Cond.methodLink RX6 270 yJ6_bitCount_0f7a4, Cond.methodLink RL 34 yL_act]
def wsL_law0_r11 : List Cond := [Cond.static yL_act, Cond.codeWith yL_act cL_act 5 (some .int) [(0, 76, 327, 87), (77, 110, 327, 87), (111, 136, 327, 87), (137, 162, 327, 87), (163, 198, 327, 87), (199, 230, 327, 87), (231, 254, 327, 87), (255, 296, 327, 87), (297, 326, 327, 87), (0, 76, 331, 89), (77, 110, 331, 89), (111, 136, 331, 89), (137, 162, 331, 89), (163, 198, 331, 89), (199, 230, 331, 89), (231, 254, 331, 89), (255, 296, 331, 89), (297, 326, 331, 89), (0, 76, 335, 91), (77, 110, 335, 91), (111, 136, 335, 91), (137, 162, 335, 91), (163, 198, 335, 91), (199, 230, 335, 91), (231, 254, 335, 91), (255, 296, 335, 91), (297, 326, 335, 91)], Cond.classLink RL 87 "java/lang/IndexOutOfBoundsException", Cond.classLink RL 89 "java/lang/IllegalArgumentException", Cond.classLink RL 91 "java/lang/IllegalStateException", Cond.methodLink RL 59 Lib.Math.min.name, Cond.methodLink RL 52 yX6_edge, Cond.instanceMethod yX6_edge, Cond.selects RX6 yX6_edge yX6_edge, Cond.code yX6_edge cX6_edge 6 (some .boolean), Cond.classLink RX6 106 "java/lang/IllegalStateException", Cond.initialized "java/lang/IllegalStateException", Cond.instanceMethod yX3_join, Cond.selects RX3 yX3_join yX3_join, Cond.code yX3_join cX3_join 3 none, Cond.methodLink RX3 32 yX3_isKnot, Cond.instanceMethod yX3_loosen, Cond.selects RX3 yX3_loosen yX3_loosen, Cond.code yX3_loosen cX3_loosen 3 none, Cond.methodLink RL 56 yX6_ring, Cond.instanceMethod yX6_ring, Cond.selects RX6 yX6_ring yX6_ring, Cond.code yX6_ring cX6_ring 4 (some .int), Cond.methodLink RX6 118 yX6_bit]
def wsL_law0_r12 : List Cond := [Cond.methodLink RX6 123 yX6_countByJumps, Cond.static yX6_countByJumps, Cond.code yX6_countByJumps cX6_countByJumps 4 (some .int), Cond.methodLink RX6 386 yX6_holds, Cond.methodLink RX6 127 yX6_layByJumps, Cond.instanceMethod yX6_layByJumps, Cond.selects RX6 yX6_layByJumps yX6_layByJumps, Cond.code yX6_layByJumps cX6_layByJumps 6 none, Cond.methodLink RL 64 yX6_doubled, Cond.instanceMethod yX6_doubled, Cond.selects RX6 yX6_doubled yX6_doubled, Cond.code yX6_doubled cX6_doubled 2 (some .int), Cond.methodLink RX6 134 yX6_isSetBelow, Cond.static yX6_isSetBelow, Cond.code yX6_isSetBelow cX6_isSetBelow 2 (some .boolean), Cond.methodLink RX6 141 yX6_layDouble, Cond.instanceMethod yX6_layDouble, Cond.selects RX6 yX6_layDouble yX6_layDouble, Cond.code yX6_layDouble cX6_layDouble 7 none, Cond.methodLink RL 67 yX6_swap, Cond.instanceMethod yX6_swap, Cond.selects RX6 yX6_swap yX6_swap, Cond.code yX6_swap cX6_swap 6 (some .boolean), Cond.instanceMethod yX3_edgeAt]
def wsL_law0_r13 : List Cond := [Cond.selects RX3 yX3_edgeAt yX3_edgeAt, Cond.code yX3_edgeAt cX3_edgeAt 6 (some .int), Cond.methodLink RX3 42 yX3_numberedIn, Cond.static yX3_numberedIn, Cond.code yX3_numberedIn cX3_numberedIn 4 (some .int), Cond.static yX6_firstOf, Cond.code yX6_firstOf cX6_firstOf 1 (some .int), Cond.static yX6_pairOf, Cond.code yX6_pairOf cX6_pairOf 2 (some .int), Cond.methodLink RX6 158 yX6_turned, Cond.static yX6_turned, Cond.code yX6_turned cX6_turned 2 (some .int), Cond.methodLink RX6 280 yX6_otherOf, Cond.static yX6_otherOf, Cond.code yX6_otherOf cX6_otherOf 1 (some .int), Cond.methodLink RX6 277 yX6_oneOf, Cond.static yX6_oneOf, Cond.code yX6_oneOf cX6_oneOf 1 (some .int), Cond.methodLink RX6 389 yX6_pairOf, Cond.methodLink RX6 162 yX6_canExchange, Cond.instanceMethod yX6_canExchange, Cond.selects RX6 yX6_canExchange yX6_canExchange, Cond.code yX6_canExchange cX6_canExchange 4 (some .boolean), Cond.methodLink RX6 165 yX6_exchange]
def wsL_law0_r14 : List Cond := [Cond.instanceMethod yX6_exchange, Cond.selects RX6 yX6_exchange yX6_exchange, Cond.code yX6_exchange cX6_exchange 3 none, Cond.methodLink RL 70 yX6_mend, Cond.instanceMethod yX6_mend, Cond.selects RX6 yX6_mend yX6_mend, Cond.code yX6_mend cX6_mend 5 (some .int), Cond.methodLink RX6 176 yX6_mendByRounds, Cond.instanceMethod yX6_mendByRounds, Cond.selects RX6 yX6_mendByRounds yX6_mendByRounds, Cond.code yX6_mendByRounds cX6_mendByRounds 12 (some .int), Cond.constant RX6 395 (1103515245), Cond.constant RX6 396 (2147483647), Cond.methodLink RX6 392 yX6_shortRings, Cond.instanceMethod yX6_shortRings, Cond.selects RX6 yX6_shortRings yX6_shortRings, Cond.code yX6_shortRings cX6_shortRings 4 (some .int), Cond.methodLink RX6 292 yX6_countRings, Cond.instanceMethod yX6_countRings, Cond.selects RX6 yX6_countRings yX6_countRings, Cond.code yX6_countRings cX6_countRings 3 none, Cond.methodLink RX6 397 yX6_walk, Cond.static yX6_walk, Cond.code yX6_walk cX6_walk 9 none]
def wsL_law0_r15 : List Cond := [Cond.methodLink RX6 295 yX6_tallied, Cond.instanceMethod yX6_tallied, Cond.selects RX6 yX6_tallied yX6_tallied, Cond.code yX6_tallied cX6_tallied 2 (some .int), Cond.methodLink RL 74 yX6_aim, Cond.instanceMethod yX6_aim, Cond.selects RX6 yX6_aim yX6_aim, Cond.code yX6_aim cX6_aim 3 (some .int), Cond.methodLink RX6 180 yX6_requireTabled, Cond.instanceMethod yX6_requireTabled, Cond.selects RX6 yX6_requireTabled yX6_requireTabled, Cond.code yX6_requireTabled cX6_requireTabled 3 none, Cond.instanceMethod yX0_begin, Cond.selects RX0 yX0_begin yX0_begin, Cond.code yX0_begin cX0_begin 3 none, Cond.fieldLink RX0 38 "Shortring$Hunt" "steps" "I", Cond.fieldLink RX0 41 "Shortring$Hunt" "putMany" "I", Cond.methodLink RX0 44 yX0_unbarDownTo, Cond.instanceMethod yX0_unbarDownTo, Cond.selects RX0 yX0_unbarDownTo yX0_unbarDownTo, Cond.code yX0_unbarDownTo cX0_unbarDownTo 3 none, Cond.fieldLink RX0 68 "Shortring$Hunt" "barMany" "I", Cond.methodLink RX0 90 yX0_flipBar, Cond.instanceMethod yX0_flipBar]
def wsL_law0_r16 : List Cond := [Cond.selects RX0 yX0_flipBar yX0_flipBar, Cond.code yX0_flipBar cX0_flipBar 3 none, Cond.instanceMethod yX1_why, Cond.selects RX1 yX1_why yX1_why, Cond.code yX1_why cX1_why 4 (some .int), Cond.methodLink RX1 18 yX1_leastKnots, Cond.static yX1_leastKnots, Cond.code yX1_leastKnots cX1_leastKnots 6 (some .int), Cond.methodLink RX1 22 yX1_isProved, Cond.instanceMethod yX1_isProved, Cond.selects RX1 yX1_isProved yX1_isProved, Cond.code yX1_isProved cX1_isProved 6 (some .boolean), Cond.methodLink RX1 29 yX1_proofPlace, Cond.instanceMethod yX1_proofPlace, Cond.selects RX1 yX1_proofPlace yX1_proofPlace, Cond.code yX1_proofPlace cX1_proofPlace 5 (some .int), Cond.methodLink RL 38 yX6_search, Cond.instanceMethod yX6_search, Cond.selects RX6 yX6_search yX6_search, Cond.code yX6_search cX6_search 2 (some .int), Cond.instanceMethod yX0_nextKnot, Cond.selects RX0 yX0_nextKnot yX0_nextKnot, Cond.code yX0_nextKnot cX0_nextKnot 7 (some .int), Cond.methodLink RX0 118 yJ6_bitCount_0f7a4]
def wsL_law0_r17 : List Cond := [Cond.instanceMethod yX0_partnerOf, Cond.selects RX0 yX0_partnerOf yX0_partnerOf, Cond.code yX0_partnerOf cX0_partnerOf 5 (some .int), Cond.methodLink RL 77 yX6_grow, Cond.instanceMethod yX6_grow, Cond.selects RX6 yX6_grow yX6_grow, Cond.code yX6_grow cX6_grow 3 (some .int), Cond.instanceMethod yX0_step, Cond.selects RX0 yX0_step yX0_step, Cond.code yX0_step cX0_step 4 none, Cond.methodLink RX0 48 yX0_nextKnot, Cond.methodLink RX0 52 yX0_partnerOf, Cond.methodLink RX0 56 yX0_goBack, Cond.instanceMethod yX0_goBack, Cond.selects RX0 yX0_goBack yX0_goBack, Cond.code yX0_goBack cX0_goBack 3 none, Cond.methodLink RX0 87 yX0_bar, Cond.instanceMethod yX0_bar, Cond.selects RX0 yX0_bar yX0_bar, Cond.code yX0_bar cX0_bar 2 none, Cond.methodLink RX0 60 yX0_put, Cond.instanceMethod yX0_put, Cond.selects RX0 yX0_put yX0_put, Cond.code yX0_put cX0_put 4 none]
def wsL_law0_r18 : List Cond := [Cond.instanceMethod yX1_prove, Cond.selects RX1 yX1_prove yX1_prove, Cond.code yX1_prove cX1_prove 5 none, Cond.methodLink RL 80 yX6_keep, Cond.instanceMethod yX6_keep, Cond.selects RX6 yX6_keep yX6_keep, Cond.code yX6_keep cX6_keep 3 (some .int), Cond.methodLink RL 84 yX6_back, Cond.instanceMethod yX6_back, Cond.selects RX6 yX6_back yX6_back, Cond.code yX6_back cX6_back 3 (some .int), Cond.methodLink RX6 311 yX6_keptAt, Cond.instanceMethod yX6_keptAt, Cond.selects RX6 yX6_keptAt yX6_keptAt, Cond.code yX6_keptAt cX6_keptAt 2 (some (.object "Shortring$Net")), Cond.methodLink RL 41 yX6_bound, Cond.instanceMethod yX6_bound, Cond.selects RX6 yX6_bound yX6_bound, Cond.code yX6_bound cX6_bound 3 (some .int), Cond.methodLink RL 44 yX6_digest, Cond.instanceMethod yX6_digest, Cond.selects RX6 yX6_digest yX6_digest, Cond.code yX6_digest cX6_digest 4 (some .long), Cond.constantLong RX6 353 (9241)]
def wsL_law0_r19 : List Cond := [Cond.constantLong RX6 355 (31), Cond.methodLink RX6 357 yX6_now, Cond.methodLink RX6 360 yX6_search, Cond.methodLink RX6 363 yX6_digestOfKnots, Cond.instanceMethod yX6_digestOfKnots, Cond.selects RX6 yX6_digestOfKnots yX6_digestOfKnots, Cond.code yX6_digestOfKnots cX6_digestOfKnots 7 (some .long), Cond.methodLink RX6 401 yX6_ofKnot, Cond.methodLink RX6 367 yX6_digestOfEdges, Cond.instanceMethod yX6_digestOfEdges, Cond.selects RX6 yX6_digestOfEdges yX6_digestOfEdges, Cond.code yX6_digestOfEdges cX6_digestOfEdges 8 (some .long), Cond.methodLink RX6 404 yX6_ofEdge, Cond.instanceMethod yX6_ofEdge, Cond.selects RX6 yX6_ofEdge yX6_ofEdge, Cond.code yX6_ofEdge cX6_ofEdge 4 (some .int), Cond.methodLink RX6 370 yX6_rings, Cond.instanceMethod yX6_rings, Cond.selects RX6 yX6_rings yX6_rings, Cond.code yX6_rings cX6_rings 2 (some .int), Cond.methodLink RX6 373 yX6_digestOfTable, Cond.instanceMethod yX6_digestOfTable, Cond.selects RX6 yX6_digestOfTable yX6_digestOfTable, Cond.code yX6_digestOfTable cX6_digestOfTable 7 (some .long)]
def wsL_law0_r20 : List Cond := [Cond.methodLink RX6 407 yX6_table, Cond.instanceMethod yX6_table, Cond.selects RX6 yX6_table yX6_table, Cond.code yX6_table cX6_table 4 (some .int), Cond.instanceMethod yX1_nextOf, Cond.selects RX1 yX1_nextOf yX1_nextOf, Cond.code yX1_nextOf cX1_nextOf 4 (some .int), Cond.methodLink RX1 51 yX1_why, Cond.instanceMethod yX1_smallestOf, Cond.selects RX1 yX1_smallestOf yX1_smallestOf, Cond.code yX1_smallestOf cX1_smallestOf 4 (some .int), Cond.methodLink RX6 376 yX6_isAlike, Cond.instanceMethod yX6_isAlike, Cond.selects RX6 yX6_isAlike yX6_isAlike, Cond.code yX6_isAlike cX6_isAlike 3 (some .boolean), Cond.instanceMethod yX2_areAlike, Cond.selects RX2 yX2_areAlike yX2_areAlike, Cond.code yX2_areAlike cX2_areAlike 8 (some .boolean), Cond.methodLink RX2 67 yX2_partMatching, Cond.instanceMethod yX2_partMatching, Cond.selects RX2 yX2_partMatching yX2_partMatching, Cond.code yX2_partMatching cX2_partMatching 6 (some .int), Cond.methodLink RX6 379 yX6_isSound, Cond.instanceMethod yX6_isSound]
def wsL_law0_r21 : List Cond := [Cond.selects RX6 yX6_isSound yX6_isSound, Cond.code yX6_isSound cX6_isSound 1 (some .boolean), Cond.instanceMethod yX3_isMutual, Cond.selects RX3 yX3_isMutual yX3_isMutual, Cond.code yX3_isMutual cX3_isMutual 4 (some .boolean), Cond.methodLink RX3 52 yX3_isNear, Cond.methodLink RX6 344 yX6_isAimSound, Cond.instanceMethod yX6_isAimSound, Cond.selects RX6 yX6_isAimSound yX6_isAimSound, Cond.code yX6_isAimSound cX6_isAimSound 2 (some .boolean), Cond.methodLink RX6 347 yX6_isEvenSound, Cond.instanceMethod yX6_isEvenSound, Cond.selects RX6 yX6_isEvenSound yX6_isEvenSound, Cond.code yX6_isEvenSound cX6_isEvenSound 3 (some .boolean), Cond.instanceMethod yX1_isTableSound, Cond.selects RX1 yX1_isTableSound yX1_isTableSound, Cond.code yX1_isTableSound cX1_isTableSound 5 (some .boolean), Cond.methodLink RX1 55 yX1_smallestOf, Cond.methodLink RX1 58 yX1_nextOf, Cond.methodLink RL 48 yX6_isSound]
def wsL_law0 : List Cond := (wsL_law0_r1 ++ (wsL_law0_r2 ++ (wsL_law0_r3 ++ (wsL_law0_r4 ++ (wsL_law0_r5 ++ (wsL_law0_r6 ++ (wsL_law0_r7 ++ (wsL_law0_r8 ++ (wsL_law0_r9 ++ (wsL_law0_r10 ++ (wsL_law0_r11 ++ (wsL_law0_r12 ++ (wsL_law0_r13 ++ (wsL_law0_r14 ++ (wsL_law0_r15 ++ (wsL_law0_r16 ++ (wsL_law0_r17 ++ (wsL_law0_r18 ++ (wsL_law0_r19 ++ (wsL_law0_r20 ++ wsL_law0_r21)))))))))))))))))))) ++ wsX60 ++ wsX30 ++ wsX00 ++ wsX10 ++ wsX20 ++ wsX40 ++ ([] : List Cond)
def wsL_law : List Cond := wsL_law0 ++ (vx_atS RX6 70 "java/lang/IllegalArgumentException" ["java/lang/RuntimeException", "java/lang/Exception"]).filter goodWord ++ (vx_atS RX6 95 "java/lang/IndexOutOfBoundsException" ["java/lang/RuntimeException", "java/lang/Exception"]).filter goodWord ++ (vx_atS RX6 110 "java/lang/IllegalStateException" ["java/lang/RuntimeException", "java/lang/Exception"]).filter goodWord
theorem dX0_init_0 : decode cX0_init 0 = .ok (.aload_n 0, 1) := by decide +kernel
theorem dX0_init_1 : decode cX0_init 1 = .ok (.invokespecial 3, 3) := by decide +kernel
theorem dX0_init_4 : decode cX0_init 4 = .ok (.aload_n 0, 1) := by decide +kernel
theorem dX0_init_5 : decode cX0_init 5 = .ok (.bipush 16, 2) := by decide +kernel
theorem dX0_init_7 : decode cX0_init 7 = .ok (.newarray .int, 2) := by decide +kernel
theorem dX0_init_9 : decode cX0_init 9 = .ok (.putfield 9, 3) := by decide +kernel
theorem dX0_init_12 : decode cX0_init 12 = .ok (.aload_n 0, 1) := by decide +kernel
theorem dX0_init_13 : decode cX0_init 13 = .ok (.bipush 120, 2) := by decide +kernel
theorem dX0_init_15 : decode cX0_init 15 = .ok (.newarray .int, 2) := by decide +kernel
theorem dX0_init_17 : decode cX0_init 17 = .ok (.putfield 15, 3) := by decide +kernel
theorem dX0_init_20 : decode cX0_init 20 = .ok (.aload_n 0, 1) := by decide +kernel
theorem dX0_init_21 : decode cX0_init 21 = .ok (.bipush 40, 2) := by decide +kernel
theorem dX0_init_23 : decode cX0_init 23 = .ok (.newarray .int, 2) := by decide +kernel
theorem dX0_init_25 : decode cX0_init 25 = .ok (.putfield 18, 3) := by decide +kernel
theorem dX0_init_28 : decode cX0_init 28 = .ok (.aload_n 0, 1) := by decide +kernel
theorem dX0_init_29 : decode cX0_init 29 = .ok (.bipush 40, 2) := by decide +kernel
theorem dX0_init_31 : decode cX0_init 31 = .ok (.newarray .int, 2) := by decide +kernel
theorem dX0_init_33 : decode cX0_init 33 = .ok (.putfield 21, 3) := by decide +kernel
theorem dX0_init_36 : decode cX0_init 36 = .ok (.aload_n 0, 1) := by decide +kernel
theorem dX0_init_37 : decode cX0_init 37 = .ok (.iconst 0, 1) := by decide +kernel
theorem dX0_init_38 : decode cX0_init 38 = .ok (.putfield 24, 3) := by decide +kernel
theorem dX0_init_41 : decode cX0_init 41 = .ok (.aload_n 0, 1) := by decide +kernel
theorem dX0_init_42 : decode cX0_init 42 = .ok (.iconst 0, 1) := by decide +kernel
theorem dX0_init_43 : decode cX0_init 43 = .ok (.putfield 28, 3) := by decide +kernel
theorem dX0_init_46 : decode cX0_init 46 = .ok (.return_, 1) := by decide +kernel
set_option maxRecDepth 20000 in
theorem ggX0_begin_X0_unbarDownTo : GoodIn wsX0_begin wsX0_unbarDownTo := goodIn_r _ [11, 12, 13, 14, 15, 16, 17, 18, 19, 20, 21, 10, 22, 23, 24, 25, 26, 27, 28, 29, 30, 31, 32, 33, 34, 35, 36] (by decide +kernel) (by decide +kernel)
set_option maxRecDepth 20000 in
theorem gX0_begin_X0_unbarDownTo : GoodIn wsX0_begin (wsV RX0 44 RX0 yX0_unbarDownTo wsX0_unbarDownTo) := goodIn_app (goodIn_of _ (by decide +kernel)) ggX0_begin_X0_unbarDownTo
theorem dX0_begin_0 : decode cX0_begin 0 = .ok (.aload_n 0, 1) := by decide +kernel
theorem dX0_begin_1 : decode cX0_begin 1 = .ok (.iconst 1, 1) := by decide +kernel
theorem dX0_begin_2 : decode cX0_begin 2 = .ok (.putfield 24, 3) := by decide +kernel
theorem dX0_begin_5 : decode cX0_begin 5 = .ok (.aload_n 0, 1) := by decide +kernel
theorem dX0_begin_6 : decode cX0_begin 6 = .ok (.iload_n 1, 1) := by decide +kernel
theorem dX0_begin_7 : decode cX0_begin 7 = .ok (.putfield 32, 3) := by decide +kernel
theorem dX0_begin_10 : decode cX0_begin 10 = .ok (.aload_n 0, 1) := by decide +kernel
theorem dX0_begin_11 : decode cX0_begin 11 = .ok (.iload_n 2, 1) := by decide +kernel
theorem dX0_begin_12 : decode cX0_begin 12 = .ok (.putfield 35, 3) := by decide +kernel
theorem dX0_begin_15 : decode cX0_begin 15 = .ok (.aload_n 0, 1) := by decide +kernel
theorem dX0_begin_16 : decode cX0_begin 16 = .ok (.iconst 0, 1) := by decide +kernel
theorem dX0_begin_17 : decode cX0_begin 17 = .ok (.putfield 38, 3) := by decide +kernel
theorem dX0_begin_20 : decode cX0_begin 20 = .ok (.aload_n 0, 1) := by decide +kernel
theorem dX0_begin_21 : decode cX0_begin 21 = .ok (.iconst 0, 1) := by decide +kernel
theorem dX0_begin_22 : decode cX0_begin 22 = .ok (.putfield 28, 3) := by decide +kernel
theorem dX0_begin_25 : decode cX0_begin 25 = .ok (.aload_n 0, 1) := by decide +kernel
theorem dX0_begin_26 : decode cX0_begin 26 = .ok (.iconst 0, 1) := by decide +kernel
theorem dX0_begin_27 : decode cX0_begin 27 = .ok (.putfield 41, 3) := by decide +kernel
theorem dX0_begin_30 : decode cX0_begin 30 = .ok (.aload_n 0, 1) := by decide +kernel
theorem dX0_begin_31 : decode cX0_begin 31 = .ok (.iconst 0, 1) := by decide +kernel
theorem dX0_begin_32 : decode cX0_begin 32 = .ok (.invokevirtual 44, 3) := by decide +kernel
theorem dX0_begin_35 : decode cX0_begin 35 = .ok (.return_, 1) := by decide +kernel
theorem dX0_end_0 : decode cX0_end 0 = .ok (.aload_n 0, 1) := by decide +kernel
theorem dX0_end_1 : decode cX0_end 1 = .ok (.iconst 0, 1) := by decide +kernel
theorem dX0_end_2 : decode cX0_end 2 = .ok (.putfield 24, 3) := by decide +kernel
theorem dX0_end_5 : decode cX0_end 5 = .ok (.return_, 1) := by decide +kernel
set_option maxRecDepth 20000 in
theorem ggX0_step_X0_nextKnot : GoodIn wsX0_step wsX0_nextKnot := goodIn_r _ [7, 2, 8, 9, 10, 6, 11, 12, 13, 14, 15, 16, 17, 18, 19, 20, 21, 22, 23, 24, 25, 26, 27, 28, 29, 30, 31, 32, 33, 34, 35, 36, 37, 38, 39, 40, 41, 42, 43, 44, 45, 46, 47, 97, 98, 99, 100, 101, 102, 103, 104, 105, 106, 107, 108, 109] (by decide +kernel) (by decide +kernel)
set_option maxRecDepth 20000 in
theorem gX0_step_X0_nextKnot : GoodIn wsX0_step (wsV RX0 48 RX0 yX0_nextKnot wsX0_nextKnot) := goodIn_app (goodIn_of _ (by decide +kernel)) ggX0_step_X0_nextKnot
set_option maxRecDepth 20000 in
theorem ggX0_step_X0_partnerOf : GoodIn wsX0_step wsX0_partnerOf := goodIn_r _ [51, 12, 8, 9, 10, 6, 11, 13, 14, 15, 16, 17, 18, 19, 20, 21, 22, 23, 24, 25, 26, 27, 28, 29, 30, 31, 34, 35, 36, 37, 38, 39, 32, 33, 40, 41, 42, 43, 44, 45, 46, 47, 52, 53, 54, 97, 98, 99, 100, 101, 102, 103, 104, 105, 106, 107, 108, 109] (by decide +kernel) (by decide +kernel)
set_option maxRecDepth 20000 in
theorem gX0_step_X0_partnerOf : GoodIn wsX0_step (wsV RX0 52 RX0 yX0_partnerOf wsX0_partnerOf) := goodIn_app (goodIn_of _ (by decide +kernel)) ggX0_step_X0_partnerOf
set_option maxRecDepth 20000 in
theorem ggX0_step_X0_goBack : GoodIn wsX0_step wsX0_goBack := goodIn_r _ [58, 59, 60, 61, 2, 62, 63, 64, 6, 65, 66, 67, 68, 30, 69, 70, 71, 72, 73, 74, 75, 38, 29, 31, 76, 14, 77, 78, 21, 79, 80, 81, 82, 83, 84, 85, 86, 87, 97, 98, 99, 100, 101, 102, 103, 104, 105, 106, 107, 108, 109] (by decide +kernel) (by decide +kernel)
set_option maxRecDepth 20000 in
theorem gX0_step_X0_goBack : GoodIn wsX0_step (wsV RX0 56 RX0 yX0_goBack wsX0_goBack) := goodIn_app (goodIn_of _ (by decide +kernel)) ggX0_step_X0_goBack
set_option maxRecDepth 20000 in
theorem ggX0_step_X0_put : GoodIn wsX0_step wsX0_put := goodIn_r _ [91, 59, 60, 61, 66, 92, 30, 93, 94, 14, 95, 96, 21, 79, 80, 81, 82, 83, 29, 31, 97, 98, 99, 100, 101, 102, 103, 104, 105, 106, 107, 108, 109] (by decide +kernel) (by decide +kernel)
set_option maxRecDepth 20000 in
theorem gX0_step_X0_put : GoodIn wsX0_step (wsV RX0 60 RX0 yX0_put wsX0_put) := goodIn_app (goodIn_of _ (by decide +kernel)) ggX0_step_X0_put
theorem dX0_step_0 : decode cX0_step 0 = .ok (.aload_n 0, 1) := by decide +kernel
theorem dX0_step_1 : decode cX0_step 1 = .ok (.dup, 1) := by decide +kernel
theorem dX0_step_2 : decode cX0_step 2 = .ok (.getfield 38, 3) := by decide +kernel
theorem dX0_step_5 : decode cX0_step 5 = .ok (.iconst 1, 1) := by decide +kernel
theorem dX0_step_6 : decode cX0_step 6 = .ok (.iadd, 1) := by decide +kernel
theorem dX0_step_7 : decode cX0_step 7 = .ok (.putfield 38, 3) := by decide +kernel
theorem dX0_step_10 : decode cX0_step 10 = .ok (.aload_n 0, 1) := by decide +kernel
theorem dX0_step_11 : decode cX0_step 11 = .ok (.aload_n 1, 1) := by decide +kernel
theorem dX0_step_12 : decode cX0_step 12 = .ok (.invokevirtual 48, 3) := by decide +kernel
theorem dX0_step_15 : decode cX0_step 15 = .ok (.istore_n 2, 1) := by decide +kernel
theorem dX0_step_16 : decode cX0_step 16 = .ok (.iload_n 2, 1) := by decide +kernel
theorem dX0_step_17 : decode cX0_step 17 = .ok (.iconst (-1), 1) := by decide +kernel
theorem dX0_step_18 : decode cX0_step 18 = .ok (.if_icmp .ne 9, 3) := by decide +kernel
theorem dX0_step_21 : decode cX0_step 21 = .ok (.aload_n 0, 1) := by decide +kernel
theorem dX0_step_22 : decode cX0_step 22 = .ok (.iconst 1, 1) := by decide +kernel
theorem dX0_step_23 : decode cX0_step 23 = .ok (.putfield 28, 3) := by decide +kernel
theorem dX0_step_26 : decode cX0_step 26 = .ok (.return_, 1) := by decide +kernel
theorem dX0_step_27 : decode cX0_step 27 = .ok (.aload_n 0, 1) := by decide +kernel
theorem dX0_step_28 : decode cX0_step 28 = .ok (.aload_n 1, 1) := by decide +kernel
theorem dX0_step_29 : decode cX0_step 29 = .ok (.iload_n 2, 1) := by decide +kernel
theorem dX0_step_30 : decode cX0_step 30 = .ok (.invokevirtual 52, 3) := by decide +kernel
theorem dX0_step_33 : decode cX0_step 33 = .ok (.istore_n 3, 1) := by decide +kernel
theorem dX0_step_34 : decode cX0_step 34 = .ok (.iload_n 3, 1) := by decide +kernel
theorem dX0_step_35 : decode cX0_step 35 = .ok (.iconst (-1), 1) := by decide +kernel
theorem dX0_step_36 : decode cX0_step 36 = .ok (.if_icmp .ne 11, 3) := by decide +kernel
theorem dX0_step_39 : decode cX0_step 39 = .ok (.aload_n 0, 1) := by decide +kernel
theorem dX0_step_40 : decode cX0_step 40 = .ok (.aload_n 1, 1) := by decide +kernel
theorem dX0_step_41 : decode cX0_step 41 = .ok (.invokevirtual 56, 3) := by decide +kernel
theorem dX0_step_44 : decode cX0_step 44 = .ok (.goto 10, 3) := by decide +kernel
theorem dX0_step_47 : decode cX0_step 47 = .ok (.aload_n 0, 1) := by decide +kernel
theorem dX0_step_48 : decode cX0_step 48 = .ok (.aload_n 1, 1) := by decide +kernel
theorem dX0_step_49 : decode cX0_step 49 = .ok (.iload_n 2, 1) := by decide +kernel
theorem dX0_step_50 : decode cX0_step 50 = .ok (.iload_n 3, 1) := by decide +kernel
theorem dX0_step_51 : decode cX0_step 51 = .ok (.invokevirtual 60, 3) := by decide +kernel
theorem dX0_step_54 : decode cX0_step 54 = .ok (.return_, 1) := by decide +kernel
set_option maxRecDepth 20000 in
theorem ggX0_put_X6_pairOf : GoodIn wsX0_put wsX6_pairOf := goodIn_r _ [7] (by decide +kernel) (by decide +kernel)
set_option maxRecDepth 20000 in
theorem gX0_put_X6_pairOf_n64 : GoodIn wsX0_put (wsX6_pairOf) := ggX0_put_X6_pairOf
set_option maxRecDepth 20000 in
theorem ggX0_put_X3_join : GoodIn wsX0_put wsX3_join := goodIn_r _ [11, 12, 13, 14, 15, 9, 16, 17, 18, 6, 19, 31, 32] (by decide +kernel) (by decide +kernel)
set_option maxRecDepth 20000 in
theorem gX0_put_X3_join_n71 : GoodIn wsX0_put (wsX3_join) := ggX0_put_X3_join
theorem dX0_put_0 : decode cX0_put 0 = .ok (.aload_n 0, 1) := by decide +kernel
theorem dX0_put_1 : decode cX0_put 1 = .ok (.getfield 41, 3) := by decide +kernel
theorem dX0_put_4 : decode cX0_put 4 = .ok (.ifCond .lt 70, 3) := by decide +kernel
theorem dX0_put_7 : decode cX0_put 7 = .ok (.aload_n 0, 1) := by decide +kernel
theorem dX0_put_8 : decode cX0_put 8 = .ok (.getfield 41, 3) := by decide +kernel
theorem dX0_put_11 : decode cX0_put 11 = .ok (.aload_n 0, 1) := by decide +kernel
theorem dX0_put_12 : decode cX0_put 12 = .ok (.getfield 18, 3) := by decide +kernel
theorem dX0_put_15 : decode cX0_put 15 = .ok (.arraylength, 1) := by decide +kernel
theorem dX0_put_16 : decode cX0_put 16 = .ok (.if_icmp .ge 58, 3) := by decide +kernel
theorem dX0_put_19 : decode cX0_put 19 = .ok (.aload_n 0, 1) := by decide +kernel
theorem dX0_put_20 : decode cX0_put 20 = .ok (.getfield 41, 3) := by decide +kernel
theorem dX0_put_23 : decode cX0_put 23 = .ok (.aload_n 0, 1) := by decide +kernel
theorem dX0_put_24 : decode cX0_put 24 = .ok (.getfield 21, 3) := by decide +kernel
theorem dX0_put_27 : decode cX0_put 27 = .ok (.arraylength, 1) := by decide +kernel
theorem dX0_put_28 : decode cX0_put 28 = .ok (.if_icmp .ge 46, 3) := by decide +kernel
theorem dX0_put_31 : decode cX0_put 31 = .ok (.aload_n 0, 1) := by decide +kernel
theorem dX0_put_32 : decode cX0_put 32 = .ok (.getfield 18, 3) := by decide +kernel
theorem dX0_put_35 : decode cX0_put 35 = .ok (.aload_n 0, 1) := by decide +kernel
theorem dX0_put_36 : decode cX0_put 36 = .ok (.getfield 41, 3) := by decide +kernel
theorem dX0_put_39 : decode cX0_put 39 = .ok (.iload_n 2, 1) := by decide +kernel
theorem dX0_put_40 : decode cX0_put 40 = .ok (.iload_n 3, 1) := by decide +kernel
theorem dX0_put_41 : decode cX0_put 41 = .ok (.invokestatic 64, 3) := by decide +kernel
theorem dX0_put_44 : decode cX0_put 44 = .ok (.iastore, 1) := by decide +kernel
theorem dX0_put_45 : decode cX0_put 45 = .ok (.aload_n 0, 1) := by decide +kernel
theorem dX0_put_46 : decode cX0_put 46 = .ok (.getfield 21, 3) := by decide +kernel
theorem dX0_put_49 : decode cX0_put 49 = .ok (.aload_n 0, 1) := by decide +kernel
theorem dX0_put_50 : decode cX0_put 50 = .ok (.getfield 41, 3) := by decide +kernel
theorem dX0_put_53 : decode cX0_put 53 = .ok (.aload_n 0, 1) := by decide +kernel
theorem dX0_put_54 : decode cX0_put 54 = .ok (.getfield 68, 3) := by decide +kernel
theorem dX0_put_57 : decode cX0_put 57 = .ok (.iastore, 1) := by decide +kernel
theorem dX0_put_58 : decode cX0_put 58 = .ok (.aload_n 0, 1) := by decide +kernel
theorem dX0_put_59 : decode cX0_put 59 = .ok (.dup, 1) := by decide +kernel
theorem dX0_put_60 : decode cX0_put 60 = .ok (.getfield 41, 3) := by decide +kernel
theorem dX0_put_63 : decode cX0_put 63 = .ok (.iconst 1, 1) := by decide +kernel
theorem dX0_put_64 : decode cX0_put 64 = .ok (.iadd, 1) := by decide +kernel
theorem dX0_put_65 : decode cX0_put 65 = .ok (.putfield 41, 3) := by decide +kernel
theorem dX0_put_68 : decode cX0_put 68 = .ok (.aload_n 1, 1) := by decide +kernel
theorem dX0_put_69 : decode cX0_put 69 = .ok (.iload_n 2, 1) := by decide +kernel
theorem dX0_put_70 : decode cX0_put 70 = .ok (.iload_n 3, 1) := by decide +kernel
theorem dX0_put_71 : decode cX0_put 71 = .ok (.invokevirtual 71, 3) := by decide +kernel
theorem dX0_put_74 : decode cX0_put 74 = .ok (.return_, 1) := by decide +kernel
set_option maxRecDepth 20000 in
theorem ggX0_goBack_X0_unbarDownTo : GoodIn wsX0_goBack wsX0_unbarDownTo := goodIn_r _ [9, 10, 11, 12, 13, 14, 15, 16, 17, 18, 19, 8, 20, 21, 22, 23, 38, 39, 40, 41, 42, 43, 44, 45, 46, 47, 48] (by decide +kernel) (by decide +kernel)
set_option maxRecDepth 20000 in
theorem gX0_goBack_X0_unbarDownTo : GoodIn wsX0_goBack (wsV RX0 44 RX0 yX0_unbarDownTo wsX0_unbarDownTo) := goodIn_app (goodIn_of _ (by decide +kernel)) ggX0_goBack_X0_unbarDownTo
set_option maxRecDepth 20000 in
theorem ggX0_goBack_X6_oneOf : GoodIn wsX0_goBack wsX6_oneOf := goodIn_r _ [14] (by decide +kernel) (by decide +kernel)
set_option maxRecDepth 20000 in
theorem gX0_goBack_X6_oneOf_n77 : GoodIn wsX0_goBack (wsX6_oneOf) := ggX0_goBack_X6_oneOf
set_option maxRecDepth 20000 in
theorem ggX0_goBack_X6_otherOf : GoodIn wsX0_goBack wsX6_otherOf := goodIn_r _ [16] (by decide +kernel) (by decide +kernel)
set_option maxRecDepth 20000 in
theorem gX0_goBack_X6_otherOf_n81 : GoodIn wsX0_goBack (wsX6_otherOf) := ggX0_goBack_X6_otherOf
set_option maxRecDepth 20000 in
theorem ggX0_goBack_X3_loosen : GoodIn wsX0_goBack wsX3_loosen := goodIn_r _ [27, 28, 29, 30, 31, 25, 32, 33, 22, 13, 23, 49, 50] (by decide +kernel) (by decide +kernel)
set_option maxRecDepth 20000 in
theorem gX0_goBack_X3_loosen_n84 : GoodIn wsX0_goBack (wsX3_loosen) := ggX0_goBack_X3_loosen
set_option maxRecDepth 20000 in
theorem ggX0_goBack_X0_bar : GoodIn wsX0_goBack wsX0_bar := goodIn_r _ [37, 10, 11, 12, 13, 14, 15, 16, 17, 18, 19, 8, 20, 21, 22, 23, 38, 39, 40, 41, 42, 43, 44, 45, 46, 47, 48] (by decide +kernel) (by decide +kernel)
set_option maxRecDepth 20000 in
theorem gX0_goBack_X0_bar : GoodIn wsX0_goBack (wsV RX0 87 RX0 yX0_bar wsX0_bar) := goodIn_app (goodIn_of _ (by decide +kernel)) ggX0_goBack_X0_bar
theorem dX0_goBack_0 : decode cX0_goBack 0 = .ok (.aload_n 0, 1) := by decide +kernel
theorem dX0_goBack_1 : decode cX0_goBack 1 = .ok (.getfield 41, 3) := by decide +kernel
theorem dX0_goBack_4 : decode cX0_goBack 4 = .ok (.iconst 1, 1) := by decide +kernel
theorem dX0_goBack_5 : decode cX0_goBack 5 = .ok (.isub, 1) := by decide +kernel
theorem dX0_goBack_6 : decode cX0_goBack 6 = .ok (.istore_n 2, 1) := by decide +kernel
theorem dX0_goBack_7 : decode cX0_goBack 7 = .ok (.iload_n 2, 1) := by decide +kernel
theorem dX0_goBack_8 : decode cX0_goBack 8 = .ok (.ifCond .lt 21, 3) := by decide +kernel
theorem dX0_goBack_11 : decode cX0_goBack 11 = .ok (.iload_n 2, 1) := by decide +kernel
theorem dX0_goBack_12 : decode cX0_goBack 12 = .ok (.aload_n 0, 1) := by decide +kernel
theorem dX0_goBack_13 : decode cX0_goBack 13 = .ok (.getfield 18, 3) := by decide +kernel
theorem dX0_goBack_16 : decode cX0_goBack 16 = .ok (.arraylength, 1) := by decide +kernel
theorem dX0_goBack_17 : decode cX0_goBack 17 = .ok (.if_icmp .ge 12, 3) := by decide +kernel
theorem dX0_goBack_20 : decode cX0_goBack 20 = .ok (.iload_n 2, 1) := by decide +kernel
theorem dX0_goBack_21 : decode cX0_goBack 21 = .ok (.aload_n 0, 1) := by decide +kernel
theorem dX0_goBack_22 : decode cX0_goBack 22 = .ok (.getfield 21, 3) := by decide +kernel
theorem dX0_goBack_25 : decode cX0_goBack 25 = .ok (.arraylength, 1) := by decide +kernel
theorem dX0_goBack_26 : decode cX0_goBack 26 = .ok (.if_icmp .lt 14, 3) := by decide +kernel
theorem dX0_goBack_29 : decode cX0_goBack 29 = .ok (.aload_n 0, 1) := by decide +kernel
theorem dX0_goBack_30 : decode cX0_goBack 30 = .ok (.iconst 0, 1) := by decide +kernel
theorem dX0_goBack_31 : decode cX0_goBack 31 = .ok (.invokevirtual 44, 3) := by decide +kernel
theorem dX0_goBack_34 : decode cX0_goBack 34 = .ok (.aload_n 0, 1) := by decide +kernel
theorem dX0_goBack_35 : decode cX0_goBack 35 = .ok (.iconst 2, 1) := by decide +kernel
theorem dX0_goBack_36 : decode cX0_goBack 36 = .ok (.putfield 28, 3) := by decide +kernel
theorem dX0_goBack_39 : decode cX0_goBack 39 = .ok (.return_, 1) := by decide +kernel
theorem dX0_goBack_40 : decode cX0_goBack 40 = .ok (.aload_n 0, 1) := by decide +kernel
theorem dX0_goBack_41 : decode cX0_goBack 41 = .ok (.iload_n 2, 1) := by decide +kernel
theorem dX0_goBack_42 : decode cX0_goBack 42 = .ok (.putfield 41, 3) := by decide +kernel
theorem dX0_goBack_45 : decode cX0_goBack 45 = .ok (.aload_n 1, 1) := by decide +kernel
theorem dX0_goBack_46 : decode cX0_goBack 46 = .ok (.aload_n 0, 1) := by decide +kernel
theorem dX0_goBack_47 : decode cX0_goBack 47 = .ok (.getfield 18, 3) := by decide +kernel
theorem dX0_goBack_50 : decode cX0_goBack 50 = .ok (.iload_n 2, 1) := by decide +kernel
theorem dX0_goBack_51 : decode cX0_goBack 51 = .ok (.iaload, 1) := by decide +kernel
theorem dX0_goBack_52 : decode cX0_goBack 52 = .ok (.invokestatic 77, 3) := by decide +kernel
theorem dX0_goBack_55 : decode cX0_goBack 55 = .ok (.aload_n 0, 1) := by decide +kernel
theorem dX0_goBack_56 : decode cX0_goBack 56 = .ok (.getfield 18, 3) := by decide +kernel
theorem dX0_goBack_59 : decode cX0_goBack 59 = .ok (.iload_n 2, 1) := by decide +kernel
theorem dX0_goBack_60 : decode cX0_goBack 60 = .ok (.iaload, 1) := by decide +kernel
theorem dX0_goBack_61 : decode cX0_goBack 61 = .ok (.invokestatic 81, 3) := by decide +kernel
theorem dX0_goBack_64 : decode cX0_goBack 64 = .ok (.invokevirtual 84, 3) := by decide +kernel
theorem dX0_goBack_67 : decode cX0_goBack 67 = .ok (.aload_n 0, 1) := by decide +kernel
theorem dX0_goBack_68 : decode cX0_goBack 68 = .ok (.aload_n 0, 1) := by decide +kernel
theorem dX0_goBack_69 : decode cX0_goBack 69 = .ok (.getfield 21, 3) := by decide +kernel
theorem dX0_goBack_72 : decode cX0_goBack 72 = .ok (.iload_n 2, 1) := by decide +kernel
theorem dX0_goBack_73 : decode cX0_goBack 73 = .ok (.iaload, 1) := by decide +kernel
theorem dX0_goBack_74 : decode cX0_goBack 74 = .ok (.invokevirtual 44, 3) := by decide +kernel
theorem dX0_goBack_77 : decode cX0_goBack 77 = .ok (.aload_n 0, 1) := by decide +kernel
theorem dX0_goBack_78 : decode cX0_goBack 78 = .ok (.aload_n 0, 1) := by decide +kernel
theorem dX0_goBack_79 : decode cX0_goBack 79 = .ok (.getfield 18, 3) := by decide +kernel
theorem dX0_goBack_82 : decode cX0_goBack 82 = .ok (.iload_n 2, 1) := by decide +kernel
theorem dX0_goBack_83 : decode cX0_goBack 83 = .ok (.iaload, 1) := by decide +kernel
theorem dX0_goBack_84 : decode cX0_goBack 84 = .ok (.invokevirtual 87, 3) := by decide +kernel
theorem dX0_goBack_87 : decode cX0_goBack 87 = .ok (.return_, 1) := by decide +kernel
set_option maxRecDepth 20000 in
theorem ggX0_bar_X6_oneOf : GoodIn wsX0_bar wsX6_oneOf := goodIn_r _ [5] (by decide +kernel) (by decide +kernel)
set_option maxRecDepth 20000 in
theorem gX0_bar_X6_oneOf_n77 : GoodIn wsX0_bar (wsX6_oneOf) := ggX0_bar_X6_oneOf
set_option maxRecDepth 20000 in
theorem ggX0_bar_X6_otherOf : GoodIn wsX0_bar wsX6_otherOf := goodIn_r _ [7] (by decide +kernel) (by decide +kernel)
set_option maxRecDepth 20000 in
theorem gX0_bar_X6_otherOf_n81 : GoodIn wsX0_bar (wsX6_otherOf) := ggX0_bar_X6_otherOf
set_option maxRecDepth 20000 in
theorem ggX0_bar_X0_flipBar : GoodIn wsX0_bar wsX0_flipBar := goodIn_r _ [12, 13, 14, 4, 15, 16, 17, 18, 19, 20, 21, 22, 23, 24, 25, 26] (by decide +kernel) (by decide +kernel)
set_option maxRecDepth 20000 in
theorem gX0_bar_X0_flipBar : GoodIn wsX0_bar (wsV RX0 90 RX0 yX0_flipBar wsX0_flipBar) := goodIn_app (goodIn_of _ (by decide +kernel)) ggX0_bar_X0_flipBar
theorem dX0_bar_0 : decode cX0_bar 0 = .ok (.aload_n 0, 1) := by decide +kernel
theorem dX0_bar_1 : decode cX0_bar 1 = .ok (.getfield 68, 3) := by decide +kernel
theorem dX0_bar_4 : decode cX0_bar 4 = .ok (.ifCond .lt 47, 3) := by decide +kernel
theorem dX0_bar_7 : decode cX0_bar 7 = .ok (.aload_n 0, 1) := by decide +kernel
theorem dX0_bar_8 : decode cX0_bar 8 = .ok (.getfield 68, 3) := by decide +kernel
theorem dX0_bar_11 : decode cX0_bar 11 = .ok (.aload_n 0, 1) := by decide +kernel
theorem dX0_bar_12 : decode cX0_bar 12 = .ok (.getfield 15, 3) := by decide +kernel
theorem dX0_bar_15 : decode cX0_bar 15 = .ok (.arraylength, 1) := by decide +kernel
theorem dX0_bar_16 : decode cX0_bar 16 = .ok (.if_icmp .ge 35, 3) := by decide +kernel
theorem dX0_bar_19 : decode cX0_bar 19 = .ok (.aload_n 0, 1) := by decide +kernel
theorem dX0_bar_20 : decode cX0_bar 20 = .ok (.getfield 15, 3) := by decide +kernel
theorem dX0_bar_23 : decode cX0_bar 23 = .ok (.aload_n 0, 1) := by decide +kernel
theorem dX0_bar_24 : decode cX0_bar 24 = .ok (.getfield 68, 3) := by decide +kernel
theorem dX0_bar_27 : decode cX0_bar 27 = .ok (.iload_n 1, 1) := by decide +kernel
theorem dX0_bar_28 : decode cX0_bar 28 = .ok (.iastore, 1) := by decide +kernel
theorem dX0_bar_29 : decode cX0_bar 29 = .ok (.aload_n 0, 1) := by decide +kernel
theorem dX0_bar_30 : decode cX0_bar 30 = .ok (.dup, 1) := by decide +kernel
theorem dX0_bar_31 : decode cX0_bar 31 = .ok (.getfield 68, 3) := by decide +kernel
theorem dX0_bar_34 : decode cX0_bar 34 = .ok (.iconst 1, 1) := by decide +kernel
theorem dX0_bar_35 : decode cX0_bar 35 = .ok (.iadd, 1) := by decide +kernel
theorem dX0_bar_36 : decode cX0_bar 36 = .ok (.putfield 68, 3) := by decide +kernel
theorem dX0_bar_39 : decode cX0_bar 39 = .ok (.aload_n 0, 1) := by decide +kernel
theorem dX0_bar_40 : decode cX0_bar 40 = .ok (.iload_n 1, 1) := by decide +kernel
theorem dX0_bar_41 : decode cX0_bar 41 = .ok (.invokestatic 77, 3) := by decide +kernel
theorem dX0_bar_44 : decode cX0_bar 44 = .ok (.iload_n 1, 1) := by decide +kernel
theorem dX0_bar_45 : decode cX0_bar 45 = .ok (.invokestatic 81, 3) := by decide +kernel
theorem dX0_bar_48 : decode cX0_bar 48 = .ok (.invokevirtual 90, 3) := by decide +kernel
theorem dX0_bar_51 : decode cX0_bar 51 = .ok (.return_, 1) := by decide +kernel
set_option maxRecDepth 20000 in
theorem ggX0_unbarDownTo_X6_oneOf : GoodIn wsX0_unbarDownTo wsX6_oneOf := goodIn_r _ [5] (by decide +kernel) (by decide +kernel)
set_option maxRecDepth 20000 in
theorem gX0_unbarDownTo_X6_oneOf_n77 : GoodIn wsX0_unbarDownTo (wsX6_oneOf) := ggX0_unbarDownTo_X6_oneOf
set_option maxRecDepth 20000 in
theorem ggX0_unbarDownTo_X6_otherOf : GoodIn wsX0_unbarDownTo wsX6_otherOf := goodIn_r _ [7] (by decide +kernel) (by decide +kernel)
set_option maxRecDepth 20000 in
theorem gX0_unbarDownTo_X6_otherOf_n81 : GoodIn wsX0_unbarDownTo (wsX6_otherOf) := ggX0_unbarDownTo_X6_otherOf
set_option maxRecDepth 20000 in
theorem ggX0_unbarDownTo_X0_flipBar : GoodIn wsX0_unbarDownTo wsX0_flipBar := goodIn_r _ [12, 13, 14, 4, 15, 16, 17, 18, 19, 20, 21, 22, 23, 24, 25, 26] (by decide +kernel) (by decide +kernel)
set_option maxRecDepth 20000 in
theorem gX0_unbarDownTo_X0_flipBar : GoodIn wsX0_unbarDownTo (wsV RX0 90 RX0 yX0_flipBar wsX0_flipBar) := goodIn_app (goodIn_of _ (by decide +kernel)) ggX0_unbarDownTo_X0_flipBar
theorem dX0_unbarDownTo_0 : decode cX0_unbarDownTo 0 = .ok (.aload_n 0, 1) := by decide +kernel
theorem dX0_unbarDownTo_1 : decode cX0_unbarDownTo 1 = .ok (.getfield 68, 3) := by decide +kernel
theorem dX0_unbarDownTo_4 : decode cX0_unbarDownTo 4 = .ok (.iconst 1, 1) := by decide +kernel
theorem dX0_unbarDownTo_5 : decode cX0_unbarDownTo 5 = .ok (.isub, 1) := by decide +kernel
theorem dX0_unbarDownTo_6 : decode cX0_unbarDownTo 6 = .ok (.istore_n 2, 1) := by decide +kernel
theorem dX0_unbarDownTo_7 : decode cX0_unbarDownTo 7 = .ok (.iload_n 2, 1) := by decide +kernel
theorem dX0_unbarDownTo_8 : decode cX0_unbarDownTo 8 = .ok (.iload_n 1, 1) := by decide +kernel
theorem dX0_unbarDownTo_9 : decode cX0_unbarDownTo 9 = .ok (.if_icmp .lt 49, 3) := by decide +kernel
theorem dX0_unbarDownTo_12 : decode cX0_unbarDownTo 12 = .ok (.iload_n 2, 1) := by decide +kernel
theorem dX0_unbarDownTo_13 : decode cX0_unbarDownTo 13 = .ok (.ifCond .lt 39, 3) := by decide +kernel
theorem dX0_unbarDownTo_16 : decode cX0_unbarDownTo 16 = .ok (.iload_n 2, 1) := by decide +kernel
theorem dX0_unbarDownTo_17 : decode cX0_unbarDownTo 17 = .ok (.aload_n 0, 1) := by decide +kernel
theorem dX0_unbarDownTo_18 : decode cX0_unbarDownTo 18 = .ok (.getfield 15, 3) := by decide +kernel
theorem dX0_unbarDownTo_21 : decode cX0_unbarDownTo 21 = .ok (.arraylength, 1) := by decide +kernel
theorem dX0_unbarDownTo_22 : decode cX0_unbarDownTo 22 = .ok (.if_icmp .ge 30, 3) := by decide +kernel
theorem dX0_unbarDownTo_25 : decode cX0_unbarDownTo 25 = .ok (.aload_n 0, 1) := by decide +kernel
theorem dX0_unbarDownTo_26 : decode cX0_unbarDownTo 26 = .ok (.aload_n 0, 1) := by decide +kernel
theorem dX0_unbarDownTo_27 : decode cX0_unbarDownTo 27 = .ok (.getfield 15, 3) := by decide +kernel
theorem dX0_unbarDownTo_30 : decode cX0_unbarDownTo 30 = .ok (.iload_n 2, 1) := by decide +kernel
theorem dX0_unbarDownTo_31 : decode cX0_unbarDownTo 31 = .ok (.iaload, 1) := by decide +kernel
theorem dX0_unbarDownTo_32 : decode cX0_unbarDownTo 32 = .ok (.invokestatic 77, 3) := by decide +kernel
theorem dX0_unbarDownTo_35 : decode cX0_unbarDownTo 35 = .ok (.aload_n 0, 1) := by decide +kernel
theorem dX0_unbarDownTo_36 : decode cX0_unbarDownTo 36 = .ok (.getfield 15, 3) := by decide +kernel
theorem dX0_unbarDownTo_39 : decode cX0_unbarDownTo 39 = .ok (.iload_n 2, 1) := by decide +kernel
theorem dX0_unbarDownTo_40 : decode cX0_unbarDownTo 40 = .ok (.iaload, 1) := by decide +kernel
theorem dX0_unbarDownTo_41 : decode cX0_unbarDownTo 41 = .ok (.invokestatic 81, 3) := by decide +kernel
theorem dX0_unbarDownTo_44 : decode cX0_unbarDownTo 44 = .ok (.invokevirtual 90, 3) := by decide +kernel
theorem dX0_unbarDownTo_47 : decode cX0_unbarDownTo 47 = .ok (.aload_n 0, 1) := by decide +kernel
theorem dX0_unbarDownTo_48 : decode cX0_unbarDownTo 48 = .ok (.iload_n 2, 1) := by decide +kernel
theorem dX0_unbarDownTo_49 : decode cX0_unbarDownTo 49 = .ok (.putfield 68, 3) := by decide +kernel
theorem dX0_unbarDownTo_52 : decode cX0_unbarDownTo 52 = .ok (.iinc 2 (-1), 3) := by decide +kernel
theorem dX0_unbarDownTo_55 : decode cX0_unbarDownTo 55 = .ok (.goto (-48), 3) := by decide +kernel
theorem dX0_unbarDownTo_58 : decode cX0_unbarDownTo 58 = .ok (.return_, 1) := by decide +kernel
set_option maxRecDepth 20000 in
theorem ggX0_flipBar_X6_bit : GoodIn wsX0_flipBar wsX6_bit := goodIn_r _ [4] (by decide +kernel) (by decide +kernel)
set_option maxRecDepth 20000 in
theorem gX0_flipBar_X6_bit_n93 : GoodIn wsX0_flipBar (wsX6_bit) := ggX0_flipBar_X6_bit
theorem dX0_flipBar_0 : decode cX0_flipBar 0 = .ok (.iload_n 1, 1) := by decide +kernel
theorem dX0_flipBar_1 : decode cX0_flipBar 1 = .ok (.ifCond .lt 51, 3) := by decide +kernel
theorem dX0_flipBar_4 : decode cX0_flipBar 4 = .ok (.iload_n 1, 1) := by decide +kernel
theorem dX0_flipBar_5 : decode cX0_flipBar 5 = .ok (.aload_n 0, 1) := by decide +kernel
theorem dX0_flipBar_6 : decode cX0_flipBar 6 = .ok (.getfield 9, 3) := by decide +kernel
theorem dX0_flipBar_9 : decode cX0_flipBar 9 = .ok (.arraylength, 1) := by decide +kernel
theorem dX0_flipBar_10 : decode cX0_flipBar 10 = .ok (.if_icmp .ge 42, 3) := by decide +kernel
theorem dX0_flipBar_13 : decode cX0_flipBar 13 = .ok (.iload_n 2, 1) := by decide +kernel
theorem dX0_flipBar_14 : decode cX0_flipBar 14 = .ok (.ifCond .lt 38, 3) := by decide +kernel
theorem dX0_flipBar_17 : decode cX0_flipBar 17 = .ok (.iload_n 2, 1) := by decide +kernel
theorem dX0_flipBar_18 : decode cX0_flipBar 18 = .ok (.aload_n 0, 1) := by decide +kernel
theorem dX0_flipBar_19 : decode cX0_flipBar 19 = .ok (.getfield 9, 3) := by decide +kernel
theorem dX0_flipBar_22 : decode cX0_flipBar 22 = .ok (.arraylength, 1) := by decide +kernel
theorem dX0_flipBar_23 : decode cX0_flipBar 23 = .ok (.if_icmp .ge 29, 3) := by decide +kernel
theorem dX0_flipBar_26 : decode cX0_flipBar 26 = .ok (.aload_n 0, 1) := by decide +kernel
theorem dX0_flipBar_27 : decode cX0_flipBar 27 = .ok (.getfield 9, 3) := by decide +kernel
theorem dX0_flipBar_30 : decode cX0_flipBar 30 = .ok (.iload_n 1, 1) := by decide +kernel
theorem dX0_flipBar_31 : decode cX0_flipBar 31 = .ok (.dup2, 1) := by decide +kernel
theorem dX0_flipBar_32 : decode cX0_flipBar 32 = .ok (.iaload, 1) := by decide +kernel
theorem dX0_flipBar_33 : decode cX0_flipBar 33 = .ok (.iload_n 2, 1) := by decide +kernel
theorem dX0_flipBar_34 : decode cX0_flipBar 34 = .ok (.invokestatic 93, 3) := by decide +kernel
theorem dX0_flipBar_37 : decode cX0_flipBar 37 = .ok (.ixor, 1) := by decide +kernel
theorem dX0_flipBar_38 : decode cX0_flipBar 38 = .ok (.iastore, 1) := by decide +kernel
theorem dX0_flipBar_39 : decode cX0_flipBar 39 = .ok (.aload_n 0, 1) := by decide +kernel
theorem dX0_flipBar_40 : decode cX0_flipBar 40 = .ok (.getfield 9, 3) := by decide +kernel
theorem dX0_flipBar_43 : decode cX0_flipBar 43 = .ok (.iload_n 2, 1) := by decide +kernel
theorem dX0_flipBar_44 : decode cX0_flipBar 44 = .ok (.dup2, 1) := by decide +kernel
theorem dX0_flipBar_45 : decode cX0_flipBar 45 = .ok (.iaload, 1) := by decide +kernel
theorem dX0_flipBar_46 : decode cX0_flipBar 46 = .ok (.iload_n 1, 1) := by decide +kernel
theorem dX0_flipBar_47 : decode cX0_flipBar 47 = .ok (.invokestatic 93, 3) := by decide +kernel
theorem dX0_flipBar_50 : decode cX0_flipBar 50 = .ok (.ixor, 1) := by decide +kernel
theorem dX0_flipBar_51 : decode cX0_flipBar 51 = .ok (.iastore, 1) := by decide +kernel
theorem dX0_flipBar_52 : decode cX0_flipBar 52 = .ok (.return_, 1) := by decide +kernel
set_option maxRecDepth 20000 in
theorem ggX0_needy_X3_countOf : GoodIn wsX0_needy wsX3_countOf := goodIn_r _ [5, 6, 7, 8, 3, 9, 10, 11, 12, 13, 14, 15, 16, 17, 21, 22] (by decide +kernel) (by decide +kernel)
set_option maxRecDepth 20000 in
theorem gX0_needy_X3_countOf_n99 : GoodIn wsX0_needy (wsX3_countOf) := ggX0_needy_X3_countOf
set_option maxRecDepth 20000 in
theorem ggX0_needy_X6_bit : GoodIn wsX0_needy wsX6_bit := goodIn_r _ [20] (by decide +kernel) (by decide +kernel)
set_option maxRecDepth 20000 in
theorem gX0_needy_X6_bit_n93 : GoodIn wsX0_needy (wsX6_bit) := ggX0_needy_X6_bit
theorem dX0_needy_0 : decode cX0_needy 0 = .ok (.iconst 0, 1) := by decide +kernel
theorem dX0_needy_1 : decode cX0_needy 1 = .ok (.istore_n 2, 1) := by decide +kernel
theorem dX0_needy_2 : decode cX0_needy 2 = .ok (.iconst 0, 1) := by decide +kernel
theorem dX0_needy_3 : decode cX0_needy 3 = .ok (.istore_n 3, 1) := by decide +kernel
theorem dX0_needy_4 : decode cX0_needy 4 = .ok (.iload_n 3, 1) := by decide +kernel
theorem dX0_needy_5 : decode cX0_needy 5 = .ok (.aload_n 1, 1) := by decide +kernel
theorem dX0_needy_6 : decode cX0_needy 6 = .ok (.getfield 96, 3) := by decide +kernel
theorem dX0_needy_9 : decode cX0_needy 9 = .ok (.if_icmp .ge 28, 3) := by decide +kernel
theorem dX0_needy_12 : decode cX0_needy 12 = .ok (.aload_n 1, 1) := by decide +kernel
theorem dX0_needy_13 : decode cX0_needy 13 = .ok (.iload_n 3, 1) := by decide +kernel
theorem dX0_needy_14 : decode cX0_needy 14 = .ok (.invokevirtual 99, 3) := by decide +kernel
theorem dX0_needy_17 : decode cX0_needy 17 = .ok (.aload_n 0, 1) := by decide +kernel
theorem dX0_needy_18 : decode cX0_needy 18 = .ok (.getfield 32, 3) := by decide +kernel
theorem dX0_needy_21 : decode cX0_needy 21 = .ok (.if_icmp .ge 10, 3) := by decide +kernel
theorem dX0_needy_24 : decode cX0_needy 24 = .ok (.iload_n 2, 1) := by decide +kernel
theorem dX0_needy_25 : decode cX0_needy 25 = .ok (.iload_n 3, 1) := by decide +kernel
theorem dX0_needy_26 : decode cX0_needy 26 = .ok (.invokestatic 93, 3) := by decide +kernel
theorem dX0_needy_29 : decode cX0_needy 29 = .ok (.ior, 1) := by decide +kernel
theorem dX0_needy_30 : decode cX0_needy 30 = .ok (.istore_n 2, 1) := by decide +kernel
theorem dX0_needy_31 : decode cX0_needy 31 = .ok (.iinc 3 1, 3) := by decide +kernel
theorem dX0_needy_34 : decode cX0_needy 34 = .ok (.goto (-30), 3) := by decide +kernel
theorem dX0_needy_37 : decode cX0_needy 37 = .ok (.iload_n 2, 1) := by decide +kernel
theorem dX0_needy_38 : decode cX0_needy 38 = .ok (.ireturn, 1) := by decide +kernel
set_option maxRecDepth 20000 in
theorem ggX0_joinableOf_X6_holds : GoodIn wsX0_joinableOf wsX6_holds := goodIn_r _ [5] (by decide +kernel) (by decide +kernel)
set_option maxRecDepth 20000 in
theorem gX0_joinableOf_X6_holds_n102 : GoodIn wsX0_joinableOf (wsX6_holds) := ggX0_joinableOf_X6_holds
set_option maxRecDepth 20000 in
theorem ggX0_joinableOf_X5_within : GoodIn wsX0_joinableOf wsX5_within := goodIn_r _ [8, 9, 4, 10, 11, 12, 7, 13, 14, 15, 16, 17, 18, 19, 20, 21, 22, 23, 24, 25, 37, 38] (by decide +kernel) (by decide +kernel)
set_option maxRecDepth 20000 in
theorem gX0_joinableOf_X5_within_n106 : GoodIn wsX0_joinableOf (wsX5_within) := ggX0_joinableOf_X5_within
theorem dX0_joinableOf_0 : decode cX0_joinableOf 0 = .ok (.iload_n 3, 1) := by decide +kernel
theorem dX0_joinableOf_1 : decode cX0_joinableOf 1 = .ok (.iload_n 2, 1) := by decide +kernel
theorem dX0_joinableOf_2 : decode cX0_joinableOf 2 = .ok (.invokestatic 102, 3) := by decide +kernel
theorem dX0_joinableOf_5 : decode cX0_joinableOf 5 = .ok (.ifCond .eq 16, 3) := by decide +kernel
theorem dX0_joinableOf_8 : decode cX0_joinableOf 8 = .ok (.iload_n 2, 1) := by decide +kernel
theorem dX0_joinableOf_9 : decode cX0_joinableOf 9 = .ok (.ifCond .lt 12, 3) := by decide +kernel
theorem dX0_joinableOf_12 : decode cX0_joinableOf 12 = .ok (.iload_n 2, 1) := by decide +kernel
theorem dX0_joinableOf_13 : decode cX0_joinableOf 13 = .ok (.aload_n 0, 1) := by decide +kernel
theorem dX0_joinableOf_14 : decode cX0_joinableOf 14 = .ok (.getfield 9, 3) := by decide +kernel
theorem dX0_joinableOf_17 : decode cX0_joinableOf 17 = .ok (.arraylength, 1) := by decide +kernel
theorem dX0_joinableOf_18 : decode cX0_joinableOf 18 = .ok (.if_icmp .lt 5, 3) := by decide +kernel
theorem dX0_joinableOf_21 : decode cX0_joinableOf 21 = .ok (.iconst 0, 1) := by decide +kernel
theorem dX0_joinableOf_22 : decode cX0_joinableOf 22 = .ok (.ireturn, 1) := by decide +kernel
theorem dX0_joinableOf_23 : decode cX0_joinableOf 23 = .ok (.iload_n 3, 1) := by decide +kernel
theorem dX0_joinableOf_24 : decode cX0_joinableOf 24 = .ok (.aload_n 1, 1) := by decide +kernel
theorem dX0_joinableOf_25 : decode cX0_joinableOf 25 = .ok (.iload_n 2, 1) := by decide +kernel
theorem dX0_joinableOf_26 : decode cX0_joinableOf 26 = .ok (.aload_n 0, 1) := by decide +kernel
theorem dX0_joinableOf_27 : decode cX0_joinableOf 27 = .ok (.getfield 35, 3) := by decide +kernel
theorem dX0_joinableOf_30 : decode cX0_joinableOf 30 = .ok (.iconst 2, 1) := by decide +kernel
theorem dX0_joinableOf_31 : decode cX0_joinableOf 31 = .ok (.isub, 1) := by decide +kernel
theorem dX0_joinableOf_32 : decode cX0_joinableOf 32 = .ok (.invokestatic 106, 3) := by decide +kernel
theorem dX0_joinableOf_35 : decode cX0_joinableOf 35 = .ok (.iconst (-1), 1) := by decide +kernel
theorem dX0_joinableOf_36 : decode cX0_joinableOf 36 = .ok (.ixor, 1) := by decide +kernel
theorem dX0_joinableOf_37 : decode cX0_joinableOf 37 = .ok (.iand, 1) := by decide +kernel
theorem dX0_joinableOf_38 : decode cX0_joinableOf 38 = .ok (.aload_n 0, 1) := by decide +kernel
theorem dX0_joinableOf_39 : decode cX0_joinableOf 39 = .ok (.getfield 9, 3) := by decide +kernel
theorem dX0_joinableOf_42 : decode cX0_joinableOf 42 = .ok (.iload_n 2, 1) := by decide +kernel
theorem dX0_joinableOf_43 : decode cX0_joinableOf 43 = .ok (.iaload, 1) := by decide +kernel
theorem dX0_joinableOf_44 : decode cX0_joinableOf 44 = .ok (.iconst (-1), 1) := by decide +kernel
theorem dX0_joinableOf_45 : decode cX0_joinableOf 45 = .ok (.ixor, 1) := by decide +kernel
theorem dX0_joinableOf_46 : decode cX0_joinableOf 46 = .ok (.iand, 1) := by decide +kernel
theorem dX0_joinableOf_47 : decode cX0_joinableOf 47 = .ok (.ireturn, 1) := by decide +kernel
set_option maxRecDepth 20000 in
theorem ggX0_joinable_X0_needy : GoodIn wsX0_joinable wsX0_needy := goodIn_r _ [6, 7, 8, 9, 10, 11, 12, 13, 14, 15, 16, 17, 18, 19, 20, 21, 22, 23, 24, 25, 26, 53, 54, 42, 43, 44, 45, 46, 47, 48, 49, 50, 51, 52] (by decide +kernel) (by decide +kernel)
set_option maxRecDepth 20000 in
theorem gX0_joinable_X0_needy : GoodIn wsX0_joinable (wsV RX0 112 RX0 yX0_needy wsX0_needy) := goodIn_app (goodIn_of _ (by decide +kernel)) ggX0_joinable_X0_needy
set_option maxRecDepth 20000 in
theorem ggX0_joinable_X0_joinableOf : GoodIn wsX0_joinable wsX0_joinableOf := goodIn_r _ [30, 31, 32, 33, 25, 34, 35, 36, 37, 24, 26, 38, 39, 40, 41, 18, 19, 20, 21, 22, 23, 13, 9, 14, 15, 16, 42, 43, 44, 45, 46, 47, 48, 49, 50, 51, 52, 53, 54] (by decide +kernel) (by decide +kernel)
set_option maxRecDepth 20000 in
theorem gX0_joinable_X0_joinableOf : GoodIn wsX0_joinable (wsV RX0 115 RX0 yX0_joinableOf wsX0_joinableOf) := goodIn_app (goodIn_of _ (by decide +kernel)) ggX0_joinable_X0_joinableOf
theorem dX0_joinable_0 : decode cX0_joinable 0 = .ok (.aload_n 0, 1) := by decide +kernel
theorem dX0_joinable_1 : decode cX0_joinable 1 = .ok (.getfield 24, 3) := by decide +kernel
theorem dX0_joinable_4 : decode cX0_joinable 4 = .ok (.ifCond .eq 17, 3) := by decide +kernel
theorem dX0_joinable_7 : decode cX0_joinable 7 = .ok (.aload_n 0, 1) := by decide +kernel
theorem dX0_joinable_8 : decode cX0_joinable 8 = .ok (.aload_n 1, 1) := by decide +kernel
theorem dX0_joinable_9 : decode cX0_joinable 9 = .ok (.iload_n 2, 1) := by decide +kernel
theorem dX0_joinable_10 : decode cX0_joinable 10 = .ok (.aload_n 0, 1) := by decide +kernel
theorem dX0_joinable_11 : decode cX0_joinable 11 = .ok (.aload_n 1, 1) := by decide +kernel
theorem dX0_joinable_12 : decode cX0_joinable 12 = .ok (.invokevirtual 112, 3) := by decide +kernel
theorem dX0_joinable_15 : decode cX0_joinable 15 = .ok (.invokevirtual 115, 3) := by decide +kernel
theorem dX0_joinable_18 : decode cX0_joinable 18 = .ok (.goto 4, 3) := by decide +kernel
theorem dX0_joinable_21 : decode cX0_joinable 21 = .ok (.iconst 0, 1) := by decide +kernel
theorem dX0_joinable_22 : decode cX0_joinable 22 = .ok (.ireturn, 1) := by decide +kernel
set_option maxRecDepth 20000 in
theorem ggX0_nextKnot_X0_needy : GoodIn wsX0_nextKnot wsX0_needy := goodIn_r _ [6, 7, 8, 9, 10, 11, 12, 13, 14, 15, 16, 17, 18, 19, 20, 21, 22, 23, 24, 25, 26, 54, 55, 43, 44, 45, 46, 47, 48, 49, 50, 51, 52, 53] (by decide +kernel) (by decide +kernel)
set_option maxRecDepth 20000 in
theorem gX0_nextKnot_X0_needy : GoodIn wsX0_nextKnot (wsV RX0 112 RX0 yX0_needy wsX0_needy) := goodIn_app (goodIn_of _ (by decide +kernel)) ggX0_nextKnot_X0_needy
set_option maxRecDepth 20000 in
theorem ggX0_nextKnot_X6_holds : GoodIn wsX0_nextKnot wsX6_holds := goodIn_r _ [28] (by decide +kernel) (by decide +kernel)
set_option maxRecDepth 20000 in
theorem gX0_nextKnot_X6_holds_n102 : GoodIn wsX0_nextKnot (wsX6_holds) := ggX0_nextKnot_X6_holds
set_option maxRecDepth 20000 in
theorem ggX0_nextKnot_X0_joinableOf : GoodIn wsX0_nextKnot wsX0_joinableOf := goodIn_r _ [32, 33, 34, 27, 25, 28, 35, 36, 37, 24, 26, 38, 39, 40, 41, 18, 19, 20, 21, 22, 23, 13, 9, 14, 15, 16, 43, 44, 45, 46, 47, 48, 49, 50, 51, 52, 53, 54, 55] (by decide +kernel) (by decide +kernel)
set_option maxRecDepth 20000 in
theorem gX0_nextKnot_X0_joinableOf : GoodIn wsX0_nextKnot (wsV RX0 115 RX0 yX0_joinableOf wsX0_joinableOf) := goodIn_app (goodIn_of _ (by decide +kernel)) ggX0_nextKnot_X0_joinableOf
set_option maxRecDepth 20000 in
theorem ggX0_nextKnot_J6_bitCount_0f7a4 : GoodIn wsX0_nextKnot wsJ6_bitCount_0f7a4 := goodIn_r _ [20, 21, 22, 23] (by decide +kernel) (by decide +kernel)
set_option maxRecDepth 20000 in
theorem gX0_nextKnot_J6_bitCount_0f7a4 : GoodIn wsX0_nextKnot (va_wsS RX0 118 yJ6_bitCount_0f7a4 wsJ6_bitCount_0f7a4) := goodIn_app (goodIn_of _ (by decide +kernel)) ggX0_nextKnot_J6_bitCount_0f7a4
theorem dX0_nextKnot_0 : decode cX0_nextKnot 0 = .ok (.aload_n 0, 1) := by decide +kernel
theorem dX0_nextKnot_1 : decode cX0_nextKnot 1 = .ok (.getfield 28, 3) := by decide +kernel
theorem dX0_nextKnot_4 : decode cX0_nextKnot 4 = .ok (.ifCond .eq 5, 3) := by decide +kernel
theorem dX0_nextKnot_7 : decode cX0_nextKnot 7 = .ok (.iconst (-1), 1) := by decide +kernel
theorem dX0_nextKnot_8 : decode cX0_nextKnot 8 = .ok (.ireturn, 1) := by decide +kernel
theorem dX0_nextKnot_9 : decode cX0_nextKnot 9 = .ok (.aload_n 0, 1) := by decide +kernel
theorem dX0_nextKnot_10 : decode cX0_nextKnot 10 = .ok (.aload_n 1, 1) := by decide +kernel
theorem dX0_nextKnot_11 : decode cX0_nextKnot 11 = .ok (.invokevirtual 112, 3) := by decide +kernel
theorem dX0_nextKnot_14 : decode cX0_nextKnot 14 = .ok (.istore_n 2, 1) := by decide +kernel
theorem dX0_nextKnot_15 : decode cX0_nextKnot 15 = .ok (.iconst (-1), 1) := by decide +kernel
theorem dX0_nextKnot_16 : decode cX0_nextKnot 16 = .ok (.istore_n 3, 1) := by decide +kernel
theorem dX0_nextKnot_17 : decode cX0_nextKnot 17 = .ok (.bipush 16, 2) := by decide +kernel
theorem dX0_nextKnot_19 : decode cX0_nextKnot 19 = .ok (.istore 4, 2) := by decide +kernel
theorem dX0_nextKnot_21 : decode cX0_nextKnot 21 = .ok (.iconst 0, 1) := by decide +kernel
theorem dX0_nextKnot_22 : decode cX0_nextKnot 22 = .ok (.istore 5, 2) := by decide +kernel
theorem dX0_nextKnot_24 : decode cX0_nextKnot 24 = .ok (.iload 5, 2) := by decide +kernel
theorem dX0_nextKnot_26 : decode cX0_nextKnot 26 = .ok (.aload_n 1, 1) := by decide +kernel
theorem dX0_nextKnot_27 : decode cX0_nextKnot 27 = .ok (.getfield 96, 3) := by decide +kernel
theorem dX0_nextKnot_30 : decode cX0_nextKnot 30 = .ok (.if_icmp .ge 45, 3) := by decide +kernel
theorem dX0_nextKnot_33 : decode cX0_nextKnot 33 = .ok (.iload_n 2, 1) := by decide +kernel
theorem dX0_nextKnot_34 : decode cX0_nextKnot 34 = .ok (.iload 5, 2) := by decide +kernel
theorem dX0_nextKnot_36 : decode cX0_nextKnot 36 = .ok (.invokestatic 102, 3) := by decide +kernel
theorem dX0_nextKnot_39 : decode cX0_nextKnot 39 = .ok (.ifCond .eq 30, 3) := by decide +kernel
theorem dX0_nextKnot_42 : decode cX0_nextKnot 42 = .ok (.aload_n 0, 1) := by decide +kernel
theorem dX0_nextKnot_43 : decode cX0_nextKnot 43 = .ok (.aload_n 1, 1) := by decide +kernel
theorem dX0_nextKnot_44 : decode cX0_nextKnot 44 = .ok (.iload 5, 2) := by decide +kernel
theorem dX0_nextKnot_46 : decode cX0_nextKnot 46 = .ok (.iload_n 2, 1) := by decide +kernel
theorem dX0_nextKnot_47 : decode cX0_nextKnot 47 = .ok (.invokevirtual 115, 3) := by decide +kernel
theorem dX0_nextKnot_50 : decode cX0_nextKnot 50 = .ok (.invokestatic 118, 3) := by decide +kernel
theorem dX0_nextKnot_53 : decode cX0_nextKnot 53 = .ok (.istore 6, 2) := by decide +kernel
theorem dX0_nextKnot_55 : decode cX0_nextKnot 55 = .ok (.iload 6, 2) := by decide +kernel
theorem dX0_nextKnot_57 : decode cX0_nextKnot 57 = .ok (.iload 4, 2) := by decide +kernel
theorem dX0_nextKnot_59 : decode cX0_nextKnot 59 = .ok (.if_icmp .ge 10, 3) := by decide +kernel
theorem dX0_nextKnot_62 : decode cX0_nextKnot 62 = .ok (.iload 6, 2) := by decide +kernel
theorem dX0_nextKnot_64 : decode cX0_nextKnot 64 = .ok (.istore 4, 2) := by decide +kernel
end
section
theorem dX0_nextKnot_66 : decode cX0_nextKnot 66 = .ok (.iload 5, 2) := by decide +kernel
theorem dX0_nextKnot_68 : decode cX0_nextKnot 68 = .ok (.istore_n 3, 1) := by decide +kernel
theorem dX0_nextKnot_69 : decode cX0_nextKnot 69 = .ok (.iinc 5 1, 3) := by decide +kernel
theorem dX0_nextKnot_72 : decode cX0_nextKnot 72 = .ok (.goto (-48), 3) := by decide +kernel
theorem dX0_nextKnot_75 : decode cX0_nextKnot 75 = .ok (.iload_n 3, 1) := by decide +kernel
theorem dX0_nextKnot_76 : decode cX0_nextKnot 76 = .ok (.ireturn, 1) := by decide +kernel
set_option maxRecDepth 20000 in
theorem ggX0_partnerOf_X0_needy : GoodIn wsX0_partnerOf wsX0_needy := goodIn_r _ [6, 1, 7, 8, 9, 10, 11, 12, 13, 14, 15, 16, 17, 18, 19, 20, 21, 22, 23, 24, 25, 56, 57, 45, 46, 47, 48, 49, 50, 51, 52, 53, 54, 55] (by decide +kernel) (by decide +kernel)
set_option maxRecDepth 20000 in
theorem gX0_partnerOf_X0_needy : GoodIn wsX0_partnerOf (wsV RX0 112 RX0 yX0_needy wsX0_needy) := goodIn_app (goodIn_of _ (by decide +kernel)) ggX0_partnerOf_X0_needy
set_option maxRecDepth 20000 in
theorem ggX0_partnerOf_X0_joinableOf : GoodIn wsX0_partnerOf wsX0_joinableOf := goodIn_r _ [29, 30, 31, 32, 24, 33, 34, 35, 36, 23, 25, 37, 38, 39, 40, 17, 18, 19, 20, 21, 22, 12, 8, 13, 14, 15, 45, 46, 47, 48, 49, 50, 51, 52, 53, 54, 55, 56, 57] (by decide +kernel) (by decide +kernel)
set_option maxRecDepth 20000 in
theorem gX0_partnerOf_X0_joinableOf : GoodIn wsX0_partnerOf (wsV RX0 115 RX0 yX0_joinableOf wsX0_joinableOf) := goodIn_app (goodIn_of _ (by decide +kernel)) ggX0_partnerOf_X0_joinableOf
set_option maxRecDepth 20000 in
theorem ggX0_partnerOf_X3_countOf : GoodIn wsX0_partnerOf wsX3_countOf := goodIn_r _ [10, 11, 12, 13, 8, 14, 15, 16, 17, 18, 19, 20, 21, 22, 56, 57] (by decide +kernel) (by decide +kernel)
set_option maxRecDepth 20000 in
theorem gX0_partnerOf_X3_countOf_n99 : GoodIn wsX0_partnerOf (wsX3_countOf) := ggX0_partnerOf_X3_countOf
set_option maxRecDepth 20000 in
theorem ggX0_partnerOf_J6_bitCount_0f7a4 : GoodIn wsX0_partnerOf wsJ6_bitCount_0f7a4 := goodIn_r _ [19, 20, 21, 22] (by decide +kernel) (by decide +kernel)
set_option maxRecDepth 20000 in
theorem gX0_partnerOf_J6_bitCount_0f7a4 : GoodIn wsX0_partnerOf (va_wsS RX0 118 yJ6_bitCount_0f7a4 wsJ6_bitCount_0f7a4) := goodIn_app (goodIn_of _ (by decide +kernel)) ggX0_partnerOf_J6_bitCount_0f7a4
set_option maxRecDepth 20000 in
theorem ggX0_partnerOf_X6_firstOf : GoodIn wsX0_partnerOf wsX6_firstOf := goodIn_r _ [43, 44, 17, 18, 19, 20, 21, 22] (by decide +kernel) (by decide +kernel)
set_option maxRecDepth 20000 in
theorem gX0_partnerOf_X6_firstOf_n123 : GoodIn wsX0_partnerOf (wsX6_firstOf) := ggX0_partnerOf_X6_firstOf
theorem dX0_partnerOf_0 : decode cX0_partnerOf 0 = .ok (.iload_n 2, 1) := by decide +kernel
theorem dX0_partnerOf_1 : decode cX0_partnerOf 1 = .ok (.iconst (-1), 1) := by decide +kernel
theorem dX0_partnerOf_2 : decode cX0_partnerOf 2 = .ok (.if_icmp .ne 5, 3) := by decide +kernel
theorem dX0_partnerOf_5 : decode cX0_partnerOf 5 = .ok (.iconst (-1), 1) := by decide +kernel
theorem dX0_partnerOf_6 : decode cX0_partnerOf 6 = .ok (.ireturn, 1) := by decide +kernel
theorem dX0_partnerOf_7 : decode cX0_partnerOf 7 = .ok (.aload_n 0, 1) := by decide +kernel
theorem dX0_partnerOf_8 : decode cX0_partnerOf 8 = .ok (.aload_n 1, 1) := by decide +kernel
theorem dX0_partnerOf_9 : decode cX0_partnerOf 9 = .ok (.iload_n 2, 1) := by decide +kernel
theorem dX0_partnerOf_10 : decode cX0_partnerOf 10 = .ok (.aload_n 0, 1) := by decide +kernel
theorem dX0_partnerOf_11 : decode cX0_partnerOf 11 = .ok (.aload_n 1, 1) := by decide +kernel
theorem dX0_partnerOf_12 : decode cX0_partnerOf 12 = .ok (.invokevirtual 112, 3) := by decide +kernel
theorem dX0_partnerOf_15 : decode cX0_partnerOf 15 = .ok (.invokevirtual 115, 3) := by decide +kernel
theorem dX0_partnerOf_18 : decode cX0_partnerOf 18 = .ok (.istore_n 3, 1) := by decide +kernel
theorem dX0_partnerOf_19 : decode cX0_partnerOf 19 = .ok (.aload_n 0, 1) := by decide +kernel
theorem dX0_partnerOf_20 : decode cX0_partnerOf 20 = .ok (.getfield 32, 3) := by decide +kernel
theorem dX0_partnerOf_23 : decode cX0_partnerOf 23 = .ok (.aload_n 1, 1) := by decide +kernel
theorem dX0_partnerOf_24 : decode cX0_partnerOf 24 = .ok (.iload_n 2, 1) := by decide +kernel
theorem dX0_partnerOf_25 : decode cX0_partnerOf 25 = .ok (.invokevirtual 99, 3) := by decide +kernel
theorem dX0_partnerOf_28 : decode cX0_partnerOf 28 = .ok (.isub, 1) := by decide +kernel
theorem dX0_partnerOf_29 : decode cX0_partnerOf 29 = .ok (.istore 4, 2) := by decide +kernel
theorem dX0_partnerOf_31 : decode cX0_partnerOf 31 = .ok (.iload_n 3, 1) := by decide +kernel
theorem dX0_partnerOf_32 : decode cX0_partnerOf 32 = .ok (.invokestatic 118, 3) := by decide +kernel
theorem dX0_partnerOf_35 : decode cX0_partnerOf 35 = .ok (.iload 4, 2) := by decide +kernel
theorem dX0_partnerOf_37 : decode cX0_partnerOf 37 = .ok (.if_icmp .lt 10, 3) := by decide +kernel
theorem dX0_partnerOf_40 : decode cX0_partnerOf 40 = .ok (.iload_n 3, 1) := by decide +kernel
theorem dX0_partnerOf_41 : decode cX0_partnerOf 41 = .ok (.invokestatic 123, 3) := by decide +kernel
theorem dX0_partnerOf_44 : decode cX0_partnerOf 44 = .ok (.goto 4, 3) := by decide +kernel
theorem dX0_partnerOf_47 : decode cX0_partnerOf 47 = .ok (.iconst (-1), 1) := by decide +kernel
theorem dX0_partnerOf_48 : decode cX0_partnerOf 48 = .ok (.ireturn, 1) := by decide +kernel
theorem dX1_init_0 : decode cX1_init 0 = .ok (.aload_n 0, 1) := by decide +kernel
theorem dX1_init_1 : decode cX1_init 1 = .ok (.invokespecial 3, 3) := by decide +kernel
theorem dX1_init_4 : decode cX1_init 4 = .ok (.aload_n 0, 1) := by decide +kernel
theorem dX1_init_5 : decode cX1_init 5 = .ok (.bipush 102, 2) := by decide +kernel
theorem dX1_init_7 : decode cX1_init 7 = .ok (.newarray .int, 2) := by decide +kernel
theorem dX1_init_9 : decode cX1_init 9 = .ok (.putfield 9, 3) := by decide +kernel
theorem dX1_init_12 : decode cX1_init 12 = .ok (.aload_n 0, 1) := by decide +kernel
theorem dX1_init_13 : decode cX1_init 13 = .ok (.bipush 54, 2) := by decide +kernel
theorem dX1_init_15 : decode cX1_init 15 = .ok (.newarray .int, 2) := by decide +kernel
theorem dX1_init_17 : decode cX1_init 17 = .ok (.putfield 15, 3) := by decide +kernel
theorem dX1_init_20 : decode cX1_init 20 = .ok (.return_, 1) := by decide +kernel
theorem dX1_leastKnots_0 : decode cX1_leastKnots 0 = .ok (.iconst 1, 1) := by decide +kernel
theorem dX1_leastKnots_1 : decode cX1_leastKnots 1 = .ok (.istore_n 2, 1) := by decide +kernel
theorem dX1_leastKnots_2 : decode cX1_leastKnots 2 = .ok (.iconst 0, 1) := by decide +kernel
theorem dX1_leastKnots_3 : decode cX1_leastKnots 3 = .ok (.istore_n 3, 1) := by decide +kernel
theorem dX1_leastKnots_4 : decode cX1_leastKnots 4 = .ok (.iload_n 1, 1) := by decide +kernel
theorem dX1_leastKnots_5 : decode cX1_leastKnots 5 = .ok (.iconst 2, 1) := by decide +kernel
theorem dX1_leastKnots_6 : decode cX1_leastKnots 6 = .ok (.irem, 1) := by decide +kernel
theorem dX1_leastKnots_7 : decode cX1_leastKnots 7 = .ok (.iconst 1, 1) := by decide +kernel
theorem dX1_leastKnots_8 : decode cX1_leastKnots 8 = .ok (.if_icmp .ne 11, 3) := by decide +kernel
theorem dX1_leastKnots_11 : decode cX1_leastKnots 11 = .ok (.iload_n 1, 1) := by decide +kernel
theorem dX1_leastKnots_12 : decode cX1_leastKnots 12 = .ok (.iconst 1, 1) := by decide +kernel
theorem dX1_leastKnots_13 : decode cX1_leastKnots 13 = .ok (.isub, 1) := by decide +kernel
theorem dX1_leastKnots_14 : decode cX1_leastKnots 14 = .ok (.iconst 2, 1) := by decide +kernel
theorem dX1_leastKnots_15 : decode cX1_leastKnots 15 = .ok (.idiv, 1) := by decide +kernel
theorem dX1_leastKnots_16 : decode cX1_leastKnots 16 = .ok (.goto 6, 3) := by decide +kernel
theorem dX1_leastKnots_19 : decode cX1_leastKnots 19 = .ok (.iload_n 1, 1) := by decide +kernel
theorem dX1_leastKnots_20 : decode cX1_leastKnots 20 = .ok (.iconst 2, 1) := by decide +kernel
theorem dX1_leastKnots_21 : decode cX1_leastKnots 21 = .ok (.idiv, 1) := by decide +kernel
theorem dX1_leastKnots_22 : decode cX1_leastKnots 22 = .ok (.istore 4, 2) := by decide +kernel
theorem dX1_leastKnots_24 : decode cX1_leastKnots 24 = .ok (.iconst 0, 1) := by decide +kernel
theorem dX1_leastKnots_25 : decode cX1_leastKnots 25 = .ok (.istore 5, 2) := by decide +kernel
theorem dX1_leastKnots_27 : decode cX1_leastKnots 27 = .ok (.iload 5, 2) := by decide +kernel
theorem dX1_leastKnots_29 : decode cX1_leastKnots 29 = .ok (.iload 4, 2) := by decide +kernel
theorem dX1_leastKnots_31 : decode cX1_leastKnots 31 = .ok (.if_icmp .ge 19, 3) := by decide +kernel
theorem dX1_leastKnots_34 : decode cX1_leastKnots 34 = .ok (.iload_n 3, 1) := by decide +kernel
theorem dX1_leastKnots_35 : decode cX1_leastKnots 35 = .ok (.iload_n 2, 1) := by decide +kernel
theorem dX1_leastKnots_36 : decode cX1_leastKnots 36 = .ok (.iadd, 1) := by decide +kernel
theorem dX1_leastKnots_37 : decode cX1_leastKnots 37 = .ok (.istore_n 3, 1) := by decide +kernel
theorem dX1_leastKnots_38 : decode cX1_leastKnots 38 = .ok (.iload_n 2, 1) := by decide +kernel
theorem dX1_leastKnots_39 : decode cX1_leastKnots 39 = .ok (.iload_n 0, 1) := by decide +kernel
theorem dX1_leastKnots_40 : decode cX1_leastKnots 40 = .ok (.iconst 1, 1) := by decide +kernel
theorem dX1_leastKnots_41 : decode cX1_leastKnots 41 = .ok (.isub, 1) := by decide +kernel
theorem dX1_leastKnots_42 : decode cX1_leastKnots 42 = .ok (.imul, 1) := by decide +kernel
theorem dX1_leastKnots_43 : decode cX1_leastKnots 43 = .ok (.istore_n 2, 1) := by decide +kernel
theorem dX1_leastKnots_44 : decode cX1_leastKnots 44 = .ok (.iinc 5 1, 3) := by decide +kernel
theorem dX1_leastKnots_47 : decode cX1_leastKnots 47 = .ok (.goto (-20), 3) := by decide +kernel
theorem dX1_leastKnots_50 : decode cX1_leastKnots 50 = .ok (.iload_n 1, 1) := by decide +kernel
theorem dX1_leastKnots_51 : decode cX1_leastKnots 51 = .ok (.iconst 2, 1) := by decide +kernel
theorem dX1_leastKnots_52 : decode cX1_leastKnots 52 = .ok (.irem, 1) := by decide +kernel
theorem dX1_leastKnots_53 : decode cX1_leastKnots 53 = .ok (.iconst 1, 1) := by decide +kernel
theorem dX1_leastKnots_54 : decode cX1_leastKnots 54 = .ok (.if_icmp .ne 11, 3) := by decide +kernel
theorem dX1_leastKnots_57 : decode cX1_leastKnots 57 = .ok (.iconst 1, 1) := by decide +kernel
theorem dX1_leastKnots_58 : decode cX1_leastKnots 58 = .ok (.iload_n 0, 1) := by decide +kernel
theorem dX1_leastKnots_59 : decode cX1_leastKnots 59 = .ok (.iload_n 3, 1) := by decide +kernel
theorem dX1_leastKnots_60 : decode cX1_leastKnots 60 = .ok (.imul, 1) := by decide +kernel
theorem dX1_leastKnots_61 : decode cX1_leastKnots 61 = .ok (.iadd, 1) := by decide +kernel
theorem dX1_leastKnots_62 : decode cX1_leastKnots 62 = .ok (.goto 6, 3) := by decide +kernel
theorem dX1_leastKnots_65 : decode cX1_leastKnots 65 = .ok (.iconst 2, 1) := by decide +kernel
theorem dX1_leastKnots_66 : decode cX1_leastKnots 66 = .ok (.iload_n 3, 1) := by decide +kernel
theorem dX1_leastKnots_67 : decode cX1_leastKnots 67 = .ok (.imul, 1) := by decide +kernel
theorem dX1_leastKnots_68 : decode cX1_leastKnots 68 = .ok (.ireturn, 1) := by decide +kernel
set_option maxRecDepth 20000 in
theorem ggX1_why_X1_leastKnots : GoodIn wsX1_why wsX1_leastKnots := goodIn_r _ [4] (by decide +kernel) (by decide +kernel)
set_option maxRecDepth 20000 in
theorem gX1_why_X1_leastKnots : GoodIn wsX1_why (va_wsS RX1 18 yX1_leastKnots wsX1_leastKnots) := goodIn_app (goodIn_of _ (by decide +kernel)) ggX1_why_X1_leastKnots
set_option maxRecDepth 20000 in
theorem ggX1_why_X1_isProved : GoodIn wsX1_why wsX1_isProved := goodIn_r _ [8, 9, 10, 11, 12, 3, 13, 14, 15, 16, 17, 18] (by decide +kernel) (by decide +kernel)
set_option maxRecDepth 20000 in
theorem gX1_why_X1_isProved : GoodIn wsX1_why (wsV RX1 22 RX1 yX1_isProved wsX1_isProved) := goodIn_app (goodIn_of _ (by decide +kernel)) ggX1_why_X1_isProved
theorem dX1_why_0 : decode cX1_why 0 = .ok (.iload_n 1, 1) := by decide +kernel
theorem dX1_why_1 : decode cX1_why 1 = .ok (.iconst 2, 1) := by decide +kernel
theorem dX1_why_2 : decode cX1_why 2 = .ok (.irem, 1) := by decide +kernel
theorem dX1_why_3 : decode cX1_why 3 = .ok (.iconst 1, 1) := by decide +kernel
theorem dX1_why_4 : decode cX1_why 4 = .ok (.if_icmp .ne 12, 3) := by decide +kernel
theorem dX1_why_7 : decode cX1_why 7 = .ok (.iload_n 2, 1) := by decide +kernel
theorem dX1_why_8 : decode cX1_why 8 = .ok (.iconst 2, 1) := by decide +kernel
theorem dX1_why_9 : decode cX1_why 9 = .ok (.irem, 1) := by decide +kernel
theorem dX1_why_10 : decode cX1_why 10 = .ok (.iconst 1, 1) := by decide +kernel
theorem dX1_why_11 : decode cX1_why 11 = .ok (.if_icmp .ne 5, 3) := by decide +kernel
theorem dX1_why_14 : decode cX1_why 14 = .ok (.iconst 1, 1) := by decide +kernel
theorem dX1_why_15 : decode cX1_why 15 = .ok (.ireturn, 1) := by decide +kernel
theorem dX1_why_16 : decode cX1_why 16 = .ok (.iload_n 1, 1) := by decide +kernel
theorem dX1_why_17 : decode cX1_why 17 = .ok (.iload_n 2, 1) := by decide +kernel
theorem dX1_why_18 : decode cX1_why 18 = .ok (.iload_n 3, 1) := by decide +kernel
theorem dX1_why_19 : decode cX1_why 19 = .ok (.invokestatic 18, 3) := by decide +kernel
theorem dX1_why_22 : decode cX1_why 22 = .ok (.if_icmp .ge 5, 3) := by decide +kernel
theorem dX1_why_25 : decode cX1_why 25 = .ok (.iconst 2, 1) := by decide +kernel
theorem dX1_why_26 : decode cX1_why 26 = .ok (.ireturn, 1) := by decide +kernel
theorem dX1_why_27 : decode cX1_why 27 = .ok (.aload_n 0, 1) := by decide +kernel
theorem dX1_why_28 : decode cX1_why 28 = .ok (.iload_n 1, 1) := by decide +kernel
theorem dX1_why_29 : decode cX1_why 29 = .ok (.iload_n 2, 1) := by decide +kernel
theorem dX1_why_30 : decode cX1_why 30 = .ok (.iload_n 3, 1) := by decide +kernel
theorem dX1_why_31 : decode cX1_why 31 = .ok (.invokevirtual 22, 3) := by decide +kernel
theorem dX1_why_34 : decode cX1_why 34 = .ok (.ifCond .eq 7, 3) := by decide +kernel
theorem dX1_why_37 : decode cX1_why 37 = .ok (.iconst 3, 1) := by decide +kernel
theorem dX1_why_38 : decode cX1_why 38 = .ok (.goto 4, 3) := by decide +kernel
theorem dX1_why_41 : decode cX1_why 41 = .ok (.iconst 0, 1) := by decide +kernel
theorem dX1_why_42 : decode cX1_why 42 = .ok (.ireturn, 1) := by decide +kernel
set_option maxRecDepth 20000 in
theorem ggX1_proofPlace_X6_isWithin : GoodIn wsX1_proofPlace wsX6_isWithin := goodIn_r _ [4] (by decide +kernel) (by decide +kernel)
set_option maxRecDepth 20000 in
theorem gX1_proofPlace_X6_isWithin_n26 : GoodIn wsX1_proofPlace (wsX6_isWithin) := ggX1_proofPlace_X6_isWithin
theorem dX1_proofPlace_0 : decode cX1_proofPlace 0 = .ok (.iload_n 1, 1) := by decide +kernel
theorem dX1_proofPlace_1 : decode cX1_proofPlace 1 = .ok (.iconst 0, 1) := by decide +kernel
theorem dX1_proofPlace_2 : decode cX1_proofPlace 2 = .ok (.bipush 16, 2) := by decide +kernel
theorem dX1_proofPlace_4 : decode cX1_proofPlace 4 = .ok (.invokestatic 26, 3) := by decide +kernel
theorem dX1_proofPlace_7 : decode cX1_proofPlace 7 = .ok (.ifCond .eq 16, 3) := by decide +kernel
theorem dX1_proofPlace_10 : decode cX1_proofPlace 10 = .ok (.iload_n 2, 1) := by decide +kernel
theorem dX1_proofPlace_11 : decode cX1_proofPlace 11 = .ok (.iconst 2, 1) := by decide +kernel
theorem dX1_proofPlace_12 : decode cX1_proofPlace 12 = .ok (.iconst 5, 1) := by decide +kernel
theorem dX1_proofPlace_13 : decode cX1_proofPlace 13 = .ok (.invokestatic 26, 3) := by decide +kernel
theorem dX1_proofPlace_16 : decode cX1_proofPlace 16 = .ok (.ifCond .eq 7, 3) := by decide +kernel
theorem dX1_proofPlace_19 : decode cX1_proofPlace 19 = .ok (.iconst 1, 1) := by decide +kernel
theorem dX1_proofPlace_20 : decode cX1_proofPlace 20 = .ok (.goto 4, 3) := by decide +kernel
theorem dX1_proofPlace_23 : decode cX1_proofPlace 23 = .ok (.iconst 0, 1) := by decide +kernel
theorem dX1_proofPlace_24 : decode cX1_proofPlace 24 = .ok (.istore_n 3, 1) := by decide +kernel
theorem dX1_proofPlace_25 : decode cX1_proofPlace 25 = .ok (.iload_n 1, 1) := by decide +kernel
theorem dX1_proofPlace_26 : decode cX1_proofPlace 26 = .ok (.bipush 6, 2) := by decide +kernel
theorem dX1_proofPlace_28 : decode cX1_proofPlace 28 = .ok (.imul, 1) := by decide +kernel
theorem dX1_proofPlace_29 : decode cX1_proofPlace 29 = .ok (.iload_n 2, 1) := by decide +kernel
theorem dX1_proofPlace_30 : decode cX1_proofPlace 30 = .ok (.iadd, 1) := by decide +kernel
theorem dX1_proofPlace_31 : decode cX1_proofPlace 31 = .ok (.istore 4, 2) := by decide +kernel
theorem dX1_proofPlace_33 : decode cX1_proofPlace 33 = .ok (.iload_n 3, 1) := by decide +kernel
theorem dX1_proofPlace_34 : decode cX1_proofPlace 34 = .ok (.ifCond .eq 23, 3) := by decide +kernel
theorem dX1_proofPlace_37 : decode cX1_proofPlace 37 = .ok (.iload 4, 2) := by decide +kernel
theorem dX1_proofPlace_39 : decode cX1_proofPlace 39 = .ok (.ifCond .lt 18, 3) := by decide +kernel
theorem dX1_proofPlace_42 : decode cX1_proofPlace 42 = .ok (.iload 4, 2) := by decide +kernel
theorem dX1_proofPlace_44 : decode cX1_proofPlace 44 = .ok (.aload_n 0, 1) := by decide +kernel
theorem dX1_proofPlace_45 : decode cX1_proofPlace 45 = .ok (.getfield 9, 3) := by decide +kernel
theorem dX1_proofPlace_48 : decode cX1_proofPlace 48 = .ok (.arraylength, 1) := by decide +kernel
theorem dX1_proofPlace_49 : decode cX1_proofPlace 49 = .ok (.if_icmp .ge 8, 3) := by decide +kernel
theorem dX1_proofPlace_52 : decode cX1_proofPlace 52 = .ok (.iload 4, 2) := by decide +kernel
theorem dX1_proofPlace_54 : decode cX1_proofPlace 54 = .ok (.goto 4, 3) := by decide +kernel
theorem dX1_proofPlace_57 : decode cX1_proofPlace 57 = .ok (.iconst (-1), 1) := by decide +kernel
theorem dX1_proofPlace_58 : decode cX1_proofPlace 58 = .ok (.ireturn, 1) := by decide +kernel
set_option maxRecDepth 20000 in
theorem ggX1_isProved_X1_proofPlace : GoodIn wsX1_isProved wsX1_proofPlace := goodIn_r _ [6, 1, 7, 8, 9, 10, 11] (by decide +kernel) (by decide +kernel)
set_option maxRecDepth 20000 in
theorem gX1_isProved_X1_proofPlace : GoodIn wsX1_isProved (wsV RX1 29 RX1 yX1_proofPlace wsX1_proofPlace) := goodIn_app (goodIn_of _ (by decide +kernel)) ggX1_isProved_X1_proofPlace
theorem dX1_isProved_0 : decode cX1_isProved 0 = .ok (.aload_n 0, 1) := by decide +kernel
theorem dX1_isProved_1 : decode cX1_isProved 1 = .ok (.iload_n 1, 1) := by decide +kernel
theorem dX1_isProved_2 : decode cX1_isProved 2 = .ok (.iload_n 2, 1) := by decide +kernel
theorem dX1_isProved_3 : decode cX1_isProved 3 = .ok (.invokevirtual 29, 3) := by decide +kernel
theorem dX1_isProved_6 : decode cX1_isProved 6 = .ok (.istore 4, 2) := by decide +kernel
theorem dX1_isProved_8 : decode cX1_isProved 8 = .ok (.iload 4, 2) := by decide +kernel
theorem dX1_isProved_10 : decode cX1_isProved 10 = .ok (.iconst (-1), 1) := by decide +kernel
theorem dX1_isProved_11 : decode cX1_isProved 11 = .ok (.if_icmp .ne 5, 3) := by decide +kernel
theorem dX1_isProved_14 : decode cX1_isProved 14 = .ok (.iconst 0, 1) := by decide +kernel
theorem dX1_isProved_15 : decode cX1_isProved 15 = .ok (.ireturn, 1) := by decide +kernel
theorem dX1_isProved_16 : decode cX1_isProved 16 = .ok (.aload_n 0, 1) := by decide +kernel
theorem dX1_isProved_17 : decode cX1_isProved 17 = .ok (.getfield 9, 3) := by decide +kernel
theorem dX1_isProved_20 : decode cX1_isProved 20 = .ok (.iload 4, 2) := by decide +kernel
theorem dX1_isProved_22 : decode cX1_isProved 22 = .ok (.iaload, 1) := by decide +kernel
theorem dX1_isProved_23 : decode cX1_isProved 23 = .ok (.istore 5, 2) := by decide +kernel
theorem dX1_isProved_25 : decode cX1_isProved 25 = .ok (.iload 5, 2) := by decide +kernel
theorem dX1_isProved_27 : decode cX1_isProved 27 = .ok (.ifCond .le 13, 3) := by decide +kernel
theorem dX1_isProved_30 : decode cX1_isProved 30 = .ok (.iload 5, 2) := by decide +kernel
theorem dX1_isProved_32 : decode cX1_isProved 32 = .ok (.iload_n 3, 1) := by decide +kernel
theorem dX1_isProved_33 : decode cX1_isProved 33 = .ok (.if_icmp .gt 7, 3) := by decide +kernel
theorem dX1_isProved_36 : decode cX1_isProved 36 = .ok (.iconst 1, 1) := by decide +kernel
theorem dX1_isProved_37 : decode cX1_isProved 37 = .ok (.goto 4, 3) := by decide +kernel
theorem dX1_isProved_40 : decode cX1_isProved 40 = .ok (.iconst 0, 1) := by decide +kernel
theorem dX1_isProved_41 : decode cX1_isProved 41 = .ok (.ireturn, 1) := by decide +kernel
set_option maxRecDepth 20000 in
theorem ggX1_prove_X1_proofPlace : GoodIn wsX1_prove wsX1_proofPlace := goodIn_r _ [6, 1, 7, 8, 9, 14, 15] (by decide +kernel) (by decide +kernel)
set_option maxRecDepth 20000 in
theorem gX1_prove_X1_proofPlace : GoodIn wsX1_prove (wsV RX1 29 RX1 yX1_proofPlace wsX1_proofPlace) := goodIn_app (goodIn_of _ (by decide +kernel)) ggX1_prove_X1_proofPlace
set_option maxRecDepth 20000 in
theorem ggX1_prove_X1_isProved : GoodIn wsX1_prove wsX1_isProved := goodIn_r _ [13, 1, 2, 3, 4, 5, 6, 7, 8, 9, 14, 15] (by decide +kernel) (by decide +kernel)
set_option maxRecDepth 20000 in
theorem gX1_prove_X1_isProved : GoodIn wsX1_prove (wsV RX1 22 RX1 yX1_isProved wsX1_isProved) := goodIn_app (goodIn_of _ (by decide +kernel)) ggX1_prove_X1_isProved
theorem dX1_prove_0 : decode cX1_prove 0 = .ok (.aload_n 0, 1) := by decide +kernel
theorem dX1_prove_1 : decode cX1_prove 1 = .ok (.iload_n 1, 1) := by decide +kernel
theorem dX1_prove_2 : decode cX1_prove 2 = .ok (.iload_n 2, 1) := by decide +kernel
theorem dX1_prove_3 : decode cX1_prove 3 = .ok (.invokevirtual 29, 3) := by decide +kernel
theorem dX1_prove_6 : decode cX1_prove 6 = .ok (.istore 4, 2) := by decide +kernel
theorem dX1_prove_8 : decode cX1_prove 8 = .ok (.iload 4, 2) := by decide +kernel
theorem dX1_prove_10 : decode cX1_prove 10 = .ok (.iconst (-1), 1) := by decide +kernel
theorem dX1_prove_11 : decode cX1_prove 11 = .ok (.if_icmp .eq 21, 3) := by decide +kernel
theorem dX1_prove_14 : decode cX1_prove 14 = .ok (.aload_n 0, 1) := by decide +kernel
theorem dX1_prove_15 : decode cX1_prove 15 = .ok (.iload_n 1, 1) := by decide +kernel
theorem dX1_prove_16 : decode cX1_prove 16 = .ok (.iload_n 2, 1) := by decide +kernel
theorem dX1_prove_17 : decode cX1_prove 17 = .ok (.iload_n 3, 1) := by decide +kernel
theorem dX1_prove_18 : decode cX1_prove 18 = .ok (.invokevirtual 22, 3) := by decide +kernel
theorem dX1_prove_21 : decode cX1_prove 21 = .ok (.ifCond .ne 11, 3) := by decide +kernel
theorem dX1_prove_24 : decode cX1_prove 24 = .ok (.aload_n 0, 1) := by decide +kernel
theorem dX1_prove_25 : decode cX1_prove 25 = .ok (.getfield 9, 3) := by decide +kernel
theorem dX1_prove_28 : decode cX1_prove 28 = .ok (.iload 4, 2) := by decide +kernel
theorem dX1_prove_30 : decode cX1_prove 30 = .ok (.iload_n 3, 1) := by decide +kernel
theorem dX1_prove_31 : decode cX1_prove 31 = .ok (.iastore, 1) := by decide +kernel
theorem dX1_prove_32 : decode cX1_prove 32 = .ok (.return_, 1) := by decide +kernel
set_option maxRecDepth 20000 in
theorem ggX1_tablePlace_X6_isWithin : GoodIn wsX1_tablePlace wsX6_isWithin := goodIn_r _ [4] (by decide +kernel) (by decide +kernel)
set_option maxRecDepth 20000 in
theorem gX1_tablePlace_X6_isWithin_n26 : GoodIn wsX1_tablePlace (wsX6_isWithin) := ggX1_tablePlace_X6_isWithin
theorem dX1_tablePlace_0 : decode cX1_tablePlace 0 = .ok (.iload_n 1, 1) := by decide +kernel
theorem dX1_tablePlace_1 : decode cX1_tablePlace 1 = .ok (.iconst 2, 1) := by decide +kernel
theorem dX1_tablePlace_2 : decode cX1_tablePlace 2 = .ok (.iconst 5, 1) := by decide +kernel
theorem dX1_tablePlace_3 : decode cX1_tablePlace 3 = .ok (.invokestatic 26, 3) := by decide +kernel
theorem dX1_tablePlace_6 : decode cX1_tablePlace 6 = .ok (.ifCond .eq 17, 3) := by decide +kernel
theorem dX1_tablePlace_9 : decode cX1_tablePlace 9 = .ok (.iload_n 2, 1) := by decide +kernel
theorem dX1_tablePlace_10 : decode cX1_tablePlace 10 = .ok (.iconst 3, 1) := by decide +kernel
theorem dX1_tablePlace_11 : decode cX1_tablePlace 11 = .ok (.bipush 8, 2) := by decide +kernel
theorem dX1_tablePlace_13 : decode cX1_tablePlace 13 = .ok (.invokestatic 26, 3) := by decide +kernel
theorem dX1_tablePlace_16 : decode cX1_tablePlace 16 = .ok (.ifCond .eq 7, 3) := by decide +kernel
theorem dX1_tablePlace_19 : decode cX1_tablePlace 19 = .ok (.iconst 1, 1) := by decide +kernel
theorem dX1_tablePlace_20 : decode cX1_tablePlace 20 = .ok (.goto 4, 3) := by decide +kernel
theorem dX1_tablePlace_23 : decode cX1_tablePlace 23 = .ok (.iconst 0, 1) := by decide +kernel
theorem dX1_tablePlace_24 : decode cX1_tablePlace 24 = .ok (.istore_n 3, 1) := by decide +kernel
theorem dX1_tablePlace_25 : decode cX1_tablePlace 25 = .ok (.iload_n 1, 1) := by decide +kernel
theorem dX1_tablePlace_26 : decode cX1_tablePlace 26 = .ok (.bipush 9, 2) := by decide +kernel
theorem dX1_tablePlace_28 : decode cX1_tablePlace 28 = .ok (.imul, 1) := by decide +kernel
theorem dX1_tablePlace_29 : decode cX1_tablePlace 29 = .ok (.iload_n 2, 1) := by decide +kernel
theorem dX1_tablePlace_30 : decode cX1_tablePlace 30 = .ok (.iadd, 1) := by decide +kernel
theorem dX1_tablePlace_31 : decode cX1_tablePlace 31 = .ok (.istore 4, 2) := by decide +kernel
theorem dX1_tablePlace_33 : decode cX1_tablePlace 33 = .ok (.iload_n 3, 1) := by decide +kernel
theorem dX1_tablePlace_34 : decode cX1_tablePlace 34 = .ok (.ifCond .eq 23, 3) := by decide +kernel
theorem dX1_tablePlace_37 : decode cX1_tablePlace 37 = .ok (.iload 4, 2) := by decide +kernel
theorem dX1_tablePlace_39 : decode cX1_tablePlace 39 = .ok (.ifCond .lt 18, 3) := by decide +kernel
theorem dX1_tablePlace_42 : decode cX1_tablePlace 42 = .ok (.iload 4, 2) := by decide +kernel
theorem dX1_tablePlace_44 : decode cX1_tablePlace 44 = .ok (.aload_n 0, 1) := by decide +kernel
theorem dX1_tablePlace_45 : decode cX1_tablePlace 45 = .ok (.getfield 15, 3) := by decide +kernel
theorem dX1_tablePlace_48 : decode cX1_tablePlace 48 = .ok (.arraylength, 1) := by decide +kernel
theorem dX1_tablePlace_49 : decode cX1_tablePlace 49 = .ok (.if_icmp .ge 8, 3) := by decide +kernel
theorem dX1_tablePlace_52 : decode cX1_tablePlace 52 = .ok (.iload 4, 2) := by decide +kernel
theorem dX1_tablePlace_54 : decode cX1_tablePlace 54 = .ok (.goto 4, 3) := by decide +kernel
theorem dX1_tablePlace_57 : decode cX1_tablePlace 57 = .ok (.iconst (-1), 1) := by decide +kernel
theorem dX1_tablePlace_58 : decode cX1_tablePlace 58 = .ok (.ireturn, 1) := by decide +kernel
set_option maxRecDepth 20000 in
theorem ggX1_look_X3_evenCount : GoodIn wsX1_look wsX3_evenCount := goodIn_r _ [5, 6, 7, 8, 9, 3, 10, 11, 12, 13, 14, 15, 16, 17, 18, 19, 20, 21, 22, 59, 60] (by decide +kernel) (by decide +kernel)
set_option maxRecDepth 20000 in
theorem gX1_look_X3_evenCount_n32 : GoodIn wsX1_look (wsX3_evenCount) := ggX1_look_X3_evenCount
set_option maxRecDepth 20000 in
theorem ggX1_look_X6_isWithin : GoodIn wsX1_look wsX6_isWithin := goodIn_r _ [25] (by decide +kernel) (by decide +kernel)
set_option maxRecDepth 20000 in
theorem gX1_look_X6_isWithin_n26 : GoodIn wsX1_look (wsX6_isWithin) := ggX1_look_X6_isWithin
set_option maxRecDepth 20000 in
theorem ggX1_look_X5_leastRing : GoodIn wsX1_look wsX5_leastRing := goodIn_r _ [28, 29, 30, 27, 31, 32, 3, 33, 34, 11, 12, 13, 14, 15, 35, 24, 36, 37, 38, 39, 40, 41, 42, 43, 44, 45, 17, 18, 19, 20, 21, 22, 46, 47, 48, 49, 50, 51, 59, 60] (by decide +kernel) (by decide +kernel)
set_option maxRecDepth 20000 in
theorem gX1_look_X5_leastRing_n38 : GoodIn wsX1_look (wsX5_leastRing) := ggX1_look_X5_leastRing
set_option maxRecDepth 20000 in
theorem ggX1_look_X1_tablePlace : GoodIn wsX1_look wsX1_tablePlace := goodIn_r _ [56, 1, 23, 24, 25, 57, 58] (by decide +kernel) (by decide +kernel)
set_option maxRecDepth 20000 in
theorem gX1_look_X1_tablePlace : GoodIn wsX1_look (wsV RX1 44 RX1 yX1_tablePlace wsX1_tablePlace) := goodIn_app (goodIn_of _ (by decide +kernel)) ggX1_look_X1_tablePlace
theorem dX1_look_0 : decode cX1_look 0 = .ok (.aload_n 1, 1) := by decide +kernel
theorem dX1_look_1 : decode cX1_look 1 = .ok (.invokevirtual 32, 3) := by decide +kernel
theorem dX1_look_4 : decode cX1_look 4 = .ok (.istore_n 2, 1) := by decide +kernel
theorem dX1_look_5 : decode cX1_look 5 = .ok (.iload_n 2, 1) := by decide +kernel
theorem dX1_look_6 : decode cX1_look 6 = .ok (.iconst 2, 1) := by decide +kernel
theorem dX1_look_7 : decode cX1_look 7 = .ok (.iconst 5, 1) := by decide +kernel
theorem dX1_look_8 : decode cX1_look 8 = .ok (.invokestatic 26, 3) := by decide +kernel
theorem dX1_look_11 : decode cX1_look 11 = .ok (.ifCond .ne 4, 3) := by decide +kernel
theorem dX1_look_14 : decode cX1_look 14 = .ok (.return_, 1) := by decide +kernel
theorem dX1_look_15 : decode cX1_look 15 = .ok (.aload_n 0, 1) := by decide +kernel
theorem dX1_look_16 : decode cX1_look 16 = .ok (.iload_n 2, 1) := by decide +kernel
theorem dX1_look_17 : decode cX1_look 17 = .ok (.aload_n 1, 1) := by decide +kernel
theorem dX1_look_18 : decode cX1_look 18 = .ok (.invokestatic 38, 3) := by decide +kernel
theorem dX1_look_21 : decode cX1_look 21 = .ok (.invokevirtual 44, 3) := by decide +kernel
theorem dX1_look_24 : decode cX1_look 24 = .ok (.istore_n 3, 1) := by decide +kernel
theorem dX1_look_25 : decode cX1_look 25 = .ok (.iload_n 3, 1) := by decide +kernel
theorem dX1_look_26 : decode cX1_look 26 = .ok (.iconst (-1), 1) := by decide +kernel
theorem dX1_look_27 : decode cX1_look 27 = .ok (.if_icmp .eq 35, 3) := by decide +kernel
theorem dX1_look_30 : decode cX1_look 30 = .ok (.aload_n 0, 1) := by decide +kernel
theorem dX1_look_31 : decode cX1_look 31 = .ok (.getfield 15, 3) := by decide +kernel
theorem dX1_look_34 : decode cX1_look 34 = .ok (.iload_n 3, 1) := by decide +kernel
theorem dX1_look_35 : decode cX1_look 35 = .ok (.iaload, 1) := by decide +kernel
theorem dX1_look_36 : decode cX1_look 36 = .ok (.ifCond .eq 16, 3) := by decide +kernel
theorem dX1_look_39 : decode cX1_look 39 = .ok (.aload_n 1, 1) := by decide +kernel
theorem dX1_look_40 : decode cX1_look 40 = .ok (.getfield 47, 3) := by decide +kernel
theorem dX1_look_43 : decode cX1_look 43 = .ok (.aload_n 0, 1) := by decide +kernel
theorem dX1_look_44 : decode cX1_look 44 = .ok (.getfield 15, 3) := by decide +kernel
theorem dX1_look_47 : decode cX1_look 47 = .ok (.iload_n 3, 1) := by decide +kernel
theorem dX1_look_48 : decode cX1_look 48 = .ok (.iaload, 1) := by decide +kernel
theorem dX1_look_49 : decode cX1_look 49 = .ok (.if_icmp .ge 13, 3) := by decide +kernel
theorem dX1_look_52 : decode cX1_look 52 = .ok (.aload_n 0, 1) := by decide +kernel
theorem dX1_look_53 : decode cX1_look 53 = .ok (.getfield 15, 3) := by decide +kernel
theorem dX1_look_56 : decode cX1_look 56 = .ok (.iload_n 3, 1) := by decide +kernel
theorem dX1_look_57 : decode cX1_look 57 = .ok (.aload_n 1, 1) := by decide +kernel
theorem dX1_look_58 : decode cX1_look 58 = .ok (.getfield 47, 3) := by decide +kernel
theorem dX1_look_61 : decode cX1_look 61 = .ok (.iastore, 1) := by decide +kernel
theorem dX1_look_62 : decode cX1_look 62 = .ok (.return_, 1) := by decide +kernel
set_option maxRecDepth 20000 in
theorem ggX1_smallestOf_X1_tablePlace : GoodIn wsX1_smallestOf wsX1_tablePlace := goodIn_r _ [6, 1, 7, 8, 9, 10, 11] (by decide +kernel) (by decide +kernel)
set_option maxRecDepth 20000 in
theorem gX1_smallestOf_X1_tablePlace : GoodIn wsX1_smallestOf (wsV RX1 44 RX1 yX1_tablePlace wsX1_tablePlace) := goodIn_app (goodIn_of _ (by decide +kernel)) ggX1_smallestOf_X1_tablePlace
theorem dX1_smallestOf_0 : decode cX1_smallestOf 0 = .ok (.aload_n 0, 1) := by decide +kernel
theorem dX1_smallestOf_1 : decode cX1_smallestOf 1 = .ok (.iload_n 1, 1) := by decide +kernel
theorem dX1_smallestOf_2 : decode cX1_smallestOf 2 = .ok (.iload_n 2, 1) := by decide +kernel
theorem dX1_smallestOf_3 : decode cX1_smallestOf 3 = .ok (.invokevirtual 44, 3) := by decide +kernel
theorem dX1_smallestOf_6 : decode cX1_smallestOf 6 = .ok (.istore_n 3, 1) := by decide +kernel
theorem dX1_smallestOf_7 : decode cX1_smallestOf 7 = .ok (.iload_n 3, 1) := by decide +kernel
theorem dX1_smallestOf_8 : decode cX1_smallestOf 8 = .ok (.iconst (-1), 1) := by decide +kernel
theorem dX1_smallestOf_9 : decode cX1_smallestOf 9 = .ok (.if_icmp .eq 12, 3) := by decide +kernel
theorem dX1_smallestOf_12 : decode cX1_smallestOf 12 = .ok (.aload_n 0, 1) := by decide +kernel
theorem dX1_smallestOf_13 : decode cX1_smallestOf 13 = .ok (.getfield 15, 3) := by decide +kernel
theorem dX1_smallestOf_16 : decode cX1_smallestOf 16 = .ok (.iload_n 3, 1) := by decide +kernel
theorem dX1_smallestOf_17 : decode cX1_smallestOf 17 = .ok (.iaload, 1) := by decide +kernel
theorem dX1_smallestOf_18 : decode cX1_smallestOf 18 = .ok (.ifCond .ne 7, 3) := by decide +kernel
theorem dX1_smallestOf_21 : decode cX1_smallestOf 21 = .ok (.iconst (-1), 1) := by decide +kernel
theorem dX1_smallestOf_22 : decode cX1_smallestOf 22 = .ok (.goto 9, 3) := by decide +kernel
theorem dX1_smallestOf_25 : decode cX1_smallestOf 25 = .ok (.aload_n 0, 1) := by decide +kernel
theorem dX1_smallestOf_26 : decode cX1_smallestOf 26 = .ok (.getfield 15, 3) := by decide +kernel
theorem dX1_smallestOf_29 : decode cX1_smallestOf 29 = .ok (.iload_n 3, 1) := by decide +kernel
theorem dX1_smallestOf_30 : decode cX1_smallestOf 30 = .ok (.iaload, 1) := by decide +kernel
theorem dX1_smallestOf_31 : decode cX1_smallestOf 31 = .ok (.ireturn, 1) := by decide +kernel
set_option maxRecDepth 20000 in
theorem ggX1_nextOf_X1_why : GoodIn wsX1_nextOf wsX1_why := goodIn_r _ [5, 6, 7, 4, 8, 9, 10, 11, 12, 13, 14, 15, 16, 17, 18, 19, 20, 21, 22] (by decide +kernel) (by decide +kernel)
set_option maxRecDepth 20000 in
theorem gX1_nextOf_X1_why : GoodIn wsX1_nextOf (wsV RX1 51 RX1 yX1_why wsX1_why) := goodIn_app (goodIn_of _ (by decide +kernel)) ggX1_nextOf_X1_why
theorem dX1_nextOf_0 : decode cX1_nextOf 0 = .ok (.iconst 3, 1) := by decide +kernel
theorem dX1_nextOf_1 : decode cX1_nextOf 1 = .ok (.istore_n 3, 1) := by decide +kernel
theorem dX1_nextOf_2 : decode cX1_nextOf 2 = .ok (.iload_n 3, 1) := by decide +kernel
theorem dX1_nextOf_3 : decode cX1_nextOf 3 = .ok (.sipush 999, 3) := by decide +kernel
theorem dX1_nextOf_6 : decode cX1_nextOf 6 = .ok (.if_icmp .gt 21, 3) := by decide +kernel
theorem dX1_nextOf_9 : decode cX1_nextOf 9 = .ok (.aload_n 0, 1) := by decide +kernel
theorem dX1_nextOf_10 : decode cX1_nextOf 10 = .ok (.iload_n 3, 1) := by decide +kernel
theorem dX1_nextOf_11 : decode cX1_nextOf 11 = .ok (.iload_n 1, 1) := by decide +kernel
theorem dX1_nextOf_12 : decode cX1_nextOf 12 = .ok (.iload_n 2, 1) := by decide +kernel
theorem dX1_nextOf_13 : decode cX1_nextOf 13 = .ok (.invokevirtual 51, 3) := by decide +kernel
theorem dX1_nextOf_16 : decode cX1_nextOf 16 = .ok (.ifCond .ne 5, 3) := by decide +kernel
theorem dX1_nextOf_19 : decode cX1_nextOf 19 = .ok (.iload_n 3, 1) := by decide +kernel
theorem dX1_nextOf_20 : decode cX1_nextOf 20 = .ok (.ireturn, 1) := by decide +kernel
theorem dX1_nextOf_21 : decode cX1_nextOf 21 = .ok (.iinc 3 1, 3) := by decide +kernel
theorem dX1_nextOf_24 : decode cX1_nextOf 24 = .ok (.goto (-22), 3) := by decide +kernel
theorem dX1_nextOf_27 : decode cX1_nextOf 27 = .ok (.iconst (-1), 1) := by decide +kernel
theorem dX1_nextOf_28 : decode cX1_nextOf 28 = .ok (.ireturn, 1) := by decide +kernel
set_option maxRecDepth 20000 in
theorem ggX1_isTableSound_X1_smallestOf : GoodIn wsX1_isTableSound wsX1_smallestOf := goodIn_r _ [5, 6, 7, 8, 9, 4, 10, 11, 12, 13, 34, 35] (by decide +kernel) (by decide +kernel)
set_option maxRecDepth 20000 in
theorem gX1_isTableSound_X1_smallestOf : GoodIn wsX1_isTableSound (wsV RX1 55 RX1 yX1_smallestOf wsX1_smallestOf) := goodIn_app (goodIn_of _ (by decide +kernel)) ggX1_isTableSound_X1_smallestOf
set_option maxRecDepth 20000 in
theorem ggX1_isTableSound_X1_why : GoodIn wsX1_isTableSound wsX1_why := goodIn_r _ [17, 18, 19, 4, 20, 21, 22, 23, 24, 25, 26, 27, 28, 29, 11, 12, 13, 34, 35] (by decide +kernel) (by decide +kernel)
set_option maxRecDepth 20000 in
theorem gX1_isTableSound_X1_why : GoodIn wsX1_isTableSound (wsV RX1 51 RX1 yX1_why wsX1_why) := goodIn_app (goodIn_of _ (by decide +kernel)) ggX1_isTableSound_X1_why
set_option maxRecDepth 20000 in
theorem ggX1_isTableSound_X1_nextOf : GoodIn wsX1_isTableSound wsX1_nextOf := goodIn_r _ [33, 14, 15, 16, 4, 17, 18, 19, 20, 21, 22, 23, 24, 25, 26, 27, 28, 29, 11, 12, 13, 34, 35] (by decide +kernel) (by decide +kernel)
set_option maxRecDepth 20000 in
theorem gX1_isTableSound_X1_nextOf : GoodIn wsX1_isTableSound (wsV RX1 58 RX1 yX1_nextOf wsX1_nextOf) := goodIn_app (goodIn_of _ (by decide +kernel)) ggX1_isTableSound_X1_nextOf
theorem dX1_isTableSound_0 : decode cX1_isTableSound 0 = .ok (.iconst 2, 1) := by decide +kernel
theorem dX1_isTableSound_1 : decode cX1_isTableSound 1 = .ok (.istore_n 1, 1) := by decide +kernel
theorem dX1_isTableSound_2 : decode cX1_isTableSound 2 = .ok (.iload_n 1, 1) := by decide +kernel
theorem dX1_isTableSound_3 : decode cX1_isTableSound 3 = .ok (.iconst 5, 1) := by decide +kernel
theorem dX1_isTableSound_4 : decode cX1_isTableSound 4 = .ok (.if_icmp .gt 69, 3) := by decide +kernel
theorem dX1_isTableSound_7 : decode cX1_isTableSound 7 = .ok (.iconst 3, 1) := by decide +kernel
theorem dX1_isTableSound_8 : decode cX1_isTableSound 8 = .ok (.istore_n 2, 1) := by decide +kernel
theorem dX1_isTableSound_9 : decode cX1_isTableSound 9 = .ok (.iload_n 2, 1) := by decide +kernel
theorem dX1_isTableSound_10 : decode cX1_isTableSound 10 = .ok (.bipush 8, 2) := by decide +kernel
theorem dX1_isTableSound_12 : decode cX1_isTableSound 12 = .ok (.if_icmp .gt 55, 3) := by decide +kernel
theorem dX1_isTableSound_15 : decode cX1_isTableSound 15 = .ok (.aload_n 0, 1) := by decide +kernel
theorem dX1_isTableSound_16 : decode cX1_isTableSound 16 = .ok (.iload_n 1, 1) := by decide +kernel
theorem dX1_isTableSound_17 : decode cX1_isTableSound 17 = .ok (.iload_n 2, 1) := by decide +kernel
theorem dX1_isTableSound_18 : decode cX1_isTableSound 18 = .ok (.invokevirtual 55, 3) := by decide +kernel
theorem dX1_isTableSound_21 : decode cX1_isTableSound 21 = .ok (.istore_n 3, 1) := by decide +kernel
theorem dX1_isTableSound_22 : decode cX1_isTableSound 22 = .ok (.iload_n 3, 1) := by decide +kernel
theorem dX1_isTableSound_23 : decode cX1_isTableSound 23 = .ok (.iconst (-1), 1) := by decide +kernel
theorem dX1_isTableSound_24 : decode cX1_isTableSound 24 = .ok (.if_icmp .eq 7, 3) := by decide +kernel
theorem dX1_isTableSound_27 : decode cX1_isTableSound 27 = .ok (.iconst 1, 1) := by decide +kernel
theorem dX1_isTableSound_28 : decode cX1_isTableSound 28 = .ok (.goto 4, 3) := by decide +kernel
theorem dX1_isTableSound_31 : decode cX1_isTableSound 31 = .ok (.iconst 0, 1) := by decide +kernel
theorem dX1_isTableSound_32 : decode cX1_isTableSound 32 = .ok (.istore 4, 2) := by decide +kernel
theorem dX1_isTableSound_34 : decode cX1_isTableSound 34 = .ok (.iload 4, 2) := by decide +kernel
theorem dX1_isTableSound_36 : decode cX1_isTableSound 36 = .ok (.ifCond .eq 25, 3) := by decide +kernel
theorem dX1_isTableSound_39 : decode cX1_isTableSound 39 = .ok (.aload_n 0, 1) := by decide +kernel
theorem dX1_isTableSound_40 : decode cX1_isTableSound 40 = .ok (.iload_n 3, 1) := by decide +kernel
theorem dX1_isTableSound_41 : decode cX1_isTableSound 41 = .ok (.iload_n 1, 1) := by decide +kernel
theorem dX1_isTableSound_42 : decode cX1_isTableSound 42 = .ok (.iload_n 2, 1) := by decide +kernel
theorem dX1_isTableSound_43 : decode cX1_isTableSound 43 = .ok (.invokevirtual 51, 3) := by decide +kernel
theorem dX1_isTableSound_46 : decode cX1_isTableSound 46 = .ok (.ifCond .ne 13, 3) := by decide +kernel
theorem dX1_isTableSound_49 : decode cX1_isTableSound 49 = .ok (.iload_n 3, 1) := by decide +kernel
theorem dX1_isTableSound_50 : decode cX1_isTableSound 50 = .ok (.aload_n 0, 1) := by decide +kernel
theorem dX1_isTableSound_51 : decode cX1_isTableSound 51 = .ok (.iload_n 1, 1) := by decide +kernel
theorem dX1_isTableSound_52 : decode cX1_isTableSound 52 = .ok (.iload_n 2, 1) := by decide +kernel
theorem dX1_isTableSound_53 : decode cX1_isTableSound 53 = .ok (.invokevirtual 58, 3) := by decide +kernel
theorem dX1_isTableSound_56 : decode cX1_isTableSound 56 = .ok (.if_icmp .ge 5, 3) := by decide +kernel
theorem dX1_isTableSound_59 : decode cX1_isTableSound 59 = .ok (.iconst 0, 1) := by decide +kernel
theorem dX1_isTableSound_60 : decode cX1_isTableSound 60 = .ok (.ireturn, 1) := by decide +kernel
theorem dX1_isTableSound_61 : decode cX1_isTableSound 61 = .ok (.iinc 2 1, 3) := by decide +kernel
theorem dX1_isTableSound_64 : decode cX1_isTableSound 64 = .ok (.goto (-55), 3) := by decide +kernel
theorem dX1_isTableSound_67 : decode cX1_isTableSound 67 = .ok (.iinc 1 1, 3) := by decide +kernel
theorem dX1_isTableSound_70 : decode cX1_isTableSound 70 = .ok (.goto (-68), 3) := by decide +kernel
theorem dX1_isTableSound_73 : decode cX1_isTableSound 73 = .ok (.iconst 1, 1) := by decide +kernel
theorem dX1_isTableSound_74 : decode cX1_isTableSound 74 = .ok (.ireturn, 1) := by decide +kernel
set_option maxRecDepth 20000 in
theorem ggX2_init_X3_init : GoodIn wsX2_init wsX3_init := goodIn_r _ [13, 14, 2, 3, 9, 15, 16, 17, 18] (by decide +kernel) (by decide +kernel)
set_option maxRecDepth 20000 in
theorem gX2_init_X3_init_n11 : GoodIn wsX2_init (wsX3_init) := ggX2_init_X3_init
theorem dX2_init_0 : decode cX2_init 0 = .ok (.aload_n 0, 1) := by decide +kernel
theorem dX2_init_1 : decode cX2_init 1 = .ok (.invokespecial 3, 3) := by decide +kernel
theorem dX2_init_4 : decode cX2_init 4 = .ok (.aload_n 0, 1) := by decide +kernel
theorem dX2_init_5 : decode cX2_init 5 = .ok (.new 9, 3) := by decide +kernel
theorem dX2_init_8 : decode cX2_init 8 = .ok (.dup, 1) := by decide +kernel
theorem dX2_init_9 : decode cX2_init 9 = .ok (.invokespecial 11, 3) := by decide +kernel
theorem dX2_init_12 : decode cX2_init 12 = .ok (.putfield 12, 3) := by decide +kernel
theorem dX2_init_15 : decode cX2_init 15 = .ok (.aload_n 0, 1) := by decide +kernel
theorem dX2_init_16 : decode cX2_init 16 = .ok (.new 9, 3) := by decide +kernel
theorem dX2_init_19 : decode cX2_init 19 = .ok (.dup, 1) := by decide +kernel
theorem dX2_init_20 : decode cX2_init 20 = .ok (.invokespecial 11, 3) := by decide +kernel
theorem dX2_init_23 : decode cX2_init 23 = .ok (.putfield 18, 3) := by decide +kernel
theorem dX2_init_26 : decode cX2_init 26 = .ok (.aload_n 0, 1) := by decide +kernel
theorem dX2_init_27 : decode cX2_init 27 = .ok (.bipush 16, 2) := by decide +kernel
theorem dX2_init_29 : decode cX2_init 29 = .ok (.newarray .int, 2) := by decide +kernel
theorem dX2_init_31 : decode cX2_init 31 = .ok (.putfield 21, 3) := by decide +kernel
theorem dX2_init_34 : decode cX2_init 34 = .ok (.aload_n 0, 1) := by decide +kernel
theorem dX2_init_35 : decode cX2_init 35 = .ok (.iconst 0, 1) := by decide +kernel
theorem dX2_init_36 : decode cX2_init 36 = .ok (.putfield 25, 3) := by decide +kernel
theorem dX2_init_39 : decode cX2_init 39 = .ok (.return_, 1) := by decide +kernel
set_option maxRecDepth 20000 in
theorem ggX2_turnsOf_X3_take : GoodIn wsX2_turnsOf wsX3_take := goodIn_r _ [10, 11, 12, 13, 14, 15, 8, 16, 65, 66] (by decide +kernel) (by decide +kernel)
set_option maxRecDepth 20000 in
theorem gX2_turnsOf_X3_take_n32 : GoodIn wsX2_turnsOf (wsX3_take) := ggX2_turnsOf_X3_take
set_option maxRecDepth 20000 in
theorem ggX2_turnsOf_X6_holds : GoodIn wsX2_turnsOf wsX6_holds := goodIn_r _ [19] (by decide +kernel) (by decide +kernel)
set_option maxRecDepth 20000 in
theorem gX2_turnsOf_X6_holds_n36 : GoodIn wsX2_turnsOf (wsX6_holds) := ggX2_turnsOf_X6_holds
set_option maxRecDepth 20000 in
theorem ggX2_turnsOf_X5_partWith : GoodIn wsX2_turnsOf wsX5_partWith := goodIn_r _ [22, 23, 24, 21, 25, 26, 18, 27, 28, 29, 30, 31, 32, 33, 34, 35, 36, 37, 14, 8, 15, 16, 12, 65, 66] (by decide +kernel) (by decide +kernel)
set_option maxRecDepth 20000 in
theorem gX2_turnsOf_X5_partWith_n40 : GoodIn wsX2_turnsOf (wsX5_partWith) := ggX2_turnsOf_X5_partWith
set_option maxRecDepth 20000 in
theorem ggX2_turnsOf_X2_partsLike : GoodIn wsX2_turnsOf wsX2_partsLike := goodIn_r _ [42, 2, 17, 18, 19, 20, 21, 22, 23, 24, 25, 26, 27, 28, 29, 30, 31, 32, 33, 34, 35, 36, 37, 14, 8, 15, 16, 12, 43, 44, 45, 41, 46, 47, 48, 49, 50, 51, 52, 53, 54, 55, 1, 56, 57, 58, 59, 60, 61, 62, 63, 64, 67, 68, 69, 70, 65, 66] (by decide +kernel) (by decide +kernel)
set_option maxRecDepth 20000 in
theorem gX2_turnsOf_X2_partsLike : GoodIn wsX2_turnsOf (wsV RX2 46 RX2 yX2_partsLike wsX2_partsLike) := goodIn_app (goodIn_of _ (by decide +kernel)) ggX2_turnsOf_X2_partsLike
set_option maxRecDepth 20000 in
theorem ggX2_turnsOf_X2_waysOf : GoodIn wsX2_turnsOf wsX2_waysOf := goodIn_r _ [46, 47, 48, 32, 33, 34, 35, 36, 37, 49, 50, 41, 51, 2, 52, 53, 54, 55, 1, 14, 8, 15, 16, 12, 17, 18, 19, 56, 57, 58, 59, 60, 26, 27, 61, 62, 63, 64, 67, 68, 69, 70, 65, 66] (by decide +kernel) (by decide +kernel)
set_option maxRecDepth 20000 in
theorem gX2_turnsOf_X2_waysOf : GoodIn wsX2_turnsOf (wsV RX2 55 RX2 yX2_waysOf wsX2_waysOf) := goodIn_app (goodIn_of _ (by decide +kernel)) ggX2_turnsOf_X2_waysOf
theorem dX2_turnsOf_0 : decode cX2_turnsOf 0 = .ok (.aload_n 1, 1) := by decide +kernel
theorem dX2_turnsOf_1 : decode cX2_turnsOf 1 = .ok (.getfield 29, 3) := by decide +kernel
theorem dX2_turnsOf_4 : decode cX2_turnsOf 4 = .ok (.ifCond .ne 5, 3) := by decide +kernel
theorem dX2_turnsOf_7 : decode cX2_turnsOf 7 = .ok (.iconst 0, 1) := by decide +kernel
theorem dX2_turnsOf_8 : decode cX2_turnsOf 8 = .ok (.ireturn, 1) := by decide +kernel
theorem dX2_turnsOf_9 : decode cX2_turnsOf 9 = .ok (.aload_n 0, 1) := by decide +kernel
theorem dX2_turnsOf_10 : decode cX2_turnsOf 10 = .ok (.getfield 12, 3) := by decide +kernel
theorem dX2_turnsOf_13 : decode cX2_turnsOf 13 = .ok (.aload_n 1, 1) := by decide +kernel
theorem dX2_turnsOf_14 : decode cX2_turnsOf 14 = .ok (.invokevirtual 32, 3) := by decide +kernel
theorem dX2_turnsOf_17 : decode cX2_turnsOf 17 = .ok (.aload_n 0, 1) := by decide +kernel
theorem dX2_turnsOf_18 : decode cX2_turnsOf 18 = .ok (.getfield 18, 3) := by decide +kernel
theorem dX2_turnsOf_21 : decode cX2_turnsOf 21 = .ok (.aload_n 1, 1) := by decide +kernel
theorem dX2_turnsOf_22 : decode cX2_turnsOf 22 = .ok (.invokevirtual 32, 3) := by decide +kernel
theorem dX2_turnsOf_25 : decode cX2_turnsOf 25 = .ok (.iconst 1, 1) := by decide +kernel
theorem dX2_turnsOf_26 : decode cX2_turnsOf 26 = .ok (.istore_n 2, 1) := by decide +kernel
theorem dX2_turnsOf_27 : decode cX2_turnsOf 27 = .ok (.iconst 0, 1) := by decide +kernel
theorem dX2_turnsOf_28 : decode cX2_turnsOf 28 = .ok (.istore_n 3, 1) := by decide +kernel
theorem dX2_turnsOf_29 : decode cX2_turnsOf 29 = .ok (.iconst 0, 1) := by decide +kernel
theorem dX2_turnsOf_30 : decode cX2_turnsOf 30 = .ok (.istore 4, 2) := by decide +kernel
theorem dX2_turnsOf_32 : decode cX2_turnsOf 32 = .ok (.iload 4, 2) := by decide +kernel
theorem dX2_turnsOf_34 : decode cX2_turnsOf 34 = .ok (.aload_n 0, 1) := by decide +kernel
theorem dX2_turnsOf_35 : decode cX2_turnsOf 35 = .ok (.getfield 12, 3) := by decide +kernel
theorem dX2_turnsOf_38 : decode cX2_turnsOf 38 = .ok (.getfield 29, 3) := by decide +kernel
theorem dX2_turnsOf_41 : decode cX2_turnsOf 41 = .ok (.if_icmp .ge 76, 3) := by decide +kernel
theorem dX2_turnsOf_44 : decode cX2_turnsOf 44 = .ok (.iload_n 3, 1) := by decide +kernel
theorem dX2_turnsOf_45 : decode cX2_turnsOf 45 = .ok (.iload 4, 2) := by decide +kernel
theorem dX2_turnsOf_47 : decode cX2_turnsOf 47 = .ok (.invokestatic 36, 3) := by decide +kernel
theorem dX2_turnsOf_50 : decode cX2_turnsOf 50 = .ok (.ifCond .ne 61, 3) := by decide +kernel
theorem dX2_turnsOf_53 : decode cX2_turnsOf 53 = .ok (.aload_n 0, 1) := by decide +kernel
theorem dX2_turnsOf_54 : decode cX2_turnsOf 54 = .ok (.getfield 12, 3) := by decide +kernel
theorem dX2_turnsOf_57 : decode cX2_turnsOf 57 = .ok (.iload 4, 2) := by decide +kernel
theorem dX2_turnsOf_59 : decode cX2_turnsOf 59 = .ok (.invokestatic 40, 3) := by decide +kernel
theorem dX2_turnsOf_62 : decode cX2_turnsOf 62 = .ok (.istore 5, 2) := by decide +kernel
theorem dX2_turnsOf_64 : decode cX2_turnsOf 64 = .ok (.iconst 1, 1) := by decide +kernel
theorem dX2_turnsOf_65 : decode cX2_turnsOf 65 = .ok (.aload_n 0, 1) := by decide +kernel
theorem dX2_turnsOf_66 : decode cX2_turnsOf 66 = .ok (.iload 5, 2) := by decide +kernel
theorem dX2_turnsOf_68 : decode cX2_turnsOf 68 = .ok (.iload_n 3, 1) := by decide +kernel
theorem dX2_turnsOf_69 : decode cX2_turnsOf 69 = .ok (.invokevirtual 46, 3) := by decide +kernel
theorem dX2_turnsOf_72 : decode cX2_turnsOf 72 = .ok (.iadd, 1) := by decide +kernel
theorem dX2_turnsOf_73 : decode cX2_turnsOf 73 = .ok (.istore 6, 2) := by decide +kernel
theorem dX2_turnsOf_75 : decode cX2_turnsOf 75 = .ok (.sipush 1000, 3) := by decide +kernel
theorem dX2_turnsOf_78 : decode cX2_turnsOf 78 = .ok (.iload_n 2, 1) := by decide +kernel
theorem dX2_turnsOf_79 : decode cX2_turnsOf 79 = .ok (.iload 6, 2) := by decide +kernel
theorem dX2_turnsOf_81 : decode cX2_turnsOf 81 = .ok (.imul, 1) := by decide +kernel
theorem dX2_turnsOf_82 : decode cX2_turnsOf 82 = .ok (.invokestatic 50, 3) := by decide +kernel
theorem dX2_turnsOf_85 : decode cX2_turnsOf 85 = .ok (.istore_n 2, 1) := by decide +kernel
theorem dX2_turnsOf_86 : decode cX2_turnsOf 86 = .ok (.sipush 1000, 3) := by decide +kernel
theorem dX2_turnsOf_89 : decode cX2_turnsOf 89 = .ok (.iload_n 2, 1) := by decide +kernel
theorem dX2_turnsOf_90 : decode cX2_turnsOf 90 = .ok (.aload_n 0, 1) := by decide +kernel
theorem dX2_turnsOf_91 : decode cX2_turnsOf 91 = .ok (.iload 5, 2) := by decide +kernel
theorem dX2_turnsOf_93 : decode cX2_turnsOf 93 = .ok (.iload 5, 2) := by decide +kernel
theorem dX2_turnsOf_95 : decode cX2_turnsOf 95 = .ok (.sipush 1000, 3) := by decide +kernel
theorem dX2_turnsOf_98 : decode cX2_turnsOf 98 = .ok (.invokevirtual 55, 3) := by decide +kernel
theorem dX2_turnsOf_101 : decode cX2_turnsOf 101 = .ok (.imul, 1) := by decide +kernel
theorem dX2_turnsOf_102 : decode cX2_turnsOf 102 = .ok (.invokestatic 50, 3) := by decide +kernel
theorem dX2_turnsOf_105 : decode cX2_turnsOf 105 = .ok (.istore_n 2, 1) := by decide +kernel
theorem dX2_turnsOf_106 : decode cX2_turnsOf 106 = .ok (.iload_n 3, 1) := by decide +kernel
theorem dX2_turnsOf_107 : decode cX2_turnsOf 107 = .ok (.iload 5, 2) := by decide +kernel
theorem dX2_turnsOf_109 : decode cX2_turnsOf 109 = .ok (.ior, 1) := by decide +kernel
theorem dX2_turnsOf_110 : decode cX2_turnsOf 110 = .ok (.istore_n 3, 1) := by decide +kernel
theorem dX2_turnsOf_111 : decode cX2_turnsOf 111 = .ok (.iinc 4 1, 3) := by decide +kernel
theorem dX2_turnsOf_114 : decode cX2_turnsOf 114 = .ok (.goto (-82), 3) := by decide +kernel
theorem dX2_turnsOf_117 : decode cX2_turnsOf 117 = .ok (.iload_n 2, 1) := by decide +kernel
theorem dX2_turnsOf_118 : decode cX2_turnsOf 118 = .ok (.ireturn, 1) := by decide +kernel
set_option maxRecDepth 20000 in
theorem ggX2_partsLike_X6_holds : GoodIn wsX2_partsLike wsX6_holds := goodIn_r _ [4] (by decide +kernel) (by decide +kernel)
set_option maxRecDepth 20000 in
theorem gX2_partsLike_X6_holds_n36 : GoodIn wsX2_partsLike (wsX6_holds) := ggX2_partsLike_X6_holds
set_option maxRecDepth 20000 in
theorem ggX2_partsLike_X5_partWith : GoodIn wsX2_partsLike wsX5_partWith := goodIn_r _ [7, 8, 9, 6, 10, 11, 3, 12, 13, 14, 15, 16, 17, 18, 19, 20, 21, 22, 23, 24, 25, 26, 27, 56, 57] (by decide +kernel) (by decide +kernel)
set_option maxRecDepth 20000 in
theorem gX2_partsLike_X5_partWith_n40 : GoodIn wsX2_partsLike (wsX5_partWith) := ggX2_partsLike_X5_partWith
set_option maxRecDepth 20000 in
theorem ggX2_partsLike_X2_waysOf : GoodIn wsX2_partsLike wsX2_waysOf := goodIn_r _ [32, 33, 34, 17, 18, 19, 20, 21, 22, 35, 36, 31, 37, 1, 38, 39, 40, 41, 42, 23, 24, 25, 26, 27, 2, 3, 4, 43, 44, 45, 46, 47, 11, 12, 48, 49, 50, 51, 52, 53, 54, 55, 56, 57] (by decide +kernel) (by decide +kernel)
set_option maxRecDepth 20000 in
theorem gX2_partsLike_X2_waysOf : GoodIn wsX2_partsLike (wsV RX2 55 RX2 yX2_waysOf wsX2_waysOf) := goodIn_app (goodIn_of _ (by decide +kernel)) ggX2_partsLike_X2_waysOf
theorem dX2_partsLike_0 : decode cX2_partsLike 0 = .ok (.iconst 0, 1) := by decide +kernel
theorem dX2_partsLike_1 : decode cX2_partsLike 1 = .ok (.istore_n 3, 1) := by decide +kernel
theorem dX2_partsLike_2 : decode cX2_partsLike 2 = .ok (.iload_n 2, 1) := by decide +kernel
theorem dX2_partsLike_3 : decode cX2_partsLike 3 = .ok (.istore 4, 2) := by decide +kernel
theorem dX2_partsLike_5 : decode cX2_partsLike 5 = .ok (.iconst 0, 1) := by decide +kernel
theorem dX2_partsLike_6 : decode cX2_partsLike 6 = .ok (.istore 5, 2) := by decide +kernel
theorem dX2_partsLike_8 : decode cX2_partsLike 8 = .ok (.iload 5, 2) := by decide +kernel
theorem dX2_partsLike_10 : decode cX2_partsLike 10 = .ok (.aload_n 0, 1) := by decide +kernel
theorem dX2_partsLike_11 : decode cX2_partsLike 11 = .ok (.getfield 18, 3) := by decide +kernel
theorem dX2_partsLike_14 : decode cX2_partsLike 14 = .ok (.getfield 29, 3) := by decide +kernel
theorem dX2_partsLike_17 : decode cX2_partsLike 17 = .ok (.if_icmp .ge 50, 3) := by decide +kernel
theorem dX2_partsLike_20 : decode cX2_partsLike 20 = .ok (.iload 4, 2) := by decide +kernel
theorem dX2_partsLike_22 : decode cX2_partsLike 22 = .ok (.iload 5, 2) := by decide +kernel
theorem dX2_partsLike_24 : decode cX2_partsLike 24 = .ok (.invokestatic 36, 3) := by decide +kernel
theorem dX2_partsLike_27 : decode cX2_partsLike 27 = .ok (.ifCond .eq 34, 3) := by decide +kernel
theorem dX2_partsLike_30 : decode cX2_partsLike 30 = .ok (.aload_n 0, 1) := by decide +kernel
theorem dX2_partsLike_31 : decode cX2_partsLike 31 = .ok (.getfield 18, 3) := by decide +kernel
theorem dX2_partsLike_34 : decode cX2_partsLike 34 = .ok (.iload 5, 2) := by decide +kernel
theorem dX2_partsLike_36 : decode cX2_partsLike 36 = .ok (.invokestatic 40, 3) := by decide +kernel
theorem dX2_partsLike_39 : decode cX2_partsLike 39 = .ok (.istore 6, 2) := by decide +kernel
theorem dX2_partsLike_41 : decode cX2_partsLike 41 = .ok (.iload_n 3, 1) := by decide +kernel
theorem dX2_partsLike_42 : decode cX2_partsLike 42 = .ok (.aload_n 0, 1) := by decide +kernel
theorem dX2_partsLike_43 : decode cX2_partsLike 43 = .ok (.iload_n 1, 1) := by decide +kernel
theorem dX2_partsLike_44 : decode cX2_partsLike 44 = .ok (.iload 6, 2) := by decide +kernel
theorem dX2_partsLike_46 : decode cX2_partsLike 46 = .ok (.iconst 1, 1) := by decide +kernel
theorem dX2_partsLike_47 : decode cX2_partsLike 47 = .ok (.invokevirtual 55, 3) := by decide +kernel
theorem dX2_partsLike_50 : decode cX2_partsLike 50 = .ok (.iadd, 1) := by decide +kernel
theorem dX2_partsLike_51 : decode cX2_partsLike 51 = .ok (.istore_n 3, 1) := by decide +kernel
theorem dX2_partsLike_52 : decode cX2_partsLike 52 = .ok (.iload 4, 2) := by decide +kernel
theorem dX2_partsLike_54 : decode cX2_partsLike 54 = .ok (.iload 6, 2) := by decide +kernel
theorem dX2_partsLike_56 : decode cX2_partsLike 56 = .ok (.iconst (-1), 1) := by decide +kernel
theorem dX2_partsLike_57 : decode cX2_partsLike 57 = .ok (.ixor, 1) := by decide +kernel
theorem dX2_partsLike_58 : decode cX2_partsLike 58 = .ok (.iand, 1) := by decide +kernel
theorem dX2_partsLike_59 : decode cX2_partsLike 59 = .ok (.istore 4, 2) := by decide +kernel
theorem dX2_partsLike_61 : decode cX2_partsLike 61 = .ok (.iinc 5 1, 3) := by decide +kernel
theorem dX2_partsLike_64 : decode cX2_partsLike 64 = .ok (.goto (-56), 3) := by decide +kernel
theorem dX2_partsLike_67 : decode cX2_partsLike 67 = .ok (.iload_n 3, 1) := by decide +kernel
theorem dX2_partsLike_68 : decode cX2_partsLike 68 = .ok (.ireturn, 1) := by decide +kernel
set_option maxRecDepth 20000 in
theorem ggX2_areAlike_X3_edgesInAll : GoodIn wsX2_areAlike wsX3_edgesInAll := goodIn_r _ [6, 7, 8, 9, 10, 4, 11, 12, 13, 14, 15, 16, 17, 18, 19, 20, 21, 22, 23, 69, 70] (by decide +kernel) (by decide +kernel)
set_option maxRecDepth 20000 in
theorem gX2_areAlike_X3_edgesInAll_n59 : GoodIn wsX2_areAlike (wsX3_edgesInAll) := ggX2_areAlike_X3_edgesInAll
set_option maxRecDepth 20000 in
theorem ggX2_areAlike_X3_take : GoodIn wsX2_areAlike wsX3_take := goodIn_r _ [26, 7, 16, 12, 13, 14, 4, 15, 69, 70] (by decide +kernel) (by decide +kernel)
set_option maxRecDepth 20000 in
theorem gX2_areAlike_X3_take_n32 : GoodIn wsX2_areAlike (wsX3_take) := ggX2_areAlike_X3_take
set_option maxRecDepth 20000 in
theorem ggX2_areAlike_X6_bit : GoodIn wsX2_areAlike wsX6_bit := goodIn_r _ [29] (by decide +kernel) (by decide +kernel)
set_option maxRecDepth 20000 in
theorem gX2_areAlike_X6_bit_n63 : GoodIn wsX2_areAlike (wsX6_bit) := ggX2_areAlike_X6_bit
set_option maxRecDepth 20000 in
theorem ggX2_areAlike_X6_holds : GoodIn wsX2_areAlike wsX6_holds := goodIn_r _ [31] (by decide +kernel) (by decide +kernel)
set_option maxRecDepth 20000 in
theorem gX2_areAlike_X6_holds_n36 : GoodIn wsX2_areAlike (wsX6_holds) := ggX2_areAlike_X6_holds
set_option maxRecDepth 20000 in
theorem ggX2_areAlike_X5_partWith : GoodIn wsX2_areAlike wsX5_partWith := goodIn_r _ [34, 35, 36, 33, 37, 27, 28, 29, 38, 39, 40, 41, 18, 19, 20, 21, 22, 23, 13, 4, 14, 15, 16, 69, 70] (by decide +kernel) (by decide +kernel)
set_option maxRecDepth 20000 in
theorem gX2_areAlike_X5_partWith_n40 : GoodIn wsX2_areAlike (wsX5_partWith) := ggX2_areAlike_X5_partWith
set_option maxRecDepth 20000 in
theorem ggX2_areAlike_X2_partMatching : GoodIn wsX2_areAlike wsX2_partMatching := goodIn_r _ [46, 2, 30, 28, 31, 32, 33, 34, 35, 36, 37, 27, 29, 38, 39, 40, 41, 18, 19, 20, 21, 22, 23, 13, 4, 14, 15, 16, 47, 48, 49, 45, 50, 51, 52, 53, 54, 55, 56, 57, 58, 59, 1, 60, 61, 62, 63, 64, 65, 66, 67, 68, 71, 72, 73, 74, 69, 70] (by decide +kernel) (by decide +kernel)
set_option maxRecDepth 20000 in
theorem gX2_areAlike_X2_partMatching : GoodIn wsX2_areAlike (wsV RX2 67 RX2 yX2_partMatching wsX2_partMatching) := goodIn_app (goodIn_of _ (by decide +kernel)) ggX2_areAlike_X2_partMatching
theorem dX2_areAlike_0 : decode cX2_areAlike 0 = .ok (.aload_n 1, 1) := by decide +kernel
theorem dX2_areAlike_1 : decode cX2_areAlike 1 = .ok (.getfield 29, 3) := by decide +kernel
theorem dX2_areAlike_4 : decode cX2_areAlike 4 = .ok (.aload_n 2, 1) := by decide +kernel
theorem dX2_areAlike_5 : decode cX2_areAlike 5 = .ok (.getfield 29, 3) := by decide +kernel
theorem dX2_areAlike_8 : decode cX2_areAlike 8 = .ok (.if_icmp .ne 14, 3) := by decide +kernel
theorem dX2_areAlike_11 : decode cX2_areAlike 11 = .ok (.aload_n 1, 1) := by decide +kernel
theorem dX2_areAlike_12 : decode cX2_areAlike 12 = .ok (.invokevirtual 59, 3) := by decide +kernel
theorem dX2_areAlike_15 : decode cX2_areAlike 15 = .ok (.aload_n 2, 1) := by decide +kernel
theorem dX2_areAlike_16 : decode cX2_areAlike 16 = .ok (.invokevirtual 59, 3) := by decide +kernel
theorem dX2_areAlike_19 : decode cX2_areAlike 19 = .ok (.if_icmp .eq 5, 3) := by decide +kernel
theorem dX2_areAlike_22 : decode cX2_areAlike 22 = .ok (.iconst 0, 1) := by decide +kernel
theorem dX2_areAlike_23 : decode cX2_areAlike 23 = .ok (.ireturn, 1) := by decide +kernel
theorem dX2_areAlike_24 : decode cX2_areAlike 24 = .ok (.aload_n 0, 1) := by decide +kernel
theorem dX2_areAlike_25 : decode cX2_areAlike 25 = .ok (.getfield 12, 3) := by decide +kernel
theorem dX2_areAlike_28 : decode cX2_areAlike 28 = .ok (.aload_n 1, 1) := by decide +kernel
theorem dX2_areAlike_29 : decode cX2_areAlike 29 = .ok (.invokevirtual 32, 3) := by decide +kernel
theorem dX2_areAlike_32 : decode cX2_areAlike 32 = .ok (.aload_n 0, 1) := by decide +kernel
theorem dX2_areAlike_33 : decode cX2_areAlike 33 = .ok (.getfield 18, 3) := by decide +kernel
theorem dX2_areAlike_36 : decode cX2_areAlike 36 = .ok (.aload_n 2, 1) := by decide +kernel
theorem dX2_areAlike_37 : decode cX2_areAlike 37 = .ok (.invokevirtual 32, 3) := by decide +kernel
theorem dX2_areAlike_40 : decode cX2_areAlike 40 = .ok (.iconst 0, 1) := by decide +kernel
theorem dX2_areAlike_41 : decode cX2_areAlike 41 = .ok (.istore_n 3, 1) := by decide +kernel
theorem dX2_areAlike_42 : decode cX2_areAlike 42 = .ok (.aload_n 0, 1) := by decide +kernel
theorem dX2_areAlike_43 : decode cX2_areAlike 43 = .ok (.getfield 18, 3) := by decide +kernel
theorem dX2_areAlike_46 : decode cX2_areAlike 46 = .ok (.getfield 29, 3) := by decide +kernel
theorem dX2_areAlike_49 : decode cX2_areAlike 49 = .ok (.invokestatic 63, 3) := by decide +kernel
theorem dX2_areAlike_52 : decode cX2_areAlike 52 = .ok (.iconst 1, 1) := by decide +kernel
theorem dX2_areAlike_53 : decode cX2_areAlike 53 = .ok (.isub, 1) := by decide +kernel
theorem dX2_areAlike_54 : decode cX2_areAlike 54 = .ok (.istore 4, 2) := by decide +kernel
theorem dX2_areAlike_56 : decode cX2_areAlike 56 = .ok (.iconst 0, 1) := by decide +kernel
theorem dX2_areAlike_57 : decode cX2_areAlike 57 = .ok (.istore 5, 2) := by decide +kernel
theorem dX2_areAlike_59 : decode cX2_areAlike 59 = .ok (.iload 5, 2) := by decide +kernel
theorem dX2_areAlike_61 : decode cX2_areAlike 61 = .ok (.aload_n 0, 1) := by decide +kernel
theorem dX2_areAlike_62 : decode cX2_areAlike 62 = .ok (.getfield 12, 3) := by decide +kernel
theorem dX2_areAlike_65 : decode cX2_areAlike 65 = .ok (.getfield 29, 3) := by decide +kernel
theorem dX2_areAlike_68 : decode cX2_areAlike 68 = .ok (.if_icmp .ge 60, 3) := by decide +kernel
theorem dX2_areAlike_71 : decode cX2_areAlike 71 = .ok (.iload_n 3, 1) := by decide +kernel
theorem dX2_areAlike_72 : decode cX2_areAlike 72 = .ok (.iload 5, 2) := by decide +kernel
theorem dX2_areAlike_74 : decode cX2_areAlike 74 = .ok (.invokestatic 36, 3) := by decide +kernel
theorem dX2_areAlike_77 : decode cX2_areAlike 77 = .ok (.ifCond .ne 45, 3) := by decide +kernel
theorem dX2_areAlike_80 : decode cX2_areAlike 80 = .ok (.aload_n 0, 1) := by decide +kernel
theorem dX2_areAlike_81 : decode cX2_areAlike 81 = .ok (.getfield 12, 3) := by decide +kernel
theorem dX2_areAlike_84 : decode cX2_areAlike 84 = .ok (.iload 5, 2) := by decide +kernel
theorem dX2_areAlike_86 : decode cX2_areAlike 86 = .ok (.invokestatic 40, 3) := by decide +kernel
theorem dX2_areAlike_89 : decode cX2_areAlike 89 = .ok (.istore 6, 2) := by decide +kernel
theorem dX2_areAlike_91 : decode cX2_areAlike 91 = .ok (.aload_n 0, 1) := by decide +kernel
theorem dX2_areAlike_92 : decode cX2_areAlike 92 = .ok (.iload 6, 2) := by decide +kernel
theorem dX2_areAlike_94 : decode cX2_areAlike 94 = .ok (.iload 4, 2) := by decide +kernel
theorem dX2_areAlike_96 : decode cX2_areAlike 96 = .ok (.invokevirtual 67, 3) := by decide +kernel
theorem dX2_areAlike_99 : decode cX2_areAlike 99 = .ok (.istore 7, 2) := by decide +kernel
theorem dX2_areAlike_101 : decode cX2_areAlike 101 = .ok (.iload 7, 2) := by decide +kernel
theorem dX2_areAlike_103 : decode cX2_areAlike 103 = .ok (.ifCond .ne 5, 3) := by decide +kernel
theorem dX2_areAlike_106 : decode cX2_areAlike 106 = .ok (.iconst 0, 1) := by decide +kernel
theorem dX2_areAlike_107 : decode cX2_areAlike 107 = .ok (.ireturn, 1) := by decide +kernel
theorem dX2_areAlike_108 : decode cX2_areAlike 108 = .ok (.iload_n 3, 1) := by decide +kernel
theorem dX2_areAlike_109 : decode cX2_areAlike 109 = .ok (.iload 6, 2) := by decide +kernel
theorem dX2_areAlike_111 : decode cX2_areAlike 111 = .ok (.ior, 1) := by decide +kernel
theorem dX2_areAlike_112 : decode cX2_areAlike 112 = .ok (.istore_n 3, 1) := by decide +kernel
theorem dX2_areAlike_113 : decode cX2_areAlike 113 = .ok (.iload 4, 2) := by decide +kernel
theorem dX2_areAlike_115 : decode cX2_areAlike 115 = .ok (.iload 7, 2) := by decide +kernel
theorem dX2_areAlike_117 : decode cX2_areAlike 117 = .ok (.iconst (-1), 1) := by decide +kernel
theorem dX2_areAlike_118 : decode cX2_areAlike 118 = .ok (.ixor, 1) := by decide +kernel
theorem dX2_areAlike_119 : decode cX2_areAlike 119 = .ok (.iand, 1) := by decide +kernel
theorem dX2_areAlike_120 : decode cX2_areAlike 120 = .ok (.istore 4, 2) := by decide +kernel
theorem dX2_areAlike_122 : decode cX2_areAlike 122 = .ok (.iinc 5 1, 3) := by decide +kernel
theorem dX2_areAlike_125 : decode cX2_areAlike 125 = .ok (.goto (-66), 3) := by decide +kernel
theorem dX2_areAlike_128 : decode cX2_areAlike 128 = .ok (.iload 4, 2) := by decide +kernel
theorem dX2_areAlike_130 : decode cX2_areAlike 130 = .ok (.ifCond .ne 7, 3) := by decide +kernel
theorem dX2_areAlike_133 : decode cX2_areAlike 133 = .ok (.iconst 1, 1) := by decide +kernel
theorem dX2_areAlike_134 : decode cX2_areAlike 134 = .ok (.goto 4, 3) := by decide +kernel
theorem dX2_areAlike_137 : decode cX2_areAlike 137 = .ok (.iconst 0, 1) := by decide +kernel
theorem dX2_areAlike_138 : decode cX2_areAlike 138 = .ok (.ireturn, 1) := by decide +kernel
set_option maxRecDepth 20000 in
theorem ggX2_partMatching_X6_holds : GoodIn wsX2_partMatching wsX6_holds := goodIn_r _ [4] (by decide +kernel) (by decide +kernel)
set_option maxRecDepth 20000 in
theorem gX2_partMatching_X6_holds_n36 : GoodIn wsX2_partMatching (wsX6_holds) := ggX2_partMatching_X6_holds
set_option maxRecDepth 20000 in
theorem ggX2_partMatching_X5_partWith : GoodIn wsX2_partMatching wsX5_partWith := goodIn_r _ [7, 8, 9, 6, 10, 11, 3, 12, 13, 14, 15, 16, 17, 18, 19, 20, 21, 22, 23, 24, 25, 26, 27, 56, 57] (by decide +kernel) (by decide +kernel)
set_option maxRecDepth 20000 in
theorem gX2_partMatching_X5_partWith_n40 : GoodIn wsX2_partMatching (wsX5_partWith) := ggX2_partMatching_X5_partWith
set_option maxRecDepth 20000 in
theorem ggX2_partMatching_X2_waysOf : GoodIn wsX2_partMatching wsX2_waysOf := goodIn_r _ [32, 33, 34, 17, 18, 19, 20, 21, 22, 35, 36, 31, 37, 1, 38, 39, 40, 41, 42, 23, 24, 25, 26, 27, 2, 3, 4, 43, 44, 45, 46, 47, 11, 12, 48, 49, 50, 51, 52, 53, 54, 55, 56, 57] (by decide +kernel) (by decide +kernel)
set_option maxRecDepth 20000 in
theorem gX2_partMatching_X2_waysOf : GoodIn wsX2_partMatching (wsV RX2 55 RX2 yX2_waysOf wsX2_waysOf) := goodIn_app (goodIn_of _ (by decide +kernel)) ggX2_partMatching_X2_waysOf
theorem dX2_partMatching_0 : decode cX2_partMatching 0 = .ok (.iload_n 2, 1) := by decide +kernel
theorem dX2_partMatching_1 : decode cX2_partMatching 1 = .ok (.istore_n 3, 1) := by decide +kernel
theorem dX2_partMatching_2 : decode cX2_partMatching 2 = .ok (.iconst 0, 1) := by decide +kernel
theorem dX2_partMatching_3 : decode cX2_partMatching 3 = .ok (.istore 4, 2) := by decide +kernel
theorem dX2_partMatching_5 : decode cX2_partMatching 5 = .ok (.iload 4, 2) := by decide +kernel
theorem dX2_partMatching_7 : decode cX2_partMatching 7 = .ok (.aload_n 0, 1) := by decide +kernel
theorem dX2_partMatching_8 : decode cX2_partMatching 8 = .ok (.getfield 18, 3) := by decide +kernel
theorem dX2_partMatching_11 : decode cX2_partMatching 11 = .ok (.getfield 29, 3) := by decide +kernel
theorem dX2_partMatching_14 : decode cX2_partMatching 14 = .ok (.if_icmp .ge 50, 3) := by decide +kernel
theorem dX2_partMatching_17 : decode cX2_partMatching 17 = .ok (.iload_n 3, 1) := by decide +kernel
theorem dX2_partMatching_18 : decode cX2_partMatching 18 = .ok (.iload 4, 2) := by decide +kernel
theorem dX2_partMatching_20 : decode cX2_partMatching 20 = .ok (.invokestatic 36, 3) := by decide +kernel
theorem dX2_partMatching_23 : decode cX2_partMatching 23 = .ok (.ifCond .eq 35, 3) := by decide +kernel
theorem dX2_partMatching_26 : decode cX2_partMatching 26 = .ok (.aload_n 0, 1) := by decide +kernel
theorem dX2_partMatching_27 : decode cX2_partMatching 27 = .ok (.getfield 18, 3) := by decide +kernel
theorem dX2_partMatching_30 : decode cX2_partMatching 30 = .ok (.iload 4, 2) := by decide +kernel
theorem dX2_partMatching_32 : decode cX2_partMatching 32 = .ok (.invokestatic 40, 3) := by decide +kernel
theorem dX2_partMatching_35 : decode cX2_partMatching 35 = .ok (.istore 5, 2) := by decide +kernel
theorem dX2_partMatching_37 : decode cX2_partMatching 37 = .ok (.aload_n 0, 1) := by decide +kernel
theorem dX2_partMatching_38 : decode cX2_partMatching 38 = .ok (.iload_n 1, 1) := by decide +kernel
theorem dX2_partMatching_39 : decode cX2_partMatching 39 = .ok (.iload 5, 2) := by decide +kernel
theorem dX2_partMatching_41 : decode cX2_partMatching 41 = .ok (.iconst 1, 1) := by decide +kernel
theorem dX2_partMatching_42 : decode cX2_partMatching 42 = .ok (.invokevirtual 55, 3) := by decide +kernel
theorem dX2_partMatching_45 : decode cX2_partMatching 45 = .ok (.ifCond .le 6, 3) := by decide +kernel
theorem dX2_partMatching_48 : decode cX2_partMatching 48 = .ok (.iload 5, 2) := by decide +kernel
theorem dX2_partMatching_50 : decode cX2_partMatching 50 = .ok (.ireturn, 1) := by decide +kernel
theorem dX2_partMatching_51 : decode cX2_partMatching 51 = .ok (.iload_n 3, 1) := by decide +kernel
theorem dX2_partMatching_52 : decode cX2_partMatching 52 = .ok (.iload 5, 2) := by decide +kernel
theorem dX2_partMatching_54 : decode cX2_partMatching 54 = .ok (.iconst (-1), 1) := by decide +kernel
theorem dX2_partMatching_55 : decode cX2_partMatching 55 = .ok (.ixor, 1) := by decide +kernel
theorem dX2_partMatching_56 : decode cX2_partMatching 56 = .ok (.iand, 1) := by decide +kernel
theorem dX2_partMatching_57 : decode cX2_partMatching 57 = .ok (.istore_n 3, 1) := by decide +kernel
theorem dX2_partMatching_58 : decode cX2_partMatching 58 = .ok (.iinc 4 1, 3) := by decide +kernel
theorem dX2_partMatching_61 : decode cX2_partMatching 61 = .ok (.goto (-56), 3) := by decide +kernel
theorem dX2_partMatching_64 : decode cX2_partMatching 64 = .ok (.iconst 0, 1) := by decide +kernel
theorem dX2_partMatching_65 : decode cX2_partMatching 65 = .ok (.ireturn, 1) := by decide +kernel
set_option maxRecDepth 20000 in
theorem ggX2_waysOf_J6_bitCount_0f7a4 : GoodIn wsX2_waysOf wsJ6_bitCount_0f7a4 := goodIn_r _ [5, 6, 7, 8] (by decide +kernel) (by decide +kernel)
set_option maxRecDepth 20000 in
theorem gX2_waysOf_J6_bitCount_0f7a4 : GoodIn wsX2_waysOf (va_wsS RX2 70 yJ6_bitCount_0f7a4 wsJ6_bitCount_0f7a4) := goodIn_app (goodIn_of _ (by decide +kernel)) ggX2_waysOf_J6_bitCount_0f7a4
set_option maxRecDepth 20000 in
theorem ggX2_waysOf_X2_ways : GoodIn wsX2_waysOf wsX2_ways := goodIn_r _ [12, 13, 1, 14, 15, 16, 11, 17, 18, 19, 20, 21, 22, 23, 2, 3, 4, 5, 6, 7, 8, 24, 25, 26, 27, 28, 29, 30, 31, 32, 33, 34, 35, 36, 37, 9, 10, 38, 39, 40, 41, 42, 43] (by decide +kernel) (by decide +kernel)
set_option maxRecDepth 20000 in
theorem gX2_waysOf_X2_ways : GoodIn wsX2_waysOf (va_wsS RX2 75 yX2_ways wsX2_ways) := goodIn_app (goodIn_of _ (by decide +kernel)) ggX2_waysOf_X2_ways
theorem dX2_waysOf_0 : decode cX2_waysOf 0 = .ok (.iload_n 1, 1) := by decide +kernel
theorem dX2_waysOf_1 : decode cX2_waysOf 1 = .ok (.invokestatic 70, 3) := by decide +kernel
theorem dX2_waysOf_4 : decode cX2_waysOf 4 = .ok (.iload_n 2, 1) := by decide +kernel
theorem dX2_waysOf_5 : decode cX2_waysOf 5 = .ok (.invokestatic 70, 3) := by decide +kernel
theorem dX2_waysOf_8 : decode cX2_waysOf 8 = .ok (.if_icmp .eq 5, 3) := by decide +kernel
theorem dX2_waysOf_11 : decode cX2_waysOf 11 = .ok (.iconst 0, 1) := by decide +kernel
theorem dX2_waysOf_12 : decode cX2_waysOf 12 = .ok (.ireturn, 1) := by decide +kernel
theorem dX2_waysOf_13 : decode cX2_waysOf 13 = .ok (.aload_n 0, 1) := by decide +kernel
theorem dX2_waysOf_14 : decode cX2_waysOf 14 = .ok (.iconst 0, 1) := by decide +kernel
theorem dX2_waysOf_15 : decode cX2_waysOf 15 = .ok (.putfield 25, 3) := by decide +kernel
theorem dX2_waysOf_18 : decode cX2_waysOf 18 = .ok (.aload_n 0, 1) := by decide +kernel
theorem dX2_waysOf_19 : decode cX2_waysOf 19 = .ok (.iload_n 1, 1) := by decide +kernel
theorem dX2_waysOf_20 : decode cX2_waysOf 20 = .ok (.iload_n 2, 1) := by decide +kernel
theorem dX2_waysOf_21 : decode cX2_waysOf 21 = .ok (.iload_n 3, 1) := by decide +kernel
theorem dX2_waysOf_22 : decode cX2_waysOf 22 = .ok (.iconst 0, 1) := by decide +kernel
theorem dX2_waysOf_23 : decode cX2_waysOf 23 = .ok (.invokestatic 75, 3) := by decide +kernel
theorem dX2_waysOf_26 : decode cX2_waysOf 26 = .ok (.ireturn, 1) := by decide +kernel
set_option maxRecDepth 20000 in
theorem ggX2_ways_X2_nextToPlace : GoodIn wsX2_ways wsX2_nextToPlace := goodIn_r _ [7, 8, 2, 9, 10, 11, 12, 13, 14, 15, 16, 17, 18, 19, 20, 21, 22, 23, 37, 38, 39, 40, 41, 42] (by decide +kernel) (by decide +kernel)
set_option maxRecDepth 20000 in
theorem gX2_ways_X2_nextToPlace : GoodIn wsX2_ways (wsV RX2 79 RX2 yX2_nextToPlace wsX2_nextToPlace) := goodIn_app (goodIn_of _ (by decide +kernel)) ggX2_ways_X2_nextToPlace
set_option maxRecDepth 20000 in
theorem ggX2_ways_X2_fitting : GoodIn wsX2_ways wsX2_fitting := goodIn_r _ [27, 8, 1, 28, 2, 9, 10, 11, 12, 13, 14, 15, 16, 17, 18, 19, 20, 21, 22, 23, 29, 30, 37, 38, 39, 40, 41, 42] (by decide +kernel) (by decide +kernel)
set_option maxRecDepth 20000 in
theorem gX2_ways_X2_fitting : GoodIn wsX2_ways (wsV RX2 82 RX2 yX2_fitting wsX2_fitting) := goodIn_app (goodIn_of _ (by decide +kernel)) ggX2_ways_X2_fitting
set_option maxRecDepth 20000 in
theorem ggX2_ways_X6_holds : GoodIn wsX2_ways wsX6_holds := goodIn_r _ [23] (by decide +kernel) (by decide +kernel)
set_option maxRecDepth 20000 in
theorem gX2_ways_X6_holds_n36 : GoodIn wsX2_ways (wsX6_holds) := ggX2_ways_X6_holds
set_option maxRecDepth 20000 in
theorem ggX2_ways_X2_place : GoodIn wsX2_ways wsX2_place := goodIn_r _ [34, 28, 2, 29, 22, 30, 37, 38, 39, 40] (by decide +kernel) (by decide +kernel)
set_option maxRecDepth 20000 in
theorem gX2_ways_X2_place : GoodIn wsX2_ways (wsV RX2 85 RX2 yX2_place wsX2_place) := goodIn_app (goodIn_of _ (by decide +kernel)) ggX2_ways_X2_place
set_option maxRecDepth 20000 in
theorem ggX2_ways_X6_bit : GoodIn wsX2_ways wsX6_bit := goodIn_r _ [30] (by decide +kernel) (by decide +kernel)
set_option maxRecDepth 20000 in
theorem gX2_ways_X6_bit_n63 : GoodIn wsX2_ways (wsX6_bit) := ggX2_ways_X6_bit
set_option maxRecDepth 20000 in
theorem ggX2_ways_X2_ways : GoodIn wsX2_ways wsX2_ways := goodIn_r _ [0, 1, 2, 3, 4, 5, 6, 7, 8, 9, 10, 11, 12, 13, 14, 15, 16, 17, 18, 19, 20, 21, 22, 23, 24, 25, 26, 27, 28, 29, 30, 31, 32, 33, 34, 35, 36, 37, 38, 39, 40, 41, 42] (by decide +kernel) (by decide +kernel)
set_option maxRecDepth 20000 in
theorem gX2_ways_X2_ways : GoodIn wsX2_ways (va_wsS RX2 75 yX2_ways wsX2_ways) := goodIn_app (goodIn_of _ (by decide +kernel)) ggX2_ways_X2_ways
theorem dX2_ways_0 : decode cX2_ways 0 = .ok (.iload_n 1, 1) := by decide +kernel
theorem dX2_ways_1 : decode cX2_ways 1 = .ok (.ifCond .ne 5, 3) := by decide +kernel
theorem dX2_ways_4 : decode cX2_ways 4 = .ok (.iconst 1, 1) := by decide +kernel
theorem dX2_ways_5 : decode cX2_ways 5 = .ok (.ireturn, 1) := by decide +kernel
theorem dX2_ways_6 : decode cX2_ways 6 = .ok (.iload 4, 2) := by decide +kernel
theorem dX2_ways_8 : decode cX2_ways 8 = .ok (.bipush 16, 2) := by decide +kernel
theorem dX2_ways_10 : decode cX2_ways 10 = .ok (.if_icmp .lt 5, 3) := by decide +kernel
theorem dX2_ways_13 : decode cX2_ways 13 = .ok (.iconst 0, 1) := by decide +kernel
theorem dX2_ways_14 : decode cX2_ways 14 = .ok (.ireturn, 1) := by decide +kernel
theorem dX2_ways_15 : decode cX2_ways 15 = .ok (.aload_n 0, 1) := by decide +kernel
theorem dX2_ways_16 : decode cX2_ways 16 = .ok (.iload_n 1, 1) := by decide +kernel
theorem dX2_ways_17 : decode cX2_ways 17 = .ok (.invokevirtual 79, 3) := by decide +kernel
theorem dX2_ways_20 : decode cX2_ways 20 = .ok (.istore 5, 2) := by decide +kernel
theorem dX2_ways_22 : decode cX2_ways 22 = .ok (.aload_n 0, 1) := by decide +kernel
theorem dX2_ways_23 : decode cX2_ways 23 = .ok (.iload 5, 2) := by decide +kernel
theorem dX2_ways_25 : decode cX2_ways 25 = .ok (.iload_n 2, 1) := by decide +kernel
theorem dX2_ways_26 : decode cX2_ways 26 = .ok (.invokevirtual 82, 3) := by decide +kernel
theorem dX2_ways_29 : decode cX2_ways 29 = .ok (.istore 6, 2) := by decide +kernel
theorem dX2_ways_31 : decode cX2_ways 31 = .ok (.iconst 0, 1) := by decide +kernel
theorem dX2_ways_32 : decode cX2_ways 32 = .ok (.istore 7, 2) := by decide +kernel
theorem dX2_ways_34 : decode cX2_ways 34 = .ok (.iconst 0, 1) := by decide +kernel
theorem dX2_ways_35 : decode cX2_ways 35 = .ok (.istore 8, 2) := by decide +kernel
theorem dX2_ways_37 : decode cX2_ways 37 = .ok (.iload 8, 2) := by decide +kernel
theorem dX2_ways_39 : decode cX2_ways 39 = .ok (.aload_n 0, 1) := by decide +kernel
theorem dX2_ways_40 : decode cX2_ways 40 = .ok (.getfield 18, 3) := by decide +kernel
theorem dX2_ways_43 : decode cX2_ways 43 = .ok (.getfield 29, 3) := by decide +kernel
theorem dX2_ways_46 : decode cX2_ways 46 = .ok (.if_icmp .ge 84, 3) := by decide +kernel
theorem dX2_ways_49 : decode cX2_ways 49 = .ok (.iload 7, 2) := by decide +kernel
theorem dX2_ways_51 : decode cX2_ways 51 = .ok (.iload_n 3, 1) := by decide +kernel
theorem dX2_ways_52 : decode cX2_ways 52 = .ok (.if_icmp .ge 78, 3) := by decide +kernel
theorem dX2_ways_55 : decode cX2_ways 55 = .ok (.iload 6, 2) := by decide +kernel
theorem dX2_ways_57 : decode cX2_ways 57 = .ok (.iload 8, 2) := by decide +kernel
theorem dX2_ways_59 : decode cX2_ways 59 = .ok (.invokestatic 36, 3) := by decide +kernel
theorem dX2_ways_62 : decode cX2_ways 62 = .ok (.ifCond .eq 62, 3) := by decide +kernel
theorem dX2_ways_65 : decode cX2_ways 65 = .ok (.aload_n 0, 1) := by decide +kernel
theorem dX2_ways_66 : decode cX2_ways 66 = .ok (.iload 5, 2) := by decide +kernel
theorem dX2_ways_68 : decode cX2_ways 68 = .ok (.iload 8, 2) := by decide +kernel
theorem dX2_ways_70 : decode cX2_ways 70 = .ok (.invokevirtual 85, 3) := by decide +kernel
theorem dX2_ways_73 : decode cX2_ways 73 = .ok (.iload 7, 2) := by decide +kernel
theorem dX2_ways_75 : decode cX2_ways 75 = .ok (.aload_n 0, 1) := by decide +kernel
theorem dX2_ways_76 : decode cX2_ways 76 = .ok (.iload_n 1, 1) := by decide +kernel
theorem dX2_ways_77 : decode cX2_ways 77 = .ok (.iload 5, 2) := by decide +kernel
theorem dX2_ways_79 : decode cX2_ways 79 = .ok (.invokestatic 63, 3) := by decide +kernel
theorem dX2_ways_82 : decode cX2_ways 82 = .ok (.iconst (-1), 1) := by decide +kernel
theorem dX2_ways_83 : decode cX2_ways 83 = .ok (.ixor, 1) := by decide +kernel
theorem dX2_ways_84 : decode cX2_ways 84 = .ok (.iand, 1) := by decide +kernel
theorem dX2_ways_85 : decode cX2_ways 85 = .ok (.iload_n 2, 1) := by decide +kernel
theorem dX2_ways_86 : decode cX2_ways 86 = .ok (.iload 8, 2) := by decide +kernel
theorem dX2_ways_88 : decode cX2_ways 88 = .ok (.invokestatic 63, 3) := by decide +kernel
theorem dX2_ways_91 : decode cX2_ways 91 = .ok (.iconst (-1), 1) := by decide +kernel
theorem dX2_ways_92 : decode cX2_ways 92 = .ok (.ixor, 1) := by decide +kernel
theorem dX2_ways_93 : decode cX2_ways 93 = .ok (.iand, 1) := by decide +kernel
theorem dX2_ways_94 : decode cX2_ways 94 = .ok (.iload_n 3, 1) := by decide +kernel
theorem dX2_ways_95 : decode cX2_ways 95 = .ok (.iload 7, 2) := by decide +kernel
theorem dX2_ways_97 : decode cX2_ways 97 = .ok (.isub, 1) := by decide +kernel
theorem dX2_ways_98 : decode cX2_ways 98 = .ok (.iload 4, 2) := by decide +kernel
theorem dX2_ways_100 : decode cX2_ways 100 = .ok (.iconst 1, 1) := by decide +kernel
theorem dX2_ways_101 : decode cX2_ways 101 = .ok (.iadd, 1) := by decide +kernel
theorem dX2_ways_102 : decode cX2_ways 102 = .ok (.invokestatic 75, 3) := by decide +kernel
theorem dX2_ways_105 : decode cX2_ways 105 = .ok (.iadd, 1) := by decide +kernel
theorem dX2_ways_106 : decode cX2_ways 106 = .ok (.istore 7, 2) := by decide +kernel
theorem dX2_ways_108 : decode cX2_ways 108 = .ok (.aload_n 0, 1) := by decide +kernel
theorem dX2_ways_109 : decode cX2_ways 109 = .ok (.dup, 1) := by decide +kernel
theorem dX2_ways_110 : decode cX2_ways 110 = .ok (.getfield 25, 3) := by decide +kernel
theorem dX2_ways_113 : decode cX2_ways 113 = .ok (.iload 5, 2) := by decide +kernel
theorem dX2_ways_115 : decode cX2_ways 115 = .ok (.invokestatic 63, 3) := by decide +kernel
theorem dX2_ways_118 : decode cX2_ways 118 = .ok (.iconst (-1), 1) := by decide +kernel
theorem dX2_ways_119 : decode cX2_ways 119 = .ok (.ixor, 1) := by decide +kernel
theorem dX2_ways_120 : decode cX2_ways 120 = .ok (.iand, 1) := by decide +kernel
theorem dX2_ways_121 : decode cX2_ways 121 = .ok (.putfield 25, 3) := by decide +kernel
theorem dX2_ways_124 : decode cX2_ways 124 = .ok (.iinc 8 1, 3) := by decide +kernel
theorem dX2_ways_127 : decode cX2_ways 127 = .ok (.goto (-90), 3) := by decide +kernel
theorem dX2_ways_130 : decode cX2_ways 130 = .ok (.iload 7, 2) := by decide +kernel
theorem dX2_ways_132 : decode cX2_ways 132 = .ok (.ireturn, 1) := by decide +kernel
set_option maxRecDepth 20000 in
theorem ggX2_place_X6_bit : GoodIn wsX2_place wsX6_bit := goodIn_r _ [5] (by decide +kernel) (by decide +kernel)
set_option maxRecDepth 20000 in
theorem gX2_place_X6_bit_n63 : GoodIn wsX2_place (wsX6_bit) := ggX2_place_X6_bit
theorem dX2_place_0 : decode cX2_place 0 = .ok (.iload_n 1, 1) := by decide +kernel
theorem dX2_place_1 : decode cX2_place 1 = .ok (.ifCond .lt 32, 3) := by decide +kernel
theorem dX2_place_4 : decode cX2_place 4 = .ok (.iload_n 1, 1) := by decide +kernel
theorem dX2_place_5 : decode cX2_place 5 = .ok (.aload_n 0, 1) := by decide +kernel
theorem dX2_place_6 : decode cX2_place 6 = .ok (.getfield 21, 3) := by decide +kernel
theorem dX2_place_9 : decode cX2_place 9 = .ok (.arraylength, 1) := by decide +kernel
theorem dX2_place_10 : decode cX2_place 10 = .ok (.if_icmp .ge 23, 3) := by decide +kernel
theorem dX2_place_13 : decode cX2_place 13 = .ok (.aload_n 0, 1) := by decide +kernel
theorem dX2_place_14 : decode cX2_place 14 = .ok (.getfield 21, 3) := by decide +kernel
theorem dX2_place_17 : decode cX2_place 17 = .ok (.iload_n 1, 1) := by decide +kernel
theorem dX2_place_18 : decode cX2_place 18 = .ok (.iload_n 2, 1) := by decide +kernel
theorem dX2_place_19 : decode cX2_place 19 = .ok (.iastore, 1) := by decide +kernel
theorem dX2_place_20 : decode cX2_place 20 = .ok (.aload_n 0, 1) := by decide +kernel
theorem dX2_place_21 : decode cX2_place 21 = .ok (.dup, 1) := by decide +kernel
theorem dX2_place_22 : decode cX2_place 22 = .ok (.getfield 25, 3) := by decide +kernel
theorem dX2_place_25 : decode cX2_place 25 = .ok (.iload_n 1, 1) := by decide +kernel
theorem dX2_place_26 : decode cX2_place 26 = .ok (.invokestatic 63, 3) := by decide +kernel
theorem dX2_place_29 : decode cX2_place 29 = .ok (.ior, 1) := by decide +kernel
theorem dX2_place_30 : decode cX2_place 30 = .ok (.putfield 25, 3) := by decide +kernel
theorem dX2_place_33 : decode cX2_place 33 = .ok (.return_, 1) := by decide +kernel
set_option maxRecDepth 20000 in
theorem ggX2_nextToPlace_X3_nearOf : GoodIn wsX2_nextToPlace wsX3_nearOf := goodIn_r _ [6, 7, 22, 23] (by decide +kernel) (by decide +kernel)
set_option maxRecDepth 20000 in
theorem gX2_nextToPlace_X3_nearOf_n89 : GoodIn wsX2_nextToPlace (wsX3_nearOf) := ggX2_nextToPlace_X3_nearOf
set_option maxRecDepth 20000 in
theorem ggX2_nextToPlace_J6_bitCount_0f7a4 : GoodIn wsX2_nextToPlace wsJ6_bitCount_0f7a4 := goodIn_r _ [11, 12, 13, 14] (by decide +kernel) (by decide +kernel)
set_option maxRecDepth 20000 in
theorem gX2_nextToPlace_J6_bitCount_0f7a4 : GoodIn wsX2_nextToPlace (va_wsS RX2 70 yJ6_bitCount_0f7a4 wsJ6_bitCount_0f7a4) := goodIn_app (goodIn_of _ (by decide +kernel)) ggX2_nextToPlace_J6_bitCount_0f7a4
set_option maxRecDepth 20000 in
theorem ggX2_nextToPlace_X6_holds : GoodIn wsX2_nextToPlace wsX6_holds := goodIn_r _ [17] (by decide +kernel) (by decide +kernel)
set_option maxRecDepth 20000 in
theorem gX2_nextToPlace_X6_holds_n36 : GoodIn wsX2_nextToPlace (wsX6_holds) := ggX2_nextToPlace_X6_holds
theorem dX2_nextToPlace_0 : decode cX2_nextToPlace 0 = .ok (.iconst (-1), 1) := by decide +kernel
theorem dX2_nextToPlace_1 : decode cX2_nextToPlace 1 = .ok (.istore_n 2, 1) := by decide +kernel
theorem dX2_nextToPlace_2 : decode cX2_nextToPlace 2 = .ok (.iconst (-1), 1) := by decide +kernel
theorem dX2_nextToPlace_3 : decode cX2_nextToPlace 3 = .ok (.istore_n 3, 1) := by decide +kernel
theorem dX2_nextToPlace_4 : decode cX2_nextToPlace 4 = .ok (.iconst 0, 1) := by decide +kernel
theorem dX2_nextToPlace_5 : decode cX2_nextToPlace 5 = .ok (.istore 4, 2) := by decide +kernel
theorem dX2_nextToPlace_7 : decode cX2_nextToPlace 7 = .ok (.iload 4, 2) := by decide +kernel
theorem dX2_nextToPlace_9 : decode cX2_nextToPlace 9 = .ok (.aload_n 0, 1) := by decide +kernel
theorem dX2_nextToPlace_10 : decode cX2_nextToPlace 10 = .ok (.getfield 12, 3) := by decide +kernel
theorem dX2_nextToPlace_13 : decode cX2_nextToPlace 13 = .ok (.getfield 29, 3) := by decide +kernel
theorem dX2_nextToPlace_16 : decode cX2_nextToPlace 16 = .ok (.if_icmp .ge 49, 3) := by decide +kernel
theorem dX2_nextToPlace_19 : decode cX2_nextToPlace 19 = .ok (.aload_n 0, 1) := by decide +kernel
theorem dX2_nextToPlace_20 : decode cX2_nextToPlace 20 = .ok (.getfield 12, 3) := by decide +kernel
theorem dX2_nextToPlace_23 : decode cX2_nextToPlace 23 = .ok (.iload 4, 2) := by decide +kernel
theorem dX2_nextToPlace_25 : decode cX2_nextToPlace 25 = .ok (.invokevirtual 89, 3) := by decide +kernel
theorem dX2_nextToPlace_28 : decode cX2_nextToPlace 28 = .ok (.aload_n 0, 1) := by decide +kernel
theorem dX2_nextToPlace_29 : decode cX2_nextToPlace 29 = .ok (.getfield 25, 3) := by decide +kernel
theorem dX2_nextToPlace_32 : decode cX2_nextToPlace 32 = .ok (.iand, 1) := by decide +kernel
theorem dX2_nextToPlace_33 : decode cX2_nextToPlace 33 = .ok (.invokestatic 70, 3) := by decide +kernel
theorem dX2_nextToPlace_36 : decode cX2_nextToPlace 36 = .ok (.istore 5, 2) := by decide +kernel
theorem dX2_nextToPlace_38 : decode cX2_nextToPlace 38 = .ok (.iload_n 1, 1) := by decide +kernel
theorem dX2_nextToPlace_39 : decode cX2_nextToPlace 39 = .ok (.iload 4, 2) := by decide +kernel
theorem dX2_nextToPlace_41 : decode cX2_nextToPlace 41 = .ok (.invokestatic 36, 3) := by decide +kernel
theorem dX2_nextToPlace_44 : decode cX2_nextToPlace 44 = .ok (.ifCond .eq 15, 3) := by decide +kernel
theorem dX2_nextToPlace_47 : decode cX2_nextToPlace 47 = .ok (.iload 5, 2) := by decide +kernel
theorem dX2_nextToPlace_49 : decode cX2_nextToPlace 49 = .ok (.iload_n 3, 1) := by decide +kernel
theorem dX2_nextToPlace_50 : decode cX2_nextToPlace 50 = .ok (.if_icmp .le 9, 3) := by decide +kernel
theorem dX2_nextToPlace_53 : decode cX2_nextToPlace 53 = .ok (.iload 5, 2) := by decide +kernel
theorem dX2_nextToPlace_55 : decode cX2_nextToPlace 55 = .ok (.istore_n 3, 1) := by decide +kernel
theorem dX2_nextToPlace_56 : decode cX2_nextToPlace 56 = .ok (.iload 4, 2) := by decide +kernel
theorem dX2_nextToPlace_58 : decode cX2_nextToPlace 58 = .ok (.istore_n 2, 1) := by decide +kernel
theorem dX2_nextToPlace_59 : decode cX2_nextToPlace 59 = .ok (.iinc 4 1, 3) := by decide +kernel
theorem dX2_nextToPlace_62 : decode cX2_nextToPlace 62 = .ok (.goto (-55), 3) := by decide +kernel
theorem dX2_nextToPlace_65 : decode cX2_nextToPlace 65 = .ok (.iload_n 2, 1) := by decide +kernel
theorem dX2_nextToPlace_66 : decode cX2_nextToPlace 66 = .ok (.ireturn, 1) := by decide +kernel
set_option maxRecDepth 20000 in
theorem ggX2_fitting_X3_nearOf : GoodIn wsX2_fitting wsX3_nearOf := goodIn_r _ [8, 9, 26, 27] (by decide +kernel) (by decide +kernel)
set_option maxRecDepth 20000 in
theorem gX2_fitting_X3_nearOf_n89 : GoodIn wsX2_fitting (wsX3_nearOf) := ggX2_fitting_X3_nearOf
set_option maxRecDepth 20000 in
theorem ggX2_fitting_J6_bitCount_0f7a4 : GoodIn wsX2_fitting wsJ6_bitCount_0f7a4 := goodIn_r _ [13, 14, 15, 16] (by decide +kernel) (by decide +kernel)
set_option maxRecDepth 20000 in
theorem gX2_fitting_J6_bitCount_0f7a4 : GoodIn wsX2_fitting (va_wsS RX2 70 yJ6_bitCount_0f7a4 wsJ6_bitCount_0f7a4) := goodIn_app (goodIn_of _ (by decide +kernel)) ggX2_fitting_J6_bitCount_0f7a4
set_option maxRecDepth 20000 in
theorem ggX2_fitting_X6_holds : GoodIn wsX2_fitting wsX6_holds := goodIn_r _ [19] (by decide +kernel) (by decide +kernel)
set_option maxRecDepth 20000 in
theorem gX2_fitting_X6_holds_n36 : GoodIn wsX2_fitting (wsX6_holds) := ggX2_fitting_X6_holds
set_option maxRecDepth 20000 in
theorem ggX2_fitting_X6_bit : GoodIn wsX2_fitting wsX6_bit := goodIn_r _ [21] (by decide +kernel) (by decide +kernel)
set_option maxRecDepth 20000 in
theorem gX2_fitting_X6_bit_n63 : GoodIn wsX2_fitting (wsX6_bit) := ggX2_fitting_X6_bit
theorem dX2_fitting_0 : decode cX2_fitting 0 = .ok (.aload_n 0, 1) := by decide +kernel
theorem dX2_fitting_1 : decode cX2_fitting 1 = .ok (.getfield 12, 3) := by decide +kernel
theorem dX2_fitting_4 : decode cX2_fitting 4 = .ok (.iload_n 1, 1) := by decide +kernel
theorem dX2_fitting_5 : decode cX2_fitting 5 = .ok (.invokevirtual 89, 3) := by decide +kernel
theorem dX2_fitting_8 : decode cX2_fitting 8 = .ok (.istore_n 3, 1) := by decide +kernel
theorem dX2_fitting_9 : decode cX2_fitting 9 = .ok (.iload_n 3, 1) := by decide +kernel
theorem dX2_fitting_10 : decode cX2_fitting 10 = .ok (.invokestatic 70, 3) := by decide +kernel
theorem dX2_fitting_13 : decode cX2_fitting 13 = .ok (.istore 4, 2) := by decide +kernel
theorem dX2_fitting_15 : decode cX2_fitting 15 = .ok (.iconst 0, 1) := by decide +kernel
theorem dX2_fitting_16 : decode cX2_fitting 16 = .ok (.istore 5, 2) := by decide +kernel
theorem dX2_fitting_18 : decode cX2_fitting 18 = .ok (.iconst 0, 1) := by decide +kernel
theorem dX2_fitting_19 : decode cX2_fitting 19 = .ok (.istore 6, 2) := by decide +kernel
theorem dX2_fitting_21 : decode cX2_fitting 21 = .ok (.iload 6, 2) := by decide +kernel
theorem dX2_fitting_23 : decode cX2_fitting 23 = .ok (.aload_n 0, 1) := by decide +kernel
theorem dX2_fitting_24 : decode cX2_fitting 24 = .ok (.getfield 18, 3) := by decide +kernel
theorem dX2_fitting_27 : decode cX2_fitting 27 = .ok (.getfield 29, 3) := by decide +kernel
theorem dX2_fitting_30 : decode cX2_fitting 30 = .ok (.if_icmp .ge 45, 3) := by decide +kernel
theorem dX2_fitting_33 : decode cX2_fitting 33 = .ok (.iload_n 2, 1) := by decide +kernel
theorem dX2_fitting_34 : decode cX2_fitting 34 = .ok (.iload 6, 2) := by decide +kernel
theorem dX2_fitting_36 : decode cX2_fitting 36 = .ok (.invokestatic 36, 3) := by decide +kernel
theorem dX2_fitting_39 : decode cX2_fitting 39 = .ok (.ifCond .eq 30, 3) := by decide +kernel
theorem dX2_fitting_42 : decode cX2_fitting 42 = .ok (.aload_n 0, 1) := by decide +kernel
theorem dX2_fitting_43 : decode cX2_fitting 43 = .ok (.getfield 18, 3) := by decide +kernel
theorem dX2_fitting_46 : decode cX2_fitting 46 = .ok (.iload 6, 2) := by decide +kernel
theorem dX2_fitting_48 : decode cX2_fitting 48 = .ok (.invokevirtual 89, 3) := by decide +kernel
theorem dX2_fitting_51 : decode cX2_fitting 51 = .ok (.invokestatic 70, 3) := by decide +kernel
theorem dX2_fitting_54 : decode cX2_fitting 54 = .ok (.iload 4, 2) := by decide +kernel
theorem dX2_fitting_56 : decode cX2_fitting 56 = .ok (.if_icmp .ne 13, 3) := by decide +kernel
theorem dX2_fitting_59 : decode cX2_fitting 59 = .ok (.iload 5, 2) := by decide +kernel
theorem dX2_fitting_61 : decode cX2_fitting 61 = .ok (.iload 6, 2) := by decide +kernel
theorem dX2_fitting_63 : decode cX2_fitting 63 = .ok (.invokestatic 63, 3) := by decide +kernel
theorem dX2_fitting_66 : decode cX2_fitting 66 = .ok (.ior, 1) := by decide +kernel
theorem dX2_fitting_67 : decode cX2_fitting 67 = .ok (.istore 5, 2) := by decide +kernel
theorem dX2_fitting_69 : decode cX2_fitting 69 = .ok (.iinc 6 1, 3) := by decide +kernel
theorem dX2_fitting_72 : decode cX2_fitting 72 = .ok (.goto (-51), 3) := by decide +kernel
theorem dX2_fitting_75 : decode cX2_fitting 75 = .ok (.iconst 0, 1) := by decide +kernel
theorem dX2_fitting_76 : decode cX2_fitting 76 = .ok (.istore 6, 2) := by decide +kernel
theorem dX2_fitting_78 : decode cX2_fitting 78 = .ok (.iload 6, 2) := by decide +kernel
theorem dX2_fitting_80 : decode cX2_fitting 80 = .ok (.aload_n 0, 1) := by decide +kernel
theorem dX2_fitting_81 : decode cX2_fitting 81 = .ok (.getfield 21, 3) := by decide +kernel
theorem dX2_fitting_84 : decode cX2_fitting 84 = .ok (.arraylength, 1) := by decide +kernel
theorem dX2_fitting_85 : decode cX2_fitting 85 = .ok (.if_icmp .ge 60, 3) := by decide +kernel
theorem dX2_fitting_88 : decode cX2_fitting 88 = .ok (.aload_n 0, 1) := by decide +kernel
theorem dX2_fitting_89 : decode cX2_fitting 89 = .ok (.getfield 25, 3) := by decide +kernel
theorem dX2_fitting_92 : decode cX2_fitting 92 = .ok (.iload 6, 2) := by decide +kernel
theorem dX2_fitting_94 : decode cX2_fitting 94 = .ok (.invokestatic 36, 3) := by decide +kernel
theorem dX2_fitting_97 : decode cX2_fitting 97 = .ok (.ifCond .eq 42, 3) := by decide +kernel
theorem dX2_fitting_100 : decode cX2_fitting 100 = .ok (.aload_n 0, 1) := by decide +kernel
theorem dX2_fitting_101 : decode cX2_fitting 101 = .ok (.getfield 18, 3) := by decide +kernel
theorem dX2_fitting_104 : decode cX2_fitting 104 = .ok (.aload_n 0, 1) := by decide +kernel
theorem dX2_fitting_105 : decode cX2_fitting 105 = .ok (.getfield 21, 3) := by decide +kernel
theorem dX2_fitting_108 : decode cX2_fitting 108 = .ok (.iload 6, 2) := by decide +kernel
theorem dX2_fitting_110 : decode cX2_fitting 110 = .ok (.iaload, 1) := by decide +kernel
theorem dX2_fitting_111 : decode cX2_fitting 111 = .ok (.invokevirtual 89, 3) := by decide +kernel
theorem dX2_fitting_114 : decode cX2_fitting 114 = .ok (.istore 7, 2) := by decide +kernel
theorem dX2_fitting_116 : decode cX2_fitting 116 = .ok (.iload 5, 2) := by decide +kernel
theorem dX2_fitting_118 : decode cX2_fitting 118 = .ok (.iload_n 3, 1) := by decide +kernel
theorem dX2_fitting_119 : decode cX2_fitting 119 = .ok (.iload 6, 2) := by decide +kernel
theorem dX2_fitting_121 : decode cX2_fitting 121 = .ok (.invokestatic 36, 3) := by decide +kernel
theorem dX2_fitting_124 : decode cX2_fitting 124 = .ok (.ifCond .eq 8, 3) := by decide +kernel
theorem dX2_fitting_127 : decode cX2_fitting 127 = .ok (.iload 7, 2) := by decide +kernel
theorem dX2_fitting_129 : decode cX2_fitting 129 = .ok (.goto 7, 3) := by decide +kernel
theorem dX2_fitting_132 : decode cX2_fitting 132 = .ok (.iload 7, 2) := by decide +kernel
theorem dX2_fitting_134 : decode cX2_fitting 134 = .ok (.iconst (-1), 1) := by decide +kernel
theorem dX2_fitting_135 : decode cX2_fitting 135 = .ok (.ixor, 1) := by decide +kernel
theorem dX2_fitting_136 : decode cX2_fitting 136 = .ok (.iand, 1) := by decide +kernel
theorem dX2_fitting_137 : decode cX2_fitting 137 = .ok (.istore 5, 2) := by decide +kernel
theorem dX2_fitting_139 : decode cX2_fitting 139 = .ok (.iinc 6 1, 3) := by decide +kernel
theorem dX2_fitting_142 : decode cX2_fitting 142 = .ok (.goto (-64), 3) := by decide +kernel
theorem dX2_fitting_145 : decode cX2_fitting 145 = .ok (.iload 5, 2) := by decide +kernel
theorem dX2_fitting_147 : decode cX2_fitting 147 = .ok (.ireturn, 1) := by decide +kernel
theorem dX3_init_0 : decode cX3_init 0 = .ok (.aload_n 0, 1) := by decide +kernel
theorem dX3_init_1 : decode cX3_init 1 = .ok (.invokespecial 3, 3) := by decide +kernel
theorem dX3_init_4 : decode cX3_init 4 = .ok (.aload_n 0, 1) := by decide +kernel
theorem dX3_init_5 : decode cX3_init 5 = .ok (.bipush 16, 2) := by decide +kernel
theorem dX3_init_7 : decode cX3_init 7 = .ok (.newarray .int, 2) := by decide +kernel
theorem dX3_init_9 : decode cX3_init 9 = .ok (.putfield 9, 3) := by decide +kernel
theorem dX3_init_12 : decode cX3_init 12 = .ok (.aload_n 0, 1) := by decide +kernel
theorem dX3_init_13 : decode cX3_init 13 = .ok (.iconst 0, 1) := by decide +kernel
theorem dX3_init_14 : decode cX3_init 14 = .ok (.putfield 15, 3) := by decide +kernel
theorem dX3_init_17 : decode cX3_init 17 = .ok (.return_, 1) := by decide +kernel
theorem dX3_lay_0 : decode cX3_lay 0 = .ok (.aload_n 0, 1) := by decide +kernel
theorem dX3_lay_1 : decode cX3_lay 1 = .ok (.iload_n 1, 1) := by decide +kernel
theorem dX3_lay_2 : decode cX3_lay 2 = .ok (.putfield 15, 3) := by decide +kernel
theorem dX3_lay_5 : decode cX3_lay 5 = .ok (.iconst 0, 1) := by decide +kernel
theorem dX3_lay_6 : decode cX3_lay 6 = .ok (.istore_n 2, 1) := by decide +kernel
theorem dX3_lay_7 : decode cX3_lay 7 = .ok (.iload_n 2, 1) := by decide +kernel
theorem dX3_lay_8 : decode cX3_lay 8 = .ok (.aload_n 0, 1) := by decide +kernel
theorem dX3_lay_9 : decode cX3_lay 9 = .ok (.getfield 9, 3) := by decide +kernel
theorem dX3_lay_12 : decode cX3_lay 12 = .ok (.arraylength, 1) := by decide +kernel
theorem dX3_lay_13 : decode cX3_lay 13 = .ok (.if_icmp .ge 16, 3) := by decide +kernel
theorem dX3_lay_16 : decode cX3_lay 16 = .ok (.aload_n 0, 1) := by decide +kernel
theorem dX3_lay_17 : decode cX3_lay 17 = .ok (.getfield 9, 3) := by decide +kernel
theorem dX3_lay_20 : decode cX3_lay 20 = .ok (.iload_n 2, 1) := by decide +kernel
theorem dX3_lay_21 : decode cX3_lay 21 = .ok (.iconst 0, 1) := by decide +kernel
theorem dX3_lay_22 : decode cX3_lay 22 = .ok (.iastore, 1) := by decide +kernel
theorem dX3_lay_23 : decode cX3_lay 23 = .ok (.iinc 2 1, 3) := by decide +kernel
theorem dX3_lay_26 : decode cX3_lay 26 = .ok (.goto (-19), 3) := by decide +kernel
theorem dX3_lay_29 : decode cX3_lay 29 = .ok (.return_, 1) := by decide +kernel
set_option maxRecDepth 20000 in
theorem ggX3_take_X3_nearOf : GoodIn wsX3_take wsX3_nearOf := goodIn_r _ [7, 2, 8, 9] (by decide +kernel) (by decide +kernel)
set_option maxRecDepth 20000 in
theorem gX3_take_X3_nearOf : GoodIn wsX3_take (wsV RX3 19 RX3 yX3_nearOf wsX3_nearOf) := goodIn_app (goodIn_of _ (by decide +kernel)) ggX3_take_X3_nearOf
theorem dX3_take_0 : decode cX3_take 0 = .ok (.aload_n 0, 1) := by decide +kernel
theorem dX3_take_1 : decode cX3_take 1 = .ok (.aload_n 1, 1) := by decide +kernel
theorem dX3_take_2 : decode cX3_take 2 = .ok (.getfield 15, 3) := by decide +kernel
theorem dX3_take_5 : decode cX3_take 5 = .ok (.putfield 15, 3) := by decide +kernel
theorem dX3_take_8 : decode cX3_take 8 = .ok (.iconst 0, 1) := by decide +kernel
theorem dX3_take_9 : decode cX3_take 9 = .ok (.istore_n 2, 1) := by decide +kernel
theorem dX3_take_10 : decode cX3_take 10 = .ok (.iload_n 2, 1) := by decide +kernel
theorem dX3_take_11 : decode cX3_take 11 = .ok (.aload_n 0, 1) := by decide +kernel
theorem dX3_take_12 : decode cX3_take 12 = .ok (.getfield 9, 3) := by decide +kernel
theorem dX3_take_15 : decode cX3_take 15 = .ok (.arraylength, 1) := by decide +kernel
theorem dX3_take_16 : decode cX3_take 16 = .ok (.if_icmp .ge 20, 3) := by decide +kernel
theorem dX3_take_19 : decode cX3_take 19 = .ok (.aload_n 0, 1) := by decide +kernel
theorem dX3_take_20 : decode cX3_take 20 = .ok (.getfield 9, 3) := by decide +kernel
theorem dX3_take_23 : decode cX3_take 23 = .ok (.iload_n 2, 1) := by decide +kernel
theorem dX3_take_24 : decode cX3_take 24 = .ok (.aload_n 1, 1) := by decide +kernel
theorem dX3_take_25 : decode cX3_take 25 = .ok (.iload_n 2, 1) := by decide +kernel
theorem dX3_take_26 : decode cX3_take 26 = .ok (.invokevirtual 19, 3) := by decide +kernel
theorem dX3_take_29 : decode cX3_take 29 = .ok (.iastore, 1) := by decide +kernel
theorem dX3_take_30 : decode cX3_take 30 = .ok (.iinc 2 1, 3) := by decide +kernel
theorem dX3_take_33 : decode cX3_take 33 = .ok (.goto (-23), 3) := by decide +kernel
theorem dX3_take_36 : decode cX3_take 36 = .ok (.return_, 1) := by decide +kernel
theorem dX3_isKnot_0 : decode cX3_isKnot 0 = .ok (.iload_n 1, 1) := by decide +kernel
theorem dX3_isKnot_1 : decode cX3_isKnot 1 = .ok (.ifCond .lt 24, 3) := by decide +kernel
theorem dX3_isKnot_4 : decode cX3_isKnot 4 = .ok (.iload_n 1, 1) := by decide +kernel
theorem dX3_isKnot_5 : decode cX3_isKnot 5 = .ok (.aload_n 0, 1) := by decide +kernel
theorem dX3_isKnot_6 : decode cX3_isKnot 6 = .ok (.getfield 15, 3) := by decide +kernel
theorem dX3_isKnot_9 : decode cX3_isKnot 9 = .ok (.if_icmp .ge 16, 3) := by decide +kernel
theorem dX3_isKnot_12 : decode cX3_isKnot 12 = .ok (.iload_n 1, 1) := by decide +kernel
theorem dX3_isKnot_13 : decode cX3_isKnot 13 = .ok (.aload_n 0, 1) := by decide +kernel
theorem dX3_isKnot_14 : decode cX3_isKnot 14 = .ok (.getfield 9, 3) := by decide +kernel
theorem dX3_isKnot_17 : decode cX3_isKnot 17 = .ok (.arraylength, 1) := by decide +kernel
theorem dX3_isKnot_18 : decode cX3_isKnot 18 = .ok (.if_icmp .ge 7, 3) := by decide +kernel
theorem dX3_isKnot_21 : decode cX3_isKnot 21 = .ok (.iconst 1, 1) := by decide +kernel
theorem dX3_isKnot_22 : decode cX3_isKnot 22 = .ok (.goto 4, 3) := by decide +kernel
theorem dX3_isKnot_25 : decode cX3_isKnot 25 = .ok (.iconst 0, 1) := by decide +kernel
theorem dX3_isKnot_26 : decode cX3_isKnot 26 = .ok (.ireturn, 1) := by decide +kernel
theorem dX3_nearOf_0 : decode cX3_nearOf 0 = .ok (.iload_n 1, 1) := by decide +kernel
theorem dX3_nearOf_1 : decode cX3_nearOf 1 = .ok (.ifCond .lt 21, 3) := by decide +kernel
theorem dX3_nearOf_4 : decode cX3_nearOf 4 = .ok (.iload_n 1, 1) := by decide +kernel
theorem dX3_nearOf_5 : decode cX3_nearOf 5 = .ok (.aload_n 0, 1) := by decide +kernel
theorem dX3_nearOf_6 : decode cX3_nearOf 6 = .ok (.getfield 9, 3) := by decide +kernel
theorem dX3_nearOf_9 : decode cX3_nearOf 9 = .ok (.arraylength, 1) := by decide +kernel
theorem dX3_nearOf_10 : decode cX3_nearOf 10 = .ok (.if_icmp .ge 12, 3) := by decide +kernel
theorem dX3_nearOf_13 : decode cX3_nearOf 13 = .ok (.aload_n 0, 1) := by decide +kernel
theorem dX3_nearOf_14 : decode cX3_nearOf 14 = .ok (.getfield 9, 3) := by decide +kernel
theorem dX3_nearOf_17 : decode cX3_nearOf 17 = .ok (.iload_n 1, 1) := by decide +kernel
theorem dX3_nearOf_18 : decode cX3_nearOf 18 = .ok (.iaload, 1) := by decide +kernel
theorem dX3_nearOf_19 : decode cX3_nearOf 19 = .ok (.goto 4, 3) := by decide +kernel
theorem dX3_nearOf_22 : decode cX3_nearOf 22 = .ok (.iconst 0, 1) := by decide +kernel
theorem dX3_nearOf_23 : decode cX3_nearOf 23 = .ok (.ireturn, 1) := by decide +kernel
set_option maxRecDepth 20000 in
theorem ggX3_isNear_X3_nearOf : GoodIn wsX3_isNear wsX3_nearOf := goodIn_r _ [5, 6, 10, 11] (by decide +kernel) (by decide +kernel)
set_option maxRecDepth 20000 in
theorem gX3_isNear_X3_nearOf : GoodIn wsX3_isNear (wsV RX3 19 RX3 yX3_nearOf wsX3_nearOf) := goodIn_app (goodIn_of _ (by decide +kernel)) ggX3_isNear_X3_nearOf
set_option maxRecDepth 20000 in
theorem ggX3_isNear_X6_holds : GoodIn wsX3_isNear wsX6_holds := goodIn_r _ [9] (by decide +kernel) (by decide +kernel)
set_option maxRecDepth 20000 in
theorem gX3_isNear_X6_holds_n23 : GoodIn wsX3_isNear (wsX6_holds) := ggX3_isNear_X6_holds
theorem dX3_isNear_0 : decode cX3_isNear 0 = .ok (.aload_n 0, 1) := by decide +kernel
theorem dX3_isNear_1 : decode cX3_isNear 1 = .ok (.iload_n 1, 1) := by decide +kernel
theorem dX3_isNear_2 : decode cX3_isNear 2 = .ok (.invokevirtual 19, 3) := by decide +kernel
theorem dX3_isNear_5 : decode cX3_isNear 5 = .ok (.iload_n 2, 1) := by decide +kernel
theorem dX3_isNear_6 : decode cX3_isNear 6 = .ok (.invokestatic 23, 3) := by decide +kernel
theorem dX3_isNear_9 : decode cX3_isNear 9 = .ok (.ireturn, 1) := by decide +kernel
set_option maxRecDepth 20000 in
theorem ggX3_countOf_X3_nearOf : GoodIn wsX3_countOf wsX3_nearOf := goodIn_r _ [5, 6, 14, 15] (by decide +kernel) (by decide +kernel)
set_option maxRecDepth 20000 in
theorem gX3_countOf_X3_nearOf : GoodIn wsX3_countOf (wsV RX3 19 RX3 yX3_nearOf wsX3_nearOf) := goodIn_app (goodIn_of _ (by decide +kernel)) ggX3_countOf_X3_nearOf
set_option maxRecDepth 20000 in
theorem ggX3_countOf_J6_bitCount_0f7a4 : GoodIn wsX3_countOf wsJ6_bitCount_0f7a4 := goodIn_r _ [10, 11, 12, 13] (by decide +kernel) (by decide +kernel)
set_option maxRecDepth 20000 in
theorem gX3_countOf_J6_bitCount_0f7a4 : GoodIn wsX3_countOf (va_wsS RX3 27 yJ6_bitCount_0f7a4 wsJ6_bitCount_0f7a4) := goodIn_app (goodIn_of _ (by decide +kernel)) ggX3_countOf_J6_bitCount_0f7a4
theorem dX3_countOf_0 : decode cX3_countOf 0 = .ok (.aload_n 0, 1) := by decide +kernel
theorem dX3_countOf_1 : decode cX3_countOf 1 = .ok (.iload_n 1, 1) := by decide +kernel
theorem dX3_countOf_2 : decode cX3_countOf 2 = .ok (.invokevirtual 19, 3) := by decide +kernel
theorem dX3_countOf_5 : decode cX3_countOf 5 = .ok (.invokestatic 27, 3) := by decide +kernel
theorem dX3_countOf_8 : decode cX3_countOf 8 = .ok (.ireturn, 1) := by decide +kernel
set_option maxRecDepth 20000 in
theorem ggX3_join_X3_isKnot : GoodIn wsX3_join wsX3_isKnot := goodIn_r _ [6, 7, 1, 11, 12] (by decide +kernel) (by decide +kernel)
set_option maxRecDepth 20000 in
theorem gX3_join_X3_isKnot : GoodIn wsX3_join (wsV RX3 32 RX3 yX3_isKnot wsX3_isKnot) := goodIn_app (goodIn_of _ (by decide +kernel)) ggX3_join_X3_isKnot
set_option maxRecDepth 20000 in
theorem ggX3_join_X6_bit : GoodIn wsX3_join wsX6_bit := goodIn_r _ [10] (by decide +kernel) (by decide +kernel)
set_option maxRecDepth 20000 in
theorem gX3_join_X6_bit_n36 : GoodIn wsX3_join (wsX6_bit) := ggX3_join_X6_bit
theorem dX3_join_0 : decode cX3_join 0 = .ok (.aload_n 0, 1) := by decide +kernel
theorem dX3_join_1 : decode cX3_join 1 = .ok (.iload_n 1, 1) := by decide +kernel
theorem dX3_join_2 : decode cX3_join 2 = .ok (.invokevirtual 32, 3) := by decide +kernel
theorem dX3_join_5 : decode cX3_join 5 = .ok (.ifCond .eq 42, 3) := by decide +kernel
theorem dX3_join_8 : decode cX3_join 8 = .ok (.aload_n 0, 1) := by decide +kernel
theorem dX3_join_9 : decode cX3_join 9 = .ok (.iload_n 2, 1) := by decide +kernel
theorem dX3_join_10 : decode cX3_join 10 = .ok (.invokevirtual 32, 3) := by decide +kernel
theorem dX3_join_13 : decode cX3_join 13 = .ok (.ifCond .eq 34, 3) := by decide +kernel
theorem dX3_join_16 : decode cX3_join 16 = .ok (.iload_n 1, 1) := by decide +kernel
theorem dX3_join_17 : decode cX3_join 17 = .ok (.iload_n 2, 1) := by decide +kernel
theorem dX3_join_18 : decode cX3_join 18 = .ok (.if_icmp .eq 29, 3) := by decide +kernel
theorem dX3_join_21 : decode cX3_join 21 = .ok (.aload_n 0, 1) := by decide +kernel
theorem dX3_join_22 : decode cX3_join 22 = .ok (.getfield 9, 3) := by decide +kernel
theorem dX3_join_25 : decode cX3_join 25 = .ok (.iload_n 1, 1) := by decide +kernel
theorem dX3_join_26 : decode cX3_join 26 = .ok (.dup2, 1) := by decide +kernel
theorem dX3_join_27 : decode cX3_join 27 = .ok (.iaload, 1) := by decide +kernel
theorem dX3_join_28 : decode cX3_join 28 = .ok (.iload_n 2, 1) := by decide +kernel
theorem dX3_join_29 : decode cX3_join 29 = .ok (.invokestatic 36, 3) := by decide +kernel
theorem dX3_join_32 : decode cX3_join 32 = .ok (.ior, 1) := by decide +kernel
theorem dX3_join_33 : decode cX3_join 33 = .ok (.iastore, 1) := by decide +kernel
theorem dX3_join_34 : decode cX3_join 34 = .ok (.aload_n 0, 1) := by decide +kernel
theorem dX3_join_35 : decode cX3_join 35 = .ok (.getfield 9, 3) := by decide +kernel
theorem dX3_join_38 : decode cX3_join 38 = .ok (.iload_n 2, 1) := by decide +kernel
theorem dX3_join_39 : decode cX3_join 39 = .ok (.dup2, 1) := by decide +kernel
theorem dX3_join_40 : decode cX3_join 40 = .ok (.iaload, 1) := by decide +kernel
theorem dX3_join_41 : decode cX3_join 41 = .ok (.iload_n 1, 1) := by decide +kernel
theorem dX3_join_42 : decode cX3_join 42 = .ok (.invokestatic 36, 3) := by decide +kernel
theorem dX3_join_45 : decode cX3_join 45 = .ok (.ior, 1) := by decide +kernel
theorem dX3_join_46 : decode cX3_join 46 = .ok (.iastore, 1) := by decide +kernel
theorem dX3_join_47 : decode cX3_join 47 = .ok (.return_, 1) := by decide +kernel
set_option maxRecDepth 20000 in
theorem ggX3_loosen_X3_isKnot : GoodIn wsX3_loosen wsX3_isKnot := goodIn_r _ [6, 7, 1, 11, 12] (by decide +kernel) (by decide +kernel)
set_option maxRecDepth 20000 in
theorem gX3_loosen_X3_isKnot : GoodIn wsX3_loosen (wsV RX3 32 RX3 yX3_isKnot wsX3_isKnot) := goodIn_app (goodIn_of _ (by decide +kernel)) ggX3_loosen_X3_isKnot
set_option maxRecDepth 20000 in
theorem ggX3_loosen_X6_bit : GoodIn wsX3_loosen wsX6_bit := goodIn_r _ [10] (by decide +kernel) (by decide +kernel)
set_option maxRecDepth 20000 in
theorem gX3_loosen_X6_bit_n36 : GoodIn wsX3_loosen (wsX6_bit) := ggX3_loosen_X6_bit
theorem dX3_loosen_0 : decode cX3_loosen 0 = .ok (.aload_n 0, 1) := by decide +kernel
theorem dX3_loosen_1 : decode cX3_loosen 1 = .ok (.iload_n 1, 1) := by decide +kernel
theorem dX3_loosen_2 : decode cX3_loosen 2 = .ok (.invokevirtual 32, 3) := by decide +kernel
theorem dX3_loosen_5 : decode cX3_loosen 5 = .ok (.ifCond .eq 41, 3) := by decide +kernel
theorem dX3_loosen_8 : decode cX3_loosen 8 = .ok (.aload_n 0, 1) := by decide +kernel
theorem dX3_loosen_9 : decode cX3_loosen 9 = .ok (.iload_n 2, 1) := by decide +kernel
theorem dX3_loosen_10 : decode cX3_loosen 10 = .ok (.invokevirtual 32, 3) := by decide +kernel
theorem dX3_loosen_13 : decode cX3_loosen 13 = .ok (.ifCond .eq 33, 3) := by decide +kernel
theorem dX3_loosen_16 : decode cX3_loosen 16 = .ok (.aload_n 0, 1) := by decide +kernel
theorem dX3_loosen_17 : decode cX3_loosen 17 = .ok (.getfield 9, 3) := by decide +kernel
theorem dX3_loosen_20 : decode cX3_loosen 20 = .ok (.iload_n 1, 1) := by decide +kernel
theorem dX3_loosen_21 : decode cX3_loosen 21 = .ok (.dup2, 1) := by decide +kernel
theorem dX3_loosen_22 : decode cX3_loosen 22 = .ok (.iaload, 1) := by decide +kernel
theorem dX3_loosen_23 : decode cX3_loosen 23 = .ok (.iload_n 2, 1) := by decide +kernel
theorem dX3_loosen_24 : decode cX3_loosen 24 = .ok (.invokestatic 36, 3) := by decide +kernel
theorem dX3_loosen_27 : decode cX3_loosen 27 = .ok (.iconst (-1), 1) := by decide +kernel
theorem dX3_loosen_28 : decode cX3_loosen 28 = .ok (.ixor, 1) := by decide +kernel
theorem dX3_loosen_29 : decode cX3_loosen 29 = .ok (.iand, 1) := by decide +kernel
theorem dX3_loosen_30 : decode cX3_loosen 30 = .ok (.iastore, 1) := by decide +kernel
theorem dX3_loosen_31 : decode cX3_loosen 31 = .ok (.aload_n 0, 1) := by decide +kernel
theorem dX3_loosen_32 : decode cX3_loosen 32 = .ok (.getfield 9, 3) := by decide +kernel
theorem dX3_loosen_35 : decode cX3_loosen 35 = .ok (.iload_n 2, 1) := by decide +kernel
theorem dX3_loosen_36 : decode cX3_loosen 36 = .ok (.dup2, 1) := by decide +kernel
theorem dX3_loosen_37 : decode cX3_loosen 37 = .ok (.iaload, 1) := by decide +kernel
end
section
theorem dX3_loosen_38 : decode cX3_loosen 38 = .ok (.iload_n 1, 1) := by decide +kernel
theorem dX3_loosen_39 : decode cX3_loosen 39 = .ok (.invokestatic 36, 3) := by decide +kernel
theorem dX3_loosen_42 : decode cX3_loosen 42 = .ok (.iconst (-1), 1) := by decide +kernel
theorem dX3_loosen_43 : decode cX3_loosen 43 = .ok (.ixor, 1) := by decide +kernel
theorem dX3_loosen_44 : decode cX3_loosen 44 = .ok (.iand, 1) := by decide +kernel
theorem dX3_loosen_45 : decode cX3_loosen 45 = .ok (.iastore, 1) := by decide +kernel
theorem dX3_loosen_46 : decode cX3_loosen 46 = .ok (.return_, 1) := by decide +kernel
set_option maxRecDepth 20000 in
theorem ggX3_edgesInAll_X3_countOf : GoodIn wsX3_edgesInAll wsX3_countOf := goodIn_r _ [6, 7, 8, 9, 5, 10, 11, 12, 13, 14, 15, 16, 17, 18, 19, 20] (by decide +kernel) (by decide +kernel)
set_option maxRecDepth 20000 in
theorem gX3_edgesInAll_X3_countOf : GoodIn wsX3_edgesInAll (wsV RX3 39 RX3 yX3_countOf wsX3_countOf) := goodIn_app (goodIn_of _ (by decide +kernel)) ggX3_edgesInAll_X3_countOf
theorem dX3_edgesInAll_0 : decode cX3_edgesInAll 0 = .ok (.iconst 0, 1) := by decide +kernel
theorem dX3_edgesInAll_1 : decode cX3_edgesInAll 1 = .ok (.istore_n 1, 1) := by decide +kernel
theorem dX3_edgesInAll_2 : decode cX3_edgesInAll 2 = .ok (.iconst 0, 1) := by decide +kernel
theorem dX3_edgesInAll_3 : decode cX3_edgesInAll 3 = .ok (.istore_n 2, 1) := by decide +kernel
theorem dX3_edgesInAll_4 : decode cX3_edgesInAll 4 = .ok (.iload_n 2, 1) := by decide +kernel
theorem dX3_edgesInAll_5 : decode cX3_edgesInAll 5 = .ok (.aload_n 0, 1) := by decide +kernel
theorem dX3_edgesInAll_6 : decode cX3_edgesInAll 6 = .ok (.getfield 15, 3) := by decide +kernel
theorem dX3_edgesInAll_9 : decode cX3_edgesInAll 9 = .ok (.if_icmp .ge 17, 3) := by decide +kernel
theorem dX3_edgesInAll_12 : decode cX3_edgesInAll 12 = .ok (.iload_n 1, 1) := by decide +kernel
theorem dX3_edgesInAll_13 : decode cX3_edgesInAll 13 = .ok (.aload_n 0, 1) := by decide +kernel
theorem dX3_edgesInAll_14 : decode cX3_edgesInAll 14 = .ok (.iload_n 2, 1) := by decide +kernel
theorem dX3_edgesInAll_15 : decode cX3_edgesInAll 15 = .ok (.invokevirtual 39, 3) := by decide +kernel
theorem dX3_edgesInAll_18 : decode cX3_edgesInAll 18 = .ok (.iadd, 1) := by decide +kernel
theorem dX3_edgesInAll_19 : decode cX3_edgesInAll 19 = .ok (.istore_n 1, 1) := by decide +kernel
theorem dX3_edgesInAll_20 : decode cX3_edgesInAll 20 = .ok (.iinc 2 1, 3) := by decide +kernel
theorem dX3_edgesInAll_23 : decode cX3_edgesInAll 23 = .ok (.goto (-19), 3) := by decide +kernel
theorem dX3_edgesInAll_26 : decode cX3_edgesInAll 26 = .ok (.iload_n 1, 1) := by decide +kernel
theorem dX3_edgesInAll_27 : decode cX3_edgesInAll 27 = .ok (.iconst 2, 1) := by decide +kernel
theorem dX3_edgesInAll_28 : decode cX3_edgesInAll 28 = .ok (.idiv, 1) := by decide +kernel
theorem dX3_edgesInAll_29 : decode cX3_edgesInAll 29 = .ok (.ireturn, 1) := by decide +kernel
set_option maxRecDepth 20000 in
theorem ggX3_edgeAt_X3_nearOf : GoodIn wsX3_edgeAt wsX3_nearOf := goodIn_r _ [6, 7, 26, 27] (by decide +kernel) (by decide +kernel)
set_option maxRecDepth 20000 in
theorem gX3_edgeAt_X3_nearOf : GoodIn wsX3_edgeAt (wsV RX3 19 RX3 yX3_nearOf wsX3_nearOf) := goodIn_app (goodIn_of _ (by decide +kernel)) ggX3_edgeAt_X3_nearOf
set_option maxRecDepth 20000 in
theorem ggX3_edgeAt_X6_bit : GoodIn wsX3_edgeAt wsX6_bit := goodIn_r _ [10] (by decide +kernel) (by decide +kernel)
set_option maxRecDepth 20000 in
theorem gX3_edgeAt_X6_bit_n36 : GoodIn wsX3_edgeAt (wsX6_bit) := ggX3_edgeAt_X6_bit
set_option maxRecDepth 20000 in
theorem ggX3_edgeAt_J6_bitCount_0f7a4 : GoodIn wsX3_edgeAt wsJ6_bitCount_0f7a4 := goodIn_r _ [14, 15, 16, 17] (by decide +kernel) (by decide +kernel)
set_option maxRecDepth 20000 in
theorem gX3_edgeAt_J6_bitCount_0f7a4 : GoodIn wsX3_edgeAt (va_wsS RX3 27 yJ6_bitCount_0f7a4 wsJ6_bitCount_0f7a4) := goodIn_app (goodIn_of _ (by decide +kernel)) ggX3_edgeAt_J6_bitCount_0f7a4
set_option maxRecDepth 20000 in
theorem ggX3_edgeAt_X3_numberedIn : GoodIn wsX3_edgeAt wsX3_numberedIn := goodIn_r _ [20, 21, 9, 22, 23, 12, 13, 14, 15, 16, 17] (by decide +kernel) (by decide +kernel)
set_option maxRecDepth 20000 in
theorem gX3_edgeAt_X3_numberedIn : GoodIn wsX3_edgeAt (va_wsS RX3 42 yX3_numberedIn wsX3_numberedIn) := goodIn_app (goodIn_of _ (by decide +kernel)) ggX3_edgeAt_X3_numberedIn
set_option maxRecDepth 20000 in
theorem ggX3_edgeAt_X6_pairOf : GoodIn wsX3_edgeAt wsX6_pairOf := goodIn_r _ [25] (by decide +kernel) (by decide +kernel)
set_option maxRecDepth 20000 in
theorem gX3_edgeAt_X6_pairOf_n46 : GoodIn wsX3_edgeAt (wsX6_pairOf) := ggX3_edgeAt_X6_pairOf
theorem dX3_edgeAt_0 : decode cX3_edgeAt 0 = .ok (.iload_n 1, 1) := by decide +kernel
theorem dX3_edgeAt_1 : decode cX3_edgeAt 1 = .ok (.istore_n 2, 1) := by decide +kernel
theorem dX3_edgeAt_2 : decode cX3_edgeAt 2 = .ok (.iconst 0, 1) := by decide +kernel
theorem dX3_edgeAt_3 : decode cX3_edgeAt 3 = .ok (.istore_n 3, 1) := by decide +kernel
theorem dX3_edgeAt_4 : decode cX3_edgeAt 4 = .ok (.iload_n 3, 1) := by decide +kernel
theorem dX3_edgeAt_5 : decode cX3_edgeAt 5 = .ok (.aload_n 0, 1) := by decide +kernel
theorem dX3_edgeAt_6 : decode cX3_edgeAt 6 = .ok (.getfield 15, 3) := by decide +kernel
theorem dX3_edgeAt_9 : decode cX3_edgeAt 9 = .ok (.if_icmp .ge 60, 3) := by decide +kernel
theorem dX3_edgeAt_12 : decode cX3_edgeAt 12 = .ok (.iload_n 2, 1) := by decide +kernel
theorem dX3_edgeAt_13 : decode cX3_edgeAt 13 = .ok (.ifCond .lt 56, 3) := by decide +kernel
theorem dX3_edgeAt_16 : decode cX3_edgeAt 16 = .ok (.aload_n 0, 1) := by decide +kernel
theorem dX3_edgeAt_17 : decode cX3_edgeAt 17 = .ok (.iload_n 3, 1) := by decide +kernel
theorem dX3_edgeAt_18 : decode cX3_edgeAt 18 = .ok (.invokevirtual 19, 3) := by decide +kernel
theorem dX3_edgeAt_21 : decode cX3_edgeAt 21 = .ok (.iload_n 3, 1) := by decide +kernel
theorem dX3_edgeAt_22 : decode cX3_edgeAt 22 = .ok (.iconst 1, 1) := by decide +kernel
theorem dX3_edgeAt_23 : decode cX3_edgeAt 23 = .ok (.iadd, 1) := by decide +kernel
theorem dX3_edgeAt_24 : decode cX3_edgeAt 24 = .ok (.invokestatic 36, 3) := by decide +kernel
theorem dX3_edgeAt_27 : decode cX3_edgeAt 27 = .ok (.iconst 1, 1) := by decide +kernel
theorem dX3_edgeAt_28 : decode cX3_edgeAt 28 = .ok (.isub, 1) := by decide +kernel
theorem dX3_edgeAt_29 : decode cX3_edgeAt 29 = .ok (.iconst (-1), 1) := by decide +kernel
theorem dX3_edgeAt_30 : decode cX3_edgeAt 30 = .ok (.ixor, 1) := by decide +kernel
theorem dX3_edgeAt_31 : decode cX3_edgeAt 31 = .ok (.iand, 1) := by decide +kernel
theorem dX3_edgeAt_32 : decode cX3_edgeAt 32 = .ok (.istore 4, 2) := by decide +kernel
theorem dX3_edgeAt_34 : decode cX3_edgeAt 34 = .ok (.iload 4, 2) := by decide +kernel
theorem dX3_edgeAt_36 : decode cX3_edgeAt 36 = .ok (.invokestatic 27, 3) := by decide +kernel
theorem dX3_edgeAt_39 : decode cX3_edgeAt 39 = .ok (.istore 5, 2) := by decide +kernel
theorem dX3_edgeAt_41 : decode cX3_edgeAt 41 = .ok (.iload_n 2, 1) := by decide +kernel
theorem dX3_edgeAt_42 : decode cX3_edgeAt 42 = .ok (.iload 5, 2) := by decide +kernel
theorem dX3_edgeAt_44 : decode cX3_edgeAt 44 = .ok (.if_icmp .ge 14, 3) := by decide +kernel
theorem dX3_edgeAt_47 : decode cX3_edgeAt 47 = .ok (.iload_n 3, 1) := by decide +kernel
theorem dX3_edgeAt_48 : decode cX3_edgeAt 48 = .ok (.iload 4, 2) := by decide +kernel
theorem dX3_edgeAt_50 : decode cX3_edgeAt 50 = .ok (.iload_n 2, 1) := by decide +kernel
theorem dX3_edgeAt_51 : decode cX3_edgeAt 51 = .ok (.invokestatic 42, 3) := by decide +kernel
theorem dX3_edgeAt_54 : decode cX3_edgeAt 54 = .ok (.invokestatic 46, 3) := by decide +kernel
theorem dX3_edgeAt_57 : decode cX3_edgeAt 57 = .ok (.ireturn, 1) := by decide +kernel
theorem dX3_edgeAt_58 : decode cX3_edgeAt 58 = .ok (.iload_n 2, 1) := by decide +kernel
theorem dX3_edgeAt_59 : decode cX3_edgeAt 59 = .ok (.iload 5, 2) := by decide +kernel
theorem dX3_edgeAt_61 : decode cX3_edgeAt 61 = .ok (.isub, 1) := by decide +kernel
theorem dX3_edgeAt_62 : decode cX3_edgeAt 62 = .ok (.istore_n 2, 1) := by decide +kernel
theorem dX3_edgeAt_63 : decode cX3_edgeAt 63 = .ok (.iinc 3 1, 3) := by decide +kernel
theorem dX3_edgeAt_66 : decode cX3_edgeAt 66 = .ok (.goto (-62), 3) := by decide +kernel
theorem dX3_edgeAt_69 : decode cX3_edgeAt 69 = .ok (.iconst (-1), 1) := by decide +kernel
theorem dX3_edgeAt_70 : decode cX3_edgeAt 70 = .ok (.ireturn, 1) := by decide +kernel
set_option maxRecDepth 20000 in
theorem ggX3_numberedIn_X6_firstOf : GoodIn wsX3_numberedIn wsX6_firstOf := goodIn_r _ [3, 4, 5, 6, 7, 8, 9, 10] (by decide +kernel) (by decide +kernel)
set_option maxRecDepth 20000 in
theorem gX3_numberedIn_X6_firstOf_n49 : GoodIn wsX3_numberedIn (wsX6_firstOf) := ggX3_numberedIn_X6_firstOf
theorem dX3_numberedIn_0 : decode cX3_numberedIn 0 = .ok (.iload_n 0, 1) := by decide +kernel
theorem dX3_numberedIn_1 : decode cX3_numberedIn 1 = .ok (.istore_n 2, 1) := by decide +kernel
theorem dX3_numberedIn_2 : decode cX3_numberedIn 2 = .ok (.iconst 0, 1) := by decide +kernel
theorem dX3_numberedIn_3 : decode cX3_numberedIn 3 = .ok (.istore_n 3, 1) := by decide +kernel
theorem dX3_numberedIn_4 : decode cX3_numberedIn 4 = .ok (.iload_n 3, 1) := by decide +kernel
theorem dX3_numberedIn_5 : decode cX3_numberedIn 5 = .ok (.iload_n 1, 1) := by decide +kernel
theorem dX3_numberedIn_6 : decode cX3_numberedIn 6 = .ok (.if_icmp .ge 15, 3) := by decide +kernel
theorem dX3_numberedIn_9 : decode cX3_numberedIn 9 = .ok (.iload_n 2, 1) := by decide +kernel
theorem dX3_numberedIn_10 : decode cX3_numberedIn 10 = .ok (.iload_n 2, 1) := by decide +kernel
theorem dX3_numberedIn_11 : decode cX3_numberedIn 11 = .ok (.iconst 1, 1) := by decide +kernel
theorem dX3_numberedIn_12 : decode cX3_numberedIn 12 = .ok (.isub, 1) := by decide +kernel
theorem dX3_numberedIn_13 : decode cX3_numberedIn 13 = .ok (.iand, 1) := by decide +kernel
theorem dX3_numberedIn_14 : decode cX3_numberedIn 14 = .ok (.istore_n 2, 1) := by decide +kernel
theorem dX3_numberedIn_15 : decode cX3_numberedIn 15 = .ok (.iinc 3 1, 3) := by decide +kernel
theorem dX3_numberedIn_18 : decode cX3_numberedIn 18 = .ok (.goto (-14), 3) := by decide +kernel
theorem dX3_numberedIn_21 : decode cX3_numberedIn 21 = .ok (.iload_n 2, 1) := by decide +kernel
theorem dX3_numberedIn_22 : decode cX3_numberedIn 22 = .ok (.invokestatic 49, 3) := by decide +kernel
theorem dX3_numberedIn_25 : decode cX3_numberedIn 25 = .ok (.ireturn, 1) := by decide +kernel
set_option maxRecDepth 20000 in
theorem ggX3_evenCount_X3_countOf : GoodIn wsX3_evenCount wsX3_countOf := goodIn_r _ [6, 7, 8, 9, 5, 10, 11, 12, 13, 14, 15, 16, 17, 18, 19, 20] (by decide +kernel) (by decide +kernel)
set_option maxRecDepth 20000 in
theorem gX3_evenCount_X3_countOf : GoodIn wsX3_evenCount (wsV RX3 39 RX3 yX3_countOf wsX3_countOf) := goodIn_app (goodIn_of _ (by decide +kernel)) ggX3_evenCount_X3_countOf
theorem dX3_evenCount_0 : decode cX3_evenCount 0 = .ok (.aload_n 0, 1) := by decide +kernel
theorem dX3_evenCount_1 : decode cX3_evenCount 1 = .ok (.getfield 15, 3) := by decide +kernel
theorem dX3_evenCount_4 : decode cX3_evenCount 4 = .ok (.ifCond .ne 5, 3) := by decide +kernel
theorem dX3_evenCount_7 : decode cX3_evenCount 7 = .ok (.iconst (-1), 1) := by decide +kernel
theorem dX3_evenCount_8 : decode cX3_evenCount 8 = .ok (.ireturn, 1) := by decide +kernel
theorem dX3_evenCount_9 : decode cX3_evenCount 9 = .ok (.aload_n 0, 1) := by decide +kernel
theorem dX3_evenCount_10 : decode cX3_evenCount 10 = .ok (.iconst 0, 1) := by decide +kernel
theorem dX3_evenCount_11 : decode cX3_evenCount 11 = .ok (.invokevirtual 39, 3) := by decide +kernel
theorem dX3_evenCount_14 : decode cX3_evenCount 14 = .ok (.istore_n 1, 1) := by decide +kernel
theorem dX3_evenCount_15 : decode cX3_evenCount 15 = .ok (.iconst 1, 1) := by decide +kernel
theorem dX3_evenCount_16 : decode cX3_evenCount 16 = .ok (.istore_n 2, 1) := by decide +kernel
theorem dX3_evenCount_17 : decode cX3_evenCount 17 = .ok (.iload_n 2, 1) := by decide +kernel
theorem dX3_evenCount_18 : decode cX3_evenCount 18 = .ok (.aload_n 0, 1) := by decide +kernel
theorem dX3_evenCount_19 : decode cX3_evenCount 19 = .ok (.getfield 15, 3) := by decide +kernel
theorem dX3_evenCount_22 : decode cX3_evenCount 22 = .ok (.if_icmp .ge 20, 3) := by decide +kernel
theorem dX3_evenCount_25 : decode cX3_evenCount 25 = .ok (.aload_n 0, 1) := by decide +kernel
theorem dX3_evenCount_26 : decode cX3_evenCount 26 = .ok (.iload_n 2, 1) := by decide +kernel
theorem dX3_evenCount_27 : decode cX3_evenCount 27 = .ok (.invokevirtual 39, 3) := by decide +kernel
theorem dX3_evenCount_30 : decode cX3_evenCount 30 = .ok (.iload_n 1, 1) := by decide +kernel
theorem dX3_evenCount_31 : decode cX3_evenCount 31 = .ok (.if_icmp .eq 5, 3) := by decide +kernel
theorem dX3_evenCount_34 : decode cX3_evenCount 34 = .ok (.iconst (-1), 1) := by decide +kernel
theorem dX3_evenCount_35 : decode cX3_evenCount 35 = .ok (.ireturn, 1) := by decide +kernel
theorem dX3_evenCount_36 : decode cX3_evenCount 36 = .ok (.iinc 2 1, 3) := by decide +kernel
theorem dX3_evenCount_39 : decode cX3_evenCount 39 = .ok (.goto (-22), 3) := by decide +kernel
theorem dX3_evenCount_42 : decode cX3_evenCount 42 = .ok (.iload_n 1, 1) := by decide +kernel
theorem dX3_evenCount_43 : decode cX3_evenCount 43 = .ok (.ireturn, 1) := by decide +kernel
set_option maxRecDepth 20000 in
theorem ggX3_loneliest_X3_countOf : GoodIn wsX3_loneliest wsX3_countOf := goodIn_r _ [6, 7, 8, 9, 5, 10, 11, 12, 13, 14, 15, 16, 17, 18, 22, 23] (by decide +kernel) (by decide +kernel)
set_option maxRecDepth 20000 in
theorem gX3_loneliest_X3_countOf : GoodIn wsX3_loneliest (wsV RX3 39 RX3 yX3_countOf wsX3_countOf) := goodIn_app (goodIn_of _ (by decide +kernel)) ggX3_loneliest_X3_countOf
set_option maxRecDepth 20000 in
theorem ggX3_loneliest_X6_bit : GoodIn wsX3_loneliest wsX6_bit := goodIn_r _ [21] (by decide +kernel) (by decide +kernel)
set_option maxRecDepth 20000 in
theorem gX3_loneliest_X6_bit_n36 : GoodIn wsX3_loneliest (wsX6_bit) := ggX3_loneliest_X6_bit
theorem dX3_loneliest_0 : decode cX3_loneliest 0 = .ok (.iconst 0, 1) := by decide +kernel
theorem dX3_loneliest_1 : decode cX3_loneliest 1 = .ok (.istore_n 1, 1) := by decide +kernel
theorem dX3_loneliest_2 : decode cX3_loneliest 2 = .ok (.bipush 16, 2) := by decide +kernel
theorem dX3_loneliest_4 : decode cX3_loneliest 4 = .ok (.istore_n 2, 1) := by decide +kernel
theorem dX3_loneliest_5 : decode cX3_loneliest 5 = .ok (.iconst 0, 1) := by decide +kernel
theorem dX3_loneliest_6 : decode cX3_loneliest 6 = .ok (.istore_n 3, 1) := by decide +kernel
theorem dX3_loneliest_7 : decode cX3_loneliest 7 = .ok (.iload_n 3, 1) := by decide +kernel
theorem dX3_loneliest_8 : decode cX3_loneliest 8 = .ok (.aload_n 0, 1) := by decide +kernel
theorem dX3_loneliest_9 : decode cX3_loneliest 9 = .ok (.getfield 15, 3) := by decide +kernel
theorem dX3_loneliest_12 : decode cX3_loneliest 12 = .ok (.if_icmp .ge 40, 3) := by decide +kernel
theorem dX3_loneliest_15 : decode cX3_loneliest 15 = .ok (.aload_n 0, 1) := by decide +kernel
theorem dX3_loneliest_16 : decode cX3_loneliest 16 = .ok (.iload_n 3, 1) := by decide +kernel
theorem dX3_loneliest_17 : decode cX3_loneliest 17 = .ok (.invokevirtual 39, 3) := by decide +kernel
theorem dX3_loneliest_20 : decode cX3_loneliest 20 = .ok (.istore 4, 2) := by decide +kernel
theorem dX3_loneliest_22 : decode cX3_loneliest 22 = .ok (.iload 4, 2) := by decide +kernel
theorem dX3_loneliest_24 : decode cX3_loneliest 24 = .ok (.iload_n 2, 1) := by decide +kernel
theorem dX3_loneliest_25 : decode cX3_loneliest 25 = .ok (.if_icmp .ge 8, 3) := by decide +kernel
theorem dX3_loneliest_28 : decode cX3_loneliest 28 = .ok (.iload 4, 2) := by decide +kernel
theorem dX3_loneliest_30 : decode cX3_loneliest 30 = .ok (.istore_n 2, 1) := by decide +kernel
theorem dX3_loneliest_31 : decode cX3_loneliest 31 = .ok (.iconst 0, 1) := by decide +kernel
theorem dX3_loneliest_32 : decode cX3_loneliest 32 = .ok (.istore_n 1, 1) := by decide +kernel
theorem dX3_loneliest_33 : decode cX3_loneliest 33 = .ok (.iload 4, 2) := by decide +kernel
theorem dX3_loneliest_35 : decode cX3_loneliest 35 = .ok (.iload_n 2, 1) := by decide +kernel
theorem dX3_loneliest_36 : decode cX3_loneliest 36 = .ok (.if_icmp .ne 10, 3) := by decide +kernel
theorem dX3_loneliest_39 : decode cX3_loneliest 39 = .ok (.iload_n 1, 1) := by decide +kernel
theorem dX3_loneliest_40 : decode cX3_loneliest 40 = .ok (.iload_n 3, 1) := by decide +kernel
theorem dX3_loneliest_41 : decode cX3_loneliest 41 = .ok (.invokestatic 36, 3) := by decide +kernel
theorem dX3_loneliest_44 : decode cX3_loneliest 44 = .ok (.ior, 1) := by decide +kernel
theorem dX3_loneliest_45 : decode cX3_loneliest 45 = .ok (.istore_n 1, 1) := by decide +kernel
theorem dX3_loneliest_46 : decode cX3_loneliest 46 = .ok (.iinc 3 1, 3) := by decide +kernel
theorem dX3_loneliest_49 : decode cX3_loneliest 49 = .ok (.goto (-42), 3) := by decide +kernel
theorem dX3_loneliest_52 : decode cX3_loneliest 52 = .ok (.iload_n 1, 1) := by decide +kernel
theorem dX3_loneliest_53 : decode cX3_loneliest 53 = .ok (.ireturn, 1) := by decide +kernel
set_option maxRecDepth 20000 in
theorem ggX3_isMutual_X3_isNear : GoodIn wsX3_isMutual wsX3_isNear := goodIn_r _ [6, 7, 8, 9, 5, 10, 11, 12, 13, 14, 15, 16] (by decide +kernel) (by decide +kernel)
set_option maxRecDepth 20000 in
theorem gX3_isMutual_X3_isNear : GoodIn wsX3_isMutual (wsV RX3 52 RX3 yX3_isNear wsX3_isNear) := goodIn_app (goodIn_of _ (by decide +kernel)) ggX3_isMutual_X3_isNear
theorem dX3_isMutual_0 : decode cX3_isMutual 0 = .ok (.iconst 0, 1) := by decide +kernel
theorem dX3_isMutual_1 : decode cX3_isMutual 1 = .ok (.istore_n 1, 1) := by decide +kernel
theorem dX3_isMutual_2 : decode cX3_isMutual 2 = .ok (.iload_n 1, 1) := by decide +kernel
theorem dX3_isMutual_3 : decode cX3_isMutual 3 = .ok (.aload_n 0, 1) := by decide +kernel
theorem dX3_isMutual_4 : decode cX3_isMutual 4 = .ok (.getfield 15, 3) := by decide +kernel
theorem dX3_isMutual_7 : decode cX3_isMutual 7 = .ok (.if_icmp .ge 53, 3) := by decide +kernel
theorem dX3_isMutual_10 : decode cX3_isMutual 10 = .ok (.iconst 0, 1) := by decide +kernel
theorem dX3_isMutual_11 : decode cX3_isMutual 11 = .ok (.istore_n 2, 1) := by decide +kernel
theorem dX3_isMutual_12 : decode cX3_isMutual 12 = .ok (.iload_n 2, 1) := by decide +kernel
theorem dX3_isMutual_13 : decode cX3_isMutual 13 = .ok (.aload_n 0, 1) := by decide +kernel
theorem dX3_isMutual_14 : decode cX3_isMutual 14 = .ok (.getfield 15, 3) := by decide +kernel
theorem dX3_isMutual_17 : decode cX3_isMutual 17 = .ok (.if_icmp .ge 37, 3) := by decide +kernel
theorem dX3_isMutual_20 : decode cX3_isMutual 20 = .ok (.aload_n 0, 1) := by decide +kernel
theorem dX3_isMutual_21 : decode cX3_isMutual 21 = .ok (.iload_n 1, 1) := by decide +kernel
theorem dX3_isMutual_22 : decode cX3_isMutual 22 = .ok (.iload_n 2, 1) := by decide +kernel
theorem dX3_isMutual_23 : decode cX3_isMutual 23 = .ok (.invokevirtual 52, 3) := by decide +kernel
theorem dX3_isMutual_26 : decode cX3_isMutual 26 = .ok (.istore_n 3, 1) := by decide +kernel
theorem dX3_isMutual_27 : decode cX3_isMutual 27 = .ok (.iload_n 3, 1) := by decide +kernel
theorem dX3_isMutual_28 : decode cX3_isMutual 28 = .ok (.aload_n 0, 1) := by decide +kernel
theorem dX3_isMutual_29 : decode cX3_isMutual 29 = .ok (.iload_n 2, 1) := by decide +kernel
theorem dX3_isMutual_30 : decode cX3_isMutual 30 = .ok (.iload_n 1, 1) := by decide +kernel
theorem dX3_isMutual_31 : decode cX3_isMutual 31 = .ok (.invokevirtual 52, 3) := by decide +kernel
theorem dX3_isMutual_34 : decode cX3_isMutual 34 = .ok (.if_icmp .ne 12, 3) := by decide +kernel
theorem dX3_isMutual_37 : decode cX3_isMutual 37 = .ok (.iload_n 3, 1) := by decide +kernel
theorem dX3_isMutual_38 : decode cX3_isMutual 38 = .ok (.ifCond .eq 10, 3) := by decide +kernel
theorem dX3_isMutual_41 : decode cX3_isMutual 41 = .ok (.iload_n 1, 1) := by decide +kernel
theorem dX3_isMutual_42 : decode cX3_isMutual 42 = .ok (.iload_n 2, 1) := by decide +kernel
theorem dX3_isMutual_43 : decode cX3_isMutual 43 = .ok (.if_icmp .ne 5, 3) := by decide +kernel
theorem dX3_isMutual_46 : decode cX3_isMutual 46 = .ok (.iconst 0, 1) := by decide +kernel
theorem dX3_isMutual_47 : decode cX3_isMutual 47 = .ok (.ireturn, 1) := by decide +kernel
theorem dX3_isMutual_48 : decode cX3_isMutual 48 = .ok (.iinc 2 1, 3) := by decide +kernel
theorem dX3_isMutual_51 : decode cX3_isMutual 51 = .ok (.goto (-39), 3) := by decide +kernel
theorem dX3_isMutual_54 : decode cX3_isMutual 54 = .ok (.iinc 1 1, 3) := by decide +kernel
theorem dX3_isMutual_57 : decode cX3_isMutual 57 = .ok (.goto (-55), 3) := by decide +kernel
theorem dX3_isMutual_60 : decode cX3_isMutual 60 = .ok (.iconst 1, 1) := by decide +kernel
theorem dX3_isMutual_61 : decode cX3_isMutual 61 = .ok (.ireturn, 1) := by decide +kernel
theorem dX4_init_0 : decode cX4_init 0 = .ok (.aload_n 0, 1) := by decide +kernel
theorem dX4_init_1 : decode cX4_init 1 = .ok (.invokespecial 3, 3) := by decide +kernel
theorem dX4_init_4 : decode cX4_init 4 = .ok (.aload_n 0, 1) := by decide +kernel
theorem dX4_init_5 : decode cX4_init 5 = .ok (.bipush 6, 2) := by decide +kernel
theorem dX4_init_7 : decode cX4_init 7 = .ok (.newarray .int, 2) := by decide +kernel
theorem dX4_init_9 : decode cX4_init 9 = .ok (.putfield 9, 3) := by decide +kernel
theorem dX4_init_12 : decode cX4_init 12 = .ok (.return_, 1) := by decide +kernel
set_option maxRecDepth 20000 in
theorem ggX4_fewest_X6_holds : GoodIn wsX4_fewest wsX6_holds := goodIn_r _ [7] (by decide +kernel) (by decide +kernel)
set_option maxRecDepth 20000 in
theorem gX4_fewest_X6_holds_n21 : GoodIn wsX4_fewest (wsX6_holds) := ggX4_fewest_X6_holds
set_option maxRecDepth 20000 in
theorem ggX4_fewest_X5_partWith : GoodIn wsX4_fewest wsX5_partWith := goodIn_r _ [10, 11, 12, 9, 13, 14, 6, 15, 16, 17, 18, 19, 20, 21, 22, 23, 24, 25, 26, 27, 28, 29, 30, 43, 44] (by decide +kernel) (by decide +kernel)
set_option maxRecDepth 20000 in
theorem gX4_fewest_X5_partWith_n25 : GoodIn wsX4_fewest (wsX5_partWith) := ggX4_fewest_X5_partWith
set_option maxRecDepth 20000 in
theorem ggX4_fewest_X4_fewestOf : GoodIn wsX4_fewest wsX4_fewestOf := goodIn_r _ [35, 36, 37, 38, 34, 39, 40, 41, 42, 5, 6, 7, 26, 27, 28, 29, 30, 14, 15, 45, 43, 44] (by decide +kernel) (by decide +kernel)
set_option maxRecDepth 20000 in
theorem gX4_fewest_X4_fewestOf : GoodIn wsX4_fewest (wsV RX4 37 RX4 yX4_fewestOf wsX4_fewestOf) := goodIn_app (goodIn_of _ (by decide +kernel)) ggX4_fewest_X4_fewestOf
theorem dX4_fewest_0 : decode cX4_fewest 0 = .ok (.iconst 0, 1) := by decide +kernel
theorem dX4_fewest_1 : decode cX4_fewest 1 = .ok (.istore_n 2, 1) := by decide +kernel
theorem dX4_fewest_2 : decode cX4_fewest 2 = .ok (.iconst 0, 1) := by decide +kernel
theorem dX4_fewest_3 : decode cX4_fewest 3 = .ok (.istore_n 3, 1) := by decide +kernel
theorem dX4_fewest_4 : decode cX4_fewest 4 = .ok (.iconst 0, 1) := by decide +kernel
theorem dX4_fewest_5 : decode cX4_fewest 5 = .ok (.istore 4, 2) := by decide +kernel
theorem dX4_fewest_7 : decode cX4_fewest 7 = .ok (.iload 4, 2) := by decide +kernel
theorem dX4_fewest_9 : decode cX4_fewest 9 = .ok (.aload_n 1, 1) := by decide +kernel
theorem dX4_fewest_10 : decode cX4_fewest 10 = .ok (.getfield 15, 3) := by decide +kernel
theorem dX4_fewest_13 : decode cX4_fewest 13 = .ok (.if_icmp .ge 44, 3) := by decide +kernel
theorem dX4_fewest_16 : decode cX4_fewest 16 = .ok (.iload_n 3, 1) := by decide +kernel
theorem dX4_fewest_17 : decode cX4_fewest 17 = .ok (.iload 4, 2) := by decide +kernel
theorem dX4_fewest_19 : decode cX4_fewest 19 = .ok (.invokestatic 21, 3) := by decide +kernel
theorem dX4_fewest_22 : decode cX4_fewest 22 = .ok (.ifCond .ne 29, 3) := by decide +kernel
theorem dX4_fewest_25 : decode cX4_fewest 25 = .ok (.aload_n 1, 1) := by decide +kernel
theorem dX4_fewest_26 : decode cX4_fewest 26 = .ok (.iload 4, 2) := by decide +kernel
theorem dX4_fewest_28 : decode cX4_fewest 28 = .ok (.invokestatic 25, 3) := by decide +kernel
theorem dX4_fewest_31 : decode cX4_fewest 31 = .ok (.istore 5, 2) := by decide +kernel
theorem dX4_fewest_33 : decode cX4_fewest 33 = .ok (.aload_n 0, 1) := by decide +kernel
theorem dX4_fewest_34 : decode cX4_fewest 34 = .ok (.aload_n 1, 1) := by decide +kernel
theorem dX4_fewest_35 : decode cX4_fewest 35 = .ok (.iload 5, 2) := by decide +kernel
theorem dX4_fewest_37 : decode cX4_fewest 37 = .ok (.iload_n 2, 1) := by decide +kernel
theorem dX4_fewest_38 : decode cX4_fewest 38 = .ok (.iconst 1, 1) := by decide +kernel
theorem dX4_fewest_39 : decode cX4_fewest 39 = .ok (.invokestatic 31, 3) := by decide +kernel
theorem dX4_fewest_42 : decode cX4_fewest 42 = .ok (.invokevirtual 37, 3) := by decide +kernel
theorem dX4_fewest_45 : decode cX4_fewest 45 = .ok (.istore_n 2, 1) := by decide +kernel
theorem dX4_fewest_46 : decode cX4_fewest 46 = .ok (.iload_n 3, 1) := by decide +kernel
theorem dX4_fewest_47 : decode cX4_fewest 47 = .ok (.iload 5, 2) := by decide +kernel
theorem dX4_fewest_49 : decode cX4_fewest 49 = .ok (.ior, 1) := by decide +kernel
theorem dX4_fewest_50 : decode cX4_fewest 50 = .ok (.istore_n 3, 1) := by decide +kernel
theorem dX4_fewest_51 : decode cX4_fewest 51 = .ok (.iinc 4 1, 3) := by decide +kernel
theorem dX4_fewest_54 : decode cX4_fewest 54 = .ok (.goto (-47), 3) := by decide +kernel
theorem dX4_fewest_57 : decode cX4_fewest 57 = .ok (.iload_n 2, 1) := by decide +kernel
theorem dX4_fewest_58 : decode cX4_fewest 58 = .ok (.ireturn, 1) := by decide +kernel
set_option maxRecDepth 20000 in
theorem ggX4_fewestOf_X4_canPaint : GoodIn wsX4_fewestOf wsX4_canPaint := goodIn_r _ [5, 6, 7, 4, 8, 9, 10, 11, 12, 13, 14, 15, 16, 17, 18, 2, 3, 20, 21] (by decide +kernel) (by decide +kernel)
set_option maxRecDepth 20000 in
theorem gX4_fewestOf_X4_canPaint : GoodIn wsX4_fewestOf (va_wsS RX4 41 yX4_canPaint wsX4_canPaint) := goodIn_app (goodIn_of _ (by decide +kernel)) ggX4_fewestOf_X4_canPaint
theorem dX4_fewestOf_0 : decode cX4_fewestOf 0 = .ok (.iload_n 3, 1) := by decide +kernel
theorem dX4_fewestOf_1 : decode cX4_fewestOf 1 = .ok (.istore 4, 2) := by decide +kernel
theorem dX4_fewestOf_3 : decode cX4_fewestOf 3 = .ok (.iload 4, 2) := by decide +kernel
theorem dX4_fewestOf_5 : decode cX4_fewestOf 5 = .ok (.aload_n 0, 1) := by decide +kernel
theorem dX4_fewestOf_6 : decode cX4_fewestOf 6 = .ok (.getfield 9, 3) := by decide +kernel
theorem dX4_fewestOf_9 : decode cX4_fewestOf 9 = .ok (.arraylength, 1) := by decide +kernel
theorem dX4_fewestOf_10 : decode cX4_fewestOf 10 = .ok (.if_icmp .ge 54, 3) := by decide +kernel
theorem dX4_fewestOf_13 : decode cX4_fewestOf 13 = .ok (.iconst 0, 1) := by decide +kernel
theorem dX4_fewestOf_14 : decode cX4_fewestOf 14 = .ok (.istore 5, 2) := by decide +kernel
theorem dX4_fewestOf_16 : decode cX4_fewestOf 16 = .ok (.iload 5, 2) := by decide +kernel
theorem dX4_fewestOf_18 : decode cX4_fewestOf 18 = .ok (.aload_n 0, 1) := by decide +kernel
theorem dX4_fewestOf_19 : decode cX4_fewestOf 19 = .ok (.getfield 9, 3) := by decide +kernel
theorem dX4_fewestOf_22 : decode cX4_fewestOf 22 = .ok (.arraylength, 1) := by decide +kernel
theorem dX4_fewestOf_23 : decode cX4_fewestOf 23 = .ok (.if_icmp .ge 17, 3) := by decide +kernel
theorem dX4_fewestOf_26 : decode cX4_fewestOf 26 = .ok (.aload_n 0, 1) := by decide +kernel
theorem dX4_fewestOf_27 : decode cX4_fewestOf 27 = .ok (.getfield 9, 3) := by decide +kernel
theorem dX4_fewestOf_30 : decode cX4_fewestOf 30 = .ok (.iload 5, 2) := by decide +kernel
theorem dX4_fewestOf_32 : decode cX4_fewestOf 32 = .ok (.iconst 0, 1) := by decide +kernel
theorem dX4_fewestOf_33 : decode cX4_fewestOf 33 = .ok (.iastore, 1) := by decide +kernel
theorem dX4_fewestOf_34 : decode cX4_fewestOf 34 = .ok (.iinc 5 1, 3) := by decide +kernel
theorem dX4_fewestOf_37 : decode cX4_fewestOf 37 = .ok (.goto (-21), 3) := by decide +kernel
theorem dX4_fewestOf_40 : decode cX4_fewestOf 40 = .ok (.aload_n 1, 1) := by decide +kernel
theorem dX4_fewestOf_41 : decode cX4_fewestOf 41 = .ok (.aload_n 0, 1) := by decide +kernel
theorem dX4_fewestOf_42 : decode cX4_fewestOf 42 = .ok (.getfield 9, 3) := by decide +kernel
theorem dX4_fewestOf_45 : decode cX4_fewestOf 45 = .ok (.iload_n 2, 1) := by decide +kernel
theorem dX4_fewestOf_46 : decode cX4_fewestOf 46 = .ok (.iload 4, 2) := by decide +kernel
theorem dX4_fewestOf_48 : decode cX4_fewestOf 48 = .ok (.iconst 0, 1) := by decide +kernel
theorem dX4_fewestOf_49 : decode cX4_fewestOf 49 = .ok (.invokestatic 41, 3) := by decide +kernel
theorem dX4_fewestOf_52 : decode cX4_fewestOf 52 = .ok (.ifCond .eq 6, 3) := by decide +kernel
theorem dX4_fewestOf_55 : decode cX4_fewestOf 55 = .ok (.iload 4, 2) := by decide +kernel
theorem dX4_fewestOf_57 : decode cX4_fewestOf 57 = .ok (.ireturn, 1) := by decide +kernel
theorem dX4_fewestOf_58 : decode cX4_fewestOf 58 = .ok (.iinc 4 1, 3) := by decide +kernel
theorem dX4_fewestOf_61 : decode cX4_fewestOf 61 = .ok (.goto (-58), 3) := by decide +kernel
theorem dX4_fewestOf_64 : decode cX4_fewestOf 64 = .ok (.aload_n 0, 1) := by decide +kernel
theorem dX4_fewestOf_65 : decode cX4_fewestOf 65 = .ok (.getfield 9, 3) := by decide +kernel
theorem dX4_fewestOf_68 : decode cX4_fewestOf 68 = .ok (.arraylength, 1) := by decide +kernel
theorem dX4_fewestOf_69 : decode cX4_fewestOf 69 = .ok (.ireturn, 1) := by decide +kernel
set_option maxRecDepth 20000 in
theorem ggX4_canPaint_X4_hardest : GoodIn wsX4_canPaint wsX4_hardest := goodIn_r _ [4, 5, 6, 7, 8, 9, 10, 11, 12, 17, 18] (by decide +kernel) (by decide +kernel)
set_option maxRecDepth 20000 in
theorem gX4_canPaint_X4_hardest : GoodIn wsX4_canPaint (va_wsS RX4 45 yX4_hardest wsX4_hardest) := goodIn_app (goodIn_of _ (by decide +kernel)) ggX4_canPaint_X4_hardest
set_option maxRecDepth 20000 in
theorem ggX4_canPaint_X3_nearOf : GoodIn wsX4_canPaint wsX3_nearOf := goodIn_r _ [11, 12, 17, 18] (by decide +kernel) (by decide +kernel)
set_option maxRecDepth 20000 in
theorem gX4_canPaint_X3_nearOf_n49 : GoodIn wsX4_canPaint (wsX3_nearOf) := ggX4_canPaint_X3_nearOf
set_option maxRecDepth 20000 in
theorem ggX4_canPaint_X6_bit : GoodIn wsX4_canPaint wsX6_bit := goodIn_r _ [14] (by decide +kernel) (by decide +kernel)
set_option maxRecDepth 20000 in
theorem gX4_canPaint_X6_bit_n53 : GoodIn wsX4_canPaint (wsX6_bit) := ggX4_canPaint_X6_bit
set_option maxRecDepth 20000 in
theorem ggX4_canPaint_X4_canPaint : GoodIn wsX4_canPaint wsX4_canPaint := goodIn_r _ [0, 1, 2, 3, 4, 5, 6, 7, 8, 9, 10, 11, 12, 13, 14, 15, 16, 17, 18] (by decide +kernel) (by decide +kernel)
set_option maxRecDepth 20000 in
theorem gX4_canPaint_X4_canPaint : GoodIn wsX4_canPaint (va_wsS RX4 41 yX4_canPaint wsX4_canPaint) := goodIn_app (goodIn_of _ (by decide +kernel)) ggX4_canPaint_X4_canPaint
theorem dX4_canPaint_0 : decode cX4_canPaint 0 = .ok (.iload_n 2, 1) := by decide +kernel
theorem dX4_canPaint_1 : decode cX4_canPaint 1 = .ok (.ifCond .ne 5, 3) := by decide +kernel
theorem dX4_canPaint_4 : decode cX4_canPaint 4 = .ok (.iconst 1, 1) := by decide +kernel
theorem dX4_canPaint_5 : decode cX4_canPaint 5 = .ok (.ireturn, 1) := by decide +kernel
theorem dX4_canPaint_6 : decode cX4_canPaint 6 = .ok (.iload 4, 2) := by decide +kernel
theorem dX4_canPaint_8 : decode cX4_canPaint 8 = .ok (.bipush 16, 2) := by decide +kernel
theorem dX4_canPaint_10 : decode cX4_canPaint 10 = .ok (.if_icmp .lt 5, 3) := by decide +kernel
theorem dX4_canPaint_13 : decode cX4_canPaint 13 = .ok (.iconst 0, 1) := by decide +kernel
theorem dX4_canPaint_14 : decode cX4_canPaint 14 = .ok (.ireturn, 1) := by decide +kernel
theorem dX4_canPaint_15 : decode cX4_canPaint 15 = .ok (.aload_n 0, 1) := by decide +kernel
theorem dX4_canPaint_16 : decode cX4_canPaint 16 = .ok (.aload_n 1, 1) := by decide +kernel
theorem dX4_canPaint_17 : decode cX4_canPaint 17 = .ok (.iload_n 2, 1) := by decide +kernel
theorem dX4_canPaint_18 : decode cX4_canPaint 18 = .ok (.invokestatic 45, 3) := by decide +kernel
theorem dX4_canPaint_21 : decode cX4_canPaint 21 = .ok (.istore 5, 2) := by decide +kernel
theorem dX4_canPaint_23 : decode cX4_canPaint 23 = .ok (.iconst 0, 1) := by decide +kernel
theorem dX4_canPaint_24 : decode cX4_canPaint 24 = .ok (.istore 6, 2) := by decide +kernel
theorem dX4_canPaint_26 : decode cX4_canPaint 26 = .ok (.iload 6, 2) := by decide +kernel
theorem dX4_canPaint_28 : decode cX4_canPaint 28 = .ok (.iload_n 3, 1) := by decide +kernel
theorem dX4_canPaint_29 : decode cX4_canPaint 29 = .ok (.if_icmp .ge 104, 3) := by decide +kernel
theorem dX4_canPaint_32 : decode cX4_canPaint 32 = .ok (.iload 6, 2) := by decide +kernel
theorem dX4_canPaint_34 : decode cX4_canPaint 34 = .ok (.aload_n 1, 1) := by decide +kernel
theorem dX4_canPaint_35 : decode cX4_canPaint 35 = .ok (.arraylength, 1) := by decide +kernel
theorem dX4_canPaint_36 : decode cX4_canPaint 36 = .ok (.if_icmp .ge 97, 3) := by decide +kernel
theorem dX4_canPaint_39 : decode cX4_canPaint 39 = .ok (.aload_n 1, 1) := by decide +kernel
theorem dX4_canPaint_40 : decode cX4_canPaint 40 = .ok (.iload 6, 2) := by decide +kernel
theorem dX4_canPaint_42 : decode cX4_canPaint 42 = .ok (.iaload, 1) := by decide +kernel
theorem dX4_canPaint_43 : decode cX4_canPaint 43 = .ok (.aload_n 0, 1) := by decide +kernel
theorem dX4_canPaint_44 : decode cX4_canPaint 44 = .ok (.iload 5, 2) := by decide +kernel
theorem dX4_canPaint_46 : decode cX4_canPaint 46 = .ok (.invokevirtual 49, 3) := by decide +kernel
theorem dX4_canPaint_49 : decode cX4_canPaint 49 = .ok (.iand, 1) := by decide +kernel
theorem dX4_canPaint_50 : decode cX4_canPaint 50 = .ok (.ifCond .eq 6, 3) := by decide +kernel
theorem dX4_canPaint_53 : decode cX4_canPaint 53 = .ok (.goto 74, 3) := by decide +kernel
theorem dX4_canPaint_56 : decode cX4_canPaint 56 = .ok (.aload_n 1, 1) := by decide +kernel
theorem dX4_canPaint_57 : decode cX4_canPaint 57 = .ok (.iload 6, 2) := by decide +kernel
theorem dX4_canPaint_59 : decode cX4_canPaint 59 = .ok (.iaload, 1) := by decide +kernel
theorem dX4_canPaint_60 : decode cX4_canPaint 60 = .ok (.ifCond .ne 7, 3) := by decide +kernel
theorem dX4_canPaint_63 : decode cX4_canPaint 63 = .ok (.iconst 1, 1) := by decide +kernel
theorem dX4_canPaint_64 : decode cX4_canPaint 64 = .ok (.goto 4, 3) := by decide +kernel
theorem dX4_canPaint_67 : decode cX4_canPaint 67 = .ok (.iconst 0, 1) := by decide +kernel
theorem dX4_canPaint_68 : decode cX4_canPaint 68 = .ok (.istore 7, 2) := by decide +kernel
theorem dX4_canPaint_70 : decode cX4_canPaint 70 = .ok (.aload_n 1, 1) := by decide +kernel
theorem dX4_canPaint_71 : decode cX4_canPaint 71 = .ok (.iload 6, 2) := by decide +kernel
theorem dX4_canPaint_73 : decode cX4_canPaint 73 = .ok (.dup2, 1) := by decide +kernel
theorem dX4_canPaint_74 : decode cX4_canPaint 74 = .ok (.iaload, 1) := by decide +kernel
theorem dX4_canPaint_75 : decode cX4_canPaint 75 = .ok (.iload 5, 2) := by decide +kernel
theorem dX4_canPaint_77 : decode cX4_canPaint 77 = .ok (.invokestatic 53, 3) := by decide +kernel
theorem dX4_canPaint_80 : decode cX4_canPaint 80 = .ok (.ior, 1) := by decide +kernel
theorem dX4_canPaint_81 : decode cX4_canPaint 81 = .ok (.iastore, 1) := by decide +kernel
theorem dX4_canPaint_82 : decode cX4_canPaint 82 = .ok (.aload_n 0, 1) := by decide +kernel
theorem dX4_canPaint_83 : decode cX4_canPaint 83 = .ok (.aload_n 1, 1) := by decide +kernel
theorem dX4_canPaint_84 : decode cX4_canPaint 84 = .ok (.iload_n 2, 1) := by decide +kernel
theorem dX4_canPaint_85 : decode cX4_canPaint 85 = .ok (.iload 5, 2) := by decide +kernel
theorem dX4_canPaint_87 : decode cX4_canPaint 87 = .ok (.invokestatic 53, 3) := by decide +kernel
theorem dX4_canPaint_90 : decode cX4_canPaint 90 = .ok (.iconst (-1), 1) := by decide +kernel
theorem dX4_canPaint_91 : decode cX4_canPaint 91 = .ok (.ixor, 1) := by decide +kernel
theorem dX4_canPaint_92 : decode cX4_canPaint 92 = .ok (.iand, 1) := by decide +kernel
theorem dX4_canPaint_93 : decode cX4_canPaint 93 = .ok (.iload_n 3, 1) := by decide +kernel
theorem dX4_canPaint_94 : decode cX4_canPaint 94 = .ok (.iload 4, 2) := by decide +kernel
theorem dX4_canPaint_96 : decode cX4_canPaint 96 = .ok (.iconst 1, 1) := by decide +kernel
theorem dX4_canPaint_97 : decode cX4_canPaint 97 = .ok (.iadd, 1) := by decide +kernel
theorem dX4_canPaint_98 : decode cX4_canPaint 98 = .ok (.invokestatic 41, 3) := by decide +kernel
theorem dX4_canPaint_101 : decode cX4_canPaint 101 = .ok (.ifCond .eq 5, 3) := by decide +kernel
theorem dX4_canPaint_104 : decode cX4_canPaint 104 = .ok (.iconst 1, 1) := by decide +kernel
theorem dX4_canPaint_105 : decode cX4_canPaint 105 = .ok (.ireturn, 1) := by decide +kernel
theorem dX4_canPaint_106 : decode cX4_canPaint 106 = .ok (.aload_n 1, 1) := by decide +kernel
theorem dX4_canPaint_107 : decode cX4_canPaint 107 = .ok (.iload 6, 2) := by decide +kernel
theorem dX4_canPaint_109 : decode cX4_canPaint 109 = .ok (.dup2, 1) := by decide +kernel
theorem dX4_canPaint_110 : decode cX4_canPaint 110 = .ok (.iaload, 1) := by decide +kernel
theorem dX4_canPaint_111 : decode cX4_canPaint 111 = .ok (.iload 5, 2) := by decide +kernel
theorem dX4_canPaint_113 : decode cX4_canPaint 113 = .ok (.invokestatic 53, 3) := by decide +kernel
theorem dX4_canPaint_116 : decode cX4_canPaint 116 = .ok (.iconst (-1), 1) := by decide +kernel
theorem dX4_canPaint_117 : decode cX4_canPaint 117 = .ok (.ixor, 1) := by decide +kernel
theorem dX4_canPaint_118 : decode cX4_canPaint 118 = .ok (.iand, 1) := by decide +kernel
theorem dX4_canPaint_119 : decode cX4_canPaint 119 = .ok (.iastore, 1) := by decide +kernel
theorem dX4_canPaint_120 : decode cX4_canPaint 120 = .ok (.iload 7, 2) := by decide +kernel
theorem dX4_canPaint_122 : decode cX4_canPaint 122 = .ok (.ifCond .eq 5, 3) := by decide +kernel
theorem dX4_canPaint_125 : decode cX4_canPaint 125 = .ok (.iconst 0, 1) := by decide +kernel
theorem dX4_canPaint_126 : decode cX4_canPaint 126 = .ok (.ireturn, 1) := by decide +kernel
theorem dX4_canPaint_127 : decode cX4_canPaint 127 = .ok (.iinc 6 1, 3) := by decide +kernel
theorem dX4_canPaint_130 : decode cX4_canPaint 130 = .ok (.goto (-104), 3) := by decide +kernel
theorem dX4_canPaint_133 : decode cX4_canPaint 133 = .ok (.iconst 0, 1) := by decide +kernel
theorem dX4_canPaint_134 : decode cX4_canPaint 134 = .ok (.ireturn, 1) := by decide +kernel
set_option maxRecDepth 20000 in
theorem ggX4_hardest_X6_holds : GoodIn wsX4_hardest wsX6_holds := goodIn_r _ [3] (by decide +kernel) (by decide +kernel)
set_option maxRecDepth 20000 in
theorem gX4_hardest_X6_holds_n21 : GoodIn wsX4_hardest (wsX6_holds) := ggX4_hardest_X6_holds
set_option maxRecDepth 20000 in
theorem ggX4_hardest_X3_nearOf : GoodIn wsX4_hardest wsX3_nearOf := goodIn_r _ [7, 8, 9, 10] (by decide +kernel) (by decide +kernel)
set_option maxRecDepth 20000 in
theorem gX4_hardest_X3_nearOf_n49 : GoodIn wsX4_hardest (wsX3_nearOf) := ggX4_hardest_X3_nearOf
theorem dX4_hardest_0 : decode cX4_hardest 0 = .ok (.iconst (-1), 1) := by decide +kernel
theorem dX4_hardest_1 : decode cX4_hardest 1 = .ok (.istore_n 3, 1) := by decide +kernel
theorem dX4_hardest_2 : decode cX4_hardest 2 = .ok (.iconst (-1), 1) := by decide +kernel
theorem dX4_hardest_3 : decode cX4_hardest 3 = .ok (.istore 4, 2) := by decide +kernel
theorem dX4_hardest_5 : decode cX4_hardest 5 = .ok (.iconst 0, 1) := by decide +kernel
theorem dX4_hardest_6 : decode cX4_hardest 6 = .ok (.istore 5, 2) := by decide +kernel
theorem dX4_hardest_8 : decode cX4_hardest 8 = .ok (.iload 5, 2) := by decide +kernel
theorem dX4_hardest_10 : decode cX4_hardest 10 = .ok (.aload_n 0, 1) := by decide +kernel
theorem dX4_hardest_11 : decode cX4_hardest 11 = .ok (.getfield 15, 3) := by decide +kernel
theorem dX4_hardest_14 : decode cX4_hardest 14 = .ok (.if_icmp .ge 75, 3) := by decide +kernel
theorem dX4_hardest_17 : decode cX4_hardest 17 = .ok (.iload_n 2, 1) := by decide +kernel
theorem dX4_hardest_18 : decode cX4_hardest 18 = .ok (.iload 5, 2) := by decide +kernel
theorem dX4_hardest_20 : decode cX4_hardest 20 = .ok (.invokestatic 21, 3) := by decide +kernel
theorem dX4_hardest_23 : decode cX4_hardest 23 = .ok (.ifCond .eq 60, 3) := by decide +kernel
theorem dX4_hardest_26 : decode cX4_hardest 26 = .ok (.iconst 0, 1) := by decide +kernel
theorem dX4_hardest_27 : decode cX4_hardest 27 = .ok (.istore 6, 2) := by decide +kernel
theorem dX4_hardest_29 : decode cX4_hardest 29 = .ok (.iconst 0, 1) := by decide +kernel
theorem dX4_hardest_30 : decode cX4_hardest 30 = .ok (.istore 7, 2) := by decide +kernel
theorem dX4_hardest_32 : decode cX4_hardest 32 = .ok (.iload 7, 2) := by decide +kernel
theorem dX4_hardest_34 : decode cX4_hardest 34 = .ok (.aload_n 1, 1) := by decide +kernel
theorem dX4_hardest_35 : decode cX4_hardest 35 = .ok (.arraylength, 1) := by decide +kernel
theorem dX4_hardest_36 : decode cX4_hardest 36 = .ok (.if_icmp .ge 33, 3) := by decide +kernel
theorem dX4_hardest_39 : decode cX4_hardest 39 = .ok (.iload 6, 2) := by decide +kernel
theorem dX4_hardest_41 : decode cX4_hardest 41 = .ok (.aload_n 1, 1) := by decide +kernel
theorem dX4_hardest_42 : decode cX4_hardest 42 = .ok (.iload 7, 2) := by decide +kernel
theorem dX4_hardest_44 : decode cX4_hardest 44 = .ok (.iaload, 1) := by decide +kernel
theorem dX4_hardest_45 : decode cX4_hardest 45 = .ok (.aload_n 0, 1) := by decide +kernel
theorem dX4_hardest_46 : decode cX4_hardest 46 = .ok (.iload 5, 2) := by decide +kernel
theorem dX4_hardest_48 : decode cX4_hardest 48 = .ok (.invokevirtual 49, 3) := by decide +kernel
theorem dX4_hardest_51 : decode cX4_hardest 51 = .ok (.iand, 1) := by decide +kernel
theorem dX4_hardest_52 : decode cX4_hardest 52 = .ok (.ifCond .eq 7, 3) := by decide +kernel
theorem dX4_hardest_55 : decode cX4_hardest 55 = .ok (.iconst 1, 1) := by decide +kernel
theorem dX4_hardest_56 : decode cX4_hardest 56 = .ok (.goto 4, 3) := by decide +kernel
theorem dX4_hardest_59 : decode cX4_hardest 59 = .ok (.iconst 0, 1) := by decide +kernel
theorem dX4_hardest_60 : decode cX4_hardest 60 = .ok (.iadd, 1) := by decide +kernel
theorem dX4_hardest_61 : decode cX4_hardest 61 = .ok (.istore 6, 2) := by decide +kernel
theorem dX4_hardest_63 : decode cX4_hardest 63 = .ok (.iinc 7 1, 3) := by decide +kernel
theorem dX4_hardest_66 : decode cX4_hardest 66 = .ok (.goto (-34), 3) := by decide +kernel
theorem dX4_hardest_69 : decode cX4_hardest 69 = .ok (.iload 6, 2) := by decide +kernel
theorem dX4_hardest_71 : decode cX4_hardest 71 = .ok (.iload 4, 2) := by decide +kernel
theorem dX4_hardest_73 : decode cX4_hardest 73 = .ok (.if_icmp .le 10, 3) := by decide +kernel
theorem dX4_hardest_76 : decode cX4_hardest 76 = .ok (.iload 6, 2) := by decide +kernel
theorem dX4_hardest_78 : decode cX4_hardest 78 = .ok (.istore 4, 2) := by decide +kernel
theorem dX4_hardest_80 : decode cX4_hardest 80 = .ok (.iload 5, 2) := by decide +kernel
theorem dX4_hardest_82 : decode cX4_hardest 82 = .ok (.istore_n 3, 1) := by decide +kernel
theorem dX4_hardest_83 : decode cX4_hardest 83 = .ok (.iinc 5 1, 3) := by decide +kernel
theorem dX4_hardest_86 : decode cX4_hardest 86 = .ok (.goto (-78), 3) := by decide +kernel
theorem dX4_hardest_89 : decode cX4_hardest 89 = .ok (.iload_n 3, 1) := by decide +kernel
theorem dX4_hardest_90 : decode cX4_hardest 90 = .ok (.ireturn, 1) := by decide +kernel
set_option maxRecDepth 20000 in
theorem ggX5_around_J6_bitCount_0f7a4 : GoodIn wsX5_around wsJ6_bitCount_0f7a4 := goodIn_r _ [4, 5, 6, 7] (by decide +kernel) (by decide +kernel)
set_option maxRecDepth 20000 in
theorem gX5_around_J6_bitCount_0f7a4 : GoodIn wsX5_around (va_wsS RX5 9 yJ6_bitCount_0f7a4 wsJ6_bitCount_0f7a4) := goodIn_app (goodIn_of _ (by decide +kernel)) ggX5_around_J6_bitCount_0f7a4
set_option maxRecDepth 20000 in
theorem ggX5_around_X3_nearOf : GoodIn wsX5_around wsX3_nearOf := goodIn_r _ [11, 12, 13, 14] (by decide +kernel) (by decide +kernel)
set_option maxRecDepth 20000 in
theorem gX5_around_X3_nearOf_n15 : GoodIn wsX5_around (wsX3_nearOf) := ggX5_around_X3_nearOf
theorem dX5_around_0 : decode cX5_around 0 = .ok (.iconst 0, 1) := by decide +kernel
theorem dX5_around_1 : decode cX5_around 1 = .ok (.istore_n 2, 1) := by decide +kernel
theorem dX5_around_2 : decode cX5_around 2 = .ok (.iload_n 1, 1) := by decide +kernel
theorem dX5_around_3 : decode cX5_around 3 = .ok (.istore_n 3, 1) := by decide +kernel
theorem dX5_around_4 : decode cX5_around 4 = .ok (.iconst 0, 1) := by decide +kernel
theorem dX5_around_5 : decode cX5_around 5 = .ok (.istore 4, 2) := by decide +kernel
theorem dX5_around_7 : decode cX5_around 7 = .ok (.iload 4, 2) := by decide +kernel
theorem dX5_around_9 : decode cX5_around 9 = .ok (.bipush 16, 2) := by decide +kernel
theorem dX5_around_11 : decode cX5_around 11 = .ok (.if_icmp .ge 39, 3) := by decide +kernel
theorem dX5_around_14 : decode cX5_around 14 = .ok (.iload_n 3, 1) := by decide +kernel
theorem dX5_around_15 : decode cX5_around 15 = .ok (.ifCond .eq 35, 3) := by decide +kernel
theorem dX5_around_18 : decode cX5_around 18 = .ok (.iload_n 3, 1) := by decide +kernel
theorem dX5_around_19 : decode cX5_around 19 = .ok (.iload_n 3, 1) := by decide +kernel
theorem dX5_around_20 : decode cX5_around 20 = .ok (.ineg, 1) := by decide +kernel
theorem dX5_around_21 : decode cX5_around 21 = .ok (.iand, 1) := by decide +kernel
theorem dX5_around_22 : decode cX5_around 22 = .ok (.iconst 1, 1) := by decide +kernel
theorem dX5_around_23 : decode cX5_around 23 = .ok (.isub, 1) := by decide +kernel
theorem dX5_around_24 : decode cX5_around 24 = .ok (.invokestatic 9, 3) := by decide +kernel
theorem dX5_around_27 : decode cX5_around 27 = .ok (.istore 5, 2) := by decide +kernel
theorem dX5_around_29 : decode cX5_around 29 = .ok (.iload_n 2, 1) := by decide +kernel
theorem dX5_around_30 : decode cX5_around 30 = .ok (.aload_n 0, 1) := by decide +kernel
theorem dX5_around_31 : decode cX5_around 31 = .ok (.iload 5, 2) := by decide +kernel
theorem dX5_around_33 : decode cX5_around 33 = .ok (.invokevirtual 15, 3) := by decide +kernel
theorem dX5_around_36 : decode cX5_around 36 = .ok (.ior, 1) := by decide +kernel
theorem dX5_around_37 : decode cX5_around 37 = .ok (.istore_n 2, 1) := by decide +kernel
theorem dX5_around_38 : decode cX5_around 38 = .ok (.iload_n 3, 1) := by decide +kernel
theorem dX5_around_39 : decode cX5_around 39 = .ok (.iload_n 3, 1) := by decide +kernel
theorem dX5_around_40 : decode cX5_around 40 = .ok (.iconst 1, 1) := by decide +kernel
theorem dX5_around_41 : decode cX5_around 41 = .ok (.isub, 1) := by decide +kernel
theorem dX5_around_42 : decode cX5_around 42 = .ok (.iand, 1) := by decide +kernel
theorem dX5_around_43 : decode cX5_around 43 = .ok (.istore_n 3, 1) := by decide +kernel
theorem dX5_around_44 : decode cX5_around 44 = .ok (.iinc 4 1, 3) := by decide +kernel
theorem dX5_around_47 : decode cX5_around 47 = .ok (.goto (-40), 3) := by decide +kernel
theorem dX5_around_50 : decode cX5_around 50 = .ok (.iload_n 2, 1) := by decide +kernel
theorem dX5_around_51 : decode cX5_around 51 = .ok (.ireturn, 1) := by decide +kernel
set_option maxRecDepth 20000 in
theorem ggX5_within_X6_bit : GoodIn wsX5_within wsX6_bit := goodIn_r _ [3] (by decide +kernel) (by decide +kernel)
set_option maxRecDepth 20000 in
theorem gX5_within_X6_bit_n20 : GoodIn wsX5_within (wsX6_bit) := ggX5_within_X6_bit
set_option maxRecDepth 20000 in
theorem ggX5_within_X5_around : GoodIn wsX5_within wsX5_around := goodIn_r _ [7, 8, 9, 10, 11, 12, 13, 14, 15, 16, 17, 18, 19, 20, 21] (by decide +kernel) (by decide +kernel)
set_option maxRecDepth 20000 in
theorem gX5_within_X5_around : GoodIn wsX5_within (va_wsS RX5 23 yX5_around wsX5_around) := goodIn_app (goodIn_of _ (by decide +kernel)) ggX5_within_X5_around
theorem dX5_within_0 : decode cX5_within 0 = .ok (.iload_n 1, 1) := by decide +kernel
theorem dX5_within_1 : decode cX5_within 1 = .ok (.invokestatic 20, 3) := by decide +kernel
theorem dX5_within_4 : decode cX5_within 4 = .ok (.istore_n 3, 1) := by decide +kernel
theorem dX5_within_5 : decode cX5_within 5 = .ok (.iload_n 3, 1) := by decide +kernel
theorem dX5_within_6 : decode cX5_within 6 = .ok (.istore 4, 2) := by decide +kernel
theorem dX5_within_8 : decode cX5_within 8 = .ok (.iconst 0, 1) := by decide +kernel
theorem dX5_within_9 : decode cX5_within 9 = .ok (.istore 5, 2) := by decide +kernel
theorem dX5_within_11 : decode cX5_within 11 = .ok (.iload 5, 2) := by decide +kernel
theorem dX5_within_13 : decode cX5_within 13 = .ok (.iload_n 2, 1) := by decide +kernel
theorem dX5_within_14 : decode cX5_within 14 = .ok (.if_icmp .ge 31, 3) := by decide +kernel
theorem dX5_within_17 : decode cX5_within 17 = .ok (.iload 4, 2) := by decide +kernel
theorem dX5_within_19 : decode cX5_within 19 = .ok (.ifCond .eq 26, 3) := by decide +kernel
theorem dX5_within_22 : decode cX5_within 22 = .ok (.aload_n 0, 1) := by decide +kernel
theorem dX5_within_23 : decode cX5_within 23 = .ok (.iload 4, 2) := by decide +kernel
theorem dX5_within_25 : decode cX5_within 25 = .ok (.invokestatic 23, 3) := by decide +kernel
theorem dX5_within_28 : decode cX5_within 28 = .ok (.iload_n 3, 1) := by decide +kernel
theorem dX5_within_29 : decode cX5_within 29 = .ok (.iconst (-1), 1) := by decide +kernel
theorem dX5_within_30 : decode cX5_within 30 = .ok (.ixor, 1) := by decide +kernel
theorem dX5_within_31 : decode cX5_within 31 = .ok (.iand, 1) := by decide +kernel
theorem dX5_within_32 : decode cX5_within 32 = .ok (.istore 4, 2) := by decide +kernel
theorem dX5_within_34 : decode cX5_within 34 = .ok (.iload_n 3, 1) := by decide +kernel
theorem dX5_within_35 : decode cX5_within 35 = .ok (.iload 4, 2) := by decide +kernel
theorem dX5_within_37 : decode cX5_within 37 = .ok (.ior, 1) := by decide +kernel
theorem dX5_within_38 : decode cX5_within 38 = .ok (.istore_n 3, 1) := by decide +kernel
theorem dX5_within_39 : decode cX5_within 39 = .ok (.iinc 5 1, 3) := by decide +kernel
theorem dX5_within_42 : decode cX5_within 42 = .ok (.goto (-31), 3) := by decide +kernel
theorem dX5_within_45 : decode cX5_within 45 = .ok (.iload_n 3, 1) := by decide +kernel
theorem dX5_within_46 : decode cX5_within 46 = .ok (.ireturn, 1) := by decide +kernel
set_option maxRecDepth 20000 in
theorem ggX5_partWith_X5_within : GoodIn wsX5_partWith wsX5_within := goodIn_r _ [4, 5, 6, 7, 8, 9, 3, 10, 11, 12, 13, 14, 15, 16, 17, 18, 19, 20, 21, 22, 23, 24] (by decide +kernel) (by decide +kernel)
set_option maxRecDepth 20000 in
theorem gX5_partWith_X5_within : GoodIn wsX5_partWith (va_wsS RX5 29 yX5_within wsX5_within) := goodIn_app (goodIn_of _ (by decide +kernel)) ggX5_partWith_X5_within
theorem dX5_partWith_0 : decode cX5_partWith 0 = .ok (.aload_n 0, 1) := by decide +kernel
theorem dX5_partWith_1 : decode cX5_partWith 1 = .ok (.iload_n 1, 1) := by decide +kernel
theorem dX5_partWith_2 : decode cX5_partWith 2 = .ok (.bipush 16, 2) := by decide +kernel
theorem dX5_partWith_4 : decode cX5_partWith 4 = .ok (.invokestatic 29, 3) := by decide +kernel
theorem dX5_partWith_7 : decode cX5_partWith 7 = .ok (.ireturn, 1) := by decide +kernel
set_option maxRecDepth 20000 in
theorem ggX5_partsInAll_X6_holds : GoodIn wsX5_partsInAll wsX6_holds := goodIn_r _ [3] (by decide +kernel) (by decide +kernel)
set_option maxRecDepth 20000 in
theorem gX5_partsInAll_X6_holds_n37 : GoodIn wsX5_partsInAll (wsX6_holds) := ggX5_partsInAll_X6_holds
set_option maxRecDepth 20000 in
theorem ggX5_partsInAll_X5_partWith : GoodIn wsX5_partsInAll wsX5_partWith := goodIn_r _ [7, 8, 9, 6, 10, 11, 2, 12, 13, 14, 15, 16, 17, 18, 19, 20, 21, 22, 23, 24, 25, 26, 27, 28, 29] (by decide +kernel) (by decide +kernel)
set_option maxRecDepth 20000 in
theorem gX5_partsInAll_X5_partWith : GoodIn wsX5_partsInAll (va_wsS RX5 41 yX5_partWith wsX5_partWith) := goodIn_app (goodIn_of _ (by decide +kernel)) ggX5_partsInAll_X5_partWith
theorem dX5_partsInAll_0 : decode cX5_partsInAll 0 = .ok (.iconst 0, 1) := by decide +kernel
theorem dX5_partsInAll_1 : decode cX5_partsInAll 1 = .ok (.istore_n 1, 1) := by decide +kernel
theorem dX5_partsInAll_2 : decode cX5_partsInAll 2 = .ok (.iconst 0, 1) := by decide +kernel
theorem dX5_partsInAll_3 : decode cX5_partsInAll 3 = .ok (.istore_n 2, 1) := by decide +kernel
theorem dX5_partsInAll_4 : decode cX5_partsInAll 4 = .ok (.iconst 0, 1) := by decide +kernel
theorem dX5_partsInAll_5 : decode cX5_partsInAll 5 = .ok (.istore_n 3, 1) := by decide +kernel
theorem dX5_partsInAll_6 : decode cX5_partsInAll 6 = .ok (.iload_n 3, 1) := by decide +kernel
theorem dX5_partsInAll_7 : decode cX5_partsInAll 7 = .ok (.aload_n 0, 1) := by decide +kernel
theorem dX5_partsInAll_8 : decode cX5_partsInAll 8 = .ok (.getfield 33, 3) := by decide +kernel
theorem dX5_partsInAll_11 : decode cX5_partsInAll 11 = .ok (.if_icmp .ge 28, 3) := by decide +kernel
theorem dX5_partsInAll_14 : decode cX5_partsInAll 14 = .ok (.iload_n 2, 1) := by decide +kernel
theorem dX5_partsInAll_15 : decode cX5_partsInAll 15 = .ok (.iload_n 3, 1) := by decide +kernel
theorem dX5_partsInAll_16 : decode cX5_partsInAll 16 = .ok (.invokestatic 37, 3) := by decide +kernel
theorem dX5_partsInAll_19 : decode cX5_partsInAll 19 = .ok (.ifCond .ne 14, 3) := by decide +kernel
theorem dX5_partsInAll_22 : decode cX5_partsInAll 22 = .ok (.iload_n 2, 1) := by decide +kernel
theorem dX5_partsInAll_23 : decode cX5_partsInAll 23 = .ok (.aload_n 0, 1) := by decide +kernel
theorem dX5_partsInAll_24 : decode cX5_partsInAll 24 = .ok (.iload_n 3, 1) := by decide +kernel
theorem dX5_partsInAll_25 : decode cX5_partsInAll 25 = .ok (.invokestatic 41, 3) := by decide +kernel
theorem dX5_partsInAll_28 : decode cX5_partsInAll 28 = .ok (.ior, 1) := by decide +kernel
theorem dX5_partsInAll_29 : decode cX5_partsInAll 29 = .ok (.istore_n 2, 1) := by decide +kernel
theorem dX5_partsInAll_30 : decode cX5_partsInAll 30 = .ok (.iinc 1 1, 3) := by decide +kernel
theorem dX5_partsInAll_33 : decode cX5_partsInAll 33 = .ok (.iinc 3 1, 3) := by decide +kernel
theorem dX5_partsInAll_36 : decode cX5_partsInAll 36 = .ok (.goto (-30), 3) := by decide +kernel
theorem dX5_partsInAll_39 : decode cX5_partsInAll 39 = .ok (.iload_n 1, 1) := by decide +kernel
theorem dX5_partsInAll_40 : decode cX5_partsInAll 40 = .ok (.ireturn, 1) := by decide +kernel
set_option maxRecDepth 20000 in
theorem ggX5_partNumber_X6_holds : GoodIn wsX5_partNumber wsX6_holds := goodIn_r _ [3] (by decide +kernel) (by decide +kernel)
set_option maxRecDepth 20000 in
theorem gX5_partNumber_X6_holds_n37 : GoodIn wsX5_partNumber (wsX6_holds) := ggX5_partNumber_X6_holds
set_option maxRecDepth 20000 in
theorem ggX5_partNumber_X5_partWith : GoodIn wsX5_partNumber wsX5_partWith := goodIn_r _ [7, 8, 9, 6, 10, 11, 2, 12, 13, 14, 15, 16, 17, 18, 19, 20, 21, 22, 23, 24, 25, 26, 27, 28, 29] (by decide +kernel) (by decide +kernel)
set_option maxRecDepth 20000 in
theorem gX5_partNumber_X5_partWith : GoodIn wsX5_partNumber (va_wsS RX5 41 yX5_partWith wsX5_partWith) := goodIn_app (goodIn_of _ (by decide +kernel)) ggX5_partNumber_X5_partWith
theorem dX5_partNumber_0 : decode cX5_partNumber 0 = .ok (.iconst 0, 1) := by decide +kernel
theorem dX5_partNumber_1 : decode cX5_partNumber 1 = .ok (.istore_n 2, 1) := by decide +kernel
theorem dX5_partNumber_2 : decode cX5_partNumber 2 = .ok (.iconst 0, 1) := by decide +kernel
theorem dX5_partNumber_3 : decode cX5_partNumber 3 = .ok (.istore_n 3, 1) := by decide +kernel
theorem dX5_partNumber_4 : decode cX5_partNumber 4 = .ok (.iconst 0, 1) := by decide +kernel
theorem dX5_partNumber_5 : decode cX5_partNumber 5 = .ok (.istore 4, 2) := by decide +kernel
theorem dX5_partNumber_7 : decode cX5_partNumber 7 = .ok (.iload 4, 2) := by decide +kernel
theorem dX5_partNumber_9 : decode cX5_partNumber 9 = .ok (.iload_n 1, 1) := by decide +kernel
theorem dX5_partNumber_10 : decode cX5_partNumber 10 = .ok (.if_icmp .ge 40, 3) := by decide +kernel
theorem dX5_partNumber_13 : decode cX5_partNumber 13 = .ok (.iload_n 3, 1) := by decide +kernel
theorem dX5_partNumber_14 : decode cX5_partNumber 14 = .ok (.iload 4, 2) := by decide +kernel
theorem dX5_partNumber_16 : decode cX5_partNumber 16 = .ok (.invokestatic 37, 3) := by decide +kernel
theorem dX5_partNumber_19 : decode cX5_partNumber 19 = .ok (.ifCond .ne 25, 3) := by decide +kernel
theorem dX5_partNumber_22 : decode cX5_partNumber 22 = .ok (.iload_n 3, 1) := by decide +kernel
theorem dX5_partNumber_23 : decode cX5_partNumber 23 = .ok (.aload_n 0, 1) := by decide +kernel
theorem dX5_partNumber_24 : decode cX5_partNumber 24 = .ok (.iload 4, 2) := by decide +kernel
theorem dX5_partNumber_26 : decode cX5_partNumber 26 = .ok (.invokestatic 41, 3) := by decide +kernel
theorem dX5_partNumber_29 : decode cX5_partNumber 29 = .ok (.ior, 1) := by decide +kernel
theorem dX5_partNumber_30 : decode cX5_partNumber 30 = .ok (.istore_n 3, 1) := by decide +kernel
theorem dX5_partNumber_31 : decode cX5_partNumber 31 = .ok (.iload_n 3, 1) := by decide +kernel
theorem dX5_partNumber_32 : decode cX5_partNumber 32 = .ok (.iload_n 1, 1) := by decide +kernel
theorem dX5_partNumber_33 : decode cX5_partNumber 33 = .ok (.invokestatic 37, 3) := by decide +kernel
theorem dX5_partNumber_36 : decode cX5_partNumber 36 = .ok (.ifCond .eq 5, 3) := by decide +kernel
theorem dX5_partNumber_39 : decode cX5_partNumber 39 = .ok (.iload_n 2, 1) := by decide +kernel
theorem dX5_partNumber_40 : decode cX5_partNumber 40 = .ok (.ireturn, 1) := by decide +kernel
theorem dX5_partNumber_41 : decode cX5_partNumber 41 = .ok (.iinc 2 1, 3) := by decide +kernel
theorem dX5_partNumber_44 : decode cX5_partNumber 44 = .ok (.iinc 4 1, 3) := by decide +kernel
theorem dX5_partNumber_47 : decode cX5_partNumber 47 = .ok (.goto (-40), 3) := by decide +kernel
theorem dX5_partNumber_50 : decode cX5_partNumber 50 = .ok (.iload_n 2, 1) := by decide +kernel
theorem dX5_partNumber_51 : decode cX5_partNumber 51 = .ok (.ireturn, 1) := by decide +kernel
set_option maxRecDepth 20000 in
theorem ggX5_greatestDistance_X6_bit : GoodIn wsX5_greatestDistance wsX6_bit := goodIn_r _ [3] (by decide +kernel) (by decide +kernel)
set_option maxRecDepth 20000 in
theorem gX5_greatestDistance_X6_bit_n20 : GoodIn wsX5_greatestDistance (wsX6_bit) := ggX5_greatestDistance_X6_bit
set_option maxRecDepth 20000 in
theorem ggX5_greatestDistance_X5_around : GoodIn wsX5_greatestDistance wsX5_around := goodIn_r _ [7, 8, 9, 10, 11, 12, 13, 14, 15, 16, 17, 18, 19, 20, 21] (by decide +kernel) (by decide +kernel)
set_option maxRecDepth 20000 in
theorem gX5_greatestDistance_X5_around : GoodIn wsX5_greatestDistance (va_wsS RX5 23 yX5_around wsX5_around) := goodIn_app (goodIn_of _ (by decide +kernel)) ggX5_greatestDistance_X5_around
theorem dX5_greatestDistance_0 : decode cX5_greatestDistance 0 = .ok (.iload_n 1, 1) := by decide +kernel
theorem dX5_greatestDistance_1 : decode cX5_greatestDistance 1 = .ok (.invokestatic 20, 3) := by decide +kernel
theorem dX5_greatestDistance_4 : decode cX5_greatestDistance 4 = .ok (.istore_n 2, 1) := by decide +kernel
theorem dX5_greatestDistance_5 : decode cX5_greatestDistance 5 = .ok (.iload_n 2, 1) := by decide +kernel
theorem dX5_greatestDistance_6 : decode cX5_greatestDistance 6 = .ok (.istore_n 3, 1) := by decide +kernel
theorem dX5_greatestDistance_7 : decode cX5_greatestDistance 7 = .ok (.iconst 0, 1) := by decide +kernel
theorem dX5_greatestDistance_8 : decode cX5_greatestDistance 8 = .ok (.istore 4, 2) := by decide +kernel
theorem dX5_greatestDistance_10 : decode cX5_greatestDistance 10 = .ok (.iload 4, 2) := by decide +kernel
theorem dX5_greatestDistance_12 : decode cX5_greatestDistance 12 = .ok (.bipush 16, 2) := by decide +kernel
theorem dX5_greatestDistance_14 : decode cX5_greatestDistance 14 = .ok (.if_icmp .ge 30, 3) := by decide +kernel
theorem dX5_greatestDistance_17 : decode cX5_greatestDistance 17 = .ok (.aload_n 0, 1) := by decide +kernel
theorem dX5_greatestDistance_18 : decode cX5_greatestDistance 18 = .ok (.iload_n 3, 1) := by decide +kernel
theorem dX5_greatestDistance_19 : decode cX5_greatestDistance 19 = .ok (.invokestatic 23, 3) := by decide +kernel
theorem dX5_greatestDistance_22 : decode cX5_greatestDistance 22 = .ok (.iload_n 2, 1) := by decide +kernel
theorem dX5_greatestDistance_23 : decode cX5_greatestDistance 23 = .ok (.iconst (-1), 1) := by decide +kernel
theorem dX5_greatestDistance_24 : decode cX5_greatestDistance 24 = .ok (.ixor, 1) := by decide +kernel
theorem dX5_greatestDistance_25 : decode cX5_greatestDistance 25 = .ok (.iand, 1) := by decide +kernel
theorem dX5_greatestDistance_26 : decode cX5_greatestDistance 26 = .ok (.istore_n 3, 1) := by decide +kernel
theorem dX5_greatestDistance_27 : decode cX5_greatestDistance 27 = .ok (.iload_n 3, 1) := by decide +kernel
theorem dX5_greatestDistance_28 : decode cX5_greatestDistance 28 = .ok (.ifCond .ne 6, 3) := by decide +kernel
theorem dX5_greatestDistance_31 : decode cX5_greatestDistance 31 = .ok (.iload 4, 2) := by decide +kernel
theorem dX5_greatestDistance_33 : decode cX5_greatestDistance 33 = .ok (.ireturn, 1) := by decide +kernel
theorem dX5_greatestDistance_34 : decode cX5_greatestDistance 34 = .ok (.iload_n 2, 1) := by decide +kernel
theorem dX5_greatestDistance_35 : decode cX5_greatestDistance 35 = .ok (.iload_n 3, 1) := by decide +kernel
theorem dX5_greatestDistance_36 : decode cX5_greatestDistance 36 = .ok (.ior, 1) := by decide +kernel
theorem dX5_greatestDistance_37 : decode cX5_greatestDistance 37 = .ok (.istore_n 2, 1) := by decide +kernel
theorem dX5_greatestDistance_38 : decode cX5_greatestDistance 38 = .ok (.iinc 4 1, 3) := by decide +kernel
theorem dX5_greatestDistance_41 : decode cX5_greatestDistance 41 = .ok (.goto (-31), 3) := by decide +kernel
theorem dX5_greatestDistance_44 : decode cX5_greatestDistance 44 = .ok (.bipush 16, 2) := by decide +kernel
theorem dX5_greatestDistance_46 : decode cX5_greatestDistance 46 = .ok (.ireturn, 1) := by decide +kernel
set_option maxRecDepth 20000 in
theorem ggX5_width_X5_partsInAll : GoodIn wsX5_width wsX5_partsInAll := goodIn_r _ [8, 9, 10, 11, 12, 13, 7, 14, 15, 16, 17, 18, 19, 20, 21, 22, 23, 24, 25, 26, 27, 28, 29, 30, 31, 32, 33, 34, 38, 39] (by decide +kernel) (by decide +kernel)
set_option maxRecDepth 20000 in
theorem gX5_width_X5_partsInAll : GoodIn wsX5_width (va_wsS RX5 44 yX5_partsInAll wsX5_partsInAll) := goodIn_app (goodIn_of _ (by decide +kernel)) ggX5_width_X5_partsInAll
set_option maxRecDepth 20000 in
theorem ggX5_width_X5_greatestDistance : GoodIn wsX5_width wsX5_greatestDistance := goodIn_r _ [37, 18, 10, 19, 20, 21, 7, 22, 23, 24, 25, 26, 27, 28, 29, 30, 31, 32, 33, 34, 38, 39] (by decide +kernel) (by decide +kernel)
set_option maxRecDepth 20000 in
theorem gX5_width_X5_greatestDistance : GoodIn wsX5_width (va_wsS RX5 48 yX5_greatestDistance wsX5_greatestDistance) := goodIn_app (goodIn_of _ (by decide +kernel)) ggX5_width_X5_greatestDistance
theorem dX5_width_0 : decode cX5_width 0 = .ok (.aload_n 0, 1) := by decide +kernel
theorem dX5_width_1 : decode cX5_width 1 = .ok (.invokestatic 44, 3) := by decide +kernel
theorem dX5_width_4 : decode cX5_width 4 = .ok (.iconst 1, 1) := by decide +kernel
theorem dX5_width_5 : decode cX5_width 5 = .ok (.if_icmp .eq 5, 3) := by decide +kernel
theorem dX5_width_8 : decode cX5_width 8 = .ok (.iconst (-1), 1) := by decide +kernel
theorem dX5_width_9 : decode cX5_width 9 = .ok (.ireturn, 1) := by decide +kernel
theorem dX5_width_10 : decode cX5_width 10 = .ok (.iconst 0, 1) := by decide +kernel
theorem dX5_width_11 : decode cX5_width 11 = .ok (.istore_n 1, 1) := by decide +kernel
theorem dX5_width_12 : decode cX5_width 12 = .ok (.iconst 0, 1) := by decide +kernel
theorem dX5_width_13 : decode cX5_width 13 = .ok (.istore_n 2, 1) := by decide +kernel
theorem dX5_width_14 : decode cX5_width 14 = .ok (.iload_n 2, 1) := by decide +kernel
theorem dX5_width_15 : decode cX5_width 15 = .ok (.aload_n 0, 1) := by decide +kernel
theorem dX5_width_16 : decode cX5_width 16 = .ok (.getfield 33, 3) := by decide +kernel
theorem dX5_width_19 : decode cX5_width 19 = .ok (.if_icmp .ge 19, 3) := by decide +kernel
theorem dX5_width_22 : decode cX5_width 22 = .ok (.iload_n 1, 1) := by decide +kernel
theorem dX5_width_23 : decode cX5_width 23 = .ok (.aload_n 0, 1) := by decide +kernel
theorem dX5_width_24 : decode cX5_width 24 = .ok (.iload_n 2, 1) := by decide +kernel
theorem dX5_width_25 : decode cX5_width 25 = .ok (.invokestatic 48, 3) := by decide +kernel
theorem dX5_width_28 : decode cX5_width 28 = .ok (.invokestatic 51, 3) := by decide +kernel
theorem dX5_width_31 : decode cX5_width 31 = .ok (.istore_n 1, 1) := by decide +kernel
theorem dX5_width_32 : decode cX5_width 32 = .ok (.iinc 2 1, 3) := by decide +kernel
theorem dX5_width_35 : decode cX5_width 35 = .ok (.goto (-21), 3) := by decide +kernel
theorem dX5_width_38 : decode cX5_width 38 = .ok (.iload_n 1, 1) := by decide +kernel
theorem dX5_width_39 : decode cX5_width 39 = .ok (.ireturn, 1) := by decide +kernel
set_option maxRecDepth 20000 in
theorem ggX5_leastRingBy_X6_bit : GoodIn wsX5_leastRingBy wsX6_bit := goodIn_r _ [3] (by decide +kernel) (by decide +kernel)
set_option maxRecDepth 20000 in
theorem gX5_leastRingBy_X6_bit_n20 : GoodIn wsX5_leastRingBy (wsX6_bit) := ggX5_leastRingBy_X6_bit
set_option maxRecDepth 20000 in
theorem ggX5_leastRingBy_X3_nearOf : GoodIn wsX5_leastRingBy wsX3_nearOf := goodIn_r _ [7, 8, 22, 23] (by decide +kernel) (by decide +kernel)
set_option maxRecDepth 20000 in
theorem gX5_leastRingBy_X3_nearOf_n15 : GoodIn wsX5_leastRingBy (wsX3_nearOf) := ggX5_leastRingBy_X3_nearOf
set_option maxRecDepth 20000 in
theorem ggX5_leastRingBy_X5_around : GoodIn wsX5_leastRingBy wsX5_around := goodIn_r _ [12, 13, 14, 15, 16, 17, 18, 19, 4, 5, 6, 7, 8, 22, 23] (by decide +kernel) (by decide +kernel)
set_option maxRecDepth 20000 in
theorem gX5_leastRingBy_X5_around : GoodIn wsX5_leastRingBy (va_wsS RX5 23 yX5_around wsX5_around) := goodIn_app (goodIn_of _ (by decide +kernel)) ggX5_leastRingBy_X5_around
set_option maxRecDepth 20000 in
theorem ggX5_leastRingBy_X6_holds : GoodIn wsX5_leastRingBy wsX6_holds := goodIn_r _ [21] (by decide +kernel) (by decide +kernel)
set_option maxRecDepth 20000 in
theorem gX5_leastRingBy_X6_holds_n37 : GoodIn wsX5_leastRingBy (wsX6_holds) := ggX5_leastRingBy_X6_holds
theorem dX5_leastRingBy_0 : decode cX5_leastRingBy 0 = .ok (.iload_n 1, 1) := by decide +kernel
theorem dX5_leastRingBy_1 : decode cX5_leastRingBy 1 = .ok (.invokestatic 20, 3) := by decide +kernel
theorem dX5_leastRingBy_4 : decode cX5_leastRingBy 4 = .ok (.istore_n 3, 1) := by decide +kernel
theorem dX5_leastRingBy_5 : decode cX5_leastRingBy 5 = .ok (.aload_n 0, 1) := by decide +kernel
theorem dX5_leastRingBy_6 : decode cX5_leastRingBy 6 = .ok (.iload_n 1, 1) := by decide +kernel
theorem dX5_leastRingBy_7 : decode cX5_leastRingBy 7 = .ok (.invokevirtual 15, 3) := by decide +kernel
theorem dX5_leastRingBy_10 : decode cX5_leastRingBy 10 = .ok (.iload_n 2, 1) := by decide +kernel
theorem dX5_leastRingBy_11 : decode cX5_leastRingBy 11 = .ok (.invokestatic 20, 3) := by decide +kernel
theorem dX5_leastRingBy_14 : decode cX5_leastRingBy 14 = .ok (.iconst (-1), 1) := by decide +kernel
theorem dX5_leastRingBy_15 : decode cX5_leastRingBy 15 = .ok (.ixor, 1) := by decide +kernel
theorem dX5_leastRingBy_16 : decode cX5_leastRingBy 16 = .ok (.iand, 1) := by decide +kernel
theorem dX5_leastRingBy_17 : decode cX5_leastRingBy 17 = .ok (.istore 4, 2) := by decide +kernel
theorem dX5_leastRingBy_19 : decode cX5_leastRingBy 19 = .ok (.iconst 3, 1) := by decide +kernel
theorem dX5_leastRingBy_20 : decode cX5_leastRingBy 20 = .ok (.istore 5, 2) := by decide +kernel
theorem dX5_leastRingBy_22 : decode cX5_leastRingBy 22 = .ok (.iload 5, 2) := by decide +kernel
theorem dX5_leastRingBy_24 : decode cX5_leastRingBy 24 = .ok (.bipush 16, 2) := by decide +kernel
theorem dX5_leastRingBy_26 : decode cX5_leastRingBy 26 = .ok (.if_icmp .gt 43, 3) := by decide +kernel
theorem dX5_leastRingBy_29 : decode cX5_leastRingBy 29 = .ok (.iload 4, 2) := by decide +kernel
theorem dX5_leastRingBy_31 : decode cX5_leastRingBy 31 = .ok (.ifCond .eq 38, 3) := by decide +kernel
theorem dX5_leastRingBy_34 : decode cX5_leastRingBy 34 = .ok (.iload_n 3, 1) := by decide +kernel
theorem dX5_leastRingBy_35 : decode cX5_leastRingBy 35 = .ok (.iload 4, 2) := by decide +kernel
theorem dX5_leastRingBy_37 : decode cX5_leastRingBy 37 = .ok (.ior, 1) := by decide +kernel
theorem dX5_leastRingBy_38 : decode cX5_leastRingBy 38 = .ok (.istore_n 3, 1) := by decide +kernel
theorem dX5_leastRingBy_39 : decode cX5_leastRingBy 39 = .ok (.aload_n 0, 1) := by decide +kernel
theorem dX5_leastRingBy_40 : decode cX5_leastRingBy 40 = .ok (.iload 4, 2) := by decide +kernel
theorem dX5_leastRingBy_42 : decode cX5_leastRingBy 42 = .ok (.invokestatic 23, 3) := by decide +kernel
theorem dX5_leastRingBy_45 : decode cX5_leastRingBy 45 = .ok (.iload_n 3, 1) := by decide +kernel
theorem dX5_leastRingBy_46 : decode cX5_leastRingBy 46 = .ok (.iconst (-1), 1) := by decide +kernel
theorem dX5_leastRingBy_47 : decode cX5_leastRingBy 47 = .ok (.ixor, 1) := by decide +kernel
theorem dX5_leastRingBy_48 : decode cX5_leastRingBy 48 = .ok (.iand, 1) := by decide +kernel
theorem dX5_leastRingBy_49 : decode cX5_leastRingBy 49 = .ok (.istore 4, 2) := by decide +kernel
theorem dX5_leastRingBy_51 : decode cX5_leastRingBy 51 = .ok (.iload 4, 2) := by decide +kernel
theorem dX5_leastRingBy_53 : decode cX5_leastRingBy 53 = .ok (.iload_n 2, 1) := by decide +kernel
theorem dX5_leastRingBy_54 : decode cX5_leastRingBy 54 = .ok (.invokestatic 37, 3) := by decide +kernel
theorem dX5_leastRingBy_57 : decode cX5_leastRingBy 57 = .ok (.ifCond .eq 6, 3) := by decide +kernel
theorem dX5_leastRingBy_60 : decode cX5_leastRingBy 60 = .ok (.iload 5, 2) := by decide +kernel
theorem dX5_leastRingBy_62 : decode cX5_leastRingBy 62 = .ok (.ireturn, 1) := by decide +kernel
theorem dX5_leastRingBy_63 : decode cX5_leastRingBy 63 = .ok (.iinc 5 1, 3) := by decide +kernel
theorem dX5_leastRingBy_66 : decode cX5_leastRingBy 66 = .ok (.goto (-44), 3) := by decide +kernel
theorem dX5_leastRingBy_69 : decode cX5_leastRingBy 69 = .ok (.iconst (-1), 1) := by decide +kernel
theorem dX5_leastRingBy_70 : decode cX5_leastRingBy 70 = .ok (.ireturn, 1) := by decide +kernel
set_option maxRecDepth 20000 in
theorem ggX5_leastRingAt_X3_isNear : GoodIn wsX5_leastRingAt wsX3_isNear := goodIn_r _ [4, 5, 6, 7, 2, 8, 9, 10, 11, 12, 35, 36] (by decide +kernel) (by decide +kernel)
set_option maxRecDepth 20000 in
theorem gX5_leastRingAt_X3_isNear_n57 : GoodIn wsX5_leastRingAt (wsX3_isNear) := ggX5_leastRingAt_X3_isNear
set_option maxRecDepth 20000 in
theorem ggX5_leastRingAt_X5_leastRingBy : GoodIn wsX5_leastRingAt wsX5_leastRingBy := goodIn_r _ [16, 17, 11, 18, 6, 2, 7, 8, 9, 19, 20, 15, 21, 22, 23, 24, 25, 26, 27, 28, 10, 12, 35, 36] (by decide +kernel) (by decide +kernel)
set_option maxRecDepth 20000 in
theorem gX5_leastRingAt_X5_leastRingBy : GoodIn wsX5_leastRingAt (va_wsS RX5 60 yX5_leastRingBy wsX5_leastRingBy) := goodIn_app (goodIn_of _ (by decide +kernel)) ggX5_leastRingAt_X5_leastRingBy
set_option maxRecDepth 20000 in
theorem ggX5_leastRingAt_X6_lesser : GoodIn wsX5_leastRingAt wsX6_lesser := goodIn_r _ [30, 31, 32, 33, 34] (by decide +kernel) (by decide +kernel)
set_option maxRecDepth 20000 in
theorem gX5_leastRingAt_X6_lesser_n63 : GoodIn wsX5_leastRingAt (wsX6_lesser) := ggX5_leastRingAt_X6_lesser
theorem dX5_leastRingAt_0 : decode cX5_leastRingAt 0 = .ok (.iconst (-1), 1) := by decide +kernel
theorem dX5_leastRingAt_1 : decode cX5_leastRingAt 1 = .ok (.istore_n 2, 1) := by decide +kernel
theorem dX5_leastRingAt_2 : decode cX5_leastRingAt 2 = .ok (.iconst 0, 1) := by decide +kernel
theorem dX5_leastRingAt_3 : decode cX5_leastRingAt 3 = .ok (.istore_n 3, 1) := by decide +kernel
theorem dX5_leastRingAt_4 : decode cX5_leastRingAt 4 = .ok (.iload_n 3, 1) := by decide +kernel
theorem dX5_leastRingAt_5 : decode cX5_leastRingAt 5 = .ok (.aload_n 0, 1) := by decide +kernel
theorem dX5_leastRingAt_6 : decode cX5_leastRingAt 6 = .ok (.getfield 33, 3) := by decide +kernel
theorem dX5_leastRingAt_9 : decode cX5_leastRingAt 9 = .ok (.if_icmp .ge 29, 3) := by decide +kernel
theorem dX5_leastRingAt_12 : decode cX5_leastRingAt 12 = .ok (.aload_n 0, 1) := by decide +kernel
theorem dX5_leastRingAt_13 : decode cX5_leastRingAt 13 = .ok (.iload_n 1, 1) := by decide +kernel
theorem dX5_leastRingAt_14 : decode cX5_leastRingAt 14 = .ok (.iload_n 3, 1) := by decide +kernel
theorem dX5_leastRingAt_15 : decode cX5_leastRingAt 15 = .ok (.invokevirtual 57, 3) := by decide +kernel
theorem dX5_leastRingAt_18 : decode cX5_leastRingAt 18 = .ok (.ifCond .eq 14, 3) := by decide +kernel
theorem dX5_leastRingAt_21 : decode cX5_leastRingAt 21 = .ok (.iload_n 2, 1) := by decide +kernel
theorem dX5_leastRingAt_22 : decode cX5_leastRingAt 22 = .ok (.aload_n 0, 1) := by decide +kernel
theorem dX5_leastRingAt_23 : decode cX5_leastRingAt 23 = .ok (.iload_n 1, 1) := by decide +kernel
theorem dX5_leastRingAt_24 : decode cX5_leastRingAt 24 = .ok (.iload_n 3, 1) := by decide +kernel
theorem dX5_leastRingAt_25 : decode cX5_leastRingAt 25 = .ok (.invokestatic 60, 3) := by decide +kernel
theorem dX5_leastRingAt_28 : decode cX5_leastRingAt 28 = .ok (.invokestatic 63, 3) := by decide +kernel
theorem dX5_leastRingAt_31 : decode cX5_leastRingAt 31 = .ok (.istore_n 2, 1) := by decide +kernel
theorem dX5_leastRingAt_32 : decode cX5_leastRingAt 32 = .ok (.iinc 3 1, 3) := by decide +kernel
theorem dX5_leastRingAt_35 : decode cX5_leastRingAt 35 = .ok (.goto (-31), 3) := by decide +kernel
theorem dX5_leastRingAt_38 : decode cX5_leastRingAt 38 = .ok (.iload_n 2, 1) := by decide +kernel
theorem dX5_leastRingAt_39 : decode cX5_leastRingAt 39 = .ok (.ireturn, 1) := by decide +kernel
set_option maxRecDepth 20000 in
theorem ggX5_leastRing_X5_leastRingAt : GoodIn wsX5_leastRing wsX5_leastRingAt := goodIn_r _ [4, 5, 6, 7, 8, 9, 10, 11, 12, 13, 14, 15, 16, 17, 18, 3, 19, 20, 21, 22, 23, 24, 25, 26, 27, 28, 29, 30, 31, 32, 33, 34, 35, 36, 37, 38, 39] (by decide +kernel) (by decide +kernel)
set_option maxRecDepth 20000 in
theorem gX5_leastRing_X5_leastRingAt : GoodIn wsX5_leastRing (va_wsS RX5 66 yX5_leastRingAt wsX5_leastRingAt) := goodIn_app (goodIn_of _ (by decide +kernel)) ggX5_leastRing_X5_leastRingAt
set_option maxRecDepth 20000 in
theorem ggX5_leastRing_X6_lesser : GoodIn wsX5_leastRing wsX6_lesser := goodIn_r _ [33, 34, 35, 36, 37] (by decide +kernel) (by decide +kernel)
set_option maxRecDepth 20000 in
theorem gX5_leastRing_X6_lesser_n63 : GoodIn wsX5_leastRing (wsX6_lesser) := ggX5_leastRing_X6_lesser
theorem dX5_leastRing_0 : decode cX5_leastRing 0 = .ok (.iconst (-1), 1) := by decide +kernel
theorem dX5_leastRing_1 : decode cX5_leastRing 1 = .ok (.istore_n 1, 1) := by decide +kernel
theorem dX5_leastRing_2 : decode cX5_leastRing 2 = .ok (.iconst 0, 1) := by decide +kernel
theorem dX5_leastRing_3 : decode cX5_leastRing 3 = .ok (.istore_n 2, 1) := by decide +kernel
theorem dX5_leastRing_4 : decode cX5_leastRing 4 = .ok (.iload_n 2, 1) := by decide +kernel
theorem dX5_leastRing_5 : decode cX5_leastRing 5 = .ok (.aload_n 0, 1) := by decide +kernel
theorem dX5_leastRing_6 : decode cX5_leastRing 6 = .ok (.getfield 33, 3) := by decide +kernel
theorem dX5_leastRing_9 : decode cX5_leastRing 9 = .ok (.if_icmp .ge 19, 3) := by decide +kernel
theorem dX5_leastRing_12 : decode cX5_leastRing 12 = .ok (.iload_n 1, 1) := by decide +kernel
theorem dX5_leastRing_13 : decode cX5_leastRing 13 = .ok (.aload_n 0, 1) := by decide +kernel
theorem dX5_leastRing_14 : decode cX5_leastRing 14 = .ok (.iload_n 2, 1) := by decide +kernel
theorem dX5_leastRing_15 : decode cX5_leastRing 15 = .ok (.invokestatic 66, 3) := by decide +kernel
theorem dX5_leastRing_18 : decode cX5_leastRing 18 = .ok (.invokestatic 63, 3) := by decide +kernel
theorem dX5_leastRing_21 : decode cX5_leastRing 21 = .ok (.istore_n 1, 1) := by decide +kernel
theorem dX5_leastRing_22 : decode cX5_leastRing 22 = .ok (.iinc 2 1, 3) := by decide +kernel
theorem dX5_leastRing_25 : decode cX5_leastRing 25 = .ok (.goto (-21), 3) := by decide +kernel
theorem dX5_leastRing_28 : decode cX5_leastRing 28 = .ok (.iload_n 1, 1) := by decide +kernel
theorem dX5_leastRing_29 : decode cX5_leastRing 29 = .ok (.ireturn, 1) := by decide +kernel
set_option maxRecDepth 20000 in
theorem ggX6_init_X3_init : GoodIn wsX6_init wsX3_init := goodIn_r _ [31, 32, 2, 3, 26, 33, 34, 61, 62] (by decide +kernel) (by decide +kernel)
set_option maxRecDepth 20000 in
theorem gX6_init_X3_init_n11 : GoodIn wsX6_init (wsX3_init) := ggX6_init_X3_init
set_option maxRecDepth 20000 in
theorem ggX6_init_X0_init : GoodIn wsX6_init wsX0_init := goodIn_r _ [36, 37, 2, 3, 26, 38, 39, 40, 41, 42, 43, 73, 74, 75, 76, 77, 78, 79, 80, 81, 82, 83] (by decide +kernel) (by decide +kernel)
set_option maxRecDepth 20000 in
theorem gX6_init_X0_init_n25 : GoodIn wsX6_init (wsX0_init) := ggX6_init_X0_init
set_option maxRecDepth 20000 in
theorem ggX6_init_X1_init : GoodIn wsX6_init wsX1_init := goodIn_r _ [45, 46, 2, 3, 26, 47, 48, 84, 85] (by decide +kernel) (by decide +kernel)
set_option maxRecDepth 20000 in
theorem gX6_init_X1_init_n32 : GoodIn wsX6_init (wsX1_init) := ggX6_init_X1_init
set_option maxRecDepth 20000 in
theorem ggX6_init_X2_init : GoodIn wsX6_init wsX2_init := goodIn_r _ [50, 51, 2, 3, 52, 5, 6, 53, 54, 26, 55, 56, 30, 31, 32, 33, 34, 61, 62, 86, 87, 88, 89] (by decide +kernel) (by decide +kernel)
set_option maxRecDepth 20000 in
theorem gX6_init_X2_init_n39 : GoodIn wsX6_init (wsX2_init) := ggX6_init_X2_init
set_option maxRecDepth 20000 in
theorem ggX6_init_X4_init : GoodIn wsX6_init wsX4_init := goodIn_r _ [58, 59, 2, 3, 26, 60, 90] (by decide +kernel) (by decide +kernel)
set_option maxRecDepth 20000 in
theorem gX6_init_X4_init_n46 : GoodIn wsX6_init (wsX4_init) := ggX6_init_X4_init
theorem dX6_init_0 : decode cX6_init 0 = .ok (.aload_n 0, 1) := by decide +kernel
theorem dX6_init_1 : decode cX6_init 1 = .ok (.invokespecial 3, 3) := by decide +kernel
theorem dX6_init_4 : decode cX6_init 4 = .ok (.aload_n 0, 1) := by decide +kernel
theorem dX6_init_5 : decode cX6_init 5 = .ok (.new 9, 3) := by decide +kernel
theorem dX6_init_8 : decode cX6_init 8 = .ok (.dup, 1) := by decide +kernel
theorem dX6_init_9 : decode cX6_init 9 = .ok (.invokespecial 11, 3) := by decide +kernel
theorem dX6_init_12 : decode cX6_init 12 = .ok (.putfield 12, 3) := by decide +kernel
theorem dX6_init_15 : decode cX6_init 15 = .ok (.aload_n 0, 1) := by decide +kernel
theorem dX6_init_16 : decode cX6_init 16 = .ok (.new 9, 3) := by decide +kernel
theorem dX6_init_19 : decode cX6_init 19 = .ok (.dup, 1) := by decide +kernel
theorem dX6_init_20 : decode cX6_init 20 = .ok (.invokespecial 11, 3) := by decide +kernel
theorem dX6_init_23 : decode cX6_init 23 = .ok (.putfield 16, 3) := by decide +kernel
theorem dX6_init_26 : decode cX6_init 26 = .ok (.aload_n 0, 1) := by decide +kernel
theorem dX6_init_27 : decode cX6_init 27 = .ok (.iconst 5, 1) := by decide +kernel
theorem dX6_init_28 : decode cX6_init 28 = .ok (.anewarray 9, 3) := by decide +kernel
theorem dX6_init_31 : decode cX6_init 31 = .ok (.putfield 19, 3) := by decide +kernel
theorem dX6_init_34 : decode cX6_init 34 = .ok (.aload_n 0, 1) := by decide +kernel
theorem dX6_init_35 : decode cX6_init 35 = .ok (.new 23, 3) := by decide +kernel
theorem dX6_init_38 : decode cX6_init 38 = .ok (.dup, 1) := by decide +kernel
theorem dX6_init_39 : decode cX6_init 39 = .ok (.invokespecial 25, 3) := by decide +kernel
theorem dX6_init_42 : decode cX6_init 42 = .ok (.putfield 26, 3) := by decide +kernel
theorem dX6_init_45 : decode cX6_init 45 = .ok (.aload_n 0, 1) := by decide +kernel
theorem dX6_init_46 : decode cX6_init 46 = .ok (.new 30, 3) := by decide +kernel
theorem dX6_init_49 : decode cX6_init 49 = .ok (.dup, 1) := by decide +kernel
theorem dX6_init_50 : decode cX6_init 50 = .ok (.invokespecial 32, 3) := by decide +kernel
theorem dX6_init_53 : decode cX6_init 53 = .ok (.putfield 33, 3) := by decide +kernel
theorem dX6_init_56 : decode cX6_init 56 = .ok (.aload_n 0, 1) := by decide +kernel
theorem dX6_init_57 : decode cX6_init 57 = .ok (.new 37, 3) := by decide +kernel
theorem dX6_init_60 : decode cX6_init 60 = .ok (.dup, 1) := by decide +kernel
theorem dX6_init_61 : decode cX6_init 61 = .ok (.invokespecial 39, 3) := by decide +kernel
theorem dX6_init_64 : decode cX6_init 64 = .ok (.putfield 40, 3) := by decide +kernel
theorem dX6_init_67 : decode cX6_init 67 = .ok (.aload_n 0, 1) := by decide +kernel
theorem dX6_init_68 : decode cX6_init 68 = .ok (.new 44, 3) := by decide +kernel
theorem dX6_init_71 : decode cX6_init 71 = .ok (.dup, 1) := by decide +kernel
theorem dX6_init_72 : decode cX6_init 72 = .ok (.invokespecial 46, 3) := by decide +kernel
theorem dX6_init_75 : decode cX6_init 75 = .ok (.putfield 47, 3) := by decide +kernel
theorem dX6_init_78 : decode cX6_init 78 = .ok (.aload_n 0, 1) := by decide +kernel
theorem dX6_init_79 : decode cX6_init 79 = .ok (.bipush 8, 2) := by decide +kernel
theorem dX6_init_81 : decode cX6_init 81 = .ok (.newarray .int, 2) := by decide +kernel
theorem dX6_init_83 : decode cX6_init 83 = .ok (.putfield 51, 3) := by decide +kernel
theorem dX6_init_86 : decode cX6_init 86 = .ok (.aload_n 0, 1) := by decide +kernel
theorem dX6_init_87 : decode cX6_init 87 = .ok (.iconst 0, 1) := by decide +kernel
theorem dX6_init_88 : decode cX6_init 88 = .ok (.putfield 55, 3) := by decide +kernel
theorem dX6_init_91 : decode cX6_init 91 = .ok (.aload_n 0, 1) := by decide +kernel
theorem dX6_init_92 : decode cX6_init 92 = .ok (.iconst 0, 1) := by decide +kernel
theorem dX6_init_93 : decode cX6_init 93 = .ok (.putfield 59, 3) := by decide +kernel
theorem dX6_init_96 : decode cX6_init 96 = .ok (.return_, 1) := by decide +kernel
set_option maxRecDepth 20000 in
theorem ggX6_garden_X6_isWithin : GoodIn wsX6_garden wsX6_isWithin := goodIn_r _ [9] (by decide +kernel) (by decide +kernel)
set_option maxRecDepth 20000 in
theorem gX6_garden_X6_isWithin : GoodIn wsX6_garden (va_wsS RX6 62 yX6_isWithin wsX6_isWithin) := goodIn_app (goodIn_of _ (by decide +kernel)) ggX6_garden_X6_isWithin
set_option maxRecDepth 20000 in
theorem ggX6_garden_X3_lay : GoodIn wsX6_garden wsX3_lay := goodIn_r _ [13, 14, 15, 84, 85] (by decide +kernel) (by decide +kernel)
set_option maxRecDepth 20000 in
theorem gX6_garden_X3_lay_n76 : GoodIn wsX6_garden (wsX3_lay) := ggX6_garden_X3_lay
set_option maxRecDepth 20000 in
theorem ggX6_garden_X0_end : GoodIn wsX6_garden wsX0_end := goodIn_r _ [19, 20, 86, 87, 88, 89, 90, 91, 92, 93, 94, 95, 96] (by decide +kernel) (by decide +kernel)
set_option maxRecDepth 20000 in
theorem gX6_garden_X0_end_n80 : GoodIn wsX6_garden (wsX0_end) := ggX6_garden_X0_end
set_option maxRecDepth 20000 in
theorem ggX6_garden_X1_look : GoodIn wsX6_garden wsX1_look := goodIn_r _ [24, 25, 26, 11, 27, 28, 14, 29, 30, 31, 32, 33, 34, 35, 36, 15, 37, 38, 39, 40, 41, 42, 43, 7, 8, 9, 44, 45, 46, 47, 48, 49, 50, 51, 52, 53, 54, 55, 56, 57, 58, 59, 60, 61, 62, 63, 64, 65, 66, 67, 68, 69, 70, 71, 72, 22, 73, 97, 98, 84, 85] (by decide +kernel) (by decide +kernel)
set_option maxRecDepth 20000 in
theorem gX6_garden_X1_look_n83 : GoodIn wsX6_garden (wsX1_look) := ggX6_garden_X1_look
theorem dX6_garden_0 : decode cX6_garden 0 = .ok (.iload_n 1, 1) := by decide +kernel
theorem dX6_garden_1 : decode cX6_garden 1 = .ok (.iconst 3, 1) := by decide +kernel
theorem dX6_garden_2 : decode cX6_garden 2 = .ok (.bipush 16, 2) := by decide +kernel
theorem dX6_garden_4 : decode cX6_garden 4 = .ok (.invokestatic 62, 3) := by decide +kernel
theorem dX6_garden_7 : decode cX6_garden 7 = .ok (.ifCond .ne 13, 3) := by decide +kernel
theorem dX6_garden_10 : decode cX6_garden 10 = .ok (.new 66, 3) := by decide +kernel
theorem dX6_garden_13 : decode cX6_garden 13 = .ok (.dup, 1) := by decide +kernel
theorem dX6_garden_14 : decode cX6_garden 14 = .ok (.ldc 68, 2) := by decide +kernel
theorem dX6_garden_16 : decode cX6_garden 16 = .ok (.invokespecial 70, 3) := by decide +kernel
theorem dX6_garden_19 : decode cX6_garden 19 = .ok (.athrow, 1) := by decide +kernel
theorem dX6_garden_20 : decode cX6_garden 20 = .ok (.aload_n 0, 1) := by decide +kernel
theorem dX6_garden_21 : decode cX6_garden 21 = .ok (.getfield 12, 3) := by decide +kernel
theorem dX6_garden_24 : decode cX6_garden 24 = .ok (.getfield 73, 3) := by decide +kernel
theorem dX6_garden_27 : decode cX6_garden 27 = .ok (.istore_n 2, 1) := by decide +kernel
theorem dX6_garden_28 : decode cX6_garden 28 = .ok (.aload_n 0, 1) := by decide +kernel
theorem dX6_garden_29 : decode cX6_garden 29 = .ok (.getfield 12, 3) := by decide +kernel
theorem dX6_garden_32 : decode cX6_garden 32 = .ok (.iload_n 1, 1) := by decide +kernel
theorem dX6_garden_33 : decode cX6_garden 33 = .ok (.invokevirtual 76, 3) := by decide +kernel
theorem dX6_garden_36 : decode cX6_garden 36 = .ok (.aload_n 0, 1) := by decide +kernel
theorem dX6_garden_37 : decode cX6_garden 37 = .ok (.getfield 26, 3) := by decide +kernel
theorem dX6_garden_40 : decode cX6_garden 40 = .ok (.invokevirtual 80, 3) := by decide +kernel
theorem dX6_garden_43 : decode cX6_garden 43 = .ok (.aload_n 0, 1) := by decide +kernel
theorem dX6_garden_44 : decode cX6_garden 44 = .ok (.getfield 33, 3) := by decide +kernel
theorem dX6_garden_47 : decode cX6_garden 47 = .ok (.aload_n 0, 1) := by decide +kernel
theorem dX6_garden_48 : decode cX6_garden 48 = .ok (.getfield 12, 3) := by decide +kernel
theorem dX6_garden_51 : decode cX6_garden 51 = .ok (.invokevirtual 83, 3) := by decide +kernel
theorem dX6_garden_54 : decode cX6_garden 54 = .ok (.iload_n 2, 1) := by decide +kernel
theorem dX6_garden_55 : decode cX6_garden 55 = .ok (.ireturn, 1) := by decide +kernel
set_option maxRecDepth 20000 in
theorem ggX6_edge_X3_isKnot : GoodIn wsX6_edge wsX3_isKnot := goodIn_r _ [13, 14, 15, 94, 95] (by decide +kernel) (by decide +kernel)
set_option maxRecDepth 20000 in
theorem gX6_edge_X3_isKnot_n87 : GoodIn wsX6_edge (wsX3_isKnot) := ggX6_edge_X3_isKnot
set_option maxRecDepth 20000 in
theorem ggX6_edge_X3_isNear : GoodIn wsX6_edge wsX3_isNear := goodIn_r _ [18, 19, 20, 21, 11, 22, 15, 23, 24, 25, 94, 95] (by decide +kernel) (by decide +kernel)
set_option maxRecDepth 20000 in
theorem gX6_edge_X3_isNear_n98 : GoodIn wsX6_edge (wsX3_isNear) := ggX6_edge_X3_isNear
set_option maxRecDepth 20000 in
theorem ggX6_edge_X3_countOf : GoodIn wsX6_edge wsX3_countOf := goodIn_r _ [28, 19, 20, 21, 11, 22, 15, 29, 30, 31, 32, 33, 34, 35, 94, 95] (by decide +kernel) (by decide +kernel)
set_option maxRecDepth 20000 in
theorem gX6_edge_X3_countOf_n102 : GoodIn wsX6_edge (wsX3_countOf) := ggX6_edge_X3_countOf
set_option maxRecDepth 20000 in
theorem ggX6_edge_X3_join : GoodIn wsX6_edge wsX3_join := goodIn_r _ [38, 15, 39, 10, 12, 11, 13, 14, 40, 24, 41, 94, 95] (by decide +kernel) (by decide +kernel)
set_option maxRecDepth 20000 in
theorem gX6_edge_X3_join_n111 : GoodIn wsX6_edge (wsX3_join) := ggX6_edge_X3_join
set_option maxRecDepth 20000 in
theorem ggX6_edge_X3_loosen : GoodIn wsX6_edge wsX3_loosen := goodIn_r _ [44, 15, 39, 10, 12, 11, 13, 14, 40, 24, 41, 94, 95] (by decide +kernel) (by decide +kernel)
set_option maxRecDepth 20000 in
theorem gX6_edge_X3_loosen_n115 : GoodIn wsX6_edge (wsX3_loosen) := ggX6_edge_X3_loosen
set_option maxRecDepth 20000 in
theorem ggX6_edge_X0_end : GoodIn wsX6_edge wsX0_end := goodIn_r _ [48, 49, 96, 97, 98, 99, 100, 101, 102, 103, 104, 105, 106] (by decide +kernel) (by decide +kernel)
set_option maxRecDepth 20000 in
theorem gX6_edge_X0_end_n80 : GoodIn wsX6_edge (wsX0_end) := ggX6_edge_X0_end
set_option maxRecDepth 20000 in
theorem ggX6_edge_X1_look : GoodIn wsX6_edge wsX1_look := goodIn_r _ [53, 54, 55, 11, 56, 57, 14, 58, 26, 27, 28, 19, 20, 21, 22, 15, 29, 30, 31, 32, 33, 34, 35, 59, 24, 60, 61, 62, 63, 64, 65, 66, 16, 17, 18, 23, 25, 67, 68, 69, 40, 41, 70, 71, 72, 73, 74, 75, 76, 77, 78, 79, 80, 81, 82, 51, 83, 107, 108, 94, 95] (by decide +kernel) (by decide +kernel)
set_option maxRecDepth 20000 in
theorem gX6_edge_X1_look_n83 : GoodIn wsX6_edge (wsX1_look) := ggX6_edge_X1_look
theorem dX6_edge_0 : decode cX6_edge 0 = .ok (.aload_n 0, 1) := by decide +kernel
theorem dX6_edge_1 : decode cX6_edge 1 = .ok (.getfield 12, 3) := by decide +kernel
theorem dX6_edge_4 : decode cX6_edge 4 = .ok (.iload_n 1, 1) := by decide +kernel
theorem dX6_edge_5 : decode cX6_edge 5 = .ok (.invokevirtual 87, 3) := by decide +kernel
theorem dX6_edge_8 : decode cX6_edge 8 = .ok (.ifCond .eq 14, 3) := by decide +kernel
theorem dX6_edge_11 : decode cX6_edge 11 = .ok (.aload_n 0, 1) := by decide +kernel
theorem dX6_edge_12 : decode cX6_edge 12 = .ok (.getfield 12, 3) := by decide +kernel
theorem dX6_edge_15 : decode cX6_edge 15 = .ok (.iload_n 2, 1) := by decide +kernel
theorem dX6_edge_16 : decode cX6_edge 16 = .ok (.invokevirtual 87, 3) := by decide +kernel
theorem dX6_edge_19 : decode cX6_edge 19 = .ok (.ifCond .ne 13, 3) := by decide +kernel
theorem dX6_edge_22 : decode cX6_edge 22 = .ok (.new 91, 3) := by decide +kernel
theorem dX6_edge_25 : decode cX6_edge 25 = .ok (.dup, 1) := by decide +kernel
theorem dX6_edge_26 : decode cX6_edge 26 = .ok (.ldc 93, 2) := by decide +kernel
theorem dX6_edge_28 : decode cX6_edge 28 = .ok (.invokespecial 95, 3) := by decide +kernel
theorem dX6_edge_31 : decode cX6_edge 31 = .ok (.athrow, 1) := by decide +kernel
theorem dX6_edge_32 : decode cX6_edge 32 = .ok (.iload_n 1, 1) := by decide +kernel
theorem dX6_edge_33 : decode cX6_edge 33 = .ok (.iload_n 2, 1) := by decide +kernel
theorem dX6_edge_34 : decode cX6_edge 34 = .ok (.if_icmp .ne 13, 3) := by decide +kernel
theorem dX6_edge_37 : decode cX6_edge 37 = .ok (.new 66, 3) := by decide +kernel
theorem dX6_edge_40 : decode cX6_edge 40 = .ok (.dup, 1) := by decide +kernel
theorem dX6_edge_41 : decode cX6_edge 41 = .ok (.ldc 96, 2) := by decide +kernel
theorem dX6_edge_43 : decode cX6_edge 43 = .ok (.invokespecial 70, 3) := by decide +kernel
theorem dX6_edge_46 : decode cX6_edge 46 = .ok (.athrow, 1) := by decide +kernel
theorem dX6_edge_47 : decode cX6_edge 47 = .ok (.aload_n 0, 1) := by decide +kernel
theorem dX6_edge_48 : decode cX6_edge 48 = .ok (.getfield 12, 3) := by decide +kernel
theorem dX6_edge_51 : decode cX6_edge 51 = .ok (.iload_n 1, 1) := by decide +kernel
theorem dX6_edge_52 : decode cX6_edge 52 = .ok (.iload_n 2, 1) := by decide +kernel
theorem dX6_edge_53 : decode cX6_edge 53 = .ok (.invokevirtual 98, 3) := by decide +kernel
theorem dX6_edge_56 : decode cX6_edge 56 = .ok (.istore 4, 2) := by decide +kernel
theorem dX6_edge_58 : decode cX6_edge 58 = .ok (.aload_n 0, 1) := by decide +kernel
theorem dX6_edge_59 : decode cX6_edge 59 = .ok (.getfield 12, 3) := by decide +kernel
theorem dX6_edge_62 : decode cX6_edge 62 = .ok (.iload_n 1, 1) := by decide +kernel
theorem dX6_edge_63 : decode cX6_edge 63 = .ok (.invokevirtual 102, 3) := by decide +kernel
theorem dX6_edge_66 : decode cX6_edge 66 = .ok (.iconst 5, 1) := by decide +kernel
theorem dX6_edge_67 : decode cX6_edge 67 = .ok (.if_icmp .ge 15, 3) := by decide +kernel
theorem dX6_edge_70 : decode cX6_edge 70 = .ok (.aload_n 0, 1) := by decide +kernel
theorem dX6_edge_71 : decode cX6_edge 71 = .ok (.getfield 12, 3) := by decide +kernel
theorem dX6_edge_74 : decode cX6_edge 74 = .ok (.iload_n 2, 1) := by decide +kernel
theorem dX6_edge_75 : decode cX6_edge 75 = .ok (.invokevirtual 102, 3) := by decide +kernel
theorem dX6_edge_78 : decode cX6_edge 78 = .ok (.iconst 5, 1) := by decide +kernel
theorem dX6_edge_79 : decode cX6_edge 79 = .ok (.if_icmp .lt 7, 3) := by decide +kernel
theorem dX6_edge_82 : decode cX6_edge 82 = .ok (.iconst 1, 1) := by decide +kernel
theorem dX6_edge_83 : decode cX6_edge 83 = .ok (.goto 4, 3) := by decide +kernel
theorem dX6_edge_86 : decode cX6_edge 86 = .ok (.iconst 0, 1) := by decide +kernel
theorem dX6_edge_87 : decode cX6_edge 87 = .ok (.istore 5, 2) := by decide +kernel
theorem dX6_edge_89 : decode cX6_edge 89 = .ok (.iload_n 3, 1) := by decide +kernel
theorem dX6_edge_90 : decode cX6_edge 90 = .ok (.ifCond .eq 23, 3) := by decide +kernel
theorem dX6_edge_93 : decode cX6_edge 93 = .ok (.iload 4, 2) := by decide +kernel
theorem dX6_edge_95 : decode cX6_edge 95 = .ok (.ifCond .ne 18, 3) := by decide +kernel
theorem dX6_edge_98 : decode cX6_edge 98 = .ok (.iload 5, 2) := by decide +kernel
theorem dX6_edge_100 : decode cX6_edge 100 = .ok (.ifCond .eq 13, 3) := by decide +kernel
theorem dX6_edge_103 : decode cX6_edge 103 = .ok (.new 106, 3) := by decide +kernel
theorem dX6_edge_106 : decode cX6_edge 106 = .ok (.dup, 1) := by decide +kernel
theorem dX6_edge_107 : decode cX6_edge 107 = .ok (.ldc 108, 2) := by decide +kernel
theorem dX6_edge_109 : decode cX6_edge 109 = .ok (.invokespecial 110, 3) := by decide +kernel
theorem dX6_edge_112 : decode cX6_edge 112 = .ok (.athrow, 1) := by decide +kernel
theorem dX6_edge_113 : decode cX6_edge 113 = .ok (.iload_n 3, 1) := by decide +kernel
theorem dX6_edge_114 : decode cX6_edge 114 = .ok (.ifCond .eq 15, 3) := by decide +kernel
theorem dX6_edge_117 : decode cX6_edge 117 = .ok (.aload_n 0, 1) := by decide +kernel
theorem dX6_edge_118 : decode cX6_edge 118 = .ok (.getfield 12, 3) := by decide +kernel
theorem dX6_edge_121 : decode cX6_edge 121 = .ok (.iload_n 1, 1) := by decide +kernel
theorem dX6_edge_122 : decode cX6_edge 122 = .ok (.iload_n 2, 1) := by decide +kernel
theorem dX6_edge_123 : decode cX6_edge 123 = .ok (.invokevirtual 111, 3) := by decide +kernel
theorem dX6_edge_126 : decode cX6_edge 126 = .ok (.goto 12, 3) := by decide +kernel
theorem dX6_edge_129 : decode cX6_edge 129 = .ok (.aload_n 0, 1) := by decide +kernel
theorem dX6_edge_130 : decode cX6_edge 130 = .ok (.getfield 12, 3) := by decide +kernel
theorem dX6_edge_133 : decode cX6_edge 133 = .ok (.iload_n 1, 1) := by decide +kernel
theorem dX6_edge_134 : decode cX6_edge 134 = .ok (.iload_n 2, 1) := by decide +kernel
theorem dX6_edge_135 : decode cX6_edge 135 = .ok (.invokevirtual 115, 3) := by decide +kernel
theorem dX6_edge_138 : decode cX6_edge 138 = .ok (.aload_n 0, 1) := by decide +kernel
theorem dX6_edge_139 : decode cX6_edge 139 = .ok (.getfield 26, 3) := by decide +kernel
theorem dX6_edge_142 : decode cX6_edge 142 = .ok (.invokevirtual 80, 3) := by decide +kernel
theorem dX6_edge_145 : decode cX6_edge 145 = .ok (.aload_n 0, 1) := by decide +kernel
theorem dX6_edge_146 : decode cX6_edge 146 = .ok (.getfield 33, 3) := by decide +kernel
theorem dX6_edge_149 : decode cX6_edge 149 = .ok (.aload_n 0, 1) := by decide +kernel
theorem dX6_edge_150 : decode cX6_edge 150 = .ok (.getfield 12, 3) := by decide +kernel
theorem dX6_edge_153 : decode cX6_edge 153 = .ok (.invokevirtual 83, 3) := by decide +kernel
theorem dX6_edge_156 : decode cX6_edge 156 = .ok (.iload 4, 2) := by decide +kernel
theorem dX6_edge_158 : decode cX6_edge 158 = .ok (.ireturn, 1) := by decide +kernel
set_option maxRecDepth 20000 in
theorem ggX6_ring_X6_isWithin : GoodIn wsX6_ring wsX6_isWithin := goodIn_r _ [9] (by decide +kernel) (by decide +kernel)
set_option maxRecDepth 20000 in
theorem gX6_ring_X6_isWithin : GoodIn wsX6_ring (va_wsS RX6 62 yX6_isWithin wsX6_isWithin) := goodIn_app (goodIn_of _ (by decide +kernel)) ggX6_ring_X6_isWithin
set_option maxRecDepth 20000 in
theorem ggX6_ring_X6_bit : GoodIn wsX6_ring wsX6_bit := goodIn_r _ [12] (by decide +kernel) (by decide +kernel)
set_option maxRecDepth 20000 in
theorem gX6_ring_X6_bit : GoodIn wsX6_ring (va_wsS RX6 118 yX6_bit wsX6_bit) := goodIn_app (goodIn_of _ (by decide +kernel)) ggX6_ring_X6_bit
set_option maxRecDepth 20000 in
theorem ggX6_ring_X6_countByJumps : GoodIn wsX6_ring wsX6_countByJumps := goodIn_r _ [15, 16, 17, 18, 19, 20, 21, 22, 23, 24, 8, 25] (by decide +kernel) (by decide +kernel)
set_option maxRecDepth 20000 in
theorem gX6_ring_X6_countByJumps : GoodIn wsX6_ring (va_wsS RX6 123 yX6_countByJumps wsX6_countByJumps) := goodIn_app (goodIn_of _ (by decide +kernel)) ggX6_ring_X6_countByJumps
set_option maxRecDepth 20000 in
theorem ggX6_ring_X6_layByJumps : GoodIn wsX6_ring wsX6_layByJumps := goodIn_r _ [29, 5, 30, 31, 32, 33, 34, 35, 36, 37, 38, 39, 23, 24, 8, 25, 40, 41, 42, 43, 44, 45, 46, 11, 12, 94, 95, 96, 97, 98, 99, 100, 101, 102, 103, 104, 105] (by decide +kernel) (by decide +kernel)
set_option maxRecDepth 20000 in
theorem gX6_ring_X6_layByJumps : GoodIn wsX6_ring (wsV RX6 127 RX6 yX6_layByJumps wsX6_layByJumps) := goodIn_app (goodIn_of _ (by decide +kernel)) ggX6_ring_X6_layByJumps
set_option maxRecDepth 20000 in
theorem ggX6_ring_X0_end : GoodIn wsX6_ring wsX0_end := goodIn_r _ [50, 51, 106, 107, 108, 109, 110, 111, 112, 113, 114, 115, 116] (by decide +kernel) (by decide +kernel)
set_option maxRecDepth 20000 in
theorem gX6_ring_X0_end_n80 : GoodIn wsX6_ring (wsX0_end) := ggX6_ring_X0_end
set_option maxRecDepth 20000 in
theorem ggX6_ring_X1_look : GoodIn wsX6_ring wsX1_look := goodIn_r _ [55, 56, 57, 35, 58, 59, 38, 60, 61, 62, 63, 64, 65, 66, 67, 39, 68, 17, 18, 19, 20, 21, 22, 7, 8, 9, 69, 70, 71, 72, 73, 74, 75, 76, 77, 24, 25, 78, 79, 80, 11, 12, 81, 82, 83, 84, 85, 86, 30, 31, 32, 33, 87, 88, 89, 53, 90, 117, 118, 104, 105] (by decide +kernel) (by decide +kernel)
set_option maxRecDepth 20000 in
theorem gX6_ring_X1_look_n83 : GoodIn wsX6_ring (wsX1_look) := ggX6_ring_X1_look
set_option maxRecDepth 20000 in
theorem ggX6_ring_X3_edgesInAll : GoodIn wsX6_ring wsX3_edgesInAll := goodIn_r _ [93, 38, 60, 61, 62, 35, 63, 64, 65, 66, 67, 39, 68, 17, 18, 19, 20, 21, 22, 104, 105] (by decide +kernel) (by decide +kernel)
set_option maxRecDepth 20000 in
theorem gX6_ring_X3_edgesInAll_n130 : GoodIn wsX6_ring (wsX3_edgesInAll) := ggX6_ring_X3_edgesInAll
theorem dX6_ring_0 : decode cX6_ring 0 = .ok (.iload_n 1, 1) := by decide +kernel
theorem dX6_ring_1 : decode cX6_ring 1 = .ok (.iconst 3, 1) := by decide +kernel
theorem dX6_ring_2 : decode cX6_ring 2 = .ok (.bipush 16, 2) := by decide +kernel
theorem dX6_ring_4 : decode cX6_ring 4 = .ok (.invokestatic 62, 3) := by decide +kernel
theorem dX6_ring_7 : decode cX6_ring 7 = .ok (.ifCond .ne 13, 3) := by decide +kernel
theorem dX6_ring_10 : decode cX6_ring 10 = .ok (.new 66, 3) := by decide +kernel
theorem dX6_ring_13 : decode cX6_ring 13 = .ok (.dup, 1) := by decide +kernel
theorem dX6_ring_14 : decode cX6_ring 14 = .ok (.ldc 68, 2) := by decide +kernel
theorem dX6_ring_16 : decode cX6_ring 16 = .ok (.invokespecial 70, 3) := by decide +kernel
theorem dX6_ring_19 : decode cX6_ring 19 = .ok (.athrow, 1) := by decide +kernel
theorem dX6_ring_20 : decode cX6_ring 20 = .ok (.iload_n 1, 1) := by decide +kernel
theorem dX6_ring_21 : decode cX6_ring 21 = .ok (.iconst 2, 1) := by decide +kernel
theorem dX6_ring_22 : decode cX6_ring 22 = .ok (.idiv, 1) := by decide +kernel
theorem dX6_ring_23 : decode cX6_ring 23 = .ok (.iconst 1, 1) := by decide +kernel
theorem dX6_ring_24 : decode cX6_ring 24 = .ok (.iadd, 1) := by decide +kernel
theorem dX6_ring_25 : decode cX6_ring 25 = .ok (.invokestatic 118, 3) := by decide +kernel
theorem dX6_ring_28 : decode cX6_ring 28 = .ok (.iconst 1, 1) := by decide +kernel
theorem dX6_ring_29 : decode cX6_ring 29 = .ok (.isub, 1) := by decide +kernel
theorem dX6_ring_30 : decode cX6_ring 30 = .ok (.bipush (-2), 2) := by decide +kernel
theorem dX6_ring_32 : decode cX6_ring 32 = .ok (.iand, 1) := by decide +kernel
theorem dX6_ring_33 : decode cX6_ring 33 = .ok (.istore_n 3, 1) := by decide +kernel
theorem dX6_ring_34 : decode cX6_ring 34 = .ok (.iload_n 2, 1) := by decide +kernel
theorem dX6_ring_35 : decode cX6_ring 35 = .ok (.ifCond .eq 11, 3) := by decide +kernel
theorem dX6_ring_38 : decode cX6_ring 38 = .ok (.iload_n 2, 1) := by decide +kernel
theorem dX6_ring_39 : decode cX6_ring 39 = .ok (.iload_n 3, 1) := by decide +kernel
theorem dX6_ring_40 : decode cX6_ring 40 = .ok (.iconst (-1), 1) := by decide +kernel
theorem dX6_ring_41 : decode cX6_ring 41 = .ok (.ixor, 1) := by decide +kernel
theorem dX6_ring_42 : decode cX6_ring 42 = .ok (.iand, 1) := by decide +kernel
theorem dX6_ring_43 : decode cX6_ring 43 = .ok (.ifCond .eq 13, 3) := by decide +kernel
theorem dX6_ring_46 : decode cX6_ring 46 = .ok (.new 66, 3) := by decide +kernel
theorem dX6_ring_49 : decode cX6_ring 49 = .ok (.dup, 1) := by decide +kernel
theorem dX6_ring_50 : decode cX6_ring 50 = .ok (.ldc 121, 2) := by decide +kernel
theorem dX6_ring_52 : decode cX6_ring 52 = .ok (.invokespecial 70, 3) := by decide +kernel
theorem dX6_ring_55 : decode cX6_ring 55 = .ok (.athrow, 1) := by decide +kernel
theorem dX6_ring_56 : decode cX6_ring 56 = .ok (.iload_n 1, 1) := by decide +kernel
theorem dX6_ring_57 : decode cX6_ring 57 = .ok (.iload_n 2, 1) := by decide +kernel
theorem dX6_ring_58 : decode cX6_ring 58 = .ok (.invokestatic 123, 3) := by decide +kernel
theorem dX6_ring_61 : decode cX6_ring 61 = .ok (.iconst 5, 1) := by decide +kernel
theorem dX6_ring_62 : decode cX6_ring 62 = .ok (.if_icmp .le 13, 3) := by decide +kernel
theorem dX6_ring_65 : decode cX6_ring 65 = .ok (.new 66, 3) := by decide +kernel
theorem dX6_ring_68 : decode cX6_ring 68 = .ok (.dup, 1) := by decide +kernel
theorem dX6_ring_69 : decode cX6_ring 69 = .ok (.ldc 108, 2) := by decide +kernel
theorem dX6_ring_71 : decode cX6_ring 71 = .ok (.invokespecial 70, 3) := by decide +kernel
theorem dX6_ring_74 : decode cX6_ring 74 = .ok (.athrow, 1) := by decide +kernel
theorem dX6_ring_75 : decode cX6_ring 75 = .ok (.aload_n 0, 1) := by decide +kernel
theorem dX6_ring_76 : decode cX6_ring 76 = .ok (.iload_n 1, 1) := by decide +kernel
theorem dX6_ring_77 : decode cX6_ring 77 = .ok (.iload_n 2, 1) := by decide +kernel
theorem dX6_ring_78 : decode cX6_ring 78 = .ok (.invokevirtual 127, 3) := by decide +kernel
theorem dX6_ring_81 : decode cX6_ring 81 = .ok (.aload_n 0, 1) := by decide +kernel
theorem dX6_ring_82 : decode cX6_ring 82 = .ok (.getfield 26, 3) := by decide +kernel
theorem dX6_ring_85 : decode cX6_ring 85 = .ok (.invokevirtual 80, 3) := by decide +kernel
theorem dX6_ring_88 : decode cX6_ring 88 = .ok (.aload_n 0, 1) := by decide +kernel
theorem dX6_ring_89 : decode cX6_ring 89 = .ok (.getfield 33, 3) := by decide +kernel
theorem dX6_ring_92 : decode cX6_ring 92 = .ok (.aload_n 0, 1) := by decide +kernel
theorem dX6_ring_93 : decode cX6_ring 93 = .ok (.getfield 12, 3) := by decide +kernel
theorem dX6_ring_96 : decode cX6_ring 96 = .ok (.invokevirtual 83, 3) := by decide +kernel
theorem dX6_ring_99 : decode cX6_ring 99 = .ok (.aload_n 0, 1) := by decide +kernel
theorem dX6_ring_100 : decode cX6_ring 100 = .ok (.getfield 12, 3) := by decide +kernel
theorem dX6_ring_103 : decode cX6_ring 103 = .ok (.invokevirtual 130, 3) := by decide +kernel
theorem dX6_ring_106 : decode cX6_ring 106 = .ok (.ireturn, 1) := by decide +kernel
set_option maxRecDepth 20000 in
theorem ggX6_doubled_X3_edgesInAll : GoodIn wsX6_doubled wsX3_edgesInAll := goodIn_r _ [12, 13, 14, 15, 16, 10, 17, 18, 19, 20, 21, 22, 23, 24, 25, 26, 27, 28, 29, 109, 110] (by decide +kernel) (by decide +kernel)
set_option maxRecDepth 20000 in
theorem gX6_doubled_X3_edgesInAll_n130 : GoodIn wsX6_doubled (wsX3_edgesInAll) := ggX6_doubled_X3_edgesInAll
set_option maxRecDepth 20000 in
theorem ggX6_doubled_X6_isSetBelow : GoodIn wsX6_doubled wsX6_isSetBelow := goodIn_r _ [33, 34, 35, 32, 36] (by decide +kernel) (by decide +kernel)
set_option maxRecDepth 20000 in
theorem gX6_doubled_X6_isSetBelow : GoodIn wsX6_doubled (va_wsS RX6 134 yX6_isSetBelow wsX6_isSetBelow) := goodIn_app (goodIn_of _ (by decide +kernel)) ggX6_doubled_X6_isSetBelow
set_option maxRecDepth 20000 in
theorem ggX6_doubled_X6_isWithin : GoodIn wsX6_doubled wsX6_isWithin := goodIn_r _ [39] (by decide +kernel) (by decide +kernel)
set_option maxRecDepth 20000 in
theorem gX6_doubled_X6_isWithin : GoodIn wsX6_doubled (va_wsS RX6 62 yX6_isWithin wsX6_isWithin) := goodIn_app (goodIn_of _ (by decide +kernel)) ggX6_doubled_X6_isWithin
set_option maxRecDepth 20000 in
theorem ggX6_doubled_X6_layDouble : GoodIn wsX6_doubled wsX6_layDouble := goodIn_r _ [43, 5, 6, 44, 10, 45, 46, 13, 22, 47, 48, 49, 18, 19, 20, 21, 50, 32, 51, 52, 53, 54, 55, 56, 57, 58, 59, 35, 36, 99, 100, 101, 102, 103, 104, 105, 106, 107, 108, 109, 110] (by decide +kernel) (by decide +kernel)
set_option maxRecDepth 20000 in
theorem gX6_doubled_X6_layDouble : GoodIn wsX6_doubled (wsV RX6 141 RX6 yX6_layDouble wsX6_layDouble) := goodIn_app (goodIn_of _ (by decide +kernel)) ggX6_doubled_X6_layDouble
set_option maxRecDepth 20000 in
theorem ggX6_doubled_X3_take : GoodIn wsX6_doubled wsX3_take := goodIn_r _ [62, 13, 22, 18, 19, 20, 10, 21, 109, 110] (by decide +kernel) (by decide +kernel)
set_option maxRecDepth 20000 in
theorem gX6_doubled_X3_take_n144 : GoodIn wsX6_doubled (wsX3_take) := ggX6_doubled_X3_take
set_option maxRecDepth 20000 in
theorem ggX6_doubled_X0_end : GoodIn wsX6_doubled wsX0_end := goodIn_r _ [66, 67, 111, 112, 113, 114, 115, 116, 117, 118, 119, 120, 121] (by decide +kernel) (by decide +kernel)
set_option maxRecDepth 20000 in
theorem gX6_doubled_X0_end_n80 : GoodIn wsX6_doubled (wsX0_end) := ggX6_doubled_X0_end
set_option maxRecDepth 20000 in
theorem ggX6_doubled_X1_look : GoodIn wsX6_doubled wsX1_look := goodIn_r _ [71, 72, 73, 10, 74, 75, 13, 14, 15, 16, 17, 18, 19, 20, 21, 22, 23, 24, 25, 26, 27, 28, 29, 38, 32, 39, 76, 77, 78, 79, 80, 81, 47, 48, 49, 50, 51, 82, 83, 84, 35, 36, 85, 86, 87, 88, 89, 90, 91, 92, 93, 94, 95, 96, 97, 69, 98, 122, 123, 109, 110] (by decide +kernel) (by decide +kernel)
set_option maxRecDepth 20000 in
theorem gX6_doubled_X1_look_n83 : GoodIn wsX6_doubled (wsX1_look) := ggX6_doubled_X1_look
set_option maxRecDepth 20000 in
theorem ggX6_doubled_X5_leastRing : GoodIn wsX6_doubled wsX5_leastRing := goodIn_r _ [78, 79, 80, 77, 81, 47, 10, 48, 49, 18, 19, 20, 21, 22, 50, 32, 51, 82, 83, 84, 35, 36, 85, 86, 87, 88, 24, 25, 26, 27, 28, 29, 89, 90, 91, 92, 93, 94, 109, 110] (by decide +kernel) (by decide +kernel)
set_option maxRecDepth 20000 in
theorem gX6_doubled_X5_leastRing_n147 : GoodIn wsX6_doubled (wsX5_leastRing) := ggX6_doubled_X5_leastRing
theorem dX6_doubled_0 : decode cX6_doubled 0 = .ok (.iload_n 1, 1) := by decide +kernel
theorem dX6_doubled_1 : decode cX6_doubled 1 = .ok (.aload_n 0, 1) := by decide +kernel
theorem dX6_doubled_2 : decode cX6_doubled 2 = .ok (.getfield 12, 3) := by decide +kernel
theorem dX6_doubled_5 : decode cX6_doubled 5 = .ok (.invokevirtual 130, 3) := by decide +kernel
theorem dX6_doubled_8 : decode cX6_doubled 8 = .ok (.invokestatic 134, 3) := by decide +kernel
theorem dX6_doubled_11 : decode cX6_doubled 11 = .ok (.ifCond .ne 13, 3) := by decide +kernel
theorem dX6_doubled_14 : decode cX6_doubled 14 = .ok (.new 66, 3) := by decide +kernel
theorem dX6_doubled_17 : decode cX6_doubled 17 = .ok (.dup, 1) := by decide +kernel
theorem dX6_doubled_18 : decode cX6_doubled 18 = .ok (.ldc 137, 2) := by decide +kernel
theorem dX6_doubled_20 : decode cX6_doubled 20 = .ok (.invokespecial 70, 3) := by decide +kernel
theorem dX6_doubled_23 : decode cX6_doubled 23 = .ok (.athrow, 1) := by decide +kernel
theorem dX6_doubled_24 : decode cX6_doubled 24 = .ok (.aload_n 0, 1) := by decide +kernel
theorem dX6_doubled_25 : decode cX6_doubled 25 = .ok (.getfield 12, 3) := by decide +kernel
theorem dX6_doubled_28 : decode cX6_doubled 28 = .ok (.getfield 73, 3) := by decide +kernel
theorem dX6_doubled_31 : decode cX6_doubled 31 = .ok (.iconst 3, 1) := by decide +kernel
theorem dX6_doubled_32 : decode cX6_doubled 32 = .ok (.bipush 8, 2) := by decide +kernel
theorem dX6_doubled_34 : decode cX6_doubled 34 = .ok (.invokestatic 62, 3) := by decide +kernel
theorem dX6_doubled_37 : decode cX6_doubled 37 = .ok (.ifCond .ne 13, 3) := by decide +kernel
theorem dX6_doubled_40 : decode cX6_doubled 40 = .ok (.new 106, 3) := by decide +kernel
theorem dX6_doubled_43 : decode cX6_doubled 43 = .ok (.dup, 1) := by decide +kernel
theorem dX6_doubled_44 : decode cX6_doubled 44 = .ok (.ldc 139, 2) := by decide +kernel
theorem dX6_doubled_46 : decode cX6_doubled 46 = .ok (.invokespecial 110, 3) := by decide +kernel
theorem dX6_doubled_49 : decode cX6_doubled 49 = .ok (.athrow, 1) := by decide +kernel
theorem dX6_doubled_50 : decode cX6_doubled 50 = .ok (.aload_n 0, 1) := by decide +kernel
theorem dX6_doubled_51 : decode cX6_doubled 51 = .ok (.iload_n 1, 1) := by decide +kernel
theorem dX6_doubled_52 : decode cX6_doubled 52 = .ok (.invokevirtual 141, 3) := by decide +kernel
theorem dX6_doubled_55 : decode cX6_doubled 55 = .ok (.aload_n 0, 1) := by decide +kernel
theorem dX6_doubled_56 : decode cX6_doubled 56 = .ok (.getfield 12, 3) := by decide +kernel
theorem dX6_doubled_59 : decode cX6_doubled 59 = .ok (.aload_n 0, 1) := by decide +kernel
theorem dX6_doubled_60 : decode cX6_doubled 60 = .ok (.getfield 16, 3) := by decide +kernel
theorem dX6_doubled_63 : decode cX6_doubled 63 = .ok (.invokevirtual 144, 3) := by decide +kernel
theorem dX6_doubled_66 : decode cX6_doubled 66 = .ok (.aload_n 0, 1) := by decide +kernel
theorem dX6_doubled_67 : decode cX6_doubled 67 = .ok (.getfield 26, 3) := by decide +kernel
theorem dX6_doubled_70 : decode cX6_doubled 70 = .ok (.invokevirtual 80, 3) := by decide +kernel
theorem dX6_doubled_73 : decode cX6_doubled 73 = .ok (.aload_n 0, 1) := by decide +kernel
theorem dX6_doubled_74 : decode cX6_doubled 74 = .ok (.getfield 33, 3) := by decide +kernel
theorem dX6_doubled_77 : decode cX6_doubled 77 = .ok (.aload_n 0, 1) := by decide +kernel
theorem dX6_doubled_78 : decode cX6_doubled 78 = .ok (.getfield 12, 3) := by decide +kernel
end
section
theorem dX6_doubled_81 : decode cX6_doubled 81 = .ok (.invokevirtual 83, 3) := by decide +kernel
theorem dX6_doubled_84 : decode cX6_doubled 84 = .ok (.aload_n 0, 1) := by decide +kernel
theorem dX6_doubled_85 : decode cX6_doubled 85 = .ok (.getfield 12, 3) := by decide +kernel
theorem dX6_doubled_88 : decode cX6_doubled 88 = .ok (.invokestatic 147, 3) := by decide +kernel
theorem dX6_doubled_91 : decode cX6_doubled 91 = .ok (.ireturn, 1) := by decide +kernel
set_option maxRecDepth 20000 in
theorem ggX6_swap_X3_edgeAt : GoodIn wsX6_swap wsX3_edgeAt := goodIn_r _ [9, 10, 11, 12, 13, 7, 14, 15, 16, 17, 18, 19, 20, 21, 22, 23, 24, 25, 26, 27, 28, 29, 30, 31, 32, 33, 120, 121] (by decide +kernel) (by decide +kernel)
set_option maxRecDepth 20000 in
theorem gX6_swap_X3_edgeAt_n153 : GoodIn wsX6_swap (wsX3_edgeAt) := ggX6_swap_X3_edgeAt
set_option maxRecDepth 20000 in
theorem ggX6_swap_X6_turned : GoodIn wsX6_swap wsX6_turned := goodIn_r _ [36, 37, 38, 17, 39, 40, 41, 42, 43, 32, 33] (by decide +kernel) (by decide +kernel)
set_option maxRecDepth 20000 in
theorem gX6_swap_X6_turned : GoodIn wsX6_swap (va_wsS RX6 158 yX6_turned wsX6_turned) := goodIn_app (goodIn_of _ (by decide +kernel)) ggX6_swap_X6_turned
set_option maxRecDepth 20000 in
theorem ggX6_swap_X6_canExchange : GoodIn wsX6_swap wsX6_canExchange := goodIn_r _ [47, 3, 40, 41, 17, 42, 48, 16, 18, 37, 38, 39, 31, 20, 21, 22, 23, 24, 25, 49, 7, 50, 51, 11, 12, 13, 14, 15, 52, 53, 110, 111, 112, 113, 114, 115, 116, 117, 118, 119, 120, 121] (by decide +kernel) (by decide +kernel)
set_option maxRecDepth 20000 in
theorem gX6_swap_X6_canExchange : GoodIn wsX6_swap (wsV RX6 162 RX6 yX6_canExchange wsX6_canExchange) := goodIn_app (goodIn_of _ (by decide +kernel)) ggX6_swap_X6_canExchange
set_option maxRecDepth 20000 in
theorem ggX6_swap_X6_exchange : GoodIn wsX6_swap wsX6_exchange := goodIn_r _ [57, 3, 40, 41, 17, 42, 37, 38, 39, 58, 7, 59, 60, 15, 61, 62, 63, 64, 10, 16, 18, 65, 66, 67, 110, 111, 112, 113, 114, 115, 116, 117, 118, 119, 120, 121] (by decide +kernel) (by decide +kernel)
set_option maxRecDepth 20000 in
theorem gX6_swap_X6_exchange : GoodIn wsX6_swap (wsV RX6 165 RX6 yX6_exchange wsX6_exchange) := goodIn_app (goodIn_of _ (by decide +kernel)) ggX6_swap_X6_exchange
set_option maxRecDepth 20000 in
theorem ggX6_swap_X0_end : GoodIn wsX6_swap wsX0_end := goodIn_r _ [71, 72, 122, 123, 124, 125, 126, 127, 128, 129, 130, 131, 132] (by decide +kernel) (by decide +kernel)
set_option maxRecDepth 20000 in
theorem gX6_swap_X0_end_n80 : GoodIn wsX6_swap (wsX0_end) := ggX6_swap_X0_end
set_option maxRecDepth 20000 in
theorem ggX6_swap_X1_look : GoodIn wsX6_swap wsX1_look := goodIn_r _ [76, 77, 78, 7, 79, 80, 10, 81, 82, 83, 84, 11, 12, 13, 14, 15, 19, 20, 21, 22, 23, 24, 25, 85, 17, 86, 87, 88, 89, 90, 91, 92, 49, 50, 51, 52, 53, 93, 94, 95, 16, 18, 96, 97, 98, 99, 100, 101, 102, 103, 104, 105, 106, 107, 108, 74, 109, 133, 134, 120, 121] (by decide +kernel) (by decide +kernel)
set_option maxRecDepth 20000 in
theorem gX6_swap_X1_look_n83 : GoodIn wsX6_swap (wsX1_look) := ggX6_swap_X1_look
theorem dX6_swap_0 : decode cX6_swap 0 = .ok (.aload_n 0, 1) := by decide +kernel
theorem dX6_swap_1 : decode cX6_swap 1 = .ok (.getfield 12, 3) := by decide +kernel
theorem dX6_swap_4 : decode cX6_swap 4 = .ok (.iload_n 1, 1) := by decide +kernel
theorem dX6_swap_5 : decode cX6_swap 5 = .ok (.invokevirtual 153, 3) := by decide +kernel
theorem dX6_swap_8 : decode cX6_swap 8 = .ok (.istore 4, 2) := by decide +kernel
theorem dX6_swap_10 : decode cX6_swap 10 = .ok (.aload_n 0, 1) := by decide +kernel
theorem dX6_swap_11 : decode cX6_swap 11 = .ok (.getfield 12, 3) := by decide +kernel
theorem dX6_swap_14 : decode cX6_swap 14 = .ok (.iload_n 2, 1) := by decide +kernel
theorem dX6_swap_15 : decode cX6_swap 15 = .ok (.invokevirtual 153, 3) := by decide +kernel
theorem dX6_swap_18 : decode cX6_swap 18 = .ok (.istore 5, 2) := by decide +kernel
theorem dX6_swap_20 : decode cX6_swap 20 = .ok (.iload 4, 2) := by decide +kernel
theorem dX6_swap_22 : decode cX6_swap 22 = .ok (.iconst (-1), 1) := by decide +kernel
theorem dX6_swap_23 : decode cX6_swap 23 = .ok (.if_icmp .eq 9, 3) := by decide +kernel
theorem dX6_swap_26 : decode cX6_swap 26 = .ok (.iload 5, 2) := by decide +kernel
theorem dX6_swap_28 : decode cX6_swap 28 = .ok (.iconst (-1), 1) := by decide +kernel
theorem dX6_swap_29 : decode cX6_swap 29 = .ok (.if_icmp .ne 13, 3) := by decide +kernel
theorem dX6_swap_32 : decode cX6_swap 32 = .ok (.new 91, 3) := by decide +kernel
theorem dX6_swap_35 : decode cX6_swap 35 = .ok (.dup, 1) := by decide +kernel
theorem dX6_swap_36 : decode cX6_swap 36 = .ok (.ldc 156, 2) := by decide +kernel
theorem dX6_swap_38 : decode cX6_swap 38 = .ok (.invokespecial 95, 3) := by decide +kernel
theorem dX6_swap_41 : decode cX6_swap 41 = .ok (.athrow, 1) := by decide +kernel
theorem dX6_swap_42 : decode cX6_swap 42 = .ok (.aload_n 0, 1) := by decide +kernel
theorem dX6_swap_43 : decode cX6_swap 43 = .ok (.iload 4, 2) := by decide +kernel
theorem dX6_swap_45 : decode cX6_swap 45 = .ok (.iload 5, 2) := by decide +kernel
theorem dX6_swap_47 : decode cX6_swap 47 = .ok (.iload_n 3, 1) := by decide +kernel
theorem dX6_swap_48 : decode cX6_swap 48 = .ok (.invokestatic 158, 3) := by decide +kernel
theorem dX6_swap_51 : decode cX6_swap 51 = .ok (.invokevirtual 162, 3) := by decide +kernel
theorem dX6_swap_54 : decode cX6_swap 54 = .ok (.ifCond .ne 5, 3) := by decide +kernel
theorem dX6_swap_57 : decode cX6_swap 57 = .ok (.iconst 0, 1) := by decide +kernel
theorem dX6_swap_58 : decode cX6_swap 58 = .ok (.ireturn, 1) := by decide +kernel
theorem dX6_swap_59 : decode cX6_swap 59 = .ok (.aload_n 0, 1) := by decide +kernel
theorem dX6_swap_60 : decode cX6_swap 60 = .ok (.iload 4, 2) := by decide +kernel
theorem dX6_swap_62 : decode cX6_swap 62 = .ok (.iload 5, 2) := by decide +kernel
theorem dX6_swap_64 : decode cX6_swap 64 = .ok (.iload_n 3, 1) := by decide +kernel
theorem dX6_swap_65 : decode cX6_swap 65 = .ok (.invokestatic 158, 3) := by decide +kernel
theorem dX6_swap_68 : decode cX6_swap 68 = .ok (.invokevirtual 165, 3) := by decide +kernel
theorem dX6_swap_71 : decode cX6_swap 71 = .ok (.aload_n 0, 1) := by decide +kernel
theorem dX6_swap_72 : decode cX6_swap 72 = .ok (.getfield 26, 3) := by decide +kernel
theorem dX6_swap_75 : decode cX6_swap 75 = .ok (.invokevirtual 80, 3) := by decide +kernel
theorem dX6_swap_78 : decode cX6_swap 78 = .ok (.aload_n 0, 1) := by decide +kernel
theorem dX6_swap_79 : decode cX6_swap 79 = .ok (.getfield 33, 3) := by decide +kernel
theorem dX6_swap_82 : decode cX6_swap 82 = .ok (.aload_n 0, 1) := by decide +kernel
theorem dX6_swap_83 : decode cX6_swap 83 = .ok (.getfield 12, 3) := by decide +kernel
theorem dX6_swap_86 : decode cX6_swap 86 = .ok (.invokevirtual 83, 3) := by decide +kernel
theorem dX6_swap_89 : decode cX6_swap 89 = .ok (.iconst 1, 1) := by decide +kernel
theorem dX6_swap_90 : decode cX6_swap 90 = .ok (.ireturn, 1) := by decide +kernel
set_option maxRecDepth 20000 in
theorem ggX6_mend_X6_isWithin : GoodIn wsX6_mend wsX6_isWithin := goodIn_r _ [11] (by decide +kernel) (by decide +kernel)
set_option maxRecDepth 20000 in
theorem gX6_mend_X6_isWithin : GoodIn wsX6_mend (va_wsS RX6 62 yX6_isWithin wsX6_isWithin) := goodIn_app (goodIn_of _ (by decide +kernel)) ggX6_mend_X6_isWithin
set_option maxRecDepth 20000 in
theorem ggX6_mend_X3_edgesInAll : GoodIn wsX6_mend wsX3_edgesInAll := goodIn_r _ [15, 16, 17, 18, 19, 13, 20, 21, 22, 23, 24, 25, 26, 27, 28, 29, 30, 31, 32, 153, 154] (by decide +kernel) (by decide +kernel)
set_option maxRecDepth 20000 in
theorem gX6_mend_X3_edgesInAll_n130 : GoodIn wsX6_mend (wsX3_edgesInAll) := ggX6_mend_X3_edgesInAll
set_option maxRecDepth 20000 in
theorem ggX6_mend_X6_mendByRounds : GoodIn wsX6_mend wsX6_mendByRounds := goodIn_r _ [36, 5, 37, 38, 39, 12, 13, 14, 15, 16, 17, 18, 19, 20, 21, 22, 23, 24, 25, 26, 27, 28, 29, 30, 31, 32, 40, 41, 42, 10, 43, 44, 45, 46, 47, 48, 49, 50, 51, 52, 53, 54, 55, 56, 57, 58, 59, 60, 61, 62, 63, 64, 65, 66, 67, 68, 69, 70, 71, 72, 73, 74, 75, 76, 77, 78, 79, 80, 81, 82, 83, 84, 85, 86, 87, 88, 89, 90, 91, 92, 93, 94, 95, 96, 97, 98, 99, 100, 101, 102, 103, 104, 105, 106, 143, 144, 145, 146, 147, 148, 149, 150, 151, 152, 153, 154] (by decide +kernel) (by decide +kernel)
set_option maxRecDepth 20000 in
theorem gX6_mend_X6_mendByRounds : GoodIn wsX6_mend (wsV RX6 176 RX6 yX6_mendByRounds wsX6_mendByRounds) := goodIn_app (goodIn_of _ (by decide +kernel)) ggX6_mend_X6_mendByRounds
set_option maxRecDepth 20000 in
theorem ggX6_mend_X0_end : GoodIn wsX6_mend wsX0_end := goodIn_r _ [110, 111, 155, 156, 157, 158, 159, 160, 161, 162, 163, 164, 165] (by decide +kernel) (by decide +kernel)
set_option maxRecDepth 20000 in
theorem gX6_mend_X0_end_n80 : GoodIn wsX6_mend (wsX0_end) := ggX6_mend_X0_end
set_option maxRecDepth 20000 in
theorem ggX6_mend_X1_look : GoodIn wsX6_mend wsX1_look := goodIn_r _ [115, 116, 117, 13, 118, 119, 16, 17, 18, 19, 20, 21, 22, 23, 24, 25, 26, 27, 28, 29, 30, 31, 32, 9, 10, 11, 120, 121, 122, 123, 124, 125, 87, 88, 89, 57, 58, 126, 127, 128, 50, 51, 129, 130, 131, 132, 133, 134, 135, 136, 137, 138, 139, 140, 141, 113, 142, 166, 167, 153, 154] (by decide +kernel) (by decide +kernel)
set_option maxRecDepth 20000 in
theorem gX6_mend_X1_look_n83 : GoodIn wsX6_mend (wsX1_look) := ggX6_mend_X1_look
theorem dX6_mend_0 : decode cX6_mend 0 = .ok (.iload_n 1, 1) := by decide +kernel
theorem dX6_mend_1 : decode cX6_mend 1 = .ok (.iconst 4, 1) := by decide +kernel
theorem dX6_mend_2 : decode cX6_mend 2 = .ok (.bipush 8, 2) := by decide +kernel
theorem dX6_mend_4 : decode cX6_mend 4 = .ok (.invokestatic 62, 3) := by decide +kernel
theorem dX6_mend_7 : decode cX6_mend 7 = .ok (.ifCond .ne 13, 3) := by decide +kernel
theorem dX6_mend_10 : decode cX6_mend 10 = .ok (.new 66, 3) := by decide +kernel
theorem dX6_mend_13 : decode cX6_mend 13 = .ok (.dup, 1) := by decide +kernel
theorem dX6_mend_14 : decode cX6_mend 14 = .ok (.ldc 168, 2) := by decide +kernel
theorem dX6_mend_16 : decode cX6_mend 16 = .ok (.invokespecial 70, 3) := by decide +kernel
theorem dX6_mend_19 : decode cX6_mend 19 = .ok (.athrow, 1) := by decide +kernel
theorem dX6_mend_20 : decode cX6_mend 20 = .ok (.iload_n 2, 1) := by decide +kernel
theorem dX6_mend_21 : decode cX6_mend 21 = .ok (.iconst 0, 1) := by decide +kernel
theorem dX6_mend_22 : decode cX6_mend 22 = .ok (.sipush 9999, 3) := by decide +kernel
theorem dX6_mend_25 : decode cX6_mend 25 = .ok (.invokestatic 62, 3) := by decide +kernel
theorem dX6_mend_28 : decode cX6_mend 28 = .ok (.ifCond .ne 13, 3) := by decide +kernel
theorem dX6_mend_31 : decode cX6_mend 31 = .ok (.new 66, 3) := by decide +kernel
theorem dX6_mend_34 : decode cX6_mend 34 = .ok (.dup, 1) := by decide +kernel
theorem dX6_mend_35 : decode cX6_mend 35 = .ok (.ldc 170, 2) := by decide +kernel
theorem dX6_mend_37 : decode cX6_mend 37 = .ok (.invokespecial 70, 3) := by decide +kernel
theorem dX6_mend_40 : decode cX6_mend 40 = .ok (.athrow, 1) := by decide +kernel
theorem dX6_mend_41 : decode cX6_mend 41 = .ok (.iload_n 3, 1) := by decide +kernel
theorem dX6_mend_42 : decode cX6_mend 42 = .ok (.iconst 1, 1) := by decide +kernel
theorem dX6_mend_43 : decode cX6_mend 43 = .ok (.bipush 20, 2) := by decide +kernel
theorem dX6_mend_45 : decode cX6_mend 45 = .ok (.invokestatic 62, 3) := by decide +kernel
theorem dX6_mend_48 : decode cX6_mend 48 = .ok (.ifCond .ne 13, 3) := by decide +kernel
theorem dX6_mend_51 : decode cX6_mend 51 = .ok (.new 66, 3) := by decide +kernel
theorem dX6_mend_54 : decode cX6_mend 54 = .ok (.dup, 1) := by decide +kernel
theorem dX6_mend_55 : decode cX6_mend 55 = .ok (.ldc 172, 2) := by decide +kernel
theorem dX6_mend_57 : decode cX6_mend 57 = .ok (.invokespecial 70, 3) := by decide +kernel
theorem dX6_mend_60 : decode cX6_mend 60 = .ok (.athrow, 1) := by decide +kernel
theorem dX6_mend_61 : decode cX6_mend 61 = .ok (.aload_n 0, 1) := by decide +kernel
theorem dX6_mend_62 : decode cX6_mend 62 = .ok (.getfield 12, 3) := by decide +kernel
theorem dX6_mend_65 : decode cX6_mend 65 = .ok (.invokevirtual 130, 3) := by decide +kernel
theorem dX6_mend_68 : decode cX6_mend 68 = .ok (.iconst 2, 1) := by decide +kernel
theorem dX6_mend_69 : decode cX6_mend 69 = .ok (.if_icmp .ge 13, 3) := by decide +kernel
theorem dX6_mend_72 : decode cX6_mend 72 = .ok (.new 106, 3) := by decide +kernel
theorem dX6_mend_75 : decode cX6_mend 75 = .ok (.dup, 1) := by decide +kernel
theorem dX6_mend_76 : decode cX6_mend 76 = .ok (.ldc 174, 2) := by decide +kernel
theorem dX6_mend_78 : decode cX6_mend 78 = .ok (.invokespecial 110, 3) := by decide +kernel
theorem dX6_mend_81 : decode cX6_mend 81 = .ok (.athrow, 1) := by decide +kernel
theorem dX6_mend_82 : decode cX6_mend 82 = .ok (.aload_n 0, 1) := by decide +kernel
theorem dX6_mend_83 : decode cX6_mend 83 = .ok (.iload_n 1, 1) := by decide +kernel
theorem dX6_mend_84 : decode cX6_mend 84 = .ok (.iload_n 2, 1) := by decide +kernel
theorem dX6_mend_85 : decode cX6_mend 85 = .ok (.iload_n 3, 1) := by decide +kernel
theorem dX6_mend_86 : decode cX6_mend 86 = .ok (.invokevirtual 176, 3) := by decide +kernel
theorem dX6_mend_89 : decode cX6_mend 89 = .ok (.istore 4, 2) := by decide +kernel
theorem dX6_mend_91 : decode cX6_mend 91 = .ok (.aload_n 0, 1) := by decide +kernel
theorem dX6_mend_92 : decode cX6_mend 92 = .ok (.getfield 26, 3) := by decide +kernel
theorem dX6_mend_95 : decode cX6_mend 95 = .ok (.invokevirtual 80, 3) := by decide +kernel
theorem dX6_mend_98 : decode cX6_mend 98 = .ok (.aload_n 0, 1) := by decide +kernel
theorem dX6_mend_99 : decode cX6_mend 99 = .ok (.getfield 33, 3) := by decide +kernel
theorem dX6_mend_102 : decode cX6_mend 102 = .ok (.aload_n 0, 1) := by decide +kernel
theorem dX6_mend_103 : decode cX6_mend 103 = .ok (.getfield 12, 3) := by decide +kernel
theorem dX6_mend_106 : decode cX6_mend 106 = .ok (.invokevirtual 83, 3) := by decide +kernel
theorem dX6_mend_109 : decode cX6_mend 109 = .ok (.iload 4, 2) := by decide +kernel
theorem dX6_mend_111 : decode cX6_mend 111 = .ok (.ireturn, 1) := by decide +kernel
set_option maxRecDepth 20000 in
theorem ggX6_aim_X6_requireTabled : GoodIn wsX6_aim wsX6_requireTabled := goodIn_ca (goodIn_r _ [10, 11, 12, 13, 14, 9, 15] (by decide +kernel) (by decide +kernel)) (goodIn_sub (fun _ h => List.mem_cons_of_mem _ (List.mem_append_right _ h)) (by decide +kernel))
set_option maxRecDepth 20000 in
theorem gX6_aim_X6_requireTabled : GoodIn wsX6_aim (wsV RX6 180 RX6 yX6_requireTabled wsX6_requireTabled) := goodIn_app (goodIn_of _ (by decide +kernel)) ggX6_aim_X6_requireTabled
set_option maxRecDepth 20000 in
theorem ggX6_aim_X3_lay : GoodIn wsX6_aim wsX3_lay := goodIn_r _ [19, 20, 21, 125, 126] (by decide +kernel) (by decide +kernel)
set_option maxRecDepth 20000 in
theorem gX6_aim_X3_lay_n76 : GoodIn wsX6_aim (wsX3_lay) := ggX6_aim_X3_lay
set_option maxRecDepth 20000 in
theorem ggX6_aim_X0_begin : GoodIn wsX6_aim wsX0_begin := goodIn_r _ [25, 26, 27, 28, 29, 30, 31, 32, 33, 34, 23, 35, 36, 37, 38, 9, 39, 40, 41, 42, 43, 44, 45, 46, 47, 48, 127, 128, 129, 130, 131, 132, 133, 134, 135, 136, 137] (by decide +kernel) (by decide +kernel)
set_option maxRecDepth 20000 in
theorem gX6_aim_X0_begin_n185 : GoodIn wsX6_aim (wsX0_begin) := ggX6_aim_X0_begin
set_option maxRecDepth 20000 in
theorem ggX6_aim_X1_look : GoodIn wsX6_aim wsX1_look := goodIn_r _ [52, 53, 54, 17, 55, 56, 20, 57, 58, 59, 60, 61, 62, 63, 64, 21, 65, 66, 67, 68, 69, 70, 71, 14, 9, 15, 72, 73, 74, 75, 76, 77, 78, 79, 80, 81, 82, 83, 84, 85, 47, 48, 86, 87, 88, 89, 90, 91, 92, 93, 94, 95, 96, 97, 98, 50, 99, 138, 139, 125, 126] (by decide +kernel) (by decide +kernel)
set_option maxRecDepth 20000 in
theorem gX6_aim_X1_look_n83 : GoodIn wsX6_aim (wsX1_look) := ggX6_aim_X1_look
set_option maxRecDepth 20000 in
theorem ggX6_aim_X1_why : GoodIn wsX6_aim wsX1_why := goodIn_r _ [102, 103, 104, 50, 105, 106, 107, 108, 109, 110, 111, 112, 113, 114, 14, 9, 15, 138, 139] (by decide +kernel) (by decide +kernel)
set_option maxRecDepth 20000 in
theorem gX6_aim_X1_why_n188 : GoodIn wsX6_aim (wsX1_why) := ggX6_aim_X1_why
theorem dX6_aim_0 : decode cX6_aim 0 = .ok (.aload_n 0, 1) := by decide +kernel
theorem dX6_aim_1 : decode cX6_aim 1 = .ok (.iload_n 1, 1) := by decide +kernel
theorem dX6_aim_2 : decode cX6_aim 2 = .ok (.iload_n 2, 1) := by decide +kernel
theorem dX6_aim_3 : decode cX6_aim 3 = .ok (.invokevirtual 180, 3) := by decide +kernel
theorem dX6_aim_6 : decode cX6_aim 6 = .ok (.aload_n 0, 1) := by decide +kernel
theorem dX6_aim_7 : decode cX6_aim 7 = .ok (.getfield 12, 3) := by decide +kernel
theorem dX6_aim_10 : decode cX6_aim 10 = .ok (.getfield 73, 3) := by decide +kernel
theorem dX6_aim_13 : decode cX6_aim 13 = .ok (.ifCond .ne 13, 3) := by decide +kernel
theorem dX6_aim_16 : decode cX6_aim 16 = .ok (.new 106, 3) := by decide +kernel
theorem dX6_aim_19 : decode cX6_aim 19 = .ok (.dup, 1) := by decide +kernel
theorem dX6_aim_20 : decode cX6_aim 20 = .ok (.ldc 183, 2) := by decide +kernel
theorem dX6_aim_22 : decode cX6_aim 22 = .ok (.invokespecial 110, 3) := by decide +kernel
theorem dX6_aim_25 : decode cX6_aim 25 = .ok (.athrow, 1) := by decide +kernel
theorem dX6_aim_26 : decode cX6_aim 26 = .ok (.aload_n 0, 1) := by decide +kernel
theorem dX6_aim_27 : decode cX6_aim 27 = .ok (.getfield 12, 3) := by decide +kernel
theorem dX6_aim_30 : decode cX6_aim 30 = .ok (.aload_n 0, 1) := by decide +kernel
theorem dX6_aim_31 : decode cX6_aim 31 = .ok (.getfield 12, 3) := by decide +kernel
theorem dX6_aim_34 : decode cX6_aim 34 = .ok (.getfield 73, 3) := by decide +kernel
theorem dX6_aim_37 : decode cX6_aim 37 = .ok (.invokevirtual 76, 3) := by decide +kernel
theorem dX6_aim_40 : decode cX6_aim 40 = .ok (.aload_n 0, 1) := by decide +kernel
theorem dX6_aim_41 : decode cX6_aim 41 = .ok (.getfield 26, 3) := by decide +kernel
theorem dX6_aim_44 : decode cX6_aim 44 = .ok (.iload_n 1, 1) := by decide +kernel
theorem dX6_aim_45 : decode cX6_aim 45 = .ok (.iload_n 2, 1) := by decide +kernel
theorem dX6_aim_46 : decode cX6_aim 46 = .ok (.invokevirtual 185, 3) := by decide +kernel
theorem dX6_aim_49 : decode cX6_aim 49 = .ok (.aload_n 0, 1) := by decide +kernel
theorem dX6_aim_50 : decode cX6_aim 50 = .ok (.getfield 33, 3) := by decide +kernel
theorem dX6_aim_53 : decode cX6_aim 53 = .ok (.aload_n 0, 1) := by decide +kernel
theorem dX6_aim_54 : decode cX6_aim 54 = .ok (.getfield 12, 3) := by decide +kernel
theorem dX6_aim_57 : decode cX6_aim 57 = .ok (.invokevirtual 83, 3) := by decide +kernel
theorem dX6_aim_60 : decode cX6_aim 60 = .ok (.aload_n 0, 1) := by decide +kernel
theorem dX6_aim_61 : decode cX6_aim 61 = .ok (.getfield 33, 3) := by decide +kernel
theorem dX6_aim_64 : decode cX6_aim 64 = .ok (.aload_n 0, 1) := by decide +kernel
theorem dX6_aim_65 : decode cX6_aim 65 = .ok (.getfield 12, 3) := by decide +kernel
theorem dX6_aim_68 : decode cX6_aim 68 = .ok (.getfield 73, 3) := by decide +kernel
theorem dX6_aim_71 : decode cX6_aim 71 = .ok (.iload_n 1, 1) := by decide +kernel
theorem dX6_aim_72 : decode cX6_aim 72 = .ok (.iload_n 2, 1) := by decide +kernel
theorem dX6_aim_73 : decode cX6_aim 73 = .ok (.invokevirtual 188, 3) := by decide +kernel
theorem dX6_aim_76 : decode cX6_aim 76 = .ok (.ireturn, 1) := by decide +kernel
set_option maxRecDepth 20000 in
theorem ggX6_grow_X6_isWithin : GoodIn wsX6_grow wsX6_isWithin := goodIn_r _ [11] (by decide +kernel) (by decide +kernel)
set_option maxRecDepth 20000 in
theorem gX6_grow_X6_isWithin : GoodIn wsX6_grow (va_wsS RX6 62 yX6_isWithin wsX6_isWithin) := goodIn_app (goodIn_of _ (by decide +kernel)) ggX6_grow_X6_isWithin
set_option maxRecDepth 20000 in
theorem ggX6_grow_X0_step : GoodIn wsX6_grow wsX0_step := goodIn_r _ [15, 16, 17, 18, 19, 20, 13, 21, 22, 23, 24, 25, 26, 27, 28, 29, 30, 31, 32, 33, 34, 35, 36, 37, 38, 39, 40, 41, 42, 43, 10, 44, 45, 46, 47, 48, 49, 50, 51, 52, 53, 54, 55, 56, 57, 58, 59, 60, 61, 62, 63, 64, 65, 66, 67, 68, 69, 70, 71, 72, 73, 74, 75, 76, 77, 78, 79, 80, 81, 82, 83, 84, 85, 86, 87, 88, 89, 90, 91, 92, 93, 94, 95, 96, 97, 98, 99, 100, 101, 102, 103, 104, 105, 106, 107, 108, 109, 162, 163, 164, 165, 166, 167, 168, 169, 170, 171, 172, 173, 174] (by decide +kernel) (by decide +kernel)
set_option maxRecDepth 20000 in
theorem gX6_grow_X0_step_n202 : GoodIn wsX6_grow (wsX0_step) := ggX6_grow_X0_step
set_option maxRecDepth 20000 in
theorem ggX6_grow_X1_prove : GoodIn wsX6_grow wsX1_prove := goodIn_r _ [113, 114, 115, 116, 117, 111, 118, 9, 10, 11, 119, 120, 121, 122, 175, 176] (by decide +kernel) (by decide +kernel)
set_option maxRecDepth 20000 in
theorem gX6_grow_X1_prove_n211 : GoodIn wsX6_grow (wsX1_prove) := ggX6_grow_X1_prove
set_option maxRecDepth 20000 in
theorem ggX6_grow_X1_look : GoodIn wsX6_grow wsX1_look := goodIn_r _ [125, 126, 127, 28, 128, 129, 96, 130, 27, 29, 30, 31, 32, 33, 34, 35, 36, 37, 38, 39, 40, 41, 42, 9, 10, 11, 131, 54, 132, 133, 134, 135, 136, 137, 138, 45, 46, 139, 140, 141, 43, 44, 56, 57, 58, 59, 142, 143, 144, 145, 146, 147, 148, 149, 150, 111, 151, 175, 176, 173, 174] (by decide +kernel) (by decide +kernel)
set_option maxRecDepth 20000 in
theorem gX6_grow_X1_look_n83 : GoodIn wsX6_grow (wsX1_look) := ggX6_grow_X1_look
theorem dX6_grow_0 : decode cX6_grow 0 = .ok (.iload_n 1, 1) := by decide +kernel
theorem dX6_grow_1 : decode cX6_grow 1 = .ok (.iconst 1, 1) := by decide +kernel
theorem dX6_grow_2 : decode cX6_grow 2 = .ok (.sipush 400, 3) := by decide +kernel
theorem dX6_grow_5 : decode cX6_grow 5 = .ok (.invokestatic 62, 3) := by decide +kernel
theorem dX6_grow_8 : decode cX6_grow 8 = .ok (.ifCond .ne 13, 3) := by decide +kernel
theorem dX6_grow_11 : decode cX6_grow 11 = .ok (.new 66, 3) := by decide +kernel
theorem dX6_grow_14 : decode cX6_grow 14 = .ok (.dup, 1) := by decide +kernel
theorem dX6_grow_15 : decode cX6_grow 15 = .ok (.ldc 191, 2) := by decide +kernel
theorem dX6_grow_17 : decode cX6_grow 17 = .ok (.invokespecial 70, 3) := by decide +kernel
theorem dX6_grow_20 : decode cX6_grow 20 = .ok (.athrow, 1) := by decide +kernel
theorem dX6_grow_21 : decode cX6_grow 21 = .ok (.aload_n 0, 1) := by decide +kernel
theorem dX6_grow_22 : decode cX6_grow 22 = .ok (.getfield 26, 3) := by decide +kernel
theorem dX6_grow_25 : decode cX6_grow 25 = .ok (.getfield 193, 3) := by decide +kernel
theorem dX6_grow_28 : decode cX6_grow 28 = .ok (.ifCond .ne 13, 3) := by decide +kernel
theorem dX6_grow_31 : decode cX6_grow 31 = .ok (.new 106, 3) := by decide +kernel
theorem dX6_grow_34 : decode cX6_grow 34 = .ok (.dup, 1) := by decide +kernel
theorem dX6_grow_35 : decode cX6_grow 35 = .ok (.ldc 197, 2) := by decide +kernel
theorem dX6_grow_37 : decode cX6_grow 37 = .ok (.invokespecial 110, 3) := by decide +kernel
theorem dX6_grow_40 : decode cX6_grow 40 = .ok (.athrow, 1) := by decide +kernel
theorem dX6_grow_41 : decode cX6_grow 41 = .ok (.iconst 0, 1) := by decide +kernel
theorem dX6_grow_42 : decode cX6_grow 42 = .ok (.istore_n 2, 1) := by decide +kernel
theorem dX6_grow_43 : decode cX6_grow 43 = .ok (.iload_n 2, 1) := by decide +kernel
theorem dX6_grow_44 : decode cX6_grow 44 = .ok (.iload_n 1, 1) := by decide +kernel
theorem dX6_grow_45 : decode cX6_grow 45 = .ok (.if_icmp .ge 30, 3) := by decide +kernel
theorem dX6_grow_48 : decode cX6_grow 48 = .ok (.aload_n 0, 1) := by decide +kernel
theorem dX6_grow_49 : decode cX6_grow 49 = .ok (.getfield 26, 3) := by decide +kernel
theorem dX6_grow_52 : decode cX6_grow 52 = .ok (.getfield 199, 3) := by decide +kernel
theorem dX6_grow_55 : decode cX6_grow 55 = .ok (.ifCond .ne 20, 3) := by decide +kernel
theorem dX6_grow_58 : decode cX6_grow 58 = .ok (.aload_n 0, 1) := by decide +kernel
theorem dX6_grow_59 : decode cX6_grow 59 = .ok (.getfield 26, 3) := by decide +kernel
theorem dX6_grow_62 : decode cX6_grow 62 = .ok (.aload_n 0, 1) := by decide +kernel
theorem dX6_grow_63 : decode cX6_grow 63 = .ok (.getfield 12, 3) := by decide +kernel
theorem dX6_grow_66 : decode cX6_grow 66 = .ok (.invokevirtual 202, 3) := by decide +kernel
theorem dX6_grow_69 : decode cX6_grow 69 = .ok (.iinc 2 1, 3) := by decide +kernel
theorem dX6_grow_72 : decode cX6_grow 72 = .ok (.goto (-29), 3) := by decide +kernel
theorem dX6_grow_75 : decode cX6_grow 75 = .ok (.aload_n 0, 1) := by decide +kernel
theorem dX6_grow_76 : decode cX6_grow 76 = .ok (.getfield 26, 3) := by decide +kernel
theorem dX6_grow_79 : decode cX6_grow 79 = .ok (.getfield 199, 3) := by decide +kernel
theorem dX6_grow_82 : decode cX6_grow 82 = .ok (.iconst 2, 1) := by decide +kernel
theorem dX6_grow_83 : decode cX6_grow 83 = .ok (.if_icmp .ne 31, 3) := by decide +kernel
theorem dX6_grow_86 : decode cX6_grow 86 = .ok (.aload_n 0, 1) := by decide +kernel
theorem dX6_grow_87 : decode cX6_grow 87 = .ok (.getfield 33, 3) := by decide +kernel
theorem dX6_grow_90 : decode cX6_grow 90 = .ok (.aload_n 0, 1) := by decide +kernel
theorem dX6_grow_91 : decode cX6_grow 91 = .ok (.getfield 12, 3) := by decide +kernel
theorem dX6_grow_94 : decode cX6_grow 94 = .ok (.getfield 73, 3) := by decide +kernel
theorem dX6_grow_97 : decode cX6_grow 97 = .ok (.aload_n 0, 1) := by decide +kernel
theorem dX6_grow_98 : decode cX6_grow 98 = .ok (.getfield 26, 3) := by decide +kernel
theorem dX6_grow_101 : decode cX6_grow 101 = .ok (.getfield 205, 3) := by decide +kernel
theorem dX6_grow_104 : decode cX6_grow 104 = .ok (.aload_n 0, 1) := by decide +kernel
theorem dX6_grow_105 : decode cX6_grow 105 = .ok (.getfield 26, 3) := by decide +kernel
theorem dX6_grow_108 : decode cX6_grow 108 = .ok (.getfield 208, 3) := by decide +kernel
theorem dX6_grow_111 : decode cX6_grow 111 = .ok (.invokevirtual 211, 3) := by decide +kernel
theorem dX6_grow_114 : decode cX6_grow 114 = .ok (.aload_n 0, 1) := by decide +kernel
theorem dX6_grow_115 : decode cX6_grow 115 = .ok (.getfield 33, 3) := by decide +kernel
theorem dX6_grow_118 : decode cX6_grow 118 = .ok (.aload_n 0, 1) := by decide +kernel
theorem dX6_grow_119 : decode cX6_grow 119 = .ok (.getfield 12, 3) := by decide +kernel
theorem dX6_grow_122 : decode cX6_grow 122 = .ok (.invokevirtual 83, 3) := by decide +kernel
theorem dX6_grow_125 : decode cX6_grow 125 = .ok (.aload_n 0, 1) := by decide +kernel
theorem dX6_grow_126 : decode cX6_grow 126 = .ok (.getfield 26, 3) := by decide +kernel
theorem dX6_grow_129 : decode cX6_grow 129 = .ok (.getfield 199, 3) := by decide +kernel
theorem dX6_grow_132 : decode cX6_grow 132 = .ok (.ireturn, 1) := by decide +kernel
set_option maxRecDepth 20000 in
theorem ggX6_search_X6_isWithin : GoodIn wsX6_search wsX6_isWithin := goodIn_r _ [8] (by decide +kernel) (by decide +kernel)
set_option maxRecDepth 20000 in
theorem gX6_search_X6_isWithin : GoodIn wsX6_search (va_wsS RX6 62 yX6_isWithin wsX6_isWithin) := goodIn_app (goodIn_of _ (by decide +kernel)) ggX6_search_X6_isWithin
set_option maxRecDepth 20000 in
theorem ggX6_search_X0_nextKnot : GoodIn wsX6_search wsX0_nextKnot := goodIn_r _ [12, 13, 14, 15, 16, 10, 17, 18, 19, 20, 21, 22, 23, 24, 25, 26, 27, 28, 29, 30, 31, 32, 33, 34, 35, 7, 36, 37, 38, 39, 40, 41, 42, 43, 44, 45, 46, 47, 48, 49, 50, 51, 52, 69, 70, 71, 72, 73, 74, 75, 76, 77, 78, 79, 80, 81] (by decide +kernel) (by decide +kernel)
set_option maxRecDepth 20000 in
theorem gX6_search_X0_nextKnot_n226 : GoodIn wsX6_search (wsX0_nextKnot) := ggX6_search_X0_nextKnot
set_option maxRecDepth 20000 in
theorem ggX6_search_X0_partnerOf : GoodIn wsX6_search wsX0_partnerOf := goodIn_r _ [55, 18, 14, 15, 16, 10, 17, 19, 20, 21, 22, 23, 24, 25, 26, 27, 28, 29, 30, 31, 32, 33, 34, 35, 7, 36, 39, 40, 41, 42, 43, 44, 37, 38, 45, 46, 47, 48, 49, 50, 51, 52, 56, 57, 58, 69, 70, 71, 72, 73, 74, 75, 76, 77, 78, 79, 80, 81] (by decide +kernel) (by decide +kernel)
set_option maxRecDepth 20000 in
theorem gX6_search_X0_partnerOf_n229 : GoodIn wsX6_search (wsX0_partnerOf) := ggX6_search_X0_partnerOf
theorem dX6_search_0 : decode cX6_search 0 = .ok (.iload_n 1, 1) := by decide +kernel
theorem dX6_search_1 : decode cX6_search 1 = .ok (.iconst 0, 1) := by decide +kernel
theorem dX6_search_2 : decode cX6_search 2 = .ok (.bipush 7, 2) := by decide +kernel
theorem dX6_search_4 : decode cX6_search 4 = .ok (.invokestatic 62, 3) := by decide +kernel
theorem dX6_search_7 : decode cX6_search 7 = .ok (.ifCond .ne 13, 3) := by decide +kernel
theorem dX6_search_10 : decode cX6_search 10 = .ok (.new 66, 3) := by decide +kernel
theorem dX6_search_13 : decode cX6_search 13 = .ok (.dup, 1) := by decide +kernel
theorem dX6_search_14 : decode cX6_search 14 = .ok (.ldc 215, 2) := by decide +kernel
theorem dX6_search_16 : decode cX6_search 16 = .ok (.invokespecial 70, 3) := by decide +kernel
theorem dX6_search_19 : decode cX6_search 19 = .ok (.athrow, 1) := by decide +kernel
theorem dX6_search_20 : decode cX6_search 20 = .ok (.aload_n 0, 1) := by decide +kernel
theorem dX6_search_21 : decode cX6_search 21 = .ok (.getfield 26, 3) := by decide +kernel
theorem dX6_search_24 : decode cX6_search 24 = .ok (.getfield 193, 3) := by decide +kernel
theorem dX6_search_27 : decode cX6_search 27 = .ok (.ifCond .ne 5, 3) := by decide +kernel
theorem dX6_search_30 : decode cX6_search 30 = .ok (.iconst (-1), 1) := by decide +kernel
theorem dX6_search_31 : decode cX6_search 31 = .ok (.ireturn, 1) := by decide +kernel
theorem dX6_search_32 : decode cX6_search 32 = .ok (.iload_n 1, 1) := by decide +kernel
theorem dX6_search_33 : decode cX6_search 33 = .ok (.tableswitch 103 0 6 #[43, 51, 59, 67, 75, 83, 91], 43) := by decide +kernel
theorem dX6_search_76 : decode cX6_search 76 = .ok (.aload_n 0, 1) := by decide +kernel
theorem dX6_search_77 : decode cX6_search 77 = .ok (.getfield 26, 3) := by decide +kernel
theorem dX6_search_80 : decode cX6_search 80 = .ok (.getfield 205, 3) := by decide +kernel
theorem dX6_search_83 : decode cX6_search 83 = .ok (.ireturn, 1) := by decide +kernel
theorem dX6_search_84 : decode cX6_search 84 = .ok (.aload_n 0, 1) := by decide +kernel
theorem dX6_search_85 : decode cX6_search 85 = .ok (.getfield 26, 3) := by decide +kernel
theorem dX6_search_88 : decode cX6_search 88 = .ok (.getfield 208, 3) := by decide +kernel
theorem dX6_search_91 : decode cX6_search 91 = .ok (.ireturn, 1) := by decide +kernel
theorem dX6_search_92 : decode cX6_search 92 = .ok (.aload_n 0, 1) := by decide +kernel
theorem dX6_search_93 : decode cX6_search 93 = .ok (.getfield 26, 3) := by decide +kernel
theorem dX6_search_96 : decode cX6_search 96 = .ok (.getfield 217, 3) := by decide +kernel
theorem dX6_search_99 : decode cX6_search 99 = .ok (.ireturn, 1) := by decide +kernel
theorem dX6_search_100 : decode cX6_search 100 = .ok (.aload_n 0, 1) := by decide +kernel
theorem dX6_search_101 : decode cX6_search 101 = .ok (.getfield 26, 3) := by decide +kernel
theorem dX6_search_104 : decode cX6_search 104 = .ok (.getfield 220, 3) := by decide +kernel
theorem dX6_search_107 : decode cX6_search 107 = .ok (.ireturn, 1) := by decide +kernel
theorem dX6_search_108 : decode cX6_search 108 = .ok (.aload_n 0, 1) := by decide +kernel
theorem dX6_search_109 : decode cX6_search 109 = .ok (.getfield 26, 3) := by decide +kernel
theorem dX6_search_112 : decode cX6_search 112 = .ok (.getfield 223, 3) := by decide +kernel
theorem dX6_search_115 : decode cX6_search 115 = .ok (.ireturn, 1) := by decide +kernel
theorem dX6_search_116 : decode cX6_search 116 = .ok (.aload_n 0, 1) := by decide +kernel
theorem dX6_search_117 : decode cX6_search 117 = .ok (.getfield 26, 3) := by decide +kernel
theorem dX6_search_120 : decode cX6_search 120 = .ok (.getfield 199, 3) := by decide +kernel
theorem dX6_search_123 : decode cX6_search 123 = .ok (.ireturn, 1) := by decide +kernel
theorem dX6_search_124 : decode cX6_search 124 = .ok (.aload_n 0, 1) := by decide +kernel
theorem dX6_search_125 : decode cX6_search 125 = .ok (.getfield 26, 3) := by decide +kernel
theorem dX6_search_128 : decode cX6_search 128 = .ok (.aload_n 0, 1) := by decide +kernel
theorem dX6_search_129 : decode cX6_search 129 = .ok (.getfield 12, 3) := by decide +kernel
theorem dX6_search_132 : decode cX6_search 132 = .ok (.invokevirtual 226, 3) := by decide +kernel
theorem dX6_search_135 : decode cX6_search 135 = .ok (.ireturn, 1) := by decide +kernel
theorem dX6_search_136 : decode cX6_search 136 = .ok (.aload_n 0, 1) := by decide +kernel
theorem dX6_search_137 : decode cX6_search 137 = .ok (.getfield 26, 3) := by decide +kernel
theorem dX6_search_140 : decode cX6_search 140 = .ok (.aload_n 0, 1) := by decide +kernel
theorem dX6_search_141 : decode cX6_search 141 = .ok (.getfield 12, 3) := by decide +kernel
theorem dX6_search_144 : decode cX6_search 144 = .ok (.aload_n 0, 1) := by decide +kernel
theorem dX6_search_145 : decode cX6_search 145 = .ok (.getfield 26, 3) := by decide +kernel
theorem dX6_search_148 : decode cX6_search 148 = .ok (.aload_n 0, 1) := by decide +kernel
theorem dX6_search_149 : decode cX6_search 149 = .ok (.getfield 12, 3) := by decide +kernel
theorem dX6_search_152 : decode cX6_search 152 = .ok (.invokevirtual 226, 3) := by decide +kernel
theorem dX6_search_155 : decode cX6_search 155 = .ok (.invokevirtual 229, 3) := by decide +kernel
theorem dX6_search_158 : decode cX6_search 158 = .ok (.ireturn, 1) := by decide +kernel
set_option maxRecDepth 20000 in
theorem ggX6_now_X6_isWithin : GoodIn wsX6_now wsX6_isWithin := goodIn_r _ [11] (by decide +kernel) (by decide +kernel)
set_option maxRecDepth 20000 in
theorem gX6_now_X6_isWithin : GoodIn wsX6_now (va_wsS RX6 62 yX6_isWithin wsX6_isWithin) := goodIn_app (goodIn_of _ (by decide +kernel)) ggX6_now_X6_isWithin
set_option maxRecDepth 20000 in
theorem ggX6_now_X3_edgesInAll : GoodIn wsX6_now wsX3_edgesInAll := goodIn_r _ [15, 16, 17, 18, 19, 13, 20, 21, 22, 23, 24, 25, 26, 27, 28, 29, 30, 31, 32, 144, 145] (by decide +kernel) (by decide +kernel)
set_option maxRecDepth 20000 in
theorem gX6_now_X3_edgesInAll_n130 : GoodIn wsX6_now (wsX3_edgesInAll) := ggX6_now_X3_edgesInAll
set_option maxRecDepth 20000 in
theorem ggX6_now_X5_partsInAll : GoodIn wsX6_now wsX5_partsInAll := goodIn_r _ [35, 36, 10, 37, 38, 39, 34, 40, 41, 42, 43, 44, 45, 46, 47, 48, 49, 27, 28, 29, 30, 31, 32, 22, 13, 23, 24, 25, 144, 145] (by decide +kernel) (by decide +kernel)
set_option maxRecDepth 20000 in
theorem gX6_now_X5_partsInAll_n235 : GoodIn wsX6_now (wsX5_partsInAll) := ggX6_now_X5_partsInAll
set_option maxRecDepth 20000 in
theorem ggX6_now_X5_leastRing : GoodIn wsX6_now wsX5_leastRing := goodIn_r _ [51, 52, 53, 34, 54, 55, 13, 56, 57, 21, 22, 23, 24, 25, 36, 10, 37, 58, 59, 60, 44, 45, 46, 47, 48, 49, 27, 28, 29, 30, 31, 32, 61, 62, 63, 64, 65, 66, 144, 145] (by decide +kernel) (by decide +kernel)
set_option maxRecDepth 20000 in
theorem gX6_now_X5_leastRing_n147 : GoodIn wsX6_now (wsX5_leastRing) := ggX6_now_X5_leastRing
set_option maxRecDepth 20000 in
theorem ggX6_now_X3_evenCount : GoodIn wsX6_now wsX3_evenCount := goodIn_r _ [69, 16, 17, 18, 19, 13, 20, 21, 22, 23, 24, 25, 26, 27, 28, 29, 30, 31, 32, 144, 145] (by decide +kernel) (by decide +kernel)
set_option maxRecDepth 20000 in
theorem gX6_now_X3_evenCount_n238 : GoodIn wsX6_now (wsX3_evenCount) := ggX6_now_X3_evenCount
set_option maxRecDepth 20000 in
theorem ggX6_now_X5_width : GoodIn wsX6_now wsX5_width := goodIn_r _ [71, 72, 73, 65, 74, 75, 33, 34, 35, 36, 10, 37, 38, 39, 40, 41, 42, 43, 44, 45, 46, 47, 48, 49, 27, 28, 29, 30, 31, 32, 22, 13, 23, 24, 25, 76, 77, 78, 144, 145] (by decide +kernel) (by decide +kernel)
set_option maxRecDepth 20000 in
theorem gX6_now_X5_width_n241 : GoodIn wsX6_now (wsX5_width) := ggX6_now_X5_width
set_option maxRecDepth 20000 in
theorem ggX6_now_X4_fewest : GoodIn wsX6_now wsX4_fewest := goodIn_r _ [82, 83, 73, 65, 74, 36, 10, 37, 39, 34, 40, 41, 42, 43, 44, 45, 46, 47, 48, 49, 27, 28, 29, 30, 31, 32, 22, 13, 23, 24, 25, 84, 85, 86, 80, 87, 88, 89, 90, 91, 92, 93, 94, 144, 145, 146] (by decide +kernel) (by decide +kernel)
set_option maxRecDepth 20000 in
theorem gX6_now_X4_fewest_n244 : GoodIn wsX6_now (wsX4_fewest) := ggX6_now_X4_fewest
set_option maxRecDepth 20000 in
theorem ggX6_now_X2_turnsOf : GoodIn wsX6_now wsX2_turnsOf := goodIn_r _ [98, 99, 100, 101, 64, 65, 66, 102, 13, 103, 104, 16, 25, 21, 22, 23, 24, 36, 10, 37, 39, 34, 40, 41, 42, 43, 44, 45, 46, 47, 48, 49, 27, 28, 29, 30, 31, 32, 105, 106, 107, 96, 108, 109, 110, 111, 112, 113, 114, 115, 116, 117, 118, 119, 120, 121, 122, 123, 124, 125, 126, 127, 128, 129, 130, 144, 145, 147, 148, 149, 150] (by decide +kernel) (by decide +kernel)
set_option maxRecDepth 20000 in
theorem gX6_now_X2_turnsOf_n247 : GoodIn wsX6_now (wsX2_turnsOf) := ggX6_now_X2_turnsOf
set_option maxRecDepth 20000 in
theorem ggX6_now_X3_loneliest : GoodIn wsX6_now wsX3_loneliest := goodIn_r _ [133, 16, 17, 18, 19, 13, 20, 21, 22, 23, 24, 25, 26, 27, 28, 29, 30, 31, 32, 44, 10, 45, 144, 145] (by decide +kernel) (by decide +kernel)
set_option maxRecDepth 20000 in
theorem gX6_now_X3_loneliest_n250 : GoodIn wsX6_now (wsX3_loneliest) := ggX6_now_X3_loneliest
theorem dX6_now_0 : decode cX6_now 0 = .ok (.iload_n 1, 1) := by decide +kernel
theorem dX6_now_1 : decode cX6_now 1 = .ok (.iconst 0, 1) := by decide +kernel
theorem dX6_now_2 : decode cX6_now 2 = .ok (.bipush 10, 2) := by decide +kernel
theorem dX6_now_4 : decode cX6_now 4 = .ok (.invokestatic 62, 3) := by decide +kernel
theorem dX6_now_7 : decode cX6_now 7 = .ok (.ifCond .ne 13, 3) := by decide +kernel
theorem dX6_now_10 : decode cX6_now 10 = .ok (.new 66, 3) := by decide +kernel
theorem dX6_now_13 : decode cX6_now 13 = .ok (.dup, 1) := by decide +kernel
theorem dX6_now_14 : decode cX6_now 14 = .ok (.ldc 233, 2) := by decide +kernel
theorem dX6_now_16 : decode cX6_now 16 = .ok (.invokespecial 70, 3) := by decide +kernel
theorem dX6_now_19 : decode cX6_now 19 = .ok (.athrow, 1) := by decide +kernel
theorem dX6_now_20 : decode cX6_now 20 = .ok (.iload_n 1, 1) := by decide +kernel
theorem dX6_now_21 : decode cX6_now 21 = .ok (.tableswitch 140 0 9 #[55, 63, 71, 79, 87, 95, 103, 115, 127, 132], 55) := by decide +kernel
theorem dX6_now_76 : decode cX6_now 76 = .ok (.aload_n 0, 1) := by decide +kernel
theorem dX6_now_77 : decode cX6_now 77 = .ok (.getfield 12, 3) := by decide +kernel
theorem dX6_now_80 : decode cX6_now 80 = .ok (.getfield 73, 3) := by decide +kernel
theorem dX6_now_83 : decode cX6_now 83 = .ok (.ireturn, 1) := by decide +kernel
theorem dX6_now_84 : decode cX6_now 84 = .ok (.aload_n 0, 1) := by decide +kernel
theorem dX6_now_85 : decode cX6_now 85 = .ok (.getfield 12, 3) := by decide +kernel
theorem dX6_now_88 : decode cX6_now 88 = .ok (.invokevirtual 130, 3) := by decide +kernel
theorem dX6_now_91 : decode cX6_now 91 = .ok (.ireturn, 1) := by decide +kernel
theorem dX6_now_92 : decode cX6_now 92 = .ok (.aload_n 0, 1) := by decide +kernel
theorem dX6_now_93 : decode cX6_now 93 = .ok (.getfield 12, 3) := by decide +kernel
theorem dX6_now_96 : decode cX6_now 96 = .ok (.invokestatic 235, 3) := by decide +kernel
theorem dX6_now_99 : decode cX6_now 99 = .ok (.ireturn, 1) := by decide +kernel
theorem dX6_now_100 : decode cX6_now 100 = .ok (.aload_n 0, 1) := by decide +kernel
theorem dX6_now_101 : decode cX6_now 101 = .ok (.getfield 12, 3) := by decide +kernel
theorem dX6_now_104 : decode cX6_now 104 = .ok (.invokestatic 147, 3) := by decide +kernel
theorem dX6_now_107 : decode cX6_now 107 = .ok (.ireturn, 1) := by decide +kernel
theorem dX6_now_108 : decode cX6_now 108 = .ok (.aload_n 0, 1) := by decide +kernel
theorem dX6_now_109 : decode cX6_now 109 = .ok (.getfield 12, 3) := by decide +kernel
theorem dX6_now_112 : decode cX6_now 112 = .ok (.invokevirtual 238, 3) := by decide +kernel
theorem dX6_now_115 : decode cX6_now 115 = .ok (.ireturn, 1) := by decide +kernel
theorem dX6_now_116 : decode cX6_now 116 = .ok (.aload_n 0, 1) := by decide +kernel
theorem dX6_now_117 : decode cX6_now 117 = .ok (.getfield 12, 3) := by decide +kernel
theorem dX6_now_120 : decode cX6_now 120 = .ok (.invokestatic 241, 3) := by decide +kernel
theorem dX6_now_123 : decode cX6_now 123 = .ok (.ireturn, 1) := by decide +kernel
theorem dX6_now_124 : decode cX6_now 124 = .ok (.aload_n 0, 1) := by decide +kernel
theorem dX6_now_125 : decode cX6_now 125 = .ok (.getfield 47, 3) := by decide +kernel
theorem dX6_now_128 : decode cX6_now 128 = .ok (.aload_n 0, 1) := by decide +kernel
theorem dX6_now_129 : decode cX6_now 129 = .ok (.getfield 12, 3) := by decide +kernel
theorem dX6_now_132 : decode cX6_now 132 = .ok (.invokevirtual 244, 3) := by decide +kernel
theorem dX6_now_135 : decode cX6_now 135 = .ok (.ireturn, 1) := by decide +kernel
theorem dX6_now_136 : decode cX6_now 136 = .ok (.aload_n 0, 1) := by decide +kernel
theorem dX6_now_137 : decode cX6_now 137 = .ok (.getfield 40, 3) := by decide +kernel
theorem dX6_now_140 : decode cX6_now 140 = .ok (.aload_n 0, 1) := by decide +kernel
theorem dX6_now_141 : decode cX6_now 141 = .ok (.getfield 12, 3) := by decide +kernel
theorem dX6_now_144 : decode cX6_now 144 = .ok (.invokevirtual 247, 3) := by decide +kernel
theorem dX6_now_147 : decode cX6_now 147 = .ok (.ireturn, 1) := by decide +kernel
theorem dX6_now_148 : decode cX6_now 148 = .ok (.aload_n 0, 1) := by decide +kernel
theorem dX6_now_149 : decode cX6_now 149 = .ok (.getfield 55, 3) := by decide +kernel
theorem dX6_now_152 : decode cX6_now 152 = .ok (.ireturn, 1) := by decide +kernel
theorem dX6_now_153 : decode cX6_now 153 = .ok (.aload_n 0, 1) := by decide +kernel
theorem dX6_now_154 : decode cX6_now 154 = .ok (.getfield 12, 3) := by decide +kernel
theorem dX6_now_157 : decode cX6_now 157 = .ok (.invokevirtual 250, 3) := by decide +kernel
theorem dX6_now_160 : decode cX6_now 160 = .ok (.ireturn, 1) := by decide +kernel
theorem dX6_now_161 : decode cX6_now 161 = .ok (.aload_n 0, 1) := by decide +kernel
theorem dX6_now_162 : decode cX6_now 162 = .ok (.getfield 59, 3) := by decide +kernel
theorem dX6_now_165 : decode cX6_now 165 = .ok (.ireturn, 1) := by decide +kernel
set_option maxRecDepth 20000 in
theorem ggX6_ofKnot_X3_isKnot : GoodIn wsX6_ofKnot wsX3_isKnot := goodIn_r _ [10, 11, 12, 91, 92] (by decide +kernel) (by decide +kernel)
set_option maxRecDepth 20000 in
theorem gX6_ofKnot_X3_isKnot_n87 : GoodIn wsX6_ofKnot (wsX3_isKnot) := ggX6_ofKnot_X3_isKnot
set_option maxRecDepth 20000 in
theorem ggX6_ofKnot_X6_isWithin : GoodIn wsX6_ofKnot wsX6_isWithin := goodIn_r _ [16] (by decide +kernel) (by decide +kernel)
set_option maxRecDepth 20000 in
theorem gX6_ofKnot_X6_isWithin : GoodIn wsX6_ofKnot (va_wsS RX6 62 yX6_isWithin wsX6_isWithin) := goodIn_app (goodIn_of _ (by decide +kernel)) ggX6_ofKnot_X6_isWithin
set_option maxRecDepth 20000 in
theorem ggX6_ofKnot_X3_countOf : GoodIn wsX6_ofKnot wsX3_countOf := goodIn_r _ [19, 20, 21, 22, 8, 23, 12, 24, 25, 26, 27, 28, 29, 30, 91, 92] (by decide +kernel) (by decide +kernel)
set_option maxRecDepth 20000 in
theorem gX6_ofKnot_X3_countOf_n102 : GoodIn wsX6_ofKnot (wsX3_countOf) := ggX6_ofKnot_X3_countOf
set_option maxRecDepth 20000 in
theorem ggX6_ofKnot_X3_nearOf : GoodIn wsX6_ofKnot wsX3_nearOf := goodIn_r _ [23, 12, 91, 92] (by decide +kernel) (by decide +kernel)
set_option maxRecDepth 20000 in
theorem gX6_ofKnot_X3_nearOf_n255 : GoodIn wsX6_ofKnot (wsX3_nearOf) := ggX6_ofKnot_X3_nearOf
set_option maxRecDepth 20000 in
theorem ggX6_ofKnot_X5_partNumber : GoodIn wsX6_ofKnot wsX5_partNumber := goodIn_r _ [33, 34, 15, 35, 36, 37, 32, 38, 39, 40, 41, 42, 43, 44, 45, 46, 47, 25, 26, 27, 28, 29, 30, 21, 8, 22, 23, 12, 91, 92] (by decide +kernel) (by decide +kernel)
set_option maxRecDepth 20000 in
theorem gX6_ofKnot_X5_partNumber_n258 : GoodIn wsX6_ofKnot (wsX5_partNumber) := ggX6_ofKnot_X5_partNumber
set_option maxRecDepth 20000 in
theorem ggX6_ofKnot_X5_leastRingAt : GoodIn wsX6_ofKnot wsX5_leastRingAt := goodIn_r _ [49, 50, 8, 51, 52, 20, 21, 22, 23, 12, 34, 15, 35, 53, 54, 32, 55, 42, 43, 44, 45, 46, 47, 25, 26, 27, 28, 29, 30, 56, 57, 58, 59, 60, 61, 91, 92] (by decide +kernel) (by decide +kernel)
set_option maxRecDepth 20000 in
theorem gX6_ofKnot_X5_leastRingAt_n261 : GoodIn wsX6_ofKnot (wsX5_leastRingAt) := ggX6_ofKnot_X5_leastRingAt
set_option maxRecDepth 20000 in
theorem ggX6_ofKnot_X5_greatestDistance : GoodIn wsX6_ofKnot wsX5_greatestDistance := goodIn_r _ [63, 42, 15, 43, 44, 45, 32, 46, 47, 25, 26, 27, 28, 29, 30, 21, 8, 22, 23, 12, 91, 92] (by decide +kernel) (by decide +kernel)
set_option maxRecDepth 20000 in
theorem gX6_ofKnot_X5_greatestDistance_n264 : GoodIn wsX6_ofKnot (wsX5_greatestDistance) := ggX6_ofKnot_X5_greatestDistance
set_option maxRecDepth 20000 in
theorem ggX6_ofKnot_X0_joinable : GoodIn wsX6_ofKnot wsX0_joinable := goodIn_r _ [67, 68, 69, 70, 71, 65, 72, 73, 17, 8, 18, 19, 20, 21, 22, 23, 12, 24, 25, 26, 27, 28, 29, 30, 42, 15, 43, 74, 75, 76, 77, 78, 79, 34, 35, 40, 32, 41, 44, 45, 46, 47, 93, 94, 95, 96, 97, 98, 99, 100, 101, 102, 103, 91, 92] (by decide +kernel) (by decide +kernel)
set_option maxRecDepth 20000 in
theorem gX6_ofKnot_X0_joinable_n267 : GoodIn wsX6_ofKnot (wsX0_joinable) := ggX6_ofKnot_X0_joinable
set_option maxRecDepth 20000 in
theorem ggX6_ofKnot_J6_bitCount_0f7a4 : GoodIn wsX6_ofKnot wsJ6_bitCount_0f7a4 := goodIn_r _ [27, 28, 29, 30] (by decide +kernel) (by decide +kernel)
set_option maxRecDepth 20000 in
theorem gX6_ofKnot_J6_bitCount_0f7a4 : GoodIn wsX6_ofKnot (va_wsS RX6 270 yJ6_bitCount_0f7a4 wsJ6_bitCount_0f7a4) := goodIn_app (goodIn_of _ (by decide +kernel)) ggX6_ofKnot_J6_bitCount_0f7a4
theorem dX6_ofKnot_0 : decode cX6_ofKnot 0 = .ok (.aload_n 0, 1) := by decide +kernel
theorem dX6_ofKnot_1 : decode cX6_ofKnot 1 = .ok (.getfield 12, 3) := by decide +kernel
theorem dX6_ofKnot_4 : decode cX6_ofKnot 4 = .ok (.iload_n 1, 1) := by decide +kernel
theorem dX6_ofKnot_5 : decode cX6_ofKnot 5 = .ok (.invokevirtual 87, 3) := by decide +kernel
theorem dX6_ofKnot_8 : decode cX6_ofKnot 8 = .ok (.ifCond .ne 13, 3) := by decide +kernel
theorem dX6_ofKnot_11 : decode cX6_ofKnot 11 = .ok (.new 91, 3) := by decide +kernel
theorem dX6_ofKnot_14 : decode cX6_ofKnot 14 = .ok (.dup, 1) := by decide +kernel
theorem dX6_ofKnot_15 : decode cX6_ofKnot 15 = .ok (.ldc 93, 2) := by decide +kernel
theorem dX6_ofKnot_17 : decode cX6_ofKnot 17 = .ok (.invokespecial 95, 3) := by decide +kernel
theorem dX6_ofKnot_20 : decode cX6_ofKnot 20 = .ok (.athrow, 1) := by decide +kernel
theorem dX6_ofKnot_21 : decode cX6_ofKnot 21 = .ok (.iload_n 2, 1) := by decide +kernel
theorem dX6_ofKnot_22 : decode cX6_ofKnot 22 = .ok (.iconst 0, 1) := by decide +kernel
theorem dX6_ofKnot_23 : decode cX6_ofKnot 23 = .ok (.iconst 5, 1) := by decide +kernel
theorem dX6_ofKnot_24 : decode cX6_ofKnot 24 = .ok (.invokestatic 62, 3) := by decide +kernel
theorem dX6_ofKnot_27 : decode cX6_ofKnot 27 = .ok (.ifCond .ne 13, 3) := by decide +kernel
theorem dX6_ofKnot_30 : decode cX6_ofKnot 30 = .ok (.new 66, 3) := by decide +kernel
theorem dX6_ofKnot_33 : decode cX6_ofKnot 33 = .ok (.dup, 1) := by decide +kernel
theorem dX6_ofKnot_34 : decode cX6_ofKnot 34 = .ok (.ldc 253, 2) := by decide +kernel
theorem dX6_ofKnot_36 : decode cX6_ofKnot 36 = .ok (.invokespecial 70, 3) := by decide +kernel
theorem dX6_ofKnot_39 : decode cX6_ofKnot 39 = .ok (.athrow, 1) := by decide +kernel
theorem dX6_ofKnot_40 : decode cX6_ofKnot 40 = .ok (.iload_n 2, 1) := by decide +kernel
theorem dX6_ofKnot_41 : decode cX6_ofKnot 41 = .ok (.tableswitch 80 0 4 #[35, 44, 53, 62, 71], 35) := by decide +kernel
theorem dX6_ofKnot_76 : decode cX6_ofKnot 76 = .ok (.aload_n 0, 1) := by decide +kernel
theorem dX6_ofKnot_77 : decode cX6_ofKnot 77 = .ok (.getfield 12, 3) := by decide +kernel
theorem dX6_ofKnot_80 : decode cX6_ofKnot 80 = .ok (.iload_n 1, 1) := by decide +kernel
theorem dX6_ofKnot_81 : decode cX6_ofKnot 81 = .ok (.invokevirtual 102, 3) := by decide +kernel
theorem dX6_ofKnot_84 : decode cX6_ofKnot 84 = .ok (.ireturn, 1) := by decide +kernel
theorem dX6_ofKnot_85 : decode cX6_ofKnot 85 = .ok (.aload_n 0, 1) := by decide +kernel
theorem dX6_ofKnot_86 : decode cX6_ofKnot 86 = .ok (.getfield 12, 3) := by decide +kernel
theorem dX6_ofKnot_89 : decode cX6_ofKnot 89 = .ok (.iload_n 1, 1) := by decide +kernel
theorem dX6_ofKnot_90 : decode cX6_ofKnot 90 = .ok (.invokevirtual 255, 3) := by decide +kernel
theorem dX6_ofKnot_93 : decode cX6_ofKnot 93 = .ok (.ireturn, 1) := by decide +kernel
theorem dX6_ofKnot_94 : decode cX6_ofKnot 94 = .ok (.aload_n 0, 1) := by decide +kernel
theorem dX6_ofKnot_95 : decode cX6_ofKnot 95 = .ok (.getfield 12, 3) := by decide +kernel
theorem dX6_ofKnot_98 : decode cX6_ofKnot 98 = .ok (.iload_n 1, 1) := by decide +kernel
theorem dX6_ofKnot_99 : decode cX6_ofKnot 99 = .ok (.invokestatic 258, 3) := by decide +kernel
theorem dX6_ofKnot_102 : decode cX6_ofKnot 102 = .ok (.ireturn, 1) := by decide +kernel
theorem dX6_ofKnot_103 : decode cX6_ofKnot 103 = .ok (.aload_n 0, 1) := by decide +kernel
theorem dX6_ofKnot_104 : decode cX6_ofKnot 104 = .ok (.getfield 12, 3) := by decide +kernel
theorem dX6_ofKnot_107 : decode cX6_ofKnot 107 = .ok (.iload_n 1, 1) := by decide +kernel
theorem dX6_ofKnot_108 : decode cX6_ofKnot 108 = .ok (.invokestatic 261, 3) := by decide +kernel
theorem dX6_ofKnot_111 : decode cX6_ofKnot 111 = .ok (.ireturn, 1) := by decide +kernel
theorem dX6_ofKnot_112 : decode cX6_ofKnot 112 = .ok (.aload_n 0, 1) := by decide +kernel
theorem dX6_ofKnot_113 : decode cX6_ofKnot 113 = .ok (.getfield 12, 3) := by decide +kernel
theorem dX6_ofKnot_116 : decode cX6_ofKnot 116 = .ok (.iload_n 1, 1) := by decide +kernel
theorem dX6_ofKnot_117 : decode cX6_ofKnot 117 = .ok (.invokestatic 264, 3) := by decide +kernel
theorem dX6_ofKnot_120 : decode cX6_ofKnot 120 = .ok (.ireturn, 1) := by decide +kernel
theorem dX6_ofKnot_121 : decode cX6_ofKnot 121 = .ok (.aload_n 0, 1) := by decide +kernel
theorem dX6_ofKnot_122 : decode cX6_ofKnot 122 = .ok (.getfield 26, 3) := by decide +kernel
theorem dX6_ofKnot_125 : decode cX6_ofKnot 125 = .ok (.aload_n 0, 1) := by decide +kernel
theorem dX6_ofKnot_126 : decode cX6_ofKnot 126 = .ok (.getfield 12, 3) := by decide +kernel
theorem dX6_ofKnot_129 : decode cX6_ofKnot 129 = .ok (.iload_n 1, 1) := by decide +kernel
theorem dX6_ofKnot_130 : decode cX6_ofKnot 130 = .ok (.invokevirtual 267, 3) := by decide +kernel
theorem dX6_ofKnot_133 : decode cX6_ofKnot 133 = .ok (.invokestatic 270, 3) := by decide +kernel
theorem dX6_ofKnot_136 : decode cX6_ofKnot 136 = .ok (.ireturn, 1) := by decide +kernel
set_option maxRecDepth 20000 in
theorem ggX6_ofEdge_X3_edgeAt : GoodIn wsX6_ofEdge wsX3_edgeAt := goodIn_r _ [9, 10, 11, 12, 13, 7, 14, 15, 16, 17, 18, 19, 20, 21, 22, 23, 24, 25, 26, 27, 28, 29, 30, 31, 32, 33, 62, 63] (by decide +kernel) (by decide +kernel)
set_option maxRecDepth 20000 in
theorem gX6_ofEdge_X3_edgeAt_n153 : GoodIn wsX6_ofEdge (wsX3_edgeAt) := ggX6_ofEdge_X3_edgeAt
set_option maxRecDepth 20000 in
theorem ggX6_ofEdge_X6_isWithin : GoodIn wsX6_ofEdge wsX6_isWithin := goodIn_r _ [36] (by decide +kernel) (by decide +kernel)
set_option maxRecDepth 20000 in
theorem gX6_ofEdge_X6_isWithin : GoodIn wsX6_ofEdge (va_wsS RX6 62 yX6_isWithin wsX6_isWithin) := goodIn_app (goodIn_of _ (by decide +kernel)) ggX6_ofEdge_X6_isWithin
set_option maxRecDepth 20000 in
theorem ggX6_ofEdge_X6_oneOf : GoodIn wsX6_ofEdge wsX6_oneOf := goodIn_r _ [39] (by decide +kernel) (by decide +kernel)
set_option maxRecDepth 20000 in
theorem gX6_ofEdge_X6_oneOf : GoodIn wsX6_ofEdge (va_wsS RX6 277 yX6_oneOf wsX6_oneOf) := goodIn_app (goodIn_of _ (by decide +kernel)) ggX6_ofEdge_X6_oneOf
set_option maxRecDepth 20000 in
theorem ggX6_ofEdge_X6_otherOf : GoodIn wsX6_ofEdge wsX6_otherOf := goodIn_r _ [42] (by decide +kernel) (by decide +kernel)
set_option maxRecDepth 20000 in
theorem gX6_ofEdge_X6_otherOf : GoodIn wsX6_ofEdge (va_wsS RX6 280 yX6_otherOf wsX6_otherOf) := goodIn_app (goodIn_of _ (by decide +kernel)) ggX6_ofEdge_X6_otherOf
set_option maxRecDepth 20000 in
theorem ggX6_ofEdge_X5_leastRingBy : GoodIn wsX6_ofEdge wsX5_leastRingBy := goodIn_r _ [45, 16, 17, 18, 12, 7, 13, 14, 15, 46, 47, 44, 48, 49, 20, 21, 22, 23, 24, 25, 50, 51, 62, 63] (by decide +kernel) (by decide +kernel)
set_option maxRecDepth 20000 in
theorem gX6_ofEdge_X5_leastRingBy_n283 : GoodIn wsX6_ofEdge (wsX5_leastRingBy) := ggX6_ofEdge_X5_leastRingBy
theorem dX6_ofEdge_0 : decode cX6_ofEdge 0 = .ok (.aload_n 0, 1) := by decide +kernel
theorem dX6_ofEdge_1 : decode cX6_ofEdge 1 = .ok (.getfield 12, 3) := by decide +kernel
theorem dX6_ofEdge_4 : decode cX6_ofEdge 4 = .ok (.iload_n 1, 1) := by decide +kernel
theorem dX6_ofEdge_5 : decode cX6_ofEdge 5 = .ok (.invokevirtual 153, 3) := by decide +kernel
theorem dX6_ofEdge_8 : decode cX6_ofEdge 8 = .ok (.istore_n 3, 1) := by decide +kernel
theorem dX6_ofEdge_9 : decode cX6_ofEdge 9 = .ok (.iload_n 3, 1) := by decide +kernel
theorem dX6_ofEdge_10 : decode cX6_ofEdge 10 = .ok (.iconst (-1), 1) := by decide +kernel
theorem dX6_ofEdge_11 : decode cX6_ofEdge 11 = .ok (.if_icmp .ne 13, 3) := by decide +kernel
theorem dX6_ofEdge_14 : decode cX6_ofEdge 14 = .ok (.new 91, 3) := by decide +kernel
theorem dX6_ofEdge_17 : decode cX6_ofEdge 17 = .ok (.dup, 1) := by decide +kernel
theorem dX6_ofEdge_18 : decode cX6_ofEdge 18 = .ok (.ldc 156, 2) := by decide +kernel
theorem dX6_ofEdge_20 : decode cX6_ofEdge 20 = .ok (.invokespecial 95, 3) := by decide +kernel
theorem dX6_ofEdge_23 : decode cX6_ofEdge 23 = .ok (.athrow, 1) := by decide +kernel
theorem dX6_ofEdge_24 : decode cX6_ofEdge 24 = .ok (.iload_n 2, 1) := by decide +kernel
theorem dX6_ofEdge_25 : decode cX6_ofEdge 25 = .ok (.iconst 0, 1) := by decide +kernel
theorem dX6_ofEdge_26 : decode cX6_ofEdge 26 = .ok (.iconst 3, 1) := by decide +kernel
theorem dX6_ofEdge_27 : decode cX6_ofEdge 27 = .ok (.invokestatic 62, 3) := by decide +kernel
theorem dX6_ofEdge_30 : decode cX6_ofEdge 30 = .ok (.ifCond .ne 14, 3) := by decide +kernel
theorem dX6_ofEdge_33 : decode cX6_ofEdge 33 = .ok (.new 66, 3) := by decide +kernel
theorem dX6_ofEdge_36 : decode cX6_ofEdge 36 = .ok (.dup, 1) := by decide +kernel
theorem dX6_ofEdge_37 : decode cX6_ofEdge 37 = .ok (.ldc_w 275, 3) := by decide +kernel
theorem dX6_ofEdge_40 : decode cX6_ofEdge 40 = .ok (.invokespecial 70, 3) := by decide +kernel
theorem dX6_ofEdge_43 : decode cX6_ofEdge 43 = .ok (.athrow, 1) := by decide +kernel
theorem dX6_ofEdge_44 : decode cX6_ofEdge 44 = .ok (.iload_n 2, 1) := by decide +kernel
theorem dX6_ofEdge_45 : decode cX6_ofEdge 45 = .ok (.tableswitch 62 0 2 #[27, 32, 37], 27) := by decide +kernel
theorem dX6_ofEdge_72 : decode cX6_ofEdge 72 = .ok (.iload_n 3, 1) := by decide +kernel
theorem dX6_ofEdge_73 : decode cX6_ofEdge 73 = .ok (.invokestatic 277, 3) := by decide +kernel
theorem dX6_ofEdge_76 : decode cX6_ofEdge 76 = .ok (.ireturn, 1) := by decide +kernel
theorem dX6_ofEdge_77 : decode cX6_ofEdge 77 = .ok (.iload_n 3, 1) := by decide +kernel
theorem dX6_ofEdge_78 : decode cX6_ofEdge 78 = .ok (.invokestatic 280, 3) := by decide +kernel
theorem dX6_ofEdge_81 : decode cX6_ofEdge 81 = .ok (.ireturn, 1) := by decide +kernel
theorem dX6_ofEdge_82 : decode cX6_ofEdge 82 = .ok (.aload_n 0, 1) := by decide +kernel
theorem dX6_ofEdge_83 : decode cX6_ofEdge 83 = .ok (.getfield 12, 3) := by decide +kernel
theorem dX6_ofEdge_86 : decode cX6_ofEdge 86 = .ok (.iload_n 3, 1) := by decide +kernel
theorem dX6_ofEdge_87 : decode cX6_ofEdge 87 = .ok (.invokestatic 277, 3) := by decide +kernel
theorem dX6_ofEdge_90 : decode cX6_ofEdge 90 = .ok (.iload_n 3, 1) := by decide +kernel
theorem dX6_ofEdge_91 : decode cX6_ofEdge 91 = .ok (.invokestatic 280, 3) := by decide +kernel
theorem dX6_ofEdge_94 : decode cX6_ofEdge 94 = .ok (.invokestatic 283, 3) := by decide +kernel
theorem dX6_ofEdge_97 : decode cX6_ofEdge 97 = .ok (.iconst (-1), 1) := by decide +kernel
theorem dX6_ofEdge_98 : decode cX6_ofEdge 98 = .ok (.if_icmp .ne 7, 3) := by decide +kernel
theorem dX6_ofEdge_101 : decode cX6_ofEdge 101 = .ok (.iconst 1, 1) := by decide +kernel
theorem dX6_ofEdge_102 : decode cX6_ofEdge 102 = .ok (.goto 4, 3) := by decide +kernel
theorem dX6_ofEdge_105 : decode cX6_ofEdge 105 = .ok (.iconst 0, 1) := by decide +kernel
theorem dX6_ofEdge_106 : decode cX6_ofEdge 106 = .ok (.ireturn, 1) := by decide +kernel
theorem dX6_ofEdge_107 : decode cX6_ofEdge 107 = .ok (.aload_n 0, 1) := by decide +kernel
theorem dX6_ofEdge_108 : decode cX6_ofEdge 108 = .ok (.getfield 12, 3) := by decide +kernel
theorem dX6_ofEdge_111 : decode cX6_ofEdge 111 = .ok (.iload_n 3, 1) := by decide +kernel
theorem dX6_ofEdge_112 : decode cX6_ofEdge 112 = .ok (.invokestatic 277, 3) := by decide +kernel
theorem dX6_ofEdge_115 : decode cX6_ofEdge 115 = .ok (.iload_n 3, 1) := by decide +kernel
theorem dX6_ofEdge_116 : decode cX6_ofEdge 116 = .ok (.invokestatic 280, 3) := by decide +kernel
theorem dX6_ofEdge_119 : decode cX6_ofEdge 119 = .ok (.invokestatic 283, 3) := by decide +kernel
theorem dX6_ofEdge_122 : decode cX6_ofEdge 122 = .ok (.ireturn, 1) := by decide +kernel
set_option maxRecDepth 20000 in
theorem ggX6_rings_X6_isWithin : GoodIn wsX6_rings wsX6_isWithin := goodIn_r _ [6] (by decide +kernel) (by decide +kernel)
set_option maxRecDepth 20000 in
theorem gX6_rings_X6_isWithin : GoodIn wsX6_rings (va_wsS RX6 62 yX6_isWithin wsX6_isWithin) := goodIn_app (goodIn_of _ (by decide +kernel)) ggX6_rings_X6_isWithin
set_option maxRecDepth 20000 in
theorem ggX6_rings_X6_countRings : GoodIn wsX6_rings wsX6_countRings := goodIn_r _ [10, 11, 12, 13, 14, 5, 15, 16, 17, 18, 19, 20, 21, 22, 23, 24, 25, 26, 27, 28, 29, 30, 31, 32, 33, 38, 39, 40, 41, 42, 43, 44, 45, 46, 47, 48, 49] (by decide +kernel) (by decide +kernel)
set_option maxRecDepth 20000 in
theorem gX6_rings_X6_countRings : GoodIn wsX6_rings (wsV RX6 292 RX6 yX6_countRings wsX6_countRings) := goodIn_app (goodIn_of _ (by decide +kernel)) ggX6_rings_X6_countRings
set_option maxRecDepth 20000 in
theorem ggX6_rings_X6_tallied : GoodIn wsX6_rings wsX6_tallied := goodIn_r _ [37, 11, 38, 39, 40, 41, 42, 43, 44, 45, 46, 47] (by decide +kernel) (by decide +kernel)
set_option maxRecDepth 20000 in
theorem gX6_rings_X6_tallied : GoodIn wsX6_rings (wsV RX6 295 RX6 yX6_tallied wsX6_tallied) := goodIn_app (goodIn_of _ (by decide +kernel)) ggX6_rings_X6_tallied
theorem dX6_rings_0 : decode cX6_rings 0 = .ok (.iload_n 1, 1) := by decide +kernel
theorem dX6_rings_1 : decode cX6_rings 1 = .ok (.iconst 3, 1) := by decide +kernel
theorem dX6_rings_2 : decode cX6_rings 2 = .ok (.bipush 7, 2) := by decide +kernel
theorem dX6_rings_4 : decode cX6_rings 4 = .ok (.invokestatic 62, 3) := by decide +kernel
theorem dX6_rings_7 : decode cX6_rings 7 = .ok (.ifCond .ne 14, 3) := by decide +kernel
theorem dX6_rings_10 : decode cX6_rings 10 = .ok (.new 66, 3) := by decide +kernel
theorem dX6_rings_13 : decode cX6_rings 13 = .ok (.dup, 1) := by decide +kernel
theorem dX6_rings_14 : decode cX6_rings 14 = .ok (.ldc_w 290, 3) := by decide +kernel
theorem dX6_rings_17 : decode cX6_rings 17 = .ok (.invokespecial 70, 3) := by decide +kernel
theorem dX6_rings_20 : decode cX6_rings 20 = .ok (.athrow, 1) := by decide +kernel
theorem dX6_rings_21 : decode cX6_rings 21 = .ok (.aload_n 0, 1) := by decide +kernel
theorem dX6_rings_22 : decode cX6_rings 22 = .ok (.iload_n 1, 1) := by decide +kernel
theorem dX6_rings_23 : decode cX6_rings 23 = .ok (.invokevirtual 292, 3) := by decide +kernel
theorem dX6_rings_26 : decode cX6_rings 26 = .ok (.aload_n 0, 1) := by decide +kernel
theorem dX6_rings_27 : decode cX6_rings 27 = .ok (.iload_n 1, 1) := by decide +kernel
theorem dX6_rings_28 : decode cX6_rings 28 = .ok (.invokevirtual 295, 3) := by decide +kernel
theorem dX6_rings_31 : decode cX6_rings 31 = .ok (.ireturn, 1) := by decide +kernel
set_option maxRecDepth 20000 in
theorem ggX6_bound_X6_requireTabled : GoodIn wsX6_bound wsX6_requireTabled := goodIn_ca (goodIn_r _ [5, 6, 7, 8, 9, 4, 10] (by decide +kernel) (by decide +kernel)) (goodIn_sub (fun _ h => List.mem_cons_of_mem _ (List.mem_append_right _ h)) (by decide +kernel))
set_option maxRecDepth 20000 in
theorem gX6_bound_X6_requireTabled : GoodIn wsX6_bound (wsV RX6 180 RX6 yX6_requireTabled wsX6_requireTabled) := goodIn_app (goodIn_of _ (by decide +kernel)) ggX6_bound_X6_requireTabled
set_option maxRecDepth 20000 in
theorem ggX6_bound_X1_leastKnots : GoodIn wsX6_bound wsX1_leastKnots := goodIn_r _ [13] (by decide +kernel) (by decide +kernel)
set_option maxRecDepth 20000 in
theorem gX6_bound_X1_leastKnots_n298 : GoodIn wsX6_bound (wsX1_leastKnots) := ggX6_bound_X1_leastKnots
theorem dX6_bound_0 : decode cX6_bound 0 = .ok (.aload_n 0, 1) := by decide +kernel
theorem dX6_bound_1 : decode cX6_bound 1 = .ok (.iload_n 1, 1) := by decide +kernel
theorem dX6_bound_2 : decode cX6_bound 2 = .ok (.iload_n 2, 1) := by decide +kernel
theorem dX6_bound_3 : decode cX6_bound 3 = .ok (.invokevirtual 180, 3) := by decide +kernel
theorem dX6_bound_6 : decode cX6_bound 6 = .ok (.iload_n 1, 1) := by decide +kernel
theorem dX6_bound_7 : decode cX6_bound 7 = .ok (.iload_n 2, 1) := by decide +kernel
theorem dX6_bound_8 : decode cX6_bound 8 = .ok (.invokestatic 298, 3) := by decide +kernel
theorem dX6_bound_11 : decode cX6_bound 11 = .ok (.ireturn, 1) := by decide +kernel
set_option maxRecDepth 20000 in
theorem ggX6_table_X6_requireTabled : GoodIn wsX6_table wsX6_requireTabled := goodIn_ca (goodIn_r _ [6, 7, 8, 9, 10, 5, 11] (by decide +kernel) (by decide +kernel)) (goodIn_sub (fun _ h => List.mem_cons_of_mem _ (List.mem_append_right _ h)) (by decide +kernel))
set_option maxRecDepth 20000 in
theorem gX6_table_X6_requireTabled : GoodIn wsX6_table (wsV RX6 180 RX6 yX6_requireTabled wsX6_requireTabled) := goodIn_app (goodIn_of _ (by decide +kernel)) ggX6_table_X6_requireTabled
set_option maxRecDepth 20000 in
theorem ggX6_table_X1_nextOf : GoodIn wsX6_table wsX1_nextOf := goodIn_r _ [15, 16, 17, 18, 13, 19, 20, 21, 22, 23, 24, 25, 26, 27, 28, 29, 30, 31, 10, 5, 11, 50, 51] (by decide +kernel) (by decide +kernel)
set_option maxRecDepth 20000 in
theorem gX6_table_X1_nextOf_n303 : GoodIn wsX6_table (wsX1_nextOf) := ggX6_table_X1_nextOf
set_option maxRecDepth 20000 in
theorem ggX6_table_X1_smallestOf : GoodIn wsX6_table wsX1_smallestOf := goodIn_r _ [34, 35, 36, 37, 38, 13, 39, 10, 5, 11, 50, 51] (by decide +kernel) (by decide +kernel)
set_option maxRecDepth 20000 in
theorem gX6_table_X1_smallestOf_n306 : GoodIn wsX6_table (wsX1_smallestOf) := ggX6_table_X1_smallestOf
theorem dX6_table_0 : decode cX6_table 0 = .ok (.aload_n 0, 1) := by decide +kernel
theorem dX6_table_1 : decode cX6_table 1 = .ok (.iload_n 1, 1) := by decide +kernel
theorem dX6_table_2 : decode cX6_table 2 = .ok (.iload_n 2, 1) := by decide +kernel
theorem dX6_table_3 : decode cX6_table 3 = .ok (.invokevirtual 180, 3) := by decide +kernel
theorem dX6_table_6 : decode cX6_table 6 = .ok (.iload_n 3, 1) := by decide +kernel
theorem dX6_table_7 : decode cX6_table 7 = .ok (.ifCond .eq 15, 3) := by decide +kernel
theorem dX6_table_10 : decode cX6_table 10 = .ok (.aload_n 0, 1) := by decide +kernel
theorem dX6_table_11 : decode cX6_table 11 = .ok (.getfield 33, 3) := by decide +kernel
theorem dX6_table_14 : decode cX6_table 14 = .ok (.iload_n 1, 1) := by decide +kernel
theorem dX6_table_15 : decode cX6_table 15 = .ok (.iload_n 2, 1) := by decide +kernel
theorem dX6_table_16 : decode cX6_table 16 = .ok (.invokevirtual 303, 3) := by decide +kernel
theorem dX6_table_19 : decode cX6_table 19 = .ok (.goto 12, 3) := by decide +kernel
theorem dX6_table_22 : decode cX6_table 22 = .ok (.aload_n 0, 1) := by decide +kernel
theorem dX6_table_23 : decode cX6_table 23 = .ok (.getfield 33, 3) := by decide +kernel
theorem dX6_table_26 : decode cX6_table 26 = .ok (.iload_n 1, 1) := by decide +kernel
theorem dX6_table_27 : decode cX6_table 27 = .ok (.iload_n 2, 1) := by decide +kernel
theorem dX6_table_28 : decode cX6_table 28 = .ok (.invokevirtual 306, 3) := by decide +kernel
theorem dX6_table_31 : decode cX6_table 31 = .ok (.ireturn, 1) := by decide +kernel
set_option maxRecDepth 20000 in
theorem ggX6_keep_X3_init : GoodIn wsX6_keep wsX3_init := goodIn_r _ [10, 11, 12, 13, 14, 15, 16, 34, 35] (by decide +kernel) (by decide +kernel)
set_option maxRecDepth 20000 in
theorem gX6_keep_X3_init_n11 : GoodIn wsX6_keep (wsX3_init) := ggX6_keep_X3_init
set_option maxRecDepth 20000 in
theorem ggX6_keep_X3_take : GoodIn wsX6_keep wsX3_take := goodIn_r _ [19, 16, 15, 20, 21, 22, 8, 23, 34, 35] (by decide +kernel) (by decide +kernel)
set_option maxRecDepth 20000 in
theorem gX6_keep_X3_take_n144 : GoodIn wsX6_keep (wsX3_take) := ggX6_keep_X3_take
theorem dX6_keep_0 : decode cX6_keep 0 = .ok (.aload_n 0, 1) := by decide +kernel
theorem dX6_keep_1 : decode cX6_keep 1 = .ok (.getfield 12, 3) := by decide +kernel
theorem dX6_keep_4 : decode cX6_keep 4 = .ok (.getfield 73, 3) := by decide +kernel
theorem dX6_keep_7 : decode cX6_keep 7 = .ok (.ifCond .eq 22, 3) := by decide +kernel
theorem dX6_keep_10 : decode cX6_keep 10 = .ok (.aload_n 0, 1) := by decide +kernel
theorem dX6_keep_11 : decode cX6_keep 11 = .ok (.getfield 55, 3) := by decide +kernel
theorem dX6_keep_14 : decode cX6_keep 14 = .ok (.ifCond .lt 15, 3) := by decide +kernel
theorem dX6_keep_17 : decode cX6_keep 17 = .ok (.aload_n 0, 1) := by decide +kernel
theorem dX6_keep_18 : decode cX6_keep 18 = .ok (.getfield 55, 3) := by decide +kernel
theorem dX6_keep_21 : decode cX6_keep 21 = .ok (.aload_n 0, 1) := by decide +kernel
theorem dX6_keep_22 : decode cX6_keep 22 = .ok (.getfield 19, 3) := by decide +kernel
theorem dX6_keep_25 : decode cX6_keep 25 = .ok (.arraylength, 1) := by decide +kernel
theorem dX6_keep_26 : decode cX6_keep 26 = .ok (.if_icmp .lt 14, 3) := by decide +kernel
theorem dX6_keep_29 : decode cX6_keep 29 = .ok (.new 106, 3) := by decide +kernel
theorem dX6_keep_32 : decode cX6_keep 32 = .ok (.dup, 1) := by decide +kernel
theorem dX6_keep_33 : decode cX6_keep 33 = .ok (.ldc_w 309, 3) := by decide +kernel
theorem dX6_keep_36 : decode cX6_keep 36 = .ok (.invokespecial 110, 3) := by decide +kernel
theorem dX6_keep_39 : decode cX6_keep 39 = .ok (.athrow, 1) := by decide +kernel
theorem dX6_keep_40 : decode cX6_keep 40 = .ok (.new 9, 3) := by decide +kernel
theorem dX6_keep_43 : decode cX6_keep 43 = .ok (.dup, 1) := by decide +kernel
theorem dX6_keep_44 : decode cX6_keep 44 = .ok (.invokespecial 11, 3) := by decide +kernel
theorem dX6_keep_47 : decode cX6_keep 47 = .ok (.astore_n 1, 1) := by decide +kernel
theorem dX6_keep_48 : decode cX6_keep 48 = .ok (.aload_n 1, 1) := by decide +kernel
theorem dX6_keep_49 : decode cX6_keep 49 = .ok (.aload_n 0, 1) := by decide +kernel
theorem dX6_keep_50 : decode cX6_keep 50 = .ok (.getfield 12, 3) := by decide +kernel
theorem dX6_keep_53 : decode cX6_keep 53 = .ok (.invokevirtual 144, 3) := by decide +kernel
theorem dX6_keep_56 : decode cX6_keep 56 = .ok (.aload_n 0, 1) := by decide +kernel
theorem dX6_keep_57 : decode cX6_keep 57 = .ok (.getfield 55, 3) := by decide +kernel
theorem dX6_keep_60 : decode cX6_keep 60 = .ok (.istore_n 2, 1) := by decide +kernel
theorem dX6_keep_61 : decode cX6_keep 61 = .ok (.aload_n 0, 1) := by decide +kernel
theorem dX6_keep_62 : decode cX6_keep 62 = .ok (.getfield 19, 3) := by decide +kernel
theorem dX6_keep_65 : decode cX6_keep 65 = .ok (.iload_n 2, 1) := by decide +kernel
theorem dX6_keep_66 : decode cX6_keep 66 = .ok (.aload_n 1, 1) := by decide +kernel
theorem dX6_keep_67 : decode cX6_keep 67 = .ok (.aastore, 1) := by decide +kernel
theorem dX6_keep_68 : decode cX6_keep 68 = .ok (.aload_n 0, 1) := by decide +kernel
theorem dX6_keep_69 : decode cX6_keep 69 = .ok (.dup, 1) := by decide +kernel
theorem dX6_keep_70 : decode cX6_keep 70 = .ok (.getfield 55, 3) := by decide +kernel
theorem dX6_keep_73 : decode cX6_keep 73 = .ok (.iconst 1, 1) := by decide +kernel
theorem dX6_keep_74 : decode cX6_keep 74 = .ok (.iadd, 1) := by decide +kernel
theorem dX6_keep_75 : decode cX6_keep 75 = .ok (.putfield 55, 3) := by decide +kernel
theorem dX6_keep_78 : decode cX6_keep 78 = .ok (.iload_n 2, 1) := by decide +kernel
theorem dX6_keep_79 : decode cX6_keep 79 = .ok (.ireturn, 1) := by decide +kernel
set_option maxRecDepth 20000 in
theorem ggX6_back_X6_keptAt : GoodIn wsX6_back wsX6_keptAt := goodIn_r _ [10, 11, 12, 82, 83, 84, 85, 86, 87, 88, 89, 90, 91] (by decide +kernel) (by decide +kernel)
set_option maxRecDepth 20000 in
theorem gX6_back_X6_keptAt : GoodIn wsX6_back (wsV RX6 311 RX6 yX6_keptAt wsX6_keptAt) := goodIn_app (goodIn_of _ (by decide +kernel)) ggX6_back_X6_keptAt
set_option maxRecDepth 20000 in
theorem ggX6_back_X3_take : GoodIn wsX6_back wsX3_take := goodIn_r _ [16, 17, 18, 19, 20, 21, 14, 22, 92, 93] (by decide +kernel) (by decide +kernel)
set_option maxRecDepth 20000 in
theorem gX6_back_X3_take_n144 : GoodIn wsX6_back (wsX3_take) := ggX6_back_X3_take
set_option maxRecDepth 20000 in
theorem ggX6_back_X0_end : GoodIn wsX6_back wsX0_end := goodIn_r _ [26, 27, 94, 95, 96, 97, 98, 99, 100, 101, 102, 103, 104] (by decide +kernel) (by decide +kernel)
set_option maxRecDepth 20000 in
theorem gX6_back_X0_end_n80 : GoodIn wsX6_back (wsX0_end) := ggX6_back_X0_end
set_option maxRecDepth 20000 in
theorem ggX6_back_X1_look : GoodIn wsX6_back wsX1_look := goodIn_r _ [31, 32, 33, 14, 34, 35, 17, 36, 37, 38, 39, 19, 20, 21, 22, 18, 40, 41, 42, 43, 44, 45, 46, 47, 9, 48, 49, 50, 51, 52, 53, 54, 55, 56, 57, 58, 59, 60, 61, 62, 63, 64, 65, 66, 67, 68, 69, 70, 71, 72, 73, 74, 75, 76, 77, 29, 78, 105, 106, 92, 93] (by decide +kernel) (by decide +kernel)
set_option maxRecDepth 20000 in
theorem gX6_back_X1_look_n83 : GoodIn wsX6_back (wsX1_look) := ggX6_back_X1_look
set_option maxRecDepth 20000 in
theorem ggX6_back_X3_edgesInAll : GoodIn wsX6_back wsX3_edgesInAll := goodIn_r _ [81, 17, 36, 37, 38, 14, 39, 19, 20, 21, 22, 18, 40, 41, 42, 43, 44, 45, 46, 92, 93] (by decide +kernel) (by decide +kernel)
set_option maxRecDepth 20000 in
theorem gX6_back_X3_edgesInAll_n130 : GoodIn wsX6_back (wsX3_edgesInAll) := ggX6_back_X3_edgesInAll
theorem dX6_back_0 : decode cX6_back 0 = .ok (.aload_n 0, 1) := by decide +kernel
theorem dX6_back_1 : decode cX6_back 1 = .ok (.iload_n 1, 1) := by decide +kernel
theorem dX6_back_2 : decode cX6_back 2 = .ok (.invokevirtual 311, 3) := by decide +kernel
theorem dX6_back_5 : decode cX6_back 5 = .ok (.astore_n 2, 1) := by decide +kernel
theorem dX6_back_6 : decode cX6_back 6 = .ok (.aload_n 2, 1) := by decide +kernel
theorem dX6_back_7 : decode cX6_back 7 = .ok (.ifnonnull 14, 3) := by decide +kernel
theorem dX6_back_10 : decode cX6_back 10 = .ok (.new 91, 3) := by decide +kernel
theorem dX6_back_13 : decode cX6_back 13 = .ok (.dup, 1) := by decide +kernel
theorem dX6_back_14 : decode cX6_back 14 = .ok (.ldc_w 315, 3) := by decide +kernel
theorem dX6_back_17 : decode cX6_back 17 = .ok (.invokespecial 95, 3) := by decide +kernel
theorem dX6_back_20 : decode cX6_back 20 = .ok (.athrow, 1) := by decide +kernel
theorem dX6_back_21 : decode cX6_back 21 = .ok (.aload_n 0, 1) := by decide +kernel
theorem dX6_back_22 : decode cX6_back 22 = .ok (.getfield 12, 3) := by decide +kernel
theorem dX6_back_25 : decode cX6_back 25 = .ok (.aload_n 2, 1) := by decide +kernel
theorem dX6_back_26 : decode cX6_back 26 = .ok (.invokevirtual 144, 3) := by decide +kernel
theorem dX6_back_29 : decode cX6_back 29 = .ok (.aload_n 0, 1) := by decide +kernel
theorem dX6_back_30 : decode cX6_back 30 = .ok (.getfield 26, 3) := by decide +kernel
theorem dX6_back_33 : decode cX6_back 33 = .ok (.invokevirtual 80, 3) := by decide +kernel
theorem dX6_back_36 : decode cX6_back 36 = .ok (.aload_n 0, 1) := by decide +kernel
theorem dX6_back_37 : decode cX6_back 37 = .ok (.getfield 33, 3) := by decide +kernel
theorem dX6_back_40 : decode cX6_back 40 = .ok (.aload_n 0, 1) := by decide +kernel
theorem dX6_back_41 : decode cX6_back 41 = .ok (.getfield 12, 3) := by decide +kernel
theorem dX6_back_44 : decode cX6_back 44 = .ok (.invokevirtual 83, 3) := by decide +kernel
theorem dX6_back_47 : decode cX6_back 47 = .ok (.aload_n 0, 1) := by decide +kernel
theorem dX6_back_48 : decode cX6_back 48 = .ok (.getfield 12, 3) := by decide +kernel
theorem dX6_back_51 : decode cX6_back 51 = .ok (.invokevirtual 130, 3) := by decide +kernel
theorem dX6_back_54 : decode cX6_back 54 = .ok (.ireturn, 1) := by decide +kernel
set_option maxRecDepth 20000 in
theorem ggX6_isAlike_X6_keptAt : GoodIn wsX6_isAlike wsX6_keptAt := goodIn_r _ [9, 10, 11, 82, 83, 84, 85, 86, 87, 88, 89, 90, 91] (by decide +kernel) (by decide +kernel)
set_option maxRecDepth 20000 in
theorem gX6_isAlike_X6_keptAt : GoodIn wsX6_isAlike (wsV RX6 311 RX6 yX6_keptAt wsX6_keptAt) := goodIn_app (goodIn_of _ (by decide +kernel)) ggX6_isAlike_X6_keptAt
set_option maxRecDepth 20000 in
theorem ggX6_isAlike_X2_areAlike : GoodIn wsX6_isAlike wsX2_areAlike := goodIn_r _ [15, 16, 17, 18, 19, 20, 21, 22, 23, 24, 25, 26, 27, 28, 29, 30, 31, 32, 33, 34, 35, 36, 37, 38, 39, 40, 41, 42, 8, 43, 44, 45, 46, 47, 48, 49, 50, 51, 52, 53, 54, 55, 56, 57, 58, 13, 59, 60, 61, 62, 63, 64, 65, 66, 67, 68, 69, 70, 71, 72, 73, 74, 75, 76, 77, 78, 79, 80, 81, 92, 93, 94, 95, 96, 97] (by decide +kernel) (by decide +kernel)
set_option maxRecDepth 20000 in
theorem gX6_isAlike_X2_areAlike_n317 : GoodIn wsX6_isAlike (wsX2_areAlike) := ggX6_isAlike_X2_areAlike
theorem dX6_isAlike_0 : decode cX6_isAlike 0 = .ok (.aload_n 0, 1) := by decide +kernel
theorem dX6_isAlike_1 : decode cX6_isAlike 1 = .ok (.iload_n 1, 1) := by decide +kernel
theorem dX6_isAlike_2 : decode cX6_isAlike 2 = .ok (.invokevirtual 311, 3) := by decide +kernel
theorem dX6_isAlike_5 : decode cX6_isAlike 5 = .ok (.astore_n 2, 1) := by decide +kernel
theorem dX6_isAlike_6 : decode cX6_isAlike 6 = .ok (.aload_n 2, 1) := by decide +kernel
theorem dX6_isAlike_7 : decode cX6_isAlike 7 = .ok (.ifnonnull 14, 3) := by decide +kernel
theorem dX6_isAlike_10 : decode cX6_isAlike 10 = .ok (.new 91, 3) := by decide +kernel
theorem dX6_isAlike_13 : decode cX6_isAlike 13 = .ok (.dup, 1) := by decide +kernel
theorem dX6_isAlike_14 : decode cX6_isAlike 14 = .ok (.ldc_w 315, 3) := by decide +kernel
theorem dX6_isAlike_17 : decode cX6_isAlike 17 = .ok (.invokespecial 95, 3) := by decide +kernel
theorem dX6_isAlike_20 : decode cX6_isAlike 20 = .ok (.athrow, 1) := by decide +kernel
theorem dX6_isAlike_21 : decode cX6_isAlike 21 = .ok (.aload_n 0, 1) := by decide +kernel
theorem dX6_isAlike_22 : decode cX6_isAlike 22 = .ok (.getfield 40, 3) := by decide +kernel
theorem dX6_isAlike_25 : decode cX6_isAlike 25 = .ok (.aload_n 0, 1) := by decide +kernel
theorem dX6_isAlike_26 : decode cX6_isAlike 26 = .ok (.getfield 12, 3) := by decide +kernel
theorem dX6_isAlike_29 : decode cX6_isAlike 29 = .ok (.aload_n 2, 1) := by decide +kernel
theorem dX6_isAlike_30 : decode cX6_isAlike 30 = .ok (.invokevirtual 317, 3) := by decide +kernel
theorem dX6_isAlike_33 : decode cX6_isAlike 33 = .ok (.ireturn, 1) := by decide +kernel
set_option maxRecDepth 20000 in
theorem ggX6_isSound_X3_isMutual : GoodIn wsX6_isSound wsX3_isMutual := goodIn_r _ [6, 7, 8, 9, 10, 4, 11, 12, 13, 14, 15, 16, 17, 18, 19, 110, 111] (by decide +kernel) (by decide +kernel)
set_option maxRecDepth 20000 in
theorem gX6_isSound_X3_isMutual_n340 : GoodIn wsX6_isSound (wsX3_isMutual) := ggX6_isSound_X3_isMutual
set_option maxRecDepth 20000 in
theorem ggX6_isSound_X6_isAimSound : GoodIn wsX6_isSound wsX6_isAimSound := goodIn_r _ [23, 24, 1, 25, 4, 26, 27, 12, 13, 14, 15, 16, 28, 29, 30, 31, 32, 33, 34, 35, 36, 37, 38, 39, 40, 9, 10, 11, 17, 18, 19, 41, 42, 43, 44, 45, 46, 47, 48, 49, 50, 51, 52, 53, 54, 55, 100, 101, 102, 103, 104, 105, 106, 107, 108, 109, 112, 113, 114, 115, 116, 117, 118, 119, 120, 121, 122, 110, 111] (by decide +kernel) (by decide +kernel)
set_option maxRecDepth 20000 in
theorem gX6_isSound_X6_isAimSound : GoodIn wsX6_isSound (wsV RX6 344 RX6 yX6_isAimSound wsX6_isAimSound) := goodIn_app (goodIn_of _ (by decide +kernel)) ggX6_isSound_X6_isAimSound
set_option maxRecDepth 20000 in
theorem ggX6_isSound_X6_isEvenSound : GoodIn wsX6_isSound wsX6_isEvenSound := goodIn_r _ [59, 1, 2, 60, 4, 61, 62, 7, 63, 25, 26, 27, 12, 13, 14, 15, 16, 28, 29, 30, 31, 32, 33, 34, 35, 36, 37, 38, 39, 40, 9, 10, 11, 17, 18, 19, 41, 42, 43, 44, 45, 46, 47, 48, 49, 50, 51, 52, 53, 54, 55, 64, 65, 66, 67, 68, 69, 70, 71, 72, 73, 74, 75, 76, 77, 78, 79, 80, 81, 82, 100, 101, 102, 103, 104, 105, 106, 107, 108, 109, 110, 111, 123, 124] (by decide +kernel) (by decide +kernel)
set_option maxRecDepth 20000 in
theorem gX6_isSound_X6_isEvenSound : GoodIn wsX6_isSound (wsV RX6 347 RX6 yX6_isEvenSound wsX6_isEvenSound) := goodIn_app (goodIn_of _ (by decide +kernel)) ggX6_isSound_X6_isEvenSound
set_option maxRecDepth 20000 in
theorem ggX6_isSound_X1_isTableSound : GoodIn wsX6_isSound wsX1_isTableSound := goodIn_r _ [85, 86, 87, 88, 68, 89, 90, 91, 92, 93, 94, 65, 18, 66, 95, 67, 69, 70, 71, 72, 73, 74, 75, 76, 77, 78, 79, 80, 81, 82, 96, 97, 98, 99, 123, 124] (by decide +kernel) (by decide +kernel)
set_option maxRecDepth 20000 in
theorem gX6_isSound_X1_isTableSound_n350 : GoodIn wsX6_isSound (wsX1_isTableSound) := ggX6_isSound_X1_isTableSound
theorem dX6_isSound_0 : decode cX6_isSound 0 = .ok (.aload_n 0, 1) := by decide +kernel
theorem dX6_isSound_1 : decode cX6_isSound 1 = .ok (.getfield 12, 3) := by decide +kernel
theorem dX6_isSound_4 : decode cX6_isSound 4 = .ok (.invokevirtual 340, 3) := by decide +kernel
theorem dX6_isSound_7 : decode cX6_isSound 7 = .ok (.ifCond .eq 31, 3) := by decide +kernel
theorem dX6_isSound_10 : decode cX6_isSound 10 = .ok (.aload_n 0, 1) := by decide +kernel
theorem dX6_isSound_11 : decode cX6_isSound 11 = .ok (.invokevirtual 344, 3) := by decide +kernel
theorem dX6_isSound_14 : decode cX6_isSound 14 = .ok (.ifCond .eq 24, 3) := by decide +kernel
theorem dX6_isSound_17 : decode cX6_isSound 17 = .ok (.aload_n 0, 1) := by decide +kernel
theorem dX6_isSound_18 : decode cX6_isSound 18 = .ok (.invokevirtual 347, 3) := by decide +kernel
theorem dX6_isSound_21 : decode cX6_isSound 21 = .ok (.ifCond .eq 17, 3) := by decide +kernel
theorem dX6_isSound_24 : decode cX6_isSound 24 = .ok (.aload_n 0, 1) := by decide +kernel
theorem dX6_isSound_25 : decode cX6_isSound 25 = .ok (.getfield 33, 3) := by decide +kernel
theorem dX6_isSound_28 : decode cX6_isSound 28 = .ok (.invokevirtual 350, 3) := by decide +kernel
theorem dX6_isSound_31 : decode cX6_isSound 31 = .ok (.ifCond .eq 7, 3) := by decide +kernel
theorem dX6_isSound_34 : decode cX6_isSound 34 = .ok (.iconst 1, 1) := by decide +kernel
theorem dX6_isSound_35 : decode cX6_isSound 35 = .ok (.goto 4, 3) := by decide +kernel
theorem dX6_isSound_38 : decode cX6_isSound 38 = .ok (.iconst 0, 1) := by decide +kernel
theorem dX6_isSound_39 : decode cX6_isSound 39 = .ok (.ireturn, 1) := by decide +kernel
set_option maxRecDepth 20000 in
theorem ggX6_digest_X6_now : GoodIn wsX6_digest wsX6_now := goodIn_ca (goodIn_r _ [8, 9, 10, 11, 12, 13, 3, 14, 15, 16, 7, 17, 18, 19, 20, 21, 22, 23, 24, 25, 26, 27, 28, 29, 30, 31, 32, 33, 34, 35, 36, 37, 38, 39, 40, 41, 42, 43, 44, 45, 46, 47, 48, 49, 50, 51, 52, 53, 54, 55, 56, 57, 58, 59, 60, 61, 62, 63, 64, 65, 66, 67, 68, 69, 70, 71, 72, 73, 74, 75, 76, 77, 78, 79, 80, 81, 82, 83, 84, 85, 86, 87, 88, 89, 90, 91, 92, 93, 94, 95, 96, 97, 98, 99, 100, 101, 102, 103, 104, 105, 106, 107, 108, 109, 110, 111, 112, 113, 114, 115, 116, 117, 118, 119, 120, 121, 122, 123, 124, 125, 126, 127, 128, 129, 130, 131, 132, 133, 134, 135, 136, 137, 138, 139, 305, 306, 307, 308, 309, 310, 311, 312, 313, 314, 315, 316, 317, 318, 319, 320, 321] (by decide +kernel) (by decide +kernel)) (goodIn_sub (fun _ h => List.mem_cons_of_mem _ (List.mem_append_left _ (List.mem_append_right _ h))) (by decide +kernel))
set_option maxRecDepth 20000 in
theorem gX6_digest_X6_now : GoodIn wsX6_digest (wsV RX6 357 RX6 yX6_now wsX6_now) := goodIn_app (goodIn_of _ (by decide +kernel)) ggX6_digest_X6_now
set_option maxRecDepth 20000 in
theorem ggX6_digest_X6_search : GoodIn wsX6_digest wsX6_search := goodIn_ca (goodIn_r _ [143, 9, 10, 144, 11, 15, 16, 7, 17, 145, 146, 147, 148, 149, 150, 151, 152, 153, 154, 24, 19, 25, 26, 27, 28, 29, 30, 31, 32, 33, 34, 35, 36, 37, 38, 50, 51, 42, 43, 155, 156, 157, 158, 159, 160, 48, 40, 49, 52, 53, 54, 55, 161, 162, 163, 164, 165, 166, 167, 305, 306, 307, 308, 309, 310, 311, 312, 313, 314, 322, 323, 324, 325, 326, 327, 328, 329, 330, 331, 332, 315, 316] (by decide +kernel) (by decide +kernel)) (goodIn_sub (fun _ h => List.mem_cons_of_mem _ (List.mem_append_left _ (List.mem_append_right _ h))) (by decide +kernel))
set_option maxRecDepth 20000 in
theorem gX6_digest_X6_search : GoodIn wsX6_digest (wsV RX6 360 RX6 yX6_search wsX6_search) := goodIn_app (goodIn_of _ (by decide +kernel)) ggX6_digest_X6_search
set_option maxRecDepth 20000 in
theorem ggX6_digest_X6_digestOfKnots : GoodIn wsX6_digest wsX6_digestOfKnots := goodIn_ca (goodIn_ca (goodIn_r _ [171, 11, 2, 172, 173, 174, 7, 175, 176, 177, 9, 10, 144, 178, 19, 179, 180, 22, 31, 15, 16, 17, 24, 25, 26, 27, 28, 29, 30, 32, 33, 34, 35, 36, 37, 38, 181, 40, 182, 42, 43, 44, 45, 46, 47, 48, 49, 50, 51, 52, 53, 54, 55, 59, 60, 61, 62, 63, 64, 65, 66, 67, 68, 69, 70, 71, 72, 83, 84, 183, 146, 184, 185, 186, 150, 151, 152, 153, 154, 155, 156, 157, 158, 159, 160, 167, 305, 306, 307, 308, 309, 310, 311, 312, 313, 314, 315, 316, 322, 323, 324, 325, 326, 327, 328, 329, 330, 331, 332] (by decide +kernel) (by decide +kernel)) (goodIn_sub (fun _ h => List.mem_cons_of_mem _ (List.mem_append_right _ h)) (by decide +kernel))) (goodIn_sub (fun _ h => List.mem_cons_of_mem _ (List.mem_append_left _ (List.mem_append_right _ h))) (by decide +kernel))
set_option maxRecDepth 20000 in
theorem gX6_digest_X6_digestOfKnots : GoodIn wsX6_digest (wsV RX6 363 RX6 yX6_digestOfKnots wsX6_digestOfKnots) := goodIn_app (goodIn_of _ (by decide +kernel)) ggX6_digest_X6_digestOfKnots
set_option maxRecDepth 20000 in
theorem ggX6_digest_X6_digestOfEdges : GoodIn wsX6_digest wsX6_digestOfEdges := goodIn_ca (goodIn_ca (goodIn_r _ [190, 11, 2, 18, 19, 20, 21, 22, 23, 24, 25, 26, 27, 28, 29, 30, 31, 32, 33, 34, 35, 36, 37, 38, 191, 192, 193, 7, 194, 176, 177, 9, 10, 195, 196, 197, 50, 51, 198, 199, 200, 165, 166, 167, 201, 202, 15, 16, 17, 203, 204, 205, 206, 207, 208, 65, 40, 66, 52, 53, 54, 55, 42, 43, 305, 306, 307, 308, 309, 310, 311, 312, 313, 314, 315, 316] (by decide +kernel) (by decide +kernel)) (goodIn_sub (fun _ h => List.mem_cons_of_mem _ (List.mem_append_right _ h)) (by decide +kernel))) (goodIn_sub (fun _ h => List.mem_cons_of_mem _ (List.mem_append_left _ (List.mem_append_right _ h))) (by decide +kernel))
set_option maxRecDepth 20000 in
theorem gX6_digest_X6_digestOfEdges : GoodIn wsX6_digest (wsV RX6 367 RX6 yX6_digestOfEdges wsX6_digestOfEdges) := goodIn_app (goodIn_of _ (by decide +kernel)) ggX6_digest_X6_digestOfEdges
set_option maxRecDepth 20000 in
theorem ggX6_digest_X6_rings : GoodIn wsX6_digest wsX6_rings := goodIn_ca (goodIn_r _ [212, 9, 10, 15, 16, 7, 17, 213, 214, 215, 216, 217, 11, 218, 50, 51, 219, 220, 221, 28, 19, 29, 30, 31, 167, 33, 34, 35, 36, 37, 38, 222, 42, 43, 223, 224, 225, 226, 305, 306, 307, 308, 309, 310, 311, 312, 313, 314, 315, 316] (by decide +kernel) (by decide +kernel)) (goodIn_sub (fun _ h => List.mem_cons_of_mem _ (List.mem_append_left _ (List.mem_append_right _ h))) (by decide +kernel))
set_option maxRecDepth 20000 in
theorem gX6_digest_X6_rings : GoodIn wsX6_digest (wsV RX6 370 RX6 yX6_rings wsX6_rings) := goodIn_app (goodIn_of _ (by decide +kernel)) ggX6_digest_X6_rings
set_option maxRecDepth 20000 in
theorem ggX6_digest_X6_digestOfTable : GoodIn wsX6_digest wsX6_digestOfTable := goodIn_ca (goodIn_r _ [230, 2, 231, 232, 233, 7, 234, 235, 236, 237, 238, 239, 9, 10, 15, 16, 17, 240, 241, 242, 243, 244, 245, 246, 247, 248, 249, 250, 251, 252, 253, 254, 255, 256, 257, 258, 259, 260, 261, 262, 263, 264, 265, 266, 267, 305, 306, 307, 308, 309, 310, 311, 312, 313, 314, 333, 334] (by decide +kernel) (by decide +kernel)) (goodIn_sub (fun _ h => List.mem_cons_of_mem _ (List.mem_append_left _ (List.mem_append_right _ h))) (by decide +kernel))
set_option maxRecDepth 20000 in
theorem gX6_digest_X6_digestOfTable : GoodIn wsX6_digest (wsV RX6 373 RX6 yX6_digestOfTable wsX6_digestOfTable) := goodIn_app (goodIn_of _ (by decide +kernel)) ggX6_digest_X6_digestOfTable
set_option maxRecDepth 20000 in
theorem ggX6_digest_X6_isAlike : GoodIn wsX6_digest wsX6_isAlike := goodIn_ca (goodIn_r _ [271, 176, 177, 13, 11, 272, 273, 274, 7, 275, 3, 276, 277, 102, 278, 279, 105, 106, 18, 19, 20, 21, 22, 23, 24, 25, 26, 27, 28, 29, 30, 31, 32, 33, 34, 35, 36, 37, 38, 108, 109, 110, 50, 51, 42, 43, 45, 40, 46, 47, 48, 49, 52, 53, 54, 55, 280, 281, 282, 283, 115, 116, 117, 118, 119, 120, 121, 122, 123, 124, 125, 126, 127, 128, 129, 130, 131, 132, 133, 134, 135, 136, 305, 306, 307, 308, 309, 310, 311, 312, 313, 314, 315, 316, 318, 319, 320, 321] (by decide +kernel) (by decide +kernel)) (goodIn_sub (fun _ h => List.mem_cons_of_mem _ (List.mem_append_right _ h)) (by decide +kernel))
set_option maxRecDepth 20000 in
theorem gX6_digest_X6_isAlike : GoodIn wsX6_digest (wsV RX6 376 RX6 yX6_isAlike wsX6_isAlike) := goodIn_app (goodIn_of _ (by decide +kernel)) ggX6_digest_X6_isAlike
set_option maxRecDepth 20000 in
theorem ggX6_digest_X6_isSound : GoodIn wsX6_digest wsX6_isSound := goodIn_r _ [287, 11, 235, 288, 19, 289, 290, 22, 291, 61, 62, 63, 27, 28, 29, 30, 31, 42, 7, 43, 292, 293, 294, 295, 144, 24, 25, 26, 32, 33, 34, 35, 36, 37, 38, 56, 40, 57, 58, 59, 60, 64, 65, 66, 50, 51, 52, 53, 54, 55, 67, 68, 69, 70, 71, 72, 296, 297, 298, 299, 73, 74, 75, 23, 15, 16, 17, 245, 241, 246, 247, 248, 249, 250, 251, 252, 253, 254, 255, 256, 257, 258, 259, 300, 301, 302, 303, 260, 261, 262, 263, 264, 265, 266, 267, 244, 304, 240, 242, 243, 305, 306, 307, 308, 309, 310, 311, 312, 313, 314, 315, 316, 322, 323, 324, 325, 326, 327, 328, 329, 330, 331, 332, 333, 334] (by decide +kernel) (by decide +kernel)
set_option maxRecDepth 20000 in
theorem gX6_digest_X6_isSound : GoodIn wsX6_digest (wsV RX6 379 RX6 yX6_isSound wsX6_isSound) := goodIn_app (goodIn_of _ (by decide +kernel)) ggX6_digest_X6_isSound
theorem dX6_digest_0 : decode cX6_digest 0 = .ok (.ldc2_w 353, 3) := by decide +kernel
theorem dX6_digest_3 : decode cX6_digest 3 = .ok (.lstore_n 1, 1) := by decide +kernel
theorem dX6_digest_4 : decode cX6_digest 4 = .ok (.iconst 0, 1) := by decide +kernel
theorem dX6_digest_5 : decode cX6_digest 5 = .ok (.istore_n 3, 1) := by decide +kernel
theorem dX6_digest_6 : decode cX6_digest 6 = .ok (.iload_n 3, 1) := by decide +kernel
theorem dX6_digest_7 : decode cX6_digest 7 = .ok (.bipush 10, 2) := by decide +kernel
theorem dX6_digest_9 : decode cX6_digest 9 = .ok (.if_icmp .gt 22, 3) := by decide +kernel
theorem dX6_digest_12 : decode cX6_digest 12 = .ok (.lload_n 1, 1) := by decide +kernel
theorem dX6_digest_13 : decode cX6_digest 13 = .ok (.ldc2_w 355, 3) := by decide +kernel
theorem dX6_digest_16 : decode cX6_digest 16 = .ok (.lmul, 1) := by decide +kernel
theorem dX6_digest_17 : decode cX6_digest 17 = .ok (.aload_n 0, 1) := by decide +kernel
theorem dX6_digest_18 : decode cX6_digest 18 = .ok (.iload_n 3, 1) := by decide +kernel
theorem dX6_digest_19 : decode cX6_digest 19 = .ok (.invokevirtual 357, 3) := by decide +kernel
theorem dX6_digest_22 : decode cX6_digest 22 = .ok (.i2l, 1) := by decide +kernel
theorem dX6_digest_23 : decode cX6_digest 23 = .ok (.ladd, 1) := by decide +kernel
theorem dX6_digest_24 : decode cX6_digest 24 = .ok (.lstore_n 1, 1) := by decide +kernel
theorem dX6_digest_25 : decode cX6_digest 25 = .ok (.iinc 3 1, 3) := by decide +kernel
theorem dX6_digest_28 : decode cX6_digest 28 = .ok (.goto (-22), 3) := by decide +kernel
theorem dX6_digest_31 : decode cX6_digest 31 = .ok (.iconst 0, 1) := by decide +kernel
theorem dX6_digest_32 : decode cX6_digest 32 = .ok (.istore_n 3, 1) := by decide +kernel
theorem dX6_digest_33 : decode cX6_digest 33 = .ok (.iload_n 3, 1) := by decide +kernel
theorem dX6_digest_34 : decode cX6_digest 34 = .ok (.bipush 7, 2) := by decide +kernel
theorem dX6_digest_36 : decode cX6_digest 36 = .ok (.if_icmp .gt 22, 3) := by decide +kernel
theorem dX6_digest_39 : decode cX6_digest 39 = .ok (.lload_n 1, 1) := by decide +kernel
theorem dX6_digest_40 : decode cX6_digest 40 = .ok (.ldc2_w 355, 3) := by decide +kernel
theorem dX6_digest_43 : decode cX6_digest 43 = .ok (.lmul, 1) := by decide +kernel
theorem dX6_digest_44 : decode cX6_digest 44 = .ok (.aload_n 0, 1) := by decide +kernel
theorem dX6_digest_45 : decode cX6_digest 45 = .ok (.iload_n 3, 1) := by decide +kernel
theorem dX6_digest_46 : decode cX6_digest 46 = .ok (.invokevirtual 360, 3) := by decide +kernel
theorem dX6_digest_49 : decode cX6_digest 49 = .ok (.i2l, 1) := by decide +kernel
theorem dX6_digest_50 : decode cX6_digest 50 = .ok (.ladd, 1) := by decide +kernel
theorem dX6_digest_51 : decode cX6_digest 51 = .ok (.lstore_n 1, 1) := by decide +kernel
theorem dX6_digest_52 : decode cX6_digest 52 = .ok (.iinc 3 1, 3) := by decide +kernel
theorem dX6_digest_55 : decode cX6_digest 55 = .ok (.goto (-22), 3) := by decide +kernel
theorem dX6_digest_58 : decode cX6_digest 58 = .ok (.aload_n 0, 1) := by decide +kernel
theorem dX6_digest_59 : decode cX6_digest 59 = .ok (.lload_n 1, 1) := by decide +kernel
theorem dX6_digest_60 : decode cX6_digest 60 = .ok (.invokevirtual 363, 3) := by decide +kernel
theorem dX6_digest_63 : decode cX6_digest 63 = .ok (.lstore_n 1, 1) := by decide +kernel
theorem dX6_digest_64 : decode cX6_digest 64 = .ok (.aload_n 0, 1) := by decide +kernel
theorem dX6_digest_65 : decode cX6_digest 65 = .ok (.lload_n 1, 1) := by decide +kernel
theorem dX6_digest_66 : decode cX6_digest 66 = .ok (.invokevirtual 367, 3) := by decide +kernel
theorem dX6_digest_69 : decode cX6_digest 69 = .ok (.lstore_n 1, 1) := by decide +kernel
theorem dX6_digest_70 : decode cX6_digest 70 = .ok (.iconst 3, 1) := by decide +kernel
theorem dX6_digest_71 : decode cX6_digest 71 = .ok (.istore_n 3, 1) := by decide +kernel
theorem dX6_digest_72 : decode cX6_digest 72 = .ok (.iload_n 3, 1) := by decide +kernel
theorem dX6_digest_73 : decode cX6_digest 73 = .ok (.bipush 7, 2) := by decide +kernel
theorem dX6_digest_75 : decode cX6_digest 75 = .ok (.if_icmp .gt 22, 3) := by decide +kernel
theorem dX6_digest_78 : decode cX6_digest 78 = .ok (.lload_n 1, 1) := by decide +kernel
theorem dX6_digest_79 : decode cX6_digest 79 = .ok (.ldc2_w 355, 3) := by decide +kernel
theorem dX6_digest_82 : decode cX6_digest 82 = .ok (.lmul, 1) := by decide +kernel
theorem dX6_digest_83 : decode cX6_digest 83 = .ok (.aload_n 0, 1) := by decide +kernel
theorem dX6_digest_84 : decode cX6_digest 84 = .ok (.iload_n 3, 1) := by decide +kernel
theorem dX6_digest_85 : decode cX6_digest 85 = .ok (.invokevirtual 370, 3) := by decide +kernel
theorem dX6_digest_88 : decode cX6_digest 88 = .ok (.i2l, 1) := by decide +kernel
theorem dX6_digest_89 : decode cX6_digest 89 = .ok (.ladd, 1) := by decide +kernel
theorem dX6_digest_90 : decode cX6_digest 90 = .ok (.lstore_n 1, 1) := by decide +kernel
theorem dX6_digest_91 : decode cX6_digest 91 = .ok (.iinc 3 1, 3) := by decide +kernel
theorem dX6_digest_94 : decode cX6_digest 94 = .ok (.goto (-22), 3) := by decide +kernel
theorem dX6_digest_97 : decode cX6_digest 97 = .ok (.aload_n 0, 1) := by decide +kernel
theorem dX6_digest_98 : decode cX6_digest 98 = .ok (.lload_n 1, 1) := by decide +kernel
theorem dX6_digest_99 : decode cX6_digest 99 = .ok (.invokevirtual 373, 3) := by decide +kernel
theorem dX6_digest_102 : decode cX6_digest 102 = .ok (.lstore_n 1, 1) := by decide +kernel
theorem dX6_digest_103 : decode cX6_digest 103 = .ok (.iconst 0, 1) := by decide +kernel
theorem dX6_digest_104 : decode cX6_digest 104 = .ok (.istore_n 3, 1) := by decide +kernel
theorem dX6_digest_105 : decode cX6_digest 105 = .ok (.iload_n 3, 1) := by decide +kernel
theorem dX6_digest_106 : decode cX6_digest 106 = .ok (.aload_n 0, 1) := by decide +kernel
theorem dX6_digest_107 : decode cX6_digest 107 = .ok (.getfield 55, 3) := by decide +kernel
theorem dX6_digest_110 : decode cX6_digest 110 = .ok (.if_icmp .ge 30, 3) := by decide +kernel
theorem dX6_digest_113 : decode cX6_digest 113 = .ok (.lload_n 1, 1) := by decide +kernel
theorem dX6_digest_114 : decode cX6_digest 114 = .ok (.ldc2_w 355, 3) := by decide +kernel
theorem dX6_digest_117 : decode cX6_digest 117 = .ok (.lmul, 1) := by decide +kernel
theorem dX6_digest_118 : decode cX6_digest 118 = .ok (.aload_n 0, 1) := by decide +kernel
theorem dX6_digest_119 : decode cX6_digest 119 = .ok (.iload_n 3, 1) := by decide +kernel
theorem dX6_digest_120 : decode cX6_digest 120 = .ok (.invokevirtual 376, 3) := by decide +kernel
theorem dX6_digest_123 : decode cX6_digest 123 = .ok (.ifCond .eq 7, 3) := by decide +kernel
theorem dX6_digest_126 : decode cX6_digest 126 = .ok (.iconst 1, 1) := by decide +kernel
theorem dX6_digest_127 : decode cX6_digest 127 = .ok (.goto 4, 3) := by decide +kernel
theorem dX6_digest_130 : decode cX6_digest 130 = .ok (.iconst 0, 1) := by decide +kernel
theorem dX6_digest_131 : decode cX6_digest 131 = .ok (.i2l, 1) := by decide +kernel
theorem dX6_digest_132 : decode cX6_digest 132 = .ok (.ladd, 1) := by decide +kernel
theorem dX6_digest_133 : decode cX6_digest 133 = .ok (.lstore_n 1, 1) := by decide +kernel
theorem dX6_digest_134 : decode cX6_digest 134 = .ok (.iinc 3 1, 3) := by decide +kernel
theorem dX6_digest_137 : decode cX6_digest 137 = .ok (.goto (-32), 3) := by decide +kernel
theorem dX6_digest_140 : decode cX6_digest 140 = .ok (.lload_n 1, 1) := by decide +kernel
theorem dX6_digest_141 : decode cX6_digest 141 = .ok (.ldc2_w 355, 3) := by decide +kernel
theorem dX6_digest_144 : decode cX6_digest 144 = .ok (.lmul, 1) := by decide +kernel
theorem dX6_digest_145 : decode cX6_digest 145 = .ok (.aload_n 0, 1) := by decide +kernel
theorem dX6_digest_146 : decode cX6_digest 146 = .ok (.invokevirtual 379, 3) := by decide +kernel
theorem dX6_digest_149 : decode cX6_digest 149 = .ok (.ifCond .eq 7, 3) := by decide +kernel
theorem dX6_digest_152 : decode cX6_digest 152 = .ok (.iconst 1, 1) := by decide +kernel
theorem dX6_digest_153 : decode cX6_digest 153 = .ok (.goto 4, 3) := by decide +kernel
theorem dX6_digest_156 : decode cX6_digest 156 = .ok (.iconst 0, 1) := by decide +kernel
theorem dX6_digest_157 : decode cX6_digest 157 = .ok (.i2l, 1) := by decide +kernel
theorem dX6_digest_158 : decode cX6_digest 158 = .ok (.ladd, 1) := by decide +kernel
theorem dX6_digest_159 : decode cX6_digest 159 = .ok (.lreturn, 1) := by decide +kernel
set_option maxRecDepth 20000 in
theorem ggX6_requireTabled_X6_isWithin : GoodIn wsX6_requireTabled wsX6_isWithin := goodIn_r _ [6] (by decide +kernel) (by decide +kernel)
set_option maxRecDepth 20000 in
theorem gX6_requireTabled_X6_isWithin : GoodIn wsX6_requireTabled (va_wsS RX6 62 yX6_isWithin wsX6_isWithin) := goodIn_app (goodIn_of _ (by decide +kernel)) ggX6_requireTabled_X6_isWithin
theorem dX6_requireTabled_0 : decode cX6_requireTabled 0 = .ok (.iload_n 1, 1) := by decide +kernel
theorem dX6_requireTabled_1 : decode cX6_requireTabled 1 = .ok (.iconst 2, 1) := by decide +kernel
theorem dX6_requireTabled_2 : decode cX6_requireTabled 2 = .ok (.iconst 5, 1) := by decide +kernel
theorem dX6_requireTabled_3 : decode cX6_requireTabled 3 = .ok (.invokestatic 62, 3) := by decide +kernel
theorem dX6_requireTabled_6 : decode cX6_requireTabled 6 = .ok (.ifCond .ne 14, 3) := by decide +kernel
theorem dX6_requireTabled_9 : decode cX6_requireTabled 9 = .ok (.new 66, 3) := by decide +kernel
theorem dX6_requireTabled_12 : decode cX6_requireTabled 12 = .ok (.dup, 1) := by decide +kernel
theorem dX6_requireTabled_13 : decode cX6_requireTabled 13 = .ok (.ldc_w 382, 3) := by decide +kernel
theorem dX6_requireTabled_16 : decode cX6_requireTabled 16 = .ok (.invokespecial 70, 3) := by decide +kernel
theorem dX6_requireTabled_19 : decode cX6_requireTabled 19 = .ok (.athrow, 1) := by decide +kernel
theorem dX6_requireTabled_20 : decode cX6_requireTabled 20 = .ok (.iload_n 2, 1) := by decide +kernel
theorem dX6_requireTabled_21 : decode cX6_requireTabled 21 = .ok (.iconst 3, 1) := by decide +kernel
theorem dX6_requireTabled_22 : decode cX6_requireTabled 22 = .ok (.bipush 8, 2) := by decide +kernel
theorem dX6_requireTabled_24 : decode cX6_requireTabled 24 = .ok (.invokestatic 62, 3) := by decide +kernel
theorem dX6_requireTabled_27 : decode cX6_requireTabled 27 = .ok (.ifCond .ne 14, 3) := by decide +kernel
theorem dX6_requireTabled_30 : decode cX6_requireTabled 30 = .ok (.new 66, 3) := by decide +kernel
theorem dX6_requireTabled_33 : decode cX6_requireTabled 33 = .ok (.dup, 1) := by decide +kernel
theorem dX6_requireTabled_34 : decode cX6_requireTabled 34 = .ok (.ldc_w 384, 3) := by decide +kernel
theorem dX6_requireTabled_37 : decode cX6_requireTabled 37 = .ok (.invokespecial 70, 3) := by decide +kernel
theorem dX6_requireTabled_40 : decode cX6_requireTabled 40 = .ok (.athrow, 1) := by decide +kernel
theorem dX6_requireTabled_41 : decode cX6_requireTabled 41 = .ok (.return_, 1) := by decide +kernel
theorem dX6_keptAt_0 : decode cX6_keptAt 0 = .ok (.iload_n 1, 1) := by decide +kernel
theorem dX6_keptAt_1 : decode cX6_keptAt 1 = .ok (.ifCond .lt 20, 3) := by decide +kernel
theorem dX6_keptAt_4 : decode cX6_keptAt 4 = .ok (.iload_n 1, 1) := by decide +kernel
theorem dX6_keptAt_5 : decode cX6_keptAt 5 = .ok (.aload_n 0, 1) := by decide +kernel
theorem dX6_keptAt_6 : decode cX6_keptAt 6 = .ok (.getfield 55, 3) := by decide +kernel
theorem dX6_keptAt_9 : decode cX6_keptAt 9 = .ok (.if_icmp .ge 12, 3) := by decide +kernel
theorem dX6_keptAt_12 : decode cX6_keptAt 12 = .ok (.iload_n 1, 1) := by decide +kernel
theorem dX6_keptAt_13 : decode cX6_keptAt 13 = .ok (.aload_n 0, 1) := by decide +kernel
theorem dX6_keptAt_14 : decode cX6_keptAt 14 = .ok (.getfield 19, 3) := by decide +kernel
theorem dX6_keptAt_17 : decode cX6_keptAt 17 = .ok (.arraylength, 1) := by decide +kernel
theorem dX6_keptAt_18 : decode cX6_keptAt 18 = .ok (.if_icmp .lt 5, 3) := by decide +kernel
theorem dX6_keptAt_21 : decode cX6_keptAt 21 = .ok (.aconst_null, 1) := by decide +kernel
theorem dX6_keptAt_22 : decode cX6_keptAt 22 = .ok (.areturn, 1) := by decide +kernel
theorem dX6_keptAt_23 : decode cX6_keptAt 23 = .ok (.aload_n 0, 1) := by decide +kernel
theorem dX6_keptAt_24 : decode cX6_keptAt 24 = .ok (.getfield 19, 3) := by decide +kernel
theorem dX6_keptAt_27 : decode cX6_keptAt 27 = .ok (.iload_n 1, 1) := by decide +kernel
theorem dX6_keptAt_28 : decode cX6_keptAt 28 = .ok (.aaload, 1) := by decide +kernel
theorem dX6_keptAt_29 : decode cX6_keptAt 29 = .ok (.areturn, 1) := by decide +kernel
set_option maxRecDepth 20000 in
theorem ggX6_countByJumps_J6_bitCount_0f7a4 : GoodIn wsX6_countByJumps wsJ6_bitCount_0f7a4 := goodIn_r _ [4, 5, 6, 7] (by decide +kernel) (by decide +kernel)
set_option maxRecDepth 20000 in
theorem gX6_countByJumps_J6_bitCount_0f7a4 : GoodIn wsX6_countByJumps (va_wsS RX6 270 yJ6_bitCount_0f7a4 wsJ6_bitCount_0f7a4) := goodIn_app (goodIn_of _ (by decide +kernel)) ggX6_countByJumps_J6_bitCount_0f7a4
set_option maxRecDepth 20000 in
theorem ggX6_countByJumps_X6_holds : GoodIn wsX6_countByJumps wsX6_holds := goodIn_r _ [11] (by decide +kernel) (by decide +kernel)
set_option maxRecDepth 20000 in
theorem gX6_countByJumps_X6_holds : GoodIn wsX6_countByJumps (va_wsS RX6 386 yX6_holds wsX6_holds) := goodIn_app (goodIn_of _ (by decide +kernel)) ggX6_countByJumps_X6_holds
theorem dX6_countByJumps_0 : decode cX6_countByJumps 0 = .ok (.iconst 2, 1) := by decide +kernel
theorem dX6_countByJumps_1 : decode cX6_countByJumps 1 = .ok (.iload_n 1, 1) := by decide +kernel
theorem dX6_countByJumps_2 : decode cX6_countByJumps 2 = .ok (.invokestatic 270, 3) := by decide +kernel
theorem dX6_countByJumps_5 : decode cX6_countByJumps 5 = .ok (.imul, 1) := by decide +kernel
theorem dX6_countByJumps_6 : decode cX6_countByJumps 6 = .ok (.istore_n 2, 1) := by decide +kernel
theorem dX6_countByJumps_7 : decode cX6_countByJumps 7 = .ok (.iload_n 0, 1) := by decide +kernel
theorem dX6_countByJumps_8 : decode cX6_countByJumps 8 = .ok (.iconst 2, 1) := by decide +kernel
theorem dX6_countByJumps_9 : decode cX6_countByJumps 9 = .ok (.irem, 1) := by decide +kernel
theorem dX6_countByJumps_10 : decode cX6_countByJumps 10 = .ok (.ifCond .ne 17, 3) := by decide +kernel
theorem dX6_countByJumps_13 : decode cX6_countByJumps 13 = .ok (.iload_n 1, 1) := by decide +kernel
theorem dX6_countByJumps_14 : decode cX6_countByJumps 14 = .ok (.iload_n 0, 1) := by decide +kernel
theorem dX6_countByJumps_15 : decode cX6_countByJumps 15 = .ok (.iconst 2, 1) := by decide +kernel
theorem dX6_countByJumps_16 : decode cX6_countByJumps 16 = .ok (.idiv, 1) := by decide +kernel
theorem dX6_countByJumps_17 : decode cX6_countByJumps 17 = .ok (.invokestatic 386, 3) := by decide +kernel
theorem dX6_countByJumps_20 : decode cX6_countByJumps 20 = .ok (.ifCond .eq 7, 3) := by decide +kernel
theorem dX6_countByJumps_23 : decode cX6_countByJumps 23 = .ok (.iconst 1, 1) := by decide +kernel
theorem dX6_countByJumps_24 : decode cX6_countByJumps 24 = .ok (.goto 4, 3) := by decide +kernel
theorem dX6_countByJumps_27 : decode cX6_countByJumps 27 = .ok (.iconst 0, 1) := by decide +kernel
theorem dX6_countByJumps_28 : decode cX6_countByJumps 28 = .ok (.istore_n 3, 1) := by decide +kernel
theorem dX6_countByJumps_29 : decode cX6_countByJumps 29 = .ok (.iload_n 3, 1) := by decide +kernel
theorem dX6_countByJumps_30 : decode cX6_countByJumps 30 = .ok (.ifCond .eq 9, 3) := by decide +kernel
theorem dX6_countByJumps_33 : decode cX6_countByJumps 33 = .ok (.iload_n 2, 1) := by decide +kernel
theorem dX6_countByJumps_34 : decode cX6_countByJumps 34 = .ok (.iconst 1, 1) := by decide +kernel
theorem dX6_countByJumps_35 : decode cX6_countByJumps 35 = .ok (.isub, 1) := by decide +kernel
theorem dX6_countByJumps_36 : decode cX6_countByJumps 36 = .ok (.goto 4, 3) := by decide +kernel
theorem dX6_countByJumps_39 : decode cX6_countByJumps 39 = .ok (.iload_n 2, 1) := by decide +kernel
theorem dX6_countByJumps_40 : decode cX6_countByJumps 40 = .ok (.ireturn, 1) := by decide +kernel
set_option maxRecDepth 20000 in
theorem ggX6_layByJumps_X3_lay : GoodIn wsX6_layByJumps wsX3_lay := goodIn_r _ [9, 10, 11, 35, 36] (by decide +kernel) (by decide +kernel)
set_option maxRecDepth 20000 in
theorem gX6_layByJumps_X3_lay_n76 : GoodIn wsX6_layByJumps (wsX3_lay) := ggX6_layByJumps_X3_lay
set_option maxRecDepth 20000 in
theorem ggX6_layByJumps_X6_holds : GoodIn wsX6_layByJumps wsX6_holds := goodIn_r _ [15] (by decide +kernel) (by decide +kernel)
set_option maxRecDepth 20000 in
theorem gX6_layByJumps_X6_holds : GoodIn wsX6_layByJumps (va_wsS RX6 386 yX6_holds wsX6_holds) := goodIn_app (goodIn_of _ (by decide +kernel)) ggX6_layByJumps_X6_holds
set_option maxRecDepth 20000 in
theorem ggX6_layByJumps_X3_join : GoodIn wsX6_layByJumps wsX3_join := goodIn_r _ [18, 11, 19, 20, 21, 7, 22, 10, 23, 14, 24, 35, 36] (by decide +kernel) (by decide +kernel)
set_option maxRecDepth 20000 in
theorem gX6_layByJumps_X3_join_n111 : GoodIn wsX6_layByJumps (wsX3_join) := ggX6_layByJumps_X3_join
theorem dX6_layByJumps_0 : decode cX6_layByJumps 0 = .ok (.aload_n 0, 1) := by decide +kernel
theorem dX6_layByJumps_1 : decode cX6_layByJumps 1 = .ok (.getfield 12, 3) := by decide +kernel
theorem dX6_layByJumps_4 : decode cX6_layByJumps 4 = .ok (.iload_n 1, 1) := by decide +kernel
theorem dX6_layByJumps_5 : decode cX6_layByJumps 5 = .ok (.invokevirtual 76, 3) := by decide +kernel
theorem dX6_layByJumps_8 : decode cX6_layByJumps 8 = .ok (.iconst 0, 1) := by decide +kernel
theorem dX6_layByJumps_9 : decode cX6_layByJumps 9 = .ok (.istore_n 3, 1) := by decide +kernel
theorem dX6_layByJumps_10 : decode cX6_layByJumps 10 = .ok (.iload_n 3, 1) := by decide +kernel
theorem dX6_layByJumps_11 : decode cX6_layByJumps 11 = .ok (.iload_n 1, 1) := by decide +kernel
theorem dX6_layByJumps_12 : decode cX6_layByJumps 12 = .ok (.if_icmp .ge 58, 3) := by decide +kernel
theorem dX6_layByJumps_15 : decode cX6_layByJumps 15 = .ok (.iload_n 3, 1) := by decide +kernel
theorem dX6_layByJumps_16 : decode cX6_layByJumps 16 = .ok (.iconst 1, 1) := by decide +kernel
theorem dX6_layByJumps_17 : decode cX6_layByJumps 17 = .ok (.iadd, 1) := by decide +kernel
theorem dX6_layByJumps_18 : decode cX6_layByJumps 18 = .ok (.istore 4, 2) := by decide +kernel
theorem dX6_layByJumps_20 : decode cX6_layByJumps 20 = .ok (.iload 4, 2) := by decide +kernel
theorem dX6_layByJumps_22 : decode cX6_layByJumps 22 = .ok (.iload_n 1, 1) := by decide +kernel
theorem dX6_layByJumps_23 : decode cX6_layByJumps 23 = .ok (.if_icmp .ge 41, 3) := by decide +kernel
theorem dX6_layByJumps_26 : decode cX6_layByJumps 26 = .ok (.iload 4, 2) := by decide +kernel
theorem dX6_layByJumps_28 : decode cX6_layByJumps 28 = .ok (.iload_n 3, 1) := by decide +kernel
theorem dX6_layByJumps_29 : decode cX6_layByJumps 29 = .ok (.isub, 1) := by decide +kernel
theorem dX6_layByJumps_30 : decode cX6_layByJumps 30 = .ok (.istore 5, 2) := by decide +kernel
theorem dX6_layByJumps_32 : decode cX6_layByJumps 32 = .ok (.iload_n 2, 1) := by decide +kernel
theorem dX6_layByJumps_33 : decode cX6_layByJumps 33 = .ok (.iload 5, 2) := by decide +kernel
theorem dX6_layByJumps_35 : decode cX6_layByJumps 35 = .ok (.iload_n 1, 1) := by decide +kernel
theorem dX6_layByJumps_36 : decode cX6_layByJumps 36 = .ok (.iload 5, 2) := by decide +kernel
theorem dX6_layByJumps_38 : decode cX6_layByJumps 38 = .ok (.isub, 1) := by decide +kernel
theorem dX6_layByJumps_39 : decode cX6_layByJumps 39 = .ok (.invokestatic 324, 3) := by decide +kernel
theorem dX6_layByJumps_42 : decode cX6_layByJumps 42 = .ok (.invokestatic 386, 3) := by decide +kernel
theorem dX6_layByJumps_45 : decode cX6_layByJumps 45 = .ok (.ifCond .eq 13, 3) := by decide +kernel
theorem dX6_layByJumps_48 : decode cX6_layByJumps 48 = .ok (.aload_n 0, 1) := by decide +kernel
theorem dX6_layByJumps_49 : decode cX6_layByJumps 49 = .ok (.getfield 12, 3) := by decide +kernel
theorem dX6_layByJumps_52 : decode cX6_layByJumps 52 = .ok (.iload_n 3, 1) := by decide +kernel
theorem dX6_layByJumps_53 : decode cX6_layByJumps 53 = .ok (.iload 4, 2) := by decide +kernel
theorem dX6_layByJumps_55 : decode cX6_layByJumps 55 = .ok (.invokevirtual 111, 3) := by decide +kernel
theorem dX6_layByJumps_58 : decode cX6_layByJumps 58 = .ok (.iinc 4 1, 3) := by decide +kernel
theorem dX6_layByJumps_61 : decode cX6_layByJumps 61 = .ok (.goto (-41), 3) := by decide +kernel
theorem dX6_layByJumps_64 : decode cX6_layByJumps 64 = .ok (.iinc 3 1, 3) := by decide +kernel
theorem dX6_layByJumps_67 : decode cX6_layByJumps 67 = .ok (.goto (-57), 3) := by decide +kernel
theorem dX6_layByJumps_70 : decode cX6_layByJumps 70 = .ok (.return_, 1) := by decide +kernel
set_option maxRecDepth 20000 in
theorem ggX6_layDouble_X3_lay : GoodIn wsX6_layDouble wsX3_lay := goodIn_r _ [6, 7, 8, 39, 40] (by decide +kernel) (by decide +kernel)
set_option maxRecDepth 20000 in
theorem gX6_layDouble_X3_lay_n76 : GoodIn wsX6_layDouble (wsX3_lay) := ggX6_layDouble_X3_lay
set_option maxRecDepth 20000 in
theorem ggX6_layDouble_X3_isNear : GoodIn wsX6_layDouble wsX3_isNear := goodIn_r _ [11, 12, 13, 14, 4, 15, 8, 16, 17, 18, 39, 40] (by decide +kernel) (by decide +kernel)
set_option maxRecDepth 20000 in
theorem gX6_layDouble_X3_isNear_n98 : GoodIn wsX6_layDouble (wsX3_isNear) := ggX6_layDouble_X3_isNear
set_option maxRecDepth 20000 in
theorem ggX6_layDouble_X6_holds : GoodIn wsX6_layDouble wsX6_holds := goodIn_r _ [18] (by decide +kernel) (by decide +kernel)
set_option maxRecDepth 20000 in
theorem gX6_layDouble_X6_holds : GoodIn wsX6_layDouble (va_wsS RX6 386 yX6_holds wsX6_holds) := goodIn_app (goodIn_of _ (by decide +kernel)) ggX6_layDouble_X6_holds
set_option maxRecDepth 20000 in
theorem ggX6_layDouble_X3_join : GoodIn wsX6_layDouble wsX3_join := goodIn_r _ [22, 8, 23, 24, 25, 4, 26, 7, 27, 17, 28, 39, 40] (by decide +kernel) (by decide +kernel)
set_option maxRecDepth 20000 in
theorem gX6_layDouble_X3_join_n111 : GoodIn wsX6_layDouble (wsX3_join) := ggX6_layDouble_X3_join
theorem dX6_layDouble_0 : decode cX6_layDouble 0 = .ok (.aload_n 0, 1) := by decide +kernel
theorem dX6_layDouble_1 : decode cX6_layDouble 1 = .ok (.getfield 12, 3) := by decide +kernel
theorem dX6_layDouble_4 : decode cX6_layDouble 4 = .ok (.getfield 73, 3) := by decide +kernel
theorem dX6_layDouble_7 : decode cX6_layDouble 7 = .ok (.istore_n 2, 1) := by decide +kernel
theorem dX6_layDouble_8 : decode cX6_layDouble 8 = .ok (.aload_n 0, 1) := by decide +kernel
theorem dX6_layDouble_9 : decode cX6_layDouble 9 = .ok (.getfield 16, 3) := by decide +kernel
theorem dX6_layDouble_12 : decode cX6_layDouble 12 = .ok (.iconst 2, 1) := by decide +kernel
theorem dX6_layDouble_13 : decode cX6_layDouble 13 = .ok (.iload_n 2, 1) := by decide +kernel
theorem dX6_layDouble_14 : decode cX6_layDouble 14 = .ok (.imul, 1) := by decide +kernel
theorem dX6_layDouble_15 : decode cX6_layDouble 15 = .ok (.invokevirtual 76, 3) := by decide +kernel
theorem dX6_layDouble_18 : decode cX6_layDouble 18 = .ok (.iconst 0, 1) := by decide +kernel
theorem dX6_layDouble_19 : decode cX6_layDouble 19 = .ok (.istore_n 3, 1) := by decide +kernel
theorem dX6_layDouble_20 : decode cX6_layDouble 20 = .ok (.iconst 0, 1) := by decide +kernel
theorem dX6_layDouble_21 : decode cX6_layDouble 21 = .ok (.istore 4, 2) := by decide +kernel
theorem dX6_layDouble_23 : decode cX6_layDouble 23 = .ok (.iload 4, 2) := by decide +kernel
theorem dX6_layDouble_25 : decode cX6_layDouble 25 = .ok (.iload_n 2, 1) := by decide +kernel
theorem dX6_layDouble_26 : decode cX6_layDouble 26 = .ok (.if_icmp .ge 99, 3) := by decide +kernel
theorem dX6_layDouble_29 : decode cX6_layDouble 29 = .ok (.iload 4, 2) := by decide +kernel
theorem dX6_layDouble_31 : decode cX6_layDouble 31 = .ok (.iconst 1, 1) := by decide +kernel
theorem dX6_layDouble_32 : decode cX6_layDouble 32 = .ok (.iadd, 1) := by decide +kernel
theorem dX6_layDouble_33 : decode cX6_layDouble 33 = .ok (.istore 5, 2) := by decide +kernel
theorem dX6_layDouble_35 : decode cX6_layDouble 35 = .ok (.iload 5, 2) := by decide +kernel
theorem dX6_layDouble_37 : decode cX6_layDouble 37 = .ok (.iload_n 2, 1) := by decide +kernel
theorem dX6_layDouble_38 : decode cX6_layDouble 38 = .ok (.if_icmp .ge 81, 3) := by decide +kernel
theorem dX6_layDouble_41 : decode cX6_layDouble 41 = .ok (.aload_n 0, 1) := by decide +kernel
theorem dX6_layDouble_42 : decode cX6_layDouble 42 = .ok (.getfield 12, 3) := by decide +kernel
theorem dX6_layDouble_45 : decode cX6_layDouble 45 = .ok (.iload 4, 2) := by decide +kernel
theorem dX6_layDouble_47 : decode cX6_layDouble 47 = .ok (.iload 5, 2) := by decide +kernel
theorem dX6_layDouble_49 : decode cX6_layDouble 49 = .ok (.invokevirtual 98, 3) := by decide +kernel
theorem dX6_layDouble_52 : decode cX6_layDouble 52 = .ok (.ifCond .eq 61, 3) := by decide +kernel
theorem dX6_layDouble_55 : decode cX6_layDouble 55 = .ok (.iload_n 1, 1) := by decide +kernel
theorem dX6_layDouble_56 : decode cX6_layDouble 56 = .ok (.iload_n 3, 1) := by decide +kernel
theorem dX6_layDouble_57 : decode cX6_layDouble 57 = .ok (.invokestatic 386, 3) := by decide +kernel
theorem dX6_layDouble_60 : decode cX6_layDouble 60 = .ok (.istore 6, 2) := by decide +kernel
theorem dX6_layDouble_62 : decode cX6_layDouble 62 = .ok (.aload_n 0, 1) := by decide +kernel
theorem dX6_layDouble_63 : decode cX6_layDouble 63 = .ok (.getfield 16, 3) := by decide +kernel
theorem dX6_layDouble_66 : decode cX6_layDouble 66 = .ok (.iload 4, 2) := by decide +kernel
theorem dX6_layDouble_68 : decode cX6_layDouble 68 = .ok (.iload 6, 2) := by decide +kernel
theorem dX6_layDouble_70 : decode cX6_layDouble 70 = .ok (.ifCond .eq 10, 3) := by decide +kernel
theorem dX6_layDouble_73 : decode cX6_layDouble 73 = .ok (.iload 5, 2) := by decide +kernel
theorem dX6_layDouble_75 : decode cX6_layDouble 75 = .ok (.iload_n 2, 1) := by decide +kernel
theorem dX6_layDouble_76 : decode cX6_layDouble 76 = .ok (.iadd, 1) := by decide +kernel
theorem dX6_layDouble_77 : decode cX6_layDouble 77 = .ok (.goto 5, 3) := by decide +kernel
theorem dX6_layDouble_80 : decode cX6_layDouble 80 = .ok (.iload 5, 2) := by decide +kernel
theorem dX6_layDouble_82 : decode cX6_layDouble 82 = .ok (.invokevirtual 111, 3) := by decide +kernel
theorem dX6_layDouble_85 : decode cX6_layDouble 85 = .ok (.aload_n 0, 1) := by decide +kernel
theorem dX6_layDouble_86 : decode cX6_layDouble 86 = .ok (.getfield 16, 3) := by decide +kernel
theorem dX6_layDouble_89 : decode cX6_layDouble 89 = .ok (.iload 4, 2) := by decide +kernel
theorem dX6_layDouble_91 : decode cX6_layDouble 91 = .ok (.iload_n 2, 1) := by decide +kernel
theorem dX6_layDouble_92 : decode cX6_layDouble 92 = .ok (.iadd, 1) := by decide +kernel
theorem dX6_layDouble_93 : decode cX6_layDouble 93 = .ok (.iload 6, 2) := by decide +kernel
theorem dX6_layDouble_95 : decode cX6_layDouble 95 = .ok (.ifCond .eq 8, 3) := by decide +kernel
theorem dX6_layDouble_98 : decode cX6_layDouble 98 = .ok (.iload 5, 2) := by decide +kernel
theorem dX6_layDouble_100 : decode cX6_layDouble 100 = .ok (.goto 7, 3) := by decide +kernel
theorem dX6_layDouble_103 : decode cX6_layDouble 103 = .ok (.iload 5, 2) := by decide +kernel
theorem dX6_layDouble_105 : decode cX6_layDouble 105 = .ok (.iload_n 2, 1) := by decide +kernel
theorem dX6_layDouble_106 : decode cX6_layDouble 106 = .ok (.iadd, 1) := by decide +kernel
theorem dX6_layDouble_107 : decode cX6_layDouble 107 = .ok (.invokevirtual 111, 3) := by decide +kernel
theorem dX6_layDouble_110 : decode cX6_layDouble 110 = .ok (.iinc 3 1, 3) := by decide +kernel
theorem dX6_layDouble_113 : decode cX6_layDouble 113 = .ok (.iinc 5 1, 3) := by decide +kernel
theorem dX6_layDouble_116 : decode cX6_layDouble 116 = .ok (.goto (-81), 3) := by decide +kernel
theorem dX6_layDouble_119 : decode cX6_layDouble 119 = .ok (.iinc 4 1, 3) := by decide +kernel
theorem dX6_layDouble_122 : decode cX6_layDouble 122 = .ok (.goto (-99), 3) := by decide +kernel
theorem dX6_layDouble_125 : decode cX6_layDouble 125 = .ok (.return_, 1) := by decide +kernel
set_option maxRecDepth 20000 in
theorem ggX6_turned_X6_otherOf : GoodIn wsX6_turned wsX6_otherOf := goodIn_r _ [4] (by decide +kernel) (by decide +kernel)
set_option maxRecDepth 20000 in
theorem gX6_turned_X6_otherOf : GoodIn wsX6_turned (va_wsS RX6 280 yX6_otherOf wsX6_otherOf) := goodIn_app (goodIn_of _ (by decide +kernel)) ggX6_turned_X6_otherOf
set_option maxRecDepth 20000 in
theorem ggX6_turned_X6_oneOf : GoodIn wsX6_turned wsX6_oneOf := goodIn_r _ [7] (by decide +kernel) (by decide +kernel)
set_option maxRecDepth 20000 in
theorem gX6_turned_X6_oneOf : GoodIn wsX6_turned (va_wsS RX6 277 yX6_oneOf wsX6_oneOf) := goodIn_app (goodIn_of _ (by decide +kernel)) ggX6_turned_X6_oneOf
set_option maxRecDepth 20000 in
theorem ggX6_turned_X6_pairOf : GoodIn wsX6_turned wsX6_pairOf := goodIn_r _ [10] (by decide +kernel) (by decide +kernel)
set_option maxRecDepth 20000 in
theorem gX6_turned_X6_pairOf : GoodIn wsX6_turned (va_wsS RX6 389 yX6_pairOf wsX6_pairOf) := goodIn_app (goodIn_of _ (by decide +kernel)) ggX6_turned_X6_pairOf
theorem dX6_turned_0 : decode cX6_turned 0 = .ok (.iload_n 1, 1) := by decide +kernel
theorem dX6_turned_1 : decode cX6_turned 1 = .ok (.ifCond .eq 17, 3) := by decide +kernel
theorem dX6_turned_4 : decode cX6_turned 4 = .ok (.iload_n 0, 1) := by decide +kernel
theorem dX6_turned_5 : decode cX6_turned 5 = .ok (.invokestatic 280, 3) := by decide +kernel
theorem dX6_turned_8 : decode cX6_turned 8 = .ok (.iload_n 0, 1) := by decide +kernel
theorem dX6_turned_9 : decode cX6_turned 9 = .ok (.invokestatic 277, 3) := by decide +kernel
theorem dX6_turned_12 : decode cX6_turned 12 = .ok (.invokestatic 389, 3) := by decide +kernel
end
section
theorem dX6_turned_15 : decode cX6_turned 15 = .ok (.goto 4, 3) := by decide +kernel
theorem dX6_turned_18 : decode cX6_turned 18 = .ok (.iload_n 0, 1) := by decide +kernel
theorem dX6_turned_19 : decode cX6_turned 19 = .ok (.ireturn, 1) := by decide +kernel
set_option maxRecDepth 20000 in
theorem ggX6_canExchange_X6_oneOf : GoodIn wsX6_canExchange wsX6_oneOf := goodIn_r _ [5] (by decide +kernel) (by decide +kernel)
set_option maxRecDepth 20000 in
theorem gX6_canExchange_X6_oneOf : GoodIn wsX6_canExchange (va_wsS RX6 277 yX6_oneOf wsX6_oneOf) := goodIn_app (goodIn_of _ (by decide +kernel)) ggX6_canExchange_X6_oneOf
set_option maxRecDepth 20000 in
theorem ggX6_canExchange_X6_bit : GoodIn wsX6_canExchange wsX6_bit := goodIn_r _ [8] (by decide +kernel) (by decide +kernel)
set_option maxRecDepth 20000 in
theorem gX6_canExchange_X6_bit : GoodIn wsX6_canExchange (va_wsS RX6 118 yX6_bit wsX6_bit) := goodIn_app (goodIn_of _ (by decide +kernel)) ggX6_canExchange_X6_bit
set_option maxRecDepth 20000 in
theorem ggX6_canExchange_X6_otherOf : GoodIn wsX6_canExchange wsX6_otherOf := goodIn_r _ [11] (by decide +kernel) (by decide +kernel)
set_option maxRecDepth 20000 in
theorem gX6_canExchange_X6_otherOf : GoodIn wsX6_canExchange (va_wsS RX6 280 yX6_otherOf wsX6_otherOf) := goodIn_app (goodIn_of _ (by decide +kernel)) ggX6_canExchange_X6_otherOf
set_option maxRecDepth 20000 in
theorem ggX6_canExchange_J6_bitCount_0f7a4 : GoodIn wsX6_canExchange wsJ6_bitCount_0f7a4 := goodIn_r _ [15, 16, 17, 18] (by decide +kernel) (by decide +kernel)
set_option maxRecDepth 20000 in
theorem gX6_canExchange_J6_bitCount_0f7a4 : GoodIn wsX6_canExchange (va_wsS RX6 270 yJ6_bitCount_0f7a4 wsJ6_bitCount_0f7a4) := goodIn_app (goodIn_of _ (by decide +kernel)) ggX6_canExchange_J6_bitCount_0f7a4
set_option maxRecDepth 20000 in
theorem ggX6_canExchange_X3_isNear : GoodIn wsX6_canExchange wsX3_isNear := goodIn_r _ [22, 23, 24, 25, 20, 26, 27, 28, 4, 29, 40, 41] (by decide +kernel) (by decide +kernel)
set_option maxRecDepth 20000 in
theorem gX6_canExchange_X3_isNear_n98 : GoodIn wsX6_canExchange (wsX3_isNear) := ggX6_canExchange_X3_isNear
theorem dX6_canExchange_0 : decode cX6_canExchange 0 = .ok (.iload_n 1, 1) := by decide +kernel
theorem dX6_canExchange_1 : decode cX6_canExchange 1 = .ok (.invokestatic 277, 3) := by decide +kernel
theorem dX6_canExchange_4 : decode cX6_canExchange 4 = .ok (.invokestatic 118, 3) := by decide +kernel
theorem dX6_canExchange_7 : decode cX6_canExchange 7 = .ok (.iload_n 1, 1) := by decide +kernel
theorem dX6_canExchange_8 : decode cX6_canExchange 8 = .ok (.invokestatic 280, 3) := by decide +kernel
theorem dX6_canExchange_11 : decode cX6_canExchange 11 = .ok (.invokestatic 118, 3) := by decide +kernel
theorem dX6_canExchange_14 : decode cX6_canExchange 14 = .ok (.ior, 1) := by decide +kernel
theorem dX6_canExchange_15 : decode cX6_canExchange 15 = .ok (.iload_n 2, 1) := by decide +kernel
theorem dX6_canExchange_16 : decode cX6_canExchange 16 = .ok (.invokestatic 277, 3) := by decide +kernel
theorem dX6_canExchange_19 : decode cX6_canExchange 19 = .ok (.invokestatic 118, 3) := by decide +kernel
theorem dX6_canExchange_22 : decode cX6_canExchange 22 = .ok (.ior, 1) := by decide +kernel
theorem dX6_canExchange_23 : decode cX6_canExchange 23 = .ok (.iload_n 2, 1) := by decide +kernel
theorem dX6_canExchange_24 : decode cX6_canExchange 24 = .ok (.invokestatic 280, 3) := by decide +kernel
theorem dX6_canExchange_27 : decode cX6_canExchange 27 = .ok (.invokestatic 118, 3) := by decide +kernel
theorem dX6_canExchange_30 : decode cX6_canExchange 30 = .ok (.ior, 1) := by decide +kernel
theorem dX6_canExchange_31 : decode cX6_canExchange 31 = .ok (.istore_n 3, 1) := by decide +kernel
theorem dX6_canExchange_32 : decode cX6_canExchange 32 = .ok (.iload_n 3, 1) := by decide +kernel
theorem dX6_canExchange_33 : decode cX6_canExchange 33 = .ok (.invokestatic 270, 3) := by decide +kernel
theorem dX6_canExchange_36 : decode cX6_canExchange 36 = .ok (.iconst 4, 1) := by decide +kernel
theorem dX6_canExchange_37 : decode cX6_canExchange 37 = .ok (.if_icmp .ne 43, 3) := by decide +kernel
theorem dX6_canExchange_40 : decode cX6_canExchange 40 = .ok (.aload_n 0, 1) := by decide +kernel
theorem dX6_canExchange_41 : decode cX6_canExchange 41 = .ok (.getfield 12, 3) := by decide +kernel
theorem dX6_canExchange_44 : decode cX6_canExchange 44 = .ok (.iload_n 1, 1) := by decide +kernel
theorem dX6_canExchange_45 : decode cX6_canExchange 45 = .ok (.invokestatic 277, 3) := by decide +kernel
theorem dX6_canExchange_48 : decode cX6_canExchange 48 = .ok (.iload_n 2, 1) := by decide +kernel
theorem dX6_canExchange_49 : decode cX6_canExchange 49 = .ok (.invokestatic 277, 3) := by decide +kernel
theorem dX6_canExchange_52 : decode cX6_canExchange 52 = .ok (.invokevirtual 98, 3) := by decide +kernel
theorem dX6_canExchange_55 : decode cX6_canExchange 55 = .ok (.ifCond .ne 25, 3) := by decide +kernel
theorem dX6_canExchange_58 : decode cX6_canExchange 58 = .ok (.aload_n 0, 1) := by decide +kernel
theorem dX6_canExchange_59 : decode cX6_canExchange 59 = .ok (.getfield 12, 3) := by decide +kernel
theorem dX6_canExchange_62 : decode cX6_canExchange 62 = .ok (.iload_n 1, 1) := by decide +kernel
theorem dX6_canExchange_63 : decode cX6_canExchange 63 = .ok (.invokestatic 280, 3) := by decide +kernel
theorem dX6_canExchange_66 : decode cX6_canExchange 66 = .ok (.iload_n 2, 1) := by decide +kernel
theorem dX6_canExchange_67 : decode cX6_canExchange 67 = .ok (.invokestatic 280, 3) := by decide +kernel
theorem dX6_canExchange_70 : decode cX6_canExchange 70 = .ok (.invokevirtual 98, 3) := by decide +kernel
theorem dX6_canExchange_73 : decode cX6_canExchange 73 = .ok (.ifCond .ne 7, 3) := by decide +kernel
theorem dX6_canExchange_76 : decode cX6_canExchange 76 = .ok (.iconst 1, 1) := by decide +kernel
theorem dX6_canExchange_77 : decode cX6_canExchange 77 = .ok (.goto 4, 3) := by decide +kernel
theorem dX6_canExchange_80 : decode cX6_canExchange 80 = .ok (.iconst 0, 1) := by decide +kernel
theorem dX6_canExchange_81 : decode cX6_canExchange 81 = .ok (.ireturn, 1) := by decide +kernel
set_option maxRecDepth 20000 in
theorem ggX6_exchange_X6_oneOf : GoodIn wsX6_exchange wsX6_oneOf := goodIn_r _ [5] (by decide +kernel) (by decide +kernel)
set_option maxRecDepth 20000 in
theorem gX6_exchange_X6_oneOf : GoodIn wsX6_exchange (va_wsS RX6 277 yX6_oneOf wsX6_oneOf) := goodIn_app (goodIn_of _ (by decide +kernel)) ggX6_exchange_X6_oneOf
set_option maxRecDepth 20000 in
theorem ggX6_exchange_X6_otherOf : GoodIn wsX6_exchange wsX6_otherOf := goodIn_r _ [8] (by decide +kernel) (by decide +kernel)
set_option maxRecDepth 20000 in
theorem gX6_exchange_X6_otherOf : GoodIn wsX6_exchange (va_wsS RX6 280 yX6_otherOf wsX6_otherOf) := goodIn_app (goodIn_of _ (by decide +kernel)) ggX6_exchange_X6_otherOf
set_option maxRecDepth 20000 in
theorem ggX6_exchange_X3_loosen : GoodIn wsX6_exchange wsX3_loosen := goodIn_r _ [12, 13, 14, 15, 16, 10, 17, 18, 19, 4, 20, 34, 35] (by decide +kernel) (by decide +kernel)
set_option maxRecDepth 20000 in
theorem gX6_exchange_X3_loosen_n115 : GoodIn wsX6_exchange (wsX3_loosen) := ggX6_exchange_X3_loosen
set_option maxRecDepth 20000 in
theorem ggX6_exchange_X3_join : GoodIn wsX6_exchange wsX3_join := goodIn_r _ [23, 13, 14, 15, 16, 10, 17, 18, 19, 4, 20, 34, 35] (by decide +kernel) (by decide +kernel)
set_option maxRecDepth 20000 in
theorem gX6_exchange_X3_join_n111 : GoodIn wsX6_exchange (wsX3_join) := ggX6_exchange_X3_join
theorem dX6_exchange_0 : decode cX6_exchange 0 = .ok (.aload_n 0, 1) := by decide +kernel
theorem dX6_exchange_1 : decode cX6_exchange 1 = .ok (.getfield 12, 3) := by decide +kernel
theorem dX6_exchange_4 : decode cX6_exchange 4 = .ok (.iload_n 1, 1) := by decide +kernel
theorem dX6_exchange_5 : decode cX6_exchange 5 = .ok (.invokestatic 277, 3) := by decide +kernel
theorem dX6_exchange_8 : decode cX6_exchange 8 = .ok (.iload_n 1, 1) := by decide +kernel
theorem dX6_exchange_9 : decode cX6_exchange 9 = .ok (.invokestatic 280, 3) := by decide +kernel
theorem dX6_exchange_12 : decode cX6_exchange 12 = .ok (.invokevirtual 115, 3) := by decide +kernel
theorem dX6_exchange_15 : decode cX6_exchange 15 = .ok (.aload_n 0, 1) := by decide +kernel
theorem dX6_exchange_16 : decode cX6_exchange 16 = .ok (.getfield 12, 3) := by decide +kernel
theorem dX6_exchange_19 : decode cX6_exchange 19 = .ok (.iload_n 2, 1) := by decide +kernel
theorem dX6_exchange_20 : decode cX6_exchange 20 = .ok (.invokestatic 277, 3) := by decide +kernel
theorem dX6_exchange_23 : decode cX6_exchange 23 = .ok (.iload_n 2, 1) := by decide +kernel
theorem dX6_exchange_24 : decode cX6_exchange 24 = .ok (.invokestatic 280, 3) := by decide +kernel
theorem dX6_exchange_27 : decode cX6_exchange 27 = .ok (.invokevirtual 115, 3) := by decide +kernel
theorem dX6_exchange_30 : decode cX6_exchange 30 = .ok (.aload_n 0, 1) := by decide +kernel
theorem dX6_exchange_31 : decode cX6_exchange 31 = .ok (.getfield 12, 3) := by decide +kernel
theorem dX6_exchange_34 : decode cX6_exchange 34 = .ok (.iload_n 1, 1) := by decide +kernel
theorem dX6_exchange_35 : decode cX6_exchange 35 = .ok (.invokestatic 277, 3) := by decide +kernel
theorem dX6_exchange_38 : decode cX6_exchange 38 = .ok (.iload_n 2, 1) := by decide +kernel
theorem dX6_exchange_39 : decode cX6_exchange 39 = .ok (.invokestatic 277, 3) := by decide +kernel
theorem dX6_exchange_42 : decode cX6_exchange 42 = .ok (.invokevirtual 111, 3) := by decide +kernel
theorem dX6_exchange_45 : decode cX6_exchange 45 = .ok (.aload_n 0, 1) := by decide +kernel
theorem dX6_exchange_46 : decode cX6_exchange 46 = .ok (.getfield 12, 3) := by decide +kernel
theorem dX6_exchange_49 : decode cX6_exchange 49 = .ok (.iload_n 1, 1) := by decide +kernel
theorem dX6_exchange_50 : decode cX6_exchange 50 = .ok (.invokestatic 280, 3) := by decide +kernel
theorem dX6_exchange_53 : decode cX6_exchange 53 = .ok (.iload_n 2, 1) := by decide +kernel
theorem dX6_exchange_54 : decode cX6_exchange 54 = .ok (.invokestatic 280, 3) := by decide +kernel
theorem dX6_exchange_57 : decode cX6_exchange 57 = .ok (.invokevirtual 111, 3) := by decide +kernel
theorem dX6_exchange_60 : decode cX6_exchange 60 = .ok (.return_, 1) := by decide +kernel
set_option maxRecDepth 20000 in
theorem ggX6_mendByRounds_X3_edgesInAll : GoodIn wsX6_mendByRounds wsX3_edgesInAll := goodIn_r _ [8, 9, 10, 11, 12, 6, 13, 14, 15, 16, 17, 18, 19, 20, 21, 22, 23, 24, 25, 104, 105] (by decide +kernel) (by decide +kernel)
set_option maxRecDepth 20000 in
theorem gX6_mendByRounds_X3_edgesInAll_n130 : GoodIn wsX6_mendByRounds (wsX3_edgesInAll) := ggX6_mendByRounds_X3_edgesInAll
set_option maxRecDepth 20000 in
theorem ggX6_mendByRounds_X6_shortRings : GoodIn wsX6_mendByRounds wsX6_shortRings := goodIn_r _ [30, 31, 32, 33, 29, 34, 35, 1, 36, 37, 38, 39, 40, 41, 15, 6, 16, 17, 18, 42, 20, 21, 22, 23, 24, 25, 43, 44, 45, 46, 47, 48, 49, 94, 95, 96, 97, 98, 99, 100, 101, 102, 103, 104, 105] (by decide +kernel) (by decide +kernel)
set_option maxRecDepth 20000 in
theorem gX6_mendByRounds_X6_shortRings : GoodIn wsX6_mendByRounds (wsV RX6 392 RX6 yX6_shortRings wsX6_shortRings) := goodIn_app (goodIn_of _ (by decide +kernel)) ggX6_mendByRounds_X6_shortRings
set_option maxRecDepth 20000 in
theorem ggX6_mendByRounds_X3_edgeAt : GoodIn wsX6_mendByRounds wsX3_edgeAt := goodIn_r _ [52, 9, 14, 15, 16, 6, 17, 18, 37, 29, 38, 19, 20, 21, 22, 23, 24, 25, 53, 54, 55, 56, 57, 42, 58, 59, 104, 105] (by decide +kernel) (by decide +kernel)
set_option maxRecDepth 20000 in
theorem gX6_mendByRounds_X3_edgeAt_n153 : GoodIn wsX6_mendByRounds (wsX3_edgeAt) := ggX6_mendByRounds_X3_edgeAt
set_option maxRecDepth 20000 in
theorem ggX6_mendByRounds_X6_turned : GoodIn wsX6_mendByRounds wsX6_turned := goodIn_r _ [62, 63, 64, 29, 65, 66, 67, 68, 69, 58, 59] (by decide +kernel) (by decide +kernel)
set_option maxRecDepth 20000 in
theorem gX6_mendByRounds_X6_turned : GoodIn wsX6_mendByRounds (va_wsS RX6 158 yX6_turned wsX6_turned) := goodIn_app (goodIn_of _ (by decide +kernel)) ggX6_mendByRounds_X6_turned
set_option maxRecDepth 20000 in
theorem ggX6_mendByRounds_X6_canExchange : GoodIn wsX6_mendByRounds wsX6_canExchange := goodIn_r _ [73, 1, 66, 67, 29, 68, 36, 37, 38, 63, 64, 65, 42, 20, 21, 22, 23, 24, 25, 74, 6, 75, 76, 14, 15, 16, 17, 18, 44, 45, 94, 95, 96, 97, 98, 99, 100, 101, 102, 103, 104, 105] (by decide +kernel) (by decide +kernel)
set_option maxRecDepth 20000 in
theorem gX6_mendByRounds_X6_canExchange : GoodIn wsX6_mendByRounds (wsV RX6 162 RX6 yX6_canExchange wsX6_canExchange) := goodIn_app (goodIn_of _ (by decide +kernel)) ggX6_mendByRounds_X6_canExchange
set_option maxRecDepth 20000 in
theorem ggX6_mendByRounds_X3_take : GoodIn wsX6_mendByRounds wsX3_take := goodIn_r _ [79, 9, 18, 14, 15, 16, 6, 17, 104, 105] (by decide +kernel) (by decide +kernel)
set_option maxRecDepth 20000 in
theorem gX6_mendByRounds_X3_take_n144 : GoodIn wsX6_mendByRounds (wsX3_take) := ggX6_mendByRounds_X3_take
set_option maxRecDepth 20000 in
theorem ggX6_mendByRounds_X6_exchange : GoodIn wsX6_mendByRounds wsX6_exchange := goodIn_r _ [83, 1, 66, 67, 29, 68, 63, 64, 65, 84, 6, 85, 86, 18, 87, 88, 89, 90, 9, 37, 38, 91, 92, 93, 94, 95, 96, 97, 98, 99, 100, 101, 102, 103, 104, 105] (by decide +kernel) (by decide +kernel)
set_option maxRecDepth 20000 in
theorem gX6_mendByRounds_X6_exchange : GoodIn wsX6_mendByRounds (wsV RX6 165 RX6 yX6_exchange wsX6_exchange) := goodIn_app (goodIn_of _ (by decide +kernel)) ggX6_mendByRounds_X6_exchange
theorem dX6_mendByRounds_0 : decode cX6_mendByRounds 0 = .ok (.aload_n 0, 1) := by decide +kernel
theorem dX6_mendByRounds_1 : decode cX6_mendByRounds 1 = .ok (.getfield 12, 3) := by decide +kernel
theorem dX6_mendByRounds_4 : decode cX6_mendByRounds 4 = .ok (.invokevirtual 130, 3) := by decide +kernel
theorem dX6_mendByRounds_7 : decode cX6_mendByRounds 7 = .ok (.istore 4, 2) := by decide +kernel
theorem dX6_mendByRounds_9 : decode cX6_mendByRounds 9 = .ok (.iload 4, 2) := by decide +kernel
theorem dX6_mendByRounds_11 : decode cX6_mendByRounds 11 = .ok (.iconst 1, 1) := by decide +kernel
theorem dX6_mendByRounds_12 : decode cX6_mendByRounds 12 = .ok (.if_icmp .ge 5, 3) := by decide +kernel
theorem dX6_mendByRounds_15 : decode cX6_mendByRounds 15 = .ok (.iconst 0, 1) := by decide +kernel
theorem dX6_mendByRounds_16 : decode cX6_mendByRounds 16 = .ok (.ireturn, 1) := by decide +kernel
theorem dX6_mendByRounds_17 : decode cX6_mendByRounds 17 = .ok (.iconst 0, 1) := by decide +kernel
theorem dX6_mendByRounds_18 : decode cX6_mendByRounds 18 = .ok (.istore 5, 2) := by decide +kernel
theorem dX6_mendByRounds_20 : decode cX6_mendByRounds 20 = .ok (.aload_n 0, 1) := by decide +kernel
theorem dX6_mendByRounds_21 : decode cX6_mendByRounds 21 = .ok (.iload_n 1, 1) := by decide +kernel
theorem dX6_mendByRounds_22 : decode cX6_mendByRounds 22 = .ok (.invokevirtual 392, 3) := by decide +kernel
theorem dX6_mendByRounds_25 : decode cX6_mendByRounds 25 = .ok (.istore 6, 2) := by decide +kernel
theorem dX6_mendByRounds_27 : decode cX6_mendByRounds 27 = .ok (.iload_n 2, 1) := by decide +kernel
theorem dX6_mendByRounds_28 : decode cX6_mendByRounds 28 = .ok (.istore 7, 2) := by decide +kernel
theorem dX6_mendByRounds_30 : decode cX6_mendByRounds 30 = .ok (.iconst 0, 1) := by decide +kernel
theorem dX6_mendByRounds_31 : decode cX6_mendByRounds 31 = .ok (.istore 8, 2) := by decide +kernel
theorem dX6_mendByRounds_33 : decode cX6_mendByRounds 33 = .ok (.iload 8, 2) := by decide +kernel
theorem dX6_mendByRounds_35 : decode cX6_mendByRounds 35 = .ok (.iload_n 3, 1) := by decide +kernel
theorem dX6_mendByRounds_36 : decode cX6_mendByRounds 36 = .ok (.if_icmp .ge 141, 3) := by decide +kernel
theorem dX6_mendByRounds_39 : decode cX6_mendByRounds 39 = .ok (.iload 7, 2) := by decide +kernel
theorem dX6_mendByRounds_41 : decode cX6_mendByRounds 41 = .ok (.ldc_w 395, 3) := by decide +kernel
theorem dX6_mendByRounds_44 : decode cX6_mendByRounds 44 = .ok (.imul, 1) := by decide +kernel
theorem dX6_mendByRounds_45 : decode cX6_mendByRounds 45 = .ok (.sipush 12345, 3) := by decide +kernel
theorem dX6_mendByRounds_48 : decode cX6_mendByRounds 48 = .ok (.iadd, 1) := by decide +kernel
theorem dX6_mendByRounds_49 : decode cX6_mendByRounds 49 = .ok (.ldc_w 396, 3) := by decide +kernel
theorem dX6_mendByRounds_52 : decode cX6_mendByRounds 52 = .ok (.iand, 1) := by decide +kernel
theorem dX6_mendByRounds_53 : decode cX6_mendByRounds 53 = .ok (.istore 7, 2) := by decide +kernel
theorem dX6_mendByRounds_55 : decode cX6_mendByRounds 55 = .ok (.aload_n 0, 1) := by decide +kernel
theorem dX6_mendByRounds_56 : decode cX6_mendByRounds 56 = .ok (.getfield 12, 3) := by decide +kernel
theorem dX6_mendByRounds_59 : decode cX6_mendByRounds 59 = .ok (.iload 7, 2) := by decide +kernel
theorem dX6_mendByRounds_61 : decode cX6_mendByRounds 61 = .ok (.bipush 7, 2) := by decide +kernel
theorem dX6_mendByRounds_63 : decode cX6_mendByRounds 63 = .ok (.idiv, 1) := by decide +kernel
theorem dX6_mendByRounds_64 : decode cX6_mendByRounds 64 = .ok (.iload 4, 2) := by decide +kernel
theorem dX6_mendByRounds_66 : decode cX6_mendByRounds 66 = .ok (.irem, 1) := by decide +kernel
theorem dX6_mendByRounds_67 : decode cX6_mendByRounds 67 = .ok (.invokevirtual 153, 3) := by decide +kernel
theorem dX6_mendByRounds_70 : decode cX6_mendByRounds 70 = .ok (.istore 9, 2) := by decide +kernel
theorem dX6_mendByRounds_72 : decode cX6_mendByRounds 72 = .ok (.aload_n 0, 1) := by decide +kernel
theorem dX6_mendByRounds_73 : decode cX6_mendByRounds 73 = .ok (.getfield 12, 3) := by decide +kernel
theorem dX6_mendByRounds_76 : decode cX6_mendByRounds 76 = .ok (.iload 7, 2) := by decide +kernel
theorem dX6_mendByRounds_78 : decode cX6_mendByRounds 78 = .ok (.sipush 1024, 3) := by decide +kernel
theorem dX6_mendByRounds_81 : decode cX6_mendByRounds 81 = .ok (.idiv, 1) := by decide +kernel
theorem dX6_mendByRounds_82 : decode cX6_mendByRounds 82 = .ok (.iload 4, 2) := by decide +kernel
theorem dX6_mendByRounds_84 : decode cX6_mendByRounds 84 = .ok (.irem, 1) := by decide +kernel
theorem dX6_mendByRounds_85 : decode cX6_mendByRounds 85 = .ok (.invokevirtual 153, 3) := by decide +kernel
theorem dX6_mendByRounds_88 : decode cX6_mendByRounds 88 = .ok (.iload 7, 2) := by decide +kernel
theorem dX6_mendByRounds_90 : decode cX6_mendByRounds 90 = .ok (.iconst 2, 1) := by decide +kernel
theorem dX6_mendByRounds_91 : decode cX6_mendByRounds 91 = .ok (.irem, 1) := by decide +kernel
theorem dX6_mendByRounds_92 : decode cX6_mendByRounds 92 = .ok (.iconst 1, 1) := by decide +kernel
theorem dX6_mendByRounds_93 : decode cX6_mendByRounds 93 = .ok (.if_icmp .ne 7, 3) := by decide +kernel
theorem dX6_mendByRounds_96 : decode cX6_mendByRounds 96 = .ok (.iconst 1, 1) := by decide +kernel
theorem dX6_mendByRounds_97 : decode cX6_mendByRounds 97 = .ok (.goto 4, 3) := by decide +kernel
theorem dX6_mendByRounds_100 : decode cX6_mendByRounds 100 = .ok (.iconst 0, 1) := by decide +kernel
theorem dX6_mendByRounds_101 : decode cX6_mendByRounds 101 = .ok (.invokestatic 158, 3) := by decide +kernel
theorem dX6_mendByRounds_104 : decode cX6_mendByRounds 104 = .ok (.istore 10, 2) := by decide +kernel
theorem dX6_mendByRounds_106 : decode cX6_mendByRounds 106 = .ok (.aload_n 0, 1) := by decide +kernel
theorem dX6_mendByRounds_107 : decode cX6_mendByRounds 107 = .ok (.iload 9, 2) := by decide +kernel
theorem dX6_mendByRounds_109 : decode cX6_mendByRounds 109 = .ok (.iload 10, 2) := by decide +kernel
theorem dX6_mendByRounds_111 : decode cX6_mendByRounds 111 = .ok (.invokevirtual 162, 3) := by decide +kernel
theorem dX6_mendByRounds_114 : decode cX6_mendByRounds 114 = .ok (.ifCond .eq 57, 3) := by decide +kernel
theorem dX6_mendByRounds_117 : decode cX6_mendByRounds 117 = .ok (.aload_n 0, 1) := by decide +kernel
theorem dX6_mendByRounds_118 : decode cX6_mendByRounds 118 = .ok (.getfield 16, 3) := by decide +kernel
theorem dX6_mendByRounds_121 : decode cX6_mendByRounds 121 = .ok (.aload_n 0, 1) := by decide +kernel
theorem dX6_mendByRounds_122 : decode cX6_mendByRounds 122 = .ok (.getfield 12, 3) := by decide +kernel
theorem dX6_mendByRounds_125 : decode cX6_mendByRounds 125 = .ok (.invokevirtual 144, 3) := by decide +kernel
theorem dX6_mendByRounds_128 : decode cX6_mendByRounds 128 = .ok (.aload_n 0, 1) := by decide +kernel
theorem dX6_mendByRounds_129 : decode cX6_mendByRounds 129 = .ok (.iload 9, 2) := by decide +kernel
theorem dX6_mendByRounds_131 : decode cX6_mendByRounds 131 = .ok (.iload 10, 2) := by decide +kernel
theorem dX6_mendByRounds_133 : decode cX6_mendByRounds 133 = .ok (.invokevirtual 165, 3) := by decide +kernel
theorem dX6_mendByRounds_136 : decode cX6_mendByRounds 136 = .ok (.aload_n 0, 1) := by decide +kernel
theorem dX6_mendByRounds_137 : decode cX6_mendByRounds 137 = .ok (.iload_n 1, 1) := by decide +kernel
theorem dX6_mendByRounds_138 : decode cX6_mendByRounds 138 = .ok (.invokevirtual 392, 3) := by decide +kernel
theorem dX6_mendByRounds_141 : decode cX6_mendByRounds 141 = .ok (.istore 11, 2) := by decide +kernel
theorem dX6_mendByRounds_143 : decode cX6_mendByRounds 143 = .ok (.iload 11, 2) := by decide +kernel
theorem dX6_mendByRounds_145 : decode cX6_mendByRounds 145 = .ok (.iload 6, 2) := by decide +kernel
theorem dX6_mendByRounds_147 : decode cX6_mendByRounds 147 = .ok (.if_icmp .ge 13, 3) := by decide +kernel
theorem dX6_mendByRounds_150 : decode cX6_mendByRounds 150 = .ok (.iload 11, 2) := by decide +kernel
theorem dX6_mendByRounds_152 : decode cX6_mendByRounds 152 = .ok (.istore 6, 2) := by decide +kernel
theorem dX6_mendByRounds_154 : decode cX6_mendByRounds 154 = .ok (.iinc 5 1, 3) := by decide +kernel
theorem dX6_mendByRounds_157 : decode cX6_mendByRounds 157 = .ok (.goto 14, 3) := by decide +kernel
theorem dX6_mendByRounds_160 : decode cX6_mendByRounds 160 = .ok (.aload_n 0, 1) := by decide +kernel
theorem dX6_mendByRounds_161 : decode cX6_mendByRounds 161 = .ok (.getfield 12, 3) := by decide +kernel
theorem dX6_mendByRounds_164 : decode cX6_mendByRounds 164 = .ok (.aload_n 0, 1) := by decide +kernel
theorem dX6_mendByRounds_165 : decode cX6_mendByRounds 165 = .ok (.getfield 16, 3) := by decide +kernel
theorem dX6_mendByRounds_168 : decode cX6_mendByRounds 168 = .ok (.invokevirtual 144, 3) := by decide +kernel
theorem dX6_mendByRounds_171 : decode cX6_mendByRounds 171 = .ok (.iinc 8 1, 3) := by decide +kernel
theorem dX6_mendByRounds_174 : decode cX6_mendByRounds 174 = .ok (.goto (-141), 3) := by decide +kernel
theorem dX6_mendByRounds_177 : decode cX6_mendByRounds 177 = .ok (.iload 5, 2) := by decide +kernel
theorem dX6_mendByRounds_179 : decode cX6_mendByRounds 179 = .ok (.ireturn, 1) := by decide +kernel
set_option maxRecDepth 20000 in
theorem ggX6_shortRings_X6_countRings : GoodIn wsX6_shortRings wsX6_countRings := goodIn_r _ [5, 6, 7, 8, 9, 4, 10, 11, 12, 13, 14, 15, 16, 17, 18, 19, 20, 21, 22, 23, 24, 25, 26, 27, 28, 33, 34, 35, 36, 37, 38, 39, 40, 41, 42, 43, 44] (by decide +kernel) (by decide +kernel)
set_option maxRecDepth 20000 in
theorem gX6_shortRings_X6_countRings : GoodIn wsX6_shortRings (wsV RX6 292 RX6 yX6_countRings wsX6_countRings) := goodIn_app (goodIn_of _ (by decide +kernel)) ggX6_shortRings_X6_countRings
set_option maxRecDepth 20000 in
theorem ggX6_shortRings_X6_tallied : GoodIn wsX6_shortRings wsX6_tallied := goodIn_r _ [32, 6, 33, 34, 35, 36, 37, 38, 39, 40, 41, 42] (by decide +kernel) (by decide +kernel)
set_option maxRecDepth 20000 in
theorem gX6_shortRings_X6_tallied : GoodIn wsX6_shortRings (wsV RX6 295 RX6 yX6_tallied wsX6_tallied) := goodIn_app (goodIn_of _ (by decide +kernel)) ggX6_shortRings_X6_tallied
theorem dX6_shortRings_0 : decode cX6_shortRings 0 = .ok (.aload_n 0, 1) := by decide +kernel
theorem dX6_shortRings_1 : decode cX6_shortRings 1 = .ok (.iload_n 1, 1) := by decide +kernel
theorem dX6_shortRings_2 : decode cX6_shortRings 2 = .ok (.iconst 1, 1) := by decide +kernel
theorem dX6_shortRings_3 : decode cX6_shortRings 3 = .ok (.isub, 1) := by decide +kernel
theorem dX6_shortRings_4 : decode cX6_shortRings 4 = .ok (.invokevirtual 292, 3) := by decide +kernel
theorem dX6_shortRings_7 : decode cX6_shortRings 7 = .ok (.iconst 0, 1) := by decide +kernel
theorem dX6_shortRings_8 : decode cX6_shortRings 8 = .ok (.istore_n 2, 1) := by decide +kernel
theorem dX6_shortRings_9 : decode cX6_shortRings 9 = .ok (.iconst 3, 1) := by decide +kernel
theorem dX6_shortRings_10 : decode cX6_shortRings 10 = .ok (.istore_n 3, 1) := by decide +kernel
theorem dX6_shortRings_11 : decode cX6_shortRings 11 = .ok (.iload_n 3, 1) := by decide +kernel
theorem dX6_shortRings_12 : decode cX6_shortRings 12 = .ok (.iload_n 1, 1) := by decide +kernel
theorem dX6_shortRings_13 : decode cX6_shortRings 13 = .ok (.if_icmp .ge 17, 3) := by decide +kernel
theorem dX6_shortRings_16 : decode cX6_shortRings 16 = .ok (.iload_n 2, 1) := by decide +kernel
theorem dX6_shortRings_17 : decode cX6_shortRings 17 = .ok (.aload_n 0, 1) := by decide +kernel
theorem dX6_shortRings_18 : decode cX6_shortRings 18 = .ok (.iload_n 3, 1) := by decide +kernel
theorem dX6_shortRings_19 : decode cX6_shortRings 19 = .ok (.invokevirtual 295, 3) := by decide +kernel
theorem dX6_shortRings_22 : decode cX6_shortRings 22 = .ok (.iadd, 1) := by decide +kernel
theorem dX6_shortRings_23 : decode cX6_shortRings 23 = .ok (.istore_n 2, 1) := by decide +kernel
theorem dX6_shortRings_24 : decode cX6_shortRings 24 = .ok (.iinc 3 1, 3) := by decide +kernel
theorem dX6_shortRings_27 : decode cX6_shortRings 27 = .ok (.goto (-16), 3) := by decide +kernel
theorem dX6_shortRings_30 : decode cX6_shortRings 30 = .ok (.iload_n 2, 1) := by decide +kernel
theorem dX6_shortRings_31 : decode cX6_shortRings 31 = .ok (.ireturn, 1) := by decide +kernel
set_option maxRecDepth 20000 in
theorem ggX6_countRings_X6_bit : GoodIn wsX6_countRings wsX6_bit := goodIn_r _ [6] (by decide +kernel) (by decide +kernel)
set_option maxRecDepth 20000 in
theorem gX6_countRings_X6_bit : GoodIn wsX6_countRings (va_wsS RX6 118 yX6_bit wsX6_bit) := goodIn_app (goodIn_of _ (by decide +kernel)) ggX6_countRings_X6_bit
set_option maxRecDepth 20000 in
theorem ggX6_countRings_X6_walk : GoodIn wsX6_countRings wsX6_walk := goodIn_r _ [9, 10, 11, 12, 13, 14, 15, 16, 17, 18, 19, 20, 21, 22, 23, 5, 24, 3, 4, 6, 7, 8, 35, 36] (by decide +kernel) (by decide +kernel)
set_option maxRecDepth 20000 in
theorem gX6_countRings_X6_walk : GoodIn wsX6_countRings (va_wsS RX6 397 yX6_walk wsX6_walk) := goodIn_app (goodIn_of _ (by decide +kernel)) ggX6_countRings_X6_walk
theorem dX6_countRings_0 : decode cX6_countRings 0 = .ok (.iconst 0, 1) := by decide +kernel
theorem dX6_countRings_1 : decode cX6_countRings 1 = .ok (.istore_n 2, 1) := by decide +kernel
theorem dX6_countRings_2 : decode cX6_countRings 2 = .ok (.iload_n 2, 1) := by decide +kernel
theorem dX6_countRings_3 : decode cX6_countRings 3 = .ok (.aload_n 0, 1) := by decide +kernel
theorem dX6_countRings_4 : decode cX6_countRings 4 = .ok (.getfield 51, 3) := by decide +kernel
theorem dX6_countRings_7 : decode cX6_countRings 7 = .ok (.arraylength, 1) := by decide +kernel
theorem dX6_countRings_8 : decode cX6_countRings 8 = .ok (.if_icmp .ge 16, 3) := by decide +kernel
theorem dX6_countRings_11 : decode cX6_countRings 11 = .ok (.aload_n 0, 1) := by decide +kernel
theorem dX6_countRings_12 : decode cX6_countRings 12 = .ok (.getfield 51, 3) := by decide +kernel
theorem dX6_countRings_15 : decode cX6_countRings 15 = .ok (.iload_n 2, 1) := by decide +kernel
theorem dX6_countRings_16 : decode cX6_countRings 16 = .ok (.iconst 0, 1) := by decide +kernel
theorem dX6_countRings_17 : decode cX6_countRings 17 = .ok (.iastore, 1) := by decide +kernel
theorem dX6_countRings_18 : decode cX6_countRings 18 = .ok (.iinc 2 1, 3) := by decide +kernel
theorem dX6_countRings_21 : decode cX6_countRings 21 = .ok (.goto (-19), 3) := by decide +kernel
theorem dX6_countRings_24 : decode cX6_countRings 24 = .ok (.iconst 0, 1) := by decide +kernel
theorem dX6_countRings_25 : decode cX6_countRings 25 = .ok (.istore_n 2, 1) := by decide +kernel
theorem dX6_countRings_26 : decode cX6_countRings 26 = .ok (.iload_n 2, 1) := by decide +kernel
theorem dX6_countRings_27 : decode cX6_countRings 27 = .ok (.aload_n 0, 1) := by decide +kernel
theorem dX6_countRings_28 : decode cX6_countRings 28 = .ok (.getfield 12, 3) := by decide +kernel
theorem dX6_countRings_31 : decode cX6_countRings 31 = .ok (.getfield 73, 3) := by decide +kernel
theorem dX6_countRings_34 : decode cX6_countRings 34 = .ok (.if_icmp .ge 32, 3) := by decide +kernel
theorem dX6_countRings_37 : decode cX6_countRings 37 = .ok (.aload_n 0, 1) := by decide +kernel
theorem dX6_countRings_38 : decode cX6_countRings 38 = .ok (.getfield 12, 3) := by decide +kernel
theorem dX6_countRings_41 : decode cX6_countRings 41 = .ok (.aload_n 0, 1) := by decide +kernel
theorem dX6_countRings_42 : decode cX6_countRings 42 = .ok (.getfield 51, 3) := by decide +kernel
theorem dX6_countRings_45 : decode cX6_countRings 45 = .ok (.iload_n 2, 1) := by decide +kernel
theorem dX6_countRings_46 : decode cX6_countRings 46 = .ok (.iload_n 2, 1) := by decide +kernel
theorem dX6_countRings_47 : decode cX6_countRings 47 = .ok (.iload_n 2, 1) := by decide +kernel
theorem dX6_countRings_48 : decode cX6_countRings 48 = .ok (.iconst 1, 1) := by decide +kernel
theorem dX6_countRings_49 : decode cX6_countRings 49 = .ok (.iadd, 1) := by decide +kernel
theorem dX6_countRings_50 : decode cX6_countRings 50 = .ok (.invokestatic 118, 3) := by decide +kernel
theorem dX6_countRings_53 : decode cX6_countRings 53 = .ok (.iconst 1, 1) := by decide +kernel
theorem dX6_countRings_54 : decode cX6_countRings 54 = .ok (.isub, 1) := by decide +kernel
theorem dX6_countRings_55 : decode cX6_countRings 55 = .ok (.iconst 1, 1) := by decide +kernel
theorem dX6_countRings_56 : decode cX6_countRings 56 = .ok (.iload_n 1, 1) := by decide +kernel
theorem dX6_countRings_57 : decode cX6_countRings 57 = .ok (.invokestatic 397, 3) := by decide +kernel
theorem dX6_countRings_60 : decode cX6_countRings 60 = .ok (.iinc 2 1, 3) := by decide +kernel
theorem dX6_countRings_63 : decode cX6_countRings 63 = .ok (.goto (-37), 3) := by decide +kernel
theorem dX6_countRings_66 : decode cX6_countRings 66 = .ok (.return_, 1) := by decide +kernel
theorem dX6_tallied_0 : decode cX6_tallied 0 = .ok (.iload_n 1, 1) := by decide +kernel
theorem dX6_tallied_1 : decode cX6_tallied 1 = .ok (.ifCond .lt 23, 3) := by decide +kernel
theorem dX6_tallied_4 : decode cX6_tallied 4 = .ok (.iload_n 1, 1) := by decide +kernel
theorem dX6_tallied_5 : decode cX6_tallied 5 = .ok (.aload_n 0, 1) := by decide +kernel
theorem dX6_tallied_6 : decode cX6_tallied 6 = .ok (.getfield 51, 3) := by decide +kernel
theorem dX6_tallied_9 : decode cX6_tallied 9 = .ok (.arraylength, 1) := by decide +kernel
theorem dX6_tallied_10 : decode cX6_tallied 10 = .ok (.if_icmp .ge 14, 3) := by decide +kernel
theorem dX6_tallied_13 : decode cX6_tallied 13 = .ok (.aload_n 0, 1) := by decide +kernel
theorem dX6_tallied_14 : decode cX6_tallied 14 = .ok (.getfield 51, 3) := by decide +kernel
theorem dX6_tallied_17 : decode cX6_tallied 17 = .ok (.iload_n 1, 1) := by decide +kernel
theorem dX6_tallied_18 : decode cX6_tallied 18 = .ok (.iaload, 1) := by decide +kernel
theorem dX6_tallied_19 : decode cX6_tallied 19 = .ok (.iconst 2, 1) := by decide +kernel
theorem dX6_tallied_20 : decode cX6_tallied 20 = .ok (.idiv, 1) := by decide +kernel
theorem dX6_tallied_21 : decode cX6_tallied 21 = .ok (.goto 4, 3) := by decide +kernel
theorem dX6_tallied_24 : decode cX6_tallied 24 = .ok (.iconst 0, 1) := by decide +kernel
theorem dX6_tallied_25 : decode cX6_tallied 25 = .ok (.ireturn, 1) := by decide +kernel
set_option maxRecDepth 20000 in
theorem ggX6_walk_X3_nearOf : GoodIn wsX6_walk wsX3_nearOf := goodIn_r _ [4, 5, 22, 23] (by decide +kernel) (by decide +kernel)
set_option maxRecDepth 20000 in
theorem gX6_walk_X3_nearOf_n255 : GoodIn wsX6_walk (wsX3_nearOf) := ggX6_walk_X3_nearOf
set_option maxRecDepth 20000 in
theorem ggX6_walk_J6_bitCount_0f7a4 : GoodIn wsX6_walk wsJ6_bitCount_0f7a4 := goodIn_r _ [9, 10, 11, 12] (by decide +kernel) (by decide +kernel)
set_option maxRecDepth 20000 in
theorem gX6_walk_J6_bitCount_0f7a4 : GoodIn wsX6_walk (va_wsS RX6 270 yJ6_bitCount_0f7a4 wsJ6_bitCount_0f7a4) := goodIn_app (goodIn_of _ (by decide +kernel)) ggX6_walk_J6_bitCount_0f7a4
set_option maxRecDepth 20000 in
theorem ggX6_walk_X6_holds : GoodIn wsX6_walk wsX6_holds := goodIn_r _ [16] (by decide +kernel) (by decide +kernel)
set_option maxRecDepth 20000 in
theorem gX6_walk_X6_holds : GoodIn wsX6_walk (va_wsS RX6 386 yX6_holds wsX6_holds) := goodIn_app (goodIn_of _ (by decide +kernel)) ggX6_walk_X6_holds
set_option maxRecDepth 20000 in
theorem ggX6_walk_X6_bit : GoodIn wsX6_walk wsX6_bit := goodIn_r _ [19] (by decide +kernel) (by decide +kernel)
set_option maxRecDepth 20000 in
theorem gX6_walk_X6_bit : GoodIn wsX6_walk (va_wsS RX6 118 yX6_bit wsX6_bit) := goodIn_app (goodIn_of _ (by decide +kernel)) ggX6_walk_X6_bit
set_option maxRecDepth 20000 in
theorem ggX6_walk_X6_walk : GoodIn wsX6_walk wsX6_walk := goodIn_r _ [0, 1, 2, 3, 4, 5, 6, 7, 8, 9, 10, 11, 12, 13, 14, 15, 16, 17, 18, 19, 20, 21, 22, 23] (by decide +kernel) (by decide +kernel)
set_option maxRecDepth 20000 in
theorem gX6_walk_X6_walk : GoodIn wsX6_walk (va_wsS RX6 397 yX6_walk wsX6_walk) := goodIn_app (goodIn_of _ (by decide +kernel)) ggX6_walk_X6_walk
theorem dX6_walk_0 : decode cX6_walk 0 = .ok (.iload 5, 2) := by decide +kernel
theorem dX6_walk_2 : decode cX6_walk 2 = .ok (.iconst 1, 1) := by decide +kernel
theorem dX6_walk_3 : decode cX6_walk 3 = .ok (.if_icmp .lt 17, 3) := by decide +kernel
theorem dX6_walk_6 : decode cX6_walk 6 = .ok (.iload 5, 2) := by decide +kernel
theorem dX6_walk_8 : decode cX6_walk 8 = .ok (.iload 6, 2) := by decide +kernel
theorem dX6_walk_10 : decode cX6_walk 10 = .ok (.if_icmp .ge 10, 3) := by decide +kernel
theorem dX6_walk_13 : decode cX6_walk 13 = .ok (.iload 6, 2) := by decide +kernel
theorem dX6_walk_15 : decode cX6_walk 15 = .ok (.aload_n 1, 1) := by decide +kernel
theorem dX6_walk_16 : decode cX6_walk 16 = .ok (.arraylength, 1) := by decide +kernel
theorem dX6_walk_17 : decode cX6_walk 17 = .ok (.if_icmp .lt 4, 3) := by decide +kernel
theorem dX6_walk_20 : decode cX6_walk 20 = .ok (.return_, 1) := by decide +kernel
theorem dX6_walk_21 : decode cX6_walk 21 = .ok (.aload_n 0, 1) := by decide +kernel
theorem dX6_walk_22 : decode cX6_walk 22 = .ok (.iload_n 3, 1) := by decide +kernel
theorem dX6_walk_23 : decode cX6_walk 23 = .ok (.invokevirtual 255, 3) := by decide +kernel
theorem dX6_walk_26 : decode cX6_walk 26 = .ok (.iload 4, 2) := by decide +kernel
theorem dX6_walk_28 : decode cX6_walk 28 = .ok (.iconst (-1), 1) := by decide +kernel
theorem dX6_walk_29 : decode cX6_walk 29 = .ok (.ixor, 1) := by decide +kernel
theorem dX6_walk_30 : decode cX6_walk 30 = .ok (.iand, 1) := by decide +kernel
theorem dX6_walk_31 : decode cX6_walk 31 = .ok (.istore 7, 2) := by decide +kernel
theorem dX6_walk_33 : decode cX6_walk 33 = .ok (.iload 5, 2) := by decide +kernel
theorem dX6_walk_35 : decode cX6_walk 35 = .ok (.iconst 2, 1) := by decide +kernel
theorem dX6_walk_36 : decode cX6_walk 36 = .ok (.if_icmp .lt 23, 3) := by decide +kernel
theorem dX6_walk_39 : decode cX6_walk 39 = .ok (.aload_n 1, 1) := by decide +kernel
theorem dX6_walk_40 : decode cX6_walk 40 = .ok (.iload 5, 2) := by decide +kernel
theorem dX6_walk_42 : decode cX6_walk 42 = .ok (.iconst 1, 1) := by decide +kernel
theorem dX6_walk_43 : decode cX6_walk 43 = .ok (.iadd, 1) := by decide +kernel
theorem dX6_walk_44 : decode cX6_walk 44 = .ok (.dup2, 1) := by decide +kernel
theorem dX6_walk_45 : decode cX6_walk 45 = .ok (.iaload, 1) := by decide +kernel
theorem dX6_walk_46 : decode cX6_walk 46 = .ok (.iload 7, 2) := by decide +kernel
theorem dX6_walk_48 : decode cX6_walk 48 = .ok (.aload_n 0, 1) := by decide +kernel
theorem dX6_walk_49 : decode cX6_walk 49 = .ok (.iload_n 2, 1) := by decide +kernel
theorem dX6_walk_50 : decode cX6_walk 50 = .ok (.invokevirtual 255, 3) := by decide +kernel
theorem dX6_walk_53 : decode cX6_walk 53 = .ok (.iand, 1) := by decide +kernel
theorem dX6_walk_54 : decode cX6_walk 54 = .ok (.invokestatic 270, 3) := by decide +kernel
theorem dX6_walk_57 : decode cX6_walk 57 = .ok (.iadd, 1) := by decide +kernel
theorem dX6_walk_58 : decode cX6_walk 58 = .ok (.iastore, 1) := by decide +kernel
theorem dX6_walk_59 : decode cX6_walk 59 = .ok (.iload 5, 2) := by decide +kernel
theorem dX6_walk_61 : decode cX6_walk 61 = .ok (.iconst 1, 1) := by decide +kernel
theorem dX6_walk_62 : decode cX6_walk 62 = .ok (.iadd, 1) := by decide +kernel
theorem dX6_walk_63 : decode cX6_walk 63 = .ok (.iload 6, 2) := by decide +kernel
theorem dX6_walk_65 : decode cX6_walk 65 = .ok (.if_icmp .lt 4, 3) := by decide +kernel
theorem dX6_walk_68 : decode cX6_walk 68 = .ok (.return_, 1) := by decide +kernel
theorem dX6_walk_69 : decode cX6_walk 69 = .ok (.iload_n 2, 1) := by decide +kernel
theorem dX6_walk_70 : decode cX6_walk 70 = .ok (.iconst 1, 1) := by decide +kernel
theorem dX6_walk_71 : decode cX6_walk 71 = .ok (.iadd, 1) := by decide +kernel
theorem dX6_walk_72 : decode cX6_walk 72 = .ok (.istore 8, 2) := by decide +kernel
theorem dX6_walk_74 : decode cX6_walk 74 = .ok (.iload 8, 2) := by decide +kernel
theorem dX6_walk_76 : decode cX6_walk 76 = .ok (.aload_n 0, 1) := by decide +kernel
theorem dX6_walk_77 : decode cX6_walk 77 = .ok (.getfield 73, 3) := by decide +kernel
theorem dX6_walk_80 : decode cX6_walk 80 = .ok (.if_icmp .ge 41, 3) := by decide +kernel
theorem dX6_walk_83 : decode cX6_walk 83 = .ok (.iload 7, 2) := by decide +kernel
theorem dX6_walk_85 : decode cX6_walk 85 = .ok (.iload 8, 2) := by decide +kernel
theorem dX6_walk_87 : decode cX6_walk 87 = .ok (.invokestatic 386, 3) := by decide +kernel
theorem dX6_walk_90 : decode cX6_walk 90 = .ok (.ifCond .eq 25, 3) := by decide +kernel
theorem dX6_walk_93 : decode cX6_walk 93 = .ok (.aload_n 0, 1) := by decide +kernel
theorem dX6_walk_94 : decode cX6_walk 94 = .ok (.aload_n 1, 1) := by decide +kernel
theorem dX6_walk_95 : decode cX6_walk 95 = .ok (.iload_n 2, 1) := by decide +kernel
theorem dX6_walk_96 : decode cX6_walk 96 = .ok (.iload 8, 2) := by decide +kernel
theorem dX6_walk_98 : decode cX6_walk 98 = .ok (.iload 4, 2) := by decide +kernel
theorem dX6_walk_100 : decode cX6_walk 100 = .ok (.iload 8, 2) := by decide +kernel
theorem dX6_walk_102 : decode cX6_walk 102 = .ok (.invokestatic 118, 3) := by decide +kernel
theorem dX6_walk_105 : decode cX6_walk 105 = .ok (.ior, 1) := by decide +kernel
theorem dX6_walk_106 : decode cX6_walk 106 = .ok (.iload 5, 2) := by decide +kernel
theorem dX6_walk_108 : decode cX6_walk 108 = .ok (.iconst 1, 1) := by decide +kernel
theorem dX6_walk_109 : decode cX6_walk 109 = .ok (.iadd, 1) := by decide +kernel
theorem dX6_walk_110 : decode cX6_walk 110 = .ok (.iload 6, 2) := by decide +kernel
theorem dX6_walk_112 : decode cX6_walk 112 = .ok (.invokestatic 397, 3) := by decide +kernel
theorem dX6_walk_115 : decode cX6_walk 115 = .ok (.iinc 8 1, 3) := by decide +kernel
theorem dX6_walk_118 : decode cX6_walk 118 = .ok (.goto (-44), 3) := by decide +kernel
theorem dX6_walk_121 : decode cX6_walk 121 = .ok (.return_, 1) := by decide +kernel
set_option maxRecDepth 20000 in
theorem ggX6_isAimSound_X3_countOf : GoodIn wsX6_isAimSound wsX3_countOf := goodIn_r _ [6, 7, 8, 9, 4, 10, 11, 12, 13, 14, 15, 16, 17, 18, 67, 68] (by decide +kernel) (by decide +kernel)
set_option maxRecDepth 20000 in
theorem gX6_isAimSound_X3_countOf_n102 : GoodIn wsX6_isAimSound (wsX3_countOf) := ggX6_isAimSound_X3_countOf
set_option maxRecDepth 20000 in
theorem ggX6_isAimSound_X5_leastRing : GoodIn wsX6_isAimSound wsX5_leastRing := goodIn_r _ [21, 22, 23, 20, 24, 25, 4, 26, 27, 7, 8, 9, 10, 11, 28, 29, 30, 31, 32, 33, 34, 35, 36, 37, 38, 39, 13, 14, 15, 16, 17, 18, 40, 41, 42, 43, 44, 45, 67, 68] (by decide +kernel) (by decide +kernel)
set_option maxRecDepth 20000 in
theorem gX6_isAimSound_X5_leastRing_n147 : GoodIn wsX6_isAimSound (wsX5_leastRing) := ggX6_isAimSound_X5_leastRing
theorem dX6_isAimSound_0 : decode cX6_isAimSound 0 = .ok (.aload_n 0, 1) := by decide +kernel
theorem dX6_isAimSound_1 : decode cX6_isAimSound 1 = .ok (.getfield 26, 3) := by decide +kernel
theorem dX6_isAimSound_4 : decode cX6_isAimSound 4 = .ok (.getfield 193, 3) := by decide +kernel
theorem dX6_isAimSound_7 : decode cX6_isAimSound 7 = .ok (.ifCond .ne 5, 3) := by decide +kernel
theorem dX6_isAimSound_10 : decode cX6_isAimSound 10 = .ok (.iconst 1, 1) := by decide +kernel
theorem dX6_isAimSound_11 : decode cX6_isAimSound 11 = .ok (.ireturn, 1) := by decide +kernel
theorem dX6_isAimSound_12 : decode cX6_isAimSound 12 = .ok (.iconst 0, 1) := by decide +kernel
theorem dX6_isAimSound_13 : decode cX6_isAimSound 13 = .ok (.istore_n 1, 1) := by decide +kernel
theorem dX6_isAimSound_14 : decode cX6_isAimSound 14 = .ok (.iload_n 1, 1) := by decide +kernel
theorem dX6_isAimSound_15 : decode cX6_isAimSound 15 = .ok (.aload_n 0, 1) := by decide +kernel
theorem dX6_isAimSound_16 : decode cX6_isAimSound 16 = .ok (.getfield 12, 3) := by decide +kernel
theorem dX6_isAimSound_19 : decode cX6_isAimSound 19 = .ok (.getfield 73, 3) := by decide +kernel
theorem dX6_isAimSound_22 : decode cX6_isAimSound 22 = .ok (.if_icmp .ge 29, 3) := by decide +kernel
theorem dX6_isAimSound_25 : decode cX6_isAimSound 25 = .ok (.aload_n 0, 1) := by decide +kernel
theorem dX6_isAimSound_26 : decode cX6_isAimSound 26 = .ok (.getfield 12, 3) := by decide +kernel
theorem dX6_isAimSound_29 : decode cX6_isAimSound 29 = .ok (.iload_n 1, 1) := by decide +kernel
theorem dX6_isAimSound_30 : decode cX6_isAimSound 30 = .ok (.invokevirtual 102, 3) := by decide +kernel
theorem dX6_isAimSound_33 : decode cX6_isAimSound 33 = .ok (.aload_n 0, 1) := by decide +kernel
theorem dX6_isAimSound_34 : decode cX6_isAimSound 34 = .ok (.getfield 26, 3) := by decide +kernel
theorem dX6_isAimSound_37 : decode cX6_isAimSound 37 = .ok (.getfield 205, 3) := by decide +kernel
theorem dX6_isAimSound_40 : decode cX6_isAimSound 40 = .ok (.if_icmp .le 5, 3) := by decide +kernel
theorem dX6_isAimSound_43 : decode cX6_isAimSound 43 = .ok (.iconst 0, 1) := by decide +kernel
theorem dX6_isAimSound_44 : decode cX6_isAimSound 44 = .ok (.ireturn, 1) := by decide +kernel
theorem dX6_isAimSound_45 : decode cX6_isAimSound 45 = .ok (.iinc 1 1, 3) := by decide +kernel
theorem dX6_isAimSound_48 : decode cX6_isAimSound 48 = .ok (.goto (-34), 3) := by decide +kernel
theorem dX6_isAimSound_51 : decode cX6_isAimSound 51 = .ok (.aload_n 0, 1) := by decide +kernel
theorem dX6_isAimSound_52 : decode cX6_isAimSound 52 = .ok (.getfield 12, 3) := by decide +kernel
theorem dX6_isAimSound_55 : decode cX6_isAimSound 55 = .ok (.invokestatic 147, 3) := by decide +kernel
theorem dX6_isAimSound_58 : decode cX6_isAimSound 58 = .ok (.istore_n 1, 1) := by decide +kernel
theorem dX6_isAimSound_59 : decode cX6_isAimSound 59 = .ok (.iload_n 1, 1) := by decide +kernel
theorem dX6_isAimSound_60 : decode cX6_isAimSound 60 = .ok (.iconst (-1), 1) := by decide +kernel
theorem dX6_isAimSound_61 : decode cX6_isAimSound 61 = .ok (.if_icmp .eq 14, 3) := by decide +kernel
theorem dX6_isAimSound_64 : decode cX6_isAimSound 64 = .ok (.iload_n 1, 1) := by decide +kernel
theorem dX6_isAimSound_65 : decode cX6_isAimSound 65 = .ok (.aload_n 0, 1) := by decide +kernel
theorem dX6_isAimSound_66 : decode cX6_isAimSound 66 = .ok (.getfield 26, 3) := by decide +kernel
theorem dX6_isAimSound_69 : decode cX6_isAimSound 69 = .ok (.getfield 208, 3) := by decide +kernel
theorem dX6_isAimSound_72 : decode cX6_isAimSound 72 = .ok (.if_icmp .lt 7, 3) := by decide +kernel
theorem dX6_isAimSound_75 : decode cX6_isAimSound 75 = .ok (.iconst 1, 1) := by decide +kernel
theorem dX6_isAimSound_76 : decode cX6_isAimSound 76 = .ok (.goto 4, 3) := by decide +kernel
theorem dX6_isAimSound_79 : decode cX6_isAimSound 79 = .ok (.iconst 0, 1) := by decide +kernel
theorem dX6_isAimSound_80 : decode cX6_isAimSound 80 = .ok (.ireturn, 1) := by decide +kernel
set_option maxRecDepth 20000 in
theorem ggX6_isEvenSound_X3_evenCount : GoodIn wsX6_isEvenSound wsX3_evenCount := goodIn_r _ [6, 7, 8, 9, 10, 4, 11, 12, 13, 14, 15, 16, 17, 18, 19, 20, 21, 22, 23, 80, 81] (by decide +kernel) (by decide +kernel)
set_option maxRecDepth 20000 in
theorem gX6_isEvenSound_X3_evenCount_n238 : GoodIn wsX6_isEvenSound (wsX3_evenCount) := ggX6_isEvenSound_X3_evenCount
set_option maxRecDepth 20000 in
theorem ggX6_isEvenSound_X5_leastRing : GoodIn wsX6_isEvenSound wsX5_leastRing := goodIn_r _ [26, 27, 28, 25, 29, 30, 4, 31, 32, 12, 13, 14, 15, 16, 33, 34, 35, 36, 37, 38, 39, 40, 41, 42, 43, 44, 18, 19, 20, 21, 22, 23, 45, 46, 47, 48, 49, 50, 80, 81] (by decide +kernel) (by decide +kernel)
set_option maxRecDepth 20000 in
theorem gX6_isEvenSound_X5_leastRing_n147 : GoodIn wsX6_isEvenSound (wsX5_leastRing) := ggX6_isEvenSound_X5_leastRing
set_option maxRecDepth 20000 in
theorem ggX6_isEvenSound_X6_isWithin : GoodIn wsX6_isEvenSound wsX6_isWithin := goodIn_r _ [53] (by decide +kernel) (by decide +kernel)
set_option maxRecDepth 20000 in
theorem gX6_isEvenSound_X6_isWithin : GoodIn wsX6_isEvenSound (va_wsS RX6 62 yX6_isWithin wsX6_isWithin) := goodIn_app (goodIn_of _ (by decide +kernel)) ggX6_isEvenSound_X6_isWithin
set_option maxRecDepth 20000 in
theorem ggX6_isEvenSound_X1_why : GoodIn wsX6_isEvenSound wsX1_why := goodIn_r _ [57, 58, 59, 55, 60, 61, 62, 63, 64, 65, 66, 67, 68, 69, 52, 34, 53, 82, 83] (by decide +kernel) (by decide +kernel)
set_option maxRecDepth 20000 in
theorem gX6_isEvenSound_X1_why_n188 : GoodIn wsX6_isEvenSound (wsX1_why) := ggX6_isEvenSound_X1_why
theorem dX6_isEvenSound_0 : decode cX6_isEvenSound 0 = .ok (.aload_n 0, 1) := by decide +kernel
theorem dX6_isEvenSound_1 : decode cX6_isEvenSound 1 = .ok (.getfield 12, 3) := by decide +kernel
theorem dX6_isEvenSound_4 : decode cX6_isEvenSound 4 = .ok (.invokevirtual 238, 3) := by decide +kernel
theorem dX6_isEvenSound_7 : decode cX6_isEvenSound 7 = .ok (.istore_n 1, 1) := by decide +kernel
theorem dX6_isEvenSound_8 : decode cX6_isEvenSound 8 = .ok (.aload_n 0, 1) := by decide +kernel
theorem dX6_isEvenSound_9 : decode cX6_isEvenSound 9 = .ok (.getfield 12, 3) := by decide +kernel
theorem dX6_isEvenSound_12 : decode cX6_isEvenSound 12 = .ok (.invokestatic 147, 3) := by decide +kernel
theorem dX6_isEvenSound_15 : decode cX6_isEvenSound 15 = .ok (.istore_n 2, 1) := by decide +kernel
theorem dX6_isEvenSound_16 : decode cX6_isEvenSound 16 = .ok (.iload_n 1, 1) := by decide +kernel
theorem dX6_isEvenSound_17 : decode cX6_isEvenSound 17 = .ok (.iconst 2, 1) := by decide +kernel
theorem dX6_isEvenSound_18 : decode cX6_isEvenSound 18 = .ok (.iconst 5, 1) := by decide +kernel
theorem dX6_isEvenSound_19 : decode cX6_isEvenSound 19 = .ok (.invokestatic 62, 3) := by decide +kernel
theorem dX6_isEvenSound_22 : decode cX6_isEvenSound 22 = .ok (.ifCond .eq 13, 3) := by decide +kernel
theorem dX6_isEvenSound_25 : decode cX6_isEvenSound 25 = .ok (.iload_n 2, 1) := by decide +kernel
theorem dX6_isEvenSound_26 : decode cX6_isEvenSound 26 = .ok (.iconst 3, 1) := by decide +kernel
theorem dX6_isEvenSound_27 : decode cX6_isEvenSound 27 = .ok (.bipush 8, 2) := by decide +kernel
theorem dX6_isEvenSound_29 : decode cX6_isEvenSound 29 = .ok (.invokestatic 62, 3) := by decide +kernel
theorem dX6_isEvenSound_32 : decode cX6_isEvenSound 32 = .ok (.ifCond .ne 5, 3) := by decide +kernel
theorem dX6_isEvenSound_35 : decode cX6_isEvenSound 35 = .ok (.iconst 1, 1) := by decide +kernel
theorem dX6_isEvenSound_36 : decode cX6_isEvenSound 36 = .ok (.ireturn, 1) := by decide +kernel
theorem dX6_isEvenSound_37 : decode cX6_isEvenSound 37 = .ok (.aload_n 0, 1) := by decide +kernel
theorem dX6_isEvenSound_38 : decode cX6_isEvenSound 38 = .ok (.getfield 33, 3) := by decide +kernel
theorem dX6_isEvenSound_41 : decode cX6_isEvenSound 41 = .ok (.aload_n 0, 1) := by decide +kernel
theorem dX6_isEvenSound_42 : decode cX6_isEvenSound 42 = .ok (.getfield 12, 3) := by decide +kernel
theorem dX6_isEvenSound_45 : decode cX6_isEvenSound 45 = .ok (.getfield 73, 3) := by decide +kernel
theorem dX6_isEvenSound_48 : decode cX6_isEvenSound 48 = .ok (.iload_n 1, 1) := by decide +kernel
theorem dX6_isEvenSound_49 : decode cX6_isEvenSound 49 = .ok (.iload_n 2, 1) := by decide +kernel
theorem dX6_isEvenSound_50 : decode cX6_isEvenSound 50 = .ok (.invokevirtual 188, 3) := by decide +kernel
theorem dX6_isEvenSound_53 : decode cX6_isEvenSound 53 = .ok (.ifCond .ne 7, 3) := by decide +kernel
theorem dX6_isEvenSound_56 : decode cX6_isEvenSound 56 = .ok (.iconst 1, 1) := by decide +kernel
theorem dX6_isEvenSound_57 : decode cX6_isEvenSound 57 = .ok (.goto 4, 3) := by decide +kernel
theorem dX6_isEvenSound_60 : decode cX6_isEvenSound 60 = .ok (.iconst 0, 1) := by decide +kernel
theorem dX6_isEvenSound_61 : decode cX6_isEvenSound 61 = .ok (.ireturn, 1) := by decide +kernel
set_option maxRecDepth 20000 in
theorem ggX6_digestOfKnots_X6_ofKnot : GoodIn wsX6_digestOfKnots wsX6_ofKnot := goodIn_ca (goodIn_ca (goodIn_r _ [7, 8, 9, 10, 11, 1, 12, 13, 14, 15, 16, 17, 18, 19, 20, 6, 21, 22, 23, 24, 25, 26, 27, 28, 29, 30, 31, 32, 33, 34, 35, 36, 37, 38, 39, 40, 41, 42, 43, 44, 45, 46, 47, 48, 49, 50, 51, 52, 53, 54, 55, 56, 57, 58, 59, 60, 61, 62, 63, 64, 65, 66, 67, 68, 69, 70, 71, 72, 73, 74, 75, 76, 77, 78, 79, 80, 81, 82, 83, 84, 85, 86, 87, 88, 89, 90, 91, 92, 93, 94, 95, 96, 97, 98, 99, 100, 101, 102, 103, 104, 105, 106, 107, 108] (by decide +kernel) (by decide +kernel)) (goodIn_sub (fun _ h => List.mem_cons_of_mem _ (List.mem_append_left _ (List.mem_append_right _ h))) (by decide +kernel))) (goodIn_sub (fun _ h => List.mem_cons_of_mem _ (List.mem_append_right _ h)) (by decide +kernel))
set_option maxRecDepth 20000 in
theorem gX6_digestOfKnots_X6_ofKnot : GoodIn wsX6_digestOfKnots (wsV RX6 401 RX6 yX6_ofKnot wsX6_ofKnot) := goodIn_app (goodIn_of _ (by decide +kernel)) ggX6_digestOfKnots_X6_ofKnot
theorem dX6_digestOfKnots_0 : decode cX6_digestOfKnots 0 = .ok (.lload_n 1, 1) := by decide +kernel
theorem dX6_digestOfKnots_1 : decode cX6_digestOfKnots 1 = .ok (.lstore_n 3, 1) := by decide +kernel
theorem dX6_digestOfKnots_2 : decode cX6_digestOfKnots 2 = .ok (.iconst 0, 1) := by decide +kernel
theorem dX6_digestOfKnots_3 : decode cX6_digestOfKnots 3 = .ok (.istore 5, 2) := by decide +kernel
theorem dX6_digestOfKnots_5 : decode cX6_digestOfKnots 5 = .ok (.iload 5, 2) := by decide +kernel
theorem dX6_digestOfKnots_7 : decode cX6_digestOfKnots 7 = .ok (.aload_n 0, 1) := by decide +kernel
theorem dX6_digestOfKnots_8 : decode cX6_digestOfKnots 8 = .ok (.getfield 12, 3) := by decide +kernel
theorem dX6_digestOfKnots_11 : decode cX6_digestOfKnots 11 = .ok (.getfield 73, 3) := by decide +kernel
theorem dX6_digestOfKnots_14 : decode cX6_digestOfKnots 14 = .ok (.if_icmp .ge 40, 3) := by decide +kernel
theorem dX6_digestOfKnots_17 : decode cX6_digestOfKnots 17 = .ok (.iconst 0, 1) := by decide +kernel
theorem dX6_digestOfKnots_18 : decode cX6_digestOfKnots 18 = .ok (.istore 6, 2) := by decide +kernel
theorem dX6_digestOfKnots_20 : decode cX6_digestOfKnots 20 = .ok (.iload 6, 2) := by decide +kernel
theorem dX6_digestOfKnots_22 : decode cX6_digestOfKnots 22 = .ok (.iconst 5, 1) := by decide +kernel
theorem dX6_digestOfKnots_23 : decode cX6_digestOfKnots 23 = .ok (.if_icmp .gt 25, 3) := by decide +kernel
theorem dX6_digestOfKnots_26 : decode cX6_digestOfKnots 26 = .ok (.lload_n 3, 1) := by decide +kernel
theorem dX6_digestOfKnots_27 : decode cX6_digestOfKnots 27 = .ok (.ldc2_w 355, 3) := by decide +kernel
theorem dX6_digestOfKnots_30 : decode cX6_digestOfKnots 30 = .ok (.lmul, 1) := by decide +kernel
theorem dX6_digestOfKnots_31 : decode cX6_digestOfKnots 31 = .ok (.aload_n 0, 1) := by decide +kernel
theorem dX6_digestOfKnots_32 : decode cX6_digestOfKnots 32 = .ok (.iload 5, 2) := by decide +kernel
theorem dX6_digestOfKnots_34 : decode cX6_digestOfKnots 34 = .ok (.iload 6, 2) := by decide +kernel
theorem dX6_digestOfKnots_36 : decode cX6_digestOfKnots 36 = .ok (.invokevirtual 401, 3) := by decide +kernel
theorem dX6_digestOfKnots_39 : decode cX6_digestOfKnots 39 = .ok (.i2l, 1) := by decide +kernel
theorem dX6_digestOfKnots_40 : decode cX6_digestOfKnots 40 = .ok (.ladd, 1) := by decide +kernel
theorem dX6_digestOfKnots_41 : decode cX6_digestOfKnots 41 = .ok (.lstore_n 3, 1) := by decide +kernel
theorem dX6_digestOfKnots_42 : decode cX6_digestOfKnots 42 = .ok (.iinc 6 1, 3) := by decide +kernel
theorem dX6_digestOfKnots_45 : decode cX6_digestOfKnots 45 = .ok (.goto (-25), 3) := by decide +kernel
theorem dX6_digestOfKnots_48 : decode cX6_digestOfKnots 48 = .ok (.iinc 5 1, 3) := by decide +kernel
theorem dX6_digestOfKnots_51 : decode cX6_digestOfKnots 51 = .ok (.goto (-46), 3) := by decide +kernel
theorem dX6_digestOfKnots_54 : decode cX6_digestOfKnots 54 = .ok (.lload_n 3, 1) := by decide +kernel
theorem dX6_digestOfKnots_55 : decode cX6_digestOfKnots 55 = .ok (.lreturn, 1) := by decide +kernel
set_option maxRecDepth 20000 in
theorem ggX6_digestOfEdges_X3_edgesInAll : GoodIn wsX6_digestOfEdges wsX3_edgesInAll := goodIn_r _ [6, 7, 8, 9, 10, 4, 11, 12, 13, 14, 15, 16, 17, 18, 19, 20, 21, 22, 23, 74, 75] (by decide +kernel) (by decide +kernel)
set_option maxRecDepth 20000 in
theorem gX6_digestOfEdges_X3_edgesInAll_n130 : GoodIn wsX6_digestOfEdges (wsX3_edgesInAll) := ggX6_digestOfEdges_X3_edgesInAll
set_option maxRecDepth 20000 in
theorem ggX6_digestOfEdges_X6_ofEdge : GoodIn wsX6_digestOfEdges wsX6_ofEdge := goodIn_ca (goodIn_ca (goodIn_r _ [28, 29, 30, 31, 32, 1, 33, 4, 34, 35, 7, 12, 13, 14, 15, 16, 36, 27, 37, 17, 18, 19, 20, 21, 22, 23, 38, 39, 40, 41, 42, 43, 44, 45, 46, 47, 48, 49, 50, 51, 52, 53, 54, 55, 56, 57, 58, 59, 60, 61, 62, 63, 64, 65, 66, 67, 68, 69, 70, 71, 72, 73, 74, 75] (by decide +kernel) (by decide +kernel)) (goodIn_sub (fun _ h => List.mem_cons_of_mem _ (List.mem_append_left _ (List.mem_append_right _ h))) (by decide +kernel))) (goodIn_sub (fun _ h => List.mem_cons_of_mem _ (List.mem_append_right _ h)) (by decide +kernel))
set_option maxRecDepth 20000 in
theorem gX6_digestOfEdges_X6_ofEdge : GoodIn wsX6_digestOfEdges (wsV RX6 404 RX6 yX6_ofEdge wsX6_ofEdge) := goodIn_app (goodIn_of _ (by decide +kernel)) ggX6_digestOfEdges_X6_ofEdge
theorem dX6_digestOfEdges_0 : decode cX6_digestOfEdges 0 = .ok (.lload_n 1, 1) := by decide +kernel
theorem dX6_digestOfEdges_1 : decode cX6_digestOfEdges 1 = .ok (.lstore_n 3, 1) := by decide +kernel
theorem dX6_digestOfEdges_2 : decode cX6_digestOfEdges 2 = .ok (.aload_n 0, 1) := by decide +kernel
theorem dX6_digestOfEdges_3 : decode cX6_digestOfEdges 3 = .ok (.getfield 12, 3) := by decide +kernel
theorem dX6_digestOfEdges_6 : decode cX6_digestOfEdges 6 = .ok (.invokevirtual 130, 3) := by decide +kernel
theorem dX6_digestOfEdges_9 : decode cX6_digestOfEdges 9 = .ok (.istore 5, 2) := by decide +kernel
theorem dX6_digestOfEdges_11 : decode cX6_digestOfEdges 11 = .ok (.iconst 0, 1) := by decide +kernel
theorem dX6_digestOfEdges_12 : decode cX6_digestOfEdges 12 = .ok (.istore 6, 2) := by decide +kernel
theorem dX6_digestOfEdges_14 : decode cX6_digestOfEdges 14 = .ok (.iload 6, 2) := by decide +kernel
theorem dX6_digestOfEdges_16 : decode cX6_digestOfEdges 16 = .ok (.iload 5, 2) := by decide +kernel
theorem dX6_digestOfEdges_18 : decode cX6_digestOfEdges 18 = .ok (.if_icmp .ge 40, 3) := by decide +kernel
theorem dX6_digestOfEdges_21 : decode cX6_digestOfEdges 21 = .ok (.iconst 0, 1) := by decide +kernel
theorem dX6_digestOfEdges_22 : decode cX6_digestOfEdges 22 = .ok (.istore 7, 2) := by decide +kernel
theorem dX6_digestOfEdges_24 : decode cX6_digestOfEdges 24 = .ok (.iload 7, 2) := by decide +kernel
theorem dX6_digestOfEdges_26 : decode cX6_digestOfEdges 26 = .ok (.iconst 3, 1) := by decide +kernel
theorem dX6_digestOfEdges_27 : decode cX6_digestOfEdges 27 = .ok (.if_icmp .gt 25, 3) := by decide +kernel
theorem dX6_digestOfEdges_30 : decode cX6_digestOfEdges 30 = .ok (.lload_n 3, 1) := by decide +kernel
theorem dX6_digestOfEdges_31 : decode cX6_digestOfEdges 31 = .ok (.ldc2_w 355, 3) := by decide +kernel
theorem dX6_digestOfEdges_34 : decode cX6_digestOfEdges 34 = .ok (.lmul, 1) := by decide +kernel
theorem dX6_digestOfEdges_35 : decode cX6_digestOfEdges 35 = .ok (.aload_n 0, 1) := by decide +kernel
theorem dX6_digestOfEdges_36 : decode cX6_digestOfEdges 36 = .ok (.iload 6, 2) := by decide +kernel
theorem dX6_digestOfEdges_38 : decode cX6_digestOfEdges 38 = .ok (.iload 7, 2) := by decide +kernel
theorem dX6_digestOfEdges_40 : decode cX6_digestOfEdges 40 = .ok (.invokevirtual 404, 3) := by decide +kernel
theorem dX6_digestOfEdges_43 : decode cX6_digestOfEdges 43 = .ok (.i2l, 1) := by decide +kernel
theorem dX6_digestOfEdges_44 : decode cX6_digestOfEdges 44 = .ok (.ladd, 1) := by decide +kernel
theorem dX6_digestOfEdges_45 : decode cX6_digestOfEdges 45 = .ok (.lstore_n 3, 1) := by decide +kernel
theorem dX6_digestOfEdges_46 : decode cX6_digestOfEdges 46 = .ok (.iinc 7 1, 3) := by decide +kernel
theorem dX6_digestOfEdges_49 : decode cX6_digestOfEdges 49 = .ok (.goto (-25), 3) := by decide +kernel
theorem dX6_digestOfEdges_52 : decode cX6_digestOfEdges 52 = .ok (.iinc 6 1, 3) := by decide +kernel
theorem dX6_digestOfEdges_55 : decode cX6_digestOfEdges 55 = .ok (.goto (-41), 3) := by decide +kernel
theorem dX6_digestOfEdges_58 : decode cX6_digestOfEdges 58 = .ok (.lload_n 3, 1) := by decide +kernel
theorem dX6_digestOfEdges_59 : decode cX6_digestOfEdges 59 = .ok (.lreturn, 1) := by decide +kernel
set_option maxRecDepth 20000 in
theorem ggX6_digestOfTable_X6_table : GoodIn wsX6_digestOfTable wsX6_table := goodIn_ca (goodIn_r _ [6, 7, 8, 9, 10, 5, 11, 12, 13, 14, 15, 16, 17, 18, 19, 20, 21, 22, 23, 24, 25, 26, 27, 28, 29, 30, 31, 32, 33, 34, 35, 36, 37, 38, 39, 40, 41, 42, 43, 44, 45, 46, 47, 48, 49, 50, 51, 52, 53, 54, 55, 56] (by decide +kernel) (by decide +kernel)) (goodIn_sub (fun _ h => List.mem_cons_of_mem _ (List.mem_append_right _ h)) (by decide +kernel))
set_option maxRecDepth 20000 in
theorem gX6_digestOfTable_X6_table : GoodIn wsX6_digestOfTable (wsV RX6 407 RX6 yX6_table wsX6_table) := goodIn_app (goodIn_of _ (by decide +kernel)) ggX6_digestOfTable_X6_table
theorem dX6_digestOfTable_0 : decode cX6_digestOfTable 0 = .ok (.lload_n 1, 1) := by decide +kernel
theorem dX6_digestOfTable_1 : decode cX6_digestOfTable 1 = .ok (.lstore_n 3, 1) := by decide +kernel
theorem dX6_digestOfTable_2 : decode cX6_digestOfTable 2 = .ok (.iconst 2, 1) := by decide +kernel
theorem dX6_digestOfTable_3 : decode cX6_digestOfTable 3 = .ok (.istore 5, 2) := by decide +kernel
theorem dX6_digestOfTable_5 : decode cX6_digestOfTable 5 = .ok (.iload 5, 2) := by decide +kernel
theorem dX6_digestOfTable_7 : decode cX6_digestOfTable 7 = .ok (.iconst 5, 1) := by decide +kernel
theorem dX6_digestOfTable_8 : decode cX6_digestOfTable 8 = .ok (.if_icmp .gt 59, 3) := by decide +kernel
theorem dX6_digestOfTable_11 : decode cX6_digestOfTable 11 = .ok (.iconst 3, 1) := by decide +kernel
theorem dX6_digestOfTable_12 : decode cX6_digestOfTable 12 = .ok (.istore 6, 2) := by decide +kernel
theorem dX6_digestOfTable_14 : decode cX6_digestOfTable 14 = .ok (.iload 6, 2) := by decide +kernel
theorem dX6_digestOfTable_16 : decode cX6_digestOfTable 16 = .ok (.bipush 8, 2) := by decide +kernel
theorem dX6_digestOfTable_18 : decode cX6_digestOfTable 18 = .ok (.if_icmp .gt 43, 3) := by decide +kernel
theorem dX6_digestOfTable_21 : decode cX6_digestOfTable 21 = .ok (.lload_n 3, 1) := by decide +kernel
theorem dX6_digestOfTable_22 : decode cX6_digestOfTable 22 = .ok (.ldc2_w 355, 3) := by decide +kernel
theorem dX6_digestOfTable_25 : decode cX6_digestOfTable 25 = .ok (.lmul, 1) := by decide +kernel
theorem dX6_digestOfTable_26 : decode cX6_digestOfTable 26 = .ok (.aload_n 0, 1) := by decide +kernel
theorem dX6_digestOfTable_27 : decode cX6_digestOfTable 27 = .ok (.iload 5, 2) := by decide +kernel
theorem dX6_digestOfTable_29 : decode cX6_digestOfTable 29 = .ok (.iload 6, 2) := by decide +kernel
theorem dX6_digestOfTable_31 : decode cX6_digestOfTable 31 = .ok (.iconst 0, 1) := by decide +kernel
theorem dX6_digestOfTable_32 : decode cX6_digestOfTable 32 = .ok (.invokevirtual 407, 3) := by decide +kernel
theorem dX6_digestOfTable_35 : decode cX6_digestOfTable 35 = .ok (.i2l, 1) := by decide +kernel
theorem dX6_digestOfTable_36 : decode cX6_digestOfTable 36 = .ok (.ladd, 1) := by decide +kernel
theorem dX6_digestOfTable_37 : decode cX6_digestOfTable 37 = .ok (.lstore_n 3, 1) := by decide +kernel
theorem dX6_digestOfTable_38 : decode cX6_digestOfTable 38 = .ok (.lload_n 3, 1) := by decide +kernel
theorem dX6_digestOfTable_39 : decode cX6_digestOfTable 39 = .ok (.ldc2_w 355, 3) := by decide +kernel
theorem dX6_digestOfTable_42 : decode cX6_digestOfTable 42 = .ok (.lmul, 1) := by decide +kernel
theorem dX6_digestOfTable_43 : decode cX6_digestOfTable 43 = .ok (.aload_n 0, 1) := by decide +kernel
theorem dX6_digestOfTable_44 : decode cX6_digestOfTable 44 = .ok (.iload 5, 2) := by decide +kernel
theorem dX6_digestOfTable_46 : decode cX6_digestOfTable 46 = .ok (.iload 6, 2) := by decide +kernel
theorem dX6_digestOfTable_48 : decode cX6_digestOfTable 48 = .ok (.iconst 1, 1) := by decide +kernel
theorem dX6_digestOfTable_49 : decode cX6_digestOfTable 49 = .ok (.invokevirtual 407, 3) := by decide +kernel
theorem dX6_digestOfTable_52 : decode cX6_digestOfTable 52 = .ok (.i2l, 1) := by decide +kernel
theorem dX6_digestOfTable_53 : decode cX6_digestOfTable 53 = .ok (.ladd, 1) := by decide +kernel
theorem dX6_digestOfTable_54 : decode cX6_digestOfTable 54 = .ok (.lstore_n 3, 1) := by decide +kernel
theorem dX6_digestOfTable_55 : decode cX6_digestOfTable 55 = .ok (.iinc 6 1, 3) := by decide +kernel
theorem dX6_digestOfTable_58 : decode cX6_digestOfTable 58 = .ok (.goto (-44), 3) := by decide +kernel
theorem dX6_digestOfTable_61 : decode cX6_digestOfTable 61 = .ok (.iinc 5 1, 3) := by decide +kernel
theorem dX6_digestOfTable_64 : decode cX6_digestOfTable 64 = .ok (.goto (-59), 3) := by decide +kernel
theorem dX6_digestOfTable_67 : decode cX6_digestOfTable 67 = .ok (.lload_n 3, 1) := by decide +kernel
theorem dX6_digestOfTable_68 : decode cX6_digestOfTable 68 = .ok (.lreturn, 1) := by decide +kernel
theorem dX6_isWithin_0 : decode cX6_isWithin 0 = .ok (.iload_n 0, 1) := by decide +kernel
theorem dX6_isWithin_1 : decode cX6_isWithin 1 = .ok (.iload_n 1, 1) := by decide +kernel
theorem dX6_isWithin_2 : decode cX6_isWithin 2 = .ok (.if_icmp .lt 12, 3) := by decide +kernel
theorem dX6_isWithin_5 : decode cX6_isWithin 5 = .ok (.iload_n 0, 1) := by decide +kernel
theorem dX6_isWithin_6 : decode cX6_isWithin 6 = .ok (.iload_n 2, 1) := by decide +kernel
theorem dX6_isWithin_7 : decode cX6_isWithin 7 = .ok (.if_icmp .gt 7, 3) := by decide +kernel
theorem dX6_isWithin_10 : decode cX6_isWithin 10 = .ok (.iconst 1, 1) := by decide +kernel
theorem dX6_isWithin_11 : decode cX6_isWithin 11 = .ok (.goto 4, 3) := by decide +kernel
theorem dX6_isWithin_14 : decode cX6_isWithin 14 = .ok (.iconst 0, 1) := by decide +kernel
theorem dX6_isWithin_15 : decode cX6_isWithin 15 = .ok (.ireturn, 1) := by decide +kernel
theorem dX6_bit_0 : decode cX6_bit 0 = .ok (.iload_n 0, 1) := by decide +kernel
theorem dX6_bit_1 : decode cX6_bit 1 = .ok (.ifCond .lt 15, 3) := by decide +kernel
theorem dX6_bit_4 : decode cX6_bit 4 = .ok (.iload_n 0, 1) := by decide +kernel
theorem dX6_bit_5 : decode cX6_bit 5 = .ok (.bipush 31, 2) := by decide +kernel
theorem dX6_bit_7 : decode cX6_bit 7 = .ok (.if_icmp .ge 9, 3) := by decide +kernel
theorem dX6_bit_10 : decode cX6_bit 10 = .ok (.iconst 1, 1) := by decide +kernel
theorem dX6_bit_11 : decode cX6_bit 11 = .ok (.iload_n 0, 1) := by decide +kernel
theorem dX6_bit_12 : decode cX6_bit 12 = .ok (.ishl, 1) := by decide +kernel
theorem dX6_bit_13 : decode cX6_bit 13 = .ok (.goto 4, 3) := by decide +kernel
theorem dX6_bit_16 : decode cX6_bit 16 = .ok (.iconst 0, 1) := by decide +kernel
theorem dX6_bit_17 : decode cX6_bit 17 = .ok (.ireturn, 1) := by decide +kernel
theorem dX6_holds_0 : decode cX6_holds 0 = .ok (.iload_n 1, 1) := by decide +kernel
theorem dX6_holds_1 : decode cX6_holds 1 = .ok (.ifCond .lt 21, 3) := by decide +kernel
theorem dX6_holds_4 : decode cX6_holds 4 = .ok (.iload_n 1, 1) := by decide +kernel
theorem dX6_holds_5 : decode cX6_holds 5 = .ok (.bipush 31, 2) := by decide +kernel
theorem dX6_holds_7 : decode cX6_holds 7 = .ok (.if_icmp .ge 15, 3) := by decide +kernel
theorem dX6_holds_10 : decode cX6_holds 10 = .ok (.iload_n 0, 1) := by decide +kernel
theorem dX6_holds_11 : decode cX6_holds 11 = .ok (.iload_n 1, 1) := by decide +kernel
theorem dX6_holds_12 : decode cX6_holds 12 = .ok (.ishr, 1) := by decide +kernel
theorem dX6_holds_13 : decode cX6_holds 13 = .ok (.iconst 1, 1) := by decide +kernel
theorem dX6_holds_14 : decode cX6_holds 14 = .ok (.iand, 1) := by decide +kernel
theorem dX6_holds_15 : decode cX6_holds 15 = .ok (.ifCond .eq 7, 3) := by decide +kernel
theorem dX6_holds_18 : decode cX6_holds 18 = .ok (.iconst 1, 1) := by decide +kernel
theorem dX6_holds_19 : decode cX6_holds 19 = .ok (.goto 4, 3) := by decide +kernel
theorem dX6_holds_22 : decode cX6_holds 22 = .ok (.iconst 0, 1) := by decide +kernel
theorem dX6_holds_23 : decode cX6_holds 23 = .ok (.ireturn, 1) := by decide +kernel
set_option maxRecDepth 20000 in
theorem ggX6_isSetBelow_X6_bit : GoodIn wsX6_isSetBelow wsX6_bit := goodIn_r _ [4] (by decide +kernel) (by decide +kernel)
set_option maxRecDepth 20000 in
theorem gX6_isSetBelow_X6_bit : GoodIn wsX6_isSetBelow (va_wsS RX6 118 yX6_bit wsX6_bit) := goodIn_app (goodIn_of _ (by decide +kernel)) ggX6_isSetBelow_X6_bit
theorem dX6_isSetBelow_0 : decode cX6_isSetBelow 0 = .ok (.iload_n 0, 1) := by decide +kernel
theorem dX6_isSetBelow_1 : decode cX6_isSetBelow 1 = .ok (.ifCond .lt 21, 3) := by decide +kernel
theorem dX6_isSetBelow_4 : decode cX6_isSetBelow 4 = .ok (.iload_n 1, 1) := by decide +kernel
theorem dX6_isSetBelow_5 : decode cX6_isSetBelow 5 = .ok (.bipush 31, 2) := by decide +kernel
theorem dX6_isSetBelow_7 : decode cX6_isSetBelow 7 = .ok (.if_icmp .ge 11, 3) := by decide +kernel
theorem dX6_isSetBelow_10 : decode cX6_isSetBelow 10 = .ok (.iload_n 0, 1) := by decide +kernel
theorem dX6_isSetBelow_11 : decode cX6_isSetBelow 11 = .ok (.iload_n 1, 1) := by decide +kernel
theorem dX6_isSetBelow_12 : decode cX6_isSetBelow 12 = .ok (.invokestatic 118, 3) := by decide +kernel
theorem dX6_isSetBelow_15 : decode cX6_isSetBelow 15 = .ok (.if_icmp .ge 7, 3) := by decide +kernel
theorem dX6_isSetBelow_18 : decode cX6_isSetBelow 18 = .ok (.iconst 1, 1) := by decide +kernel
theorem dX6_isSetBelow_19 : decode cX6_isSetBelow 19 = .ok (.goto 4, 3) := by decide +kernel
theorem dX6_isSetBelow_22 : decode cX6_isSetBelow 22 = .ok (.iconst 0, 1) := by decide +kernel
theorem dX6_isSetBelow_23 : decode cX6_isSetBelow 23 = .ok (.ireturn, 1) := by decide +kernel
set_option maxRecDepth 20000 in
theorem ggX6_firstOf_J6_bitCount_0f7a4 : GoodIn wsX6_firstOf wsJ6_bitCount_0f7a4 := goodIn_r _ [4, 5, 6, 7] (by decide +kernel) (by decide +kernel)
set_option maxRecDepth 20000 in
theorem gX6_firstOf_J6_bitCount_0f7a4 : GoodIn wsX6_firstOf (va_wsS RX6 270 yJ6_bitCount_0f7a4 wsJ6_bitCount_0f7a4) := goodIn_app (goodIn_of _ (by decide +kernel)) ggX6_firstOf_J6_bitCount_0f7a4
theorem dX6_firstOf_0 : decode cX6_firstOf 0 = .ok (.iload_n 0, 1) := by decide +kernel
theorem dX6_firstOf_1 : decode cX6_firstOf 1 = .ok (.ifCond .ne 7, 3) := by decide +kernel
theorem dX6_firstOf_4 : decode cX6_firstOf 4 = .ok (.iconst (-1), 1) := by decide +kernel
theorem dX6_firstOf_5 : decode cX6_firstOf 5 = .ok (.goto 12, 3) := by decide +kernel
theorem dX6_firstOf_8 : decode cX6_firstOf 8 = .ok (.iload_n 0, 1) := by decide +kernel
theorem dX6_firstOf_9 : decode cX6_firstOf 9 = .ok (.iload_n 0, 1) := by decide +kernel
theorem dX6_firstOf_10 : decode cX6_firstOf 10 = .ok (.ineg, 1) := by decide +kernel
theorem dX6_firstOf_11 : decode cX6_firstOf 11 = .ok (.iand, 1) := by decide +kernel
theorem dX6_firstOf_12 : decode cX6_firstOf 12 = .ok (.iconst 1, 1) := by decide +kernel
theorem dX6_firstOf_13 : decode cX6_firstOf 13 = .ok (.isub, 1) := by decide +kernel
theorem dX6_firstOf_14 : decode cX6_firstOf 14 = .ok (.invokestatic 270, 3) := by decide +kernel
theorem dX6_firstOf_17 : decode cX6_firstOf 17 = .ok (.ireturn, 1) := by decide +kernel
theorem dX6_lesser_0 : decode cX6_lesser 0 = .ok (.iload_n 0, 1) := by decide +kernel
theorem dX6_lesser_1 : decode cX6_lesser 1 = .ok (.iconst (-1), 1) := by decide +kernel
theorem dX6_lesser_2 : decode cX6_lesser 2 = .ok (.if_icmp .ne 5, 3) := by decide +kernel
theorem dX6_lesser_5 : decode cX6_lesser 5 = .ok (.iload_n 1, 1) := by decide +kernel
theorem dX6_lesser_6 : decode cX6_lesser 6 = .ok (.ireturn, 1) := by decide +kernel
theorem dX6_lesser_7 : decode cX6_lesser 7 = .ok (.iload_n 1, 1) := by decide +kernel
theorem dX6_lesser_8 : decode cX6_lesser 8 = .ok (.iconst (-1), 1) := by decide +kernel
theorem dX6_lesser_9 : decode cX6_lesser 9 = .ok (.if_icmp .ne 7, 3) := by decide +kernel
theorem dX6_lesser_12 : decode cX6_lesser 12 = .ok (.iload_n 0, 1) := by decide +kernel
theorem dX6_lesser_13 : decode cX6_lesser 13 = .ok (.goto 8, 3) := by decide +kernel
theorem dX6_lesser_16 : decode cX6_lesser 16 = .ok (.iload_n 0, 1) := by decide +kernel
theorem dX6_lesser_17 : decode cX6_lesser 17 = .ok (.iload_n 1, 1) := by decide +kernel
theorem dX6_lesser_18 : decode cX6_lesser 18 = .ok (.invokestatic 324, 3) := by decide +kernel
theorem dX6_lesser_21 : decode cX6_lesser 21 = .ok (.ireturn, 1) := by decide +kernel
theorem dX6_pairOf_0 : decode cX6_pairOf 0 = .ok (.iload_n 0, 1) := by decide +kernel
theorem dX6_pairOf_1 : decode cX6_pairOf 1 = .ok (.bipush 16, 2) := by decide +kernel
theorem dX6_pairOf_3 : decode cX6_pairOf 3 = .ok (.imul, 1) := by decide +kernel
theorem dX6_pairOf_4 : decode cX6_pairOf 4 = .ok (.iload_n 1, 1) := by decide +kernel
theorem dX6_pairOf_5 : decode cX6_pairOf 5 = .ok (.iadd, 1) := by decide +kernel
theorem dX6_pairOf_6 : decode cX6_pairOf 6 = .ok (.ireturn, 1) := by decide +kernel
theorem dX6_oneOf_0 : decode cX6_oneOf 0 = .ok (.iload_n 0, 1) := by decide +kernel
theorem dX6_oneOf_1 : decode cX6_oneOf 1 = .ok (.ifCond .ge 7, 3) := by decide +kernel
theorem dX6_oneOf_4 : decode cX6_oneOf 4 = .ok (.iconst (-1), 1) := by decide +kernel
theorem dX6_oneOf_5 : decode cX6_oneOf 5 = .ok (.goto 7, 3) := by decide +kernel
theorem dX6_oneOf_8 : decode cX6_oneOf 8 = .ok (.iload_n 0, 1) := by decide +kernel
theorem dX6_oneOf_9 : decode cX6_oneOf 9 = .ok (.bipush 16, 2) := by decide +kernel
theorem dX6_oneOf_11 : decode cX6_oneOf 11 = .ok (.idiv, 1) := by decide +kernel
theorem dX6_oneOf_12 : decode cX6_oneOf 12 = .ok (.ireturn, 1) := by decide +kernel
theorem dX6_otherOf_0 : decode cX6_otherOf 0 = .ok (.iload_n 0, 1) := by decide +kernel
theorem dX6_otherOf_1 : decode cX6_otherOf 1 = .ok (.ifCond .ge 7, 3) := by decide +kernel
theorem dX6_otherOf_4 : decode cX6_otherOf 4 = .ok (.iconst (-1), 1) := by decide +kernel
theorem dX6_otherOf_5 : decode cX6_otherOf 5 = .ok (.goto 7, 3) := by decide +kernel
theorem dX6_otherOf_8 : decode cX6_otherOf 8 = .ok (.iload_n 0, 1) := by decide +kernel
theorem dX6_otherOf_9 : decode cX6_otherOf 9 = .ok (.bipush 16, 2) := by decide +kernel
theorem dX6_otherOf_11 : decode cX6_otherOf 11 = .ok (.irem, 1) := by decide +kernel
theorem dX6_otherOf_12 : decode cX6_otherOf 12 = .ok (.ireturn, 1) := by decide +kernel
theorem dJ6_bitCount_0f7a4_0 : decode cJ6_bitCount_0f7a4 0 = .ok (.iload_n 0, 1) := by decide +kernel
theorem dJ6_bitCount_0f7a4_1 : decode cJ6_bitCount_0f7a4 1 = .ok (.iload_n 0, 1) := by decide +kernel
theorem dJ6_bitCount_0f7a4_2 : decode cJ6_bitCount_0f7a4 2 = .ok (.iconst 1, 1) := by decide +kernel
theorem dJ6_bitCount_0f7a4_3 : decode cJ6_bitCount_0f7a4 3 = .ok (.iushr, 1) := by decide +kernel
theorem dJ6_bitCount_0f7a4_4 : decode cJ6_bitCount_0f7a4 4 = .ok (.ldc_w 265, 3) := by decide +kernel
theorem dJ6_bitCount_0f7a4_7 : decode cJ6_bitCount_0f7a4 7 = .ok (.iand, 1) := by decide +kernel
theorem dJ6_bitCount_0f7a4_8 : decode cJ6_bitCount_0f7a4 8 = .ok (.isub, 1) := by decide +kernel
theorem dJ6_bitCount_0f7a4_9 : decode cJ6_bitCount_0f7a4 9 = .ok (.istore_n 0, 1) := by decide +kernel
theorem dJ6_bitCount_0f7a4_10 : decode cJ6_bitCount_0f7a4 10 = .ok (.iload_n 0, 1) := by decide +kernel
theorem dJ6_bitCount_0f7a4_11 : decode cJ6_bitCount_0f7a4 11 = .ok (.ldc_w 266, 3) := by decide +kernel
theorem dJ6_bitCount_0f7a4_14 : decode cJ6_bitCount_0f7a4 14 = .ok (.iand, 1) := by decide +kernel
theorem dJ6_bitCount_0f7a4_15 : decode cJ6_bitCount_0f7a4 15 = .ok (.iload_n 0, 1) := by decide +kernel
theorem dJ6_bitCount_0f7a4_16 : decode cJ6_bitCount_0f7a4 16 = .ok (.iconst 2, 1) := by decide +kernel
theorem dJ6_bitCount_0f7a4_17 : decode cJ6_bitCount_0f7a4 17 = .ok (.iushr, 1) := by decide +kernel
theorem dJ6_bitCount_0f7a4_18 : decode cJ6_bitCount_0f7a4 18 = .ok (.ldc_w 266, 3) := by decide +kernel
theorem dJ6_bitCount_0f7a4_21 : decode cJ6_bitCount_0f7a4 21 = .ok (.iand, 1) := by decide +kernel
theorem dJ6_bitCount_0f7a4_22 : decode cJ6_bitCount_0f7a4 22 = .ok (.iadd, 1) := by decide +kernel
theorem dJ6_bitCount_0f7a4_23 : decode cJ6_bitCount_0f7a4 23 = .ok (.istore_n 0, 1) := by decide +kernel
theorem dJ6_bitCount_0f7a4_24 : decode cJ6_bitCount_0f7a4 24 = .ok (.iload_n 0, 1) := by decide +kernel
theorem dJ6_bitCount_0f7a4_25 : decode cJ6_bitCount_0f7a4 25 = .ok (.iload_n 0, 1) := by decide +kernel
theorem dJ6_bitCount_0f7a4_26 : decode cJ6_bitCount_0f7a4 26 = .ok (.iconst 4, 1) := by decide +kernel
theorem dJ6_bitCount_0f7a4_27 : decode cJ6_bitCount_0f7a4 27 = .ok (.iushr, 1) := by decide +kernel
theorem dJ6_bitCount_0f7a4_28 : decode cJ6_bitCount_0f7a4 28 = .ok (.iadd, 1) := by decide +kernel
theorem dJ6_bitCount_0f7a4_29 : decode cJ6_bitCount_0f7a4 29 = .ok (.ldc_w 267, 3) := by decide +kernel
theorem dJ6_bitCount_0f7a4_32 : decode cJ6_bitCount_0f7a4 32 = .ok (.iand, 1) := by decide +kernel
theorem dJ6_bitCount_0f7a4_33 : decode cJ6_bitCount_0f7a4 33 = .ok (.istore_n 0, 1) := by decide +kernel
theorem dJ6_bitCount_0f7a4_34 : decode cJ6_bitCount_0f7a4 34 = .ok (.iload_n 0, 1) := by decide +kernel
theorem dJ6_bitCount_0f7a4_35 : decode cJ6_bitCount_0f7a4 35 = .ok (.iload_n 0, 1) := by decide +kernel
theorem dJ6_bitCount_0f7a4_36 : decode cJ6_bitCount_0f7a4 36 = .ok (.bipush 8, 2) := by decide +kernel
theorem dJ6_bitCount_0f7a4_38 : decode cJ6_bitCount_0f7a4 38 = .ok (.iushr, 1) := by decide +kernel
theorem dJ6_bitCount_0f7a4_39 : decode cJ6_bitCount_0f7a4 39 = .ok (.iadd, 1) := by decide +kernel
theorem dJ6_bitCount_0f7a4_40 : decode cJ6_bitCount_0f7a4 40 = .ok (.istore_n 0, 1) := by decide +kernel
theorem dJ6_bitCount_0f7a4_41 : decode cJ6_bitCount_0f7a4 41 = .ok (.iload_n 0, 1) := by decide +kernel
theorem dJ6_bitCount_0f7a4_42 : decode cJ6_bitCount_0f7a4 42 = .ok (.iload_n 0, 1) := by decide +kernel
theorem dJ6_bitCount_0f7a4_43 : decode cJ6_bitCount_0f7a4 43 = .ok (.bipush 16, 2) := by decide +kernel
theorem dJ6_bitCount_0f7a4_45 : decode cJ6_bitCount_0f7a4 45 = .ok (.iushr, 1) := by decide +kernel
theorem dJ6_bitCount_0f7a4_46 : decode cJ6_bitCount_0f7a4 46 = .ok (.iadd, 1) := by decide +kernel
theorem dJ6_bitCount_0f7a4_47 : decode cJ6_bitCount_0f7a4 47 = .ok (.istore_n 0, 1) := by decide +kernel
theorem dJ6_bitCount_0f7a4_48 : decode cJ6_bitCount_0f7a4 48 = .ok (.iload_n 0, 1) := by decide +kernel
theorem dJ6_bitCount_0f7a4_49 : decode cJ6_bitCount_0f7a4 49 = .ok (.bipush 63, 2) := by decide +kernel
theorem dJ6_bitCount_0f7a4_51 : decode cJ6_bitCount_0f7a4 51 = .ok (.iand, 1) := by decide +kernel
theorem dJ6_bitCount_0f7a4_52 : decode cJ6_bitCount_0f7a4 52 = .ok (.ireturn, 1) := by decide +kernel
theorem dJ9_max_7cf53_0 : decode cJ9_max_7cf53 0 = .ok (.iload_n 0, 1) := by decide +kernel
theorem dJ9_max_7cf53_1 : decode cJ9_max_7cf53 1 = .ok (.iload_n 1, 1) := by decide +kernel
theorem dJ9_max_7cf53_2 : decode cJ9_max_7cf53 2 = .ok (.if_icmp .lt 7, 3) := by decide +kernel
theorem dJ9_max_7cf53_5 : decode cJ9_max_7cf53 5 = .ok (.iload_n 0, 1) := by decide +kernel
theorem dJ9_max_7cf53_6 : decode cJ9_max_7cf53 6 = .ok (.goto 4, 3) := by decide +kernel
theorem dJ9_max_7cf53_9 : decode cJ9_max_7cf53 9 = .ok (.iload_n 1, 1) := by decide +kernel
theorem dJ9_max_7cf53_10 : decode cJ9_max_7cf53 10 = .ok (.ireturn, 1) := by decide +kernel
theorem dJ9_min_7cf53_0 : decode cJ9_min_7cf53 0 = .ok (.iload_n 0, 1) := by decide +kernel
theorem dJ9_min_7cf53_1 : decode cJ9_min_7cf53 1 = .ok (.iload_n 1, 1) := by decide +kernel
theorem dJ9_min_7cf53_2 : decode cJ9_min_7cf53 2 = .ok (.if_icmp .gt 7, 3) := by decide +kernel
theorem dJ9_min_7cf53_5 : decode cJ9_min_7cf53 5 = .ok (.iload_n 0, 1) := by decide +kernel
theorem dJ9_min_7cf53_6 : decode cJ9_min_7cf53 6 = .ok (.goto 4, 3) := by decide +kernel
theorem dJ9_min_7cf53_9 : decode cJ9_min_7cf53 9 = .ok (.iload_n 1, 1) := by decide +kernel
theorem dJ9_min_7cf53_10 : decode cJ9_min_7cf53 10 = .ok (.ireturn, 1) := by decide +kernel
theorem dL_below_0 : decode cL_below 0 = .ok (.iload_n 0, 1) := by decide +kernel
theorem dL_below_1 : decode cL_below 1 = .ok (.ldc 7, 2) := by decide +kernel
theorem dL_below_3 : decode cL_below 3 = .ok (.iand, 1) := by decide +kernel
theorem dL_below_4 : decode cL_below 4 = .ok (.iload_n 1, 1) := by decide +kernel
theorem dL_below_5 : decode cL_below 5 = .ok (.irem, 1) := by decide +kernel
theorem dL_below_6 : decode cL_below 6 = .ok (.ireturn, 1) := by decide +kernel
theorem dL_cell_0 : decode cL_cell 0 = .ok (.iload_n 1, 1) := by decide +kernel
theorem dL_cell_1 : decode cL_cell 1 = .ok (.aload_n 0, 1) := by decide +kernel
theorem dL_cell_2 : decode cL_cell 2 = .ok (.arraylength, 1) := by decide +kernel
theorem dL_cell_3 : decode cL_cell 3 = .ok (.if_icmp .ge 9, 3) := by decide +kernel
theorem dL_cell_6 : decode cL_cell 6 = .ok (.aload_n 0, 1) := by decide +kernel
theorem dL_cell_7 : decode cL_cell 7 = .ok (.iload_n 1, 1) := by decide +kernel
theorem dL_cell_8 : decode cL_cell 8 = .ok (.iaload, 1) := by decide +kernel
theorem dL_cell_9 : decode cL_cell 9 = .ok (.goto 9, 3) := by decide +kernel
theorem dL_cell_12 : decode cL_cell 12 = .ok (.ldc 8, 2) := by decide +kernel
theorem dL_cell_14 : decode cL_cell 14 = .ok (.iload_n 1, 1) := by decide +kernel
theorem dL_cell_15 : decode cL_cell 15 = .ok (.iconst 3, 1) := by decide +kernel
theorem dL_cell_16 : decode cL_cell 16 = .ok (.iadd, 1) := by decide +kernel
theorem dL_cell_17 : decode cL_cell 17 = .ok (.imul, 1) := by decide +kernel
theorem dL_cell_18 : decode cL_cell 18 = .ok (.ireturn, 1) := by decide +kernel
theorem dL_law_0 : decode cL_law 0 = .ok (.new 9, 3) := by decide +kernel
theorem dL_law_3 : decode cL_law 3 = .ok (.dup, 1) := by decide +kernel
theorem dL_law_4 : decode cL_law 4 = .ok (.invokespecial 11, 3) := by decide +kernel
theorem dL_law_7 : decode cL_law 7 = .ok (.astore_n 1, 1) := by decide +kernel
theorem dL_law_8 : decode cL_law 8 = .ok (.aload_n 1, 1) := by decide +kernel
theorem dL_law_9 : decode cL_law 9 = .ok (.iconst 3, 1) := by decide +kernel
theorem dL_law_10 : decode cL_law 10 = .ok (.aload_n 0, 1) := by decide +kernel
theorem dL_law_11 : decode cL_law 11 = .ok (.iconst 1, 1) := by decide +kernel
theorem dL_law_12 : decode cL_law 12 = .ok (.invokestatic 12, 3) := by decide +kernel
theorem dL_law_15 : decode cL_law 15 = .ok (.bipush 8, 2) := by decide +kernel
theorem dL_law_17 : decode cL_law 17 = .ok (.invokestatic 18, 3) := by decide +kernel
theorem dL_law_20 : decode cL_law 20 = .ok (.iadd, 1) := by decide +kernel
theorem dL_law_21 : decode cL_law 21 = .ok (.invokevirtual 22, 3) := by decide +kernel
theorem dL_law_24 : decode cL_law 24 = .ok (.pop, 1) := by decide +kernel
theorem dL_law_25 : decode cL_law 25 = .ok (.bipush 40, 2) := by decide +kernel
theorem dL_law_27 : decode cL_law 27 = .ok (.anewarray 26, 3) := by decide +kernel
theorem dL_law_30 : decode cL_law 30 = .ok (.astore_n 2, 1) := by decide +kernel
theorem dL_law_31 : decode cL_law 31 = .ok (.iconst 0, 1) := by decide +kernel
theorem dL_law_32 : decode cL_law 32 = .ok (.istore_n 3, 1) := by decide +kernel
theorem dL_law_33 : decode cL_law 33 = .ok (.iconst 0, 1) := by decide +kernel
theorem dL_law_34 : decode cL_law 34 = .ok (.istore 4, 2) := by decide +kernel
theorem dL_law_36 : decode cL_law 36 = .ok (.iload 4, 2) := by decide +kernel
theorem dL_law_38 : decode cL_law 38 = .ok (.bipush 40, 2) := by decide +kernel
theorem dL_law_40 : decode cL_law 40 = .ok (.if_icmp .ge 350, 3) := by decide +kernel
theorem dL_law_43 : decode cL_law 43 = .ok (.aload_n 0, 1) := by decide +kernel
theorem dL_law_44 : decode cL_law 44 = .ok (.iload 4, 2) := by decide +kernel
theorem dL_law_46 : decode cL_law 46 = .ok (.bipush 16, 2) := by decide +kernel
theorem dL_law_48 : decode cL_law 48 = .ok (.irem, 1) := by decide +kernel
theorem dL_law_49 : decode cL_law 49 = .ok (.invokestatic 12, 3) := by decide +kernel
theorem dL_law_52 : decode cL_law 52 = .ok (.bipush 79, 2) := by decide +kernel
theorem dL_law_54 : decode cL_law 54 = .ok (.iload 4, 2) := by decide +kernel
theorem dL_law_56 : decode cL_law 56 = .ok (.imul, 1) := by decide +kernel
theorem dL_law_57 : decode cL_law 57 = .ok (.iadd, 1) := by decide +kernel
theorem dL_law_58 : decode cL_law 58 = .ok (.istore 5, 2) := by decide +kernel
theorem dL_law_60 : decode cL_law 60 = .ok (.aload_n 1, 1) := by decide +kernel
theorem dL_law_61 : decode cL_law 61 = .ok (.iconst 0, 1) := by decide +kernel
theorem dL_law_62 : decode cL_law 62 = .ok (.invokevirtual 28, 3) := by decide +kernel
theorem dL_law_65 : decode cL_law 65 = .ok (.istore 6, 2) := by decide +kernel
theorem dL_law_67 : decode cL_law 67 = .ok (.aload_n 1, 1) := by decide +kernel
theorem dL_law_68 : decode cL_law 68 = .ok (.iconst 3, 1) := by decide +kernel
theorem dL_law_69 : decode cL_law 69 = .ok (.invokevirtual 28, 3) := by decide +kernel
theorem dL_law_72 : decode cL_law 72 = .ok (.istore 7, 2) := by decide +kernel
theorem dL_law_74 : decode cL_law 74 = .ok (.iload 6, 2) := by decide +kernel
theorem dL_law_76 : decode cL_law 76 = .ok (.newarray .int, 2) := by decide +kernel
theorem dL_law_78 : decode cL_law 78 = .ok (.astore 8, 2) := by decide +kernel
theorem dL_law_80 : decode cL_law 80 = .ok (.iconst 0, 1) := by decide +kernel
theorem dL_law_81 : decode cL_law 81 = .ok (.istore 9, 2) := by decide +kernel
theorem dL_law_83 : decode cL_law 83 = .ok (.iload 9, 2) := by decide +kernel
theorem dL_law_85 : decode cL_law 85 = .ok (.iload 6, 2) := by decide +kernel
theorem dL_law_87 : decode cL_law 87 = .ok (.if_icmp .ge 21, 3) := by decide +kernel
theorem dL_law_90 : decode cL_law 90 = .ok (.aload 8, 2) := by decide +kernel
theorem dL_law_92 : decode cL_law 92 = .ok (.iload 9, 2) := by decide +kernel
theorem dL_law_94 : decode cL_law 94 = .ok (.aload_n 1, 1) := by decide +kernel
theorem dL_law_95 : decode cL_law 95 = .ok (.iload 9, 2) := by decide +kernel
theorem dL_law_97 : decode cL_law 97 = .ok (.iconst 0, 1) := by decide +kernel
theorem dL_law_98 : decode cL_law 98 = .ok (.invokevirtual 31, 3) := by decide +kernel
theorem dL_law_101 : decode cL_law 101 = .ok (.iastore, 1) := by decide +kernel
theorem dL_law_102 : decode cL_law 102 = .ok (.iinc 9 1, 3) := by decide +kernel
theorem dL_law_105 : decode cL_law 105 = .ok (.goto (-22), 3) := by decide +kernel
theorem dL_law_108 : decode cL_law 108 = .ok (.aload_n 1, 1) := by decide +kernel
theorem dL_law_109 : decode cL_law 109 = .ok (.iload 5, 2) := by decide +kernel
theorem dL_law_111 : decode cL_law 111 = .ok (.iconst 2, 1) := by decide +kernel
theorem dL_law_112 : decode cL_law 112 = .ok (.ishr, 1) := by decide +kernel
theorem dL_law_113 : decode cL_law 113 = .ok (.iload 5, 2) := by decide +kernel
theorem dL_law_115 : decode cL_law 115 = .ok (.bipush 12, 2) := by decide +kernel
theorem dL_law_117 : decode cL_law 117 = .ok (.invokestatic 18, 3) := by decide +kernel
theorem dL_law_120 : decode cL_law 120 = .ok (.iload 6, 2) := by decide +kernel
theorem dL_law_122 : decode cL_law 122 = .ok (.invokestatic 34, 3) := by decide +kernel
theorem dL_law_125 : decode cL_law 125 = .ok (.istore 9, 2) := by decide +kernel
theorem dL_law_127 : decode cL_law 127 = .ok (.iload 9, 2) := by decide +kernel
theorem dL_law_129 : decode cL_law 129 = .ok (.iconst 2, 1) := by decide +kernel
theorem dL_law_130 : decode cL_law 130 = .ok (.if_icmp .ne 33, 3) := by decide +kernel
theorem dL_law_133 : decode cL_law 133 = .ok (.aload_n 2, 1) := by decide +kernel
theorem dL_law_134 : decode cL_law 134 = .ok (.iload_n 3, 1) := by decide +kernel
theorem dL_law_135 : decode cL_law 135 = .ok (.iinc 3 1, 3) := by decide +kernel
theorem dL_law_138 : decode cL_law 138 = .ok (.iconst 3, 1) := by decide +kernel
theorem dL_law_139 : decode cL_law 139 = .ok (.newarray .int, 2) := by decide +kernel
theorem dL_law_141 : decode cL_law 141 = .ok (.dup, 1) := by decide +kernel
theorem dL_law_142 : decode cL_law 142 = .ok (.iconst 0, 1) := by decide +kernel
theorem dL_law_143 : decode cL_law 143 = .ok (.iload 6, 2) := by decide +kernel
theorem dL_law_145 : decode cL_law 145 = .ok (.iastore, 1) := by decide +kernel
theorem dL_law_146 : decode cL_law 146 = .ok (.dup, 1) := by decide +kernel
theorem dL_law_147 : decode cL_law 147 = .ok (.iconst 1, 1) := by decide +kernel
theorem dL_law_148 : decode cL_law 148 = .ok (.aload_n 1, 1) := by decide +kernel
theorem dL_law_149 : decode cL_law 149 = .ok (.iconst 0, 1) := by decide +kernel
theorem dL_law_150 : decode cL_law 150 = .ok (.invokevirtual 38, 3) := by decide +kernel
theorem dL_law_153 : decode cL_law 153 = .ok (.iastore, 1) := by decide +kernel
theorem dL_law_154 : decode cL_law 154 = .ok (.dup, 1) := by decide +kernel
theorem dL_law_155 : decode cL_law 155 = .ok (.iconst 2, 1) := by decide +kernel
theorem dL_law_156 : decode cL_law 156 = .ok (.aload_n 1, 1) := by decide +kernel
theorem dL_law_157 : decode cL_law 157 = .ok (.iconst 1, 1) := by decide +kernel
theorem dL_law_158 : decode cL_law 158 = .ok (.invokevirtual 38, 3) := by decide +kernel
theorem dL_law_161 : decode cL_law 161 = .ok (.iastore, 1) := by decide +kernel
theorem dL_law_162 : decode cL_law 162 = .ok (.aastore, 1) := by decide +kernel
theorem dL_law_163 : decode cL_law 163 = .ok (.iload 9, 2) := by decide +kernel
theorem dL_law_165 : decode cL_law 165 = .ok (.bipush 7, 2) := by decide +kernel
theorem dL_law_167 : decode cL_law 167 = .ok (.if_icmp .ne 78, 3) := by decide +kernel
theorem dL_law_170 : decode cL_law 170 = .ok (.aload_n 1, 1) := by decide +kernel
theorem dL_law_171 : decode cL_law 171 = .ok (.iconst 0, 1) := by decide +kernel
theorem dL_law_172 : decode cL_law 172 = .ok (.invokevirtual 28, 3) := by decide +kernel
theorem dL_law_175 : decode cL_law 175 = .ok (.iconst 2, 1) := by decide +kernel
theorem dL_law_176 : decode cL_law 176 = .ok (.iload 6, 2) := by decide +kernel
theorem dL_law_178 : decode cL_law 178 = .ok (.imul, 1) := by decide +kernel
theorem dL_law_179 : decode cL_law 179 = .ok (.if_icmp .ne 26, 3) := by decide +kernel
theorem dL_law_182 : decode cL_law 182 = .ok (.aload_n 1, 1) := by decide +kernel
theorem dL_law_183 : decode cL_law 183 = .ok (.iconst 3, 1) := by decide +kernel
theorem dL_law_184 : decode cL_law 184 = .ok (.invokevirtual 28, 3) := by decide +kernel
theorem dL_law_187 : decode cL_law 187 = .ok (.ifCond .lt 20, 3) := by decide +kernel
theorem dL_law_190 : decode cL_law 190 = .ok (.iload 7, 2) := by decide +kernel
theorem dL_law_192 : decode cL_law 192 = .ok (.ifCond .lt 13, 3) := by decide +kernel
theorem dL_law_195 : decode cL_law 195 = .ok (.aload_n 1, 1) := by decide +kernel
theorem dL_law_196 : decode cL_law 196 = .ok (.iconst 3, 1) := by decide +kernel
theorem dL_law_197 : decode cL_law 197 = .ok (.invokevirtual 28, 3) := by decide +kernel
theorem dL_law_200 : decode cL_law 200 = .ok (.iload 7, 2) := by decide +kernel
theorem dL_law_202 : decode cL_law 202 = .ok (.if_icmp .ge 5, 3) := by decide +kernel
theorem dL_law_205 : decode cL_law 205 = .ok (.iconst 0, 1) := by decide +kernel
theorem dL_law_206 : decode cL_law 206 = .ok (.ireturn, 1) := by decide +kernel
theorem dL_law_207 : decode cL_law 207 = .ok (.iconst 0, 1) := by decide +kernel
theorem dL_law_208 : decode cL_law 208 = .ok (.istore 10, 2) := by decide +kernel
theorem dL_law_210 : decode cL_law 210 = .ok (.iload 10, 2) := by decide +kernel
theorem dL_law_212 : decode cL_law 212 = .ok (.iconst 2, 1) := by decide +kernel
theorem dL_law_213 : decode cL_law 213 = .ok (.iload 6, 2) := by decide +kernel
theorem dL_law_215 : decode cL_law 215 = .ok (.imul, 1) := by decide +kernel
theorem dL_law_216 : decode cL_law 216 = .ok (.if_icmp .ge 29, 3) := by decide +kernel
theorem dL_law_219 : decode cL_law 219 = .ok (.aload_n 1, 1) := by decide +kernel
theorem dL_law_220 : decode cL_law 220 = .ok (.iload 10, 2) := by decide +kernel
theorem dL_law_222 : decode cL_law 222 = .ok (.iconst 0, 1) := by decide +kernel
theorem dL_law_223 : decode cL_law 223 = .ok (.invokevirtual 31, 3) := by decide +kernel
theorem dL_law_226 : decode cL_law 226 = .ok (.aload 8, 2) := by decide +kernel
theorem dL_law_228 : decode cL_law 228 = .ok (.iload 10, 2) := by decide +kernel
theorem dL_law_230 : decode cL_law 230 = .ok (.iload 6, 2) := by decide +kernel
theorem dL_law_232 : decode cL_law 232 = .ok (.irem, 1) := by decide +kernel
theorem dL_law_233 : decode cL_law 233 = .ok (.iaload, 1) := by decide +kernel
theorem dL_law_234 : decode cL_law 234 = .ok (.if_icmp .eq 5, 3) := by decide +kernel
theorem dL_law_237 : decode cL_law 237 = .ok (.iconst 0, 1) := by decide +kernel
theorem dL_law_238 : decode cL_law 238 = .ok (.ireturn, 1) := by decide +kernel
theorem dL_law_239 : decode cL_law 239 = .ok (.iinc 10 1, 3) := by decide +kernel
theorem dL_law_242 : decode cL_law 242 = .ok (.goto (-32), 3) := by decide +kernel
theorem dL_law_245 : decode cL_law 245 = .ok (.aload_n 1, 1) := by decide +kernel
theorem dL_law_246 : decode cL_law 246 = .ok (.iconst 4, 1) := by decide +kernel
theorem dL_law_247 : decode cL_law 247 = .ok (.invokevirtual 28, 3) := by decide +kernel
theorem dL_law_250 : decode cL_law 250 = .ok (.istore 10, 2) := by decide +kernel
theorem dL_law_252 : decode cL_law 252 = .ok (.aload_n 1, 1) := by decide +kernel
theorem dL_law_253 : decode cL_law 253 = .ok (.iconst 3, 1) := by decide +kernel
theorem dL_law_254 : decode cL_law 254 = .ok (.invokevirtual 28, 3) := by decide +kernel
theorem dL_law_257 : decode cL_law 257 = .ok (.istore 11, 2) := by decide +kernel
theorem dL_law_259 : decode cL_law 259 = .ok (.iload 10, 2) := by decide +kernel
theorem dL_law_261 : decode cL_law 261 = .ok (.iconst 2, 1) := by decide +kernel
theorem dL_law_262 : decode cL_law 262 = .ok (.if_icmp .lt 87, 3) := by decide +kernel
theorem dL_law_265 : decode cL_law 265 = .ok (.iload 11, 2) := by decide +kernel
theorem dL_law_267 : decode cL_law 267 = .ok (.iconst 3, 1) := by decide +kernel
theorem dL_law_268 : decode cL_law 268 = .ok (.if_icmp .lt 81, 3) := by decide +kernel
theorem dL_law_271 : decode cL_law 271 = .ok (.iload 11, 2) := by decide +kernel
theorem dL_law_273 : decode cL_law 273 = .ok (.bipush 8, 2) := by decide +kernel
theorem dL_law_275 : decode cL_law 275 = .ok (.if_icmp .gt 74, 3) := by decide +kernel
theorem dL_law_278 : decode cL_law 278 = .ok (.aload_n 1, 1) := by decide +kernel
theorem dL_law_279 : decode cL_law 279 = .ok (.iconst 0, 1) := by decide +kernel
theorem dL_law_280 : decode cL_law 280 = .ok (.invokevirtual 28, 3) := by decide +kernel
theorem dL_law_283 : decode cL_law 283 = .ok (.aload_n 1, 1) := by decide +kernel
theorem dL_law_284 : decode cL_law 284 = .ok (.iload 10, 2) := by decide +kernel
theorem dL_law_286 : decode cL_law 286 = .ok (.iload 11, 2) := by decide +kernel
theorem dL_law_288 : decode cL_law 288 = .ok (.invokevirtual 41, 3) := by decide +kernel
theorem dL_law_291 : decode cL_law 291 = .ok (.if_icmp .ge 5, 3) := by decide +kernel
theorem dL_law_294 : decode cL_law 294 = .ok (.iconst 0, 1) := by decide +kernel
theorem dL_law_295 : decode cL_law 295 = .ok (.ireturn, 1) := by decide +kernel
theorem dL_law_296 : decode cL_law 296 = .ok (.iconst 0, 1) := by decide +kernel
theorem dL_law_297 : decode cL_law 297 = .ok (.istore 12, 2) := by decide +kernel
theorem dL_law_299 : decode cL_law 299 = .ok (.iload 12, 2) := by decide +kernel
theorem dL_law_301 : decode cL_law 301 = .ok (.iload_n 3, 1) := by decide +kernel
theorem dL_law_302 : decode cL_law 302 = .ok (.if_icmp .ge 47, 3) := by decide +kernel
theorem dL_law_305 : decode cL_law 305 = .ok (.aload_n 2, 1) := by decide +kernel
theorem dL_law_306 : decode cL_law 306 = .ok (.iload 12, 2) := by decide +kernel
theorem dL_law_308 : decode cL_law 308 = .ok (.aaload, 1) := by decide +kernel
theorem dL_law_309 : decode cL_law 309 = .ok (.iconst 0, 1) := by decide +kernel
theorem dL_law_310 : decode cL_law 310 = .ok (.iaload, 1) := by decide +kernel
theorem dL_law_311 : decode cL_law 311 = .ok (.aload_n 1, 1) := by decide +kernel
theorem dL_law_312 : decode cL_law 312 = .ok (.iconst 0, 1) := by decide +kernel
theorem dL_law_313 : decode cL_law 313 = .ok (.invokevirtual 28, 3) := by decide +kernel
theorem dL_law_316 : decode cL_law 316 = .ok (.if_icmp .ne 27, 3) := by decide +kernel
theorem dL_law_319 : decode cL_law 319 = .ok (.aload_n 2, 1) := by decide +kernel
theorem dL_law_320 : decode cL_law 320 = .ok (.iload 12, 2) := by decide +kernel
theorem dL_law_322 : decode cL_law 322 = .ok (.aaload, 1) := by decide +kernel
theorem dL_law_323 : decode cL_law 323 = .ok (.iconst 1, 1) := by decide +kernel
theorem dL_law_324 : decode cL_law 324 = .ok (.iaload, 1) := by decide +kernel
theorem dL_law_325 : decode cL_law 325 = .ok (.iload 10, 2) := by decide +kernel
theorem dL_law_327 : decode cL_law 327 = .ok (.if_icmp .ne 16, 3) := by decide +kernel
theorem dL_law_330 : decode cL_law 330 = .ok (.aload_n 2, 1) := by decide +kernel
theorem dL_law_331 : decode cL_law 331 = .ok (.iload 12, 2) := by decide +kernel
theorem dL_law_333 : decode cL_law 333 = .ok (.aaload, 1) := by decide +kernel
theorem dL_law_334 : decode cL_law 334 = .ok (.iconst 2, 1) := by decide +kernel
theorem dL_law_335 : decode cL_law 335 = .ok (.iaload, 1) := by decide +kernel
theorem dL_law_336 : decode cL_law 336 = .ok (.iload 11, 2) := by decide +kernel
theorem dL_law_338 : decode cL_law 338 = .ok (.if_icmp .gt 5, 3) := by decide +kernel
theorem dL_law_341 : decode cL_law 341 = .ok (.iconst 0, 1) := by decide +kernel
theorem dL_law_342 : decode cL_law 342 = .ok (.ireturn, 1) := by decide +kernel
theorem dL_law_343 : decode cL_law 343 = .ok (.iinc 12 1, 3) := by decide +kernel
theorem dL_law_346 : decode cL_law 346 = .ok (.goto (-47), 3) := by decide +kernel
theorem dL_law_349 : decode cL_law 349 = .ok (.iload 4, 2) := by decide +kernel
theorem dL_law_351 : decode cL_law 351 = .ok (.bipush 13, 2) := by decide +kernel
theorem dL_law_353 : decode cL_law 353 = .ok (.irem, 1) := by decide +kernel
theorem dL_law_354 : decode cL_law 354 = .ok (.bipush 12, 2) := by decide +kernel
theorem dL_law_356 : decode cL_law 356 = .ok (.if_icmp .ne 28, 3) := by decide +kernel
theorem dL_law_359 : decode cL_law 359 = .ok (.aload_n 1, 1) := by decide +kernel
theorem dL_law_360 : decode cL_law 360 = .ok (.invokevirtual 44, 3) := by decide +kernel
theorem dL_law_363 : decode cL_law 363 = .ok (.lstore 12, 2) := by decide +kernel
theorem dL_law_365 : decode cL_law 365 = .ok (.aload_n 1, 1) := by decide +kernel
theorem dL_law_366 : decode cL_law 366 = .ok (.invokevirtual 48, 3) := by decide +kernel
theorem dL_law_369 : decode cL_law 369 = .ok (.ifCond .eq 13, 3) := by decide +kernel
theorem dL_law_372 : decode cL_law 372 = .ok (.aload_n 1, 1) := by decide +kernel
theorem dL_law_373 : decode cL_law 373 = .ok (.invokevirtual 44, 3) := by decide +kernel
theorem dL_law_376 : decode cL_law 376 = .ok (.lload 12, 2) := by decide +kernel
theorem dL_law_378 : decode cL_law 378 = .ok (.lcmp, 1) := by decide +kernel
theorem dL_law_379 : decode cL_law 379 = .ok (.ifCond .eq 5, 3) := by decide +kernel
theorem dL_law_382 : decode cL_law 382 = .ok (.iconst 0, 1) := by decide +kernel
theorem dL_law_383 : decode cL_law 383 = .ok (.ireturn, 1) := by decide +kernel
theorem dL_law_384 : decode cL_law 384 = .ok (.iinc 4 1, 3) := by decide +kernel
theorem dL_law_387 : decode cL_law 387 = .ok (.goto (-351), 3) := by decide +kernel
theorem dL_law_390 : decode cL_law 390 = .ok (.iconst 1, 1) := by decide +kernel
theorem dL_law_391 : decode cL_law 391 = .ok (.ireturn, 1) := by decide +kernel
theorem dL_act_0 : decode cL_act 0 = .ok (.iload_n 2, 1) := by decide +kernel
theorem dL_act_1 : decode cL_act 1 = .ok (.tableswitch 296 0 10 #[59, 76, 76, 76, 110, 136, 162, 198, 230, 254, 254], 59) := by decide +kernel
theorem dL_act_60 : decode cL_act 60 = .ok (.aload_n 0, 1) := by decide +kernel
theorem dL_act_61 : decode cL_act 61 = .ok (.iconst 3, 1) := by decide +kernel
theorem dL_act_62 : decode cL_act 62 = .ok (.iload_n 1, 1) := by decide +kernel
theorem dL_act_63 : decode cL_act 63 = .ok (.iconst 3, 1) := by decide +kernel
theorem dL_act_64 : decode cL_act 64 = .ok (.ishr, 1) := by decide +kernel
theorem dL_act_65 : decode cL_act 65 = .ok (.bipush 7, 2) := by decide +kernel
theorem dL_act_67 : decode cL_act 67 = .ok (.invokestatic 18, 3) := by decide +kernel
theorem dL_act_70 : decode cL_act 70 = .ok (.iadd, 1) := by decide +kernel
theorem dL_act_71 : decode cL_act 71 = .ok (.invokevirtual 22, 3) := by decide +kernel
theorem dL_act_74 : decode cL_act 74 = .ok (.pop, 1) := by decide +kernel
theorem dL_act_75 : decode cL_act 75 = .ok (.iconst 0, 1) := by decide +kernel
theorem dL_act_76 : decode cL_act 76 = .ok (.ireturn, 1) := by decide +kernel
theorem dL_act_77 : decode cL_act 77 = .ok (.aload_n 0, 1) := by decide +kernel
theorem dL_act_78 : decode cL_act 78 = .ok (.iload_n 1, 1) := by decide +kernel
theorem dL_act_79 : decode cL_act 79 = .ok (.iload_n 3, 1) := by decide +kernel
theorem dL_act_80 : decode cL_act 80 = .ok (.invokestatic 18, 3) := by decide +kernel
theorem dL_act_83 : decode cL_act 83 = .ok (.iload_n 1, 1) := by decide +kernel
theorem dL_act_84 : decode cL_act 84 = .ok (.iconst 3, 1) := by decide +kernel
theorem dL_act_85 : decode cL_act 85 = .ok (.ishr, 1) := by decide +kernel
theorem dL_act_86 : decode cL_act 86 = .ok (.iload_n 3, 1) := by decide +kernel
theorem dL_act_87 : decode cL_act 87 = .ok (.invokestatic 18, 3) := by decide +kernel
theorem dL_act_90 : decode cL_act 90 = .ok (.iload_n 1, 1) := by decide +kernel
theorem dL_act_91 : decode cL_act 91 = .ok (.iconst 5, 1) := by decide +kernel
theorem dL_act_92 : decode cL_act 92 = .ok (.ishr, 1) := by decide +kernel
theorem dL_act_93 : decode cL_act 93 = .ok (.iconst 4, 1) := by decide +kernel
theorem dL_act_94 : decode cL_act 94 = .ok (.invokestatic 18, 3) := by decide +kernel
theorem dL_act_97 : decode cL_act 97 = .ok (.ifCond .le 7, 3) := by decide +kernel
theorem dL_act_100 : decode cL_act 100 = .ok (.iconst 1, 1) := by decide +kernel
theorem dL_act_101 : decode cL_act 101 = .ok (.goto 4, 3) := by decide +kernel
theorem dL_act_104 : decode cL_act 104 = .ok (.iconst 0, 1) := by decide +kernel
theorem dL_act_105 : decode cL_act 105 = .ok (.invokevirtual 52, 3) := by decide +kernel
theorem dL_act_108 : decode cL_act 108 = .ok (.pop, 1) := by decide +kernel
theorem dL_act_109 : decode cL_act 109 = .ok (.iconst 0, 1) := by decide +kernel
theorem dL_act_110 : decode cL_act 110 = .ok (.ireturn, 1) := by decide +kernel
theorem dL_act_111 : decode cL_act 111 = .ok (.aload_n 0, 1) := by decide +kernel
theorem dL_act_112 : decode cL_act 112 = .ok (.iconst 3, 1) := by decide +kernel
theorem dL_act_113 : decode cL_act 113 = .ok (.iload_n 1, 1) := by decide +kernel
theorem dL_act_114 : decode cL_act 114 = .ok (.bipush 8, 2) := by decide +kernel
theorem dL_act_116 : decode cL_act 116 = .ok (.invokestatic 18, 3) := by decide +kernel
theorem dL_act_119 : decode cL_act 119 = .ok (.iadd, 1) := by decide +kernel
theorem dL_act_120 : decode cL_act 120 = .ok (.iconst 2, 1) := by decide +kernel
theorem dL_act_121 : decode cL_act 121 = .ok (.iconst 4, 1) := by decide +kernel
theorem dL_act_122 : decode cL_act 122 = .ok (.iload_n 1, 1) := by decide +kernel
theorem dL_act_123 : decode cL_act 123 = .ok (.iconst 3, 1) := by decide +kernel
theorem dL_act_124 : decode cL_act 124 = .ok (.ishr, 1) := by decide +kernel
theorem dL_act_125 : decode cL_act 125 = .ok (.iconst 4, 1) := by decide +kernel
theorem dL_act_126 : decode cL_act 126 = .ok (.invokestatic 18, 3) := by decide +kernel
theorem dL_act_129 : decode cL_act 129 = .ok (.imul, 1) := by decide +kernel
theorem dL_act_130 : decode cL_act 130 = .ok (.iadd, 1) := by decide +kernel
theorem dL_act_131 : decode cL_act 131 = .ok (.invokevirtual 56, 3) := by decide +kernel
theorem dL_act_134 : decode cL_act 134 = .ok (.pop, 1) := by decide +kernel
theorem dL_act_135 : decode cL_act 135 = .ok (.iconst 0, 1) := by decide +kernel
theorem dL_act_136 : decode cL_act 136 = .ok (.ireturn, 1) := by decide +kernel
theorem dL_act_137 : decode cL_act 137 = .ok (.aload_n 0, 1) := by decide +kernel
theorem dL_act_138 : decode cL_act 138 = .ok (.iload_n 1, 1) := by decide +kernel
theorem dL_act_139 : decode cL_act 139 = .ok (.iconst 3, 1) := by decide +kernel
theorem dL_act_140 : decode cL_act 140 = .ok (.ishr, 1) := by decide +kernel
theorem dL_act_141 : decode cL_act 141 = .ok (.iconst 1, 1) := by decide +kernel
theorem dL_act_142 : decode cL_act 142 = .ok (.bipush 20, 2) := by decide +kernel
theorem dL_act_144 : decode cL_act 144 = .ok (.aload_n 0, 1) := by decide +kernel
theorem dL_act_145 : decode cL_act 145 = .ok (.iconst 1, 1) := by decide +kernel
theorem dL_act_146 : decode cL_act 146 = .ok (.invokevirtual 28, 3) := by decide +kernel
theorem dL_act_149 : decode cL_act 149 = .ok (.invokestatic 59, 3) := by decide +kernel
theorem dL_act_152 : decode cL_act 152 = .ok (.ishl, 1) := by decide +kernel
theorem dL_act_153 : decode cL_act 153 = .ok (.invokestatic 18, 3) := by decide +kernel
theorem dL_act_156 : decode cL_act 156 = .ok (.invokevirtual 64, 3) := by decide +kernel
theorem dL_act_159 : decode cL_act 159 = .ok (.pop, 1) := by decide +kernel
theorem dL_act_160 : decode cL_act 160 = .ok (.bipush 7, 2) := by decide +kernel
theorem dL_act_162 : decode cL_act 162 = .ok (.ireturn, 1) := by decide +kernel
theorem dL_act_163 : decode cL_act 163 = .ok (.aload_n 0, 1) := by decide +kernel
theorem dL_act_164 : decode cL_act 164 = .ok (.iload_n 1, 1) := by decide +kernel
theorem dL_act_165 : decode cL_act 165 = .ok (.bipush 12, 2) := by decide +kernel
theorem dL_act_167 : decode cL_act 167 = .ok (.invokestatic 18, 3) := by decide +kernel
theorem dL_act_170 : decode cL_act 170 = .ok (.iload_n 1, 1) := by decide +kernel
theorem dL_act_171 : decode cL_act 171 = .ok (.iconst 3, 1) := by decide +kernel
theorem dL_act_172 : decode cL_act 172 = .ok (.ishr, 1) := by decide +kernel
theorem dL_act_173 : decode cL_act 173 = .ok (.bipush 12, 2) := by decide +kernel
theorem dL_act_175 : decode cL_act 175 = .ok (.invokestatic 18, 3) := by decide +kernel
theorem dL_act_178 : decode cL_act 178 = .ok (.iload_n 1, 1) := by decide +kernel
theorem dL_act_179 : decode cL_act 179 = .ok (.iconst 5, 1) := by decide +kernel
theorem dL_act_180 : decode cL_act 180 = .ok (.ishr, 1) := by decide +kernel
theorem dL_act_181 : decode cL_act 181 = .ok (.iconst 2, 1) := by decide +kernel
theorem dL_act_182 : decode cL_act 182 = .ok (.invokestatic 18, 3) := by decide +kernel
theorem dL_act_185 : decode cL_act 185 = .ok (.ifCond .ne 7, 3) := by decide +kernel
theorem dL_act_188 : decode cL_act 188 = .ok (.iconst 1, 1) := by decide +kernel
theorem dL_act_189 : decode cL_act 189 = .ok (.goto 4, 3) := by decide +kernel
theorem dL_act_192 : decode cL_act 192 = .ok (.iconst 0, 1) := by decide +kernel
theorem dL_act_193 : decode cL_act 193 = .ok (.invokevirtual 67, 3) := by decide +kernel
theorem dL_act_196 : decode cL_act 196 = .ok (.pop, 1) := by decide +kernel
theorem dL_act_197 : decode cL_act 197 = .ok (.iconst 0, 1) := by decide +kernel
theorem dL_act_198 : decode cL_act 198 = .ok (.ireturn, 1) := by decide +kernel
theorem dL_act_199 : decode cL_act 199 = .ok (.aload_n 0, 1) := by decide +kernel
theorem dL_act_200 : decode cL_act 200 = .ok (.iconst 4, 1) := by decide +kernel
theorem dL_act_201 : decode cL_act 201 = .ok (.iload_n 1, 1) := by decide +kernel
theorem dL_act_202 : decode cL_act 202 = .ok (.iconst 5, 1) := by decide +kernel
theorem dL_act_203 : decode cL_act 203 = .ok (.invokestatic 18, 3) := by decide +kernel
theorem dL_act_206 : decode cL_act 206 = .ok (.iadd, 1) := by decide +kernel
theorem dL_act_207 : decode cL_act 207 = .ok (.iload_n 1, 1) := by decide +kernel
theorem dL_act_208 : decode cL_act 208 = .ok (.iconst 2, 1) := by decide +kernel
theorem dL_act_209 : decode cL_act 209 = .ok (.ishr, 1) := by decide +kernel
theorem dL_act_210 : decode cL_act 210 = .ok (.sipush 9999, 3) := by decide +kernel
theorem dL_act_213 : decode cL_act 213 = .ok (.invokestatic 18, 3) := by decide +kernel
theorem dL_act_216 : decode cL_act 216 = .ok (.iconst 1, 1) := by decide +kernel
theorem dL_act_217 : decode cL_act 217 = .ok (.iload_n 1, 1) := by decide +kernel
theorem dL_act_218 : decode cL_act 218 = .ok (.iconst 4, 1) := by decide +kernel
theorem dL_act_219 : decode cL_act 219 = .ok (.ishr, 1) := by decide +kernel
theorem dL_act_220 : decode cL_act 220 = .ok (.iconst 4, 1) := by decide +kernel
theorem dL_act_221 : decode cL_act 221 = .ok (.invokestatic 18, 3) := by decide +kernel
theorem dL_act_224 : decode cL_act 224 = .ok (.iadd, 1) := by decide +kernel
theorem dL_act_225 : decode cL_act 225 = .ok (.invokevirtual 70, 3) := by decide +kernel
theorem dL_act_228 : decode cL_act 228 = .ok (.pop, 1) := by decide +kernel
theorem dL_act_229 : decode cL_act 229 = .ok (.iconst 0, 1) := by decide +kernel
theorem dL_act_230 : decode cL_act 230 = .ok (.ireturn, 1) := by decide +kernel
theorem dL_act_231 : decode cL_act 231 = .ok (.aload_n 0, 1) := by decide +kernel
theorem dL_act_232 : decode cL_act 232 = .ok (.iconst 2, 1) := by decide +kernel
theorem dL_act_233 : decode cL_act 233 = .ok (.iload_n 1, 1) := by decide +kernel
theorem dL_act_234 : decode cL_act 234 = .ok (.iconst 4, 1) := by decide +kernel
theorem dL_act_235 : decode cL_act 235 = .ok (.invokestatic 18, 3) := by decide +kernel
theorem dL_act_238 : decode cL_act 238 = .ok (.iadd, 1) := by decide +kernel
theorem dL_act_239 : decode cL_act 239 = .ok (.iconst 3, 1) := by decide +kernel
theorem dL_act_240 : decode cL_act 240 = .ok (.iload_n 1, 1) := by decide +kernel
theorem dL_act_241 : decode cL_act 241 = .ok (.iconst 3, 1) := by decide +kernel
theorem dL_act_242 : decode cL_act 242 = .ok (.ishr, 1) := by decide +kernel
theorem dL_act_243 : decode cL_act 243 = .ok (.bipush 6, 2) := by decide +kernel
theorem dL_act_245 : decode cL_act 245 = .ok (.invokestatic 18, 3) := by decide +kernel
theorem dL_act_248 : decode cL_act 248 = .ok (.iadd, 1) := by decide +kernel
theorem dL_act_249 : decode cL_act 249 = .ok (.invokevirtual 74, 3) := by decide +kernel
theorem dL_act_252 : decode cL_act 252 = .ok (.pop, 1) := by decide +kernel
theorem dL_act_253 : decode cL_act 253 = .ok (.iconst 0, 1) := by decide +kernel
theorem dL_act_254 : decode cL_act 254 = .ok (.ireturn, 1) := by decide +kernel
theorem dL_act_255 : decode cL_act 255 = .ok (.aload_n 0, 1) := by decide +kernel
theorem dL_act_256 : decode cL_act 256 = .ok (.iconst 5, 1) := by decide +kernel
theorem dL_act_257 : decode cL_act 257 = .ok (.invokevirtual 38, 3) := by decide +kernel
theorem dL_act_260 : decode cL_act 260 = .ok (.ifCond .ne 7, 3) := by decide +kernel
theorem dL_act_263 : decode cL_act 263 = .ok (.iconst 1, 1) := by decide +kernel
theorem dL_act_264 : decode cL_act 264 = .ok (.goto 4, 3) := by decide +kernel
theorem dL_act_267 : decode cL_act 267 = .ok (.iconst 0, 1) := by decide +kernel
theorem dL_act_268 : decode cL_act 268 = .ok (.istore 4, 2) := by decide +kernel
theorem dL_act_270 : decode cL_act 270 = .ok (.aload_n 0, 1) := by decide +kernel
theorem dL_act_271 : decode cL_act 271 = .ok (.iconst 1, 1) := by decide +kernel
theorem dL_act_272 : decode cL_act 272 = .ok (.iload_n 1, 1) := by decide +kernel
theorem dL_act_273 : decode cL_act 273 = .ok (.bipush 60, 2) := by decide +kernel
theorem dL_act_275 : decode cL_act 275 = .ok (.invokestatic 18, 3) := by decide +kernel
theorem dL_act_278 : decode cL_act 278 = .ok (.iadd, 1) := by decide +kernel
theorem dL_act_279 : decode cL_act 279 = .ok (.invokevirtual 77, 3) := by decide +kernel
theorem dL_act_282 : decode cL_act 282 = .ok (.iconst 2, 1) := by decide +kernel
theorem dL_act_283 : decode cL_act 283 = .ok (.if_icmp .ne 12, 3) := by decide +kernel
theorem dL_act_286 : decode cL_act 286 = .ok (.iload 4, 2) := by decide +kernel
theorem dL_act_288 : decode cL_act 288 = .ok (.ifCond .eq 7, 3) := by decide +kernel
theorem dL_act_291 : decode cL_act 291 = .ok (.iconst 2, 1) := by decide +kernel
theorem dL_act_292 : decode cL_act 292 = .ok (.goto 4, 3) := by decide +kernel
theorem dL_act_295 : decode cL_act 295 = .ok (.iconst 0, 1) := by decide +kernel
theorem dL_act_296 : decode cL_act 296 = .ok (.ireturn, 1) := by decide +kernel
theorem dL_act_297 : decode cL_act 297 = .ok (.iload_n 1, 1) := by decide +kernel
theorem dL_act_298 : decode cL_act 298 = .ok (.iconst 2, 1) := by decide +kernel
theorem dL_act_299 : decode cL_act 299 = .ok (.invokestatic 18, 3) := by decide +kernel
theorem dL_act_302 : decode cL_act 302 = .ok (.ifCond .ne 11, 3) := by decide +kernel
theorem dL_act_305 : decode cL_act 305 = .ok (.aload_n 0, 1) := by decide +kernel
theorem dL_act_306 : decode cL_act 306 = .ok (.invokevirtual 80, 3) := by decide +kernel
theorem dL_act_309 : decode cL_act 309 = .ok (.pop, 1) := by decide +kernel
theorem dL_act_310 : decode cL_act 310 = .ok (.goto 15, 3) := by decide +kernel
theorem dL_act_313 : decode cL_act 313 = .ok (.aload_n 0, 1) := by decide +kernel
theorem dL_act_314 : decode cL_act 314 = .ok (.iload_n 1, 1) := by decide +kernel
theorem dL_act_315 : decode cL_act 315 = .ok (.iconst 2, 1) := by decide +kernel
theorem dL_act_316 : decode cL_act 316 = .ok (.ishr, 1) := by decide +kernel
theorem dL_act_317 : decode cL_act 317 = .ok (.iconst 3, 1) := by decide +kernel
theorem dL_act_318 : decode cL_act 318 = .ok (.invokestatic 18, 3) := by decide +kernel
theorem dL_act_321 : decode cL_act 321 = .ok (.invokevirtual 84, 3) := by decide +kernel
theorem dL_act_324 : decode cL_act 324 = .ok (.pop, 1) := by decide +kernel
theorem dL_act_325 : decode cL_act 325 = .ok (.iconst 0, 1) := by decide +kernel
theorem dL_act_326 : decode cL_act 326 = .ok (.ireturn, 1) := by decide +kernel
theorem dL_act_327 : decode cL_act 327 = .ok (.astore 4, 2) := by decide +kernel
end
section
theorem dL_act_329 : decode cL_act 329 = .ok (.iconst 0, 1) := by decide +kernel
theorem dL_act_330 : decode cL_act 330 = .ok (.ireturn, 1) := by decide +kernel
theorem dL_act_331 : decode cL_act 331 = .ok (.astore 4, 2) := by decide +kernel
theorem dL_act_333 : decode cL_act 333 = .ok (.iconst 0, 1) := by decide +kernel
theorem dL_act_334 : decode cL_act 334 = .ok (.ireturn, 1) := by decide +kernel
theorem dL_act_335 : decode cL_act 335 = .ok (.astore 4, 2) := by decide +kernel
theorem dL_act_337 : decode cL_act 337 = .ok (.iconst 0, 1) := by decide +kernel
theorem dL_act_338 : decode cL_act 338 = .ok (.ireturn, 1) := by decide +kernel
end
section
/-! The class's worlds, the words of its nest, contracts that change nothing (printed by wip/gen/pre.py) -/
abbrev kCl : List vw_C := [(RX0, TX0, 11), (RX1, TX1, 2), (RX2, TX2, 4), (RX3, TX3, 2), (RX4, TX4, 1), (RX6, TX6, 10)]
abbrev kT (cI cN : ClassId) : List (ClassId × FieldType) := [(cI, .int), (cN, .object "Shortring$Net")]
def kNM : List (String × Nat × MethodName) := [(RX6, 11, yX3_init), (RX6, 25, yX0_init), (RX6, 32, yX1_init), (RX6, 39, yX2_init), (RX6, 46, yX4_init), (RX6, 76, yX3_lay), (RX6, 80, yX0_end), (RX6, 83, yX1_look), (RX6, 87, yX3_isKnot), (RX6, 98, yX3_isNear), (RX6, 102, yX3_countOf), (RX6, 111, yX3_join), (RX6, 115, yX3_loosen), (RX6, 130, yX3_edgesInAll), (RX6, 144, yX3_take), (RX6, 147, yX5_leastRing), (RX6, 153, yX3_edgeAt), (RX6, 185, yX0_begin), (RX6, 188, yX1_why), (RX6, 202, yX0_step), (RX6, 211, yX1_prove), (RX6, 226, yX0_nextKnot), (RX6, 229, yX0_partnerOf), (RX6, 235, yX5_partsInAll), (RX6, 238, yX3_evenCount), (RX6, 241, yX5_width), (RX6, 244, yX4_fewest), (RX6, 247, yX2_turnsOf), (RX6, 250, yX3_loneliest), (RX6, 255, yX3_nearOf), (RX6, 258, yX5_partNumber), (RX6, 261, yX5_leastRingAt), (RX6, 264, yX5_greatestDistance), (RX6, 267, yX0_joinable), (RX6, 283, yX5_leastRingBy), (RX6, 298, yX1_leastKnots), (RX6, 303, yX1_nextOf), (RX6, 306, yX1_smallestOf), (RX6, 317, yX2_areAlike), (RX6, 340, yX3_isMutual), (RX6, 350, yX1_isTableSound), (RX0, 64, yX6_pairOf), (RX0, 71, yX3_join), (RX0, 77, yX6_oneOf), (RX0, 81, yX6_otherOf), (RX0, 84, yX3_loosen), (RX0, 93, yX6_bit), (RX0, 99, yX3_countOf), (RX0, 102, yX6_holds), (RX0, 106, yX5_within), (RX0, 123, yX6_firstOf), (RX1, 26, yX6_isWithin), (RX1, 32, yX3_evenCount), (RX1, 38, yX5_leastRing), (RX2, 11, yX3_init), (RX2, 32, yX3_take), (RX2, 36, yX6_holds), (RX2, 40, yX5_partWith), (RX2, 59, yX3_edgesInAll), (RX2, 63, yX6_bit), (RX2, 89, yX3_nearOf), (RX3, 23, yX6_holds), (RX3, 36, yX6_bit), (RX3, 46, yX6_pairOf), (RX3, 49, yX6_firstOf), (RX4, 21, yX6_holds), (RX4, 25, yX5_partWith), (RX4, 49, yX3_nearOf), (RX4, 53, yX6_bit), (RX5, 15, yX3_nearOf), (RX5, 20, yX6_bit), (RX5, 37, yX6_holds), (RX5, 57, yX3_isNear), (RX5, 63, yX6_lesser)]
def kNF : List (String × Nat × String × String × String) := [(RX6, 73, "Shortring$Net", "knots", "I"), (RX6, 193, "Shortring$Hunt", "isOn", "Z"), (RX6, 199, "Shortring$Hunt", "state", "I"), (RX6, 205, "Shortring$Hunt", "count", "I"), (RX6, 208, "Shortring$Hunt", "length", "I"), (RX6, 217, "Shortring$Hunt", "putMany", "I"), (RX6, 220, "Shortring$Hunt", "barMany", "I"), (RX6, 223, "Shortring$Hunt", "steps", "I"), (RX0, 96, "Shortring$Net", "knots", "I"), (RX1, 47, "Shortring$Net", "knots", "I"), (RX2, 29, "Shortring$Net", "knots", "I"), (RX4, 15, "Shortring$Net", "knots", "I"), (RX5, 33, "Shortring$Net", "knots", "I")]
def kN (U : State) : Prop := (∀ (i : Nat) (q : String × Nat × MethodName), kNM[i]? = some q → va_Nw (.methodLinkNest q.1 q.2.1 q.2.2 "Shortring") U) ∧ (∀ (i : Nat) (q : String × Nat × String × String × String), kNF[i]? = some q → va_Nw (.fieldLinkNest q.1 q.2.1 q.2.2.1 q.2.2.2.1 q.2.2.2.2 "Shortring") U)
theorem kN_warm {s U : State} (hW : s.WarmedH U.vm) (h : kN s) : kN U := ⟨fun i q e => va_Nw.warmM hW (h.1 i q e), fun i q e => va_Nw.warmF hW (h.2 i q e)⟩
theorem kN_same {u U : State} (e : u.vm = U.vm) (h : kN u) : kN U := ⟨fun i q e1 => va_Nw.same rfl e (h.1 i q e1), fun i q e1 => va_Nw.same rfl e (h.2 i q e1)⟩
/-- a world of the class's objects, its tables, its nest's words -/
def kW (dC : Nat → ClassId) (dI : Nat → Nat → Nat) (cI cN : ClassId) (ws : va_W) (U : State) : Prop := va_P (dC, dI) kCl ws U.heap ∧ va_K (dC, dI) kCl (kT cI cN) U ∧ va_D (fun _ => True) ws ∧ kN U
theorem kW_blind {dC : Nat → ClassId} {dI : Nat → Nat → Nat} {cI cN : ClassId} {ws : va_W} {As : List Value} : FrameBlind (va_Pc As (kW dC dI cI cN ws)) :=
  fun a U g mk q => ⟨q.1, q.2.1, va_K.moved (u := U) (U := U.calling g mk a) (Vm.Alike.refl U.vm) q.2.2.1, q.2.2.2.1, kN_same (u := U) rfl q.2.2.2.2⟩
theorem kW_S {dC : Nat → ClassId} {dI : Nat → Nat → Nat} {cI cN : ClassId} {W wc : va_W} {A : Nat → Prop} {H : Heap} {s : State} {As : List Value} (hP : va_P (dC, dI) kCl W H) (hK : va_K (dC, dI) kCl (kT cI cN) s) (hD : va_D A W) (hN : kN s)
    (is : List Nat) (h0 : va_nd is = true) (h1 : is.filterMap (fun i => W[i]?) = wc) (h2 : is.map (fun i => W[i]?) = wc.map some) : PreS s H (va_Pc As (kW dC dI cI cN wc)) As :=
  ⟨kW_blind, fun U hU hW => ⟨rfl, by rw [hU]; exact hP.sub is h1, va_K.moved hW.alike hK, (hD.sub is h0 h2).weaken (fun _ _ _ _ => trivial), kN_warm hW hN⟩⟩
theorem kW_V {dC : Nat → ClassId} {dI : Nat → Nat → Nat} {cI cN : ClassId} {W wc : va_W} {A : Nat → Prop} {H : Heap} {s : State} {b q0 ci : Nat} {q : vw_C} {fs : List Value} {As : List Value} (hP : va_P (dC, dI) kCl W H) (hK : va_K (dC, dI) kCl (kT cI cN) s) (hD : va_D A W) (hN : kN s)
    (hc : kCl[ci]? = some q) (he : W[q0]? = some (b, .inr (ci, fs))) (is : List Nat) (h0 : va_nd is = true) (h1 : is.filterMap (fun i => W[i]?) = wc) (h2 : is.map (fun i => W[i]?) = wc.map some) : PreV s H q.1 b (va_Pc (.ref b :: As) (kW dC dI cI cN wc)) As :=
  ⟨kW_blind, va_recv hK hP hc he, fun U hU hW => ⟨rfl, by rw [hU]; exact hP.sub is h1, va_K.moved hW.alike hK, (hD.sub is h0 h2).weaken (fun _ _ _ _ => trivial), kN_warm hW hN⟩⟩
/-- the end of a method that answers v and changes nothing -/
def kR (v : Int32) : Array Value → State → Outcome → State → Prop := va_Qi (fun (r : Int32) (_ : Unit) => r = v) (fun _ _ => True) (fun _ => False)
theorem kR_end {v r : Int32} {a : Array Value} {s t : State} {H : Heap} {locs : List Loc} (h : r = v) (hS : va_S (fun _ => False) s.heap H locs) (ht : t.heap = H) : kR v a s (.returned (some (.int r))) t := ⟨⟨r, (), rfl, h, trivial⟩, hS.F ht⟩
theorem kP_kept {D : va_G} {cl : List vw_C} {ws : va_W} {H H1 : Heap} (h : va_P D cl ws H) (hk : ∀ q : Nat, q < H.size → ¬ False → H1[q]? = H[q]?) : va_P D cl ws H1 := h.kept (fun k q hq => hk q.1 (h k q hq).lt (fun x => x))
section KCALL
variable {p : Program} {l : Launch} {e : Env} {R : Room} {s : State} {m : MethodId} {args : Array Value} {below : List Frame} {meth : Method} {c : Code} {H : Heap} {locs : List Loc} {cells slots : Nat} {Q : State → Prop}
variable {pc : Nat} {ls : Array Slot} {rest st0 : List Value} {D : va_G} {cl : List vw_C} {A0 : Nat → Prop} {ws : va_W} {H0 : Heap} {a : Array Value}
/-- behind a call that changes nothing -/
theorem kCall {v : Int32} (hr : va_Run p l e R s m args below meth c H locs cells slots 0 0 (F0 m pc ls st0) rest (kR v a) (fun _ => False)) (hP : va_P D cl ws H) (hS : va_S A0 H0 H locs)
    (kk : ∀ (H1 : Heap) (locs1 : List Loc), va_P D cl ws H1 → va_S A0 H0 H1 locs1 → W p l e R s m args below meth c H1 locs1 cells slots Q (F0 m (pc + 3) ls (.int v :: rest))) : W p l e R s m args below meth c H locs cells slots Q (F0 m pc ls st0) :=
  va_calli (A1 := fun _ => False) hr hS (fun _ _ h => h.elim) (fun _ h => h.elim) (fun r u t H1 locs1 _ _ hp _ _ hk hS1 => by subst hp; exact kk H1 locs1 (kP_kept hP hk) hS1)
theorem kRen {x y : Int32} (h : x = y) (kk : W p l e R s m args below meth c H locs cells slots Q (F0 m pc ls (.int y :: rest))) : W p l e R s m args below meth c H locs cells slots Q (F0 m pc ls (.int x :: rest)) := h ▸ kk
end KCALL
/-- a value that gets a name -/
def bd {α β : Type} (x : α) (f : α → β) : β := f x
theorem bd_to {α β : Type} {x y : α} {f : α → β} {z : β} (h : bd x f = z) (e : y = x) : f y = z := by subst e; exact h
theorem if_to {c : Prop} [Decidable c] {α : Type} {a b z : α} (h : (if c then a else b) = z) (hc : c) : a = z := (if_pos hc).symm.trans h
theorem if_no {c : Prop} [Decidable c] {α : Type} {a b z : α} (h : (if c then a else b) = z) (hc : ¬ c) : b = z := (if_neg hc).symm.trans h
theorem kIn {k : Int32} {n : Nat} {N : Int32} (hN : N.toInt = n) (h0 : ¬ k < 0) (h1 : ¬ N ≤ k) : vp_in k n := by
  rw [vp_in_iff]
  have a0 : ¬ k.toInt < (0 : Int32).toInt := fun q => h0 (Int32.lt_iff_toInt_lt.mpr q)
  have a1 : ¬ N.toInt ≤ k.toInt := fun q => h1 (Int32.le_iff_toInt_le.mpr q)
  have z0 : (0 : Int32).toInt = 0 := by decide
  omega
theorem kIn2 {k : Int32} {n : Nat} {N : Int32} (hN : N.toInt = n) (h0 : 0 ≤ k) (h1 : k < N) : vp_in k n := by
  rw [vp_in_iff]
  have a0 : (0 : Int32).toInt ≤ k.toInt := Int32.le_iff_toInt_le.mp h0
  have a1 : k.toInt < N.toInt := Int32.lt_iff_toInt_lt.mp h1
  have z0 : (0 : Int32).toInt = 0 := by decide
  omega
theorem kTop {i N : Nat} {x : Int32} (hx : x = nI N) (h : i = N) : x ≤ nI i := by subst h; rw [hx]; exact Int32.le_refl _
theorem kLow {i N : Nat} {x : Int32} (hx : x = nI N) (h : i < N) (hN : N < 2 ^ 31) : ¬ x ≤ nI i := by rw [hx]; exact nI_ge h hN
theorem kTopG {i N : Nat} {x : Int32} (hx : x = nI (N - 1)) (h : i = N) (hN : 0 < N ∧ N < 2 ^ 31) : x < nI i := by rw [hx]; exact nI_lt (by omega) (by omega)
theorem kLowG {i N : Nat} {x : Int32} (hx : x = nI (N - 1)) (h : i < N) (hN : N < 2 ^ 31) : ¬ x < nI i := by rw [hx]; exact nI_nlt (by omega) (by omega)
theorem kBool {v : Int32} (h : v = 0 ∨ v = 1) : narrow .boolean (.int v) = .int v := by rcases h with rfl | rfl <;> rfl
theorem fb_rngK (x : Int32) : -2147483648 ≤ x.toInt ∧ x.toInt < 2147483648 := by
  have h1 := Int32.le_toInt x
  have h2 := Int32.toInt_lt x
  omega
theorem kTopC {i : Nat} {x : Int32} (h : i = x.toNatClampNeg) : x ≤ nI i := by
  have hb := fb_rngK x
  have hc : x.toNatClampNeg = x.toInt.toNat := rfl
  refine Int32.le_iff_toInt_le.mpr ?_
  rw [nI_toInt (by omega)]
  omega
theorem kLowC {i : Nat} {x : Int32} (h : i < x.toNatClampNeg) : ¬ x ≤ nI i := fun q => by
  have hb := fb_rngK x
  have hc : x.toNatClampNeg = x.toInt.toNat := rfl
  have h1 := Int32.le_iff_toInt_le.mp q
  rw [nI_toInt (by omega)] at h1
  omega
theorem kNe {K : Nat} (h : ¬ nI K = 0) : K ≠ 0 := fun e => h (by rw [e]; rfl)
/-! contracts that write in their own world -/
theorem kD_fst {A : Nat → Prop} {ws ws' : va_W} (h : va_D A ws) (e : ws'.map Prod.fst = ws.map Prod.fst) : va_D A ws' := by
  have at' : ∀ (k : Nat) (q : Nat × va_E), ws'[k]? = some q → ∃ q2, ws[k]? = some q2 ∧ q2.1 = q.1 := by
    intro k q hq
    have h1 : (ws'.map Prod.fst)[k]? = some q.1 := by rw [List.getElem?_map, hq]; rfl
    rw [e, List.getElem?_map] at h1
    cases h2 : ws[k]? with
    | none => rw [h2] at h1; cases h1
    | some q2 => rw [h2] at h1; exact ⟨q2, rfl, Option.some.inj h1⟩
  refine ⟨fun i j p q hp hq hpq => ?_, fun k q hq => ?_⟩
  · obtain ⟨p2, a1, a2⟩ := at' i p hp
    obtain ⟨q2, b1, b2⟩ := at' j q hq
    exact h.1 i j p2 q2 a1 b1 (by rw [a2, b2]; exact hpq)
  · obtain ⟨q2, b1, b2⟩ := at' k q hq
    rw [← b2]
    exact h.2 k q2 b1
/-- the start of a method that writes in its world -/
def kU (dC : Nat → ClassId) (dI : Nat → Nat → Nat) (cI cN : ClassId) (ws : va_W) (sz : Nat) (U : State) : Prop := U.heap.size = sz ∧ kW dC dI cI cN ws U
theorem kU_blind {dC : Nat → ClassId} {dI : Nat → Nat → Nat} {cI cN : ClassId} {ws : va_W} {sz : Nat} {As : List Value} : FrameBlind (va_Pc As (kU dC dI cI cN ws sz)) :=
  fun a U g mk q => ⟨q.1, q.2.1, (kW_blind (As := As) a U g mk ⟨q.1, q.2.2⟩).2⟩
theorem kU_S {dC : Nat → ClassId} {dI : Nat → Nat → Nat} {cI cN : ClassId} {W wc : va_W} {A : Nat → Prop} {H : Heap} {s : State} {As : List Value} (hP : va_P (dC, dI) kCl W H) (hK : va_K (dC, dI) kCl (kT cI cN) s) (hD : va_D A W) (hN : kN s)
    (is : List Nat) (h0 : va_nd is = true) (h1 : is.filterMap (fun i => W[i]?) = wc) (h2 : is.map (fun i => W[i]?) = wc.map some) : PreS s H (va_Pc As (kU dC dI cI cN wc H.size)) As :=
  ⟨kU_blind, fun U hU hW => ⟨rfl, by rw [hU], ((kW_S (As := As) hP hK hD hN is h0 h1 h2).2 U hU hW).2⟩⟩
theorem kU_V {dC : Nat → ClassId} {dI : Nat → Nat → Nat} {cI cN : ClassId} {W wc : va_W} {A : Nat → Prop} {H : Heap} {s : State} {b q0 ci : Nat} {q : vw_C} {fs : List Value} {As : List Value} (hP : va_P (dC, dI) kCl W H) (hK : va_K (dC, dI) kCl (kT cI cN) s) (hD : va_D A W) (hN : kN s)
    (hc : kCl[ci]? = some q) (he : W[q0]? = some (b, .inr (ci, fs))) (is : List Nat) (h0 : va_nd is = true) (h1 : is.filterMap (fun i => W[i]?) = wc) (h2 : is.map (fun i => W[i]?) = wc.map some) : PreV s H q.1 b (va_Pc (.ref b :: As) (kU dC dI cI cN wc H.size)) As :=
  ⟨kU_blind, va_recv hK hP hc he, fun U hU hW => ⟨rfl, by rw [hU], ((kW_V (As := As) hP hK hD hN hc he is h0 h1 h2).2.2 U hU hW).2⟩⟩
/-- its end: nothing, or an int, and its world as it is then -/
def kV (dC : Nat → ClassId) (dI : Nat → Nat → Nat) (ws' : va_W) (A : Nat → Prop) : Array Value → State → Outcome → State → Prop := va_Qv (fun (_ : Unit) => True) (fun _ t => va_P (dC, dI) kCl ws' t.heap) A
def kVi (dC : Nat → ClassId) (dI : Nat → Nat → Nat) (v : Int32) (ws' : va_W) (A : Nat → Prop) : Array Value → State → Outcome → State → Prop := va_Qi (fun (r : Int32) (_ : Unit) => r = v) (fun _ t => va_P (dC, dI) kCl ws' t.heap) A
theorem kV_end {dC : Nat → ClassId} {dI : Nat → Nat → Nat} {ws' : va_W} {A : Nat → Prop} {a : Array Value} {s t : State} {H : Heap} {locs : List Loc} (hP : va_P (dC, dI) kCl ws' H) (hS : va_S A s.heap H locs) (ht : t.heap = H) : kV dC dI ws' A a s (.returned none) t := ⟨⟨(), rfl, trivial, by subst ht; exact hP⟩, hS.F ht⟩
theorem kVi_end {dC : Nat → ClassId} {dI : Nat → Nat → Nat} {v r : Int32} {ws' : va_W} {A : Nat → Prop} {a : Array Value} {s t : State} {H : Heap} {locs : List Loc} (h : r = v) (hP : va_P (dC, dI) kCl ws' H) (hS : va_S A s.heap H locs) (ht : t.heap = H) : kVi dC dI v ws' A a s (.returned (some (.int r))) t := ⟨⟨r, (), rfl, h, by subst ht; exact hP⟩, hS.F ht⟩
section KCALLV
variable {p : Program} {l : Launch} {e : Env} {R : Room} {s : State} {m : MethodId} {args : Array Value} {below : List Frame} {meth : Method} {c : Code} {H : Heap} {locs : List Loc} {cells slots : Nat} {Q : State → Prop}
variable {pc : Nat} {ls : Array Slot} {rest st0 : List Value} {dC : Nat → ClassId} {dI : Nat → Nat → Nat} {A0 : Nat → Prop} {Z wc wr ws' : va_W} {H0 : Heap} {a : Array Value}
theorem kCallV (hr : va_Run p l e R s m args below meth c H locs cells slots 0 0 (F0 m pc ls st0) rest (kV dC dI ws' (va_A wc H.size) a) (va_A wc H.size)) (hP : va_P (dC, dI) kCl Z H) (hD : va_D A0 Z) (hS : va_S A0 H0 H locs) (hA : ∀ q : Nat, H0.size ≤ q → A0 q)
    (isC isR : List Nat) (hC : isC.map (fun i => Z[i]?) = wc.map some) (hn0 : va_nd isC = true) (hR : isR.map (fun i => Z[i]?) = wr.map some) (hn : va_nd isR = true) (hdis : ∀ i ∈ isR, i ∉ isC) (hf : ws'.map Prod.fst = wc.map Prod.fst)
    (kk : ∀ (H1 : Heap) (locs1 : List Loc), va_P (dC, dI) kCl (wr ++ ws') H1 → va_D A0 (wr ++ ws') → va_S A0 H0 H1 locs1 → W p l e R s m args below meth c H1 locs1 cells slots Q (F0 m (pc + 3) ls rest)) : W p l e R s m args below meth c H locs cells slots Q (F0 m pc ls st0) := by
  have hFc := va_free hD hS hA isC hC
  refine va_callv hr hS (fun q _ h => hFc q h) hFc (fun u t H1 locs1 ht _ _ hB _ hk hS1 => ?_)
  rw [ht] at hB
  obtain ⟨h1, h2⟩ := va_join hP hD isC isR hC hR hn hdis hk hFc hB (kD_fst ((hD.sub isC hn0 hC).self (sz := H.size)) hf)
  exact kk H1 locs1 h1 h2 hS1
theorem kCallVi {v : Int32} (hr : va_Run p l e R s m args below meth c H locs cells slots 0 0 (F0 m pc ls st0) rest (kVi dC dI v ws' (va_A wc H.size) a) (va_A wc H.size)) (hP : va_P (dC, dI) kCl Z H) (hD : va_D A0 Z) (hS : va_S A0 H0 H locs) (hA : ∀ q : Nat, H0.size ≤ q → A0 q)
    (isC isR : List Nat) (hC : isC.map (fun i => Z[i]?) = wc.map some) (hn0 : va_nd isC = true) (hR : isR.map (fun i => Z[i]?) = wr.map some) (hn : va_nd isR = true) (hdis : ∀ i ∈ isR, i ∉ isC) (hf : ws'.map Prod.fst = wc.map Prod.fst)
    (kk : ∀ (H1 : Heap) (locs1 : List Loc), va_P (dC, dI) kCl (wr ++ ws') H1 → va_D A0 (wr ++ ws') → va_S A0 H0 H1 locs1 → W p l e R s m args below meth c H1 locs1 cells slots Q (F0 m (pc + 3) ls (.int v :: rest))) : W p l e R s m args below meth c H locs cells slots Q (F0 m pc ls st0) := by
  have hFc := va_free hD hS hA isC hC
  refine va_calli hr hS (fun q _ h => hFc q h) hFc (fun r u t H1 locs1 ht _ hp hB _ hk hS1 => ?_)
  subst hp
  rw [ht] at hB
  obtain ⟨h1, h2⟩ := va_join hP hD isC isR hC hR hn hdis hk hFc hB (kD_fst ((hD.sub isC hn0 hC).self (sz := H.size)) hf)
  exact kk H1 locs1 h1 h2 hS1
end KCALLV
theorem kNlt {x : Int32} (h : ¬ x < 0) : 0 ≤ x := Int32.not_lt.mp h
theorem kDn0 {x Q : Int32} (h : (x.toInt + 1 - Q.toInt).toNat = 0) : x < Q := Int32.lt_iff_toInt_lt.mpr (by omega)
theorem kDnS {x Q : Int32} {n : Nat} (h : (x.toInt + 1 - Q.toInt).toNat = n + 1) : ¬ x < Q := fun q => by
  have := Int32.lt_iff_toInt_lt.mp q
  omega
theorem kDnN {x Q : Int32} {n : Nat} (h : (x.toInt + 1 - Q.toInt).toNat = n + 1) (hQ : 0 ≤ Q) : ((x + (-1)).toInt + 1 - Q.toInt).toNat = n := by
  have h0 : (0 : Int32).toInt ≤ Q.toInt := Int32.le_iff_toInt_le.mp hQ
  have z0 : (0 : Int32).toInt = 0 := by decide
  have hb := fb_rngK x
  have h1 : (x + (-1)).toInt = x.toInt - 1 := by
    rw [Int32.toInt_add, show (-1 : Int32).toInt = -1 from by decide, show x.toInt + -1 = x.toInt - 1 from rfl]
    exact Int.bmod_eq_of_le (by omega) (by omega)
  rw [h1]
  omega
theorem kClampLt (x : Int32) : x.toNatClampNeg < 2 ^ 31 := by
  have hb := fb_rngK x
  have hc : x.toNatClampNeg = x.toInt.toNat := rfl
  omega
theorem kInN {i n : Nat} {N : Int32} (hN : N = nI n) (h : ¬ N ≤ nI i) (hi : i < 2 ^ 31) (hn : n < 2 ^ 31) : i < n := by
  rcases Nat.lt_or_ge i n with q | q
  · exact q
  · exact absurd (by rw [hN]; exact nI_le q hi) h
theorem kDepth0 {d : Nat} (h : d = 16) : ¬ nI d < 16 := by subst h; decide
theorem kDepthS {d : Nat} (h : d < 16) : nI d < 16 := nI_lt (a := d) (b := 16) h (by omega)
theorem kUp0 {x N : Int32} (h : (N.toInt - x.toInt).toNat = 0) : N ≤ x := Int32.le_iff_toInt_le.mpr (by omega)
theorem kUpS {x N : Int32} {n : Nat} (h : (N.toInt - x.toInt).toNat = n + 1) : ¬ N ≤ x := fun q => by
  have := Int32.le_iff_toInt_le.mp q
  omega
theorem kUpN {x N : Int32} {n : Nat} (h : (N.toInt - x.toInt).toNat = n + 1) : (N.toInt - (x + 1).toInt).toNat = n := by
  have hb := fb_rngK x
  have hc := fb_rngK N
  have h1 : (x + 1).toInt = x.toInt + 1 := by
    rw [Int32.toInt_add, show (1 : Int32).toInt = 1 from by decide]
    exact Int.bmod_eq_of_le (by omega) (by omega)
  rw [h1]
  omega
end
section
/-! numbers, sets, pairs (printed by wip/gen) -/
def P_bitCount (x : Int32) : Int32 :=
  bd (x - ((((x.toUInt32 >>> ((1 : Int32).toUInt32 &&& Int32.toUInt32 31))).toInt32) &&& (1431655765 : Int32))) (fun y_1 =>
    bd ((y_1 &&& (858993459 : Int32)) + ((((y_1.toUInt32 >>> ((2 : Int32).toUInt32 &&& Int32.toUInt32 31))).toInt32) &&& (858993459 : Int32))) (fun y_2 =>
      bd ((y_2 + (((y_2.toUInt32 >>> ((4 : Int32).toUInt32 &&& Int32.toUInt32 31))).toInt32)) &&& (252645135 : Int32)) (fun y_3 =>
        bd (y_3 + (((y_3.toUInt32 >>> ((8 : Int32).toUInt32 &&& Int32.toUInt32 31))).toInt32)) (fun y_4 =>
          bd (y_4 + (((y_4.toUInt32 >>> ((16 : Int32).toUInt32 &&& Int32.toUInt32 31))).toInt32)) (fun y_5 =>
            y_5 &&& (63 : Int32))))))
abbrev rm_J6_bitCount_0f7a4 : Room := { frames := 0, cells := 0, slots := 0, locals := 0 }
set_option maxHeartbeats 4000000 in
set_option maxRecDepth 100000 in
theorem k_J6_bitCount_0f7a4 (l : Launch) (dC : Nat → ClassId) (dI : Nat → Nat → Nat) (cI cN : ClassId) (x : Int32) : Met l yJ6_bitCount_0f7a4 wsJ6_bitCount_0f7a4 rm_J6_bitCount_0f7a4 (va_Pc [.int x] (kW dC dI cI cN [])) (kR (P_bitCount x)) 0 0 (fun _ => False) := by
  refine Met.ofW (cc := cJ6_bitCount_0f7a4) (maxL := 1) (ret := (some .int)) (by decide) rfl ?_
  intro p e s m args below meth c s₁ B hml hv
  obtain ⟨rfl, hP, hK, hD, hN⟩ := hv
  have hx := B.exec
  have hb := B.bytes
  have hr0 := B.returns
  have hts := atoms_spec (ws := wsJ6_bitCount_0f7a4) B.pre
  have hown : s.vm.findClass RJ6 = some m.cls := findClass_of_methodNamed B.named
  have hlocks := B.notSynchronized
  have hS : va_S (fun _ => False) s.heap s.heap [] := va_S.rf
  have hl := lv_entry ([.int x]) (n := 1) (Nat.le_of_ble_eq_true rfl)
  rw [lg_entry_eq]
  generalize (lg_sl ([.int x]) ++ List.replicate (1 - (lg_sl ([.int x])).length) Slot.unset).toArray = ls at hl ⊢
  have hl : lv_has ls 1 [(0, .int x)] := hl
  obtain ⟨ρ, hρ⟩ : ∃ ρ : Int32, ρ = P_bitCount x := ⟨_, rfl⟩
  have hr : P_bitCount x = ρ := hρ.symm
  rewrite [P_bitCount] at hr
  refine lv_iload_n hx hb dJ6_bitCount_0f7a4_0 rfl (lv_at hl 0 rfl) ?_
  refine lv_iload_n hx hb dJ6_bitCount_0f7a4_1 rfl (lv_at hl 0 rfl) ?_
  refine lv_iconst (v := 1) hx hb dJ6_bitCount_0f7a4_2 (by decide) ?_
  refine lv_iushr (v := ((x.toUInt32 >>> ((1 : Int32).toUInt32 &&& Int32.toUInt32 31))).toInt32) hx hb dJ6_bitCount_0f7a4_3 rfl ?_
  refine lv_ldcw (v := 1431655765) hx hb hown (hts (.constant RJ6 265 (1431655765)) (by decide +kernel)) dJ6_bitCount_0f7a4_4 ?_
  refine lv_iand hx hb dJ6_bitCount_0f7a4_7 ?_
  refine lv_isub hx hb dJ6_bitCount_0f7a4_8 ?_
  refine lv_topi (fun y_1 ey_1 => ?_)
  have hr := bd_to hr ey_1
  refine lv_istore_n (lv' := [(0, .int y_1)]) hx hb dJ6_bitCount_0f7a4_9 rfl hl (by decide) rfl (fun ls hl => ?_)
  refine lv_iload_n hx hb dJ6_bitCount_0f7a4_10 rfl (lv_at hl 0 rfl) ?_
  refine lv_ldcw (v := 858993459) hx hb hown (hts (.constant RJ6 266 (858993459)) (by decide +kernel)) dJ6_bitCount_0f7a4_11 ?_
  refine lv_iand hx hb dJ6_bitCount_0f7a4_14 ?_
  refine lv_iload_n hx hb dJ6_bitCount_0f7a4_15 rfl (lv_at hl 0 rfl) ?_
  refine lv_iconst (v := 2) hx hb dJ6_bitCount_0f7a4_16 (by decide) ?_
  refine lv_iushr (v := ((y_1.toUInt32 >>> ((2 : Int32).toUInt32 &&& Int32.toUInt32 31))).toInt32) hx hb dJ6_bitCount_0f7a4_17 rfl ?_
  refine lv_ldcw (v := 858993459) hx hb hown (hts (.constant RJ6 266 (858993459)) (by decide +kernel)) dJ6_bitCount_0f7a4_18 ?_
  refine lv_iand hx hb dJ6_bitCount_0f7a4_21 ?_
  refine lv_iadd hx hb dJ6_bitCount_0f7a4_22 ?_
  refine lv_topi (fun y_2 ey_2 => ?_)
  have hr := bd_to hr ey_2
  refine lv_istore_n (lv' := [(0, .int y_2)]) hx hb dJ6_bitCount_0f7a4_23 rfl hl (by decide) rfl (fun ls hl => ?_)
  refine lv_iload_n hx hb dJ6_bitCount_0f7a4_24 rfl (lv_at hl 0 rfl) ?_
  refine lv_iload_n hx hb dJ6_bitCount_0f7a4_25 rfl (lv_at hl 0 rfl) ?_
  refine lv_iconst (v := 4) hx hb dJ6_bitCount_0f7a4_26 (by decide) ?_
  refine lv_iushr (v := ((y_2.toUInt32 >>> ((4 : Int32).toUInt32 &&& Int32.toUInt32 31))).toInt32) hx hb dJ6_bitCount_0f7a4_27 rfl ?_
  refine lv_iadd hx hb dJ6_bitCount_0f7a4_28 ?_
  refine lv_ldcw (v := 252645135) hx hb hown (hts (.constant RJ6 267 (252645135)) (by decide +kernel)) dJ6_bitCount_0f7a4_29 ?_
  refine lv_iand hx hb dJ6_bitCount_0f7a4_32 ?_
  refine lv_topi (fun y_3 ey_3 => ?_)
  have hr := bd_to hr ey_3
  refine lv_istore_n (lv' := [(0, .int y_3)]) hx hb dJ6_bitCount_0f7a4_33 rfl hl (by decide) rfl (fun ls hl => ?_)
  refine lv_iload_n hx hb dJ6_bitCount_0f7a4_34 rfl (lv_at hl 0 rfl) ?_
  refine lv_iload_n hx hb dJ6_bitCount_0f7a4_35 rfl (lv_at hl 0 rfl) ?_
  refine lv_bipush (v := 8) hx hb dJ6_bitCount_0f7a4_36 (by decide) ?_
  refine lv_iushr (v := ((y_3.toUInt32 >>> ((8 : Int32).toUInt32 &&& Int32.toUInt32 31))).toInt32) hx hb dJ6_bitCount_0f7a4_38 rfl ?_
  refine lv_iadd hx hb dJ6_bitCount_0f7a4_39 ?_
  refine lv_topi (fun y_4 ey_4 => ?_)
  have hr := bd_to hr ey_4
  refine lv_istore_n (lv' := [(0, .int y_4)]) hx hb dJ6_bitCount_0f7a4_40 rfl hl (by decide) rfl (fun ls hl => ?_)
  refine lv_iload_n hx hb dJ6_bitCount_0f7a4_41 rfl (lv_at hl 0 rfl) ?_
  refine lv_iload_n hx hb dJ6_bitCount_0f7a4_42 rfl (lv_at hl 0 rfl) ?_
  refine lv_bipush (v := 16) hx hb dJ6_bitCount_0f7a4_43 (by decide) ?_
  refine lv_iushr (v := ((y_4.toUInt32 >>> ((16 : Int32).toUInt32 &&& Int32.toUInt32 31))).toInt32) hx hb dJ6_bitCount_0f7a4_45 rfl ?_
  refine lv_iadd hx hb dJ6_bitCount_0f7a4_46 ?_
  refine lv_topi (fun y_5 ey_5 => ?_)
  have hr := bd_to hr ey_5
  refine lv_istore_n (lv' := [(0, .int y_5)]) hx hb dJ6_bitCount_0f7a4_47 rfl hl (by decide) rfl (fun ls hl => ?_)
  refine lv_iload_n hx hb dJ6_bitCount_0f7a4_48 rfl (lv_at hl 0 rfl) ?_
  refine lv_bipush (v := 63) hx hb dJ6_bitCount_0f7a4_49 (by decide) ?_
  refine lv_iand hx hb dJ6_bitCount_0f7a4_51 ?_
  exact W.iret (v := y_5 &&& (63 : Int32)) hx hb hr0 (fun t ht hW => kR_end (hr.trans hρ) hS ht) hS.2.2 dJ6_bitCount_0f7a4_52
def P_isWithin (number : Int32) (low : Int32) (high : Int32) : Int32 :=
  if number < low then
    0
  else
    if high < number then
      0
    else
      1
abbrev rm_X6_isWithin : Room := { frames := 0, cells := 0, slots := 0, locals := 0 }
set_option maxHeartbeats 4000000 in
set_option maxRecDepth 100000 in
theorem k_X6_isWithin (l : Launch) (dC : Nat → ClassId) (dI : Nat → Nat → Nat) (cI cN : ClassId) (number : Int32) (low : Int32) (high : Int32) : Met l yX6_isWithin wsX6_isWithin rm_X6_isWithin (va_Pc [.int number, .int low, .int high] (kW dC dI cI cN [])) (kR (P_isWithin number low high)) 0 0 (fun _ => False) := by
  refine Met.ofW (cc := cX6_isWithin) (maxL := 3) (ret := (some .boolean)) (by decide) rfl ?_
  intro p e s m args below meth c s₁ B hml hv
  obtain ⟨rfl, hP, hK, hD, hN⟩ := hv
  have hx := B.exec
  have hb := B.bytes
  have hr0 := B.returns
  have hts := atoms_spec (ws := wsX6_isWithin) B.pre
  have hown : s.vm.findClass RX6 = some m.cls := findClass_of_methodNamed B.named
  have hlocks := B.notSynchronized
  have hS : va_S (fun _ => False) s.heap s.heap [] := va_S.rf
  have hl := lv_entry ([.int number, .int low, .int high]) (n := 3) (Nat.le_of_ble_eq_true rfl)
  rw [lg_entry_eq]
  generalize (lg_sl ([.int number, .int low, .int high]) ++ List.replicate (3 - (lg_sl ([.int number, .int low, .int high])).length) Slot.unset).toArray = ls at hl ⊢
  have hl : lv_has ls 3 [(0, .int number), (1, .int low), (2, .int high)] := hl
  obtain ⟨ρ, hρ⟩ : ∃ ρ : Int32, ρ = P_isWithin number low high := ⟨_, rfl⟩
  have hr : P_isWithin number low high = ρ := hρ.symm
  rewrite [P_isWithin] at hr
  refine lv_iload_n hx hb dX6_isWithin_0 rfl (lv_at hl 0 rfl) ?_
  refine lv_iload_n hx hb dX6_isWithin_1 rfl (lv_at hl 1 rfl) ?_
  refine lv_icmp_lt (tgt := 14) hx hb dX6_isWithin_2 (by decide) (fun c_1 => ?_) (fun c_1 => ?_)
  · have hr := if_to hr c_1
    refine lv_iconst (v := 0) hx hb dX6_isWithin_14 (by decide) ?_
    exact W.zret (v := 0) hx hb hr0 rfl (fun t ht hW => kR_end (hr.trans hρ) hS ht) hS.2.2 dX6_isWithin_15
  · have hr := if_no hr c_1
    refine lv_iload_n hx hb dX6_isWithin_5 rfl (lv_at hl 0 rfl) ?_
    refine lv_iload_n hx hb dX6_isWithin_6 rfl (lv_at hl 2 rfl) ?_
    refine lv_icmp_gt (tgt := 14) hx hb dX6_isWithin_7 (by decide) (fun c_2 => ?_) (fun c_2 => ?_)
    · have hr := if_to hr c_2
      refine lv_iconst (v := 0) hx hb dX6_isWithin_14 (by decide) ?_
      exact W.zret (v := 0) hx hb hr0 rfl (fun t ht hW => kR_end (hr.trans hρ) hS ht) hS.2.2 dX6_isWithin_15
    · have hr := if_no hr c_2
      refine lv_iconst (v := 1) hx hb dX6_isWithin_10 (by decide) ?_
      refine lv_goto (tgt := 15) hx hb dX6_isWithin_11 (by decide) ?_
      exact W.zret (v := 1) hx hb hr0 rfl (fun t ht hW => kR_end (hr.trans hρ) hS ht) hS.2.2 dX6_isWithin_15
theorem P_isWithin_b (number low high : Int32) : P_isWithin number low high = 0 ∨ P_isWithin number low high = 1 := by
  unfold P_isWithin
  repeat' split
  all_goals first | exact Or.inl rfl | exact Or.inr rfl
def P_bit (number : Int32) : Int32 :=
  if number < 0 then
    0
  else
    if (31 : Int32) ≤ number then
      0
    else
      (1 : Int32) <<< (number &&& 31)
abbrev rm_X6_bit : Room := { frames := 0, cells := 0, slots := 0, locals := 0 }
set_option maxHeartbeats 4000000 in
set_option maxRecDepth 100000 in
theorem k_X6_bit (l : Launch) (dC : Nat → ClassId) (dI : Nat → Nat → Nat) (cI cN : ClassId) (number : Int32) : Met l yX6_bit wsX6_bit rm_X6_bit (va_Pc [.int number] (kW dC dI cI cN [])) (kR (P_bit number)) 0 0 (fun _ => False) := by
  refine Met.ofW (cc := cX6_bit) (maxL := 1) (ret := (some .int)) (by decide) rfl ?_
  intro p e s m args below meth c s₁ B hml hv
  obtain ⟨rfl, hP, hK, hD, hN⟩ := hv
  have hx := B.exec
  have hb := B.bytes
  have hr0 := B.returns
  have hts := atoms_spec (ws := wsX6_bit) B.pre
  have hown : s.vm.findClass RX6 = some m.cls := findClass_of_methodNamed B.named
  have hlocks := B.notSynchronized
  have hS : va_S (fun _ => False) s.heap s.heap [] := va_S.rf
  have hl := lv_entry ([.int number]) (n := 1) (Nat.le_of_ble_eq_true rfl)
  rw [lg_entry_eq]
  generalize (lg_sl ([.int number]) ++ List.replicate (1 - (lg_sl ([.int number])).length) Slot.unset).toArray = ls at hl ⊢
  have hl : lv_has ls 1 [(0, .int number)] := hl
  obtain ⟨ρ, hρ⟩ : ∃ ρ : Int32, ρ = P_bit number := ⟨_, rfl⟩
  have hr : P_bit number = ρ := hρ.symm
  rewrite [P_bit] at hr
  refine lv_iload_n hx hb dX6_bit_0 rfl (lv_at hl 0 rfl) ?_
  refine lv_if_lt (tgt := 16) hx hb dX6_bit_1 (by decide) (fun c_1 => ?_) (fun c_1 => ?_)
  · have hr := if_to hr c_1
    refine lv_iconst (v := 0) hx hb dX6_bit_16 (by decide) ?_
    exact W.iret (v := 0) hx hb hr0 (fun t ht hW => kR_end (hr.trans hρ) hS ht) hS.2.2 dX6_bit_17
  · have hr := if_no hr c_1
    refine lv_iload_n hx hb dX6_bit_4 rfl (lv_at hl 0 rfl) ?_
    refine lv_bipush (v := 31) hx hb dX6_bit_5 (by decide) ?_
    refine lv_icmp_ge (tgt := 16) hx hb dX6_bit_7 (by decide) (fun c_2 => ?_) (fun c_2 => ?_)
    · have hr := if_to hr c_2
      refine lv_iconst (v := 0) hx hb dX6_bit_16 (by decide) ?_
      exact W.iret (v := 0) hx hb hr0 (fun t ht hW => kR_end (hr.trans hρ) hS ht) hS.2.2 dX6_bit_17
    · have hr := if_no hr c_2
      refine lv_iconst (v := 1) hx hb dX6_bit_10 (by decide) ?_
      refine lv_iload_n hx hb dX6_bit_11 rfl (lv_at hl 0 rfl) ?_
      refine lv_ishl hx hb dX6_bit_12 ?_
      refine lv_goto (tgt := 17) hx hb dX6_bit_13 (by decide) ?_
      exact W.iret (v := (1 : Int32) <<< (number &&& 31)) hx hb hr0 (fun t ht hW => kR_end (hr.trans hρ) hS ht) hS.2.2 dX6_bit_17
def P_holds (set : Int32) (number : Int32) : Int32 :=
  if number < 0 then
    0
  else
    if (31 : Int32) ≤ number then
      0
    else
      if ((set >>> (number &&& 31)) &&& (1 : Int32)) = 0 then
        0
      else
        1
abbrev rm_X6_holds : Room := { frames := 0, cells := 0, slots := 0, locals := 0 }
set_option maxHeartbeats 4000000 in
set_option maxRecDepth 100000 in
theorem k_X6_holds (l : Launch) (dC : Nat → ClassId) (dI : Nat → Nat → Nat) (cI cN : ClassId) (set : Int32) (number : Int32) : Met l yX6_holds wsX6_holds rm_X6_holds (va_Pc [.int set, .int number] (kW dC dI cI cN [])) (kR (P_holds set number)) 0 0 (fun _ => False) := by
  refine Met.ofW (cc := cX6_holds) (maxL := 2) (ret := (some .boolean)) (by decide) rfl ?_
  intro p e s m args below meth c s₁ B hml hv
  obtain ⟨rfl, hP, hK, hD, hN⟩ := hv
  have hx := B.exec
  have hb := B.bytes
  have hr0 := B.returns
  have hts := atoms_spec (ws := wsX6_holds) B.pre
  have hown : s.vm.findClass RX6 = some m.cls := findClass_of_methodNamed B.named
  have hlocks := B.notSynchronized
  have hS : va_S (fun _ => False) s.heap s.heap [] := va_S.rf
  have hl := lv_entry ([.int set, .int number]) (n := 2) (Nat.le_of_ble_eq_true rfl)
  rw [lg_entry_eq]
  generalize (lg_sl ([.int set, .int number]) ++ List.replicate (2 - (lg_sl ([.int set, .int number])).length) Slot.unset).toArray = ls at hl ⊢
  have hl : lv_has ls 2 [(0, .int set), (1, .int number)] := hl
  obtain ⟨ρ, hρ⟩ : ∃ ρ : Int32, ρ = P_holds set number := ⟨_, rfl⟩
  have hr : P_holds set number = ρ := hρ.symm
  rewrite [P_holds] at hr
  refine lv_iload_n hx hb dX6_holds_0 rfl (lv_at hl 1 rfl) ?_
  refine lv_if_lt (tgt := 22) hx hb dX6_holds_1 (by decide) (fun c_1 => ?_) (fun c_1 => ?_)
  · have hr := if_to hr c_1
    refine lv_iconst (v := 0) hx hb dX6_holds_22 (by decide) ?_
    exact W.zret (v := 0) hx hb hr0 rfl (fun t ht hW => kR_end (hr.trans hρ) hS ht) hS.2.2 dX6_holds_23
  · have hr := if_no hr c_1
    refine lv_iload_n hx hb dX6_holds_4 rfl (lv_at hl 1 rfl) ?_
    refine lv_bipush (v := 31) hx hb dX6_holds_5 (by decide) ?_
    refine lv_icmp_ge (tgt := 22) hx hb dX6_holds_7 (by decide) (fun c_2 => ?_) (fun c_2 => ?_)
    · have hr := if_to hr c_2
      refine lv_iconst (v := 0) hx hb dX6_holds_22 (by decide) ?_
      exact W.zret (v := 0) hx hb hr0 rfl (fun t ht hW => kR_end (hr.trans hρ) hS ht) hS.2.2 dX6_holds_23
    · have hr := if_no hr c_2
      refine lv_iload_n hx hb dX6_holds_10 rfl (lv_at hl 0 rfl) ?_
      refine lv_iload_n hx hb dX6_holds_11 rfl (lv_at hl 1 rfl) ?_
      refine lv_ishr hx hb dX6_holds_12 ?_
      refine lv_iconst (v := 1) hx hb dX6_holds_13 (by decide) ?_
      refine lv_iand hx hb dX6_holds_14 ?_
      refine lv_if_eq (tgt := 22) hx hb dX6_holds_15 (by decide) (fun c_3 => ?_) (fun c_3 => ?_)
      · have hr := if_to hr c_3
        refine lv_iconst (v := 0) hx hb dX6_holds_22 (by decide) ?_
        exact W.zret (v := 0) hx hb hr0 rfl (fun t ht hW => kR_end (hr.trans hρ) hS ht) hS.2.2 dX6_holds_23
      · have hr := if_no hr c_3
        refine lv_iconst (v := 1) hx hb dX6_holds_18 (by decide) ?_
        refine lv_goto (tgt := 23) hx hb dX6_holds_19 (by decide) ?_
        exact W.zret (v := 1) hx hb hr0 rfl (fun t ht hW => kR_end (hr.trans hρ) hS ht) hS.2.2 dX6_holds_23
theorem P_holds_b (set number : Int32) : P_holds set number = 0 ∨ P_holds set number = 1 := by
  unfold P_holds
  repeat' split
  all_goals first | exact Or.inl rfl | exact Or.inr rfl
def P_isSetBelow (set : Int32) (many : Int32) : Int32 :=
  if set < 0 then
    0
  else
    if (31 : Int32) ≤ many then
      1
    else
      if (P_bit many) ≤ set then
        0
      else
        1
abbrev rm_X6_isSetBelow : Room := { frames := 1, cells := 0, slots := 0, locals := 20 }
set_option maxHeartbeats 4000000 in
set_option maxRecDepth 100000 in
theorem k_X6_isSetBelow (l : Launch) (dC : Nat → ClassId) (dI : Nat → Nat → Nat) (cI cN : ClassId) (set : Int32) (many : Int32) : Met l yX6_isSetBelow wsX6_isSetBelow rm_X6_isSetBelow (va_Pc [.int set, .int many] (kW dC dI cI cN [])) (kR (P_isSetBelow set many)) 0 0 (fun _ => False) := by
  refine Met.ofW (cc := cX6_isSetBelow) (maxL := 2) (ret := (some .boolean)) (by decide) rfl ?_
  intro p e s m args below meth c s₁ B hml hv
  obtain ⟨rfl, hP, hK, hD, hN⟩ := hv
  have hx := B.exec
  have hb := B.bytes
  have hr0 := B.returns
  have hts := atoms_spec (ws := wsX6_isSetBelow) B.pre
  have hown : s.vm.findClass RX6 = some m.cls := findClass_of_methodNamed B.named
  have hlocks := B.notSynchronized
  have hS : va_S (fun _ => False) s.heap s.heap [] := va_S.rf
  have hl := lv_entry ([.int set, .int many]) (n := 2) (Nat.le_of_ble_eq_true rfl)
  rw [lg_entry_eq]
  generalize (lg_sl ([.int set, .int many]) ++ List.replicate (2 - (lg_sl ([.int set, .int many])).length) Slot.unset).toArray = ls at hl ⊢
  have hl : lv_has ls 2 [(0, .int set), (1, .int many)] := hl
  obtain ⟨ρ, hρ⟩ : ∃ ρ : Int32, ρ = P_isSetBelow set many := ⟨_, rfl⟩
  have hr : P_isSetBelow set many = ρ := hρ.symm
  rewrite [P_isSetBelow] at hr
  refine lv_iload_n hx hb dX6_isSetBelow_0 rfl (lv_at hl 0 rfl) ?_
  refine lv_if_lt (tgt := 22) hx hb dX6_isSetBelow_1 (by decide) (fun c_1 => ?_) (fun c_1 => ?_)
  · have hr := if_to hr c_1
    refine lv_iconst (v := 0) hx hb dX6_isSetBelow_22 (by decide) ?_
    exact W.zret (v := 0) hx hb hr0 rfl (fun t ht hW => kR_end (hr.trans hρ) hS ht) hS.2.2 dX6_isSetBelow_23
  · have hr := if_no hr c_1
    refine lv_iload_n hx hb dX6_isSetBelow_4 rfl (lv_at hl 1 rfl) ?_
    refine lv_bipush (v := 31) hx hb dX6_isSetBelow_5 (by decide) ?_
    refine lv_icmp_ge (tgt := 18) hx hb dX6_isSetBelow_7 (by decide) (fun c_2 => ?_) (fun c_2 => ?_)
    · have hr := if_to hr c_2
      refine lv_iconst (v := 1) hx hb dX6_isSetBelow_18 (by decide) ?_
      refine lv_goto (tgt := 23) hx hb dX6_isSetBelow_19 (by decide) ?_
      exact W.zret (v := 1) hx hb hr0 rfl (fun t ht hW => kR_end (hr.trans hρ) hS ht) hS.2.2 dX6_isSetBelow_23
    · have hr := if_no hr c_2
      refine lv_iload_n hx hb dX6_isSetBelow_10 rfl (lv_at hl 0 rfl) ?_
      refine lv_iload_n hx hb dX6_isSetBelow_11 rfl (lv_at hl 1 rfl) ?_
      refine kCall (va_runS (As := [.int many]) (rest := [.int set]) ⟨hx, hb, hml, hown, hts⟩ (k_X6_bit l dC dI cI cN many) (va_cwS 1 hts gX6_isSetBelow_X6_bit rfl rfl rfl (by decide +kernel) ⟨Nat.le_of_ble_eq_true rfl, Nat.le_of_ble_eq_true rfl⟩) (kW_S hP hK hD hN [] rfl rfl rfl) rfl rfl hl.1 rfl (lv_room (Nat.le_of_ble_eq_true rfl)) dX6_isSetBelow_12 ⟨Nat.zero_le _, Nat.zero_le _⟩) hP hS (fun H locs hP hS => ?_)
      refine lv_icmp_ge (tgt := 22) hx hb dX6_isSetBelow_15 (by decide) (fun c_3 => ?_) (fun c_3 => ?_)
      · have hr := if_to hr c_3
        refine lv_iconst (v := 0) hx hb dX6_isSetBelow_22 (by decide) ?_
        exact W.zret (v := 0) hx hb hr0 rfl (fun t ht hW => kR_end (hr.trans hρ) hS ht) hS.2.2 dX6_isSetBelow_23
      · have hr := if_no hr c_3
        refine lv_iconst (v := 1) hx hb dX6_isSetBelow_18 (by decide) ?_
        refine lv_goto (tgt := 23) hx hb dX6_isSetBelow_19 (by decide) ?_
        exact W.zret (v := 1) hx hb hr0 rfl (fun t ht hW => kR_end (hr.trans hρ) hS ht) hS.2.2 dX6_isSetBelow_23
theorem P_isSetBelow_b (set many : Int32) : P_isSetBelow set many = 0 ∨ P_isSetBelow set many = 1 := by
  unfold P_isSetBelow
  repeat' split
  all_goals first | exact Or.inl rfl | exact Or.inr rfl
def P_firstOf (set : Int32) : Int32 :=
  if set = 0 then
    (-1)
  else
    P_bitCount ((set &&& (-set)) - (1 : Int32))
abbrev rm_X6_firstOf : Room := { frames := 1, cells := 0, slots := 0, locals := 20 }
set_option maxHeartbeats 4000000 in
set_option maxRecDepth 100000 in
theorem k_X6_firstOf (l : Launch) (dC : Nat → ClassId) (dI : Nat → Nat → Nat) (cI cN : ClassId) (set : Int32) : Met l yX6_firstOf wsX6_firstOf rm_X6_firstOf (va_Pc [.int set] (kW dC dI cI cN [])) (kR (P_firstOf set)) 0 0 (fun _ => False) := by
  refine Met.ofW (cc := cX6_firstOf) (maxL := 1) (ret := (some .int)) (by decide) rfl ?_
  intro p e s m args below meth c s₁ B hml hv
  obtain ⟨rfl, hP, hK, hD, hN⟩ := hv
  have hx := B.exec
  have hb := B.bytes
  have hr0 := B.returns
  have hts := atoms_spec (ws := wsX6_firstOf) B.pre
  have hown : s.vm.findClass RX6 = some m.cls := findClass_of_methodNamed B.named
  have hlocks := B.notSynchronized
  have hS : va_S (fun _ => False) s.heap s.heap [] := va_S.rf
  have hl := lv_entry ([.int set]) (n := 1) (Nat.le_of_ble_eq_true rfl)
  rw [lg_entry_eq]
  generalize (lg_sl ([.int set]) ++ List.replicate (1 - (lg_sl ([.int set])).length) Slot.unset).toArray = ls at hl ⊢
  have hl : lv_has ls 1 [(0, .int set)] := hl
  obtain ⟨ρ, hρ⟩ : ∃ ρ : Int32, ρ = P_firstOf set := ⟨_, rfl⟩
  have hr : P_firstOf set = ρ := hρ.symm
  rewrite [P_firstOf] at hr
  refine lv_iload_n hx hb dX6_firstOf_0 rfl (lv_at hl 0 rfl) ?_
  refine lv_if_ne (tgt := 8) hx hb dX6_firstOf_1 (by decide) (fun c_1 => ?_) (fun c_1 => ?_)
  · have hr := if_no hr c_1
    refine lv_iload_n hx hb dX6_firstOf_8 rfl (lv_at hl 0 rfl) ?_
    refine lv_iload_n hx hb dX6_firstOf_9 rfl (lv_at hl 0 rfl) ?_
    refine lv_ineg hx hb dX6_firstOf_10 ?_
    refine lv_iand hx hb dX6_firstOf_11 ?_
    refine lv_iconst (v := 1) hx hb dX6_firstOf_12 (by decide) ?_
    refine lv_isub hx hb dX6_firstOf_13 ?_
    refine kCall (va_runS (As := [.int ((set &&& (-set)) - (1 : Int32))]) (rest := []) ⟨hx, hb, hml, hown, hts⟩ (k_J6_bitCount_0f7a4 l dC dI cI cN ((set &&& (-set)) - (1 : Int32))) (va_cwS 1 hts gX6_firstOf_J6_bitCount_0f7a4 rfl rfl rfl (by decide +kernel) ⟨Nat.le_of_ble_eq_true rfl, Nat.le_of_ble_eq_true rfl⟩) (kW_S hP hK hD hN [] rfl rfl rfl) rfl rfl hl.1 rfl (lv_room (Nat.le_of_ble_eq_true rfl)) dX6_firstOf_14 ⟨Nat.zero_le _, Nat.zero_le _⟩) hP hS (fun H locs hP hS => ?_)
    exact W.iret (v := P_bitCount ((set &&& (-set)) - (1 : Int32))) hx hb hr0 (fun t ht hW => kR_end (hr.trans hρ) hS ht) hS.2.2 dX6_firstOf_17
  · have hr := if_to hr c_1
    refine lv_iconst (v := (-1)) hx hb dX6_firstOf_4 (by decide) ?_
    refine lv_goto (tgt := 17) hx hb dX6_firstOf_5 (by decide) ?_
    exact W.iret (v := (-1)) hx hb hr0 (fun t ht hW => kR_end (hr.trans hρ) hS ht) hS.2.2 dX6_firstOf_17
def P_lesser (one : Int32) (other : Int32) : Int32 :=
  if one = (-1 : Int32) then
    other
  else
    if other = (-1 : Int32) then
      one
    else
      if other < one then other else one
abbrev rm_X6_lesser : Room := { frames := 1, cells := 0, slots := 0, locals := 13 }
set_option maxHeartbeats 4000000 in
set_option maxRecDepth 100000 in
theorem k_X6_lesser (l : Launch) (dC : Nat → ClassId) (dI : Nat → Nat → Nat) (cI cN : ClassId) (one : Int32) (other : Int32) : Met l yX6_lesser wsX6_lesser rm_X6_lesser (va_Pc [.int one, .int other] (kW dC dI cI cN [])) (kR (P_lesser one other)) 0 0 (fun _ => False) := by
  refine Met.ofW (cc := cX6_lesser) (maxL := 2) (ret := (some .int)) (by decide) rfl ?_
  intro p e s m args below meth c s₁ B hml hv
  obtain ⟨rfl, hP, hK, hD, hN⟩ := hv
  have hx := B.exec
  have hb := B.bytes
  have hr0 := B.returns
  have hts := atoms_spec (ws := wsX6_lesser) B.pre
  have hown : s.vm.findClass RX6 = some m.cls := findClass_of_methodNamed B.named
  have hlocks := B.notSynchronized
  have hS : va_S (fun _ => False) s.heap s.heap [] := va_S.rf
  have hl := lv_entry ([.int one, .int other]) (n := 2) (Nat.le_of_ble_eq_true rfl)
  rw [lg_entry_eq]
  generalize (lg_sl ([.int one, .int other]) ++ List.replicate (2 - (lg_sl ([.int one, .int other])).length) Slot.unset).toArray = ls at hl ⊢
  have hl : lv_has ls 2 [(0, .int one), (1, .int other)] := hl
  obtain ⟨ρ, hρ⟩ : ∃ ρ : Int32, ρ = P_lesser one other := ⟨_, rfl⟩
  have hr : P_lesser one other = ρ := hρ.symm
  rewrite [P_lesser] at hr
  refine lv_iload_n hx hb dX6_lesser_0 rfl (lv_at hl 0 rfl) ?_
  refine lv_iconst (v := (-1)) hx hb dX6_lesser_1 (by decide) ?_
  refine lv_icmp_ne (tgt := 7) hx hb dX6_lesser_2 (by decide) (fun c_1 => ?_) (fun c_1 => ?_)
  · have hr := if_no hr c_1
    refine lv_iload_n hx hb dX6_lesser_7 rfl (lv_at hl 1 rfl) ?_
    refine lv_iconst (v := (-1)) hx hb dX6_lesser_8 (by decide) ?_
    refine lv_icmp_ne (tgt := 16) hx hb dX6_lesser_9 (by decide) (fun c_2 => ?_) (fun c_2 => ?_)
    · have hr := if_no hr c_2
      refine lv_iload_n hx hb dX6_lesser_16 rfl (lv_at hl 0 rfl) ?_
      refine lv_iload_n hx hb dX6_lesser_17 rfl (lv_at hl 1 rfl) ?_
      refine va_mmin hx hb (hml.trans hl.1.symm) hown (hts (.methodLink RX6 324 Lib.Math.min.name) (by decide +kernel)) (hts (.static Lib.Math.min.name) (by decide +kernel)) (hts (.initialized "java/lang/Math") (by decide +kernel)) (hts (.code Lib.Math.min.name Lib.Math.min.code 2 (some .int)) (by decide +kernel)) (Nat.le_of_ble_eq_true rfl) (Nat.le_of_ble_eq_true rfl) (Nat.zero_le _) (Nat.zero_le _) dX6_lesser_18 ?_
      exact W.iret (v := if other < one then other else one) hx hb hr0 (fun t ht hW => kR_end (hr.trans hρ) hS ht) hS.2.2 dX6_lesser_21
    · have hr := if_to hr c_2
      refine lv_iload_n hx hb dX6_lesser_12 rfl (lv_at hl 0 rfl) ?_
      refine lv_goto (tgt := 21) hx hb dX6_lesser_13 (by decide) ?_
      exact W.iret (v := one) hx hb hr0 (fun t ht hW => kR_end (hr.trans hρ) hS ht) hS.2.2 dX6_lesser_21
  · have hr := if_to hr c_1
    refine lv_iload_n hx hb dX6_lesser_5 rfl (lv_at hl 1 rfl) ?_
    exact W.iret (v := other) hx hb hr0 (fun t ht hW => kR_end (hr.trans hρ) hS ht) hS.2.2 dX6_lesser_6
def P_pairOf (one : Int32) (other : Int32) : Int32 :=
  (one * (16 : Int32)) + other
abbrev rm_X6_pairOf : Room := { frames := 0, cells := 0, slots := 0, locals := 0 }
set_option maxHeartbeats 4000000 in
set_option maxRecDepth 100000 in
theorem k_X6_pairOf (l : Launch) (dC : Nat → ClassId) (dI : Nat → Nat → Nat) (cI cN : ClassId) (one : Int32) (other : Int32) : Met l yX6_pairOf wsX6_pairOf rm_X6_pairOf (va_Pc [.int one, .int other] (kW dC dI cI cN [])) (kR (P_pairOf one other)) 0 0 (fun _ => False) := by
  refine Met.ofW (cc := cX6_pairOf) (maxL := 2) (ret := (some .int)) (by decide) rfl ?_
  intro p e s m args below meth c s₁ B hml hv
  obtain ⟨rfl, hP, hK, hD, hN⟩ := hv
  have hx := B.exec
  have hb := B.bytes
  have hr0 := B.returns
  have hts := atoms_spec (ws := wsX6_pairOf) B.pre
  have hown : s.vm.findClass RX6 = some m.cls := findClass_of_methodNamed B.named
  have hlocks := B.notSynchronized
  have hS : va_S (fun _ => False) s.heap s.heap [] := va_S.rf
  have hl := lv_entry ([.int one, .int other]) (n := 2) (Nat.le_of_ble_eq_true rfl)
  rw [lg_entry_eq]
  generalize (lg_sl ([.int one, .int other]) ++ List.replicate (2 - (lg_sl ([.int one, .int other])).length) Slot.unset).toArray = ls at hl ⊢
  have hl : lv_has ls 2 [(0, .int one), (1, .int other)] := hl
  obtain ⟨ρ, hρ⟩ : ∃ ρ : Int32, ρ = P_pairOf one other := ⟨_, rfl⟩
  have hr : P_pairOf one other = ρ := hρ.symm
  rewrite [P_pairOf] at hr
  refine lv_iload_n hx hb dX6_pairOf_0 rfl (lv_at hl 0 rfl) ?_
  refine lv_bipush (v := 16) hx hb dX6_pairOf_1 (by decide) ?_
  refine lv_imul hx hb dX6_pairOf_3 ?_
  refine lv_iload_n hx hb dX6_pairOf_4 rfl (lv_at hl 1 rfl) ?_
  refine lv_iadd hx hb dX6_pairOf_5 ?_
  exact W.iret (v := (one * (16 : Int32)) + other) hx hb hr0 (fun t ht hW => kR_end (hr.trans hρ) hS ht) hS.2.2 dX6_pairOf_6
def P_oneOf (pair : Int32) : Int32 :=
  if 0 ≤ pair then
    pair / (16 : Int32)
  else
    (-1)
abbrev rm_X6_oneOf : Room := { frames := 0, cells := 0, slots := 0, locals := 0 }
set_option maxHeartbeats 4000000 in
set_option maxRecDepth 100000 in
theorem k_X6_oneOf (l : Launch) (dC : Nat → ClassId) (dI : Nat → Nat → Nat) (cI cN : ClassId) (pair : Int32) : Met l yX6_oneOf wsX6_oneOf rm_X6_oneOf (va_Pc [.int pair] (kW dC dI cI cN [])) (kR (P_oneOf pair)) 0 0 (fun _ => False) := by
  refine Met.ofW (cc := cX6_oneOf) (maxL := 1) (ret := (some .int)) (by decide) rfl ?_
  intro p e s m args below meth c s₁ B hml hv
  obtain ⟨rfl, hP, hK, hD, hN⟩ := hv
  have hx := B.exec
  have hb := B.bytes
  have hr0 := B.returns
  have hts := atoms_spec (ws := wsX6_oneOf) B.pre
  have hown : s.vm.findClass RX6 = some m.cls := findClass_of_methodNamed B.named
  have hlocks := B.notSynchronized
  have hS : va_S (fun _ => False) s.heap s.heap [] := va_S.rf
  have hl := lv_entry ([.int pair]) (n := 1) (Nat.le_of_ble_eq_true rfl)
  rw [lg_entry_eq]
  generalize (lg_sl ([.int pair]) ++ List.replicate (1 - (lg_sl ([.int pair])).length) Slot.unset).toArray = ls at hl ⊢
  have hl : lv_has ls 1 [(0, .int pair)] := hl
  obtain ⟨ρ, hρ⟩ : ∃ ρ : Int32, ρ = P_oneOf pair := ⟨_, rfl⟩
  have hr : P_oneOf pair = ρ := hρ.symm
  rewrite [P_oneOf] at hr
  refine lv_iload_n hx hb dX6_oneOf_0 rfl (lv_at hl 0 rfl) ?_
  refine lv_if_ge (tgt := 8) hx hb dX6_oneOf_1 (by decide) (fun c_1 => ?_) (fun c_1 => ?_)
  · have hr := if_to hr c_1
    refine lv_iload_n hx hb dX6_oneOf_8 rfl (lv_at hl 0 rfl) ?_
    refine lv_bipush (v := 16) hx hb dX6_oneOf_9 (by decide) ?_
    refine lv_idiv hx hb dX6_oneOf_11 (by decide) ?_
    exact W.iret (v := pair / (16 : Int32)) hx hb hr0 (fun t ht hW => kR_end (hr.trans hρ) hS ht) hS.2.2 dX6_oneOf_12
  · have hr := if_no hr c_1
    refine lv_iconst (v := (-1)) hx hb dX6_oneOf_4 (by decide) ?_
    refine lv_goto (tgt := 12) hx hb dX6_oneOf_5 (by decide) ?_
    exact W.iret (v := (-1)) hx hb hr0 (fun t ht hW => kR_end (hr.trans hρ) hS ht) hS.2.2 dX6_oneOf_12
def P_otherOf (pair : Int32) : Int32 :=
  if 0 ≤ pair then
    pair - pair / (16 : Int32) * (16 : Int32)
  else
    (-1)
abbrev rm_X6_otherOf : Room := { frames := 0, cells := 0, slots := 0, locals := 0 }
set_option maxHeartbeats 4000000 in
set_option maxRecDepth 100000 in
theorem k_X6_otherOf (l : Launch) (dC : Nat → ClassId) (dI : Nat → Nat → Nat) (cI cN : ClassId) (pair : Int32) : Met l yX6_otherOf wsX6_otherOf rm_X6_otherOf (va_Pc [.int pair] (kW dC dI cI cN [])) (kR (P_otherOf pair)) 0 0 (fun _ => False) := by
  refine Met.ofW (cc := cX6_otherOf) (maxL := 1) (ret := (some .int)) (by decide) rfl ?_
  intro p e s m args below meth c s₁ B hml hv
  obtain ⟨rfl, hP, hK, hD, hN⟩ := hv
  have hx := B.exec
  have hb := B.bytes
  have hr0 := B.returns
  have hts := atoms_spec (ws := wsX6_otherOf) B.pre
  have hown : s.vm.findClass RX6 = some m.cls := findClass_of_methodNamed B.named
  have hlocks := B.notSynchronized
  have hS : va_S (fun _ => False) s.heap s.heap [] := va_S.rf
  have hl := lv_entry ([.int pair]) (n := 1) (Nat.le_of_ble_eq_true rfl)
  rw [lg_entry_eq]
  generalize (lg_sl ([.int pair]) ++ List.replicate (1 - (lg_sl ([.int pair])).length) Slot.unset).toArray = ls at hl ⊢
  have hl : lv_has ls 1 [(0, .int pair)] := hl
  obtain ⟨ρ, hρ⟩ : ∃ ρ : Int32, ρ = P_otherOf pair := ⟨_, rfl⟩
  have hr : P_otherOf pair = ρ := hρ.symm
  rewrite [P_otherOf] at hr
  refine lv_iload_n hx hb dX6_otherOf_0 rfl (lv_at hl 0 rfl) ?_
  refine lv_if_ge (tgt := 8) hx hb dX6_otherOf_1 (by decide) (fun c_1 => ?_) (fun c_1 => ?_)
  · have hr := if_to hr c_1
    refine lv_iload_n hx hb dX6_otherOf_8 rfl (lv_at hl 0 rfl) ?_
    refine lv_bipush (v := 16) hx hb dX6_otherOf_9 (by decide) ?_
    refine lv_irem hx hb dX6_otherOf_11 (by decide) ?_
    exact W.iret (v := pair - pair / (16 : Int32) * (16 : Int32)) hx hb hr0 (fun t ht hW => kR_end (hr.trans hρ) hS ht) hS.2.2 dX6_otherOf_12
  · have hr := if_no hr c_1
    refine lv_iconst (v := (-1)) hx hb dX6_otherOf_4 (by decide) ?_
    refine lv_goto (tgt := 12) hx hb dX6_otherOf_5 (by decide) ?_
    exact W.iret (v := (-1)) hx hb hr0 (fun t ht hW => kR_end (hr.trans hρ) hS ht) hS.2.2 dX6_otherOf_12
end
section
/-! a net: what is asked of it (printed by wip/gen) -/
def P_nearOf (f : Nat → Int32) (knot : Int32) : Int32 :=
  if knot < 0 then
    0
  else
    if (16 : Int32) ≤ knot then
      0
    else
      f (knot).toNatClampNeg
abbrev rm_X3_nearOf : Room := { frames := 0, cells := 0, slots := 0, locals := 0 }
set_option maxHeartbeats 4000000 in
set_option maxRecDepth 100000 in
theorem k_X3_nearOf (l : Launch) (dC : Nat → ClassId) (dI : Nat → Nat → Nat) (cI cN : ClassId) (h0 : Nat) (h1 : Nat) (K : Nat) (f : Nat → Int32) (knot : Int32) (hK : K ≤ 16) : Met l yX3_nearOf wsX3_nearOf rm_X3_nearOf (va_Pc [.ref h0, .int knot] (kW dC dI cI cN [(h0, .inr (3, [.ref h1, .int (nI K)])), (h1, .inl (cI, 16, .inl f))])) (kR (P_nearOf f knot)) 0 0 (fun _ => False) := by
  refine Met.ofW (cc := cX3_nearOf) (maxL := 2) (ret := (some .int)) (by decide) rfl ?_
  intro p e s m args below meth c s₁ B hml hv
  obtain ⟨rfl, hP, hK, hD, hN⟩ := hv
  have hx := B.exec
  have hb := B.bytes
  have hr0 := B.returns
  have hts := atoms_spec (ws := wsX3_nearOf) B.pre
  have hown : s.vm.findClass RX3 = some m.cls := findClass_of_methodNamed B.named
  have hlocks := B.notSynchronized
  have hS : va_S (fun _ => False) s.heap s.heap [] := va_S.rf
  have hl := lv_entry ([.ref h0, .int knot]) (n := 2) (Nat.le_of_ble_eq_true rfl)
  rw [lg_entry_eq]
  generalize (lg_sl ([.ref h0, .int knot]) ++ List.replicate (2 - (lg_sl ([.ref h0, .int knot])).length) Slot.unset).toArray = ls at hl ⊢
  have hl : lv_has ls 2 [(0, .ref h0), (1, .int knot)] := hl
  obtain ⟨ρ, hρ⟩ : ∃ ρ : Int32, ρ = P_nearOf f knot := ⟨_, rfl⟩
  have hr : P_nearOf f knot = ρ := hρ.symm
  rewrite [P_nearOf] at hr
  refine lv_iload_n hx hb dX3_nearOf_0 rfl (lv_at hl 1 rfl) ?_
  refine lv_if_lt (tgt := 22) hx hb dX3_nearOf_1 (by decide) (fun c_1 => ?_) (fun c_1 => ?_)
  · have hr := if_to hr c_1
    refine lv_iconst (v := 0) hx hb dX3_nearOf_22 (by decide) ?_
    exact W.iret (v := 0) hx hb hr0 (fun t ht hW => kR_end (hr.trans hρ) hS ht) hS.2.2 dX3_nearOf_23
  · have hr := if_no hr c_1
    refine lv_iload_n hx hb dX3_nearOf_4 rfl (lv_at hl 1 rfl) ?_
    refine lv_aload_n hx hb dX3_nearOf_5 rfl (lv_at hl 0 rfl) ?_
    refine va_get (D := (dC, dI)) (ci := 3) (v := .ref h1) (C := RX3) (T := TX3) (N := 2) hx hb hts (by decide +kernel) hown hK hP 0 rfl rfl 0 (by decide) (hts (.fieldLink RX3 9 "Shortring$Net" "near" "[I") (by decide +kernel)) (fun _ h9 => h9) rfl dX3_nearOf_6 ?_
    refine va_alen (v := 16) hx hb hK hP 1 0 rfl rfl rfl dX3_nearOf_9 ?_
    refine lv_icmp_ge (tgt := 22) hx hb dX3_nearOf_10 (by decide) (fun c_2 => ?_) (fun c_2 => ?_)
    · have hr := if_to hr c_2
      refine lv_iconst (v := 0) hx hb dX3_nearOf_22 (by decide) ?_
      exact W.iret (v := 0) hx hb hr0 (fun t ht hW => kR_end (hr.trans hρ) hS ht) hS.2.2 dX3_nearOf_23
    · have hr := if_no hr c_2
      refine lv_aload_n hx hb dX3_nearOf_13 rfl (lv_at hl 0 rfl) ?_
      refine va_get (D := (dC, dI)) (ci := 3) (v := .ref h1) (C := RX3) (T := TX3) (N := 2) hx hb hts (by decide +kernel) hown hK hP 0 rfl rfl 0 (by decide) (hts (.fieldLink RX3 9 "Shortring$Net" "near" "[I") (by decide +kernel)) (fun _ h9 => h9) rfl dX3_nearOf_14 ?_
      refine lv_iload_n hx hb dX3_nearOf_17 rfl (lv_at hl 1 rfl) ?_
      refine va_iald hx hb hK hP 1 0 rfl rfl (kIn (N := 16) (by decide) (by assumption) (by assumption)) dX3_nearOf_18 ?_
      refine lv_goto (tgt := 23) hx hb dX3_nearOf_19 (by decide) ?_
      exact W.iret (v := f (knot).toNatClampNeg) hx hb hr0 (fun t ht hW => kR_end (hr.trans hρ) hS ht) hS.2.2 dX3_nearOf_23
def P_isKnot (K : Nat) (knot : Int32) : Int32 :=
  if knot < 0 then
    0
  else
    if (nI K) ≤ knot then
      0
    else
      if (16 : Int32) ≤ knot then
        0
      else
        1
abbrev rm_X3_isKnot : Room := { frames := 0, cells := 0, slots := 0, locals := 0 }
set_option maxHeartbeats 4000000 in
set_option maxRecDepth 100000 in
theorem k_X3_isKnot (l : Launch) (dC : Nat → ClassId) (dI : Nat → Nat → Nat) (cI cN : ClassId) (h0 : Nat) (h1 : Nat) (K : Nat) (f : Nat → Int32) (knot : Int32) (hK : K ≤ 16) : Met l yX3_isKnot wsX3_isKnot rm_X3_isKnot (va_Pc [.ref h0, .int knot] (kW dC dI cI cN [(h0, .inr (3, [.ref h1, .int (nI K)])), (h1, .inl (cI, 16, .inl f))])) (kR (P_isKnot K knot)) 0 0 (fun _ => False) := by
  refine Met.ofW (cc := cX3_isKnot) (maxL := 2) (ret := (some .boolean)) (by decide) rfl ?_
  intro p e s m args below meth c s₁ B hml hv
  obtain ⟨rfl, hP, hK, hD, hN⟩ := hv
  have hx := B.exec
  have hb := B.bytes
  have hr0 := B.returns
  have hts := atoms_spec (ws := wsX3_isKnot) B.pre
  have hown : s.vm.findClass RX3 = some m.cls := findClass_of_methodNamed B.named
  have hlocks := B.notSynchronized
  have hS : va_S (fun _ => False) s.heap s.heap [] := va_S.rf
  have hl := lv_entry ([.ref h0, .int knot]) (n := 2) (Nat.le_of_ble_eq_true rfl)
  rw [lg_entry_eq]
  generalize (lg_sl ([.ref h0, .int knot]) ++ List.replicate (2 - (lg_sl ([.ref h0, .int knot])).length) Slot.unset).toArray = ls at hl ⊢
  have hl : lv_has ls 2 [(0, .ref h0), (1, .int knot)] := hl
  obtain ⟨ρ, hρ⟩ : ∃ ρ : Int32, ρ = P_isKnot K knot := ⟨_, rfl⟩
  have hr : P_isKnot K knot = ρ := hρ.symm
  rewrite [P_isKnot] at hr
  refine lv_iload_n hx hb dX3_isKnot_0 rfl (lv_at hl 1 rfl) ?_
  refine lv_if_lt (tgt := 25) hx hb dX3_isKnot_1 (by decide) (fun c_1 => ?_) (fun c_1 => ?_)
  · have hr := if_to hr c_1
    refine lv_iconst (v := 0) hx hb dX3_isKnot_25 (by decide) ?_
    exact W.zret (v := 0) hx hb hr0 rfl (fun t ht hW => kR_end (hr.trans hρ) hS ht) hS.2.2 dX3_isKnot_26
  · have hr := if_no hr c_1
    refine lv_iload_n hx hb dX3_isKnot_4 rfl (lv_at hl 1 rfl) ?_
    refine lv_aload_n hx hb dX3_isKnot_5 rfl (lv_at hl 0 rfl) ?_
    refine va_get (D := (dC, dI)) (ci := 3) (v := .int (nI K)) (C := RX3) (T := TX3) (N := 2) hx hb hts (by decide +kernel) hown hK hP 0 rfl rfl 1 (by decide) (hts (.fieldLink RX3 15 "Shortring$Net" "knots" "I") (by decide +kernel)) (fun _ h9 => h9) rfl dX3_isKnot_6 ?_
    refine lv_icmp_ge (tgt := 25) hx hb dX3_isKnot_9 (by decide) (fun c_2 => ?_) (fun c_2 => ?_)
    · have hr := if_to hr c_2
      refine lv_iconst (v := 0) hx hb dX3_isKnot_25 (by decide) ?_
      exact W.zret (v := 0) hx hb hr0 rfl (fun t ht hW => kR_end (hr.trans hρ) hS ht) hS.2.2 dX3_isKnot_26
    · have hr := if_no hr c_2
      refine lv_iload_n hx hb dX3_isKnot_12 rfl (lv_at hl 1 rfl) ?_
      refine lv_aload_n hx hb dX3_isKnot_13 rfl (lv_at hl 0 rfl) ?_
      refine va_get (D := (dC, dI)) (ci := 3) (v := .ref h1) (C := RX3) (T := TX3) (N := 2) hx hb hts (by decide +kernel) hown hK hP 0 rfl rfl 0 (by decide) (hts (.fieldLink RX3 9 "Shortring$Net" "near" "[I") (by decide +kernel)) (fun _ h9 => h9) rfl dX3_isKnot_14 ?_
      refine va_alen (v := 16) hx hb hK hP 1 0 rfl rfl rfl dX3_isKnot_17 ?_
      refine lv_icmp_ge (tgt := 25) hx hb dX3_isKnot_18 (by decide) (fun c_3 => ?_) (fun c_3 => ?_)
      · have hr := if_to hr c_3
        refine lv_iconst (v := 0) hx hb dX3_isKnot_25 (by decide) ?_
        exact W.zret (v := 0) hx hb hr0 rfl (fun t ht hW => kR_end (hr.trans hρ) hS ht) hS.2.2 dX3_isKnot_26
      · have hr := if_no hr c_3
        refine lv_iconst (v := 1) hx hb dX3_isKnot_21 (by decide) ?_
        refine lv_goto (tgt := 26) hx hb dX3_isKnot_22 (by decide) ?_
        exact W.zret (v := 1) hx hb hr0 rfl (fun t ht hW => kR_end (hr.trans hρ) hS ht) hS.2.2 dX3_isKnot_26
theorem P_isKnot_b (K : Nat) (knot : Int32) : P_isKnot K knot = 0 ∨ P_isKnot K knot = 1 := by
  unfold P_isKnot
  repeat' split
  all_goals first | exact Or.inl rfl | exact Or.inr rfl
theorem P_isKnot_in {K : Nat} {knot : Int32} (h : ¬ P_isKnot K knot = 0) : vp_in knot 16 := by
  unfold P_isKnot at h
  split at h
  · exact absurd rfl h
  · split at h
    · exact absurd rfl h
    · split at h
      · exact absurd rfl h
      · exact kIn (N := 16) (by decide) (by assumption) (by assumption)
def P_isNear (f : Nat → Int32) (one : Int32) (other : Int32) : Int32 :=
  P_holds (P_nearOf f one) other
abbrev rm_X3_isNear : Room := { frames := 1, cells := 0, slots := 0, locals := 21 }
set_option maxHeartbeats 4000000 in
set_option maxRecDepth 100000 in
theorem k_X3_isNear (l : Launch) (dC : Nat → ClassId) (dI : Nat → Nat → Nat) (cI cN : ClassId) (h0 : Nat) (h1 : Nat) (K : Nat) (f : Nat → Int32) (one : Int32) (other : Int32) (hK : K ≤ 16) : Met l yX3_isNear wsX3_isNear rm_X3_isNear (va_Pc [.ref h0, .int one, .int other] (kW dC dI cI cN [(h0, .inr (3, [.ref h1, .int (nI K)])), (h1, .inl (cI, 16, .inl f))])) (kR (P_isNear f one other)) 0 0 (fun _ => False) := by
  refine Met.ofW (cc := cX3_isNear) (maxL := 3) (ret := (some .boolean)) (by decide) rfl ?_
  intro p e s m args below meth c s₁ B hml hv
  obtain ⟨rfl, hP, hK, hD, hN⟩ := hv
  have hx := B.exec
  have hb := B.bytes
  have hr0 := B.returns
  have hts := atoms_spec (ws := wsX3_isNear) B.pre
  have hown : s.vm.findClass RX3 = some m.cls := findClass_of_methodNamed B.named
  have hlocks := B.notSynchronized
  have hS : va_S (fun _ => False) s.heap s.heap [] := va_S.rf
  have hl := lv_entry ([.ref h0, .int one, .int other]) (n := 3) (Nat.le_of_ble_eq_true rfl)
  rw [lg_entry_eq]
  generalize (lg_sl ([.ref h0, .int one, .int other]) ++ List.replicate (3 - (lg_sl ([.ref h0, .int one, .int other])).length) Slot.unset).toArray = ls at hl ⊢
  have hl : lv_has ls 3 [(0, .ref h0), (1, .int one), (2, .int other)] := hl
  obtain ⟨ρ, hρ⟩ : ∃ ρ : Int32, ρ = P_isNear f one other := ⟨_, rfl⟩
  have hr : P_isNear f one other = ρ := hρ.symm
  rewrite [P_isNear] at hr
  refine lv_aload_n hx hb dX3_isNear_0 rfl (lv_at hl 0 rfl) ?_
  refine lv_iload_n hx hb dX3_isNear_1 rfl (lv_at hl 1 rfl) ?_
  refine kCall (va_runV (As := [.int one]) (rest := []) ⟨hx, hb, hml, hown, hts⟩ (k_X3_nearOf l dC dI cI cN h0 h1 K f one (by first | assumption | omega | decide | exact hbap _)) (cwV 1 hts gX3_isNear_X3_nearOf rfl rfl rfl (by decide +kernel) ⟨Nat.le_of_ble_eq_true rfl, Nat.le_of_ble_eq_true rfl⟩) (kW_V hP hK hD hN (ci := 3) (q0 := 0) rfl rfl [0, 1] rfl rfl rfl) rfl rfl hl.1 rfl (lv_room (Nat.le_of_ble_eq_true rfl)) dX3_isNear_2 ⟨Nat.zero_le _, Nat.zero_le _⟩) hP hS (fun H locs hP hS => ?_)
  refine lv_iload_n hx hb dX3_isNear_5 rfl (lv_at hl 2 rfl) ?_
  refine kCall (va_runSN (As := [.int (P_nearOf f one), .int other]) (rest := []) ⟨hx, hb, hml, hown, hts⟩ (k_X6_holds l dC dI cI cN (P_nearOf f one) other) ⟨va_cnB 2 hts gX3_isNear_X6_holds_n23 rfl rfl rfl (hN.1 61 _ rfl) (hts (.initialized RX6) (by decide +kernel)) (by decide +kernel) ⟨Nat.le_of_ble_eq_true rfl, Nat.le_of_ble_eq_true rfl⟩, hts (.static yX6_holds) (by decide +kernel), trivial⟩ (kW_S hP hK hD hN [] rfl rfl rfl) rfl rfl hl.1 rfl (lv_room (Nat.le_of_ble_eq_true rfl)) dX3_isNear_6 ⟨Nat.zero_le _, Nat.zero_le _⟩) hP hS (fun H locs hP hS => ?_)
  exact W.zret (v := P_holds (P_nearOf f one) other) hx hb hr0 (kBool (P_holds_b (P_nearOf f one) other)) (fun t ht hW => kR_end (hr.trans hρ) hS ht) hS.2.2 dX3_isNear_9
def P_countOf (f : Nat → Int32) (knot : Int32) : Int32 :=
  P_bitCount (P_nearOf f knot)
abbrev rm_X3_countOf : Room := { frames := 1, cells := 0, slots := 0, locals := 21 }
set_option maxHeartbeats 4000000 in
set_option maxRecDepth 100000 in
theorem k_X3_countOf (l : Launch) (dC : Nat → ClassId) (dI : Nat → Nat → Nat) (cI cN : ClassId) (h0 : Nat) (h1 : Nat) (K : Nat) (f : Nat → Int32) (knot : Int32) (hK : K ≤ 16) : Met l yX3_countOf wsX3_countOf rm_X3_countOf (va_Pc [.ref h0, .int knot] (kW dC dI cI cN [(h0, .inr (3, [.ref h1, .int (nI K)])), (h1, .inl (cI, 16, .inl f))])) (kR (P_countOf f knot)) 0 0 (fun _ => False) := by
  refine Met.ofW (cc := cX3_countOf) (maxL := 2) (ret := (some .int)) (by decide) rfl ?_
  intro p e s m args below meth c s₁ B hml hv
  obtain ⟨rfl, hP, hK, hD, hN⟩ := hv
  have hx := B.exec
  have hb := B.bytes
  have hr0 := B.returns
  have hts := atoms_spec (ws := wsX3_countOf) B.pre
  have hown : s.vm.findClass RX3 = some m.cls := findClass_of_methodNamed B.named
  have hlocks := B.notSynchronized
  have hS : va_S (fun _ => False) s.heap s.heap [] := va_S.rf
  have hl := lv_entry ([.ref h0, .int knot]) (n := 2) (Nat.le_of_ble_eq_true rfl)
  rw [lg_entry_eq]
  generalize (lg_sl ([.ref h0, .int knot]) ++ List.replicate (2 - (lg_sl ([.ref h0, .int knot])).length) Slot.unset).toArray = ls at hl ⊢
  have hl : lv_has ls 2 [(0, .ref h0), (1, .int knot)] := hl
  obtain ⟨ρ, hρ⟩ : ∃ ρ : Int32, ρ = P_countOf f knot := ⟨_, rfl⟩
  have hr : P_countOf f knot = ρ := hρ.symm
  rewrite [P_countOf] at hr
  refine lv_aload_n hx hb dX3_countOf_0 rfl (lv_at hl 0 rfl) ?_
  refine lv_iload_n hx hb dX3_countOf_1 rfl (lv_at hl 1 rfl) ?_
  refine kCall (va_runV (As := [.int knot]) (rest := []) ⟨hx, hb, hml, hown, hts⟩ (k_X3_nearOf l dC dI cI cN h0 h1 K f knot (by first | assumption | omega | decide | exact hbap _)) (cwV 1 hts gX3_countOf_X3_nearOf rfl rfl rfl (by decide +kernel) ⟨Nat.le_of_ble_eq_true rfl, Nat.le_of_ble_eq_true rfl⟩) (kW_V hP hK hD hN (ci := 3) (q0 := 0) rfl rfl [0, 1] rfl rfl rfl) rfl rfl hl.1 rfl (lv_room (Nat.le_of_ble_eq_true rfl)) dX3_countOf_2 ⟨Nat.zero_le _, Nat.zero_le _⟩) hP hS (fun H locs hP hS => ?_)
  refine kCall (va_runS (As := [.int (P_nearOf f knot)]) (rest := []) ⟨hx, hb, hml, hown, hts⟩ (k_J6_bitCount_0f7a4 l dC dI cI cN (P_nearOf f knot)) (va_cwS 1 hts gX3_countOf_J6_bitCount_0f7a4 rfl rfl rfl (by decide +kernel) ⟨Nat.le_of_ble_eq_true rfl, Nat.le_of_ble_eq_true rfl⟩) (kW_S hP hK hD hN [] rfl rfl rfl) rfl rfl hl.1 rfl (lv_room (Nat.le_of_ble_eq_true rfl)) dX3_countOf_5 ⟨Nat.zero_le _, Nat.zero_le _⟩) hP hS (fun H locs hP hS => ?_)
  exact W.iret (v := P_bitCount (P_nearOf f knot)) hx hb hr0 (fun t ht hW => kR_end (hr.trans hρ) hS ht) hS.2.2 dX3_countOf_8
def L_edgesInAll_4 (K : Nat) (f : Nat → Int32) (k : Int32 → Int32) : Nat → Nat → Int32 → Int32
  | 0, i, ends => k ends
  | n + 1, i, ends =>
    bd (ends + (P_countOf f (nI i))) (fun ends_1 =>
      L_edgesInAll_4 K f k n (i + 1) ends_1)
def P_edgesInAll (K : Nat) (f : Nat → Int32) : Int32 :=
  L_edgesInAll_4 K f (fun ends => ends / (2 : Int32)) K 0 0
abbrev rm_X3_edgesInAll : Room := { frames := 2, cells := 0, slots := 0, locals := 42 }
set_option maxHeartbeats 4000000 in
set_option maxRecDepth 100000 in
theorem k_X3_edgesInAll (l : Launch) (dC : Nat → ClassId) (dI : Nat → Nat → Nat) (cI cN : ClassId) (h0 : Nat) (h1 : Nat) (K : Nat) (f : Nat → Int32) (hK : K ≤ 16) : Met l yX3_edgesInAll wsX3_edgesInAll rm_X3_edgesInAll (va_Pc [.ref h0] (kW dC dI cI cN [(h0, .inr (3, [.ref h1, .int (nI K)])), (h1, .inl (cI, 16, .inl f))])) (kR (P_edgesInAll K f)) 0 0 (fun _ => False) := by
  refine Met.ofW (cc := cX3_edgesInAll) (maxL := 3) (ret := (some .int)) (by decide) rfl ?_
  intro p e s m args below meth c s₁ B hml hv
  obtain ⟨rfl, hP, hK, hD, hN⟩ := hv
  have hx := B.exec
  have hb := B.bytes
  have hr0 := B.returns
  have hts := atoms_spec (ws := wsX3_edgesInAll) B.pre
  have hown : s.vm.findClass RX3 = some m.cls := findClass_of_methodNamed B.named
  have hlocks := B.notSynchronized
  have hS : va_S (fun _ => False) s.heap s.heap [] := va_S.rf
  have hl := lv_entry ([.ref h0]) (n := 3) (Nat.le_of_ble_eq_true rfl)
  rw [lg_entry_eq]
  generalize (lg_sl ([.ref h0]) ++ List.replicate (3 - (lg_sl ([.ref h0])).length) Slot.unset).toArray = ls at hl ⊢
  have hl : lv_has ls 3 [(0, .ref h0)] := hl
  obtain ⟨ρ, hρ⟩ : ∃ ρ : Int32, ρ = P_edgesInAll K f := ⟨_, rfl⟩
  have hr : P_edgesInAll K f = ρ := hρ.symm
  rewrite [P_edgesInAll] at hr
  refine lv_iconst (v := 0) hx hb dX3_edgesInAll_0 (by decide) ?_
  refine lv_istore_n (lv' := [(1, .int 0), (0, .ref h0)]) hx hb dX3_edgesInAll_1 rfl hl (by decide) rfl (fun ls hl => ?_)
  refine lv_iconst (v := 0) hx hb dX3_edgesInAll_2 (by decide) ?_
  refine lv_istore_n (lv' := [(2, .int 0), (1, .int 0), (0, .ref h0)]) hx hb dX3_edgesInAll_3 rfl hl (by decide) rfl (fun ls hl => ?_)
  have ex_4 : ∀ (ends : Int32) (H : Heap) (locs : List Loc) (ls : Array Slot), ends / (2 : Int32) = ρ → va_P (dC, dI) kCl [(h0, .inr (3, [.ref h1, .int (nI K)])), (h1, .inl (cI, 16, .inl f))] H → va_S (fun _ => False) s.heap H locs → lv_has ls 3 [(1, .int ends), (0, .ref h0)] → W p l e (headSpec wsX3_edgesInAll rm_X3_edgesInAll).room s m (([.ref h0] : List Value).toArray) below meth c H locs 0 0 (MQ below (kR (P_edgesInAll K f)) (([.ref h0] : List Value).toArray) s 0 0 (fun _ => False)) (F0 m 26 ls []) := by
    intro ends H locs ls hr hP hS hl
    refine lv_iload_n hx hb dX3_edgesInAll_26 rfl (lv_at hl 0 rfl) ?_
    refine lv_iconst (v := 2) hx hb dX3_edgesInAll_27 (by decide) ?_
    refine lv_idiv hx hb dX3_edgesInAll_28 (by decide) ?_
    exact W.iret (v := ends / (2 : Int32)) hx hb hr0 (fun t ht hW => kR_end (hr.trans hρ) hS ht) hS.2.2 dX3_edgesInAll_29
  have lp_4 : ∀ (n_4 i : Nat) (ends : Int32) (H : Heap) (locs : List Loc) (ls : Array Slot), i + n_4 = K → L_edgesInAll_4 K f (fun ends => ends / (2 : Int32)) n_4 i ends = ρ → va_P (dC, dI) kCl [(h0, .inr (3, [.ref h1, .int (nI K)])), (h1, .inl (cI, 16, .inl f))] H → va_S (fun _ => False) s.heap H locs → lv_has ls 3 [(2, .int (nI i)), (1, .int ends), (0, .ref h0)] → W p l e (headSpec wsX3_edgesInAll rm_X3_edgesInAll).room s m (([.ref h0] : List Value).toArray) below meth c H locs 0 0 (MQ below (kR (P_edgesInAll K f)) (([.ref h0] : List Value).toArray) s 0 0 (fun _ => False)) (F0 m 4 ls []) := by
    intro n_4
    induction n_4 with
    | zero =>
      intro i ends H locs ls hi hr hP hS hl
      rewrite [L_edgesInAll_4] at hr
      refine lv_iload_n hx hb dX3_edgesInAll_4 rfl (lv_at hl 0 rfl) ?_
      refine lv_aload_n hx hb dX3_edgesInAll_5 rfl (lv_at hl 2 rfl) ?_
      refine va_get (D := (dC, dI)) (ci := 3) (v := .int (nI K)) (C := RX3) (T := TX3) (N := 2) hx hb hts (by decide +kernel) hown hK hP 0 rfl rfl 1 (by decide) (hts (.fieldLink RX3 15 "Shortring$Net" "knots" "I") (by decide +kernel)) (fun _ h9 => h9) rfl dX3_edgesInAll_6 ?_
      refine lv_icmp_ge (tgt := 26) hx hb dX3_edgesInAll_9 (by decide) (fun c_1 => ?_) (fun c_1 => ?_)
      · exact ex_4 ends _ _ _ hr hP hS (lv_sub hl [1, 2] rfl)
      · exact absurd (kTop (i := i) (N := K) rfl (by omega)) c_1
    | succ n_4 ih_4 =>
      intro i ends H locs ls hi hr hP hS hl
      rewrite [L_edgesInAll_4] at hr
      refine lv_iload_n hx hb dX3_edgesInAll_4 rfl (lv_at hl 0 rfl) ?_
      refine lv_aload_n hx hb dX3_edgesInAll_5 rfl (lv_at hl 2 rfl) ?_
      refine va_get (D := (dC, dI)) (ci := 3) (v := .int (nI K)) (C := RX3) (T := TX3) (N := 2) hx hb hts (by decide +kernel) hown hK hP 0 rfl rfl 1 (by decide) (hts (.fieldLink RX3 15 "Shortring$Net" "knots" "I") (by decide +kernel)) (fun _ h9 => h9) rfl dX3_edgesInAll_6 ?_
      refine lv_icmp_ge (tgt := 26) hx hb dX3_edgesInAll_9 (by decide) (fun c_2 => ?_) (fun c_2 => ?_)
      · exact absurd c_2 (kLow (i := i) (N := K) rfl (by omega) (by omega))
      · refine lv_iload_n hx hb dX3_edgesInAll_12 rfl (lv_at hl 1 rfl) ?_
        refine lv_aload_n hx hb dX3_edgesInAll_13 rfl (lv_at hl 2 rfl) ?_
        refine lv_iload_n hx hb dX3_edgesInAll_14 rfl (lv_at hl 0 rfl) ?_
        refine kCall (va_runV (As := [.int (nI i)]) (rest := [.int ends]) ⟨hx, hb, hml, hown, hts⟩ (k_X3_countOf l dC dI cI cN h0 h1 K f (nI i) (by first | assumption | omega | decide | exact hbap _)) (cwV 1 hts gX3_edgesInAll_X3_countOf rfl rfl rfl (by decide +kernel) ⟨Nat.le_of_ble_eq_true rfl, Nat.le_of_ble_eq_true rfl⟩) (kW_V hP hK hD hN (ci := 3) (q0 := 0) rfl rfl [0, 1] rfl rfl rfl) rfl rfl hl.1 rfl (lv_room (Nat.le_of_ble_eq_true rfl)) dX3_edgesInAll_15 ⟨Nat.zero_le _, Nat.zero_le _⟩) hP hS (fun H locs hP hS => ?_)
        refine lv_iadd hx hb dX3_edgesInAll_18 ?_
        refine lv_topi (fun ends_3 eends_3 => ?_)
        have hr := bd_to hr eends_3
        refine lv_istore_n (lv' := [(1, .int ends_3), (2, .int (nI i)), (0, .ref h0)]) hx hb dX3_edgesInAll_19 rfl hl (by decide) rfl (fun ls hl => ?_)
        refine lv_iinc (v := nI (i + 1)) (lv' := [(2, .int (nI (i + 1))), (1, .int ends_3), (0, .ref h0)]) hx hb dX3_edgesInAll_20 hl (k := 1) rfl (nI_1 _) (by decide) rfl (fun ls hl => ?_)
        refine lv_goto (tgt := 4) hx hb dX3_edgesInAll_23 (by decide) ?_
        exact ih_4 (i + 1) ends_3 _ _ _ (by omega) hr hP hS (lv_sub hl [0, 1, 2] rfl)
  exact lp_4 K 0 0 _ _ _ (by omega) hr hP hS (lv_sub hl [0, 1, 2] rfl)
def L_numberedIn_4 (set : Int32) (place : Int32) (k : Int32 → Int32) : Nat → Nat → Int32 → Int32
  | 0, i, left => k left
  | n + 1, i, left =>
    bd (left &&& (left - (1 : Int32))) (fun left_1 =>
      L_numberedIn_4 set place k n (i + 1) left_1)
def P_numberedIn (set : Int32) (place : Int32) : Int32 :=
  L_numberedIn_4 set place (fun left => P_firstOf left) place.toNatClampNeg 0 set
abbrev rm_X3_numberedIn : Room := { frames := 2, cells := 0, slots := 0, locals := 40 }
set_option maxHeartbeats 4000000 in
set_option maxRecDepth 100000 in
theorem k_X3_numberedIn (l : Launch) (dC : Nat → ClassId) (dI : Nat → Nat → Nat) (cI cN : ClassId) (set : Int32) (place : Int32) : Met l yX3_numberedIn wsX3_numberedIn rm_X3_numberedIn (va_Pc [.int set, .int place] (kW dC dI cI cN [])) (kR (P_numberedIn set place)) 0 0 (fun _ => False) := by
  refine Met.ofW (cc := cX3_numberedIn) (maxL := 4) (ret := (some .int)) (by decide) rfl ?_
  intro p e s m args below meth c s₁ B hml hv
  obtain ⟨rfl, hP, hK, hD, hN⟩ := hv
  have hx := B.exec
  have hb := B.bytes
  have hr0 := B.returns
  have hts := atoms_spec (ws := wsX3_numberedIn) B.pre
  have hown : s.vm.findClass RX3 = some m.cls := findClass_of_methodNamed B.named
  have hlocks := B.notSynchronized
  have hS : va_S (fun _ => False) s.heap s.heap [] := va_S.rf
  have hl := lv_entry ([.int set, .int place]) (n := 4) (Nat.le_of_ble_eq_true rfl)
  rw [lg_entry_eq]
  generalize (lg_sl ([.int set, .int place]) ++ List.replicate (4 - (lg_sl ([.int set, .int place])).length) Slot.unset).toArray = ls at hl ⊢
  have hl : lv_has ls 4 [(0, .int set), (1, .int place)] := hl
  obtain ⟨ρ, hρ⟩ : ∃ ρ : Int32, ρ = P_numberedIn set place := ⟨_, rfl⟩
  have hr : P_numberedIn set place = ρ := hρ.symm
  rewrite [P_numberedIn] at hr
  refine lv_iload_n hx hb dX3_numberedIn_0 rfl (lv_at hl 0 rfl) ?_
  refine lv_istore_n (lv' := [(2, .int set), (0, .int set), (1, .int place)]) hx hb dX3_numberedIn_1 rfl hl (by decide) rfl (fun ls hl => ?_)
  refine lv_iconst (v := 0) hx hb dX3_numberedIn_2 (by decide) ?_
  refine lv_istore_n (lv' := [(3, .int 0), (2, .int set), (0, .int set), (1, .int place)]) hx hb dX3_numberedIn_3 rfl hl (by decide) rfl (fun ls hl => ?_)
  have ex_4 : ∀ (left : Int32) (H : Heap) (locs : List Loc) (ls : Array Slot), P_firstOf left = ρ → va_P (dC, dI) kCl [] H → va_S (fun _ => False) s.heap H locs → lv_has ls 4 [(2, .int left), (1, .int place)] → W p l e (headSpec wsX3_numberedIn rm_X3_numberedIn).room s m (([.int set, .int place] : List Value).toArray) below meth c H locs 0 0 (MQ below (kR (P_numberedIn set place)) (([.int set, .int place] : List Value).toArray) s 0 0 (fun _ => False)) (F0 m 21 ls []) := by
    intro left H locs ls hr hP hS hl
    refine lv_iload_n hx hb dX3_numberedIn_21 rfl (lv_at hl 0 rfl) ?_
    refine kCall (va_runSN (As := [.int left]) (rest := []) ⟨hx, hb, hml, hown, hts⟩ (k_X6_firstOf l dC dI cI cN left) ⟨va_cnB 1 hts gX3_numberedIn_X6_firstOf_n49 rfl rfl rfl (hN.1 64 _ rfl) (hts (.initialized RX6) (by decide +kernel)) (by decide +kernel) ⟨Nat.le_of_ble_eq_true rfl, Nat.le_of_ble_eq_true rfl⟩, hts (.static yX6_firstOf) (by decide +kernel), trivial⟩ (kW_S hP hK hD hN [] rfl rfl rfl) rfl rfl hl.1 rfl (lv_room (Nat.le_of_ble_eq_true rfl)) dX3_numberedIn_22 ⟨Nat.zero_le _, Nat.zero_le _⟩) hP hS (fun H locs hP hS => ?_)
    exact W.iret (v := P_firstOf left) hx hb hr0 (fun t ht hW => kR_end (hr.trans hρ) hS ht) hS.2.2 dX3_numberedIn_25
  have lp_4 : ∀ (n_4 i : Nat) (left : Int32) (H : Heap) (locs : List Loc) (ls : Array Slot), i + n_4 = place.toNatClampNeg → L_numberedIn_4 set place (fun left => P_firstOf left) n_4 i left = ρ → va_P (dC, dI) kCl [] H → va_S (fun _ => False) s.heap H locs → lv_has ls 4 [(3, .int (nI i)), (2, .int left), (1, .int place)] → W p l e (headSpec wsX3_numberedIn rm_X3_numberedIn).room s m (([.int set, .int place] : List Value).toArray) below meth c H locs 0 0 (MQ below (kR (P_numberedIn set place)) (([.int set, .int place] : List Value).toArray) s 0 0 (fun _ => False)) (F0 m 4 ls []) := by
    intro n_4
    induction n_4 with
    | zero =>
      intro i left H locs ls hi hr hP hS hl
      rewrite [L_numberedIn_4] at hr
      refine lv_iload_n hx hb dX3_numberedIn_4 rfl (lv_at hl 0 rfl) ?_
      refine lv_iload_n hx hb dX3_numberedIn_5 rfl (lv_at hl 2 rfl) ?_
      refine lv_icmp_ge (tgt := 21) hx hb dX3_numberedIn_6 (by decide) (fun c_1 => ?_) (fun c_1 => ?_)
      · exact ex_4 left _ _ _ hr hP hS (lv_sub hl [1, 2] rfl)
      · exact absurd (kTopC (i := i) (by omega)) c_1
    | succ n_4 ih_4 =>
      intro i left H locs ls hi hr hP hS hl
      rewrite [L_numberedIn_4] at hr
      refine lv_iload_n hx hb dX3_numberedIn_4 rfl (lv_at hl 0 rfl) ?_
      refine lv_iload_n hx hb dX3_numberedIn_5 rfl (lv_at hl 2 rfl) ?_
      refine lv_icmp_ge (tgt := 21) hx hb dX3_numberedIn_6 (by decide) (fun c_2 => ?_) (fun c_2 => ?_)
      · exact absurd c_2 (kLowC (i := i) (by omega))
      · refine lv_iload_n hx hb dX3_numberedIn_9 rfl (lv_at hl 1 rfl) ?_
        refine lv_iload_n hx hb dX3_numberedIn_10 rfl (lv_at hl 1 rfl) ?_
        refine lv_iconst (v := 1) hx hb dX3_numberedIn_11 (by decide) ?_
        refine lv_isub hx hb dX3_numberedIn_12 ?_
        refine lv_iand hx hb dX3_numberedIn_13 ?_
        refine lv_topi (fun left_3 eleft_3 => ?_)
        have hr := bd_to hr eleft_3
        refine lv_istore_n (lv' := [(2, .int left_3), (3, .int (nI i)), (1, .int place)]) hx hb dX3_numberedIn_14 rfl hl (by decide) rfl (fun ls hl => ?_)
        refine lv_iinc (v := nI (i + 1)) (lv' := [(3, .int (nI (i + 1))), (2, .int left_3), (1, .int place)]) hx hb dX3_numberedIn_15 hl (k := 1) rfl (nI_1 _) (by decide) rfl (fun ls hl => ?_)
        refine lv_goto (tgt := 4) hx hb dX3_numberedIn_18 (by decide) ?_
        exact ih_4 (i + 1) left_3 _ _ _ (by omega) hr hP hS (lv_sub hl [0, 1, 2] rfl)
  exact lp_4 place.toNatClampNeg 0 set _ _ _ (by omega) hr hP hS (lv_sub hl [0, 1, 3] rfl)
def L_edgeAt_4 (K : Nat) (f : Nat → Int32) (number : Int32) (k : Int32 → Int32) : Nat → Nat → Int32 → Int32
  | 0, one, left => k left
  | n + 1, one, left =>
    if left < 0 then
      k left
    else
      bd ((P_nearOf f (nI one)) &&& (((P_bit ((nI one) + (1 : Int32))) - (1 : Int32)) ^^^ (-1 : Int32))) (fun above_1 =>
        bd (P_bitCount above_1) (fun many_2 =>
          if many_2 ≤ left then
            bd (left - many_2) (fun left_3 =>
              L_edgeAt_4 K f number k n (one + 1) left_3)
          else
            P_pairOf (nI one) (P_numberedIn above_1 left)))
def P_edgeAt (K : Nat) (f : Nat → Int32) (number : Int32) : Int32 :=
  L_edgeAt_4 K f number (fun left => (-1)) K 0 number
abbrev rm_X3_edgeAt : Room := { frames := 3, cells := 0, slots := 0, locals := 63 }
set_option maxHeartbeats 4000000 in
set_option maxRecDepth 100000 in
theorem k_X3_edgeAt (l : Launch) (dC : Nat → ClassId) (dI : Nat → Nat → Nat) (cI cN : ClassId) (h0 : Nat) (h1 : Nat) (K : Nat) (f : Nat → Int32) (number : Int32) (hK : K ≤ 16) : Met l yX3_edgeAt wsX3_edgeAt rm_X3_edgeAt (va_Pc [.ref h0, .int number] (kW dC dI cI cN [(h0, .inr (3, [.ref h1, .int (nI K)])), (h1, .inl (cI, 16, .inl f))])) (kR (P_edgeAt K f number)) 0 0 (fun _ => False) := by
  refine Met.ofW (cc := cX3_edgeAt) (maxL := 6) (ret := (some .int)) (by decide) rfl ?_
  intro p e s m args below meth c s₁ B hml hv
  obtain ⟨rfl, hP, hK, hD, hN⟩ := hv
  have hx := B.exec
  have hb := B.bytes
  have hr0 := B.returns
  have hts := atoms_spec (ws := wsX3_edgeAt) B.pre
  have hown : s.vm.findClass RX3 = some m.cls := findClass_of_methodNamed B.named
  have hlocks := B.notSynchronized
  have hS : va_S (fun _ => False) s.heap s.heap [] := va_S.rf
  have hl := lv_entry ([.ref h0, .int number]) (n := 6) (Nat.le_of_ble_eq_true rfl)
  rw [lg_entry_eq]
  generalize (lg_sl ([.ref h0, .int number]) ++ List.replicate (6 - (lg_sl ([.ref h0, .int number])).length) Slot.unset).toArray = ls at hl ⊢
  have hl : lv_has ls 6 [(0, .ref h0), (1, .int number)] := hl
  obtain ⟨ρ, hρ⟩ : ∃ ρ : Int32, ρ = P_edgeAt K f number := ⟨_, rfl⟩
  have hr : P_edgeAt K f number = ρ := hρ.symm
  rewrite [P_edgeAt] at hr
  refine lv_iload_n hx hb dX3_edgeAt_0 rfl (lv_at hl 1 rfl) ?_
  refine lv_istore_n (lv' := [(2, .int number), (0, .ref h0), (1, .int number)]) hx hb dX3_edgeAt_1 rfl hl (by decide) rfl (fun ls hl => ?_)
  refine lv_iconst (v := 0) hx hb dX3_edgeAt_2 (by decide) ?_
  refine lv_istore_n (lv' := [(3, .int 0), (2, .int number), (0, .ref h0), (1, .int number)]) hx hb dX3_edgeAt_3 rfl hl (by decide) rfl (fun ls hl => ?_)
  have ex_4 : ∀ (left : Int32) (H : Heap) (locs : List Loc) (ls : Array Slot), (-1) = ρ → va_P (dC, dI) kCl [(h0, .inr (3, [.ref h1, .int (nI K)])), (h1, .inl (cI, 16, .inl f))] H → va_S (fun _ => False) s.heap H locs → lv_has ls 6 [(2, .int left), (0, .ref h0)] → W p l e (headSpec wsX3_edgeAt rm_X3_edgeAt).room s m (([.ref h0, .int number] : List Value).toArray) below meth c H locs 0 0 (MQ below (kR (P_edgeAt K f number)) (([.ref h0, .int number] : List Value).toArray) s 0 0 (fun _ => False)) (F0 m 69 ls []) := by
    intro left H locs ls hr hP hS hl
    refine lv_iconst (v := (-1)) hx hb dX3_edgeAt_69 (by decide) ?_
    exact W.iret (v := (-1)) hx hb hr0 (fun t ht hW => kR_end (hr.trans hρ) hS ht) hS.2.2 dX3_edgeAt_70
  have lp_4 : ∀ (n_4 one : Nat) (left : Int32) (H : Heap) (locs : List Loc) (ls : Array Slot), one + n_4 = K → L_edgeAt_4 K f number (fun left => (-1)) n_4 one left = ρ → va_P (dC, dI) kCl [(h0, .inr (3, [.ref h1, .int (nI K)])), (h1, .inl (cI, 16, .inl f))] H → va_S (fun _ => False) s.heap H locs → lv_has ls 6 [(3, .int (nI one)), (2, .int left), (0, .ref h0)] → W p l e (headSpec wsX3_edgeAt rm_X3_edgeAt).room s m (([.ref h0, .int number] : List Value).toArray) below meth c H locs 0 0 (MQ below (kR (P_edgeAt K f number)) (([.ref h0, .int number] : List Value).toArray) s 0 0 (fun _ => False)) (F0 m 4 ls []) := by
    intro n_4
    induction n_4 with
    | zero =>
      intro one left H locs ls hi hr hP hS hl
      rewrite [L_edgeAt_4] at hr
      refine lv_iload_n hx hb dX3_edgeAt_4 rfl (lv_at hl 0 rfl) ?_
      refine lv_aload_n hx hb dX3_edgeAt_5 rfl (lv_at hl 2 rfl) ?_
      refine va_get (D := (dC, dI)) (ci := 3) (v := .int (nI K)) (C := RX3) (T := TX3) (N := 2) hx hb hts (by decide +kernel) hown hK hP 0 rfl rfl 1 (by decide) (hts (.fieldLink RX3 15 "Shortring$Net" "knots" "I") (by decide +kernel)) (fun _ h9 => h9) rfl dX3_edgeAt_6 ?_
      refine lv_icmp_ge (tgt := 69) hx hb dX3_edgeAt_9 (by decide) (fun c_1 => ?_) (fun c_1 => ?_)
      · exact ex_4 left _ _ _ hr hP hS (lv_sub hl [1, 2] rfl)
      · exact absurd (kTop (i := one) (N := K) rfl (by omega)) c_1
    | succ n_4 ih_4 =>
      intro one left H locs ls hi hr hP hS hl
      rewrite [L_edgeAt_4] at hr
      refine lv_iload_n hx hb dX3_edgeAt_4 rfl (lv_at hl 0 rfl) ?_
      refine lv_aload_n hx hb dX3_edgeAt_5 rfl (lv_at hl 2 rfl) ?_
      refine va_get (D := (dC, dI)) (ci := 3) (v := .int (nI K)) (C := RX3) (T := TX3) (N := 2) hx hb hts (by decide +kernel) hown hK hP 0 rfl rfl 1 (by decide) (hts (.fieldLink RX3 15 "Shortring$Net" "knots" "I") (by decide +kernel)) (fun _ h9 => h9) rfl dX3_edgeAt_6 ?_
      refine lv_icmp_ge (tgt := 69) hx hb dX3_edgeAt_9 (by decide) (fun c_2 => ?_) (fun c_2 => ?_)
      · exact absurd c_2 (kLow (i := one) (N := K) rfl (by omega) (by omega))
      · refine lv_iload_n hx hb dX3_edgeAt_12 rfl (lv_at hl 1 rfl) ?_
        refine lv_if_lt (tgt := 69) hx hb dX3_edgeAt_13 (by decide) (fun c_3 => ?_) (fun c_3 => ?_)
        · have hr := if_to hr c_3
          exact ex_4 left _ _ _ hr hP hS (lv_sub hl [1, 2] rfl)
        · have hr := if_no hr c_3
          refine lv_aload_n hx hb dX3_edgeAt_16 rfl (lv_at hl 2 rfl) ?_
          refine lv_iload_n hx hb dX3_edgeAt_17 rfl (lv_at hl 0 rfl) ?_
          refine kCall (va_runV (As := [.int (nI one)]) (rest := []) ⟨hx, hb, hml, hown, hts⟩ (k_X3_nearOf l dC dI cI cN h0 h1 K f (nI one) (by first | assumption | omega | decide | exact hbap _)) (cwV 1 hts gX3_edgeAt_X3_nearOf rfl rfl rfl (by decide +kernel) ⟨Nat.le_of_ble_eq_true rfl, Nat.le_of_ble_eq_true rfl⟩) (kW_V hP hK hD hN (ci := 3) (q0 := 0) rfl rfl [0, 1] rfl rfl rfl) rfl rfl hl.1 rfl (lv_room (Nat.le_of_ble_eq_true rfl)) dX3_edgeAt_18 ⟨Nat.zero_le _, Nat.zero_le _⟩) hP hS (fun H locs hP hS => ?_)
          refine lv_iload_n hx hb dX3_edgeAt_21 rfl (lv_at hl 0 rfl) ?_
          refine lv_iconst (v := 1) hx hb dX3_edgeAt_22 (by decide) ?_
          refine lv_iadd hx hb dX3_edgeAt_23 ?_
          refine kCall (va_runSN (As := [.int ((nI one) + (1 : Int32))]) (rest := [.int (P_nearOf f (nI one))]) ⟨hx, hb, hml, hown, hts⟩ (k_X6_bit l dC dI cI cN ((nI one) + (1 : Int32))) ⟨va_cnB 1 hts gX3_edgeAt_X6_bit_n36 rfl rfl rfl (hN.1 62 _ rfl) (hts (.initialized RX6) (by decide +kernel)) (by decide +kernel) ⟨Nat.le_of_ble_eq_true rfl, Nat.le_of_ble_eq_true rfl⟩, hts (.static yX6_bit) (by decide +kernel), trivial⟩ (kW_S hP hK hD hN [] rfl rfl rfl) rfl rfl hl.1 rfl (lv_room (Nat.le_of_ble_eq_true rfl)) dX3_edgeAt_24 ⟨Nat.zero_le _, Nat.zero_le _⟩) hP hS (fun H locs hP hS => ?_)
          refine lv_iconst (v := 1) hx hb dX3_edgeAt_27 (by decide) ?_
          refine lv_isub hx hb dX3_edgeAt_28 ?_
          refine lv_iconst (v := (-1)) hx hb dX3_edgeAt_29 (by decide) ?_
          refine lv_ixor hx hb dX3_edgeAt_30 ?_
          refine lv_iand hx hb dX3_edgeAt_31 ?_
          refine lv_topi (fun above_4 eabove_4 => ?_)
          have hr := bd_to hr eabove_4
          refine lv_istore (lv' := [(4, .int above_4), (3, .int (nI one)), (2, .int left), (0, .ref h0)]) hx hb dX3_edgeAt_32 hl (by decide) rfl (fun ls hl => ?_)
          refine lv_iload hx hb dX3_edgeAt_34 (lv_at hl 0 rfl) ?_
          refine kCall (va_runS (As := [.int above_4]) (rest := []) ⟨hx, hb, hml, hown, hts⟩ (k_J6_bitCount_0f7a4 l dC dI cI cN above_4) (va_cwS 1 hts gX3_edgeAt_J6_bitCount_0f7a4 rfl rfl rfl (by decide +kernel) ⟨Nat.le_of_ble_eq_true rfl, Nat.le_of_ble_eq_true rfl⟩) (kW_S hP hK hD hN [] rfl rfl rfl) rfl rfl hl.1 rfl (lv_room (Nat.le_of_ble_eq_true rfl)) dX3_edgeAt_36 ⟨Nat.zero_le _, Nat.zero_le _⟩) hP hS (fun H locs hP hS => ?_)
          refine lv_topi (fun many_5 emany_5 => ?_)
          have hr := bd_to hr emany_5
          refine lv_istore (lv' := [(5, .int many_5), (4, .int above_4), (3, .int (nI one)), (2, .int left), (0, .ref h0)]) hx hb dX3_edgeAt_39 hl (by decide) rfl (fun ls hl => ?_)
          refine lv_iload_n hx hb dX3_edgeAt_41 rfl (lv_at hl 3 rfl) ?_
          refine lv_iload hx hb dX3_edgeAt_42 (lv_at hl 0 rfl) ?_
          refine lv_icmp_ge (tgt := 58) hx hb dX3_edgeAt_44 (by decide) (fun c_6 => ?_) (fun c_6 => ?_)
          · have hr := if_to hr c_6
            refine lv_iload_n hx hb dX3_edgeAt_58 rfl (lv_at hl 3 rfl) ?_
            refine lv_iload hx hb dX3_edgeAt_59 (lv_at hl 0 rfl) ?_
            refine lv_isub hx hb dX3_edgeAt_61 ?_
            refine lv_topi (fun left_7 eleft_7 => ?_)
            have hr := bd_to hr eleft_7
            refine lv_istore_n (lv' := [(2, .int left_7), (5, .int many_5), (4, .int above_4), (3, .int (nI one)), (0, .ref h0)]) hx hb dX3_edgeAt_62 rfl hl (by decide) rfl (fun ls hl => ?_)
            refine lv_iinc (v := nI (one + 1)) (lv' := [(3, .int (nI (one + 1))), (2, .int left_7), (5, .int many_5), (4, .int above_4), (0, .ref h0)]) hx hb dX3_edgeAt_63 hl (k := 3) rfl (nI_1 _) (by decide) rfl (fun ls hl => ?_)
            refine lv_goto (tgt := 4) hx hb dX3_edgeAt_66 (by decide) ?_
            exact ih_4 (one + 1) left_7 _ _ _ (by omega) hr hP hS (lv_sub hl [0, 1, 4] rfl)
          · have hr := if_no hr c_6
            refine lv_iload_n hx hb dX3_edgeAt_47 rfl (lv_at hl 2 rfl) ?_
            refine lv_iload hx hb dX3_edgeAt_48 (lv_at hl 1 rfl) ?_
            refine lv_iload_n hx hb dX3_edgeAt_50 rfl (lv_at hl 3 rfl) ?_
            refine kCall (va_runS (As := [.int above_4, .int left]) (rest := [.int (nI one)]) ⟨hx, hb, hml, hown, hts⟩ (k_X3_numberedIn l dC dI cI cN above_4 left) (va_cwS 2 hts gX3_edgeAt_X3_numberedIn rfl rfl rfl (by decide +kernel) ⟨Nat.le_of_ble_eq_true rfl, Nat.le_of_ble_eq_true rfl⟩) (kW_S hP hK hD hN [] rfl rfl rfl) rfl rfl hl.1 rfl (lv_room (Nat.le_of_ble_eq_true rfl)) dX3_edgeAt_51 ⟨Nat.zero_le _, Nat.zero_le _⟩) hP hS (fun H locs hP hS => ?_)
            refine kCall (va_runSN (As := [.int (nI one), .int (P_numberedIn above_4 left)]) (rest := []) ⟨hx, hb, hml, hown, hts⟩ (k_X6_pairOf l dC dI cI cN (nI one) (P_numberedIn above_4 left)) ⟨va_cnB 2 hts gX3_edgeAt_X6_pairOf_n46 rfl rfl rfl (hN.1 63 _ rfl) (hts (.initialized RX6) (by decide +kernel)) (by decide +kernel) ⟨Nat.le_of_ble_eq_true rfl, Nat.le_of_ble_eq_true rfl⟩, hts (.static yX6_pairOf) (by decide +kernel), trivial⟩ (kW_S hP hK hD hN [] rfl rfl rfl) rfl rfl hl.1 rfl (lv_room (Nat.le_of_ble_eq_true rfl)) dX3_edgeAt_54 ⟨Nat.zero_le _, Nat.zero_le _⟩) hP hS (fun H locs hP hS => ?_)
            exact W.iret (v := P_pairOf (nI one) (P_numberedIn above_4 left)) hx hb hr0 (fun t ht hW => kR_end (hr.trans hρ) hS ht) hS.2.2 dX3_edgeAt_57
  exact lp_4 K 0 number _ _ _ (by omega) hr hP hS (lv_sub hl [0, 1, 2] rfl)
def L_evenCount_17 (K : Nat) (f : Nat → Int32) (k : Int32 → Int32) : Nat → Nat → Int32 → Int32
  | 0, i, count => k count
  | n + 1, i, count =>
    if (P_countOf f (nI i)) = count then
      L_evenCount_17 K f k n (i + 1) count
    else
      (-1)
def P_evenCount (K : Nat) (f : Nat → Int32) : Int32 :=
  if (nI K) = 0 then
    (-1)
  else
    bd (P_countOf f 0) (fun count_2 =>
      L_evenCount_17 K f (fun count => count) (K - 1) 1 count_2)
abbrev rm_X3_evenCount : Room := { frames := 2, cells := 0, slots := 0, locals := 42 }
set_option maxHeartbeats 4000000 in
set_option maxRecDepth 100000 in
theorem k_X3_evenCount (l : Launch) (dC : Nat → ClassId) (dI : Nat → Nat → Nat) (cI cN : ClassId) (h0 : Nat) (h1 : Nat) (K : Nat) (f : Nat → Int32) (hK : K ≤ 16) : Met l yX3_evenCount wsX3_evenCount rm_X3_evenCount (va_Pc [.ref h0] (kW dC dI cI cN [(h0, .inr (3, [.ref h1, .int (nI K)])), (h1, .inl (cI, 16, .inl f))])) (kR (P_evenCount K f)) 0 0 (fun _ => False) := by
  refine Met.ofW (cc := cX3_evenCount) (maxL := 3) (ret := (some .int)) (by decide) rfl ?_
  intro p e s m args below meth c s₁ B hml hv
  obtain ⟨rfl, hP, hK, hD, hN⟩ := hv
  have hx := B.exec
  have hb := B.bytes
  have hr0 := B.returns
  have hts := atoms_spec (ws := wsX3_evenCount) B.pre
  have hown : s.vm.findClass RX3 = some m.cls := findClass_of_methodNamed B.named
  have hlocks := B.notSynchronized
  have hS : va_S (fun _ => False) s.heap s.heap [] := va_S.rf
  have hl := lv_entry ([.ref h0]) (n := 3) (Nat.le_of_ble_eq_true rfl)
  rw [lg_entry_eq]
  generalize (lg_sl ([.ref h0]) ++ List.replicate (3 - (lg_sl ([.ref h0])).length) Slot.unset).toArray = ls at hl ⊢
  have hl : lv_has ls 3 [(0, .ref h0)] := hl
  obtain ⟨ρ, hρ⟩ : ∃ ρ : Int32, ρ = P_evenCount K f := ⟨_, rfl⟩
  have hr : P_evenCount K f = ρ := hρ.symm
  rewrite [P_evenCount] at hr
  refine lv_aload_n hx hb dX3_evenCount_0 rfl (lv_at hl 0 rfl) ?_
  refine va_get (D := (dC, dI)) (ci := 3) (v := .int (nI K)) (C := RX3) (T := TX3) (N := 2) hx hb hts (by decide +kernel) hown hK hP 0 rfl rfl 1 (by decide) (hts (.fieldLink RX3 15 "Shortring$Net" "knots" "I") (by decide +kernel)) (fun _ h9 => h9) rfl dX3_evenCount_1 ?_
  refine lv_if_ne (tgt := 9) hx hb dX3_evenCount_4 (by decide) (fun c_1 => ?_) (fun c_1 => ?_)
  · have hr := if_no hr c_1
    refine lv_aload_n hx hb dX3_evenCount_9 rfl (lv_at hl 0 rfl) ?_
    refine lv_iconst (v := 0) hx hb dX3_evenCount_10 (by decide) ?_
    refine kCall (va_runV (As := [.int 0]) (rest := []) ⟨hx, hb, hml, hown, hts⟩ (k_X3_countOf l dC dI cI cN h0 h1 K f 0 (by first | assumption | omega | decide | exact hbap _)) (cwV 1 hts gX3_evenCount_X3_countOf rfl rfl rfl (by decide +kernel) ⟨Nat.le_of_ble_eq_true rfl, Nat.le_of_ble_eq_true rfl⟩) (kW_V hP hK hD hN (ci := 3) (q0 := 0) rfl rfl [0, 1] rfl rfl rfl) rfl rfl hl.1 rfl (lv_room (Nat.le_of_ble_eq_true rfl)) dX3_evenCount_11 ⟨Nat.zero_le _, Nat.zero_le _⟩) hP hS (fun H locs hP hS => ?_)
    refine lv_topi (fun count_2 ecount_2 => ?_)
    have hr := bd_to hr ecount_2
    refine lv_istore_n (lv' := [(1, .int count_2), (0, .ref h0)]) hx hb dX3_evenCount_14 rfl hl (by decide) rfl (fun ls hl => ?_)
    refine lv_iconst (v := 1) hx hb dX3_evenCount_15 (by decide) ?_
    refine lv_istore_n (lv' := [(2, .int 1), (1, .int count_2), (0, .ref h0)]) hx hb dX3_evenCount_16 rfl hl (by decide) rfl (fun ls hl => ?_)
    have ex_17 : ∀ (count : Int32) (H : Heap) (locs : List Loc) (ls : Array Slot), count = ρ → va_P (dC, dI) kCl [(h0, .inr (3, [.ref h1, .int (nI K)])), (h1, .inl (cI, 16, .inl f))] H → va_S (fun _ => False) s.heap H locs → lv_has ls 3 [(1, .int count), (0, .ref h0)] → W p l e (headSpec wsX3_evenCount rm_X3_evenCount).room s m (([.ref h0] : List Value).toArray) below meth c H locs 0 0 (MQ below (kR (P_evenCount K f)) (([.ref h0] : List Value).toArray) s 0 0 (fun _ => False)) (F0 m 42 ls []) := by
      intro count H locs ls hr hP hS hl
      refine lv_iload_n hx hb dX3_evenCount_42 rfl (lv_at hl 0 rfl) ?_
      exact W.iret (v := count) hx hb hr0 (fun t ht hW => kR_end (hr.trans hρ) hS ht) hS.2.2 dX3_evenCount_43
    have lp_17 : ∀ (n_17 i : Nat) (count : Int32) (H : Heap) (locs : List Loc) (ls : Array Slot), i + n_17 = K → L_evenCount_17 K f (fun count => count) n_17 i count = ρ → va_P (dC, dI) kCl [(h0, .inr (3, [.ref h1, .int (nI K)])), (h1, .inl (cI, 16, .inl f))] H → va_S (fun _ => False) s.heap H locs → lv_has ls 3 [(2, .int (nI i)), (1, .int count), (0, .ref h0)] → W p l e (headSpec wsX3_evenCount rm_X3_evenCount).room s m (([.ref h0] : List Value).toArray) below meth c H locs 0 0 (MQ below (kR (P_evenCount K f)) (([.ref h0] : List Value).toArray) s 0 0 (fun _ => False)) (F0 m 17 ls []) := by
      intro n_17
      induction n_17 with
      | zero =>
        intro i count H locs ls hi hr hP hS hl
        rewrite [L_evenCount_17] at hr
        refine lv_iload_n hx hb dX3_evenCount_17 rfl (lv_at hl 0 rfl) ?_
        refine lv_aload_n hx hb dX3_evenCount_18 rfl (lv_at hl 2 rfl) ?_
        refine va_get (D := (dC, dI)) (ci := 3) (v := .int (nI K)) (C := RX3) (T := TX3) (N := 2) hx hb hts (by decide +kernel) hown hK hP 0 rfl rfl 1 (by decide) (hts (.fieldLink RX3 15 "Shortring$Net" "knots" "I") (by decide +kernel)) (fun _ h9 => h9) rfl dX3_evenCount_19 ?_
        refine lv_icmp_ge (tgt := 42) hx hb dX3_evenCount_22 (by decide) (fun c_3 => ?_) (fun c_3 => ?_)
        · exact ex_17 count _ _ _ hr hP hS (lv_sub hl [1, 2] rfl)
        · exact absurd (kTop (i := i) (N := K) rfl (by omega)) c_3
      | succ n_17 ih_17 =>
        intro i count H locs ls hi hr hP hS hl
        rewrite [L_evenCount_17] at hr
        refine lv_iload_n hx hb dX3_evenCount_17 rfl (lv_at hl 0 rfl) ?_
        refine lv_aload_n hx hb dX3_evenCount_18 rfl (lv_at hl 2 rfl) ?_
        refine va_get (D := (dC, dI)) (ci := 3) (v := .int (nI K)) (C := RX3) (T := TX3) (N := 2) hx hb hts (by decide +kernel) hown hK hP 0 rfl rfl 1 (by decide) (hts (.fieldLink RX3 15 "Shortring$Net" "knots" "I") (by decide +kernel)) (fun _ h9 => h9) rfl dX3_evenCount_19 ?_
        refine lv_icmp_ge (tgt := 42) hx hb dX3_evenCount_22 (by decide) (fun c_4 => ?_) (fun c_4 => ?_)
        · exact absurd c_4 (kLow (i := i) (N := K) rfl (by omega) (by omega))
        · refine lv_aload_n hx hb dX3_evenCount_25 rfl (lv_at hl 2 rfl) ?_
          refine lv_iload_n hx hb dX3_evenCount_26 rfl (lv_at hl 0 rfl) ?_
          refine kCall (va_runV (As := [.int (nI i)]) (rest := []) ⟨hx, hb, hml, hown, hts⟩ (k_X3_countOf l dC dI cI cN h0 h1 K f (nI i) (by first | assumption | omega | decide | exact hbap _)) (cwV 1 hts gX3_evenCount_X3_countOf rfl rfl rfl (by decide +kernel) ⟨Nat.le_of_ble_eq_true rfl, Nat.le_of_ble_eq_true rfl⟩) (kW_V hP hK hD hN (ci := 3) (q0 := 0) rfl rfl [0, 1] rfl rfl rfl) rfl rfl hl.1 rfl (lv_room (Nat.le_of_ble_eq_true rfl)) dX3_evenCount_27 ⟨Nat.zero_le _, Nat.zero_le _⟩) hP hS (fun H locs hP hS => ?_)
          refine lv_iload_n hx hb dX3_evenCount_30 rfl (lv_at hl 1 rfl) ?_
          refine lv_icmp_eq (tgt := 36) hx hb dX3_evenCount_31 (by decide) (fun c_5 => ?_) (fun c_5 => ?_)
          · have hr := if_to hr c_5
            refine lv_iinc (v := nI (i + 1)) (lv' := [(2, .int (nI (i + 1))), (1, .int count), (0, .ref h0)]) hx hb dX3_evenCount_36 hl (k := 0) rfl (nI_1 _) (by decide) rfl (fun ls hl => ?_)
            refine lv_goto (tgt := 17) hx hb dX3_evenCount_39 (by decide) ?_
            exact ih_17 (i + 1) count _ _ _ (by omega) hr hP hS (lv_sub hl [0, 1, 2] rfl)
          · have hr := if_no hr c_5
            refine lv_iconst (v := (-1)) hx hb dX3_evenCount_34 (by decide) ?_
            exact W.iret (v := (-1)) hx hb hr0 (fun t ht hW => kR_end (hr.trans hρ) hS ht) hS.2.2 dX3_evenCount_35
    have hK0 := kNe (K := K) (by assumption)
    exact lp_17 (K - 1) 1 count_2 _ _ _ (by omega) hr hP hS (lv_sub hl [0, 1, 2] rfl)
  · have hr := if_to hr c_1
    refine lv_iconst (v := (-1)) hx hb dX3_evenCount_7 (by decide) ?_
    exact W.iret (v := (-1)) hx hb hr0 (fun t ht hW => kR_end (hr.trans hρ) hS ht) hS.2.2 dX3_evenCount_8
def L_loneliest_7 (K : Nat) (f : Nat → Int32) (k : Int32 → Int32 → Int32) : Nat → Nat → Int32 → Int32 → Int32
  | 0, i, set, least => k set least
  | n + 1, i, set, least =>
    bd (P_countOf f (nI i)) (fun count_1 =>
      if least ≤ count_1 then
        if count_1 = least then
          bd (set ||| (P_bit (nI i))) (fun set_2 =>
            L_loneliest_7 K f k n (i + 1) set_2 least)
        else
          L_loneliest_7 K f k n (i + 1) set least
      else
        if count_1 = count_1 then
          bd ((0 : Int32) ||| (P_bit (nI i))) (fun set_3 =>
            L_loneliest_7 K f k n (i + 1) set_3 count_1)
        else
          L_loneliest_7 K f k n (i + 1) 0 count_1)
def P_loneliest (K : Nat) (f : Nat → Int32) : Int32 :=
  L_loneliest_7 K f (fun set least => set) K 0 0 16
abbrev rm_X3_loneliest : Room := { frames := 2, cells := 0, slots := 0, locals := 42 }
set_option maxHeartbeats 4000000 in
set_option maxRecDepth 100000 in
theorem k_X3_loneliest (l : Launch) (dC : Nat → ClassId) (dI : Nat → Nat → Nat) (cI cN : ClassId) (h0 : Nat) (h1 : Nat) (K : Nat) (f : Nat → Int32) (hK : K ≤ 16) : Met l yX3_loneliest wsX3_loneliest rm_X3_loneliest (va_Pc [.ref h0] (kW dC dI cI cN [(h0, .inr (3, [.ref h1, .int (nI K)])), (h1, .inl (cI, 16, .inl f))])) (kR (P_loneliest K f)) 0 0 (fun _ => False) := by
  refine Met.ofW (cc := cX3_loneliest) (maxL := 5) (ret := (some .int)) (by decide) rfl ?_
  intro p e s m args below meth c s₁ B hml hv
  obtain ⟨rfl, hP, hK, hD, hN⟩ := hv
  have hx := B.exec
  have hb := B.bytes
  have hr0 := B.returns
  have hts := atoms_spec (ws := wsX3_loneliest) B.pre
  have hown : s.vm.findClass RX3 = some m.cls := findClass_of_methodNamed B.named
  have hlocks := B.notSynchronized
  have hS : va_S (fun _ => False) s.heap s.heap [] := va_S.rf
  have hl := lv_entry ([.ref h0]) (n := 5) (Nat.le_of_ble_eq_true rfl)
  rw [lg_entry_eq]
  generalize (lg_sl ([.ref h0]) ++ List.replicate (5 - (lg_sl ([.ref h0])).length) Slot.unset).toArray = ls at hl ⊢
  have hl : lv_has ls 5 [(0, .ref h0)] := hl
  obtain ⟨ρ, hρ⟩ : ∃ ρ : Int32, ρ = P_loneliest K f := ⟨_, rfl⟩
  have hr : P_loneliest K f = ρ := hρ.symm
  rewrite [P_loneliest] at hr
  refine lv_iconst (v := 0) hx hb dX3_loneliest_0 (by decide) ?_
  refine lv_istore_n (lv' := [(1, .int 0), (0, .ref h0)]) hx hb dX3_loneliest_1 rfl hl (by decide) rfl (fun ls hl => ?_)
  refine lv_bipush (v := 16) hx hb dX3_loneliest_2 (by decide) ?_
  refine lv_istore_n (lv' := [(2, .int 16), (1, .int 0), (0, .ref h0)]) hx hb dX3_loneliest_4 rfl hl (by decide) rfl (fun ls hl => ?_)
  refine lv_iconst (v := 0) hx hb dX3_loneliest_5 (by decide) ?_
  refine lv_istore_n (lv' := [(3, .int 0), (2, .int 16), (1, .int 0), (0, .ref h0)]) hx hb dX3_loneliest_6 rfl hl (by decide) rfl (fun ls hl => ?_)
  have ex_7 : ∀ (set : Int32) (least : Int32) (H : Heap) (locs : List Loc) (ls : Array Slot), set = ρ → va_P (dC, dI) kCl [(h0, .inr (3, [.ref h1, .int (nI K)])), (h1, .inl (cI, 16, .inl f))] H → va_S (fun _ => False) s.heap H locs → lv_has ls 5 [(1, .int set), (2, .int least), (0, .ref h0)] → W p l e (headSpec wsX3_loneliest rm_X3_loneliest).room s m (([.ref h0] : List Value).toArray) below meth c H locs 0 0 (MQ below (kR (P_loneliest K f)) (([.ref h0] : List Value).toArray) s 0 0 (fun _ => False)) (F0 m 52 ls []) := by
    intro set least H locs ls hr hP hS hl
    refine lv_iload_n hx hb dX3_loneliest_52 rfl (lv_at hl 0 rfl) ?_
    exact W.iret (v := set) hx hb hr0 (fun t ht hW => kR_end (hr.trans hρ) hS ht) hS.2.2 dX3_loneliest_53
  have lp_7 : ∀ (n_7 i : Nat) (set : Int32) (least : Int32) (H : Heap) (locs : List Loc) (ls : Array Slot), i + n_7 = K → L_loneliest_7 K f (fun set least => set) n_7 i set least = ρ → va_P (dC, dI) kCl [(h0, .inr (3, [.ref h1, .int (nI K)])), (h1, .inl (cI, 16, .inl f))] H → va_S (fun _ => False) s.heap H locs → lv_has ls 5 [(3, .int (nI i)), (1, .int set), (2, .int least), (0, .ref h0)] → W p l e (headSpec wsX3_loneliest rm_X3_loneliest).room s m (([.ref h0] : List Value).toArray) below meth c H locs 0 0 (MQ below (kR (P_loneliest K f)) (([.ref h0] : List Value).toArray) s 0 0 (fun _ => False)) (F0 m 7 ls []) := by
    intro n_7
    induction n_7 with
    | zero =>
      intro i set least H locs ls hi hr hP hS hl
      rewrite [L_loneliest_7] at hr
      refine lv_iload_n hx hb dX3_loneliest_7 rfl (lv_at hl 0 rfl) ?_
      refine lv_aload_n hx hb dX3_loneliest_8 rfl (lv_at hl 3 rfl) ?_
      refine va_get (D := (dC, dI)) (ci := 3) (v := .int (nI K)) (C := RX3) (T := TX3) (N := 2) hx hb hts (by decide +kernel) hown hK hP 0 rfl rfl 1 (by decide) (hts (.fieldLink RX3 15 "Shortring$Net" "knots" "I") (by decide +kernel)) (fun _ h9 => h9) rfl dX3_loneliest_9 ?_
      refine lv_icmp_ge (tgt := 52) hx hb dX3_loneliest_12 (by decide) (fun c_1 => ?_) (fun c_1 => ?_)
      · exact ex_7 set least _ _ _ hr hP hS (lv_sub hl [1, 2, 3] rfl)
      · exact absurd (kTop (i := i) (N := K) rfl (by omega)) c_1
    | succ n_7 ih_7 =>
      intro i set least H locs ls hi hr hP hS hl
      rewrite [L_loneliest_7] at hr
      refine lv_iload_n hx hb dX3_loneliest_7 rfl (lv_at hl 0 rfl) ?_
      refine lv_aload_n hx hb dX3_loneliest_8 rfl (lv_at hl 3 rfl) ?_
      refine va_get (D := (dC, dI)) (ci := 3) (v := .int (nI K)) (C := RX3) (T := TX3) (N := 2) hx hb hts (by decide +kernel) hown hK hP 0 rfl rfl 1 (by decide) (hts (.fieldLink RX3 15 "Shortring$Net" "knots" "I") (by decide +kernel)) (fun _ h9 => h9) rfl dX3_loneliest_9 ?_
      refine lv_icmp_ge (tgt := 52) hx hb dX3_loneliest_12 (by decide) (fun c_2 => ?_) (fun c_2 => ?_)
      · exact absurd c_2 (kLow (i := i) (N := K) rfl (by omega) (by omega))
      · refine lv_aload_n hx hb dX3_loneliest_15 rfl (lv_at hl 3 rfl) ?_
        refine lv_iload_n hx hb dX3_loneliest_16 rfl (lv_at hl 0 rfl) ?_
        refine kCall (va_runV (As := [.int (nI i)]) (rest := []) ⟨hx, hb, hml, hown, hts⟩ (k_X3_countOf l dC dI cI cN h0 h1 K f (nI i) (by first | assumption | omega | decide | exact hbap _)) (cwV 1 hts gX3_loneliest_X3_countOf rfl rfl rfl (by decide +kernel) ⟨Nat.le_of_ble_eq_true rfl, Nat.le_of_ble_eq_true rfl⟩) (kW_V hP hK hD hN (ci := 3) (q0 := 0) rfl rfl [0, 1] rfl rfl rfl) rfl rfl hl.1 rfl (lv_room (Nat.le_of_ble_eq_true rfl)) dX3_loneliest_17 ⟨Nat.zero_le _, Nat.zero_le _⟩) hP hS (fun H locs hP hS => ?_)
        refine lv_topi (fun count_3 ecount_3 => ?_)
        have hr := bd_to hr ecount_3
        refine lv_istore (lv' := [(4, .int count_3), (3, .int (nI i)), (1, .int set), (2, .int least), (0, .ref h0)]) hx hb dX3_loneliest_20 hl (by decide) rfl (fun ls hl => ?_)
        refine lv_iload hx hb dX3_loneliest_22 (lv_at hl 0 rfl) ?_
        refine lv_iload_n hx hb dX3_loneliest_24 rfl (lv_at hl 3 rfl) ?_
        refine lv_icmp_ge (tgt := 33) hx hb dX3_loneliest_25 (by decide) (fun c_4 => ?_) (fun c_4 => ?_)
        · have hr := if_to hr c_4
          refine lv_iload hx hb dX3_loneliest_33 (lv_at hl 0 rfl) ?_
          refine lv_iload_n hx hb dX3_loneliest_35 rfl (lv_at hl 3 rfl) ?_
          refine lv_icmp_ne (tgt := 46) hx hb dX3_loneliest_36 (by decide) (fun c_5 => ?_) (fun c_5 => ?_)
          · have hr := if_no hr c_5
            refine lv_iinc (v := nI (i + 1)) (lv' := [(3, .int (nI (i + 1))), (4, .int count_3), (1, .int set), (2, .int least), (0, .ref h0)]) hx hb dX3_loneliest_46 hl (k := 1) rfl (nI_1 _) (by decide) rfl (fun ls hl => ?_)
            refine lv_goto (tgt := 7) hx hb dX3_loneliest_49 (by decide) ?_
            exact ih_7 (i + 1) set least _ _ _ (by omega) hr hP hS (lv_sub hl [0, 2, 3, 4] rfl)
          · have hr := if_to hr c_5
            refine lv_iload_n hx hb dX3_loneliest_39 rfl (lv_at hl 2 rfl) ?_
            refine lv_iload_n hx hb dX3_loneliest_40 rfl (lv_at hl 1 rfl) ?_
            refine kCall (va_runSN (As := [.int (nI i)]) (rest := [.int set]) ⟨hx, hb, hml, hown, hts⟩ (k_X6_bit l dC dI cI cN (nI i)) ⟨va_cnB 1 hts gX3_loneliest_X6_bit_n36 rfl rfl rfl (hN.1 62 _ rfl) (hts (.initialized RX6) (by decide +kernel)) (by decide +kernel) ⟨Nat.le_of_ble_eq_true rfl, Nat.le_of_ble_eq_true rfl⟩, hts (.static yX6_bit) (by decide +kernel), trivial⟩ (kW_S hP hK hD hN [] rfl rfl rfl) rfl rfl hl.1 rfl (lv_room (Nat.le_of_ble_eq_true rfl)) dX3_loneliest_41 ⟨Nat.zero_le _, Nat.zero_le _⟩) hP hS (fun H locs hP hS => ?_)
            refine lv_ior hx hb dX3_loneliest_44 ?_
            refine lv_topi (fun set_6 eset_6 => ?_)
            have hr := bd_to hr eset_6
            refine lv_istore_n (lv' := [(1, .int set_6), (4, .int count_3), (3, .int (nI i)), (2, .int least), (0, .ref h0)]) hx hb dX3_loneliest_45 rfl hl (by decide) rfl (fun ls hl => ?_)
            refine lv_iinc (v := nI (i + 1)) (lv' := [(3, .int (nI (i + 1))), (1, .int set_6), (4, .int count_3), (2, .int least), (0, .ref h0)]) hx hb dX3_loneliest_46 hl (k := 2) rfl (nI_1 _) (by decide) rfl (fun ls hl => ?_)
            refine lv_goto (tgt := 7) hx hb dX3_loneliest_49 (by decide) ?_
            exact ih_7 (i + 1) set_6 least _ _ _ (by omega) hr hP hS (lv_sub hl [0, 1, 3, 4] rfl)
        · have hr := if_no hr c_4
          refine lv_iload hx hb dX3_loneliest_28 (lv_at hl 0 rfl) ?_
          refine lv_istore_n (lv' := [(2, .int count_3), (4, .int count_3), (3, .int (nI i)), (1, .int set), (0, .ref h0)]) hx hb dX3_loneliest_30 rfl hl (by decide) rfl (fun ls hl => ?_)
          refine lv_iconst (v := 0) hx hb dX3_loneliest_31 (by decide) ?_
          refine lv_istore_n (lv' := [(1, .int 0), (2, .int count_3), (4, .int count_3), (3, .int (nI i)), (0, .ref h0)]) hx hb dX3_loneliest_32 rfl hl (by decide) rfl (fun ls hl => ?_)
          refine lv_iload hx hb dX3_loneliest_33 (lv_at hl 2 rfl) ?_
          refine lv_iload_n hx hb dX3_loneliest_35 rfl (lv_at hl 1 rfl) ?_
          refine lv_icmp_ne (tgt := 46) hx hb dX3_loneliest_36 (by decide) (fun c_7 => ?_) (fun c_7 => ?_)
          · have hr := if_no hr c_7
            refine lv_iinc (v := nI (i + 1)) (lv' := [(3, .int (nI (i + 1))), (1, .int 0), (2, .int count_3), (4, .int count_3), (0, .ref h0)]) hx hb dX3_loneliest_46 hl (k := 3) rfl (nI_1 _) (by decide) rfl (fun ls hl => ?_)
            refine lv_goto (tgt := 7) hx hb dX3_loneliest_49 (by decide) ?_
            exact ih_7 (i + 1) 0 count_3 _ _ _ (by omega) hr hP hS (lv_sub hl [0, 1, 2, 4] rfl)
          · have hr := if_to hr c_7
            refine lv_iload_n hx hb dX3_loneliest_39 rfl (lv_at hl 0 rfl) ?_
            refine lv_iload_n hx hb dX3_loneliest_40 rfl (lv_at hl 3 rfl) ?_
            refine kCall (va_runSN (As := [.int (nI i)]) (rest := [.int 0]) ⟨hx, hb, hml, hown, hts⟩ (k_X6_bit l dC dI cI cN (nI i)) ⟨va_cnB 1 hts gX3_loneliest_X6_bit_n36 rfl rfl rfl (hN.1 62 _ rfl) (hts (.initialized RX6) (by decide +kernel)) (by decide +kernel) ⟨Nat.le_of_ble_eq_true rfl, Nat.le_of_ble_eq_true rfl⟩, hts (.static yX6_bit) (by decide +kernel), trivial⟩ (kW_S hP hK hD hN [] rfl rfl rfl) rfl rfl hl.1 rfl (lv_room (Nat.le_of_ble_eq_true rfl)) dX3_loneliest_41 ⟨Nat.zero_le _, Nat.zero_le _⟩) hP hS (fun H locs hP hS => ?_)
            refine lv_ior hx hb dX3_loneliest_44 ?_
            refine lv_topi (fun set_8 eset_8 => ?_)
            have hr := bd_to hr eset_8
            refine lv_istore_n (lv' := [(1, .int set_8), (2, .int count_3), (4, .int count_3), (3, .int (nI i)), (0, .ref h0)]) hx hb dX3_loneliest_45 rfl hl (by decide) rfl (fun ls hl => ?_)
            refine lv_iinc (v := nI (i + 1)) (lv' := [(3, .int (nI (i + 1))), (1, .int set_8), (2, .int count_3), (4, .int count_3), (0, .ref h0)]) hx hb dX3_loneliest_46 hl (k := 3) rfl (nI_1 _) (by decide) rfl (fun ls hl => ?_)
            refine lv_goto (tgt := 7) hx hb dX3_loneliest_49 (by decide) ?_
            exact ih_7 (i + 1) set_8 count_3 _ _ _ (by omega) hr hP hS (lv_sub hl [0, 1, 2, 4] rfl)
  exact lp_7 K 0 0 16 _ _ _ (by omega) hr hP hS (lv_sub hl [0, 2, 1, 3] rfl)
def L_isMutual_12 (K : Nat) (f : Nat → Int32) (one : Nat) (k : Int32) : Nat → Nat → Int32
  | 0, other => k
  | n + 1, other =>
    bd (P_isNear f (nI one) (nI other)) (fun isThere_1 =>
      if isThere_1 = (P_isNear f (nI other) (nI one)) then
        if isThere_1 = 0 then
          L_isMutual_12 K f one k n (other + 1)
        else
          if (nI one) = (nI other) then
            0
          else
            L_isMutual_12 K f one k n (other + 1)
      else
        0)
def L_isMutual_2 (K : Nat) (f : Nat → Int32) (k : Int32) : Nat → Nat → Int32
  | 0, one => k
  | n + 1, one =>
    L_isMutual_12 K f one (L_isMutual_2 K f k n (one + 1)) K 0
def P_isMutual (K : Nat) (f : Nat → Int32) : Int32 :=
  L_isMutual_2 K f (1) K 0
abbrev rm_X3_isMutual : Room := { frames := 2, cells := 0, slots := 0, locals := 43 }
set_option maxHeartbeats 4000000 in
set_option maxRecDepth 100000 in
theorem k_X3_isMutual (l : Launch) (dC : Nat → ClassId) (dI : Nat → Nat → Nat) (cI cN : ClassId) (h0 : Nat) (h1 : Nat) (K : Nat) (f : Nat → Int32) (hK : K ≤ 16) : Met l yX3_isMutual wsX3_isMutual rm_X3_isMutual (va_Pc [.ref h0] (kW dC dI cI cN [(h0, .inr (3, [.ref h1, .int (nI K)])), (h1, .inl (cI, 16, .inl f))])) (kR (P_isMutual K f)) 0 0 (fun _ => False) := by
  refine Met.ofW (cc := cX3_isMutual) (maxL := 4) (ret := (some .boolean)) (by decide) rfl ?_
  intro p e s m args below meth c s₁ B hml hv
  obtain ⟨rfl, hP, hK, hD, hN⟩ := hv
  have hx := B.exec
  have hb := B.bytes
  have hr0 := B.returns
  have hts := atoms_spec (ws := wsX3_isMutual) B.pre
  have hown : s.vm.findClass RX3 = some m.cls := findClass_of_methodNamed B.named
  have hlocks := B.notSynchronized
  have hS : va_S (fun _ => False) s.heap s.heap [] := va_S.rf
  have hl := lv_entry ([.ref h0]) (n := 4) (Nat.le_of_ble_eq_true rfl)
  rw [lg_entry_eq]
  generalize (lg_sl ([.ref h0]) ++ List.replicate (4 - (lg_sl ([.ref h0])).length) Slot.unset).toArray = ls at hl ⊢
  have hl : lv_has ls 4 [(0, .ref h0)] := hl
  obtain ⟨ρ, hρ⟩ : ∃ ρ : Int32, ρ = P_isMutual K f := ⟨_, rfl⟩
  have hr : P_isMutual K f = ρ := hρ.symm
  rewrite [P_isMutual] at hr
  refine lv_iconst (v := 0) hx hb dX3_isMutual_0 (by decide) ?_
  refine lv_istore_n (lv' := [(1, .int 0), (0, .ref h0)]) hx hb dX3_isMutual_1 rfl hl (by decide) rfl (fun ls hl => ?_)
  have ex_2 : ∀  (H : Heap) (locs : List Loc) (ls : Array Slot), 1 = ρ → va_P (dC, dI) kCl [(h0, .inr (3, [.ref h1, .int (nI K)])), (h1, .inl (cI, 16, .inl f))] H → va_S (fun _ => False) s.heap H locs → lv_has ls 4 [(0, .ref h0)] → W p l e (headSpec wsX3_isMutual rm_X3_isMutual).room s m (([.ref h0] : List Value).toArray) below meth c H locs 0 0 (MQ below (kR (P_isMutual K f)) (([.ref h0] : List Value).toArray) s 0 0 (fun _ => False)) (F0 m 60 ls []) := by
    intro  H locs ls hr hP hS hl
    refine lv_iconst (v := 1) hx hb dX3_isMutual_60 (by decide) ?_
    exact W.zret (v := 1) hx hb hr0 rfl (fun t ht hW => kR_end (hr.trans hρ) hS ht) hS.2.2 dX3_isMutual_61
  have lp_2 : ∀ (n_2 one : Nat)  (H : Heap) (locs : List Loc) (ls : Array Slot), one + n_2 = K → L_isMutual_2 K f (1) n_2 one = ρ → va_P (dC, dI) kCl [(h0, .inr (3, [.ref h1, .int (nI K)])), (h1, .inl (cI, 16, .inl f))] H → va_S (fun _ => False) s.heap H locs → lv_has ls 4 [(1, .int (nI one)), (0, .ref h0)] → W p l e (headSpec wsX3_isMutual rm_X3_isMutual).room s m (([.ref h0] : List Value).toArray) below meth c H locs 0 0 (MQ below (kR (P_isMutual K f)) (([.ref h0] : List Value).toArray) s 0 0 (fun _ => False)) (F0 m 2 ls []) := by
    intro n_2
    induction n_2 with
    | zero =>
      intro one  H locs ls hi hr hP hS hl
      rewrite [L_isMutual_2] at hr
      refine lv_iload_n hx hb dX3_isMutual_2 rfl (lv_at hl 0 rfl) ?_
      refine lv_aload_n hx hb dX3_isMutual_3 rfl (lv_at hl 1 rfl) ?_
      refine va_get (D := (dC, dI)) (ci := 3) (v := .int (nI K)) (C := RX3) (T := TX3) (N := 2) hx hb hts (by decide +kernel) hown hK hP 0 rfl rfl 1 (by decide) (hts (.fieldLink RX3 15 "Shortring$Net" "knots" "I") (by decide +kernel)) (fun _ h9 => h9) rfl dX3_isMutual_4 ?_
      refine lv_icmp_ge (tgt := 60) hx hb dX3_isMutual_7 (by decide) (fun c_1 => ?_) (fun c_1 => ?_)
      · exact ex_2  _ _ _ hr hP hS (lv_sub hl [1] rfl)
      · exact absurd (kTop (i := one) (N := K) rfl (by omega)) c_1
    | succ n_2 ih_2 =>
      intro one  H locs ls hi hr hP hS hl
      rewrite [L_isMutual_2] at hr
      refine lv_iload_n hx hb dX3_isMutual_2 rfl (lv_at hl 0 rfl) ?_
      refine lv_aload_n hx hb dX3_isMutual_3 rfl (lv_at hl 1 rfl) ?_
      refine va_get (D := (dC, dI)) (ci := 3) (v := .int (nI K)) (C := RX3) (T := TX3) (N := 2) hx hb hts (by decide +kernel) hown hK hP 0 rfl rfl 1 (by decide) (hts (.fieldLink RX3 15 "Shortring$Net" "knots" "I") (by decide +kernel)) (fun _ h9 => h9) rfl dX3_isMutual_4 ?_
      refine lv_icmp_ge (tgt := 60) hx hb dX3_isMutual_7 (by decide) (fun c_2 => ?_) (fun c_2 => ?_)
      · exact absurd c_2 (kLow (i := one) (N := K) rfl (by omega) (by omega))
      · refine lv_iconst (v := 0) hx hb dX3_isMutual_10 (by decide) ?_
        refine lv_istore_n (lv' := [(2, .int 0), (1, .int (nI one)), (0, .ref h0)]) hx hb dX3_isMutual_11 rfl hl (by decide) rfl (fun ls hl => ?_)
        have ex_12 : ∀  (H : Heap) (locs : List Loc) (ls : Array Slot), L_isMutual_2 K f (1) n_2 (one + 1) = ρ → va_P (dC, dI) kCl [(h0, .inr (3, [.ref h1, .int (nI K)])), (h1, .inl (cI, 16, .inl f))] H → va_S (fun _ => False) s.heap H locs → lv_has ls 4 [(0, .ref h0), (1, .int (nI one))] → W p l e (headSpec wsX3_isMutual rm_X3_isMutual).room s m (([.ref h0] : List Value).toArray) below meth c H locs 0 0 (MQ below (kR (P_isMutual K f)) (([.ref h0] : List Value).toArray) s 0 0 (fun _ => False)) (F0 m 54 ls []) := by
          intro  H locs ls hr hP hS hl
          refine lv_iinc (v := nI (one + 1)) (lv' := [(1, .int (nI (one + 1))), (0, .ref h0)]) hx hb dX3_isMutual_54 hl (k := 1) rfl (nI_1 _) (by decide) rfl (fun ls hl => ?_)
          refine lv_goto (tgt := 2) hx hb dX3_isMutual_57 (by decide) ?_
          exact ih_2 (one + 1)  _ _ _ (by omega) hr hP hS (lv_sub hl [0, 1] rfl)
        have lp_12 : ∀ (n_12 other : Nat)  (H : Heap) (locs : List Loc) (ls : Array Slot), other + n_12 = K → L_isMutual_12 K f one (L_isMutual_2 K f (1) n_2 (one + 1)) n_12 other = ρ → va_P (dC, dI) kCl [(h0, .inr (3, [.ref h1, .int (nI K)])), (h1, .inl (cI, 16, .inl f))] H → va_S (fun _ => False) s.heap H locs → lv_has ls 4 [(2, .int (nI other)), (0, .ref h0), (1, .int (nI one))] → W p l e (headSpec wsX3_isMutual rm_X3_isMutual).room s m (([.ref h0] : List Value).toArray) below meth c H locs 0 0 (MQ below (kR (P_isMutual K f)) (([.ref h0] : List Value).toArray) s 0 0 (fun _ => False)) (F0 m 12 ls []) := by
          intro n_12
          induction n_12 with
          | zero =>
            intro other  H locs ls hi hr hP hS hl
            rewrite [L_isMutual_12] at hr
            refine lv_iload_n hx hb dX3_isMutual_12 rfl (lv_at hl 0 rfl) ?_
            refine lv_aload_n hx hb dX3_isMutual_13 rfl (lv_at hl 1 rfl) ?_
            refine va_get (D := (dC, dI)) (ci := 3) (v := .int (nI K)) (C := RX3) (T := TX3) (N := 2) hx hb hts (by decide +kernel) hown hK hP 0 rfl rfl 1 (by decide) (hts (.fieldLink RX3 15 "Shortring$Net" "knots" "I") (by decide +kernel)) (fun _ h9 => h9) rfl dX3_isMutual_14 ?_
            refine lv_icmp_ge (tgt := 54) hx hb dX3_isMutual_17 (by decide) (fun c_3 => ?_) (fun c_3 => ?_)
            · exact ex_12  _ _ _ hr hP hS (lv_sub hl [1, 2] rfl)
            · exact absurd (kTop (i := other) (N := K) rfl (by omega)) c_3
          | succ n_12 ih_12 =>
            intro other  H locs ls hi hr hP hS hl
            rewrite [L_isMutual_12] at hr
            refine lv_iload_n hx hb dX3_isMutual_12 rfl (lv_at hl 0 rfl) ?_
            refine lv_aload_n hx hb dX3_isMutual_13 rfl (lv_at hl 1 rfl) ?_
            refine va_get (D := (dC, dI)) (ci := 3) (v := .int (nI K)) (C := RX3) (T := TX3) (N := 2) hx hb hts (by decide +kernel) hown hK hP 0 rfl rfl 1 (by decide) (hts (.fieldLink RX3 15 "Shortring$Net" "knots" "I") (by decide +kernel)) (fun _ h9 => h9) rfl dX3_isMutual_14 ?_
            refine lv_icmp_ge (tgt := 54) hx hb dX3_isMutual_17 (by decide) (fun c_4 => ?_) (fun c_4 => ?_)
            · exact absurd c_4 (kLow (i := other) (N := K) rfl (by omega) (by omega))
            · refine lv_aload_n hx hb dX3_isMutual_20 rfl (lv_at hl 1 rfl) ?_
              refine lv_iload_n hx hb dX3_isMutual_21 rfl (lv_at hl 2 rfl) ?_
              refine lv_iload_n hx hb dX3_isMutual_22 rfl (lv_at hl 0 rfl) ?_
              refine kCall (va_runV (As := [.int (nI one), .int (nI other)]) (rest := []) ⟨hx, hb, hml, hown, hts⟩ (k_X3_isNear l dC dI cI cN h0 h1 K f (nI one) (nI other) (by first | assumption | omega | decide | exact hbap _)) (cwV 2 hts gX3_isMutual_X3_isNear rfl rfl rfl (by decide +kernel) ⟨Nat.le_of_ble_eq_true rfl, Nat.le_of_ble_eq_true rfl⟩) (kW_V hP hK hD hN (ci := 3) (q0 := 0) rfl rfl [0, 1] rfl rfl rfl) rfl rfl hl.1 rfl (lv_room (Nat.le_of_ble_eq_true rfl)) dX3_isMutual_23 ⟨Nat.zero_le _, Nat.zero_le _⟩) hP hS (fun H locs hP hS => ?_)
              refine lv_topi (fun isThere_5 eisThere_5 => ?_)
              have hr := bd_to hr eisThere_5
              refine lv_istore_n (lv' := [(3, .int isThere_5), (2, .int (nI other)), (0, .ref h0), (1, .int (nI one))]) hx hb dX3_isMutual_26 rfl hl (by decide) rfl (fun ls hl => ?_)
              refine lv_iload_n hx hb dX3_isMutual_27 rfl (lv_at hl 0 rfl) ?_
              refine lv_aload_n hx hb dX3_isMutual_28 rfl (lv_at hl 2 rfl) ?_
              refine lv_iload_n hx hb dX3_isMutual_29 rfl (lv_at hl 1 rfl) ?_
              refine lv_iload_n hx hb dX3_isMutual_30 rfl (lv_at hl 3 rfl) ?_
              refine kCall (va_runV (As := [.int (nI other), .int (nI one)]) (rest := [.int isThere_5]) ⟨hx, hb, hml, hown, hts⟩ (k_X3_isNear l dC dI cI cN h0 h1 K f (nI other) (nI one) (by first | assumption | omega | decide | exact hbap _)) (cwV 2 hts gX3_isMutual_X3_isNear rfl rfl rfl (by decide +kernel) ⟨Nat.le_of_ble_eq_true rfl, Nat.le_of_ble_eq_true rfl⟩) (kW_V hP hK hD hN (ci := 3) (q0 := 0) rfl rfl [0, 1] rfl rfl rfl) rfl rfl hl.1 rfl (lv_room (Nat.le_of_ble_eq_true rfl)) dX3_isMutual_31 ⟨Nat.zero_le _, Nat.zero_le _⟩) hP hS (fun H locs hP hS => ?_)
              refine lv_icmp_ne (tgt := 46) hx hb dX3_isMutual_34 (by decide) (fun c_6 => ?_) (fun c_6 => ?_)
              · have hr := if_no hr c_6
                refine lv_iconst (v := 0) hx hb dX3_isMutual_46 (by decide) ?_
                exact W.zret (v := 0) hx hb hr0 rfl (fun t ht hW => kR_end (hr.trans hρ) hS ht) hS.2.2 dX3_isMutual_47
              · have hr := if_to hr c_6
                refine lv_iload_n hx hb dX3_isMutual_37 rfl (lv_at hl 0 rfl) ?_
                refine lv_if_eq (tgt := 48) hx hb dX3_isMutual_38 (by decide) (fun c_7 => ?_) (fun c_7 => ?_)
                · have hr := if_to hr c_7
                  refine lv_iinc (v := nI (other + 1)) (lv' := [(2, .int (nI (other + 1))), (3, .int isThere_5), (0, .ref h0), (1, .int (nI one))]) hx hb dX3_isMutual_48 hl (k := 1) rfl (nI_1 _) (by decide) rfl (fun ls hl => ?_)
                  refine lv_goto (tgt := 12) hx hb dX3_isMutual_51 (by decide) ?_
                  exact ih_12 (other + 1)  _ _ _ (by omega) hr hP hS (lv_sub hl [0, 2, 3] rfl)
                · have hr := if_no hr c_7
                  refine lv_iload_n hx hb dX3_isMutual_41 rfl (lv_at hl 3 rfl) ?_
                  refine lv_iload_n hx hb dX3_isMutual_42 rfl (lv_at hl 1 rfl) ?_
                  refine lv_icmp_ne (tgt := 48) hx hb dX3_isMutual_43 (by decide) (fun c_8 => ?_) (fun c_8 => ?_)
                  · have hr := if_no hr c_8
                    refine lv_iinc (v := nI (other + 1)) (lv' := [(2, .int (nI (other + 1))), (3, .int isThere_5), (0, .ref h0), (1, .int (nI one))]) hx hb dX3_isMutual_48 hl (k := 1) rfl (nI_1 _) (by decide) rfl (fun ls hl => ?_)
                    refine lv_goto (tgt := 12) hx hb dX3_isMutual_51 (by decide) ?_
                    exact ih_12 (other + 1)  _ _ _ (by omega) hr hP hS (lv_sub hl [0, 2, 3] rfl)
                  · have hr := if_to hr c_8
                    refine lv_iconst (v := 0) hx hb dX3_isMutual_46 (by decide) ?_
                    exact W.zret (v := 0) hx hb hr0 rfl (fun t ht hW => kR_end (hr.trans hρ) hS ht) hS.2.2 dX3_isMutual_47
        exact lp_12 K 0  _ _ _ (by omega) hr hP hS (lv_sub hl [0, 2, 1] rfl)
  exact lp_2 K 0  _ _ _ (by omega) hr hP hS (lv_sub hl [0, 1] rfl)
end
