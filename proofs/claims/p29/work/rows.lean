section
-- ===== PART A: goes FIRST, ahead of the names: the tables' words, and 'selects' of the private methods out of them =====
/-- a private method of a class that the tables say can be made, by its rows of tables_1 -/
def lw_okq (q : MethodName × Nat) : Prop := (q.1.cls ≠ "java/lang/invoke/MethodHandle" ∧ q.1.cls ≠ "java/lang/invoke/VarHandle") ∧ Cond.instantiable q.1.cls q.2 ∈ tables_1 ∧ Cond.privateMethod q.1 ∈ tables_1 ∧ Cond.instanceMethod q.1 ∈ tables_1
theorem lw_p0 : lw_okq (⟨"java/lang/Throwable", "fillInStackTrace", "(I)Ljava/lang/Throwable;"⟩, 6) := ⟨⟨by decide +kernel, by decide +kernel⟩, List.mem_of_getElem? (i := 213) (by decide +kernel), List.mem_of_getElem? (i := 211) (by decide +kernel), List.mem_of_getElem? (i := 212) (by decide +kernel)⟩
theorem lw_p1 : lw_okq (⟨"Shortring$Net", "lay", "(I)V"⟩, 2) := ⟨⟨by decide +kernel, by decide +kernel⟩, List.mem_of_getElem? (i := 25) (by decide +kernel), List.mem_of_getElem? (i := 243) (by decide +kernel), List.mem_of_getElem? (i := 244) (by decide +kernel)⟩
theorem lw_p2 : lw_okq (⟨"Shortring$Hunt", "end", "()V"⟩, 11) := ⟨⟨by decide +kernel, by decide +kernel⟩, List.mem_of_getElem? (i := 46) (by decide +kernel), List.mem_of_getElem? (i := 247) (by decide +kernel), List.mem_of_getElem? (i := 248) (by decide +kernel)⟩
theorem lw_p3 : lw_okq (⟨"Shortring$Ledger", "look", "(LShortring$Net;)V"⟩, 2) := ⟨⟨by decide +kernel, by decide +kernel⟩, List.mem_of_getElem? (i := 93) (by decide +kernel), List.mem_of_getElem? (i := 251) (by decide +kernel), List.mem_of_getElem? (i := 252) (by decide +kernel)⟩
theorem lw_p4 : lw_okq (⟨"Shortring$Net", "evenCount", "()I"⟩, 2) := ⟨⟨by decide +kernel, by decide +kernel⟩, List.mem_of_getElem? (i := 25) (by decide +kernel), List.mem_of_getElem? (i := 255) (by decide +kernel), List.mem_of_getElem? (i := 256) (by decide +kernel)⟩
theorem lw_p5 : lw_okq (⟨"Shortring$Net", "countOf", "(I)I"⟩, 2) := ⟨⟨by decide +kernel, by decide +kernel⟩, List.mem_of_getElem? (i := 25) (by decide +kernel), List.mem_of_getElem? (i := 259) (by decide +kernel), List.mem_of_getElem? (i := 260) (by decide +kernel)⟩
theorem lw_p6 : lw_okq (⟨"Shortring$Net", "nearOf", "(I)I"⟩, 2) := ⟨⟨by decide +kernel, by decide +kernel⟩, List.mem_of_getElem? (i := 25) (by decide +kernel), List.mem_of_getElem? (i := 263) (by decide +kernel), List.mem_of_getElem? (i := 264) (by decide +kernel)⟩
theorem lw_p7 : lw_okq (⟨"Shortring$Net", "isNear", "(II)Z"⟩, 2) := ⟨⟨by decide +kernel, by decide +kernel⟩, List.mem_of_getElem? (i := 25) (by decide +kernel), List.mem_of_getElem? (i := 280) (by decide +kernel), List.mem_of_getElem? (i := 281) (by decide +kernel)⟩
theorem lw_p8 : lw_okq (⟨"Shortring$Ledger", "tablePlace", "(II)I"⟩, 2) := ⟨⟨by decide +kernel, by decide +kernel⟩, List.mem_of_getElem? (i := 93) (by decide +kernel), List.mem_of_getElem? (i := 305) (by decide +kernel), List.mem_of_getElem? (i := 306) (by decide +kernel)⟩
theorem lw_p9 : lw_okq (⟨"Shortring$Hunt", "nextKnot", "(LShortring$Net;)I"⟩, 11) := ⟨⟨by decide +kernel, by decide +kernel⟩, List.mem_of_getElem? (i := 46) (by decide +kernel), List.mem_of_getElem? (i := 314) (by decide +kernel), List.mem_of_getElem? (i := 315) (by decide +kernel)⟩
theorem lw_p10 : lw_okq (⟨"Shortring$Hunt", "needy", "(LShortring$Net;)I"⟩, 11) := ⟨⟨by decide +kernel, by decide +kernel⟩, List.mem_of_getElem? (i := 46) (by decide +kernel), List.mem_of_getElem? (i := 318) (by decide +kernel), List.mem_of_getElem? (i := 319) (by decide +kernel)⟩
theorem lw_p11 : lw_okq (⟨"Shortring$Hunt", "joinableOf", "(LShortring$Net;II)I"⟩, 11) := ⟨⟨by decide +kernel, by decide +kernel⟩, List.mem_of_getElem? (i := 46) (by decide +kernel), List.mem_of_getElem? (i := 325) (by decide +kernel), List.mem_of_getElem? (i := 326) (by decide +kernel)⟩
theorem lw_p12 : lw_okq (⟨"Shortring$Hunt", "partnerOf", "(LShortring$Net;I)I"⟩, 11) := ⟨⟨by decide +kernel, by decide +kernel⟩, List.mem_of_getElem? (i := 46) (by decide +kernel), List.mem_of_getElem? (i := 333) (by decide +kernel), List.mem_of_getElem? (i := 334) (by decide +kernel)⟩
theorem lw_p13 : lw_okq (⟨"Shortring$Net", "edgesInAll", "()I"⟩, 2) := ⟨⟨by decide +kernel, by decide +kernel⟩, List.mem_of_getElem? (i := 25) (by decide +kernel), List.mem_of_getElem? (i := 346) (by decide +kernel), List.mem_of_getElem? (i := 347) (by decide +kernel)⟩
theorem lw_p14 : lw_okq (⟨"Shortring$Paint", "fewest", "(LShortring$Net;)I"⟩, 1) := ⟨⟨by decide +kernel, by decide +kernel⟩, List.mem_of_getElem? (i := 127) (by decide +kernel), List.mem_of_getElem? (i := 369) (by decide +kernel), List.mem_of_getElem? (i := 370) (by decide +kernel)⟩
theorem lw_p15 : lw_okq (⟨"Shortring$Paint", "fewestOf", "(LShortring$Net;II)I"⟩, 1) := ⟨⟨by decide +kernel, by decide +kernel⟩, List.mem_of_getElem? (i := 127) (by decide +kernel), List.mem_of_getElem? (i := 376) (by decide +kernel), List.mem_of_getElem? (i := 377) (by decide +kernel)⟩
def lw_privs_1 : List (MethodName × Nat) := [(⟨"java/lang/Throwable", "fillInStackTrace", "(I)Ljava/lang/Throwable;"⟩, 6), (⟨"Shortring$Net", "lay", "(I)V"⟩, 2), (⟨"Shortring$Hunt", "end", "()V"⟩, 11), (⟨"Shortring$Ledger", "look", "(LShortring$Net;)V"⟩, 2), (⟨"Shortring$Net", "evenCount", "()I"⟩, 2), (⟨"Shortring$Net", "countOf", "(I)I"⟩, 2), (⟨"Shortring$Net", "nearOf", "(I)I"⟩, 2), (⟨"Shortring$Net", "isNear", "(II)Z"⟩, 2), (⟨"Shortring$Ledger", "tablePlace", "(II)I"⟩, 2), (⟨"Shortring$Hunt", "nextKnot", "(LShortring$Net;)I"⟩, 11), (⟨"Shortring$Hunt", "needy", "(LShortring$Net;)I"⟩, 11), (⟨"Shortring$Hunt", "joinableOf", "(LShortring$Net;II)I"⟩, 11), (⟨"Shortring$Hunt", "partnerOf", "(LShortring$Net;I)I"⟩, 11), (⟨"Shortring$Net", "edgesInAll", "()I"⟩, 2), (⟨"Shortring$Paint", "fewest", "(LShortring$Net;)I"⟩, 1), (⟨"Shortring$Paint", "fewestOf", "(LShortring$Net;II)I"⟩, 1)]
theorem lw_r1 : ∀ q ∈ lw_privs_1, lw_okq q := List.forall_mem_cons.mpr ⟨lw_p0, List.forall_mem_cons.mpr ⟨lw_p1, List.forall_mem_cons.mpr ⟨lw_p2, List.forall_mem_cons.mpr ⟨lw_p3, List.forall_mem_cons.mpr ⟨lw_p4, List.forall_mem_cons.mpr ⟨lw_p5, List.forall_mem_cons.mpr ⟨lw_p6, List.forall_mem_cons.mpr ⟨lw_p7, List.forall_mem_cons.mpr ⟨lw_p8, List.forall_mem_cons.mpr ⟨lw_p9, List.forall_mem_cons.mpr ⟨lw_p10, List.forall_mem_cons.mpr ⟨lw_p11, List.forall_mem_cons.mpr ⟨lw_p12, List.forall_mem_cons.mpr ⟨lw_p13, List.forall_mem_cons.mpr ⟨lw_p14, List.forall_mem_cons.mpr ⟨lw_p15, fun _ h => absurd h List.not_mem_nil⟩⟩⟩⟩⟩⟩⟩⟩⟩⟩⟩⟩⟩⟩⟩⟩
theorem lw_p16 : lw_okq (⟨"Shortring$Likeness", "turnsOf", "(LShortring$Net;)I"⟩, 4) := ⟨⟨by decide +kernel, by decide +kernel⟩, List.mem_of_getElem? (i := 106) (by decide +kernel), List.mem_of_getElem? (i := 388) (by decide +kernel), List.mem_of_getElem? (i := 389) (by decide +kernel)⟩
theorem lw_p17 : lw_okq (⟨"Shortring$Net", "take", "(LShortring$Net;)V"⟩, 2) := ⟨⟨by decide +kernel, by decide +kernel⟩, List.mem_of_getElem? (i := 25) (by decide +kernel), List.mem_of_getElem? (i := 392) (by decide +kernel), List.mem_of_getElem? (i := 393) (by decide +kernel)⟩
theorem lw_p18 : lw_okq (⟨"Shortring$Likeness", "partsLike", "(II)I"⟩, 4) := ⟨⟨by decide +kernel, by decide +kernel⟩, List.mem_of_getElem? (i := 106) (by decide +kernel), List.mem_of_getElem? (i := 398) (by decide +kernel), List.mem_of_getElem? (i := 399) (by decide +kernel)⟩
theorem lw_p19 : lw_okq (⟨"Shortring$Likeness", "waysOf", "(III)I"⟩, 4) := ⟨⟨by decide +kernel, by decide +kernel⟩, List.mem_of_getElem? (i := 106) (by decide +kernel), List.mem_of_getElem? (i := 402) (by decide +kernel), List.mem_of_getElem? (i := 403) (by decide +kernel)⟩
theorem lw_p20 : lw_okq (⟨"Shortring$Likeness", "nextToPlace", "(I)I"⟩, 4) := ⟨⟨by decide +kernel, by decide +kernel⟩, List.mem_of_getElem? (i := 106) (by decide +kernel), List.mem_of_getElem? (i := 410) (by decide +kernel), List.mem_of_getElem? (i := 411) (by decide +kernel)⟩
theorem lw_p21 : lw_okq (⟨"Shortring$Likeness", "fitting", "(II)I"⟩, 4) := ⟨⟨by decide +kernel, by decide +kernel⟩, List.mem_of_getElem? (i := 106) (by decide +kernel), List.mem_of_getElem? (i := 415) (by decide +kernel), List.mem_of_getElem? (i := 416) (by decide +kernel)⟩
theorem lw_p22 : lw_okq (⟨"Shortring$Likeness", "place", "(II)V"⟩, 4) := ⟨⟨by decide +kernel, by decide +kernel⟩, List.mem_of_getElem? (i := 106) (by decide +kernel), List.mem_of_getElem? (i := 420) (by decide +kernel), List.mem_of_getElem? (i := 421) (by decide +kernel)⟩
theorem lw_p23 : lw_okq (⟨"Shortring$Net", "loneliest", "()I"⟩, 2) := ⟨⟨by decide +kernel, by decide +kernel⟩, List.mem_of_getElem? (i := 25) (by decide +kernel), List.mem_of_getElem? (i := 425) (by decide +kernel), List.mem_of_getElem? (i := 426) (by decide +kernel)⟩
theorem lw_p24 : lw_okq (⟨"Shortring$Net", "isKnot", "(I)Z"⟩, 2) := ⟨⟨by decide +kernel, by decide +kernel⟩, List.mem_of_getElem? (i := 25) (by decide +kernel), List.mem_of_getElem? (i := 434) (by decide +kernel), List.mem_of_getElem? (i := 435) (by decide +kernel)⟩
theorem lw_p25 : lw_okq (⟨"Shortring$Hunt", "joinable", "(LShortring$Net;I)I"⟩, 11) := ⟨⟨by decide +kernel, by decide +kernel⟩, List.mem_of_getElem? (i := 46) (by decide +kernel), List.mem_of_getElem? (i := 462) (by decide +kernel), List.mem_of_getElem? (i := 463) (by decide +kernel)⟩
theorem lw_p26 : lw_okq (⟨"Shortring", "requireTabled", "(II)V"⟩, 10) := ⟨⟨by decide +kernel, by decide +kernel⟩, List.mem_of_getElem? (i := 17) (by decide +kernel), List.mem_of_getElem? (i := 470) (by decide +kernel), List.mem_of_getElem? (i := 471) (by decide +kernel)⟩
theorem lw_p27 : lw_okq (⟨"Shortring$Net", "isMutual", "()Z"⟩, 2) := ⟨⟨by decide +kernel, by decide +kernel⟩, List.mem_of_getElem? (i := 25) (by decide +kernel), List.mem_of_getElem? (i := 483) (by decide +kernel), List.mem_of_getElem? (i := 484) (by decide +kernel)⟩
theorem lw_p28 : lw_okq (⟨"Shortring", "isAimSound", "()Z"⟩, 10) := ⟨⟨by decide +kernel, by decide +kernel⟩, List.mem_of_getElem? (i := 17) (by decide +kernel), List.mem_of_getElem? (i := 488) (by decide +kernel), List.mem_of_getElem? (i := 489) (by decide +kernel)⟩
theorem lw_p29 : lw_okq (⟨"Shortring", "isEvenSound", "()Z"⟩, 10) := ⟨⟨by decide +kernel, by decide +kernel⟩, List.mem_of_getElem? (i := 17) (by decide +kernel), List.mem_of_getElem? (i := 492) (by decide +kernel), List.mem_of_getElem? (i := 493) (by decide +kernel)⟩
theorem lw_p30 : lw_okq (⟨"Shortring$Ledger", "why", "(III)I"⟩, 2) := ⟨⟨by decide +kernel, by decide +kernel⟩, List.mem_of_getElem? (i := 93) (by decide +kernel), List.mem_of_getElem? (i := 496) (by decide +kernel), List.mem_of_getElem? (i := 497) (by decide +kernel)⟩
theorem lw_p31 : lw_okq (⟨"Shortring$Ledger", "isProved", "(III)Z"⟩, 2) := ⟨⟨by decide +kernel, by decide +kernel⟩, List.mem_of_getElem? (i := 93) (by decide +kernel), List.mem_of_getElem? (i := 501) (by decide +kernel), List.mem_of_getElem? (i := 502) (by decide +kernel)⟩
def lw_privs_2 : List (MethodName × Nat) := [(⟨"Shortring$Likeness", "turnsOf", "(LShortring$Net;)I"⟩, 4), (⟨"Shortring$Net", "take", "(LShortring$Net;)V"⟩, 2), (⟨"Shortring$Likeness", "partsLike", "(II)I"⟩, 4), (⟨"Shortring$Likeness", "waysOf", "(III)I"⟩, 4), (⟨"Shortring$Likeness", "nextToPlace", "(I)I"⟩, 4), (⟨"Shortring$Likeness", "fitting", "(II)I"⟩, 4), (⟨"Shortring$Likeness", "place", "(II)V"⟩, 4), (⟨"Shortring$Net", "loneliest", "()I"⟩, 2), (⟨"Shortring$Net", "isKnot", "(I)Z"⟩, 2), (⟨"Shortring$Hunt", "joinable", "(LShortring$Net;I)I"⟩, 11), (⟨"Shortring", "requireTabled", "(II)V"⟩, 10), (⟨"Shortring$Net", "isMutual", "()Z"⟩, 2), (⟨"Shortring", "isAimSound", "()Z"⟩, 10), (⟨"Shortring", "isEvenSound", "()Z"⟩, 10), (⟨"Shortring$Ledger", "why", "(III)I"⟩, 2), (⟨"Shortring$Ledger", "isProved", "(III)Z"⟩, 2)]
theorem lw_r2 : ∀ q ∈ lw_privs_2, lw_okq q := List.forall_mem_cons.mpr ⟨lw_p16, List.forall_mem_cons.mpr ⟨lw_p17, List.forall_mem_cons.mpr ⟨lw_p18, List.forall_mem_cons.mpr ⟨lw_p19, List.forall_mem_cons.mpr ⟨lw_p20, List.forall_mem_cons.mpr ⟨lw_p21, List.forall_mem_cons.mpr ⟨lw_p22, List.forall_mem_cons.mpr ⟨lw_p23, List.forall_mem_cons.mpr ⟨lw_p24, List.forall_mem_cons.mpr ⟨lw_p25, List.forall_mem_cons.mpr ⟨lw_p26, List.forall_mem_cons.mpr ⟨lw_p27, List.forall_mem_cons.mpr ⟨lw_p28, List.forall_mem_cons.mpr ⟨lw_p29, List.forall_mem_cons.mpr ⟨lw_p30, List.forall_mem_cons.mpr ⟨lw_p31, fun _ h => absurd h List.not_mem_nil⟩⟩⟩⟩⟩⟩⟩⟩⟩⟩⟩⟩⟩⟩⟩⟩
theorem lw_p32 : lw_okq (⟨"Shortring$Ledger", "proofPlace", "(II)I"⟩, 2) := ⟨⟨by decide +kernel, by decide +kernel⟩, List.mem_of_getElem? (i := 93) (by decide +kernel), List.mem_of_getElem? (i := 505) (by decide +kernel), List.mem_of_getElem? (i := 506) (by decide +kernel)⟩
theorem lw_p33 : lw_okq (⟨"Shortring$Ledger", "isTableSound", "()Z"⟩, 2) := ⟨⟨by decide +kernel, by decide +kernel⟩, List.mem_of_getElem? (i := 93) (by decide +kernel), List.mem_of_getElem? (i := 509) (by decide +kernel), List.mem_of_getElem? (i := 510) (by decide +kernel)⟩
theorem lw_p34 : lw_okq (⟨"Shortring$Ledger", "smallestOf", "(II)I"⟩, 2) := ⟨⟨by decide +kernel, by decide +kernel⟩, List.mem_of_getElem? (i := 93) (by decide +kernel), List.mem_of_getElem? (i := 513) (by decide +kernel), List.mem_of_getElem? (i := 514) (by decide +kernel)⟩
theorem lw_p35 : lw_okq (⟨"Shortring$Ledger", "nextOf", "(II)I"⟩, 2) := ⟨⟨by decide +kernel, by decide +kernel⟩, List.mem_of_getElem? (i := 93) (by decide +kernel), List.mem_of_getElem? (i := 518) (by decide +kernel), List.mem_of_getElem? (i := 519) (by decide +kernel)⟩
theorem lw_p36 : lw_okq (⟨"Shortring", "digestOfKnots", "(J)J"⟩, 10) := ⟨⟨by decide +kernel, by decide +kernel⟩, List.mem_of_getElem? (i := 17) (by decide +kernel), List.mem_of_getElem? (i := 530) (by decide +kernel), List.mem_of_getElem? (i := 531) (by decide +kernel)⟩
theorem lw_p37 : lw_okq (⟨"Shortring", "digestOfEdges", "(J)J"⟩, 10) := ⟨⟨by decide +kernel, by decide +kernel⟩, List.mem_of_getElem? (i := 17) (by decide +kernel), List.mem_of_getElem? (i := 535) (by decide +kernel), List.mem_of_getElem? (i := 536) (by decide +kernel)⟩
theorem lw_p38 : lw_okq (⟨"Shortring$Net", "edgeAt", "(I)I"⟩, 2) := ⟨⟨by decide +kernel, by decide +kernel⟩, List.mem_of_getElem? (i := 25) (by decide +kernel), List.mem_of_getElem? (i := 543) (by decide +kernel), List.mem_of_getElem? (i := 544) (by decide +kernel)⟩
theorem lw_p39 : lw_okq (⟨"Shortring", "countRings", "(I)V"⟩, 10) := ⟨⟨by decide +kernel, by decide +kernel⟩, List.mem_of_getElem? (i := 17) (by decide +kernel), List.mem_of_getElem? (i := 568) (by decide +kernel), List.mem_of_getElem? (i := 569) (by decide +kernel)⟩
theorem lw_p40 : lw_okq (⟨"Shortring", "tallied", "(I)I"⟩, 10) := ⟨⟨by decide +kernel, by decide +kernel⟩, List.mem_of_getElem? (i := 17) (by decide +kernel), List.mem_of_getElem? (i := 577) (by decide +kernel), List.mem_of_getElem? (i := 578) (by decide +kernel)⟩
theorem lw_p41 : lw_okq (⟨"Shortring", "digestOfTable", "(J)J"⟩, 10) := ⟨⟨by decide +kernel, by decide +kernel⟩, List.mem_of_getElem? (i := 17) (by decide +kernel), List.mem_of_getElem? (i := 581) (by decide +kernel), List.mem_of_getElem? (i := 582) (by decide +kernel)⟩
theorem lw_p42 : lw_okq (⟨"Shortring", "keptAt", "(I)LShortring$Net;"⟩, 10) := ⟨⟨by decide +kernel, by decide +kernel⟩, List.mem_of_getElem? (i := 17) (by decide +kernel), List.mem_of_getElem? (i := 595) (by decide +kernel), List.mem_of_getElem? (i := 596) (by decide +kernel)⟩
theorem lw_p43 : lw_okq (⟨"Shortring$Likeness", "areAlike", "(LShortring$Net;LShortring$Net;)Z"⟩, 4) := ⟨⟨by decide +kernel, by decide +kernel⟩, List.mem_of_getElem? (i := 106) (by decide +kernel), List.mem_of_getElem? (i := 600) (by decide +kernel), List.mem_of_getElem? (i := 601) (by decide +kernel)⟩
theorem lw_p44 : lw_okq (⟨"Shortring$Likeness", "partMatching", "(II)I"⟩, 4) := ⟨⟨by decide +kernel, by decide +kernel⟩, List.mem_of_getElem? (i := 106) (by decide +kernel), List.mem_of_getElem? (i := 605) (by decide +kernel), List.mem_of_getElem? (i := 606) (by decide +kernel)⟩
theorem lw_p45 : lw_okq (⟨"Shortring$Net", "join", "(II)V"⟩, 2) := ⟨⟨by decide +kernel, by decide +kernel⟩, List.mem_of_getElem? (i := 25) (by decide +kernel), List.mem_of_getElem? (i := 646) (by decide +kernel), List.mem_of_getElem? (i := 647) (by decide +kernel)⟩
theorem lw_p46 : lw_okq (⟨"Shortring$Net", "loosen", "(II)V"⟩, 2) := ⟨⟨by decide +kernel, by decide +kernel⟩, List.mem_of_getElem? (i := 25) (by decide +kernel), List.mem_of_getElem? (i := 651) (by decide +kernel), List.mem_of_getElem? (i := 652) (by decide +kernel)⟩
theorem lw_p47 : lw_okq (⟨"Shortring", "layByJumps", "(II)V"⟩, 10) := ⟨⟨by decide +kernel, by decide +kernel⟩, List.mem_of_getElem? (i := 17) (by decide +kernel), List.mem_of_getElem? (i := 663) (by decide +kernel), List.mem_of_getElem? (i := 664) (by decide +kernel)⟩
def lw_privs_3 : List (MethodName × Nat) := [(⟨"Shortring$Ledger", "proofPlace", "(II)I"⟩, 2), (⟨"Shortring$Ledger", "isTableSound", "()Z"⟩, 2), (⟨"Shortring$Ledger", "smallestOf", "(II)I"⟩, 2), (⟨"Shortring$Ledger", "nextOf", "(II)I"⟩, 2), (⟨"Shortring", "digestOfKnots", "(J)J"⟩, 10), (⟨"Shortring", "digestOfEdges", "(J)J"⟩, 10), (⟨"Shortring$Net", "edgeAt", "(I)I"⟩, 2), (⟨"Shortring", "countRings", "(I)V"⟩, 10), (⟨"Shortring", "tallied", "(I)I"⟩, 10), (⟨"Shortring", "digestOfTable", "(J)J"⟩, 10), (⟨"Shortring", "keptAt", "(I)LShortring$Net;"⟩, 10), (⟨"Shortring$Likeness", "areAlike", "(LShortring$Net;LShortring$Net;)Z"⟩, 4), (⟨"Shortring$Likeness", "partMatching", "(II)I"⟩, 4), (⟨"Shortring$Net", "join", "(II)V"⟩, 2), (⟨"Shortring$Net", "loosen", "(II)V"⟩, 2), (⟨"Shortring", "layByJumps", "(II)V"⟩, 10)]
theorem lw_r3 : ∀ q ∈ lw_privs_3, lw_okq q := List.forall_mem_cons.mpr ⟨lw_p32, List.forall_mem_cons.mpr ⟨lw_p33, List.forall_mem_cons.mpr ⟨lw_p34, List.forall_mem_cons.mpr ⟨lw_p35, List.forall_mem_cons.mpr ⟨lw_p36, List.forall_mem_cons.mpr ⟨lw_p37, List.forall_mem_cons.mpr ⟨lw_p38, List.forall_mem_cons.mpr ⟨lw_p39, List.forall_mem_cons.mpr ⟨lw_p40, List.forall_mem_cons.mpr ⟨lw_p41, List.forall_mem_cons.mpr ⟨lw_p42, List.forall_mem_cons.mpr ⟨lw_p43, List.forall_mem_cons.mpr ⟨lw_p44, List.forall_mem_cons.mpr ⟨lw_p45, List.forall_mem_cons.mpr ⟨lw_p46, List.forall_mem_cons.mpr ⟨lw_p47, fun _ h => absurd h List.not_mem_nil⟩⟩⟩⟩⟩⟩⟩⟩⟩⟩⟩⟩⟩⟩⟩⟩
theorem lw_p48 : lw_okq (⟨"Shortring", "layDouble", "(I)V"⟩, 10) := ⟨⟨by decide +kernel, by decide +kernel⟩, List.mem_of_getElem? (i := 17) (by decide +kernel), List.mem_of_getElem? (i := 677) (by decide +kernel), List.mem_of_getElem? (i := 678) (by decide +kernel)⟩
theorem lw_p49 : lw_okq (⟨"Shortring", "canExchange", "(II)Z"⟩, 10) := ⟨⟨by decide +kernel, by decide +kernel⟩, List.mem_of_getElem? (i := 17) (by decide +kernel), List.mem_of_getElem? (i := 690) (by decide +kernel), List.mem_of_getElem? (i := 691) (by decide +kernel)⟩
theorem lw_p50 : lw_okq (⟨"Shortring", "exchange", "(II)V"⟩, 10) := ⟨⟨by decide +kernel, by decide +kernel⟩, List.mem_of_getElem? (i := 17) (by decide +kernel), List.mem_of_getElem? (i := 694) (by decide +kernel), List.mem_of_getElem? (i := 695) (by decide +kernel)⟩
theorem lw_p51 : lw_okq (⟨"Shortring", "mendByRounds", "(III)I"⟩, 10) := ⟨⟨by decide +kernel, by decide +kernel⟩, List.mem_of_getElem? (i := 17) (by decide +kernel), List.mem_of_getElem? (i := 706) (by decide +kernel), List.mem_of_getElem? (i := 707) (by decide +kernel)⟩
theorem lw_p52 : lw_okq (⟨"Shortring", "shortRings", "(I)I"⟩, 10) := ⟨⟨by decide +kernel, by decide +kernel⟩, List.mem_of_getElem? (i := 17) (by decide +kernel), List.mem_of_getElem? (i := 710) (by decide +kernel), List.mem_of_getElem? (i := 711) (by decide +kernel)⟩
theorem lw_p53 : lw_okq (⟨"Shortring$Hunt", "begin", "(II)V"⟩, 11) := ⟨⟨by decide +kernel, by decide +kernel⟩, List.mem_of_getElem? (i := 46) (by decide +kernel), List.mem_of_getElem? (i := 721) (by decide +kernel), List.mem_of_getElem? (i := 722) (by decide +kernel)⟩
theorem lw_p54 : lw_okq (⟨"Shortring$Hunt", "unbarDownTo", "(I)V"⟩, 11) := ⟨⟨by decide +kernel, by decide +kernel⟩, List.mem_of_getElem? (i := 46) (by decide +kernel), List.mem_of_getElem? (i := 725) (by decide +kernel), List.mem_of_getElem? (i := 726) (by decide +kernel)⟩
theorem lw_p55 : lw_okq (⟨"Shortring$Hunt", "flipBar", "(II)V"⟩, 11) := ⟨⟨by decide +kernel, by decide +kernel⟩, List.mem_of_getElem? (i := 46) (by decide +kernel), List.mem_of_getElem? (i := 731) (by decide +kernel), List.mem_of_getElem? (i := 732) (by decide +kernel)⟩
theorem lw_p56 : lw_okq (⟨"Shortring$Hunt", "step", "(LShortring$Net;)V"⟩, 11) := ⟨⟨by decide +kernel, by decide +kernel⟩, List.mem_of_getElem? (i := 46) (by decide +kernel), List.mem_of_getElem? (i := 741) (by decide +kernel), List.mem_of_getElem? (i := 742) (by decide +kernel)⟩
theorem lw_p57 : lw_okq (⟨"Shortring$Hunt", "goBack", "(LShortring$Net;)V"⟩, 11) := ⟨⟨by decide +kernel, by decide +kernel⟩, List.mem_of_getElem? (i := 46) (by decide +kernel), List.mem_of_getElem? (i := 747) (by decide +kernel), List.mem_of_getElem? (i := 748) (by decide +kernel)⟩
theorem lw_p58 : lw_okq (⟨"Shortring$Hunt", "bar", "(I)V"⟩, 11) := ⟨⟨by decide +kernel, by decide +kernel⟩, List.mem_of_getElem? (i := 46) (by decide +kernel), List.mem_of_getElem? (i := 752) (by decide +kernel), List.mem_of_getElem? (i := 753) (by decide +kernel)⟩
theorem lw_p59 : lw_okq (⟨"Shortring$Hunt", "put", "(LShortring$Net;II)V"⟩, 11) := ⟨⟨by decide +kernel, by decide +kernel⟩, List.mem_of_getElem? (i := 46) (by decide +kernel), List.mem_of_getElem? (i := 756) (by decide +kernel), List.mem_of_getElem? (i := 757) (by decide +kernel)⟩
theorem lw_p60 : lw_okq (⟨"Shortring$Ledger", "prove", "(III)V"⟩, 2) := ⟨⟨by decide +kernel, by decide +kernel⟩, List.mem_of_getElem? (i := 93) (by decide +kernel), List.mem_of_getElem? (i := 762) (by decide +kernel), List.mem_of_getElem? (i := 763) (by decide +kernel)⟩
def lw_privs_4 : List (MethodName × Nat) := [(⟨"Shortring", "layDouble", "(I)V"⟩, 10), (⟨"Shortring", "canExchange", "(II)Z"⟩, 10), (⟨"Shortring", "exchange", "(II)V"⟩, 10), (⟨"Shortring", "mendByRounds", "(III)I"⟩, 10), (⟨"Shortring", "shortRings", "(I)I"⟩, 10), (⟨"Shortring$Hunt", "begin", "(II)V"⟩, 11), (⟨"Shortring$Hunt", "unbarDownTo", "(I)V"⟩, 11), (⟨"Shortring$Hunt", "flipBar", "(II)V"⟩, 11), (⟨"Shortring$Hunt", "step", "(LShortring$Net;)V"⟩, 11), (⟨"Shortring$Hunt", "goBack", "(LShortring$Net;)V"⟩, 11), (⟨"Shortring$Hunt", "bar", "(I)V"⟩, 11), (⟨"Shortring$Hunt", "put", "(LShortring$Net;II)V"⟩, 11), (⟨"Shortring$Ledger", "prove", "(III)V"⟩, 2)]
theorem lw_r4 : ∀ q ∈ lw_privs_4, lw_okq q := List.forall_mem_cons.mpr ⟨lw_p48, List.forall_mem_cons.mpr ⟨lw_p49, List.forall_mem_cons.mpr ⟨lw_p50, List.forall_mem_cons.mpr ⟨lw_p51, List.forall_mem_cons.mpr ⟨lw_p52, List.forall_mem_cons.mpr ⟨lw_p53, List.forall_mem_cons.mpr ⟨lw_p54, List.forall_mem_cons.mpr ⟨lw_p55, List.forall_mem_cons.mpr ⟨lw_p56, List.forall_mem_cons.mpr ⟨lw_p57, List.forall_mem_cons.mpr ⟨lw_p58, List.forall_mem_cons.mpr ⟨lw_p59, List.forall_mem_cons.mpr ⟨lw_p60, fun _ h => absurd h List.not_mem_nil⟩⟩⟩⟩⟩⟩⟩⟩⟩⟩⟩⟩⟩
def lw_privs : List (MethodName × Nat) := lw_privs_1 ++ (lw_privs_2 ++ (lw_privs_3 ++ (lw_privs_4)))
def lw_tbl : List Cond := k2_sels lw_privs ++ tables_1
theorem lw_privs_ok : ∀ q ∈ lw_privs, lw_okq q := by
  show ∀ q ∈ lw_privs_1 ++ (lw_privs_2 ++ (lw_privs_3 ++ (lw_privs_4))), lw_okq q
  exact List.forall_mem_append.mpr ⟨lw_r1, List.forall_mem_append.mpr ⟨lw_r2, List.forall_mem_append.mpr ⟨lw_r3, lw_r4⟩⟩⟩
-- ===== end of PART A; then your names; then what follows =====
end
section
/-! ===== BEGIN words of one list among another's, by their places ===== -/
theorem goodIn_r {big : List Cond} (ws : List Cond) (ps : List Nat) (hp : ws = ps.filterMap (fun i => big[i]?)) (h : ws.all goodWord = true) : GoodIn big ws := by sorry
theorem goodIn_app {big a b : List Cond} (ha : GoodIn big a) (hb : GoodIn big b) : GoodIn big (a ++ b) := by sorry
theorem goodIn_ca {big a b : List Cond} {c : Cond} (ha : GoodIn big (c :: a)) (hb : GoodIn big b) : GoodIn big (c :: (a ++ b)) := by sorry
theorem goodIn_sub {big ws : List Cond} (hm : ∀ w ∈ ws, w ∈ big) (h : ws.all goodWord = true) : GoodIn big ws := by sorry
/-! ===== END ===== -/

/-! ===== BEGIN exceptions that leave a method, and their catching by the caller (launches without stack traces) ===== -/
section VXA
/-! The laws vx_back, vx_callV, vx_callS, vx_callSW, vx_throw0, vx_throwS follow proofs of the library, with one case more: JvmDerived/Free/Laws.lean (Back.of_free), Shelf42/LK1.lean (callV, callS), Shelf/KitTraced.lean (throwNew0V, throwNewS). -/
/-- where a method has thrown q: the class by its name, the cell, what was written, the world -/
def vx_T (XC : String → State → State → Prop) (st : State) (q : Addr) (t : State) (mc ms : Nat) (free : Addr → Prop) : Prop :=
  ∃ (E : String) (ce : Cell) (L : List Loc), XC E st t ∧ t.heap[q]? = some ce ∧ ce.vm = .none ∧ st.vm.findClass E = some ce.cls ∧ st.WarmedH t.vm ∧ st.sameButNew ({ t with vm := st.vm } : State) L mc ms ∧ ∀ z ∈ L, free z.base
def vx_Q (Qc : Array Value → State → Outcome → State → Prop) (XC : String → State → State → Prop) (mc ms : Nat) (free : Addr → Prop) : Array Value → State → Outcome → State → Prop := fun a st o t =>
  (Qc a st o t ∧ ∃ L, FrameEnd st o t L mc ms ∧ ∀ q ∈ L, free q.base) ∨ ∃ q, o = .threw q ∧ vx_T XC st q t mc ms free
/-- a callee that returns or throws -/
def vx_Met (l : Launch) (y : MethodName) (ws : List Cond) (rm : Room) (Pc : Array Value → State → Prop) (Qc : Array Value → State → Outcome → State → Prop) (XC : String → State → State → Prop) (mc ms : Nat) (free : Addr → Prop) : Prop :=
  MetFree l y (headSpec ws rm) Pc (fun _ _ _ _ _ => True) (vx_Q Qc XC mc ms free)
def vx_Post (XC : String → State → State → Prop) (mc ms : Nat) (free : Addr → Prop) : Pt → Array Value → Addr → Pt → Prop := fun A a q B =>
  ∃ (g : JFrame) (mk : MethodId) (t : State) (L : List Loc) (E : String) (ce : Cell), B.U.heap = t.heap ∧ B.U.vm = t.vm ∧ XC E (A.U.calling g mk a) t ∧ t.heap[q]? = some ce ∧ ce.vm = .none ∧ A.U.vm.findClass E = some ce.cls ∧ B.locs = A.locs ++ L ∧ (∀ z ∈ L, free z.base) ∧ B.cells = A.cells + mc ∧ B.slots = A.slots + ms
def vx_Back (l : Launch) (R : Room) (p : Program) (e : Env) (below : List Frame) (s : State) (sargs : Array Value) (y : MethodName) (len W9 : Nat)
    (Pre : Pt → Array Value → Prop) (Post : Pt → Array Value → Option Value → Pt → Prop) (PostX : Pt → Array Value → Addr → Pt → Prop) : Prop :=
  ∀ (m : MethodId) (meth : Method) (c : Code) (A : Pt) (g : JFrame) (ig : Instr) (mk : MethodId) (a : Array Value),
    Stand p l e R s m sargs below meth c A.U A.locs A.cells A.slots → g.method = m → g.locals.size = c.maxLocals → decode c.code g.pc = .ok (ig, len) →
    2 * g.monitorRoom + (g.stack.map fun v => v.category).sum ≤ W9 → A.U.methodNamed? y = some mk → Pre A a →
    (∃ (v : Option Value) (B : Pt), Stand p l e R s m sargs below meth c B.U B.locs B.cells B.slots ∧ Post A a v B ∧
      Steps p.tables e below (doInvoke e (A.U.setTop g) [] mk a).1 (B.U.setTop { g with pc := g.pc + len, stack := v.toList ++ g.stack })) ∨
    (∃ (q : Addr) (B : Pt), Stand p l e R s m sargs below meth c B.U B.locs B.cells B.slots ∧ PostX A a q B ∧
      Steps p.tables e below (doInvoke e (A.U.setTop g) [] mk a).1 ((B.U.setTop g).pushFrame (.throwing q)))
section Payer
variable {l : Launch} {R : Room} {p : Program} {e : Env} {below : List Frame} {s : State} {sargs : Array Value} {y : MethodName} {len W9 : Nat}
theorem vx_back {ws : List Cond} {rm : Room} {Pc : Array Value → State → Prop} {Qc : Array Value → State → Outcome → State → Prop} {XC : String → State → State → Prop} {mc ms : Nat} {free : Addr → Prop} {bytes : ByteArray} {maxL : Nat} {ret : Option FieldType}
    (hM : vx_Met l y ws rm Pc Qc XC mc ms free) (hblind : FrameBlind Pc) (hrc : rm.cells = mc) (hrs : rm.slots = ms)
    (hframes : rm.frames + 1 ≤ R.frames) (hlocals : W9 + (maxL + 11) + rm.locals ≤ R.locals)
    (hws : ∀ w ∈ ws, ∀ a' U, s.WarmedH U.vm → w.before a' U = true) (hcode : Cond.code y bytes maxL ret ∈ ws) (hinit : ∀ a' U, s.WarmedH U.vm → (Cond.initialized y.cls).before a' U = true) :
    vx_Back l R p e below s sargs y len W9 (PreOf R mc ms Pc) (PostOf Qc mc ms free) (vx_Post XC mc ms free) := by sorry
end Payer
section Calls
variable {p : Program} {l : Launch} {e : Env} {R : Room} {s : State} {m : MethodId} {args : Array Value} {below : List Frame} {meth : Method} {c : Code} {T : State} {locs : List Loc} {cells slots : Nat}
theorem vx_callV (X : Stand p l e R s m args below meth c T locs cells slots) (hexec : p.tables.exec = Jvm.exec) {own C : String} {index : Nat} {y : MethodName} {bytes : ByteArray} {maxL : Nat} {ret : Option FieldType}
    (hown : s.vm.findClass own = some m.cls) (hlink : (Cond.methodLink own index y).before args s = true) (hinst : (Cond.instanceMethod y).before args s = true) (hsel : (Cond.selects C y y).before args s = true)
    (hcode : (Cond.code y bytes maxL ret).before args s = true) (hy : y.cls ≠ "java/lang/invoke/MethodHandle" ∧ y.cls ≠ "java/lang/invoke/VarHandle")
    {W9 : Nat} {Pre : Pt → Array Value → Prop} {Post : Pt → Array Value → Option Value → Pt → Prop} {PostX : Pt → Array Value → Addr → Pt → Prop} (hK : vx_Back l R p e below s args y 3 W9 Pre Post PostX)
    {b : Addr} {cellB : Cell} (hcell : T.heap[b]? = some cellB) (hobj : cellB.vm.isStatics = false) (hcls : s.vm.findClass C = some cellB.cls)
    {g : JFrame} (hg : g.method = m) (hsize : g.locals.size = c.maxLocals) {argsL rest : List Value} (hlen : ∀ sig, parseMethodDescriptor y.desc = some sig → argsL.length = sig.parameters.length)
    (hstack : g.stack = argsL.reverse ++ .ref b :: rest) (hW : 2 * g.monitorRoom + (rest.map fun v => v.category).sum ≤ W9) (hdg : decode c.code g.pc = .ok (.invokevirtual index, 3))
    (hpre : ∀ vm₁, s.WarmedH vm₁ → Pre ⟨T.setVm vm₁, locs, cells, slots⟩ (Value.ref b :: argsL).toArray) :
    (∃ (v : Option Value) (vm₁ : Vm) (B : Pt), s.WarmedH vm₁ ∧ Stand p l e R s m args below meth c B.U B.locs B.cells B.slots ∧ Post ⟨T.setVm vm₁, locs, cells, slots⟩ (Value.ref b :: argsL).toArray v B ∧
      ∀ target, Steps p.tables e below (B.U.setTop { g with pc := g.pc + 3, stack := v.toList ++ rest }) target → Steps p.tables e below (T.setTop g) target) ∨
    (∃ (q : Addr) (vm₁ : Vm) (B : Pt), s.WarmedH vm₁ ∧ Stand p l e R s m args below meth c B.U B.locs B.cells B.slots ∧ PostX ⟨T.setVm vm₁, locs, cells, slots⟩ (Value.ref b :: argsL).toArray q B ∧
      Steps p.tables e below (T.setTop g) ((B.U.setTop { g with stack := rest }).pushFrame (.throwing q))) := by sorry
theorem vx_callS (X : Stand p l e R s m args below meth c T locs cells slots) (hexec : p.tables.exec = Jvm.exec) {own : String} {index : Nat} {y : MethodName} {bytes : ByteArray} {maxL : Nat} {ret : Option FieldType}
    (hown : s.vm.findClass own = some m.cls) (hlink : (Cond.methodLink own index y).before args s = true) (hstat : (Cond.static y).before args s = true) (hinit : (Cond.initialized y.cls).before args s = true)
    (hcode : (Cond.code y bytes maxL ret).before args s = true) (hy : y.cls ≠ "java/lang/invoke/MethodHandle" ∧ y.cls ≠ "java/lang/invoke/VarHandle")
    {W9 : Nat} {Pre : Pt → Array Value → Prop} {Post : Pt → Array Value → Option Value → Pt → Prop} {PostX : Pt → Array Value → Addr → Pt → Prop} (hK : vx_Back l R p e below s args y 3 W9 Pre Post PostX)
    {g : JFrame} (hg : g.method = m) (hsize : g.locals.size = c.maxLocals) {argsL rest : List Value} (hlen : ∀ sig, parseMethodDescriptor y.desc = some sig → argsL.length = sig.parameters.length)
    (hstack : g.stack = argsL.reverse ++ rest) (hW : 2 * g.monitorRoom + (rest.map fun v => v.category).sum ≤ W9) (hdg : decode c.code g.pc = .ok (.invokestatic index, 3))
    (hpre : ∀ vm₁, s.WarmedH vm₁ → Pre ⟨T.setVm vm₁, locs, cells, slots⟩ argsL.toArray) :
    (∃ (v : Option Value) (vm₁ : Vm) (B : Pt), s.WarmedH vm₁ ∧ Stand p l e R s m args below meth c B.U B.locs B.cells B.slots ∧ Post ⟨T.setVm vm₁, locs, cells, slots⟩ argsL.toArray v B ∧
      ∀ target, Steps p.tables e below (B.U.setTop { g with pc := g.pc + 3, stack := v.toList ++ rest }) target → Steps p.tables e below (T.setTop g) target) ∨
    (∃ (q : Addr) (vm₁ : Vm) (B : Pt), s.WarmedH vm₁ ∧ Stand p l e R s m args below meth c B.U B.locs B.cells B.slots ∧ PostX ⟨T.setVm vm₁, locs, cells, slots⟩ argsL.toArray q B ∧
      Steps p.tables e below (T.setTop g) ((B.U.setTop { g with stack := rest }).pushFrame (.throwing q))) := by sorry
end Calls
theorem vx_cls {s : State} {T : State} {vm₁ : Vm} {E : String} {k : ClassId} (hW : s.WarmedH vm₁) (h : (T.setVm vm₁).vm.findClass E = some k) : s.vm.findClass E = some k := by sorry
/-- the method's frame g, with q thrown over it -/
def vx_W (p : Program) (l : Launch) (e : Env) (R : Room) (s : State) (m : MethodId) (args : Array Value) (below : List Frame) (meth : Method) (c : Code) (H : Heap) (locs : List Loc) (cells slots : Nat) (Q : State → Prop) (g : JFrame) (q : Addr) : Prop :=
  ∀ T : State, T.heap = H → Stand p l e R s m args below meth c T locs cells slots → ∃ t, Steps p.tables e below ((T.setTop g).pushFrame (.throwing q)) t ∧ Q t
def vx_Run (p : Program) (l : Launch) (e : Env) (R : Room) (s : State) (m : MethodId) (args : Array Value) (below : List Frame) (meth : Method) (c : Code) (H : Heap) (locs : List Loc) (cells slots mc ms : Nat) (g : JFrame) (rest : List Value) (Qa : State → Outcome → State → Prop) (XC : String → State → State → Prop) (free : Addr → Prop) : Prop :=
  ∀ T : State, T.heap = H → Stand p l e R s m args below meth c T locs cells slots →
    (∃ (v : Option Value) (st₀ t T' : State) (L : List Loc), st₀.heap = H ∧ Stand p l e R s m args below meth c T' (locs ++ L) (cells + mc) (slots + ms) ∧ (∀ q ∈ L, free q.base) ∧ T'.heap = t.heap ∧ T'.vm = t.vm ∧ Qa st₀ (.returned v) t ∧
      Goes p e below T g T' { g with pc := g.pc + 3, stack := v.toList ++ rest }) ∨
    (∃ (q : Addr) (st₀ t T' : State) (L : List Loc) (E : String) (ce : Cell), st₀.heap = H ∧ Stand p l e R s m args below meth c T' (locs ++ L) (cells + mc) (slots + ms) ∧ (∀ z ∈ L, free z.base) ∧ T'.heap = t.heap ∧ T'.vm = t.vm ∧ XC E st₀ t ∧ t.heap[q]? = some ce ∧ ce.vm = .none ∧ s.vm.findClass E = some ce.cls ∧
      Steps p.tables e below (T.setTop g) ((T'.setTop { g with stack := rest }).pushFrame (.throwing q)))
def vx_X {S : Type} (px : S → Prop) (B : String → S → State → Prop) (A : Nat → Prop) : String → State → State → Prop := fun E st t => ∃ u : S, px u ∧ B E u t ∧ va_F A st t
section Runs
variable {p : Program} {l : Launch} {e : Env} {R : Room} {s : State} {m : MethodId} {args : Array Value} {below : List Frame} {meth : Method} {c : Code} {H : Heap} {locs : List Loc} {cells slots : Nat}
variable {y : MethodName} {bytes cc : ByteArray} {maxL nL mc ms n index : Nat} {ret : Option FieldType} {ws : List Cond} {rm : Room} {Pc : Array Value → State → Prop} {Qc : Array Value → State → Outcome → State → Prop} {XC : String → State → State → Prop} {free : Addr → Prop} {Ts : List Cond} {own C : String} {b : Addr} {As rest : List Value} {g : JFrame}
theorem vx_callBack (cb : CallB R s args own index y bytes maxL ret ws rm mc ms n) (hM : vx_Met l y ws rm Pc Qc XC mc ms free) (hbl : FrameBlind Pc) : vx_Back l R p e below s args y 3 8 (PreOf R mc ms Pc) (PostOf Qc mc ms free) (vx_Post XC mc ms free) := by sorry
theorem vx_runV (S : CallFix p m c cc nL s args Ts own) (hM : vx_Met l y ws rm Pc Qc XC mc ms free) (cw : CallW R s args own C index y bytes maxL ret ws rm mc ms n) (hp : PreV s H C b Pc As)
    (hg : g.method = m) (hn : As.length = n) (hsize : g.locals.size = nL) (hstack : g.stack = As.reverse ++ .ref b :: rest) (hW : 2 * g.monitorRoom + (rest.map fun v => v.category).sum ≤ 8) (hdg : decode cc g.pc = .ok (.invokevirtual index, 3)) (hf : cells + mc ≤ R.cells ∧ slots + ms ≤ R.slots) :
    vx_Run p l e R s m args below meth c H locs cells slots mc ms g rest (Qc (Value.ref b :: As).toArray) XC free := by sorry
theorem vx_runS (S : CallFix p m c cc nL s args Ts own) (hM : vx_Met l y ws rm Pc Qc XC mc ms free) (cw : CallB R s args own index y bytes maxL ret ws rm mc ms n ∧ (Cond.static y).before args s = true) (hp : PreS s H Pc As)
    (hg : g.method = m) (hn : As.length = n) (hsize : g.locals.size = nL) (hstack : g.stack = As.reverse ++ rest) (hW : 2 * g.monitorRoom + (rest.map fun v => v.category).sum ≤ 8) (hdg : decode cc g.pc = .ok (.invokestatic index, 3)) (hf : cells + mc ≤ R.cells ∧ slots + ms ≤ R.slots) :
    vx_Run p l e R s m args below meth c H locs cells slots mc ms g rest (Qc As.toArray) XC free := by sorry
end Runs
section Rows
variable {p : Program} {l : Launch} {e : Env} {R : Room} {s : State} {m : MethodId} {args : Array Value} {below : List Frame} {meth : Method} {c : Code} {H : Heap} {locs : List Loc} {cells slots : Nat} {Q : State → Prop}
variable {mc ms : Nat} {free : Addr → Prop} {A0 A1 : Nat → Prop} {H0 : Heap} {a : Array Value} {pc : Nat} {ls : Array Slot} {st0 rest : List Value}
theorem vx_keep {st₀ t T' : State} {L : List Loc} (h0 : st₀.heap = H) (e1 : T'.heap = t.heap) (hS : va_S A0 H0 H locs) (hA : ∀ q, q < H.size → A1 q → A0 q) (hf : ∀ q, free q → A0 q) (hL : ∀ q ∈ L, free q.base) (hF : va_F A1 st₀ t) :
    H.size ≤ T'.heap.size ∧ (∀ q : Nat, q < H.size → ¬ A1 q → T'.heap[q]? = H[q]?) ∧ va_S A0 H0 T'.heap (locs ++ L) := by sorry
theorem vx_calli {S SX : Type} {post : Int32 → S → Prop} {px : SX → Prop} {B : S → State → Prop} {BX : String → SX → State → Prop} {AX : Nat → Prop} (hr : vx_Run p l e R s m args below meth c H locs cells slots mc ms (F0 m pc ls st0) rest (va_Qi post B A1 a) (vx_X px BX AX) free) (hS : va_S A0 H0 H locs) (hA : ∀ q, q < H.size → A1 q → A0 q) (hf : ∀ q, free q → A0 q) (hAX : ∀ q, q < H.size → AX q → A0 q)
    (kx : ∀ (E : String) (ce : Cell) (q9 : Addr) (u : SX) (t : State) (H1 : Heap) (locs1 : List Loc), t.heap = H1 → s.vm.Alike t.vm → px u → BX E u t → H.size ≤ H1.size → (∀ q : Nat, q < H.size → ¬ AX q → H1[q]? = H[q]?) → va_S A0 H0 H1 locs1 → H1[q9]? = some ce → ce.vm = .none → s.vm.findClass E = some ce.cls → vx_W p l e R s m args below meth c H1 locs1 (cells + mc) (slots + ms) Q (F0 m pc ls rest) q9)
    (kk : ∀ (r : Int32) (u : S) (t : State) (H1 : Heap) (locs1 : List Loc), t.heap = H1 → s.vm.Alike t.vm → post r u → B u t → H.size ≤ H1.size → (∀ q : Nat, q < H.size → ¬ A1 q → H1[q]? = H[q]?) → va_S A0 H0 H1 locs1 → W p l e R s m args below meth c H1 locs1 (cells + mc) (slots + ms) Q (F0 m (pc + 3) ls (.int r :: rest))) : W p l e R s m args below meth c H locs cells slots Q (F0 m pc ls st0) := by sorry
theorem vx_calll {S SX : Type} {post : Int64 → S → Prop} {px : SX → Prop} {B : S → State → Prop} {BX : String → SX → State → Prop} {AX : Nat → Prop} (hr : vx_Run p l e R s m args below meth c H locs cells slots mc ms (F0 m pc ls st0) rest (va_Ql post B A1 a) (vx_X px BX AX) free) (hS : va_S A0 H0 H locs) (hA : ∀ q, q < H.size → A1 q → A0 q) (hf : ∀ q, free q → A0 q) (hAX : ∀ q, q < H.size → AX q → A0 q)
    (kx : ∀ (E : String) (ce : Cell) (q9 : Addr) (u : SX) (t : State) (H1 : Heap) (locs1 : List Loc), t.heap = H1 → s.vm.Alike t.vm → px u → BX E u t → H.size ≤ H1.size → (∀ q : Nat, q < H.size → ¬ AX q → H1[q]? = H[q]?) → va_S A0 H0 H1 locs1 → H1[q9]? = some ce → ce.vm = .none → s.vm.findClass E = some ce.cls → vx_W p l e R s m args below meth c H1 locs1 (cells + mc) (slots + ms) Q (F0 m pc ls rest) q9)
    (kk : ∀ (r : Int64) (u : S) (t : State) (H1 : Heap) (locs1 : List Loc), t.heap = H1 → s.vm.Alike t.vm → post r u → B u t → H.size ≤ H1.size → (∀ q : Nat, q < H.size → ¬ A1 q → H1[q]? = H[q]?) → va_S A0 H0 H1 locs1 → W p l e R s m args below meth c H1 locs1 (cells + mc) (slots + ms) Q (F0 m (pc + 3) ls (.long r :: rest))) : W p l e R s m args below meth c H locs cells slots Q (F0 m pc ls st0) := by sorry
theorem vx_callf {S SX : Type} {post : UInt32 → S → Prop} {px : SX → Prop} {B : S → State → Prop} {BX : String → SX → State → Prop} {AX : Nat → Prop} (hr : vx_Run p l e R s m args below meth c H locs cells slots mc ms (F0 m pc ls st0) rest (va_Qf post B A1 a) (vx_X px BX AX) free) (hS : va_S A0 H0 H locs) (hA : ∀ q, q < H.size → A1 q → A0 q) (hf : ∀ q, free q → A0 q) (hAX : ∀ q, q < H.size → AX q → A0 q)
    (kx : ∀ (E : String) (ce : Cell) (q9 : Addr) (u : SX) (t : State) (H1 : Heap) (locs1 : List Loc), t.heap = H1 → s.vm.Alike t.vm → px u → BX E u t → H.size ≤ H1.size → (∀ q : Nat, q < H.size → ¬ AX q → H1[q]? = H[q]?) → va_S A0 H0 H1 locs1 → H1[q9]? = some ce → ce.vm = .none → s.vm.findClass E = some ce.cls → vx_W p l e R s m args below meth c H1 locs1 (cells + mc) (slots + ms) Q (F0 m pc ls rest) q9)
    (kk : ∀ (r : UInt32) (u : S) (t : State) (H1 : Heap) (locs1 : List Loc), t.heap = H1 → s.vm.Alike t.vm → post r u → B u t → H.size ≤ H1.size → (∀ q : Nat, q < H.size → ¬ A1 q → H1[q]? = H[q]?) → va_S A0 H0 H1 locs1 → W p l e R s m args below meth c H1 locs1 (cells + mc) (slots + ms) Q (F0 m (pc + 3) ls (.float r :: rest))) : W p l e R s m args below meth c H locs cells slots Q (F0 m pc ls st0) := by sorry
theorem vx_calld {S SX : Type} {post : UInt64 → S → Prop} {px : SX → Prop} {B : S → State → Prop} {BX : String → SX → State → Prop} {AX : Nat → Prop} (hr : vx_Run p l e R s m args below meth c H locs cells slots mc ms (F0 m pc ls st0) rest (va_Qd post B A1 a) (vx_X px BX AX) free) (hS : va_S A0 H0 H locs) (hA : ∀ q, q < H.size → A1 q → A0 q) (hf : ∀ q, free q → A0 q) (hAX : ∀ q, q < H.size → AX q → A0 q)
    (kx : ∀ (E : String) (ce : Cell) (q9 : Addr) (u : SX) (t : State) (H1 : Heap) (locs1 : List Loc), t.heap = H1 → s.vm.Alike t.vm → px u → BX E u t → H.size ≤ H1.size → (∀ q : Nat, q < H.size → ¬ AX q → H1[q]? = H[q]?) → va_S A0 H0 H1 locs1 → H1[q9]? = some ce → ce.vm = .none → s.vm.findClass E = some ce.cls → vx_W p l e R s m args below meth c H1 locs1 (cells + mc) (slots + ms) Q (F0 m pc ls rest) q9)
    (kk : ∀ (r : UInt64) (u : S) (t : State) (H1 : Heap) (locs1 : List Loc), t.heap = H1 → s.vm.Alike t.vm → post r u → B u t → H.size ≤ H1.size → (∀ q : Nat, q < H.size → ¬ A1 q → H1[q]? = H[q]?) → va_S A0 H0 H1 locs1 → W p l e R s m args below meth c H1 locs1 (cells + mc) (slots + ms) Q (F0 m (pc + 3) ls (.double r :: rest))) : W p l e R s m args below meth c H locs cells slots Q (F0 m pc ls st0) := by sorry
theorem vx_callv {S SX : Type} {post : S → Prop} {px : SX → Prop} {B : S → State → Prop} {BX : String → SX → State → Prop} {AX : Nat → Prop} (hr : vx_Run p l e R s m args below meth c H locs cells slots mc ms (F0 m pc ls st0) rest (va_Qv post B A1 a) (vx_X px BX AX) free) (hS : va_S A0 H0 H locs) (hA : ∀ q, q < H.size → A1 q → A0 q) (hf : ∀ q, free q → A0 q) (hAX : ∀ q, q < H.size → AX q → A0 q)
    (kx : ∀ (E : String) (ce : Cell) (q9 : Addr) (u : SX) (t : State) (H1 : Heap) (locs1 : List Loc), t.heap = H1 → s.vm.Alike t.vm → px u → BX E u t → H.size ≤ H1.size → (∀ q : Nat, q < H.size → ¬ AX q → H1[q]? = H[q]?) → va_S A0 H0 H1 locs1 → H1[q9]? = some ce → ce.vm = .none → s.vm.findClass E = some ce.cls → vx_W p l e R s m args below meth c H1 locs1 (cells + mc) (slots + ms) Q (F0 m pc ls rest) q9)
    (kk : ∀ (u : S) (t : State) (H1 : Heap) (locs1 : List Loc), t.heap = H1 → s.vm.Alike t.vm → post u → B u t → H.size ≤ H1.size → (∀ q : Nat, q < H.size → ¬ A1 q → H1[q]? = H[q]?) → va_S A0 H0 H1 locs1 → W p l e R s m args below meth c H1 locs1 (cells + mc) (slots + ms) Q (F0 m (pc + 3) ls (rest))) : W p l e R s m args below meth c H locs cells slots Q (F0 m pc ls st0) := by sorry
/-- caught by the row x of this method's table; the rows ahead don't take it -/
theorem vx_catch {own name : String} {E : String} {ce : Cell} {q : Addr} (hown : s.vm.findClass own = some m.cls) (pre : List ExceptionTableEntry) (x : ExceptionTableEntry) (suf : List ExceptionTableEntry) (hsplit : c.exceptionTable.toList = pre ++ x :: suf)
    (hpass : ∀ z ∈ pre, covers z pc = false ∨ (z.catchType ≠ 0 ∧ ∃ nm : String, (Cond.classLink own z.catchType nm).before args s = true ∧ va_Nc E nm s)) (hx : covers x pc = true) (h0 : x.catchType ≠ 0)
    (hlink : (Cond.classLink own x.catchType name).before args s = true) (hcast : (Cond.castable E name).before args s = true) (hcell : H[q]? = some ce) (hv : ce.vm = .none) (hcl : s.vm.findClass E = some ce.cls)
    (kk : W p l e R s m args below meth c H locs cells slots Q (F0 m x.handlerPc ls [.ref q])) : vx_W p l e R s m args below meth c H locs cells slots Q (F0 m pc ls rest) q := by sorry
end Rows
section Ends
variable {p : Program} {l : Launch} {e : Env} {R : Room} {s : State} {m : MethodId} {args : Array Value} {below : List Frame} {meth : Method} {c : Code} {H : Heap} {locs : List Loc} {cells slots : Nat} {Q : State → Prop}
variable {mc ms : Nat} {free : Addr → Prop} {A0 A1 : Nat → Prop} {H0 : Heap} {a : Array Value} {ls : Array Slot} {st0 rest : List Value}
variable {Qc : Array Value → State → Outcome → State → Prop} {XC : String → State → State → Prop}
/-- what a body that may throw owes at its end -/
def vx_MQ (below : List Frame) (Qc : Array Value → State → Outcome → State → Prop) (XC : String → State → State → Prop) (a : Array Value) (s : State) (mc ms : Nat) (free : Addr → Prop) : State → Prop := fun t =>
  ∃ o, t.status = .running ∧ Ended t below o ∧ vx_Q Qc XC mc ms free a s o t
theorem vx_ret {g : JFrame} {mc ms : Nat} (k : W p l e R s m args below meth c H locs cells slots (MQ below Qc args s mc ms free) g) : W p l e R s m args below meth c H locs cells slots (vx_MQ below Qc XC args s mc ms free) g := by sorry
/-- not caught here: it goes on to the caller -/
theorem vx_widen {g : JFrame} {q : Addr} {k n : Nat} (h1 : cells ≤ k) (h2 : slots ≤ n) (kk : vx_W p l e R s m args below meth c H locs k n Q g q) : vx_W p l e R s m args below meth c H locs cells slots Q g q := by sorry
theorem vx_out {pc : Nat} {E : String} {ce : Cell} {q : Addr} {mc ms : Nat} (hout : ∀ x ∈ c.exceptionTable.toList, covers x pc = false) (hlocks : meth.locks = false) (hcell : H[q]? = some ce) (hv : ce.vm = .none) (hcl : s.vm.findClass E = some ce.cls)
    (hx : ∀ t : State, t.heap = H → s.vm.Alike t.vm → XC E s t) (hf : ∀ z ∈ locs, free z.base) (hc : cells ≤ mc) (hs : slots ≤ ms) :
    vx_W p l e R s m args below meth c H locs cells slots (vx_MQ below Qc XC args s mc ms free) (F0 m pc ls rest) q := by sorry
theorem vx_frame {U : State} {k n : Nat} (h : s.sameButNew ({ U with vm := s.vm } : State) locs k n) : s.heap.size ≤ U.heap.size ∧ ∀ q : Nat, q < s.heap.size → (∀ z ∈ locs, z.base ≠ q) → U.heap[q]? = s.heap[q]? := by sorry
/-- the words of a throw but the four that speak of the heap -/
def vx_no (w : Cond) : Bool := decide (w ≠ .isRef (.static Bundle.tN "UNASSIGNED_STACK" Bundle.steD)) && decide (w ≠ .isRef (.static Bundle.tN "SUPPRESSED_SENTINEL" Bundle.listD)) && decide (w ≠ .laysStatic Bundle.tN "UNASSIGNED_STACK" Bundle.steD) && decide (w ≠ .laysStatic Bundle.tN "SUPPRESSED_SENTINEL" Bundle.listD)
def vx_at0 (own : String) (ic : Nat) (X : String) (names : List String) : List Cond := (Bundle.ownAtoms0 own ic X names).filter vx_no
def vx_atS (own : String) (ic : Nat) (X : String) (names : List String) : List Cond := (Bundle.ownAtoms own ic X names).filter vx_no
/-- a word that the tables alone decide, or a good one -/
def vx_ot (w : Cond) : Bool := w.onTables || goodWord w
theorem vx_ot_at {args a' : Array Value} {s U : State} {w : Cond} (hW : s.WarmedH U.vm) (hvm : s.vm = U.vm) (hg : vx_ot w = true) (h : w.before args s = true) : w.before a' U = true := by sorry
/-- a list's words: the good ones out of the method's own list, the others by premises of their own -/
theorem vx_hat {args : Array Value} {s : State} {L B : List Cond} (h1 : ∀ w ∈ L.filter goodWord, w.before args s = true) (h2 : ∀ w ∈ L.filter (fun w => !goodWord w), w ∈ B) (h3 : ∀ w ∈ B, w.before args s = true) : ∀ w ∈ L, w.before args s = true := by sorry
theorem vx_c {args : Array Value} {s : State} {w : Cond} {B : List Cond} (h : w.before args s = true) (t : ∀ w ∈ B, w.before args s = true) : ∀ w' ∈ w :: B, w'.before args s = true := by sorry
theorem vx_n {args : Array Value} {s : State} : ∀ w ∈ ([] : List Cond), w.before args s = true := by sorry
theorem vx_own {args : Array Value} {s : State} {L : List Cond} (h1 : ∀ w ∈ L.filter vx_no, w.before args s = true)
    (hU : (Cond.isRef (.static Bundle.tN "UNASSIGNED_STACK" Bundle.steD)).before args s = true) (hN : (Cond.isRef (.static Bundle.tN "SUPPRESSED_SENTINEL" Bundle.listD)).before args s = true)
    (lU : (Cond.laysStatic Bundle.tN "UNASSIGNED_STACK" Bundle.steD).before args s = true) (lN : (Cond.laysStatic Bundle.tN "SUPPRESSED_SENTINEL" Bundle.listD).before args s = true) : ∀ w ∈ L, w.before args s = true := by sorry
/-- where a static field lies, its class's statics cell in H -/
def vx_L (C n d : String) (A : Nat → Prop) (U : State) (H : Heap) : Prop := ∃ (c : ClassId) (k : Class) (i : Nat) (f : Field) (a : Nat) (cell : Cell), U.vm.findClass C = some c ∧ U.fieldFound? C n d = some (c, k, i, f) ∧ f.isStatic = true ∧ k.statics = some a ∧ H[a]? = some cell ∧ cell.vm.isStatics = true ∧ cell.cls = c ∧ f.slot < cell.slots.size ∧ k.staticTypes[f.slot]? = some f.type ∧ ¬ A a
theorem vx_L.moved {C n d : String} {A : Nat → Prop} {u U : State} {H : Heap} (hvm : u.vm.Alike U.vm) (h : vx_L C n d A u H) : vx_L C n d A U H := by sorry
theorem vx_L.kept {C n d : String} {A : Nat → Prop} {U : State} {H H1 : Heap} (h : vx_L C n d A U H) (hq : ∀ a : Nat, a < H.size → ¬ A a → H1[a]? = H[a]?) : vx_L C n d A U H1 := by sorry
theorem vx_L.narrow {C n d : String} {A B : Nat → Prop} {U : State} {H : Heap} (h : vx_L C n d A U H) (hAB : ∀ q, B q → A q) : vx_L C n d B U H := by sorry
theorem vx_L.word {C n d : String} {A : Nat → Prop} {s : State} {args : Array Value} (h : vx_L C n d A s s.heap) : (Cond.laysStatic C n d).before args s = true := by sorry
/-- .. and what it holds: null or some reference -/
def vx_Zq (C n d : String) (A : Nat → Prop) (U : State) (H : Heap) : Prop := va_Zq C n d A U H ∧ vx_L C n d A U H
theorem vx_Zq.moved {C n d : String} {A : Nat → Prop} {u U : State} {H : Heap} (hvm : u.vm.Alike U.vm) (h : vx_Zq C n d A u H) : vx_Zq C n d A U H := by sorry
theorem vx_Zq.kept {C n d : String} {A : Nat → Prop} {U : State} {H H1 : Heap} (h : vx_Zq C n d A U H) (hq : ∀ a : Nat, a < H.size → ¬ A a → H1[a]? = H[a]?) : vx_Zq C n d A U H1 := by sorry
theorem vx_Zq.narrow {C n d : String} {A B : Nat → Prop} {U : State} {H : Heap} (h : vx_Zq C n d A U H) (hAB : ∀ q, B q → A q) : vx_Zq C n d B U H := by sorry
theorem vx_Zqof {args : Array Value} {s : State} {C n d : String} {A : Nat → Prop} (hl : (Cond.laysStatic C n d).before args s = true) (hini : (Cond.initialized C).before args s = true) (h : (Cond.isRef (.static C n d)).before args s = true) (hA : ∀ a : Nat, a < s.heap.size → ¬ A a) : vx_Zq C n d A s s.heap := by sorry
theorem vx_isRef {C n d : String} {v : Value} {A : Nat → Prop} {s : State} {args : Array Value} (h : va_Z C n d v A s s.heap) (hv : v.isRef = true) : (Cond.isRef (.static C n d)).before args s = true := by sorry
theorem vx_isRefq {C n d : String} {A : Nat → Prop} {s : State} {args : Array Value} (h : va_Zq C n d A s s.heap) : (Cond.isRef (.static C n d)).before args s = true := by sorry
/-- the same frame, seen from here: as if the method were called anew in this heap -/
theorem vx_rebase {T : State} (X : Stand p l e R s m args below meth c T locs cells slots) {R' : Room} (hf : R'.frames ≤ R.frames) (hl : R'.locals ≤ R.locals) (hc : cells + R'.cells ≤ R.cells) (hs : slots + R'.slots ≤ R.slots) :
    Stand p l e R' ((T.setVm s.vm).setFrames (.invoking m args :: below)) m args below meth c T [] 0 0 := by sorry
/-- 'throw new E()': new; dup; invokespecial; athrow -/
theorem vx_throw0 {cc : ByteArray} {pc : Nat} (hexec : p.tables.exec = Jvm.exec) (hb : c.code = cc) (hl : l.stackTraces = false) {own cls : String} {names : List String} {ik ic mc ms : Nat} {A : Nat → Prop}
    (hown : s.vm.findClass own = some m.cls) (hcls : Bundle.fit cls = true) (hnames : ∀ n ∈ names, Bundle.fit n = true)
    (hk : (Cond.classLink own ik cls).before args s = true) (hini : (Cond.initialized cls).before args s = true) (hat : ∀ w ∈ vx_at0 own ic cls names, w.before args s = true)
    (hgood : ∀ w ∈ Cond.classLink own ik cls :: Cond.initialized cls :: vx_at0 own ic cls names, vx_ot w = true)
    (hU : vx_Zq Bundle.tN "UNASSIGNED_STACK" Bundle.steD A s s.heap) (hN : vx_Zq Bundle.tN "SUPPRESSED_SENTINEL" Bundle.listD A s s.heap) (hS : va_S A s.heap H locs) (hsize : ls.size = c.maxLocals)
    (d0 : decode cc pc = .ok (.new ik, 3)) (d3 : decode cc (pc + 3) = .ok (.dup, 1)) (d4 : decode cc (pc + 4) = .ok (.invokespecial ic, 3)) (d7 : decode cc (pc + 7) = .ok (.athrow, 1))
    (hout : ∀ x ∈ c.exceptionTable.toList, covers x (pc + 7) = false)
    (hRframes : names.length + 3 < R.frames) (hRlocals : (rest.map fun v => v.category).sum + (13 * (names.length + 1) + 42) ≤ R.locals) (hRcells : cells + 1 ≤ R.cells) (hRslots : slots + 6 ≤ R.slots) (hlocks : meth.locks = false)
    (hx : ∀ t : State, s.vm.Alike t.vm → H.size ≤ t.heap.size → (∀ q : Nat, q < H.size → t.heap[q]? = H[q]?) → XC cls s t)
    (hf : ∀ z ∈ locs, free z.base) (hc : cells + 1 ≤ mc) (hs : slots + 6 ≤ ms) :
    W p l e R s m args below meth c H locs cells slots (vx_MQ below Qc XC args s mc ms free) (F0 m pc ls rest) := by sorry
/-- 'throw new E("text")': new; dup; ldc; invokespecial; athrow -/
theorem vx_throwS {cc : ByteArray} {pc : Nat} (hexec : p.tables.exec = Jvm.exec) (hb : c.code = cc) (hl : l.stackTraces = false) {own cls text : String} {names : List String} {ik is ic mc ms sa : Nat} {A : Nat → Prop}
    (hown : s.vm.findClass own = some m.cls) (hcls : Bundle.fit cls = true) (hnames : ∀ n ∈ names, Bundle.fit n = true)
    (hk : (Cond.classLink own ik cls).before args s = true) (hini : (Cond.initialized cls).before args s = true) (hstr : vk_R own is text sa s) (hat : ∀ w ∈ vx_atS own ic cls names, w.before args s = true)
    (hgood : ∀ w ∈ Cond.classLink own ik cls :: Cond.initialized cls :: vx_atS own ic cls names, vx_ot w = true)
    (hU : vx_Zq Bundle.tN "UNASSIGNED_STACK" Bundle.steD A s s.heap) (hN : vx_Zq Bundle.tN "SUPPRESSED_SENTINEL" Bundle.listD A s s.heap) (hS : va_S A s.heap H locs) (hsize : ls.size = c.maxLocals)
    (d0 : decode cc pc = .ok (.new ik, 3)) (d3 : decode cc (pc + 3) = .ok (.dup, 1)) (d4 : decode cc (pc + 4) = .ok (.ldc is, 2)) (d6 : decode cc (pc + 6) = .ok (.invokespecial ic, 3)) (d9 : decode cc (pc + 9) = .ok (.athrow, 1))
    (hout : ∀ x ∈ c.exceptionTable.toList, covers x (pc + 9) = false)
    (hRframes : names.length + 3 < R.frames) (hRlocals : (rest.map fun v => v.category).sum + (13 * (names.length + 1) + 43) ≤ R.locals) (hRcells : cells + 1 ≤ R.cells) (hRslots : slots + 6 ≤ R.slots) (hlocks : meth.locks = false)
    (hx : ∀ t : State, s.vm.Alike t.vm → H.size ≤ t.heap.size → (∀ q : Nat, q < H.size → t.heap[q]? = H[q]?) → XC cls s t)
    (hf : ∀ z ∈ locs, free z.base) (hc : cells + 1 ≤ mc) (hs : slots + 6 ≤ ms) :
    W p l e R s m args below meth c H locs cells slots (vx_MQ below Qc XC args s mc ms free) (F0 m pc ls rest) := by sorry
/-- 'throw new E("text")', the text by a wide index -/
theorem vx_throwSW {cc : ByteArray} {pc : Nat} (hexec : p.tables.exec = Jvm.exec) (hb : c.code = cc) (hl : l.stackTraces = false) {own cls text : String} {names : List String} {ik is ic mc ms sa : Nat} {A : Nat → Prop}
    (hown : s.vm.findClass own = some m.cls) (hcls : Bundle.fit cls = true) (hnames : ∀ n ∈ names, Bundle.fit n = true)
    (hk : (Cond.classLink own ik cls).before args s = true) (hini : (Cond.initialized cls).before args s = true) (hstr : vk_R own is text sa s) (hat : ∀ w ∈ vx_atS own ic cls names, w.before args s = true)
    (hgood : ∀ w ∈ Cond.classLink own ik cls :: Cond.initialized cls :: vx_atS own ic cls names, vx_ot w = true)
    (hU : vx_Zq Bundle.tN "UNASSIGNED_STACK" Bundle.steD A s s.heap) (hN : vx_Zq Bundle.tN "SUPPRESSED_SENTINEL" Bundle.listD A s s.heap) (hS : va_S A s.heap H locs) (hsize : ls.size = c.maxLocals)
    (d0 : decode cc pc = .ok (.new ik, 3)) (d3 : decode cc (pc + 3) = .ok (.dup, 1)) (d4 : decode cc (pc + 4) = .ok (.ldc_w is, 3)) (d7 : decode cc (pc + 7) = .ok (.invokespecial ic, 3)) (d10 : decode cc (pc + 10) = .ok (.athrow, 1))
    (hout : ∀ x ∈ c.exceptionTable.toList, covers x (pc + 10) = false)
    (hRframes : names.length + 3 < R.frames) (hRlocals : (rest.map fun v => v.category).sum + (13 * (names.length + 1) + 43) ≤ R.locals) (hRcells : cells + 1 ≤ R.cells) (hRslots : slots + 6 ≤ R.slots) (hlocks : meth.locks = false)
    (hx : ∀ t : State, s.vm.Alike t.vm → H.size ≤ t.heap.size → (∀ q : Nat, q < H.size → t.heap[q]? = H[q]?) → XC cls s t)
    (hf : ∀ z ∈ locs, free z.base) (hc : cells + 1 ≤ mc) (hs : slots + 6 ≤ ms) :
    W p l e R s m args below meth c H locs cells slots (vx_MQ below Qc XC args s mc ms free) (F0 m pc ls rest) := by sorry
end Ends
section Bodies
variable {l : Launch}
theorem vx_ofW {y : MethodName} {ws ws' : List Cond} {rm : Room} {Pc : Array Value → State → Prop} {Qc : Array Value → State → Outcome → State → Prop} {XC : String → State → State → Prop} {mc ms : Nat} {free : Addr → Prop} {cc : ByteArray} {maxL : Nat} {ret : Option FieldType}
    (hy : plainName y.cls = true) (hw : ws = Cond.code y cc maxL ret :: ws')
    (body : ∀ p e s m args below meth c s₁, BodyLoose p l y (headSpec ws rm) cc maxL ret e s m args below meth c s₁ → c.maxLocals = maxL → (∀ x ∈ c.exceptionTable.toList, False) → Pc args s →
      W p l e (headSpec ws rm).room s m args below meth c s.heap [] 0 0 (vx_MQ below Qc XC args s mc ms free) (entryFrame m args maxL)) : vx_Met l y ws rm Pc Qc XC mc ms free := by sorry
/-- the table of a body with handlers -/
theorem vx_table {p : Program} {x y : MethodName} {S : Spec} {cc bytes : ByteArray} {maxL maxL' : Nat} {ret ret' : Option FieldType} {e : Env} {s s₁ : State} {m : MethodId} {args : Array Value} {below : List Frame} {meth : Method} {c : Code} {hh : List (Nat × Nat × Nat × Nat)}
    (B : BodyLoose p l y S cc maxL ret e s m args below meth c s₁) (h : (Cond.codeWith y bytes maxL' ret' hh).before args s = true) : c.exceptionTable.toList = tableOf hh := by sorry
end Bodies
end VXA
/-! ===== END ===== -/
/-! ===== BEGIN a static call of a method with an exception table ===== -/
section VXS
variable {p : Program} {l : Launch} {e : Env} {R : Room} {s : State} {m : MethodId} {args : Array Value} {below : List Frame} {meth : Method} {c : Code} {T : State} {H : Heap} {locs : List Loc} {cells slots : Nat}
abbrev vx_CSW (R : Room) (s : State) (args : Array Value) (own : String) (index : Nat) (y : MethodName) (bytes : ByteArray) (maxL : Nat) (ret : Option FieldType) (hh : List (Nat × Nat × Nat × Nat)) (ws : List Cond) (rm : Room) (mc ms n : Nat) : Prop :=
  (rm.cells = mc ∧ rm.slots = ms ∧ rm.frames + 1 ≤ R.frames ∧ 8 + (maxL + 11) + rm.locals ≤ R.locals ∧ (∀ w ∈ ws, ∀ (a' : Array Value) (U : State), s.WarmedH U.vm → w.before a' U = true) ∧ Cond.codeWith y bytes maxL ret hh ∈ ws) ∧
  (Cond.codeWith y bytes maxL ret hh).before args s = true ∧ (Cond.initialized y.cls).before args s = true ∧ (y.cls ≠ "java/lang/invoke/MethodHandle" ∧ y.cls ≠ "java/lang/invoke/VarHandle") ∧
  (∀ sig, parseMethodDescriptor y.desc = some sig → n = sig.parameters.length) ∧ (Cond.methodLink own index y).before args s = true ∧ (Cond.static y).before args s = true
theorem vx_cwSW {own : String} {index maxL mc ms : Nat} {y : MethodName} {bytes : ByteArray} {ret : Option FieldType} {hh : List (Nat × Nat × Nat × Nat)} {Ts ws ws' : List Cond} {rm : Room} (n : Nat) (ht : ∀ w ∈ Ts, w.before args s = true) (hT : GoodIn Ts (va_wsS own index y ws)) (hw : ws = Cond.codeWith y bytes maxL ret hh :: ws') (hrc : rm.cells = mc) (hrs : rm.slots = ms)
    (hd : y.cls ≠ "java/lang/invoke/MethodHandle" ∧ y.cls ≠ "java/lang/invoke/VarHandle" ∧ (parseMethodDescriptor y.desc).map (fun d => d.parameters.length) = some n) (hR : rm.frames + 1 ≤ R.frames ∧ 8 + (maxL + 11) + rm.locals ≤ R.locals) :
    vx_CSW R s args own index y bytes maxL ret hh ws rm mc ms n := by sorry
theorem vx_callSW (X : Stand p l e R s m args below meth c T locs cells slots) (hexec : p.tables.exec = Jvm.exec) {own : String} {index : Nat} {y : MethodName} {bytes : ByteArray} {maxL : Nat} {ret : Option FieldType} {hh : List (Nat × Nat × Nat × Nat)}
    (hown : s.vm.findClass own = some m.cls) (hlink : (Cond.methodLink own index y).before args s = true) (hstat : (Cond.static y).before args s = true) (hinit : (Cond.initialized y.cls).before args s = true)
    (hcode : (Cond.codeWith y bytes maxL ret hh).before args s = true) (hy : y.cls ≠ "java/lang/invoke/MethodHandle" ∧ y.cls ≠ "java/lang/invoke/VarHandle")
    {W9 : Nat} {Pre : Pt → Array Value → Prop} {Post : Pt → Array Value → Option Value → Pt → Prop} (hK : Back l R p e below s args y 3 W9 Pre Post)
    {g : JFrame} (hg : g.method = m) (hsize : g.locals.size = c.maxLocals) {argsL rest : List Value} (hlen : ∀ sig, parseMethodDescriptor y.desc = some sig → argsL.length = sig.parameters.length)
    (hstack : g.stack = argsL.reverse ++ rest) (hW : 2 * g.monitorRoom + (rest.map fun v => v.category).sum ≤ W9) (hdg : decode c.code g.pc = .ok (.invokestatic index, 3))
    (hpre : ∀ vm₁, s.WarmedH vm₁ → Pre ⟨T.setVm vm₁, locs, cells, slots⟩ argsL.toArray) :
    ∃ (v : Option Value) (vm₁ : Vm) (B : Pt), s.WarmedH vm₁ ∧ Stand p l e R s m args below meth c B.U B.locs B.cells B.slots ∧ Post ⟨T.setVm vm₁, locs, cells, slots⟩ argsL.toArray v B ∧
      ∀ target, Steps p.tables e below (B.U.setTop { g with pc := g.pc + 3, stack := v.toList ++ rest }) target → Steps p.tables e below (T.setTop g) target := by sorry
theorem vx_runSW {y : MethodName} {bytes cc : ByteArray} {maxL nL mc ms n index : Nat} {ret : Option FieldType} {hh : List (Nat × Nat × Nat × Nat)} {ws : List Cond} {rm : Room} {Pc : Array Value → State → Prop} {Qc : Array Value → State → Outcome → State → Prop} {free : Addr → Prop} {Ts : List Cond} {own : String} {As rest : List Value} {g : JFrame}
    (S : CallFix p m c cc nL s args Ts own) (hM : Met l y ws rm Pc Qc mc ms free) (cw : vx_CSW R s args own index y bytes maxL ret hh ws rm mc ms n) (hp : PreS s H Pc As)
    (hg : g.method = m) (hn : As.length = n) (hsize : g.locals.size = nL) (hstack : g.stack = As.reverse ++ rest) (hW : 2 * g.monitorRoom + (rest.map fun v => v.category).sum ≤ 8) (hdg : decode cc g.pc = .ok (.invokestatic index, 3)) (hf : cells + mc ≤ R.cells ∧ slots + ms ≤ R.slots) :
    va_Run p l e R s m args below meth c H locs cells slots mc ms g rest (Qc As.toArray) (free) := by sorry
/-- not caught here, past rows that name other classes: it goes on to the caller -/
theorem vx_outP {p : Program} {l : Launch} {e : Env} {R : Room} {s : State} {m : MethodId} {args : Array Value} {below : List Frame} {meth : Method} {c : Code} {H : Heap} {locs : List Loc} {cells slots : Nat} {free : Addr → Prop} {ls : Array Slot} {rest : List Value} {Qc : Array Value → State → Outcome → State → Prop} {XC : String → State → State → Prop}
    {pc : Nat} {own E : String} {ce : Cell} {q : Addr} {mc ms : Nat} (hown : s.vm.findClass own = some m.cls) (hlocks : meth.locks = false)
    (hpass : ∀ z ∈ c.exceptionTable.toList, covers z pc = false ∨ (z.catchType ≠ 0 ∧ ∃ nm : String, (Cond.classLink own z.catchType nm).before args s = true ∧ va_Nc E nm s)) (hcell : H[q]? = some ce) (hv : ce.vm = .none) (hcl : s.vm.findClass E = some ce.cls)
    (hx : ∀ t : State, t.heap = H → s.vm.Alike t.vm → XC E s t) (hf : ∀ z ∈ locs, free z.base) (hc : cells ≤ mc) (hs : slots ≤ ms) :
    vx_W p l e R s m args below meth c H locs cells slots (vx_MQ below Qc XC args s mc ms free) (F0 m pc ls rest) q := by sorry
/-- a thing of a world lies in the heap -/
theorem vx_lt {D : va_G} {cl : List vw_C} {ws : va_W} {H1 : Heap} (h : va_P D cl ws H1) {k : Nat} {q : Nat × va_E} (hk : ws[k]? = some q) : q.1 < H1.size := by sorry
end VXS
/-! ===== END ===== -/
/-! ===== BEGIN methods with a table of their own: called by a name, returning or throwing ===== -/
section VXH
/-! vx_backW, vx_callVX, vx_callSX, vx_callVW, vx_runVW, vx_runVX, vx_runSX, vx_ofWH follow the same proofs as their sisters above (Free/Laws.lean, Shelf42/LK1.lean); vx_outP calls Shelf42/NT130.lean (outThrough). -/
section
variable {l : Launch} {R : Room} {p : Program} {e : Env} {below : List Frame} {s : State} {sargs : Array Value} {y : MethodName} {len W9 : Nat}
theorem vx_backW {ws : List Cond} {rm : Room} {Pc : Array Value → State → Prop} {Qc : Array Value → State → Outcome → State → Prop} {XC : String → State → State → Prop} {mc ms : Nat} {free : Addr → Prop} {bytes : ByteArray} {maxL : Nat} {ret : Option FieldType} {hh : List (Nat × Nat × Nat × Nat)}
    (hM : vx_Met l y ws rm Pc Qc XC mc ms free) (hblind : FrameBlind Pc) (hrc : rm.cells = mc) (hrs : rm.slots = ms)
    (hframes : rm.frames + 1 ≤ R.frames) (hlocals : W9 + (maxL + 11) + rm.locals ≤ R.locals)
    (hws : ∀ w ∈ ws, ∀ a' U, s.WarmedH U.vm → w.before a' U = true) (hcode : Cond.codeWith y bytes maxL ret hh ∈ ws) (hinit : ∀ a' U, s.WarmedH U.vm → (Cond.initialized y.cls).before a' U = true) :
    vx_Back l R p e below s sargs y len W9 (PreOf R mc ms Pc) (PostOf Qc mc ms free) (vx_Post XC mc ms free) := by sorry
end
variable {p : Program} {l : Launch} {e : Env} {R : Room} {s : State} {m : MethodId} {args : Array Value} {below : List Frame} {meth : Method} {c : Code} {T : State} {H : Heap} {locs : List Loc} {cells slots : Nat}
theorem vx_callVX (X : Stand p l e R s m args below meth c T locs cells slots) (hexec : p.tables.exec = Jvm.exec) {own C : String} {index : Nat} {y : MethodName} {bytes : ByteArray} {maxL : Nat} {ret : Option FieldType} {hh : List (Nat × Nat × Nat × Nat)}
    (hown : s.vm.findClass own = some m.cls) (hlink : (Cond.methodLink own index y).before args s = true) (hinst : (Cond.instanceMethod y).before args s = true) (hsel : (Cond.selects C y y).before args s = true)
    (hcode : (Cond.codeWith y bytes maxL ret hh).before args s = true) (hy : y.cls ≠ "java/lang/invoke/MethodHandle" ∧ y.cls ≠ "java/lang/invoke/VarHandle")
    {W9 : Nat} {Pre : Pt → Array Value → Prop} {Post : Pt → Array Value → Option Value → Pt → Prop} {PostX : Pt → Array Value → Addr → Pt → Prop} (hK : vx_Back l R p e below s args y 3 W9 Pre Post PostX)
    {b : Addr} {cellB : Cell} (hcell : T.heap[b]? = some cellB) (hobj : cellB.vm.isStatics = false) (hcls : s.vm.findClass C = some cellB.cls)
    {g : JFrame} (hg : g.method = m) (hsize : g.locals.size = c.maxLocals) {argsL rest : List Value} (hlen : ∀ sig, parseMethodDescriptor y.desc = some sig → argsL.length = sig.parameters.length)
    (hstack : g.stack = argsL.reverse ++ .ref b :: rest) (hW : 2 * g.monitorRoom + (rest.map fun v => v.category).sum ≤ W9) (hdg : decode c.code g.pc = .ok (.invokevirtual index, 3))
    (hpre : ∀ vm₁, s.WarmedH vm₁ → Pre ⟨T.setVm vm₁, locs, cells, slots⟩ (Value.ref b :: argsL).toArray) :
    (∃ (v : Option Value) (vm₁ : Vm) (B : Pt), s.WarmedH vm₁ ∧ Stand p l e R s m args below meth c B.U B.locs B.cells B.slots ∧ Post ⟨T.setVm vm₁, locs, cells, slots⟩ (Value.ref b :: argsL).toArray v B ∧
      ∀ target, Steps p.tables e below (B.U.setTop { g with pc := g.pc + 3, stack := v.toList ++ rest }) target → Steps p.tables e below (T.setTop g) target) ∨
    (∃ (q : Addr) (vm₁ : Vm) (B : Pt), s.WarmedH vm₁ ∧ Stand p l e R s m args below meth c B.U B.locs B.cells B.slots ∧ PostX ⟨T.setVm vm₁, locs, cells, slots⟩ (Value.ref b :: argsL).toArray q B ∧
      Steps p.tables e below (T.setTop g) ((B.U.setTop { g with stack := rest }).pushFrame (.throwing q))) := by sorry
theorem vx_callSX (X : Stand p l e R s m args below meth c T locs cells slots) (hexec : p.tables.exec = Jvm.exec) {own : String} {index : Nat} {y : MethodName} {bytes : ByteArray} {maxL : Nat} {ret : Option FieldType} {hh : List (Nat × Nat × Nat × Nat)}
    (hown : s.vm.findClass own = some m.cls) (hlink : (Cond.methodLink own index y).before args s = true) (hstat : (Cond.static y).before args s = true) (hinit : (Cond.initialized y.cls).before args s = true)
    (hcode : (Cond.codeWith y bytes maxL ret hh).before args s = true) (hy : y.cls ≠ "java/lang/invoke/MethodHandle" ∧ y.cls ≠ "java/lang/invoke/VarHandle")
    {W9 : Nat} {Pre : Pt → Array Value → Prop} {Post : Pt → Array Value → Option Value → Pt → Prop} {PostX : Pt → Array Value → Addr → Pt → Prop} (hK : vx_Back l R p e below s args y 3 W9 Pre Post PostX)
    {g : JFrame} (hg : g.method = m) (hsize : g.locals.size = c.maxLocals) {argsL rest : List Value} (hlen : ∀ sig, parseMethodDescriptor y.desc = some sig → argsL.length = sig.parameters.length)
    (hstack : g.stack = argsL.reverse ++ rest) (hW : 2 * g.monitorRoom + (rest.map fun v => v.category).sum ≤ W9) (hdg : decode c.code g.pc = .ok (.invokestatic index, 3))
    (hpre : ∀ vm₁, s.WarmedH vm₁ → Pre ⟨T.setVm vm₁, locs, cells, slots⟩ argsL.toArray) :
    (∃ (v : Option Value) (vm₁ : Vm) (B : Pt), s.WarmedH vm₁ ∧ Stand p l e R s m args below meth c B.U B.locs B.cells B.slots ∧ Post ⟨T.setVm vm₁, locs, cells, slots⟩ argsL.toArray v B ∧
      ∀ target, Steps p.tables e below (B.U.setTop { g with pc := g.pc + 3, stack := v.toList ++ rest }) target → Steps p.tables e below (T.setTop g) target) ∨
    (∃ (q : Addr) (vm₁ : Vm) (B : Pt), s.WarmedH vm₁ ∧ Stand p l e R s m args below meth c B.U B.locs B.cells B.slots ∧ PostX ⟨T.setVm vm₁, locs, cells, slots⟩ argsL.toArray q B ∧
      Steps p.tables e below (T.setTop g) ((B.U.setTop { g with stack := rest }).pushFrame (.throwing q))) := by sorry
theorem vx_callVW (X : Stand p l e R s m args below meth c T locs cells slots) (hexec : p.tables.exec = Jvm.exec) {own C : String} {index : Nat} {y : MethodName} {bytes : ByteArray} {maxL : Nat} {ret : Option FieldType} {hh : List (Nat × Nat × Nat × Nat)}
    (hown : s.vm.findClass own = some m.cls) (hlink : (Cond.methodLink own index y).before args s = true) (hinst : (Cond.instanceMethod y).before args s = true) (hsel : (Cond.selects C y y).before args s = true)
    (hcode : (Cond.codeWith y bytes maxL ret hh).before args s = true) (hy : y.cls ≠ "java/lang/invoke/MethodHandle" ∧ y.cls ≠ "java/lang/invoke/VarHandle")
    {W9 : Nat} {Pre : Pt → Array Value → Prop} {Post : Pt → Array Value → Option Value → Pt → Prop} (hK : Back l R p e below s args y 3 W9 Pre Post)
    {b : Addr} {cellB : Cell} (hcell : T.heap[b]? = some cellB) (hobj : cellB.vm.isStatics = false) (hcls : s.vm.findClass C = some cellB.cls)
    {g : JFrame} (hg : g.method = m) (hsize : g.locals.size = c.maxLocals) {argsL rest : List Value} (hlen : ∀ sig, parseMethodDescriptor y.desc = some sig → argsL.length = sig.parameters.length)
    (hstack : g.stack = argsL.reverse ++ .ref b :: rest) (hW : 2 * g.monitorRoom + (rest.map fun v => v.category).sum ≤ W9) (hdg : decode c.code g.pc = .ok (.invokevirtual index, 3))
    (hpre : ∀ vm₁, s.WarmedH vm₁ → Pre ⟨T.setVm vm₁, locs, cells, slots⟩ (Value.ref b :: argsL).toArray) :
    ∃ (v : Option Value) (vm₁ : Vm) (B : Pt), s.WarmedH vm₁ ∧ Stand p l e R s m args below meth c B.U B.locs B.cells B.slots ∧ Post ⟨T.setVm vm₁, locs, cells, slots⟩ (Value.ref b :: argsL).toArray v B ∧
      ∀ target, Steps p.tables e below (B.U.setTop { g with pc := g.pc + 3, stack := v.toList ++ rest }) target → Steps p.tables e below (T.setTop g) target := by sorry
abbrev vx_CVW (R : Room) (s : State) (args : Array Value) (own C : String) (index : Nat) (y : MethodName) (bytes : ByteArray) (maxL : Nat) (ret : Option FieldType) (hh : List (Nat × Nat × Nat × Nat)) (ws : List Cond) (rm : Room) (mc ms n : Nat) : Prop :=
  (rm.cells = mc ∧ rm.slots = ms ∧ rm.frames + 1 ≤ R.frames ∧ 8 + (maxL + 11) + rm.locals ≤ R.locals ∧ (∀ w ∈ ws, ∀ (a' : Array Value) (U : State), s.WarmedH U.vm → w.before a' U = true) ∧ Cond.codeWith y bytes maxL ret hh ∈ ws) ∧
  (Cond.codeWith y bytes maxL ret hh).before args s = true ∧ (Cond.initialized y.cls).before args s = true ∧ (y.cls ≠ "java/lang/invoke/MethodHandle" ∧ y.cls ≠ "java/lang/invoke/VarHandle") ∧
  (∀ sig, parseMethodDescriptor y.desc = some sig → n = sig.parameters.length) ∧ (Cond.methodLink own index y).before args s = true ∧ (Cond.instanceMethod y).before args s = true ∧ (Cond.selects C y y).before args s = true
theorem vx_cwVW {own C : String} {index maxL mc ms : Nat} {y : MethodName} {bytes : ByteArray} {ret : Option FieldType} {hh : List (Nat × Nat × Nat × Nat)} {Ts ws ws' : List Cond} {rm : Room} (n : Nat) (ht : ∀ w ∈ Ts, w.before args s = true) (hT : GoodIn Ts (wsV own index C y ws)) (hw : ws = Cond.codeWith y bytes maxL ret hh :: ws') (hrc : rm.cells = mc) (hrs : rm.slots = ms)
    (hd : y.cls = C ∧ y.cls ≠ "java/lang/invoke/MethodHandle" ∧ y.cls ≠ "java/lang/invoke/VarHandle" ∧ (parseMethodDescriptor y.desc).map (fun d => d.parameters.length) = some n) (hR : rm.frames + 1 ≤ R.frames ∧ 8 + (maxL + 11) + rm.locals ≤ R.locals) :
    vx_CVW R s args own C index y bytes maxL ret hh ws rm mc ms n := by sorry
theorem vx_runVW {y : MethodName} {bytes cc : ByteArray} {maxL nL mc ms n index : Nat} {ret : Option FieldType} {hh : List (Nat × Nat × Nat × Nat)} {ws : List Cond} {rm : Room} {Pc : Array Value → State → Prop} {Qc : Array Value → State → Outcome → State → Prop} {free : Addr → Prop} {Ts : List Cond} {own C : String} {b : Addr} {As rest : List Value} {g : JFrame}
    (S : CallFix p m c cc nL s args Ts own) (hM : Met l y ws rm Pc Qc mc ms free) (cw : vx_CVW R s args own C index y bytes maxL ret hh ws rm mc ms n) (hp : PreV s H C b Pc As)
    (hg : g.method = m) (hn : As.length = n) (hsize : g.locals.size = nL) (hstack : g.stack = As.reverse ++ .ref b :: rest) (hW : 2 * g.monitorRoom + (rest.map fun v => v.category).sum ≤ 8) (hdg : decode cc g.pc = .ok (.invokevirtual index, 3)) (hf : cells + mc ≤ R.cells ∧ slots + ms ≤ R.slots) :
    va_Run p l e R s m args below meth c H locs cells slots mc ms g rest (Qc (Value.ref b :: As).toArray) free := by sorry
section
variable {y : MethodName} {bytes cc : ByteArray} {maxL nL mc ms n index : Nat} {ret : Option FieldType} {ws : List Cond} {rm : Room} {Pc : Array Value → State → Prop} {Qc : Array Value → State → Outcome → State → Prop} {XC : String → State → State → Prop} {free : Addr → Prop} {Ts : List Cond} {own C : String} {b : Addr} {As rest : List Value} {g : JFrame}
theorem vx_runVX {hh : List (Nat × Nat × Nat × Nat)} (S : CallFix p m c cc nL s args Ts own) (hM : vx_Met l y ws rm Pc Qc XC mc ms free) (cw : vx_CVW R s args own C index y bytes maxL ret hh ws rm mc ms n) (hp : PreV s H C b Pc As)
    (hg : g.method = m) (hn : As.length = n) (hsize : g.locals.size = nL) (hstack : g.stack = As.reverse ++ .ref b :: rest) (hW : 2 * g.monitorRoom + (rest.map fun v => v.category).sum ≤ 8) (hdg : decode cc g.pc = .ok (.invokevirtual index, 3)) (hf : cells + mc ≤ R.cells ∧ slots + ms ≤ R.slots) :
    vx_Run p l e R s m args below meth c H locs cells slots mc ms g rest (Qc (Value.ref b :: As).toArray) XC free := by sorry
theorem vx_runSX {hh : List (Nat × Nat × Nat × Nat)} (S : CallFix p m c cc nL s args Ts own) (hM : vx_Met l y ws rm Pc Qc XC mc ms free) (cw : vx_CSW R s args own index y bytes maxL ret hh ws rm mc ms n) (hp : PreS s H Pc As)
    (hg : g.method = m) (hn : As.length = n) (hsize : g.locals.size = nL) (hstack : g.stack = As.reverse ++ rest) (hW : 2 * g.monitorRoom + (rest.map fun v => v.category).sum ≤ 8) (hdg : decode cc g.pc = .ok (.invokestatic index, 3)) (hf : cells + mc ≤ R.cells ∧ slots + ms ≤ R.slots) :
    vx_Run p l e R s m args below meth c H locs cells slots mc ms g rest (Qc As.toArray) XC free := by sorry
end
end VXH
theorem vx_ofWH {l : Launch} {y : MethodName} {ws ws' : List Cond} {rm : Room} {Pc : Array Value → State → Prop} {Qc : Array Value → State → Outcome → State → Prop} {XC : String → State → State → Prop} {mc ms : Nat} {free : Addr → Prop} {cc : ByteArray} {maxL : Nat} {ret : Option FieldType} {hh : List (Nat × Nat × Nat × Nat)}
    (hy : plainName y.cls = true) (hw : ws = Cond.codeWith y cc maxL ret hh :: ws')
    (body : ∀ p e s m args below meth c s₁, BodyLoose p l y (headSpec ws rm) cc maxL ret e s m args below meth c s₁ → c.maxLocals = maxL → Pc args s →
      W p l e (headSpec ws rm).room s m args below meth c s.heap [] 0 0 (vx_MQ below Qc XC args s mc ms free) (entryFrame m args maxL)) : vx_Met l y ws rm Pc Qc XC mc ms free := by sorry
/-! ===== END ===== -/
end
section
/-! ===== BEGIN printed: names, fields, word lists, decode rows ===== -/
def RX0 : String := "Shortring$Hunt"
def TX0 : u_T := fun k => match k with
  | 0 => ("Shortring$Hunt", "barredWith", "[I", true)
  | 1 => ("Shortring$Hunt", "bars", "[I", true)
  | 2 => ("Shortring$Hunt", "puts", "[I", true)
  | 3 => ("Shortring$Hunt", "barsAtPut", "[I", true)
  | 4 => ("Shortring$Hunt", "isOn", "Z", false)
  | 5 => ("Shortring$Hunt", "count", "I", false)
  | 6 => ("Shortring$Hunt", "length", "I", false)
  | 7 => ("Shortring$Hunt", "steps", "I", false)
  | 8 => ("Shortring$Hunt", "state", "I", false)
  | 9 => ("Shortring$Hunt", "putMany", "I", false)
  | _ => ("Shortring$Hunt", "barMany", "I", false)
def tyX0 : Nat → FieldType := fun k => match k with
  | 0 => .array .int
  | 1 => .array .int
  | 2 => .array .int
  | 3 => .array .int
  | 4 => .boolean
  | 5 => .int
  | 6 => .int
  | 7 => .int
  | 8 => .int
  | 9 => .int
  | _ => .int
abbrev wsX00 : List Cond := u_ws RX0 TX0 11
theorem nmX0 : ∀ a, a < 11 → ∀ b, b < 11 → a ≠ b → (TX0 a).2.1 ≠ (TX0 b).2.1 := by sorry
theorem tyX0_ok : ∀ k, k < 11 → parseFieldDescriptor (TX0 k).2.2.1 = some (tyX0 k) := by sorry
abbrev cX0_init : ByteArray := prog_2_method_1_code
def yX0_init : MethodName := ⟨RX0, "<init>", "()V"⟩
abbrev cX0_begin : ByteArray := prog_2_method_2_code
def yX0_begin : MethodName := ⟨RX0, "begin", "(II)V"⟩
abbrev cX0_end : ByteArray := prog_2_method_3_code
def yX0_end : MethodName := ⟨RX0, "end", "()V"⟩
abbrev cX0_step : ByteArray := prog_2_method_4_code
def yX0_step : MethodName := ⟨RX0, "step", "(LShortring$Net;)V"⟩
abbrev cX0_put : ByteArray := prog_2_method_5_code
def yX0_put : MethodName := ⟨RX0, "put", "(LShortring$Net;II)V"⟩
abbrev cX0_goBack : ByteArray := prog_2_method_6_code
def yX0_goBack : MethodName := ⟨RX0, "goBack", "(LShortring$Net;)V"⟩
abbrev cX0_bar : ByteArray := prog_2_method_7_code
def yX0_bar : MethodName := ⟨RX0, "bar", "(I)V"⟩
abbrev cX0_unbarDownTo : ByteArray := prog_2_method_8_code
def yX0_unbarDownTo : MethodName := ⟨RX0, "unbarDownTo", "(I)V"⟩
abbrev cX0_flipBar : ByteArray := prog_2_method_9_code
def yX0_flipBar : MethodName := ⟨RX0, "flipBar", "(II)V"⟩
abbrev cX0_needy : ByteArray := prog_2_method_10_code
def yX0_needy : MethodName := ⟨RX0, "needy", "(LShortring$Net;)I"⟩
abbrev cX0_joinableOf : ByteArray := prog_2_method_11_code
def yX0_joinableOf : MethodName := ⟨RX0, "joinableOf", "(LShortring$Net;II)I"⟩
abbrev cX0_joinable : ByteArray := prog_2_method_12_code
def yX0_joinable : MethodName := ⟨RX0, "joinable", "(LShortring$Net;I)I"⟩
abbrev cX0_nextKnot : ByteArray := prog_2_method_13_code
def yX0_nextKnot : MethodName := ⟨RX0, "nextKnot", "(LShortring$Net;)I"⟩
abbrev cX0_partnerOf : ByteArray := prog_2_method_14_code
def yX0_partnerOf : MethodName := ⟨RX0, "partnerOf", "(LShortring$Net;I)I"⟩
def RX1 : String := "Shortring$Ledger"
def TX1 : u_T := fun k => match k with
  | 0 => ("Shortring$Ledger", "leastProved", "[I", true)
  | _ => ("Shortring$Ledger", "smallest", "[I", true)
def tyX1 : Nat → FieldType := fun k => match k with
  | 0 => .array .int
  | _ => .array .int
abbrev wsX10 : List Cond := u_ws RX1 TX1 2
theorem nmX1 : ∀ a, a < 2 → ∀ b, b < 2 → a ≠ b → (TX1 a).2.1 ≠ (TX1 b).2.1 := by sorry
theorem tyX1_ok : ∀ k, k < 2 → parseFieldDescriptor (TX1 k).2.2.1 = some (tyX1 k) := by sorry
abbrev cX1_init : ByteArray := prog_3_method_1_code
def yX1_init : MethodName := ⟨RX1, "<init>", "()V"⟩
abbrev cX1_leastKnots : ByteArray := prog_3_method_2_code
def yX1_leastKnots : MethodName := ⟨RX1, "leastKnots", "(II)I"⟩
abbrev cX1_why : ByteArray := prog_3_method_3_code
def yX1_why : MethodName := ⟨RX1, "why", "(III)I"⟩
abbrev cX1_proofPlace : ByteArray := prog_3_method_4_code
def yX1_proofPlace : MethodName := ⟨RX1, "proofPlace", "(II)I"⟩
abbrev cX1_isProved : ByteArray := prog_3_method_5_code
def yX1_isProved : MethodName := ⟨RX1, "isProved", "(III)Z"⟩
abbrev cX1_prove : ByteArray := prog_3_method_6_code
def yX1_prove : MethodName := ⟨RX1, "prove", "(III)V"⟩
abbrev cX1_tablePlace : ByteArray := prog_3_method_7_code
def yX1_tablePlace : MethodName := ⟨RX1, "tablePlace", "(II)I"⟩
abbrev cX1_look : ByteArray := prog_3_method_8_code
def yX1_look : MethodName := ⟨RX1, "look", "(LShortring$Net;)V"⟩
abbrev cX1_smallestOf : ByteArray := prog_3_method_9_code
def yX1_smallestOf : MethodName := ⟨RX1, "smallestOf", "(II)I"⟩
abbrev cX1_nextOf : ByteArray := prog_3_method_10_code
def yX1_nextOf : MethodName := ⟨RX1, "nextOf", "(II)I"⟩
abbrev cX1_isTableSound : ByteArray := prog_3_method_11_code
def yX1_isTableSound : MethodName := ⟨RX1, "isTableSound", "()Z"⟩
def RX2 : String := "Shortring$Likeness"
def TX2 : u_T := fun k => match k with
  | 0 => ("Shortring$Likeness", "from", "LShortring$Net;", true)
  | 1 => ("Shortring$Likeness", "to", "LShortring$Net;", true)
  | 2 => ("Shortring$Likeness", "image", "[I", true)
  | _ => ("Shortring$Likeness", "placed", "I", false)
def tyX2 : Nat → FieldType := fun k => match k with
  | 0 => .object "Shortring$Net"
  | 1 => .object "Shortring$Net"
  | 2 => .array .int
  | _ => .int
abbrev wsX20 : List Cond := u_ws RX2 TX2 4
theorem nmX2 : ∀ a, a < 4 → ∀ b, b < 4 → a ≠ b → (TX2 a).2.1 ≠ (TX2 b).2.1 := by sorry
theorem tyX2_ok : ∀ k, k < 4 → parseFieldDescriptor (TX2 k).2.2.1 = some (tyX2 k) := by sorry
abbrev cX2_init : ByteArray := prog_4_method_1_code
def yX2_init : MethodName := ⟨RX2, "<init>", "()V"⟩
abbrev cX2_turnsOf : ByteArray := prog_4_method_2_code
def yX2_turnsOf : MethodName := ⟨RX2, "turnsOf", "(LShortring$Net;)I"⟩
abbrev cX2_partsLike : ByteArray := prog_4_method_3_code
def yX2_partsLike : MethodName := ⟨RX2, "partsLike", "(II)I"⟩
abbrev cX2_areAlike : ByteArray := prog_4_method_4_code
def yX2_areAlike : MethodName := ⟨RX2, "areAlike", "(LShortring$Net;LShortring$Net;)Z"⟩
abbrev cX2_partMatching : ByteArray := prog_4_method_5_code
def yX2_partMatching : MethodName := ⟨RX2, "partMatching", "(II)I"⟩
abbrev cX2_waysOf : ByteArray := prog_4_method_6_code
def yX2_waysOf : MethodName := ⟨RX2, "waysOf", "(III)I"⟩
abbrev cX2_ways : ByteArray := prog_4_method_7_code
def yX2_ways : MethodName := ⟨RX2, "ways", "(LShortring$Likeness;IIII)I"⟩
abbrev cX2_place : ByteArray := prog_4_method_8_code
def yX2_place : MethodName := ⟨RX2, "place", "(II)V"⟩
abbrev cX2_nextToPlace : ByteArray := prog_4_method_9_code
def yX2_nextToPlace : MethodName := ⟨RX2, "nextToPlace", "(I)I"⟩
abbrev cX2_fitting : ByteArray := prog_4_method_10_code
def yX2_fitting : MethodName := ⟨RX2, "fitting", "(II)I"⟩
def RX3 : String := "Shortring$Net"
def TX3 : u_T := fun k => match k with
  | 0 => ("Shortring$Net", "near", "[I", true)
  | _ => ("Shortring$Net", "knots", "I", false)
def tyX3 : Nat → FieldType := fun k => match k with
  | 0 => .array .int
  | _ => .int
abbrev wsX30 : List Cond := u_ws RX3 TX3 2
theorem nmX3 : ∀ a, a < 2 → ∀ b, b < 2 → a ≠ b → (TX3 a).2.1 ≠ (TX3 b).2.1 := by sorry
theorem tyX3_ok : ∀ k, k < 2 → parseFieldDescriptor (TX3 k).2.2.1 = some (tyX3 k) := by sorry
abbrev cX3_init : ByteArray := prog_5_method_1_code
def yX3_init : MethodName := ⟨RX3, "<init>", "()V"⟩
abbrev cX3_lay : ByteArray := prog_5_method_2_code
def yX3_lay : MethodName := ⟨RX3, "lay", "(I)V"⟩
abbrev cX3_take : ByteArray := prog_5_method_3_code
def yX3_take : MethodName := ⟨RX3, "take", "(LShortring$Net;)V"⟩
abbrev cX3_isKnot : ByteArray := prog_5_method_4_code
def yX3_isKnot : MethodName := ⟨RX3, "isKnot", "(I)Z"⟩
abbrev cX3_nearOf : ByteArray := prog_5_method_5_code
def yX3_nearOf : MethodName := ⟨RX3, "nearOf", "(I)I"⟩
abbrev cX3_isNear : ByteArray := prog_5_method_6_code
def yX3_isNear : MethodName := ⟨RX3, "isNear", "(II)Z"⟩
abbrev cX3_countOf : ByteArray := prog_5_method_7_code
def yX3_countOf : MethodName := ⟨RX3, "countOf", "(I)I"⟩
abbrev cX3_join : ByteArray := prog_5_method_8_code
def yX3_join : MethodName := ⟨RX3, "join", "(II)V"⟩
abbrev cX3_loosen : ByteArray := prog_5_method_9_code
def yX3_loosen : MethodName := ⟨RX3, "loosen", "(II)V"⟩
abbrev cX3_edgesInAll : ByteArray := prog_5_method_10_code
def yX3_edgesInAll : MethodName := ⟨RX3, "edgesInAll", "()I"⟩
abbrev cX3_edgeAt : ByteArray := prog_5_method_11_code
def yX3_edgeAt : MethodName := ⟨RX3, "edgeAt", "(I)I"⟩
abbrev cX3_numberedIn : ByteArray := prog_5_method_12_code
def yX3_numberedIn : MethodName := ⟨RX3, "numberedIn", "(II)I"⟩
abbrev cX3_evenCount : ByteArray := prog_5_method_13_code
def yX3_evenCount : MethodName := ⟨RX3, "evenCount", "()I"⟩
abbrev cX3_loneliest : ByteArray := prog_5_method_14_code
def yX3_loneliest : MethodName := ⟨RX3, "loneliest", "()I"⟩
abbrev cX3_isMutual : ByteArray := prog_5_method_15_code
def yX3_isMutual : MethodName := ⟨RX3, "isMutual", "()Z"⟩
def RX4 : String := "Shortring$Paint"
def TX4 : u_T := fun k => match k with
  | _ => ("Shortring$Paint", "hues", "[I", true)
def tyX4 : Nat → FieldType := fun k => match k with
  | _ => .array .int
abbrev wsX40 : List Cond := u_ws RX4 TX4 1
theorem nmX4 : ∀ a, a < 1 → ∀ b, b < 1 → a ≠ b → (TX4 a).2.1 ≠ (TX4 b).2.1 := by sorry
theorem tyX4_ok : ∀ k, k < 1 → parseFieldDescriptor (TX4 k).2.2.1 = some (tyX4 k) := by sorry
abbrev cX4_init : ByteArray := prog_6_method_1_code
def yX4_init : MethodName := ⟨RX4, "<init>", "()V"⟩
abbrev cX4_fewest : ByteArray := prog_6_method_2_code
def yX4_fewest : MethodName := ⟨RX4, "fewest", "(LShortring$Net;)I"⟩
abbrev cX4_fewestOf : ByteArray := prog_6_method_3_code
def yX4_fewestOf : MethodName := ⟨RX4, "fewestOf", "(LShortring$Net;II)I"⟩
abbrev cX4_canPaint : ByteArray := prog_6_method_4_code
def yX4_canPaint : MethodName := ⟨RX4, "canPaint", "(LShortring$Net;[IIII)Z"⟩
abbrev cX4_hardest : ByteArray := prog_6_method_5_code
def yX4_hardest : MethodName := ⟨RX4, "hardest", "(LShortring$Net;[II)I"⟩
def RX5 : String := "Shortring$Paths"
def TX5 : u_T := fun k => match k with
  | _ => ("", "", "", false)
def tyX5 : Nat → FieldType := fun k => match k with
  | _ => .int
abbrev wsX50 : List Cond := u_ws RX5 TX5 0
theorem nmX5 : ∀ a, a < 0 → ∀ b, b < 0 → a ≠ b → (TX5 a).2.1 ≠ (TX5 b).2.1 := by sorry
theorem tyX5_ok : ∀ k, k < 0 → parseFieldDescriptor (TX5 k).2.2.1 = some (tyX5 k) := by sorry
abbrev cX5_around : ByteArray := prog_7_method_2_code
def yX5_around : MethodName := ⟨RX5, "around", "(LShortring$Net;I)I"⟩
abbrev cX5_within : ByteArray := prog_7_method_3_code
def yX5_within : MethodName := ⟨RX5, "within", "(LShortring$Net;II)I"⟩
abbrev cX5_partWith : ByteArray := prog_7_method_4_code
def yX5_partWith : MethodName := ⟨RX5, "partWith", "(LShortring$Net;I)I"⟩
abbrev cX5_partsInAll : ByteArray := prog_7_method_5_code
def yX5_partsInAll : MethodName := ⟨RX5, "partsInAll", "(LShortring$Net;)I"⟩
abbrev cX5_partNumber : ByteArray := prog_7_method_6_code
def yX5_partNumber : MethodName := ⟨RX5, "partNumber", "(LShortring$Net;I)I"⟩
abbrev cX5_greatestDistance : ByteArray := prog_7_method_8_code
def yX5_greatestDistance : MethodName := ⟨RX5, "greatestDistance", "(LShortring$Net;I)I"⟩
abbrev cX5_width : ByteArray := prog_7_method_9_code
def yX5_width : MethodName := ⟨RX5, "width", "(LShortring$Net;)I"⟩
abbrev cX5_leastRingBy : ByteArray := prog_7_method_10_code
def yX5_leastRingBy : MethodName := ⟨RX5, "leastRingBy", "(LShortring$Net;II)I"⟩
abbrev cX5_leastRingAt : ByteArray := prog_7_method_11_code
def yX5_leastRingAt : MethodName := ⟨RX5, "leastRingAt", "(LShortring$Net;I)I"⟩
abbrev cX5_leastRing : ByteArray := prog_7_method_12_code
def yX5_leastRing : MethodName := ⟨RX5, "leastRing", "(LShortring$Net;)I"⟩
def RX6 : String := "Shortring"
def TX6 : u_T := fun k => match k with
  | 0 => ("Shortring", "net", "LShortring$Net;", true)
  | 1 => ("Shortring", "scratch", "LShortring$Net;", true)
  | 2 => ("Shortring", "kept", "[LShortring$Net;", true)
  | 3 => ("Shortring", "hunt", "LShortring$Hunt;", true)
  | 4 => ("Shortring", "ledger", "LShortring$Ledger;", true)
  | 5 => ("Shortring", "likeness", "LShortring$Likeness;", true)
  | 6 => ("Shortring", "paint", "LShortring$Paint;", true)
  | 7 => ("Shortring", "tally", "[I", true)
  | 8 => ("Shortring", "keptMany", "I", false)
  | _ => ("Shortring", "refused", "I", false)
def tyX6 : Nat → FieldType := fun k => match k with
  | 0 => .object "Shortring$Net"
  | 1 => .object "Shortring$Net"
  | 2 => .array (.object "Shortring$Net")
  | 3 => .object "Shortring$Hunt"
  | 4 => .object "Shortring$Ledger"
  | 5 => .object "Shortring$Likeness"
  | 6 => .object "Shortring$Paint"
  | 7 => .array .int
  | 8 => .int
  | _ => .int
abbrev wsX60 : List Cond := u_ws RX6 TX6 10
theorem nmX6 : ∀ a, a < 10 → ∀ b, b < 10 → a ≠ b → (TX6 a).2.1 ≠ (TX6 b).2.1 := by sorry
theorem tyX6_ok : ∀ k, k < 10 → parseFieldDescriptor (TX6 k).2.2.1 = some (tyX6 k) := by sorry
abbrev cX6_init : ByteArray := prog_1_method_1_code
def yX6_init : MethodName := ⟨RX6, "<init>", "()V"⟩
abbrev cX6_garden : ByteArray := prog_1_method_2_code
def yX6_garden : MethodName := ⟨RX6, "garden", "(I)I"⟩
abbrev cX6_edge : ByteArray := prog_1_method_3_code
def yX6_edge : MethodName := ⟨RX6, "edge", "(IIZ)Z"⟩
abbrev cX6_ring : ByteArray := prog_1_method_4_code
def yX6_ring : MethodName := ⟨RX6, "ring", "(II)I"⟩
abbrev cX6_doubled : ByteArray := prog_1_method_5_code
def yX6_doubled : MethodName := ⟨RX6, "doubled", "(I)I"⟩
abbrev cX6_swap : ByteArray := prog_1_method_6_code
def yX6_swap : MethodName := ⟨RX6, "swap", "(IIZ)Z"⟩
abbrev cX6_mend : ByteArray := prog_1_method_7_code
def yX6_mend : MethodName := ⟨RX6, "mend", "(III)I"⟩
abbrev cX6_aim : ByteArray := prog_1_method_8_code
def yX6_aim : MethodName := ⟨RX6, "aim", "(II)I"⟩
abbrev cX6_grow : ByteArray := prog_1_method_9_code
def yX6_grow : MethodName := ⟨RX6, "grow", "(I)I"⟩
abbrev cX6_search : ByteArray := prog_1_method_10_code
def yX6_search : MethodName := ⟨RX6, "search", "(I)I"⟩
abbrev cX6_now : ByteArray := prog_1_method_11_code
def yX6_now : MethodName := ⟨RX6, "now", "(I)I"⟩
abbrev cX6_ofKnot : ByteArray := prog_1_method_12_code
def yX6_ofKnot : MethodName := ⟨RX6, "ofKnot", "(II)I"⟩
abbrev cX6_ofEdge : ByteArray := prog_1_method_13_code
def yX6_ofEdge : MethodName := ⟨RX6, "ofEdge", "(II)I"⟩
abbrev cX6_rings : ByteArray := prog_1_method_15_code
def yX6_rings : MethodName := ⟨RX6, "rings", "(I)I"⟩
abbrev cX6_bound : ByteArray := prog_1_method_16_code
def yX6_bound : MethodName := ⟨RX6, "bound", "(II)I"⟩
abbrev cX6_table : ByteArray := prog_1_method_18_code
def yX6_table : MethodName := ⟨RX6, "table", "(IIZ)I"⟩
abbrev cX6_keep : ByteArray := prog_1_method_19_code
def yX6_keep : MethodName := ⟨RX6, "keep", "()I"⟩
abbrev cX6_back : ByteArray := prog_1_method_20_code
def yX6_back : MethodName := ⟨RX6, "back", "(I)I"⟩
abbrev cX6_isAlike : ByteArray := prog_1_method_21_code
def yX6_isAlike : MethodName := ⟨RX6, "isAlike", "(I)Z"⟩
abbrev cX6_isSound : ByteArray := prog_1_method_25_code
def yX6_isSound : MethodName := ⟨RX6, "isSound", "()Z"⟩
abbrev cX6_digest : ByteArray := prog_1_method_27_code
def yX6_digest : MethodName := ⟨RX6, "digest", "()J"⟩
abbrev cX6_requireTabled : ByteArray := prog_1_method_28_code
def yX6_requireTabled : MethodName := ⟨RX6, "requireTabled", "(II)V"⟩
abbrev cX6_keptAt : ByteArray := prog_1_method_29_code
def yX6_keptAt : MethodName := ⟨RX6, "keptAt", "(I)LShortring$Net;"⟩
abbrev cX6_countByJumps : ByteArray := prog_1_method_30_code
def yX6_countByJumps : MethodName := ⟨RX6, "countByJumps", "(II)I"⟩
abbrev cX6_layByJumps : ByteArray := prog_1_method_31_code
def yX6_layByJumps : MethodName := ⟨RX6, "layByJumps", "(II)V"⟩
abbrev cX6_layDouble : ByteArray := prog_1_method_32_code
def yX6_layDouble : MethodName := ⟨RX6, "layDouble", "(I)V"⟩
abbrev cX6_turned : ByteArray := prog_1_method_33_code
def yX6_turned : MethodName := ⟨RX6, "turned", "(IZ)I"⟩
abbrev cX6_canExchange : ByteArray := prog_1_method_34_code
def yX6_canExchange : MethodName := ⟨RX6, "canExchange", "(II)Z"⟩
abbrev cX6_exchange : ByteArray := prog_1_method_35_code
def yX6_exchange : MethodName := ⟨RX6, "exchange", "(II)V"⟩
abbrev cX6_mendByRounds : ByteArray := prog_1_method_36_code
def yX6_mendByRounds : MethodName := ⟨RX6, "mendByRounds", "(III)I"⟩
abbrev cX6_shortRings : ByteArray := prog_1_method_37_code
def yX6_shortRings : MethodName := ⟨RX6, "shortRings", "(I)I"⟩
abbrev cX6_countRings : ByteArray := prog_1_method_38_code
def yX6_countRings : MethodName := ⟨RX6, "countRings", "(I)V"⟩
abbrev cX6_tallied : ByteArray := prog_1_method_39_code
def yX6_tallied : MethodName := ⟨RX6, "tallied", "(I)I"⟩
abbrev cX6_walk : ByteArray := prog_1_method_40_code
def yX6_walk : MethodName := ⟨RX6, "walk", "(LShortring$Net;[IIIIII)V"⟩
abbrev cX6_isAimSound : ByteArray := prog_1_method_41_code
def yX6_isAimSound : MethodName := ⟨RX6, "isAimSound", "()Z"⟩
abbrev cX6_isEvenSound : ByteArray := prog_1_method_42_code
def yX6_isEvenSound : MethodName := ⟨RX6, "isEvenSound", "()Z"⟩
abbrev cX6_digestOfKnots : ByteArray := prog_1_method_43_code
def yX6_digestOfKnots : MethodName := ⟨RX6, "digestOfKnots", "(J)J"⟩
abbrev cX6_digestOfEdges : ByteArray := prog_1_method_44_code
def yX6_digestOfEdges : MethodName := ⟨RX6, "digestOfEdges", "(J)J"⟩
abbrev cX6_digestOfTable : ByteArray := prog_1_method_45_code
def yX6_digestOfTable : MethodName := ⟨RX6, "digestOfTable", "(J)J"⟩
abbrev cX6_isWithin : ByteArray := prog_1_method_46_code
def yX6_isWithin : MethodName := ⟨RX6, "isWithin", "(III)Z"⟩
abbrev cX6_bit : ByteArray := prog_1_method_47_code
def yX6_bit : MethodName := ⟨RX6, "bit", "(I)I"⟩
abbrev cX6_holds : ByteArray := prog_1_method_48_code
def yX6_holds : MethodName := ⟨RX6, "holds", "(II)Z"⟩
abbrev cX6_isSetBelow : ByteArray := prog_1_method_49_code
def yX6_isSetBelow : MethodName := ⟨RX6, "isSetBelow", "(II)Z"⟩
abbrev cX6_firstOf : ByteArray := prog_1_method_50_code
def yX6_firstOf : MethodName := ⟨RX6, "firstOf", "(I)I"⟩
abbrev cX6_lesser : ByteArray := prog_1_method_51_code
def yX6_lesser : MethodName := ⟨RX6, "lesser", "(II)I"⟩
abbrev cX6_pairOf : ByteArray := prog_1_method_52_code
def yX6_pairOf : MethodName := ⟨RX6, "pairOf", "(II)I"⟩
abbrev cX6_oneOf : ByteArray := prog_1_method_53_code
def yX6_oneOf : MethodName := ⟨RX6, "oneOf", "(I)I"⟩
abbrev cX6_otherOf : ByteArray := prog_1_method_54_code
def yX6_otherOf : MethodName := ⟨RX6, "otherOf", "(I)I"⟩
def RX7 : String := "ShortringModel"
def TX7 : u_T := fun k => match k with
  | _ => ("", "", "", false)
def tyX7 : Nat → FieldType := fun k => match k with
  | _ => .int
abbrev wsX70 : List Cond := u_ws RX7 TX7 0
theorem nmX7 : ∀ a, a < 0 → ∀ b, b < 0 → a ≠ b → (TX7 a).2.1 ≠ (TX7 b).2.1 := by sorry
theorem tyX7_ok : ∀ k, k < 0 → parseFieldDescriptor (TX7 k).2.2.1 = some (tyX7 k) := by sorry
def RJx145de : String := "java/io/Serializable"
def TJx145de : u_T := fun k => match k with
  | _ => ("", "", "", false)
def tyJx145de : Nat → FieldType := fun k => match k with
  | _ => .int
abbrev wsJx145de0 : List Cond := u_ws RJx145de TJx145de 0
theorem nmJx145de : ∀ a, a < 0 → ∀ b, b < 0 → a ≠ b → (TJx145de a).2.1 ≠ (TJx145de b).2.1 := by sorry
theorem tyJx145de_ok : ∀ k, k < 0 → parseFieldDescriptor (TJx145de k).2.2.1 = some (tyJx145de k) := by sorry
def RJ6 : String := "java/lang/Integer"
def TJ6 : u_T := fun k => match k with
  | _ => ("", "", "", false)
def tyJ6 : Nat → FieldType := fun k => match k with
  | _ => .int
abbrev wsJ60 : List Cond := u_ws RJ6 TJ6 0
theorem nmJ6 : ∀ a, a < 0 → ∀ b, b < 0 → a ≠ b → (TJ6 a).2.1 ≠ (TJ6 b).2.1 := by sorry
theorem tyJ6_ok : ∀ k, k < 0 → parseFieldDescriptor (TJ6 k).2.2.1 = some (tyJ6 k) := by sorry
abbrev cJ6_bitCount_0f7a4 : ByteArray := prog_14_method_49_code
def yJ6_bitCount_0f7a4 : MethodName := ⟨RJ6, "bitCount", "(I)I"⟩
def RJ9 : String := "java/lang/Math"
def TJ9 : u_T := fun k => match k with
  | _ => ("", "", "", false)
def tyJ9 : Nat → FieldType := fun k => match k with
  | _ => .int
abbrev wsJ90 : List Cond := u_ws RJ9 TJ9 0
theorem nmJ9 : ∀ a, a < 0 → ∀ b, b < 0 → a ≠ b → (TJ9 a).2.1 ≠ (TJ9 b).2.1 := by sorry
theorem tyJ9_ok : ∀ k, k < 0 → parseFieldDescriptor (TJ9 k).2.2.1 = some (tyJ9 k) := by sorry
abbrev cJ9_max_7cf53 : ByteArray := prog_15_method_65_code
def yJ9_max_7cf53 : MethodName := ⟨RJ9, "max", "(II)I"⟩
abbrev cJ9_min_7cf53 : ByteArray := prog_15_method_69_code
def yJ9_min_7cf53 : MethodName := ⟨RJ9, "min", "(II)I"⟩
def RJ0 : String := "java/lang/String"
def TJ0 : u_T := fun k => match k with
  | _ => ("", "", "", false)
def tyJ0 : Nat → FieldType := fun k => match k with
  | _ => .int
abbrev wsJ00 : List Cond := u_ws RJ0 TJ0 0
theorem nmJ0 : ∀ a, a < 0 → ∀ b, b < 0 → a ≠ b → (TJ0 a).2.1 ≠ (TJ0 b).2.1 := by sorry
theorem tyJ0_ok : ∀ k, k < 0 → parseFieldDescriptor (TJ0 k).2.2.1 = some (tyJ0 k) := by sorry
def RL : String := "ShortringLaw"
abbrev cL_below : ByteArray := method_2_code
def yL_below : MethodName := ⟨RL, "below", "(II)I"⟩
abbrev cL_cell : ByteArray := method_3_code
def yL_cell : MethodName := ⟨RL, "cell", "([II)I"⟩
abbrev cL_law : ByteArray := code
def yL_law : MethodName := ⟨RL, "law", "([I)Z"⟩
abbrev cL_act : ByteArray := method_5_code
def yL_act : MethodName := ⟨RL, "act", "(LShortring;III)I"⟩
def wsX0_init : List Cond := .code yX0_init cX0_init 1 none :: ([.methodLink RX0 3 objectInit, .instanceMethod objectInit, .code objectInit ⟨#[0xb1]⟩ 1 none, .arrayClass .int, .fieldLink RX0 9 "Shortring$Hunt" "barredWith" "[I", .fieldLink RX0 15 "Shortring$Hunt" "bars" "[I", .fieldLink RX0 18 "Shortring$Hunt" "puts" "[I", .fieldLink RX0 21 "Shortring$Hunt" "barsAtPut" "[I", .fieldLink RX0 24 "Shortring$Hunt" "isOn" "Z", .fieldLink RX0 28 "Shortring$Hunt" "state" "I"] ++ wsX00)
def wsX6_oneOf : List Cond := .code yX6_oneOf cX6_oneOf 1 (some .int) :: ([])
def wsX6_otherOf : List Cond := .code yX6_otherOf cX6_otherOf 1 (some .int) :: ([])
def wsX6_bit : List Cond := .code yX6_bit cX6_bit 1 (some .int) :: ([])
def wsX0_flipBar : List Cond := .code yX0_flipBar cX0_flipBar 3 none :: ([.fieldLink RX0 9 "Shortring$Hunt" "barredWith" "[I", .static yX6_bit, .initialized RX6, .code yX6_bit cX6_bit 1 (some .int)] ++ wsX00)
def wsX0_unbarDownTo : List Cond := .code yX0_unbarDownTo cX0_unbarDownTo 3 none :: ([.fieldLink RX0 68 "Shortring$Hunt" "barMany" "I", .fieldLink RX0 15 "Shortring$Hunt" "bars" "[I", .static yX6_oneOf, .initialized RX6, .code yX6_oneOf cX6_oneOf 1 (some .int), .static yX6_otherOf, .code yX6_otherOf cX6_otherOf 1 (some .int), .methodLink RX0 90 yX0_flipBar, .instanceMethod yX0_flipBar, .selects RX0 yX0_flipBar yX0_flipBar, .initialized RX0, .code yX0_flipBar cX0_flipBar 3 none, .fieldLink RX0 9 "Shortring$Hunt" "barredWith" "[I", .static yX6_bit, .code yX6_bit cX6_bit 1 (some .int)] ++ wsX00)
def wsX0_begin_r1 : List Cond := [Cond.fieldLink RX0 24 "Shortring$Hunt" "isOn" "Z", Cond.fieldLink RX0 32 "Shortring$Hunt" "count" "I", Cond.fieldLink RX0 35 "Shortring$Hunt" "length" "I", Cond.fieldLink RX0 38 "Shortring$Hunt" "steps" "I", Cond.fieldLink RX0 28 "Shortring$Hunt" "state" "I", Cond.fieldLink RX0 41 "Shortring$Hunt" "putMany" "I", Cond.methodLink RX0 44 yX0_unbarDownTo, Cond.instanceMethod yX0_unbarDownTo, Cond.selects RX0 yX0_unbarDownTo yX0_unbarDownTo, Cond.initialized RX0, Cond.code yX0_unbarDownTo cX0_unbarDownTo 3 none, Cond.fieldLink RX0 68 "Shortring$Hunt" "barMany" "I", Cond.fieldLink RX0 15 "Shortring$Hunt" "bars" "[I", Cond.static yX6_oneOf, Cond.initialized RX6, Cond.code yX6_oneOf cX6_oneOf 1 (some .int), Cond.static yX6_otherOf, Cond.code yX6_otherOf cX6_otherOf 1 (some .int), Cond.methodLink RX0 90 yX0_flipBar, Cond.instanceMethod yX0_flipBar, Cond.selects RX0 yX0_flipBar yX0_flipBar, Cond.code yX0_flipBar cX0_flipBar 3 none, Cond.fieldLink RX0 9 "Shortring$Hunt" "barredWith" "[I", Cond.static yX6_bit]
def wsX0_begin_r2 : List Cond := [Cond.code yX6_bit cX6_bit 1 (some .int)]
def wsX0_begin : List Cond := .code yX0_begin cX0_begin 3 none :: ((wsX0_begin_r1 ++ wsX0_begin_r2) ++ wsX00)
def wsX0_end : List Cond := .code yX0_end cX0_end 1 none :: ([.fieldLink RX0 24 "Shortring$Hunt" "isOn" "Z"] ++ wsX00)
def wsX3_nearOf : List Cond := .code yX3_nearOf cX3_nearOf 2 (some .int) :: ([.fieldLink RX3 9 "Shortring$Net" "near" "[I"] ++ wsX30)
def wsJ6_bitCount_0f7a4 : List Cond := .code yJ6_bitCount_0f7a4 cJ6_bitCount_0f7a4 1 (some .int) :: ([.constant RJ6 265 (1431655765), .constant RJ6 266 (858993459), .constant RJ6 267 (252645135)])
def wsX3_countOf : List Cond := .code yX3_countOf cX3_countOf 2 (some .int) :: ([.methodLink RX3 19 yX3_nearOf, .instanceMethod yX3_nearOf, .selects RX3 yX3_nearOf yX3_nearOf, .initialized RX3, .code yX3_nearOf cX3_nearOf 2 (some .int), .fieldLink RX3 9 "Shortring$Net" "near" "[I", .methodLink RX3 27 yJ6_bitCount_0f7a4, .static yJ6_bitCount_0f7a4, .initialized RJ6, .code yJ6_bitCount_0f7a4 cJ6_bitCount_0f7a4 1 (some .int), .constant RJ6 265 (1431655765), .constant RJ6 266 (858993459), .constant RJ6 267 (252645135)] ++ wsX30)
def wsX0_needy : List Cond := .code yX0_needy cX0_needy 4 (some .int) :: ([.fieldLink RX0 32 "Shortring$Hunt" "count" "I", .instanceMethod yX3_countOf, .initialized RX3, .selects RX3 yX3_countOf yX3_countOf, .code yX3_countOf cX3_countOf 2 (some .int), .methodLink RX3 19 yX3_nearOf, .instanceMethod yX3_nearOf, .selects RX3 yX3_nearOf yX3_nearOf, .code yX3_nearOf cX3_nearOf 2 (some .int), .fieldLink RX3 9 "Shortring$Net" "near" "[I", .methodLink RX3 27 yJ6_bitCount_0f7a4, .static yJ6_bitCount_0f7a4, .initialized RJ6, .code yJ6_bitCount_0f7a4 cJ6_bitCount_0f7a4 1 (some .int), .constant RJ6 265 (1431655765), .constant RJ6 266 (858993459), .constant RJ6 267 (252645135), .static yX6_bit, .initialized RX6, .code yX6_bit cX6_bit 1 (some .int)] ++ wsX30 ++ wsX00)
def wsX6_holds : List Cond := .code yX6_holds cX6_holds 2 (some .boolean) :: ([])
def wsX5_around : List Cond := .code yX5_around cX5_around 6 (some .int) :: ([.methodLink RX5 9 yJ6_bitCount_0f7a4, .static yJ6_bitCount_0f7a4, .initialized RJ6, .code yJ6_bitCount_0f7a4 cJ6_bitCount_0f7a4 1 (some .int), .constant RJ6 265 (1431655765), .constant RJ6 266 (858993459), .constant RJ6 267 (252645135), .instanceMethod yX3_nearOf, .initialized RX3, .selects RX3 yX3_nearOf yX3_nearOf, .code yX3_nearOf cX3_nearOf 2 (some .int), .fieldLink RX3 9 "Shortring$Net" "near" "[I"] ++ wsX30)
def wsX5_within : List Cond := .code yX5_within cX5_within 6 (some .int) :: ([.static yX6_bit, .initialized RX6, .code yX6_bit cX6_bit 1 (some .int), .methodLink RX5 23 yX5_around, .static yX5_around, .initialized RX5, .code yX5_around cX5_around 6 (some .int), .methodLink RX5 9 yJ6_bitCount_0f7a4, .static yJ6_bitCount_0f7a4, .initialized RJ6, .code yJ6_bitCount_0f7a4 cJ6_bitCount_0f7a4 1 (some .int), .constant RJ6 265 (1431655765), .constant RJ6 266 (858993459), .constant RJ6 267 (252645135), .instanceMethod yX3_nearOf, .initialized RX3, .selects RX3 yX3_nearOf yX3_nearOf, .code yX3_nearOf cX3_nearOf 2 (some .int), .fieldLink RX3 9 "Shortring$Net" "near" "[I"] ++ wsX30)
def wsX0_joinableOf_r1 : List Cond := [Cond.fieldLink RX0 9 "Shortring$Hunt" "barredWith" "[I", Cond.fieldLink RX0 35 "Shortring$Hunt" "length" "I", Cond.static yX6_holds, Cond.initialized RX6, Cond.code yX6_holds cX6_holds 2 (some .boolean), Cond.static yX5_within, Cond.initialized RX5, Cond.code yX5_within cX5_within 6 (some .int), Cond.static yX6_bit, Cond.code yX6_bit cX6_bit 1 (some .int), Cond.methodLink RX5 23 yX5_around, Cond.static yX5_around, Cond.code yX5_around cX5_around 6 (some .int), Cond.methodLink RX5 9 yJ6_bitCount_0f7a4, Cond.static yJ6_bitCount_0f7a4, Cond.initialized RJ6, Cond.code yJ6_bitCount_0f7a4 cJ6_bitCount_0f7a4 1 (some .int), Cond.constant RJ6 265 (1431655765), Cond.constant RJ6 266 (858993459), Cond.constant RJ6 267 (252645135), Cond.instanceMethod yX3_nearOf, Cond.initialized RX3, Cond.selects RX3 yX3_nearOf yX3_nearOf, Cond.code yX3_nearOf cX3_nearOf 2 (some .int)]
def wsX0_joinableOf_r2 : List Cond := [Cond.fieldLink RX3 9 "Shortring$Net" "near" "[I"]
def wsX0_joinableOf : List Cond := .code yX0_joinableOf cX0_joinableOf 4 (some .int) :: ((wsX0_joinableOf_r1 ++ wsX0_joinableOf_r2) ++ wsX00 ++ wsX30)
def wsX0_nextKnot_r1 : List Cond := [Cond.fieldLink RX0 28 "Shortring$Hunt" "state" "I", Cond.methodLink RX0 112 yX0_needy, Cond.instanceMethod yX0_needy, Cond.selects RX0 yX0_needy yX0_needy, Cond.initialized RX0, Cond.code yX0_needy cX0_needy 4 (some .int), Cond.fieldLink RX0 32 "Shortring$Hunt" "count" "I", Cond.instanceMethod yX3_countOf, Cond.initialized RX3, Cond.selects RX3 yX3_countOf yX3_countOf, Cond.code yX3_countOf cX3_countOf 2 (some .int), Cond.methodLink RX3 19 yX3_nearOf, Cond.instanceMethod yX3_nearOf, Cond.selects RX3 yX3_nearOf yX3_nearOf, Cond.code yX3_nearOf cX3_nearOf 2 (some .int), Cond.fieldLink RX3 9 "Shortring$Net" "near" "[I", Cond.methodLink RX3 27 yJ6_bitCount_0f7a4, Cond.static yJ6_bitCount_0f7a4, Cond.initialized RJ6, Cond.code yJ6_bitCount_0f7a4 cJ6_bitCount_0f7a4 1 (some .int), Cond.constant RJ6 265 (1431655765), Cond.constant RJ6 266 (858993459), Cond.constant RJ6 267 (252645135), Cond.static yX6_bit]
def wsX0_nextKnot_r2 : List Cond := [Cond.initialized RX6, Cond.code yX6_bit cX6_bit 1 (some .int), Cond.static yX6_holds, Cond.code yX6_holds cX6_holds 2 (some .boolean), Cond.methodLink RX0 115 yX0_joinableOf, Cond.instanceMethod yX0_joinableOf, Cond.selects RX0 yX0_joinableOf yX0_joinableOf, Cond.code yX0_joinableOf cX0_joinableOf 4 (some .int), Cond.fieldLink RX0 9 "Shortring$Hunt" "barredWith" "[I", Cond.fieldLink RX0 35 "Shortring$Hunt" "length" "I", Cond.static yX5_within, Cond.initialized RX5, Cond.code yX5_within cX5_within 6 (some .int), Cond.methodLink RX5 23 yX5_around, Cond.static yX5_around, Cond.code yX5_around cX5_around 6 (some .int), Cond.methodLink RX5 9 yJ6_bitCount_0f7a4, Cond.methodLink RX0 118 yJ6_bitCount_0f7a4]
def wsX0_nextKnot : List Cond := .code yX0_nextKnot cX0_nextKnot 7 (some .int) :: ((wsX0_nextKnot_r1 ++ wsX0_nextKnot_r2) ++ wsX00 ++ wsX30)
def wsX6_firstOf : List Cond := .code yX6_firstOf cX6_firstOf 1 (some .int) :: ([.methodLink RX6 270 yJ6_bitCount_0f7a4, .static yJ6_bitCount_0f7a4, .initialized RJ6, .code yJ6_bitCount_0f7a4 cJ6_bitCount_0f7a4 1 (some .int), .constant RJ6 265 (1431655765), .constant RJ6 266 (858993459), .constant RJ6 267 (252645135)])
def wsX0_partnerOf_r1 : List Cond := [Cond.fieldLink RX0 32 "Shortring$Hunt" "count" "I", Cond.methodLink RX0 112 yX0_needy, Cond.instanceMethod yX0_needy, Cond.selects RX0 yX0_needy yX0_needy, Cond.initialized RX0, Cond.code yX0_needy cX0_needy 4 (some .int), Cond.instanceMethod yX3_countOf, Cond.initialized RX3, Cond.selects RX3 yX3_countOf yX3_countOf, Cond.code yX3_countOf cX3_countOf 2 (some .int), Cond.methodLink RX3 19 yX3_nearOf, Cond.instanceMethod yX3_nearOf, Cond.selects RX3 yX3_nearOf yX3_nearOf, Cond.code yX3_nearOf cX3_nearOf 2 (some .int), Cond.fieldLink RX3 9 "Shortring$Net" "near" "[I", Cond.methodLink RX3 27 yJ6_bitCount_0f7a4, Cond.static yJ6_bitCount_0f7a4, Cond.initialized RJ6, Cond.code yJ6_bitCount_0f7a4 cJ6_bitCount_0f7a4 1 (some .int), Cond.constant RJ6 265 (1431655765), Cond.constant RJ6 266 (858993459), Cond.constant RJ6 267 (252645135), Cond.static yX6_bit, Cond.initialized RX6]
def wsX0_partnerOf_r2 : List Cond := [Cond.code yX6_bit cX6_bit 1 (some .int), Cond.methodLink RX0 115 yX0_joinableOf, Cond.instanceMethod yX0_joinableOf, Cond.selects RX0 yX0_joinableOf yX0_joinableOf, Cond.code yX0_joinableOf cX0_joinableOf 4 (some .int), Cond.fieldLink RX0 9 "Shortring$Hunt" "barredWith" "[I", Cond.fieldLink RX0 35 "Shortring$Hunt" "length" "I", Cond.static yX6_holds, Cond.code yX6_holds cX6_holds 2 (some .boolean), Cond.static yX5_within, Cond.initialized RX5, Cond.code yX5_within cX5_within 6 (some .int), Cond.methodLink RX5 23 yX5_around, Cond.static yX5_around, Cond.code yX5_around cX5_around 6 (some .int), Cond.methodLink RX5 9 yJ6_bitCount_0f7a4, Cond.methodLink RX0 118 yJ6_bitCount_0f7a4, Cond.static yX6_firstOf, Cond.code yX6_firstOf cX6_firstOf 1 (some .int), Cond.methodLink RX6 270 yJ6_bitCount_0f7a4]
def wsX0_partnerOf : List Cond := .code yX0_partnerOf cX0_partnerOf 5 (some .int) :: ((wsX0_partnerOf_r1 ++ wsX0_partnerOf_r2) ++ wsX00 ++ wsX30)
def wsX3_isKnot : List Cond := .code yX3_isKnot cX3_isKnot 2 (some .boolean) :: ([.fieldLink RX3 15 "Shortring$Net" "knots" "I", .fieldLink RX3 9 "Shortring$Net" "near" "[I"] ++ wsX30)
def wsX3_loosen : List Cond := .code yX3_loosen cX3_loosen 3 none :: ([.fieldLink RX3 9 "Shortring$Net" "near" "[I", .methodLink RX3 32 yX3_isKnot, .instanceMethod yX3_isKnot, .selects RX3 yX3_isKnot yX3_isKnot, .initialized RX3, .code yX3_isKnot cX3_isKnot 2 (some .boolean), .fieldLink RX3 15 "Shortring$Net" "knots" "I", .static yX6_bit, .initialized RX6, .code yX6_bit cX6_bit 1 (some .int)] ++ wsX30)
def wsX0_bar : List Cond := .code yX0_bar cX0_bar 2 none :: ([.fieldLink RX0 68 "Shortring$Hunt" "barMany" "I", .fieldLink RX0 15 "Shortring$Hunt" "bars" "[I", .static yX6_oneOf, .initialized RX6, .code yX6_oneOf cX6_oneOf 1 (some .int), .static yX6_otherOf, .code yX6_otherOf cX6_otherOf 1 (some .int), .methodLink RX0 90 yX0_flipBar, .instanceMethod yX0_flipBar, .selects RX0 yX0_flipBar yX0_flipBar, .initialized RX0, .code yX0_flipBar cX0_flipBar 3 none, .fieldLink RX0 9 "Shortring$Hunt" "barredWith" "[I", .static yX6_bit, .code yX6_bit cX6_bit 1 (some .int)] ++ wsX00)
def wsX0_goBack_r1 : List Cond := [Cond.fieldLink RX0 41 "Shortring$Hunt" "putMany" "I", Cond.fieldLink RX0 18 "Shortring$Hunt" "puts" "[I", Cond.fieldLink RX0 21 "Shortring$Hunt" "barsAtPut" "[I", Cond.fieldLink RX0 28 "Shortring$Hunt" "state" "I", Cond.methodLink RX0 44 yX0_unbarDownTo, Cond.instanceMethod yX0_unbarDownTo, Cond.selects RX0 yX0_unbarDownTo yX0_unbarDownTo, Cond.initialized RX0, Cond.code yX0_unbarDownTo cX0_unbarDownTo 3 none, Cond.fieldLink RX0 68 "Shortring$Hunt" "barMany" "I", Cond.fieldLink RX0 15 "Shortring$Hunt" "bars" "[I", Cond.static yX6_oneOf, Cond.initialized RX6, Cond.code yX6_oneOf cX6_oneOf 1 (some .int), Cond.static yX6_otherOf, Cond.code yX6_otherOf cX6_otherOf 1 (some .int), Cond.methodLink RX0 90 yX0_flipBar, Cond.instanceMethod yX0_flipBar, Cond.selects RX0 yX0_flipBar yX0_flipBar, Cond.code yX0_flipBar cX0_flipBar 3 none, Cond.fieldLink RX0 9 "Shortring$Hunt" "barredWith" "[I", Cond.static yX6_bit, Cond.code yX6_bit cX6_bit 1 (some .int), Cond.instanceMethod yX3_loosen]
def wsX0_goBack_r2 : List Cond := [Cond.initialized RX3, Cond.selects RX3 yX3_loosen yX3_loosen, Cond.code yX3_loosen cX3_loosen 3 none, Cond.fieldLink RX3 9 "Shortring$Net" "near" "[I", Cond.methodLink RX3 32 yX3_isKnot, Cond.instanceMethod yX3_isKnot, Cond.selects RX3 yX3_isKnot yX3_isKnot, Cond.code yX3_isKnot cX3_isKnot 2 (some .boolean), Cond.fieldLink RX3 15 "Shortring$Net" "knots" "I", Cond.methodLink RX0 87 yX0_bar, Cond.instanceMethod yX0_bar, Cond.selects RX0 yX0_bar yX0_bar, Cond.code yX0_bar cX0_bar 2 none]
def wsX0_goBack : List Cond := .code yX0_goBack cX0_goBack 3 none :: ((wsX0_goBack_r1 ++ wsX0_goBack_r2) ++ wsX00 ++ wsX30)
def wsX6_pairOf : List Cond := .code yX6_pairOf cX6_pairOf 2 (some .int) :: ([])
def wsX3_join : List Cond := .code yX3_join cX3_join 3 none :: ([.fieldLink RX3 9 "Shortring$Net" "near" "[I", .methodLink RX3 32 yX3_isKnot, .instanceMethod yX3_isKnot, .selects RX3 yX3_isKnot yX3_isKnot, .initialized RX3, .code yX3_isKnot cX3_isKnot 2 (some .boolean), .fieldLink RX3 15 "Shortring$Net" "knots" "I", .static yX6_bit, .initialized RX6, .code yX6_bit cX6_bit 1 (some .int)] ++ wsX30)
def wsX0_put : List Cond := .code yX0_put cX0_put 4 none :: ([.fieldLink RX0 41 "Shortring$Hunt" "putMany" "I", .fieldLink RX0 18 "Shortring$Hunt" "puts" "[I", .fieldLink RX0 21 "Shortring$Hunt" "barsAtPut" "[I", .fieldLink RX0 68 "Shortring$Hunt" "barMany" "I", .static yX6_pairOf, .initialized RX6, .code yX6_pairOf cX6_pairOf 2 (some .int), .instanceMethod yX3_join, .initialized RX3, .selects RX3 yX3_join yX3_join, .code yX3_join cX3_join 3 none, .fieldLink RX3 9 "Shortring$Net" "near" "[I", .methodLink RX3 32 yX3_isKnot, .instanceMethod yX3_isKnot, .selects RX3 yX3_isKnot yX3_isKnot, .code yX3_isKnot cX3_isKnot 2 (some .boolean), .fieldLink RX3 15 "Shortring$Net" "knots" "I", .static yX6_bit, .code yX6_bit cX6_bit 1 (some .int)] ++ wsX00 ++ wsX30)
def wsX0_step_r1 : List Cond := [Cond.fieldLink RX0 38 "Shortring$Hunt" "steps" "I", Cond.fieldLink RX0 28 "Shortring$Hunt" "state" "I", Cond.methodLink RX0 48 yX0_nextKnot, Cond.instanceMethod yX0_nextKnot, Cond.selects RX0 yX0_nextKnot yX0_nextKnot, Cond.initialized RX0, Cond.code yX0_nextKnot cX0_nextKnot 7 (some .int), Cond.methodLink RX0 112 yX0_needy, Cond.instanceMethod yX0_needy, Cond.selects RX0 yX0_needy yX0_needy, Cond.code yX0_needy cX0_needy 4 (some .int), Cond.fieldLink RX0 32 "Shortring$Hunt" "count" "I", Cond.instanceMethod yX3_countOf, Cond.initialized RX3, Cond.selects RX3 yX3_countOf yX3_countOf, Cond.code yX3_countOf cX3_countOf 2 (some .int), Cond.methodLink RX3 19 yX3_nearOf, Cond.instanceMethod yX3_nearOf, Cond.selects RX3 yX3_nearOf yX3_nearOf, Cond.code yX3_nearOf cX3_nearOf 2 (some .int), Cond.fieldLink RX3 9 "Shortring$Net" "near" "[I", Cond.methodLink RX3 27 yJ6_bitCount_0f7a4, Cond.static yJ6_bitCount_0f7a4, Cond.initialized RJ6]
def wsX0_step_r2 : List Cond := [Cond.code yJ6_bitCount_0f7a4 cJ6_bitCount_0f7a4 1 (some .int), Cond.constant RJ6 265 (1431655765), Cond.constant RJ6 266 (858993459), Cond.constant RJ6 267 (252645135), Cond.static yX6_bit, Cond.initialized RX6, Cond.code yX6_bit cX6_bit 1 (some .int), Cond.static yX6_holds, Cond.code yX6_holds cX6_holds 2 (some .boolean), Cond.methodLink RX0 115 yX0_joinableOf, Cond.instanceMethod yX0_joinableOf, Cond.selects RX0 yX0_joinableOf yX0_joinableOf, Cond.code yX0_joinableOf cX0_joinableOf 4 (some .int), Cond.fieldLink RX0 9 "Shortring$Hunt" "barredWith" "[I", Cond.fieldLink RX0 35 "Shortring$Hunt" "length" "I", Cond.static yX5_within, Cond.initialized RX5, Cond.code yX5_within cX5_within 6 (some .int), Cond.methodLink RX5 23 yX5_around, Cond.static yX5_around, Cond.code yX5_around cX5_around 6 (some .int), Cond.methodLink RX5 9 yJ6_bitCount_0f7a4, Cond.methodLink RX0 118 yJ6_bitCount_0f7a4, Cond.methodLink RX0 52 yX0_partnerOf]
def wsX0_step_r3 : List Cond := [Cond.instanceMethod yX0_partnerOf, Cond.selects RX0 yX0_partnerOf yX0_partnerOf, Cond.code yX0_partnerOf cX0_partnerOf 5 (some .int), Cond.static yX6_firstOf, Cond.code yX6_firstOf cX6_firstOf 1 (some .int), Cond.methodLink RX6 270 yJ6_bitCount_0f7a4, Cond.methodLink RX0 56 yX0_goBack, Cond.instanceMethod yX0_goBack, Cond.selects RX0 yX0_goBack yX0_goBack, Cond.code yX0_goBack cX0_goBack 3 none, Cond.fieldLink RX0 41 "Shortring$Hunt" "putMany" "I", Cond.fieldLink RX0 18 "Shortring$Hunt" "puts" "[I", Cond.fieldLink RX0 21 "Shortring$Hunt" "barsAtPut" "[I", Cond.methodLink RX0 44 yX0_unbarDownTo, Cond.instanceMethod yX0_unbarDownTo, Cond.selects RX0 yX0_unbarDownTo yX0_unbarDownTo, Cond.code yX0_unbarDownTo cX0_unbarDownTo 3 none, Cond.fieldLink RX0 68 "Shortring$Hunt" "barMany" "I", Cond.fieldLink RX0 15 "Shortring$Hunt" "bars" "[I", Cond.static yX6_oneOf, Cond.code yX6_oneOf cX6_oneOf 1 (some .int), Cond.static yX6_otherOf, Cond.code yX6_otherOf cX6_otherOf 1 (some .int), Cond.methodLink RX0 90 yX0_flipBar]
def wsX0_step_r4 : List Cond := [Cond.instanceMethod yX0_flipBar, Cond.selects RX0 yX0_flipBar yX0_flipBar, Cond.code yX0_flipBar cX0_flipBar 3 none, Cond.instanceMethod yX3_loosen, Cond.selects RX3 yX3_loosen yX3_loosen, Cond.code yX3_loosen cX3_loosen 3 none, Cond.methodLink RX3 32 yX3_isKnot, Cond.instanceMethod yX3_isKnot, Cond.selects RX3 yX3_isKnot yX3_isKnot, Cond.code yX3_isKnot cX3_isKnot 2 (some .boolean), Cond.fieldLink RX3 15 "Shortring$Net" "knots" "I", Cond.methodLink RX0 87 yX0_bar, Cond.instanceMethod yX0_bar, Cond.selects RX0 yX0_bar yX0_bar, Cond.code yX0_bar cX0_bar 2 none, Cond.methodLink RX0 60 yX0_put, Cond.instanceMethod yX0_put, Cond.selects RX0 yX0_put yX0_put, Cond.code yX0_put cX0_put 4 none, Cond.static yX6_pairOf, Cond.code yX6_pairOf cX6_pairOf 2 (some .int), Cond.instanceMethod yX3_join, Cond.selects RX3 yX3_join yX3_join, Cond.code yX3_join cX3_join 3 none]
def wsX0_step : List Cond := .code yX0_step cX0_step 4 none :: ((wsX0_step_r1 ++ (wsX0_step_r2 ++ (wsX0_step_r3 ++ wsX0_step_r4))) ++ wsX00 ++ wsX30)
def wsX0_joinable_r1 : List Cond := [Cond.fieldLink RX0 24 "Shortring$Hunt" "isOn" "Z", Cond.methodLink RX0 112 yX0_needy, Cond.instanceMethod yX0_needy, Cond.selects RX0 yX0_needy yX0_needy, Cond.initialized RX0, Cond.code yX0_needy cX0_needy 4 (some .int), Cond.fieldLink RX0 32 "Shortring$Hunt" "count" "I", Cond.instanceMethod yX3_countOf, Cond.initialized RX3, Cond.selects RX3 yX3_countOf yX3_countOf, Cond.code yX3_countOf cX3_countOf 2 (some .int), Cond.methodLink RX3 19 yX3_nearOf, Cond.instanceMethod yX3_nearOf, Cond.selects RX3 yX3_nearOf yX3_nearOf, Cond.code yX3_nearOf cX3_nearOf 2 (some .int), Cond.fieldLink RX3 9 "Shortring$Net" "near" "[I", Cond.methodLink RX3 27 yJ6_bitCount_0f7a4, Cond.static yJ6_bitCount_0f7a4, Cond.initialized RJ6, Cond.code yJ6_bitCount_0f7a4 cJ6_bitCount_0f7a4 1 (some .int), Cond.constant RJ6 265 (1431655765), Cond.constant RJ6 266 (858993459), Cond.constant RJ6 267 (252645135), Cond.static yX6_bit]
def wsX0_joinable_r2 : List Cond := [Cond.initialized RX6, Cond.code yX6_bit cX6_bit 1 (some .int), Cond.methodLink RX0 115 yX0_joinableOf, Cond.instanceMethod yX0_joinableOf, Cond.selects RX0 yX0_joinableOf yX0_joinableOf, Cond.code yX0_joinableOf cX0_joinableOf 4 (some .int), Cond.fieldLink RX0 9 "Shortring$Hunt" "barredWith" "[I", Cond.fieldLink RX0 35 "Shortring$Hunt" "length" "I", Cond.static yX6_holds, Cond.code yX6_holds cX6_holds 2 (some .boolean), Cond.static yX5_within, Cond.initialized RX5, Cond.code yX5_within cX5_within 6 (some .int), Cond.methodLink RX5 23 yX5_around, Cond.static yX5_around, Cond.code yX5_around cX5_around 6 (some .int), Cond.methodLink RX5 9 yJ6_bitCount_0f7a4]
def wsX0_joinable : List Cond := .code yX0_joinable cX0_joinable 3 (some .int) :: ((wsX0_joinable_r1 ++ wsX0_joinable_r2) ++ wsX00 ++ wsX30)
def wsX1_init : List Cond := .code yX1_init cX1_init 1 none :: ([.methodLink RX1 3 objectInit, .instanceMethod objectInit, .code objectInit ⟨#[0xb1]⟩ 1 none, .arrayClass .int, .fieldLink RX1 9 "Shortring$Ledger" "leastProved" "[I", .fieldLink RX1 15 "Shortring$Ledger" "smallest" "[I"] ++ wsX10)
def wsX1_leastKnots : List Cond := .code yX1_leastKnots cX1_leastKnots 6 (some .int) :: ([])
def wsX6_isWithin : List Cond := .code yX6_isWithin cX6_isWithin 3 (some .boolean) :: ([])
def wsX1_proofPlace : List Cond := .code yX1_proofPlace cX1_proofPlace 5 (some .int) :: ([.fieldLink RX1 9 "Shortring$Ledger" "leastProved" "[I", .static yX6_isWithin, .initialized RX6, .code yX6_isWithin cX6_isWithin 3 (some .boolean)] ++ wsX10)
def wsX1_isProved : List Cond := .code yX1_isProved cX1_isProved 6 (some .boolean) :: ([.fieldLink RX1 9 "Shortring$Ledger" "leastProved" "[I", .methodLink RX1 29 yX1_proofPlace, .instanceMethod yX1_proofPlace, .selects RX1 yX1_proofPlace yX1_proofPlace, .initialized RX1, .code yX1_proofPlace cX1_proofPlace 5 (some .int), .static yX6_isWithin, .initialized RX6, .code yX6_isWithin cX6_isWithin 3 (some .boolean)] ++ wsX10)
def wsX1_why : List Cond := .code yX1_why cX1_why 4 (some .int) :: ([.methodLink RX1 18 yX1_leastKnots, .static yX1_leastKnots, .initialized RX1, .code yX1_leastKnots cX1_leastKnots 6 (some .int), .methodLink RX1 22 yX1_isProved, .instanceMethod yX1_isProved, .selects RX1 yX1_isProved yX1_isProved, .code yX1_isProved cX1_isProved 6 (some .boolean), .fieldLink RX1 9 "Shortring$Ledger" "leastProved" "[I", .methodLink RX1 29 yX1_proofPlace, .instanceMethod yX1_proofPlace, .selects RX1 yX1_proofPlace yX1_proofPlace, .code yX1_proofPlace cX1_proofPlace 5 (some .int), .static yX6_isWithin, .initialized RX6, .code yX6_isWithin cX6_isWithin 3 (some .boolean)] ++ wsX10)
def wsX1_prove : List Cond := .code yX1_prove cX1_prove 5 none :: ([.fieldLink RX1 9 "Shortring$Ledger" "leastProved" "[I", .methodLink RX1 29 yX1_proofPlace, .instanceMethod yX1_proofPlace, .selects RX1 yX1_proofPlace yX1_proofPlace, .initialized RX1, .code yX1_proofPlace cX1_proofPlace 5 (some .int), .static yX6_isWithin, .initialized RX6, .code yX6_isWithin cX6_isWithin 3 (some .boolean), .methodLink RX1 22 yX1_isProved, .instanceMethod yX1_isProved, .selects RX1 yX1_isProved yX1_isProved, .code yX1_isProved cX1_isProved 6 (some .boolean)] ++ wsX10)
def wsX1_tablePlace : List Cond := .code yX1_tablePlace cX1_tablePlace 5 (some .int) :: ([.fieldLink RX1 15 "Shortring$Ledger" "smallest" "[I", .static yX6_isWithin, .initialized RX6, .code yX6_isWithin cX6_isWithin 3 (some .boolean)] ++ wsX10)
def wsX3_evenCount : List Cond := .code yX3_evenCount cX3_evenCount 3 (some .int) :: ([.fieldLink RX3 15 "Shortring$Net" "knots" "I", .methodLink RX3 39 yX3_countOf, .instanceMethod yX3_countOf, .selects RX3 yX3_countOf yX3_countOf, .initialized RX3, .code yX3_countOf cX3_countOf 2 (some .int), .methodLink RX3 19 yX3_nearOf, .instanceMethod yX3_nearOf, .selects RX3 yX3_nearOf yX3_nearOf, .code yX3_nearOf cX3_nearOf 2 (some .int), .fieldLink RX3 9 "Shortring$Net" "near" "[I", .methodLink RX3 27 yJ6_bitCount_0f7a4, .static yJ6_bitCount_0f7a4, .initialized RJ6, .code yJ6_bitCount_0f7a4 cJ6_bitCount_0f7a4 1 (some .int), .constant RJ6 265 (1431655765), .constant RJ6 266 (858993459), .constant RJ6 267 (252645135)] ++ wsX30)
def wsX3_isNear : List Cond := .code yX3_isNear cX3_isNear 3 (some .boolean) :: ([.methodLink RX3 19 yX3_nearOf, .instanceMethod yX3_nearOf, .selects RX3 yX3_nearOf yX3_nearOf, .initialized RX3, .code yX3_nearOf cX3_nearOf 2 (some .int), .fieldLink RX3 9 "Shortring$Net" "near" "[I", .static yX6_holds, .initialized RX6, .code yX6_holds cX6_holds 2 (some .boolean)] ++ wsX30)
def wsX5_leastRingBy : List Cond := .code yX5_leastRingBy cX5_leastRingBy 6 (some .int) :: ([.static yX6_bit, .initialized RX6, .code yX6_bit cX6_bit 1 (some .int), .instanceMethod yX3_nearOf, .initialized RX3, .selects RX3 yX3_nearOf yX3_nearOf, .code yX3_nearOf cX3_nearOf 2 (some .int), .fieldLink RX3 9 "Shortring$Net" "near" "[I", .methodLink RX5 23 yX5_around, .static yX5_around, .initialized RX5, .code yX5_around cX5_around 6 (some .int), .methodLink RX5 9 yJ6_bitCount_0f7a4, .static yJ6_bitCount_0f7a4, .initialized RJ6, .code yJ6_bitCount_0f7a4 cJ6_bitCount_0f7a4 1 (some .int), .constant RJ6 265 (1431655765), .constant RJ6 266 (858993459), .constant RJ6 267 (252645135), .static yX6_holds, .code yX6_holds cX6_holds 2 (some .boolean)] ++ wsX30)
def wsX6_lesser : List Cond := .code yX6_lesser cX6_lesser 2 (some .int) :: ([.methodLink RX6 324 Lib.Math.min.name, .static Lib.Math.min.name, .initialized "java/lang/Math", .code Lib.Math.min.name Lib.Math.min.code 2 (some .int)])
def wsX5_leastRingAt_r1 : List Cond := [Cond.instanceMethod yX3_isNear, Cond.initialized RX3, Cond.selects RX3 yX3_isNear yX3_isNear, Cond.code yX3_isNear cX3_isNear 3 (some .boolean), Cond.methodLink RX3 19 yX3_nearOf, Cond.instanceMethod yX3_nearOf, Cond.selects RX3 yX3_nearOf yX3_nearOf, Cond.code yX3_nearOf cX3_nearOf 2 (some .int), Cond.fieldLink RX3 9 "Shortring$Net" "near" "[I", Cond.static yX6_holds, Cond.initialized RX6, Cond.code yX6_holds cX6_holds 2 (some .boolean), Cond.methodLink RX5 60 yX5_leastRingBy, Cond.static yX5_leastRingBy, Cond.initialized RX5, Cond.code yX5_leastRingBy cX5_leastRingBy 6 (some .int), Cond.static yX6_bit, Cond.code yX6_bit cX6_bit 1 (some .int), Cond.methodLink RX5 23 yX5_around, Cond.static yX5_around, Cond.code yX5_around cX5_around 6 (some .int), Cond.methodLink RX5 9 yJ6_bitCount_0f7a4, Cond.static yJ6_bitCount_0f7a4, Cond.initialized RJ6]
def wsX5_leastRingAt_r2 : List Cond := [Cond.code yJ6_bitCount_0f7a4 cJ6_bitCount_0f7a4 1 (some .int), Cond.constant RJ6 265 (1431655765), Cond.constant RJ6 266 (858993459), Cond.constant RJ6 267 (252645135), Cond.static yX6_lesser, Cond.code yX6_lesser cX6_lesser 2 (some .int), Cond.methodLink RX6 324 Lib.Math.min.name, Cond.static Lib.Math.min.name, Cond.initialized "java/lang/Math", Cond.code Lib.Math.min.name Lib.Math.min.code 2 (some .int)]
def wsX5_leastRingAt : List Cond := .code yX5_leastRingAt cX5_leastRingAt 4 (some .int) :: ((wsX5_leastRingAt_r1 ++ wsX5_leastRingAt_r2) ++ wsX30)
def wsX5_leastRing_r1 : List Cond := [Cond.methodLink RX5 66 yX5_leastRingAt, Cond.static yX5_leastRingAt, Cond.initialized RX5, Cond.code yX5_leastRingAt cX5_leastRingAt 4 (some .int), Cond.instanceMethod yX3_isNear, Cond.initialized RX3, Cond.selects RX3 yX3_isNear yX3_isNear, Cond.code yX3_isNear cX3_isNear 3 (some .boolean), Cond.methodLink RX3 19 yX3_nearOf, Cond.instanceMethod yX3_nearOf, Cond.selects RX3 yX3_nearOf yX3_nearOf, Cond.code yX3_nearOf cX3_nearOf 2 (some .int), Cond.fieldLink RX3 9 "Shortring$Net" "near" "[I", Cond.static yX6_holds, Cond.initialized RX6, Cond.code yX6_holds cX6_holds 2 (some .boolean), Cond.methodLink RX5 60 yX5_leastRingBy, Cond.static yX5_leastRingBy, Cond.code yX5_leastRingBy cX5_leastRingBy 6 (some .int), Cond.static yX6_bit, Cond.code yX6_bit cX6_bit 1 (some .int), Cond.methodLink RX5 23 yX5_around, Cond.static yX5_around, Cond.code yX5_around cX5_around 6 (some .int)]
def wsX5_leastRing_r2 : List Cond := [Cond.methodLink RX5 9 yJ6_bitCount_0f7a4, Cond.static yJ6_bitCount_0f7a4, Cond.initialized RJ6, Cond.code yJ6_bitCount_0f7a4 cJ6_bitCount_0f7a4 1 (some .int), Cond.constant RJ6 265 (1431655765), Cond.constant RJ6 266 (858993459), Cond.constant RJ6 267 (252645135), Cond.static yX6_lesser, Cond.code yX6_lesser cX6_lesser 2 (some .int), Cond.methodLink RX6 324 Lib.Math.min.name, Cond.static Lib.Math.min.name, Cond.initialized "java/lang/Math", Cond.code Lib.Math.min.name Lib.Math.min.code 2 (some .int)]
def wsX5_leastRing : List Cond := .code yX5_leastRing cX5_leastRing 3 (some .int) :: ((wsX5_leastRing_r1 ++ wsX5_leastRing_r2) ++ wsX30)
def wsX1_look_r1 : List Cond := [Cond.fieldLink RX1 15 "Shortring$Ledger" "smallest" "[I", Cond.instanceMethod yX3_evenCount, Cond.initialized RX3, Cond.selects RX3 yX3_evenCount yX3_evenCount, Cond.code yX3_evenCount cX3_evenCount 3 (some .int), Cond.fieldLink RX3 15 "Shortring$Net" "knots" "I", Cond.methodLink RX3 39 yX3_countOf, Cond.instanceMethod yX3_countOf, Cond.selects RX3 yX3_countOf yX3_countOf, Cond.code yX3_countOf cX3_countOf 2 (some .int), Cond.methodLink RX3 19 yX3_nearOf, Cond.instanceMethod yX3_nearOf, Cond.selects RX3 yX3_nearOf yX3_nearOf, Cond.code yX3_nearOf cX3_nearOf 2 (some .int), Cond.fieldLink RX3 9 "Shortring$Net" "near" "[I", Cond.methodLink RX3 27 yJ6_bitCount_0f7a4, Cond.static yJ6_bitCount_0f7a4, Cond.initialized RJ6, Cond.code yJ6_bitCount_0f7a4 cJ6_bitCount_0f7a4 1 (some .int), Cond.constant RJ6 265 (1431655765), Cond.constant RJ6 266 (858993459), Cond.constant RJ6 267 (252645135), Cond.static yX6_isWithin, Cond.initialized RX6]
def wsX1_look_r2 : List Cond := [Cond.code yX6_isWithin cX6_isWithin 3 (some .boolean), Cond.static yX5_leastRing, Cond.initialized RX5, Cond.code yX5_leastRing cX5_leastRing 3 (some .int), Cond.methodLink RX5 66 yX5_leastRingAt, Cond.static yX5_leastRingAt, Cond.code yX5_leastRingAt cX5_leastRingAt 4 (some .int), Cond.instanceMethod yX3_isNear, Cond.selects RX3 yX3_isNear yX3_isNear, Cond.code yX3_isNear cX3_isNear 3 (some .boolean), Cond.static yX6_holds, Cond.code yX6_holds cX6_holds 2 (some .boolean), Cond.methodLink RX5 60 yX5_leastRingBy, Cond.static yX5_leastRingBy, Cond.code yX5_leastRingBy cX5_leastRingBy 6 (some .int), Cond.static yX6_bit, Cond.code yX6_bit cX6_bit 1 (some .int), Cond.methodLink RX5 23 yX5_around, Cond.static yX5_around, Cond.code yX5_around cX5_around 6 (some .int), Cond.methodLink RX5 9 yJ6_bitCount_0f7a4, Cond.static yX6_lesser, Cond.code yX6_lesser cX6_lesser 2 (some .int), Cond.methodLink RX6 324 Lib.Math.min.name]
def wsX1_look_r3 : List Cond := [Cond.static Lib.Math.min.name, Cond.initialized "java/lang/Math", Cond.code Lib.Math.min.name Lib.Math.min.code 2 (some .int), Cond.methodLink RX1 44 yX1_tablePlace, Cond.instanceMethod yX1_tablePlace, Cond.selects RX1 yX1_tablePlace yX1_tablePlace, Cond.initialized RX1, Cond.code yX1_tablePlace cX1_tablePlace 5 (some .int)]
def wsX1_look : List Cond := .code yX1_look cX1_look 4 none :: ((wsX1_look_r1 ++ (wsX1_look_r2 ++ wsX1_look_r3)) ++ wsX10 ++ wsX30)
def wsX1_smallestOf : List Cond := .code yX1_smallestOf cX1_smallestOf 4 (some .int) :: ([.fieldLink RX1 15 "Shortring$Ledger" "smallest" "[I", .methodLink RX1 44 yX1_tablePlace, .instanceMethod yX1_tablePlace, .selects RX1 yX1_tablePlace yX1_tablePlace, .initialized RX1, .code yX1_tablePlace cX1_tablePlace 5 (some .int), .static yX6_isWithin, .initialized RX6, .code yX6_isWithin cX6_isWithin 3 (some .boolean)] ++ wsX10)
def wsX1_nextOf : List Cond := .code yX1_nextOf cX1_nextOf 4 (some .int) :: ([.methodLink RX1 51 yX1_why, .instanceMethod yX1_why, .selects RX1 yX1_why yX1_why, .initialized RX1, .code yX1_why cX1_why 4 (some .int), .methodLink RX1 18 yX1_leastKnots, .static yX1_leastKnots, .code yX1_leastKnots cX1_leastKnots 6 (some .int), .methodLink RX1 22 yX1_isProved, .instanceMethod yX1_isProved, .selects RX1 yX1_isProved yX1_isProved, .code yX1_isProved cX1_isProved 6 (some .boolean), .fieldLink RX1 9 "Shortring$Ledger" "leastProved" "[I", .methodLink RX1 29 yX1_proofPlace, .instanceMethod yX1_proofPlace, .selects RX1 yX1_proofPlace yX1_proofPlace, .code yX1_proofPlace cX1_proofPlace 5 (some .int), .static yX6_isWithin, .initialized RX6, .code yX6_isWithin cX6_isWithin 3 (some .boolean)] ++ wsX10)
def wsX1_isTableSound_r1 : List Cond := [Cond.methodLink RX1 55 yX1_smallestOf, Cond.instanceMethod yX1_smallestOf, Cond.selects RX1 yX1_smallestOf yX1_smallestOf, Cond.initialized RX1, Cond.code yX1_smallestOf cX1_smallestOf 4 (some .int), Cond.fieldLink RX1 15 "Shortring$Ledger" "smallest" "[I", Cond.methodLink RX1 44 yX1_tablePlace, Cond.instanceMethod yX1_tablePlace, Cond.selects RX1 yX1_tablePlace yX1_tablePlace, Cond.code yX1_tablePlace cX1_tablePlace 5 (some .int), Cond.static yX6_isWithin, Cond.initialized RX6, Cond.code yX6_isWithin cX6_isWithin 3 (some .boolean), Cond.methodLink RX1 51 yX1_why, Cond.instanceMethod yX1_why, Cond.selects RX1 yX1_why yX1_why, Cond.code yX1_why cX1_why 4 (some .int), Cond.methodLink RX1 18 yX1_leastKnots, Cond.static yX1_leastKnots, Cond.code yX1_leastKnots cX1_leastKnots 6 (some .int), Cond.methodLink RX1 22 yX1_isProved, Cond.instanceMethod yX1_isProved, Cond.selects RX1 yX1_isProved yX1_isProved, Cond.code yX1_isProved cX1_isProved 6 (some .boolean)]
def wsX1_isTableSound_r2 : List Cond := [Cond.fieldLink RX1 9 "Shortring$Ledger" "leastProved" "[I", Cond.methodLink RX1 29 yX1_proofPlace, Cond.instanceMethod yX1_proofPlace, Cond.selects RX1 yX1_proofPlace yX1_proofPlace, Cond.code yX1_proofPlace cX1_proofPlace 5 (some .int), Cond.methodLink RX1 58 yX1_nextOf, Cond.instanceMethod yX1_nextOf, Cond.selects RX1 yX1_nextOf yX1_nextOf, Cond.code yX1_nextOf cX1_nextOf 4 (some .int)]
def wsX1_isTableSound : List Cond := .code yX1_isTableSound cX1_isTableSound 5 (some .boolean) :: ((wsX1_isTableSound_r1 ++ wsX1_isTableSound_r2) ++ wsX10)
def wsX3_init : List Cond := .code yX3_init cX3_init 1 none :: ([.methodLink RX3 3 objectInit, .instanceMethod objectInit, .code objectInit ⟨#[0xb1]⟩ 1 none, .arrayClass .int, .fieldLink RX3 9 "Shortring$Net" "near" "[I", .fieldLink RX3 15 "Shortring$Net" "knots" "I"] ++ wsX30)
def wsX2_init : List Cond := .code yX2_init cX2_init 1 none :: ([.methodLink RX2 3 objectInit, .instanceMethod objectInit, .code objectInit ⟨#[0xb1]⟩ 1 none, .classLink RX2 9 RX3, .instantiable RX3 2, .initialized RX3, .fieldLink RX2 12 "Shortring$Likeness" "from" "LShortring$Net;", .fieldLink RX2 18 "Shortring$Likeness" "to" "LShortring$Net;", .arrayClass .int, .fieldLink RX2 21 "Shortring$Likeness" "image" "[I", .fieldLink RX2 25 "Shortring$Likeness" "placed" "I", .instanceMethod yX3_init, .code yX3_init cX3_init 1 none, .methodLink RX3 3 objectInit, .fieldLink RX3 9 "Shortring$Net" "near" "[I", .fieldLink RX3 15 "Shortring$Net" "knots" "I"] ++ wsX30 ++ wsX20)
def wsX3_take : List Cond := .code yX3_take cX3_take 3 none :: ([.fieldLink RX3 15 "Shortring$Net" "knots" "I", .fieldLink RX3 9 "Shortring$Net" "near" "[I", .methodLink RX3 19 yX3_nearOf, .instanceMethod yX3_nearOf, .selects RX3 yX3_nearOf yX3_nearOf, .initialized RX3, .code yX3_nearOf cX3_nearOf 2 (some .int)] ++ wsX30)
def wsX5_partWith : List Cond := .code yX5_partWith cX5_partWith 2 (some .int) :: ([.methodLink RX5 29 yX5_within, .static yX5_within, .initialized RX5, .code yX5_within cX5_within 6 (some .int), .static yX6_bit, .initialized RX6, .code yX6_bit cX6_bit 1 (some .int), .methodLink RX5 23 yX5_around, .static yX5_around, .code yX5_around cX5_around 6 (some .int), .methodLink RX5 9 yJ6_bitCount_0f7a4, .static yJ6_bitCount_0f7a4, .initialized RJ6, .code yJ6_bitCount_0f7a4 cJ6_bitCount_0f7a4 1 (some .int), .constant RJ6 265 (1431655765), .constant RJ6 266 (858993459), .constant RJ6 267 (252645135), .instanceMethod yX3_nearOf, .initialized RX3, .selects RX3 yX3_nearOf yX3_nearOf, .code yX3_nearOf cX3_nearOf 2 (some .int), .fieldLink RX3 9 "Shortring$Net" "near" "[I"] ++ wsX30)
def wsX2_nextToPlace : List Cond := .code yX2_nextToPlace cX2_nextToPlace 6 (some .int) :: ([.fieldLink RX2 12 "Shortring$Likeness" "from" "LShortring$Net;", .fieldLink RX2 25 "Shortring$Likeness" "placed" "I", .instanceMethod yX3_nearOf, .initialized RX3, .selects RX3 yX3_nearOf yX3_nearOf, .code yX3_nearOf cX3_nearOf 2 (some .int), .fieldLink RX3 9 "Shortring$Net" "near" "[I", .methodLink RX2 70 yJ6_bitCount_0f7a4, .static yJ6_bitCount_0f7a4, .initialized RJ6, .code yJ6_bitCount_0f7a4 cJ6_bitCount_0f7a4 1 (some .int), .constant RJ6 265 (1431655765), .constant RJ6 266 (858993459), .constant RJ6 267 (252645135), .static yX6_holds, .initialized RX6, .code yX6_holds cX6_holds 2 (some .boolean)] ++ wsX20 ++ wsX30)
def wsX2_fitting : List Cond := .code yX2_fitting cX2_fitting 8 (some .int) :: ([.fieldLink RX2 12 "Shortring$Likeness" "from" "LShortring$Net;", .fieldLink RX2 18 "Shortring$Likeness" "to" "LShortring$Net;", .fieldLink RX2 21 "Shortring$Likeness" "image" "[I", .fieldLink RX2 25 "Shortring$Likeness" "placed" "I", .instanceMethod yX3_nearOf, .initialized RX3, .selects RX3 yX3_nearOf yX3_nearOf, .code yX3_nearOf cX3_nearOf 2 (some .int), .fieldLink RX3 9 "Shortring$Net" "near" "[I", .methodLink RX2 70 yJ6_bitCount_0f7a4, .static yJ6_bitCount_0f7a4, .initialized RJ6, .code yJ6_bitCount_0f7a4 cJ6_bitCount_0f7a4 1 (some .int), .constant RJ6 265 (1431655765), .constant RJ6 266 (858993459), .constant RJ6 267 (252645135), .static yX6_holds, .initialized RX6, .code yX6_holds cX6_holds 2 (some .boolean), .static yX6_bit, .code yX6_bit cX6_bit 1 (some .int)] ++ wsX20 ++ wsX30)
def wsX2_place : List Cond := .code yX2_place cX2_place 3 none :: ([.fieldLink RX2 21 "Shortring$Likeness" "image" "[I", .fieldLink RX2 25 "Shortring$Likeness" "placed" "I", .static yX6_bit, .initialized RX6, .code yX6_bit cX6_bit 1 (some .int)] ++ wsX20)
def wsX2_ways_r1 : List Cond := [Cond.fieldLink RX2 18 "Shortring$Likeness" "to" "LShortring$Net;", Cond.fieldLink RX2 25 "Shortring$Likeness" "placed" "I", Cond.methodLink RX2 79 yX2_nextToPlace, Cond.instanceMethod yX2_nextToPlace, Cond.selects RX2 yX2_nextToPlace yX2_nextToPlace, Cond.initialized RX2, Cond.code yX2_nextToPlace cX2_nextToPlace 6 (some .int), Cond.fieldLink RX2 12 "Shortring$Likeness" "from" "LShortring$Net;", Cond.instanceMethod yX3_nearOf, Cond.initialized RX3, Cond.selects RX3 yX3_nearOf yX3_nearOf, Cond.code yX3_nearOf cX3_nearOf 2 (some .int), Cond.fieldLink RX3 9 "Shortring$Net" "near" "[I", Cond.methodLink RX2 70 yJ6_bitCount_0f7a4, Cond.static yJ6_bitCount_0f7a4, Cond.initialized RJ6, Cond.code yJ6_bitCount_0f7a4 cJ6_bitCount_0f7a4 1 (some .int), Cond.constant RJ6 265 (1431655765), Cond.constant RJ6 266 (858993459), Cond.constant RJ6 267 (252645135), Cond.static yX6_holds, Cond.initialized RX6, Cond.code yX6_holds cX6_holds 2 (some .boolean), Cond.methodLink RX2 82 yX2_fitting]
def wsX2_ways_r2 : List Cond := [Cond.instanceMethod yX2_fitting, Cond.selects RX2 yX2_fitting yX2_fitting, Cond.code yX2_fitting cX2_fitting 8 (some .int), Cond.fieldLink RX2 21 "Shortring$Likeness" "image" "[I", Cond.static yX6_bit, Cond.code yX6_bit cX6_bit 1 (some .int), Cond.methodLink RX2 85 yX2_place, Cond.instanceMethod yX2_place, Cond.selects RX2 yX2_place yX2_place, Cond.code yX2_place cX2_place 3 none, Cond.methodLink RX2 75 yX2_ways, Cond.static yX2_ways]
def wsX2_ways : List Cond := .code yX2_ways cX2_ways 9 (some .int) :: ((wsX2_ways_r1 ++ wsX2_ways_r2) ++ wsX20 ++ wsX30)
def wsX2_waysOf_r1 : List Cond := [Cond.fieldLink RX2 25 "Shortring$Likeness" "placed" "I", Cond.methodLink RX2 70 yJ6_bitCount_0f7a4, Cond.static yJ6_bitCount_0f7a4, Cond.initialized RJ6, Cond.code yJ6_bitCount_0f7a4 cJ6_bitCount_0f7a4 1 (some .int), Cond.constant RJ6 265 (1431655765), Cond.constant RJ6 266 (858993459), Cond.constant RJ6 267 (252645135), Cond.methodLink RX2 75 yX2_ways, Cond.static yX2_ways, Cond.initialized RX2, Cond.code yX2_ways cX2_ways 9 (some .int), Cond.fieldLink RX2 18 "Shortring$Likeness" "to" "LShortring$Net;", Cond.methodLink RX2 79 yX2_nextToPlace, Cond.instanceMethod yX2_nextToPlace, Cond.selects RX2 yX2_nextToPlace yX2_nextToPlace, Cond.code yX2_nextToPlace cX2_nextToPlace 6 (some .int), Cond.fieldLink RX2 12 "Shortring$Likeness" "from" "LShortring$Net;", Cond.instanceMethod yX3_nearOf, Cond.initialized RX3, Cond.selects RX3 yX3_nearOf yX3_nearOf, Cond.code yX3_nearOf cX3_nearOf 2 (some .int), Cond.fieldLink RX3 9 "Shortring$Net" "near" "[I", Cond.static yX6_holds]
def wsX2_waysOf_r2 : List Cond := [Cond.initialized RX6, Cond.code yX6_holds cX6_holds 2 (some .boolean), Cond.methodLink RX2 82 yX2_fitting, Cond.instanceMethod yX2_fitting, Cond.selects RX2 yX2_fitting yX2_fitting, Cond.code yX2_fitting cX2_fitting 8 (some .int), Cond.fieldLink RX2 21 "Shortring$Likeness" "image" "[I", Cond.static yX6_bit, Cond.code yX6_bit cX6_bit 1 (some .int), Cond.methodLink RX2 85 yX2_place, Cond.instanceMethod yX2_place, Cond.selects RX2 yX2_place yX2_place, Cond.code yX2_place cX2_place 3 none]
def wsX2_waysOf : List Cond := .code yX2_waysOf cX2_waysOf 4 (some .int) :: ((wsX2_waysOf_r1 ++ wsX2_waysOf_r2) ++ wsX20 ++ wsX30)
def wsX2_partsLike_r1 : List Cond := [Cond.fieldLink RX2 18 "Shortring$Likeness" "to" "LShortring$Net;", Cond.static yX6_holds, Cond.initialized RX6, Cond.code yX6_holds cX6_holds 2 (some .boolean), Cond.static yX5_partWith, Cond.initialized RX5, Cond.code yX5_partWith cX5_partWith 2 (some .int), Cond.methodLink RX5 29 yX5_within, Cond.static yX5_within, Cond.code yX5_within cX5_within 6 (some .int), Cond.static yX6_bit, Cond.code yX6_bit cX6_bit 1 (some .int), Cond.methodLink RX5 23 yX5_around, Cond.static yX5_around, Cond.code yX5_around cX5_around 6 (some .int), Cond.methodLink RX5 9 yJ6_bitCount_0f7a4, Cond.static yJ6_bitCount_0f7a4, Cond.initialized RJ6, Cond.code yJ6_bitCount_0f7a4 cJ6_bitCount_0f7a4 1 (some .int), Cond.constant RJ6 265 (1431655765), Cond.constant RJ6 266 (858993459), Cond.constant RJ6 267 (252645135), Cond.instanceMethod yX3_nearOf, Cond.initialized RX3]
def wsX2_partsLike_r2 : List Cond := [Cond.selects RX3 yX3_nearOf yX3_nearOf, Cond.code yX3_nearOf cX3_nearOf 2 (some .int), Cond.fieldLink RX3 9 "Shortring$Net" "near" "[I", Cond.methodLink RX2 55 yX2_waysOf, Cond.instanceMethod yX2_waysOf, Cond.selects RX2 yX2_waysOf yX2_waysOf, Cond.initialized RX2, Cond.code yX2_waysOf cX2_waysOf 4 (some .int), Cond.fieldLink RX2 25 "Shortring$Likeness" "placed" "I", Cond.methodLink RX2 70 yJ6_bitCount_0f7a4, Cond.methodLink RX2 75 yX2_ways, Cond.static yX2_ways, Cond.code yX2_ways cX2_ways 9 (some .int), Cond.methodLink RX2 79 yX2_nextToPlace, Cond.instanceMethod yX2_nextToPlace, Cond.selects RX2 yX2_nextToPlace yX2_nextToPlace, Cond.code yX2_nextToPlace cX2_nextToPlace 6 (some .int), Cond.fieldLink RX2 12 "Shortring$Likeness" "from" "LShortring$Net;", Cond.methodLink RX2 82 yX2_fitting, Cond.instanceMethod yX2_fitting, Cond.selects RX2 yX2_fitting yX2_fitting, Cond.code yX2_fitting cX2_fitting 8 (some .int), Cond.fieldLink RX2 21 "Shortring$Likeness" "image" "[I", Cond.methodLink RX2 85 yX2_place]
def wsX2_partsLike_r3 : List Cond := [Cond.instanceMethod yX2_place, Cond.selects RX2 yX2_place yX2_place, Cond.code yX2_place cX2_place 3 none]
def wsX2_partsLike : List Cond := .code yX2_partsLike cX2_partsLike 7 (some .int) :: ((wsX2_partsLike_r1 ++ (wsX2_partsLike_r2 ++ wsX2_partsLike_r3)) ++ wsX20 ++ wsX30)
def wsX2_turnsOf_r1 : List Cond := [Cond.fieldLink RX2 12 "Shortring$Likeness" "from" "LShortring$Net;", Cond.fieldLink RX2 18 "Shortring$Likeness" "to" "LShortring$Net;", Cond.methodLink RX2 50 Lib.Math.min.name, Cond.static Lib.Math.min.name, Cond.initialized "java/lang/Math", Cond.code Lib.Math.min.name Lib.Math.min.code 2 (some .int), Cond.instanceMethod yX3_take, Cond.initialized RX3, Cond.selects RX3 yX3_take yX3_take, Cond.code yX3_take cX3_take 3 none, Cond.fieldLink RX3 15 "Shortring$Net" "knots" "I", Cond.fieldLink RX3 9 "Shortring$Net" "near" "[I", Cond.methodLink RX3 19 yX3_nearOf, Cond.instanceMethod yX3_nearOf, Cond.selects RX3 yX3_nearOf yX3_nearOf, Cond.code yX3_nearOf cX3_nearOf 2 (some .int), Cond.static yX6_holds, Cond.initialized RX6, Cond.code yX6_holds cX6_holds 2 (some .boolean), Cond.static yX5_partWith, Cond.initialized RX5, Cond.code yX5_partWith cX5_partWith 2 (some .int), Cond.methodLink RX5 29 yX5_within, Cond.static yX5_within]
def wsX2_turnsOf_r2 : List Cond := [Cond.code yX5_within cX5_within 6 (some .int), Cond.static yX6_bit, Cond.code yX6_bit cX6_bit 1 (some .int), Cond.methodLink RX5 23 yX5_around, Cond.static yX5_around, Cond.code yX5_around cX5_around 6 (some .int), Cond.methodLink RX5 9 yJ6_bitCount_0f7a4, Cond.static yJ6_bitCount_0f7a4, Cond.initialized RJ6, Cond.code yJ6_bitCount_0f7a4 cJ6_bitCount_0f7a4 1 (some .int), Cond.constant RJ6 265 (1431655765), Cond.constant RJ6 266 (858993459), Cond.constant RJ6 267 (252645135), Cond.methodLink RX2 46 yX2_partsLike, Cond.instanceMethod yX2_partsLike, Cond.selects RX2 yX2_partsLike yX2_partsLike, Cond.initialized RX2, Cond.code yX2_partsLike cX2_partsLike 7 (some .int), Cond.methodLink RX2 55 yX2_waysOf, Cond.instanceMethod yX2_waysOf, Cond.selects RX2 yX2_waysOf yX2_waysOf, Cond.code yX2_waysOf cX2_waysOf 4 (some .int), Cond.fieldLink RX2 25 "Shortring$Likeness" "placed" "I", Cond.methodLink RX2 70 yJ6_bitCount_0f7a4]
def wsX2_turnsOf_r3 : List Cond := [Cond.methodLink RX2 75 yX2_ways, Cond.static yX2_ways, Cond.code yX2_ways cX2_ways 9 (some .int), Cond.methodLink RX2 79 yX2_nextToPlace, Cond.instanceMethod yX2_nextToPlace, Cond.selects RX2 yX2_nextToPlace yX2_nextToPlace, Cond.code yX2_nextToPlace cX2_nextToPlace 6 (some .int), Cond.methodLink RX2 82 yX2_fitting, Cond.instanceMethod yX2_fitting, Cond.selects RX2 yX2_fitting yX2_fitting, Cond.code yX2_fitting cX2_fitting 8 (some .int), Cond.fieldLink RX2 21 "Shortring$Likeness" "image" "[I", Cond.methodLink RX2 85 yX2_place, Cond.instanceMethod yX2_place, Cond.selects RX2 yX2_place yX2_place, Cond.code yX2_place cX2_place 3 none]
def wsX2_turnsOf : List Cond := .code yX2_turnsOf cX2_turnsOf 7 (some .int) :: ((wsX2_turnsOf_r1 ++ (wsX2_turnsOf_r2 ++ wsX2_turnsOf_r3)) ++ wsX30 ++ wsX20)
def wsX3_edgesInAll : List Cond := .code yX3_edgesInAll cX3_edgesInAll 3 (some .int) :: ([.fieldLink RX3 15 "Shortring$Net" "knots" "I", .methodLink RX3 39 yX3_countOf, .instanceMethod yX3_countOf, .selects RX3 yX3_countOf yX3_countOf, .initialized RX3, .code yX3_countOf cX3_countOf 2 (some .int), .methodLink RX3 19 yX3_nearOf, .instanceMethod yX3_nearOf, .selects RX3 yX3_nearOf yX3_nearOf, .code yX3_nearOf cX3_nearOf 2 (some .int), .fieldLink RX3 9 "Shortring$Net" "near" "[I", .methodLink RX3 27 yJ6_bitCount_0f7a4, .static yJ6_bitCount_0f7a4, .initialized RJ6, .code yJ6_bitCount_0f7a4 cJ6_bitCount_0f7a4 1 (some .int), .constant RJ6 265 (1431655765), .constant RJ6 266 (858993459), .constant RJ6 267 (252645135)] ++ wsX30)
def wsX2_partMatching_r1 : List Cond := [Cond.fieldLink RX2 18 "Shortring$Likeness" "to" "LShortring$Net;", Cond.static yX6_holds, Cond.initialized RX6, Cond.code yX6_holds cX6_holds 2 (some .boolean), Cond.static yX5_partWith, Cond.initialized RX5, Cond.code yX5_partWith cX5_partWith 2 (some .int), Cond.methodLink RX5 29 yX5_within, Cond.static yX5_within, Cond.code yX5_within cX5_within 6 (some .int), Cond.static yX6_bit, Cond.code yX6_bit cX6_bit 1 (some .int), Cond.methodLink RX5 23 yX5_around, Cond.static yX5_around, Cond.code yX5_around cX5_around 6 (some .int), Cond.methodLink RX5 9 yJ6_bitCount_0f7a4, Cond.static yJ6_bitCount_0f7a4, Cond.initialized RJ6, Cond.code yJ6_bitCount_0f7a4 cJ6_bitCount_0f7a4 1 (some .int), Cond.constant RJ6 265 (1431655765), Cond.constant RJ6 266 (858993459), Cond.constant RJ6 267 (252645135), Cond.instanceMethod yX3_nearOf, Cond.initialized RX3]
def wsX2_partMatching_r2 : List Cond := [Cond.selects RX3 yX3_nearOf yX3_nearOf, Cond.code yX3_nearOf cX3_nearOf 2 (some .int), Cond.fieldLink RX3 9 "Shortring$Net" "near" "[I", Cond.methodLink RX2 55 yX2_waysOf, Cond.instanceMethod yX2_waysOf, Cond.selects RX2 yX2_waysOf yX2_waysOf, Cond.initialized RX2, Cond.code yX2_waysOf cX2_waysOf 4 (some .int), Cond.fieldLink RX2 25 "Shortring$Likeness" "placed" "I", Cond.methodLink RX2 70 yJ6_bitCount_0f7a4, Cond.methodLink RX2 75 yX2_ways, Cond.static yX2_ways, Cond.code yX2_ways cX2_ways 9 (some .int), Cond.methodLink RX2 79 yX2_nextToPlace, Cond.instanceMethod yX2_nextToPlace, Cond.selects RX2 yX2_nextToPlace yX2_nextToPlace, Cond.code yX2_nextToPlace cX2_nextToPlace 6 (some .int), Cond.fieldLink RX2 12 "Shortring$Likeness" "from" "LShortring$Net;", Cond.methodLink RX2 82 yX2_fitting, Cond.instanceMethod yX2_fitting, Cond.selects RX2 yX2_fitting yX2_fitting, Cond.code yX2_fitting cX2_fitting 8 (some .int), Cond.fieldLink RX2 21 "Shortring$Likeness" "image" "[I", Cond.methodLink RX2 85 yX2_place]
def wsX2_partMatching_r3 : List Cond := [Cond.instanceMethod yX2_place, Cond.selects RX2 yX2_place yX2_place, Cond.code yX2_place cX2_place 3 none]
def wsX2_partMatching : List Cond := .code yX2_partMatching cX2_partMatching 6 (some .int) :: ((wsX2_partMatching_r1 ++ (wsX2_partMatching_r2 ++ wsX2_partMatching_r3)) ++ wsX20 ++ wsX30)
def wsX2_areAlike_r1 : List Cond := [Cond.fieldLink RX2 12 "Shortring$Likeness" "from" "LShortring$Net;", Cond.fieldLink RX2 18 "Shortring$Likeness" "to" "LShortring$Net;", Cond.instanceMethod yX3_edgesInAll, Cond.initialized RX3, Cond.selects RX3 yX3_edgesInAll yX3_edgesInAll, Cond.code yX3_edgesInAll cX3_edgesInAll 3 (some .int), Cond.fieldLink RX3 15 "Shortring$Net" "knots" "I", Cond.methodLink RX3 39 yX3_countOf, Cond.instanceMethod yX3_countOf, Cond.selects RX3 yX3_countOf yX3_countOf, Cond.code yX3_countOf cX3_countOf 2 (some .int), Cond.methodLink RX3 19 yX3_nearOf, Cond.instanceMethod yX3_nearOf, Cond.selects RX3 yX3_nearOf yX3_nearOf, Cond.code yX3_nearOf cX3_nearOf 2 (some .int), Cond.fieldLink RX3 9 "Shortring$Net" "near" "[I", Cond.methodLink RX3 27 yJ6_bitCount_0f7a4, Cond.static yJ6_bitCount_0f7a4, Cond.initialized RJ6, Cond.code yJ6_bitCount_0f7a4 cJ6_bitCount_0f7a4 1 (some .int), Cond.constant RJ6 265 (1431655765), Cond.constant RJ6 266 (858993459), Cond.constant RJ6 267 (252645135), Cond.instanceMethod yX3_take]
def wsX2_areAlike_r2 : List Cond := [Cond.selects RX3 yX3_take yX3_take, Cond.code yX3_take cX3_take 3 none, Cond.static yX6_bit, Cond.initialized RX6, Cond.code yX6_bit cX6_bit 1 (some .int), Cond.static yX6_holds, Cond.code yX6_holds cX6_holds 2 (some .boolean), Cond.static yX5_partWith, Cond.initialized RX5, Cond.code yX5_partWith cX5_partWith 2 (some .int), Cond.methodLink RX5 29 yX5_within, Cond.static yX5_within, Cond.code yX5_within cX5_within 6 (some .int), Cond.methodLink RX5 23 yX5_around, Cond.static yX5_around, Cond.code yX5_around cX5_around 6 (some .int), Cond.methodLink RX5 9 yJ6_bitCount_0f7a4, Cond.methodLink RX2 67 yX2_partMatching, Cond.instanceMethod yX2_partMatching, Cond.selects RX2 yX2_partMatching yX2_partMatching, Cond.initialized RX2, Cond.code yX2_partMatching cX2_partMatching 6 (some .int), Cond.methodLink RX2 55 yX2_waysOf, Cond.instanceMethod yX2_waysOf]
def wsX2_areAlike_r3 : List Cond := [Cond.selects RX2 yX2_waysOf yX2_waysOf, Cond.code yX2_waysOf cX2_waysOf 4 (some .int), Cond.fieldLink RX2 25 "Shortring$Likeness" "placed" "I", Cond.methodLink RX2 70 yJ6_bitCount_0f7a4, Cond.methodLink RX2 75 yX2_ways, Cond.static yX2_ways, Cond.code yX2_ways cX2_ways 9 (some .int), Cond.methodLink RX2 79 yX2_nextToPlace, Cond.instanceMethod yX2_nextToPlace, Cond.selects RX2 yX2_nextToPlace yX2_nextToPlace, Cond.code yX2_nextToPlace cX2_nextToPlace 6 (some .int), Cond.methodLink RX2 82 yX2_fitting, Cond.instanceMethod yX2_fitting, Cond.selects RX2 yX2_fitting yX2_fitting, Cond.code yX2_fitting cX2_fitting 8 (some .int), Cond.fieldLink RX2 21 "Shortring$Likeness" "image" "[I", Cond.methodLink RX2 85 yX2_place, Cond.instanceMethod yX2_place, Cond.selects RX2 yX2_place yX2_place, Cond.code yX2_place cX2_place 3 none]
def wsX2_areAlike : List Cond := .code yX2_areAlike cX2_areAlike 8 (some .boolean) :: ((wsX2_areAlike_r1 ++ (wsX2_areAlike_r2 ++ wsX2_areAlike_r3)) ++ wsX30 ++ wsX20)
def wsX3_lay : List Cond := .code yX3_lay cX3_lay 3 none :: ([.fieldLink RX3 15 "Shortring$Net" "knots" "I", .fieldLink RX3 9 "Shortring$Net" "near" "[I"] ++ wsX30)
def wsX3_numberedIn : List Cond := .code yX3_numberedIn cX3_numberedIn 4 (some .int) :: ([.static yX6_firstOf, .initialized RX6, .code yX6_firstOf cX6_firstOf 1 (some .int), .methodLink RX6 270 yJ6_bitCount_0f7a4, .static yJ6_bitCount_0f7a4, .initialized RJ6, .code yJ6_bitCount_0f7a4 cJ6_bitCount_0f7a4 1 (some .int), .constant RJ6 265 (1431655765), .constant RJ6 266 (858993459), .constant RJ6 267 (252645135)])
def wsX3_edgeAt_r1 : List Cond := [Cond.fieldLink RX3 15 "Shortring$Net" "knots" "I", Cond.methodLink RX3 19 yX3_nearOf, Cond.instanceMethod yX3_nearOf, Cond.selects RX3 yX3_nearOf yX3_nearOf, Cond.initialized RX3, Cond.code yX3_nearOf cX3_nearOf 2 (some .int), Cond.fieldLink RX3 9 "Shortring$Net" "near" "[I", Cond.static yX6_bit, Cond.initialized RX6, Cond.code yX6_bit cX6_bit 1 (some .int), Cond.methodLink RX3 27 yJ6_bitCount_0f7a4, Cond.static yJ6_bitCount_0f7a4, Cond.initialized RJ6, Cond.code yJ6_bitCount_0f7a4 cJ6_bitCount_0f7a4 1 (some .int), Cond.constant RJ6 265 (1431655765), Cond.constant RJ6 266 (858993459), Cond.constant RJ6 267 (252645135), Cond.methodLink RX3 42 yX3_numberedIn, Cond.static yX3_numberedIn, Cond.code yX3_numberedIn cX3_numberedIn 4 (some .int), Cond.static yX6_firstOf, Cond.code yX6_firstOf cX6_firstOf 1 (some .int), Cond.methodLink RX6 270 yJ6_bitCount_0f7a4, Cond.static yX6_pairOf]
def wsX3_edgeAt_r2 : List Cond := [Cond.code yX6_pairOf cX6_pairOf 2 (some .int)]
def wsX3_edgeAt : List Cond := .code yX3_edgeAt cX3_edgeAt 6 (some .int) :: ((wsX3_edgeAt_r1 ++ wsX3_edgeAt_r2) ++ wsX30)
def wsX3_loneliest : List Cond := .code yX3_loneliest cX3_loneliest 5 (some .int) :: ([.fieldLink RX3 15 "Shortring$Net" "knots" "I", .methodLink RX3 39 yX3_countOf, .instanceMethod yX3_countOf, .selects RX3 yX3_countOf yX3_countOf, .initialized RX3, .code yX3_countOf cX3_countOf 2 (some .int), .methodLink RX3 19 yX3_nearOf, .instanceMethod yX3_nearOf, .selects RX3 yX3_nearOf yX3_nearOf, .code yX3_nearOf cX3_nearOf 2 (some .int), .fieldLink RX3 9 "Shortring$Net" "near" "[I", .methodLink RX3 27 yJ6_bitCount_0f7a4, .static yJ6_bitCount_0f7a4, .initialized RJ6, .code yJ6_bitCount_0f7a4 cJ6_bitCount_0f7a4 1 (some .int), .constant RJ6 265 (1431655765), .constant RJ6 266 (858993459), .constant RJ6 267 (252645135), .static yX6_bit, .initialized RX6, .code yX6_bit cX6_bit 1 (some .int)] ++ wsX30)
def wsX3_isMutual : List Cond := .code yX3_isMutual cX3_isMutual 4 (some .boolean) :: ([.fieldLink RX3 15 "Shortring$Net" "knots" "I", .methodLink RX3 52 yX3_isNear, .instanceMethod yX3_isNear, .selects RX3 yX3_isNear yX3_isNear, .initialized RX3, .code yX3_isNear cX3_isNear 3 (some .boolean), .methodLink RX3 19 yX3_nearOf, .instanceMethod yX3_nearOf, .selects RX3 yX3_nearOf yX3_nearOf, .code yX3_nearOf cX3_nearOf 2 (some .int), .fieldLink RX3 9 "Shortring$Net" "near" "[I", .static yX6_holds, .initialized RX6, .code yX6_holds cX6_holds 2 (some .boolean)] ++ wsX30)
def wsX4_init : List Cond := .code yX4_init cX4_init 1 none :: ([.methodLink RX4 3 objectInit, .instanceMethod objectInit, .code objectInit ⟨#[0xb1]⟩ 1 none, .arrayClass .int, .fieldLink RX4 9 "Shortring$Paint" "hues" "[I"] ++ wsX40)
def wsX4_hardest : List Cond := .code yX4_hardest cX4_hardest 8 (some .int) :: ([.static yX6_holds, .initialized RX6, .code yX6_holds cX6_holds 2 (some .boolean), .instanceMethod yX3_nearOf, .initialized RX3, .selects RX3 yX3_nearOf yX3_nearOf, .code yX3_nearOf cX3_nearOf 2 (some .int), .fieldLink RX3 9 "Shortring$Net" "near" "[I"] ++ wsX30)
def wsX4_canPaint : List Cond := .code yX4_canPaint cX4_canPaint 8 (some .boolean) :: ([.methodLink RX4 45 yX4_hardest, .static yX4_hardest, .initialized RX4, .code yX4_hardest cX4_hardest 8 (some .int), .static yX6_holds, .initialized RX6, .code yX6_holds cX6_holds 2 (some .boolean), .instanceMethod yX3_nearOf, .initialized RX3, .selects RX3 yX3_nearOf yX3_nearOf, .code yX3_nearOf cX3_nearOf 2 (some .int), .fieldLink RX3 9 "Shortring$Net" "near" "[I", .static yX6_bit, .code yX6_bit cX6_bit 1 (some .int), .methodLink RX4 41 yX4_canPaint, .static yX4_canPaint] ++ wsX30)
def wsX4_fewestOf : List Cond := .code yX4_fewestOf cX4_fewestOf 6 (some .int) :: ([.fieldLink RX4 9 "Shortring$Paint" "hues" "[I", .methodLink RX4 41 yX4_canPaint, .static yX4_canPaint, .initialized RX4, .code yX4_canPaint cX4_canPaint 8 (some .boolean), .methodLink RX4 45 yX4_hardest, .static yX4_hardest, .code yX4_hardest cX4_hardest 8 (some .int), .static yX6_holds, .initialized RX6, .code yX6_holds cX6_holds 2 (some .boolean), .instanceMethod yX3_nearOf, .initialized RX3, .selects RX3 yX3_nearOf yX3_nearOf, .code yX3_nearOf cX3_nearOf 2 (some .int), .fieldLink RX3 9 "Shortring$Net" "near" "[I", .static yX6_bit, .code yX6_bit cX6_bit 1 (some .int)] ++ wsX40 ++ wsX30)
def wsX4_fewest_r1 : List Cond := [Cond.methodLink RX4 31 Lib.Math.max.name, Cond.static Lib.Math.max.name, Cond.initialized "java/lang/Math", Cond.code Lib.Math.max.name Lib.Math.max.code 2 (some .int), Cond.static yX6_holds, Cond.initialized RX6, Cond.code yX6_holds cX6_holds 2 (some .boolean), Cond.static yX5_partWith, Cond.initialized RX5, Cond.code yX5_partWith cX5_partWith 2 (some .int), Cond.methodLink RX5 29 yX5_within, Cond.static yX5_within, Cond.code yX5_within cX5_within 6 (some .int), Cond.static yX6_bit, Cond.code yX6_bit cX6_bit 1 (some .int), Cond.methodLink RX5 23 yX5_around, Cond.static yX5_around, Cond.code yX5_around cX5_around 6 (some .int), Cond.methodLink RX5 9 yJ6_bitCount_0f7a4, Cond.static yJ6_bitCount_0f7a4, Cond.initialized RJ6, Cond.code yJ6_bitCount_0f7a4 cJ6_bitCount_0f7a4 1 (some .int), Cond.constant RJ6 265 (1431655765), Cond.constant RJ6 266 (858993459)]
def wsX4_fewest_r2 : List Cond := [Cond.constant RJ6 267 (252645135), Cond.instanceMethod yX3_nearOf, Cond.initialized RX3, Cond.selects RX3 yX3_nearOf yX3_nearOf, Cond.code yX3_nearOf cX3_nearOf 2 (some .int), Cond.fieldLink RX3 9 "Shortring$Net" "near" "[I", Cond.methodLink RX4 37 yX4_fewestOf, Cond.instanceMethod yX4_fewestOf, Cond.selects RX4 yX4_fewestOf yX4_fewestOf, Cond.initialized RX4, Cond.code yX4_fewestOf cX4_fewestOf 6 (some .int), Cond.fieldLink RX4 9 "Shortring$Paint" "hues" "[I", Cond.methodLink RX4 41 yX4_canPaint, Cond.static yX4_canPaint, Cond.code yX4_canPaint cX4_canPaint 8 (some .boolean), Cond.methodLink RX4 45 yX4_hardest, Cond.static yX4_hardest, Cond.code yX4_hardest cX4_hardest 8 (some .int)]
def wsX4_fewest : List Cond := .code yX4_fewest cX4_fewest 6 (some .int) :: ((wsX4_fewest_r1 ++ wsX4_fewest_r2) ++ wsX30 ++ wsX40)
def wsX5_partsInAll_r1 : List Cond := [Cond.static yX6_holds, Cond.initialized RX6, Cond.code yX6_holds cX6_holds 2 (some .boolean), Cond.methodLink RX5 41 yX5_partWith, Cond.static yX5_partWith, Cond.initialized RX5, Cond.code yX5_partWith cX5_partWith 2 (some .int), Cond.methodLink RX5 29 yX5_within, Cond.static yX5_within, Cond.code yX5_within cX5_within 6 (some .int), Cond.static yX6_bit, Cond.code yX6_bit cX6_bit 1 (some .int), Cond.methodLink RX5 23 yX5_around, Cond.static yX5_around, Cond.code yX5_around cX5_around 6 (some .int), Cond.methodLink RX5 9 yJ6_bitCount_0f7a4, Cond.static yJ6_bitCount_0f7a4, Cond.initialized RJ6, Cond.code yJ6_bitCount_0f7a4 cJ6_bitCount_0f7a4 1 (some .int), Cond.constant RJ6 265 (1431655765), Cond.constant RJ6 266 (858993459), Cond.constant RJ6 267 (252645135), Cond.instanceMethod yX3_nearOf, Cond.initialized RX3]
def wsX5_partsInAll_r2 : List Cond := [Cond.selects RX3 yX3_nearOf yX3_nearOf, Cond.code yX3_nearOf cX3_nearOf 2 (some .int), Cond.fieldLink RX3 9 "Shortring$Net" "near" "[I"]
def wsX5_partsInAll : List Cond := .code yX5_partsInAll cX5_partsInAll 4 (some .int) :: ((wsX5_partsInAll_r1 ++ wsX5_partsInAll_r2) ++ wsX30)
def wsX5_partNumber_r1 : List Cond := [Cond.static yX6_holds, Cond.initialized RX6, Cond.code yX6_holds cX6_holds 2 (some .boolean), Cond.methodLink RX5 41 yX5_partWith, Cond.static yX5_partWith, Cond.initialized RX5, Cond.code yX5_partWith cX5_partWith 2 (some .int), Cond.methodLink RX5 29 yX5_within, Cond.static yX5_within, Cond.code yX5_within cX5_within 6 (some .int), Cond.static yX6_bit, Cond.code yX6_bit cX6_bit 1 (some .int), Cond.methodLink RX5 23 yX5_around, Cond.static yX5_around, Cond.code yX5_around cX5_around 6 (some .int), Cond.methodLink RX5 9 yJ6_bitCount_0f7a4, Cond.static yJ6_bitCount_0f7a4, Cond.initialized RJ6, Cond.code yJ6_bitCount_0f7a4 cJ6_bitCount_0f7a4 1 (some .int), Cond.constant RJ6 265 (1431655765), Cond.constant RJ6 266 (858993459), Cond.constant RJ6 267 (252645135), Cond.instanceMethod yX3_nearOf, Cond.initialized RX3]
def wsX5_partNumber_r2 : List Cond := [Cond.selects RX3 yX3_nearOf yX3_nearOf, Cond.code yX3_nearOf cX3_nearOf 2 (some .int), Cond.fieldLink RX3 9 "Shortring$Net" "near" "[I"]
def wsX5_partNumber : List Cond := .code yX5_partNumber cX5_partNumber 5 (some .int) :: ((wsX5_partNumber_r1 ++ wsX5_partNumber_r2) ++ wsX30)
def wsX5_greatestDistance : List Cond := .code yX5_greatestDistance cX5_greatestDistance 5 (some .int) :: ([.static yX6_bit, .initialized RX6, .code yX6_bit cX6_bit 1 (some .int), .methodLink RX5 23 yX5_around, .static yX5_around, .initialized RX5, .code yX5_around cX5_around 6 (some .int), .methodLink RX5 9 yJ6_bitCount_0f7a4, .static yJ6_bitCount_0f7a4, .initialized RJ6, .code yJ6_bitCount_0f7a4 cJ6_bitCount_0f7a4 1 (some .int), .constant RJ6 265 (1431655765), .constant RJ6 266 (858993459), .constant RJ6 267 (252645135), .instanceMethod yX3_nearOf, .initialized RX3, .selects RX3 yX3_nearOf yX3_nearOf, .code yX3_nearOf cX3_nearOf 2 (some .int), .fieldLink RX3 9 "Shortring$Net" "near" "[I"] ++ wsX30)
def wsX5_width_r1 : List Cond := [Cond.methodLink RX5 51 Lib.Math.max.name, Cond.static Lib.Math.max.name, Cond.initialized "java/lang/Math", Cond.code Lib.Math.max.name Lib.Math.max.code 2 (some .int), Cond.methodLink RX5 44 yX5_partsInAll, Cond.static yX5_partsInAll, Cond.initialized RX5, Cond.code yX5_partsInAll cX5_partsInAll 4 (some .int), Cond.static yX6_holds, Cond.initialized RX6, Cond.code yX6_holds cX6_holds 2 (some .boolean), Cond.methodLink RX5 41 yX5_partWith, Cond.static yX5_partWith, Cond.code yX5_partWith cX5_partWith 2 (some .int), Cond.methodLink RX5 29 yX5_within, Cond.static yX5_within, Cond.code yX5_within cX5_within 6 (some .int), Cond.static yX6_bit, Cond.code yX6_bit cX6_bit 1 (some .int), Cond.methodLink RX5 23 yX5_around, Cond.static yX5_around, Cond.code yX5_around cX5_around 6 (some .int), Cond.methodLink RX5 9 yJ6_bitCount_0f7a4, Cond.static yJ6_bitCount_0f7a4]
def wsX5_width_r2 : List Cond := [Cond.initialized RJ6, Cond.code yJ6_bitCount_0f7a4 cJ6_bitCount_0f7a4 1 (some .int), Cond.constant RJ6 265 (1431655765), Cond.constant RJ6 266 (858993459), Cond.constant RJ6 267 (252645135), Cond.instanceMethod yX3_nearOf, Cond.initialized RX3, Cond.selects RX3 yX3_nearOf yX3_nearOf, Cond.code yX3_nearOf cX3_nearOf 2 (some .int), Cond.fieldLink RX3 9 "Shortring$Net" "near" "[I", Cond.methodLink RX5 48 yX5_greatestDistance, Cond.static yX5_greatestDistance, Cond.code yX5_greatestDistance cX5_greatestDistance 5 (some .int)]
def wsX5_width : List Cond := .code yX5_width cX5_width 3 (some .int) :: ((wsX5_width_r1 ++ wsX5_width_r2) ++ wsX30)
def wsX6_init_r1 : List Cond := [Cond.methodLink RX6 3 objectInit, Cond.instanceMethod objectInit, Cond.code objectInit ⟨#[0xb1]⟩ 1 none, Cond.classLink RX6 9 RX3, Cond.instantiable RX3 2, Cond.initialized RX3, Cond.fieldLink RX6 12 "Shortring" "net" "LShortring$Net;", Cond.fieldLink RX6 16 "Shortring" "scratch" "LShortring$Net;", Cond.fieldLink RX6 19 "Shortring" "kept" "[LShortring$Net;", Cond.classLink RX6 23 RX0, Cond.instantiable RX0 11, Cond.initialized RX0, Cond.fieldLink RX6 26 "Shortring" "hunt" "LShortring$Hunt;", Cond.classLink RX6 30 RX1, Cond.instantiable RX1 2, Cond.initialized RX1, Cond.fieldLink RX6 33 "Shortring" "ledger" "LShortring$Ledger;", Cond.classLink RX6 37 RX2, Cond.instantiable RX2 4, Cond.initialized RX2, Cond.fieldLink RX6 40 "Shortring" "likeness" "LShortring$Likeness;", Cond.classLink RX6 44 RX4, Cond.instantiable RX4 1, Cond.initialized RX4]
def wsX6_init_r2 : List Cond := [Cond.fieldLink RX6 47 "Shortring" "paint" "LShortring$Paint;", Cond.arrayClass .int, Cond.fieldLink RX6 51 "Shortring" "tally" "[I", Cond.fieldLink RX6 55 "Shortring" "keptMany" "I", Cond.fieldLink RX6 59 "Shortring" "refused" "I", Cond.instanceMethod yX3_init, Cond.code yX3_init cX3_init 1 none, Cond.methodLink RX3 3 objectInit, Cond.fieldLink RX3 9 "Shortring$Net" "near" "[I", Cond.fieldLink RX3 15 "Shortring$Net" "knots" "I", Cond.instanceMethod yX0_init, Cond.code yX0_init cX0_init 1 none, Cond.methodLink RX0 3 objectInit, Cond.fieldLink RX0 9 "Shortring$Hunt" "barredWith" "[I", Cond.fieldLink RX0 15 "Shortring$Hunt" "bars" "[I", Cond.fieldLink RX0 18 "Shortring$Hunt" "puts" "[I", Cond.fieldLink RX0 21 "Shortring$Hunt" "barsAtPut" "[I", Cond.fieldLink RX0 24 "Shortring$Hunt" "isOn" "Z", Cond.fieldLink RX0 28 "Shortring$Hunt" "state" "I", Cond.instanceMethod yX1_init, Cond.code yX1_init cX1_init 1 none, Cond.methodLink RX1 3 objectInit, Cond.fieldLink RX1 9 "Shortring$Ledger" "leastProved" "[I", Cond.fieldLink RX1 15 "Shortring$Ledger" "smallest" "[I"]
def wsX6_init_r3 : List Cond := [Cond.instanceMethod yX2_init, Cond.code yX2_init cX2_init 1 none, Cond.methodLink RX2 3 objectInit, Cond.classLink RX2 9 RX3, Cond.fieldLink RX2 12 "Shortring$Likeness" "from" "LShortring$Net;", Cond.fieldLink RX2 18 "Shortring$Likeness" "to" "LShortring$Net;", Cond.fieldLink RX2 21 "Shortring$Likeness" "image" "[I", Cond.fieldLink RX2 25 "Shortring$Likeness" "placed" "I", Cond.instanceMethod yX4_init, Cond.code yX4_init cX4_init 1 none, Cond.methodLink RX4 3 objectInit, Cond.fieldLink RX4 9 "Shortring$Paint" "hues" "[I"]
def wsX6_init : List Cond := .code yX6_init cX6_init 1 none :: ((wsX6_init_r1 ++ (wsX6_init_r2 ++ wsX6_init_r3)) ++ wsX30 ++ wsX60 ++ wsX00 ++ wsX10 ++ wsX20 ++ wsX40)
def wsX6_garden_r1 : List Cond := [Cond.classLink RX6 66 "java/lang/IllegalArgumentException", Cond.initialized "java/lang/IllegalArgumentException", Cond.fieldLink RX6 12 "Shortring" "net" "LShortring$Net;", Cond.fieldLink RX6 26 "Shortring" "hunt" "LShortring$Hunt;", Cond.fieldLink RX6 33 "Shortring" "ledger" "LShortring$Ledger;", Cond.methodLink RX6 62 yX6_isWithin, Cond.static yX6_isWithin, Cond.initialized RX6, Cond.code yX6_isWithin cX6_isWithin 3 (some .boolean), Cond.instanceMethod yX3_lay, Cond.initialized RX3, Cond.selects RX3 yX3_lay yX3_lay, Cond.code yX3_lay cX3_lay 3 none, Cond.fieldLink RX3 15 "Shortring$Net" "knots" "I", Cond.fieldLink RX3 9 "Shortring$Net" "near" "[I", Cond.instanceMethod yX0_end, Cond.initialized RX0, Cond.selects RX0 yX0_end yX0_end, Cond.code yX0_end cX0_end 1 none, Cond.fieldLink RX0 24 "Shortring$Hunt" "isOn" "Z", Cond.instanceMethod yX1_look, Cond.initialized RX1, Cond.selects RX1 yX1_look yX1_look, Cond.code yX1_look cX1_look 4 none]
def wsX6_garden_r2 : List Cond := [Cond.fieldLink RX1 15 "Shortring$Ledger" "smallest" "[I", Cond.instanceMethod yX3_evenCount, Cond.selects RX3 yX3_evenCount yX3_evenCount, Cond.code yX3_evenCount cX3_evenCount 3 (some .int), Cond.methodLink RX3 39 yX3_countOf, Cond.instanceMethod yX3_countOf, Cond.selects RX3 yX3_countOf yX3_countOf, Cond.code yX3_countOf cX3_countOf 2 (some .int), Cond.methodLink RX3 19 yX3_nearOf, Cond.instanceMethod yX3_nearOf, Cond.selects RX3 yX3_nearOf yX3_nearOf, Cond.code yX3_nearOf cX3_nearOf 2 (some .int), Cond.methodLink RX3 27 yJ6_bitCount_0f7a4, Cond.static yJ6_bitCount_0f7a4, Cond.initialized RJ6, Cond.code yJ6_bitCount_0f7a4 cJ6_bitCount_0f7a4 1 (some .int), Cond.constant RJ6 265 (1431655765), Cond.constant RJ6 266 (858993459), Cond.constant RJ6 267 (252645135), Cond.static yX5_leastRing, Cond.initialized RX5, Cond.code yX5_leastRing cX5_leastRing 3 (some .int), Cond.methodLink RX5 66 yX5_leastRingAt, Cond.static yX5_leastRingAt]
def wsX6_garden_r3 : List Cond := [Cond.code yX5_leastRingAt cX5_leastRingAt 4 (some .int), Cond.instanceMethod yX3_isNear, Cond.selects RX3 yX3_isNear yX3_isNear, Cond.code yX3_isNear cX3_isNear 3 (some .boolean), Cond.static yX6_holds, Cond.code yX6_holds cX6_holds 2 (some .boolean), Cond.methodLink RX5 60 yX5_leastRingBy, Cond.static yX5_leastRingBy, Cond.code yX5_leastRingBy cX5_leastRingBy 6 (some .int), Cond.static yX6_bit, Cond.code yX6_bit cX6_bit 1 (some .int), Cond.methodLink RX5 23 yX5_around, Cond.static yX5_around, Cond.code yX5_around cX5_around 6 (some .int), Cond.methodLink RX5 9 yJ6_bitCount_0f7a4, Cond.static yX6_lesser, Cond.code yX6_lesser cX6_lesser 2 (some .int), Cond.methodLink RX6 324 Lib.Math.min.name, Cond.static Lib.Math.min.name, Cond.initialized "java/lang/Math", Cond.code Lib.Math.min.name Lib.Math.min.code 2 (some .int), Cond.methodLink RX1 44 yX1_tablePlace, Cond.instanceMethod yX1_tablePlace, Cond.selects RX1 yX1_tablePlace yX1_tablePlace]
def wsX6_garden_r4 : List Cond := [Cond.code yX1_tablePlace cX1_tablePlace 5 (some .int)]
def wsX6_garden : List Cond := .code yX6_garden cX6_garden 3 (some .int) :: ((wsX6_garden_r1 ++ (wsX6_garden_r2 ++ (wsX6_garden_r3 ++ wsX6_garden_r4))) ++ wsX60 ++ wsX30 ++ wsX00 ++ wsX10 ++ (vx_atS RX6 70 "java/lang/IllegalArgumentException" ["java/lang/RuntimeException", "java/lang/Exception"]).filter goodWord)
def wsX6_edge_r1 : List Cond := [Cond.classLink RX6 91 "java/lang/IndexOutOfBoundsException", Cond.initialized "java/lang/IndexOutOfBoundsException", Cond.classLink RX6 66 "java/lang/IllegalArgumentException", Cond.initialized "java/lang/IllegalArgumentException", Cond.classLink RX6 106 "java/lang/IllegalStateException", Cond.initialized "java/lang/IllegalStateException", Cond.fieldLink RX6 12 "Shortring" "net" "LShortring$Net;", Cond.fieldLink RX6 26 "Shortring" "hunt" "LShortring$Hunt;", Cond.fieldLink RX6 33 "Shortring" "ledger" "LShortring$Ledger;", Cond.instanceMethod yX3_isKnot, Cond.initialized RX3, Cond.selects RX3 yX3_isKnot yX3_isKnot, Cond.code yX3_isKnot cX3_isKnot 2 (some .boolean), Cond.fieldLink RX3 15 "Shortring$Net" "knots" "I", Cond.fieldLink RX3 9 "Shortring$Net" "near" "[I", Cond.instanceMethod yX3_isNear, Cond.selects RX3 yX3_isNear yX3_isNear, Cond.code yX3_isNear cX3_isNear 3 (some .boolean), Cond.methodLink RX3 19 yX3_nearOf, Cond.instanceMethod yX3_nearOf, Cond.selects RX3 yX3_nearOf yX3_nearOf, Cond.code yX3_nearOf cX3_nearOf 2 (some .int), Cond.static yX6_holds, Cond.initialized RX6]
def wsX6_edge_r2 : List Cond := [Cond.code yX6_holds cX6_holds 2 (some .boolean), Cond.instanceMethod yX3_countOf, Cond.selects RX3 yX3_countOf yX3_countOf, Cond.code yX3_countOf cX3_countOf 2 (some .int), Cond.methodLink RX3 27 yJ6_bitCount_0f7a4, Cond.static yJ6_bitCount_0f7a4, Cond.initialized RJ6, Cond.code yJ6_bitCount_0f7a4 cJ6_bitCount_0f7a4 1 (some .int), Cond.constant RJ6 265 (1431655765), Cond.constant RJ6 266 (858993459), Cond.constant RJ6 267 (252645135), Cond.instanceMethod yX3_join, Cond.selects RX3 yX3_join yX3_join, Cond.code yX3_join cX3_join 3 none, Cond.methodLink RX3 32 yX3_isKnot, Cond.static yX6_bit, Cond.code yX6_bit cX6_bit 1 (some .int), Cond.instanceMethod yX3_loosen, Cond.selects RX3 yX3_loosen yX3_loosen, Cond.code yX3_loosen cX3_loosen 3 none, Cond.instanceMethod yX0_end, Cond.initialized RX0, Cond.selects RX0 yX0_end yX0_end, Cond.code yX0_end cX0_end 1 none]
def wsX6_edge_r3 : List Cond := [Cond.fieldLink RX0 24 "Shortring$Hunt" "isOn" "Z", Cond.instanceMethod yX1_look, Cond.initialized RX1, Cond.selects RX1 yX1_look yX1_look, Cond.code yX1_look cX1_look 4 none, Cond.fieldLink RX1 15 "Shortring$Ledger" "smallest" "[I", Cond.instanceMethod yX3_evenCount, Cond.selects RX3 yX3_evenCount yX3_evenCount, Cond.code yX3_evenCount cX3_evenCount 3 (some .int), Cond.methodLink RX3 39 yX3_countOf, Cond.static yX6_isWithin, Cond.code yX6_isWithin cX6_isWithin 3 (some .boolean), Cond.static yX5_leastRing, Cond.initialized RX5, Cond.code yX5_leastRing cX5_leastRing 3 (some .int), Cond.methodLink RX5 66 yX5_leastRingAt, Cond.static yX5_leastRingAt, Cond.code yX5_leastRingAt cX5_leastRingAt 4 (some .int), Cond.methodLink RX5 60 yX5_leastRingBy, Cond.static yX5_leastRingBy, Cond.code yX5_leastRingBy cX5_leastRingBy 6 (some .int), Cond.methodLink RX5 23 yX5_around, Cond.static yX5_around, Cond.code yX5_around cX5_around 6 (some .int)]
def wsX6_edge_r4 : List Cond := [Cond.methodLink RX5 9 yJ6_bitCount_0f7a4, Cond.static yX6_lesser, Cond.code yX6_lesser cX6_lesser 2 (some .int), Cond.methodLink RX6 324 Lib.Math.min.name, Cond.static Lib.Math.min.name, Cond.initialized "java/lang/Math", Cond.code Lib.Math.min.name Lib.Math.min.code 2 (some .int), Cond.methodLink RX1 44 yX1_tablePlace, Cond.instanceMethod yX1_tablePlace, Cond.selects RX1 yX1_tablePlace yX1_tablePlace, Cond.code yX1_tablePlace cX1_tablePlace 5 (some .int)]
def wsX6_edge : List Cond := .code yX6_edge cX6_edge 6 (some .boolean) :: ((wsX6_edge_r1 ++ (wsX6_edge_r2 ++ (wsX6_edge_r3 ++ wsX6_edge_r4))) ++ wsX60 ++ wsX30 ++ wsX00 ++ wsX10 ++ (vx_atS RX6 95 "java/lang/IndexOutOfBoundsException" ["java/lang/RuntimeException", "java/lang/Exception"]).filter goodWord ++ (vx_atS RX6 70 "java/lang/IllegalArgumentException" ["java/lang/RuntimeException", "java/lang/Exception"]).filter goodWord ++ (vx_atS RX6 110 "java/lang/IllegalStateException" ["java/lang/RuntimeException", "java/lang/Exception"]).filter goodWord)
def wsX6_countByJumps : List Cond := .code yX6_countByJumps cX6_countByJumps 4 (some .int) :: ([.methodLink RX6 270 yJ6_bitCount_0f7a4, .static yJ6_bitCount_0f7a4, .initialized RJ6, .code yJ6_bitCount_0f7a4 cJ6_bitCount_0f7a4 1 (some .int), .constant RJ6 265 (1431655765), .constant RJ6 266 (858993459), .constant RJ6 267 (252645135), .methodLink RX6 386 yX6_holds, .static yX6_holds, .initialized RX6, .code yX6_holds cX6_holds 2 (some .boolean)])
def wsX6_layByJumps : List Cond := .code yX6_layByJumps cX6_layByJumps 6 none :: ([.fieldLink RX6 12 "Shortring" "net" "LShortring$Net;", .methodLink RX6 324 Lib.Math.min.name, .static Lib.Math.min.name, .initialized "java/lang/Math", .code Lib.Math.min.name Lib.Math.min.code 2 (some .int), .instanceMethod yX3_lay, .initialized RX3, .selects RX3 yX3_lay yX3_lay, .code yX3_lay cX3_lay 3 none, .fieldLink RX3 15 "Shortring$Net" "knots" "I", .fieldLink RX3 9 "Shortring$Net" "near" "[I", .methodLink RX6 386 yX6_holds, .static yX6_holds, .initialized RX6, .code yX6_holds cX6_holds 2 (some .boolean), .instanceMethod yX3_join, .selects RX3 yX3_join yX3_join, .code yX3_join cX3_join 3 none, .methodLink RX3 32 yX3_isKnot, .instanceMethod yX3_isKnot, .selects RX3 yX3_isKnot yX3_isKnot, .code yX3_isKnot cX3_isKnot 2 (some .boolean), .static yX6_bit, .code yX6_bit cX6_bit 1 (some .int)] ++ wsX60 ++ wsX30)
def wsX6_ring_r1 : List Cond := [Cond.classLink RX6 66 "java/lang/IllegalArgumentException", Cond.initialized "java/lang/IllegalArgumentException", Cond.fieldLink RX6 26 "Shortring" "hunt" "LShortring$Hunt;", Cond.fieldLink RX6 33 "Shortring" "ledger" "LShortring$Ledger;", Cond.fieldLink RX6 12 "Shortring" "net" "LShortring$Net;", Cond.methodLink RX6 62 yX6_isWithin, Cond.static yX6_isWithin, Cond.initialized RX6, Cond.code yX6_isWithin cX6_isWithin 3 (some .boolean), Cond.methodLink RX6 118 yX6_bit, Cond.static yX6_bit, Cond.code yX6_bit cX6_bit 1 (some .int), Cond.methodLink RX6 123 yX6_countByJumps, Cond.static yX6_countByJumps, Cond.code yX6_countByJumps cX6_countByJumps 4 (some .int), Cond.methodLink RX6 270 yJ6_bitCount_0f7a4, Cond.static yJ6_bitCount_0f7a4, Cond.initialized RJ6, Cond.code yJ6_bitCount_0f7a4 cJ6_bitCount_0f7a4 1 (some .int), Cond.constant RJ6 265 (1431655765), Cond.constant RJ6 266 (858993459), Cond.constant RJ6 267 (252645135), Cond.methodLink RX6 386 yX6_holds, Cond.static yX6_holds]
def wsX6_ring_r2 : List Cond := [Cond.code yX6_holds cX6_holds 2 (some .boolean), Cond.methodLink RX6 127 yX6_layByJumps, Cond.instanceMethod yX6_layByJumps, Cond.selects RX6 yX6_layByJumps yX6_layByJumps, Cond.code yX6_layByJumps cX6_layByJumps 6 none, Cond.methodLink RX6 324 Lib.Math.min.name, Cond.static Lib.Math.min.name, Cond.initialized "java/lang/Math", Cond.code Lib.Math.min.name Lib.Math.min.code 2 (some .int), Cond.instanceMethod yX3_lay, Cond.initialized RX3, Cond.selects RX3 yX3_lay yX3_lay, Cond.code yX3_lay cX3_lay 3 none, Cond.fieldLink RX3 15 "Shortring$Net" "knots" "I", Cond.fieldLink RX3 9 "Shortring$Net" "near" "[I", Cond.instanceMethod yX3_join, Cond.selects RX3 yX3_join yX3_join, Cond.code yX3_join cX3_join 3 none, Cond.methodLink RX3 32 yX3_isKnot, Cond.instanceMethod yX3_isKnot, Cond.selects RX3 yX3_isKnot yX3_isKnot, Cond.code yX3_isKnot cX3_isKnot 2 (some .boolean), Cond.instanceMethod yX0_end, Cond.initialized RX0]
def wsX6_ring_r3 : List Cond := [Cond.selects RX0 yX0_end yX0_end, Cond.code yX0_end cX0_end 1 none, Cond.fieldLink RX0 24 "Shortring$Hunt" "isOn" "Z", Cond.instanceMethod yX1_look, Cond.initialized RX1, Cond.selects RX1 yX1_look yX1_look, Cond.code yX1_look cX1_look 4 none, Cond.fieldLink RX1 15 "Shortring$Ledger" "smallest" "[I", Cond.instanceMethod yX3_evenCount, Cond.selects RX3 yX3_evenCount yX3_evenCount, Cond.code yX3_evenCount cX3_evenCount 3 (some .int), Cond.methodLink RX3 39 yX3_countOf, Cond.instanceMethod yX3_countOf, Cond.selects RX3 yX3_countOf yX3_countOf, Cond.code yX3_countOf cX3_countOf 2 (some .int), Cond.methodLink RX3 19 yX3_nearOf, Cond.instanceMethod yX3_nearOf, Cond.selects RX3 yX3_nearOf yX3_nearOf, Cond.code yX3_nearOf cX3_nearOf 2 (some .int), Cond.methodLink RX3 27 yJ6_bitCount_0f7a4, Cond.static yX5_leastRing, Cond.initialized RX5, Cond.code yX5_leastRing cX5_leastRing 3 (some .int), Cond.methodLink RX5 66 yX5_leastRingAt]
def wsX6_ring_r4 : List Cond := [Cond.static yX5_leastRingAt, Cond.code yX5_leastRingAt cX5_leastRingAt 4 (some .int), Cond.instanceMethod yX3_isNear, Cond.selects RX3 yX3_isNear yX3_isNear, Cond.code yX3_isNear cX3_isNear 3 (some .boolean), Cond.methodLink RX5 60 yX5_leastRingBy, Cond.static yX5_leastRingBy, Cond.code yX5_leastRingBy cX5_leastRingBy 6 (some .int), Cond.methodLink RX5 23 yX5_around, Cond.static yX5_around, Cond.code yX5_around cX5_around 6 (some .int), Cond.methodLink RX5 9 yJ6_bitCount_0f7a4, Cond.static yX6_lesser, Cond.code yX6_lesser cX6_lesser 2 (some .int), Cond.methodLink RX1 44 yX1_tablePlace, Cond.instanceMethod yX1_tablePlace, Cond.selects RX1 yX1_tablePlace yX1_tablePlace, Cond.code yX1_tablePlace cX1_tablePlace 5 (some .int), Cond.instanceMethod yX3_edgesInAll, Cond.selects RX3 yX3_edgesInAll yX3_edgesInAll, Cond.code yX3_edgesInAll cX3_edgesInAll 3 (some .int)]
def wsX6_ring : List Cond := .code yX6_ring cX6_ring 4 (some .int) :: ((wsX6_ring_r1 ++ (wsX6_ring_r2 ++ (wsX6_ring_r3 ++ wsX6_ring_r4))) ++ wsX60 ++ wsX30 ++ wsX00 ++ wsX10 ++ (vx_atS RX6 70 "java/lang/IllegalArgumentException" ["java/lang/RuntimeException", "java/lang/Exception"]).filter goodWord)
def wsX6_isSetBelow : List Cond := .code yX6_isSetBelow cX6_isSetBelow 2 (some .boolean) :: ([.methodLink RX6 118 yX6_bit, .static yX6_bit, .initialized RX6, .code yX6_bit cX6_bit 1 (some .int)])
def wsX6_layDouble_r1 : List Cond := [Cond.fieldLink RX6 12 "Shortring" "net" "LShortring$Net;", Cond.fieldLink RX6 16 "Shortring" "scratch" "LShortring$Net;", Cond.instanceMethod yX3_lay, Cond.initialized RX3, Cond.selects RX3 yX3_lay yX3_lay, Cond.code yX3_lay cX3_lay 3 none, Cond.fieldLink RX3 15 "Shortring$Net" "knots" "I", Cond.fieldLink RX3 9 "Shortring$Net" "near" "[I", Cond.instanceMethod yX3_isNear, Cond.selects RX3 yX3_isNear yX3_isNear, Cond.code yX3_isNear cX3_isNear 3 (some .boolean), Cond.methodLink RX3 19 yX3_nearOf, Cond.instanceMethod yX3_nearOf, Cond.selects RX3 yX3_nearOf yX3_nearOf, Cond.code yX3_nearOf cX3_nearOf 2 (some .int), Cond.static yX6_holds, Cond.initialized RX6, Cond.code yX6_holds cX6_holds 2 (some .boolean), Cond.methodLink RX6 386 yX6_holds, Cond.instanceMethod yX3_join, Cond.selects RX3 yX3_join yX3_join, Cond.code yX3_join cX3_join 3 none, Cond.methodLink RX3 32 yX3_isKnot, Cond.instanceMethod yX3_isKnot]
def wsX6_layDouble_r2 : List Cond := [Cond.selects RX3 yX3_isKnot yX3_isKnot, Cond.code yX3_isKnot cX3_isKnot 2 (some .boolean), Cond.static yX6_bit, Cond.code yX6_bit cX6_bit 1 (some .int)]
def wsX6_layDouble : List Cond := .code yX6_layDouble cX6_layDouble 7 none :: ((wsX6_layDouble_r1 ++ wsX6_layDouble_r2) ++ wsX60 ++ wsX30)
def wsX6_doubled_r1 : List Cond := [Cond.classLink RX6 66 "java/lang/IllegalArgumentException", Cond.initialized "java/lang/IllegalArgumentException", Cond.classLink RX6 106 "java/lang/IllegalStateException", Cond.initialized "java/lang/IllegalStateException", Cond.fieldLink RX6 12 "Shortring" "net" "LShortring$Net;", Cond.fieldLink RX6 16 "Shortring" "scratch" "LShortring$Net;", Cond.fieldLink RX6 26 "Shortring" "hunt" "LShortring$Hunt;", Cond.fieldLink RX6 33 "Shortring" "ledger" "LShortring$Ledger;", Cond.instanceMethod yX3_edgesInAll, Cond.initialized RX3, Cond.selects RX3 yX3_edgesInAll yX3_edgesInAll, Cond.code yX3_edgesInAll cX3_edgesInAll 3 (some .int), Cond.fieldLink RX3 15 "Shortring$Net" "knots" "I", Cond.methodLink RX3 39 yX3_countOf, Cond.instanceMethod yX3_countOf, Cond.selects RX3 yX3_countOf yX3_countOf, Cond.code yX3_countOf cX3_countOf 2 (some .int), Cond.methodLink RX3 19 yX3_nearOf, Cond.instanceMethod yX3_nearOf, Cond.selects RX3 yX3_nearOf yX3_nearOf, Cond.code yX3_nearOf cX3_nearOf 2 (some .int), Cond.fieldLink RX3 9 "Shortring$Net" "near" "[I", Cond.methodLink RX3 27 yJ6_bitCount_0f7a4, Cond.static yJ6_bitCount_0f7a4]
def wsX6_doubled_r2 : List Cond := [Cond.initialized RJ6, Cond.code yJ6_bitCount_0f7a4 cJ6_bitCount_0f7a4 1 (some .int), Cond.constant RJ6 265 (1431655765), Cond.constant RJ6 266 (858993459), Cond.constant RJ6 267 (252645135), Cond.methodLink RX6 134 yX6_isSetBelow, Cond.static yX6_isSetBelow, Cond.initialized RX6, Cond.code yX6_isSetBelow cX6_isSetBelow 2 (some .boolean), Cond.methodLink RX6 118 yX6_bit, Cond.static yX6_bit, Cond.code yX6_bit cX6_bit 1 (some .int), Cond.methodLink RX6 62 yX6_isWithin, Cond.static yX6_isWithin, Cond.code yX6_isWithin cX6_isWithin 3 (some .boolean), Cond.methodLink RX6 141 yX6_layDouble, Cond.instanceMethod yX6_layDouble, Cond.selects RX6 yX6_layDouble yX6_layDouble, Cond.code yX6_layDouble cX6_layDouble 7 none, Cond.instanceMethod yX3_lay, Cond.selects RX3 yX3_lay yX3_lay, Cond.code yX3_lay cX3_lay 3 none, Cond.instanceMethod yX3_isNear, Cond.selects RX3 yX3_isNear yX3_isNear]
def wsX6_doubled_r3 : List Cond := [Cond.code yX3_isNear cX3_isNear 3 (some .boolean), Cond.static yX6_holds, Cond.code yX6_holds cX6_holds 2 (some .boolean), Cond.methodLink RX6 386 yX6_holds, Cond.instanceMethod yX3_join, Cond.selects RX3 yX3_join yX3_join, Cond.code yX3_join cX3_join 3 none, Cond.methodLink RX3 32 yX3_isKnot, Cond.instanceMethod yX3_isKnot, Cond.selects RX3 yX3_isKnot yX3_isKnot, Cond.code yX3_isKnot cX3_isKnot 2 (some .boolean), Cond.instanceMethod yX3_take, Cond.selects RX3 yX3_take yX3_take, Cond.code yX3_take cX3_take 3 none, Cond.instanceMethod yX0_end, Cond.initialized RX0, Cond.selects RX0 yX0_end yX0_end, Cond.code yX0_end cX0_end 1 none, Cond.fieldLink RX0 24 "Shortring$Hunt" "isOn" "Z", Cond.instanceMethod yX1_look, Cond.initialized RX1, Cond.selects RX1 yX1_look yX1_look, Cond.code yX1_look cX1_look 4 none, Cond.fieldLink RX1 15 "Shortring$Ledger" "smallest" "[I"]
def wsX6_doubled_r4 : List Cond := [Cond.instanceMethod yX3_evenCount, Cond.selects RX3 yX3_evenCount yX3_evenCount, Cond.code yX3_evenCount cX3_evenCount 3 (some .int), Cond.static yX5_leastRing, Cond.initialized RX5, Cond.code yX5_leastRing cX5_leastRing 3 (some .int), Cond.methodLink RX5 66 yX5_leastRingAt, Cond.static yX5_leastRingAt, Cond.code yX5_leastRingAt cX5_leastRingAt 4 (some .int), Cond.methodLink RX5 60 yX5_leastRingBy, Cond.static yX5_leastRingBy, Cond.code yX5_leastRingBy cX5_leastRingBy 6 (some .int), Cond.methodLink RX5 23 yX5_around, Cond.static yX5_around, Cond.code yX5_around cX5_around 6 (some .int), Cond.methodLink RX5 9 yJ6_bitCount_0f7a4, Cond.static yX6_lesser, Cond.code yX6_lesser cX6_lesser 2 (some .int), Cond.methodLink RX6 324 Lib.Math.min.name, Cond.static Lib.Math.min.name, Cond.initialized "java/lang/Math", Cond.code Lib.Math.min.name Lib.Math.min.code 2 (some .int), Cond.methodLink RX1 44 yX1_tablePlace, Cond.instanceMethod yX1_tablePlace]
def wsX6_doubled_r5 : List Cond := [Cond.selects RX1 yX1_tablePlace yX1_tablePlace, Cond.code yX1_tablePlace cX1_tablePlace 5 (some .int)]
def wsX6_doubled : List Cond := .code yX6_doubled cX6_doubled 2 (some .int) :: ((wsX6_doubled_r1 ++ (wsX6_doubled_r2 ++ (wsX6_doubled_r3 ++ (wsX6_doubled_r4 ++ wsX6_doubled_r5)))) ++ wsX60 ++ wsX30 ++ wsX00 ++ wsX10 ++ (vx_atS RX6 70 "java/lang/IllegalArgumentException" ["java/lang/RuntimeException", "java/lang/Exception"]).filter goodWord ++ (vx_atS RX6 110 "java/lang/IllegalStateException" ["java/lang/RuntimeException", "java/lang/Exception"]).filter goodWord)
def wsX6_turned : List Cond := .code yX6_turned cX6_turned 2 (some .int) :: ([.methodLink RX6 280 yX6_otherOf, .static yX6_otherOf, .initialized RX6, .code yX6_otherOf cX6_otherOf 1 (some .int), .methodLink RX6 277 yX6_oneOf, .static yX6_oneOf, .code yX6_oneOf cX6_oneOf 1 (some .int), .methodLink RX6 389 yX6_pairOf, .static yX6_pairOf, .code yX6_pairOf cX6_pairOf 2 (some .int)])
def wsX6_canExchange_r1 : List Cond := [Cond.fieldLink RX6 12 "Shortring" "net" "LShortring$Net;", Cond.methodLink RX6 277 yX6_oneOf, Cond.static yX6_oneOf, Cond.initialized RX6, Cond.code yX6_oneOf cX6_oneOf 1 (some .int), Cond.methodLink RX6 118 yX6_bit, Cond.static yX6_bit, Cond.code yX6_bit cX6_bit 1 (some .int), Cond.methodLink RX6 280 yX6_otherOf, Cond.static yX6_otherOf, Cond.code yX6_otherOf cX6_otherOf 1 (some .int), Cond.methodLink RX6 270 yJ6_bitCount_0f7a4, Cond.static yJ6_bitCount_0f7a4, Cond.initialized RJ6, Cond.code yJ6_bitCount_0f7a4 cJ6_bitCount_0f7a4 1 (some .int), Cond.constant RJ6 265 (1431655765), Cond.constant RJ6 266 (858993459), Cond.constant RJ6 267 (252645135), Cond.instanceMethod yX3_isNear, Cond.initialized RX3, Cond.selects RX3 yX3_isNear yX3_isNear, Cond.code yX3_isNear cX3_isNear 3 (some .boolean), Cond.methodLink RX3 19 yX3_nearOf, Cond.instanceMethod yX3_nearOf]
def wsX6_canExchange_r2 : List Cond := [Cond.selects RX3 yX3_nearOf yX3_nearOf, Cond.code yX3_nearOf cX3_nearOf 2 (some .int), Cond.fieldLink RX3 9 "Shortring$Net" "near" "[I", Cond.static yX6_holds, Cond.code yX6_holds cX6_holds 2 (some .boolean)]
def wsX6_canExchange : List Cond := .code yX6_canExchange cX6_canExchange 4 (some .boolean) :: ((wsX6_canExchange_r1 ++ wsX6_canExchange_r2) ++ wsX60 ++ wsX30)
def wsX6_exchange : List Cond := .code yX6_exchange cX6_exchange 3 none :: ([.fieldLink RX6 12 "Shortring" "net" "LShortring$Net;", .methodLink RX6 277 yX6_oneOf, .static yX6_oneOf, .initialized RX6, .code yX6_oneOf cX6_oneOf 1 (some .int), .methodLink RX6 280 yX6_otherOf, .static yX6_otherOf, .code yX6_otherOf cX6_otherOf 1 (some .int), .instanceMethod yX3_loosen, .initialized RX3, .selects RX3 yX3_loosen yX3_loosen, .code yX3_loosen cX3_loosen 3 none, .fieldLink RX3 9 "Shortring$Net" "near" "[I", .methodLink RX3 32 yX3_isKnot, .instanceMethod yX3_isKnot, .selects RX3 yX3_isKnot yX3_isKnot, .code yX3_isKnot cX3_isKnot 2 (some .boolean), .fieldLink RX3 15 "Shortring$Net" "knots" "I", .static yX6_bit, .code yX6_bit cX6_bit 1 (some .int), .instanceMethod yX3_join, .selects RX3 yX3_join yX3_join, .code yX3_join cX3_join 3 none] ++ wsX60 ++ wsX30)
def wsX6_swap_r1 : List Cond := [Cond.classLink RX6 91 "java/lang/IndexOutOfBoundsException", Cond.initialized "java/lang/IndexOutOfBoundsException", Cond.fieldLink RX6 12 "Shortring" "net" "LShortring$Net;", Cond.fieldLink RX6 26 "Shortring" "hunt" "LShortring$Hunt;", Cond.fieldLink RX6 33 "Shortring" "ledger" "LShortring$Ledger;", Cond.instanceMethod yX3_edgeAt, Cond.initialized RX3, Cond.selects RX3 yX3_edgeAt yX3_edgeAt, Cond.code yX3_edgeAt cX3_edgeAt 6 (some .int), Cond.fieldLink RX3 15 "Shortring$Net" "knots" "I", Cond.methodLink RX3 19 yX3_nearOf, Cond.instanceMethod yX3_nearOf, Cond.selects RX3 yX3_nearOf yX3_nearOf, Cond.code yX3_nearOf cX3_nearOf 2 (some .int), Cond.fieldLink RX3 9 "Shortring$Net" "near" "[I", Cond.static yX6_bit, Cond.initialized RX6, Cond.code yX6_bit cX6_bit 1 (some .int), Cond.methodLink RX3 27 yJ6_bitCount_0f7a4, Cond.static yJ6_bitCount_0f7a4, Cond.initialized RJ6, Cond.code yJ6_bitCount_0f7a4 cJ6_bitCount_0f7a4 1 (some .int), Cond.constant RJ6 265 (1431655765), Cond.constant RJ6 266 (858993459)]
def wsX6_swap_r2 : List Cond := [Cond.constant RJ6 267 (252645135), Cond.methodLink RX3 42 yX3_numberedIn, Cond.static yX3_numberedIn, Cond.code yX3_numberedIn cX3_numberedIn 4 (some .int), Cond.static yX6_firstOf, Cond.code yX6_firstOf cX6_firstOf 1 (some .int), Cond.methodLink RX6 270 yJ6_bitCount_0f7a4, Cond.static yX6_pairOf, Cond.code yX6_pairOf cX6_pairOf 2 (some .int), Cond.methodLink RX6 158 yX6_turned, Cond.static yX6_turned, Cond.code yX6_turned cX6_turned 2 (some .int), Cond.methodLink RX6 280 yX6_otherOf, Cond.static yX6_otherOf, Cond.code yX6_otherOf cX6_otherOf 1 (some .int), Cond.methodLink RX6 277 yX6_oneOf, Cond.static yX6_oneOf, Cond.code yX6_oneOf cX6_oneOf 1 (some .int), Cond.methodLink RX6 389 yX6_pairOf, Cond.methodLink RX6 162 yX6_canExchange, Cond.instanceMethod yX6_canExchange, Cond.selects RX6 yX6_canExchange yX6_canExchange, Cond.code yX6_canExchange cX6_canExchange 4 (some .boolean), Cond.methodLink RX6 118 yX6_bit]
def wsX6_swap_r3 : List Cond := [Cond.instanceMethod yX3_isNear, Cond.selects RX3 yX3_isNear yX3_isNear, Cond.code yX3_isNear cX3_isNear 3 (some .boolean), Cond.static yX6_holds, Cond.code yX6_holds cX6_holds 2 (some .boolean), Cond.methodLink RX6 165 yX6_exchange, Cond.instanceMethod yX6_exchange, Cond.selects RX6 yX6_exchange yX6_exchange, Cond.code yX6_exchange cX6_exchange 3 none, Cond.instanceMethod yX3_loosen, Cond.selects RX3 yX3_loosen yX3_loosen, Cond.code yX3_loosen cX3_loosen 3 none, Cond.methodLink RX3 32 yX3_isKnot, Cond.instanceMethod yX3_isKnot, Cond.selects RX3 yX3_isKnot yX3_isKnot, Cond.code yX3_isKnot cX3_isKnot 2 (some .boolean), Cond.instanceMethod yX3_join, Cond.selects RX3 yX3_join yX3_join, Cond.code yX3_join cX3_join 3 none, Cond.instanceMethod yX0_end, Cond.initialized RX0, Cond.selects RX0 yX0_end yX0_end, Cond.code yX0_end cX0_end 1 none, Cond.fieldLink RX0 24 "Shortring$Hunt" "isOn" "Z"]
def wsX6_swap_r4 : List Cond := [Cond.instanceMethod yX1_look, Cond.initialized RX1, Cond.selects RX1 yX1_look yX1_look, Cond.code yX1_look cX1_look 4 none, Cond.fieldLink RX1 15 "Shortring$Ledger" "smallest" "[I", Cond.instanceMethod yX3_evenCount, Cond.selects RX3 yX3_evenCount yX3_evenCount, Cond.code yX3_evenCount cX3_evenCount 3 (some .int), Cond.methodLink RX3 39 yX3_countOf, Cond.instanceMethod yX3_countOf, Cond.selects RX3 yX3_countOf yX3_countOf, Cond.code yX3_countOf cX3_countOf 2 (some .int), Cond.static yX6_isWithin, Cond.code yX6_isWithin cX6_isWithin 3 (some .boolean), Cond.static yX5_leastRing, Cond.initialized RX5, Cond.code yX5_leastRing cX5_leastRing 3 (some .int), Cond.methodLink RX5 66 yX5_leastRingAt, Cond.static yX5_leastRingAt, Cond.code yX5_leastRingAt cX5_leastRingAt 4 (some .int), Cond.methodLink RX5 60 yX5_leastRingBy, Cond.static yX5_leastRingBy, Cond.code yX5_leastRingBy cX5_leastRingBy 6 (some .int), Cond.methodLink RX5 23 yX5_around]
def wsX6_swap_r5 : List Cond := [Cond.static yX5_around, Cond.code yX5_around cX5_around 6 (some .int), Cond.methodLink RX5 9 yJ6_bitCount_0f7a4, Cond.static yX6_lesser, Cond.code yX6_lesser cX6_lesser 2 (some .int), Cond.methodLink RX6 324 Lib.Math.min.name, Cond.static Lib.Math.min.name, Cond.initialized "java/lang/Math", Cond.code Lib.Math.min.name Lib.Math.min.code 2 (some .int), Cond.methodLink RX1 44 yX1_tablePlace, Cond.instanceMethod yX1_tablePlace, Cond.selects RX1 yX1_tablePlace yX1_tablePlace, Cond.code yX1_tablePlace cX1_tablePlace 5 (some .int)]
def wsX6_swap : List Cond := .code yX6_swap cX6_swap 6 (some .boolean) :: ((wsX6_swap_r1 ++ (wsX6_swap_r2 ++ (wsX6_swap_r3 ++ (wsX6_swap_r4 ++ wsX6_swap_r5)))) ++ wsX60 ++ wsX30 ++ wsX00 ++ wsX10 ++ (vx_atS RX6 95 "java/lang/IndexOutOfBoundsException" ["java/lang/RuntimeException", "java/lang/Exception"]).filter goodWord)
def wsX6_walk : List Cond := .code yX6_walk cX6_walk 9 none :: ([.instanceMethod yX3_nearOf, .initialized RX3, .selects RX3 yX3_nearOf yX3_nearOf, .code yX3_nearOf cX3_nearOf 2 (some .int), .fieldLink RX3 9 "Shortring$Net" "near" "[I", .methodLink RX6 270 yJ6_bitCount_0f7a4, .static yJ6_bitCount_0f7a4, .initialized RJ6, .code yJ6_bitCount_0f7a4 cJ6_bitCount_0f7a4 1 (some .int), .constant RJ6 265 (1431655765), .constant RJ6 266 (858993459), .constant RJ6 267 (252645135), .methodLink RX6 386 yX6_holds, .static yX6_holds, .initialized RX6, .code yX6_holds cX6_holds 2 (some .boolean), .methodLink RX6 118 yX6_bit, .static yX6_bit, .code yX6_bit cX6_bit 1 (some .int), .methodLink RX6 397 yX6_walk, .static yX6_walk] ++ wsX30)
def wsX6_countRings : List Cond := .code yX6_countRings cX6_countRings 3 none :: ([.fieldLink RX6 51 "Shortring" "tally" "[I", .fieldLink RX6 12 "Shortring" "net" "LShortring$Net;", .methodLink RX6 118 yX6_bit, .static yX6_bit, .initialized RX6, .code yX6_bit cX6_bit 1 (some .int), .methodLink RX6 397 yX6_walk, .static yX6_walk, .code yX6_walk cX6_walk 9 none, .instanceMethod yX3_nearOf, .initialized RX3, .selects RX3 yX3_nearOf yX3_nearOf, .code yX3_nearOf cX3_nearOf 2 (some .int), .fieldLink RX3 9 "Shortring$Net" "near" "[I", .methodLink RX6 270 yJ6_bitCount_0f7a4, .static yJ6_bitCount_0f7a4, .initialized RJ6, .code yJ6_bitCount_0f7a4 cJ6_bitCount_0f7a4 1 (some .int), .constant RJ6 265 (1431655765), .constant RJ6 266 (858993459), .constant RJ6 267 (252645135), .methodLink RX6 386 yX6_holds, .static yX6_holds, .code yX6_holds cX6_holds 2 (some .boolean)] ++ wsX60 ++ wsX30)
def wsX6_tallied : List Cond := .code yX6_tallied cX6_tallied 2 (some .int) :: ([.fieldLink RX6 51 "Shortring" "tally" "[I"] ++ wsX60)
def wsX6_shortRings_r1 : List Cond := [Cond.methodLink RX6 292 yX6_countRings, Cond.instanceMethod yX6_countRings, Cond.selects RX6 yX6_countRings yX6_countRings, Cond.initialized RX6, Cond.code yX6_countRings cX6_countRings 3 none, Cond.fieldLink RX6 51 "Shortring" "tally" "[I", Cond.fieldLink RX6 12 "Shortring" "net" "LShortring$Net;", Cond.methodLink RX6 118 yX6_bit, Cond.static yX6_bit, Cond.code yX6_bit cX6_bit 1 (some .int), Cond.methodLink RX6 397 yX6_walk, Cond.static yX6_walk, Cond.code yX6_walk cX6_walk 9 none, Cond.instanceMethod yX3_nearOf, Cond.initialized RX3, Cond.selects RX3 yX3_nearOf yX3_nearOf, Cond.code yX3_nearOf cX3_nearOf 2 (some .int), Cond.fieldLink RX3 9 "Shortring$Net" "near" "[I", Cond.methodLink RX6 270 yJ6_bitCount_0f7a4, Cond.static yJ6_bitCount_0f7a4, Cond.initialized RJ6, Cond.code yJ6_bitCount_0f7a4 cJ6_bitCount_0f7a4 1 (some .int), Cond.constant RJ6 265 (1431655765), Cond.constant RJ6 266 (858993459)]
def wsX6_shortRings_r2 : List Cond := [Cond.constant RJ6 267 (252645135), Cond.methodLink RX6 386 yX6_holds, Cond.static yX6_holds, Cond.code yX6_holds cX6_holds 2 (some .boolean), Cond.methodLink RX6 295 yX6_tallied, Cond.instanceMethod yX6_tallied, Cond.selects RX6 yX6_tallied yX6_tallied, Cond.code yX6_tallied cX6_tallied 2 (some .int)]
def wsX6_shortRings : List Cond := .code yX6_shortRings cX6_shortRings 4 (some .int) :: ((wsX6_shortRings_r1 ++ wsX6_shortRings_r2) ++ wsX60 ++ wsX30)
def wsX6_mendByRounds_r1 : List Cond := [Cond.fieldLink RX6 12 "Shortring" "net" "LShortring$Net;", Cond.constant RX6 395 (1103515245), Cond.constant RX6 396 (2147483647), Cond.fieldLink RX6 16 "Shortring" "scratch" "LShortring$Net;", Cond.instanceMethod yX3_edgesInAll, Cond.initialized RX3, Cond.selects RX3 yX3_edgesInAll yX3_edgesInAll, Cond.code yX3_edgesInAll cX3_edgesInAll 3 (some .int), Cond.fieldLink RX3 15 "Shortring$Net" "knots" "I", Cond.methodLink RX3 39 yX3_countOf, Cond.instanceMethod yX3_countOf, Cond.selects RX3 yX3_countOf yX3_countOf, Cond.code yX3_countOf cX3_countOf 2 (some .int), Cond.methodLink RX3 19 yX3_nearOf, Cond.instanceMethod yX3_nearOf, Cond.selects RX3 yX3_nearOf yX3_nearOf, Cond.code yX3_nearOf cX3_nearOf 2 (some .int), Cond.fieldLink RX3 9 "Shortring$Net" "near" "[I", Cond.methodLink RX3 27 yJ6_bitCount_0f7a4, Cond.static yJ6_bitCount_0f7a4, Cond.initialized RJ6, Cond.code yJ6_bitCount_0f7a4 cJ6_bitCount_0f7a4 1 (some .int), Cond.constant RJ6 265 (1431655765), Cond.constant RJ6 266 (858993459)]
def wsX6_mendByRounds_r2 : List Cond := [Cond.constant RJ6 267 (252645135), Cond.methodLink RX6 392 yX6_shortRings, Cond.instanceMethod yX6_shortRings, Cond.selects RX6 yX6_shortRings yX6_shortRings, Cond.initialized RX6, Cond.code yX6_shortRings cX6_shortRings 4 (some .int), Cond.methodLink RX6 292 yX6_countRings, Cond.instanceMethod yX6_countRings, Cond.selects RX6 yX6_countRings yX6_countRings, Cond.code yX6_countRings cX6_countRings 3 none, Cond.fieldLink RX6 51 "Shortring" "tally" "[I", Cond.methodLink RX6 118 yX6_bit, Cond.static yX6_bit, Cond.code yX6_bit cX6_bit 1 (some .int), Cond.methodLink RX6 397 yX6_walk, Cond.static yX6_walk, Cond.code yX6_walk cX6_walk 9 none, Cond.methodLink RX6 270 yJ6_bitCount_0f7a4, Cond.methodLink RX6 386 yX6_holds, Cond.static yX6_holds, Cond.code yX6_holds cX6_holds 2 (some .boolean), Cond.methodLink RX6 295 yX6_tallied, Cond.instanceMethod yX6_tallied, Cond.selects RX6 yX6_tallied yX6_tallied]
def wsX6_mendByRounds_r3 : List Cond := [Cond.code yX6_tallied cX6_tallied 2 (some .int), Cond.instanceMethod yX3_edgeAt, Cond.selects RX3 yX3_edgeAt yX3_edgeAt, Cond.code yX3_edgeAt cX3_edgeAt 6 (some .int), Cond.methodLink RX3 42 yX3_numberedIn, Cond.static yX3_numberedIn, Cond.code yX3_numberedIn cX3_numberedIn 4 (some .int), Cond.static yX6_firstOf, Cond.code yX6_firstOf cX6_firstOf 1 (some .int), Cond.static yX6_pairOf, Cond.code yX6_pairOf cX6_pairOf 2 (some .int), Cond.methodLink RX6 158 yX6_turned, Cond.static yX6_turned, Cond.code yX6_turned cX6_turned 2 (some .int), Cond.methodLink RX6 280 yX6_otherOf, Cond.static yX6_otherOf, Cond.code yX6_otherOf cX6_otherOf 1 (some .int), Cond.methodLink RX6 277 yX6_oneOf, Cond.static yX6_oneOf, Cond.code yX6_oneOf cX6_oneOf 1 (some .int), Cond.methodLink RX6 389 yX6_pairOf, Cond.methodLink RX6 162 yX6_canExchange, Cond.instanceMethod yX6_canExchange, Cond.selects RX6 yX6_canExchange yX6_canExchange]
def wsX6_mendByRounds_r4 : List Cond := [Cond.code yX6_canExchange cX6_canExchange 4 (some .boolean), Cond.instanceMethod yX3_isNear, Cond.selects RX3 yX3_isNear yX3_isNear, Cond.code yX3_isNear cX3_isNear 3 (some .boolean), Cond.instanceMethod yX3_take, Cond.selects RX3 yX3_take yX3_take, Cond.code yX3_take cX3_take 3 none, Cond.methodLink RX6 165 yX6_exchange, Cond.instanceMethod yX6_exchange, Cond.selects RX6 yX6_exchange yX6_exchange, Cond.code yX6_exchange cX6_exchange 3 none, Cond.instanceMethod yX3_loosen, Cond.selects RX3 yX3_loosen yX3_loosen, Cond.code yX3_loosen cX3_loosen 3 none, Cond.methodLink RX3 32 yX3_isKnot, Cond.instanceMethod yX3_isKnot, Cond.selects RX3 yX3_isKnot yX3_isKnot, Cond.code yX3_isKnot cX3_isKnot 2 (some .boolean), Cond.instanceMethod yX3_join, Cond.selects RX3 yX3_join yX3_join, Cond.code yX3_join cX3_join 3 none]
def wsX6_mendByRounds : List Cond := .code yX6_mendByRounds cX6_mendByRounds 12 (some .int) :: ((wsX6_mendByRounds_r1 ++ (wsX6_mendByRounds_r2 ++ (wsX6_mendByRounds_r3 ++ wsX6_mendByRounds_r4))) ++ wsX60 ++ wsX30)
def wsX6_mend_r1 : List Cond := [Cond.classLink RX6 66 "java/lang/IllegalArgumentException", Cond.initialized "java/lang/IllegalArgumentException", Cond.classLink RX6 106 "java/lang/IllegalStateException", Cond.initialized "java/lang/IllegalStateException", Cond.fieldLink RX6 12 "Shortring" "net" "LShortring$Net;", Cond.fieldLink RX6 26 "Shortring" "hunt" "LShortring$Hunt;", Cond.fieldLink RX6 33 "Shortring" "ledger" "LShortring$Ledger;", Cond.methodLink RX6 62 yX6_isWithin, Cond.static yX6_isWithin, Cond.initialized RX6, Cond.code yX6_isWithin cX6_isWithin 3 (some .boolean), Cond.instanceMethod yX3_edgesInAll, Cond.initialized RX3, Cond.selects RX3 yX3_edgesInAll yX3_edgesInAll, Cond.code yX3_edgesInAll cX3_edgesInAll 3 (some .int), Cond.fieldLink RX3 15 "Shortring$Net" "knots" "I", Cond.methodLink RX3 39 yX3_countOf, Cond.instanceMethod yX3_countOf, Cond.selects RX3 yX3_countOf yX3_countOf, Cond.code yX3_countOf cX3_countOf 2 (some .int), Cond.methodLink RX3 19 yX3_nearOf, Cond.instanceMethod yX3_nearOf, Cond.selects RX3 yX3_nearOf yX3_nearOf, Cond.code yX3_nearOf cX3_nearOf 2 (some .int)]
def wsX6_mend_r2 : List Cond := [Cond.fieldLink RX3 9 "Shortring$Net" "near" "[I", Cond.methodLink RX3 27 yJ6_bitCount_0f7a4, Cond.static yJ6_bitCount_0f7a4, Cond.initialized RJ6, Cond.code yJ6_bitCount_0f7a4 cJ6_bitCount_0f7a4 1 (some .int), Cond.constant RJ6 265 (1431655765), Cond.constant RJ6 266 (858993459), Cond.constant RJ6 267 (252645135), Cond.methodLink RX6 176 yX6_mendByRounds, Cond.instanceMethod yX6_mendByRounds, Cond.selects RX6 yX6_mendByRounds yX6_mendByRounds, Cond.code yX6_mendByRounds cX6_mendByRounds 12 (some .int), Cond.constant RX6 395 (1103515245), Cond.constant RX6 396 (2147483647), Cond.fieldLink RX6 16 "Shortring" "scratch" "LShortring$Net;", Cond.methodLink RX6 392 yX6_shortRings, Cond.instanceMethod yX6_shortRings, Cond.selects RX6 yX6_shortRings yX6_shortRings, Cond.code yX6_shortRings cX6_shortRings 4 (some .int), Cond.methodLink RX6 292 yX6_countRings, Cond.instanceMethod yX6_countRings, Cond.selects RX6 yX6_countRings yX6_countRings, Cond.code yX6_countRings cX6_countRings 3 none, Cond.fieldLink RX6 51 "Shortring" "tally" "[I"]
def wsX6_mend_r3 : List Cond := [Cond.methodLink RX6 118 yX6_bit, Cond.static yX6_bit, Cond.code yX6_bit cX6_bit 1 (some .int), Cond.methodLink RX6 397 yX6_walk, Cond.static yX6_walk, Cond.code yX6_walk cX6_walk 9 none, Cond.methodLink RX6 270 yJ6_bitCount_0f7a4, Cond.methodLink RX6 386 yX6_holds, Cond.static yX6_holds, Cond.code yX6_holds cX6_holds 2 (some .boolean), Cond.methodLink RX6 295 yX6_tallied, Cond.instanceMethod yX6_tallied, Cond.selects RX6 yX6_tallied yX6_tallied, Cond.code yX6_tallied cX6_tallied 2 (some .int), Cond.instanceMethod yX3_edgeAt, Cond.selects RX3 yX3_edgeAt yX3_edgeAt, Cond.code yX3_edgeAt cX3_edgeAt 6 (some .int), Cond.methodLink RX3 42 yX3_numberedIn, Cond.static yX3_numberedIn, Cond.code yX3_numberedIn cX3_numberedIn 4 (some .int), Cond.static yX6_firstOf, Cond.code yX6_firstOf cX6_firstOf 1 (some .int), Cond.static yX6_pairOf, Cond.code yX6_pairOf cX6_pairOf 2 (some .int)]
def wsX6_mend_r4 : List Cond := [Cond.methodLink RX6 158 yX6_turned, Cond.static yX6_turned, Cond.code yX6_turned cX6_turned 2 (some .int), Cond.methodLink RX6 280 yX6_otherOf, Cond.static yX6_otherOf, Cond.code yX6_otherOf cX6_otherOf 1 (some .int), Cond.methodLink RX6 277 yX6_oneOf, Cond.static yX6_oneOf, Cond.code yX6_oneOf cX6_oneOf 1 (some .int), Cond.methodLink RX6 389 yX6_pairOf, Cond.methodLink RX6 162 yX6_canExchange, Cond.instanceMethod yX6_canExchange, Cond.selects RX6 yX6_canExchange yX6_canExchange, Cond.code yX6_canExchange cX6_canExchange 4 (some .boolean), Cond.instanceMethod yX3_isNear, Cond.selects RX3 yX3_isNear yX3_isNear, Cond.code yX3_isNear cX3_isNear 3 (some .boolean), Cond.instanceMethod yX3_take, Cond.selects RX3 yX3_take yX3_take, Cond.code yX3_take cX3_take 3 none, Cond.methodLink RX6 165 yX6_exchange, Cond.instanceMethod yX6_exchange, Cond.selects RX6 yX6_exchange yX6_exchange, Cond.code yX6_exchange cX6_exchange 3 none]
def wsX6_mend_r5 : List Cond := [Cond.instanceMethod yX3_loosen, Cond.selects RX3 yX3_loosen yX3_loosen, Cond.code yX3_loosen cX3_loosen 3 none, Cond.methodLink RX3 32 yX3_isKnot, Cond.instanceMethod yX3_isKnot, Cond.selects RX3 yX3_isKnot yX3_isKnot, Cond.code yX3_isKnot cX3_isKnot 2 (some .boolean), Cond.instanceMethod yX3_join, Cond.selects RX3 yX3_join yX3_join, Cond.code yX3_join cX3_join 3 none, Cond.instanceMethod yX0_end, Cond.initialized RX0, Cond.selects RX0 yX0_end yX0_end, Cond.code yX0_end cX0_end 1 none, Cond.fieldLink RX0 24 "Shortring$Hunt" "isOn" "Z", Cond.instanceMethod yX1_look, Cond.initialized RX1, Cond.selects RX1 yX1_look yX1_look, Cond.code yX1_look cX1_look 4 none, Cond.fieldLink RX1 15 "Shortring$Ledger" "smallest" "[I", Cond.instanceMethod yX3_evenCount, Cond.selects RX3 yX3_evenCount yX3_evenCount, Cond.code yX3_evenCount cX3_evenCount 3 (some .int), Cond.static yX5_leastRing]
def wsX6_mend_r6 : List Cond := [Cond.initialized RX5, Cond.code yX5_leastRing cX5_leastRing 3 (some .int), Cond.methodLink RX5 66 yX5_leastRingAt, Cond.static yX5_leastRingAt, Cond.code yX5_leastRingAt cX5_leastRingAt 4 (some .int), Cond.methodLink RX5 60 yX5_leastRingBy, Cond.static yX5_leastRingBy, Cond.code yX5_leastRingBy cX5_leastRingBy 6 (some .int), Cond.methodLink RX5 23 yX5_around, Cond.static yX5_around, Cond.code yX5_around cX5_around 6 (some .int), Cond.methodLink RX5 9 yJ6_bitCount_0f7a4, Cond.static yX6_lesser, Cond.code yX6_lesser cX6_lesser 2 (some .int), Cond.methodLink RX6 324 Lib.Math.min.name, Cond.static Lib.Math.min.name, Cond.initialized "java/lang/Math", Cond.code Lib.Math.min.name Lib.Math.min.code 2 (some .int), Cond.methodLink RX1 44 yX1_tablePlace, Cond.instanceMethod yX1_tablePlace, Cond.selects RX1 yX1_tablePlace yX1_tablePlace, Cond.code yX1_tablePlace cX1_tablePlace 5 (some .int)]
def wsX6_mend : List Cond := .code yX6_mend cX6_mend 5 (some .int) :: ((wsX6_mend_r1 ++ (wsX6_mend_r2 ++ (wsX6_mend_r3 ++ (wsX6_mend_r4 ++ (wsX6_mend_r5 ++ wsX6_mend_r6))))) ++ wsX60 ++ wsX30 ++ wsX00 ++ wsX10 ++ (vx_atS RX6 70 "java/lang/IllegalArgumentException" ["java/lang/RuntimeException", "java/lang/Exception"]).filter goodWord ++ (vx_atS RX6 110 "java/lang/IllegalStateException" ["java/lang/RuntimeException", "java/lang/Exception"]).filter goodWord)
def wsX6_requireTabled : List Cond := .code yX6_requireTabled cX6_requireTabled 3 none :: ([.classLink RX6 66 "java/lang/IllegalArgumentException", .initialized "java/lang/IllegalArgumentException", .methodLink RX6 62 yX6_isWithin, .static yX6_isWithin, .initialized RX6, .code yX6_isWithin cX6_isWithin 3 (some .boolean)] ++ (vx_atS RX6 70 "java/lang/IllegalArgumentException" ["java/lang/RuntimeException", "java/lang/Exception"]).filter goodWord)
def wsX6_aim_r1 : List Cond := [Cond.classLink RX6 106 "java/lang/IllegalStateException", Cond.initialized "java/lang/IllegalStateException", Cond.fieldLink RX6 12 "Shortring" "net" "LShortring$Net;", Cond.fieldLink RX6 26 "Shortring" "hunt" "LShortring$Hunt;", Cond.fieldLink RX6 33 "Shortring" "ledger" "LShortring$Ledger;", Cond.methodLink RX6 180 yX6_requireTabled, Cond.instanceMethod yX6_requireTabled, Cond.selects RX6 yX6_requireTabled yX6_requireTabled, Cond.initialized RX6, Cond.code yX6_requireTabled cX6_requireTabled 3 none, Cond.classLink RX6 66 "java/lang/IllegalArgumentException", Cond.initialized "java/lang/IllegalArgumentException", Cond.methodLink RX6 62 yX6_isWithin, Cond.static yX6_isWithin, Cond.code yX6_isWithin cX6_isWithin 3 (some .boolean), Cond.instanceMethod yX3_lay, Cond.initialized RX3, Cond.selects RX3 yX3_lay yX3_lay, Cond.code yX3_lay cX3_lay 3 none, Cond.fieldLink RX3 15 "Shortring$Net" "knots" "I", Cond.fieldLink RX3 9 "Shortring$Net" "near" "[I", Cond.instanceMethod yX0_begin, Cond.initialized RX0, Cond.selects RX0 yX0_begin yX0_begin]
def wsX6_aim_r2 : List Cond := [Cond.code yX0_begin cX0_begin 3 none, Cond.fieldLink RX0 24 "Shortring$Hunt" "isOn" "Z", Cond.fieldLink RX0 32 "Shortring$Hunt" "count" "I", Cond.fieldLink RX0 35 "Shortring$Hunt" "length" "I", Cond.fieldLink RX0 38 "Shortring$Hunt" "steps" "I", Cond.fieldLink RX0 28 "Shortring$Hunt" "state" "I", Cond.fieldLink RX0 41 "Shortring$Hunt" "putMany" "I", Cond.methodLink RX0 44 yX0_unbarDownTo, Cond.instanceMethod yX0_unbarDownTo, Cond.selects RX0 yX0_unbarDownTo yX0_unbarDownTo, Cond.code yX0_unbarDownTo cX0_unbarDownTo 3 none, Cond.fieldLink RX0 68 "Shortring$Hunt" "barMany" "I", Cond.fieldLink RX0 15 "Shortring$Hunt" "bars" "[I", Cond.static yX6_oneOf, Cond.code yX6_oneOf cX6_oneOf 1 (some .int), Cond.static yX6_otherOf, Cond.code yX6_otherOf cX6_otherOf 1 (some .int), Cond.methodLink RX0 90 yX0_flipBar, Cond.instanceMethod yX0_flipBar, Cond.selects RX0 yX0_flipBar yX0_flipBar, Cond.code yX0_flipBar cX0_flipBar 3 none, Cond.fieldLink RX0 9 "Shortring$Hunt" "barredWith" "[I", Cond.static yX6_bit, Cond.code yX6_bit cX6_bit 1 (some .int)]
def wsX6_aim_r3 : List Cond := [Cond.instanceMethod yX1_look, Cond.initialized RX1, Cond.selects RX1 yX1_look yX1_look, Cond.code yX1_look cX1_look 4 none, Cond.fieldLink RX1 15 "Shortring$Ledger" "smallest" "[I", Cond.instanceMethod yX3_evenCount, Cond.selects RX3 yX3_evenCount yX3_evenCount, Cond.code yX3_evenCount cX3_evenCount 3 (some .int), Cond.methodLink RX3 39 yX3_countOf, Cond.instanceMethod yX3_countOf, Cond.selects RX3 yX3_countOf yX3_countOf, Cond.code yX3_countOf cX3_countOf 2 (some .int), Cond.methodLink RX3 19 yX3_nearOf, Cond.instanceMethod yX3_nearOf, Cond.selects RX3 yX3_nearOf yX3_nearOf, Cond.code yX3_nearOf cX3_nearOf 2 (some .int), Cond.methodLink RX3 27 yJ6_bitCount_0f7a4, Cond.static yJ6_bitCount_0f7a4, Cond.initialized RJ6, Cond.code yJ6_bitCount_0f7a4 cJ6_bitCount_0f7a4 1 (some .int), Cond.constant RJ6 265 (1431655765), Cond.constant RJ6 266 (858993459), Cond.constant RJ6 267 (252645135), Cond.static yX5_leastRing]
def wsX6_aim_r4 : List Cond := [Cond.initialized RX5, Cond.code yX5_leastRing cX5_leastRing 3 (some .int), Cond.methodLink RX5 66 yX5_leastRingAt, Cond.static yX5_leastRingAt, Cond.code yX5_leastRingAt cX5_leastRingAt 4 (some .int), Cond.instanceMethod yX3_isNear, Cond.selects RX3 yX3_isNear yX3_isNear, Cond.code yX3_isNear cX3_isNear 3 (some .boolean), Cond.static yX6_holds, Cond.code yX6_holds cX6_holds 2 (some .boolean), Cond.methodLink RX5 60 yX5_leastRingBy, Cond.static yX5_leastRingBy, Cond.code yX5_leastRingBy cX5_leastRingBy 6 (some .int), Cond.methodLink RX5 23 yX5_around, Cond.static yX5_around, Cond.code yX5_around cX5_around 6 (some .int), Cond.methodLink RX5 9 yJ6_bitCount_0f7a4, Cond.static yX6_lesser, Cond.code yX6_lesser cX6_lesser 2 (some .int), Cond.methodLink RX6 324 Lib.Math.min.name, Cond.static Lib.Math.min.name, Cond.initialized "java/lang/Math", Cond.code Lib.Math.min.name Lib.Math.min.code 2 (some .int), Cond.methodLink RX1 44 yX1_tablePlace]
def wsX6_aim_r5 : List Cond := [Cond.instanceMethod yX1_tablePlace, Cond.selects RX1 yX1_tablePlace yX1_tablePlace, Cond.code yX1_tablePlace cX1_tablePlace 5 (some .int), Cond.instanceMethod yX1_why, Cond.selects RX1 yX1_why yX1_why, Cond.code yX1_why cX1_why 4 (some .int), Cond.methodLink RX1 18 yX1_leastKnots, Cond.static yX1_leastKnots, Cond.code yX1_leastKnots cX1_leastKnots 6 (some .int), Cond.methodLink RX1 22 yX1_isProved, Cond.instanceMethod yX1_isProved, Cond.selects RX1 yX1_isProved yX1_isProved, Cond.code yX1_isProved cX1_isProved 6 (some .boolean), Cond.fieldLink RX1 9 "Shortring$Ledger" "leastProved" "[I", Cond.methodLink RX1 29 yX1_proofPlace, Cond.instanceMethod yX1_proofPlace, Cond.selects RX1 yX1_proofPlace yX1_proofPlace, Cond.code yX1_proofPlace cX1_proofPlace 5 (some .int)]
def wsX6_aim : List Cond := .code yX6_aim cX6_aim 3 (some .int) :: ((wsX6_aim_r1 ++ (wsX6_aim_r2 ++ (wsX6_aim_r3 ++ (wsX6_aim_r4 ++ wsX6_aim_r5)))) ++ wsX60 ++ wsX30 ++ wsX00 ++ wsX10 ++ (vx_atS RX6 110 "java/lang/IllegalStateException" ["java/lang/RuntimeException", "java/lang/Exception"]).filter goodWord ++ (vx_atS RX6 70 "java/lang/IllegalArgumentException" ["java/lang/RuntimeException", "java/lang/Exception"]).filter goodWord)
def wsX6_grow_r1 : List Cond := [Cond.classLink RX6 66 "java/lang/IllegalArgumentException", Cond.initialized "java/lang/IllegalArgumentException", Cond.classLink RX6 106 "java/lang/IllegalStateException", Cond.initialized "java/lang/IllegalStateException", Cond.fieldLink RX6 26 "Shortring" "hunt" "LShortring$Hunt;", Cond.fieldLink RX6 12 "Shortring" "net" "LShortring$Net;", Cond.fieldLink RX6 33 "Shortring" "ledger" "LShortring$Ledger;", Cond.methodLink RX6 62 yX6_isWithin, Cond.static yX6_isWithin, Cond.initialized RX6, Cond.code yX6_isWithin cX6_isWithin 3 (some .boolean), Cond.instanceMethod yX0_step, Cond.initialized RX0, Cond.selects RX0 yX0_step yX0_step, Cond.code yX0_step cX0_step 4 none, Cond.fieldLink RX0 38 "Shortring$Hunt" "steps" "I", Cond.fieldLink RX0 28 "Shortring$Hunt" "state" "I", Cond.methodLink RX0 48 yX0_nextKnot, Cond.instanceMethod yX0_nextKnot, Cond.selects RX0 yX0_nextKnot yX0_nextKnot, Cond.code yX0_nextKnot cX0_nextKnot 7 (some .int), Cond.methodLink RX0 112 yX0_needy, Cond.instanceMethod yX0_needy, Cond.selects RX0 yX0_needy yX0_needy]
def wsX6_grow_r2 : List Cond := [Cond.code yX0_needy cX0_needy 4 (some .int), Cond.fieldLink RX0 32 "Shortring$Hunt" "count" "I", Cond.instanceMethod yX3_countOf, Cond.initialized RX3, Cond.selects RX3 yX3_countOf yX3_countOf, Cond.code yX3_countOf cX3_countOf 2 (some .int), Cond.methodLink RX3 19 yX3_nearOf, Cond.instanceMethod yX3_nearOf, Cond.selects RX3 yX3_nearOf yX3_nearOf, Cond.code yX3_nearOf cX3_nearOf 2 (some .int), Cond.fieldLink RX3 9 "Shortring$Net" "near" "[I", Cond.methodLink RX3 27 yJ6_bitCount_0f7a4, Cond.static yJ6_bitCount_0f7a4, Cond.initialized RJ6, Cond.code yJ6_bitCount_0f7a4 cJ6_bitCount_0f7a4 1 (some .int), Cond.constant RJ6 265 (1431655765), Cond.constant RJ6 266 (858993459), Cond.constant RJ6 267 (252645135), Cond.static yX6_bit, Cond.code yX6_bit cX6_bit 1 (some .int), Cond.static yX6_holds, Cond.code yX6_holds cX6_holds 2 (some .boolean), Cond.methodLink RX0 115 yX0_joinableOf, Cond.instanceMethod yX0_joinableOf]
def wsX6_grow_r3 : List Cond := [Cond.selects RX0 yX0_joinableOf yX0_joinableOf, Cond.code yX0_joinableOf cX0_joinableOf 4 (some .int), Cond.fieldLink RX0 9 "Shortring$Hunt" "barredWith" "[I", Cond.fieldLink RX0 35 "Shortring$Hunt" "length" "I", Cond.static yX5_within, Cond.initialized RX5, Cond.code yX5_within cX5_within 6 (some .int), Cond.methodLink RX5 23 yX5_around, Cond.static yX5_around, Cond.code yX5_around cX5_around 6 (some .int), Cond.methodLink RX5 9 yJ6_bitCount_0f7a4, Cond.methodLink RX0 118 yJ6_bitCount_0f7a4, Cond.methodLink RX0 52 yX0_partnerOf, Cond.instanceMethod yX0_partnerOf, Cond.selects RX0 yX0_partnerOf yX0_partnerOf, Cond.code yX0_partnerOf cX0_partnerOf 5 (some .int), Cond.static yX6_firstOf, Cond.code yX6_firstOf cX6_firstOf 1 (some .int), Cond.methodLink RX6 270 yJ6_bitCount_0f7a4, Cond.methodLink RX0 56 yX0_goBack, Cond.instanceMethod yX0_goBack, Cond.selects RX0 yX0_goBack yX0_goBack, Cond.code yX0_goBack cX0_goBack 3 none, Cond.fieldLink RX0 41 "Shortring$Hunt" "putMany" "I"]
def wsX6_grow_r4 : List Cond := [Cond.fieldLink RX0 18 "Shortring$Hunt" "puts" "[I", Cond.fieldLink RX0 21 "Shortring$Hunt" "barsAtPut" "[I", Cond.methodLink RX0 44 yX0_unbarDownTo, Cond.instanceMethod yX0_unbarDownTo, Cond.selects RX0 yX0_unbarDownTo yX0_unbarDownTo, Cond.code yX0_unbarDownTo cX0_unbarDownTo 3 none, Cond.fieldLink RX0 68 "Shortring$Hunt" "barMany" "I", Cond.fieldLink RX0 15 "Shortring$Hunt" "bars" "[I", Cond.static yX6_oneOf, Cond.code yX6_oneOf cX6_oneOf 1 (some .int), Cond.static yX6_otherOf, Cond.code yX6_otherOf cX6_otherOf 1 (some .int), Cond.methodLink RX0 90 yX0_flipBar, Cond.instanceMethod yX0_flipBar, Cond.selects RX0 yX0_flipBar yX0_flipBar, Cond.code yX0_flipBar cX0_flipBar 3 none, Cond.instanceMethod yX3_loosen, Cond.selects RX3 yX3_loosen yX3_loosen, Cond.code yX3_loosen cX3_loosen 3 none, Cond.methodLink RX3 32 yX3_isKnot, Cond.instanceMethod yX3_isKnot, Cond.selects RX3 yX3_isKnot yX3_isKnot, Cond.code yX3_isKnot cX3_isKnot 2 (some .boolean), Cond.fieldLink RX3 15 "Shortring$Net" "knots" "I"]
def wsX6_grow_r5 : List Cond := [Cond.methodLink RX0 87 yX0_bar, Cond.instanceMethod yX0_bar, Cond.selects RX0 yX0_bar yX0_bar, Cond.code yX0_bar cX0_bar 2 none, Cond.methodLink RX0 60 yX0_put, Cond.instanceMethod yX0_put, Cond.selects RX0 yX0_put yX0_put, Cond.code yX0_put cX0_put 4 none, Cond.static yX6_pairOf, Cond.code yX6_pairOf cX6_pairOf 2 (some .int), Cond.instanceMethod yX3_join, Cond.selects RX3 yX3_join yX3_join, Cond.code yX3_join cX3_join 3 none, Cond.instanceMethod yX1_prove, Cond.initialized RX1, Cond.selects RX1 yX1_prove yX1_prove, Cond.code yX1_prove cX1_prove 5 none, Cond.fieldLink RX1 9 "Shortring$Ledger" "leastProved" "[I", Cond.methodLink RX1 29 yX1_proofPlace, Cond.instanceMethod yX1_proofPlace, Cond.selects RX1 yX1_proofPlace yX1_proofPlace, Cond.code yX1_proofPlace cX1_proofPlace 5 (some .int), Cond.methodLink RX1 22 yX1_isProved, Cond.instanceMethod yX1_isProved]
def wsX6_grow_r6 : List Cond := [Cond.selects RX1 yX1_isProved yX1_isProved, Cond.code yX1_isProved cX1_isProved 6 (some .boolean), Cond.instanceMethod yX1_look, Cond.selects RX1 yX1_look yX1_look, Cond.code yX1_look cX1_look 4 none, Cond.fieldLink RX1 15 "Shortring$Ledger" "smallest" "[I", Cond.instanceMethod yX3_evenCount, Cond.selects RX3 yX3_evenCount yX3_evenCount, Cond.code yX3_evenCount cX3_evenCount 3 (some .int), Cond.methodLink RX3 39 yX3_countOf, Cond.static yX5_leastRing, Cond.code yX5_leastRing cX5_leastRing 3 (some .int), Cond.methodLink RX5 66 yX5_leastRingAt, Cond.static yX5_leastRingAt, Cond.code yX5_leastRingAt cX5_leastRingAt 4 (some .int), Cond.instanceMethod yX3_isNear, Cond.selects RX3 yX3_isNear yX3_isNear, Cond.code yX3_isNear cX3_isNear 3 (some .boolean), Cond.methodLink RX5 60 yX5_leastRingBy, Cond.static yX5_leastRingBy, Cond.code yX5_leastRingBy cX5_leastRingBy 6 (some .int), Cond.static yX6_lesser, Cond.code yX6_lesser cX6_lesser 2 (some .int), Cond.methodLink RX6 324 Lib.Math.min.name]
def wsX6_grow_r7 : List Cond := [Cond.static Lib.Math.min.name, Cond.initialized "java/lang/Math", Cond.code Lib.Math.min.name Lib.Math.min.code 2 (some .int), Cond.methodLink RX1 44 yX1_tablePlace, Cond.instanceMethod yX1_tablePlace, Cond.selects RX1 yX1_tablePlace yX1_tablePlace, Cond.code yX1_tablePlace cX1_tablePlace 5 (some .int)]
def wsX6_grow : List Cond := .code yX6_grow cX6_grow 3 (some .int) :: ((wsX6_grow_r1 ++ (wsX6_grow_r2 ++ (wsX6_grow_r3 ++ (wsX6_grow_r4 ++ (wsX6_grow_r5 ++ (wsX6_grow_r6 ++ wsX6_grow_r7)))))) ++ wsX60 ++ wsX00 ++ wsX30 ++ wsX10 ++ (vx_atS RX6 70 "java/lang/IllegalArgumentException" ["java/lang/RuntimeException", "java/lang/Exception"]).filter goodWord ++ (vx_atS RX6 110 "java/lang/IllegalStateException" ["java/lang/RuntimeException", "java/lang/Exception"]).filter goodWord)
def wsX6_search_r1 : List Cond := [Cond.classLink RX6 66 "java/lang/IllegalArgumentException", Cond.initialized "java/lang/IllegalArgumentException", Cond.fieldLink RX6 26 "Shortring" "hunt" "LShortring$Hunt;", Cond.fieldLink RX6 12 "Shortring" "net" "LShortring$Net;", Cond.methodLink RX6 62 yX6_isWithin, Cond.static yX6_isWithin, Cond.initialized RX6, Cond.code yX6_isWithin cX6_isWithin 3 (some .boolean), Cond.instanceMethod yX0_nextKnot, Cond.initialized RX0, Cond.selects RX0 yX0_nextKnot yX0_nextKnot, Cond.code yX0_nextKnot cX0_nextKnot 7 (some .int), Cond.fieldLink RX0 28 "Shortring$Hunt" "state" "I", Cond.methodLink RX0 112 yX0_needy, Cond.instanceMethod yX0_needy, Cond.selects RX0 yX0_needy yX0_needy, Cond.code yX0_needy cX0_needy 4 (some .int), Cond.fieldLink RX0 32 "Shortring$Hunt" "count" "I", Cond.instanceMethod yX3_countOf, Cond.initialized RX3, Cond.selects RX3 yX3_countOf yX3_countOf, Cond.code yX3_countOf cX3_countOf 2 (some .int), Cond.methodLink RX3 19 yX3_nearOf, Cond.instanceMethod yX3_nearOf]
def wsX6_search_r2 : List Cond := [Cond.selects RX3 yX3_nearOf yX3_nearOf, Cond.code yX3_nearOf cX3_nearOf 2 (some .int), Cond.fieldLink RX3 9 "Shortring$Net" "near" "[I", Cond.methodLink RX3 27 yJ6_bitCount_0f7a4, Cond.static yJ6_bitCount_0f7a4, Cond.initialized RJ6, Cond.code yJ6_bitCount_0f7a4 cJ6_bitCount_0f7a4 1 (some .int), Cond.constant RJ6 265 (1431655765), Cond.constant RJ6 266 (858993459), Cond.constant RJ6 267 (252645135), Cond.static yX6_bit, Cond.code yX6_bit cX6_bit 1 (some .int), Cond.static yX6_holds, Cond.code yX6_holds cX6_holds 2 (some .boolean), Cond.methodLink RX0 115 yX0_joinableOf, Cond.instanceMethod yX0_joinableOf, Cond.selects RX0 yX0_joinableOf yX0_joinableOf, Cond.code yX0_joinableOf cX0_joinableOf 4 (some .int), Cond.fieldLink RX0 9 "Shortring$Hunt" "barredWith" "[I", Cond.fieldLink RX0 35 "Shortring$Hunt" "length" "I", Cond.static yX5_within, Cond.initialized RX5, Cond.code yX5_within cX5_within 6 (some .int), Cond.methodLink RX5 23 yX5_around]
def wsX6_search_r3 : List Cond := [Cond.static yX5_around, Cond.code yX5_around cX5_around 6 (some .int), Cond.methodLink RX5 9 yJ6_bitCount_0f7a4, Cond.methodLink RX0 118 yJ6_bitCount_0f7a4, Cond.instanceMethod yX0_partnerOf, Cond.selects RX0 yX0_partnerOf yX0_partnerOf, Cond.code yX0_partnerOf cX0_partnerOf 5 (some .int), Cond.static yX6_firstOf, Cond.code yX6_firstOf cX6_firstOf 1 (some .int), Cond.methodLink RX6 270 yJ6_bitCount_0f7a4]
def wsX6_search : List Cond := .code yX6_search cX6_search 2 (some .int) :: ((wsX6_search_r1 ++ (wsX6_search_r2 ++ wsX6_search_r3)) ++ wsX60 ++ wsX00 ++ wsX30 ++ (vx_atS RX6 70 "java/lang/IllegalArgumentException" ["java/lang/RuntimeException", "java/lang/Exception"]).filter goodWord)
def wsX6_now_r1 : List Cond := [Cond.classLink RX6 66 "java/lang/IllegalArgumentException", Cond.initialized "java/lang/IllegalArgumentException", Cond.fieldLink RX6 12 "Shortring" "net" "LShortring$Net;", Cond.fieldLink RX6 47 "Shortring" "paint" "LShortring$Paint;", Cond.fieldLink RX6 40 "Shortring" "likeness" "LShortring$Likeness;", Cond.fieldLink RX6 55 "Shortring" "keptMany" "I", Cond.fieldLink RX6 59 "Shortring" "refused" "I", Cond.methodLink RX6 62 yX6_isWithin, Cond.static yX6_isWithin, Cond.initialized RX6, Cond.code yX6_isWithin cX6_isWithin 3 (some .boolean), Cond.instanceMethod yX3_edgesInAll, Cond.initialized RX3, Cond.selects RX3 yX3_edgesInAll yX3_edgesInAll, Cond.code yX3_edgesInAll cX3_edgesInAll 3 (some .int), Cond.fieldLink RX3 15 "Shortring$Net" "knots" "I", Cond.methodLink RX3 39 yX3_countOf, Cond.instanceMethod yX3_countOf, Cond.selects RX3 yX3_countOf yX3_countOf, Cond.code yX3_countOf cX3_countOf 2 (some .int), Cond.methodLink RX3 19 yX3_nearOf, Cond.instanceMethod yX3_nearOf, Cond.selects RX3 yX3_nearOf yX3_nearOf, Cond.code yX3_nearOf cX3_nearOf 2 (some .int)]
def wsX6_now_r2 : List Cond := [Cond.fieldLink RX3 9 "Shortring$Net" "near" "[I", Cond.methodLink RX3 27 yJ6_bitCount_0f7a4, Cond.static yJ6_bitCount_0f7a4, Cond.initialized RJ6, Cond.code yJ6_bitCount_0f7a4 cJ6_bitCount_0f7a4 1 (some .int), Cond.constant RJ6 265 (1431655765), Cond.constant RJ6 266 (858993459), Cond.constant RJ6 267 (252645135), Cond.static yX5_partsInAll, Cond.initialized RX5, Cond.code yX5_partsInAll cX5_partsInAll 4 (some .int), Cond.static yX6_holds, Cond.code yX6_holds cX6_holds 2 (some .boolean), Cond.methodLink RX5 41 yX5_partWith, Cond.static yX5_partWith, Cond.code yX5_partWith cX5_partWith 2 (some .int), Cond.methodLink RX5 29 yX5_within, Cond.static yX5_within, Cond.code yX5_within cX5_within 6 (some .int), Cond.static yX6_bit, Cond.code yX6_bit cX6_bit 1 (some .int), Cond.methodLink RX5 23 yX5_around, Cond.static yX5_around, Cond.code yX5_around cX5_around 6 (some .int)]
def wsX6_now_r3 : List Cond := [Cond.methodLink RX5 9 yJ6_bitCount_0f7a4, Cond.static yX5_leastRing, Cond.code yX5_leastRing cX5_leastRing 3 (some .int), Cond.methodLink RX5 66 yX5_leastRingAt, Cond.static yX5_leastRingAt, Cond.code yX5_leastRingAt cX5_leastRingAt 4 (some .int), Cond.instanceMethod yX3_isNear, Cond.selects RX3 yX3_isNear yX3_isNear, Cond.code yX3_isNear cX3_isNear 3 (some .boolean), Cond.methodLink RX5 60 yX5_leastRingBy, Cond.static yX5_leastRingBy, Cond.code yX5_leastRingBy cX5_leastRingBy 6 (some .int), Cond.static yX6_lesser, Cond.code yX6_lesser cX6_lesser 2 (some .int), Cond.methodLink RX6 324 Lib.Math.min.name, Cond.static Lib.Math.min.name, Cond.initialized "java/lang/Math", Cond.code Lib.Math.min.name Lib.Math.min.code 2 (some .int), Cond.instanceMethod yX3_evenCount, Cond.selects RX3 yX3_evenCount yX3_evenCount, Cond.code yX3_evenCount cX3_evenCount 3 (some .int), Cond.static yX5_width, Cond.code yX5_width cX5_width 3 (some .int), Cond.methodLink RX5 51 Lib.Math.max.name]
def wsX6_now_r4 : List Cond := [Cond.static Lib.Math.max.name, Cond.code Lib.Math.max.name Lib.Math.max.code 2 (some .int), Cond.methodLink RX5 44 yX5_partsInAll, Cond.methodLink RX5 48 yX5_greatestDistance, Cond.static yX5_greatestDistance, Cond.code yX5_greatestDistance cX5_greatestDistance 5 (some .int), Cond.instanceMethod yX4_fewest, Cond.initialized RX4, Cond.selects RX4 yX4_fewest yX4_fewest, Cond.code yX4_fewest cX4_fewest 6 (some .int), Cond.methodLink RX4 31 Lib.Math.max.name, Cond.methodLink RX4 37 yX4_fewestOf, Cond.instanceMethod yX4_fewestOf, Cond.selects RX4 yX4_fewestOf yX4_fewestOf, Cond.code yX4_fewestOf cX4_fewestOf 6 (some .int), Cond.fieldLink RX4 9 "Shortring$Paint" "hues" "[I", Cond.methodLink RX4 41 yX4_canPaint, Cond.static yX4_canPaint, Cond.code yX4_canPaint cX4_canPaint 8 (some .boolean), Cond.methodLink RX4 45 yX4_hardest, Cond.static yX4_hardest, Cond.code yX4_hardest cX4_hardest 8 (some .int), Cond.instanceMethod yX2_turnsOf, Cond.initialized RX2]
def wsX6_now_r5 : List Cond := [Cond.selects RX2 yX2_turnsOf yX2_turnsOf, Cond.code yX2_turnsOf cX2_turnsOf 7 (some .int), Cond.fieldLink RX2 12 "Shortring$Likeness" "from" "LShortring$Net;", Cond.fieldLink RX2 18 "Shortring$Likeness" "to" "LShortring$Net;", Cond.methodLink RX2 50 Lib.Math.min.name, Cond.instanceMethod yX3_take, Cond.selects RX3 yX3_take yX3_take, Cond.code yX3_take cX3_take 3 none, Cond.methodLink RX2 46 yX2_partsLike, Cond.instanceMethod yX2_partsLike, Cond.selects RX2 yX2_partsLike yX2_partsLike, Cond.code yX2_partsLike cX2_partsLike 7 (some .int), Cond.methodLink RX2 55 yX2_waysOf, Cond.instanceMethod yX2_waysOf, Cond.selects RX2 yX2_waysOf yX2_waysOf, Cond.code yX2_waysOf cX2_waysOf 4 (some .int), Cond.fieldLink RX2 25 "Shortring$Likeness" "placed" "I", Cond.methodLink RX2 70 yJ6_bitCount_0f7a4, Cond.methodLink RX2 75 yX2_ways, Cond.static yX2_ways, Cond.code yX2_ways cX2_ways 9 (some .int), Cond.methodLink RX2 79 yX2_nextToPlace, Cond.instanceMethod yX2_nextToPlace, Cond.selects RX2 yX2_nextToPlace yX2_nextToPlace]
def wsX6_now_r6 : List Cond := [Cond.code yX2_nextToPlace cX2_nextToPlace 6 (some .int), Cond.methodLink RX2 82 yX2_fitting, Cond.instanceMethod yX2_fitting, Cond.selects RX2 yX2_fitting yX2_fitting, Cond.code yX2_fitting cX2_fitting 8 (some .int), Cond.fieldLink RX2 21 "Shortring$Likeness" "image" "[I", Cond.methodLink RX2 85 yX2_place, Cond.instanceMethod yX2_place, Cond.selects RX2 yX2_place yX2_place, Cond.code yX2_place cX2_place 3 none, Cond.instanceMethod yX3_loneliest, Cond.selects RX3 yX3_loneliest yX3_loneliest, Cond.code yX3_loneliest cX3_loneliest 5 (some .int)]
def wsX6_now : List Cond := .code yX6_now cX6_now 2 (some .int) :: ((wsX6_now_r1 ++ (wsX6_now_r2 ++ (wsX6_now_r3 ++ (wsX6_now_r4 ++ (wsX6_now_r5 ++ wsX6_now_r6))))) ++ wsX60 ++ wsX30 ++ wsX40 ++ wsX20 ++ (vx_atS RX6 70 "java/lang/IllegalArgumentException" ["java/lang/RuntimeException", "java/lang/Exception"]).filter goodWord)
def wsX6_ofKnot_r1 : List Cond := [Cond.classLink RX6 91 "java/lang/IndexOutOfBoundsException", Cond.initialized "java/lang/IndexOutOfBoundsException", Cond.classLink RX6 66 "java/lang/IllegalArgumentException", Cond.initialized "java/lang/IllegalArgumentException", Cond.fieldLink RX6 12 "Shortring" "net" "LShortring$Net;", Cond.fieldLink RX6 26 "Shortring" "hunt" "LShortring$Hunt;", Cond.instanceMethod yX3_isKnot, Cond.initialized RX3, Cond.selects RX3 yX3_isKnot yX3_isKnot, Cond.code yX3_isKnot cX3_isKnot 2 (some .boolean), Cond.fieldLink RX3 15 "Shortring$Net" "knots" "I", Cond.fieldLink RX3 9 "Shortring$Net" "near" "[I", Cond.methodLink RX6 62 yX6_isWithin, Cond.static yX6_isWithin, Cond.initialized RX6, Cond.code yX6_isWithin cX6_isWithin 3 (some .boolean), Cond.instanceMethod yX3_countOf, Cond.selects RX3 yX3_countOf yX3_countOf, Cond.code yX3_countOf cX3_countOf 2 (some .int), Cond.methodLink RX3 19 yX3_nearOf, Cond.instanceMethod yX3_nearOf, Cond.selects RX3 yX3_nearOf yX3_nearOf, Cond.code yX3_nearOf cX3_nearOf 2 (some .int), Cond.methodLink RX3 27 yJ6_bitCount_0f7a4]
def wsX6_ofKnot_r2 : List Cond := [Cond.static yJ6_bitCount_0f7a4, Cond.initialized RJ6, Cond.code yJ6_bitCount_0f7a4 cJ6_bitCount_0f7a4 1 (some .int), Cond.constant RJ6 265 (1431655765), Cond.constant RJ6 266 (858993459), Cond.constant RJ6 267 (252645135), Cond.static yX5_partNumber, Cond.initialized RX5, Cond.code yX5_partNumber cX5_partNumber 5 (some .int), Cond.static yX6_holds, Cond.code yX6_holds cX6_holds 2 (some .boolean), Cond.methodLink RX5 41 yX5_partWith, Cond.static yX5_partWith, Cond.code yX5_partWith cX5_partWith 2 (some .int), Cond.methodLink RX5 29 yX5_within, Cond.static yX5_within, Cond.code yX5_within cX5_within 6 (some .int), Cond.static yX6_bit, Cond.code yX6_bit cX6_bit 1 (some .int), Cond.methodLink RX5 23 yX5_around, Cond.static yX5_around, Cond.code yX5_around cX5_around 6 (some .int), Cond.methodLink RX5 9 yJ6_bitCount_0f7a4, Cond.static yX5_leastRingAt]
def wsX6_ofKnot_r3 : List Cond := [Cond.code yX5_leastRingAt cX5_leastRingAt 4 (some .int), Cond.instanceMethod yX3_isNear, Cond.selects RX3 yX3_isNear yX3_isNear, Cond.code yX3_isNear cX3_isNear 3 (some .boolean), Cond.methodLink RX5 60 yX5_leastRingBy, Cond.static yX5_leastRingBy, Cond.code yX5_leastRingBy cX5_leastRingBy 6 (some .int), Cond.static yX6_lesser, Cond.code yX6_lesser cX6_lesser 2 (some .int), Cond.methodLink RX6 324 Lib.Math.min.name, Cond.static Lib.Math.min.name, Cond.initialized "java/lang/Math", Cond.code Lib.Math.min.name Lib.Math.min.code 2 (some .int), Cond.static yX5_greatestDistance, Cond.code yX5_greatestDistance cX5_greatestDistance 5 (some .int), Cond.instanceMethod yX0_joinable, Cond.initialized RX0, Cond.selects RX0 yX0_joinable yX0_joinable, Cond.code yX0_joinable cX0_joinable 3 (some .int), Cond.fieldLink RX0 24 "Shortring$Hunt" "isOn" "Z", Cond.methodLink RX0 112 yX0_needy, Cond.instanceMethod yX0_needy, Cond.selects RX0 yX0_needy yX0_needy, Cond.code yX0_needy cX0_needy 4 (some .int)]
def wsX6_ofKnot_r4 : List Cond := [Cond.fieldLink RX0 32 "Shortring$Hunt" "count" "I", Cond.methodLink RX0 115 yX0_joinableOf, Cond.instanceMethod yX0_joinableOf, Cond.selects RX0 yX0_joinableOf yX0_joinableOf, Cond.code yX0_joinableOf cX0_joinableOf 4 (some .int), Cond.fieldLink RX0 9 "Shortring$Hunt" "barredWith" "[I", Cond.fieldLink RX0 35 "Shortring$Hunt" "length" "I", Cond.methodLink RX6 270 yJ6_bitCount_0f7a4]
def wsX6_ofKnot : List Cond := .code yX6_ofKnot cX6_ofKnot 3 (some .int) :: ((wsX6_ofKnot_r1 ++ (wsX6_ofKnot_r2 ++ (wsX6_ofKnot_r3 ++ wsX6_ofKnot_r4))) ++ wsX60 ++ wsX30 ++ wsX00 ++ (vx_atS RX6 95 "java/lang/IndexOutOfBoundsException" ["java/lang/RuntimeException", "java/lang/Exception"]).filter goodWord ++ (vx_atS RX6 70 "java/lang/IllegalArgumentException" ["java/lang/RuntimeException", "java/lang/Exception"]).filter goodWord)
def wsX6_ofEdge_r1 : List Cond := [Cond.classLink RX6 91 "java/lang/IndexOutOfBoundsException", Cond.initialized "java/lang/IndexOutOfBoundsException", Cond.classLink RX6 66 "java/lang/IllegalArgumentException", Cond.initialized "java/lang/IllegalArgumentException", Cond.fieldLink RX6 12 "Shortring" "net" "LShortring$Net;", Cond.instanceMethod yX3_edgeAt, Cond.initialized RX3, Cond.selects RX3 yX3_edgeAt yX3_edgeAt, Cond.code yX3_edgeAt cX3_edgeAt 6 (some .int), Cond.fieldLink RX3 15 "Shortring$Net" "knots" "I", Cond.methodLink RX3 19 yX3_nearOf, Cond.instanceMethod yX3_nearOf, Cond.selects RX3 yX3_nearOf yX3_nearOf, Cond.code yX3_nearOf cX3_nearOf 2 (some .int), Cond.fieldLink RX3 9 "Shortring$Net" "near" "[I", Cond.static yX6_bit, Cond.initialized RX6, Cond.code yX6_bit cX6_bit 1 (some .int), Cond.methodLink RX3 27 yJ6_bitCount_0f7a4, Cond.static yJ6_bitCount_0f7a4, Cond.initialized RJ6, Cond.code yJ6_bitCount_0f7a4 cJ6_bitCount_0f7a4 1 (some .int), Cond.constant RJ6 265 (1431655765), Cond.constant RJ6 266 (858993459)]
def wsX6_ofEdge_r2 : List Cond := [Cond.constant RJ6 267 (252645135), Cond.methodLink RX3 42 yX3_numberedIn, Cond.static yX3_numberedIn, Cond.code yX3_numberedIn cX3_numberedIn 4 (some .int), Cond.static yX6_firstOf, Cond.code yX6_firstOf cX6_firstOf 1 (some .int), Cond.methodLink RX6 270 yJ6_bitCount_0f7a4, Cond.static yX6_pairOf, Cond.code yX6_pairOf cX6_pairOf 2 (some .int), Cond.methodLink RX6 62 yX6_isWithin, Cond.static yX6_isWithin, Cond.code yX6_isWithin cX6_isWithin 3 (some .boolean), Cond.methodLink RX6 277 yX6_oneOf, Cond.static yX6_oneOf, Cond.code yX6_oneOf cX6_oneOf 1 (some .int), Cond.methodLink RX6 280 yX6_otherOf, Cond.static yX6_otherOf, Cond.code yX6_otherOf cX6_otherOf 1 (some .int), Cond.static yX5_leastRingBy, Cond.initialized RX5, Cond.code yX5_leastRingBy cX5_leastRingBy 6 (some .int), Cond.methodLink RX5 23 yX5_around, Cond.static yX5_around, Cond.code yX5_around cX5_around 6 (some .int)]
def wsX6_ofEdge_r3 : List Cond := [Cond.methodLink RX5 9 yJ6_bitCount_0f7a4, Cond.static yX6_holds, Cond.code yX6_holds cX6_holds 2 (some .boolean)]
def wsX6_ofEdge : List Cond := .code yX6_ofEdge cX6_ofEdge 4 (some .int) :: ((wsX6_ofEdge_r1 ++ (wsX6_ofEdge_r2 ++ wsX6_ofEdge_r3)) ++ wsX60 ++ wsX30 ++ (vx_atS RX6 95 "java/lang/IndexOutOfBoundsException" ["java/lang/RuntimeException", "java/lang/Exception"]).filter goodWord ++ (vx_atS RX6 70 "java/lang/IllegalArgumentException" ["java/lang/RuntimeException", "java/lang/Exception"]).filter goodWord)
def wsX6_rings_r1 : List Cond := [Cond.classLink RX6 66 "java/lang/IllegalArgumentException", Cond.initialized "java/lang/IllegalArgumentException", Cond.methodLink RX6 62 yX6_isWithin, Cond.static yX6_isWithin, Cond.initialized RX6, Cond.code yX6_isWithin cX6_isWithin 3 (some .boolean), Cond.methodLink RX6 292 yX6_countRings, Cond.instanceMethod yX6_countRings, Cond.selects RX6 yX6_countRings yX6_countRings, Cond.code yX6_countRings cX6_countRings 3 none, Cond.fieldLink RX6 51 "Shortring" "tally" "[I", Cond.fieldLink RX6 12 "Shortring" "net" "LShortring$Net;", Cond.methodLink RX6 118 yX6_bit, Cond.static yX6_bit, Cond.code yX6_bit cX6_bit 1 (some .int), Cond.methodLink RX6 397 yX6_walk, Cond.static yX6_walk, Cond.code yX6_walk cX6_walk 9 none, Cond.instanceMethod yX3_nearOf, Cond.initialized RX3, Cond.selects RX3 yX3_nearOf yX3_nearOf, Cond.code yX3_nearOf cX3_nearOf 2 (some .int), Cond.fieldLink RX3 9 "Shortring$Net" "near" "[I", Cond.methodLink RX6 270 yJ6_bitCount_0f7a4]
def wsX6_rings_r2 : List Cond := [Cond.static yJ6_bitCount_0f7a4, Cond.initialized RJ6, Cond.code yJ6_bitCount_0f7a4 cJ6_bitCount_0f7a4 1 (some .int), Cond.constant RJ6 265 (1431655765), Cond.constant RJ6 266 (858993459), Cond.constant RJ6 267 (252645135), Cond.methodLink RX6 386 yX6_holds, Cond.static yX6_holds, Cond.code yX6_holds cX6_holds 2 (some .boolean), Cond.methodLink RX6 295 yX6_tallied, Cond.instanceMethod yX6_tallied, Cond.selects RX6 yX6_tallied yX6_tallied, Cond.code yX6_tallied cX6_tallied 2 (some .int)]
def wsX6_rings : List Cond := .code yX6_rings cX6_rings 2 (some .int) :: ((wsX6_rings_r1 ++ wsX6_rings_r2) ++ wsX60 ++ wsX30 ++ (vx_atS RX6 70 "java/lang/IllegalArgumentException" ["java/lang/RuntimeException", "java/lang/Exception"]).filter goodWord)
def wsX6_bound : List Cond := .code yX6_bound cX6_bound 3 (some .int) :: ([.methodLink RX6 180 yX6_requireTabled, .instanceMethod yX6_requireTabled, .selects RX6 yX6_requireTabled yX6_requireTabled, .initialized RX6, .code yX6_requireTabled cX6_requireTabled 3 none, .classLink RX6 66 "java/lang/IllegalArgumentException", .initialized "java/lang/IllegalArgumentException", .methodLink RX6 62 yX6_isWithin, .static yX6_isWithin, .code yX6_isWithin cX6_isWithin 3 (some .boolean), .static yX1_leastKnots, .initialized RX1, .code yX1_leastKnots cX1_leastKnots 6 (some .int)] ++ (vx_atS RX6 70 "java/lang/IllegalArgumentException" ["java/lang/RuntimeException", "java/lang/Exception"]).filter goodWord)
def wsX6_table_r1 : List Cond := [Cond.fieldLink RX6 33 "Shortring" "ledger" "LShortring$Ledger;", Cond.methodLink RX6 180 yX6_requireTabled, Cond.instanceMethod yX6_requireTabled, Cond.selects RX6 yX6_requireTabled yX6_requireTabled, Cond.initialized RX6, Cond.code yX6_requireTabled cX6_requireTabled 3 none, Cond.classLink RX6 66 "java/lang/IllegalArgumentException", Cond.initialized "java/lang/IllegalArgumentException", Cond.methodLink RX6 62 yX6_isWithin, Cond.static yX6_isWithin, Cond.code yX6_isWithin cX6_isWithin 3 (some .boolean), Cond.instanceMethod yX1_nextOf, Cond.initialized RX1, Cond.selects RX1 yX1_nextOf yX1_nextOf, Cond.code yX1_nextOf cX1_nextOf 4 (some .int), Cond.methodLink RX1 51 yX1_why, Cond.instanceMethod yX1_why, Cond.selects RX1 yX1_why yX1_why, Cond.code yX1_why cX1_why 4 (some .int), Cond.methodLink RX1 18 yX1_leastKnots, Cond.static yX1_leastKnots, Cond.code yX1_leastKnots cX1_leastKnots 6 (some .int), Cond.methodLink RX1 22 yX1_isProved, Cond.instanceMethod yX1_isProved]
def wsX6_table_r2 : List Cond := [Cond.selects RX1 yX1_isProved yX1_isProved, Cond.code yX1_isProved cX1_isProved 6 (some .boolean), Cond.fieldLink RX1 9 "Shortring$Ledger" "leastProved" "[I", Cond.methodLink RX1 29 yX1_proofPlace, Cond.instanceMethod yX1_proofPlace, Cond.selects RX1 yX1_proofPlace yX1_proofPlace, Cond.code yX1_proofPlace cX1_proofPlace 5 (some .int), Cond.instanceMethod yX1_smallestOf, Cond.selects RX1 yX1_smallestOf yX1_smallestOf, Cond.code yX1_smallestOf cX1_smallestOf 4 (some .int), Cond.fieldLink RX1 15 "Shortring$Ledger" "smallest" "[I", Cond.methodLink RX1 44 yX1_tablePlace, Cond.instanceMethod yX1_tablePlace, Cond.selects RX1 yX1_tablePlace yX1_tablePlace, Cond.code yX1_tablePlace cX1_tablePlace 5 (some .int)]
def wsX6_table : List Cond := .code yX6_table cX6_table 4 (some .int) :: ((wsX6_table_r1 ++ wsX6_table_r2) ++ wsX60 ++ wsX10 ++ (vx_atS RX6 70 "java/lang/IllegalArgumentException" ["java/lang/RuntimeException", "java/lang/Exception"]).filter goodWord)
def wsX6_keep : List Cond := .code yX6_keep cX6_keep 3 (some .int) :: ([.classLink RX6 106 "java/lang/IllegalStateException", .initialized "java/lang/IllegalStateException", .fieldLink RX6 12 "Shortring" "net" "LShortring$Net;", .fieldLink RX6 55 "Shortring" "keptMany" "I", .fieldLink RX6 19 "Shortring" "kept" "[LShortring$Net;", .classLink RX6 9 RX3, .instantiable RX3 2, .initialized RX3, .instanceMethod yX3_init, .code yX3_init cX3_init 1 none, .methodLink RX3 3 objectInit, .instanceMethod objectInit, .code objectInit ⟨#[0xb1]⟩ 1 none, .arrayClass .int, .fieldLink RX3 9 "Shortring$Net" "near" "[I", .fieldLink RX3 15 "Shortring$Net" "knots" "I", .instanceMethod yX3_take, .selects RX3 yX3_take yX3_take, .code yX3_take cX3_take 3 none, .methodLink RX3 19 yX3_nearOf, .instanceMethod yX3_nearOf, .selects RX3 yX3_nearOf yX3_nearOf, .code yX3_nearOf cX3_nearOf 2 (some .int)] ++ wsX60 ++ wsX30 ++ (vx_atS RX6 110 "java/lang/IllegalStateException" ["java/lang/RuntimeException", "java/lang/Exception"]).filter goodWord)
def wsX6_keptAt : List Cond := .code yX6_keptAt cX6_keptAt 2 (some (.object "Shortring$Net")) :: ([.fieldLink RX6 55 "Shortring" "keptMany" "I", .fieldLink RX6 19 "Shortring" "kept" "[LShortring$Net;"] ++ wsX60)
def wsX6_back_r1 : List Cond := [Cond.classLink RX6 91 "java/lang/IndexOutOfBoundsException", Cond.initialized "java/lang/IndexOutOfBoundsException", Cond.fieldLink RX6 12 "Shortring" "net" "LShortring$Net;", Cond.fieldLink RX6 26 "Shortring" "hunt" "LShortring$Hunt;", Cond.fieldLink RX6 33 "Shortring" "ledger" "LShortring$Ledger;", Cond.methodLink RX6 311 yX6_keptAt, Cond.instanceMethod yX6_keptAt, Cond.selects RX6 yX6_keptAt yX6_keptAt, Cond.initialized RX6, Cond.code yX6_keptAt cX6_keptAt 2 (some (.object "Shortring$Net")), Cond.fieldLink RX6 55 "Shortring" "keptMany" "I", Cond.fieldLink RX6 19 "Shortring" "kept" "[LShortring$Net;", Cond.instanceMethod yX3_take, Cond.initialized RX3, Cond.selects RX3 yX3_take yX3_take, Cond.code yX3_take cX3_take 3 none, Cond.fieldLink RX3 15 "Shortring$Net" "knots" "I", Cond.fieldLink RX3 9 "Shortring$Net" "near" "[I", Cond.methodLink RX3 19 yX3_nearOf, Cond.instanceMethod yX3_nearOf, Cond.selects RX3 yX3_nearOf yX3_nearOf, Cond.code yX3_nearOf cX3_nearOf 2 (some .int), Cond.instanceMethod yX0_end, Cond.initialized RX0]
def wsX6_back_r2 : List Cond := [Cond.selects RX0 yX0_end yX0_end, Cond.code yX0_end cX0_end 1 none, Cond.fieldLink RX0 24 "Shortring$Hunt" "isOn" "Z", Cond.instanceMethod yX1_look, Cond.initialized RX1, Cond.selects RX1 yX1_look yX1_look, Cond.code yX1_look cX1_look 4 none, Cond.fieldLink RX1 15 "Shortring$Ledger" "smallest" "[I", Cond.instanceMethod yX3_evenCount, Cond.selects RX3 yX3_evenCount yX3_evenCount, Cond.code yX3_evenCount cX3_evenCount 3 (some .int), Cond.methodLink RX3 39 yX3_countOf, Cond.instanceMethod yX3_countOf, Cond.selects RX3 yX3_countOf yX3_countOf, Cond.code yX3_countOf cX3_countOf 2 (some .int), Cond.methodLink RX3 27 yJ6_bitCount_0f7a4, Cond.static yJ6_bitCount_0f7a4, Cond.initialized RJ6, Cond.code yJ6_bitCount_0f7a4 cJ6_bitCount_0f7a4 1 (some .int), Cond.constant RJ6 265 (1431655765), Cond.constant RJ6 266 (858993459), Cond.constant RJ6 267 (252645135), Cond.static yX6_isWithin, Cond.code yX6_isWithin cX6_isWithin 3 (some .boolean)]
def wsX6_back_r3 : List Cond := [Cond.static yX5_leastRing, Cond.initialized RX5, Cond.code yX5_leastRing cX5_leastRing 3 (some .int), Cond.methodLink RX5 66 yX5_leastRingAt, Cond.static yX5_leastRingAt, Cond.code yX5_leastRingAt cX5_leastRingAt 4 (some .int), Cond.instanceMethod yX3_isNear, Cond.selects RX3 yX3_isNear yX3_isNear, Cond.code yX3_isNear cX3_isNear 3 (some .boolean), Cond.static yX6_holds, Cond.code yX6_holds cX6_holds 2 (some .boolean), Cond.methodLink RX5 60 yX5_leastRingBy, Cond.static yX5_leastRingBy, Cond.code yX5_leastRingBy cX5_leastRingBy 6 (some .int), Cond.static yX6_bit, Cond.code yX6_bit cX6_bit 1 (some .int), Cond.methodLink RX5 23 yX5_around, Cond.static yX5_around, Cond.code yX5_around cX5_around 6 (some .int), Cond.methodLink RX5 9 yJ6_bitCount_0f7a4, Cond.static yX6_lesser, Cond.code yX6_lesser cX6_lesser 2 (some .int), Cond.methodLink RX6 324 Lib.Math.min.name, Cond.static Lib.Math.min.name]
def wsX6_back_r4 : List Cond := [Cond.initialized "java/lang/Math", Cond.code Lib.Math.min.name Lib.Math.min.code 2 (some .int), Cond.methodLink RX1 44 yX1_tablePlace, Cond.instanceMethod yX1_tablePlace, Cond.selects RX1 yX1_tablePlace yX1_tablePlace, Cond.code yX1_tablePlace cX1_tablePlace 5 (some .int), Cond.instanceMethod yX3_edgesInAll, Cond.selects RX3 yX3_edgesInAll yX3_edgesInAll, Cond.code yX3_edgesInAll cX3_edgesInAll 3 (some .int)]
def wsX6_back : List Cond := .code yX6_back cX6_back 3 (some .int) :: ((wsX6_back_r1 ++ (wsX6_back_r2 ++ (wsX6_back_r3 ++ wsX6_back_r4))) ++ wsX60 ++ wsX30 ++ wsX00 ++ wsX10 ++ (vx_atS RX6 95 "java/lang/IndexOutOfBoundsException" ["java/lang/RuntimeException", "java/lang/Exception"]).filter goodWord)
def wsX6_isAlike_r1 : List Cond := [Cond.classLink RX6 91 "java/lang/IndexOutOfBoundsException", Cond.initialized "java/lang/IndexOutOfBoundsException", Cond.fieldLink RX6 40 "Shortring" "likeness" "LShortring$Likeness;", Cond.fieldLink RX6 12 "Shortring" "net" "LShortring$Net;", Cond.methodLink RX6 311 yX6_keptAt, Cond.instanceMethod yX6_keptAt, Cond.selects RX6 yX6_keptAt yX6_keptAt, Cond.initialized RX6, Cond.code yX6_keptAt cX6_keptAt 2 (some (.object "Shortring$Net")), Cond.fieldLink RX6 55 "Shortring" "keptMany" "I", Cond.fieldLink RX6 19 "Shortring" "kept" "[LShortring$Net;", Cond.instanceMethod yX2_areAlike, Cond.initialized RX2, Cond.selects RX2 yX2_areAlike yX2_areAlike, Cond.code yX2_areAlike cX2_areAlike 8 (some .boolean), Cond.fieldLink RX2 12 "Shortring$Likeness" "from" "LShortring$Net;", Cond.fieldLink RX2 18 "Shortring$Likeness" "to" "LShortring$Net;", Cond.instanceMethod yX3_edgesInAll, Cond.initialized RX3, Cond.selects RX3 yX3_edgesInAll yX3_edgesInAll, Cond.code yX3_edgesInAll cX3_edgesInAll 3 (some .int), Cond.fieldLink RX3 15 "Shortring$Net" "knots" "I", Cond.methodLink RX3 39 yX3_countOf, Cond.instanceMethod yX3_countOf]
def wsX6_isAlike_r2 : List Cond := [Cond.selects RX3 yX3_countOf yX3_countOf, Cond.code yX3_countOf cX3_countOf 2 (some .int), Cond.methodLink RX3 19 yX3_nearOf, Cond.instanceMethod yX3_nearOf, Cond.selects RX3 yX3_nearOf yX3_nearOf, Cond.code yX3_nearOf cX3_nearOf 2 (some .int), Cond.fieldLink RX3 9 "Shortring$Net" "near" "[I", Cond.methodLink RX3 27 yJ6_bitCount_0f7a4, Cond.static yJ6_bitCount_0f7a4, Cond.initialized RJ6, Cond.code yJ6_bitCount_0f7a4 cJ6_bitCount_0f7a4 1 (some .int), Cond.constant RJ6 265 (1431655765), Cond.constant RJ6 266 (858993459), Cond.constant RJ6 267 (252645135), Cond.instanceMethod yX3_take, Cond.selects RX3 yX3_take yX3_take, Cond.code yX3_take cX3_take 3 none, Cond.static yX6_bit, Cond.code yX6_bit cX6_bit 1 (some .int), Cond.static yX6_holds, Cond.code yX6_holds cX6_holds 2 (some .boolean), Cond.static yX5_partWith, Cond.initialized RX5, Cond.code yX5_partWith cX5_partWith 2 (some .int)]
def wsX6_isAlike_r3 : List Cond := [Cond.methodLink RX5 29 yX5_within, Cond.static yX5_within, Cond.code yX5_within cX5_within 6 (some .int), Cond.methodLink RX5 23 yX5_around, Cond.static yX5_around, Cond.code yX5_around cX5_around 6 (some .int), Cond.methodLink RX5 9 yJ6_bitCount_0f7a4, Cond.methodLink RX2 67 yX2_partMatching, Cond.instanceMethod yX2_partMatching, Cond.selects RX2 yX2_partMatching yX2_partMatching, Cond.code yX2_partMatching cX2_partMatching 6 (some .int), Cond.methodLink RX2 55 yX2_waysOf, Cond.instanceMethod yX2_waysOf, Cond.selects RX2 yX2_waysOf yX2_waysOf, Cond.code yX2_waysOf cX2_waysOf 4 (some .int), Cond.fieldLink RX2 25 "Shortring$Likeness" "placed" "I", Cond.methodLink RX2 70 yJ6_bitCount_0f7a4, Cond.methodLink RX2 75 yX2_ways, Cond.static yX2_ways, Cond.code yX2_ways cX2_ways 9 (some .int), Cond.methodLink RX2 79 yX2_nextToPlace, Cond.instanceMethod yX2_nextToPlace, Cond.selects RX2 yX2_nextToPlace yX2_nextToPlace, Cond.code yX2_nextToPlace cX2_nextToPlace 6 (some .int)]
def wsX6_isAlike_r4 : List Cond := [Cond.methodLink RX2 82 yX2_fitting, Cond.instanceMethod yX2_fitting, Cond.selects RX2 yX2_fitting yX2_fitting, Cond.code yX2_fitting cX2_fitting 8 (some .int), Cond.fieldLink RX2 21 "Shortring$Likeness" "image" "[I", Cond.methodLink RX2 85 yX2_place, Cond.instanceMethod yX2_place, Cond.selects RX2 yX2_place yX2_place, Cond.code yX2_place cX2_place 3 none]
def wsX6_isAlike : List Cond := .code yX6_isAlike cX6_isAlike 3 (some .boolean) :: ((wsX6_isAlike_r1 ++ (wsX6_isAlike_r2 ++ (wsX6_isAlike_r3 ++ wsX6_isAlike_r4))) ++ wsX60 ++ wsX30 ++ wsX20 ++ (vx_atS RX6 95 "java/lang/IndexOutOfBoundsException" ["java/lang/RuntimeException", "java/lang/Exception"]).filter goodWord)
def wsX6_isAimSound_r1 : List Cond := [Cond.fieldLink RX6 26 "Shortring" "hunt" "LShortring$Hunt;", Cond.fieldLink RX6 12 "Shortring" "net" "LShortring$Net;", Cond.instanceMethod yX3_countOf, Cond.initialized RX3, Cond.selects RX3 yX3_countOf yX3_countOf, Cond.code yX3_countOf cX3_countOf 2 (some .int), Cond.methodLink RX3 19 yX3_nearOf, Cond.instanceMethod yX3_nearOf, Cond.selects RX3 yX3_nearOf yX3_nearOf, Cond.code yX3_nearOf cX3_nearOf 2 (some .int), Cond.fieldLink RX3 9 "Shortring$Net" "near" "[I", Cond.methodLink RX3 27 yJ6_bitCount_0f7a4, Cond.static yJ6_bitCount_0f7a4, Cond.initialized RJ6, Cond.code yJ6_bitCount_0f7a4 cJ6_bitCount_0f7a4 1 (some .int), Cond.constant RJ6 265 (1431655765), Cond.constant RJ6 266 (858993459), Cond.constant RJ6 267 (252645135), Cond.static yX5_leastRing, Cond.initialized RX5, Cond.code yX5_leastRing cX5_leastRing 3 (some .int), Cond.methodLink RX5 66 yX5_leastRingAt, Cond.static yX5_leastRingAt, Cond.code yX5_leastRingAt cX5_leastRingAt 4 (some .int)]
def wsX6_isAimSound_r2 : List Cond := [Cond.instanceMethod yX3_isNear, Cond.selects RX3 yX3_isNear yX3_isNear, Cond.code yX3_isNear cX3_isNear 3 (some .boolean), Cond.static yX6_holds, Cond.initialized RX6, Cond.code yX6_holds cX6_holds 2 (some .boolean), Cond.methodLink RX5 60 yX5_leastRingBy, Cond.static yX5_leastRingBy, Cond.code yX5_leastRingBy cX5_leastRingBy 6 (some .int), Cond.static yX6_bit, Cond.code yX6_bit cX6_bit 1 (some .int), Cond.methodLink RX5 23 yX5_around, Cond.static yX5_around, Cond.code yX5_around cX5_around 6 (some .int), Cond.methodLink RX5 9 yJ6_bitCount_0f7a4, Cond.static yX6_lesser, Cond.code yX6_lesser cX6_lesser 2 (some .int), Cond.methodLink RX6 324 Lib.Math.min.name, Cond.static Lib.Math.min.name, Cond.initialized "java/lang/Math", Cond.code Lib.Math.min.name Lib.Math.min.code 2 (some .int)]
def wsX6_isAimSound : List Cond := .code yX6_isAimSound cX6_isAimSound 2 (some .boolean) :: ((wsX6_isAimSound_r1 ++ wsX6_isAimSound_r2) ++ wsX60 ++ wsX00 ++ wsX30)
def wsX6_isEvenSound_r1 : List Cond := [Cond.fieldLink RX6 12 "Shortring" "net" "LShortring$Net;", Cond.fieldLink RX6 33 "Shortring" "ledger" "LShortring$Ledger;", Cond.instanceMethod yX3_evenCount, Cond.initialized RX3, Cond.selects RX3 yX3_evenCount yX3_evenCount, Cond.code yX3_evenCount cX3_evenCount 3 (some .int), Cond.fieldLink RX3 15 "Shortring$Net" "knots" "I", Cond.methodLink RX3 39 yX3_countOf, Cond.instanceMethod yX3_countOf, Cond.selects RX3 yX3_countOf yX3_countOf, Cond.code yX3_countOf cX3_countOf 2 (some .int), Cond.methodLink RX3 19 yX3_nearOf, Cond.instanceMethod yX3_nearOf, Cond.selects RX3 yX3_nearOf yX3_nearOf, Cond.code yX3_nearOf cX3_nearOf 2 (some .int), Cond.fieldLink RX3 9 "Shortring$Net" "near" "[I", Cond.methodLink RX3 27 yJ6_bitCount_0f7a4, Cond.static yJ6_bitCount_0f7a4, Cond.initialized RJ6, Cond.code yJ6_bitCount_0f7a4 cJ6_bitCount_0f7a4 1 (some .int), Cond.constant RJ6 265 (1431655765), Cond.constant RJ6 266 (858993459), Cond.constant RJ6 267 (252645135), Cond.static yX5_leastRing]
def wsX6_isEvenSound_r2 : List Cond := [Cond.initialized RX5, Cond.code yX5_leastRing cX5_leastRing 3 (some .int), Cond.methodLink RX5 66 yX5_leastRingAt, Cond.static yX5_leastRingAt, Cond.code yX5_leastRingAt cX5_leastRingAt 4 (some .int), Cond.instanceMethod yX3_isNear, Cond.selects RX3 yX3_isNear yX3_isNear, Cond.code yX3_isNear cX3_isNear 3 (some .boolean), Cond.static yX6_holds, Cond.initialized RX6, Cond.code yX6_holds cX6_holds 2 (some .boolean), Cond.methodLink RX5 60 yX5_leastRingBy, Cond.static yX5_leastRingBy, Cond.code yX5_leastRingBy cX5_leastRingBy 6 (some .int), Cond.static yX6_bit, Cond.code yX6_bit cX6_bit 1 (some .int), Cond.methodLink RX5 23 yX5_around, Cond.static yX5_around, Cond.code yX5_around cX5_around 6 (some .int), Cond.methodLink RX5 9 yJ6_bitCount_0f7a4, Cond.static yX6_lesser, Cond.code yX6_lesser cX6_lesser 2 (some .int), Cond.methodLink RX6 324 Lib.Math.min.name, Cond.static Lib.Math.min.name]
def wsX6_isEvenSound_r3 : List Cond := [Cond.initialized "java/lang/Math", Cond.code Lib.Math.min.name Lib.Math.min.code 2 (some .int), Cond.methodLink RX6 62 yX6_isWithin, Cond.static yX6_isWithin, Cond.code yX6_isWithin cX6_isWithin 3 (some .boolean), Cond.instanceMethod yX1_why, Cond.initialized RX1, Cond.selects RX1 yX1_why yX1_why, Cond.code yX1_why cX1_why 4 (some .int), Cond.methodLink RX1 18 yX1_leastKnots, Cond.static yX1_leastKnots, Cond.code yX1_leastKnots cX1_leastKnots 6 (some .int), Cond.methodLink RX1 22 yX1_isProved, Cond.instanceMethod yX1_isProved, Cond.selects RX1 yX1_isProved yX1_isProved, Cond.code yX1_isProved cX1_isProved 6 (some .boolean), Cond.fieldLink RX1 9 "Shortring$Ledger" "leastProved" "[I", Cond.methodLink RX1 29 yX1_proofPlace, Cond.instanceMethod yX1_proofPlace, Cond.selects RX1 yX1_proofPlace yX1_proofPlace, Cond.code yX1_proofPlace cX1_proofPlace 5 (some .int)]
def wsX6_isEvenSound : List Cond := .code yX6_isEvenSound cX6_isEvenSound 3 (some .boolean) :: ((wsX6_isEvenSound_r1 ++ (wsX6_isEvenSound_r2 ++ wsX6_isEvenSound_r3)) ++ wsX60 ++ wsX30 ++ wsX10)
def wsX6_isSound_r1 : List Cond := [Cond.fieldLink RX6 12 "Shortring" "net" "LShortring$Net;", Cond.fieldLink RX6 33 "Shortring" "ledger" "LShortring$Ledger;", Cond.instanceMethod yX3_isMutual, Cond.initialized RX3, Cond.selects RX3 yX3_isMutual yX3_isMutual, Cond.code yX3_isMutual cX3_isMutual 4 (some .boolean), Cond.fieldLink RX3 15 "Shortring$Net" "knots" "I", Cond.methodLink RX3 52 yX3_isNear, Cond.instanceMethod yX3_isNear, Cond.selects RX3 yX3_isNear yX3_isNear, Cond.code yX3_isNear cX3_isNear 3 (some .boolean), Cond.methodLink RX3 19 yX3_nearOf, Cond.instanceMethod yX3_nearOf, Cond.selects RX3 yX3_nearOf yX3_nearOf, Cond.code yX3_nearOf cX3_nearOf 2 (some .int), Cond.fieldLink RX3 9 "Shortring$Net" "near" "[I", Cond.static yX6_holds, Cond.initialized RX6, Cond.code yX6_holds cX6_holds 2 (some .boolean), Cond.methodLink RX6 344 yX6_isAimSound, Cond.instanceMethod yX6_isAimSound, Cond.selects RX6 yX6_isAimSound yX6_isAimSound, Cond.code yX6_isAimSound cX6_isAimSound 2 (some .boolean), Cond.fieldLink RX6 26 "Shortring" "hunt" "LShortring$Hunt;"]
def wsX6_isSound_r2 : List Cond := [Cond.instanceMethod yX3_countOf, Cond.selects RX3 yX3_countOf yX3_countOf, Cond.code yX3_countOf cX3_countOf 2 (some .int), Cond.methodLink RX3 27 yJ6_bitCount_0f7a4, Cond.static yJ6_bitCount_0f7a4, Cond.initialized RJ6, Cond.code yJ6_bitCount_0f7a4 cJ6_bitCount_0f7a4 1 (some .int), Cond.constant RJ6 265 (1431655765), Cond.constant RJ6 266 (858993459), Cond.constant RJ6 267 (252645135), Cond.static yX5_leastRing, Cond.initialized RX5, Cond.code yX5_leastRing cX5_leastRing 3 (some .int), Cond.methodLink RX5 66 yX5_leastRingAt, Cond.static yX5_leastRingAt, Cond.code yX5_leastRingAt cX5_leastRingAt 4 (some .int), Cond.methodLink RX5 60 yX5_leastRingBy, Cond.static yX5_leastRingBy, Cond.code yX5_leastRingBy cX5_leastRingBy 6 (some .int), Cond.static yX6_bit, Cond.code yX6_bit cX6_bit 1 (some .int), Cond.methodLink RX5 23 yX5_around, Cond.static yX5_around, Cond.code yX5_around cX5_around 6 (some .int)]
def wsX6_isSound_r3 : List Cond := [Cond.methodLink RX5 9 yJ6_bitCount_0f7a4, Cond.static yX6_lesser, Cond.code yX6_lesser cX6_lesser 2 (some .int), Cond.methodLink RX6 324 Lib.Math.min.name, Cond.static Lib.Math.min.name, Cond.initialized "java/lang/Math", Cond.code Lib.Math.min.name Lib.Math.min.code 2 (some .int), Cond.methodLink RX6 347 yX6_isEvenSound, Cond.instanceMethod yX6_isEvenSound, Cond.selects RX6 yX6_isEvenSound yX6_isEvenSound, Cond.code yX6_isEvenSound cX6_isEvenSound 3 (some .boolean), Cond.instanceMethod yX3_evenCount, Cond.selects RX3 yX3_evenCount yX3_evenCount, Cond.code yX3_evenCount cX3_evenCount 3 (some .int), Cond.methodLink RX3 39 yX3_countOf, Cond.methodLink RX6 62 yX6_isWithin, Cond.static yX6_isWithin, Cond.code yX6_isWithin cX6_isWithin 3 (some .boolean), Cond.instanceMethod yX1_why, Cond.initialized RX1, Cond.selects RX1 yX1_why yX1_why, Cond.code yX1_why cX1_why 4 (some .int), Cond.methodLink RX1 18 yX1_leastKnots, Cond.static yX1_leastKnots]
def wsX6_isSound_r4 : List Cond := [Cond.code yX1_leastKnots cX1_leastKnots 6 (some .int), Cond.methodLink RX1 22 yX1_isProved, Cond.instanceMethod yX1_isProved, Cond.selects RX1 yX1_isProved yX1_isProved, Cond.code yX1_isProved cX1_isProved 6 (some .boolean), Cond.fieldLink RX1 9 "Shortring$Ledger" "leastProved" "[I", Cond.methodLink RX1 29 yX1_proofPlace, Cond.instanceMethod yX1_proofPlace, Cond.selects RX1 yX1_proofPlace yX1_proofPlace, Cond.code yX1_proofPlace cX1_proofPlace 5 (some .int), Cond.instanceMethod yX1_isTableSound, Cond.selects RX1 yX1_isTableSound yX1_isTableSound, Cond.code yX1_isTableSound cX1_isTableSound 5 (some .boolean), Cond.methodLink RX1 55 yX1_smallestOf, Cond.instanceMethod yX1_smallestOf, Cond.selects RX1 yX1_smallestOf yX1_smallestOf, Cond.code yX1_smallestOf cX1_smallestOf 4 (some .int), Cond.fieldLink RX1 15 "Shortring$Ledger" "smallest" "[I", Cond.methodLink RX1 44 yX1_tablePlace, Cond.instanceMethod yX1_tablePlace, Cond.selects RX1 yX1_tablePlace yX1_tablePlace, Cond.code yX1_tablePlace cX1_tablePlace 5 (some .int), Cond.methodLink RX1 51 yX1_why, Cond.methodLink RX1 58 yX1_nextOf]
def wsX6_isSound_r5 : List Cond := [Cond.instanceMethod yX1_nextOf, Cond.selects RX1 yX1_nextOf yX1_nextOf, Cond.code yX1_nextOf cX1_nextOf 4 (some .int)]
def wsX6_isSound : List Cond := .code yX6_isSound cX6_isSound 1 (some .boolean) :: ((wsX6_isSound_r1 ++ (wsX6_isSound_r2 ++ (wsX6_isSound_r3 ++ (wsX6_isSound_r4 ++ wsX6_isSound_r5)))) ++ wsX60 ++ wsX30 ++ wsX00 ++ wsX10)
def wsX6_digestOfKnots_r1 : List Cond := [Cond.fieldLink RX6 12 "Shortring" "net" "LShortring$Net;", Cond.constantLong RX6 355 (31), Cond.methodLink RX6 401 yX6_ofKnot, Cond.instanceMethod yX6_ofKnot, Cond.selects RX6 yX6_ofKnot yX6_ofKnot, Cond.initialized RX6, Cond.code yX6_ofKnot cX6_ofKnot 3 (some .int), Cond.classLink RX6 91 "java/lang/IndexOutOfBoundsException", Cond.initialized "java/lang/IndexOutOfBoundsException", Cond.classLink RX6 66 "java/lang/IllegalArgumentException", Cond.initialized "java/lang/IllegalArgumentException", Cond.fieldLink RX6 26 "Shortring" "hunt" "LShortring$Hunt;", Cond.instanceMethod yX3_isKnot, Cond.initialized RX3, Cond.selects RX3 yX3_isKnot yX3_isKnot, Cond.code yX3_isKnot cX3_isKnot 2 (some .boolean), Cond.fieldLink RX3 15 "Shortring$Net" "knots" "I", Cond.fieldLink RX3 9 "Shortring$Net" "near" "[I", Cond.methodLink RX6 62 yX6_isWithin, Cond.static yX6_isWithin, Cond.code yX6_isWithin cX6_isWithin 3 (some .boolean), Cond.instanceMethod yX3_countOf, Cond.selects RX3 yX3_countOf yX3_countOf, Cond.code yX3_countOf cX3_countOf 2 (some .int)]
def wsX6_digestOfKnots_r2 : List Cond := [Cond.methodLink RX3 19 yX3_nearOf, Cond.instanceMethod yX3_nearOf, Cond.selects RX3 yX3_nearOf yX3_nearOf, Cond.code yX3_nearOf cX3_nearOf 2 (some .int), Cond.methodLink RX3 27 yJ6_bitCount_0f7a4, Cond.static yJ6_bitCount_0f7a4, Cond.initialized RJ6, Cond.code yJ6_bitCount_0f7a4 cJ6_bitCount_0f7a4 1 (some .int), Cond.constant RJ6 265 (1431655765), Cond.constant RJ6 266 (858993459), Cond.constant RJ6 267 (252645135), Cond.static yX5_partNumber, Cond.initialized RX5, Cond.code yX5_partNumber cX5_partNumber 5 (some .int), Cond.static yX6_holds, Cond.code yX6_holds cX6_holds 2 (some .boolean), Cond.methodLink RX5 41 yX5_partWith, Cond.static yX5_partWith, Cond.code yX5_partWith cX5_partWith 2 (some .int), Cond.methodLink RX5 29 yX5_within, Cond.static yX5_within, Cond.code yX5_within cX5_within 6 (some .int), Cond.static yX6_bit, Cond.code yX6_bit cX6_bit 1 (some .int)]
def wsX6_digestOfKnots_r3 : List Cond := [Cond.methodLink RX5 23 yX5_around, Cond.static yX5_around, Cond.code yX5_around cX5_around 6 (some .int), Cond.methodLink RX5 9 yJ6_bitCount_0f7a4, Cond.static yX5_leastRingAt, Cond.code yX5_leastRingAt cX5_leastRingAt 4 (some .int), Cond.instanceMethod yX3_isNear, Cond.selects RX3 yX3_isNear yX3_isNear, Cond.code yX3_isNear cX3_isNear 3 (some .boolean), Cond.methodLink RX5 60 yX5_leastRingBy, Cond.static yX5_leastRingBy, Cond.code yX5_leastRingBy cX5_leastRingBy 6 (some .int), Cond.static yX6_lesser, Cond.code yX6_lesser cX6_lesser 2 (some .int), Cond.methodLink RX6 324 Lib.Math.min.name, Cond.static Lib.Math.min.name, Cond.initialized "java/lang/Math", Cond.code Lib.Math.min.name Lib.Math.min.code 2 (some .int), Cond.static yX5_greatestDistance, Cond.code yX5_greatestDistance cX5_greatestDistance 5 (some .int), Cond.instanceMethod yX0_joinable, Cond.initialized RX0, Cond.selects RX0 yX0_joinable yX0_joinable, Cond.code yX0_joinable cX0_joinable 3 (some .int)]
def wsX6_digestOfKnots_r4 : List Cond := [Cond.fieldLink RX0 24 "Shortring$Hunt" "isOn" "Z", Cond.methodLink RX0 112 yX0_needy, Cond.instanceMethod yX0_needy, Cond.selects RX0 yX0_needy yX0_needy, Cond.code yX0_needy cX0_needy 4 (some .int), Cond.fieldLink RX0 32 "Shortring$Hunt" "count" "I", Cond.methodLink RX0 115 yX0_joinableOf, Cond.instanceMethod yX0_joinableOf, Cond.selects RX0 yX0_joinableOf yX0_joinableOf, Cond.code yX0_joinableOf cX0_joinableOf 4 (some .int), Cond.fieldLink RX0 9 "Shortring$Hunt" "barredWith" "[I", Cond.fieldLink RX0 35 "Shortring$Hunt" "length" "I", Cond.methodLink RX6 270 yJ6_bitCount_0f7a4]
def wsX6_digestOfKnots : List Cond := .code yX6_digestOfKnots cX6_digestOfKnots 7 (some .long) :: ((wsX6_digestOfKnots_r1 ++ (wsX6_digestOfKnots_r2 ++ (wsX6_digestOfKnots_r3 ++ wsX6_digestOfKnots_r4))) ++ wsX60 ++ wsX30 ++ wsX00 ++ (vx_atS RX6 95 "java/lang/IndexOutOfBoundsException" ["java/lang/RuntimeException", "java/lang/Exception"]).filter goodWord ++ (vx_atS RX6 70 "java/lang/IllegalArgumentException" ["java/lang/RuntimeException", "java/lang/Exception"]).filter goodWord)
def wsX6_digestOfEdges_r1 : List Cond := [Cond.fieldLink RX6 12 "Shortring" "net" "LShortring$Net;", Cond.constantLong RX6 355 (31), Cond.instanceMethod yX3_edgesInAll, Cond.initialized RX3, Cond.selects RX3 yX3_edgesInAll yX3_edgesInAll, Cond.code yX3_edgesInAll cX3_edgesInAll 3 (some .int), Cond.fieldLink RX3 15 "Shortring$Net" "knots" "I", Cond.methodLink RX3 39 yX3_countOf, Cond.instanceMethod yX3_countOf, Cond.selects RX3 yX3_countOf yX3_countOf, Cond.code yX3_countOf cX3_countOf 2 (some .int), Cond.methodLink RX3 19 yX3_nearOf, Cond.instanceMethod yX3_nearOf, Cond.selects RX3 yX3_nearOf yX3_nearOf, Cond.code yX3_nearOf cX3_nearOf 2 (some .int), Cond.fieldLink RX3 9 "Shortring$Net" "near" "[I", Cond.methodLink RX3 27 yJ6_bitCount_0f7a4, Cond.static yJ6_bitCount_0f7a4, Cond.initialized RJ6, Cond.code yJ6_bitCount_0f7a4 cJ6_bitCount_0f7a4 1 (some .int), Cond.constant RJ6 265 (1431655765), Cond.constant RJ6 266 (858993459), Cond.constant RJ6 267 (252645135), Cond.methodLink RX6 404 yX6_ofEdge]
def wsX6_digestOfEdges_r2 : List Cond := [Cond.instanceMethod yX6_ofEdge, Cond.selects RX6 yX6_ofEdge yX6_ofEdge, Cond.initialized RX6, Cond.code yX6_ofEdge cX6_ofEdge 4 (some .int), Cond.classLink RX6 91 "java/lang/IndexOutOfBoundsException", Cond.initialized "java/lang/IndexOutOfBoundsException", Cond.classLink RX6 66 "java/lang/IllegalArgumentException", Cond.initialized "java/lang/IllegalArgumentException", Cond.instanceMethod yX3_edgeAt, Cond.selects RX3 yX3_edgeAt yX3_edgeAt, Cond.code yX3_edgeAt cX3_edgeAt 6 (some .int), Cond.static yX6_bit, Cond.code yX6_bit cX6_bit 1 (some .int), Cond.methodLink RX3 42 yX3_numberedIn, Cond.static yX3_numberedIn, Cond.code yX3_numberedIn cX3_numberedIn 4 (some .int), Cond.static yX6_firstOf, Cond.code yX6_firstOf cX6_firstOf 1 (some .int), Cond.methodLink RX6 270 yJ6_bitCount_0f7a4, Cond.static yX6_pairOf, Cond.code yX6_pairOf cX6_pairOf 2 (some .int), Cond.methodLink RX6 62 yX6_isWithin, Cond.static yX6_isWithin, Cond.code yX6_isWithin cX6_isWithin 3 (some .boolean)]
def wsX6_digestOfEdges_r3 : List Cond := [Cond.methodLink RX6 277 yX6_oneOf, Cond.static yX6_oneOf, Cond.code yX6_oneOf cX6_oneOf 1 (some .int), Cond.methodLink RX6 280 yX6_otherOf, Cond.static yX6_otherOf, Cond.code yX6_otherOf cX6_otherOf 1 (some .int), Cond.static yX5_leastRingBy, Cond.initialized RX5, Cond.code yX5_leastRingBy cX5_leastRingBy 6 (some .int), Cond.methodLink RX5 23 yX5_around, Cond.static yX5_around, Cond.code yX5_around cX5_around 6 (some .int), Cond.methodLink RX5 9 yJ6_bitCount_0f7a4, Cond.static yX6_holds, Cond.code yX6_holds cX6_holds 2 (some .boolean)]
def wsX6_digestOfEdges : List Cond := .code yX6_digestOfEdges cX6_digestOfEdges 8 (some .long) :: ((wsX6_digestOfEdges_r1 ++ (wsX6_digestOfEdges_r2 ++ wsX6_digestOfEdges_r3)) ++ wsX60 ++ wsX30 ++ (vx_atS RX6 95 "java/lang/IndexOutOfBoundsException" ["java/lang/RuntimeException", "java/lang/Exception"]).filter goodWord ++ (vx_atS RX6 70 "java/lang/IllegalArgumentException" ["java/lang/RuntimeException", "java/lang/Exception"]).filter goodWord)
def wsX6_digestOfTable_r1 : List Cond := [Cond.constantLong RX6 355 (31), Cond.methodLink RX6 407 yX6_table, Cond.instanceMethod yX6_table, Cond.selects RX6 yX6_table yX6_table, Cond.initialized RX6, Cond.code yX6_table cX6_table 4 (some .int), Cond.fieldLink RX6 33 "Shortring" "ledger" "LShortring$Ledger;", Cond.methodLink RX6 180 yX6_requireTabled, Cond.instanceMethod yX6_requireTabled, Cond.selects RX6 yX6_requireTabled yX6_requireTabled, Cond.code yX6_requireTabled cX6_requireTabled 3 none, Cond.classLink RX6 66 "java/lang/IllegalArgumentException", Cond.initialized "java/lang/IllegalArgumentException", Cond.methodLink RX6 62 yX6_isWithin, Cond.static yX6_isWithin, Cond.code yX6_isWithin cX6_isWithin 3 (some .boolean), Cond.instanceMethod yX1_nextOf, Cond.initialized RX1, Cond.selects RX1 yX1_nextOf yX1_nextOf, Cond.code yX1_nextOf cX1_nextOf 4 (some .int), Cond.methodLink RX1 51 yX1_why, Cond.instanceMethod yX1_why, Cond.selects RX1 yX1_why yX1_why, Cond.code yX1_why cX1_why 4 (some .int)]
def wsX6_digestOfTable_r2 : List Cond := [Cond.methodLink RX1 18 yX1_leastKnots, Cond.static yX1_leastKnots, Cond.code yX1_leastKnots cX1_leastKnots 6 (some .int), Cond.methodLink RX1 22 yX1_isProved, Cond.instanceMethod yX1_isProved, Cond.selects RX1 yX1_isProved yX1_isProved, Cond.code yX1_isProved cX1_isProved 6 (some .boolean), Cond.fieldLink RX1 9 "Shortring$Ledger" "leastProved" "[I", Cond.methodLink RX1 29 yX1_proofPlace, Cond.instanceMethod yX1_proofPlace, Cond.selects RX1 yX1_proofPlace yX1_proofPlace, Cond.code yX1_proofPlace cX1_proofPlace 5 (some .int), Cond.instanceMethod yX1_smallestOf, Cond.selects RX1 yX1_smallestOf yX1_smallestOf, Cond.code yX1_smallestOf cX1_smallestOf 4 (some .int), Cond.fieldLink RX1 15 "Shortring$Ledger" "smallest" "[I", Cond.methodLink RX1 44 yX1_tablePlace, Cond.instanceMethod yX1_tablePlace, Cond.selects RX1 yX1_tablePlace yX1_tablePlace, Cond.code yX1_tablePlace cX1_tablePlace 5 (some .int)]
def wsX6_digestOfTable : List Cond := .code yX6_digestOfTable cX6_digestOfTable 7 (some .long) :: ((wsX6_digestOfTable_r1 ++ wsX6_digestOfTable_r2) ++ wsX60 ++ wsX10 ++ (vx_atS RX6 70 "java/lang/IllegalArgumentException" ["java/lang/RuntimeException", "java/lang/Exception"]).filter goodWord)
def wsX6_digest_r1 : List Cond := [Cond.constantLong RX6 353 (9241), Cond.constantLong RX6 355 (31), Cond.fieldLink RX6 55 "Shortring" "keptMany" "I", Cond.methodLink RX6 357 yX6_now, Cond.instanceMethod yX6_now, Cond.selects RX6 yX6_now yX6_now, Cond.initialized RX6, Cond.code yX6_now cX6_now 2 (some .int), Cond.classLink RX6 66 "java/lang/IllegalArgumentException", Cond.initialized "java/lang/IllegalArgumentException", Cond.fieldLink RX6 12 "Shortring" "net" "LShortring$Net;", Cond.fieldLink RX6 47 "Shortring" "paint" "LShortring$Paint;", Cond.fieldLink RX6 40 "Shortring" "likeness" "LShortring$Likeness;", Cond.fieldLink RX6 59 "Shortring" "refused" "I", Cond.methodLink RX6 62 yX6_isWithin, Cond.static yX6_isWithin, Cond.code yX6_isWithin cX6_isWithin 3 (some .boolean), Cond.instanceMethod yX3_edgesInAll, Cond.initialized RX3, Cond.selects RX3 yX3_edgesInAll yX3_edgesInAll, Cond.code yX3_edgesInAll cX3_edgesInAll 3 (some .int), Cond.fieldLink RX3 15 "Shortring$Net" "knots" "I", Cond.methodLink RX3 39 yX3_countOf, Cond.instanceMethod yX3_countOf]
def wsX6_digest_r2 : List Cond := [Cond.selects RX3 yX3_countOf yX3_countOf, Cond.code yX3_countOf cX3_countOf 2 (some .int), Cond.methodLink RX3 19 yX3_nearOf, Cond.instanceMethod yX3_nearOf, Cond.selects RX3 yX3_nearOf yX3_nearOf, Cond.code yX3_nearOf cX3_nearOf 2 (some .int), Cond.fieldLink RX3 9 "Shortring$Net" "near" "[I", Cond.methodLink RX3 27 yJ6_bitCount_0f7a4, Cond.static yJ6_bitCount_0f7a4, Cond.initialized RJ6, Cond.code yJ6_bitCount_0f7a4 cJ6_bitCount_0f7a4 1 (some .int), Cond.constant RJ6 265 (1431655765), Cond.constant RJ6 266 (858993459), Cond.constant RJ6 267 (252645135), Cond.static yX5_partsInAll, Cond.initialized RX5, Cond.code yX5_partsInAll cX5_partsInAll 4 (some .int), Cond.static yX6_holds, Cond.code yX6_holds cX6_holds 2 (some .boolean), Cond.methodLink RX5 41 yX5_partWith, Cond.static yX5_partWith, Cond.code yX5_partWith cX5_partWith 2 (some .int), Cond.methodLink RX5 29 yX5_within, Cond.static yX5_within]
def wsX6_digest_r3 : List Cond := [Cond.code yX5_within cX5_within 6 (some .int), Cond.static yX6_bit, Cond.code yX6_bit cX6_bit 1 (some .int), Cond.methodLink RX5 23 yX5_around, Cond.static yX5_around, Cond.code yX5_around cX5_around 6 (some .int), Cond.methodLink RX5 9 yJ6_bitCount_0f7a4, Cond.static yX5_leastRing, Cond.code yX5_leastRing cX5_leastRing 3 (some .int), Cond.methodLink RX5 66 yX5_leastRingAt, Cond.static yX5_leastRingAt, Cond.code yX5_leastRingAt cX5_leastRingAt 4 (some .int), Cond.instanceMethod yX3_isNear, Cond.selects RX3 yX3_isNear yX3_isNear, Cond.code yX3_isNear cX3_isNear 3 (some .boolean), Cond.methodLink RX5 60 yX5_leastRingBy, Cond.static yX5_leastRingBy, Cond.code yX5_leastRingBy cX5_leastRingBy 6 (some .int), Cond.static yX6_lesser, Cond.code yX6_lesser cX6_lesser 2 (some .int), Cond.methodLink RX6 324 Lib.Math.min.name, Cond.static Lib.Math.min.name, Cond.initialized "java/lang/Math", Cond.code Lib.Math.min.name Lib.Math.min.code 2 (some .int)]
def wsX6_digest_r4 : List Cond := [Cond.instanceMethod yX3_evenCount, Cond.selects RX3 yX3_evenCount yX3_evenCount, Cond.code yX3_evenCount cX3_evenCount 3 (some .int), Cond.static yX5_width, Cond.code yX5_width cX5_width 3 (some .int), Cond.methodLink RX5 51 Lib.Math.max.name, Cond.static Lib.Math.max.name, Cond.code Lib.Math.max.name Lib.Math.max.code 2 (some .int), Cond.methodLink RX5 44 yX5_partsInAll, Cond.methodLink RX5 48 yX5_greatestDistance, Cond.static yX5_greatestDistance, Cond.code yX5_greatestDistance cX5_greatestDistance 5 (some .int), Cond.instanceMethod yX4_fewest, Cond.initialized RX4, Cond.selects RX4 yX4_fewest yX4_fewest, Cond.code yX4_fewest cX4_fewest 6 (some .int), Cond.methodLink RX4 31 Lib.Math.max.name, Cond.methodLink RX4 37 yX4_fewestOf, Cond.instanceMethod yX4_fewestOf, Cond.selects RX4 yX4_fewestOf yX4_fewestOf, Cond.code yX4_fewestOf cX4_fewestOf 6 (some .int), Cond.fieldLink RX4 9 "Shortring$Paint" "hues" "[I", Cond.methodLink RX4 41 yX4_canPaint, Cond.static yX4_canPaint]
def wsX6_digest_r5 : List Cond := [Cond.code yX4_canPaint cX4_canPaint 8 (some .boolean), Cond.methodLink RX4 45 yX4_hardest, Cond.static yX4_hardest, Cond.code yX4_hardest cX4_hardest 8 (some .int), Cond.instanceMethod yX2_turnsOf, Cond.initialized RX2, Cond.selects RX2 yX2_turnsOf yX2_turnsOf, Cond.code yX2_turnsOf cX2_turnsOf 7 (some .int), Cond.fieldLink RX2 12 "Shortring$Likeness" "from" "LShortring$Net;", Cond.fieldLink RX2 18 "Shortring$Likeness" "to" "LShortring$Net;", Cond.methodLink RX2 50 Lib.Math.min.name, Cond.instanceMethod yX3_take, Cond.selects RX3 yX3_take yX3_take, Cond.code yX3_take cX3_take 3 none, Cond.methodLink RX2 46 yX2_partsLike, Cond.instanceMethod yX2_partsLike, Cond.selects RX2 yX2_partsLike yX2_partsLike, Cond.code yX2_partsLike cX2_partsLike 7 (some .int), Cond.methodLink RX2 55 yX2_waysOf, Cond.instanceMethod yX2_waysOf, Cond.selects RX2 yX2_waysOf yX2_waysOf, Cond.code yX2_waysOf cX2_waysOf 4 (some .int), Cond.fieldLink RX2 25 "Shortring$Likeness" "placed" "I", Cond.methodLink RX2 70 yJ6_bitCount_0f7a4]
def wsX6_digest_r6 : List Cond := [Cond.methodLink RX2 75 yX2_ways, Cond.static yX2_ways, Cond.code yX2_ways cX2_ways 9 (some .int), Cond.methodLink RX2 79 yX2_nextToPlace, Cond.instanceMethod yX2_nextToPlace, Cond.selects RX2 yX2_nextToPlace yX2_nextToPlace, Cond.code yX2_nextToPlace cX2_nextToPlace 6 (some .int), Cond.methodLink RX2 82 yX2_fitting, Cond.instanceMethod yX2_fitting, Cond.selects RX2 yX2_fitting yX2_fitting, Cond.code yX2_fitting cX2_fitting 8 (some .int), Cond.fieldLink RX2 21 "Shortring$Likeness" "image" "[I", Cond.methodLink RX2 85 yX2_place, Cond.instanceMethod yX2_place, Cond.selects RX2 yX2_place yX2_place, Cond.code yX2_place cX2_place 3 none, Cond.instanceMethod yX3_loneliest, Cond.selects RX3 yX3_loneliest yX3_loneliest, Cond.code yX3_loneliest cX3_loneliest 5 (some .int), Cond.methodLink RX6 360 yX6_search, Cond.instanceMethod yX6_search, Cond.selects RX6 yX6_search yX6_search, Cond.code yX6_search cX6_search 2 (some .int), Cond.fieldLink RX6 26 "Shortring" "hunt" "LShortring$Hunt;"]
def wsX6_digest_r7 : List Cond := [Cond.instanceMethod yX0_nextKnot, Cond.initialized RX0, Cond.selects RX0 yX0_nextKnot yX0_nextKnot, Cond.code yX0_nextKnot cX0_nextKnot 7 (some .int), Cond.fieldLink RX0 28 "Shortring$Hunt" "state" "I", Cond.methodLink RX0 112 yX0_needy, Cond.instanceMethod yX0_needy, Cond.selects RX0 yX0_needy yX0_needy, Cond.code yX0_needy cX0_needy 4 (some .int), Cond.fieldLink RX0 32 "Shortring$Hunt" "count" "I", Cond.methodLink RX0 115 yX0_joinableOf, Cond.instanceMethod yX0_joinableOf, Cond.selects RX0 yX0_joinableOf yX0_joinableOf, Cond.code yX0_joinableOf cX0_joinableOf 4 (some .int), Cond.fieldLink RX0 9 "Shortring$Hunt" "barredWith" "[I", Cond.fieldLink RX0 35 "Shortring$Hunt" "length" "I", Cond.methodLink RX0 118 yJ6_bitCount_0f7a4, Cond.instanceMethod yX0_partnerOf, Cond.selects RX0 yX0_partnerOf yX0_partnerOf, Cond.code yX0_partnerOf cX0_partnerOf 5 (some .int), Cond.static yX6_firstOf, Cond.code yX6_firstOf cX6_firstOf 1 (some .int), Cond.methodLink RX6 270 yJ6_bitCount_0f7a4, Cond.methodLink RX6 363 yX6_digestOfKnots]
def wsX6_digest_r8 : List Cond := [Cond.instanceMethod yX6_digestOfKnots, Cond.selects RX6 yX6_digestOfKnots yX6_digestOfKnots, Cond.code yX6_digestOfKnots cX6_digestOfKnots 7 (some .long), Cond.methodLink RX6 401 yX6_ofKnot, Cond.instanceMethod yX6_ofKnot, Cond.selects RX6 yX6_ofKnot yX6_ofKnot, Cond.code yX6_ofKnot cX6_ofKnot 3 (some .int), Cond.classLink RX6 91 "java/lang/IndexOutOfBoundsException", Cond.initialized "java/lang/IndexOutOfBoundsException", Cond.instanceMethod yX3_isKnot, Cond.selects RX3 yX3_isKnot yX3_isKnot, Cond.code yX3_isKnot cX3_isKnot 2 (some .boolean), Cond.static yX5_partNumber, Cond.code yX5_partNumber cX5_partNumber 5 (some .int), Cond.instanceMethod yX0_joinable, Cond.selects RX0 yX0_joinable yX0_joinable, Cond.code yX0_joinable cX0_joinable 3 (some .int), Cond.fieldLink RX0 24 "Shortring$Hunt" "isOn" "Z", Cond.methodLink RX6 367 yX6_digestOfEdges, Cond.instanceMethod yX6_digestOfEdges, Cond.selects RX6 yX6_digestOfEdges yX6_digestOfEdges, Cond.code yX6_digestOfEdges cX6_digestOfEdges 8 (some .long), Cond.methodLink RX6 404 yX6_ofEdge, Cond.instanceMethod yX6_ofEdge]
def wsX6_digest_r9 : List Cond := [Cond.selects RX6 yX6_ofEdge yX6_ofEdge, Cond.code yX6_ofEdge cX6_ofEdge 4 (some .int), Cond.instanceMethod yX3_edgeAt, Cond.selects RX3 yX3_edgeAt yX3_edgeAt, Cond.code yX3_edgeAt cX3_edgeAt 6 (some .int), Cond.methodLink RX3 42 yX3_numberedIn, Cond.static yX3_numberedIn, Cond.code yX3_numberedIn cX3_numberedIn 4 (some .int), Cond.static yX6_pairOf, Cond.code yX6_pairOf cX6_pairOf 2 (some .int), Cond.methodLink RX6 277 yX6_oneOf, Cond.static yX6_oneOf, Cond.code yX6_oneOf cX6_oneOf 1 (some .int), Cond.methodLink RX6 280 yX6_otherOf, Cond.static yX6_otherOf, Cond.code yX6_otherOf cX6_otherOf 1 (some .int), Cond.methodLink RX6 370 yX6_rings, Cond.instanceMethod yX6_rings, Cond.selects RX6 yX6_rings yX6_rings, Cond.code yX6_rings cX6_rings 2 (some .int), Cond.methodLink RX6 292 yX6_countRings, Cond.instanceMethod yX6_countRings, Cond.selects RX6 yX6_countRings yX6_countRings, Cond.code yX6_countRings cX6_countRings 3 none]
def wsX6_digest_r10 : List Cond := [Cond.fieldLink RX6 51 "Shortring" "tally" "[I", Cond.methodLink RX6 118 yX6_bit, Cond.methodLink RX6 397 yX6_walk, Cond.static yX6_walk, Cond.code yX6_walk cX6_walk 9 none, Cond.methodLink RX6 386 yX6_holds, Cond.methodLink RX6 295 yX6_tallied, Cond.instanceMethod yX6_tallied, Cond.selects RX6 yX6_tallied yX6_tallied, Cond.code yX6_tallied cX6_tallied 2 (some .int), Cond.methodLink RX6 373 yX6_digestOfTable, Cond.instanceMethod yX6_digestOfTable, Cond.selects RX6 yX6_digestOfTable yX6_digestOfTable, Cond.code yX6_digestOfTable cX6_digestOfTable 7 (some .long), Cond.methodLink RX6 407 yX6_table, Cond.instanceMethod yX6_table, Cond.selects RX6 yX6_table yX6_table, Cond.code yX6_table cX6_table 4 (some .int), Cond.fieldLink RX6 33 "Shortring" "ledger" "LShortring$Ledger;", Cond.methodLink RX6 180 yX6_requireTabled, Cond.instanceMethod yX6_requireTabled, Cond.selects RX6 yX6_requireTabled yX6_requireTabled, Cond.code yX6_requireTabled cX6_requireTabled 3 none, Cond.instanceMethod yX1_nextOf]
def wsX6_digest_r11 : List Cond := [Cond.initialized RX1, Cond.selects RX1 yX1_nextOf yX1_nextOf, Cond.code yX1_nextOf cX1_nextOf 4 (some .int), Cond.methodLink RX1 51 yX1_why, Cond.instanceMethod yX1_why, Cond.selects RX1 yX1_why yX1_why, Cond.code yX1_why cX1_why 4 (some .int), Cond.methodLink RX1 18 yX1_leastKnots, Cond.static yX1_leastKnots, Cond.code yX1_leastKnots cX1_leastKnots 6 (some .int), Cond.methodLink RX1 22 yX1_isProved, Cond.instanceMethod yX1_isProved, Cond.selects RX1 yX1_isProved yX1_isProved, Cond.code yX1_isProved cX1_isProved 6 (some .boolean), Cond.fieldLink RX1 9 "Shortring$Ledger" "leastProved" "[I", Cond.methodLink RX1 29 yX1_proofPlace, Cond.instanceMethod yX1_proofPlace, Cond.selects RX1 yX1_proofPlace yX1_proofPlace, Cond.code yX1_proofPlace cX1_proofPlace 5 (some .int), Cond.instanceMethod yX1_smallestOf, Cond.selects RX1 yX1_smallestOf yX1_smallestOf, Cond.code yX1_smallestOf cX1_smallestOf 4 (some .int), Cond.fieldLink RX1 15 "Shortring$Ledger" "smallest" "[I", Cond.methodLink RX1 44 yX1_tablePlace]
def wsX6_digest_r12 : List Cond := [Cond.instanceMethod yX1_tablePlace, Cond.selects RX1 yX1_tablePlace yX1_tablePlace, Cond.code yX1_tablePlace cX1_tablePlace 5 (some .int), Cond.methodLink RX6 376 yX6_isAlike, Cond.instanceMethod yX6_isAlike, Cond.selects RX6 yX6_isAlike yX6_isAlike, Cond.code yX6_isAlike cX6_isAlike 3 (some .boolean), Cond.methodLink RX6 311 yX6_keptAt, Cond.instanceMethod yX6_keptAt, Cond.selects RX6 yX6_keptAt yX6_keptAt, Cond.code yX6_keptAt cX6_keptAt 2 (some (.object "Shortring$Net")), Cond.fieldLink RX6 19 "Shortring" "kept" "[LShortring$Net;", Cond.instanceMethod yX2_areAlike, Cond.selects RX2 yX2_areAlike yX2_areAlike, Cond.code yX2_areAlike cX2_areAlike 8 (some .boolean), Cond.methodLink RX2 67 yX2_partMatching, Cond.instanceMethod yX2_partMatching, Cond.selects RX2 yX2_partMatching yX2_partMatching, Cond.code yX2_partMatching cX2_partMatching 6 (some .int), Cond.methodLink RX6 379 yX6_isSound, Cond.instanceMethod yX6_isSound, Cond.selects RX6 yX6_isSound yX6_isSound, Cond.code yX6_isSound cX6_isSound 1 (some .boolean), Cond.instanceMethod yX3_isMutual]
def wsX6_digest_r13 : List Cond := [Cond.selects RX3 yX3_isMutual yX3_isMutual, Cond.code yX3_isMutual cX3_isMutual 4 (some .boolean), Cond.methodLink RX3 52 yX3_isNear, Cond.methodLink RX6 344 yX6_isAimSound, Cond.instanceMethod yX6_isAimSound, Cond.selects RX6 yX6_isAimSound yX6_isAimSound, Cond.code yX6_isAimSound cX6_isAimSound 2 (some .boolean), Cond.methodLink RX6 347 yX6_isEvenSound, Cond.instanceMethod yX6_isEvenSound, Cond.selects RX6 yX6_isEvenSound yX6_isEvenSound, Cond.code yX6_isEvenSound cX6_isEvenSound 3 (some .boolean), Cond.instanceMethod yX1_isTableSound, Cond.selects RX1 yX1_isTableSound yX1_isTableSound, Cond.code yX1_isTableSound cX1_isTableSound 5 (some .boolean), Cond.methodLink RX1 55 yX1_smallestOf, Cond.methodLink RX1 58 yX1_nextOf]
def wsX6_digest : List Cond := .code yX6_digest cX6_digest 4 (some .long) :: ((wsX6_digest_r1 ++ (wsX6_digest_r2 ++ (wsX6_digest_r3 ++ (wsX6_digest_r4 ++ (wsX6_digest_r5 ++ (wsX6_digest_r6 ++ (wsX6_digest_r7 ++ (wsX6_digest_r8 ++ (wsX6_digest_r9 ++ (wsX6_digest_r10 ++ (wsX6_digest_r11 ++ (wsX6_digest_r12 ++ wsX6_digest_r13)))))))))))) ++ wsX60 ++ wsX30 ++ wsX40 ++ wsX20 ++ wsX00 ++ wsX10 ++ (vx_atS RX6 70 "java/lang/IllegalArgumentException" ["java/lang/RuntimeException", "java/lang/Exception"]).filter goodWord ++ (vx_atS RX6 95 "java/lang/IndexOutOfBoundsException" ["java/lang/RuntimeException", "java/lang/Exception"]).filter goodWord)
def wsJ9_max_7cf53 : List Cond := .code yJ9_max_7cf53 cJ9_max_7cf53 2 (some .int) :: ([])
def wsJ9_min_7cf53 : List Cond := .code yJ9_min_7cf53 cJ9_min_7cf53 2 (some .int) :: ([])
def wsL_below : List Cond := .code yL_below cL_below 2 (some .int) :: ([.constant RL 7 (2147483647)])
def wsL_cell : List Cond := .code yL_cell cL_cell 2 (some .int) :: ([.constant RL 8 (790386105)])
def wsL_act_r1 : List Cond := [Cond.classLink RL 87 "java/lang/IndexOutOfBoundsException", Cond.classLink RL 89 "java/lang/IllegalArgumentException", Cond.classLink RL 91 "java/lang/IllegalStateException", Cond.methodLink RL 59 Lib.Math.min.name, Cond.static Lib.Math.min.name, Cond.initialized "java/lang/Math", Cond.code Lib.Math.min.name Lib.Math.min.code 2 (some .int), Cond.methodLink RL 18 yL_below, Cond.static yL_below, Cond.initialized RL, Cond.code yL_below cL_below 2 (some .int), Cond.constant RL 7 (2147483647), Cond.methodLink RL 22 yX6_garden, Cond.instanceMethod yX6_garden, Cond.selects RX6 yX6_garden yX6_garden, Cond.initialized RX6, Cond.code yX6_garden cX6_garden 3 (some .int), Cond.classLink RX6 66 "java/lang/IllegalArgumentException", Cond.initialized "java/lang/IllegalArgumentException", Cond.fieldLink RX6 12 "Shortring" "net" "LShortring$Net;", Cond.fieldLink RX6 26 "Shortring" "hunt" "LShortring$Hunt;", Cond.fieldLink RX6 33 "Shortring" "ledger" "LShortring$Ledger;", Cond.methodLink RX6 62 yX6_isWithin, Cond.static yX6_isWithin]
def wsL_act_r2 : List Cond := [Cond.code yX6_isWithin cX6_isWithin 3 (some .boolean), Cond.instanceMethod yX3_lay, Cond.initialized RX3, Cond.selects RX3 yX3_lay yX3_lay, Cond.code yX3_lay cX3_lay 3 none, Cond.fieldLink RX3 15 "Shortring$Net" "knots" "I", Cond.fieldLink RX3 9 "Shortring$Net" "near" "[I", Cond.instanceMethod yX0_end, Cond.initialized RX0, Cond.selects RX0 yX0_end yX0_end, Cond.code yX0_end cX0_end 1 none, Cond.fieldLink RX0 24 "Shortring$Hunt" "isOn" "Z", Cond.instanceMethod yX1_look, Cond.initialized RX1, Cond.selects RX1 yX1_look yX1_look, Cond.code yX1_look cX1_look 4 none, Cond.fieldLink RX1 15 "Shortring$Ledger" "smallest" "[I", Cond.instanceMethod yX3_evenCount, Cond.selects RX3 yX3_evenCount yX3_evenCount, Cond.code yX3_evenCount cX3_evenCount 3 (some .int), Cond.methodLink RX3 39 yX3_countOf, Cond.instanceMethod yX3_countOf, Cond.selects RX3 yX3_countOf yX3_countOf, Cond.code yX3_countOf cX3_countOf 2 (some .int)]
def wsL_act_r3 : List Cond := [Cond.methodLink RX3 19 yX3_nearOf, Cond.instanceMethod yX3_nearOf, Cond.selects RX3 yX3_nearOf yX3_nearOf, Cond.code yX3_nearOf cX3_nearOf 2 (some .int), Cond.methodLink RX3 27 yJ6_bitCount_0f7a4, Cond.static yJ6_bitCount_0f7a4, Cond.initialized RJ6, Cond.code yJ6_bitCount_0f7a4 cJ6_bitCount_0f7a4 1 (some .int), Cond.constant RJ6 265 (1431655765), Cond.constant RJ6 266 (858993459), Cond.constant RJ6 267 (252645135), Cond.static yX5_leastRing, Cond.initialized RX5, Cond.code yX5_leastRing cX5_leastRing 3 (some .int), Cond.methodLink RX5 66 yX5_leastRingAt, Cond.static yX5_leastRingAt, Cond.code yX5_leastRingAt cX5_leastRingAt 4 (some .int), Cond.instanceMethod yX3_isNear, Cond.selects RX3 yX3_isNear yX3_isNear, Cond.code yX3_isNear cX3_isNear 3 (some .boolean), Cond.static yX6_holds, Cond.code yX6_holds cX6_holds 2 (some .boolean), Cond.methodLink RX5 60 yX5_leastRingBy, Cond.static yX5_leastRingBy]
def wsL_act_r4 : List Cond := [Cond.code yX5_leastRingBy cX5_leastRingBy 6 (some .int), Cond.static yX6_bit, Cond.code yX6_bit cX6_bit 1 (some .int), Cond.methodLink RX5 23 yX5_around, Cond.static yX5_around, Cond.code yX5_around cX5_around 6 (some .int), Cond.methodLink RX5 9 yJ6_bitCount_0f7a4, Cond.static yX6_lesser, Cond.code yX6_lesser cX6_lesser 2 (some .int), Cond.methodLink RX6 324 Lib.Math.min.name, Cond.methodLink RX1 44 yX1_tablePlace, Cond.instanceMethod yX1_tablePlace, Cond.selects RX1 yX1_tablePlace yX1_tablePlace, Cond.code yX1_tablePlace cX1_tablePlace 5 (some .int), Cond.methodLink RL 52 yX6_edge, Cond.instanceMethod yX6_edge, Cond.selects RX6 yX6_edge yX6_edge, Cond.code yX6_edge cX6_edge 6 (some .boolean), Cond.classLink RX6 91 "java/lang/IndexOutOfBoundsException", Cond.initialized "java/lang/IndexOutOfBoundsException", Cond.classLink RX6 106 "java/lang/IllegalStateException", Cond.initialized "java/lang/IllegalStateException", Cond.instanceMethod yX3_isKnot, Cond.selects RX3 yX3_isKnot yX3_isKnot]
def wsL_act_r5 : List Cond := [Cond.code yX3_isKnot cX3_isKnot 2 (some .boolean), Cond.instanceMethod yX3_join, Cond.selects RX3 yX3_join yX3_join, Cond.code yX3_join cX3_join 3 none, Cond.methodLink RX3 32 yX3_isKnot, Cond.instanceMethod yX3_loosen, Cond.selects RX3 yX3_loosen yX3_loosen, Cond.code yX3_loosen cX3_loosen 3 none, Cond.methodLink RL 56 yX6_ring, Cond.instanceMethod yX6_ring, Cond.selects RX6 yX6_ring yX6_ring, Cond.code yX6_ring cX6_ring 4 (some .int), Cond.methodLink RX6 118 yX6_bit, Cond.methodLink RX6 123 yX6_countByJumps, Cond.static yX6_countByJumps, Cond.code yX6_countByJumps cX6_countByJumps 4 (some .int), Cond.methodLink RX6 270 yJ6_bitCount_0f7a4, Cond.methodLink RX6 386 yX6_holds, Cond.methodLink RX6 127 yX6_layByJumps, Cond.instanceMethod yX6_layByJumps, Cond.selects RX6 yX6_layByJumps yX6_layByJumps, Cond.code yX6_layByJumps cX6_layByJumps 6 none, Cond.instanceMethod yX3_edgesInAll, Cond.selects RX3 yX3_edgesInAll yX3_edgesInAll]
def wsL_act_r6 : List Cond := [Cond.code yX3_edgesInAll cX3_edgesInAll 3 (some .int), Cond.methodLink RL 28 yX6_now, Cond.instanceMethod yX6_now, Cond.selects RX6 yX6_now yX6_now, Cond.code yX6_now cX6_now 2 (some .int), Cond.fieldLink RX6 47 "Shortring" "paint" "LShortring$Paint;", Cond.fieldLink RX6 40 "Shortring" "likeness" "LShortring$Likeness;", Cond.fieldLink RX6 55 "Shortring" "keptMany" "I", Cond.fieldLink RX6 59 "Shortring" "refused" "I", Cond.static yX5_partsInAll, Cond.code yX5_partsInAll cX5_partsInAll 4 (some .int), Cond.methodLink RX5 41 yX5_partWith, Cond.static yX5_partWith, Cond.code yX5_partWith cX5_partWith 2 (some .int), Cond.methodLink RX5 29 yX5_within, Cond.static yX5_within, Cond.code yX5_within cX5_within 6 (some .int), Cond.static yX5_width, Cond.code yX5_width cX5_width 3 (some .int), Cond.methodLink RX5 51 Lib.Math.max.name, Cond.static Lib.Math.max.name, Cond.code Lib.Math.max.name Lib.Math.max.code 2 (some .int), Cond.methodLink RX5 44 yX5_partsInAll, Cond.methodLink RX5 48 yX5_greatestDistance]
def wsL_act_r7 : List Cond := [Cond.static yX5_greatestDistance, Cond.code yX5_greatestDistance cX5_greatestDistance 5 (some .int), Cond.instanceMethod yX4_fewest, Cond.initialized RX4, Cond.selects RX4 yX4_fewest yX4_fewest, Cond.code yX4_fewest cX4_fewest 6 (some .int), Cond.methodLink RX4 31 Lib.Math.max.name, Cond.methodLink RX4 37 yX4_fewestOf, Cond.instanceMethod yX4_fewestOf, Cond.selects RX4 yX4_fewestOf yX4_fewestOf, Cond.code yX4_fewestOf cX4_fewestOf 6 (some .int), Cond.fieldLink RX4 9 "Shortring$Paint" "hues" "[I", Cond.methodLink RX4 41 yX4_canPaint, Cond.static yX4_canPaint, Cond.code yX4_canPaint cX4_canPaint 8 (some .boolean), Cond.methodLink RX4 45 yX4_hardest, Cond.static yX4_hardest, Cond.code yX4_hardest cX4_hardest 8 (some .int), Cond.instanceMethod yX2_turnsOf, Cond.initialized RX2, Cond.selects RX2 yX2_turnsOf yX2_turnsOf, Cond.code yX2_turnsOf cX2_turnsOf 7 (some .int), Cond.fieldLink RX2 12 "Shortring$Likeness" "from" "LShortring$Net;", Cond.fieldLink RX2 18 "Shortring$Likeness" "to" "LShortring$Net;"]
def wsL_act_r8 : List Cond := [Cond.methodLink RX2 50 Lib.Math.min.name, Cond.instanceMethod yX3_take, Cond.selects RX3 yX3_take yX3_take, Cond.code yX3_take cX3_take 3 none, Cond.methodLink RX2 46 yX2_partsLike, Cond.instanceMethod yX2_partsLike, Cond.selects RX2 yX2_partsLike yX2_partsLike, Cond.code yX2_partsLike cX2_partsLike 7 (some .int), Cond.methodLink RX2 55 yX2_waysOf, Cond.instanceMethod yX2_waysOf, Cond.selects RX2 yX2_waysOf yX2_waysOf, Cond.code yX2_waysOf cX2_waysOf 4 (some .int), Cond.fieldLink RX2 25 "Shortring$Likeness" "placed" "I", Cond.methodLink RX2 70 yJ6_bitCount_0f7a4, Cond.methodLink RX2 75 yX2_ways, Cond.static yX2_ways, Cond.code yX2_ways cX2_ways 9 (some .int), Cond.methodLink RX2 79 yX2_nextToPlace, Cond.instanceMethod yX2_nextToPlace, Cond.selects RX2 yX2_nextToPlace yX2_nextToPlace, Cond.code yX2_nextToPlace cX2_nextToPlace 6 (some .int), Cond.methodLink RX2 82 yX2_fitting, Cond.instanceMethod yX2_fitting, Cond.selects RX2 yX2_fitting yX2_fitting]
def wsL_act_r9 : List Cond := [Cond.code yX2_fitting cX2_fitting 8 (some .int), Cond.fieldLink RX2 21 "Shortring$Likeness" "image" "[I", Cond.methodLink RX2 85 yX2_place, Cond.instanceMethod yX2_place, Cond.selects RX2 yX2_place yX2_place, Cond.code yX2_place cX2_place 3 none, Cond.instanceMethod yX3_loneliest, Cond.selects RX3 yX3_loneliest yX3_loneliest, Cond.code yX3_loneliest cX3_loneliest 5 (some .int), Cond.methodLink RL 64 yX6_doubled, Cond.instanceMethod yX6_doubled, Cond.selects RX6 yX6_doubled yX6_doubled, Cond.code yX6_doubled cX6_doubled 2 (some .int), Cond.fieldLink RX6 16 "Shortring" "scratch" "LShortring$Net;", Cond.methodLink RX6 134 yX6_isSetBelow, Cond.static yX6_isSetBelow, Cond.code yX6_isSetBelow cX6_isSetBelow 2 (some .boolean), Cond.methodLink RX6 141 yX6_layDouble, Cond.instanceMethod yX6_layDouble, Cond.selects RX6 yX6_layDouble yX6_layDouble, Cond.code yX6_layDouble cX6_layDouble 7 none, Cond.methodLink RL 67 yX6_swap, Cond.instanceMethod yX6_swap, Cond.selects RX6 yX6_swap yX6_swap]
def wsL_act_r10 : List Cond := [Cond.code yX6_swap cX6_swap 6 (some .boolean), Cond.instanceMethod yX3_edgeAt, Cond.selects RX3 yX3_edgeAt yX3_edgeAt, Cond.code yX3_edgeAt cX3_edgeAt 6 (some .int), Cond.methodLink RX3 42 yX3_numberedIn, Cond.static yX3_numberedIn, Cond.code yX3_numberedIn cX3_numberedIn 4 (some .int), Cond.static yX6_firstOf, Cond.code yX6_firstOf cX6_firstOf 1 (some .int), Cond.static yX6_pairOf, Cond.code yX6_pairOf cX6_pairOf 2 (some .int), Cond.methodLink RX6 158 yX6_turned, Cond.static yX6_turned, Cond.code yX6_turned cX6_turned 2 (some .int), Cond.methodLink RX6 280 yX6_otherOf, Cond.static yX6_otherOf, Cond.code yX6_otherOf cX6_otherOf 1 (some .int), Cond.methodLink RX6 277 yX6_oneOf, Cond.static yX6_oneOf, Cond.code yX6_oneOf cX6_oneOf 1 (some .int), Cond.methodLink RX6 389 yX6_pairOf, Cond.methodLink RX6 162 yX6_canExchange, Cond.instanceMethod yX6_canExchange, Cond.selects RX6 yX6_canExchange yX6_canExchange]
def wsL_act_r11 : List Cond := [Cond.code yX6_canExchange cX6_canExchange 4 (some .boolean), Cond.methodLink RX6 165 yX6_exchange, Cond.instanceMethod yX6_exchange, Cond.selects RX6 yX6_exchange yX6_exchange, Cond.code yX6_exchange cX6_exchange 3 none, Cond.methodLink RL 70 yX6_mend, Cond.instanceMethod yX6_mend, Cond.selects RX6 yX6_mend yX6_mend, Cond.code yX6_mend cX6_mend 5 (some .int), Cond.methodLink RX6 176 yX6_mendByRounds, Cond.instanceMethod yX6_mendByRounds, Cond.selects RX6 yX6_mendByRounds yX6_mendByRounds, Cond.code yX6_mendByRounds cX6_mendByRounds 12 (some .int), Cond.constant RX6 395 (1103515245), Cond.constant RX6 396 (2147483647), Cond.methodLink RX6 392 yX6_shortRings, Cond.instanceMethod yX6_shortRings, Cond.selects RX6 yX6_shortRings yX6_shortRings, Cond.code yX6_shortRings cX6_shortRings 4 (some .int), Cond.methodLink RX6 292 yX6_countRings, Cond.instanceMethod yX6_countRings, Cond.selects RX6 yX6_countRings yX6_countRings, Cond.code yX6_countRings cX6_countRings 3 none, Cond.fieldLink RX6 51 "Shortring" "tally" "[I"]
def wsL_act_r12 : List Cond := [Cond.methodLink RX6 397 yX6_walk, Cond.static yX6_walk, Cond.code yX6_walk cX6_walk 9 none, Cond.methodLink RX6 295 yX6_tallied, Cond.instanceMethod yX6_tallied, Cond.selects RX6 yX6_tallied yX6_tallied, Cond.code yX6_tallied cX6_tallied 2 (some .int), Cond.methodLink RL 74 yX6_aim, Cond.instanceMethod yX6_aim, Cond.selects RX6 yX6_aim yX6_aim, Cond.code yX6_aim cX6_aim 3 (some .int), Cond.methodLink RX6 180 yX6_requireTabled, Cond.instanceMethod yX6_requireTabled, Cond.selects RX6 yX6_requireTabled yX6_requireTabled, Cond.code yX6_requireTabled cX6_requireTabled 3 none, Cond.instanceMethod yX0_begin, Cond.selects RX0 yX0_begin yX0_begin, Cond.code yX0_begin cX0_begin 3 none, Cond.fieldLink RX0 32 "Shortring$Hunt" "count" "I", Cond.fieldLink RX0 35 "Shortring$Hunt" "length" "I", Cond.fieldLink RX0 38 "Shortring$Hunt" "steps" "I", Cond.fieldLink RX0 28 "Shortring$Hunt" "state" "I", Cond.fieldLink RX0 41 "Shortring$Hunt" "putMany" "I", Cond.methodLink RX0 44 yX0_unbarDownTo]
def wsL_act_r13 : List Cond := [Cond.instanceMethod yX0_unbarDownTo, Cond.selects RX0 yX0_unbarDownTo yX0_unbarDownTo, Cond.code yX0_unbarDownTo cX0_unbarDownTo 3 none, Cond.fieldLink RX0 68 "Shortring$Hunt" "barMany" "I", Cond.fieldLink RX0 15 "Shortring$Hunt" "bars" "[I", Cond.methodLink RX0 90 yX0_flipBar, Cond.instanceMethod yX0_flipBar, Cond.selects RX0 yX0_flipBar yX0_flipBar, Cond.code yX0_flipBar cX0_flipBar 3 none, Cond.fieldLink RX0 9 "Shortring$Hunt" "barredWith" "[I", Cond.instanceMethod yX1_why, Cond.selects RX1 yX1_why yX1_why, Cond.code yX1_why cX1_why 4 (some .int), Cond.methodLink RX1 18 yX1_leastKnots, Cond.static yX1_leastKnots, Cond.code yX1_leastKnots cX1_leastKnots 6 (some .int), Cond.methodLink RX1 22 yX1_isProved, Cond.instanceMethod yX1_isProved, Cond.selects RX1 yX1_isProved yX1_isProved, Cond.code yX1_isProved cX1_isProved 6 (some .boolean), Cond.fieldLink RX1 9 "Shortring$Ledger" "leastProved" "[I", Cond.methodLink RX1 29 yX1_proofPlace, Cond.instanceMethod yX1_proofPlace, Cond.selects RX1 yX1_proofPlace yX1_proofPlace]
def wsL_act_r14 : List Cond := [Cond.code yX1_proofPlace cX1_proofPlace 5 (some .int), Cond.methodLink RL 38 yX6_search, Cond.instanceMethod yX6_search, Cond.selects RX6 yX6_search yX6_search, Cond.code yX6_search cX6_search 2 (some .int), Cond.instanceMethod yX0_nextKnot, Cond.selects RX0 yX0_nextKnot yX0_nextKnot, Cond.code yX0_nextKnot cX0_nextKnot 7 (some .int), Cond.methodLink RX0 112 yX0_needy, Cond.instanceMethod yX0_needy, Cond.selects RX0 yX0_needy yX0_needy, Cond.code yX0_needy cX0_needy 4 (some .int), Cond.methodLink RX0 115 yX0_joinableOf, Cond.instanceMethod yX0_joinableOf, Cond.selects RX0 yX0_joinableOf yX0_joinableOf, Cond.code yX0_joinableOf cX0_joinableOf 4 (some .int), Cond.methodLink RX0 118 yJ6_bitCount_0f7a4, Cond.instanceMethod yX0_partnerOf, Cond.selects RX0 yX0_partnerOf yX0_partnerOf, Cond.code yX0_partnerOf cX0_partnerOf 5 (some .int), Cond.methodLink RL 77 yX6_grow, Cond.instanceMethod yX6_grow, Cond.selects RX6 yX6_grow yX6_grow, Cond.code yX6_grow cX6_grow 3 (some .int)]
def wsL_act_r15 : List Cond := [Cond.instanceMethod yX0_step, Cond.selects RX0 yX0_step yX0_step, Cond.code yX0_step cX0_step 4 none, Cond.methodLink RX0 48 yX0_nextKnot, Cond.methodLink RX0 52 yX0_partnerOf, Cond.methodLink RX0 56 yX0_goBack, Cond.instanceMethod yX0_goBack, Cond.selects RX0 yX0_goBack yX0_goBack, Cond.code yX0_goBack cX0_goBack 3 none, Cond.fieldLink RX0 18 "Shortring$Hunt" "puts" "[I", Cond.fieldLink RX0 21 "Shortring$Hunt" "barsAtPut" "[I", Cond.methodLink RX0 87 yX0_bar, Cond.instanceMethod yX0_bar, Cond.selects RX0 yX0_bar yX0_bar, Cond.code yX0_bar cX0_bar 2 none, Cond.methodLink RX0 60 yX0_put, Cond.instanceMethod yX0_put, Cond.selects RX0 yX0_put yX0_put, Cond.code yX0_put cX0_put 4 none, Cond.instanceMethod yX1_prove, Cond.selects RX1 yX1_prove yX1_prove, Cond.code yX1_prove cX1_prove 5 none, Cond.methodLink RL 80 yX6_keep, Cond.instanceMethod yX6_keep]
def wsL_act_r16 : List Cond := [Cond.selects RX6 yX6_keep yX6_keep, Cond.code yX6_keep cX6_keep 3 (some .int), Cond.fieldLink RX6 19 "Shortring" "kept" "[LShortring$Net;", Cond.classLink RX6 9 RX3, Cond.instantiable RX3 2, Cond.instanceMethod yX3_init, Cond.code yX3_init cX3_init 1 none, Cond.methodLink RX3 3 objectInit, Cond.instanceMethod objectInit, Cond.code objectInit ⟨#[0xb1]⟩ 1 none, Cond.arrayClass .int, Cond.methodLink RL 84 yX6_back, Cond.instanceMethod yX6_back, Cond.selects RX6 yX6_back yX6_back, Cond.code yX6_back cX6_back 3 (some .int), Cond.methodLink RX6 311 yX6_keptAt, Cond.instanceMethod yX6_keptAt, Cond.selects RX6 yX6_keptAt yX6_keptAt, Cond.code yX6_keptAt cX6_keptAt 2 (some (.object "Shortring$Net"))]
def wsL_act : List Cond := .codeWith yL_act cL_act 5 (some .int) [(0, 76, 327, 87), (77, 110, 327, 87), (111, 136, 327, 87), (137, 162, 327, 87), (163, 198, 327, 87), (199, 230, 327, 87), (231, 254, 327, 87), (255, 296, 327, 87), (297, 326, 327, 87), (0, 76, 331, 89), (77, 110, 331, 89), (111, 136, 331, 89), (137, 162, 331, 89), (163, 198, 331, 89), (199, 230, 331, 89), (231, 254, 331, 89), (255, 296, 331, 89), (297, 326, 331, 89), (0, 76, 335, 91), (77, 110, 335, 91), (111, 136, 335, 91), (137, 162, 335, 91), (163, 198, 335, 91), (199, 230, 335, 91), (231, 254, 335, 91), (255, 296, 335, 91), (297, 326, 335, 91)] :: ((wsL_act_r1 ++ (wsL_act_r2 ++ (wsL_act_r3 ++ (wsL_act_r4 ++ (wsL_act_r5 ++ (wsL_act_r6 ++ (wsL_act_r7 ++ (wsL_act_r8 ++ (wsL_act_r9 ++ (wsL_act_r10 ++ (wsL_act_r11 ++ (wsL_act_r12 ++ (wsL_act_r13 ++ (wsL_act_r14 ++ (wsL_act_r15 ++ wsL_act_r16))))))))))))))) ++ wsX60 ++ wsX30 ++ wsX00 ++ wsX10 ++ wsX40 ++ wsX20 ++ (vx_atS RX6 70 "java/lang/IllegalArgumentException" ["java/lang/RuntimeException", "java/lang/Exception"]).filter goodWord ++ (vx_atS RX6 95 "java/lang/IndexOutOfBoundsException" ["java/lang/RuntimeException", "java/lang/Exception"]).filter goodWord ++ (vx_atS RX6 110 "java/lang/IllegalStateException" ["java/lang/RuntimeException", "java/lang/Exception"]).filter goodWord)
def wsL_law0_r1 : List Cond := [Cond.classLink RL 9 RX6, Cond.instantiable RX6 10, Cond.initialized RX6, Cond.classLink RL 26 "[I", Cond.arrayClass .int, Cond.methodLink RL 11 yX6_init, Cond.instanceMethod yX6_init, Cond.code yX6_init cX6_init 1 none, Cond.methodLink RX6 3 objectInit, Cond.instanceMethod objectInit, Cond.code objectInit ⟨#[0xb1]⟩ 1 none, Cond.classLink RX6 9 RX3, Cond.instantiable RX3 2, Cond.initialized RX3, Cond.fieldLink RX6 12 "Shortring" "net" "LShortring$Net;", Cond.fieldLink RX6 16 "Shortring" "scratch" "LShortring$Net;", Cond.fieldLink RX6 19 "Shortring" "kept" "[LShortring$Net;", Cond.classLink RX6 23 RX0, Cond.instantiable RX0 11, Cond.initialized RX0, Cond.fieldLink RX6 26 "Shortring" "hunt" "LShortring$Hunt;", Cond.classLink RX6 30 RX1, Cond.instantiable RX1 2, Cond.initialized RX1]
def wsL_law0_r2 : List Cond := [Cond.fieldLink RX6 33 "Shortring" "ledger" "LShortring$Ledger;", Cond.classLink RX6 37 RX2, Cond.instantiable RX2 4, Cond.initialized RX2, Cond.fieldLink RX6 40 "Shortring" "likeness" "LShortring$Likeness;", Cond.classLink RX6 44 RX4, Cond.instantiable RX4 1, Cond.initialized RX4, Cond.fieldLink RX6 47 "Shortring" "paint" "LShortring$Paint;", Cond.fieldLink RX6 51 "Shortring" "tally" "[I", Cond.fieldLink RX6 55 "Shortring" "keptMany" "I", Cond.fieldLink RX6 59 "Shortring" "refused" "I", Cond.instanceMethod yX3_init, Cond.code yX3_init cX3_init 1 none, Cond.methodLink RX3 3 objectInit, Cond.fieldLink RX3 9 "Shortring$Net" "near" "[I", Cond.fieldLink RX3 15 "Shortring$Net" "knots" "I", Cond.instanceMethod yX0_init, Cond.code yX0_init cX0_init 1 none, Cond.methodLink RX0 3 objectInit, Cond.fieldLink RX0 9 "Shortring$Hunt" "barredWith" "[I", Cond.fieldLink RX0 15 "Shortring$Hunt" "bars" "[I", Cond.fieldLink RX0 18 "Shortring$Hunt" "puts" "[I", Cond.fieldLink RX0 21 "Shortring$Hunt" "barsAtPut" "[I"]
def wsL_law0_r3 : List Cond := [Cond.fieldLink RX0 24 "Shortring$Hunt" "isOn" "Z", Cond.fieldLink RX0 28 "Shortring$Hunt" "state" "I", Cond.instanceMethod yX1_init, Cond.code yX1_init cX1_init 1 none, Cond.methodLink RX1 3 objectInit, Cond.fieldLink RX1 9 "Shortring$Ledger" "leastProved" "[I", Cond.fieldLink RX1 15 "Shortring$Ledger" "smallest" "[I", Cond.instanceMethod yX2_init, Cond.code yX2_init cX2_init 1 none, Cond.methodLink RX2 3 objectInit, Cond.classLink RX2 9 RX3, Cond.fieldLink RX2 12 "Shortring$Likeness" "from" "LShortring$Net;", Cond.fieldLink RX2 18 "Shortring$Likeness" "to" "LShortring$Net;", Cond.fieldLink RX2 21 "Shortring$Likeness" "image" "[I", Cond.fieldLink RX2 25 "Shortring$Likeness" "placed" "I", Cond.instanceMethod yX4_init, Cond.code yX4_init cX4_init 1 none, Cond.methodLink RX4 3 objectInit, Cond.fieldLink RX4 9 "Shortring$Paint" "hues" "[I", Cond.methodLink RL 12 yL_cell, Cond.static yL_cell, Cond.initialized RL, Cond.code yL_cell cL_cell 2 (some .int), Cond.constant RL 8 (790386105)]
def wsL_law0_r4 : List Cond := [Cond.methodLink RL 18 yL_below, Cond.static yL_below, Cond.code yL_below cL_below 2 (some .int), Cond.constant RL 7 (2147483647), Cond.methodLink RL 22 yX6_garden, Cond.instanceMethod yX6_garden, Cond.selects RX6 yX6_garden yX6_garden, Cond.code yX6_garden cX6_garden 3 (some .int), Cond.classLink RX6 66 "java/lang/IllegalArgumentException", Cond.initialized "java/lang/IllegalArgumentException", Cond.methodLink RX6 62 yX6_isWithin, Cond.static yX6_isWithin, Cond.code yX6_isWithin cX6_isWithin 3 (some .boolean), Cond.instanceMethod yX3_lay, Cond.selects RX3 yX3_lay yX3_lay, Cond.code yX3_lay cX3_lay 3 none, Cond.instanceMethod yX0_end, Cond.selects RX0 yX0_end yX0_end, Cond.code yX0_end cX0_end 1 none, Cond.instanceMethod yX1_look, Cond.selects RX1 yX1_look yX1_look, Cond.code yX1_look cX1_look 4 none, Cond.instanceMethod yX3_evenCount, Cond.selects RX3 yX3_evenCount yX3_evenCount]
def wsL_law0_r5 : List Cond := [Cond.code yX3_evenCount cX3_evenCount 3 (some .int), Cond.methodLink RX3 39 yX3_countOf, Cond.instanceMethod yX3_countOf, Cond.selects RX3 yX3_countOf yX3_countOf, Cond.code yX3_countOf cX3_countOf 2 (some .int), Cond.methodLink RX3 19 yX3_nearOf, Cond.instanceMethod yX3_nearOf, Cond.selects RX3 yX3_nearOf yX3_nearOf, Cond.code yX3_nearOf cX3_nearOf 2 (some .int), Cond.methodLink RX3 27 yJ6_bitCount_0f7a4, Cond.static yJ6_bitCount_0f7a4, Cond.initialized RJ6, Cond.code yJ6_bitCount_0f7a4 cJ6_bitCount_0f7a4 1 (some .int), Cond.constant RJ6 265 (1431655765), Cond.constant RJ6 266 (858993459), Cond.constant RJ6 267 (252645135), Cond.static yX5_leastRing, Cond.initialized RX5, Cond.code yX5_leastRing cX5_leastRing 3 (some .int), Cond.methodLink RX5 66 yX5_leastRingAt, Cond.static yX5_leastRingAt, Cond.code yX5_leastRingAt cX5_leastRingAt 4 (some .int), Cond.instanceMethod yX3_isNear, Cond.selects RX3 yX3_isNear yX3_isNear]
def wsL_law0_r6 : List Cond := [Cond.code yX3_isNear cX3_isNear 3 (some .boolean), Cond.static yX6_holds, Cond.code yX6_holds cX6_holds 2 (some .boolean), Cond.methodLink RX5 60 yX5_leastRingBy, Cond.static yX5_leastRingBy, Cond.code yX5_leastRingBy cX5_leastRingBy 6 (some .int), Cond.static yX6_bit, Cond.code yX6_bit cX6_bit 1 (some .int), Cond.methodLink RX5 23 yX5_around, Cond.static yX5_around, Cond.code yX5_around cX5_around 6 (some .int), Cond.methodLink RX5 9 yJ6_bitCount_0f7a4, Cond.static yX6_lesser, Cond.code yX6_lesser cX6_lesser 2 (some .int), Cond.methodLink RX6 324 Lib.Math.min.name, Cond.static Lib.Math.min.name, Cond.initialized "java/lang/Math", Cond.code Lib.Math.min.name Lib.Math.min.code 2 (some .int), Cond.methodLink RX1 44 yX1_tablePlace, Cond.instanceMethod yX1_tablePlace, Cond.selects RX1 yX1_tablePlace yX1_tablePlace, Cond.code yX1_tablePlace cX1_tablePlace 5 (some .int), Cond.methodLink RL 28 yX6_now, Cond.instanceMethod yX6_now]
def wsL_law0_r7 : List Cond := [Cond.selects RX6 yX6_now yX6_now, Cond.code yX6_now cX6_now 2 (some .int), Cond.instanceMethod yX3_edgesInAll, Cond.selects RX3 yX3_edgesInAll yX3_edgesInAll, Cond.code yX3_edgesInAll cX3_edgesInAll 3 (some .int), Cond.static yX5_partsInAll, Cond.code yX5_partsInAll cX5_partsInAll 4 (some .int), Cond.methodLink RX5 41 yX5_partWith, Cond.static yX5_partWith, Cond.code yX5_partWith cX5_partWith 2 (some .int), Cond.methodLink RX5 29 yX5_within, Cond.static yX5_within, Cond.code yX5_within cX5_within 6 (some .int), Cond.static yX5_width, Cond.code yX5_width cX5_width 3 (some .int), Cond.methodLink RX5 51 Lib.Math.max.name, Cond.static Lib.Math.max.name, Cond.code Lib.Math.max.name Lib.Math.max.code 2 (some .int), Cond.methodLink RX5 44 yX5_partsInAll, Cond.methodLink RX5 48 yX5_greatestDistance, Cond.static yX5_greatestDistance, Cond.code yX5_greatestDistance cX5_greatestDistance 5 (some .int), Cond.instanceMethod yX4_fewest, Cond.selects RX4 yX4_fewest yX4_fewest]
def wsL_law0_r8 : List Cond := [Cond.code yX4_fewest cX4_fewest 6 (some .int), Cond.methodLink RX4 31 Lib.Math.max.name, Cond.methodLink RX4 37 yX4_fewestOf, Cond.instanceMethod yX4_fewestOf, Cond.selects RX4 yX4_fewestOf yX4_fewestOf, Cond.code yX4_fewestOf cX4_fewestOf 6 (some .int), Cond.methodLink RX4 41 yX4_canPaint, Cond.static yX4_canPaint, Cond.code yX4_canPaint cX4_canPaint 8 (some .boolean), Cond.methodLink RX4 45 yX4_hardest, Cond.static yX4_hardest, Cond.code yX4_hardest cX4_hardest 8 (some .int), Cond.instanceMethod yX2_turnsOf, Cond.selects RX2 yX2_turnsOf yX2_turnsOf, Cond.code yX2_turnsOf cX2_turnsOf 7 (some .int), Cond.methodLink RX2 50 Lib.Math.min.name, Cond.instanceMethod yX3_take, Cond.selects RX3 yX3_take yX3_take, Cond.code yX3_take cX3_take 3 none, Cond.methodLink RX2 46 yX2_partsLike, Cond.instanceMethod yX2_partsLike, Cond.selects RX2 yX2_partsLike yX2_partsLike, Cond.code yX2_partsLike cX2_partsLike 7 (some .int), Cond.methodLink RX2 55 yX2_waysOf]
def wsL_law0_r9 : List Cond := [Cond.instanceMethod yX2_waysOf, Cond.selects RX2 yX2_waysOf yX2_waysOf, Cond.code yX2_waysOf cX2_waysOf 4 (some .int), Cond.methodLink RX2 70 yJ6_bitCount_0f7a4, Cond.methodLink RX2 75 yX2_ways, Cond.static yX2_ways, Cond.code yX2_ways cX2_ways 9 (some .int), Cond.methodLink RX2 79 yX2_nextToPlace, Cond.instanceMethod yX2_nextToPlace, Cond.selects RX2 yX2_nextToPlace yX2_nextToPlace, Cond.code yX2_nextToPlace cX2_nextToPlace 6 (some .int), Cond.methodLink RX2 82 yX2_fitting, Cond.instanceMethod yX2_fitting, Cond.selects RX2 yX2_fitting yX2_fitting, Cond.code yX2_fitting cX2_fitting 8 (some .int), Cond.methodLink RX2 85 yX2_place, Cond.instanceMethod yX2_place, Cond.selects RX2 yX2_place yX2_place, Cond.code yX2_place cX2_place 3 none, Cond.instanceMethod yX3_loneliest, Cond.selects RX3 yX3_loneliest yX3_loneliest, Cond.code yX3_loneliest cX3_loneliest 5 (some .int), Cond.methodLink RL 31 yX6_ofKnot, Cond.instanceMethod yX6_ofKnot]
def wsL_law0_r10 : List Cond := [Cond.selects RX6 yX6_ofKnot yX6_ofKnot, Cond.code yX6_ofKnot cX6_ofKnot 3 (some .int), Cond.classLink RX6 91 "java/lang/IndexOutOfBoundsException", Cond.initialized "java/lang/IndexOutOfBoundsException", Cond.instanceMethod yX3_isKnot, Cond.selects RX3 yX3_isKnot yX3_isKnot, Cond.code yX3_isKnot cX3_isKnot 2 (some .boolean), Cond.static yX5_partNumber, Cond.code yX5_partNumber cX5_partNumber 5 (some .int), Cond.instanceMethod yX0_joinable, Cond.selects RX0 yX0_joinable yX0_joinable, Cond.code yX0_joinable cX0_joinable 3 (some .int), Cond.methodLink RX0 112 yX0_needy, Cond.instanceMethod yX0_needy, Cond.selects RX0 yX0_needy yX0_needy, Cond.code yX0_needy cX0_needy 4 (some .int), Cond.fieldLink RX0 32 "Shortring$Hunt" "count" "I", Cond.methodLink RX0 115 yX0_joinableOf, Cond.instanceMethod yX0_joinableOf, Cond.selects RX0 yX0_joinableOf yX0_joinableOf, Cond.code yX0_joinableOf cX0_joinableOf 4 (some .int), Cond.fieldLink RX0 35 "Shortring$Hunt" "length" "I", Cond.methodLink RX6 270 yJ6_bitCount_0f7a4, Cond.methodLink RL 34 yL_act]
def wsL_law0_r11 : List Cond := [Cond.static yL_act, Cond.codeWith yL_act cL_act 5 (some .int) [(0, 76, 327, 87), (77, 110, 327, 87), (111, 136, 327, 87), (137, 162, 327, 87), (163, 198, 327, 87), (199, 230, 327, 87), (231, 254, 327, 87), (255, 296, 327, 87), (297, 326, 327, 87), (0, 76, 331, 89), (77, 110, 331, 89), (111, 136, 331, 89), (137, 162, 331, 89), (163, 198, 331, 89), (199, 230, 331, 89), (231, 254, 331, 89), (255, 296, 331, 89), (297, 326, 331, 89), (0, 76, 335, 91), (77, 110, 335, 91), (111, 136, 335, 91), (137, 162, 335, 91), (163, 198, 335, 91), (199, 230, 335, 91), (231, 254, 335, 91), (255, 296, 335, 91), (297, 326, 335, 91)], Cond.classLink RL 87 "java/lang/IndexOutOfBoundsException", Cond.classLink RL 89 "java/lang/IllegalArgumentException", Cond.classLink RL 91 "java/lang/IllegalStateException", Cond.methodLink RL 59 Lib.Math.min.name, Cond.methodLink RL 52 yX6_edge, Cond.instanceMethod yX6_edge, Cond.selects RX6 yX6_edge yX6_edge, Cond.code yX6_edge cX6_edge 6 (some .boolean), Cond.classLink RX6 106 "java/lang/IllegalStateException", Cond.initialized "java/lang/IllegalStateException", Cond.instanceMethod yX3_join, Cond.selects RX3 yX3_join yX3_join, Cond.code yX3_join cX3_join 3 none, Cond.methodLink RX3 32 yX3_isKnot, Cond.instanceMethod yX3_loosen, Cond.selects RX3 yX3_loosen yX3_loosen, Cond.code yX3_loosen cX3_loosen 3 none, Cond.methodLink RL 56 yX6_ring, Cond.instanceMethod yX6_ring, Cond.selects RX6 yX6_ring yX6_ring, Cond.code yX6_ring cX6_ring 4 (some .int), Cond.methodLink RX6 118 yX6_bit]
def wsL_law0_r12 : List Cond := [Cond.methodLink RX6 123 yX6_countByJumps, Cond.static yX6_countByJumps, Cond.code yX6_countByJumps cX6_countByJumps 4 (some .int), Cond.methodLink RX6 386 yX6_holds, Cond.methodLink RX6 127 yX6_layByJumps, Cond.instanceMethod yX6_layByJumps, Cond.selects RX6 yX6_layByJumps yX6_layByJumps, Cond.code yX6_layByJumps cX6_layByJumps 6 none, Cond.methodLink RL 64 yX6_doubled, Cond.instanceMethod yX6_doubled, Cond.selects RX6 yX6_doubled yX6_doubled, Cond.code yX6_doubled cX6_doubled 2 (some .int), Cond.methodLink RX6 134 yX6_isSetBelow, Cond.static yX6_isSetBelow, Cond.code yX6_isSetBelow cX6_isSetBelow 2 (some .boolean), Cond.methodLink RX6 141 yX6_layDouble, Cond.instanceMethod yX6_layDouble, Cond.selects RX6 yX6_layDouble yX6_layDouble, Cond.code yX6_layDouble cX6_layDouble 7 none, Cond.methodLink RL 67 yX6_swap, Cond.instanceMethod yX6_swap, Cond.selects RX6 yX6_swap yX6_swap, Cond.code yX6_swap cX6_swap 6 (some .boolean), Cond.instanceMethod yX3_edgeAt]
def wsL_law0_r13 : List Cond := [Cond.selects RX3 yX3_edgeAt yX3_edgeAt, Cond.code yX3_edgeAt cX3_edgeAt 6 (some .int), Cond.methodLink RX3 42 yX3_numberedIn, Cond.static yX3_numberedIn, Cond.code yX3_numberedIn cX3_numberedIn 4 (some .int), Cond.static yX6_firstOf, Cond.code yX6_firstOf cX6_firstOf 1 (some .int), Cond.static yX6_pairOf, Cond.code yX6_pairOf cX6_pairOf 2 (some .int), Cond.methodLink RX6 158 yX6_turned, Cond.static yX6_turned, Cond.code yX6_turned cX6_turned 2 (some .int), Cond.methodLink RX6 280 yX6_otherOf, Cond.static yX6_otherOf, Cond.code yX6_otherOf cX6_otherOf 1 (some .int), Cond.methodLink RX6 277 yX6_oneOf, Cond.static yX6_oneOf, Cond.code yX6_oneOf cX6_oneOf 1 (some .int), Cond.methodLink RX6 389 yX6_pairOf, Cond.methodLink RX6 162 yX6_canExchange, Cond.instanceMethod yX6_canExchange, Cond.selects RX6 yX6_canExchange yX6_canExchange, Cond.code yX6_canExchange cX6_canExchange 4 (some .boolean), Cond.methodLink RX6 165 yX6_exchange]
def wsL_law0_r14 : List Cond := [Cond.instanceMethod yX6_exchange, Cond.selects RX6 yX6_exchange yX6_exchange, Cond.code yX6_exchange cX6_exchange 3 none, Cond.methodLink RL 70 yX6_mend, Cond.instanceMethod yX6_mend, Cond.selects RX6 yX6_mend yX6_mend, Cond.code yX6_mend cX6_mend 5 (some .int), Cond.methodLink RX6 176 yX6_mendByRounds, Cond.instanceMethod yX6_mendByRounds, Cond.selects RX6 yX6_mendByRounds yX6_mendByRounds, Cond.code yX6_mendByRounds cX6_mendByRounds 12 (some .int), Cond.constant RX6 395 (1103515245), Cond.constant RX6 396 (2147483647), Cond.methodLink RX6 392 yX6_shortRings, Cond.instanceMethod yX6_shortRings, Cond.selects RX6 yX6_shortRings yX6_shortRings, Cond.code yX6_shortRings cX6_shortRings 4 (some .int), Cond.methodLink RX6 292 yX6_countRings, Cond.instanceMethod yX6_countRings, Cond.selects RX6 yX6_countRings yX6_countRings, Cond.code yX6_countRings cX6_countRings 3 none, Cond.methodLink RX6 397 yX6_walk, Cond.static yX6_walk, Cond.code yX6_walk cX6_walk 9 none]
def wsL_law0_r15 : List Cond := [Cond.methodLink RX6 295 yX6_tallied, Cond.instanceMethod yX6_tallied, Cond.selects RX6 yX6_tallied yX6_tallied, Cond.code yX6_tallied cX6_tallied 2 (some .int), Cond.methodLink RL 74 yX6_aim, Cond.instanceMethod yX6_aim, Cond.selects RX6 yX6_aim yX6_aim, Cond.code yX6_aim cX6_aim 3 (some .int), Cond.methodLink RX6 180 yX6_requireTabled, Cond.instanceMethod yX6_requireTabled, Cond.selects RX6 yX6_requireTabled yX6_requireTabled, Cond.code yX6_requireTabled cX6_requireTabled 3 none, Cond.instanceMethod yX0_begin, Cond.selects RX0 yX0_begin yX0_begin, Cond.code yX0_begin cX0_begin 3 none, Cond.fieldLink RX0 38 "Shortring$Hunt" "steps" "I", Cond.fieldLink RX0 41 "Shortring$Hunt" "putMany" "I", Cond.methodLink RX0 44 yX0_unbarDownTo, Cond.instanceMethod yX0_unbarDownTo, Cond.selects RX0 yX0_unbarDownTo yX0_unbarDownTo, Cond.code yX0_unbarDownTo cX0_unbarDownTo 3 none, Cond.fieldLink RX0 68 "Shortring$Hunt" "barMany" "I", Cond.methodLink RX0 90 yX0_flipBar, Cond.instanceMethod yX0_flipBar]
def wsL_law0_r16 : List Cond := [Cond.selects RX0 yX0_flipBar yX0_flipBar, Cond.code yX0_flipBar cX0_flipBar 3 none, Cond.instanceMethod yX1_why, Cond.selects RX1 yX1_why yX1_why, Cond.code yX1_why cX1_why 4 (some .int), Cond.methodLink RX1 18 yX1_leastKnots, Cond.static yX1_leastKnots, Cond.code yX1_leastKnots cX1_leastKnots 6 (some .int), Cond.methodLink RX1 22 yX1_isProved, Cond.instanceMethod yX1_isProved, Cond.selects RX1 yX1_isProved yX1_isProved, Cond.code yX1_isProved cX1_isProved 6 (some .boolean), Cond.methodLink RX1 29 yX1_proofPlace, Cond.instanceMethod yX1_proofPlace, Cond.selects RX1 yX1_proofPlace yX1_proofPlace, Cond.code yX1_proofPlace cX1_proofPlace 5 (some .int), Cond.methodLink RL 38 yX6_search, Cond.instanceMethod yX6_search, Cond.selects RX6 yX6_search yX6_search, Cond.code yX6_search cX6_search 2 (some .int), Cond.instanceMethod yX0_nextKnot, Cond.selects RX0 yX0_nextKnot yX0_nextKnot, Cond.code yX0_nextKnot cX0_nextKnot 7 (some .int), Cond.methodLink RX0 118 yJ6_bitCount_0f7a4]
def wsL_law0_r17 : List Cond := [Cond.instanceMethod yX0_partnerOf, Cond.selects RX0 yX0_partnerOf yX0_partnerOf, Cond.code yX0_partnerOf cX0_partnerOf 5 (some .int), Cond.methodLink RL 77 yX6_grow, Cond.instanceMethod yX6_grow, Cond.selects RX6 yX6_grow yX6_grow, Cond.code yX6_grow cX6_grow 3 (some .int), Cond.instanceMethod yX0_step, Cond.selects RX0 yX0_step yX0_step, Cond.code yX0_step cX0_step 4 none, Cond.methodLink RX0 48 yX0_nextKnot, Cond.methodLink RX0 52 yX0_partnerOf, Cond.methodLink RX0 56 yX0_goBack, Cond.instanceMethod yX0_goBack, Cond.selects RX0 yX0_goBack yX0_goBack, Cond.code yX0_goBack cX0_goBack 3 none, Cond.methodLink RX0 87 yX0_bar, Cond.instanceMethod yX0_bar, Cond.selects RX0 yX0_bar yX0_bar, Cond.code yX0_bar cX0_bar 2 none, Cond.methodLink RX0 60 yX0_put, Cond.instanceMethod yX0_put, Cond.selects RX0 yX0_put yX0_put, Cond.code yX0_put cX0_put 4 none]
def wsL_law0_r18 : List Cond := [Cond.instanceMethod yX1_prove, Cond.selects RX1 yX1_prove yX1_prove, Cond.code yX1_prove cX1_prove 5 none, Cond.methodLink RL 80 yX6_keep, Cond.instanceMethod yX6_keep, Cond.selects RX6 yX6_keep yX6_keep, Cond.code yX6_keep cX6_keep 3 (some .int), Cond.methodLink RL 84 yX6_back, Cond.instanceMethod yX6_back, Cond.selects RX6 yX6_back yX6_back, Cond.code yX6_back cX6_back 3 (some .int), Cond.methodLink RX6 311 yX6_keptAt, Cond.instanceMethod yX6_keptAt, Cond.selects RX6 yX6_keptAt yX6_keptAt, Cond.code yX6_keptAt cX6_keptAt 2 (some (.object "Shortring$Net")), Cond.methodLink RL 41 yX6_bound, Cond.instanceMethod yX6_bound, Cond.selects RX6 yX6_bound yX6_bound, Cond.code yX6_bound cX6_bound 3 (some .int), Cond.methodLink RL 44 yX6_digest, Cond.instanceMethod yX6_digest, Cond.selects RX6 yX6_digest yX6_digest, Cond.code yX6_digest cX6_digest 4 (some .long), Cond.constantLong RX6 353 (9241)]
def wsL_law0_r19 : List Cond := [Cond.constantLong RX6 355 (31), Cond.methodLink RX6 357 yX6_now, Cond.methodLink RX6 360 yX6_search, Cond.methodLink RX6 363 yX6_digestOfKnots, Cond.instanceMethod yX6_digestOfKnots, Cond.selects RX6 yX6_digestOfKnots yX6_digestOfKnots, Cond.code yX6_digestOfKnots cX6_digestOfKnots 7 (some .long), Cond.methodLink RX6 401 yX6_ofKnot, Cond.methodLink RX6 367 yX6_digestOfEdges, Cond.instanceMethod yX6_digestOfEdges, Cond.selects RX6 yX6_digestOfEdges yX6_digestOfEdges, Cond.code yX6_digestOfEdges cX6_digestOfEdges 8 (some .long), Cond.methodLink RX6 404 yX6_ofEdge, Cond.instanceMethod yX6_ofEdge, Cond.selects RX6 yX6_ofEdge yX6_ofEdge, Cond.code yX6_ofEdge cX6_ofEdge 4 (some .int), Cond.methodLink RX6 370 yX6_rings, Cond.instanceMethod yX6_rings, Cond.selects RX6 yX6_rings yX6_rings, Cond.code yX6_rings cX6_rings 2 (some .int), Cond.methodLink RX6 373 yX6_digestOfTable, Cond.instanceMethod yX6_digestOfTable, Cond.selects RX6 yX6_digestOfTable yX6_digestOfTable, Cond.code yX6_digestOfTable cX6_digestOfTable 7 (some .long)]
def wsL_law0_r20 : List Cond := [Cond.methodLink RX6 407 yX6_table, Cond.instanceMethod yX6_table, Cond.selects RX6 yX6_table yX6_table, Cond.code yX6_table cX6_table 4 (some .int), Cond.instanceMethod yX1_nextOf, Cond.selects RX1 yX1_nextOf yX1_nextOf, Cond.code yX1_nextOf cX1_nextOf 4 (some .int), Cond.methodLink RX1 51 yX1_why, Cond.instanceMethod yX1_smallestOf, Cond.selects RX1 yX1_smallestOf yX1_smallestOf, Cond.code yX1_smallestOf cX1_smallestOf 4 (some .int), Cond.methodLink RX6 376 yX6_isAlike, Cond.instanceMethod yX6_isAlike, Cond.selects RX6 yX6_isAlike yX6_isAlike, Cond.code yX6_isAlike cX6_isAlike 3 (some .boolean), Cond.instanceMethod yX2_areAlike, Cond.selects RX2 yX2_areAlike yX2_areAlike, Cond.code yX2_areAlike cX2_areAlike 8 (some .boolean), Cond.methodLink RX2 67 yX2_partMatching, Cond.instanceMethod yX2_partMatching, Cond.selects RX2 yX2_partMatching yX2_partMatching, Cond.code yX2_partMatching cX2_partMatching 6 (some .int), Cond.methodLink RX6 379 yX6_isSound, Cond.instanceMethod yX6_isSound]
def wsL_law0_r21 : List Cond := [Cond.selects RX6 yX6_isSound yX6_isSound, Cond.code yX6_isSound cX6_isSound 1 (some .boolean), Cond.instanceMethod yX3_isMutual, Cond.selects RX3 yX3_isMutual yX3_isMutual, Cond.code yX3_isMutual cX3_isMutual 4 (some .boolean), Cond.methodLink RX3 52 yX3_isNear, Cond.methodLink RX6 344 yX6_isAimSound, Cond.instanceMethod yX6_isAimSound, Cond.selects RX6 yX6_isAimSound yX6_isAimSound, Cond.code yX6_isAimSound cX6_isAimSound 2 (some .boolean), Cond.methodLink RX6 347 yX6_isEvenSound, Cond.instanceMethod yX6_isEvenSound, Cond.selects RX6 yX6_isEvenSound yX6_isEvenSound, Cond.code yX6_isEvenSound cX6_isEvenSound 3 (some .boolean), Cond.instanceMethod yX1_isTableSound, Cond.selects RX1 yX1_isTableSound yX1_isTableSound, Cond.code yX1_isTableSound cX1_isTableSound 5 (some .boolean), Cond.methodLink RX1 55 yX1_smallestOf, Cond.methodLink RX1 58 yX1_nextOf, Cond.methodLink RL 48 yX6_isSound]
def wsL_law0 : List Cond := (wsL_law0_r1 ++ (wsL_law0_r2 ++ (wsL_law0_r3 ++ (wsL_law0_r4 ++ (wsL_law0_r5 ++ (wsL_law0_r6 ++ (wsL_law0_r7 ++ (wsL_law0_r8 ++ (wsL_law0_r9 ++ (wsL_law0_r10 ++ (wsL_law0_r11 ++ (wsL_law0_r12 ++ (wsL_law0_r13 ++ (wsL_law0_r14 ++ (wsL_law0_r15 ++ (wsL_law0_r16 ++ (wsL_law0_r17 ++ (wsL_law0_r18 ++ (wsL_law0_r19 ++ (wsL_law0_r20 ++ wsL_law0_r21)))))))))))))))))))) ++ wsX60 ++ wsX30 ++ wsX00 ++ wsX10 ++ wsX20 ++ wsX40 ++ ([] : List Cond)
def wsL_law : List Cond := wsL_law0 ++ (vx_atS RX6 70 "java/lang/IllegalArgumentException" ["java/lang/RuntimeException", "java/lang/Exception"]).filter goodWord ++ (vx_atS RX6 95 "java/lang/IndexOutOfBoundsException" ["java/lang/RuntimeException", "java/lang/Exception"]).filter goodWord ++ (vx_atS RX6 110 "java/lang/IllegalStateException" ["java/lang/RuntimeException", "java/lang/Exception"]).filter goodWord
theorem dX0_init_0 : decode cX0_init 0 = .ok (.aload_n 0, 1) := by sorry
theorem dX0_init_1 : decode cX0_init 1 = .ok (.invokespecial 3, 3) := by sorry
theorem dX0_init_4 : decode cX0_init 4 = .ok (.aload_n 0, 1) := by sorry
theorem dX0_init_5 : decode cX0_init 5 = .ok (.bipush 16, 2) := by sorry
theorem dX0_init_7 : decode cX0_init 7 = .ok (.newarray .int, 2) := by sorry
theorem dX0_init_9 : decode cX0_init 9 = .ok (.putfield 9, 3) := by sorry
theorem dX0_init_12 : decode cX0_init 12 = .ok (.aload_n 0, 1) := by sorry
theorem dX0_init_13 : decode cX0_init 13 = .ok (.bipush 120, 2) := by sorry
theorem dX0_init_15 : decode cX0_init 15 = .ok (.newarray .int, 2) := by sorry
theorem dX0_init_17 : decode cX0_init 17 = .ok (.putfield 15, 3) := by sorry
theorem dX0_init_20 : decode cX0_init 20 = .ok (.aload_n 0, 1) := by sorry
theorem dX0_init_21 : decode cX0_init 21 = .ok (.bipush 40, 2) := by sorry
theorem dX0_init_23 : decode cX0_init 23 = .ok (.newarray .int, 2) := by sorry
theorem dX0_init_25 : decode cX0_init 25 = .ok (.putfield 18, 3) := by sorry
theorem dX0_init_28 : decode cX0_init 28 = .ok (.aload_n 0, 1) := by sorry
theorem dX0_init_29 : decode cX0_init 29 = .ok (.bipush 40, 2) := by sorry
theorem dX0_init_31 : decode cX0_init 31 = .ok (.newarray .int, 2) := by sorry
theorem dX0_init_33 : decode cX0_init 33 = .ok (.putfield 21, 3) := by sorry
theorem dX0_init_36 : decode cX0_init 36 = .ok (.aload_n 0, 1) := by sorry
theorem dX0_init_37 : decode cX0_init 37 = .ok (.iconst 0, 1) := by sorry
theorem dX0_init_38 : decode cX0_init 38 = .ok (.putfield 24, 3) := by sorry
theorem dX0_init_41 : decode cX0_init 41 = .ok (.aload_n 0, 1) := by sorry
theorem dX0_init_42 : decode cX0_init 42 = .ok (.iconst 0, 1) := by sorry
theorem dX0_init_43 : decode cX0_init 43 = .ok (.putfield 28, 3) := by sorry
theorem dX0_init_46 : decode cX0_init 46 = .ok (.return_, 1) := by sorry
theorem ggX0_begin_X0_unbarDownTo : GoodIn wsX0_begin wsX0_unbarDownTo := by sorry
theorem gX0_begin_X0_unbarDownTo : GoodIn wsX0_begin (wsV RX0 44 RX0 yX0_unbarDownTo wsX0_unbarDownTo) := by sorry
theorem dX0_begin_0 : decode cX0_begin 0 = .ok (.aload_n 0, 1) := by sorry
theorem dX0_begin_1 : decode cX0_begin 1 = .ok (.iconst 1, 1) := by sorry
theorem dX0_begin_2 : decode cX0_begin 2 = .ok (.putfield 24, 3) := by sorry
theorem dX0_begin_5 : decode cX0_begin 5 = .ok (.aload_n 0, 1) := by sorry
theorem dX0_begin_6 : decode cX0_begin 6 = .ok (.iload_n 1, 1) := by sorry
theorem dX0_begin_7 : decode cX0_begin 7 = .ok (.putfield 32, 3) := by sorry
theorem dX0_begin_10 : decode cX0_begin 10 = .ok (.aload_n 0, 1) := by sorry
theorem dX0_begin_11 : decode cX0_begin 11 = .ok (.iload_n 2, 1) := by sorry
theorem dX0_begin_12 : decode cX0_begin 12 = .ok (.putfield 35, 3) := by sorry
theorem dX0_begin_15 : decode cX0_begin 15 = .ok (.aload_n 0, 1) := by sorry
theorem dX0_begin_16 : decode cX0_begin 16 = .ok (.iconst 0, 1) := by sorry
theorem dX0_begin_17 : decode cX0_begin 17 = .ok (.putfield 38, 3) := by sorry
theorem dX0_begin_20 : decode cX0_begin 20 = .ok (.aload_n 0, 1) := by sorry
theorem dX0_begin_21 : decode cX0_begin 21 = .ok (.iconst 0, 1) := by sorry
theorem dX0_begin_22 : decode cX0_begin 22 = .ok (.putfield 28, 3) := by sorry
theorem dX0_begin_25 : decode cX0_begin 25 = .ok (.aload_n 0, 1) := by sorry
theorem dX0_begin_26 : decode cX0_begin 26 = .ok (.iconst 0, 1) := by sorry
theorem dX0_begin_27 : decode cX0_begin 27 = .ok (.putfield 41, 3) := by sorry
theorem dX0_begin_30 : decode cX0_begin 30 = .ok (.aload_n 0, 1) := by sorry
theorem dX0_begin_31 : decode cX0_begin 31 = .ok (.iconst 0, 1) := by sorry
theorem dX0_begin_32 : decode cX0_begin 32 = .ok (.invokevirtual 44, 3) := by sorry
theorem dX0_begin_35 : decode cX0_begin 35 = .ok (.return_, 1) := by sorry
theorem dX0_end_0 : decode cX0_end 0 = .ok (.aload_n 0, 1) := by sorry
theorem dX0_end_1 : decode cX0_end 1 = .ok (.iconst 0, 1) := by sorry
theorem dX0_end_2 : decode cX0_end 2 = .ok (.putfield 24, 3) := by sorry
theorem dX0_end_5 : decode cX0_end 5 = .ok (.return_, 1) := by sorry
theorem ggX0_step_X0_nextKnot : GoodIn wsX0_step wsX0_nextKnot := by sorry
theorem gX0_step_X0_nextKnot : GoodIn wsX0_step (wsV RX0 48 RX0 yX0_nextKnot wsX0_nextKnot) := by sorry
theorem ggX0_step_X0_partnerOf : GoodIn wsX0_step wsX0_partnerOf := by sorry
theorem gX0_step_X0_partnerOf : GoodIn wsX0_step (wsV RX0 52 RX0 yX0_partnerOf wsX0_partnerOf) := by sorry
theorem ggX0_step_X0_goBack : GoodIn wsX0_step wsX0_goBack := by sorry
theorem gX0_step_X0_goBack : GoodIn wsX0_step (wsV RX0 56 RX0 yX0_goBack wsX0_goBack) := by sorry
theorem ggX0_step_X0_put : GoodIn wsX0_step wsX0_put := by sorry
theorem gX0_step_X0_put : GoodIn wsX0_step (wsV RX0 60 RX0 yX0_put wsX0_put) := by sorry
theorem dX0_step_0 : decode cX0_step 0 = .ok (.aload_n 0, 1) := by sorry
theorem dX0_step_1 : decode cX0_step 1 = .ok (.dup, 1) := by sorry
theorem dX0_step_2 : decode cX0_step 2 = .ok (.getfield 38, 3) := by sorry
theorem dX0_step_5 : decode cX0_step 5 = .ok (.iconst 1, 1) := by sorry
theorem dX0_step_6 : decode cX0_step 6 = .ok (.iadd, 1) := by sorry
theorem dX0_step_7 : decode cX0_step 7 = .ok (.putfield 38, 3) := by sorry
theorem dX0_step_10 : decode cX0_step 10 = .ok (.aload_n 0, 1) := by sorry
theorem dX0_step_11 : decode cX0_step 11 = .ok (.aload_n 1, 1) := by sorry
theorem dX0_step_12 : decode cX0_step 12 = .ok (.invokevirtual 48, 3) := by sorry
theorem dX0_step_15 : decode cX0_step 15 = .ok (.istore_n 2, 1) := by sorry
theorem dX0_step_16 : decode cX0_step 16 = .ok (.iload_n 2, 1) := by sorry
theorem dX0_step_17 : decode cX0_step 17 = .ok (.iconst (-1), 1) := by sorry
theorem dX0_step_18 : decode cX0_step 18 = .ok (.if_icmp .ne 9, 3) := by sorry
theorem dX0_step_21 : decode cX0_step 21 = .ok (.aload_n 0, 1) := by sorry
theorem dX0_step_22 : decode cX0_step 22 = .ok (.iconst 1, 1) := by sorry
theorem dX0_step_23 : decode cX0_step 23 = .ok (.putfield 28, 3) := by sorry
theorem dX0_step_26 : decode cX0_step 26 = .ok (.return_, 1) := by sorry
theorem dX0_step_27 : decode cX0_step 27 = .ok (.aload_n 0, 1) := by sorry
theorem dX0_step_28 : decode cX0_step 28 = .ok (.aload_n 1, 1) := by sorry
theorem dX0_step_29 : decode cX0_step 29 = .ok (.iload_n 2, 1) := by sorry
theorem dX0_step_30 : decode cX0_step 30 = .ok (.invokevirtual 52, 3) := by sorry
theorem dX0_step_33 : decode cX0_step 33 = .ok (.istore_n 3, 1) := by sorry
theorem dX0_step_34 : decode cX0_step 34 = .ok (.iload_n 3, 1) := by sorry
theorem dX0_step_35 : decode cX0_step 35 = .ok (.iconst (-1), 1) := by sorry
theorem dX0_step_36 : decode cX0_step 36 = .ok (.if_icmp .ne 11, 3) := by sorry
theorem dX0_step_39 : decode cX0_step 39 = .ok (.aload_n 0, 1) := by sorry
theorem dX0_step_40 : decode cX0_step 40 = .ok (.aload_n 1, 1) := by sorry
theorem dX0_step_41 : decode cX0_step 41 = .ok (.invokevirtual 56, 3) := by sorry
theorem dX0_step_44 : decode cX0_step 44 = .ok (.goto 10, 3) := by sorry
theorem dX0_step_47 : decode cX0_step 47 = .ok (.aload_n 0, 1) := by sorry
theorem dX0_step_48 : decode cX0_step 48 = .ok (.aload_n 1, 1) := by sorry
theorem dX0_step_49 : decode cX0_step 49 = .ok (.iload_n 2, 1) := by sorry
theorem dX0_step_50 : decode cX0_step 50 = .ok (.iload_n 3, 1) := by sorry
theorem dX0_step_51 : decode cX0_step 51 = .ok (.invokevirtual 60, 3) := by sorry
theorem dX0_step_54 : decode cX0_step 54 = .ok (.return_, 1) := by sorry
theorem ggX0_put_X6_pairOf : GoodIn wsX0_put wsX6_pairOf := by sorry
theorem gX0_put_X6_pairOf_n64 : GoodIn wsX0_put (wsX6_pairOf) := by sorry
theorem ggX0_put_X3_join : GoodIn wsX0_put wsX3_join := by sorry
theorem gX0_put_X3_join_n71 : GoodIn wsX0_put (wsX3_join) := by sorry
theorem dX0_put_0 : decode cX0_put 0 = .ok (.aload_n 0, 1) := by sorry
theorem dX0_put_1 : decode cX0_put 1 = .ok (.getfield 41, 3) := by sorry
theorem dX0_put_4 : decode cX0_put 4 = .ok (.ifCond .lt 70, 3) := by sorry
theorem dX0_put_7 : decode cX0_put 7 = .ok (.aload_n 0, 1) := by sorry
theorem dX0_put_8 : decode cX0_put 8 = .ok (.getfield 41, 3) := by sorry
theorem dX0_put_11 : decode cX0_put 11 = .ok (.aload_n 0, 1) := by sorry
theorem dX0_put_12 : decode cX0_put 12 = .ok (.getfield 18, 3) := by sorry
theorem dX0_put_15 : decode cX0_put 15 = .ok (.arraylength, 1) := by sorry
theorem dX0_put_16 : decode cX0_put 16 = .ok (.if_icmp .ge 58, 3) := by sorry
theorem dX0_put_19 : decode cX0_put 19 = .ok (.aload_n 0, 1) := by sorry
theorem dX0_put_20 : decode cX0_put 20 = .ok (.getfield 41, 3) := by sorry
theorem dX0_put_23 : decode cX0_put 23 = .ok (.aload_n 0, 1) := by sorry
theorem dX0_put_24 : decode cX0_put 24 = .ok (.getfield 21, 3) := by sorry
theorem dX0_put_27 : decode cX0_put 27 = .ok (.arraylength, 1) := by sorry
theorem dX0_put_28 : decode cX0_put 28 = .ok (.if_icmp .ge 46, 3) := by sorry
theorem dX0_put_31 : decode cX0_put 31 = .ok (.aload_n 0, 1) := by sorry
theorem dX0_put_32 : decode cX0_put 32 = .ok (.getfield 18, 3) := by sorry
theorem dX0_put_35 : decode cX0_put 35 = .ok (.aload_n 0, 1) := by sorry
theorem dX0_put_36 : decode cX0_put 36 = .ok (.getfield 41, 3) := by sorry
theorem dX0_put_39 : decode cX0_put 39 = .ok (.iload_n 2, 1) := by sorry
theorem dX0_put_40 : decode cX0_put 40 = .ok (.iload_n 3, 1) := by sorry
theorem dX0_put_41 : decode cX0_put 41 = .ok (.invokestatic 64, 3) := by sorry
theorem dX0_put_44 : decode cX0_put 44 = .ok (.iastore, 1) := by sorry
theorem dX0_put_45 : decode cX0_put 45 = .ok (.aload_n 0, 1) := by sorry
theorem dX0_put_46 : decode cX0_put 46 = .ok (.getfield 21, 3) := by sorry
theorem dX0_put_49 : decode cX0_put 49 = .ok (.aload_n 0, 1) := by sorry
theorem dX0_put_50 : decode cX0_put 50 = .ok (.getfield 41, 3) := by sorry
theorem dX0_put_53 : decode cX0_put 53 = .ok (.aload_n 0, 1) := by sorry
theorem dX0_put_54 : decode cX0_put 54 = .ok (.getfield 68, 3) := by sorry
theorem dX0_put_57 : decode cX0_put 57 = .ok (.iastore, 1) := by sorry
theorem dX0_put_58 : decode cX0_put 58 = .ok (.aload_n 0, 1) := by sorry
theorem dX0_put_59 : decode cX0_put 59 = .ok (.dup, 1) := by sorry
theorem dX0_put_60 : decode cX0_put 60 = .ok (.getfield 41, 3) := by sorry
theorem dX0_put_63 : decode cX0_put 63 = .ok (.iconst 1, 1) := by sorry
theorem dX0_put_64 : decode cX0_put 64 = .ok (.iadd, 1) := by sorry
theorem dX0_put_65 : decode cX0_put 65 = .ok (.putfield 41, 3) := by sorry
theorem dX0_put_68 : decode cX0_put 68 = .ok (.aload_n 1, 1) := by sorry
theorem dX0_put_69 : decode cX0_put 69 = .ok (.iload_n 2, 1) := by sorry
theorem dX0_put_70 : decode cX0_put 70 = .ok (.iload_n 3, 1) := by sorry
theorem dX0_put_71 : decode cX0_put 71 = .ok (.invokevirtual 71, 3) := by sorry
theorem dX0_put_74 : decode cX0_put 74 = .ok (.return_, 1) := by sorry
theorem ggX0_goBack_X0_unbarDownTo : GoodIn wsX0_goBack wsX0_unbarDownTo := by sorry
theorem gX0_goBack_X0_unbarDownTo : GoodIn wsX0_goBack (wsV RX0 44 RX0 yX0_unbarDownTo wsX0_unbarDownTo) := by sorry
theorem ggX0_goBack_X6_oneOf : GoodIn wsX0_goBack wsX6_oneOf := by sorry
theorem gX0_goBack_X6_oneOf_n77 : GoodIn wsX0_goBack (wsX6_oneOf) := by sorry
theorem ggX0_goBack_X6_otherOf : GoodIn wsX0_goBack wsX6_otherOf := by sorry
theorem gX0_goBack_X6_otherOf_n81 : GoodIn wsX0_goBack (wsX6_otherOf) := by sorry
theorem ggX0_goBack_X3_loosen : GoodIn wsX0_goBack wsX3_loosen := by sorry
theorem gX0_goBack_X3_loosen_n84 : GoodIn wsX0_goBack (wsX3_loosen) := by sorry
theorem ggX0_goBack_X0_bar : GoodIn wsX0_goBack wsX0_bar := by sorry
theorem gX0_goBack_X0_bar : GoodIn wsX0_goBack (wsV RX0 87 RX0 yX0_bar wsX0_bar) := by sorry
theorem dX0_goBack_0 : decode cX0_goBack 0 = .ok (.aload_n 0, 1) := by sorry
theorem dX0_goBack_1 : decode cX0_goBack 1 = .ok (.getfield 41, 3) := by sorry
theorem dX0_goBack_4 : decode cX0_goBack 4 = .ok (.iconst 1, 1) := by sorry
theorem dX0_goBack_5 : decode cX0_goBack 5 = .ok (.isub, 1) := by sorry
theorem dX0_goBack_6 : decode cX0_goBack 6 = .ok (.istore_n 2, 1) := by sorry
theorem dX0_goBack_7 : decode cX0_goBack 7 = .ok (.iload_n 2, 1) := by sorry
theorem dX0_goBack_8 : decode cX0_goBack 8 = .ok (.ifCond .lt 21, 3) := by sorry
theorem dX0_goBack_11 : decode cX0_goBack 11 = .ok (.iload_n 2, 1) := by sorry
theorem dX0_goBack_12 : decode cX0_goBack 12 = .ok (.aload_n 0, 1) := by sorry
theorem dX0_goBack_13 : decode cX0_goBack 13 = .ok (.getfield 18, 3) := by sorry
theorem dX0_goBack_16 : decode cX0_goBack 16 = .ok (.arraylength, 1) := by sorry
theorem dX0_goBack_17 : decode cX0_goBack 17 = .ok (.if_icmp .ge 12, 3) := by sorry
theorem dX0_goBack_20 : decode cX0_goBack 20 = .ok (.iload_n 2, 1) := by sorry
theorem dX0_goBack_21 : decode cX0_goBack 21 = .ok (.aload_n 0, 1) := by sorry
theorem dX0_goBack_22 : decode cX0_goBack 22 = .ok (.getfield 21, 3) := by sorry
theorem dX0_goBack_25 : decode cX0_goBack 25 = .ok (.arraylength, 1) := by sorry
theorem dX0_goBack_26 : decode cX0_goBack 26 = .ok (.if_icmp .lt 14, 3) := by sorry
theorem dX0_goBack_29 : decode cX0_goBack 29 = .ok (.aload_n 0, 1) := by sorry
theorem dX0_goBack_30 : decode cX0_goBack 30 = .ok (.iconst 0, 1) := by sorry
theorem dX0_goBack_31 : decode cX0_goBack 31 = .ok (.invokevirtual 44, 3) := by sorry
theorem dX0_goBack_34 : decode cX0_goBack 34 = .ok (.aload_n 0, 1) := by sorry
theorem dX0_goBack_35 : decode cX0_goBack 35 = .ok (.iconst 2, 1) := by sorry
theorem dX0_goBack_36 : decode cX0_goBack 36 = .ok (.putfield 28, 3) := by sorry
theorem dX0_goBack_39 : decode cX0_goBack 39 = .ok (.return_, 1) := by sorry
theorem dX0_goBack_40 : decode cX0_goBack 40 = .ok (.aload_n 0, 1) := by sorry
theorem dX0_goBack_41 : decode cX0_goBack 41 = .ok (.iload_n 2, 1) := by sorry
theorem dX0_goBack_42 : decode cX0_goBack 42 = .ok (.putfield 41, 3) := by sorry
theorem dX0_goBack_45 : decode cX0_goBack 45 = .ok (.aload_n 1, 1) := by sorry
theorem dX0_goBack_46 : decode cX0_goBack 46 = .ok (.aload_n 0, 1) := by sorry
theorem dX0_goBack_47 : decode cX0_goBack 47 = .ok (.getfield 18, 3) := by sorry
theorem dX0_goBack_50 : decode cX0_goBack 50 = .ok (.iload_n 2, 1) := by sorry
theorem dX0_goBack_51 : decode cX0_goBack 51 = .ok (.iaload, 1) := by sorry
theorem dX0_goBack_52 : decode cX0_goBack 52 = .ok (.invokestatic 77, 3) := by sorry
theorem dX0_goBack_55 : decode cX0_goBack 55 = .ok (.aload_n 0, 1) := by sorry
theorem dX0_goBack_56 : decode cX0_goBack 56 = .ok (.getfield 18, 3) := by sorry
theorem dX0_goBack_59 : decode cX0_goBack 59 = .ok (.iload_n 2, 1) := by sorry
theorem dX0_goBack_60 : decode cX0_goBack 60 = .ok (.iaload, 1) := by sorry
theorem dX0_goBack_61 : decode cX0_goBack 61 = .ok (.invokestatic 81, 3) := by sorry
theorem dX0_goBack_64 : decode cX0_goBack 64 = .ok (.invokevirtual 84, 3) := by sorry
theorem dX0_goBack_67 : decode cX0_goBack 67 = .ok (.aload_n 0, 1) := by sorry
theorem dX0_goBack_68 : decode cX0_goBack 68 = .ok (.aload_n 0, 1) := by sorry
theorem dX0_goBack_69 : decode cX0_goBack 69 = .ok (.getfield 21, 3) := by sorry
theorem dX0_goBack_72 : decode cX0_goBack 72 = .ok (.iload_n 2, 1) := by sorry
theorem dX0_goBack_73 : decode cX0_goBack 73 = .ok (.iaload, 1) := by sorry
theorem dX0_goBack_74 : decode cX0_goBack 74 = .ok (.invokevirtual 44, 3) := by sorry
theorem dX0_goBack_77 : decode cX0_goBack 77 = .ok (.aload_n 0, 1) := by sorry
theorem dX0_goBack_78 : decode cX0_goBack 78 = .ok (.aload_n 0, 1) := by sorry
theorem dX0_goBack_79 : decode cX0_goBack 79 = .ok (.getfield 18, 3) := by sorry
theorem dX0_goBack_82 : decode cX0_goBack 82 = .ok (.iload_n 2, 1) := by sorry
theorem dX0_goBack_83 : decode cX0_goBack 83 = .ok (.iaload, 1) := by sorry
theorem dX0_goBack_84 : decode cX0_goBack 84 = .ok (.invokevirtual 87, 3) := by sorry
theorem dX0_goBack_87 : decode cX0_goBack 87 = .ok (.return_, 1) := by sorry
theorem ggX0_bar_X6_oneOf : GoodIn wsX0_bar wsX6_oneOf := by sorry
theorem gX0_bar_X6_oneOf_n77 : GoodIn wsX0_bar (wsX6_oneOf) := by sorry
theorem ggX0_bar_X6_otherOf : GoodIn wsX0_bar wsX6_otherOf := by sorry
theorem gX0_bar_X6_otherOf_n81 : GoodIn wsX0_bar (wsX6_otherOf) := by sorry
theorem ggX0_bar_X0_flipBar : GoodIn wsX0_bar wsX0_flipBar := by sorry
theorem gX0_bar_X0_flipBar : GoodIn wsX0_bar (wsV RX0 90 RX0 yX0_flipBar wsX0_flipBar) := by sorry
theorem dX0_bar_0 : decode cX0_bar 0 = .ok (.aload_n 0, 1) := by sorry
theorem dX0_bar_1 : decode cX0_bar 1 = .ok (.getfield 68, 3) := by sorry
theorem dX0_bar_4 : decode cX0_bar 4 = .ok (.ifCond .lt 47, 3) := by sorry
theorem dX0_bar_7 : decode cX0_bar 7 = .ok (.aload_n 0, 1) := by sorry
theorem dX0_bar_8 : decode cX0_bar 8 = .ok (.getfield 68, 3) := by sorry
theorem dX0_bar_11 : decode cX0_bar 11 = .ok (.aload_n 0, 1) := by sorry
theorem dX0_bar_12 : decode cX0_bar 12 = .ok (.getfield 15, 3) := by sorry
theorem dX0_bar_15 : decode cX0_bar 15 = .ok (.arraylength, 1) := by sorry
theorem dX0_bar_16 : decode cX0_bar 16 = .ok (.if_icmp .ge 35, 3) := by sorry
theorem dX0_bar_19 : decode cX0_bar 19 = .ok (.aload_n 0, 1) := by sorry
theorem dX0_bar_20 : decode cX0_bar 20 = .ok (.getfield 15, 3) := by sorry
theorem dX0_bar_23 : decode cX0_bar 23 = .ok (.aload_n 0, 1) := by sorry
theorem dX0_bar_24 : decode cX0_bar 24 = .ok (.getfield 68, 3) := by sorry
theorem dX0_bar_27 : decode cX0_bar 27 = .ok (.iload_n 1, 1) := by sorry
theorem dX0_bar_28 : decode cX0_bar 28 = .ok (.iastore, 1) := by sorry
theorem dX0_bar_29 : decode cX0_bar 29 = .ok (.aload_n 0, 1) := by sorry
theorem dX0_bar_30 : decode cX0_bar 30 = .ok (.dup, 1) := by sorry
theorem dX0_bar_31 : decode cX0_bar 31 = .ok (.getfield 68, 3) := by sorry
theorem dX0_bar_34 : decode cX0_bar 34 = .ok (.iconst 1, 1) := by sorry
theorem dX0_bar_35 : decode cX0_bar 35 = .ok (.iadd, 1) := by sorry
theorem dX0_bar_36 : decode cX0_bar 36 = .ok (.putfield 68, 3) := by sorry
theorem dX0_bar_39 : decode cX0_bar 39 = .ok (.aload_n 0, 1) := by sorry
theorem dX0_bar_40 : decode cX0_bar 40 = .ok (.iload_n 1, 1) := by sorry
theorem dX0_bar_41 : decode cX0_bar 41 = .ok (.invokestatic 77, 3) := by sorry
theorem dX0_bar_44 : decode cX0_bar 44 = .ok (.iload_n 1, 1) := by sorry
theorem dX0_bar_45 : decode cX0_bar 45 = .ok (.invokestatic 81, 3) := by sorry
theorem dX0_bar_48 : decode cX0_bar 48 = .ok (.invokevirtual 90, 3) := by sorry
theorem dX0_bar_51 : decode cX0_bar 51 = .ok (.return_, 1) := by sorry
theorem ggX0_unbarDownTo_X6_oneOf : GoodIn wsX0_unbarDownTo wsX6_oneOf := by sorry
theorem gX0_unbarDownTo_X6_oneOf_n77 : GoodIn wsX0_unbarDownTo (wsX6_oneOf) := by sorry
theorem ggX0_unbarDownTo_X6_otherOf : GoodIn wsX0_unbarDownTo wsX6_otherOf := by sorry
theorem gX0_unbarDownTo_X6_otherOf_n81 : GoodIn wsX0_unbarDownTo (wsX6_otherOf) := by sorry
theorem ggX0_unbarDownTo_X0_flipBar : GoodIn wsX0_unbarDownTo wsX0_flipBar := by sorry
theorem gX0_unbarDownTo_X0_flipBar : GoodIn wsX0_unbarDownTo (wsV RX0 90 RX0 yX0_flipBar wsX0_flipBar) := by sorry
theorem dX0_unbarDownTo_0 : decode cX0_unbarDownTo 0 = .ok (.aload_n 0, 1) := by sorry
theorem dX0_unbarDownTo_1 : decode cX0_unbarDownTo 1 = .ok (.getfield 68, 3) := by sorry
theorem dX0_unbarDownTo_4 : decode cX0_unbarDownTo 4 = .ok (.iconst 1, 1) := by sorry
theorem dX0_unbarDownTo_5 : decode cX0_unbarDownTo 5 = .ok (.isub, 1) := by sorry
theorem dX0_unbarDownTo_6 : decode cX0_unbarDownTo 6 = .ok (.istore_n 2, 1) := by sorry
theorem dX0_unbarDownTo_7 : decode cX0_unbarDownTo 7 = .ok (.iload_n 2, 1) := by sorry
theorem dX0_unbarDownTo_8 : decode cX0_unbarDownTo 8 = .ok (.iload_n 1, 1) := by sorry
theorem dX0_unbarDownTo_9 : decode cX0_unbarDownTo 9 = .ok (.if_icmp .lt 49, 3) := by sorry
theorem dX0_unbarDownTo_12 : decode cX0_unbarDownTo 12 = .ok (.iload_n 2, 1) := by sorry
theorem dX0_unbarDownTo_13 : decode cX0_unbarDownTo 13 = .ok (.ifCond .lt 39, 3) := by sorry
theorem dX0_unbarDownTo_16 : decode cX0_unbarDownTo 16 = .ok (.iload_n 2, 1) := by sorry
theorem dX0_unbarDownTo_17 : decode cX0_unbarDownTo 17 = .ok (.aload_n 0, 1) := by sorry
theorem dX0_unbarDownTo_18 : decode cX0_unbarDownTo 18 = .ok (.getfield 15, 3) := by sorry
theorem dX0_unbarDownTo_21 : decode cX0_unbarDownTo 21 = .ok (.arraylength, 1) := by sorry
theorem dX0_unbarDownTo_22 : decode cX0_unbarDownTo 22 = .ok (.if_icmp .ge 30, 3) := by sorry
theorem dX0_unbarDownTo_25 : decode cX0_unbarDownTo 25 = .ok (.aload_n 0, 1) := by sorry
theorem dX0_unbarDownTo_26 : decode cX0_unbarDownTo 26 = .ok (.aload_n 0, 1) := by sorry
theorem dX0_unbarDownTo_27 : decode cX0_unbarDownTo 27 = .ok (.getfield 15, 3) := by sorry
theorem dX0_unbarDownTo_30 : decode cX0_unbarDownTo 30 = .ok (.iload_n 2, 1) := by sorry
theorem dX0_unbarDownTo_31 : decode cX0_unbarDownTo 31 = .ok (.iaload, 1) := by sorry
theorem dX0_unbarDownTo_32 : decode cX0_unbarDownTo 32 = .ok (.invokestatic 77, 3) := by sorry
theorem dX0_unbarDownTo_35 : decode cX0_unbarDownTo 35 = .ok (.aload_n 0, 1) := by sorry
theorem dX0_unbarDownTo_36 : decode cX0_unbarDownTo 36 = .ok (.getfield 15, 3) := by sorry
theorem dX0_unbarDownTo_39 : decode cX0_unbarDownTo 39 = .ok (.iload_n 2, 1) := by sorry
theorem dX0_unbarDownTo_40 : decode cX0_unbarDownTo 40 = .ok (.iaload, 1) := by sorry
theorem dX0_unbarDownTo_41 : decode cX0_unbarDownTo 41 = .ok (.invokestatic 81, 3) := by sorry
theorem dX0_unbarDownTo_44 : decode cX0_unbarDownTo 44 = .ok (.invokevirtual 90, 3) := by sorry
theorem dX0_unbarDownTo_47 : decode cX0_unbarDownTo 47 = .ok (.aload_n 0, 1) := by sorry
theorem dX0_unbarDownTo_48 : decode cX0_unbarDownTo 48 = .ok (.iload_n 2, 1) := by sorry
theorem dX0_unbarDownTo_49 : decode cX0_unbarDownTo 49 = .ok (.putfield 68, 3) := by sorry
theorem dX0_unbarDownTo_52 : decode cX0_unbarDownTo 52 = .ok (.iinc 2 (-1), 3) := by sorry
theorem dX0_unbarDownTo_55 : decode cX0_unbarDownTo 55 = .ok (.goto (-48), 3) := by sorry
theorem dX0_unbarDownTo_58 : decode cX0_unbarDownTo 58 = .ok (.return_, 1) := by sorry
theorem ggX0_flipBar_X6_bit : GoodIn wsX0_flipBar wsX6_bit := by sorry
theorem gX0_flipBar_X6_bit_n93 : GoodIn wsX0_flipBar (wsX6_bit) := by sorry
theorem dX0_flipBar_0 : decode cX0_flipBar 0 = .ok (.iload_n 1, 1) := by sorry
theorem dX0_flipBar_1 : decode cX0_flipBar 1 = .ok (.ifCond .lt 51, 3) := by sorry
theorem dX0_flipBar_4 : decode cX0_flipBar 4 = .ok (.iload_n 1, 1) := by sorry
theorem dX0_flipBar_5 : decode cX0_flipBar 5 = .ok (.aload_n 0, 1) := by sorry
theorem dX0_flipBar_6 : decode cX0_flipBar 6 = .ok (.getfield 9, 3) := by sorry
theorem dX0_flipBar_9 : decode cX0_flipBar 9 = .ok (.arraylength, 1) := by sorry
theorem dX0_flipBar_10 : decode cX0_flipBar 10 = .ok (.if_icmp .ge 42, 3) := by sorry
theorem dX0_flipBar_13 : decode cX0_flipBar 13 = .ok (.iload_n 2, 1) := by sorry
theorem dX0_flipBar_14 : decode cX0_flipBar 14 = .ok (.ifCond .lt 38, 3) := by sorry
theorem dX0_flipBar_17 : decode cX0_flipBar 17 = .ok (.iload_n 2, 1) := by sorry
theorem dX0_flipBar_18 : decode cX0_flipBar 18 = .ok (.aload_n 0, 1) := by sorry
theorem dX0_flipBar_19 : decode cX0_flipBar 19 = .ok (.getfield 9, 3) := by sorry
theorem dX0_flipBar_22 : decode cX0_flipBar 22 = .ok (.arraylength, 1) := by sorry
theorem dX0_flipBar_23 : decode cX0_flipBar 23 = .ok (.if_icmp .ge 29, 3) := by sorry
theorem dX0_flipBar_26 : decode cX0_flipBar 26 = .ok (.aload_n 0, 1) := by sorry
theorem dX0_flipBar_27 : decode cX0_flipBar 27 = .ok (.getfield 9, 3) := by sorry
theorem dX0_flipBar_30 : decode cX0_flipBar 30 = .ok (.iload_n 1, 1) := by sorry
theorem dX0_flipBar_31 : decode cX0_flipBar 31 = .ok (.dup2, 1) := by sorry
theorem dX0_flipBar_32 : decode cX0_flipBar 32 = .ok (.iaload, 1) := by sorry
theorem dX0_flipBar_33 : decode cX0_flipBar 33 = .ok (.iload_n 2, 1) := by sorry
theorem dX0_flipBar_34 : decode cX0_flipBar 34 = .ok (.invokestatic 93, 3) := by sorry
theorem dX0_flipBar_37 : decode cX0_flipBar 37 = .ok (.ixor, 1) := by sorry
theorem dX0_flipBar_38 : decode cX0_flipBar 38 = .ok (.iastore, 1) := by sorry
theorem dX0_flipBar_39 : decode cX0_flipBar 39 = .ok (.aload_n 0, 1) := by sorry
theorem dX0_flipBar_40 : decode cX0_flipBar 40 = .ok (.getfield 9, 3) := by sorry
theorem dX0_flipBar_43 : decode cX0_flipBar 43 = .ok (.iload_n 2, 1) := by sorry
theorem dX0_flipBar_44 : decode cX0_flipBar 44 = .ok (.dup2, 1) := by sorry
theorem dX0_flipBar_45 : decode cX0_flipBar 45 = .ok (.iaload, 1) := by sorry
theorem dX0_flipBar_46 : decode cX0_flipBar 46 = .ok (.iload_n 1, 1) := by sorry
theorem dX0_flipBar_47 : decode cX0_flipBar 47 = .ok (.invokestatic 93, 3) := by sorry
theorem dX0_flipBar_50 : decode cX0_flipBar 50 = .ok (.ixor, 1) := by sorry
theorem dX0_flipBar_51 : decode cX0_flipBar 51 = .ok (.iastore, 1) := by sorry
theorem dX0_flipBar_52 : decode cX0_flipBar 52 = .ok (.return_, 1) := by sorry
theorem ggX0_needy_X3_countOf : GoodIn wsX0_needy wsX3_countOf := by sorry
theorem gX0_needy_X3_countOf_n99 : GoodIn wsX0_needy (wsX3_countOf) := by sorry
theorem ggX0_needy_X6_bit : GoodIn wsX0_needy wsX6_bit := by sorry
theorem gX0_needy_X6_bit_n93 : GoodIn wsX0_needy (wsX6_bit) := by sorry
theorem dX0_needy_0 : decode cX0_needy 0 = .ok (.iconst 0, 1) := by sorry
theorem dX0_needy_1 : decode cX0_needy 1 = .ok (.istore_n 2, 1) := by sorry
theorem dX0_needy_2 : decode cX0_needy 2 = .ok (.iconst 0, 1) := by sorry
theorem dX0_needy_3 : decode cX0_needy 3 = .ok (.istore_n 3, 1) := by sorry
theorem dX0_needy_4 : decode cX0_needy 4 = .ok (.iload_n 3, 1) := by sorry
theorem dX0_needy_5 : decode cX0_needy 5 = .ok (.aload_n 1, 1) := by sorry
theorem dX0_needy_6 : decode cX0_needy 6 = .ok (.getfield 96, 3) := by sorry
theorem dX0_needy_9 : decode cX0_needy 9 = .ok (.if_icmp .ge 28, 3) := by sorry
theorem dX0_needy_12 : decode cX0_needy 12 = .ok (.aload_n 1, 1) := by sorry
theorem dX0_needy_13 : decode cX0_needy 13 = .ok (.iload_n 3, 1) := by sorry
theorem dX0_needy_14 : decode cX0_needy 14 = .ok (.invokevirtual 99, 3) := by sorry
theorem dX0_needy_17 : decode cX0_needy 17 = .ok (.aload_n 0, 1) := by sorry
theorem dX0_needy_18 : decode cX0_needy 18 = .ok (.getfield 32, 3) := by sorry
theorem dX0_needy_21 : decode cX0_needy 21 = .ok (.if_icmp .ge 10, 3) := by sorry
theorem dX0_needy_24 : decode cX0_needy 24 = .ok (.iload_n 2, 1) := by sorry
theorem dX0_needy_25 : decode cX0_needy 25 = .ok (.iload_n 3, 1) := by sorry
theorem dX0_needy_26 : decode cX0_needy 26 = .ok (.invokestatic 93, 3) := by sorry
theorem dX0_needy_29 : decode cX0_needy 29 = .ok (.ior, 1) := by sorry
theorem dX0_needy_30 : decode cX0_needy 30 = .ok (.istore_n 2, 1) := by sorry
theorem dX0_needy_31 : decode cX0_needy 31 = .ok (.iinc 3 1, 3) := by sorry
theorem dX0_needy_34 : decode cX0_needy 34 = .ok (.goto (-30), 3) := by sorry
theorem dX0_needy_37 : decode cX0_needy 37 = .ok (.iload_n 2, 1) := by sorry
theorem dX0_needy_38 : decode cX0_needy 38 = .ok (.ireturn, 1) := by sorry
theorem ggX0_joinableOf_X6_holds : GoodIn wsX0_joinableOf wsX6_holds := by sorry
theorem gX0_joinableOf_X6_holds_n102 : GoodIn wsX0_joinableOf (wsX6_holds) := by sorry
theorem ggX0_joinableOf_X5_within : GoodIn wsX0_joinableOf wsX5_within := by sorry
theorem gX0_joinableOf_X5_within_n106 : GoodIn wsX0_joinableOf (wsX5_within) := by sorry
theorem dX0_joinableOf_0 : decode cX0_joinableOf 0 = .ok (.iload_n 3, 1) := by sorry
theorem dX0_joinableOf_1 : decode cX0_joinableOf 1 = .ok (.iload_n 2, 1) := by sorry
theorem dX0_joinableOf_2 : decode cX0_joinableOf 2 = .ok (.invokestatic 102, 3) := by sorry
theorem dX0_joinableOf_5 : decode cX0_joinableOf 5 = .ok (.ifCond .eq 16, 3) := by sorry
theorem dX0_joinableOf_8 : decode cX0_joinableOf 8 = .ok (.iload_n 2, 1) := by sorry
theorem dX0_joinableOf_9 : decode cX0_joinableOf 9 = .ok (.ifCond .lt 12, 3) := by sorry
theorem dX0_joinableOf_12 : decode cX0_joinableOf 12 = .ok (.iload_n 2, 1) := by sorry
theorem dX0_joinableOf_13 : decode cX0_joinableOf 13 = .ok (.aload_n 0, 1) := by sorry
theorem dX0_joinableOf_14 : decode cX0_joinableOf 14 = .ok (.getfield 9, 3) := by sorry
theorem dX0_joinableOf_17 : decode cX0_joinableOf 17 = .ok (.arraylength, 1) := by sorry
theorem dX0_joinableOf_18 : decode cX0_joinableOf 18 = .ok (.if_icmp .lt 5, 3) := by sorry
theorem dX0_joinableOf_21 : decode cX0_joinableOf 21 = .ok (.iconst 0, 1) := by sorry
theorem dX0_joinableOf_22 : decode cX0_joinableOf 22 = .ok (.ireturn, 1) := by sorry
theorem dX0_joinableOf_23 : decode cX0_joinableOf 23 = .ok (.iload_n 3, 1) := by sorry
theorem dX0_joinableOf_24 : decode cX0_joinableOf 24 = .ok (.aload_n 1, 1) := by sorry
theorem dX0_joinableOf_25 : decode cX0_joinableOf 25 = .ok (.iload_n 2, 1) := by sorry
theorem dX0_joinableOf_26 : decode cX0_joinableOf 26 = .ok (.aload_n 0, 1) := by sorry
theorem dX0_joinableOf_27 : decode cX0_joinableOf 27 = .ok (.getfield 35, 3) := by sorry
theorem dX0_joinableOf_30 : decode cX0_joinableOf 30 = .ok (.iconst 2, 1) := by sorry
theorem dX0_joinableOf_31 : decode cX0_joinableOf 31 = .ok (.isub, 1) := by sorry
theorem dX0_joinableOf_32 : decode cX0_joinableOf 32 = .ok (.invokestatic 106, 3) := by sorry
theorem dX0_joinableOf_35 : decode cX0_joinableOf 35 = .ok (.iconst (-1), 1) := by sorry
theorem dX0_joinableOf_36 : decode cX0_joinableOf 36 = .ok (.ixor, 1) := by sorry
theorem dX0_joinableOf_37 : decode cX0_joinableOf 37 = .ok (.iand, 1) := by sorry
theorem dX0_joinableOf_38 : decode cX0_joinableOf 38 = .ok (.aload_n 0, 1) := by sorry
theorem dX0_joinableOf_39 : decode cX0_joinableOf 39 = .ok (.getfield 9, 3) := by sorry
theorem dX0_joinableOf_42 : decode cX0_joinableOf 42 = .ok (.iload_n 2, 1) := by sorry
theorem dX0_joinableOf_43 : decode cX0_joinableOf 43 = .ok (.iaload, 1) := by sorry
theorem dX0_joinableOf_44 : decode cX0_joinableOf 44 = .ok (.iconst (-1), 1) := by sorry
theorem dX0_joinableOf_45 : decode cX0_joinableOf 45 = .ok (.ixor, 1) := by sorry
theorem dX0_joinableOf_46 : decode cX0_joinableOf 46 = .ok (.iand, 1) := by sorry
theorem dX0_joinableOf_47 : decode cX0_joinableOf 47 = .ok (.ireturn, 1) := by sorry
theorem ggX0_joinable_X0_needy : GoodIn wsX0_joinable wsX0_needy := by sorry
theorem gX0_joinable_X0_needy : GoodIn wsX0_joinable (wsV RX0 112 RX0 yX0_needy wsX0_needy) := by sorry
theorem ggX0_joinable_X0_joinableOf : GoodIn wsX0_joinable wsX0_joinableOf := by sorry
theorem gX0_joinable_X0_joinableOf : GoodIn wsX0_joinable (wsV RX0 115 RX0 yX0_joinableOf wsX0_joinableOf) := by sorry
theorem dX0_joinable_0 : decode cX0_joinable 0 = .ok (.aload_n 0, 1) := by sorry
theorem dX0_joinable_1 : decode cX0_joinable 1 = .ok (.getfield 24, 3) := by sorry
theorem dX0_joinable_4 : decode cX0_joinable 4 = .ok (.ifCond .eq 17, 3) := by sorry
theorem dX0_joinable_7 : decode cX0_joinable 7 = .ok (.aload_n 0, 1) := by sorry
theorem dX0_joinable_8 : decode cX0_joinable 8 = .ok (.aload_n 1, 1) := by sorry
theorem dX0_joinable_9 : decode cX0_joinable 9 = .ok (.iload_n 2, 1) := by sorry
theorem dX0_joinable_10 : decode cX0_joinable 10 = .ok (.aload_n 0, 1) := by sorry
theorem dX0_joinable_11 : decode cX0_joinable 11 = .ok (.aload_n 1, 1) := by sorry
theorem dX0_joinable_12 : decode cX0_joinable 12 = .ok (.invokevirtual 112, 3) := by sorry
theorem dX0_joinable_15 : decode cX0_joinable 15 = .ok (.invokevirtual 115, 3) := by sorry
theorem dX0_joinable_18 : decode cX0_joinable 18 = .ok (.goto 4, 3) := by sorry
theorem dX0_joinable_21 : decode cX0_joinable 21 = .ok (.iconst 0, 1) := by sorry
theorem dX0_joinable_22 : decode cX0_joinable 22 = .ok (.ireturn, 1) := by sorry
theorem ggX0_nextKnot_X0_needy : GoodIn wsX0_nextKnot wsX0_needy := by sorry
theorem gX0_nextKnot_X0_needy : GoodIn wsX0_nextKnot (wsV RX0 112 RX0 yX0_needy wsX0_needy) := by sorry
theorem ggX0_nextKnot_X6_holds : GoodIn wsX0_nextKnot wsX6_holds := by sorry
theorem gX0_nextKnot_X6_holds_n102 : GoodIn wsX0_nextKnot (wsX6_holds) := by sorry
theorem ggX0_nextKnot_X0_joinableOf : GoodIn wsX0_nextKnot wsX0_joinableOf := by sorry
theorem gX0_nextKnot_X0_joinableOf : GoodIn wsX0_nextKnot (wsV RX0 115 RX0 yX0_joinableOf wsX0_joinableOf) := by sorry
theorem ggX0_nextKnot_J6_bitCount_0f7a4 : GoodIn wsX0_nextKnot wsJ6_bitCount_0f7a4 := by sorry
theorem gX0_nextKnot_J6_bitCount_0f7a4 : GoodIn wsX0_nextKnot (va_wsS RX0 118 yJ6_bitCount_0f7a4 wsJ6_bitCount_0f7a4) := by sorry
theorem dX0_nextKnot_0 : decode cX0_nextKnot 0 = .ok (.aload_n 0, 1) := by sorry
theorem dX0_nextKnot_1 : decode cX0_nextKnot 1 = .ok (.getfield 28, 3) := by sorry
theorem dX0_nextKnot_4 : decode cX0_nextKnot 4 = .ok (.ifCond .eq 5, 3) := by sorry
theorem dX0_nextKnot_7 : decode cX0_nextKnot 7 = .ok (.iconst (-1), 1) := by sorry
theorem dX0_nextKnot_8 : decode cX0_nextKnot 8 = .ok (.ireturn, 1) := by sorry
theorem dX0_nextKnot_9 : decode cX0_nextKnot 9 = .ok (.aload_n 0, 1) := by sorry
theorem dX0_nextKnot_10 : decode cX0_nextKnot 10 = .ok (.aload_n 1, 1) := by sorry
theorem dX0_nextKnot_11 : decode cX0_nextKnot 11 = .ok (.invokevirtual 112, 3) := by sorry
theorem dX0_nextKnot_14 : decode cX0_nextKnot 14 = .ok (.istore_n 2, 1) := by sorry
theorem dX0_nextKnot_15 : decode cX0_nextKnot 15 = .ok (.iconst (-1), 1) := by sorry
theorem dX0_nextKnot_16 : decode cX0_nextKnot 16 = .ok (.istore_n 3, 1) := by sorry
theorem dX0_nextKnot_17 : decode cX0_nextKnot 17 = .ok (.bipush 16, 2) := by sorry
theorem dX0_nextKnot_19 : decode cX0_nextKnot 19 = .ok (.istore 4, 2) := by sorry
theorem dX0_nextKnot_21 : decode cX0_nextKnot 21 = .ok (.iconst 0, 1) := by sorry
theorem dX0_nextKnot_22 : decode cX0_nextKnot 22 = .ok (.istore 5, 2) := by sorry
theorem dX0_nextKnot_24 : decode cX0_nextKnot 24 = .ok (.iload 5, 2) := by sorry
theorem dX0_nextKnot_26 : decode cX0_nextKnot 26 = .ok (.aload_n 1, 1) := by sorry
theorem dX0_nextKnot_27 : decode cX0_nextKnot 27 = .ok (.getfield 96, 3) := by sorry
theorem dX0_nextKnot_30 : decode cX0_nextKnot 30 = .ok (.if_icmp .ge 45, 3) := by sorry
theorem dX0_nextKnot_33 : decode cX0_nextKnot 33 = .ok (.iload_n 2, 1) := by sorry
theorem dX0_nextKnot_34 : decode cX0_nextKnot 34 = .ok (.iload 5, 2) := by sorry
theorem dX0_nextKnot_36 : decode cX0_nextKnot 36 = .ok (.invokestatic 102, 3) := by sorry
theorem dX0_nextKnot_39 : decode cX0_nextKnot 39 = .ok (.ifCond .eq 30, 3) := by sorry
theorem dX0_nextKnot_42 : decode cX0_nextKnot 42 = .ok (.aload_n 0, 1) := by sorry
theorem dX0_nextKnot_43 : decode cX0_nextKnot 43 = .ok (.aload_n 1, 1) := by sorry
theorem dX0_nextKnot_44 : decode cX0_nextKnot 44 = .ok (.iload 5, 2) := by sorry
theorem dX0_nextKnot_46 : decode cX0_nextKnot 46 = .ok (.iload_n 2, 1) := by sorry
theorem dX0_nextKnot_47 : decode cX0_nextKnot 47 = .ok (.invokevirtual 115, 3) := by sorry
theorem dX0_nextKnot_50 : decode cX0_nextKnot 50 = .ok (.invokestatic 118, 3) := by sorry
theorem dX0_nextKnot_53 : decode cX0_nextKnot 53 = .ok (.istore 6, 2) := by sorry
theorem dX0_nextKnot_55 : decode cX0_nextKnot 55 = .ok (.iload 6, 2) := by sorry
theorem dX0_nextKnot_57 : decode cX0_nextKnot 57 = .ok (.iload 4, 2) := by sorry
theorem dX0_nextKnot_59 : decode cX0_nextKnot 59 = .ok (.if_icmp .ge 10, 3) := by sorry
theorem dX0_nextKnot_62 : decode cX0_nextKnot 62 = .ok (.iload 6, 2) := by sorry
theorem dX0_nextKnot_64 : decode cX0_nextKnot 64 = .ok (.istore 4, 2) := by sorry
end
section
theorem dX0_nextKnot_66 : decode cX0_nextKnot 66 = .ok (.iload 5, 2) := by sorry
theorem dX0_nextKnot_68 : decode cX0_nextKnot 68 = .ok (.istore_n 3, 1) := by sorry
theorem dX0_nextKnot_69 : decode cX0_nextKnot 69 = .ok (.iinc 5 1, 3) := by sorry
theorem dX0_nextKnot_72 : decode cX0_nextKnot 72 = .ok (.goto (-48), 3) := by sorry
theorem dX0_nextKnot_75 : decode cX0_nextKnot 75 = .ok (.iload_n 3, 1) := by sorry
theorem dX0_nextKnot_76 : decode cX0_nextKnot 76 = .ok (.ireturn, 1) := by sorry
theorem ggX0_partnerOf_X0_needy : GoodIn wsX0_partnerOf wsX0_needy := by sorry
theorem gX0_partnerOf_X0_needy : GoodIn wsX0_partnerOf (wsV RX0 112 RX0 yX0_needy wsX0_needy) := by sorry
theorem ggX0_partnerOf_X0_joinableOf : GoodIn wsX0_partnerOf wsX0_joinableOf := by sorry
theorem gX0_partnerOf_X0_joinableOf : GoodIn wsX0_partnerOf (wsV RX0 115 RX0 yX0_joinableOf wsX0_joinableOf) := by sorry
theorem ggX0_partnerOf_X3_countOf : GoodIn wsX0_partnerOf wsX3_countOf := by sorry
theorem gX0_partnerOf_X3_countOf_n99 : GoodIn wsX0_partnerOf (wsX3_countOf) := by sorry
theorem ggX0_partnerOf_J6_bitCount_0f7a4 : GoodIn wsX0_partnerOf wsJ6_bitCount_0f7a4 := by sorry
theorem gX0_partnerOf_J6_bitCount_0f7a4 : GoodIn wsX0_partnerOf (va_wsS RX0 118 yJ6_bitCount_0f7a4 wsJ6_bitCount_0f7a4) := by sorry
theorem ggX0_partnerOf_X6_firstOf : GoodIn wsX0_partnerOf wsX6_firstOf := by sorry
theorem gX0_partnerOf_X6_firstOf_n123 : GoodIn wsX0_partnerOf (wsX6_firstOf) := by sorry
theorem dX0_partnerOf_0 : decode cX0_partnerOf 0 = .ok (.iload_n 2, 1) := by sorry
theorem dX0_partnerOf_1 : decode cX0_partnerOf 1 = .ok (.iconst (-1), 1) := by sorry
theorem dX0_partnerOf_2 : decode cX0_partnerOf 2 = .ok (.if_icmp .ne 5, 3) := by sorry
theorem dX0_partnerOf_5 : decode cX0_partnerOf 5 = .ok (.iconst (-1), 1) := by sorry
theorem dX0_partnerOf_6 : decode cX0_partnerOf 6 = .ok (.ireturn, 1) := by sorry
theorem dX0_partnerOf_7 : decode cX0_partnerOf 7 = .ok (.aload_n 0, 1) := by sorry
theorem dX0_partnerOf_8 : decode cX0_partnerOf 8 = .ok (.aload_n 1, 1) := by sorry
theorem dX0_partnerOf_9 : decode cX0_partnerOf 9 = .ok (.iload_n 2, 1) := by sorry
theorem dX0_partnerOf_10 : decode cX0_partnerOf 10 = .ok (.aload_n 0, 1) := by sorry
theorem dX0_partnerOf_11 : decode cX0_partnerOf 11 = .ok (.aload_n 1, 1) := by sorry
theorem dX0_partnerOf_12 : decode cX0_partnerOf 12 = .ok (.invokevirtual 112, 3) := by sorry
theorem dX0_partnerOf_15 : decode cX0_partnerOf 15 = .ok (.invokevirtual 115, 3) := by sorry
theorem dX0_partnerOf_18 : decode cX0_partnerOf 18 = .ok (.istore_n 3, 1) := by sorry
theorem dX0_partnerOf_19 : decode cX0_partnerOf 19 = .ok (.aload_n 0, 1) := by sorry
theorem dX0_partnerOf_20 : decode cX0_partnerOf 20 = .ok (.getfield 32, 3) := by sorry
theorem dX0_partnerOf_23 : decode cX0_partnerOf 23 = .ok (.aload_n 1, 1) := by sorry
theorem dX0_partnerOf_24 : decode cX0_partnerOf 24 = .ok (.iload_n 2, 1) := by sorry
theorem dX0_partnerOf_25 : decode cX0_partnerOf 25 = .ok (.invokevirtual 99, 3) := by sorry
theorem dX0_partnerOf_28 : decode cX0_partnerOf 28 = .ok (.isub, 1) := by sorry
theorem dX0_partnerOf_29 : decode cX0_partnerOf 29 = .ok (.istore 4, 2) := by sorry
theorem dX0_partnerOf_31 : decode cX0_partnerOf 31 = .ok (.iload_n 3, 1) := by sorry
theorem dX0_partnerOf_32 : decode cX0_partnerOf 32 = .ok (.invokestatic 118, 3) := by sorry
theorem dX0_partnerOf_35 : decode cX0_partnerOf 35 = .ok (.iload 4, 2) := by sorry
theorem dX0_partnerOf_37 : decode cX0_partnerOf 37 = .ok (.if_icmp .lt 10, 3) := by sorry
theorem dX0_partnerOf_40 : decode cX0_partnerOf 40 = .ok (.iload_n 3, 1) := by sorry
theorem dX0_partnerOf_41 : decode cX0_partnerOf 41 = .ok (.invokestatic 123, 3) := by sorry
theorem dX0_partnerOf_44 : decode cX0_partnerOf 44 = .ok (.goto 4, 3) := by sorry
theorem dX0_partnerOf_47 : decode cX0_partnerOf 47 = .ok (.iconst (-1), 1) := by sorry
theorem dX0_partnerOf_48 : decode cX0_partnerOf 48 = .ok (.ireturn, 1) := by sorry
theorem dX1_init_0 : decode cX1_init 0 = .ok (.aload_n 0, 1) := by sorry
theorem dX1_init_1 : decode cX1_init 1 = .ok (.invokespecial 3, 3) := by sorry
theorem dX1_init_4 : decode cX1_init 4 = .ok (.aload_n 0, 1) := by sorry
theorem dX1_init_5 : decode cX1_init 5 = .ok (.bipush 102, 2) := by sorry
theorem dX1_init_7 : decode cX1_init 7 = .ok (.newarray .int, 2) := by sorry
theorem dX1_init_9 : decode cX1_init 9 = .ok (.putfield 9, 3) := by sorry
theorem dX1_init_12 : decode cX1_init 12 = .ok (.aload_n 0, 1) := by sorry
theorem dX1_init_13 : decode cX1_init 13 = .ok (.bipush 54, 2) := by sorry
theorem dX1_init_15 : decode cX1_init 15 = .ok (.newarray .int, 2) := by sorry
theorem dX1_init_17 : decode cX1_init 17 = .ok (.putfield 15, 3) := by sorry
theorem dX1_init_20 : decode cX1_init 20 = .ok (.return_, 1) := by sorry
theorem dX1_leastKnots_0 : decode cX1_leastKnots 0 = .ok (.iconst 1, 1) := by sorry
theorem dX1_leastKnots_1 : decode cX1_leastKnots 1 = .ok (.istore_n 2, 1) := by sorry
theorem dX1_leastKnots_2 : decode cX1_leastKnots 2 = .ok (.iconst 0, 1) := by sorry
theorem dX1_leastKnots_3 : decode cX1_leastKnots 3 = .ok (.istore_n 3, 1) := by sorry
theorem dX1_leastKnots_4 : decode cX1_leastKnots 4 = .ok (.iload_n 1, 1) := by sorry
theorem dX1_leastKnots_5 : decode cX1_leastKnots 5 = .ok (.iconst 2, 1) := by sorry
theorem dX1_leastKnots_6 : decode cX1_leastKnots 6 = .ok (.idiv, 1) := by sorry
theorem dX1_leastKnots_7 : decode cX1_leastKnots 7 = .ok (.istore 4, 2) := by sorry
theorem dX1_leastKnots_9 : decode cX1_leastKnots 9 = .ok (.iconst 0, 1) := by sorry
theorem dX1_leastKnots_10 : decode cX1_leastKnots 10 = .ok (.istore 5, 2) := by sorry
theorem dX1_leastKnots_12 : decode cX1_leastKnots 12 = .ok (.iload 5, 2) := by sorry
theorem dX1_leastKnots_14 : decode cX1_leastKnots 14 = .ok (.iload 4, 2) := by sorry
theorem dX1_leastKnots_16 : decode cX1_leastKnots 16 = .ok (.if_icmp .ge 19, 3) := by sorry
theorem dX1_leastKnots_19 : decode cX1_leastKnots 19 = .ok (.iload_n 3, 1) := by sorry
theorem dX1_leastKnots_20 : decode cX1_leastKnots 20 = .ok (.iload_n 2, 1) := by sorry
theorem dX1_leastKnots_21 : decode cX1_leastKnots 21 = .ok (.iadd, 1) := by sorry
theorem dX1_leastKnots_22 : decode cX1_leastKnots 22 = .ok (.istore_n 3, 1) := by sorry
theorem dX1_leastKnots_23 : decode cX1_leastKnots 23 = .ok (.iload_n 2, 1) := by sorry
theorem dX1_leastKnots_24 : decode cX1_leastKnots 24 = .ok (.iload_n 0, 1) := by sorry
theorem dX1_leastKnots_25 : decode cX1_leastKnots 25 = .ok (.iconst 1, 1) := by sorry
theorem dX1_leastKnots_26 : decode cX1_leastKnots 26 = .ok (.isub, 1) := by sorry
theorem dX1_leastKnots_27 : decode cX1_leastKnots 27 = .ok (.imul, 1) := by sorry
theorem dX1_leastKnots_28 : decode cX1_leastKnots 28 = .ok (.istore_n 2, 1) := by sorry
theorem dX1_leastKnots_29 : decode cX1_leastKnots 29 = .ok (.iinc 5 1, 3) := by sorry
theorem dX1_leastKnots_32 : decode cX1_leastKnots 32 = .ok (.goto (-20), 3) := by sorry
theorem dX1_leastKnots_35 : decode cX1_leastKnots 35 = .ok (.iload_n 1, 1) := by sorry
theorem dX1_leastKnots_36 : decode cX1_leastKnots 36 = .ok (.iconst 2, 1) := by sorry
theorem dX1_leastKnots_37 : decode cX1_leastKnots 37 = .ok (.irem, 1) := by sorry
theorem dX1_leastKnots_38 : decode cX1_leastKnots 38 = .ok (.iconst 1, 1) := by sorry
theorem dX1_leastKnots_39 : decode cX1_leastKnots 39 = .ok (.if_icmp .ne 11, 3) := by sorry
theorem dX1_leastKnots_42 : decode cX1_leastKnots 42 = .ok (.iconst 1, 1) := by sorry
theorem dX1_leastKnots_43 : decode cX1_leastKnots 43 = .ok (.iload_n 0, 1) := by sorry
theorem dX1_leastKnots_44 : decode cX1_leastKnots 44 = .ok (.iload_n 3, 1) := by sorry
theorem dX1_leastKnots_45 : decode cX1_leastKnots 45 = .ok (.imul, 1) := by sorry
theorem dX1_leastKnots_46 : decode cX1_leastKnots 46 = .ok (.iadd, 1) := by sorry
theorem dX1_leastKnots_47 : decode cX1_leastKnots 47 = .ok (.goto 6, 3) := by sorry
theorem dX1_leastKnots_50 : decode cX1_leastKnots 50 = .ok (.iconst 2, 1) := by sorry
theorem dX1_leastKnots_51 : decode cX1_leastKnots 51 = .ok (.iload_n 3, 1) := by sorry
theorem dX1_leastKnots_52 : decode cX1_leastKnots 52 = .ok (.imul, 1) := by sorry
theorem dX1_leastKnots_53 : decode cX1_leastKnots 53 = .ok (.ireturn, 1) := by sorry
theorem ggX1_why_X1_leastKnots : GoodIn wsX1_why wsX1_leastKnots := by sorry
theorem gX1_why_X1_leastKnots : GoodIn wsX1_why (va_wsS RX1 18 yX1_leastKnots wsX1_leastKnots) := by sorry
theorem ggX1_why_X1_isProved : GoodIn wsX1_why wsX1_isProved := by sorry
theorem gX1_why_X1_isProved : GoodIn wsX1_why (wsV RX1 22 RX1 yX1_isProved wsX1_isProved) := by sorry
theorem dX1_why_0 : decode cX1_why 0 = .ok (.iload_n 1, 1) := by sorry
theorem dX1_why_1 : decode cX1_why 1 = .ok (.iconst 2, 1) := by sorry
theorem dX1_why_2 : decode cX1_why 2 = .ok (.irem, 1) := by sorry
theorem dX1_why_3 : decode cX1_why 3 = .ok (.iconst 1, 1) := by sorry
theorem dX1_why_4 : decode cX1_why 4 = .ok (.if_icmp .ne 12, 3) := by sorry
theorem dX1_why_7 : decode cX1_why 7 = .ok (.iload_n 2, 1) := by sorry
theorem dX1_why_8 : decode cX1_why 8 = .ok (.iconst 2, 1) := by sorry
theorem dX1_why_9 : decode cX1_why 9 = .ok (.irem, 1) := by sorry
theorem dX1_why_10 : decode cX1_why 10 = .ok (.iconst 1, 1) := by sorry
theorem dX1_why_11 : decode cX1_why 11 = .ok (.if_icmp .ne 5, 3) := by sorry
theorem dX1_why_14 : decode cX1_why 14 = .ok (.iconst 1, 1) := by sorry
theorem dX1_why_15 : decode cX1_why 15 = .ok (.ireturn, 1) := by sorry
theorem dX1_why_16 : decode cX1_why 16 = .ok (.iload_n 1, 1) := by sorry
theorem dX1_why_17 : decode cX1_why 17 = .ok (.iload_n 2, 1) := by sorry
theorem dX1_why_18 : decode cX1_why 18 = .ok (.iload_n 3, 1) := by sorry
theorem dX1_why_19 : decode cX1_why 19 = .ok (.invokestatic 18, 3) := by sorry
theorem dX1_why_22 : decode cX1_why 22 = .ok (.if_icmp .ge 5, 3) := by sorry
theorem dX1_why_25 : decode cX1_why 25 = .ok (.iconst 2, 1) := by sorry
theorem dX1_why_26 : decode cX1_why 26 = .ok (.ireturn, 1) := by sorry
theorem dX1_why_27 : decode cX1_why 27 = .ok (.aload_n 0, 1) := by sorry
theorem dX1_why_28 : decode cX1_why 28 = .ok (.iload_n 1, 1) := by sorry
theorem dX1_why_29 : decode cX1_why 29 = .ok (.iload_n 2, 1) := by sorry
theorem dX1_why_30 : decode cX1_why 30 = .ok (.iload_n 3, 1) := by sorry
theorem dX1_why_31 : decode cX1_why 31 = .ok (.invokevirtual 22, 3) := by sorry
theorem dX1_why_34 : decode cX1_why 34 = .ok (.ifCond .eq 7, 3) := by sorry
theorem dX1_why_37 : decode cX1_why 37 = .ok (.iconst 3, 1) := by sorry
theorem dX1_why_38 : decode cX1_why 38 = .ok (.goto 4, 3) := by sorry
theorem dX1_why_41 : decode cX1_why 41 = .ok (.iconst 0, 1) := by sorry
theorem dX1_why_42 : decode cX1_why 42 = .ok (.ireturn, 1) := by sorry
theorem ggX1_proofPlace_X6_isWithin : GoodIn wsX1_proofPlace wsX6_isWithin := by sorry
theorem gX1_proofPlace_X6_isWithin_n26 : GoodIn wsX1_proofPlace (wsX6_isWithin) := by sorry
theorem dX1_proofPlace_0 : decode cX1_proofPlace 0 = .ok (.iload_n 1, 1) := by sorry
theorem dX1_proofPlace_1 : decode cX1_proofPlace 1 = .ok (.iconst 0, 1) := by sorry
theorem dX1_proofPlace_2 : decode cX1_proofPlace 2 = .ok (.bipush 16, 2) := by sorry
theorem dX1_proofPlace_4 : decode cX1_proofPlace 4 = .ok (.invokestatic 26, 3) := by sorry
theorem dX1_proofPlace_7 : decode cX1_proofPlace 7 = .ok (.ifCond .eq 16, 3) := by sorry
theorem dX1_proofPlace_10 : decode cX1_proofPlace 10 = .ok (.iload_n 2, 1) := by sorry
theorem dX1_proofPlace_11 : decode cX1_proofPlace 11 = .ok (.iconst 2, 1) := by sorry
theorem dX1_proofPlace_12 : decode cX1_proofPlace 12 = .ok (.iconst 5, 1) := by sorry
theorem dX1_proofPlace_13 : decode cX1_proofPlace 13 = .ok (.invokestatic 26, 3) := by sorry
theorem dX1_proofPlace_16 : decode cX1_proofPlace 16 = .ok (.ifCond .eq 7, 3) := by sorry
theorem dX1_proofPlace_19 : decode cX1_proofPlace 19 = .ok (.iconst 1, 1) := by sorry
theorem dX1_proofPlace_20 : decode cX1_proofPlace 20 = .ok (.goto 4, 3) := by sorry
theorem dX1_proofPlace_23 : decode cX1_proofPlace 23 = .ok (.iconst 0, 1) := by sorry
theorem dX1_proofPlace_24 : decode cX1_proofPlace 24 = .ok (.istore_n 3, 1) := by sorry
theorem dX1_proofPlace_25 : decode cX1_proofPlace 25 = .ok (.iload_n 1, 1) := by sorry
theorem dX1_proofPlace_26 : decode cX1_proofPlace 26 = .ok (.bipush 6, 2) := by sorry
theorem dX1_proofPlace_28 : decode cX1_proofPlace 28 = .ok (.imul, 1) := by sorry
theorem dX1_proofPlace_29 : decode cX1_proofPlace 29 = .ok (.iload_n 2, 1) := by sorry
theorem dX1_proofPlace_30 : decode cX1_proofPlace 30 = .ok (.iadd, 1) := by sorry
theorem dX1_proofPlace_31 : decode cX1_proofPlace 31 = .ok (.istore 4, 2) := by sorry
theorem dX1_proofPlace_33 : decode cX1_proofPlace 33 = .ok (.iload_n 3, 1) := by sorry
theorem dX1_proofPlace_34 : decode cX1_proofPlace 34 = .ok (.ifCond .eq 23, 3) := by sorry
theorem dX1_proofPlace_37 : decode cX1_proofPlace 37 = .ok (.iload 4, 2) := by sorry
theorem dX1_proofPlace_39 : decode cX1_proofPlace 39 = .ok (.ifCond .lt 18, 3) := by sorry
theorem dX1_proofPlace_42 : decode cX1_proofPlace 42 = .ok (.iload 4, 2) := by sorry
theorem dX1_proofPlace_44 : decode cX1_proofPlace 44 = .ok (.aload_n 0, 1) := by sorry
theorem dX1_proofPlace_45 : decode cX1_proofPlace 45 = .ok (.getfield 9, 3) := by sorry
theorem dX1_proofPlace_48 : decode cX1_proofPlace 48 = .ok (.arraylength, 1) := by sorry
theorem dX1_proofPlace_49 : decode cX1_proofPlace 49 = .ok (.if_icmp .ge 8, 3) := by sorry
theorem dX1_proofPlace_52 : decode cX1_proofPlace 52 = .ok (.iload 4, 2) := by sorry
theorem dX1_proofPlace_54 : decode cX1_proofPlace 54 = .ok (.goto 4, 3) := by sorry
theorem dX1_proofPlace_57 : decode cX1_proofPlace 57 = .ok (.iconst (-1), 1) := by sorry
theorem dX1_proofPlace_58 : decode cX1_proofPlace 58 = .ok (.ireturn, 1) := by sorry
theorem ggX1_isProved_X1_proofPlace : GoodIn wsX1_isProved wsX1_proofPlace := by sorry
theorem gX1_isProved_X1_proofPlace : GoodIn wsX1_isProved (wsV RX1 29 RX1 yX1_proofPlace wsX1_proofPlace) := by sorry
theorem dX1_isProved_0 : decode cX1_isProved 0 = .ok (.aload_n 0, 1) := by sorry
theorem dX1_isProved_1 : decode cX1_isProved 1 = .ok (.iload_n 1, 1) := by sorry
theorem dX1_isProved_2 : decode cX1_isProved 2 = .ok (.iload_n 2, 1) := by sorry
theorem dX1_isProved_3 : decode cX1_isProved 3 = .ok (.invokevirtual 29, 3) := by sorry
theorem dX1_isProved_6 : decode cX1_isProved 6 = .ok (.istore 4, 2) := by sorry
theorem dX1_isProved_8 : decode cX1_isProved 8 = .ok (.iload 4, 2) := by sorry
theorem dX1_isProved_10 : decode cX1_isProved 10 = .ok (.iconst (-1), 1) := by sorry
theorem dX1_isProved_11 : decode cX1_isProved 11 = .ok (.if_icmp .ne 5, 3) := by sorry
theorem dX1_isProved_14 : decode cX1_isProved 14 = .ok (.iconst 0, 1) := by sorry
theorem dX1_isProved_15 : decode cX1_isProved 15 = .ok (.ireturn, 1) := by sorry
theorem dX1_isProved_16 : decode cX1_isProved 16 = .ok (.aload_n 0, 1) := by sorry
theorem dX1_isProved_17 : decode cX1_isProved 17 = .ok (.getfield 9, 3) := by sorry
theorem dX1_isProved_20 : decode cX1_isProved 20 = .ok (.iload 4, 2) := by sorry
theorem dX1_isProved_22 : decode cX1_isProved 22 = .ok (.iaload, 1) := by sorry
theorem dX1_isProved_23 : decode cX1_isProved 23 = .ok (.istore 5, 2) := by sorry
theorem dX1_isProved_25 : decode cX1_isProved 25 = .ok (.iload 5, 2) := by sorry
theorem dX1_isProved_27 : decode cX1_isProved 27 = .ok (.ifCond .le 13, 3) := by sorry
theorem dX1_isProved_30 : decode cX1_isProved 30 = .ok (.iload 5, 2) := by sorry
theorem dX1_isProved_32 : decode cX1_isProved 32 = .ok (.iload_n 3, 1) := by sorry
theorem dX1_isProved_33 : decode cX1_isProved 33 = .ok (.if_icmp .gt 7, 3) := by sorry
theorem dX1_isProved_36 : decode cX1_isProved 36 = .ok (.iconst 1, 1) := by sorry
theorem dX1_isProved_37 : decode cX1_isProved 37 = .ok (.goto 4, 3) := by sorry
theorem dX1_isProved_40 : decode cX1_isProved 40 = .ok (.iconst 0, 1) := by sorry
theorem dX1_isProved_41 : decode cX1_isProved 41 = .ok (.ireturn, 1) := by sorry
theorem ggX1_prove_X1_proofPlace : GoodIn wsX1_prove wsX1_proofPlace := by sorry
theorem gX1_prove_X1_proofPlace : GoodIn wsX1_prove (wsV RX1 29 RX1 yX1_proofPlace wsX1_proofPlace) := by sorry
theorem ggX1_prove_X1_isProved : GoodIn wsX1_prove wsX1_isProved := by sorry
theorem gX1_prove_X1_isProved : GoodIn wsX1_prove (wsV RX1 22 RX1 yX1_isProved wsX1_isProved) := by sorry
theorem dX1_prove_0 : decode cX1_prove 0 = .ok (.aload_n 0, 1) := by sorry
theorem dX1_prove_1 : decode cX1_prove 1 = .ok (.iload_n 1, 1) := by sorry
theorem dX1_prove_2 : decode cX1_prove 2 = .ok (.iload_n 2, 1) := by sorry
theorem dX1_prove_3 : decode cX1_prove 3 = .ok (.invokevirtual 29, 3) := by sorry
theorem dX1_prove_6 : decode cX1_prove 6 = .ok (.istore 4, 2) := by sorry
theorem dX1_prove_8 : decode cX1_prove 8 = .ok (.iload 4, 2) := by sorry
theorem dX1_prove_10 : decode cX1_prove 10 = .ok (.iconst (-1), 1) := by sorry
theorem dX1_prove_11 : decode cX1_prove 11 = .ok (.if_icmp .eq 21, 3) := by sorry
theorem dX1_prove_14 : decode cX1_prove 14 = .ok (.aload_n 0, 1) := by sorry
theorem dX1_prove_15 : decode cX1_prove 15 = .ok (.iload_n 1, 1) := by sorry
theorem dX1_prove_16 : decode cX1_prove 16 = .ok (.iload_n 2, 1) := by sorry
theorem dX1_prove_17 : decode cX1_prove 17 = .ok (.iload_n 3, 1) := by sorry
theorem dX1_prove_18 : decode cX1_prove 18 = .ok (.invokevirtual 22, 3) := by sorry
theorem dX1_prove_21 : decode cX1_prove 21 = .ok (.ifCond .ne 11, 3) := by sorry
theorem dX1_prove_24 : decode cX1_prove 24 = .ok (.aload_n 0, 1) := by sorry
theorem dX1_prove_25 : decode cX1_prove 25 = .ok (.getfield 9, 3) := by sorry
theorem dX1_prove_28 : decode cX1_prove 28 = .ok (.iload 4, 2) := by sorry
theorem dX1_prove_30 : decode cX1_prove 30 = .ok (.iload_n 3, 1) := by sorry
theorem dX1_prove_31 : decode cX1_prove 31 = .ok (.iastore, 1) := by sorry
theorem dX1_prove_32 : decode cX1_prove 32 = .ok (.return_, 1) := by sorry
theorem ggX1_tablePlace_X6_isWithin : GoodIn wsX1_tablePlace wsX6_isWithin := by sorry
theorem gX1_tablePlace_X6_isWithin_n26 : GoodIn wsX1_tablePlace (wsX6_isWithin) := by sorry
theorem dX1_tablePlace_0 : decode cX1_tablePlace 0 = .ok (.iload_n 1, 1) := by sorry
theorem dX1_tablePlace_1 : decode cX1_tablePlace 1 = .ok (.iconst 2, 1) := by sorry
theorem dX1_tablePlace_2 : decode cX1_tablePlace 2 = .ok (.iconst 5, 1) := by sorry
theorem dX1_tablePlace_3 : decode cX1_tablePlace 3 = .ok (.invokestatic 26, 3) := by sorry
theorem dX1_tablePlace_6 : decode cX1_tablePlace 6 = .ok (.ifCond .eq 17, 3) := by sorry
theorem dX1_tablePlace_9 : decode cX1_tablePlace 9 = .ok (.iload_n 2, 1) := by sorry
theorem dX1_tablePlace_10 : decode cX1_tablePlace 10 = .ok (.iconst 3, 1) := by sorry
theorem dX1_tablePlace_11 : decode cX1_tablePlace 11 = .ok (.bipush 8, 2) := by sorry
theorem dX1_tablePlace_13 : decode cX1_tablePlace 13 = .ok (.invokestatic 26, 3) := by sorry
theorem dX1_tablePlace_16 : decode cX1_tablePlace 16 = .ok (.ifCond .eq 7, 3) := by sorry
theorem dX1_tablePlace_19 : decode cX1_tablePlace 19 = .ok (.iconst 1, 1) := by sorry
theorem dX1_tablePlace_20 : decode cX1_tablePlace 20 = .ok (.goto 4, 3) := by sorry
theorem dX1_tablePlace_23 : decode cX1_tablePlace 23 = .ok (.iconst 0, 1) := by sorry
theorem dX1_tablePlace_24 : decode cX1_tablePlace 24 = .ok (.istore_n 3, 1) := by sorry
theorem dX1_tablePlace_25 : decode cX1_tablePlace 25 = .ok (.iload_n 1, 1) := by sorry
theorem dX1_tablePlace_26 : decode cX1_tablePlace 26 = .ok (.bipush 9, 2) := by sorry
theorem dX1_tablePlace_28 : decode cX1_tablePlace 28 = .ok (.imul, 1) := by sorry
theorem dX1_tablePlace_29 : decode cX1_tablePlace 29 = .ok (.iload_n 2, 1) := by sorry
theorem dX1_tablePlace_30 : decode cX1_tablePlace 30 = .ok (.iadd, 1) := by sorry
theorem dX1_tablePlace_31 : decode cX1_tablePlace 31 = .ok (.istore 4, 2) := by sorry
theorem dX1_tablePlace_33 : decode cX1_tablePlace 33 = .ok (.iload_n 3, 1) := by sorry
theorem dX1_tablePlace_34 : decode cX1_tablePlace 34 = .ok (.ifCond .eq 23, 3) := by sorry
theorem dX1_tablePlace_37 : decode cX1_tablePlace 37 = .ok (.iload 4, 2) := by sorry
theorem dX1_tablePlace_39 : decode cX1_tablePlace 39 = .ok (.ifCond .lt 18, 3) := by sorry
theorem dX1_tablePlace_42 : decode cX1_tablePlace 42 = .ok (.iload 4, 2) := by sorry
theorem dX1_tablePlace_44 : decode cX1_tablePlace 44 = .ok (.aload_n 0, 1) := by sorry
theorem dX1_tablePlace_45 : decode cX1_tablePlace 45 = .ok (.getfield 15, 3) := by sorry
theorem dX1_tablePlace_48 : decode cX1_tablePlace 48 = .ok (.arraylength, 1) := by sorry
theorem dX1_tablePlace_49 : decode cX1_tablePlace 49 = .ok (.if_icmp .ge 8, 3) := by sorry
theorem dX1_tablePlace_52 : decode cX1_tablePlace 52 = .ok (.iload 4, 2) := by sorry
theorem dX1_tablePlace_54 : decode cX1_tablePlace 54 = .ok (.goto 4, 3) := by sorry
theorem dX1_tablePlace_57 : decode cX1_tablePlace 57 = .ok (.iconst (-1), 1) := by sorry
theorem dX1_tablePlace_58 : decode cX1_tablePlace 58 = .ok (.ireturn, 1) := by sorry
theorem ggX1_look_X3_evenCount : GoodIn wsX1_look wsX3_evenCount := by sorry
theorem gX1_look_X3_evenCount_n32 : GoodIn wsX1_look (wsX3_evenCount) := by sorry
theorem ggX1_look_X6_isWithin : GoodIn wsX1_look wsX6_isWithin := by sorry
theorem gX1_look_X6_isWithin_n26 : GoodIn wsX1_look (wsX6_isWithin) := by sorry
theorem ggX1_look_X5_leastRing : GoodIn wsX1_look wsX5_leastRing := by sorry
theorem gX1_look_X5_leastRing_n38 : GoodIn wsX1_look (wsX5_leastRing) := by sorry
theorem ggX1_look_X1_tablePlace : GoodIn wsX1_look wsX1_tablePlace := by sorry
theorem gX1_look_X1_tablePlace : GoodIn wsX1_look (wsV RX1 44 RX1 yX1_tablePlace wsX1_tablePlace) := by sorry
theorem dX1_look_0 : decode cX1_look 0 = .ok (.aload_n 1, 1) := by sorry
theorem dX1_look_1 : decode cX1_look 1 = .ok (.invokevirtual 32, 3) := by sorry
theorem dX1_look_4 : decode cX1_look 4 = .ok (.istore_n 2, 1) := by sorry
theorem dX1_look_5 : decode cX1_look 5 = .ok (.iload_n 2, 1) := by sorry
theorem dX1_look_6 : decode cX1_look 6 = .ok (.iconst 2, 1) := by sorry
theorem dX1_look_7 : decode cX1_look 7 = .ok (.iconst 5, 1) := by sorry
theorem dX1_look_8 : decode cX1_look 8 = .ok (.invokestatic 26, 3) := by sorry
theorem dX1_look_11 : decode cX1_look 11 = .ok (.ifCond .ne 4, 3) := by sorry
theorem dX1_look_14 : decode cX1_look 14 = .ok (.return_, 1) := by sorry
theorem dX1_look_15 : decode cX1_look 15 = .ok (.aload_n 0, 1) := by sorry
theorem dX1_look_16 : decode cX1_look 16 = .ok (.iload_n 2, 1) := by sorry
theorem dX1_look_17 : decode cX1_look 17 = .ok (.aload_n 1, 1) := by sorry
theorem dX1_look_18 : decode cX1_look 18 = .ok (.invokestatic 38, 3) := by sorry
theorem dX1_look_21 : decode cX1_look 21 = .ok (.invokevirtual 44, 3) := by sorry
theorem dX1_look_24 : decode cX1_look 24 = .ok (.istore_n 3, 1) := by sorry
theorem dX1_look_25 : decode cX1_look 25 = .ok (.iload_n 3, 1) := by sorry
theorem dX1_look_26 : decode cX1_look 26 = .ok (.iconst (-1), 1) := by sorry
theorem dX1_look_27 : decode cX1_look 27 = .ok (.if_icmp .eq 35, 3) := by sorry
theorem dX1_look_30 : decode cX1_look 30 = .ok (.aload_n 0, 1) := by sorry
theorem dX1_look_31 : decode cX1_look 31 = .ok (.getfield 15, 3) := by sorry
theorem dX1_look_34 : decode cX1_look 34 = .ok (.iload_n 3, 1) := by sorry
theorem dX1_look_35 : decode cX1_look 35 = .ok (.iaload, 1) := by sorry
theorem dX1_look_36 : decode cX1_look 36 = .ok (.ifCond .eq 16, 3) := by sorry
theorem dX1_look_39 : decode cX1_look 39 = .ok (.aload_n 1, 1) := by sorry
theorem dX1_look_40 : decode cX1_look 40 = .ok (.getfield 47, 3) := by sorry
theorem dX1_look_43 : decode cX1_look 43 = .ok (.aload_n 0, 1) := by sorry
theorem dX1_look_44 : decode cX1_look 44 = .ok (.getfield 15, 3) := by sorry
theorem dX1_look_47 : decode cX1_look 47 = .ok (.iload_n 3, 1) := by sorry
theorem dX1_look_48 : decode cX1_look 48 = .ok (.iaload, 1) := by sorry
theorem dX1_look_49 : decode cX1_look 49 = .ok (.if_icmp .ge 13, 3) := by sorry
theorem dX1_look_52 : decode cX1_look 52 = .ok (.aload_n 0, 1) := by sorry
theorem dX1_look_53 : decode cX1_look 53 = .ok (.getfield 15, 3) := by sorry
theorem dX1_look_56 : decode cX1_look 56 = .ok (.iload_n 3, 1) := by sorry
theorem dX1_look_57 : decode cX1_look 57 = .ok (.aload_n 1, 1) := by sorry
theorem dX1_look_58 : decode cX1_look 58 = .ok (.getfield 47, 3) := by sorry
theorem dX1_look_61 : decode cX1_look 61 = .ok (.iastore, 1) := by sorry
theorem dX1_look_62 : decode cX1_look 62 = .ok (.return_, 1) := by sorry
theorem ggX1_smallestOf_X1_tablePlace : GoodIn wsX1_smallestOf wsX1_tablePlace := by sorry
theorem gX1_smallestOf_X1_tablePlace : GoodIn wsX1_smallestOf (wsV RX1 44 RX1 yX1_tablePlace wsX1_tablePlace) := by sorry
theorem dX1_smallestOf_0 : decode cX1_smallestOf 0 = .ok (.aload_n 0, 1) := by sorry
theorem dX1_smallestOf_1 : decode cX1_smallestOf 1 = .ok (.iload_n 1, 1) := by sorry
theorem dX1_smallestOf_2 : decode cX1_smallestOf 2 = .ok (.iload_n 2, 1) := by sorry
theorem dX1_smallestOf_3 : decode cX1_smallestOf 3 = .ok (.invokevirtual 44, 3) := by sorry
theorem dX1_smallestOf_6 : decode cX1_smallestOf 6 = .ok (.istore_n 3, 1) := by sorry
theorem dX1_smallestOf_7 : decode cX1_smallestOf 7 = .ok (.iload_n 3, 1) := by sorry
theorem dX1_smallestOf_8 : decode cX1_smallestOf 8 = .ok (.iconst (-1), 1) := by sorry
theorem dX1_smallestOf_9 : decode cX1_smallestOf 9 = .ok (.if_icmp .eq 12, 3) := by sorry
theorem dX1_smallestOf_12 : decode cX1_smallestOf 12 = .ok (.aload_n 0, 1) := by sorry
theorem dX1_smallestOf_13 : decode cX1_smallestOf 13 = .ok (.getfield 15, 3) := by sorry
theorem dX1_smallestOf_16 : decode cX1_smallestOf 16 = .ok (.iload_n 3, 1) := by sorry
theorem dX1_smallestOf_17 : decode cX1_smallestOf 17 = .ok (.iaload, 1) := by sorry
theorem dX1_smallestOf_18 : decode cX1_smallestOf 18 = .ok (.ifCond .ne 7, 3) := by sorry
theorem dX1_smallestOf_21 : decode cX1_smallestOf 21 = .ok (.iconst (-1), 1) := by sorry
theorem dX1_smallestOf_22 : decode cX1_smallestOf 22 = .ok (.goto 9, 3) := by sorry
theorem dX1_smallestOf_25 : decode cX1_smallestOf 25 = .ok (.aload_n 0, 1) := by sorry
theorem dX1_smallestOf_26 : decode cX1_smallestOf 26 = .ok (.getfield 15, 3) := by sorry
theorem dX1_smallestOf_29 : decode cX1_smallestOf 29 = .ok (.iload_n 3, 1) := by sorry
theorem dX1_smallestOf_30 : decode cX1_smallestOf 30 = .ok (.iaload, 1) := by sorry
theorem dX1_smallestOf_31 : decode cX1_smallestOf 31 = .ok (.ireturn, 1) := by sorry
theorem ggX1_nextOf_X1_why : GoodIn wsX1_nextOf wsX1_why := by sorry
theorem gX1_nextOf_X1_why : GoodIn wsX1_nextOf (wsV RX1 51 RX1 yX1_why wsX1_why) := by sorry
theorem dX1_nextOf_0 : decode cX1_nextOf 0 = .ok (.iconst 3, 1) := by sorry
theorem dX1_nextOf_1 : decode cX1_nextOf 1 = .ok (.istore_n 3, 1) := by sorry
theorem dX1_nextOf_2 : decode cX1_nextOf 2 = .ok (.iload_n 3, 1) := by sorry
theorem dX1_nextOf_3 : decode cX1_nextOf 3 = .ok (.sipush 999, 3) := by sorry
theorem dX1_nextOf_6 : decode cX1_nextOf 6 = .ok (.if_icmp .gt 21, 3) := by sorry
theorem dX1_nextOf_9 : decode cX1_nextOf 9 = .ok (.aload_n 0, 1) := by sorry
theorem dX1_nextOf_10 : decode cX1_nextOf 10 = .ok (.iload_n 3, 1) := by sorry
theorem dX1_nextOf_11 : decode cX1_nextOf 11 = .ok (.iload_n 1, 1) := by sorry
theorem dX1_nextOf_12 : decode cX1_nextOf 12 = .ok (.iload_n 2, 1) := by sorry
theorem dX1_nextOf_13 : decode cX1_nextOf 13 = .ok (.invokevirtual 51, 3) := by sorry
theorem dX1_nextOf_16 : decode cX1_nextOf 16 = .ok (.ifCond .ne 5, 3) := by sorry
theorem dX1_nextOf_19 : decode cX1_nextOf 19 = .ok (.iload_n 3, 1) := by sorry
theorem dX1_nextOf_20 : decode cX1_nextOf 20 = .ok (.ireturn, 1) := by sorry
theorem dX1_nextOf_21 : decode cX1_nextOf 21 = .ok (.iinc 3 1, 3) := by sorry
theorem dX1_nextOf_24 : decode cX1_nextOf 24 = .ok (.goto (-22), 3) := by sorry
theorem dX1_nextOf_27 : decode cX1_nextOf 27 = .ok (.iconst (-1), 1) := by sorry
theorem dX1_nextOf_28 : decode cX1_nextOf 28 = .ok (.ireturn, 1) := by sorry
theorem ggX1_isTableSound_X1_smallestOf : GoodIn wsX1_isTableSound wsX1_smallestOf := by sorry
theorem gX1_isTableSound_X1_smallestOf : GoodIn wsX1_isTableSound (wsV RX1 55 RX1 yX1_smallestOf wsX1_smallestOf) := by sorry
theorem ggX1_isTableSound_X1_why : GoodIn wsX1_isTableSound wsX1_why := by sorry
theorem gX1_isTableSound_X1_why : GoodIn wsX1_isTableSound (wsV RX1 51 RX1 yX1_why wsX1_why) := by sorry
theorem ggX1_isTableSound_X1_nextOf : GoodIn wsX1_isTableSound wsX1_nextOf := by sorry
theorem gX1_isTableSound_X1_nextOf : GoodIn wsX1_isTableSound (wsV RX1 58 RX1 yX1_nextOf wsX1_nextOf) := by sorry
theorem dX1_isTableSound_0 : decode cX1_isTableSound 0 = .ok (.iconst 2, 1) := by sorry
theorem dX1_isTableSound_1 : decode cX1_isTableSound 1 = .ok (.istore_n 1, 1) := by sorry
theorem dX1_isTableSound_2 : decode cX1_isTableSound 2 = .ok (.iload_n 1, 1) := by sorry
theorem dX1_isTableSound_3 : decode cX1_isTableSound 3 = .ok (.iconst 5, 1) := by sorry
theorem dX1_isTableSound_4 : decode cX1_isTableSound 4 = .ok (.if_icmp .gt 69, 3) := by sorry
theorem dX1_isTableSound_7 : decode cX1_isTableSound 7 = .ok (.iconst 3, 1) := by sorry
theorem dX1_isTableSound_8 : decode cX1_isTableSound 8 = .ok (.istore_n 2, 1) := by sorry
theorem dX1_isTableSound_9 : decode cX1_isTableSound 9 = .ok (.iload_n 2, 1) := by sorry
theorem dX1_isTableSound_10 : decode cX1_isTableSound 10 = .ok (.bipush 8, 2) := by sorry
theorem dX1_isTableSound_12 : decode cX1_isTableSound 12 = .ok (.if_icmp .gt 55, 3) := by sorry
theorem dX1_isTableSound_15 : decode cX1_isTableSound 15 = .ok (.aload_n 0, 1) := by sorry
theorem dX1_isTableSound_16 : decode cX1_isTableSound 16 = .ok (.iload_n 1, 1) := by sorry
theorem dX1_isTableSound_17 : decode cX1_isTableSound 17 = .ok (.iload_n 2, 1) := by sorry
theorem dX1_isTableSound_18 : decode cX1_isTableSound 18 = .ok (.invokevirtual 55, 3) := by sorry
theorem dX1_isTableSound_21 : decode cX1_isTableSound 21 = .ok (.istore_n 3, 1) := by sorry
theorem dX1_isTableSound_22 : decode cX1_isTableSound 22 = .ok (.iload_n 3, 1) := by sorry
theorem dX1_isTableSound_23 : decode cX1_isTableSound 23 = .ok (.iconst (-1), 1) := by sorry
theorem dX1_isTableSound_24 : decode cX1_isTableSound 24 = .ok (.if_icmp .eq 7, 3) := by sorry
theorem dX1_isTableSound_27 : decode cX1_isTableSound 27 = .ok (.iconst 1, 1) := by sorry
theorem dX1_isTableSound_28 : decode cX1_isTableSound 28 = .ok (.goto 4, 3) := by sorry
theorem dX1_isTableSound_31 : decode cX1_isTableSound 31 = .ok (.iconst 0, 1) := by sorry
theorem dX1_isTableSound_32 : decode cX1_isTableSound 32 = .ok (.istore 4, 2) := by sorry
theorem dX1_isTableSound_34 : decode cX1_isTableSound 34 = .ok (.iload 4, 2) := by sorry
theorem dX1_isTableSound_36 : decode cX1_isTableSound 36 = .ok (.ifCond .eq 25, 3) := by sorry
theorem dX1_isTableSound_39 : decode cX1_isTableSound 39 = .ok (.aload_n 0, 1) := by sorry
theorem dX1_isTableSound_40 : decode cX1_isTableSound 40 = .ok (.iload_n 3, 1) := by sorry
theorem dX1_isTableSound_41 : decode cX1_isTableSound 41 = .ok (.iload_n 1, 1) := by sorry
theorem dX1_isTableSound_42 : decode cX1_isTableSound 42 = .ok (.iload_n 2, 1) := by sorry
theorem dX1_isTableSound_43 : decode cX1_isTableSound 43 = .ok (.invokevirtual 51, 3) := by sorry
theorem dX1_isTableSound_46 : decode cX1_isTableSound 46 = .ok (.ifCond .ne 13, 3) := by sorry
theorem dX1_isTableSound_49 : decode cX1_isTableSound 49 = .ok (.iload_n 3, 1) := by sorry
theorem dX1_isTableSound_50 : decode cX1_isTableSound 50 = .ok (.aload_n 0, 1) := by sorry
theorem dX1_isTableSound_51 : decode cX1_isTableSound 51 = .ok (.iload_n 1, 1) := by sorry
theorem dX1_isTableSound_52 : decode cX1_isTableSound 52 = .ok (.iload_n 2, 1) := by sorry
theorem dX1_isTableSound_53 : decode cX1_isTableSound 53 = .ok (.invokevirtual 58, 3) := by sorry
theorem dX1_isTableSound_56 : decode cX1_isTableSound 56 = .ok (.if_icmp .ge 5, 3) := by sorry
theorem dX1_isTableSound_59 : decode cX1_isTableSound 59 = .ok (.iconst 0, 1) := by sorry
theorem dX1_isTableSound_60 : decode cX1_isTableSound 60 = .ok (.ireturn, 1) := by sorry
theorem dX1_isTableSound_61 : decode cX1_isTableSound 61 = .ok (.iinc 2 1, 3) := by sorry
theorem dX1_isTableSound_64 : decode cX1_isTableSound 64 = .ok (.goto (-55), 3) := by sorry
theorem dX1_isTableSound_67 : decode cX1_isTableSound 67 = .ok (.iinc 1 1, 3) := by sorry
theorem dX1_isTableSound_70 : decode cX1_isTableSound 70 = .ok (.goto (-68), 3) := by sorry
theorem dX1_isTableSound_73 : decode cX1_isTableSound 73 = .ok (.iconst 1, 1) := by sorry
theorem dX1_isTableSound_74 : decode cX1_isTableSound 74 = .ok (.ireturn, 1) := by sorry
theorem ggX2_init_X3_init : GoodIn wsX2_init wsX3_init := by sorry
theorem gX2_init_X3_init_n11 : GoodIn wsX2_init (wsX3_init) := by sorry
theorem dX2_init_0 : decode cX2_init 0 = .ok (.aload_n 0, 1) := by sorry
theorem dX2_init_1 : decode cX2_init 1 = .ok (.invokespecial 3, 3) := by sorry
theorem dX2_init_4 : decode cX2_init 4 = .ok (.aload_n 0, 1) := by sorry
theorem dX2_init_5 : decode cX2_init 5 = .ok (.new 9, 3) := by sorry
theorem dX2_init_8 : decode cX2_init 8 = .ok (.dup, 1) := by sorry
theorem dX2_init_9 : decode cX2_init 9 = .ok (.invokespecial 11, 3) := by sorry
theorem dX2_init_12 : decode cX2_init 12 = .ok (.putfield 12, 3) := by sorry
theorem dX2_init_15 : decode cX2_init 15 = .ok (.aload_n 0, 1) := by sorry
theorem dX2_init_16 : decode cX2_init 16 = .ok (.new 9, 3) := by sorry
theorem dX2_init_19 : decode cX2_init 19 = .ok (.dup, 1) := by sorry
theorem dX2_init_20 : decode cX2_init 20 = .ok (.invokespecial 11, 3) := by sorry
theorem dX2_init_23 : decode cX2_init 23 = .ok (.putfield 18, 3) := by sorry
theorem dX2_init_26 : decode cX2_init 26 = .ok (.aload_n 0, 1) := by sorry
theorem dX2_init_27 : decode cX2_init 27 = .ok (.bipush 16, 2) := by sorry
theorem dX2_init_29 : decode cX2_init 29 = .ok (.newarray .int, 2) := by sorry
theorem dX2_init_31 : decode cX2_init 31 = .ok (.putfield 21, 3) := by sorry
theorem dX2_init_34 : decode cX2_init 34 = .ok (.aload_n 0, 1) := by sorry
theorem dX2_init_35 : decode cX2_init 35 = .ok (.iconst 0, 1) := by sorry
theorem dX2_init_36 : decode cX2_init 36 = .ok (.putfield 25, 3) := by sorry
theorem dX2_init_39 : decode cX2_init 39 = .ok (.return_, 1) := by sorry
theorem ggX2_turnsOf_X3_take : GoodIn wsX2_turnsOf wsX3_take := by sorry
theorem gX2_turnsOf_X3_take_n32 : GoodIn wsX2_turnsOf (wsX3_take) := by sorry
theorem ggX2_turnsOf_X6_holds : GoodIn wsX2_turnsOf wsX6_holds := by sorry
theorem gX2_turnsOf_X6_holds_n36 : GoodIn wsX2_turnsOf (wsX6_holds) := by sorry
theorem ggX2_turnsOf_X5_partWith : GoodIn wsX2_turnsOf wsX5_partWith := by sorry
theorem gX2_turnsOf_X5_partWith_n40 : GoodIn wsX2_turnsOf (wsX5_partWith) := by sorry
theorem ggX2_turnsOf_X2_partsLike : GoodIn wsX2_turnsOf wsX2_partsLike := by sorry
theorem gX2_turnsOf_X2_partsLike : GoodIn wsX2_turnsOf (wsV RX2 46 RX2 yX2_partsLike wsX2_partsLike) := by sorry
theorem ggX2_turnsOf_X2_waysOf : GoodIn wsX2_turnsOf wsX2_waysOf := by sorry
theorem gX2_turnsOf_X2_waysOf : GoodIn wsX2_turnsOf (wsV RX2 55 RX2 yX2_waysOf wsX2_waysOf) := by sorry
theorem dX2_turnsOf_0 : decode cX2_turnsOf 0 = .ok (.aload_n 1, 1) := by sorry
theorem dX2_turnsOf_1 : decode cX2_turnsOf 1 = .ok (.getfield 29, 3) := by sorry
theorem dX2_turnsOf_4 : decode cX2_turnsOf 4 = .ok (.ifCond .ne 5, 3) := by sorry
theorem dX2_turnsOf_7 : decode cX2_turnsOf 7 = .ok (.iconst 0, 1) := by sorry
theorem dX2_turnsOf_8 : decode cX2_turnsOf 8 = .ok (.ireturn, 1) := by sorry
theorem dX2_turnsOf_9 : decode cX2_turnsOf 9 = .ok (.aload_n 0, 1) := by sorry
theorem dX2_turnsOf_10 : decode cX2_turnsOf 10 = .ok (.getfield 12, 3) := by sorry
theorem dX2_turnsOf_13 : decode cX2_turnsOf 13 = .ok (.aload_n 1, 1) := by sorry
theorem dX2_turnsOf_14 : decode cX2_turnsOf 14 = .ok (.invokevirtual 32, 3) := by sorry
theorem dX2_turnsOf_17 : decode cX2_turnsOf 17 = .ok (.aload_n 0, 1) := by sorry
theorem dX2_turnsOf_18 : decode cX2_turnsOf 18 = .ok (.getfield 18, 3) := by sorry
theorem dX2_turnsOf_21 : decode cX2_turnsOf 21 = .ok (.aload_n 1, 1) := by sorry
theorem dX2_turnsOf_22 : decode cX2_turnsOf 22 = .ok (.invokevirtual 32, 3) := by sorry
theorem dX2_turnsOf_25 : decode cX2_turnsOf 25 = .ok (.iconst 1, 1) := by sorry
theorem dX2_turnsOf_26 : decode cX2_turnsOf 26 = .ok (.istore_n 2, 1) := by sorry
theorem dX2_turnsOf_27 : decode cX2_turnsOf 27 = .ok (.iconst 0, 1) := by sorry
theorem dX2_turnsOf_28 : decode cX2_turnsOf 28 = .ok (.istore_n 3, 1) := by sorry
theorem dX2_turnsOf_29 : decode cX2_turnsOf 29 = .ok (.iconst 0, 1) := by sorry
theorem dX2_turnsOf_30 : decode cX2_turnsOf 30 = .ok (.istore 4, 2) := by sorry
theorem dX2_turnsOf_32 : decode cX2_turnsOf 32 = .ok (.iload 4, 2) := by sorry
theorem dX2_turnsOf_34 : decode cX2_turnsOf 34 = .ok (.aload_n 0, 1) := by sorry
theorem dX2_turnsOf_35 : decode cX2_turnsOf 35 = .ok (.getfield 12, 3) := by sorry
theorem dX2_turnsOf_38 : decode cX2_turnsOf 38 = .ok (.getfield 29, 3) := by sorry
theorem dX2_turnsOf_41 : decode cX2_turnsOf 41 = .ok (.if_icmp .ge 76, 3) := by sorry
theorem dX2_turnsOf_44 : decode cX2_turnsOf 44 = .ok (.iload_n 3, 1) := by sorry
theorem dX2_turnsOf_45 : decode cX2_turnsOf 45 = .ok (.iload 4, 2) := by sorry
theorem dX2_turnsOf_47 : decode cX2_turnsOf 47 = .ok (.invokestatic 36, 3) := by sorry
theorem dX2_turnsOf_50 : decode cX2_turnsOf 50 = .ok (.ifCond .ne 61, 3) := by sorry
theorem dX2_turnsOf_53 : decode cX2_turnsOf 53 = .ok (.aload_n 0, 1) := by sorry
theorem dX2_turnsOf_54 : decode cX2_turnsOf 54 = .ok (.getfield 12, 3) := by sorry
theorem dX2_turnsOf_57 : decode cX2_turnsOf 57 = .ok (.iload 4, 2) := by sorry
theorem dX2_turnsOf_59 : decode cX2_turnsOf 59 = .ok (.invokestatic 40, 3) := by sorry
theorem dX2_turnsOf_62 : decode cX2_turnsOf 62 = .ok (.istore 5, 2) := by sorry
theorem dX2_turnsOf_64 : decode cX2_turnsOf 64 = .ok (.iconst 1, 1) := by sorry
theorem dX2_turnsOf_65 : decode cX2_turnsOf 65 = .ok (.aload_n 0, 1) := by sorry
theorem dX2_turnsOf_66 : decode cX2_turnsOf 66 = .ok (.iload 5, 2) := by sorry
theorem dX2_turnsOf_68 : decode cX2_turnsOf 68 = .ok (.iload_n 3, 1) := by sorry
theorem dX2_turnsOf_69 : decode cX2_turnsOf 69 = .ok (.invokevirtual 46, 3) := by sorry
theorem dX2_turnsOf_72 : decode cX2_turnsOf 72 = .ok (.iadd, 1) := by sorry
theorem dX2_turnsOf_73 : decode cX2_turnsOf 73 = .ok (.istore 6, 2) := by sorry
theorem dX2_turnsOf_75 : decode cX2_turnsOf 75 = .ok (.sipush 1000, 3) := by sorry
theorem dX2_turnsOf_78 : decode cX2_turnsOf 78 = .ok (.iload_n 2, 1) := by sorry
theorem dX2_turnsOf_79 : decode cX2_turnsOf 79 = .ok (.iload 6, 2) := by sorry
theorem dX2_turnsOf_81 : decode cX2_turnsOf 81 = .ok (.imul, 1) := by sorry
theorem dX2_turnsOf_82 : decode cX2_turnsOf 82 = .ok (.invokestatic 50, 3) := by sorry
theorem dX2_turnsOf_85 : decode cX2_turnsOf 85 = .ok (.istore_n 2, 1) := by sorry
theorem dX2_turnsOf_86 : decode cX2_turnsOf 86 = .ok (.sipush 1000, 3) := by sorry
theorem dX2_turnsOf_89 : decode cX2_turnsOf 89 = .ok (.iload_n 2, 1) := by sorry
theorem dX2_turnsOf_90 : decode cX2_turnsOf 90 = .ok (.aload_n 0, 1) := by sorry
theorem dX2_turnsOf_91 : decode cX2_turnsOf 91 = .ok (.iload 5, 2) := by sorry
theorem dX2_turnsOf_93 : decode cX2_turnsOf 93 = .ok (.iload 5, 2) := by sorry
theorem dX2_turnsOf_95 : decode cX2_turnsOf 95 = .ok (.sipush 1000, 3) := by sorry
theorem dX2_turnsOf_98 : decode cX2_turnsOf 98 = .ok (.invokevirtual 55, 3) := by sorry
theorem dX2_turnsOf_101 : decode cX2_turnsOf 101 = .ok (.imul, 1) := by sorry
theorem dX2_turnsOf_102 : decode cX2_turnsOf 102 = .ok (.invokestatic 50, 3) := by sorry
theorem dX2_turnsOf_105 : decode cX2_turnsOf 105 = .ok (.istore_n 2, 1) := by sorry
theorem dX2_turnsOf_106 : decode cX2_turnsOf 106 = .ok (.iload_n 3, 1) := by sorry
theorem dX2_turnsOf_107 : decode cX2_turnsOf 107 = .ok (.iload 5, 2) := by sorry
theorem dX2_turnsOf_109 : decode cX2_turnsOf 109 = .ok (.ior, 1) := by sorry
theorem dX2_turnsOf_110 : decode cX2_turnsOf 110 = .ok (.istore_n 3, 1) := by sorry
theorem dX2_turnsOf_111 : decode cX2_turnsOf 111 = .ok (.iinc 4 1, 3) := by sorry
theorem dX2_turnsOf_114 : decode cX2_turnsOf 114 = .ok (.goto (-82), 3) := by sorry
theorem dX2_turnsOf_117 : decode cX2_turnsOf 117 = .ok (.iload_n 2, 1) := by sorry
theorem dX2_turnsOf_118 : decode cX2_turnsOf 118 = .ok (.ireturn, 1) := by sorry
theorem ggX2_partsLike_X6_holds : GoodIn wsX2_partsLike wsX6_holds := by sorry
theorem gX2_partsLike_X6_holds_n36 : GoodIn wsX2_partsLike (wsX6_holds) := by sorry
theorem ggX2_partsLike_X5_partWith : GoodIn wsX2_partsLike wsX5_partWith := by sorry
theorem gX2_partsLike_X5_partWith_n40 : GoodIn wsX2_partsLike (wsX5_partWith) := by sorry
theorem ggX2_partsLike_X2_waysOf : GoodIn wsX2_partsLike wsX2_waysOf := by sorry
theorem gX2_partsLike_X2_waysOf : GoodIn wsX2_partsLike (wsV RX2 55 RX2 yX2_waysOf wsX2_waysOf) := by sorry
theorem dX2_partsLike_0 : decode cX2_partsLike 0 = .ok (.iconst 0, 1) := by sorry
theorem dX2_partsLike_1 : decode cX2_partsLike 1 = .ok (.istore_n 3, 1) := by sorry
theorem dX2_partsLike_2 : decode cX2_partsLike 2 = .ok (.iload_n 2, 1) := by sorry
theorem dX2_partsLike_3 : decode cX2_partsLike 3 = .ok (.istore 4, 2) := by sorry
theorem dX2_partsLike_5 : decode cX2_partsLike 5 = .ok (.iconst 0, 1) := by sorry
theorem dX2_partsLike_6 : decode cX2_partsLike 6 = .ok (.istore 5, 2) := by sorry
theorem dX2_partsLike_8 : decode cX2_partsLike 8 = .ok (.iload 5, 2) := by sorry
theorem dX2_partsLike_10 : decode cX2_partsLike 10 = .ok (.aload_n 0, 1) := by sorry
theorem dX2_partsLike_11 : decode cX2_partsLike 11 = .ok (.getfield 18, 3) := by sorry
theorem dX2_partsLike_14 : decode cX2_partsLike 14 = .ok (.getfield 29, 3) := by sorry
theorem dX2_partsLike_17 : decode cX2_partsLike 17 = .ok (.if_icmp .ge 50, 3) := by sorry
theorem dX2_partsLike_20 : decode cX2_partsLike 20 = .ok (.iload 4, 2) := by sorry
theorem dX2_partsLike_22 : decode cX2_partsLike 22 = .ok (.iload 5, 2) := by sorry
theorem dX2_partsLike_24 : decode cX2_partsLike 24 = .ok (.invokestatic 36, 3) := by sorry
theorem dX2_partsLike_27 : decode cX2_partsLike 27 = .ok (.ifCond .eq 34, 3) := by sorry
theorem dX2_partsLike_30 : decode cX2_partsLike 30 = .ok (.aload_n 0, 1) := by sorry
theorem dX2_partsLike_31 : decode cX2_partsLike 31 = .ok (.getfield 18, 3) := by sorry
theorem dX2_partsLike_34 : decode cX2_partsLike 34 = .ok (.iload 5, 2) := by sorry
theorem dX2_partsLike_36 : decode cX2_partsLike 36 = .ok (.invokestatic 40, 3) := by sorry
theorem dX2_partsLike_39 : decode cX2_partsLike 39 = .ok (.istore 6, 2) := by sorry
theorem dX2_partsLike_41 : decode cX2_partsLike 41 = .ok (.iload_n 3, 1) := by sorry
theorem dX2_partsLike_42 : decode cX2_partsLike 42 = .ok (.aload_n 0, 1) := by sorry
theorem dX2_partsLike_43 : decode cX2_partsLike 43 = .ok (.iload_n 1, 1) := by sorry
theorem dX2_partsLike_44 : decode cX2_partsLike 44 = .ok (.iload 6, 2) := by sorry
theorem dX2_partsLike_46 : decode cX2_partsLike 46 = .ok (.iconst 1, 1) := by sorry
theorem dX2_partsLike_47 : decode cX2_partsLike 47 = .ok (.invokevirtual 55, 3) := by sorry
theorem dX2_partsLike_50 : decode cX2_partsLike 50 = .ok (.iadd, 1) := by sorry
theorem dX2_partsLike_51 : decode cX2_partsLike 51 = .ok (.istore_n 3, 1) := by sorry
theorem dX2_partsLike_52 : decode cX2_partsLike 52 = .ok (.iload 4, 2) := by sorry
theorem dX2_partsLike_54 : decode cX2_partsLike 54 = .ok (.iload 6, 2) := by sorry
theorem dX2_partsLike_56 : decode cX2_partsLike 56 = .ok (.iconst (-1), 1) := by sorry
theorem dX2_partsLike_57 : decode cX2_partsLike 57 = .ok (.ixor, 1) := by sorry
theorem dX2_partsLike_58 : decode cX2_partsLike 58 = .ok (.iand, 1) := by sorry
theorem dX2_partsLike_59 : decode cX2_partsLike 59 = .ok (.istore 4, 2) := by sorry
theorem dX2_partsLike_61 : decode cX2_partsLike 61 = .ok (.iinc 5 1, 3) := by sorry
theorem dX2_partsLike_64 : decode cX2_partsLike 64 = .ok (.goto (-56), 3) := by sorry
theorem dX2_partsLike_67 : decode cX2_partsLike 67 = .ok (.iload_n 3, 1) := by sorry
theorem dX2_partsLike_68 : decode cX2_partsLike 68 = .ok (.ireturn, 1) := by sorry
theorem ggX2_areAlike_X3_edgesInAll : GoodIn wsX2_areAlike wsX3_edgesInAll := by sorry
theorem gX2_areAlike_X3_edgesInAll_n59 : GoodIn wsX2_areAlike (wsX3_edgesInAll) := by sorry
theorem ggX2_areAlike_X3_take : GoodIn wsX2_areAlike wsX3_take := by sorry
theorem gX2_areAlike_X3_take_n32 : GoodIn wsX2_areAlike (wsX3_take) := by sorry
theorem ggX2_areAlike_X6_bit : GoodIn wsX2_areAlike wsX6_bit := by sorry
theorem gX2_areAlike_X6_bit_n63 : GoodIn wsX2_areAlike (wsX6_bit) := by sorry
theorem ggX2_areAlike_X6_holds : GoodIn wsX2_areAlike wsX6_holds := by sorry
theorem gX2_areAlike_X6_holds_n36 : GoodIn wsX2_areAlike (wsX6_holds) := by sorry
theorem ggX2_areAlike_X5_partWith : GoodIn wsX2_areAlike wsX5_partWith := by sorry
theorem gX2_areAlike_X5_partWith_n40 : GoodIn wsX2_areAlike (wsX5_partWith) := by sorry
theorem ggX2_areAlike_X2_partMatching : GoodIn wsX2_areAlike wsX2_partMatching := by sorry
theorem gX2_areAlike_X2_partMatching : GoodIn wsX2_areAlike (wsV RX2 67 RX2 yX2_partMatching wsX2_partMatching) := by sorry
theorem dX2_areAlike_0 : decode cX2_areAlike 0 = .ok (.aload_n 1, 1) := by sorry
theorem dX2_areAlike_1 : decode cX2_areAlike 1 = .ok (.getfield 29, 3) := by sorry
theorem dX2_areAlike_4 : decode cX2_areAlike 4 = .ok (.aload_n 2, 1) := by sorry
theorem dX2_areAlike_5 : decode cX2_areAlike 5 = .ok (.getfield 29, 3) := by sorry
theorem dX2_areAlike_8 : decode cX2_areAlike 8 = .ok (.if_icmp .ne 14, 3) := by sorry
theorem dX2_areAlike_11 : decode cX2_areAlike 11 = .ok (.aload_n 1, 1) := by sorry
theorem dX2_areAlike_12 : decode cX2_areAlike 12 = .ok (.invokevirtual 59, 3) := by sorry
theorem dX2_areAlike_15 : decode cX2_areAlike 15 = .ok (.aload_n 2, 1) := by sorry
theorem dX2_areAlike_16 : decode cX2_areAlike 16 = .ok (.invokevirtual 59, 3) := by sorry
theorem dX2_areAlike_19 : decode cX2_areAlike 19 = .ok (.if_icmp .eq 5, 3) := by sorry
theorem dX2_areAlike_22 : decode cX2_areAlike 22 = .ok (.iconst 0, 1) := by sorry
theorem dX2_areAlike_23 : decode cX2_areAlike 23 = .ok (.ireturn, 1) := by sorry
theorem dX2_areAlike_24 : decode cX2_areAlike 24 = .ok (.aload_n 0, 1) := by sorry
theorem dX2_areAlike_25 : decode cX2_areAlike 25 = .ok (.getfield 12, 3) := by sorry
theorem dX2_areAlike_28 : decode cX2_areAlike 28 = .ok (.aload_n 1, 1) := by sorry
theorem dX2_areAlike_29 : decode cX2_areAlike 29 = .ok (.invokevirtual 32, 3) := by sorry
theorem dX2_areAlike_32 : decode cX2_areAlike 32 = .ok (.aload_n 0, 1) := by sorry
theorem dX2_areAlike_33 : decode cX2_areAlike 33 = .ok (.getfield 18, 3) := by sorry
theorem dX2_areAlike_36 : decode cX2_areAlike 36 = .ok (.aload_n 2, 1) := by sorry
theorem dX2_areAlike_37 : decode cX2_areAlike 37 = .ok (.invokevirtual 32, 3) := by sorry
theorem dX2_areAlike_40 : decode cX2_areAlike 40 = .ok (.iconst 0, 1) := by sorry
theorem dX2_areAlike_41 : decode cX2_areAlike 41 = .ok (.istore_n 3, 1) := by sorry
theorem dX2_areAlike_42 : decode cX2_areAlike 42 = .ok (.aload_n 0, 1) := by sorry
theorem dX2_areAlike_43 : decode cX2_areAlike 43 = .ok (.getfield 18, 3) := by sorry
theorem dX2_areAlike_46 : decode cX2_areAlike 46 = .ok (.getfield 29, 3) := by sorry
theorem dX2_areAlike_49 : decode cX2_areAlike 49 = .ok (.invokestatic 63, 3) := by sorry
theorem dX2_areAlike_52 : decode cX2_areAlike 52 = .ok (.iconst 1, 1) := by sorry
theorem dX2_areAlike_53 : decode cX2_areAlike 53 = .ok (.isub, 1) := by sorry
theorem dX2_areAlike_54 : decode cX2_areAlike 54 = .ok (.istore 4, 2) := by sorry
theorem dX2_areAlike_56 : decode cX2_areAlike 56 = .ok (.iconst 0, 1) := by sorry
theorem dX2_areAlike_57 : decode cX2_areAlike 57 = .ok (.istore 5, 2) := by sorry
theorem dX2_areAlike_59 : decode cX2_areAlike 59 = .ok (.iload 5, 2) := by sorry
theorem dX2_areAlike_61 : decode cX2_areAlike 61 = .ok (.aload_n 0, 1) := by sorry
theorem dX2_areAlike_62 : decode cX2_areAlike 62 = .ok (.getfield 12, 3) := by sorry
theorem dX2_areAlike_65 : decode cX2_areAlike 65 = .ok (.getfield 29, 3) := by sorry
theorem dX2_areAlike_68 : decode cX2_areAlike 68 = .ok (.if_icmp .ge 60, 3) := by sorry
theorem dX2_areAlike_71 : decode cX2_areAlike 71 = .ok (.iload_n 3, 1) := by sorry
theorem dX2_areAlike_72 : decode cX2_areAlike 72 = .ok (.iload 5, 2) := by sorry
theorem dX2_areAlike_74 : decode cX2_areAlike 74 = .ok (.invokestatic 36, 3) := by sorry
theorem dX2_areAlike_77 : decode cX2_areAlike 77 = .ok (.ifCond .ne 45, 3) := by sorry
theorem dX2_areAlike_80 : decode cX2_areAlike 80 = .ok (.aload_n 0, 1) := by sorry
theorem dX2_areAlike_81 : decode cX2_areAlike 81 = .ok (.getfield 12, 3) := by sorry
theorem dX2_areAlike_84 : decode cX2_areAlike 84 = .ok (.iload 5, 2) := by sorry
theorem dX2_areAlike_86 : decode cX2_areAlike 86 = .ok (.invokestatic 40, 3) := by sorry
theorem dX2_areAlike_89 : decode cX2_areAlike 89 = .ok (.istore 6, 2) := by sorry
theorem dX2_areAlike_91 : decode cX2_areAlike 91 = .ok (.aload_n 0, 1) := by sorry
theorem dX2_areAlike_92 : decode cX2_areAlike 92 = .ok (.iload 6, 2) := by sorry
theorem dX2_areAlike_94 : decode cX2_areAlike 94 = .ok (.iload 4, 2) := by sorry
theorem dX2_areAlike_96 : decode cX2_areAlike 96 = .ok (.invokevirtual 67, 3) := by sorry
theorem dX2_areAlike_99 : decode cX2_areAlike 99 = .ok (.istore 7, 2) := by sorry
theorem dX2_areAlike_101 : decode cX2_areAlike 101 = .ok (.iload 7, 2) := by sorry
theorem dX2_areAlike_103 : decode cX2_areAlike 103 = .ok (.ifCond .ne 5, 3) := by sorry
theorem dX2_areAlike_106 : decode cX2_areAlike 106 = .ok (.iconst 0, 1) := by sorry
theorem dX2_areAlike_107 : decode cX2_areAlike 107 = .ok (.ireturn, 1) := by sorry
theorem dX2_areAlike_108 : decode cX2_areAlike 108 = .ok (.iload_n 3, 1) := by sorry
theorem dX2_areAlike_109 : decode cX2_areAlike 109 = .ok (.iload 6, 2) := by sorry
theorem dX2_areAlike_111 : decode cX2_areAlike 111 = .ok (.ior, 1) := by sorry
theorem dX2_areAlike_112 : decode cX2_areAlike 112 = .ok (.istore_n 3, 1) := by sorry
theorem dX2_areAlike_113 : decode cX2_areAlike 113 = .ok (.iload 4, 2) := by sorry
theorem dX2_areAlike_115 : decode cX2_areAlike 115 = .ok (.iload 7, 2) := by sorry
theorem dX2_areAlike_117 : decode cX2_areAlike 117 = .ok (.iconst (-1), 1) := by sorry
theorem dX2_areAlike_118 : decode cX2_areAlike 118 = .ok (.ixor, 1) := by sorry
theorem dX2_areAlike_119 : decode cX2_areAlike 119 = .ok (.iand, 1) := by sorry
theorem dX2_areAlike_120 : decode cX2_areAlike 120 = .ok (.istore 4, 2) := by sorry
theorem dX2_areAlike_122 : decode cX2_areAlike 122 = .ok (.iinc 5 1, 3) := by sorry
theorem dX2_areAlike_125 : decode cX2_areAlike 125 = .ok (.goto (-66), 3) := by sorry
theorem dX2_areAlike_128 : decode cX2_areAlike 128 = .ok (.iload 4, 2) := by sorry
theorem dX2_areAlike_130 : decode cX2_areAlike 130 = .ok (.ifCond .ne 7, 3) := by sorry
theorem dX2_areAlike_133 : decode cX2_areAlike 133 = .ok (.iconst 1, 1) := by sorry
theorem dX2_areAlike_134 : decode cX2_areAlike 134 = .ok (.goto 4, 3) := by sorry
theorem dX2_areAlike_137 : decode cX2_areAlike 137 = .ok (.iconst 0, 1) := by sorry
theorem dX2_areAlike_138 : decode cX2_areAlike 138 = .ok (.ireturn, 1) := by sorry
theorem ggX2_partMatching_X6_holds : GoodIn wsX2_partMatching wsX6_holds := by sorry
theorem gX2_partMatching_X6_holds_n36 : GoodIn wsX2_partMatching (wsX6_holds) := by sorry
theorem ggX2_partMatching_X5_partWith : GoodIn wsX2_partMatching wsX5_partWith := by sorry
theorem gX2_partMatching_X5_partWith_n40 : GoodIn wsX2_partMatching (wsX5_partWith) := by sorry
theorem ggX2_partMatching_X2_waysOf : GoodIn wsX2_partMatching wsX2_waysOf := by sorry
theorem gX2_partMatching_X2_waysOf : GoodIn wsX2_partMatching (wsV RX2 55 RX2 yX2_waysOf wsX2_waysOf) := by sorry
theorem dX2_partMatching_0 : decode cX2_partMatching 0 = .ok (.iload_n 2, 1) := by sorry
theorem dX2_partMatching_1 : decode cX2_partMatching 1 = .ok (.istore_n 3, 1) := by sorry
theorem dX2_partMatching_2 : decode cX2_partMatching 2 = .ok (.iconst 0, 1) := by sorry
theorem dX2_partMatching_3 : decode cX2_partMatching 3 = .ok (.istore 4, 2) := by sorry
theorem dX2_partMatching_5 : decode cX2_partMatching 5 = .ok (.iload 4, 2) := by sorry
theorem dX2_partMatching_7 : decode cX2_partMatching 7 = .ok (.aload_n 0, 1) := by sorry
theorem dX2_partMatching_8 : decode cX2_partMatching 8 = .ok (.getfield 18, 3) := by sorry
theorem dX2_partMatching_11 : decode cX2_partMatching 11 = .ok (.getfield 29, 3) := by sorry
theorem dX2_partMatching_14 : decode cX2_partMatching 14 = .ok (.if_icmp .ge 50, 3) := by sorry
theorem dX2_partMatching_17 : decode cX2_partMatching 17 = .ok (.iload_n 3, 1) := by sorry
theorem dX2_partMatching_18 : decode cX2_partMatching 18 = .ok (.iload 4, 2) := by sorry
theorem dX2_partMatching_20 : decode cX2_partMatching 20 = .ok (.invokestatic 36, 3) := by sorry
theorem dX2_partMatching_23 : decode cX2_partMatching 23 = .ok (.ifCond .eq 35, 3) := by sorry
theorem dX2_partMatching_26 : decode cX2_partMatching 26 = .ok (.aload_n 0, 1) := by sorry
theorem dX2_partMatching_27 : decode cX2_partMatching 27 = .ok (.getfield 18, 3) := by sorry
theorem dX2_partMatching_30 : decode cX2_partMatching 30 = .ok (.iload 4, 2) := by sorry
theorem dX2_partMatching_32 : decode cX2_partMatching 32 = .ok (.invokestatic 40, 3) := by sorry
theorem dX2_partMatching_35 : decode cX2_partMatching 35 = .ok (.istore 5, 2) := by sorry
theorem dX2_partMatching_37 : decode cX2_partMatching 37 = .ok (.aload_n 0, 1) := by sorry
theorem dX2_partMatching_38 : decode cX2_partMatching 38 = .ok (.iload_n 1, 1) := by sorry
theorem dX2_partMatching_39 : decode cX2_partMatching 39 = .ok (.iload 5, 2) := by sorry
theorem dX2_partMatching_41 : decode cX2_partMatching 41 = .ok (.iconst 1, 1) := by sorry
theorem dX2_partMatching_42 : decode cX2_partMatching 42 = .ok (.invokevirtual 55, 3) := by sorry
theorem dX2_partMatching_45 : decode cX2_partMatching 45 = .ok (.ifCond .le 6, 3) := by sorry
theorem dX2_partMatching_48 : decode cX2_partMatching 48 = .ok (.iload 5, 2) := by sorry
theorem dX2_partMatching_50 : decode cX2_partMatching 50 = .ok (.ireturn, 1) := by sorry
theorem dX2_partMatching_51 : decode cX2_partMatching 51 = .ok (.iload_n 3, 1) := by sorry
theorem dX2_partMatching_52 : decode cX2_partMatching 52 = .ok (.iload 5, 2) := by sorry
theorem dX2_partMatching_54 : decode cX2_partMatching 54 = .ok (.iconst (-1), 1) := by sorry
theorem dX2_partMatching_55 : decode cX2_partMatching 55 = .ok (.ixor, 1) := by sorry
theorem dX2_partMatching_56 : decode cX2_partMatching 56 = .ok (.iand, 1) := by sorry
theorem dX2_partMatching_57 : decode cX2_partMatching 57 = .ok (.istore_n 3, 1) := by sorry
theorem dX2_partMatching_58 : decode cX2_partMatching 58 = .ok (.iinc 4 1, 3) := by sorry
theorem dX2_partMatching_61 : decode cX2_partMatching 61 = .ok (.goto (-56), 3) := by sorry
theorem dX2_partMatching_64 : decode cX2_partMatching 64 = .ok (.iconst 0, 1) := by sorry
theorem dX2_partMatching_65 : decode cX2_partMatching 65 = .ok (.ireturn, 1) := by sorry
theorem ggX2_waysOf_J6_bitCount_0f7a4 : GoodIn wsX2_waysOf wsJ6_bitCount_0f7a4 := by sorry
theorem gX2_waysOf_J6_bitCount_0f7a4 : GoodIn wsX2_waysOf (va_wsS RX2 70 yJ6_bitCount_0f7a4 wsJ6_bitCount_0f7a4) := by sorry
theorem ggX2_waysOf_X2_ways : GoodIn wsX2_waysOf wsX2_ways := by sorry
theorem gX2_waysOf_X2_ways : GoodIn wsX2_waysOf (va_wsS RX2 75 yX2_ways wsX2_ways) := by sorry
theorem dX2_waysOf_0 : decode cX2_waysOf 0 = .ok (.iload_n 1, 1) := by sorry
theorem dX2_waysOf_1 : decode cX2_waysOf 1 = .ok (.invokestatic 70, 3) := by sorry
theorem dX2_waysOf_4 : decode cX2_waysOf 4 = .ok (.iload_n 2, 1) := by sorry
theorem dX2_waysOf_5 : decode cX2_waysOf 5 = .ok (.invokestatic 70, 3) := by sorry
theorem dX2_waysOf_8 : decode cX2_waysOf 8 = .ok (.if_icmp .eq 5, 3) := by sorry
theorem dX2_waysOf_11 : decode cX2_waysOf 11 = .ok (.iconst 0, 1) := by sorry
theorem dX2_waysOf_12 : decode cX2_waysOf 12 = .ok (.ireturn, 1) := by sorry
theorem dX2_waysOf_13 : decode cX2_waysOf 13 = .ok (.aload_n 0, 1) := by sorry
theorem dX2_waysOf_14 : decode cX2_waysOf 14 = .ok (.iconst 0, 1) := by sorry
theorem dX2_waysOf_15 : decode cX2_waysOf 15 = .ok (.putfield 25, 3) := by sorry
theorem dX2_waysOf_18 : decode cX2_waysOf 18 = .ok (.aload_n 0, 1) := by sorry
theorem dX2_waysOf_19 : decode cX2_waysOf 19 = .ok (.iload_n 1, 1) := by sorry
theorem dX2_waysOf_20 : decode cX2_waysOf 20 = .ok (.iload_n 2, 1) := by sorry
theorem dX2_waysOf_21 : decode cX2_waysOf 21 = .ok (.iload_n 3, 1) := by sorry
theorem dX2_waysOf_22 : decode cX2_waysOf 22 = .ok (.iconst 0, 1) := by sorry
theorem dX2_waysOf_23 : decode cX2_waysOf 23 = .ok (.invokestatic 75, 3) := by sorry
theorem dX2_waysOf_26 : decode cX2_waysOf 26 = .ok (.ireturn, 1) := by sorry
theorem ggX2_ways_X2_nextToPlace : GoodIn wsX2_ways wsX2_nextToPlace := by sorry
theorem gX2_ways_X2_nextToPlace : GoodIn wsX2_ways (wsV RX2 79 RX2 yX2_nextToPlace wsX2_nextToPlace) := by sorry
theorem ggX2_ways_X2_fitting : GoodIn wsX2_ways wsX2_fitting := by sorry
theorem gX2_ways_X2_fitting : GoodIn wsX2_ways (wsV RX2 82 RX2 yX2_fitting wsX2_fitting) := by sorry
theorem ggX2_ways_X6_holds : GoodIn wsX2_ways wsX6_holds := by sorry
theorem gX2_ways_X6_holds_n36 : GoodIn wsX2_ways (wsX6_holds) := by sorry
theorem ggX2_ways_X2_place : GoodIn wsX2_ways wsX2_place := by sorry
theorem gX2_ways_X2_place : GoodIn wsX2_ways (wsV RX2 85 RX2 yX2_place wsX2_place) := by sorry
theorem ggX2_ways_X6_bit : GoodIn wsX2_ways wsX6_bit := by sorry
theorem gX2_ways_X6_bit_n63 : GoodIn wsX2_ways (wsX6_bit) := by sorry
theorem ggX2_ways_X2_ways : GoodIn wsX2_ways wsX2_ways := by sorry
theorem gX2_ways_X2_ways : GoodIn wsX2_ways (va_wsS RX2 75 yX2_ways wsX2_ways) := by sorry
theorem dX2_ways_0 : decode cX2_ways 0 = .ok (.iload_n 1, 1) := by sorry
theorem dX2_ways_1 : decode cX2_ways 1 = .ok (.ifCond .ne 5, 3) := by sorry
theorem dX2_ways_4 : decode cX2_ways 4 = .ok (.iconst 1, 1) := by sorry
theorem dX2_ways_5 : decode cX2_ways 5 = .ok (.ireturn, 1) := by sorry
theorem dX2_ways_6 : decode cX2_ways 6 = .ok (.iload 4, 2) := by sorry
theorem dX2_ways_8 : decode cX2_ways 8 = .ok (.bipush 16, 2) := by sorry
theorem dX2_ways_10 : decode cX2_ways 10 = .ok (.if_icmp .lt 5, 3) := by sorry
theorem dX2_ways_13 : decode cX2_ways 13 = .ok (.iconst 0, 1) := by sorry
theorem dX2_ways_14 : decode cX2_ways 14 = .ok (.ireturn, 1) := by sorry
theorem dX2_ways_15 : decode cX2_ways 15 = .ok (.aload_n 0, 1) := by sorry
theorem dX2_ways_16 : decode cX2_ways 16 = .ok (.iload_n 1, 1) := by sorry
theorem dX2_ways_17 : decode cX2_ways 17 = .ok (.invokevirtual 79, 3) := by sorry
theorem dX2_ways_20 : decode cX2_ways 20 = .ok (.istore 5, 2) := by sorry
theorem dX2_ways_22 : decode cX2_ways 22 = .ok (.aload_n 0, 1) := by sorry
theorem dX2_ways_23 : decode cX2_ways 23 = .ok (.iload 5, 2) := by sorry
theorem dX2_ways_25 : decode cX2_ways 25 = .ok (.iload_n 2, 1) := by sorry
theorem dX2_ways_26 : decode cX2_ways 26 = .ok (.invokevirtual 82, 3) := by sorry
theorem dX2_ways_29 : decode cX2_ways 29 = .ok (.istore 6, 2) := by sorry
theorem dX2_ways_31 : decode cX2_ways 31 = .ok (.iconst 0, 1) := by sorry
theorem dX2_ways_32 : decode cX2_ways 32 = .ok (.istore 7, 2) := by sorry
theorem dX2_ways_34 : decode cX2_ways 34 = .ok (.iconst 0, 1) := by sorry
theorem dX2_ways_35 : decode cX2_ways 35 = .ok (.istore 8, 2) := by sorry
theorem dX2_ways_37 : decode cX2_ways 37 = .ok (.iload 8, 2) := by sorry
theorem dX2_ways_39 : decode cX2_ways 39 = .ok (.aload_n 0, 1) := by sorry
theorem dX2_ways_40 : decode cX2_ways 40 = .ok (.getfield 18, 3) := by sorry
theorem dX2_ways_43 : decode cX2_ways 43 = .ok (.getfield 29, 3) := by sorry
theorem dX2_ways_46 : decode cX2_ways 46 = .ok (.if_icmp .ge 84, 3) := by sorry
theorem dX2_ways_49 : decode cX2_ways 49 = .ok (.iload 7, 2) := by sorry
theorem dX2_ways_51 : decode cX2_ways 51 = .ok (.iload_n 3, 1) := by sorry
theorem dX2_ways_52 : decode cX2_ways 52 = .ok (.if_icmp .ge 78, 3) := by sorry
theorem dX2_ways_55 : decode cX2_ways 55 = .ok (.iload 6, 2) := by sorry
theorem dX2_ways_57 : decode cX2_ways 57 = .ok (.iload 8, 2) := by sorry
theorem dX2_ways_59 : decode cX2_ways 59 = .ok (.invokestatic 36, 3) := by sorry
theorem dX2_ways_62 : decode cX2_ways 62 = .ok (.ifCond .eq 62, 3) := by sorry
theorem dX2_ways_65 : decode cX2_ways 65 = .ok (.aload_n 0, 1) := by sorry
theorem dX2_ways_66 : decode cX2_ways 66 = .ok (.iload 5, 2) := by sorry
theorem dX2_ways_68 : decode cX2_ways 68 = .ok (.iload 8, 2) := by sorry
theorem dX2_ways_70 : decode cX2_ways 70 = .ok (.invokevirtual 85, 3) := by sorry
theorem dX2_ways_73 : decode cX2_ways 73 = .ok (.iload 7, 2) := by sorry
theorem dX2_ways_75 : decode cX2_ways 75 = .ok (.aload_n 0, 1) := by sorry
theorem dX2_ways_76 : decode cX2_ways 76 = .ok (.iload_n 1, 1) := by sorry
theorem dX2_ways_77 : decode cX2_ways 77 = .ok (.iload 5, 2) := by sorry
theorem dX2_ways_79 : decode cX2_ways 79 = .ok (.invokestatic 63, 3) := by sorry
theorem dX2_ways_82 : decode cX2_ways 82 = .ok (.iconst (-1), 1) := by sorry
theorem dX2_ways_83 : decode cX2_ways 83 = .ok (.ixor, 1) := by sorry
theorem dX2_ways_84 : decode cX2_ways 84 = .ok (.iand, 1) := by sorry
theorem dX2_ways_85 : decode cX2_ways 85 = .ok (.iload_n 2, 1) := by sorry
theorem dX2_ways_86 : decode cX2_ways 86 = .ok (.iload 8, 2) := by sorry
theorem dX2_ways_88 : decode cX2_ways 88 = .ok (.invokestatic 63, 3) := by sorry
theorem dX2_ways_91 : decode cX2_ways 91 = .ok (.iconst (-1), 1) := by sorry
theorem dX2_ways_92 : decode cX2_ways 92 = .ok (.ixor, 1) := by sorry
theorem dX2_ways_93 : decode cX2_ways 93 = .ok (.iand, 1) := by sorry
theorem dX2_ways_94 : decode cX2_ways 94 = .ok (.iload_n 3, 1) := by sorry
theorem dX2_ways_95 : decode cX2_ways 95 = .ok (.iload 7, 2) := by sorry
theorem dX2_ways_97 : decode cX2_ways 97 = .ok (.isub, 1) := by sorry
theorem dX2_ways_98 : decode cX2_ways 98 = .ok (.iload 4, 2) := by sorry
theorem dX2_ways_100 : decode cX2_ways 100 = .ok (.iconst 1, 1) := by sorry
theorem dX2_ways_101 : decode cX2_ways 101 = .ok (.iadd, 1) := by sorry
theorem dX2_ways_102 : decode cX2_ways 102 = .ok (.invokestatic 75, 3) := by sorry
theorem dX2_ways_105 : decode cX2_ways 105 = .ok (.iadd, 1) := by sorry
theorem dX2_ways_106 : decode cX2_ways 106 = .ok (.istore 7, 2) := by sorry
theorem dX2_ways_108 : decode cX2_ways 108 = .ok (.aload_n 0, 1) := by sorry
theorem dX2_ways_109 : decode cX2_ways 109 = .ok (.dup, 1) := by sorry
theorem dX2_ways_110 : decode cX2_ways 110 = .ok (.getfield 25, 3) := by sorry
theorem dX2_ways_113 : decode cX2_ways 113 = .ok (.iload 5, 2) := by sorry
theorem dX2_ways_115 : decode cX2_ways 115 = .ok (.invokestatic 63, 3) := by sorry
theorem dX2_ways_118 : decode cX2_ways 118 = .ok (.iconst (-1), 1) := by sorry
theorem dX2_ways_119 : decode cX2_ways 119 = .ok (.ixor, 1) := by sorry
theorem dX2_ways_120 : decode cX2_ways 120 = .ok (.iand, 1) := by sorry
theorem dX2_ways_121 : decode cX2_ways 121 = .ok (.putfield 25, 3) := by sorry
theorem dX2_ways_124 : decode cX2_ways 124 = .ok (.iinc 8 1, 3) := by sorry
theorem dX2_ways_127 : decode cX2_ways 127 = .ok (.goto (-90), 3) := by sorry
theorem dX2_ways_130 : decode cX2_ways 130 = .ok (.iload 7, 2) := by sorry
theorem dX2_ways_132 : decode cX2_ways 132 = .ok (.ireturn, 1) := by sorry
theorem ggX2_place_X6_bit : GoodIn wsX2_place wsX6_bit := by sorry
theorem gX2_place_X6_bit_n63 : GoodIn wsX2_place (wsX6_bit) := by sorry
theorem dX2_place_0 : decode cX2_place 0 = .ok (.iload_n 1, 1) := by sorry
theorem dX2_place_1 : decode cX2_place 1 = .ok (.ifCond .lt 32, 3) := by sorry
theorem dX2_place_4 : decode cX2_place 4 = .ok (.iload_n 1, 1) := by sorry
theorem dX2_place_5 : decode cX2_place 5 = .ok (.aload_n 0, 1) := by sorry
theorem dX2_place_6 : decode cX2_place 6 = .ok (.getfield 21, 3) := by sorry
theorem dX2_place_9 : decode cX2_place 9 = .ok (.arraylength, 1) := by sorry
theorem dX2_place_10 : decode cX2_place 10 = .ok (.if_icmp .ge 23, 3) := by sorry
theorem dX2_place_13 : decode cX2_place 13 = .ok (.aload_n 0, 1) := by sorry
theorem dX2_place_14 : decode cX2_place 14 = .ok (.getfield 21, 3) := by sorry
theorem dX2_place_17 : decode cX2_place 17 = .ok (.iload_n 1, 1) := by sorry
theorem dX2_place_18 : decode cX2_place 18 = .ok (.iload_n 2, 1) := by sorry
theorem dX2_place_19 : decode cX2_place 19 = .ok (.iastore, 1) := by sorry
theorem dX2_place_20 : decode cX2_place 20 = .ok (.aload_n 0, 1) := by sorry
theorem dX2_place_21 : decode cX2_place 21 = .ok (.dup, 1) := by sorry
theorem dX2_place_22 : decode cX2_place 22 = .ok (.getfield 25, 3) := by sorry
theorem dX2_place_25 : decode cX2_place 25 = .ok (.iload_n 1, 1) := by sorry
theorem dX2_place_26 : decode cX2_place 26 = .ok (.invokestatic 63, 3) := by sorry
theorem dX2_place_29 : decode cX2_place 29 = .ok (.ior, 1) := by sorry
theorem dX2_place_30 : decode cX2_place 30 = .ok (.putfield 25, 3) := by sorry
theorem dX2_place_33 : decode cX2_place 33 = .ok (.return_, 1) := by sorry
theorem ggX2_nextToPlace_X3_nearOf : GoodIn wsX2_nextToPlace wsX3_nearOf := by sorry
theorem gX2_nextToPlace_X3_nearOf_n89 : GoodIn wsX2_nextToPlace (wsX3_nearOf) := by sorry
theorem ggX2_nextToPlace_J6_bitCount_0f7a4 : GoodIn wsX2_nextToPlace wsJ6_bitCount_0f7a4 := by sorry
theorem gX2_nextToPlace_J6_bitCount_0f7a4 : GoodIn wsX2_nextToPlace (va_wsS RX2 70 yJ6_bitCount_0f7a4 wsJ6_bitCount_0f7a4) := by sorry
theorem ggX2_nextToPlace_X6_holds : GoodIn wsX2_nextToPlace wsX6_holds := by sorry
theorem gX2_nextToPlace_X6_holds_n36 : GoodIn wsX2_nextToPlace (wsX6_holds) := by sorry
theorem dX2_nextToPlace_0 : decode cX2_nextToPlace 0 = .ok (.iconst (-1), 1) := by sorry
theorem dX2_nextToPlace_1 : decode cX2_nextToPlace 1 = .ok (.istore_n 2, 1) := by sorry
theorem dX2_nextToPlace_2 : decode cX2_nextToPlace 2 = .ok (.iconst (-1), 1) := by sorry
theorem dX2_nextToPlace_3 : decode cX2_nextToPlace 3 = .ok (.istore_n 3, 1) := by sorry
theorem dX2_nextToPlace_4 : decode cX2_nextToPlace 4 = .ok (.iconst 0, 1) := by sorry
theorem dX2_nextToPlace_5 : decode cX2_nextToPlace 5 = .ok (.istore 4, 2) := by sorry
theorem dX2_nextToPlace_7 : decode cX2_nextToPlace 7 = .ok (.iload 4, 2) := by sorry
theorem dX2_nextToPlace_9 : decode cX2_nextToPlace 9 = .ok (.aload_n 0, 1) := by sorry
theorem dX2_nextToPlace_10 : decode cX2_nextToPlace 10 = .ok (.getfield 12, 3) := by sorry
theorem dX2_nextToPlace_13 : decode cX2_nextToPlace 13 = .ok (.getfield 29, 3) := by sorry
theorem dX2_nextToPlace_16 : decode cX2_nextToPlace 16 = .ok (.if_icmp .ge 49, 3) := by sorry
theorem dX2_nextToPlace_19 : decode cX2_nextToPlace 19 = .ok (.aload_n 0, 1) := by sorry
theorem dX2_nextToPlace_20 : decode cX2_nextToPlace 20 = .ok (.getfield 12, 3) := by sorry
theorem dX2_nextToPlace_23 : decode cX2_nextToPlace 23 = .ok (.iload 4, 2) := by sorry
theorem dX2_nextToPlace_25 : decode cX2_nextToPlace 25 = .ok (.invokevirtual 89, 3) := by sorry
theorem dX2_nextToPlace_28 : decode cX2_nextToPlace 28 = .ok (.aload_n 0, 1) := by sorry
theorem dX2_nextToPlace_29 : decode cX2_nextToPlace 29 = .ok (.getfield 25, 3) := by sorry
theorem dX2_nextToPlace_32 : decode cX2_nextToPlace 32 = .ok (.iand, 1) := by sorry
theorem dX2_nextToPlace_33 : decode cX2_nextToPlace 33 = .ok (.invokestatic 70, 3) := by sorry
theorem dX2_nextToPlace_36 : decode cX2_nextToPlace 36 = .ok (.istore 5, 2) := by sorry
theorem dX2_nextToPlace_38 : decode cX2_nextToPlace 38 = .ok (.iload_n 1, 1) := by sorry
theorem dX2_nextToPlace_39 : decode cX2_nextToPlace 39 = .ok (.iload 4, 2) := by sorry
theorem dX2_nextToPlace_41 : decode cX2_nextToPlace 41 = .ok (.invokestatic 36, 3) := by sorry
theorem dX2_nextToPlace_44 : decode cX2_nextToPlace 44 = .ok (.ifCond .eq 15, 3) := by sorry
theorem dX2_nextToPlace_47 : decode cX2_nextToPlace 47 = .ok (.iload 5, 2) := by sorry
theorem dX2_nextToPlace_49 : decode cX2_nextToPlace 49 = .ok (.iload_n 3, 1) := by sorry
theorem dX2_nextToPlace_50 : decode cX2_nextToPlace 50 = .ok (.if_icmp .le 9, 3) := by sorry
theorem dX2_nextToPlace_53 : decode cX2_nextToPlace 53 = .ok (.iload 5, 2) := by sorry
theorem dX2_nextToPlace_55 : decode cX2_nextToPlace 55 = .ok (.istore_n 3, 1) := by sorry
theorem dX2_nextToPlace_56 : decode cX2_nextToPlace 56 = .ok (.iload 4, 2) := by sorry
theorem dX2_nextToPlace_58 : decode cX2_nextToPlace 58 = .ok (.istore_n 2, 1) := by sorry
theorem dX2_nextToPlace_59 : decode cX2_nextToPlace 59 = .ok (.iinc 4 1, 3) := by sorry
theorem dX2_nextToPlace_62 : decode cX2_nextToPlace 62 = .ok (.goto (-55), 3) := by sorry
theorem dX2_nextToPlace_65 : decode cX2_nextToPlace 65 = .ok (.iload_n 2, 1) := by sorry
theorem dX2_nextToPlace_66 : decode cX2_nextToPlace 66 = .ok (.ireturn, 1) := by sorry
theorem ggX2_fitting_X3_nearOf : GoodIn wsX2_fitting wsX3_nearOf := by sorry
theorem gX2_fitting_X3_nearOf_n89 : GoodIn wsX2_fitting (wsX3_nearOf) := by sorry
theorem ggX2_fitting_J6_bitCount_0f7a4 : GoodIn wsX2_fitting wsJ6_bitCount_0f7a4 := by sorry
theorem gX2_fitting_J6_bitCount_0f7a4 : GoodIn wsX2_fitting (va_wsS RX2 70 yJ6_bitCount_0f7a4 wsJ6_bitCount_0f7a4) := by sorry
theorem ggX2_fitting_X6_holds : GoodIn wsX2_fitting wsX6_holds := by sorry
theorem gX2_fitting_X6_holds_n36 : GoodIn wsX2_fitting (wsX6_holds) := by sorry
theorem ggX2_fitting_X6_bit : GoodIn wsX2_fitting wsX6_bit := by sorry
theorem gX2_fitting_X6_bit_n63 : GoodIn wsX2_fitting (wsX6_bit) := by sorry
theorem dX2_fitting_0 : decode cX2_fitting 0 = .ok (.aload_n 0, 1) := by sorry
theorem dX2_fitting_1 : decode cX2_fitting 1 = .ok (.getfield 12, 3) := by sorry
theorem dX2_fitting_4 : decode cX2_fitting 4 = .ok (.iload_n 1, 1) := by sorry
theorem dX2_fitting_5 : decode cX2_fitting 5 = .ok (.invokevirtual 89, 3) := by sorry
theorem dX2_fitting_8 : decode cX2_fitting 8 = .ok (.istore_n 3, 1) := by sorry
theorem dX2_fitting_9 : decode cX2_fitting 9 = .ok (.iload_n 3, 1) := by sorry
theorem dX2_fitting_10 : decode cX2_fitting 10 = .ok (.invokestatic 70, 3) := by sorry
theorem dX2_fitting_13 : decode cX2_fitting 13 = .ok (.istore 4, 2) := by sorry
theorem dX2_fitting_15 : decode cX2_fitting 15 = .ok (.iconst 0, 1) := by sorry
theorem dX2_fitting_16 : decode cX2_fitting 16 = .ok (.istore 5, 2) := by sorry
theorem dX2_fitting_18 : decode cX2_fitting 18 = .ok (.iconst 0, 1) := by sorry
theorem dX2_fitting_19 : decode cX2_fitting 19 = .ok (.istore 6, 2) := by sorry
theorem dX2_fitting_21 : decode cX2_fitting 21 = .ok (.iload 6, 2) := by sorry
theorem dX2_fitting_23 : decode cX2_fitting 23 = .ok (.aload_n 0, 1) := by sorry
theorem dX2_fitting_24 : decode cX2_fitting 24 = .ok (.getfield 18, 3) := by sorry
theorem dX2_fitting_27 : decode cX2_fitting 27 = .ok (.getfield 29, 3) := by sorry
theorem dX2_fitting_30 : decode cX2_fitting 30 = .ok (.if_icmp .ge 45, 3) := by sorry
theorem dX2_fitting_33 : decode cX2_fitting 33 = .ok (.iload_n 2, 1) := by sorry
theorem dX2_fitting_34 : decode cX2_fitting 34 = .ok (.iload 6, 2) := by sorry
theorem dX2_fitting_36 : decode cX2_fitting 36 = .ok (.invokestatic 36, 3) := by sorry
theorem dX2_fitting_39 : decode cX2_fitting 39 = .ok (.ifCond .eq 30, 3) := by sorry
theorem dX2_fitting_42 : decode cX2_fitting 42 = .ok (.aload_n 0, 1) := by sorry
theorem dX2_fitting_43 : decode cX2_fitting 43 = .ok (.getfield 18, 3) := by sorry
theorem dX2_fitting_46 : decode cX2_fitting 46 = .ok (.iload 6, 2) := by sorry
theorem dX2_fitting_48 : decode cX2_fitting 48 = .ok (.invokevirtual 89, 3) := by sorry
theorem dX2_fitting_51 : decode cX2_fitting 51 = .ok (.invokestatic 70, 3) := by sorry
theorem dX2_fitting_54 : decode cX2_fitting 54 = .ok (.iload 4, 2) := by sorry
theorem dX2_fitting_56 : decode cX2_fitting 56 = .ok (.if_icmp .ne 13, 3) := by sorry
theorem dX2_fitting_59 : decode cX2_fitting 59 = .ok (.iload 5, 2) := by sorry
theorem dX2_fitting_61 : decode cX2_fitting 61 = .ok (.iload 6, 2) := by sorry
theorem dX2_fitting_63 : decode cX2_fitting 63 = .ok (.invokestatic 63, 3) := by sorry
theorem dX2_fitting_66 : decode cX2_fitting 66 = .ok (.ior, 1) := by sorry
theorem dX2_fitting_67 : decode cX2_fitting 67 = .ok (.istore 5, 2) := by sorry
theorem dX2_fitting_69 : decode cX2_fitting 69 = .ok (.iinc 6 1, 3) := by sorry
theorem dX2_fitting_72 : decode cX2_fitting 72 = .ok (.goto (-51), 3) := by sorry
theorem dX2_fitting_75 : decode cX2_fitting 75 = .ok (.iconst 0, 1) := by sorry
theorem dX2_fitting_76 : decode cX2_fitting 76 = .ok (.istore 6, 2) := by sorry
theorem dX2_fitting_78 : decode cX2_fitting 78 = .ok (.iload 6, 2) := by sorry
theorem dX2_fitting_80 : decode cX2_fitting 80 = .ok (.aload_n 0, 1) := by sorry
theorem dX2_fitting_81 : decode cX2_fitting 81 = .ok (.getfield 21, 3) := by sorry
theorem dX2_fitting_84 : decode cX2_fitting 84 = .ok (.arraylength, 1) := by sorry
theorem dX2_fitting_85 : decode cX2_fitting 85 = .ok (.if_icmp .ge 60, 3) := by sorry
theorem dX2_fitting_88 : decode cX2_fitting 88 = .ok (.aload_n 0, 1) := by sorry
theorem dX2_fitting_89 : decode cX2_fitting 89 = .ok (.getfield 25, 3) := by sorry
theorem dX2_fitting_92 : decode cX2_fitting 92 = .ok (.iload 6, 2) := by sorry
theorem dX2_fitting_94 : decode cX2_fitting 94 = .ok (.invokestatic 36, 3) := by sorry
theorem dX2_fitting_97 : decode cX2_fitting 97 = .ok (.ifCond .eq 42, 3) := by sorry
theorem dX2_fitting_100 : decode cX2_fitting 100 = .ok (.aload_n 0, 1) := by sorry
theorem dX2_fitting_101 : decode cX2_fitting 101 = .ok (.getfield 18, 3) := by sorry
theorem dX2_fitting_104 : decode cX2_fitting 104 = .ok (.aload_n 0, 1) := by sorry
theorem dX2_fitting_105 : decode cX2_fitting 105 = .ok (.getfield 21, 3) := by sorry
theorem dX2_fitting_108 : decode cX2_fitting 108 = .ok (.iload 6, 2) := by sorry
theorem dX2_fitting_110 : decode cX2_fitting 110 = .ok (.iaload, 1) := by sorry
theorem dX2_fitting_111 : decode cX2_fitting 111 = .ok (.invokevirtual 89, 3) := by sorry
theorem dX2_fitting_114 : decode cX2_fitting 114 = .ok (.istore 7, 2) := by sorry
theorem dX2_fitting_116 : decode cX2_fitting 116 = .ok (.iload 5, 2) := by sorry
theorem dX2_fitting_118 : decode cX2_fitting 118 = .ok (.iload_n 3, 1) := by sorry
theorem dX2_fitting_119 : decode cX2_fitting 119 = .ok (.iload 6, 2) := by sorry
theorem dX2_fitting_121 : decode cX2_fitting 121 = .ok (.invokestatic 36, 3) := by sorry
theorem dX2_fitting_124 : decode cX2_fitting 124 = .ok (.ifCond .eq 8, 3) := by sorry
theorem dX2_fitting_127 : decode cX2_fitting 127 = .ok (.iload 7, 2) := by sorry
theorem dX2_fitting_129 : decode cX2_fitting 129 = .ok (.goto 7, 3) := by sorry
theorem dX2_fitting_132 : decode cX2_fitting 132 = .ok (.iload 7, 2) := by sorry
theorem dX2_fitting_134 : decode cX2_fitting 134 = .ok (.iconst (-1), 1) := by sorry
theorem dX2_fitting_135 : decode cX2_fitting 135 = .ok (.ixor, 1) := by sorry
theorem dX2_fitting_136 : decode cX2_fitting 136 = .ok (.iand, 1) := by sorry
theorem dX2_fitting_137 : decode cX2_fitting 137 = .ok (.istore 5, 2) := by sorry
theorem dX2_fitting_139 : decode cX2_fitting 139 = .ok (.iinc 6 1, 3) := by sorry
theorem dX2_fitting_142 : decode cX2_fitting 142 = .ok (.goto (-64), 3) := by sorry
theorem dX2_fitting_145 : decode cX2_fitting 145 = .ok (.iload 5, 2) := by sorry
theorem dX2_fitting_147 : decode cX2_fitting 147 = .ok (.ireturn, 1) := by sorry
theorem dX3_init_0 : decode cX3_init 0 = .ok (.aload_n 0, 1) := by sorry
theorem dX3_init_1 : decode cX3_init 1 = .ok (.invokespecial 3, 3) := by sorry
theorem dX3_init_4 : decode cX3_init 4 = .ok (.aload_n 0, 1) := by sorry
theorem dX3_init_5 : decode cX3_init 5 = .ok (.bipush 16, 2) := by sorry
theorem dX3_init_7 : decode cX3_init 7 = .ok (.newarray .int, 2) := by sorry
theorem dX3_init_9 : decode cX3_init 9 = .ok (.putfield 9, 3) := by sorry
theorem dX3_init_12 : decode cX3_init 12 = .ok (.aload_n 0, 1) := by sorry
theorem dX3_init_13 : decode cX3_init 13 = .ok (.iconst 0, 1) := by sorry
theorem dX3_init_14 : decode cX3_init 14 = .ok (.putfield 15, 3) := by sorry
theorem dX3_init_17 : decode cX3_init 17 = .ok (.return_, 1) := by sorry
theorem dX3_lay_0 : decode cX3_lay 0 = .ok (.aload_n 0, 1) := by sorry
theorem dX3_lay_1 : decode cX3_lay 1 = .ok (.iload_n 1, 1) := by sorry
theorem dX3_lay_2 : decode cX3_lay 2 = .ok (.putfield 15, 3) := by sorry
theorem dX3_lay_5 : decode cX3_lay 5 = .ok (.iconst 0, 1) := by sorry
theorem dX3_lay_6 : decode cX3_lay 6 = .ok (.istore_n 2, 1) := by sorry
theorem dX3_lay_7 : decode cX3_lay 7 = .ok (.iload_n 2, 1) := by sorry
theorem dX3_lay_8 : decode cX3_lay 8 = .ok (.aload_n 0, 1) := by sorry
theorem dX3_lay_9 : decode cX3_lay 9 = .ok (.getfield 9, 3) := by sorry
theorem dX3_lay_12 : decode cX3_lay 12 = .ok (.arraylength, 1) := by sorry
theorem dX3_lay_13 : decode cX3_lay 13 = .ok (.if_icmp .ge 16, 3) := by sorry
theorem dX3_lay_16 : decode cX3_lay 16 = .ok (.aload_n 0, 1) := by sorry
theorem dX3_lay_17 : decode cX3_lay 17 = .ok (.getfield 9, 3) := by sorry
theorem dX3_lay_20 : decode cX3_lay 20 = .ok (.iload_n 2, 1) := by sorry
theorem dX3_lay_21 : decode cX3_lay 21 = .ok (.iconst 0, 1) := by sorry
theorem dX3_lay_22 : decode cX3_lay 22 = .ok (.iastore, 1) := by sorry
theorem dX3_lay_23 : decode cX3_lay 23 = .ok (.iinc 2 1, 3) := by sorry
theorem dX3_lay_26 : decode cX3_lay 26 = .ok (.goto (-19), 3) := by sorry
theorem dX3_lay_29 : decode cX3_lay 29 = .ok (.return_, 1) := by sorry
theorem ggX3_take_X3_nearOf : GoodIn wsX3_take wsX3_nearOf := by sorry
theorem gX3_take_X3_nearOf : GoodIn wsX3_take (wsV RX3 19 RX3 yX3_nearOf wsX3_nearOf) := by sorry
theorem dX3_take_0 : decode cX3_take 0 = .ok (.aload_n 0, 1) := by sorry
theorem dX3_take_1 : decode cX3_take 1 = .ok (.aload_n 1, 1) := by sorry
theorem dX3_take_2 : decode cX3_take 2 = .ok (.getfield 15, 3) := by sorry
theorem dX3_take_5 : decode cX3_take 5 = .ok (.putfield 15, 3) := by sorry
theorem dX3_take_8 : decode cX3_take 8 = .ok (.iconst 0, 1) := by sorry
theorem dX3_take_9 : decode cX3_take 9 = .ok (.istore_n 2, 1) := by sorry
theorem dX3_take_10 : decode cX3_take 10 = .ok (.iload_n 2, 1) := by sorry
theorem dX3_take_11 : decode cX3_take 11 = .ok (.aload_n 0, 1) := by sorry
theorem dX3_take_12 : decode cX3_take 12 = .ok (.getfield 9, 3) := by sorry
theorem dX3_take_15 : decode cX3_take 15 = .ok (.arraylength, 1) := by sorry
theorem dX3_take_16 : decode cX3_take 16 = .ok (.if_icmp .ge 20, 3) := by sorry
theorem dX3_take_19 : decode cX3_take 19 = .ok (.aload_n 0, 1) := by sorry
theorem dX3_take_20 : decode cX3_take 20 = .ok (.getfield 9, 3) := by sorry
theorem dX3_take_23 : decode cX3_take 23 = .ok (.iload_n 2, 1) := by sorry
theorem dX3_take_24 : decode cX3_take 24 = .ok (.aload_n 1, 1) := by sorry
theorem dX3_take_25 : decode cX3_take 25 = .ok (.iload_n 2, 1) := by sorry
theorem dX3_take_26 : decode cX3_take 26 = .ok (.invokevirtual 19, 3) := by sorry
theorem dX3_take_29 : decode cX3_take 29 = .ok (.iastore, 1) := by sorry
theorem dX3_take_30 : decode cX3_take 30 = .ok (.iinc 2 1, 3) := by sorry
theorem dX3_take_33 : decode cX3_take 33 = .ok (.goto (-23), 3) := by sorry
theorem dX3_take_36 : decode cX3_take 36 = .ok (.return_, 1) := by sorry
theorem dX3_isKnot_0 : decode cX3_isKnot 0 = .ok (.iload_n 1, 1) := by sorry
theorem dX3_isKnot_1 : decode cX3_isKnot 1 = .ok (.ifCond .lt 24, 3) := by sorry
theorem dX3_isKnot_4 : decode cX3_isKnot 4 = .ok (.iload_n 1, 1) := by sorry
theorem dX3_isKnot_5 : decode cX3_isKnot 5 = .ok (.aload_n 0, 1) := by sorry
theorem dX3_isKnot_6 : decode cX3_isKnot 6 = .ok (.getfield 15, 3) := by sorry
theorem dX3_isKnot_9 : decode cX3_isKnot 9 = .ok (.if_icmp .ge 16, 3) := by sorry
theorem dX3_isKnot_12 : decode cX3_isKnot 12 = .ok (.iload_n 1, 1) := by sorry
theorem dX3_isKnot_13 : decode cX3_isKnot 13 = .ok (.aload_n 0, 1) := by sorry
theorem dX3_isKnot_14 : decode cX3_isKnot 14 = .ok (.getfield 9, 3) := by sorry
theorem dX3_isKnot_17 : decode cX3_isKnot 17 = .ok (.arraylength, 1) := by sorry
theorem dX3_isKnot_18 : decode cX3_isKnot 18 = .ok (.if_icmp .ge 7, 3) := by sorry
theorem dX3_isKnot_21 : decode cX3_isKnot 21 = .ok (.iconst 1, 1) := by sorry
theorem dX3_isKnot_22 : decode cX3_isKnot 22 = .ok (.goto 4, 3) := by sorry
theorem dX3_isKnot_25 : decode cX3_isKnot 25 = .ok (.iconst 0, 1) := by sorry
theorem dX3_isKnot_26 : decode cX3_isKnot 26 = .ok (.ireturn, 1) := by sorry
theorem dX3_nearOf_0 : decode cX3_nearOf 0 = .ok (.iload_n 1, 1) := by sorry
theorem dX3_nearOf_1 : decode cX3_nearOf 1 = .ok (.ifCond .lt 21, 3) := by sorry
theorem dX3_nearOf_4 : decode cX3_nearOf 4 = .ok (.iload_n 1, 1) := by sorry
theorem dX3_nearOf_5 : decode cX3_nearOf 5 = .ok (.aload_n 0, 1) := by sorry
theorem dX3_nearOf_6 : decode cX3_nearOf 6 = .ok (.getfield 9, 3) := by sorry
theorem dX3_nearOf_9 : decode cX3_nearOf 9 = .ok (.arraylength, 1) := by sorry
theorem dX3_nearOf_10 : decode cX3_nearOf 10 = .ok (.if_icmp .ge 12, 3) := by sorry
theorem dX3_nearOf_13 : decode cX3_nearOf 13 = .ok (.aload_n 0, 1) := by sorry
theorem dX3_nearOf_14 : decode cX3_nearOf 14 = .ok (.getfield 9, 3) := by sorry
theorem dX3_nearOf_17 : decode cX3_nearOf 17 = .ok (.iload_n 1, 1) := by sorry
theorem dX3_nearOf_18 : decode cX3_nearOf 18 = .ok (.iaload, 1) := by sorry
theorem dX3_nearOf_19 : decode cX3_nearOf 19 = .ok (.goto 4, 3) := by sorry
theorem dX3_nearOf_22 : decode cX3_nearOf 22 = .ok (.iconst 0, 1) := by sorry
theorem dX3_nearOf_23 : decode cX3_nearOf 23 = .ok (.ireturn, 1) := by sorry
theorem ggX3_isNear_X3_nearOf : GoodIn wsX3_isNear wsX3_nearOf := by sorry
theorem gX3_isNear_X3_nearOf : GoodIn wsX3_isNear (wsV RX3 19 RX3 yX3_nearOf wsX3_nearOf) := by sorry
theorem ggX3_isNear_X6_holds : GoodIn wsX3_isNear wsX6_holds := by sorry
theorem gX3_isNear_X6_holds_n23 : GoodIn wsX3_isNear (wsX6_holds) := by sorry
theorem dX3_isNear_0 : decode cX3_isNear 0 = .ok (.aload_n 0, 1) := by sorry
theorem dX3_isNear_1 : decode cX3_isNear 1 = .ok (.iload_n 1, 1) := by sorry
theorem dX3_isNear_2 : decode cX3_isNear 2 = .ok (.invokevirtual 19, 3) := by sorry
theorem dX3_isNear_5 : decode cX3_isNear 5 = .ok (.iload_n 2, 1) := by sorry
theorem dX3_isNear_6 : decode cX3_isNear 6 = .ok (.invokestatic 23, 3) := by sorry
theorem dX3_isNear_9 : decode cX3_isNear 9 = .ok (.ireturn, 1) := by sorry
theorem ggX3_countOf_X3_nearOf : GoodIn wsX3_countOf wsX3_nearOf := by sorry
theorem gX3_countOf_X3_nearOf : GoodIn wsX3_countOf (wsV RX3 19 RX3 yX3_nearOf wsX3_nearOf) := by sorry
theorem ggX3_countOf_J6_bitCount_0f7a4 : GoodIn wsX3_countOf wsJ6_bitCount_0f7a4 := by sorry
theorem gX3_countOf_J6_bitCount_0f7a4 : GoodIn wsX3_countOf (va_wsS RX3 27 yJ6_bitCount_0f7a4 wsJ6_bitCount_0f7a4) := by sorry
theorem dX3_countOf_0 : decode cX3_countOf 0 = .ok (.aload_n 0, 1) := by sorry
theorem dX3_countOf_1 : decode cX3_countOf 1 = .ok (.iload_n 1, 1) := by sorry
theorem dX3_countOf_2 : decode cX3_countOf 2 = .ok (.invokevirtual 19, 3) := by sorry
theorem dX3_countOf_5 : decode cX3_countOf 5 = .ok (.invokestatic 27, 3) := by sorry
theorem dX3_countOf_8 : decode cX3_countOf 8 = .ok (.ireturn, 1) := by sorry
theorem ggX3_join_X3_isKnot : GoodIn wsX3_join wsX3_isKnot := by sorry
theorem gX3_join_X3_isKnot : GoodIn wsX3_join (wsV RX3 32 RX3 yX3_isKnot wsX3_isKnot) := by sorry
theorem ggX3_join_X6_bit : GoodIn wsX3_join wsX6_bit := by sorry
theorem gX3_join_X6_bit_n36 : GoodIn wsX3_join (wsX6_bit) := by sorry
theorem dX3_join_0 : decode cX3_join 0 = .ok (.aload_n 0, 1) := by sorry
theorem dX3_join_1 : decode cX3_join 1 = .ok (.iload_n 1, 1) := by sorry
theorem dX3_join_2 : decode cX3_join 2 = .ok (.invokevirtual 32, 3) := by sorry
theorem dX3_join_5 : decode cX3_join 5 = .ok (.ifCond .eq 42, 3) := by sorry
theorem dX3_join_8 : decode cX3_join 8 = .ok (.aload_n 0, 1) := by sorry
theorem dX3_join_9 : decode cX3_join 9 = .ok (.iload_n 2, 1) := by sorry
theorem dX3_join_10 : decode cX3_join 10 = .ok (.invokevirtual 32, 3) := by sorry
theorem dX3_join_13 : decode cX3_join 13 = .ok (.ifCond .eq 34, 3) := by sorry
theorem dX3_join_16 : decode cX3_join 16 = .ok (.iload_n 1, 1) := by sorry
theorem dX3_join_17 : decode cX3_join 17 = .ok (.iload_n 2, 1) := by sorry
theorem dX3_join_18 : decode cX3_join 18 = .ok (.if_icmp .eq 29, 3) := by sorry
theorem dX3_join_21 : decode cX3_join 21 = .ok (.aload_n 0, 1) := by sorry
theorem dX3_join_22 : decode cX3_join 22 = .ok (.getfield 9, 3) := by sorry
theorem dX3_join_25 : decode cX3_join 25 = .ok (.iload_n 1, 1) := by sorry
theorem dX3_join_26 : decode cX3_join 26 = .ok (.dup2, 1) := by sorry
theorem dX3_join_27 : decode cX3_join 27 = .ok (.iaload, 1) := by sorry
theorem dX3_join_28 : decode cX3_join 28 = .ok (.iload_n 2, 1) := by sorry
theorem dX3_join_29 : decode cX3_join 29 = .ok (.invokestatic 36, 3) := by sorry
theorem dX3_join_32 : decode cX3_join 32 = .ok (.ior, 1) := by sorry
theorem dX3_join_33 : decode cX3_join 33 = .ok (.iastore, 1) := by sorry
theorem dX3_join_34 : decode cX3_join 34 = .ok (.aload_n 0, 1) := by sorry
theorem dX3_join_35 : decode cX3_join 35 = .ok (.getfield 9, 3) := by sorry
theorem dX3_join_38 : decode cX3_join 38 = .ok (.iload_n 2, 1) := by sorry
theorem dX3_join_39 : decode cX3_join 39 = .ok (.dup2, 1) := by sorry
theorem dX3_join_40 : decode cX3_join 40 = .ok (.iaload, 1) := by sorry
theorem dX3_join_41 : decode cX3_join 41 = .ok (.iload_n 1, 1) := by sorry
theorem dX3_join_42 : decode cX3_join 42 = .ok (.invokestatic 36, 3) := by sorry
theorem dX3_join_45 : decode cX3_join 45 = .ok (.ior, 1) := by sorry
theorem dX3_join_46 : decode cX3_join 46 = .ok (.iastore, 1) := by sorry
theorem dX3_join_47 : decode cX3_join 47 = .ok (.return_, 1) := by sorry
theorem ggX3_loosen_X3_isKnot : GoodIn wsX3_loosen wsX3_isKnot := by sorry
theorem gX3_loosen_X3_isKnot : GoodIn wsX3_loosen (wsV RX3 32 RX3 yX3_isKnot wsX3_isKnot) := by sorry
theorem ggX3_loosen_X6_bit : GoodIn wsX3_loosen wsX6_bit := by sorry
theorem gX3_loosen_X6_bit_n36 : GoodIn wsX3_loosen (wsX6_bit) := by sorry
theorem dX3_loosen_0 : decode cX3_loosen 0 = .ok (.aload_n 0, 1) := by sorry
theorem dX3_loosen_1 : decode cX3_loosen 1 = .ok (.iload_n 1, 1) := by sorry
theorem dX3_loosen_2 : decode cX3_loosen 2 = .ok (.invokevirtual 32, 3) := by sorry
theorem dX3_loosen_5 : decode cX3_loosen 5 = .ok (.ifCond .eq 41, 3) := by sorry
theorem dX3_loosen_8 : decode cX3_loosen 8 = .ok (.aload_n 0, 1) := by sorry
theorem dX3_loosen_9 : decode cX3_loosen 9 = .ok (.iload_n 2, 1) := by sorry
theorem dX3_loosen_10 : decode cX3_loosen 10 = .ok (.invokevirtual 32, 3) := by sorry
theorem dX3_loosen_13 : decode cX3_loosen 13 = .ok (.ifCond .eq 33, 3) := by sorry
theorem dX3_loosen_16 : decode cX3_loosen 16 = .ok (.aload_n 0, 1) := by sorry
theorem dX3_loosen_17 : decode cX3_loosen 17 = .ok (.getfield 9, 3) := by sorry
theorem dX3_loosen_20 : decode cX3_loosen 20 = .ok (.iload_n 1, 1) := by sorry
theorem dX3_loosen_21 : decode cX3_loosen 21 = .ok (.dup2, 1) := by sorry
theorem dX3_loosen_22 : decode cX3_loosen 22 = .ok (.iaload, 1) := by sorry
theorem dX3_loosen_23 : decode cX3_loosen 23 = .ok (.iload_n 2, 1) := by sorry
theorem dX3_loosen_24 : decode cX3_loosen 24 = .ok (.invokestatic 36, 3) := by sorry
theorem dX3_loosen_27 : decode cX3_loosen 27 = .ok (.iconst (-1), 1) := by sorry
theorem dX3_loosen_28 : decode cX3_loosen 28 = .ok (.ixor, 1) := by sorry
theorem dX3_loosen_29 : decode cX3_loosen 29 = .ok (.iand, 1) := by sorry
theorem dX3_loosen_30 : decode cX3_loosen 30 = .ok (.iastore, 1) := by sorry
theorem dX3_loosen_31 : decode cX3_loosen 31 = .ok (.aload_n 0, 1) := by sorry
theorem dX3_loosen_32 : decode cX3_loosen 32 = .ok (.getfield 9, 3) := by sorry
theorem dX3_loosen_35 : decode cX3_loosen 35 = .ok (.iload_n 2, 1) := by sorry
theorem dX3_loosen_36 : decode cX3_loosen 36 = .ok (.dup2, 1) := by sorry
theorem dX3_loosen_37 : decode cX3_loosen 37 = .ok (.iaload, 1) := by sorry
theorem dX3_loosen_38 : decode cX3_loosen 38 = .ok (.iload_n 1, 1) := by sorry
theorem dX3_loosen_39 : decode cX3_loosen 39 = .ok (.invokestatic 36, 3) := by sorry
theorem dX3_loosen_42 : decode cX3_loosen 42 = .ok (.iconst (-1), 1) := by sorry
theorem dX3_loosen_43 : decode cX3_loosen 43 = .ok (.ixor, 1) := by sorry
theorem dX3_loosen_44 : decode cX3_loosen 44 = .ok (.iand, 1) := by sorry
theorem dX3_loosen_45 : decode cX3_loosen 45 = .ok (.iastore, 1) := by sorry
theorem dX3_loosen_46 : decode cX3_loosen 46 = .ok (.return_, 1) := by sorry
theorem ggX3_edgesInAll_X3_countOf : GoodIn wsX3_edgesInAll wsX3_countOf := by sorry
theorem gX3_edgesInAll_X3_countOf : GoodIn wsX3_edgesInAll (wsV RX3 39 RX3 yX3_countOf wsX3_countOf) := by sorry
end
section
theorem dX3_edgesInAll_0 : decode cX3_edgesInAll 0 = .ok (.iconst 0, 1) := by sorry
theorem dX3_edgesInAll_1 : decode cX3_edgesInAll 1 = .ok (.istore_n 1, 1) := by sorry
theorem dX3_edgesInAll_2 : decode cX3_edgesInAll 2 = .ok (.iconst 0, 1) := by sorry
theorem dX3_edgesInAll_3 : decode cX3_edgesInAll 3 = .ok (.istore_n 2, 1) := by sorry
theorem dX3_edgesInAll_4 : decode cX3_edgesInAll 4 = .ok (.iload_n 2, 1) := by sorry
theorem dX3_edgesInAll_5 : decode cX3_edgesInAll 5 = .ok (.aload_n 0, 1) := by sorry
theorem dX3_edgesInAll_6 : decode cX3_edgesInAll 6 = .ok (.getfield 15, 3) := by sorry
theorem dX3_edgesInAll_9 : decode cX3_edgesInAll 9 = .ok (.if_icmp .ge 17, 3) := by sorry
theorem dX3_edgesInAll_12 : decode cX3_edgesInAll 12 = .ok (.iload_n 1, 1) := by sorry
theorem dX3_edgesInAll_13 : decode cX3_edgesInAll 13 = .ok (.aload_n 0, 1) := by sorry
theorem dX3_edgesInAll_14 : decode cX3_edgesInAll 14 = .ok (.iload_n 2, 1) := by sorry
theorem dX3_edgesInAll_15 : decode cX3_edgesInAll 15 = .ok (.invokevirtual 39, 3) := by sorry
theorem dX3_edgesInAll_18 : decode cX3_edgesInAll 18 = .ok (.iadd, 1) := by sorry
theorem dX3_edgesInAll_19 : decode cX3_edgesInAll 19 = .ok (.istore_n 1, 1) := by sorry
theorem dX3_edgesInAll_20 : decode cX3_edgesInAll 20 = .ok (.iinc 2 1, 3) := by sorry
theorem dX3_edgesInAll_23 : decode cX3_edgesInAll 23 = .ok (.goto (-19), 3) := by sorry
theorem dX3_edgesInAll_26 : decode cX3_edgesInAll 26 = .ok (.iload_n 1, 1) := by sorry
theorem dX3_edgesInAll_27 : decode cX3_edgesInAll 27 = .ok (.iconst 2, 1) := by sorry
theorem dX3_edgesInAll_28 : decode cX3_edgesInAll 28 = .ok (.idiv, 1) := by sorry
theorem dX3_edgesInAll_29 : decode cX3_edgesInAll 29 = .ok (.ireturn, 1) := by sorry
theorem ggX3_edgeAt_X3_nearOf : GoodIn wsX3_edgeAt wsX3_nearOf := by sorry
theorem gX3_edgeAt_X3_nearOf : GoodIn wsX3_edgeAt (wsV RX3 19 RX3 yX3_nearOf wsX3_nearOf) := by sorry
theorem ggX3_edgeAt_X6_bit : GoodIn wsX3_edgeAt wsX6_bit := by sorry
theorem gX3_edgeAt_X6_bit_n36 : GoodIn wsX3_edgeAt (wsX6_bit) := by sorry
theorem ggX3_edgeAt_J6_bitCount_0f7a4 : GoodIn wsX3_edgeAt wsJ6_bitCount_0f7a4 := by sorry
theorem gX3_edgeAt_J6_bitCount_0f7a4 : GoodIn wsX3_edgeAt (va_wsS RX3 27 yJ6_bitCount_0f7a4 wsJ6_bitCount_0f7a4) := by sorry
theorem ggX3_edgeAt_X3_numberedIn : GoodIn wsX3_edgeAt wsX3_numberedIn := by sorry
theorem gX3_edgeAt_X3_numberedIn : GoodIn wsX3_edgeAt (va_wsS RX3 42 yX3_numberedIn wsX3_numberedIn) := by sorry
theorem ggX3_edgeAt_X6_pairOf : GoodIn wsX3_edgeAt wsX6_pairOf := by sorry
theorem gX3_edgeAt_X6_pairOf_n46 : GoodIn wsX3_edgeAt (wsX6_pairOf) := by sorry
theorem dX3_edgeAt_0 : decode cX3_edgeAt 0 = .ok (.iload_n 1, 1) := by sorry
theorem dX3_edgeAt_1 : decode cX3_edgeAt 1 = .ok (.istore_n 2, 1) := by sorry
theorem dX3_edgeAt_2 : decode cX3_edgeAt 2 = .ok (.iconst 0, 1) := by sorry
theorem dX3_edgeAt_3 : decode cX3_edgeAt 3 = .ok (.istore_n 3, 1) := by sorry
theorem dX3_edgeAt_4 : decode cX3_edgeAt 4 = .ok (.iload_n 3, 1) := by sorry
theorem dX3_edgeAt_5 : decode cX3_edgeAt 5 = .ok (.aload_n 0, 1) := by sorry
theorem dX3_edgeAt_6 : decode cX3_edgeAt 6 = .ok (.getfield 15, 3) := by sorry
theorem dX3_edgeAt_9 : decode cX3_edgeAt 9 = .ok (.if_icmp .ge 60, 3) := by sorry
theorem dX3_edgeAt_12 : decode cX3_edgeAt 12 = .ok (.iload_n 2, 1) := by sorry
theorem dX3_edgeAt_13 : decode cX3_edgeAt 13 = .ok (.ifCond .lt 56, 3) := by sorry
theorem dX3_edgeAt_16 : decode cX3_edgeAt 16 = .ok (.aload_n 0, 1) := by sorry
theorem dX3_edgeAt_17 : decode cX3_edgeAt 17 = .ok (.iload_n 3, 1) := by sorry
theorem dX3_edgeAt_18 : decode cX3_edgeAt 18 = .ok (.invokevirtual 19, 3) := by sorry
theorem dX3_edgeAt_21 : decode cX3_edgeAt 21 = .ok (.iload_n 3, 1) := by sorry
theorem dX3_edgeAt_22 : decode cX3_edgeAt 22 = .ok (.iconst 1, 1) := by sorry
theorem dX3_edgeAt_23 : decode cX3_edgeAt 23 = .ok (.iadd, 1) := by sorry
theorem dX3_edgeAt_24 : decode cX3_edgeAt 24 = .ok (.invokestatic 36, 3) := by sorry
theorem dX3_edgeAt_27 : decode cX3_edgeAt 27 = .ok (.iconst 1, 1) := by sorry
theorem dX3_edgeAt_28 : decode cX3_edgeAt 28 = .ok (.isub, 1) := by sorry
theorem dX3_edgeAt_29 : decode cX3_edgeAt 29 = .ok (.iconst (-1), 1) := by sorry
theorem dX3_edgeAt_30 : decode cX3_edgeAt 30 = .ok (.ixor, 1) := by sorry
theorem dX3_edgeAt_31 : decode cX3_edgeAt 31 = .ok (.iand, 1) := by sorry
theorem dX3_edgeAt_32 : decode cX3_edgeAt 32 = .ok (.istore 4, 2) := by sorry
theorem dX3_edgeAt_34 : decode cX3_edgeAt 34 = .ok (.iload 4, 2) := by sorry
theorem dX3_edgeAt_36 : decode cX3_edgeAt 36 = .ok (.invokestatic 27, 3) := by sorry
theorem dX3_edgeAt_39 : decode cX3_edgeAt 39 = .ok (.istore 5, 2) := by sorry
theorem dX3_edgeAt_41 : decode cX3_edgeAt 41 = .ok (.iload_n 2, 1) := by sorry
theorem dX3_edgeAt_42 : decode cX3_edgeAt 42 = .ok (.iload 5, 2) := by sorry
theorem dX3_edgeAt_44 : decode cX3_edgeAt 44 = .ok (.if_icmp .ge 14, 3) := by sorry
theorem dX3_edgeAt_47 : decode cX3_edgeAt 47 = .ok (.iload_n 3, 1) := by sorry
theorem dX3_edgeAt_48 : decode cX3_edgeAt 48 = .ok (.iload 4, 2) := by sorry
theorem dX3_edgeAt_50 : decode cX3_edgeAt 50 = .ok (.iload_n 2, 1) := by sorry
theorem dX3_edgeAt_51 : decode cX3_edgeAt 51 = .ok (.invokestatic 42, 3) := by sorry
theorem dX3_edgeAt_54 : decode cX3_edgeAt 54 = .ok (.invokestatic 46, 3) := by sorry
theorem dX3_edgeAt_57 : decode cX3_edgeAt 57 = .ok (.ireturn, 1) := by sorry
theorem dX3_edgeAt_58 : decode cX3_edgeAt 58 = .ok (.iload_n 2, 1) := by sorry
theorem dX3_edgeAt_59 : decode cX3_edgeAt 59 = .ok (.iload 5, 2) := by sorry
theorem dX3_edgeAt_61 : decode cX3_edgeAt 61 = .ok (.isub, 1) := by sorry
theorem dX3_edgeAt_62 : decode cX3_edgeAt 62 = .ok (.istore_n 2, 1) := by sorry
theorem dX3_edgeAt_63 : decode cX3_edgeAt 63 = .ok (.iinc 3 1, 3) := by sorry
theorem dX3_edgeAt_66 : decode cX3_edgeAt 66 = .ok (.goto (-62), 3) := by sorry
theorem dX3_edgeAt_69 : decode cX3_edgeAt 69 = .ok (.iconst (-1), 1) := by sorry
theorem dX3_edgeAt_70 : decode cX3_edgeAt 70 = .ok (.ireturn, 1) := by sorry
theorem ggX3_numberedIn_X6_firstOf : GoodIn wsX3_numberedIn wsX6_firstOf := by sorry
theorem gX3_numberedIn_X6_firstOf_n49 : GoodIn wsX3_numberedIn (wsX6_firstOf) := by sorry
theorem dX3_numberedIn_0 : decode cX3_numberedIn 0 = .ok (.iload_n 0, 1) := by sorry
theorem dX3_numberedIn_1 : decode cX3_numberedIn 1 = .ok (.istore_n 2, 1) := by sorry
theorem dX3_numberedIn_2 : decode cX3_numberedIn 2 = .ok (.iconst 0, 1) := by sorry
theorem dX3_numberedIn_3 : decode cX3_numberedIn 3 = .ok (.istore_n 3, 1) := by sorry
theorem dX3_numberedIn_4 : decode cX3_numberedIn 4 = .ok (.iload_n 3, 1) := by sorry
theorem dX3_numberedIn_5 : decode cX3_numberedIn 5 = .ok (.iload_n 1, 1) := by sorry
theorem dX3_numberedIn_6 : decode cX3_numberedIn 6 = .ok (.if_icmp .ge 15, 3) := by sorry
theorem dX3_numberedIn_9 : decode cX3_numberedIn 9 = .ok (.iload_n 2, 1) := by sorry
theorem dX3_numberedIn_10 : decode cX3_numberedIn 10 = .ok (.iload_n 2, 1) := by sorry
theorem dX3_numberedIn_11 : decode cX3_numberedIn 11 = .ok (.iconst 1, 1) := by sorry
theorem dX3_numberedIn_12 : decode cX3_numberedIn 12 = .ok (.isub, 1) := by sorry
theorem dX3_numberedIn_13 : decode cX3_numberedIn 13 = .ok (.iand, 1) := by sorry
theorem dX3_numberedIn_14 : decode cX3_numberedIn 14 = .ok (.istore_n 2, 1) := by sorry
theorem dX3_numberedIn_15 : decode cX3_numberedIn 15 = .ok (.iinc 3 1, 3) := by sorry
theorem dX3_numberedIn_18 : decode cX3_numberedIn 18 = .ok (.goto (-14), 3) := by sorry
theorem dX3_numberedIn_21 : decode cX3_numberedIn 21 = .ok (.iload_n 2, 1) := by sorry
theorem dX3_numberedIn_22 : decode cX3_numberedIn 22 = .ok (.invokestatic 49, 3) := by sorry
theorem dX3_numberedIn_25 : decode cX3_numberedIn 25 = .ok (.ireturn, 1) := by sorry
theorem ggX3_evenCount_X3_countOf : GoodIn wsX3_evenCount wsX3_countOf := by sorry
theorem gX3_evenCount_X3_countOf : GoodIn wsX3_evenCount (wsV RX3 39 RX3 yX3_countOf wsX3_countOf) := by sorry
theorem dX3_evenCount_0 : decode cX3_evenCount 0 = .ok (.aload_n 0, 1) := by sorry
theorem dX3_evenCount_1 : decode cX3_evenCount 1 = .ok (.getfield 15, 3) := by sorry
theorem dX3_evenCount_4 : decode cX3_evenCount 4 = .ok (.ifCond .ne 5, 3) := by sorry
theorem dX3_evenCount_7 : decode cX3_evenCount 7 = .ok (.iconst (-1), 1) := by sorry
theorem dX3_evenCount_8 : decode cX3_evenCount 8 = .ok (.ireturn, 1) := by sorry
theorem dX3_evenCount_9 : decode cX3_evenCount 9 = .ok (.aload_n 0, 1) := by sorry
theorem dX3_evenCount_10 : decode cX3_evenCount 10 = .ok (.iconst 0, 1) := by sorry
theorem dX3_evenCount_11 : decode cX3_evenCount 11 = .ok (.invokevirtual 39, 3) := by sorry
theorem dX3_evenCount_14 : decode cX3_evenCount 14 = .ok (.istore_n 1, 1) := by sorry
theorem dX3_evenCount_15 : decode cX3_evenCount 15 = .ok (.iconst 1, 1) := by sorry
theorem dX3_evenCount_16 : decode cX3_evenCount 16 = .ok (.istore_n 2, 1) := by sorry
theorem dX3_evenCount_17 : decode cX3_evenCount 17 = .ok (.iload_n 2, 1) := by sorry
theorem dX3_evenCount_18 : decode cX3_evenCount 18 = .ok (.aload_n 0, 1) := by sorry
theorem dX3_evenCount_19 : decode cX3_evenCount 19 = .ok (.getfield 15, 3) := by sorry
theorem dX3_evenCount_22 : decode cX3_evenCount 22 = .ok (.if_icmp .ge 20, 3) := by sorry
theorem dX3_evenCount_25 : decode cX3_evenCount 25 = .ok (.aload_n 0, 1) := by sorry
theorem dX3_evenCount_26 : decode cX3_evenCount 26 = .ok (.iload_n 2, 1) := by sorry
theorem dX3_evenCount_27 : decode cX3_evenCount 27 = .ok (.invokevirtual 39, 3) := by sorry
theorem dX3_evenCount_30 : decode cX3_evenCount 30 = .ok (.iload_n 1, 1) := by sorry
theorem dX3_evenCount_31 : decode cX3_evenCount 31 = .ok (.if_icmp .eq 5, 3) := by sorry
theorem dX3_evenCount_34 : decode cX3_evenCount 34 = .ok (.iconst (-1), 1) := by sorry
theorem dX3_evenCount_35 : decode cX3_evenCount 35 = .ok (.ireturn, 1) := by sorry
theorem dX3_evenCount_36 : decode cX3_evenCount 36 = .ok (.iinc 2 1, 3) := by sorry
theorem dX3_evenCount_39 : decode cX3_evenCount 39 = .ok (.goto (-22), 3) := by sorry
theorem dX3_evenCount_42 : decode cX3_evenCount 42 = .ok (.iload_n 1, 1) := by sorry
theorem dX3_evenCount_43 : decode cX3_evenCount 43 = .ok (.ireturn, 1) := by sorry
theorem ggX3_loneliest_X3_countOf : GoodIn wsX3_loneliest wsX3_countOf := by sorry
theorem gX3_loneliest_X3_countOf : GoodIn wsX3_loneliest (wsV RX3 39 RX3 yX3_countOf wsX3_countOf) := by sorry
theorem ggX3_loneliest_X6_bit : GoodIn wsX3_loneliest wsX6_bit := by sorry
theorem gX3_loneliest_X6_bit_n36 : GoodIn wsX3_loneliest (wsX6_bit) := by sorry
theorem dX3_loneliest_0 : decode cX3_loneliest 0 = .ok (.iconst 0, 1) := by sorry
theorem dX3_loneliest_1 : decode cX3_loneliest 1 = .ok (.istore_n 1, 1) := by sorry
theorem dX3_loneliest_2 : decode cX3_loneliest 2 = .ok (.bipush 16, 2) := by sorry
theorem dX3_loneliest_4 : decode cX3_loneliest 4 = .ok (.istore_n 2, 1) := by sorry
theorem dX3_loneliest_5 : decode cX3_loneliest 5 = .ok (.iconst 0, 1) := by sorry
theorem dX3_loneliest_6 : decode cX3_loneliest 6 = .ok (.istore_n 3, 1) := by sorry
theorem dX3_loneliest_7 : decode cX3_loneliest 7 = .ok (.iload_n 3, 1) := by sorry
theorem dX3_loneliest_8 : decode cX3_loneliest 8 = .ok (.aload_n 0, 1) := by sorry
theorem dX3_loneliest_9 : decode cX3_loneliest 9 = .ok (.getfield 15, 3) := by sorry
theorem dX3_loneliest_12 : decode cX3_loneliest 12 = .ok (.if_icmp .ge 40, 3) := by sorry
theorem dX3_loneliest_15 : decode cX3_loneliest 15 = .ok (.aload_n 0, 1) := by sorry
theorem dX3_loneliest_16 : decode cX3_loneliest 16 = .ok (.iload_n 3, 1) := by sorry
theorem dX3_loneliest_17 : decode cX3_loneliest 17 = .ok (.invokevirtual 39, 3) := by sorry
theorem dX3_loneliest_20 : decode cX3_loneliest 20 = .ok (.istore 4, 2) := by sorry
theorem dX3_loneliest_22 : decode cX3_loneliest 22 = .ok (.iload 4, 2) := by sorry
theorem dX3_loneliest_24 : decode cX3_loneliest 24 = .ok (.iload_n 2, 1) := by sorry
theorem dX3_loneliest_25 : decode cX3_loneliest 25 = .ok (.if_icmp .ge 8, 3) := by sorry
theorem dX3_loneliest_28 : decode cX3_loneliest 28 = .ok (.iload 4, 2) := by sorry
theorem dX3_loneliest_30 : decode cX3_loneliest 30 = .ok (.istore_n 2, 1) := by sorry
theorem dX3_loneliest_31 : decode cX3_loneliest 31 = .ok (.iconst 0, 1) := by sorry
theorem dX3_loneliest_32 : decode cX3_loneliest 32 = .ok (.istore_n 1, 1) := by sorry
theorem dX3_loneliest_33 : decode cX3_loneliest 33 = .ok (.iload 4, 2) := by sorry
theorem dX3_loneliest_35 : decode cX3_loneliest 35 = .ok (.iload_n 2, 1) := by sorry
theorem dX3_loneliest_36 : decode cX3_loneliest 36 = .ok (.if_icmp .ne 10, 3) := by sorry
theorem dX3_loneliest_39 : decode cX3_loneliest 39 = .ok (.iload_n 1, 1) := by sorry
theorem dX3_loneliest_40 : decode cX3_loneliest 40 = .ok (.iload_n 3, 1) := by sorry
theorem dX3_loneliest_41 : decode cX3_loneliest 41 = .ok (.invokestatic 36, 3) := by sorry
theorem dX3_loneliest_44 : decode cX3_loneliest 44 = .ok (.ior, 1) := by sorry
theorem dX3_loneliest_45 : decode cX3_loneliest 45 = .ok (.istore_n 1, 1) := by sorry
theorem dX3_loneliest_46 : decode cX3_loneliest 46 = .ok (.iinc 3 1, 3) := by sorry
theorem dX3_loneliest_49 : decode cX3_loneliest 49 = .ok (.goto (-42), 3) := by sorry
theorem dX3_loneliest_52 : decode cX3_loneliest 52 = .ok (.iload_n 1, 1) := by sorry
theorem dX3_loneliest_53 : decode cX3_loneliest 53 = .ok (.ireturn, 1) := by sorry
theorem ggX3_isMutual_X3_isNear : GoodIn wsX3_isMutual wsX3_isNear := by sorry
theorem gX3_isMutual_X3_isNear : GoodIn wsX3_isMutual (wsV RX3 52 RX3 yX3_isNear wsX3_isNear) := by sorry
theorem dX3_isMutual_0 : decode cX3_isMutual 0 = .ok (.iconst 0, 1) := by sorry
theorem dX3_isMutual_1 : decode cX3_isMutual 1 = .ok (.istore_n 1, 1) := by sorry
theorem dX3_isMutual_2 : decode cX3_isMutual 2 = .ok (.iload_n 1, 1) := by sorry
theorem dX3_isMutual_3 : decode cX3_isMutual 3 = .ok (.aload_n 0, 1) := by sorry
theorem dX3_isMutual_4 : decode cX3_isMutual 4 = .ok (.getfield 15, 3) := by sorry
theorem dX3_isMutual_7 : decode cX3_isMutual 7 = .ok (.if_icmp .ge 53, 3) := by sorry
theorem dX3_isMutual_10 : decode cX3_isMutual 10 = .ok (.iconst 0, 1) := by sorry
theorem dX3_isMutual_11 : decode cX3_isMutual 11 = .ok (.istore_n 2, 1) := by sorry
theorem dX3_isMutual_12 : decode cX3_isMutual 12 = .ok (.iload_n 2, 1) := by sorry
theorem dX3_isMutual_13 : decode cX3_isMutual 13 = .ok (.aload_n 0, 1) := by sorry
theorem dX3_isMutual_14 : decode cX3_isMutual 14 = .ok (.getfield 15, 3) := by sorry
theorem dX3_isMutual_17 : decode cX3_isMutual 17 = .ok (.if_icmp .ge 37, 3) := by sorry
theorem dX3_isMutual_20 : decode cX3_isMutual 20 = .ok (.aload_n 0, 1) := by sorry
theorem dX3_isMutual_21 : decode cX3_isMutual 21 = .ok (.iload_n 1, 1) := by sorry
theorem dX3_isMutual_22 : decode cX3_isMutual 22 = .ok (.iload_n 2, 1) := by sorry
theorem dX3_isMutual_23 : decode cX3_isMutual 23 = .ok (.invokevirtual 52, 3) := by sorry
theorem dX3_isMutual_26 : decode cX3_isMutual 26 = .ok (.istore_n 3, 1) := by sorry
theorem dX3_isMutual_27 : decode cX3_isMutual 27 = .ok (.iload_n 3, 1) := by sorry
theorem dX3_isMutual_28 : decode cX3_isMutual 28 = .ok (.aload_n 0, 1) := by sorry
theorem dX3_isMutual_29 : decode cX3_isMutual 29 = .ok (.iload_n 2, 1) := by sorry
theorem dX3_isMutual_30 : decode cX3_isMutual 30 = .ok (.iload_n 1, 1) := by sorry
theorem dX3_isMutual_31 : decode cX3_isMutual 31 = .ok (.invokevirtual 52, 3) := by sorry
theorem dX3_isMutual_34 : decode cX3_isMutual 34 = .ok (.if_icmp .ne 12, 3) := by sorry
theorem dX3_isMutual_37 : decode cX3_isMutual 37 = .ok (.iload_n 3, 1) := by sorry
theorem dX3_isMutual_38 : decode cX3_isMutual 38 = .ok (.ifCond .eq 10, 3) := by sorry
theorem dX3_isMutual_41 : decode cX3_isMutual 41 = .ok (.iload_n 1, 1) := by sorry
theorem dX3_isMutual_42 : decode cX3_isMutual 42 = .ok (.iload_n 2, 1) := by sorry
theorem dX3_isMutual_43 : decode cX3_isMutual 43 = .ok (.if_icmp .ne 5, 3) := by sorry
theorem dX3_isMutual_46 : decode cX3_isMutual 46 = .ok (.iconst 0, 1) := by sorry
theorem dX3_isMutual_47 : decode cX3_isMutual 47 = .ok (.ireturn, 1) := by sorry
theorem dX3_isMutual_48 : decode cX3_isMutual 48 = .ok (.iinc 2 1, 3) := by sorry
theorem dX3_isMutual_51 : decode cX3_isMutual 51 = .ok (.goto (-39), 3) := by sorry
theorem dX3_isMutual_54 : decode cX3_isMutual 54 = .ok (.iinc 1 1, 3) := by sorry
theorem dX3_isMutual_57 : decode cX3_isMutual 57 = .ok (.goto (-55), 3) := by sorry
theorem dX3_isMutual_60 : decode cX3_isMutual 60 = .ok (.iconst 1, 1) := by sorry
theorem dX3_isMutual_61 : decode cX3_isMutual 61 = .ok (.ireturn, 1) := by sorry
theorem dX4_init_0 : decode cX4_init 0 = .ok (.aload_n 0, 1) := by sorry
theorem dX4_init_1 : decode cX4_init 1 = .ok (.invokespecial 3, 3) := by sorry
theorem dX4_init_4 : decode cX4_init 4 = .ok (.aload_n 0, 1) := by sorry
theorem dX4_init_5 : decode cX4_init 5 = .ok (.bipush 6, 2) := by sorry
theorem dX4_init_7 : decode cX4_init 7 = .ok (.newarray .int, 2) := by sorry
theorem dX4_init_9 : decode cX4_init 9 = .ok (.putfield 9, 3) := by sorry
theorem dX4_init_12 : decode cX4_init 12 = .ok (.return_, 1) := by sorry
theorem ggX4_fewest_X6_holds : GoodIn wsX4_fewest wsX6_holds := by sorry
theorem gX4_fewest_X6_holds_n21 : GoodIn wsX4_fewest (wsX6_holds) := by sorry
theorem ggX4_fewest_X5_partWith : GoodIn wsX4_fewest wsX5_partWith := by sorry
theorem gX4_fewest_X5_partWith_n25 : GoodIn wsX4_fewest (wsX5_partWith) := by sorry
theorem ggX4_fewest_X4_fewestOf : GoodIn wsX4_fewest wsX4_fewestOf := by sorry
theorem gX4_fewest_X4_fewestOf : GoodIn wsX4_fewest (wsV RX4 37 RX4 yX4_fewestOf wsX4_fewestOf) := by sorry
theorem dX4_fewest_0 : decode cX4_fewest 0 = .ok (.iconst 0, 1) := by sorry
theorem dX4_fewest_1 : decode cX4_fewest 1 = .ok (.istore_n 2, 1) := by sorry
theorem dX4_fewest_2 : decode cX4_fewest 2 = .ok (.iconst 0, 1) := by sorry
theorem dX4_fewest_3 : decode cX4_fewest 3 = .ok (.istore_n 3, 1) := by sorry
theorem dX4_fewest_4 : decode cX4_fewest 4 = .ok (.iconst 0, 1) := by sorry
theorem dX4_fewest_5 : decode cX4_fewest 5 = .ok (.istore 4, 2) := by sorry
theorem dX4_fewest_7 : decode cX4_fewest 7 = .ok (.iload 4, 2) := by sorry
theorem dX4_fewest_9 : decode cX4_fewest 9 = .ok (.aload_n 1, 1) := by sorry
theorem dX4_fewest_10 : decode cX4_fewest 10 = .ok (.getfield 15, 3) := by sorry
theorem dX4_fewest_13 : decode cX4_fewest 13 = .ok (.if_icmp .ge 44, 3) := by sorry
theorem dX4_fewest_16 : decode cX4_fewest 16 = .ok (.iload_n 3, 1) := by sorry
theorem dX4_fewest_17 : decode cX4_fewest 17 = .ok (.iload 4, 2) := by sorry
theorem dX4_fewest_19 : decode cX4_fewest 19 = .ok (.invokestatic 21, 3) := by sorry
theorem dX4_fewest_22 : decode cX4_fewest 22 = .ok (.ifCond .ne 29, 3) := by sorry
theorem dX4_fewest_25 : decode cX4_fewest 25 = .ok (.aload_n 1, 1) := by sorry
theorem dX4_fewest_26 : decode cX4_fewest 26 = .ok (.iload 4, 2) := by sorry
theorem dX4_fewest_28 : decode cX4_fewest 28 = .ok (.invokestatic 25, 3) := by sorry
theorem dX4_fewest_31 : decode cX4_fewest 31 = .ok (.istore 5, 2) := by sorry
theorem dX4_fewest_33 : decode cX4_fewest 33 = .ok (.aload_n 0, 1) := by sorry
theorem dX4_fewest_34 : decode cX4_fewest 34 = .ok (.aload_n 1, 1) := by sorry
theorem dX4_fewest_35 : decode cX4_fewest 35 = .ok (.iload 5, 2) := by sorry
theorem dX4_fewest_37 : decode cX4_fewest 37 = .ok (.iload_n 2, 1) := by sorry
theorem dX4_fewest_38 : decode cX4_fewest 38 = .ok (.iconst 1, 1) := by sorry
theorem dX4_fewest_39 : decode cX4_fewest 39 = .ok (.invokestatic 31, 3) := by sorry
theorem dX4_fewest_42 : decode cX4_fewest 42 = .ok (.invokevirtual 37, 3) := by sorry
theorem dX4_fewest_45 : decode cX4_fewest 45 = .ok (.istore_n 2, 1) := by sorry
theorem dX4_fewest_46 : decode cX4_fewest 46 = .ok (.iload_n 3, 1) := by sorry
theorem dX4_fewest_47 : decode cX4_fewest 47 = .ok (.iload 5, 2) := by sorry
theorem dX4_fewest_49 : decode cX4_fewest 49 = .ok (.ior, 1) := by sorry
theorem dX4_fewest_50 : decode cX4_fewest 50 = .ok (.istore_n 3, 1) := by sorry
theorem dX4_fewest_51 : decode cX4_fewest 51 = .ok (.iinc 4 1, 3) := by sorry
theorem dX4_fewest_54 : decode cX4_fewest 54 = .ok (.goto (-47), 3) := by sorry
theorem dX4_fewest_57 : decode cX4_fewest 57 = .ok (.iload_n 2, 1) := by sorry
theorem dX4_fewest_58 : decode cX4_fewest 58 = .ok (.ireturn, 1) := by sorry
theorem ggX4_fewestOf_X4_canPaint : GoodIn wsX4_fewestOf wsX4_canPaint := by sorry
theorem gX4_fewestOf_X4_canPaint : GoodIn wsX4_fewestOf (va_wsS RX4 41 yX4_canPaint wsX4_canPaint) := by sorry
theorem dX4_fewestOf_0 : decode cX4_fewestOf 0 = .ok (.iload_n 3, 1) := by sorry
theorem dX4_fewestOf_1 : decode cX4_fewestOf 1 = .ok (.istore 4, 2) := by sorry
theorem dX4_fewestOf_3 : decode cX4_fewestOf 3 = .ok (.iload 4, 2) := by sorry
theorem dX4_fewestOf_5 : decode cX4_fewestOf 5 = .ok (.aload_n 0, 1) := by sorry
theorem dX4_fewestOf_6 : decode cX4_fewestOf 6 = .ok (.getfield 9, 3) := by sorry
theorem dX4_fewestOf_9 : decode cX4_fewestOf 9 = .ok (.arraylength, 1) := by sorry
theorem dX4_fewestOf_10 : decode cX4_fewestOf 10 = .ok (.if_icmp .ge 54, 3) := by sorry
theorem dX4_fewestOf_13 : decode cX4_fewestOf 13 = .ok (.iconst 0, 1) := by sorry
theorem dX4_fewestOf_14 : decode cX4_fewestOf 14 = .ok (.istore 5, 2) := by sorry
theorem dX4_fewestOf_16 : decode cX4_fewestOf 16 = .ok (.iload 5, 2) := by sorry
theorem dX4_fewestOf_18 : decode cX4_fewestOf 18 = .ok (.aload_n 0, 1) := by sorry
theorem dX4_fewestOf_19 : decode cX4_fewestOf 19 = .ok (.getfield 9, 3) := by sorry
theorem dX4_fewestOf_22 : decode cX4_fewestOf 22 = .ok (.arraylength, 1) := by sorry
theorem dX4_fewestOf_23 : decode cX4_fewestOf 23 = .ok (.if_icmp .ge 17, 3) := by sorry
theorem dX4_fewestOf_26 : decode cX4_fewestOf 26 = .ok (.aload_n 0, 1) := by sorry
theorem dX4_fewestOf_27 : decode cX4_fewestOf 27 = .ok (.getfield 9, 3) := by sorry
theorem dX4_fewestOf_30 : decode cX4_fewestOf 30 = .ok (.iload 5, 2) := by sorry
theorem dX4_fewestOf_32 : decode cX4_fewestOf 32 = .ok (.iconst 0, 1) := by sorry
theorem dX4_fewestOf_33 : decode cX4_fewestOf 33 = .ok (.iastore, 1) := by sorry
theorem dX4_fewestOf_34 : decode cX4_fewestOf 34 = .ok (.iinc 5 1, 3) := by sorry
theorem dX4_fewestOf_37 : decode cX4_fewestOf 37 = .ok (.goto (-21), 3) := by sorry
theorem dX4_fewestOf_40 : decode cX4_fewestOf 40 = .ok (.aload_n 1, 1) := by sorry
theorem dX4_fewestOf_41 : decode cX4_fewestOf 41 = .ok (.aload_n 0, 1) := by sorry
theorem dX4_fewestOf_42 : decode cX4_fewestOf 42 = .ok (.getfield 9, 3) := by sorry
theorem dX4_fewestOf_45 : decode cX4_fewestOf 45 = .ok (.iload_n 2, 1) := by sorry
theorem dX4_fewestOf_46 : decode cX4_fewestOf 46 = .ok (.iload 4, 2) := by sorry
theorem dX4_fewestOf_48 : decode cX4_fewestOf 48 = .ok (.iconst 0, 1) := by sorry
theorem dX4_fewestOf_49 : decode cX4_fewestOf 49 = .ok (.invokestatic 41, 3) := by sorry
theorem dX4_fewestOf_52 : decode cX4_fewestOf 52 = .ok (.ifCond .eq 6, 3) := by sorry
theorem dX4_fewestOf_55 : decode cX4_fewestOf 55 = .ok (.iload 4, 2) := by sorry
theorem dX4_fewestOf_57 : decode cX4_fewestOf 57 = .ok (.ireturn, 1) := by sorry
theorem dX4_fewestOf_58 : decode cX4_fewestOf 58 = .ok (.iinc 4 1, 3) := by sorry
theorem dX4_fewestOf_61 : decode cX4_fewestOf 61 = .ok (.goto (-58), 3) := by sorry
theorem dX4_fewestOf_64 : decode cX4_fewestOf 64 = .ok (.aload_n 0, 1) := by sorry
theorem dX4_fewestOf_65 : decode cX4_fewestOf 65 = .ok (.getfield 9, 3) := by sorry
theorem dX4_fewestOf_68 : decode cX4_fewestOf 68 = .ok (.arraylength, 1) := by sorry
theorem dX4_fewestOf_69 : decode cX4_fewestOf 69 = .ok (.ireturn, 1) := by sorry
theorem ggX4_canPaint_X4_hardest : GoodIn wsX4_canPaint wsX4_hardest := by sorry
theorem gX4_canPaint_X4_hardest : GoodIn wsX4_canPaint (va_wsS RX4 45 yX4_hardest wsX4_hardest) := by sorry
theorem ggX4_canPaint_X3_nearOf : GoodIn wsX4_canPaint wsX3_nearOf := by sorry
theorem gX4_canPaint_X3_nearOf_n49 : GoodIn wsX4_canPaint (wsX3_nearOf) := by sorry
theorem ggX4_canPaint_X6_bit : GoodIn wsX4_canPaint wsX6_bit := by sorry
theorem gX4_canPaint_X6_bit_n53 : GoodIn wsX4_canPaint (wsX6_bit) := by sorry
theorem ggX4_canPaint_X4_canPaint : GoodIn wsX4_canPaint wsX4_canPaint := by sorry
theorem gX4_canPaint_X4_canPaint : GoodIn wsX4_canPaint (va_wsS RX4 41 yX4_canPaint wsX4_canPaint) := by sorry
theorem dX4_canPaint_0 : decode cX4_canPaint 0 = .ok (.iload_n 2, 1) := by sorry
theorem dX4_canPaint_1 : decode cX4_canPaint 1 = .ok (.ifCond .ne 5, 3) := by sorry
theorem dX4_canPaint_4 : decode cX4_canPaint 4 = .ok (.iconst 1, 1) := by sorry
theorem dX4_canPaint_5 : decode cX4_canPaint 5 = .ok (.ireturn, 1) := by sorry
theorem dX4_canPaint_6 : decode cX4_canPaint 6 = .ok (.iload 4, 2) := by sorry
theorem dX4_canPaint_8 : decode cX4_canPaint 8 = .ok (.bipush 16, 2) := by sorry
theorem dX4_canPaint_10 : decode cX4_canPaint 10 = .ok (.if_icmp .lt 5, 3) := by sorry
theorem dX4_canPaint_13 : decode cX4_canPaint 13 = .ok (.iconst 0, 1) := by sorry
theorem dX4_canPaint_14 : decode cX4_canPaint 14 = .ok (.ireturn, 1) := by sorry
theorem dX4_canPaint_15 : decode cX4_canPaint 15 = .ok (.aload_n 0, 1) := by sorry
theorem dX4_canPaint_16 : decode cX4_canPaint 16 = .ok (.aload_n 1, 1) := by sorry
theorem dX4_canPaint_17 : decode cX4_canPaint 17 = .ok (.iload_n 2, 1) := by sorry
theorem dX4_canPaint_18 : decode cX4_canPaint 18 = .ok (.invokestatic 45, 3) := by sorry
theorem dX4_canPaint_21 : decode cX4_canPaint 21 = .ok (.istore 5, 2) := by sorry
theorem dX4_canPaint_23 : decode cX4_canPaint 23 = .ok (.iconst 0, 1) := by sorry
theorem dX4_canPaint_24 : decode cX4_canPaint 24 = .ok (.istore 6, 2) := by sorry
theorem dX4_canPaint_26 : decode cX4_canPaint 26 = .ok (.iload 6, 2) := by sorry
theorem dX4_canPaint_28 : decode cX4_canPaint 28 = .ok (.iload_n 3, 1) := by sorry
theorem dX4_canPaint_29 : decode cX4_canPaint 29 = .ok (.if_icmp .ge 104, 3) := by sorry
theorem dX4_canPaint_32 : decode cX4_canPaint 32 = .ok (.iload 6, 2) := by sorry
theorem dX4_canPaint_34 : decode cX4_canPaint 34 = .ok (.aload_n 1, 1) := by sorry
theorem dX4_canPaint_35 : decode cX4_canPaint 35 = .ok (.arraylength, 1) := by sorry
theorem dX4_canPaint_36 : decode cX4_canPaint 36 = .ok (.if_icmp .ge 97, 3) := by sorry
theorem dX4_canPaint_39 : decode cX4_canPaint 39 = .ok (.aload_n 1, 1) := by sorry
theorem dX4_canPaint_40 : decode cX4_canPaint 40 = .ok (.iload 6, 2) := by sorry
theorem dX4_canPaint_42 : decode cX4_canPaint 42 = .ok (.iaload, 1) := by sorry
theorem dX4_canPaint_43 : decode cX4_canPaint 43 = .ok (.aload_n 0, 1) := by sorry
theorem dX4_canPaint_44 : decode cX4_canPaint 44 = .ok (.iload 5, 2) := by sorry
theorem dX4_canPaint_46 : decode cX4_canPaint 46 = .ok (.invokevirtual 49, 3) := by sorry
theorem dX4_canPaint_49 : decode cX4_canPaint 49 = .ok (.iand, 1) := by sorry
theorem dX4_canPaint_50 : decode cX4_canPaint 50 = .ok (.ifCond .eq 6, 3) := by sorry
theorem dX4_canPaint_53 : decode cX4_canPaint 53 = .ok (.goto 74, 3) := by sorry
theorem dX4_canPaint_56 : decode cX4_canPaint 56 = .ok (.aload_n 1, 1) := by sorry
theorem dX4_canPaint_57 : decode cX4_canPaint 57 = .ok (.iload 6, 2) := by sorry
theorem dX4_canPaint_59 : decode cX4_canPaint 59 = .ok (.iaload, 1) := by sorry
theorem dX4_canPaint_60 : decode cX4_canPaint 60 = .ok (.ifCond .ne 7, 3) := by sorry
theorem dX4_canPaint_63 : decode cX4_canPaint 63 = .ok (.iconst 1, 1) := by sorry
theorem dX4_canPaint_64 : decode cX4_canPaint 64 = .ok (.goto 4, 3) := by sorry
theorem dX4_canPaint_67 : decode cX4_canPaint 67 = .ok (.iconst 0, 1) := by sorry
theorem dX4_canPaint_68 : decode cX4_canPaint 68 = .ok (.istore 7, 2) := by sorry
theorem dX4_canPaint_70 : decode cX4_canPaint 70 = .ok (.aload_n 1, 1) := by sorry
theorem dX4_canPaint_71 : decode cX4_canPaint 71 = .ok (.iload 6, 2) := by sorry
theorem dX4_canPaint_73 : decode cX4_canPaint 73 = .ok (.dup2, 1) := by sorry
theorem dX4_canPaint_74 : decode cX4_canPaint 74 = .ok (.iaload, 1) := by sorry
theorem dX4_canPaint_75 : decode cX4_canPaint 75 = .ok (.iload 5, 2) := by sorry
theorem dX4_canPaint_77 : decode cX4_canPaint 77 = .ok (.invokestatic 53, 3) := by sorry
theorem dX4_canPaint_80 : decode cX4_canPaint 80 = .ok (.ior, 1) := by sorry
theorem dX4_canPaint_81 : decode cX4_canPaint 81 = .ok (.iastore, 1) := by sorry
theorem dX4_canPaint_82 : decode cX4_canPaint 82 = .ok (.aload_n 0, 1) := by sorry
theorem dX4_canPaint_83 : decode cX4_canPaint 83 = .ok (.aload_n 1, 1) := by sorry
theorem dX4_canPaint_84 : decode cX4_canPaint 84 = .ok (.iload_n 2, 1) := by sorry
theorem dX4_canPaint_85 : decode cX4_canPaint 85 = .ok (.iload 5, 2) := by sorry
theorem dX4_canPaint_87 : decode cX4_canPaint 87 = .ok (.invokestatic 53, 3) := by sorry
theorem dX4_canPaint_90 : decode cX4_canPaint 90 = .ok (.iconst (-1), 1) := by sorry
theorem dX4_canPaint_91 : decode cX4_canPaint 91 = .ok (.ixor, 1) := by sorry
theorem dX4_canPaint_92 : decode cX4_canPaint 92 = .ok (.iand, 1) := by sorry
theorem dX4_canPaint_93 : decode cX4_canPaint 93 = .ok (.iload_n 3, 1) := by sorry
theorem dX4_canPaint_94 : decode cX4_canPaint 94 = .ok (.iload 4, 2) := by sorry
theorem dX4_canPaint_96 : decode cX4_canPaint 96 = .ok (.iconst 1, 1) := by sorry
theorem dX4_canPaint_97 : decode cX4_canPaint 97 = .ok (.iadd, 1) := by sorry
theorem dX4_canPaint_98 : decode cX4_canPaint 98 = .ok (.invokestatic 41, 3) := by sorry
theorem dX4_canPaint_101 : decode cX4_canPaint 101 = .ok (.ifCond .eq 5, 3) := by sorry
theorem dX4_canPaint_104 : decode cX4_canPaint 104 = .ok (.iconst 1, 1) := by sorry
theorem dX4_canPaint_105 : decode cX4_canPaint 105 = .ok (.ireturn, 1) := by sorry
theorem dX4_canPaint_106 : decode cX4_canPaint 106 = .ok (.aload_n 1, 1) := by sorry
theorem dX4_canPaint_107 : decode cX4_canPaint 107 = .ok (.iload 6, 2) := by sorry
theorem dX4_canPaint_109 : decode cX4_canPaint 109 = .ok (.dup2, 1) := by sorry
theorem dX4_canPaint_110 : decode cX4_canPaint 110 = .ok (.iaload, 1) := by sorry
theorem dX4_canPaint_111 : decode cX4_canPaint 111 = .ok (.iload 5, 2) := by sorry
theorem dX4_canPaint_113 : decode cX4_canPaint 113 = .ok (.invokestatic 53, 3) := by sorry
theorem dX4_canPaint_116 : decode cX4_canPaint 116 = .ok (.iconst (-1), 1) := by sorry
theorem dX4_canPaint_117 : decode cX4_canPaint 117 = .ok (.ixor, 1) := by sorry
theorem dX4_canPaint_118 : decode cX4_canPaint 118 = .ok (.iand, 1) := by sorry
theorem dX4_canPaint_119 : decode cX4_canPaint 119 = .ok (.iastore, 1) := by sorry
theorem dX4_canPaint_120 : decode cX4_canPaint 120 = .ok (.iload 7, 2) := by sorry
theorem dX4_canPaint_122 : decode cX4_canPaint 122 = .ok (.ifCond .eq 5, 3) := by sorry
theorem dX4_canPaint_125 : decode cX4_canPaint 125 = .ok (.iconst 0, 1) := by sorry
theorem dX4_canPaint_126 : decode cX4_canPaint 126 = .ok (.ireturn, 1) := by sorry
theorem dX4_canPaint_127 : decode cX4_canPaint 127 = .ok (.iinc 6 1, 3) := by sorry
theorem dX4_canPaint_130 : decode cX4_canPaint 130 = .ok (.goto (-104), 3) := by sorry
theorem dX4_canPaint_133 : decode cX4_canPaint 133 = .ok (.iconst 0, 1) := by sorry
theorem dX4_canPaint_134 : decode cX4_canPaint 134 = .ok (.ireturn, 1) := by sorry
theorem ggX4_hardest_X6_holds : GoodIn wsX4_hardest wsX6_holds := by sorry
theorem gX4_hardest_X6_holds_n21 : GoodIn wsX4_hardest (wsX6_holds) := by sorry
theorem ggX4_hardest_X3_nearOf : GoodIn wsX4_hardest wsX3_nearOf := by sorry
theorem gX4_hardest_X3_nearOf_n49 : GoodIn wsX4_hardest (wsX3_nearOf) := by sorry
theorem dX4_hardest_0 : decode cX4_hardest 0 = .ok (.iconst (-1), 1) := by sorry
theorem dX4_hardest_1 : decode cX4_hardest 1 = .ok (.istore_n 3, 1) := by sorry
theorem dX4_hardest_2 : decode cX4_hardest 2 = .ok (.iconst (-1), 1) := by sorry
theorem dX4_hardest_3 : decode cX4_hardest 3 = .ok (.istore 4, 2) := by sorry
theorem dX4_hardest_5 : decode cX4_hardest 5 = .ok (.iconst 0, 1) := by sorry
theorem dX4_hardest_6 : decode cX4_hardest 6 = .ok (.istore 5, 2) := by sorry
theorem dX4_hardest_8 : decode cX4_hardest 8 = .ok (.iload 5, 2) := by sorry
theorem dX4_hardest_10 : decode cX4_hardest 10 = .ok (.aload_n 0, 1) := by sorry
theorem dX4_hardest_11 : decode cX4_hardest 11 = .ok (.getfield 15, 3) := by sorry
theorem dX4_hardest_14 : decode cX4_hardest 14 = .ok (.if_icmp .ge 75, 3) := by sorry
theorem dX4_hardest_17 : decode cX4_hardest 17 = .ok (.iload_n 2, 1) := by sorry
theorem dX4_hardest_18 : decode cX4_hardest 18 = .ok (.iload 5, 2) := by sorry
theorem dX4_hardest_20 : decode cX4_hardest 20 = .ok (.invokestatic 21, 3) := by sorry
theorem dX4_hardest_23 : decode cX4_hardest 23 = .ok (.ifCond .eq 60, 3) := by sorry
theorem dX4_hardest_26 : decode cX4_hardest 26 = .ok (.iconst 0, 1) := by sorry
theorem dX4_hardest_27 : decode cX4_hardest 27 = .ok (.istore 6, 2) := by sorry
theorem dX4_hardest_29 : decode cX4_hardest 29 = .ok (.iconst 0, 1) := by sorry
theorem dX4_hardest_30 : decode cX4_hardest 30 = .ok (.istore 7, 2) := by sorry
theorem dX4_hardest_32 : decode cX4_hardest 32 = .ok (.iload 7, 2) := by sorry
theorem dX4_hardest_34 : decode cX4_hardest 34 = .ok (.aload_n 1, 1) := by sorry
theorem dX4_hardest_35 : decode cX4_hardest 35 = .ok (.arraylength, 1) := by sorry
theorem dX4_hardest_36 : decode cX4_hardest 36 = .ok (.if_icmp .ge 33, 3) := by sorry
theorem dX4_hardest_39 : decode cX4_hardest 39 = .ok (.iload 6, 2) := by sorry
theorem dX4_hardest_41 : decode cX4_hardest 41 = .ok (.aload_n 1, 1) := by sorry
theorem dX4_hardest_42 : decode cX4_hardest 42 = .ok (.iload 7, 2) := by sorry
theorem dX4_hardest_44 : decode cX4_hardest 44 = .ok (.iaload, 1) := by sorry
theorem dX4_hardest_45 : decode cX4_hardest 45 = .ok (.aload_n 0, 1) := by sorry
theorem dX4_hardest_46 : decode cX4_hardest 46 = .ok (.iload 5, 2) := by sorry
theorem dX4_hardest_48 : decode cX4_hardest 48 = .ok (.invokevirtual 49, 3) := by sorry
theorem dX4_hardest_51 : decode cX4_hardest 51 = .ok (.iand, 1) := by sorry
theorem dX4_hardest_52 : decode cX4_hardest 52 = .ok (.ifCond .eq 7, 3) := by sorry
theorem dX4_hardest_55 : decode cX4_hardest 55 = .ok (.iconst 1, 1) := by sorry
theorem dX4_hardest_56 : decode cX4_hardest 56 = .ok (.goto 4, 3) := by sorry
theorem dX4_hardest_59 : decode cX4_hardest 59 = .ok (.iconst 0, 1) := by sorry
theorem dX4_hardest_60 : decode cX4_hardest 60 = .ok (.iadd, 1) := by sorry
theorem dX4_hardest_61 : decode cX4_hardest 61 = .ok (.istore 6, 2) := by sorry
theorem dX4_hardest_63 : decode cX4_hardest 63 = .ok (.iinc 7 1, 3) := by sorry
theorem dX4_hardest_66 : decode cX4_hardest 66 = .ok (.goto (-34), 3) := by sorry
theorem dX4_hardest_69 : decode cX4_hardest 69 = .ok (.iload 6, 2) := by sorry
theorem dX4_hardest_71 : decode cX4_hardest 71 = .ok (.iload 4, 2) := by sorry
theorem dX4_hardest_73 : decode cX4_hardest 73 = .ok (.if_icmp .le 10, 3) := by sorry
theorem dX4_hardest_76 : decode cX4_hardest 76 = .ok (.iload 6, 2) := by sorry
theorem dX4_hardest_78 : decode cX4_hardest 78 = .ok (.istore 4, 2) := by sorry
theorem dX4_hardest_80 : decode cX4_hardest 80 = .ok (.iload 5, 2) := by sorry
theorem dX4_hardest_82 : decode cX4_hardest 82 = .ok (.istore_n 3, 1) := by sorry
theorem dX4_hardest_83 : decode cX4_hardest 83 = .ok (.iinc 5 1, 3) := by sorry
theorem dX4_hardest_86 : decode cX4_hardest 86 = .ok (.goto (-78), 3) := by sorry
theorem dX4_hardest_89 : decode cX4_hardest 89 = .ok (.iload_n 3, 1) := by sorry
theorem dX4_hardest_90 : decode cX4_hardest 90 = .ok (.ireturn, 1) := by sorry
theorem ggX5_around_J6_bitCount_0f7a4 : GoodIn wsX5_around wsJ6_bitCount_0f7a4 := by sorry
theorem gX5_around_J6_bitCount_0f7a4 : GoodIn wsX5_around (va_wsS RX5 9 yJ6_bitCount_0f7a4 wsJ6_bitCount_0f7a4) := by sorry
theorem ggX5_around_X3_nearOf : GoodIn wsX5_around wsX3_nearOf := by sorry
theorem gX5_around_X3_nearOf_n15 : GoodIn wsX5_around (wsX3_nearOf) := by sorry
theorem dX5_around_0 : decode cX5_around 0 = .ok (.iconst 0, 1) := by sorry
theorem dX5_around_1 : decode cX5_around 1 = .ok (.istore_n 2, 1) := by sorry
theorem dX5_around_2 : decode cX5_around 2 = .ok (.iload_n 1, 1) := by sorry
theorem dX5_around_3 : decode cX5_around 3 = .ok (.istore_n 3, 1) := by sorry
theorem dX5_around_4 : decode cX5_around 4 = .ok (.iconst 0, 1) := by sorry
theorem dX5_around_5 : decode cX5_around 5 = .ok (.istore 4, 2) := by sorry
theorem dX5_around_7 : decode cX5_around 7 = .ok (.iload 4, 2) := by sorry
theorem dX5_around_9 : decode cX5_around 9 = .ok (.bipush 16, 2) := by sorry
theorem dX5_around_11 : decode cX5_around 11 = .ok (.if_icmp .ge 39, 3) := by sorry
theorem dX5_around_14 : decode cX5_around 14 = .ok (.iload_n 3, 1) := by sorry
theorem dX5_around_15 : decode cX5_around 15 = .ok (.ifCond .eq 35, 3) := by sorry
theorem dX5_around_18 : decode cX5_around 18 = .ok (.iload_n 3, 1) := by sorry
theorem dX5_around_19 : decode cX5_around 19 = .ok (.iload_n 3, 1) := by sorry
theorem dX5_around_20 : decode cX5_around 20 = .ok (.ineg, 1) := by sorry
theorem dX5_around_21 : decode cX5_around 21 = .ok (.iand, 1) := by sorry
theorem dX5_around_22 : decode cX5_around 22 = .ok (.iconst 1, 1) := by sorry
theorem dX5_around_23 : decode cX5_around 23 = .ok (.isub, 1) := by sorry
theorem dX5_around_24 : decode cX5_around 24 = .ok (.invokestatic 9, 3) := by sorry
theorem dX5_around_27 : decode cX5_around 27 = .ok (.istore 5, 2) := by sorry
theorem dX5_around_29 : decode cX5_around 29 = .ok (.iload_n 2, 1) := by sorry
theorem dX5_around_30 : decode cX5_around 30 = .ok (.aload_n 0, 1) := by sorry
theorem dX5_around_31 : decode cX5_around 31 = .ok (.iload 5, 2) := by sorry
theorem dX5_around_33 : decode cX5_around 33 = .ok (.invokevirtual 15, 3) := by sorry
theorem dX5_around_36 : decode cX5_around 36 = .ok (.ior, 1) := by sorry
theorem dX5_around_37 : decode cX5_around 37 = .ok (.istore_n 2, 1) := by sorry
theorem dX5_around_38 : decode cX5_around 38 = .ok (.iload_n 3, 1) := by sorry
theorem dX5_around_39 : decode cX5_around 39 = .ok (.iload_n 3, 1) := by sorry
theorem dX5_around_40 : decode cX5_around 40 = .ok (.iconst 1, 1) := by sorry
theorem dX5_around_41 : decode cX5_around 41 = .ok (.isub, 1) := by sorry
theorem dX5_around_42 : decode cX5_around 42 = .ok (.iand, 1) := by sorry
theorem dX5_around_43 : decode cX5_around 43 = .ok (.istore_n 3, 1) := by sorry
theorem dX5_around_44 : decode cX5_around 44 = .ok (.iinc 4 1, 3) := by sorry
theorem dX5_around_47 : decode cX5_around 47 = .ok (.goto (-40), 3) := by sorry
theorem dX5_around_50 : decode cX5_around 50 = .ok (.iload_n 2, 1) := by sorry
theorem dX5_around_51 : decode cX5_around 51 = .ok (.ireturn, 1) := by sorry
theorem ggX5_within_X6_bit : GoodIn wsX5_within wsX6_bit := by sorry
theorem gX5_within_X6_bit_n20 : GoodIn wsX5_within (wsX6_bit) := by sorry
theorem ggX5_within_X5_around : GoodIn wsX5_within wsX5_around := by sorry
theorem gX5_within_X5_around : GoodIn wsX5_within (va_wsS RX5 23 yX5_around wsX5_around) := by sorry
theorem dX5_within_0 : decode cX5_within 0 = .ok (.iload_n 1, 1) := by sorry
theorem dX5_within_1 : decode cX5_within 1 = .ok (.invokestatic 20, 3) := by sorry
theorem dX5_within_4 : decode cX5_within 4 = .ok (.istore_n 3, 1) := by sorry
theorem dX5_within_5 : decode cX5_within 5 = .ok (.iload_n 3, 1) := by sorry
theorem dX5_within_6 : decode cX5_within 6 = .ok (.istore 4, 2) := by sorry
theorem dX5_within_8 : decode cX5_within 8 = .ok (.iconst 0, 1) := by sorry
theorem dX5_within_9 : decode cX5_within 9 = .ok (.istore 5, 2) := by sorry
theorem dX5_within_11 : decode cX5_within 11 = .ok (.iload 5, 2) := by sorry
theorem dX5_within_13 : decode cX5_within 13 = .ok (.iload_n 2, 1) := by sorry
theorem dX5_within_14 : decode cX5_within 14 = .ok (.if_icmp .ge 31, 3) := by sorry
theorem dX5_within_17 : decode cX5_within 17 = .ok (.iload 4, 2) := by sorry
theorem dX5_within_19 : decode cX5_within 19 = .ok (.ifCond .eq 26, 3) := by sorry
theorem dX5_within_22 : decode cX5_within 22 = .ok (.aload_n 0, 1) := by sorry
theorem dX5_within_23 : decode cX5_within 23 = .ok (.iload 4, 2) := by sorry
theorem dX5_within_25 : decode cX5_within 25 = .ok (.invokestatic 23, 3) := by sorry
theorem dX5_within_28 : decode cX5_within 28 = .ok (.iload_n 3, 1) := by sorry
theorem dX5_within_29 : decode cX5_within 29 = .ok (.iconst (-1), 1) := by sorry
theorem dX5_within_30 : decode cX5_within 30 = .ok (.ixor, 1) := by sorry
theorem dX5_within_31 : decode cX5_within 31 = .ok (.iand, 1) := by sorry
theorem dX5_within_32 : decode cX5_within 32 = .ok (.istore 4, 2) := by sorry
theorem dX5_within_34 : decode cX5_within 34 = .ok (.iload_n 3, 1) := by sorry
theorem dX5_within_35 : decode cX5_within 35 = .ok (.iload 4, 2) := by sorry
theorem dX5_within_37 : decode cX5_within 37 = .ok (.ior, 1) := by sorry
theorem dX5_within_38 : decode cX5_within 38 = .ok (.istore_n 3, 1) := by sorry
theorem dX5_within_39 : decode cX5_within 39 = .ok (.iinc 5 1, 3) := by sorry
theorem dX5_within_42 : decode cX5_within 42 = .ok (.goto (-31), 3) := by sorry
theorem dX5_within_45 : decode cX5_within 45 = .ok (.iload_n 3, 1) := by sorry
theorem dX5_within_46 : decode cX5_within 46 = .ok (.ireturn, 1) := by sorry
theorem ggX5_partWith_X5_within : GoodIn wsX5_partWith wsX5_within := by sorry
theorem gX5_partWith_X5_within : GoodIn wsX5_partWith (va_wsS RX5 29 yX5_within wsX5_within) := by sorry
theorem dX5_partWith_0 : decode cX5_partWith 0 = .ok (.aload_n 0, 1) := by sorry
theorem dX5_partWith_1 : decode cX5_partWith 1 = .ok (.iload_n 1, 1) := by sorry
theorem dX5_partWith_2 : decode cX5_partWith 2 = .ok (.bipush 16, 2) := by sorry
theorem dX5_partWith_4 : decode cX5_partWith 4 = .ok (.invokestatic 29, 3) := by sorry
theorem dX5_partWith_7 : decode cX5_partWith 7 = .ok (.ireturn, 1) := by sorry
theorem ggX5_partsInAll_X6_holds : GoodIn wsX5_partsInAll wsX6_holds := by sorry
theorem gX5_partsInAll_X6_holds_n37 : GoodIn wsX5_partsInAll (wsX6_holds) := by sorry
theorem ggX5_partsInAll_X5_partWith : GoodIn wsX5_partsInAll wsX5_partWith := by sorry
theorem gX5_partsInAll_X5_partWith : GoodIn wsX5_partsInAll (va_wsS RX5 41 yX5_partWith wsX5_partWith) := by sorry
theorem dX5_partsInAll_0 : decode cX5_partsInAll 0 = .ok (.iconst 0, 1) := by sorry
theorem dX5_partsInAll_1 : decode cX5_partsInAll 1 = .ok (.istore_n 1, 1) := by sorry
theorem dX5_partsInAll_2 : decode cX5_partsInAll 2 = .ok (.iconst 0, 1) := by sorry
theorem dX5_partsInAll_3 : decode cX5_partsInAll 3 = .ok (.istore_n 2, 1) := by sorry
theorem dX5_partsInAll_4 : decode cX5_partsInAll 4 = .ok (.iconst 0, 1) := by sorry
theorem dX5_partsInAll_5 : decode cX5_partsInAll 5 = .ok (.istore_n 3, 1) := by sorry
theorem dX5_partsInAll_6 : decode cX5_partsInAll 6 = .ok (.iload_n 3, 1) := by sorry
theorem dX5_partsInAll_7 : decode cX5_partsInAll 7 = .ok (.aload_n 0, 1) := by sorry
theorem dX5_partsInAll_8 : decode cX5_partsInAll 8 = .ok (.getfield 33, 3) := by sorry
theorem dX5_partsInAll_11 : decode cX5_partsInAll 11 = .ok (.if_icmp .ge 28, 3) := by sorry
theorem dX5_partsInAll_14 : decode cX5_partsInAll 14 = .ok (.iload_n 2, 1) := by sorry
theorem dX5_partsInAll_15 : decode cX5_partsInAll 15 = .ok (.iload_n 3, 1) := by sorry
theorem dX5_partsInAll_16 : decode cX5_partsInAll 16 = .ok (.invokestatic 37, 3) := by sorry
theorem dX5_partsInAll_19 : decode cX5_partsInAll 19 = .ok (.ifCond .ne 14, 3) := by sorry
theorem dX5_partsInAll_22 : decode cX5_partsInAll 22 = .ok (.iload_n 2, 1) := by sorry
theorem dX5_partsInAll_23 : decode cX5_partsInAll 23 = .ok (.aload_n 0, 1) := by sorry
theorem dX5_partsInAll_24 : decode cX5_partsInAll 24 = .ok (.iload_n 3, 1) := by sorry
theorem dX5_partsInAll_25 : decode cX5_partsInAll 25 = .ok (.invokestatic 41, 3) := by sorry
theorem dX5_partsInAll_28 : decode cX5_partsInAll 28 = .ok (.ior, 1) := by sorry
theorem dX5_partsInAll_29 : decode cX5_partsInAll 29 = .ok (.istore_n 2, 1) := by sorry
theorem dX5_partsInAll_30 : decode cX5_partsInAll 30 = .ok (.iinc 1 1, 3) := by sorry
theorem dX5_partsInAll_33 : decode cX5_partsInAll 33 = .ok (.iinc 3 1, 3) := by sorry
theorem dX5_partsInAll_36 : decode cX5_partsInAll 36 = .ok (.goto (-30), 3) := by sorry
theorem dX5_partsInAll_39 : decode cX5_partsInAll 39 = .ok (.iload_n 1, 1) := by sorry
theorem dX5_partsInAll_40 : decode cX5_partsInAll 40 = .ok (.ireturn, 1) := by sorry
theorem ggX5_partNumber_X6_holds : GoodIn wsX5_partNumber wsX6_holds := by sorry
theorem gX5_partNumber_X6_holds_n37 : GoodIn wsX5_partNumber (wsX6_holds) := by sorry
theorem ggX5_partNumber_X5_partWith : GoodIn wsX5_partNumber wsX5_partWith := by sorry
theorem gX5_partNumber_X5_partWith : GoodIn wsX5_partNumber (va_wsS RX5 41 yX5_partWith wsX5_partWith) := by sorry
theorem dX5_partNumber_0 : decode cX5_partNumber 0 = .ok (.iconst 0, 1) := by sorry
theorem dX5_partNumber_1 : decode cX5_partNumber 1 = .ok (.istore_n 2, 1) := by sorry
theorem dX5_partNumber_2 : decode cX5_partNumber 2 = .ok (.iconst 0, 1) := by sorry
theorem dX5_partNumber_3 : decode cX5_partNumber 3 = .ok (.istore_n 3, 1) := by sorry
theorem dX5_partNumber_4 : decode cX5_partNumber 4 = .ok (.iconst 0, 1) := by sorry
theorem dX5_partNumber_5 : decode cX5_partNumber 5 = .ok (.istore 4, 2) := by sorry
theorem dX5_partNumber_7 : decode cX5_partNumber 7 = .ok (.iload 4, 2) := by sorry
theorem dX5_partNumber_9 : decode cX5_partNumber 9 = .ok (.iload_n 1, 1) := by sorry
theorem dX5_partNumber_10 : decode cX5_partNumber 10 = .ok (.if_icmp .ge 40, 3) := by sorry
theorem dX5_partNumber_13 : decode cX5_partNumber 13 = .ok (.iload_n 3, 1) := by sorry
theorem dX5_partNumber_14 : decode cX5_partNumber 14 = .ok (.iload 4, 2) := by sorry
theorem dX5_partNumber_16 : decode cX5_partNumber 16 = .ok (.invokestatic 37, 3) := by sorry
theorem dX5_partNumber_19 : decode cX5_partNumber 19 = .ok (.ifCond .ne 25, 3) := by sorry
theorem dX5_partNumber_22 : decode cX5_partNumber 22 = .ok (.iload_n 3, 1) := by sorry
theorem dX5_partNumber_23 : decode cX5_partNumber 23 = .ok (.aload_n 0, 1) := by sorry
theorem dX5_partNumber_24 : decode cX5_partNumber 24 = .ok (.iload 4, 2) := by sorry
theorem dX5_partNumber_26 : decode cX5_partNumber 26 = .ok (.invokestatic 41, 3) := by sorry
theorem dX5_partNumber_29 : decode cX5_partNumber 29 = .ok (.ior, 1) := by sorry
theorem dX5_partNumber_30 : decode cX5_partNumber 30 = .ok (.istore_n 3, 1) := by sorry
theorem dX5_partNumber_31 : decode cX5_partNumber 31 = .ok (.iload_n 3, 1) := by sorry
theorem dX5_partNumber_32 : decode cX5_partNumber 32 = .ok (.iload_n 1, 1) := by sorry
theorem dX5_partNumber_33 : decode cX5_partNumber 33 = .ok (.invokestatic 37, 3) := by sorry
theorem dX5_partNumber_36 : decode cX5_partNumber 36 = .ok (.ifCond .eq 5, 3) := by sorry
theorem dX5_partNumber_39 : decode cX5_partNumber 39 = .ok (.iload_n 2, 1) := by sorry
theorem dX5_partNumber_40 : decode cX5_partNumber 40 = .ok (.ireturn, 1) := by sorry
theorem dX5_partNumber_41 : decode cX5_partNumber 41 = .ok (.iinc 2 1, 3) := by sorry
theorem dX5_partNumber_44 : decode cX5_partNumber 44 = .ok (.iinc 4 1, 3) := by sorry
theorem dX5_partNumber_47 : decode cX5_partNumber 47 = .ok (.goto (-40), 3) := by sorry
theorem dX5_partNumber_50 : decode cX5_partNumber 50 = .ok (.iload_n 2, 1) := by sorry
theorem dX5_partNumber_51 : decode cX5_partNumber 51 = .ok (.ireturn, 1) := by sorry
theorem ggX5_greatestDistance_X6_bit : GoodIn wsX5_greatestDistance wsX6_bit := by sorry
theorem gX5_greatestDistance_X6_bit_n20 : GoodIn wsX5_greatestDistance (wsX6_bit) := by sorry
theorem ggX5_greatestDistance_X5_around : GoodIn wsX5_greatestDistance wsX5_around := by sorry
theorem gX5_greatestDistance_X5_around : GoodIn wsX5_greatestDistance (va_wsS RX5 23 yX5_around wsX5_around) := by sorry
theorem dX5_greatestDistance_0 : decode cX5_greatestDistance 0 = .ok (.iload_n 1, 1) := by sorry
theorem dX5_greatestDistance_1 : decode cX5_greatestDistance 1 = .ok (.invokestatic 20, 3) := by sorry
theorem dX5_greatestDistance_4 : decode cX5_greatestDistance 4 = .ok (.istore_n 2, 1) := by sorry
theorem dX5_greatestDistance_5 : decode cX5_greatestDistance 5 = .ok (.iload_n 2, 1) := by sorry
theorem dX5_greatestDistance_6 : decode cX5_greatestDistance 6 = .ok (.istore_n 3, 1) := by sorry
theorem dX5_greatestDistance_7 : decode cX5_greatestDistance 7 = .ok (.iconst 0, 1) := by sorry
theorem dX5_greatestDistance_8 : decode cX5_greatestDistance 8 = .ok (.istore 4, 2) := by sorry
theorem dX5_greatestDistance_10 : decode cX5_greatestDistance 10 = .ok (.iload 4, 2) := by sorry
theorem dX5_greatestDistance_12 : decode cX5_greatestDistance 12 = .ok (.bipush 16, 2) := by sorry
theorem dX5_greatestDistance_14 : decode cX5_greatestDistance 14 = .ok (.if_icmp .ge 30, 3) := by sorry
theorem dX5_greatestDistance_17 : decode cX5_greatestDistance 17 = .ok (.aload_n 0, 1) := by sorry
theorem dX5_greatestDistance_18 : decode cX5_greatestDistance 18 = .ok (.iload_n 3, 1) := by sorry
theorem dX5_greatestDistance_19 : decode cX5_greatestDistance 19 = .ok (.invokestatic 23, 3) := by sorry
theorem dX5_greatestDistance_22 : decode cX5_greatestDistance 22 = .ok (.iload_n 2, 1) := by sorry
theorem dX5_greatestDistance_23 : decode cX5_greatestDistance 23 = .ok (.iconst (-1), 1) := by sorry
theorem dX5_greatestDistance_24 : decode cX5_greatestDistance 24 = .ok (.ixor, 1) := by sorry
theorem dX5_greatestDistance_25 : decode cX5_greatestDistance 25 = .ok (.iand, 1) := by sorry
theorem dX5_greatestDistance_26 : decode cX5_greatestDistance 26 = .ok (.istore_n 3, 1) := by sorry
theorem dX5_greatestDistance_27 : decode cX5_greatestDistance 27 = .ok (.iload_n 3, 1) := by sorry
theorem dX5_greatestDistance_28 : decode cX5_greatestDistance 28 = .ok (.ifCond .ne 6, 3) := by sorry
theorem dX5_greatestDistance_31 : decode cX5_greatestDistance 31 = .ok (.iload 4, 2) := by sorry
theorem dX5_greatestDistance_33 : decode cX5_greatestDistance 33 = .ok (.ireturn, 1) := by sorry
theorem dX5_greatestDistance_34 : decode cX5_greatestDistance 34 = .ok (.iload_n 2, 1) := by sorry
theorem dX5_greatestDistance_35 : decode cX5_greatestDistance 35 = .ok (.iload_n 3, 1) := by sorry
theorem dX5_greatestDistance_36 : decode cX5_greatestDistance 36 = .ok (.ior, 1) := by sorry
theorem dX5_greatestDistance_37 : decode cX5_greatestDistance 37 = .ok (.istore_n 2, 1) := by sorry
theorem dX5_greatestDistance_38 : decode cX5_greatestDistance 38 = .ok (.iinc 4 1, 3) := by sorry
theorem dX5_greatestDistance_41 : decode cX5_greatestDistance 41 = .ok (.goto (-31), 3) := by sorry
theorem dX5_greatestDistance_44 : decode cX5_greatestDistance 44 = .ok (.bipush 16, 2) := by sorry
theorem dX5_greatestDistance_46 : decode cX5_greatestDistance 46 = .ok (.ireturn, 1) := by sorry
theorem ggX5_width_X5_partsInAll : GoodIn wsX5_width wsX5_partsInAll := by sorry
theorem gX5_width_X5_partsInAll : GoodIn wsX5_width (va_wsS RX5 44 yX5_partsInAll wsX5_partsInAll) := by sorry
theorem ggX5_width_X5_greatestDistance : GoodIn wsX5_width wsX5_greatestDistance := by sorry
theorem gX5_width_X5_greatestDistance : GoodIn wsX5_width (va_wsS RX5 48 yX5_greatestDistance wsX5_greatestDistance) := by sorry
theorem dX5_width_0 : decode cX5_width 0 = .ok (.aload_n 0, 1) := by sorry
theorem dX5_width_1 : decode cX5_width 1 = .ok (.invokestatic 44, 3) := by sorry
theorem dX5_width_4 : decode cX5_width 4 = .ok (.iconst 1, 1) := by sorry
theorem dX5_width_5 : decode cX5_width 5 = .ok (.if_icmp .eq 5, 3) := by sorry
theorem dX5_width_8 : decode cX5_width 8 = .ok (.iconst (-1), 1) := by sorry
theorem dX5_width_9 : decode cX5_width 9 = .ok (.ireturn, 1) := by sorry
theorem dX5_width_10 : decode cX5_width 10 = .ok (.iconst 0, 1) := by sorry
theorem dX5_width_11 : decode cX5_width 11 = .ok (.istore_n 1, 1) := by sorry
theorem dX5_width_12 : decode cX5_width 12 = .ok (.iconst 0, 1) := by sorry
theorem dX5_width_13 : decode cX5_width 13 = .ok (.istore_n 2, 1) := by sorry
theorem dX5_width_14 : decode cX5_width 14 = .ok (.iload_n 2, 1) := by sorry
theorem dX5_width_15 : decode cX5_width 15 = .ok (.aload_n 0, 1) := by sorry
theorem dX5_width_16 : decode cX5_width 16 = .ok (.getfield 33, 3) := by sorry
theorem dX5_width_19 : decode cX5_width 19 = .ok (.if_icmp .ge 19, 3) := by sorry
theorem dX5_width_22 : decode cX5_width 22 = .ok (.iload_n 1, 1) := by sorry
theorem dX5_width_23 : decode cX5_width 23 = .ok (.aload_n 0, 1) := by sorry
theorem dX5_width_24 : decode cX5_width 24 = .ok (.iload_n 2, 1) := by sorry
theorem dX5_width_25 : decode cX5_width 25 = .ok (.invokestatic 48, 3) := by sorry
theorem dX5_width_28 : decode cX5_width 28 = .ok (.invokestatic 51, 3) := by sorry
theorem dX5_width_31 : decode cX5_width 31 = .ok (.istore_n 1, 1) := by sorry
theorem dX5_width_32 : decode cX5_width 32 = .ok (.iinc 2 1, 3) := by sorry
theorem dX5_width_35 : decode cX5_width 35 = .ok (.goto (-21), 3) := by sorry
theorem dX5_width_38 : decode cX5_width 38 = .ok (.iload_n 1, 1) := by sorry
theorem dX5_width_39 : decode cX5_width 39 = .ok (.ireturn, 1) := by sorry
theorem ggX5_leastRingBy_X6_bit : GoodIn wsX5_leastRingBy wsX6_bit := by sorry
theorem gX5_leastRingBy_X6_bit_n20 : GoodIn wsX5_leastRingBy (wsX6_bit) := by sorry
theorem ggX5_leastRingBy_X3_nearOf : GoodIn wsX5_leastRingBy wsX3_nearOf := by sorry
theorem gX5_leastRingBy_X3_nearOf_n15 : GoodIn wsX5_leastRingBy (wsX3_nearOf) := by sorry
theorem ggX5_leastRingBy_X5_around : GoodIn wsX5_leastRingBy wsX5_around := by sorry
theorem gX5_leastRingBy_X5_around : GoodIn wsX5_leastRingBy (va_wsS RX5 23 yX5_around wsX5_around) := by sorry
theorem ggX5_leastRingBy_X6_holds : GoodIn wsX5_leastRingBy wsX6_holds := by sorry
theorem gX5_leastRingBy_X6_holds_n37 : GoodIn wsX5_leastRingBy (wsX6_holds) := by sorry
theorem dX5_leastRingBy_0 : decode cX5_leastRingBy 0 = .ok (.iload_n 1, 1) := by sorry
theorem dX5_leastRingBy_1 : decode cX5_leastRingBy 1 = .ok (.invokestatic 20, 3) := by sorry
theorem dX5_leastRingBy_4 : decode cX5_leastRingBy 4 = .ok (.istore_n 3, 1) := by sorry
theorem dX5_leastRingBy_5 : decode cX5_leastRingBy 5 = .ok (.aload_n 0, 1) := by sorry
theorem dX5_leastRingBy_6 : decode cX5_leastRingBy 6 = .ok (.iload_n 1, 1) := by sorry
theorem dX5_leastRingBy_7 : decode cX5_leastRingBy 7 = .ok (.invokevirtual 15, 3) := by sorry
theorem dX5_leastRingBy_10 : decode cX5_leastRingBy 10 = .ok (.iload_n 2, 1) := by sorry
theorem dX5_leastRingBy_11 : decode cX5_leastRingBy 11 = .ok (.invokestatic 20, 3) := by sorry
theorem dX5_leastRingBy_14 : decode cX5_leastRingBy 14 = .ok (.iconst (-1), 1) := by sorry
theorem dX5_leastRingBy_15 : decode cX5_leastRingBy 15 = .ok (.ixor, 1) := by sorry
theorem dX5_leastRingBy_16 : decode cX5_leastRingBy 16 = .ok (.iand, 1) := by sorry
theorem dX5_leastRingBy_17 : decode cX5_leastRingBy 17 = .ok (.istore 4, 2) := by sorry
theorem dX5_leastRingBy_19 : decode cX5_leastRingBy 19 = .ok (.iconst 3, 1) := by sorry
theorem dX5_leastRingBy_20 : decode cX5_leastRingBy 20 = .ok (.istore 5, 2) := by sorry
theorem dX5_leastRingBy_22 : decode cX5_leastRingBy 22 = .ok (.iload 5, 2) := by sorry
theorem dX5_leastRingBy_24 : decode cX5_leastRingBy 24 = .ok (.bipush 16, 2) := by sorry
theorem dX5_leastRingBy_26 : decode cX5_leastRingBy 26 = .ok (.if_icmp .gt 43, 3) := by sorry
theorem dX5_leastRingBy_29 : decode cX5_leastRingBy 29 = .ok (.iload 4, 2) := by sorry
theorem dX5_leastRingBy_31 : decode cX5_leastRingBy 31 = .ok (.ifCond .eq 38, 3) := by sorry
theorem dX5_leastRingBy_34 : decode cX5_leastRingBy 34 = .ok (.iload_n 3, 1) := by sorry
theorem dX5_leastRingBy_35 : decode cX5_leastRingBy 35 = .ok (.iload 4, 2) := by sorry
theorem dX5_leastRingBy_37 : decode cX5_leastRingBy 37 = .ok (.ior, 1) := by sorry
theorem dX5_leastRingBy_38 : decode cX5_leastRingBy 38 = .ok (.istore_n 3, 1) := by sorry
theorem dX5_leastRingBy_39 : decode cX5_leastRingBy 39 = .ok (.aload_n 0, 1) := by sorry
theorem dX5_leastRingBy_40 : decode cX5_leastRingBy 40 = .ok (.iload 4, 2) := by sorry
theorem dX5_leastRingBy_42 : decode cX5_leastRingBy 42 = .ok (.invokestatic 23, 3) := by sorry
theorem dX5_leastRingBy_45 : decode cX5_leastRingBy 45 = .ok (.iload_n 3, 1) := by sorry
theorem dX5_leastRingBy_46 : decode cX5_leastRingBy 46 = .ok (.iconst (-1), 1) := by sorry
theorem dX5_leastRingBy_47 : decode cX5_leastRingBy 47 = .ok (.ixor, 1) := by sorry
theorem dX5_leastRingBy_48 : decode cX5_leastRingBy 48 = .ok (.iand, 1) := by sorry
theorem dX5_leastRingBy_49 : decode cX5_leastRingBy 49 = .ok (.istore 4, 2) := by sorry
theorem dX5_leastRingBy_51 : decode cX5_leastRingBy 51 = .ok (.iload 4, 2) := by sorry
theorem dX5_leastRingBy_53 : decode cX5_leastRingBy 53 = .ok (.iload_n 2, 1) := by sorry
theorem dX5_leastRingBy_54 : decode cX5_leastRingBy 54 = .ok (.invokestatic 37, 3) := by sorry
theorem dX5_leastRingBy_57 : decode cX5_leastRingBy 57 = .ok (.ifCond .eq 6, 3) := by sorry
theorem dX5_leastRingBy_60 : decode cX5_leastRingBy 60 = .ok (.iload 5, 2) := by sorry
theorem dX5_leastRingBy_62 : decode cX5_leastRingBy 62 = .ok (.ireturn, 1) := by sorry
theorem dX5_leastRingBy_63 : decode cX5_leastRingBy 63 = .ok (.iinc 5 1, 3) := by sorry
theorem dX5_leastRingBy_66 : decode cX5_leastRingBy 66 = .ok (.goto (-44), 3) := by sorry
theorem dX5_leastRingBy_69 : decode cX5_leastRingBy 69 = .ok (.iconst (-1), 1) := by sorry
theorem dX5_leastRingBy_70 : decode cX5_leastRingBy 70 = .ok (.ireturn, 1) := by sorry
theorem ggX5_leastRingAt_X3_isNear : GoodIn wsX5_leastRingAt wsX3_isNear := by sorry
theorem gX5_leastRingAt_X3_isNear_n57 : GoodIn wsX5_leastRingAt (wsX3_isNear) := by sorry
theorem ggX5_leastRingAt_X5_leastRingBy : GoodIn wsX5_leastRingAt wsX5_leastRingBy := by sorry
theorem gX5_leastRingAt_X5_leastRingBy : GoodIn wsX5_leastRingAt (va_wsS RX5 60 yX5_leastRingBy wsX5_leastRingBy) := by sorry
theorem ggX5_leastRingAt_X6_lesser : GoodIn wsX5_leastRingAt wsX6_lesser := by sorry
theorem gX5_leastRingAt_X6_lesser_n63 : GoodIn wsX5_leastRingAt (wsX6_lesser) := by sorry
theorem dX5_leastRingAt_0 : decode cX5_leastRingAt 0 = .ok (.iconst (-1), 1) := by sorry
theorem dX5_leastRingAt_1 : decode cX5_leastRingAt 1 = .ok (.istore_n 2, 1) := by sorry
theorem dX5_leastRingAt_2 : decode cX5_leastRingAt 2 = .ok (.iconst 0, 1) := by sorry
theorem dX5_leastRingAt_3 : decode cX5_leastRingAt 3 = .ok (.istore_n 3, 1) := by sorry
theorem dX5_leastRingAt_4 : decode cX5_leastRingAt 4 = .ok (.iload_n 3, 1) := by sorry
theorem dX5_leastRingAt_5 : decode cX5_leastRingAt 5 = .ok (.aload_n 0, 1) := by sorry
theorem dX5_leastRingAt_6 : decode cX5_leastRingAt 6 = .ok (.getfield 33, 3) := by sorry
theorem dX5_leastRingAt_9 : decode cX5_leastRingAt 9 = .ok (.if_icmp .ge 29, 3) := by sorry
theorem dX5_leastRingAt_12 : decode cX5_leastRingAt 12 = .ok (.aload_n 0, 1) := by sorry
theorem dX5_leastRingAt_13 : decode cX5_leastRingAt 13 = .ok (.iload_n 1, 1) := by sorry
theorem dX5_leastRingAt_14 : decode cX5_leastRingAt 14 = .ok (.iload_n 3, 1) := by sorry
theorem dX5_leastRingAt_15 : decode cX5_leastRingAt 15 = .ok (.invokevirtual 57, 3) := by sorry
theorem dX5_leastRingAt_18 : decode cX5_leastRingAt 18 = .ok (.ifCond .eq 14, 3) := by sorry
theorem dX5_leastRingAt_21 : decode cX5_leastRingAt 21 = .ok (.iload_n 2, 1) := by sorry
theorem dX5_leastRingAt_22 : decode cX5_leastRingAt 22 = .ok (.aload_n 0, 1) := by sorry
theorem dX5_leastRingAt_23 : decode cX5_leastRingAt 23 = .ok (.iload_n 1, 1) := by sorry
theorem dX5_leastRingAt_24 : decode cX5_leastRingAt 24 = .ok (.iload_n 3, 1) := by sorry
theorem dX5_leastRingAt_25 : decode cX5_leastRingAt 25 = .ok (.invokestatic 60, 3) := by sorry
theorem dX5_leastRingAt_28 : decode cX5_leastRingAt 28 = .ok (.invokestatic 63, 3) := by sorry
theorem dX5_leastRingAt_31 : decode cX5_leastRingAt 31 = .ok (.istore_n 2, 1) := by sorry
theorem dX5_leastRingAt_32 : decode cX5_leastRingAt 32 = .ok (.iinc 3 1, 3) := by sorry
theorem dX5_leastRingAt_35 : decode cX5_leastRingAt 35 = .ok (.goto (-31), 3) := by sorry
theorem dX5_leastRingAt_38 : decode cX5_leastRingAt 38 = .ok (.iload_n 2, 1) := by sorry
theorem dX5_leastRingAt_39 : decode cX5_leastRingAt 39 = .ok (.ireturn, 1) := by sorry
theorem ggX5_leastRing_X5_leastRingAt : GoodIn wsX5_leastRing wsX5_leastRingAt := by sorry
theorem gX5_leastRing_X5_leastRingAt : GoodIn wsX5_leastRing (va_wsS RX5 66 yX5_leastRingAt wsX5_leastRingAt) := by sorry
theorem ggX5_leastRing_X6_lesser : GoodIn wsX5_leastRing wsX6_lesser := by sorry
theorem gX5_leastRing_X6_lesser_n63 : GoodIn wsX5_leastRing (wsX6_lesser) := by sorry
theorem dX5_leastRing_0 : decode cX5_leastRing 0 = .ok (.iconst (-1), 1) := by sorry
theorem dX5_leastRing_1 : decode cX5_leastRing 1 = .ok (.istore_n 1, 1) := by sorry
theorem dX5_leastRing_2 : decode cX5_leastRing 2 = .ok (.iconst 0, 1) := by sorry
theorem dX5_leastRing_3 : decode cX5_leastRing 3 = .ok (.istore_n 2, 1) := by sorry
theorem dX5_leastRing_4 : decode cX5_leastRing 4 = .ok (.iload_n 2, 1) := by sorry
theorem dX5_leastRing_5 : decode cX5_leastRing 5 = .ok (.aload_n 0, 1) := by sorry
theorem dX5_leastRing_6 : decode cX5_leastRing 6 = .ok (.getfield 33, 3) := by sorry
theorem dX5_leastRing_9 : decode cX5_leastRing 9 = .ok (.if_icmp .ge 19, 3) := by sorry
theorem dX5_leastRing_12 : decode cX5_leastRing 12 = .ok (.iload_n 1, 1) := by sorry
theorem dX5_leastRing_13 : decode cX5_leastRing 13 = .ok (.aload_n 0, 1) := by sorry
theorem dX5_leastRing_14 : decode cX5_leastRing 14 = .ok (.iload_n 2, 1) := by sorry
theorem dX5_leastRing_15 : decode cX5_leastRing 15 = .ok (.invokestatic 66, 3) := by sorry
theorem dX5_leastRing_18 : decode cX5_leastRing 18 = .ok (.invokestatic 63, 3) := by sorry
theorem dX5_leastRing_21 : decode cX5_leastRing 21 = .ok (.istore_n 1, 1) := by sorry
theorem dX5_leastRing_22 : decode cX5_leastRing 22 = .ok (.iinc 2 1, 3) := by sorry
theorem dX5_leastRing_25 : decode cX5_leastRing 25 = .ok (.goto (-21), 3) := by sorry
theorem dX5_leastRing_28 : decode cX5_leastRing 28 = .ok (.iload_n 1, 1) := by sorry
theorem dX5_leastRing_29 : decode cX5_leastRing 29 = .ok (.ireturn, 1) := by sorry
theorem ggX6_init_X3_init : GoodIn wsX6_init wsX3_init := by sorry
theorem gX6_init_X3_init_n11 : GoodIn wsX6_init (wsX3_init) := by sorry
theorem ggX6_init_X0_init : GoodIn wsX6_init wsX0_init := by sorry
theorem gX6_init_X0_init_n25 : GoodIn wsX6_init (wsX0_init) := by sorry
theorem ggX6_init_X1_init : GoodIn wsX6_init wsX1_init := by sorry
theorem gX6_init_X1_init_n32 : GoodIn wsX6_init (wsX1_init) := by sorry
theorem ggX6_init_X2_init : GoodIn wsX6_init wsX2_init := by sorry
theorem gX6_init_X2_init_n39 : GoodIn wsX6_init (wsX2_init) := by sorry
theorem ggX6_init_X4_init : GoodIn wsX6_init wsX4_init := by sorry
theorem gX6_init_X4_init_n46 : GoodIn wsX6_init (wsX4_init) := by sorry
theorem dX6_init_0 : decode cX6_init 0 = .ok (.aload_n 0, 1) := by sorry
theorem dX6_init_1 : decode cX6_init 1 = .ok (.invokespecial 3, 3) := by sorry
theorem dX6_init_4 : decode cX6_init 4 = .ok (.aload_n 0, 1) := by sorry
theorem dX6_init_5 : decode cX6_init 5 = .ok (.new 9, 3) := by sorry
theorem dX6_init_8 : decode cX6_init 8 = .ok (.dup, 1) := by sorry
theorem dX6_init_9 : decode cX6_init 9 = .ok (.invokespecial 11, 3) := by sorry
theorem dX6_init_12 : decode cX6_init 12 = .ok (.putfield 12, 3) := by sorry
theorem dX6_init_15 : decode cX6_init 15 = .ok (.aload_n 0, 1) := by sorry
theorem dX6_init_16 : decode cX6_init 16 = .ok (.new 9, 3) := by sorry
theorem dX6_init_19 : decode cX6_init 19 = .ok (.dup, 1) := by sorry
theorem dX6_init_20 : decode cX6_init 20 = .ok (.invokespecial 11, 3) := by sorry
theorem dX6_init_23 : decode cX6_init 23 = .ok (.putfield 16, 3) := by sorry
theorem dX6_init_26 : decode cX6_init 26 = .ok (.aload_n 0, 1) := by sorry
theorem dX6_init_27 : decode cX6_init 27 = .ok (.iconst 5, 1) := by sorry
theorem dX6_init_28 : decode cX6_init 28 = .ok (.anewarray 9, 3) := by sorry
theorem dX6_init_31 : decode cX6_init 31 = .ok (.putfield 19, 3) := by sorry
theorem dX6_init_34 : decode cX6_init 34 = .ok (.aload_n 0, 1) := by sorry
theorem dX6_init_35 : decode cX6_init 35 = .ok (.new 23, 3) := by sorry
theorem dX6_init_38 : decode cX6_init 38 = .ok (.dup, 1) := by sorry
theorem dX6_init_39 : decode cX6_init 39 = .ok (.invokespecial 25, 3) := by sorry
theorem dX6_init_42 : decode cX6_init 42 = .ok (.putfield 26, 3) := by sorry
theorem dX6_init_45 : decode cX6_init 45 = .ok (.aload_n 0, 1) := by sorry
theorem dX6_init_46 : decode cX6_init 46 = .ok (.new 30, 3) := by sorry
theorem dX6_init_49 : decode cX6_init 49 = .ok (.dup, 1) := by sorry
theorem dX6_init_50 : decode cX6_init 50 = .ok (.invokespecial 32, 3) := by sorry
theorem dX6_init_53 : decode cX6_init 53 = .ok (.putfield 33, 3) := by sorry
theorem dX6_init_56 : decode cX6_init 56 = .ok (.aload_n 0, 1) := by sorry
theorem dX6_init_57 : decode cX6_init 57 = .ok (.new 37, 3) := by sorry
theorem dX6_init_60 : decode cX6_init 60 = .ok (.dup, 1) := by sorry
theorem dX6_init_61 : decode cX6_init 61 = .ok (.invokespecial 39, 3) := by sorry
theorem dX6_init_64 : decode cX6_init 64 = .ok (.putfield 40, 3) := by sorry
theorem dX6_init_67 : decode cX6_init 67 = .ok (.aload_n 0, 1) := by sorry
theorem dX6_init_68 : decode cX6_init 68 = .ok (.new 44, 3) := by sorry
theorem dX6_init_71 : decode cX6_init 71 = .ok (.dup, 1) := by sorry
theorem dX6_init_72 : decode cX6_init 72 = .ok (.invokespecial 46, 3) := by sorry
theorem dX6_init_75 : decode cX6_init 75 = .ok (.putfield 47, 3) := by sorry
theorem dX6_init_78 : decode cX6_init 78 = .ok (.aload_n 0, 1) := by sorry
theorem dX6_init_79 : decode cX6_init 79 = .ok (.bipush 8, 2) := by sorry
theorem dX6_init_81 : decode cX6_init 81 = .ok (.newarray .int, 2) := by sorry
theorem dX6_init_83 : decode cX6_init 83 = .ok (.putfield 51, 3) := by sorry
theorem dX6_init_86 : decode cX6_init 86 = .ok (.aload_n 0, 1) := by sorry
theorem dX6_init_87 : decode cX6_init 87 = .ok (.iconst 0, 1) := by sorry
theorem dX6_init_88 : decode cX6_init 88 = .ok (.putfield 55, 3) := by sorry
theorem dX6_init_91 : decode cX6_init 91 = .ok (.aload_n 0, 1) := by sorry
theorem dX6_init_92 : decode cX6_init 92 = .ok (.iconst 0, 1) := by sorry
theorem dX6_init_93 : decode cX6_init 93 = .ok (.putfield 59, 3) := by sorry
theorem dX6_init_96 : decode cX6_init 96 = .ok (.return_, 1) := by sorry
theorem ggX6_garden_X6_isWithin : GoodIn wsX6_garden wsX6_isWithin := by sorry
theorem gX6_garden_X6_isWithin : GoodIn wsX6_garden (va_wsS RX6 62 yX6_isWithin wsX6_isWithin) := by sorry
theorem ggX6_garden_X3_lay : GoodIn wsX6_garden wsX3_lay := by sorry
theorem gX6_garden_X3_lay_n76 : GoodIn wsX6_garden (wsX3_lay) := by sorry
theorem ggX6_garden_X0_end : GoodIn wsX6_garden wsX0_end := by sorry
theorem gX6_garden_X0_end_n80 : GoodIn wsX6_garden (wsX0_end) := by sorry
theorem ggX6_garden_X1_look : GoodIn wsX6_garden wsX1_look := by sorry
theorem gX6_garden_X1_look_n83 : GoodIn wsX6_garden (wsX1_look) := by sorry
theorem dX6_garden_0 : decode cX6_garden 0 = .ok (.iload_n 1, 1) := by sorry
theorem dX6_garden_1 : decode cX6_garden 1 = .ok (.iconst 3, 1) := by sorry
theorem dX6_garden_2 : decode cX6_garden 2 = .ok (.bipush 16, 2) := by sorry
theorem dX6_garden_4 : decode cX6_garden 4 = .ok (.invokestatic 62, 3) := by sorry
theorem dX6_garden_7 : decode cX6_garden 7 = .ok (.ifCond .ne 13, 3) := by sorry
theorem dX6_garden_10 : decode cX6_garden 10 = .ok (.new 66, 3) := by sorry
theorem dX6_garden_13 : decode cX6_garden 13 = .ok (.dup, 1) := by sorry
theorem dX6_garden_14 : decode cX6_garden 14 = .ok (.ldc 68, 2) := by sorry
theorem dX6_garden_16 : decode cX6_garden 16 = .ok (.invokespecial 70, 3) := by sorry
theorem dX6_garden_19 : decode cX6_garden 19 = .ok (.athrow, 1) := by sorry
theorem dX6_garden_20 : decode cX6_garden 20 = .ok (.aload_n 0, 1) := by sorry
theorem dX6_garden_21 : decode cX6_garden 21 = .ok (.getfield 12, 3) := by sorry
theorem dX6_garden_24 : decode cX6_garden 24 = .ok (.getfield 73, 3) := by sorry
theorem dX6_garden_27 : decode cX6_garden 27 = .ok (.istore_n 2, 1) := by sorry
theorem dX6_garden_28 : decode cX6_garden 28 = .ok (.aload_n 0, 1) := by sorry
theorem dX6_garden_29 : decode cX6_garden 29 = .ok (.getfield 12, 3) := by sorry
theorem dX6_garden_32 : decode cX6_garden 32 = .ok (.iload_n 1, 1) := by sorry
theorem dX6_garden_33 : decode cX6_garden 33 = .ok (.invokevirtual 76, 3) := by sorry
theorem dX6_garden_36 : decode cX6_garden 36 = .ok (.aload_n 0, 1) := by sorry
theorem dX6_garden_37 : decode cX6_garden 37 = .ok (.getfield 26, 3) := by sorry
theorem dX6_garden_40 : decode cX6_garden 40 = .ok (.invokevirtual 80, 3) := by sorry
theorem dX6_garden_43 : decode cX6_garden 43 = .ok (.aload_n 0, 1) := by sorry
theorem dX6_garden_44 : decode cX6_garden 44 = .ok (.getfield 33, 3) := by sorry
theorem dX6_garden_47 : decode cX6_garden 47 = .ok (.aload_n 0, 1) := by sorry
theorem dX6_garden_48 : decode cX6_garden 48 = .ok (.getfield 12, 3) := by sorry
theorem dX6_garden_51 : decode cX6_garden 51 = .ok (.invokevirtual 83, 3) := by sorry
theorem dX6_garden_54 : decode cX6_garden 54 = .ok (.iload_n 2, 1) := by sorry
theorem dX6_garden_55 : decode cX6_garden 55 = .ok (.ireturn, 1) := by sorry
theorem ggX6_edge_X3_isKnot : GoodIn wsX6_edge wsX3_isKnot := by sorry
theorem gX6_edge_X3_isKnot_n87 : GoodIn wsX6_edge (wsX3_isKnot) := by sorry
theorem ggX6_edge_X3_isNear : GoodIn wsX6_edge wsX3_isNear := by sorry
theorem gX6_edge_X3_isNear_n98 : GoodIn wsX6_edge (wsX3_isNear) := by sorry
theorem ggX6_edge_X3_countOf : GoodIn wsX6_edge wsX3_countOf := by sorry
theorem gX6_edge_X3_countOf_n102 : GoodIn wsX6_edge (wsX3_countOf) := by sorry
theorem ggX6_edge_X3_join : GoodIn wsX6_edge wsX3_join := by sorry
theorem gX6_edge_X3_join_n111 : GoodIn wsX6_edge (wsX3_join) := by sorry
theorem ggX6_edge_X3_loosen : GoodIn wsX6_edge wsX3_loosen := by sorry
theorem gX6_edge_X3_loosen_n115 : GoodIn wsX6_edge (wsX3_loosen) := by sorry
theorem ggX6_edge_X0_end : GoodIn wsX6_edge wsX0_end := by sorry
theorem gX6_edge_X0_end_n80 : GoodIn wsX6_edge (wsX0_end) := by sorry
theorem ggX6_edge_X1_look : GoodIn wsX6_edge wsX1_look := by sorry
theorem gX6_edge_X1_look_n83 : GoodIn wsX6_edge (wsX1_look) := by sorry
theorem dX6_edge_0 : decode cX6_edge 0 = .ok (.aload_n 0, 1) := by sorry
theorem dX6_edge_1 : decode cX6_edge 1 = .ok (.getfield 12, 3) := by sorry
theorem dX6_edge_4 : decode cX6_edge 4 = .ok (.iload_n 1, 1) := by sorry
theorem dX6_edge_5 : decode cX6_edge 5 = .ok (.invokevirtual 87, 3) := by sorry
theorem dX6_edge_8 : decode cX6_edge 8 = .ok (.ifCond .eq 14, 3) := by sorry
theorem dX6_edge_11 : decode cX6_edge 11 = .ok (.aload_n 0, 1) := by sorry
theorem dX6_edge_12 : decode cX6_edge 12 = .ok (.getfield 12, 3) := by sorry
theorem dX6_edge_15 : decode cX6_edge 15 = .ok (.iload_n 2, 1) := by sorry
theorem dX6_edge_16 : decode cX6_edge 16 = .ok (.invokevirtual 87, 3) := by sorry
theorem dX6_edge_19 : decode cX6_edge 19 = .ok (.ifCond .ne 13, 3) := by sorry
theorem dX6_edge_22 : decode cX6_edge 22 = .ok (.new 91, 3) := by sorry
theorem dX6_edge_25 : decode cX6_edge 25 = .ok (.dup, 1) := by sorry
theorem dX6_edge_26 : decode cX6_edge 26 = .ok (.ldc 93, 2) := by sorry
theorem dX6_edge_28 : decode cX6_edge 28 = .ok (.invokespecial 95, 3) := by sorry
theorem dX6_edge_31 : decode cX6_edge 31 = .ok (.athrow, 1) := by sorry
theorem dX6_edge_32 : decode cX6_edge 32 = .ok (.iload_n 1, 1) := by sorry
theorem dX6_edge_33 : decode cX6_edge 33 = .ok (.iload_n 2, 1) := by sorry
theorem dX6_edge_34 : decode cX6_edge 34 = .ok (.if_icmp .ne 13, 3) := by sorry
theorem dX6_edge_37 : decode cX6_edge 37 = .ok (.new 66, 3) := by sorry
theorem dX6_edge_40 : decode cX6_edge 40 = .ok (.dup, 1) := by sorry
theorem dX6_edge_41 : decode cX6_edge 41 = .ok (.ldc 96, 2) := by sorry
theorem dX6_edge_43 : decode cX6_edge 43 = .ok (.invokespecial 70, 3) := by sorry
theorem dX6_edge_46 : decode cX6_edge 46 = .ok (.athrow, 1) := by sorry
theorem dX6_edge_47 : decode cX6_edge 47 = .ok (.aload_n 0, 1) := by sorry
theorem dX6_edge_48 : decode cX6_edge 48 = .ok (.getfield 12, 3) := by sorry
theorem dX6_edge_51 : decode cX6_edge 51 = .ok (.iload_n 1, 1) := by sorry
theorem dX6_edge_52 : decode cX6_edge 52 = .ok (.iload_n 2, 1) := by sorry
theorem dX6_edge_53 : decode cX6_edge 53 = .ok (.invokevirtual 98, 3) := by sorry
theorem dX6_edge_56 : decode cX6_edge 56 = .ok (.istore 4, 2) := by sorry
theorem dX6_edge_58 : decode cX6_edge 58 = .ok (.aload_n 0, 1) := by sorry
theorem dX6_edge_59 : decode cX6_edge 59 = .ok (.getfield 12, 3) := by sorry
theorem dX6_edge_62 : decode cX6_edge 62 = .ok (.iload_n 1, 1) := by sorry
theorem dX6_edge_63 : decode cX6_edge 63 = .ok (.invokevirtual 102, 3) := by sorry
theorem dX6_edge_66 : decode cX6_edge 66 = .ok (.iconst 5, 1) := by sorry
theorem dX6_edge_67 : decode cX6_edge 67 = .ok (.if_icmp .ge 15, 3) := by sorry
theorem dX6_edge_70 : decode cX6_edge 70 = .ok (.aload_n 0, 1) := by sorry
theorem dX6_edge_71 : decode cX6_edge 71 = .ok (.getfield 12, 3) := by sorry
theorem dX6_edge_74 : decode cX6_edge 74 = .ok (.iload_n 2, 1) := by sorry
theorem dX6_edge_75 : decode cX6_edge 75 = .ok (.invokevirtual 102, 3) := by sorry
theorem dX6_edge_78 : decode cX6_edge 78 = .ok (.iconst 5, 1) := by sorry
theorem dX6_edge_79 : decode cX6_edge 79 = .ok (.if_icmp .lt 7, 3) := by sorry
theorem dX6_edge_82 : decode cX6_edge 82 = .ok (.iconst 1, 1) := by sorry
theorem dX6_edge_83 : decode cX6_edge 83 = .ok (.goto 4, 3) := by sorry
theorem dX6_edge_86 : decode cX6_edge 86 = .ok (.iconst 0, 1) := by sorry
theorem dX6_edge_87 : decode cX6_edge 87 = .ok (.istore 5, 2) := by sorry
theorem dX6_edge_89 : decode cX6_edge 89 = .ok (.iload_n 3, 1) := by sorry
theorem dX6_edge_90 : decode cX6_edge 90 = .ok (.ifCond .eq 23, 3) := by sorry
theorem dX6_edge_93 : decode cX6_edge 93 = .ok (.iload 4, 2) := by sorry
theorem dX6_edge_95 : decode cX6_edge 95 = .ok (.ifCond .ne 18, 3) := by sorry
theorem dX6_edge_98 : decode cX6_edge 98 = .ok (.iload 5, 2) := by sorry
theorem dX6_edge_100 : decode cX6_edge 100 = .ok (.ifCond .eq 13, 3) := by sorry
theorem dX6_edge_103 : decode cX6_edge 103 = .ok (.new 106, 3) := by sorry
theorem dX6_edge_106 : decode cX6_edge 106 = .ok (.dup, 1) := by sorry
theorem dX6_edge_107 : decode cX6_edge 107 = .ok (.ldc 108, 2) := by sorry
theorem dX6_edge_109 : decode cX6_edge 109 = .ok (.invokespecial 110, 3) := by sorry
theorem dX6_edge_112 : decode cX6_edge 112 = .ok (.athrow, 1) := by sorry
theorem dX6_edge_113 : decode cX6_edge 113 = .ok (.iload_n 3, 1) := by sorry
theorem dX6_edge_114 : decode cX6_edge 114 = .ok (.ifCond .eq 15, 3) := by sorry
theorem dX6_edge_117 : decode cX6_edge 117 = .ok (.aload_n 0, 1) := by sorry
theorem dX6_edge_118 : decode cX6_edge 118 = .ok (.getfield 12, 3) := by sorry
theorem dX6_edge_121 : decode cX6_edge 121 = .ok (.iload_n 1, 1) := by sorry
theorem dX6_edge_122 : decode cX6_edge 122 = .ok (.iload_n 2, 1) := by sorry
theorem dX6_edge_123 : decode cX6_edge 123 = .ok (.invokevirtual 111, 3) := by sorry
theorem dX6_edge_126 : decode cX6_edge 126 = .ok (.goto 12, 3) := by sorry
theorem dX6_edge_129 : decode cX6_edge 129 = .ok (.aload_n 0, 1) := by sorry
theorem dX6_edge_130 : decode cX6_edge 130 = .ok (.getfield 12, 3) := by sorry
theorem dX6_edge_133 : decode cX6_edge 133 = .ok (.iload_n 1, 1) := by sorry
theorem dX6_edge_134 : decode cX6_edge 134 = .ok (.iload_n 2, 1) := by sorry
theorem dX6_edge_135 : decode cX6_edge 135 = .ok (.invokevirtual 115, 3) := by sorry
theorem dX6_edge_138 : decode cX6_edge 138 = .ok (.aload_n 0, 1) := by sorry
theorem dX6_edge_139 : decode cX6_edge 139 = .ok (.getfield 26, 3) := by sorry
theorem dX6_edge_142 : decode cX6_edge 142 = .ok (.invokevirtual 80, 3) := by sorry
theorem dX6_edge_145 : decode cX6_edge 145 = .ok (.aload_n 0, 1) := by sorry
theorem dX6_edge_146 : decode cX6_edge 146 = .ok (.getfield 33, 3) := by sorry
theorem dX6_edge_149 : decode cX6_edge 149 = .ok (.aload_n 0, 1) := by sorry
theorem dX6_edge_150 : decode cX6_edge 150 = .ok (.getfield 12, 3) := by sorry
theorem dX6_edge_153 : decode cX6_edge 153 = .ok (.invokevirtual 83, 3) := by sorry
theorem dX6_edge_156 : decode cX6_edge 156 = .ok (.iload 4, 2) := by sorry
theorem dX6_edge_158 : decode cX6_edge 158 = .ok (.ireturn, 1) := by sorry
theorem ggX6_ring_X6_isWithin : GoodIn wsX6_ring wsX6_isWithin := by sorry
theorem gX6_ring_X6_isWithin : GoodIn wsX6_ring (va_wsS RX6 62 yX6_isWithin wsX6_isWithin) := by sorry
theorem ggX6_ring_X6_bit : GoodIn wsX6_ring wsX6_bit := by sorry
theorem gX6_ring_X6_bit : GoodIn wsX6_ring (va_wsS RX6 118 yX6_bit wsX6_bit) := by sorry
theorem ggX6_ring_X6_countByJumps : GoodIn wsX6_ring wsX6_countByJumps := by sorry
theorem gX6_ring_X6_countByJumps : GoodIn wsX6_ring (va_wsS RX6 123 yX6_countByJumps wsX6_countByJumps) := by sorry
theorem ggX6_ring_X6_layByJumps : GoodIn wsX6_ring wsX6_layByJumps := by sorry
theorem gX6_ring_X6_layByJumps : GoodIn wsX6_ring (wsV RX6 127 RX6 yX6_layByJumps wsX6_layByJumps) := by sorry
theorem ggX6_ring_X0_end : GoodIn wsX6_ring wsX0_end := by sorry
theorem gX6_ring_X0_end_n80 : GoodIn wsX6_ring (wsX0_end) := by sorry
theorem ggX6_ring_X1_look : GoodIn wsX6_ring wsX1_look := by sorry
theorem gX6_ring_X1_look_n83 : GoodIn wsX6_ring (wsX1_look) := by sorry
theorem ggX6_ring_X3_edgesInAll : GoodIn wsX6_ring wsX3_edgesInAll := by sorry
theorem gX6_ring_X3_edgesInAll_n130 : GoodIn wsX6_ring (wsX3_edgesInAll) := by sorry
theorem dX6_ring_0 : decode cX6_ring 0 = .ok (.iload_n 1, 1) := by sorry
theorem dX6_ring_1 : decode cX6_ring 1 = .ok (.iconst 3, 1) := by sorry
theorem dX6_ring_2 : decode cX6_ring 2 = .ok (.bipush 16, 2) := by sorry
theorem dX6_ring_4 : decode cX6_ring 4 = .ok (.invokestatic 62, 3) := by sorry
theorem dX6_ring_7 : decode cX6_ring 7 = .ok (.ifCond .ne 13, 3) := by sorry
theorem dX6_ring_10 : decode cX6_ring 10 = .ok (.new 66, 3) := by sorry
theorem dX6_ring_13 : decode cX6_ring 13 = .ok (.dup, 1) := by sorry
theorem dX6_ring_14 : decode cX6_ring 14 = .ok (.ldc 68, 2) := by sorry
theorem dX6_ring_16 : decode cX6_ring 16 = .ok (.invokespecial 70, 3) := by sorry
theorem dX6_ring_19 : decode cX6_ring 19 = .ok (.athrow, 1) := by sorry
theorem dX6_ring_20 : decode cX6_ring 20 = .ok (.iload_n 1, 1) := by sorry
theorem dX6_ring_21 : decode cX6_ring 21 = .ok (.iconst 2, 1) := by sorry
theorem dX6_ring_22 : decode cX6_ring 22 = .ok (.idiv, 1) := by sorry
theorem dX6_ring_23 : decode cX6_ring 23 = .ok (.iconst 1, 1) := by sorry
theorem dX6_ring_24 : decode cX6_ring 24 = .ok (.iadd, 1) := by sorry
theorem dX6_ring_25 : decode cX6_ring 25 = .ok (.invokestatic 118, 3) := by sorry
theorem dX6_ring_28 : decode cX6_ring 28 = .ok (.iconst 1, 1) := by sorry
theorem dX6_ring_29 : decode cX6_ring 29 = .ok (.isub, 1) := by sorry
theorem dX6_ring_30 : decode cX6_ring 30 = .ok (.bipush (-2), 2) := by sorry
theorem dX6_ring_32 : decode cX6_ring 32 = .ok (.iand, 1) := by sorry
theorem dX6_ring_33 : decode cX6_ring 33 = .ok (.istore_n 3, 1) := by sorry
theorem dX6_ring_34 : decode cX6_ring 34 = .ok (.iload_n 2, 1) := by sorry
theorem dX6_ring_35 : decode cX6_ring 35 = .ok (.ifCond .eq 11, 3) := by sorry
theorem dX6_ring_38 : decode cX6_ring 38 = .ok (.iload_n 2, 1) := by sorry
theorem dX6_ring_39 : decode cX6_ring 39 = .ok (.iload_n 3, 1) := by sorry
theorem dX6_ring_40 : decode cX6_ring 40 = .ok (.iconst (-1), 1) := by sorry
theorem dX6_ring_41 : decode cX6_ring 41 = .ok (.ixor, 1) := by sorry
theorem dX6_ring_42 : decode cX6_ring 42 = .ok (.iand, 1) := by sorry
theorem dX6_ring_43 : decode cX6_ring 43 = .ok (.ifCond .eq 13, 3) := by sorry
theorem dX6_ring_46 : decode cX6_ring 46 = .ok (.new 66, 3) := by sorry
theorem dX6_ring_49 : decode cX6_ring 49 = .ok (.dup, 1) := by sorry
theorem dX6_ring_50 : decode cX6_ring 50 = .ok (.ldc 121, 2) := by sorry
theorem dX6_ring_52 : decode cX6_ring 52 = .ok (.invokespecial 70, 3) := by sorry
theorem dX6_ring_55 : decode cX6_ring 55 = .ok (.athrow, 1) := by sorry
theorem dX6_ring_56 : decode cX6_ring 56 = .ok (.iload_n 1, 1) := by sorry
theorem dX6_ring_57 : decode cX6_ring 57 = .ok (.iload_n 2, 1) := by sorry
theorem dX6_ring_58 : decode cX6_ring 58 = .ok (.invokestatic 123, 3) := by sorry
theorem dX6_ring_61 : decode cX6_ring 61 = .ok (.iconst 5, 1) := by sorry
theorem dX6_ring_62 : decode cX6_ring 62 = .ok (.if_icmp .le 13, 3) := by sorry
theorem dX6_ring_65 : decode cX6_ring 65 = .ok (.new 66, 3) := by sorry
theorem dX6_ring_68 : decode cX6_ring 68 = .ok (.dup, 1) := by sorry
theorem dX6_ring_69 : decode cX6_ring 69 = .ok (.ldc 108, 2) := by sorry
theorem dX6_ring_71 : decode cX6_ring 71 = .ok (.invokespecial 70, 3) := by sorry
theorem dX6_ring_74 : decode cX6_ring 74 = .ok (.athrow, 1) := by sorry
theorem dX6_ring_75 : decode cX6_ring 75 = .ok (.aload_n 0, 1) := by sorry
theorem dX6_ring_76 : decode cX6_ring 76 = .ok (.iload_n 1, 1) := by sorry
theorem dX6_ring_77 : decode cX6_ring 77 = .ok (.iload_n 2, 1) := by sorry
theorem dX6_ring_78 : decode cX6_ring 78 = .ok (.invokevirtual 127, 3) := by sorry
theorem dX6_ring_81 : decode cX6_ring 81 = .ok (.aload_n 0, 1) := by sorry
theorem dX6_ring_82 : decode cX6_ring 82 = .ok (.getfield 26, 3) := by sorry
theorem dX6_ring_85 : decode cX6_ring 85 = .ok (.invokevirtual 80, 3) := by sorry
theorem dX6_ring_88 : decode cX6_ring 88 = .ok (.aload_n 0, 1) := by sorry
theorem dX6_ring_89 : decode cX6_ring 89 = .ok (.getfield 33, 3) := by sorry
theorem dX6_ring_92 : decode cX6_ring 92 = .ok (.aload_n 0, 1) := by sorry
theorem dX6_ring_93 : decode cX6_ring 93 = .ok (.getfield 12, 3) := by sorry
theorem dX6_ring_96 : decode cX6_ring 96 = .ok (.invokevirtual 83, 3) := by sorry
theorem dX6_ring_99 : decode cX6_ring 99 = .ok (.aload_n 0, 1) := by sorry
theorem dX6_ring_100 : decode cX6_ring 100 = .ok (.getfield 12, 3) := by sorry
theorem dX6_ring_103 : decode cX6_ring 103 = .ok (.invokevirtual 130, 3) := by sorry
theorem dX6_ring_106 : decode cX6_ring 106 = .ok (.ireturn, 1) := by sorry
theorem ggX6_doubled_X3_edgesInAll : GoodIn wsX6_doubled wsX3_edgesInAll := by sorry
theorem gX6_doubled_X3_edgesInAll_n130 : GoodIn wsX6_doubled (wsX3_edgesInAll) := by sorry
theorem ggX6_doubled_X6_isSetBelow : GoodIn wsX6_doubled wsX6_isSetBelow := by sorry
theorem gX6_doubled_X6_isSetBelow : GoodIn wsX6_doubled (va_wsS RX6 134 yX6_isSetBelow wsX6_isSetBelow) := by sorry
theorem ggX6_doubled_X6_isWithin : GoodIn wsX6_doubled wsX6_isWithin := by sorry
theorem gX6_doubled_X6_isWithin : GoodIn wsX6_doubled (va_wsS RX6 62 yX6_isWithin wsX6_isWithin) := by sorry
theorem ggX6_doubled_X6_layDouble : GoodIn wsX6_doubled wsX6_layDouble := by sorry
theorem gX6_doubled_X6_layDouble : GoodIn wsX6_doubled (wsV RX6 141 RX6 yX6_layDouble wsX6_layDouble) := by sorry
theorem ggX6_doubled_X3_take : GoodIn wsX6_doubled wsX3_take := by sorry
theorem gX6_doubled_X3_take_n144 : GoodIn wsX6_doubled (wsX3_take) := by sorry
theorem ggX6_doubled_X0_end : GoodIn wsX6_doubled wsX0_end := by sorry
theorem gX6_doubled_X0_end_n80 : GoodIn wsX6_doubled (wsX0_end) := by sorry
theorem ggX6_doubled_X1_look : GoodIn wsX6_doubled wsX1_look := by sorry
theorem gX6_doubled_X1_look_n83 : GoodIn wsX6_doubled (wsX1_look) := by sorry
theorem ggX6_doubled_X5_leastRing : GoodIn wsX6_doubled wsX5_leastRing := by sorry
theorem gX6_doubled_X5_leastRing_n147 : GoodIn wsX6_doubled (wsX5_leastRing) := by sorry
theorem dX6_doubled_0 : decode cX6_doubled 0 = .ok (.iload_n 1, 1) := by sorry
theorem dX6_doubled_1 : decode cX6_doubled 1 = .ok (.aload_n 0, 1) := by sorry
theorem dX6_doubled_2 : decode cX6_doubled 2 = .ok (.getfield 12, 3) := by sorry
theorem dX6_doubled_5 : decode cX6_doubled 5 = .ok (.invokevirtual 130, 3) := by sorry
theorem dX6_doubled_8 : decode cX6_doubled 8 = .ok (.invokestatic 134, 3) := by sorry
theorem dX6_doubled_11 : decode cX6_doubled 11 = .ok (.ifCond .ne 13, 3) := by sorry
theorem dX6_doubled_14 : decode cX6_doubled 14 = .ok (.new 66, 3) := by sorry
theorem dX6_doubled_17 : decode cX6_doubled 17 = .ok (.dup, 1) := by sorry
theorem dX6_doubled_18 : decode cX6_doubled 18 = .ok (.ldc 137, 2) := by sorry
theorem dX6_doubled_20 : decode cX6_doubled 20 = .ok (.invokespecial 70, 3) := by sorry
theorem dX6_doubled_23 : decode cX6_doubled 23 = .ok (.athrow, 1) := by sorry
theorem dX6_doubled_24 : decode cX6_doubled 24 = .ok (.aload_n 0, 1) := by sorry
theorem dX6_doubled_25 : decode cX6_doubled 25 = .ok (.getfield 12, 3) := by sorry
theorem dX6_doubled_28 : decode cX6_doubled 28 = .ok (.getfield 73, 3) := by sorry
theorem dX6_doubled_31 : decode cX6_doubled 31 = .ok (.iconst 3, 1) := by sorry
theorem dX6_doubled_32 : decode cX6_doubled 32 = .ok (.bipush 8, 2) := by sorry
theorem dX6_doubled_34 : decode cX6_doubled 34 = .ok (.invokestatic 62, 3) := by sorry
theorem dX6_doubled_37 : decode cX6_doubled 37 = .ok (.ifCond .ne 13, 3) := by sorry
theorem dX6_doubled_40 : decode cX6_doubled 40 = .ok (.new 106, 3) := by sorry
theorem dX6_doubled_43 : decode cX6_doubled 43 = .ok (.dup, 1) := by sorry
theorem dX6_doubled_44 : decode cX6_doubled 44 = .ok (.ldc 139, 2) := by sorry
theorem dX6_doubled_46 : decode cX6_doubled 46 = .ok (.invokespecial 110, 3) := by sorry
theorem dX6_doubled_49 : decode cX6_doubled 49 = .ok (.athrow, 1) := by sorry
theorem dX6_doubled_50 : decode cX6_doubled 50 = .ok (.aload_n 0, 1) := by sorry
theorem dX6_doubled_51 : decode cX6_doubled 51 = .ok (.iload_n 1, 1) := by sorry
theorem dX6_doubled_52 : decode cX6_doubled 52 = .ok (.invokevirtual 141, 3) := by sorry
theorem dX6_doubled_55 : decode cX6_doubled 55 = .ok (.aload_n 0, 1) := by sorry
theorem dX6_doubled_56 : decode cX6_doubled 56 = .ok (.getfield 12, 3) := by sorry
theorem dX6_doubled_59 : decode cX6_doubled 59 = .ok (.aload_n 0, 1) := by sorry
theorem dX6_doubled_60 : decode cX6_doubled 60 = .ok (.getfield 16, 3) := by sorry
theorem dX6_doubled_63 : decode cX6_doubled 63 = .ok (.invokevirtual 144, 3) := by sorry
theorem dX6_doubled_66 : decode cX6_doubled 66 = .ok (.aload_n 0, 1) := by sorry
theorem dX6_doubled_67 : decode cX6_doubled 67 = .ok (.getfield 26, 3) := by sorry
theorem dX6_doubled_70 : decode cX6_doubled 70 = .ok (.invokevirtual 80, 3) := by sorry
theorem dX6_doubled_73 : decode cX6_doubled 73 = .ok (.aload_n 0, 1) := by sorry
theorem dX6_doubled_74 : decode cX6_doubled 74 = .ok (.getfield 33, 3) := by sorry
theorem dX6_doubled_77 : decode cX6_doubled 77 = .ok (.aload_n 0, 1) := by sorry
theorem dX6_doubled_78 : decode cX6_doubled 78 = .ok (.getfield 12, 3) := by sorry
theorem dX6_doubled_81 : decode cX6_doubled 81 = .ok (.invokevirtual 83, 3) := by sorry
theorem dX6_doubled_84 : decode cX6_doubled 84 = .ok (.aload_n 0, 1) := by sorry
theorem dX6_doubled_85 : decode cX6_doubled 85 = .ok (.getfield 12, 3) := by sorry
theorem dX6_doubled_88 : decode cX6_doubled 88 = .ok (.invokestatic 147, 3) := by sorry
theorem dX6_doubled_91 : decode cX6_doubled 91 = .ok (.ireturn, 1) := by sorry
theorem ggX6_swap_X3_edgeAt : GoodIn wsX6_swap wsX3_edgeAt := by sorry
theorem gX6_swap_X3_edgeAt_n153 : GoodIn wsX6_swap (wsX3_edgeAt) := by sorry
theorem ggX6_swap_X6_turned : GoodIn wsX6_swap wsX6_turned := by sorry
end
section
theorem gX6_swap_X6_turned : GoodIn wsX6_swap (va_wsS RX6 158 yX6_turned wsX6_turned) := by sorry
theorem ggX6_swap_X6_canExchange : GoodIn wsX6_swap wsX6_canExchange := by sorry
theorem gX6_swap_X6_canExchange : GoodIn wsX6_swap (wsV RX6 162 RX6 yX6_canExchange wsX6_canExchange) := by sorry
theorem ggX6_swap_X6_exchange : GoodIn wsX6_swap wsX6_exchange := by sorry
theorem gX6_swap_X6_exchange : GoodIn wsX6_swap (wsV RX6 165 RX6 yX6_exchange wsX6_exchange) := by sorry
theorem ggX6_swap_X0_end : GoodIn wsX6_swap wsX0_end := by sorry
theorem gX6_swap_X0_end_n80 : GoodIn wsX6_swap (wsX0_end) := by sorry
theorem ggX6_swap_X1_look : GoodIn wsX6_swap wsX1_look := by sorry
theorem gX6_swap_X1_look_n83 : GoodIn wsX6_swap (wsX1_look) := by sorry
theorem dX6_swap_0 : decode cX6_swap 0 = .ok (.aload_n 0, 1) := by sorry
theorem dX6_swap_1 : decode cX6_swap 1 = .ok (.getfield 12, 3) := by sorry
theorem dX6_swap_4 : decode cX6_swap 4 = .ok (.iload_n 1, 1) := by sorry
theorem dX6_swap_5 : decode cX6_swap 5 = .ok (.invokevirtual 153, 3) := by sorry
theorem dX6_swap_8 : decode cX6_swap 8 = .ok (.istore 4, 2) := by sorry
theorem dX6_swap_10 : decode cX6_swap 10 = .ok (.aload_n 0, 1) := by sorry
theorem dX6_swap_11 : decode cX6_swap 11 = .ok (.getfield 12, 3) := by sorry
theorem dX6_swap_14 : decode cX6_swap 14 = .ok (.iload_n 2, 1) := by sorry
theorem dX6_swap_15 : decode cX6_swap 15 = .ok (.invokevirtual 153, 3) := by sorry
theorem dX6_swap_18 : decode cX6_swap 18 = .ok (.istore 5, 2) := by sorry
theorem dX6_swap_20 : decode cX6_swap 20 = .ok (.iload 4, 2) := by sorry
theorem dX6_swap_22 : decode cX6_swap 22 = .ok (.iconst (-1), 1) := by sorry
theorem dX6_swap_23 : decode cX6_swap 23 = .ok (.if_icmp .eq 9, 3) := by sorry
theorem dX6_swap_26 : decode cX6_swap 26 = .ok (.iload 5, 2) := by sorry
theorem dX6_swap_28 : decode cX6_swap 28 = .ok (.iconst (-1), 1) := by sorry
theorem dX6_swap_29 : decode cX6_swap 29 = .ok (.if_icmp .ne 13, 3) := by sorry
theorem dX6_swap_32 : decode cX6_swap 32 = .ok (.new 91, 3) := by sorry
theorem dX6_swap_35 : decode cX6_swap 35 = .ok (.dup, 1) := by sorry
theorem dX6_swap_36 : decode cX6_swap 36 = .ok (.ldc 156, 2) := by sorry
theorem dX6_swap_38 : decode cX6_swap 38 = .ok (.invokespecial 95, 3) := by sorry
theorem dX6_swap_41 : decode cX6_swap 41 = .ok (.athrow, 1) := by sorry
theorem dX6_swap_42 : decode cX6_swap 42 = .ok (.aload_n 0, 1) := by sorry
theorem dX6_swap_43 : decode cX6_swap 43 = .ok (.iload 4, 2) := by sorry
theorem dX6_swap_45 : decode cX6_swap 45 = .ok (.iload 5, 2) := by sorry
theorem dX6_swap_47 : decode cX6_swap 47 = .ok (.iload_n 3, 1) := by sorry
theorem dX6_swap_48 : decode cX6_swap 48 = .ok (.invokestatic 158, 3) := by sorry
theorem dX6_swap_51 : decode cX6_swap 51 = .ok (.invokevirtual 162, 3) := by sorry
theorem dX6_swap_54 : decode cX6_swap 54 = .ok (.ifCond .ne 5, 3) := by sorry
theorem dX6_swap_57 : decode cX6_swap 57 = .ok (.iconst 0, 1) := by sorry
theorem dX6_swap_58 : decode cX6_swap 58 = .ok (.ireturn, 1) := by sorry
theorem dX6_swap_59 : decode cX6_swap 59 = .ok (.aload_n 0, 1) := by sorry
theorem dX6_swap_60 : decode cX6_swap 60 = .ok (.iload 4, 2) := by sorry
theorem dX6_swap_62 : decode cX6_swap 62 = .ok (.iload 5, 2) := by sorry
theorem dX6_swap_64 : decode cX6_swap 64 = .ok (.iload_n 3, 1) := by sorry
theorem dX6_swap_65 : decode cX6_swap 65 = .ok (.invokestatic 158, 3) := by sorry
theorem dX6_swap_68 : decode cX6_swap 68 = .ok (.invokevirtual 165, 3) := by sorry
theorem dX6_swap_71 : decode cX6_swap 71 = .ok (.aload_n 0, 1) := by sorry
theorem dX6_swap_72 : decode cX6_swap 72 = .ok (.getfield 26, 3) := by sorry
theorem dX6_swap_75 : decode cX6_swap 75 = .ok (.invokevirtual 80, 3) := by sorry
theorem dX6_swap_78 : decode cX6_swap 78 = .ok (.aload_n 0, 1) := by sorry
theorem dX6_swap_79 : decode cX6_swap 79 = .ok (.getfield 33, 3) := by sorry
theorem dX6_swap_82 : decode cX6_swap 82 = .ok (.aload_n 0, 1) := by sorry
theorem dX6_swap_83 : decode cX6_swap 83 = .ok (.getfield 12, 3) := by sorry
theorem dX6_swap_86 : decode cX6_swap 86 = .ok (.invokevirtual 83, 3) := by sorry
theorem dX6_swap_89 : decode cX6_swap 89 = .ok (.iconst 1, 1) := by sorry
theorem dX6_swap_90 : decode cX6_swap 90 = .ok (.ireturn, 1) := by sorry
theorem ggX6_mend_X6_isWithin : GoodIn wsX6_mend wsX6_isWithin := by sorry
theorem gX6_mend_X6_isWithin : GoodIn wsX6_mend (va_wsS RX6 62 yX6_isWithin wsX6_isWithin) := by sorry
theorem ggX6_mend_X3_edgesInAll : GoodIn wsX6_mend wsX3_edgesInAll := by sorry
theorem gX6_mend_X3_edgesInAll_n130 : GoodIn wsX6_mend (wsX3_edgesInAll) := by sorry
theorem ggX6_mend_X6_mendByRounds : GoodIn wsX6_mend wsX6_mendByRounds := by sorry
theorem gX6_mend_X6_mendByRounds : GoodIn wsX6_mend (wsV RX6 176 RX6 yX6_mendByRounds wsX6_mendByRounds) := by sorry
theorem ggX6_mend_X0_end : GoodIn wsX6_mend wsX0_end := by sorry
theorem gX6_mend_X0_end_n80 : GoodIn wsX6_mend (wsX0_end) := by sorry
theorem ggX6_mend_X1_look : GoodIn wsX6_mend wsX1_look := by sorry
theorem gX6_mend_X1_look_n83 : GoodIn wsX6_mend (wsX1_look) := by sorry
theorem dX6_mend_0 : decode cX6_mend 0 = .ok (.iload_n 1, 1) := by sorry
theorem dX6_mend_1 : decode cX6_mend 1 = .ok (.iconst 4, 1) := by sorry
theorem dX6_mend_2 : decode cX6_mend 2 = .ok (.bipush 8, 2) := by sorry
theorem dX6_mend_4 : decode cX6_mend 4 = .ok (.invokestatic 62, 3) := by sorry
theorem dX6_mend_7 : decode cX6_mend 7 = .ok (.ifCond .ne 13, 3) := by sorry
theorem dX6_mend_10 : decode cX6_mend 10 = .ok (.new 66, 3) := by sorry
theorem dX6_mend_13 : decode cX6_mend 13 = .ok (.dup, 1) := by sorry
theorem dX6_mend_14 : decode cX6_mend 14 = .ok (.ldc 168, 2) := by sorry
theorem dX6_mend_16 : decode cX6_mend 16 = .ok (.invokespecial 70, 3) := by sorry
theorem dX6_mend_19 : decode cX6_mend 19 = .ok (.athrow, 1) := by sorry
theorem dX6_mend_20 : decode cX6_mend 20 = .ok (.iload_n 2, 1) := by sorry
theorem dX6_mend_21 : decode cX6_mend 21 = .ok (.iconst 0, 1) := by sorry
theorem dX6_mend_22 : decode cX6_mend 22 = .ok (.sipush 9999, 3) := by sorry
theorem dX6_mend_25 : decode cX6_mend 25 = .ok (.invokestatic 62, 3) := by sorry
theorem dX6_mend_28 : decode cX6_mend 28 = .ok (.ifCond .ne 13, 3) := by sorry
theorem dX6_mend_31 : decode cX6_mend 31 = .ok (.new 66, 3) := by sorry
theorem dX6_mend_34 : decode cX6_mend 34 = .ok (.dup, 1) := by sorry
theorem dX6_mend_35 : decode cX6_mend 35 = .ok (.ldc 170, 2) := by sorry
theorem dX6_mend_37 : decode cX6_mend 37 = .ok (.invokespecial 70, 3) := by sorry
theorem dX6_mend_40 : decode cX6_mend 40 = .ok (.athrow, 1) := by sorry
theorem dX6_mend_41 : decode cX6_mend 41 = .ok (.iload_n 3, 1) := by sorry
theorem dX6_mend_42 : decode cX6_mend 42 = .ok (.iconst 1, 1) := by sorry
theorem dX6_mend_43 : decode cX6_mend 43 = .ok (.bipush 20, 2) := by sorry
theorem dX6_mend_45 : decode cX6_mend 45 = .ok (.invokestatic 62, 3) := by sorry
theorem dX6_mend_48 : decode cX6_mend 48 = .ok (.ifCond .ne 13, 3) := by sorry
theorem dX6_mend_51 : decode cX6_mend 51 = .ok (.new 66, 3) := by sorry
theorem dX6_mend_54 : decode cX6_mend 54 = .ok (.dup, 1) := by sorry
theorem dX6_mend_55 : decode cX6_mend 55 = .ok (.ldc 172, 2) := by sorry
theorem dX6_mend_57 : decode cX6_mend 57 = .ok (.invokespecial 70, 3) := by sorry
theorem dX6_mend_60 : decode cX6_mend 60 = .ok (.athrow, 1) := by sorry
theorem dX6_mend_61 : decode cX6_mend 61 = .ok (.aload_n 0, 1) := by sorry
theorem dX6_mend_62 : decode cX6_mend 62 = .ok (.getfield 12, 3) := by sorry
theorem dX6_mend_65 : decode cX6_mend 65 = .ok (.invokevirtual 130, 3) := by sorry
theorem dX6_mend_68 : decode cX6_mend 68 = .ok (.iconst 2, 1) := by sorry
theorem dX6_mend_69 : decode cX6_mend 69 = .ok (.if_icmp .ge 13, 3) := by sorry
theorem dX6_mend_72 : decode cX6_mend 72 = .ok (.new 106, 3) := by sorry
theorem dX6_mend_75 : decode cX6_mend 75 = .ok (.dup, 1) := by sorry
theorem dX6_mend_76 : decode cX6_mend 76 = .ok (.ldc 174, 2) := by sorry
theorem dX6_mend_78 : decode cX6_mend 78 = .ok (.invokespecial 110, 3) := by sorry
theorem dX6_mend_81 : decode cX6_mend 81 = .ok (.athrow, 1) := by sorry
theorem dX6_mend_82 : decode cX6_mend 82 = .ok (.aload_n 0, 1) := by sorry
theorem dX6_mend_83 : decode cX6_mend 83 = .ok (.iload_n 1, 1) := by sorry
theorem dX6_mend_84 : decode cX6_mend 84 = .ok (.iload_n 2, 1) := by sorry
theorem dX6_mend_85 : decode cX6_mend 85 = .ok (.iload_n 3, 1) := by sorry
theorem dX6_mend_86 : decode cX6_mend 86 = .ok (.invokevirtual 176, 3) := by sorry
theorem dX6_mend_89 : decode cX6_mend 89 = .ok (.istore 4, 2) := by sorry
theorem dX6_mend_91 : decode cX6_mend 91 = .ok (.aload_n 0, 1) := by sorry
theorem dX6_mend_92 : decode cX6_mend 92 = .ok (.getfield 26, 3) := by sorry
theorem dX6_mend_95 : decode cX6_mend 95 = .ok (.invokevirtual 80, 3) := by sorry
theorem dX6_mend_98 : decode cX6_mend 98 = .ok (.aload_n 0, 1) := by sorry
theorem dX6_mend_99 : decode cX6_mend 99 = .ok (.getfield 33, 3) := by sorry
theorem dX6_mend_102 : decode cX6_mend 102 = .ok (.aload_n 0, 1) := by sorry
theorem dX6_mend_103 : decode cX6_mend 103 = .ok (.getfield 12, 3) := by sorry
theorem dX6_mend_106 : decode cX6_mend 106 = .ok (.invokevirtual 83, 3) := by sorry
theorem dX6_mend_109 : decode cX6_mend 109 = .ok (.iload 4, 2) := by sorry
theorem dX6_mend_111 : decode cX6_mend 111 = .ok (.ireturn, 1) := by sorry
theorem ggX6_aim_X6_requireTabled : GoodIn wsX6_aim wsX6_requireTabled := by sorry
theorem gX6_aim_X6_requireTabled : GoodIn wsX6_aim (wsV RX6 180 RX6 yX6_requireTabled wsX6_requireTabled) := by sorry
theorem ggX6_aim_X3_lay : GoodIn wsX6_aim wsX3_lay := by sorry
theorem gX6_aim_X3_lay_n76 : GoodIn wsX6_aim (wsX3_lay) := by sorry
theorem ggX6_aim_X0_begin : GoodIn wsX6_aim wsX0_begin := by sorry
theorem gX6_aim_X0_begin_n185 : GoodIn wsX6_aim (wsX0_begin) := by sorry
theorem ggX6_aim_X1_look : GoodIn wsX6_aim wsX1_look := by sorry
theorem gX6_aim_X1_look_n83 : GoodIn wsX6_aim (wsX1_look) := by sorry
theorem ggX6_aim_X1_why : GoodIn wsX6_aim wsX1_why := by sorry
theorem gX6_aim_X1_why_n188 : GoodIn wsX6_aim (wsX1_why) := by sorry
theorem dX6_aim_0 : decode cX6_aim 0 = .ok (.aload_n 0, 1) := by sorry
theorem dX6_aim_1 : decode cX6_aim 1 = .ok (.iload_n 1, 1) := by sorry
theorem dX6_aim_2 : decode cX6_aim 2 = .ok (.iload_n 2, 1) := by sorry
theorem dX6_aim_3 : decode cX6_aim 3 = .ok (.invokevirtual 180, 3) := by sorry
theorem dX6_aim_6 : decode cX6_aim 6 = .ok (.aload_n 0, 1) := by sorry
theorem dX6_aim_7 : decode cX6_aim 7 = .ok (.getfield 12, 3) := by sorry
theorem dX6_aim_10 : decode cX6_aim 10 = .ok (.getfield 73, 3) := by sorry
theorem dX6_aim_13 : decode cX6_aim 13 = .ok (.ifCond .ne 13, 3) := by sorry
theorem dX6_aim_16 : decode cX6_aim 16 = .ok (.new 106, 3) := by sorry
theorem dX6_aim_19 : decode cX6_aim 19 = .ok (.dup, 1) := by sorry
theorem dX6_aim_20 : decode cX6_aim 20 = .ok (.ldc 183, 2) := by sorry
theorem dX6_aim_22 : decode cX6_aim 22 = .ok (.invokespecial 110, 3) := by sorry
theorem dX6_aim_25 : decode cX6_aim 25 = .ok (.athrow, 1) := by sorry
theorem dX6_aim_26 : decode cX6_aim 26 = .ok (.aload_n 0, 1) := by sorry
theorem dX6_aim_27 : decode cX6_aim 27 = .ok (.getfield 12, 3) := by sorry
theorem dX6_aim_30 : decode cX6_aim 30 = .ok (.aload_n 0, 1) := by sorry
theorem dX6_aim_31 : decode cX6_aim 31 = .ok (.getfield 12, 3) := by sorry
theorem dX6_aim_34 : decode cX6_aim 34 = .ok (.getfield 73, 3) := by sorry
theorem dX6_aim_37 : decode cX6_aim 37 = .ok (.invokevirtual 76, 3) := by sorry
theorem dX6_aim_40 : decode cX6_aim 40 = .ok (.aload_n 0, 1) := by sorry
theorem dX6_aim_41 : decode cX6_aim 41 = .ok (.getfield 26, 3) := by sorry
theorem dX6_aim_44 : decode cX6_aim 44 = .ok (.iload_n 1, 1) := by sorry
theorem dX6_aim_45 : decode cX6_aim 45 = .ok (.iload_n 2, 1) := by sorry
theorem dX6_aim_46 : decode cX6_aim 46 = .ok (.invokevirtual 185, 3) := by sorry
theorem dX6_aim_49 : decode cX6_aim 49 = .ok (.aload_n 0, 1) := by sorry
theorem dX6_aim_50 : decode cX6_aim 50 = .ok (.getfield 33, 3) := by sorry
theorem dX6_aim_53 : decode cX6_aim 53 = .ok (.aload_n 0, 1) := by sorry
theorem dX6_aim_54 : decode cX6_aim 54 = .ok (.getfield 12, 3) := by sorry
theorem dX6_aim_57 : decode cX6_aim 57 = .ok (.invokevirtual 83, 3) := by sorry
theorem dX6_aim_60 : decode cX6_aim 60 = .ok (.aload_n 0, 1) := by sorry
theorem dX6_aim_61 : decode cX6_aim 61 = .ok (.getfield 33, 3) := by sorry
theorem dX6_aim_64 : decode cX6_aim 64 = .ok (.aload_n 0, 1) := by sorry
theorem dX6_aim_65 : decode cX6_aim 65 = .ok (.getfield 12, 3) := by sorry
theorem dX6_aim_68 : decode cX6_aim 68 = .ok (.getfield 73, 3) := by sorry
theorem dX6_aim_71 : decode cX6_aim 71 = .ok (.iload_n 1, 1) := by sorry
theorem dX6_aim_72 : decode cX6_aim 72 = .ok (.iload_n 2, 1) := by sorry
theorem dX6_aim_73 : decode cX6_aim 73 = .ok (.invokevirtual 188, 3) := by sorry
theorem dX6_aim_76 : decode cX6_aim 76 = .ok (.ireturn, 1) := by sorry
theorem ggX6_grow_X6_isWithin : GoodIn wsX6_grow wsX6_isWithin := by sorry
theorem gX6_grow_X6_isWithin : GoodIn wsX6_grow (va_wsS RX6 62 yX6_isWithin wsX6_isWithin) := by sorry
theorem ggX6_grow_X0_step : GoodIn wsX6_grow wsX0_step := by sorry
theorem gX6_grow_X0_step_n202 : GoodIn wsX6_grow (wsX0_step) := by sorry
theorem ggX6_grow_X1_prove : GoodIn wsX6_grow wsX1_prove := by sorry
theorem gX6_grow_X1_prove_n211 : GoodIn wsX6_grow (wsX1_prove) := by sorry
theorem ggX6_grow_X1_look : GoodIn wsX6_grow wsX1_look := by sorry
theorem gX6_grow_X1_look_n83 : GoodIn wsX6_grow (wsX1_look) := by sorry
theorem dX6_grow_0 : decode cX6_grow 0 = .ok (.iload_n 1, 1) := by sorry
theorem dX6_grow_1 : decode cX6_grow 1 = .ok (.iconst 1, 1) := by sorry
theorem dX6_grow_2 : decode cX6_grow 2 = .ok (.sipush 400, 3) := by sorry
theorem dX6_grow_5 : decode cX6_grow 5 = .ok (.invokestatic 62, 3) := by sorry
theorem dX6_grow_8 : decode cX6_grow 8 = .ok (.ifCond .ne 13, 3) := by sorry
theorem dX6_grow_11 : decode cX6_grow 11 = .ok (.new 66, 3) := by sorry
theorem dX6_grow_14 : decode cX6_grow 14 = .ok (.dup, 1) := by sorry
theorem dX6_grow_15 : decode cX6_grow 15 = .ok (.ldc 191, 2) := by sorry
theorem dX6_grow_17 : decode cX6_grow 17 = .ok (.invokespecial 70, 3) := by sorry
theorem dX6_grow_20 : decode cX6_grow 20 = .ok (.athrow, 1) := by sorry
theorem dX6_grow_21 : decode cX6_grow 21 = .ok (.aload_n 0, 1) := by sorry
theorem dX6_grow_22 : decode cX6_grow 22 = .ok (.getfield 26, 3) := by sorry
theorem dX6_grow_25 : decode cX6_grow 25 = .ok (.getfield 193, 3) := by sorry
theorem dX6_grow_28 : decode cX6_grow 28 = .ok (.ifCond .ne 13, 3) := by sorry
theorem dX6_grow_31 : decode cX6_grow 31 = .ok (.new 106, 3) := by sorry
theorem dX6_grow_34 : decode cX6_grow 34 = .ok (.dup, 1) := by sorry
theorem dX6_grow_35 : decode cX6_grow 35 = .ok (.ldc 197, 2) := by sorry
theorem dX6_grow_37 : decode cX6_grow 37 = .ok (.invokespecial 110, 3) := by sorry
theorem dX6_grow_40 : decode cX6_grow 40 = .ok (.athrow, 1) := by sorry
theorem dX6_grow_41 : decode cX6_grow 41 = .ok (.iconst 0, 1) := by sorry
theorem dX6_grow_42 : decode cX6_grow 42 = .ok (.istore_n 2, 1) := by sorry
theorem dX6_grow_43 : decode cX6_grow 43 = .ok (.iload_n 2, 1) := by sorry
theorem dX6_grow_44 : decode cX6_grow 44 = .ok (.iload_n 1, 1) := by sorry
theorem dX6_grow_45 : decode cX6_grow 45 = .ok (.if_icmp .ge 30, 3) := by sorry
theorem dX6_grow_48 : decode cX6_grow 48 = .ok (.aload_n 0, 1) := by sorry
theorem dX6_grow_49 : decode cX6_grow 49 = .ok (.getfield 26, 3) := by sorry
theorem dX6_grow_52 : decode cX6_grow 52 = .ok (.getfield 199, 3) := by sorry
theorem dX6_grow_55 : decode cX6_grow 55 = .ok (.ifCond .ne 20, 3) := by sorry
theorem dX6_grow_58 : decode cX6_grow 58 = .ok (.aload_n 0, 1) := by sorry
theorem dX6_grow_59 : decode cX6_grow 59 = .ok (.getfield 26, 3) := by sorry
theorem dX6_grow_62 : decode cX6_grow 62 = .ok (.aload_n 0, 1) := by sorry
theorem dX6_grow_63 : decode cX6_grow 63 = .ok (.getfield 12, 3) := by sorry
theorem dX6_grow_66 : decode cX6_grow 66 = .ok (.invokevirtual 202, 3) := by sorry
theorem dX6_grow_69 : decode cX6_grow 69 = .ok (.iinc 2 1, 3) := by sorry
theorem dX6_grow_72 : decode cX6_grow 72 = .ok (.goto (-29), 3) := by sorry
theorem dX6_grow_75 : decode cX6_grow 75 = .ok (.aload_n 0, 1) := by sorry
theorem dX6_grow_76 : decode cX6_grow 76 = .ok (.getfield 26, 3) := by sorry
theorem dX6_grow_79 : decode cX6_grow 79 = .ok (.getfield 199, 3) := by sorry
theorem dX6_grow_82 : decode cX6_grow 82 = .ok (.iconst 2, 1) := by sorry
theorem dX6_grow_83 : decode cX6_grow 83 = .ok (.if_icmp .ne 31, 3) := by sorry
theorem dX6_grow_86 : decode cX6_grow 86 = .ok (.aload_n 0, 1) := by sorry
theorem dX6_grow_87 : decode cX6_grow 87 = .ok (.getfield 33, 3) := by sorry
theorem dX6_grow_90 : decode cX6_grow 90 = .ok (.aload_n 0, 1) := by sorry
theorem dX6_grow_91 : decode cX6_grow 91 = .ok (.getfield 12, 3) := by sorry
theorem dX6_grow_94 : decode cX6_grow 94 = .ok (.getfield 73, 3) := by sorry
theorem dX6_grow_97 : decode cX6_grow 97 = .ok (.aload_n 0, 1) := by sorry
theorem dX6_grow_98 : decode cX6_grow 98 = .ok (.getfield 26, 3) := by sorry
theorem dX6_grow_101 : decode cX6_grow 101 = .ok (.getfield 205, 3) := by sorry
theorem dX6_grow_104 : decode cX6_grow 104 = .ok (.aload_n 0, 1) := by sorry
theorem dX6_grow_105 : decode cX6_grow 105 = .ok (.getfield 26, 3) := by sorry
theorem dX6_grow_108 : decode cX6_grow 108 = .ok (.getfield 208, 3) := by sorry
theorem dX6_grow_111 : decode cX6_grow 111 = .ok (.invokevirtual 211, 3) := by sorry
theorem dX6_grow_114 : decode cX6_grow 114 = .ok (.aload_n 0, 1) := by sorry
theorem dX6_grow_115 : decode cX6_grow 115 = .ok (.getfield 33, 3) := by sorry
theorem dX6_grow_118 : decode cX6_grow 118 = .ok (.aload_n 0, 1) := by sorry
theorem dX6_grow_119 : decode cX6_grow 119 = .ok (.getfield 12, 3) := by sorry
theorem dX6_grow_122 : decode cX6_grow 122 = .ok (.invokevirtual 83, 3) := by sorry
theorem dX6_grow_125 : decode cX6_grow 125 = .ok (.aload_n 0, 1) := by sorry
theorem dX6_grow_126 : decode cX6_grow 126 = .ok (.getfield 26, 3) := by sorry
theorem dX6_grow_129 : decode cX6_grow 129 = .ok (.getfield 199, 3) := by sorry
theorem dX6_grow_132 : decode cX6_grow 132 = .ok (.ireturn, 1) := by sorry
theorem ggX6_search_X6_isWithin : GoodIn wsX6_search wsX6_isWithin := by sorry
theorem gX6_search_X6_isWithin : GoodIn wsX6_search (va_wsS RX6 62 yX6_isWithin wsX6_isWithin) := by sorry
theorem ggX6_search_X0_nextKnot : GoodIn wsX6_search wsX0_nextKnot := by sorry
theorem gX6_search_X0_nextKnot_n226 : GoodIn wsX6_search (wsX0_nextKnot) := by sorry
theorem ggX6_search_X0_partnerOf : GoodIn wsX6_search wsX0_partnerOf := by sorry
theorem gX6_search_X0_partnerOf_n229 : GoodIn wsX6_search (wsX0_partnerOf) := by sorry
theorem dX6_search_0 : decode cX6_search 0 = .ok (.iload_n 1, 1) := by sorry
theorem dX6_search_1 : decode cX6_search 1 = .ok (.iconst 0, 1) := by sorry
theorem dX6_search_2 : decode cX6_search 2 = .ok (.bipush 7, 2) := by sorry
theorem dX6_search_4 : decode cX6_search 4 = .ok (.invokestatic 62, 3) := by sorry
theorem dX6_search_7 : decode cX6_search 7 = .ok (.ifCond .ne 13, 3) := by sorry
theorem dX6_search_10 : decode cX6_search 10 = .ok (.new 66, 3) := by sorry
theorem dX6_search_13 : decode cX6_search 13 = .ok (.dup, 1) := by sorry
theorem dX6_search_14 : decode cX6_search 14 = .ok (.ldc 215, 2) := by sorry
theorem dX6_search_16 : decode cX6_search 16 = .ok (.invokespecial 70, 3) := by sorry
theorem dX6_search_19 : decode cX6_search 19 = .ok (.athrow, 1) := by sorry
theorem dX6_search_20 : decode cX6_search 20 = .ok (.aload_n 0, 1) := by sorry
theorem dX6_search_21 : decode cX6_search 21 = .ok (.getfield 26, 3) := by sorry
theorem dX6_search_24 : decode cX6_search 24 = .ok (.getfield 193, 3) := by sorry
theorem dX6_search_27 : decode cX6_search 27 = .ok (.ifCond .ne 5, 3) := by sorry
theorem dX6_search_30 : decode cX6_search 30 = .ok (.iconst (-1), 1) := by sorry
theorem dX6_search_31 : decode cX6_search 31 = .ok (.ireturn, 1) := by sorry
theorem dX6_search_32 : decode cX6_search 32 = .ok (.iload_n 1, 1) := by sorry
theorem dX6_search_33 : decode cX6_search 33 = .ok (.tableswitch 103 0 6 #[43, 51, 59, 67, 75, 83, 91], 43) := by sorry
theorem dX6_search_76 : decode cX6_search 76 = .ok (.aload_n 0, 1) := by sorry
theorem dX6_search_77 : decode cX6_search 77 = .ok (.getfield 26, 3) := by sorry
theorem dX6_search_80 : decode cX6_search 80 = .ok (.getfield 205, 3) := by sorry
theorem dX6_search_83 : decode cX6_search 83 = .ok (.ireturn, 1) := by sorry
theorem dX6_search_84 : decode cX6_search 84 = .ok (.aload_n 0, 1) := by sorry
theorem dX6_search_85 : decode cX6_search 85 = .ok (.getfield 26, 3) := by sorry
theorem dX6_search_88 : decode cX6_search 88 = .ok (.getfield 208, 3) := by sorry
theorem dX6_search_91 : decode cX6_search 91 = .ok (.ireturn, 1) := by sorry
theorem dX6_search_92 : decode cX6_search 92 = .ok (.aload_n 0, 1) := by sorry
theorem dX6_search_93 : decode cX6_search 93 = .ok (.getfield 26, 3) := by sorry
theorem dX6_search_96 : decode cX6_search 96 = .ok (.getfield 217, 3) := by sorry
theorem dX6_search_99 : decode cX6_search 99 = .ok (.ireturn, 1) := by sorry
theorem dX6_search_100 : decode cX6_search 100 = .ok (.aload_n 0, 1) := by sorry
theorem dX6_search_101 : decode cX6_search 101 = .ok (.getfield 26, 3) := by sorry
theorem dX6_search_104 : decode cX6_search 104 = .ok (.getfield 220, 3) := by sorry
theorem dX6_search_107 : decode cX6_search 107 = .ok (.ireturn, 1) := by sorry
theorem dX6_search_108 : decode cX6_search 108 = .ok (.aload_n 0, 1) := by sorry
theorem dX6_search_109 : decode cX6_search 109 = .ok (.getfield 26, 3) := by sorry
theorem dX6_search_112 : decode cX6_search 112 = .ok (.getfield 223, 3) := by sorry
theorem dX6_search_115 : decode cX6_search 115 = .ok (.ireturn, 1) := by sorry
theorem dX6_search_116 : decode cX6_search 116 = .ok (.aload_n 0, 1) := by sorry
theorem dX6_search_117 : decode cX6_search 117 = .ok (.getfield 26, 3) := by sorry
theorem dX6_search_120 : decode cX6_search 120 = .ok (.getfield 199, 3) := by sorry
theorem dX6_search_123 : decode cX6_search 123 = .ok (.ireturn, 1) := by sorry
theorem dX6_search_124 : decode cX6_search 124 = .ok (.aload_n 0, 1) := by sorry
theorem dX6_search_125 : decode cX6_search 125 = .ok (.getfield 26, 3) := by sorry
theorem dX6_search_128 : decode cX6_search 128 = .ok (.aload_n 0, 1) := by sorry
theorem dX6_search_129 : decode cX6_search 129 = .ok (.getfield 12, 3) := by sorry
theorem dX6_search_132 : decode cX6_search 132 = .ok (.invokevirtual 226, 3) := by sorry
theorem dX6_search_135 : decode cX6_search 135 = .ok (.ireturn, 1) := by sorry
theorem dX6_search_136 : decode cX6_search 136 = .ok (.aload_n 0, 1) := by sorry
theorem dX6_search_137 : decode cX6_search 137 = .ok (.getfield 26, 3) := by sorry
theorem dX6_search_140 : decode cX6_search 140 = .ok (.aload_n 0, 1) := by sorry
theorem dX6_search_141 : decode cX6_search 141 = .ok (.getfield 12, 3) := by sorry
theorem dX6_search_144 : decode cX6_search 144 = .ok (.aload_n 0, 1) := by sorry
theorem dX6_search_145 : decode cX6_search 145 = .ok (.getfield 26, 3) := by sorry
theorem dX6_search_148 : decode cX6_search 148 = .ok (.aload_n 0, 1) := by sorry
theorem dX6_search_149 : decode cX6_search 149 = .ok (.getfield 12, 3) := by sorry
theorem dX6_search_152 : decode cX6_search 152 = .ok (.invokevirtual 226, 3) := by sorry
theorem dX6_search_155 : decode cX6_search 155 = .ok (.invokevirtual 229, 3) := by sorry
theorem dX6_search_158 : decode cX6_search 158 = .ok (.ireturn, 1) := by sorry
theorem ggX6_now_X6_isWithin : GoodIn wsX6_now wsX6_isWithin := by sorry
theorem gX6_now_X6_isWithin : GoodIn wsX6_now (va_wsS RX6 62 yX6_isWithin wsX6_isWithin) := by sorry
theorem ggX6_now_X3_edgesInAll : GoodIn wsX6_now wsX3_edgesInAll := by sorry
theorem gX6_now_X3_edgesInAll_n130 : GoodIn wsX6_now (wsX3_edgesInAll) := by sorry
theorem ggX6_now_X5_partsInAll : GoodIn wsX6_now wsX5_partsInAll := by sorry
theorem gX6_now_X5_partsInAll_n235 : GoodIn wsX6_now (wsX5_partsInAll) := by sorry
theorem ggX6_now_X5_leastRing : GoodIn wsX6_now wsX5_leastRing := by sorry
theorem gX6_now_X5_leastRing_n147 : GoodIn wsX6_now (wsX5_leastRing) := by sorry
theorem ggX6_now_X3_evenCount : GoodIn wsX6_now wsX3_evenCount := by sorry
theorem gX6_now_X3_evenCount_n238 : GoodIn wsX6_now (wsX3_evenCount) := by sorry
theorem ggX6_now_X5_width : GoodIn wsX6_now wsX5_width := by sorry
theorem gX6_now_X5_width_n241 : GoodIn wsX6_now (wsX5_width) := by sorry
theorem ggX6_now_X4_fewest : GoodIn wsX6_now wsX4_fewest := by sorry
theorem gX6_now_X4_fewest_n244 : GoodIn wsX6_now (wsX4_fewest) := by sorry
theorem ggX6_now_X2_turnsOf : GoodIn wsX6_now wsX2_turnsOf := by sorry
theorem gX6_now_X2_turnsOf_n247 : GoodIn wsX6_now (wsX2_turnsOf) := by sorry
theorem ggX6_now_X3_loneliest : GoodIn wsX6_now wsX3_loneliest := by sorry
theorem gX6_now_X3_loneliest_n250 : GoodIn wsX6_now (wsX3_loneliest) := by sorry
theorem dX6_now_0 : decode cX6_now 0 = .ok (.iload_n 1, 1) := by sorry
theorem dX6_now_1 : decode cX6_now 1 = .ok (.iconst 0, 1) := by sorry
theorem dX6_now_2 : decode cX6_now 2 = .ok (.bipush 10, 2) := by sorry
theorem dX6_now_4 : decode cX6_now 4 = .ok (.invokestatic 62, 3) := by sorry
theorem dX6_now_7 : decode cX6_now 7 = .ok (.ifCond .ne 13, 3) := by sorry
theorem dX6_now_10 : decode cX6_now 10 = .ok (.new 66, 3) := by sorry
theorem dX6_now_13 : decode cX6_now 13 = .ok (.dup, 1) := by sorry
theorem dX6_now_14 : decode cX6_now 14 = .ok (.ldc 233, 2) := by sorry
theorem dX6_now_16 : decode cX6_now 16 = .ok (.invokespecial 70, 3) := by sorry
theorem dX6_now_19 : decode cX6_now 19 = .ok (.athrow, 1) := by sorry
theorem dX6_now_20 : decode cX6_now 20 = .ok (.iload_n 1, 1) := by sorry
theorem dX6_now_21 : decode cX6_now 21 = .ok (.tableswitch 140 0 9 #[55, 63, 71, 79, 87, 95, 103, 115, 127, 132], 55) := by sorry
theorem dX6_now_76 : decode cX6_now 76 = .ok (.aload_n 0, 1) := by sorry
theorem dX6_now_77 : decode cX6_now 77 = .ok (.getfield 12, 3) := by sorry
theorem dX6_now_80 : decode cX6_now 80 = .ok (.getfield 73, 3) := by sorry
theorem dX6_now_83 : decode cX6_now 83 = .ok (.ireturn, 1) := by sorry
theorem dX6_now_84 : decode cX6_now 84 = .ok (.aload_n 0, 1) := by sorry
theorem dX6_now_85 : decode cX6_now 85 = .ok (.getfield 12, 3) := by sorry
theorem dX6_now_88 : decode cX6_now 88 = .ok (.invokevirtual 130, 3) := by sorry
theorem dX6_now_91 : decode cX6_now 91 = .ok (.ireturn, 1) := by sorry
theorem dX6_now_92 : decode cX6_now 92 = .ok (.aload_n 0, 1) := by sorry
theorem dX6_now_93 : decode cX6_now 93 = .ok (.getfield 12, 3) := by sorry
theorem dX6_now_96 : decode cX6_now 96 = .ok (.invokestatic 235, 3) := by sorry
theorem dX6_now_99 : decode cX6_now 99 = .ok (.ireturn, 1) := by sorry
theorem dX6_now_100 : decode cX6_now 100 = .ok (.aload_n 0, 1) := by sorry
theorem dX6_now_101 : decode cX6_now 101 = .ok (.getfield 12, 3) := by sorry
theorem dX6_now_104 : decode cX6_now 104 = .ok (.invokestatic 147, 3) := by sorry
theorem dX6_now_107 : decode cX6_now 107 = .ok (.ireturn, 1) := by sorry
theorem dX6_now_108 : decode cX6_now 108 = .ok (.aload_n 0, 1) := by sorry
theorem dX6_now_109 : decode cX6_now 109 = .ok (.getfield 12, 3) := by sorry
theorem dX6_now_112 : decode cX6_now 112 = .ok (.invokevirtual 238, 3) := by sorry
theorem dX6_now_115 : decode cX6_now 115 = .ok (.ireturn, 1) := by sorry
theorem dX6_now_116 : decode cX6_now 116 = .ok (.aload_n 0, 1) := by sorry
theorem dX6_now_117 : decode cX6_now 117 = .ok (.getfield 12, 3) := by sorry
theorem dX6_now_120 : decode cX6_now 120 = .ok (.invokestatic 241, 3) := by sorry
theorem dX6_now_123 : decode cX6_now 123 = .ok (.ireturn, 1) := by sorry
theorem dX6_now_124 : decode cX6_now 124 = .ok (.aload_n 0, 1) := by sorry
theorem dX6_now_125 : decode cX6_now 125 = .ok (.getfield 47, 3) := by sorry
theorem dX6_now_128 : decode cX6_now 128 = .ok (.aload_n 0, 1) := by sorry
theorem dX6_now_129 : decode cX6_now 129 = .ok (.getfield 12, 3) := by sorry
theorem dX6_now_132 : decode cX6_now 132 = .ok (.invokevirtual 244, 3) := by sorry
theorem dX6_now_135 : decode cX6_now 135 = .ok (.ireturn, 1) := by sorry
theorem dX6_now_136 : decode cX6_now 136 = .ok (.aload_n 0, 1) := by sorry
theorem dX6_now_137 : decode cX6_now 137 = .ok (.getfield 40, 3) := by sorry
theorem dX6_now_140 : decode cX6_now 140 = .ok (.aload_n 0, 1) := by sorry
theorem dX6_now_141 : decode cX6_now 141 = .ok (.getfield 12, 3) := by sorry
theorem dX6_now_144 : decode cX6_now 144 = .ok (.invokevirtual 247, 3) := by sorry
theorem dX6_now_147 : decode cX6_now 147 = .ok (.ireturn, 1) := by sorry
theorem dX6_now_148 : decode cX6_now 148 = .ok (.aload_n 0, 1) := by sorry
theorem dX6_now_149 : decode cX6_now 149 = .ok (.getfield 55, 3) := by sorry
theorem dX6_now_152 : decode cX6_now 152 = .ok (.ireturn, 1) := by sorry
theorem dX6_now_153 : decode cX6_now 153 = .ok (.aload_n 0, 1) := by sorry
theorem dX6_now_154 : decode cX6_now 154 = .ok (.getfield 12, 3) := by sorry
theorem dX6_now_157 : decode cX6_now 157 = .ok (.invokevirtual 250, 3) := by sorry
theorem dX6_now_160 : decode cX6_now 160 = .ok (.ireturn, 1) := by sorry
theorem dX6_now_161 : decode cX6_now 161 = .ok (.aload_n 0, 1) := by sorry
theorem dX6_now_162 : decode cX6_now 162 = .ok (.getfield 59, 3) := by sorry
theorem dX6_now_165 : decode cX6_now 165 = .ok (.ireturn, 1) := by sorry
theorem ggX6_ofKnot_X3_isKnot : GoodIn wsX6_ofKnot wsX3_isKnot := by sorry
theorem gX6_ofKnot_X3_isKnot_n87 : GoodIn wsX6_ofKnot (wsX3_isKnot) := by sorry
theorem ggX6_ofKnot_X6_isWithin : GoodIn wsX6_ofKnot wsX6_isWithin := by sorry
theorem gX6_ofKnot_X6_isWithin : GoodIn wsX6_ofKnot (va_wsS RX6 62 yX6_isWithin wsX6_isWithin) := by sorry
theorem ggX6_ofKnot_X3_countOf : GoodIn wsX6_ofKnot wsX3_countOf := by sorry
theorem gX6_ofKnot_X3_countOf_n102 : GoodIn wsX6_ofKnot (wsX3_countOf) := by sorry
theorem ggX6_ofKnot_X3_nearOf : GoodIn wsX6_ofKnot wsX3_nearOf := by sorry
theorem gX6_ofKnot_X3_nearOf_n255 : GoodIn wsX6_ofKnot (wsX3_nearOf) := by sorry
theorem ggX6_ofKnot_X5_partNumber : GoodIn wsX6_ofKnot wsX5_partNumber := by sorry
theorem gX6_ofKnot_X5_partNumber_n258 : GoodIn wsX6_ofKnot (wsX5_partNumber) := by sorry
theorem ggX6_ofKnot_X5_leastRingAt : GoodIn wsX6_ofKnot wsX5_leastRingAt := by sorry
theorem gX6_ofKnot_X5_leastRingAt_n261 : GoodIn wsX6_ofKnot (wsX5_leastRingAt) := by sorry
theorem ggX6_ofKnot_X5_greatestDistance : GoodIn wsX6_ofKnot wsX5_greatestDistance := by sorry
theorem gX6_ofKnot_X5_greatestDistance_n264 : GoodIn wsX6_ofKnot (wsX5_greatestDistance) := by sorry
theorem ggX6_ofKnot_X0_joinable : GoodIn wsX6_ofKnot wsX0_joinable := by sorry
theorem gX6_ofKnot_X0_joinable_n267 : GoodIn wsX6_ofKnot (wsX0_joinable) := by sorry
theorem ggX6_ofKnot_J6_bitCount_0f7a4 : GoodIn wsX6_ofKnot wsJ6_bitCount_0f7a4 := by sorry
theorem gX6_ofKnot_J6_bitCount_0f7a4 : GoodIn wsX6_ofKnot (va_wsS RX6 270 yJ6_bitCount_0f7a4 wsJ6_bitCount_0f7a4) := by sorry
theorem dX6_ofKnot_0 : decode cX6_ofKnot 0 = .ok (.aload_n 0, 1) := by sorry
theorem dX6_ofKnot_1 : decode cX6_ofKnot 1 = .ok (.getfield 12, 3) := by sorry
theorem dX6_ofKnot_4 : decode cX6_ofKnot 4 = .ok (.iload_n 1, 1) := by sorry
theorem dX6_ofKnot_5 : decode cX6_ofKnot 5 = .ok (.invokevirtual 87, 3) := by sorry
theorem dX6_ofKnot_8 : decode cX6_ofKnot 8 = .ok (.ifCond .ne 13, 3) := by sorry
theorem dX6_ofKnot_11 : decode cX6_ofKnot 11 = .ok (.new 91, 3) := by sorry
theorem dX6_ofKnot_14 : decode cX6_ofKnot 14 = .ok (.dup, 1) := by sorry
theorem dX6_ofKnot_15 : decode cX6_ofKnot 15 = .ok (.ldc 93, 2) := by sorry
theorem dX6_ofKnot_17 : decode cX6_ofKnot 17 = .ok (.invokespecial 95, 3) := by sorry
theorem dX6_ofKnot_20 : decode cX6_ofKnot 20 = .ok (.athrow, 1) := by sorry
theorem dX6_ofKnot_21 : decode cX6_ofKnot 21 = .ok (.iload_n 2, 1) := by sorry
theorem dX6_ofKnot_22 : decode cX6_ofKnot 22 = .ok (.iconst 0, 1) := by sorry
theorem dX6_ofKnot_23 : decode cX6_ofKnot 23 = .ok (.iconst 5, 1) := by sorry
theorem dX6_ofKnot_24 : decode cX6_ofKnot 24 = .ok (.invokestatic 62, 3) := by sorry
theorem dX6_ofKnot_27 : decode cX6_ofKnot 27 = .ok (.ifCond .ne 13, 3) := by sorry
theorem dX6_ofKnot_30 : decode cX6_ofKnot 30 = .ok (.new 66, 3) := by sorry
theorem dX6_ofKnot_33 : decode cX6_ofKnot 33 = .ok (.dup, 1) := by sorry
theorem dX6_ofKnot_34 : decode cX6_ofKnot 34 = .ok (.ldc 253, 2) := by sorry
theorem dX6_ofKnot_36 : decode cX6_ofKnot 36 = .ok (.invokespecial 70, 3) := by sorry
theorem dX6_ofKnot_39 : decode cX6_ofKnot 39 = .ok (.athrow, 1) := by sorry
theorem dX6_ofKnot_40 : decode cX6_ofKnot 40 = .ok (.iload_n 2, 1) := by sorry
theorem dX6_ofKnot_41 : decode cX6_ofKnot 41 = .ok (.tableswitch 80 0 4 #[35, 44, 53, 62, 71], 35) := by sorry
theorem dX6_ofKnot_76 : decode cX6_ofKnot 76 = .ok (.aload_n 0, 1) := by sorry
theorem dX6_ofKnot_77 : decode cX6_ofKnot 77 = .ok (.getfield 12, 3) := by sorry
theorem dX6_ofKnot_80 : decode cX6_ofKnot 80 = .ok (.iload_n 1, 1) := by sorry
theorem dX6_ofKnot_81 : decode cX6_ofKnot 81 = .ok (.invokevirtual 102, 3) := by sorry
theorem dX6_ofKnot_84 : decode cX6_ofKnot 84 = .ok (.ireturn, 1) := by sorry
theorem dX6_ofKnot_85 : decode cX6_ofKnot 85 = .ok (.aload_n 0, 1) := by sorry
theorem dX6_ofKnot_86 : decode cX6_ofKnot 86 = .ok (.getfield 12, 3) := by sorry
theorem dX6_ofKnot_89 : decode cX6_ofKnot 89 = .ok (.iload_n 1, 1) := by sorry
theorem dX6_ofKnot_90 : decode cX6_ofKnot 90 = .ok (.invokevirtual 255, 3) := by sorry
theorem dX6_ofKnot_93 : decode cX6_ofKnot 93 = .ok (.ireturn, 1) := by sorry
theorem dX6_ofKnot_94 : decode cX6_ofKnot 94 = .ok (.aload_n 0, 1) := by sorry
theorem dX6_ofKnot_95 : decode cX6_ofKnot 95 = .ok (.getfield 12, 3) := by sorry
theorem dX6_ofKnot_98 : decode cX6_ofKnot 98 = .ok (.iload_n 1, 1) := by sorry
theorem dX6_ofKnot_99 : decode cX6_ofKnot 99 = .ok (.invokestatic 258, 3) := by sorry
theorem dX6_ofKnot_102 : decode cX6_ofKnot 102 = .ok (.ireturn, 1) := by sorry
theorem dX6_ofKnot_103 : decode cX6_ofKnot 103 = .ok (.aload_n 0, 1) := by sorry
theorem dX6_ofKnot_104 : decode cX6_ofKnot 104 = .ok (.getfield 12, 3) := by sorry
theorem dX6_ofKnot_107 : decode cX6_ofKnot 107 = .ok (.iload_n 1, 1) := by sorry
theorem dX6_ofKnot_108 : decode cX6_ofKnot 108 = .ok (.invokestatic 261, 3) := by sorry
theorem dX6_ofKnot_111 : decode cX6_ofKnot 111 = .ok (.ireturn, 1) := by sorry
theorem dX6_ofKnot_112 : decode cX6_ofKnot 112 = .ok (.aload_n 0, 1) := by sorry
theorem dX6_ofKnot_113 : decode cX6_ofKnot 113 = .ok (.getfield 12, 3) := by sorry
theorem dX6_ofKnot_116 : decode cX6_ofKnot 116 = .ok (.iload_n 1, 1) := by sorry
theorem dX6_ofKnot_117 : decode cX6_ofKnot 117 = .ok (.invokestatic 264, 3) := by sorry
theorem dX6_ofKnot_120 : decode cX6_ofKnot 120 = .ok (.ireturn, 1) := by sorry
theorem dX6_ofKnot_121 : decode cX6_ofKnot 121 = .ok (.aload_n 0, 1) := by sorry
theorem dX6_ofKnot_122 : decode cX6_ofKnot 122 = .ok (.getfield 26, 3) := by sorry
theorem dX6_ofKnot_125 : decode cX6_ofKnot 125 = .ok (.aload_n 0, 1) := by sorry
theorem dX6_ofKnot_126 : decode cX6_ofKnot 126 = .ok (.getfield 12, 3) := by sorry
theorem dX6_ofKnot_129 : decode cX6_ofKnot 129 = .ok (.iload_n 1, 1) := by sorry
theorem dX6_ofKnot_130 : decode cX6_ofKnot 130 = .ok (.invokevirtual 267, 3) := by sorry
theorem dX6_ofKnot_133 : decode cX6_ofKnot 133 = .ok (.invokestatic 270, 3) := by sorry
theorem dX6_ofKnot_136 : decode cX6_ofKnot 136 = .ok (.ireturn, 1) := by sorry
theorem ggX6_ofEdge_X3_edgeAt : GoodIn wsX6_ofEdge wsX3_edgeAt := by sorry
theorem gX6_ofEdge_X3_edgeAt_n153 : GoodIn wsX6_ofEdge (wsX3_edgeAt) := by sorry
theorem ggX6_ofEdge_X6_isWithin : GoodIn wsX6_ofEdge wsX6_isWithin := by sorry
theorem gX6_ofEdge_X6_isWithin : GoodIn wsX6_ofEdge (va_wsS RX6 62 yX6_isWithin wsX6_isWithin) := by sorry
theorem ggX6_ofEdge_X6_oneOf : GoodIn wsX6_ofEdge wsX6_oneOf := by sorry
theorem gX6_ofEdge_X6_oneOf : GoodIn wsX6_ofEdge (va_wsS RX6 277 yX6_oneOf wsX6_oneOf) := by sorry
theorem ggX6_ofEdge_X6_otherOf : GoodIn wsX6_ofEdge wsX6_otherOf := by sorry
theorem gX6_ofEdge_X6_otherOf : GoodIn wsX6_ofEdge (va_wsS RX6 280 yX6_otherOf wsX6_otherOf) := by sorry
theorem ggX6_ofEdge_X5_leastRingBy : GoodIn wsX6_ofEdge wsX5_leastRingBy := by sorry
theorem gX6_ofEdge_X5_leastRingBy_n283 : GoodIn wsX6_ofEdge (wsX5_leastRingBy) := by sorry
theorem dX6_ofEdge_0 : decode cX6_ofEdge 0 = .ok (.aload_n 0, 1) := by sorry
theorem dX6_ofEdge_1 : decode cX6_ofEdge 1 = .ok (.getfield 12, 3) := by sorry
theorem dX6_ofEdge_4 : decode cX6_ofEdge 4 = .ok (.iload_n 1, 1) := by sorry
theorem dX6_ofEdge_5 : decode cX6_ofEdge 5 = .ok (.invokevirtual 153, 3) := by sorry
theorem dX6_ofEdge_8 : decode cX6_ofEdge 8 = .ok (.istore_n 3, 1) := by sorry
theorem dX6_ofEdge_9 : decode cX6_ofEdge 9 = .ok (.iload_n 3, 1) := by sorry
theorem dX6_ofEdge_10 : decode cX6_ofEdge 10 = .ok (.iconst (-1), 1) := by sorry
theorem dX6_ofEdge_11 : decode cX6_ofEdge 11 = .ok (.if_icmp .ne 13, 3) := by sorry
theorem dX6_ofEdge_14 : decode cX6_ofEdge 14 = .ok (.new 91, 3) := by sorry
theorem dX6_ofEdge_17 : decode cX6_ofEdge 17 = .ok (.dup, 1) := by sorry
theorem dX6_ofEdge_18 : decode cX6_ofEdge 18 = .ok (.ldc 156, 2) := by sorry
theorem dX6_ofEdge_20 : decode cX6_ofEdge 20 = .ok (.invokespecial 95, 3) := by sorry
theorem dX6_ofEdge_23 : decode cX6_ofEdge 23 = .ok (.athrow, 1) := by sorry
theorem dX6_ofEdge_24 : decode cX6_ofEdge 24 = .ok (.iload_n 2, 1) := by sorry
theorem dX6_ofEdge_25 : decode cX6_ofEdge 25 = .ok (.iconst 0, 1) := by sorry
theorem dX6_ofEdge_26 : decode cX6_ofEdge 26 = .ok (.iconst 3, 1) := by sorry
theorem dX6_ofEdge_27 : decode cX6_ofEdge 27 = .ok (.invokestatic 62, 3) := by sorry
theorem dX6_ofEdge_30 : decode cX6_ofEdge 30 = .ok (.ifCond .ne 14, 3) := by sorry
theorem dX6_ofEdge_33 : decode cX6_ofEdge 33 = .ok (.new 66, 3) := by sorry
theorem dX6_ofEdge_36 : decode cX6_ofEdge 36 = .ok (.dup, 1) := by sorry
theorem dX6_ofEdge_37 : decode cX6_ofEdge 37 = .ok (.ldc_w 275, 3) := by sorry
theorem dX6_ofEdge_40 : decode cX6_ofEdge 40 = .ok (.invokespecial 70, 3) := by sorry
theorem dX6_ofEdge_43 : decode cX6_ofEdge 43 = .ok (.athrow, 1) := by sorry
theorem dX6_ofEdge_44 : decode cX6_ofEdge 44 = .ok (.iload_n 2, 1) := by sorry
theorem dX6_ofEdge_45 : decode cX6_ofEdge 45 = .ok (.tableswitch 62 0 2 #[27, 32, 37], 27) := by sorry
theorem dX6_ofEdge_72 : decode cX6_ofEdge 72 = .ok (.iload_n 3, 1) := by sorry
theorem dX6_ofEdge_73 : decode cX6_ofEdge 73 = .ok (.invokestatic 277, 3) := by sorry
theorem dX6_ofEdge_76 : decode cX6_ofEdge 76 = .ok (.ireturn, 1) := by sorry
theorem dX6_ofEdge_77 : decode cX6_ofEdge 77 = .ok (.iload_n 3, 1) := by sorry
theorem dX6_ofEdge_78 : decode cX6_ofEdge 78 = .ok (.invokestatic 280, 3) := by sorry
theorem dX6_ofEdge_81 : decode cX6_ofEdge 81 = .ok (.ireturn, 1) := by sorry
theorem dX6_ofEdge_82 : decode cX6_ofEdge 82 = .ok (.aload_n 0, 1) := by sorry
theorem dX6_ofEdge_83 : decode cX6_ofEdge 83 = .ok (.getfield 12, 3) := by sorry
theorem dX6_ofEdge_86 : decode cX6_ofEdge 86 = .ok (.iload_n 3, 1) := by sorry
theorem dX6_ofEdge_87 : decode cX6_ofEdge 87 = .ok (.invokestatic 277, 3) := by sorry
theorem dX6_ofEdge_90 : decode cX6_ofEdge 90 = .ok (.iload_n 3, 1) := by sorry
theorem dX6_ofEdge_91 : decode cX6_ofEdge 91 = .ok (.invokestatic 280, 3) := by sorry
theorem dX6_ofEdge_94 : decode cX6_ofEdge 94 = .ok (.invokestatic 283, 3) := by sorry
theorem dX6_ofEdge_97 : decode cX6_ofEdge 97 = .ok (.iconst (-1), 1) := by sorry
theorem dX6_ofEdge_98 : decode cX6_ofEdge 98 = .ok (.if_icmp .ne 7, 3) := by sorry
theorem dX6_ofEdge_101 : decode cX6_ofEdge 101 = .ok (.iconst 1, 1) := by sorry
theorem dX6_ofEdge_102 : decode cX6_ofEdge 102 = .ok (.goto 4, 3) := by sorry
theorem dX6_ofEdge_105 : decode cX6_ofEdge 105 = .ok (.iconst 0, 1) := by sorry
theorem dX6_ofEdge_106 : decode cX6_ofEdge 106 = .ok (.ireturn, 1) := by sorry
theorem dX6_ofEdge_107 : decode cX6_ofEdge 107 = .ok (.aload_n 0, 1) := by sorry
theorem dX6_ofEdge_108 : decode cX6_ofEdge 108 = .ok (.getfield 12, 3) := by sorry
theorem dX6_ofEdge_111 : decode cX6_ofEdge 111 = .ok (.iload_n 3, 1) := by sorry
theorem dX6_ofEdge_112 : decode cX6_ofEdge 112 = .ok (.invokestatic 277, 3) := by sorry
theorem dX6_ofEdge_115 : decode cX6_ofEdge 115 = .ok (.iload_n 3, 1) := by sorry
theorem dX6_ofEdge_116 : decode cX6_ofEdge 116 = .ok (.invokestatic 280, 3) := by sorry
theorem dX6_ofEdge_119 : decode cX6_ofEdge 119 = .ok (.invokestatic 283, 3) := by sorry
theorem dX6_ofEdge_122 : decode cX6_ofEdge 122 = .ok (.ireturn, 1) := by sorry
theorem ggX6_rings_X6_isWithin : GoodIn wsX6_rings wsX6_isWithin := by sorry
theorem gX6_rings_X6_isWithin : GoodIn wsX6_rings (va_wsS RX6 62 yX6_isWithin wsX6_isWithin) := by sorry
theorem ggX6_rings_X6_countRings : GoodIn wsX6_rings wsX6_countRings := by sorry
theorem gX6_rings_X6_countRings : GoodIn wsX6_rings (wsV RX6 292 RX6 yX6_countRings wsX6_countRings) := by sorry
theorem ggX6_rings_X6_tallied : GoodIn wsX6_rings wsX6_tallied := by sorry
theorem gX6_rings_X6_tallied : GoodIn wsX6_rings (wsV RX6 295 RX6 yX6_tallied wsX6_tallied) := by sorry
theorem dX6_rings_0 : decode cX6_rings 0 = .ok (.iload_n 1, 1) := by sorry
theorem dX6_rings_1 : decode cX6_rings 1 = .ok (.iconst 3, 1) := by sorry
theorem dX6_rings_2 : decode cX6_rings 2 = .ok (.bipush 7, 2) := by sorry
theorem dX6_rings_4 : decode cX6_rings 4 = .ok (.invokestatic 62, 3) := by sorry
theorem dX6_rings_7 : decode cX6_rings 7 = .ok (.ifCond .ne 14, 3) := by sorry
theorem dX6_rings_10 : decode cX6_rings 10 = .ok (.new 66, 3) := by sorry
theorem dX6_rings_13 : decode cX6_rings 13 = .ok (.dup, 1) := by sorry
theorem dX6_rings_14 : decode cX6_rings 14 = .ok (.ldc_w 290, 3) := by sorry
theorem dX6_rings_17 : decode cX6_rings 17 = .ok (.invokespecial 70, 3) := by sorry
theorem dX6_rings_20 : decode cX6_rings 20 = .ok (.athrow, 1) := by sorry
theorem dX6_rings_21 : decode cX6_rings 21 = .ok (.aload_n 0, 1) := by sorry
theorem dX6_rings_22 : decode cX6_rings 22 = .ok (.iload_n 1, 1) := by sorry
theorem dX6_rings_23 : decode cX6_rings 23 = .ok (.invokevirtual 292, 3) := by sorry
theorem dX6_rings_26 : decode cX6_rings 26 = .ok (.aload_n 0, 1) := by sorry
theorem dX6_rings_27 : decode cX6_rings 27 = .ok (.iload_n 1, 1) := by sorry
theorem dX6_rings_28 : decode cX6_rings 28 = .ok (.invokevirtual 295, 3) := by sorry
theorem dX6_rings_31 : decode cX6_rings 31 = .ok (.ireturn, 1) := by sorry
theorem ggX6_bound_X6_requireTabled : GoodIn wsX6_bound wsX6_requireTabled := by sorry
theorem gX6_bound_X6_requireTabled : GoodIn wsX6_bound (wsV RX6 180 RX6 yX6_requireTabled wsX6_requireTabled) := by sorry
theorem ggX6_bound_X1_leastKnots : GoodIn wsX6_bound wsX1_leastKnots := by sorry
theorem gX6_bound_X1_leastKnots_n298 : GoodIn wsX6_bound (wsX1_leastKnots) := by sorry
theorem dX6_bound_0 : decode cX6_bound 0 = .ok (.aload_n 0, 1) := by sorry
theorem dX6_bound_1 : decode cX6_bound 1 = .ok (.iload_n 1, 1) := by sorry
theorem dX6_bound_2 : decode cX6_bound 2 = .ok (.iload_n 2, 1) := by sorry
theorem dX6_bound_3 : decode cX6_bound 3 = .ok (.invokevirtual 180, 3) := by sorry
theorem dX6_bound_6 : decode cX6_bound 6 = .ok (.iload_n 1, 1) := by sorry
theorem dX6_bound_7 : decode cX6_bound 7 = .ok (.iload_n 2, 1) := by sorry
theorem dX6_bound_8 : decode cX6_bound 8 = .ok (.invokestatic 298, 3) := by sorry
theorem dX6_bound_11 : decode cX6_bound 11 = .ok (.ireturn, 1) := by sorry
theorem ggX6_table_X6_requireTabled : GoodIn wsX6_table wsX6_requireTabled := by sorry
theorem gX6_table_X6_requireTabled : GoodIn wsX6_table (wsV RX6 180 RX6 yX6_requireTabled wsX6_requireTabled) := by sorry
theorem ggX6_table_X1_nextOf : GoodIn wsX6_table wsX1_nextOf := by sorry
theorem gX6_table_X1_nextOf_n303 : GoodIn wsX6_table (wsX1_nextOf) := by sorry
theorem ggX6_table_X1_smallestOf : GoodIn wsX6_table wsX1_smallestOf := by sorry
theorem gX6_table_X1_smallestOf_n306 : GoodIn wsX6_table (wsX1_smallestOf) := by sorry
theorem dX6_table_0 : decode cX6_table 0 = .ok (.aload_n 0, 1) := by sorry
theorem dX6_table_1 : decode cX6_table 1 = .ok (.iload_n 1, 1) := by sorry
theorem dX6_table_2 : decode cX6_table 2 = .ok (.iload_n 2, 1) := by sorry
theorem dX6_table_3 : decode cX6_table 3 = .ok (.invokevirtual 180, 3) := by sorry
theorem dX6_table_6 : decode cX6_table 6 = .ok (.iload_n 3, 1) := by sorry
theorem dX6_table_7 : decode cX6_table 7 = .ok (.ifCond .eq 15, 3) := by sorry
theorem dX6_table_10 : decode cX6_table 10 = .ok (.aload_n 0, 1) := by sorry
theorem dX6_table_11 : decode cX6_table 11 = .ok (.getfield 33, 3) := by sorry
theorem dX6_table_14 : decode cX6_table 14 = .ok (.iload_n 1, 1) := by sorry
theorem dX6_table_15 : decode cX6_table 15 = .ok (.iload_n 2, 1) := by sorry
theorem dX6_table_16 : decode cX6_table 16 = .ok (.invokevirtual 303, 3) := by sorry
theorem dX6_table_19 : decode cX6_table 19 = .ok (.goto 12, 3) := by sorry
theorem dX6_table_22 : decode cX6_table 22 = .ok (.aload_n 0, 1) := by sorry
theorem dX6_table_23 : decode cX6_table 23 = .ok (.getfield 33, 3) := by sorry
theorem dX6_table_26 : decode cX6_table 26 = .ok (.iload_n 1, 1) := by sorry
theorem dX6_table_27 : decode cX6_table 27 = .ok (.iload_n 2, 1) := by sorry
theorem dX6_table_28 : decode cX6_table 28 = .ok (.invokevirtual 306, 3) := by sorry
theorem dX6_table_31 : decode cX6_table 31 = .ok (.ireturn, 1) := by sorry
theorem ggX6_keep_X3_init : GoodIn wsX6_keep wsX3_init := by sorry
theorem gX6_keep_X3_init_n11 : GoodIn wsX6_keep (wsX3_init) := by sorry
theorem ggX6_keep_X3_take : GoodIn wsX6_keep wsX3_take := by sorry
theorem gX6_keep_X3_take_n144 : GoodIn wsX6_keep (wsX3_take) := by sorry
theorem dX6_keep_0 : decode cX6_keep 0 = .ok (.aload_n 0, 1) := by sorry
theorem dX6_keep_1 : decode cX6_keep 1 = .ok (.getfield 12, 3) := by sorry
theorem dX6_keep_4 : decode cX6_keep 4 = .ok (.getfield 73, 3) := by sorry
theorem dX6_keep_7 : decode cX6_keep 7 = .ok (.ifCond .eq 22, 3) := by sorry
theorem dX6_keep_10 : decode cX6_keep 10 = .ok (.aload_n 0, 1) := by sorry
theorem dX6_keep_11 : decode cX6_keep 11 = .ok (.getfield 55, 3) := by sorry
theorem dX6_keep_14 : decode cX6_keep 14 = .ok (.ifCond .lt 15, 3) := by sorry
theorem dX6_keep_17 : decode cX6_keep 17 = .ok (.aload_n 0, 1) := by sorry
theorem dX6_keep_18 : decode cX6_keep 18 = .ok (.getfield 55, 3) := by sorry
theorem dX6_keep_21 : decode cX6_keep 21 = .ok (.aload_n 0, 1) := by sorry
theorem dX6_keep_22 : decode cX6_keep 22 = .ok (.getfield 19, 3) := by sorry
theorem dX6_keep_25 : decode cX6_keep 25 = .ok (.arraylength, 1) := by sorry
theorem dX6_keep_26 : decode cX6_keep 26 = .ok (.if_icmp .lt 14, 3) := by sorry
theorem dX6_keep_29 : decode cX6_keep 29 = .ok (.new 106, 3) := by sorry
theorem dX6_keep_32 : decode cX6_keep 32 = .ok (.dup, 1) := by sorry
theorem dX6_keep_33 : decode cX6_keep 33 = .ok (.ldc_w 309, 3) := by sorry
theorem dX6_keep_36 : decode cX6_keep 36 = .ok (.invokespecial 110, 3) := by sorry
theorem dX6_keep_39 : decode cX6_keep 39 = .ok (.athrow, 1) := by sorry
theorem dX6_keep_40 : decode cX6_keep 40 = .ok (.new 9, 3) := by sorry
theorem dX6_keep_43 : decode cX6_keep 43 = .ok (.dup, 1) := by sorry
theorem dX6_keep_44 : decode cX6_keep 44 = .ok (.invokespecial 11, 3) := by sorry
theorem dX6_keep_47 : decode cX6_keep 47 = .ok (.astore_n 1, 1) := by sorry
theorem dX6_keep_48 : decode cX6_keep 48 = .ok (.aload_n 1, 1) := by sorry
theorem dX6_keep_49 : decode cX6_keep 49 = .ok (.aload_n 0, 1) := by sorry
theorem dX6_keep_50 : decode cX6_keep 50 = .ok (.getfield 12, 3) := by sorry
theorem dX6_keep_53 : decode cX6_keep 53 = .ok (.invokevirtual 144, 3) := by sorry
theorem dX6_keep_56 : decode cX6_keep 56 = .ok (.aload_n 0, 1) := by sorry
theorem dX6_keep_57 : decode cX6_keep 57 = .ok (.getfield 55, 3) := by sorry
theorem dX6_keep_60 : decode cX6_keep 60 = .ok (.istore_n 2, 1) := by sorry
theorem dX6_keep_61 : decode cX6_keep 61 = .ok (.aload_n 0, 1) := by sorry
theorem dX6_keep_62 : decode cX6_keep 62 = .ok (.getfield 19, 3) := by sorry
theorem dX6_keep_65 : decode cX6_keep 65 = .ok (.iload_n 2, 1) := by sorry
theorem dX6_keep_66 : decode cX6_keep 66 = .ok (.aload_n 1, 1) := by sorry
theorem dX6_keep_67 : decode cX6_keep 67 = .ok (.aastore, 1) := by sorry
theorem dX6_keep_68 : decode cX6_keep 68 = .ok (.aload_n 0, 1) := by sorry
theorem dX6_keep_69 : decode cX6_keep 69 = .ok (.dup, 1) := by sorry
theorem dX6_keep_70 : decode cX6_keep 70 = .ok (.getfield 55, 3) := by sorry
theorem dX6_keep_73 : decode cX6_keep 73 = .ok (.iconst 1, 1) := by sorry
theorem dX6_keep_74 : decode cX6_keep 74 = .ok (.iadd, 1) := by sorry
theorem dX6_keep_75 : decode cX6_keep 75 = .ok (.putfield 55, 3) := by sorry
theorem dX6_keep_78 : decode cX6_keep 78 = .ok (.iload_n 2, 1) := by sorry
theorem dX6_keep_79 : decode cX6_keep 79 = .ok (.ireturn, 1) := by sorry
theorem ggX6_back_X6_keptAt : GoodIn wsX6_back wsX6_keptAt := by sorry
theorem gX6_back_X6_keptAt : GoodIn wsX6_back (wsV RX6 311 RX6 yX6_keptAt wsX6_keptAt) := by sorry
theorem ggX6_back_X3_take : GoodIn wsX6_back wsX3_take := by sorry
theorem gX6_back_X3_take_n144 : GoodIn wsX6_back (wsX3_take) := by sorry
theorem ggX6_back_X0_end : GoodIn wsX6_back wsX0_end := by sorry
theorem gX6_back_X0_end_n80 : GoodIn wsX6_back (wsX0_end) := by sorry
theorem ggX6_back_X1_look : GoodIn wsX6_back wsX1_look := by sorry
theorem gX6_back_X1_look_n83 : GoodIn wsX6_back (wsX1_look) := by sorry
theorem ggX6_back_X3_edgesInAll : GoodIn wsX6_back wsX3_edgesInAll := by sorry
theorem gX6_back_X3_edgesInAll_n130 : GoodIn wsX6_back (wsX3_edgesInAll) := by sorry
theorem dX6_back_0 : decode cX6_back 0 = .ok (.aload_n 0, 1) := by sorry
theorem dX6_back_1 : decode cX6_back 1 = .ok (.iload_n 1, 1) := by sorry
theorem dX6_back_2 : decode cX6_back 2 = .ok (.invokevirtual 311, 3) := by sorry
theorem dX6_back_5 : decode cX6_back 5 = .ok (.astore_n 2, 1) := by sorry
theorem dX6_back_6 : decode cX6_back 6 = .ok (.aload_n 2, 1) := by sorry
theorem dX6_back_7 : decode cX6_back 7 = .ok (.ifnonnull 14, 3) := by sorry
theorem dX6_back_10 : decode cX6_back 10 = .ok (.new 91, 3) := by sorry
theorem dX6_back_13 : decode cX6_back 13 = .ok (.dup, 1) := by sorry
theorem dX6_back_14 : decode cX6_back 14 = .ok (.ldc_w 315, 3) := by sorry
theorem dX6_back_17 : decode cX6_back 17 = .ok (.invokespecial 95, 3) := by sorry
theorem dX6_back_20 : decode cX6_back 20 = .ok (.athrow, 1) := by sorry
theorem dX6_back_21 : decode cX6_back 21 = .ok (.aload_n 0, 1) := by sorry
theorem dX6_back_22 : decode cX6_back 22 = .ok (.getfield 12, 3) := by sorry
theorem dX6_back_25 : decode cX6_back 25 = .ok (.aload_n 2, 1) := by sorry
theorem dX6_back_26 : decode cX6_back 26 = .ok (.invokevirtual 144, 3) := by sorry
theorem dX6_back_29 : decode cX6_back 29 = .ok (.aload_n 0, 1) := by sorry
theorem dX6_back_30 : decode cX6_back 30 = .ok (.getfield 26, 3) := by sorry
theorem dX6_back_33 : decode cX6_back 33 = .ok (.invokevirtual 80, 3) := by sorry
theorem dX6_back_36 : decode cX6_back 36 = .ok (.aload_n 0, 1) := by sorry
theorem dX6_back_37 : decode cX6_back 37 = .ok (.getfield 33, 3) := by sorry
theorem dX6_back_40 : decode cX6_back 40 = .ok (.aload_n 0, 1) := by sorry
theorem dX6_back_41 : decode cX6_back 41 = .ok (.getfield 12, 3) := by sorry
theorem dX6_back_44 : decode cX6_back 44 = .ok (.invokevirtual 83, 3) := by sorry
theorem dX6_back_47 : decode cX6_back 47 = .ok (.aload_n 0, 1) := by sorry
theorem dX6_back_48 : decode cX6_back 48 = .ok (.getfield 12, 3) := by sorry
theorem dX6_back_51 : decode cX6_back 51 = .ok (.invokevirtual 130, 3) := by sorry
theorem dX6_back_54 : decode cX6_back 54 = .ok (.ireturn, 1) := by sorry
theorem ggX6_isAlike_X6_keptAt : GoodIn wsX6_isAlike wsX6_keptAt := by sorry
theorem gX6_isAlike_X6_keptAt : GoodIn wsX6_isAlike (wsV RX6 311 RX6 yX6_keptAt wsX6_keptAt) := by sorry
theorem ggX6_isAlike_X2_areAlike : GoodIn wsX6_isAlike wsX2_areAlike := by sorry
theorem gX6_isAlike_X2_areAlike_n317 : GoodIn wsX6_isAlike (wsX2_areAlike) := by sorry
theorem dX6_isAlike_0 : decode cX6_isAlike 0 = .ok (.aload_n 0, 1) := by sorry
theorem dX6_isAlike_1 : decode cX6_isAlike 1 = .ok (.iload_n 1, 1) := by sorry
theorem dX6_isAlike_2 : decode cX6_isAlike 2 = .ok (.invokevirtual 311, 3) := by sorry
theorem dX6_isAlike_5 : decode cX6_isAlike 5 = .ok (.astore_n 2, 1) := by sorry
theorem dX6_isAlike_6 : decode cX6_isAlike 6 = .ok (.aload_n 2, 1) := by sorry
theorem dX6_isAlike_7 : decode cX6_isAlike 7 = .ok (.ifnonnull 14, 3) := by sorry
theorem dX6_isAlike_10 : decode cX6_isAlike 10 = .ok (.new 91, 3) := by sorry
theorem dX6_isAlike_13 : decode cX6_isAlike 13 = .ok (.dup, 1) := by sorry
theorem dX6_isAlike_14 : decode cX6_isAlike 14 = .ok (.ldc_w 315, 3) := by sorry
theorem dX6_isAlike_17 : decode cX6_isAlike 17 = .ok (.invokespecial 95, 3) := by sorry
theorem dX6_isAlike_20 : decode cX6_isAlike 20 = .ok (.athrow, 1) := by sorry
theorem dX6_isAlike_21 : decode cX6_isAlike 21 = .ok (.aload_n 0, 1) := by sorry
theorem dX6_isAlike_22 : decode cX6_isAlike 22 = .ok (.getfield 40, 3) := by sorry
theorem dX6_isAlike_25 : decode cX6_isAlike 25 = .ok (.aload_n 0, 1) := by sorry
theorem dX6_isAlike_26 : decode cX6_isAlike 26 = .ok (.getfield 12, 3) := by sorry
theorem dX6_isAlike_29 : decode cX6_isAlike 29 = .ok (.aload_n 2, 1) := by sorry
theorem dX6_isAlike_30 : decode cX6_isAlike 30 = .ok (.invokevirtual 317, 3) := by sorry
theorem dX6_isAlike_33 : decode cX6_isAlike 33 = .ok (.ireturn, 1) := by sorry
theorem ggX6_isSound_X3_isMutual : GoodIn wsX6_isSound wsX3_isMutual := by sorry
theorem gX6_isSound_X3_isMutual_n340 : GoodIn wsX6_isSound (wsX3_isMutual) := by sorry
theorem ggX6_isSound_X6_isAimSound : GoodIn wsX6_isSound wsX6_isAimSound := by sorry
theorem gX6_isSound_X6_isAimSound : GoodIn wsX6_isSound (wsV RX6 344 RX6 yX6_isAimSound wsX6_isAimSound) := by sorry
theorem ggX6_isSound_X6_isEvenSound : GoodIn wsX6_isSound wsX6_isEvenSound := by sorry
theorem gX6_isSound_X6_isEvenSound : GoodIn wsX6_isSound (wsV RX6 347 RX6 yX6_isEvenSound wsX6_isEvenSound) := by sorry
theorem ggX6_isSound_X1_isTableSound : GoodIn wsX6_isSound wsX1_isTableSound := by sorry
theorem gX6_isSound_X1_isTableSound_n350 : GoodIn wsX6_isSound (wsX1_isTableSound) := by sorry
theorem dX6_isSound_0 : decode cX6_isSound 0 = .ok (.aload_n 0, 1) := by sorry
theorem dX6_isSound_1 : decode cX6_isSound 1 = .ok (.getfield 12, 3) := by sorry
theorem dX6_isSound_4 : decode cX6_isSound 4 = .ok (.invokevirtual 340, 3) := by sorry
theorem dX6_isSound_7 : decode cX6_isSound 7 = .ok (.ifCond .eq 31, 3) := by sorry
theorem dX6_isSound_10 : decode cX6_isSound 10 = .ok (.aload_n 0, 1) := by sorry
theorem dX6_isSound_11 : decode cX6_isSound 11 = .ok (.invokevirtual 344, 3) := by sorry
theorem dX6_isSound_14 : decode cX6_isSound 14 = .ok (.ifCond .eq 24, 3) := by sorry
theorem dX6_isSound_17 : decode cX6_isSound 17 = .ok (.aload_n 0, 1) := by sorry
theorem dX6_isSound_18 : decode cX6_isSound 18 = .ok (.invokevirtual 347, 3) := by sorry
theorem dX6_isSound_21 : decode cX6_isSound 21 = .ok (.ifCond .eq 17, 3) := by sorry
theorem dX6_isSound_24 : decode cX6_isSound 24 = .ok (.aload_n 0, 1) := by sorry
theorem dX6_isSound_25 : decode cX6_isSound 25 = .ok (.getfield 33, 3) := by sorry
theorem dX6_isSound_28 : decode cX6_isSound 28 = .ok (.invokevirtual 350, 3) := by sorry
theorem dX6_isSound_31 : decode cX6_isSound 31 = .ok (.ifCond .eq 7, 3) := by sorry
theorem dX6_isSound_34 : decode cX6_isSound 34 = .ok (.iconst 1, 1) := by sorry
theorem dX6_isSound_35 : decode cX6_isSound 35 = .ok (.goto 4, 3) := by sorry
theorem dX6_isSound_38 : decode cX6_isSound 38 = .ok (.iconst 0, 1) := by sorry
theorem dX6_isSound_39 : decode cX6_isSound 39 = .ok (.ireturn, 1) := by sorry
theorem ggX6_digest_X6_now : GoodIn wsX6_digest wsX6_now := by sorry
theorem gX6_digest_X6_now : GoodIn wsX6_digest (wsV RX6 357 RX6 yX6_now wsX6_now) := by sorry
theorem ggX6_digest_X6_search : GoodIn wsX6_digest wsX6_search := by sorry
theorem gX6_digest_X6_search : GoodIn wsX6_digest (wsV RX6 360 RX6 yX6_search wsX6_search) := by sorry
theorem ggX6_digest_X6_digestOfKnots : GoodIn wsX6_digest wsX6_digestOfKnots := by sorry
theorem gX6_digest_X6_digestOfKnots : GoodIn wsX6_digest (wsV RX6 363 RX6 yX6_digestOfKnots wsX6_digestOfKnots) := by sorry
theorem ggX6_digest_X6_digestOfEdges : GoodIn wsX6_digest wsX6_digestOfEdges := by sorry
theorem gX6_digest_X6_digestOfEdges : GoodIn wsX6_digest (wsV RX6 367 RX6 yX6_digestOfEdges wsX6_digestOfEdges) := by sorry
theorem ggX6_digest_X6_rings : GoodIn wsX6_digest wsX6_rings := by sorry
theorem gX6_digest_X6_rings : GoodIn wsX6_digest (wsV RX6 370 RX6 yX6_rings wsX6_rings) := by sorry
theorem ggX6_digest_X6_digestOfTable : GoodIn wsX6_digest wsX6_digestOfTable := by sorry
theorem gX6_digest_X6_digestOfTable : GoodIn wsX6_digest (wsV RX6 373 RX6 yX6_digestOfTable wsX6_digestOfTable) := by sorry
theorem ggX6_digest_X6_isAlike : GoodIn wsX6_digest wsX6_isAlike := by sorry
theorem gX6_digest_X6_isAlike : GoodIn wsX6_digest (wsV RX6 376 RX6 yX6_isAlike wsX6_isAlike) := by sorry
theorem ggX6_digest_X6_isSound : GoodIn wsX6_digest wsX6_isSound := by sorry
theorem gX6_digest_X6_isSound : GoodIn wsX6_digest (wsV RX6 379 RX6 yX6_isSound wsX6_isSound) := by sorry
theorem dX6_digest_0 : decode cX6_digest 0 = .ok (.ldc2_w 353, 3) := by sorry
theorem dX6_digest_3 : decode cX6_digest 3 = .ok (.lstore_n 1, 1) := by sorry
theorem dX6_digest_4 : decode cX6_digest 4 = .ok (.iconst 0, 1) := by sorry
theorem dX6_digest_5 : decode cX6_digest 5 = .ok (.istore_n 3, 1) := by sorry
theorem dX6_digest_6 : decode cX6_digest 6 = .ok (.iload_n 3, 1) := by sorry
theorem dX6_digest_7 : decode cX6_digest 7 = .ok (.bipush 10, 2) := by sorry
theorem dX6_digest_9 : decode cX6_digest 9 = .ok (.if_icmp .gt 22, 3) := by sorry
theorem dX6_digest_12 : decode cX6_digest 12 = .ok (.lload_n 1, 1) := by sorry
theorem dX6_digest_13 : decode cX6_digest 13 = .ok (.ldc2_w 355, 3) := by sorry
theorem dX6_digest_16 : decode cX6_digest 16 = .ok (.lmul, 1) := by sorry
theorem dX6_digest_17 : decode cX6_digest 17 = .ok (.aload_n 0, 1) := by sorry
theorem dX6_digest_18 : decode cX6_digest 18 = .ok (.iload_n 3, 1) := by sorry
theorem dX6_digest_19 : decode cX6_digest 19 = .ok (.invokevirtual 357, 3) := by sorry
theorem dX6_digest_22 : decode cX6_digest 22 = .ok (.i2l, 1) := by sorry
theorem dX6_digest_23 : decode cX6_digest 23 = .ok (.ladd, 1) := by sorry
theorem dX6_digest_24 : decode cX6_digest 24 = .ok (.lstore_n 1, 1) := by sorry
theorem dX6_digest_25 : decode cX6_digest 25 = .ok (.iinc 3 1, 3) := by sorry
theorem dX6_digest_28 : decode cX6_digest 28 = .ok (.goto (-22), 3) := by sorry
theorem dX6_digest_31 : decode cX6_digest 31 = .ok (.iconst 0, 1) := by sorry
theorem dX6_digest_32 : decode cX6_digest 32 = .ok (.istore_n 3, 1) := by sorry
theorem dX6_digest_33 : decode cX6_digest 33 = .ok (.iload_n 3, 1) := by sorry
theorem dX6_digest_34 : decode cX6_digest 34 = .ok (.bipush 7, 2) := by sorry
theorem dX6_digest_36 : decode cX6_digest 36 = .ok (.if_icmp .gt 22, 3) := by sorry
theorem dX6_digest_39 : decode cX6_digest 39 = .ok (.lload_n 1, 1) := by sorry
theorem dX6_digest_40 : decode cX6_digest 40 = .ok (.ldc2_w 355, 3) := by sorry
theorem dX6_digest_43 : decode cX6_digest 43 = .ok (.lmul, 1) := by sorry
theorem dX6_digest_44 : decode cX6_digest 44 = .ok (.aload_n 0, 1) := by sorry
theorem dX6_digest_45 : decode cX6_digest 45 = .ok (.iload_n 3, 1) := by sorry
theorem dX6_digest_46 : decode cX6_digest 46 = .ok (.invokevirtual 360, 3) := by sorry
theorem dX6_digest_49 : decode cX6_digest 49 = .ok (.i2l, 1) := by sorry
theorem dX6_digest_50 : decode cX6_digest 50 = .ok (.ladd, 1) := by sorry
theorem dX6_digest_51 : decode cX6_digest 51 = .ok (.lstore_n 1, 1) := by sorry
theorem dX6_digest_52 : decode cX6_digest 52 = .ok (.iinc 3 1, 3) := by sorry
theorem dX6_digest_55 : decode cX6_digest 55 = .ok (.goto (-22), 3) := by sorry
theorem dX6_digest_58 : decode cX6_digest 58 = .ok (.aload_n 0, 1) := by sorry
theorem dX6_digest_59 : decode cX6_digest 59 = .ok (.lload_n 1, 1) := by sorry
theorem dX6_digest_60 : decode cX6_digest 60 = .ok (.invokevirtual 363, 3) := by sorry
theorem dX6_digest_63 : decode cX6_digest 63 = .ok (.lstore_n 1, 1) := by sorry
theorem dX6_digest_64 : decode cX6_digest 64 = .ok (.aload_n 0, 1) := by sorry
theorem dX6_digest_65 : decode cX6_digest 65 = .ok (.lload_n 1, 1) := by sorry
theorem dX6_digest_66 : decode cX6_digest 66 = .ok (.invokevirtual 367, 3) := by sorry
theorem dX6_digest_69 : decode cX6_digest 69 = .ok (.lstore_n 1, 1) := by sorry
theorem dX6_digest_70 : decode cX6_digest 70 = .ok (.iconst 3, 1) := by sorry
theorem dX6_digest_71 : decode cX6_digest 71 = .ok (.istore_n 3, 1) := by sorry
theorem dX6_digest_72 : decode cX6_digest 72 = .ok (.iload_n 3, 1) := by sorry
theorem dX6_digest_73 : decode cX6_digest 73 = .ok (.bipush 7, 2) := by sorry
theorem dX6_digest_75 : decode cX6_digest 75 = .ok (.if_icmp .gt 22, 3) := by sorry
theorem dX6_digest_78 : decode cX6_digest 78 = .ok (.lload_n 1, 1) := by sorry
theorem dX6_digest_79 : decode cX6_digest 79 = .ok (.ldc2_w 355, 3) := by sorry
theorem dX6_digest_82 : decode cX6_digest 82 = .ok (.lmul, 1) := by sorry
theorem dX6_digest_83 : decode cX6_digest 83 = .ok (.aload_n 0, 1) := by sorry
theorem dX6_digest_84 : decode cX6_digest 84 = .ok (.iload_n 3, 1) := by sorry
theorem dX6_digest_85 : decode cX6_digest 85 = .ok (.invokevirtual 370, 3) := by sorry
theorem dX6_digest_88 : decode cX6_digest 88 = .ok (.i2l, 1) := by sorry
theorem dX6_digest_89 : decode cX6_digest 89 = .ok (.ladd, 1) := by sorry
theorem dX6_digest_90 : decode cX6_digest 90 = .ok (.lstore_n 1, 1) := by sorry
theorem dX6_digest_91 : decode cX6_digest 91 = .ok (.iinc 3 1, 3) := by sorry
theorem dX6_digest_94 : decode cX6_digest 94 = .ok (.goto (-22), 3) := by sorry
theorem dX6_digest_97 : decode cX6_digest 97 = .ok (.aload_n 0, 1) := by sorry
theorem dX6_digest_98 : decode cX6_digest 98 = .ok (.lload_n 1, 1) := by sorry
theorem dX6_digest_99 : decode cX6_digest 99 = .ok (.invokevirtual 373, 3) := by sorry
theorem dX6_digest_102 : decode cX6_digest 102 = .ok (.lstore_n 1, 1) := by sorry
theorem dX6_digest_103 : decode cX6_digest 103 = .ok (.iconst 0, 1) := by sorry
theorem dX6_digest_104 : decode cX6_digest 104 = .ok (.istore_n 3, 1) := by sorry
theorem dX6_digest_105 : decode cX6_digest 105 = .ok (.iload_n 3, 1) := by sorry
theorem dX6_digest_106 : decode cX6_digest 106 = .ok (.aload_n 0, 1) := by sorry
theorem dX6_digest_107 : decode cX6_digest 107 = .ok (.getfield 55, 3) := by sorry
theorem dX6_digest_110 : decode cX6_digest 110 = .ok (.if_icmp .ge 30, 3) := by sorry
theorem dX6_digest_113 : decode cX6_digest 113 = .ok (.lload_n 1, 1) := by sorry
theorem dX6_digest_114 : decode cX6_digest 114 = .ok (.ldc2_w 355, 3) := by sorry
theorem dX6_digest_117 : decode cX6_digest 117 = .ok (.lmul, 1) := by sorry
theorem dX6_digest_118 : decode cX6_digest 118 = .ok (.aload_n 0, 1) := by sorry
theorem dX6_digest_119 : decode cX6_digest 119 = .ok (.iload_n 3, 1) := by sorry
theorem dX6_digest_120 : decode cX6_digest 120 = .ok (.invokevirtual 376, 3) := by sorry
theorem dX6_digest_123 : decode cX6_digest 123 = .ok (.ifCond .eq 7, 3) := by sorry
theorem dX6_digest_126 : decode cX6_digest 126 = .ok (.iconst 1, 1) := by sorry
theorem dX6_digest_127 : decode cX6_digest 127 = .ok (.goto 4, 3) := by sorry
theorem dX6_digest_130 : decode cX6_digest 130 = .ok (.iconst 0, 1) := by sorry
theorem dX6_digest_131 : decode cX6_digest 131 = .ok (.i2l, 1) := by sorry
theorem dX6_digest_132 : decode cX6_digest 132 = .ok (.ladd, 1) := by sorry
theorem dX6_digest_133 : decode cX6_digest 133 = .ok (.lstore_n 1, 1) := by sorry
theorem dX6_digest_134 : decode cX6_digest 134 = .ok (.iinc 3 1, 3) := by sorry
theorem dX6_digest_137 : decode cX6_digest 137 = .ok (.goto (-32), 3) := by sorry
theorem dX6_digest_140 : decode cX6_digest 140 = .ok (.lload_n 1, 1) := by sorry
theorem dX6_digest_141 : decode cX6_digest 141 = .ok (.ldc2_w 355, 3) := by sorry
theorem dX6_digest_144 : decode cX6_digest 144 = .ok (.lmul, 1) := by sorry
theorem dX6_digest_145 : decode cX6_digest 145 = .ok (.aload_n 0, 1) := by sorry
theorem dX6_digest_146 : decode cX6_digest 146 = .ok (.invokevirtual 379, 3) := by sorry
theorem dX6_digest_149 : decode cX6_digest 149 = .ok (.ifCond .eq 7, 3) := by sorry
theorem dX6_digest_152 : decode cX6_digest 152 = .ok (.iconst 1, 1) := by sorry
theorem dX6_digest_153 : decode cX6_digest 153 = .ok (.goto 4, 3) := by sorry
theorem dX6_digest_156 : decode cX6_digest 156 = .ok (.iconst 0, 1) := by sorry
theorem dX6_digest_157 : decode cX6_digest 157 = .ok (.i2l, 1) := by sorry
theorem dX6_digest_158 : decode cX6_digest 158 = .ok (.ladd, 1) := by sorry
theorem dX6_digest_159 : decode cX6_digest 159 = .ok (.lreturn, 1) := by sorry
theorem ggX6_requireTabled_X6_isWithin : GoodIn wsX6_requireTabled wsX6_isWithin := by sorry
theorem gX6_requireTabled_X6_isWithin : GoodIn wsX6_requireTabled (va_wsS RX6 62 yX6_isWithin wsX6_isWithin) := by sorry
theorem dX6_requireTabled_0 : decode cX6_requireTabled 0 = .ok (.iload_n 1, 1) := by sorry
theorem dX6_requireTabled_1 : decode cX6_requireTabled 1 = .ok (.iconst 2, 1) := by sorry
theorem dX6_requireTabled_2 : decode cX6_requireTabled 2 = .ok (.iconst 5, 1) := by sorry
theorem dX6_requireTabled_3 : decode cX6_requireTabled 3 = .ok (.invokestatic 62, 3) := by sorry
theorem dX6_requireTabled_6 : decode cX6_requireTabled 6 = .ok (.ifCond .ne 14, 3) := by sorry
theorem dX6_requireTabled_9 : decode cX6_requireTabled 9 = .ok (.new 66, 3) := by sorry
theorem dX6_requireTabled_12 : decode cX6_requireTabled 12 = .ok (.dup, 1) := by sorry
theorem dX6_requireTabled_13 : decode cX6_requireTabled 13 = .ok (.ldc_w 382, 3) := by sorry
theorem dX6_requireTabled_16 : decode cX6_requireTabled 16 = .ok (.invokespecial 70, 3) := by sorry
theorem dX6_requireTabled_19 : decode cX6_requireTabled 19 = .ok (.athrow, 1) := by sorry
theorem dX6_requireTabled_20 : decode cX6_requireTabled 20 = .ok (.iload_n 2, 1) := by sorry
theorem dX6_requireTabled_21 : decode cX6_requireTabled 21 = .ok (.iconst 3, 1) := by sorry
theorem dX6_requireTabled_22 : decode cX6_requireTabled 22 = .ok (.bipush 8, 2) := by sorry
theorem dX6_requireTabled_24 : decode cX6_requireTabled 24 = .ok (.invokestatic 62, 3) := by sorry
theorem dX6_requireTabled_27 : decode cX6_requireTabled 27 = .ok (.ifCond .ne 14, 3) := by sorry
theorem dX6_requireTabled_30 : decode cX6_requireTabled 30 = .ok (.new 66, 3) := by sorry
theorem dX6_requireTabled_33 : decode cX6_requireTabled 33 = .ok (.dup, 1) := by sorry
theorem dX6_requireTabled_34 : decode cX6_requireTabled 34 = .ok (.ldc_w 384, 3) := by sorry
theorem dX6_requireTabled_37 : decode cX6_requireTabled 37 = .ok (.invokespecial 70, 3) := by sorry
theorem dX6_requireTabled_40 : decode cX6_requireTabled 40 = .ok (.athrow, 1) := by sorry
theorem dX6_requireTabled_41 : decode cX6_requireTabled 41 = .ok (.return_, 1) := by sorry
theorem dX6_keptAt_0 : decode cX6_keptAt 0 = .ok (.iload_n 1, 1) := by sorry
theorem dX6_keptAt_1 : decode cX6_keptAt 1 = .ok (.ifCond .lt 20, 3) := by sorry
theorem dX6_keptAt_4 : decode cX6_keptAt 4 = .ok (.iload_n 1, 1) := by sorry
theorem dX6_keptAt_5 : decode cX6_keptAt 5 = .ok (.aload_n 0, 1) := by sorry
theorem dX6_keptAt_6 : decode cX6_keptAt 6 = .ok (.getfield 55, 3) := by sorry
theorem dX6_keptAt_9 : decode cX6_keptAt 9 = .ok (.if_icmp .ge 12, 3) := by sorry
theorem dX6_keptAt_12 : decode cX6_keptAt 12 = .ok (.iload_n 1, 1) := by sorry
theorem dX6_keptAt_13 : decode cX6_keptAt 13 = .ok (.aload_n 0, 1) := by sorry
theorem dX6_keptAt_14 : decode cX6_keptAt 14 = .ok (.getfield 19, 3) := by sorry
theorem dX6_keptAt_17 : decode cX6_keptAt 17 = .ok (.arraylength, 1) := by sorry
theorem dX6_keptAt_18 : decode cX6_keptAt 18 = .ok (.if_icmp .lt 5, 3) := by sorry
theorem dX6_keptAt_21 : decode cX6_keptAt 21 = .ok (.aconst_null, 1) := by sorry
theorem dX6_keptAt_22 : decode cX6_keptAt 22 = .ok (.areturn, 1) := by sorry
theorem dX6_keptAt_23 : decode cX6_keptAt 23 = .ok (.aload_n 0, 1) := by sorry
theorem dX6_keptAt_24 : decode cX6_keptAt 24 = .ok (.getfield 19, 3) := by sorry
theorem dX6_keptAt_27 : decode cX6_keptAt 27 = .ok (.iload_n 1, 1) := by sorry
theorem dX6_keptAt_28 : decode cX6_keptAt 28 = .ok (.aaload, 1) := by sorry
theorem dX6_keptAt_29 : decode cX6_keptAt 29 = .ok (.areturn, 1) := by sorry
theorem ggX6_countByJumps_J6_bitCount_0f7a4 : GoodIn wsX6_countByJumps wsJ6_bitCount_0f7a4 := by sorry
theorem gX6_countByJumps_J6_bitCount_0f7a4 : GoodIn wsX6_countByJumps (va_wsS RX6 270 yJ6_bitCount_0f7a4 wsJ6_bitCount_0f7a4) := by sorry
theorem ggX6_countByJumps_X6_holds : GoodIn wsX6_countByJumps wsX6_holds := by sorry
theorem gX6_countByJumps_X6_holds : GoodIn wsX6_countByJumps (va_wsS RX6 386 yX6_holds wsX6_holds) := by sorry
theorem dX6_countByJumps_0 : decode cX6_countByJumps 0 = .ok (.iconst 2, 1) := by sorry
theorem dX6_countByJumps_1 : decode cX6_countByJumps 1 = .ok (.iload_n 1, 1) := by sorry
theorem dX6_countByJumps_2 : decode cX6_countByJumps 2 = .ok (.invokestatic 270, 3) := by sorry
theorem dX6_countByJumps_5 : decode cX6_countByJumps 5 = .ok (.imul, 1) := by sorry
theorem dX6_countByJumps_6 : decode cX6_countByJumps 6 = .ok (.istore_n 2, 1) := by sorry
theorem dX6_countByJumps_7 : decode cX6_countByJumps 7 = .ok (.iload_n 0, 1) := by sorry
theorem dX6_countByJumps_8 : decode cX6_countByJumps 8 = .ok (.iconst 2, 1) := by sorry
theorem dX6_countByJumps_9 : decode cX6_countByJumps 9 = .ok (.irem, 1) := by sorry
theorem dX6_countByJumps_10 : decode cX6_countByJumps 10 = .ok (.ifCond .ne 17, 3) := by sorry
theorem dX6_countByJumps_13 : decode cX6_countByJumps 13 = .ok (.iload_n 1, 1) := by sorry
theorem dX6_countByJumps_14 : decode cX6_countByJumps 14 = .ok (.iload_n 0, 1) := by sorry
theorem dX6_countByJumps_15 : decode cX6_countByJumps 15 = .ok (.iconst 2, 1) := by sorry
theorem dX6_countByJumps_16 : decode cX6_countByJumps 16 = .ok (.idiv, 1) := by sorry
theorem dX6_countByJumps_17 : decode cX6_countByJumps 17 = .ok (.invokestatic 386, 3) := by sorry
theorem dX6_countByJumps_20 : decode cX6_countByJumps 20 = .ok (.ifCond .eq 7, 3) := by sorry
theorem dX6_countByJumps_23 : decode cX6_countByJumps 23 = .ok (.iconst 1, 1) := by sorry
theorem dX6_countByJumps_24 : decode cX6_countByJumps 24 = .ok (.goto 4, 3) := by sorry
theorem dX6_countByJumps_27 : decode cX6_countByJumps 27 = .ok (.iconst 0, 1) := by sorry
theorem dX6_countByJumps_28 : decode cX6_countByJumps 28 = .ok (.istore_n 3, 1) := by sorry
theorem dX6_countByJumps_29 : decode cX6_countByJumps 29 = .ok (.iload_n 3, 1) := by sorry
theorem dX6_countByJumps_30 : decode cX6_countByJumps 30 = .ok (.ifCond .eq 9, 3) := by sorry
theorem dX6_countByJumps_33 : decode cX6_countByJumps 33 = .ok (.iload_n 2, 1) := by sorry
theorem dX6_countByJumps_34 : decode cX6_countByJumps 34 = .ok (.iconst 1, 1) := by sorry
theorem dX6_countByJumps_35 : decode cX6_countByJumps 35 = .ok (.isub, 1) := by sorry
theorem dX6_countByJumps_36 : decode cX6_countByJumps 36 = .ok (.goto 4, 3) := by sorry
theorem dX6_countByJumps_39 : decode cX6_countByJumps 39 = .ok (.iload_n 2, 1) := by sorry
theorem dX6_countByJumps_40 : decode cX6_countByJumps 40 = .ok (.ireturn, 1) := by sorry
theorem ggX6_layByJumps_X3_lay : GoodIn wsX6_layByJumps wsX3_lay := by sorry
theorem gX6_layByJumps_X3_lay_n76 : GoodIn wsX6_layByJumps (wsX3_lay) := by sorry
theorem ggX6_layByJumps_X6_holds : GoodIn wsX6_layByJumps wsX6_holds := by sorry
theorem gX6_layByJumps_X6_holds : GoodIn wsX6_layByJumps (va_wsS RX6 386 yX6_holds wsX6_holds) := by sorry
theorem ggX6_layByJumps_X3_join : GoodIn wsX6_layByJumps wsX3_join := by sorry
theorem gX6_layByJumps_X3_join_n111 : GoodIn wsX6_layByJumps (wsX3_join) := by sorry
theorem dX6_layByJumps_0 : decode cX6_layByJumps 0 = .ok (.aload_n 0, 1) := by sorry
theorem dX6_layByJumps_1 : decode cX6_layByJumps 1 = .ok (.getfield 12, 3) := by sorry
theorem dX6_layByJumps_4 : decode cX6_layByJumps 4 = .ok (.iload_n 1, 1) := by sorry
theorem dX6_layByJumps_5 : decode cX6_layByJumps 5 = .ok (.invokevirtual 76, 3) := by sorry
theorem dX6_layByJumps_8 : decode cX6_layByJumps 8 = .ok (.iconst 0, 1) := by sorry
theorem dX6_layByJumps_9 : decode cX6_layByJumps 9 = .ok (.istore_n 3, 1) := by sorry
theorem dX6_layByJumps_10 : decode cX6_layByJumps 10 = .ok (.iload_n 3, 1) := by sorry
theorem dX6_layByJumps_11 : decode cX6_layByJumps 11 = .ok (.iload_n 1, 1) := by sorry
theorem dX6_layByJumps_12 : decode cX6_layByJumps 12 = .ok (.if_icmp .ge 58, 3) := by sorry
theorem dX6_layByJumps_15 : decode cX6_layByJumps 15 = .ok (.iload_n 3, 1) := by sorry
theorem dX6_layByJumps_16 : decode cX6_layByJumps 16 = .ok (.iconst 1, 1) := by sorry
theorem dX6_layByJumps_17 : decode cX6_layByJumps 17 = .ok (.iadd, 1) := by sorry
theorem dX6_layByJumps_18 : decode cX6_layByJumps 18 = .ok (.istore 4, 2) := by sorry
theorem dX6_layByJumps_20 : decode cX6_layByJumps 20 = .ok (.iload 4, 2) := by sorry
theorem dX6_layByJumps_22 : decode cX6_layByJumps 22 = .ok (.iload_n 1, 1) := by sorry
theorem dX6_layByJumps_23 : decode cX6_layByJumps 23 = .ok (.if_icmp .ge 41, 3) := by sorry
theorem dX6_layByJumps_26 : decode cX6_layByJumps 26 = .ok (.iload 4, 2) := by sorry
theorem dX6_layByJumps_28 : decode cX6_layByJumps 28 = .ok (.iload_n 3, 1) := by sorry
theorem dX6_layByJumps_29 : decode cX6_layByJumps 29 = .ok (.isub, 1) := by sorry
theorem dX6_layByJumps_30 : decode cX6_layByJumps 30 = .ok (.istore 5, 2) := by sorry
theorem dX6_layByJumps_32 : decode cX6_layByJumps 32 = .ok (.iload_n 2, 1) := by sorry
theorem dX6_layByJumps_33 : decode cX6_layByJumps 33 = .ok (.iload 5, 2) := by sorry
theorem dX6_layByJumps_35 : decode cX6_layByJumps 35 = .ok (.iload_n 1, 1) := by sorry
theorem dX6_layByJumps_36 : decode cX6_layByJumps 36 = .ok (.iload 5, 2) := by sorry
theorem dX6_layByJumps_38 : decode cX6_layByJumps 38 = .ok (.isub, 1) := by sorry
theorem dX6_layByJumps_39 : decode cX6_layByJumps 39 = .ok (.invokestatic 324, 3) := by sorry
theorem dX6_layByJumps_42 : decode cX6_layByJumps 42 = .ok (.invokestatic 386, 3) := by sorry
theorem dX6_layByJumps_45 : decode cX6_layByJumps 45 = .ok (.ifCond .eq 13, 3) := by sorry
theorem dX6_layByJumps_48 : decode cX6_layByJumps 48 = .ok (.aload_n 0, 1) := by sorry
theorem dX6_layByJumps_49 : decode cX6_layByJumps 49 = .ok (.getfield 12, 3) := by sorry
theorem dX6_layByJumps_52 : decode cX6_layByJumps 52 = .ok (.iload_n 3, 1) := by sorry
theorem dX6_layByJumps_53 : decode cX6_layByJumps 53 = .ok (.iload 4, 2) := by sorry
theorem dX6_layByJumps_55 : decode cX6_layByJumps 55 = .ok (.invokevirtual 111, 3) := by sorry
theorem dX6_layByJumps_58 : decode cX6_layByJumps 58 = .ok (.iinc 4 1, 3) := by sorry
theorem dX6_layByJumps_61 : decode cX6_layByJumps 61 = .ok (.goto (-41), 3) := by sorry
theorem dX6_layByJumps_64 : decode cX6_layByJumps 64 = .ok (.iinc 3 1, 3) := by sorry
theorem dX6_layByJumps_67 : decode cX6_layByJumps 67 = .ok (.goto (-57), 3) := by sorry
theorem dX6_layByJumps_70 : decode cX6_layByJumps 70 = .ok (.return_, 1) := by sorry
theorem ggX6_layDouble_X3_lay : GoodIn wsX6_layDouble wsX3_lay := by sorry
theorem gX6_layDouble_X3_lay_n76 : GoodIn wsX6_layDouble (wsX3_lay) := by sorry
theorem ggX6_layDouble_X3_isNear : GoodIn wsX6_layDouble wsX3_isNear := by sorry
theorem gX6_layDouble_X3_isNear_n98 : GoodIn wsX6_layDouble (wsX3_isNear) := by sorry
theorem ggX6_layDouble_X6_holds : GoodIn wsX6_layDouble wsX6_holds := by sorry
theorem gX6_layDouble_X6_holds : GoodIn wsX6_layDouble (va_wsS RX6 386 yX6_holds wsX6_holds) := by sorry
theorem ggX6_layDouble_X3_join : GoodIn wsX6_layDouble wsX3_join := by sorry
theorem gX6_layDouble_X3_join_n111 : GoodIn wsX6_layDouble (wsX3_join) := by sorry
theorem dX6_layDouble_0 : decode cX6_layDouble 0 = .ok (.aload_n 0, 1) := by sorry
theorem dX6_layDouble_1 : decode cX6_layDouble 1 = .ok (.getfield 12, 3) := by sorry
theorem dX6_layDouble_4 : decode cX6_layDouble 4 = .ok (.getfield 73, 3) := by sorry
theorem dX6_layDouble_7 : decode cX6_layDouble 7 = .ok (.istore_n 2, 1) := by sorry
theorem dX6_layDouble_8 : decode cX6_layDouble 8 = .ok (.aload_n 0, 1) := by sorry
theorem dX6_layDouble_9 : decode cX6_layDouble 9 = .ok (.getfield 16, 3) := by sorry
theorem dX6_layDouble_12 : decode cX6_layDouble 12 = .ok (.iconst 2, 1) := by sorry
theorem dX6_layDouble_13 : decode cX6_layDouble 13 = .ok (.iload_n 2, 1) := by sorry
theorem dX6_layDouble_14 : decode cX6_layDouble 14 = .ok (.imul, 1) := by sorry
theorem dX6_layDouble_15 : decode cX6_layDouble 15 = .ok (.invokevirtual 76, 3) := by sorry
theorem dX6_layDouble_18 : decode cX6_layDouble 18 = .ok (.iconst 0, 1) := by sorry
theorem dX6_layDouble_19 : decode cX6_layDouble 19 = .ok (.istore_n 3, 1) := by sorry
theorem dX6_layDouble_20 : decode cX6_layDouble 20 = .ok (.iconst 0, 1) := by sorry
theorem dX6_layDouble_21 : decode cX6_layDouble 21 = .ok (.istore 4, 2) := by sorry
theorem dX6_layDouble_23 : decode cX6_layDouble 23 = .ok (.iload 4, 2) := by sorry
theorem dX6_layDouble_25 : decode cX6_layDouble 25 = .ok (.iload_n 2, 1) := by sorry
theorem dX6_layDouble_26 : decode cX6_layDouble 26 = .ok (.if_icmp .ge 99, 3) := by sorry
theorem dX6_layDouble_29 : decode cX6_layDouble 29 = .ok (.iload 4, 2) := by sorry
theorem dX6_layDouble_31 : decode cX6_layDouble 31 = .ok (.iconst 1, 1) := by sorry
theorem dX6_layDouble_32 : decode cX6_layDouble 32 = .ok (.iadd, 1) := by sorry
theorem dX6_layDouble_33 : decode cX6_layDouble 33 = .ok (.istore 5, 2) := by sorry
theorem dX6_layDouble_35 : decode cX6_layDouble 35 = .ok (.iload 5, 2) := by sorry
theorem dX6_layDouble_37 : decode cX6_layDouble 37 = .ok (.iload_n 2, 1) := by sorry
theorem dX6_layDouble_38 : decode cX6_layDouble 38 = .ok (.if_icmp .ge 81, 3) := by sorry
theorem dX6_layDouble_41 : decode cX6_layDouble 41 = .ok (.aload_n 0, 1) := by sorry
theorem dX6_layDouble_42 : decode cX6_layDouble 42 = .ok (.getfield 12, 3) := by sorry
theorem dX6_layDouble_45 : decode cX6_layDouble 45 = .ok (.iload 4, 2) := by sorry
theorem dX6_layDouble_47 : decode cX6_layDouble 47 = .ok (.iload 5, 2) := by sorry
theorem dX6_layDouble_49 : decode cX6_layDouble 49 = .ok (.invokevirtual 98, 3) := by sorry
theorem dX6_layDouble_52 : decode cX6_layDouble 52 = .ok (.ifCond .eq 61, 3) := by sorry
theorem dX6_layDouble_55 : decode cX6_layDouble 55 = .ok (.iload_n 1, 1) := by sorry
theorem dX6_layDouble_56 : decode cX6_layDouble 56 = .ok (.iload_n 3, 1) := by sorry
theorem dX6_layDouble_57 : decode cX6_layDouble 57 = .ok (.invokestatic 386, 3) := by sorry
theorem dX6_layDouble_60 : decode cX6_layDouble 60 = .ok (.istore 6, 2) := by sorry
theorem dX6_layDouble_62 : decode cX6_layDouble 62 = .ok (.aload_n 0, 1) := by sorry
theorem dX6_layDouble_63 : decode cX6_layDouble 63 = .ok (.getfield 16, 3) := by sorry
theorem dX6_layDouble_66 : decode cX6_layDouble 66 = .ok (.iload 4, 2) := by sorry
theorem dX6_layDouble_68 : decode cX6_layDouble 68 = .ok (.iload 6, 2) := by sorry
theorem dX6_layDouble_70 : decode cX6_layDouble 70 = .ok (.ifCond .eq 10, 3) := by sorry
theorem dX6_layDouble_73 : decode cX6_layDouble 73 = .ok (.iload 5, 2) := by sorry
theorem dX6_layDouble_75 : decode cX6_layDouble 75 = .ok (.iload_n 2, 1) := by sorry
theorem dX6_layDouble_76 : decode cX6_layDouble 76 = .ok (.iadd, 1) := by sorry
theorem dX6_layDouble_77 : decode cX6_layDouble 77 = .ok (.goto 5, 3) := by sorry
theorem dX6_layDouble_80 : decode cX6_layDouble 80 = .ok (.iload 5, 2) := by sorry
theorem dX6_layDouble_82 : decode cX6_layDouble 82 = .ok (.invokevirtual 111, 3) := by sorry
theorem dX6_layDouble_85 : decode cX6_layDouble 85 = .ok (.aload_n 0, 1) := by sorry
theorem dX6_layDouble_86 : decode cX6_layDouble 86 = .ok (.getfield 16, 3) := by sorry
theorem dX6_layDouble_89 : decode cX6_layDouble 89 = .ok (.iload 4, 2) := by sorry
theorem dX6_layDouble_91 : decode cX6_layDouble 91 = .ok (.iload_n 2, 1) := by sorry
theorem dX6_layDouble_92 : decode cX6_layDouble 92 = .ok (.iadd, 1) := by sorry
theorem dX6_layDouble_93 : decode cX6_layDouble 93 = .ok (.iload 6, 2) := by sorry
theorem dX6_layDouble_95 : decode cX6_layDouble 95 = .ok (.ifCond .eq 8, 3) := by sorry
theorem dX6_layDouble_98 : decode cX6_layDouble 98 = .ok (.iload 5, 2) := by sorry
theorem dX6_layDouble_100 : decode cX6_layDouble 100 = .ok (.goto 7, 3) := by sorry
theorem dX6_layDouble_103 : decode cX6_layDouble 103 = .ok (.iload 5, 2) := by sorry
theorem dX6_layDouble_105 : decode cX6_layDouble 105 = .ok (.iload_n 2, 1) := by sorry
theorem dX6_layDouble_106 : decode cX6_layDouble 106 = .ok (.iadd, 1) := by sorry
theorem dX6_layDouble_107 : decode cX6_layDouble 107 = .ok (.invokevirtual 111, 3) := by sorry
theorem dX6_layDouble_110 : decode cX6_layDouble 110 = .ok (.iinc 3 1, 3) := by sorry
theorem dX6_layDouble_113 : decode cX6_layDouble 113 = .ok (.iinc 5 1, 3) := by sorry
theorem dX6_layDouble_116 : decode cX6_layDouble 116 = .ok (.goto (-81), 3) := by sorry
theorem dX6_layDouble_119 : decode cX6_layDouble 119 = .ok (.iinc 4 1, 3) := by sorry
theorem dX6_layDouble_122 : decode cX6_layDouble 122 = .ok (.goto (-99), 3) := by sorry
theorem dX6_layDouble_125 : decode cX6_layDouble 125 = .ok (.return_, 1) := by sorry
theorem ggX6_turned_X6_otherOf : GoodIn wsX6_turned wsX6_otherOf := by sorry
theorem gX6_turned_X6_otherOf : GoodIn wsX6_turned (va_wsS RX6 280 yX6_otherOf wsX6_otherOf) := by sorry
theorem ggX6_turned_X6_oneOf : GoodIn wsX6_turned wsX6_oneOf := by sorry
theorem gX6_turned_X6_oneOf : GoodIn wsX6_turned (va_wsS RX6 277 yX6_oneOf wsX6_oneOf) := by sorry
theorem ggX6_turned_X6_pairOf : GoodIn wsX6_turned wsX6_pairOf := by sorry
theorem gX6_turned_X6_pairOf : GoodIn wsX6_turned (va_wsS RX6 389 yX6_pairOf wsX6_pairOf) := by sorry
theorem dX6_turned_0 : decode cX6_turned 0 = .ok (.iload_n 1, 1) := by sorry
theorem dX6_turned_1 : decode cX6_turned 1 = .ok (.ifCond .eq 17, 3) := by sorry
theorem dX6_turned_4 : decode cX6_turned 4 = .ok (.iload_n 0, 1) := by sorry
theorem dX6_turned_5 : decode cX6_turned 5 = .ok (.invokestatic 280, 3) := by sorry
theorem dX6_turned_8 : decode cX6_turned 8 = .ok (.iload_n 0, 1) := by sorry
theorem dX6_turned_9 : decode cX6_turned 9 = .ok (.invokestatic 277, 3) := by sorry
theorem dX6_turned_12 : decode cX6_turned 12 = .ok (.invokestatic 389, 3) := by sorry
theorem dX6_turned_15 : decode cX6_turned 15 = .ok (.goto 4, 3) := by sorry
theorem dX6_turned_18 : decode cX6_turned 18 = .ok (.iload_n 0, 1) := by sorry
theorem dX6_turned_19 : decode cX6_turned 19 = .ok (.ireturn, 1) := by sorry
theorem ggX6_canExchange_X6_oneOf : GoodIn wsX6_canExchange wsX6_oneOf := by sorry
theorem gX6_canExchange_X6_oneOf : GoodIn wsX6_canExchange (va_wsS RX6 277 yX6_oneOf wsX6_oneOf) := by sorry
theorem ggX6_canExchange_X6_bit : GoodIn wsX6_canExchange wsX6_bit := by sorry
theorem gX6_canExchange_X6_bit : GoodIn wsX6_canExchange (va_wsS RX6 118 yX6_bit wsX6_bit) := by sorry
end
section
theorem ggX6_canExchange_X6_otherOf : GoodIn wsX6_canExchange wsX6_otherOf := by sorry
theorem gX6_canExchange_X6_otherOf : GoodIn wsX6_canExchange (va_wsS RX6 280 yX6_otherOf wsX6_otherOf) := by sorry
theorem ggX6_canExchange_J6_bitCount_0f7a4 : GoodIn wsX6_canExchange wsJ6_bitCount_0f7a4 := by sorry
theorem gX6_canExchange_J6_bitCount_0f7a4 : GoodIn wsX6_canExchange (va_wsS RX6 270 yJ6_bitCount_0f7a4 wsJ6_bitCount_0f7a4) := by sorry
theorem ggX6_canExchange_X3_isNear : GoodIn wsX6_canExchange wsX3_isNear := by sorry
theorem gX6_canExchange_X3_isNear_n98 : GoodIn wsX6_canExchange (wsX3_isNear) := by sorry
theorem dX6_canExchange_0 : decode cX6_canExchange 0 = .ok (.iload_n 1, 1) := by sorry
theorem dX6_canExchange_1 : decode cX6_canExchange 1 = .ok (.invokestatic 277, 3) := by sorry
theorem dX6_canExchange_4 : decode cX6_canExchange 4 = .ok (.invokestatic 118, 3) := by sorry
theorem dX6_canExchange_7 : decode cX6_canExchange 7 = .ok (.iload_n 1, 1) := by sorry
theorem dX6_canExchange_8 : decode cX6_canExchange 8 = .ok (.invokestatic 280, 3) := by sorry
theorem dX6_canExchange_11 : decode cX6_canExchange 11 = .ok (.invokestatic 118, 3) := by sorry
theorem dX6_canExchange_14 : decode cX6_canExchange 14 = .ok (.ior, 1) := by sorry
theorem dX6_canExchange_15 : decode cX6_canExchange 15 = .ok (.iload_n 2, 1) := by sorry
theorem dX6_canExchange_16 : decode cX6_canExchange 16 = .ok (.invokestatic 277, 3) := by sorry
theorem dX6_canExchange_19 : decode cX6_canExchange 19 = .ok (.invokestatic 118, 3) := by sorry
theorem dX6_canExchange_22 : decode cX6_canExchange 22 = .ok (.ior, 1) := by sorry
theorem dX6_canExchange_23 : decode cX6_canExchange 23 = .ok (.iload_n 2, 1) := by sorry
theorem dX6_canExchange_24 : decode cX6_canExchange 24 = .ok (.invokestatic 280, 3) := by sorry
theorem dX6_canExchange_27 : decode cX6_canExchange 27 = .ok (.invokestatic 118, 3) := by sorry
theorem dX6_canExchange_30 : decode cX6_canExchange 30 = .ok (.ior, 1) := by sorry
theorem dX6_canExchange_31 : decode cX6_canExchange 31 = .ok (.istore_n 3, 1) := by sorry
theorem dX6_canExchange_32 : decode cX6_canExchange 32 = .ok (.iload_n 3, 1) := by sorry
theorem dX6_canExchange_33 : decode cX6_canExchange 33 = .ok (.invokestatic 270, 3) := by sorry
theorem dX6_canExchange_36 : decode cX6_canExchange 36 = .ok (.iconst 4, 1) := by sorry
theorem dX6_canExchange_37 : decode cX6_canExchange 37 = .ok (.if_icmp .ne 43, 3) := by sorry
theorem dX6_canExchange_40 : decode cX6_canExchange 40 = .ok (.aload_n 0, 1) := by sorry
theorem dX6_canExchange_41 : decode cX6_canExchange 41 = .ok (.getfield 12, 3) := by sorry
theorem dX6_canExchange_44 : decode cX6_canExchange 44 = .ok (.iload_n 1, 1) := by sorry
theorem dX6_canExchange_45 : decode cX6_canExchange 45 = .ok (.invokestatic 277, 3) := by sorry
theorem dX6_canExchange_48 : decode cX6_canExchange 48 = .ok (.iload_n 2, 1) := by sorry
theorem dX6_canExchange_49 : decode cX6_canExchange 49 = .ok (.invokestatic 277, 3) := by sorry
theorem dX6_canExchange_52 : decode cX6_canExchange 52 = .ok (.invokevirtual 98, 3) := by sorry
theorem dX6_canExchange_55 : decode cX6_canExchange 55 = .ok (.ifCond .ne 25, 3) := by sorry
theorem dX6_canExchange_58 : decode cX6_canExchange 58 = .ok (.aload_n 0, 1) := by sorry
theorem dX6_canExchange_59 : decode cX6_canExchange 59 = .ok (.getfield 12, 3) := by sorry
theorem dX6_canExchange_62 : decode cX6_canExchange 62 = .ok (.iload_n 1, 1) := by sorry
theorem dX6_canExchange_63 : decode cX6_canExchange 63 = .ok (.invokestatic 280, 3) := by sorry
theorem dX6_canExchange_66 : decode cX6_canExchange 66 = .ok (.iload_n 2, 1) := by sorry
theorem dX6_canExchange_67 : decode cX6_canExchange 67 = .ok (.invokestatic 280, 3) := by sorry
theorem dX6_canExchange_70 : decode cX6_canExchange 70 = .ok (.invokevirtual 98, 3) := by sorry
theorem dX6_canExchange_73 : decode cX6_canExchange 73 = .ok (.ifCond .ne 7, 3) := by sorry
theorem dX6_canExchange_76 : decode cX6_canExchange 76 = .ok (.iconst 1, 1) := by sorry
theorem dX6_canExchange_77 : decode cX6_canExchange 77 = .ok (.goto 4, 3) := by sorry
theorem dX6_canExchange_80 : decode cX6_canExchange 80 = .ok (.iconst 0, 1) := by sorry
theorem dX6_canExchange_81 : decode cX6_canExchange 81 = .ok (.ireturn, 1) := by sorry
theorem ggX6_exchange_X6_oneOf : GoodIn wsX6_exchange wsX6_oneOf := by sorry
theorem gX6_exchange_X6_oneOf : GoodIn wsX6_exchange (va_wsS RX6 277 yX6_oneOf wsX6_oneOf) := by sorry
theorem ggX6_exchange_X6_otherOf : GoodIn wsX6_exchange wsX6_otherOf := by sorry
theorem gX6_exchange_X6_otherOf : GoodIn wsX6_exchange (va_wsS RX6 280 yX6_otherOf wsX6_otherOf) := by sorry
theorem ggX6_exchange_X3_loosen : GoodIn wsX6_exchange wsX3_loosen := by sorry
theorem gX6_exchange_X3_loosen_n115 : GoodIn wsX6_exchange (wsX3_loosen) := by sorry
theorem ggX6_exchange_X3_join : GoodIn wsX6_exchange wsX3_join := by sorry
theorem gX6_exchange_X3_join_n111 : GoodIn wsX6_exchange (wsX3_join) := by sorry
theorem dX6_exchange_0 : decode cX6_exchange 0 = .ok (.aload_n 0, 1) := by sorry
theorem dX6_exchange_1 : decode cX6_exchange 1 = .ok (.getfield 12, 3) := by sorry
theorem dX6_exchange_4 : decode cX6_exchange 4 = .ok (.iload_n 1, 1) := by sorry
theorem dX6_exchange_5 : decode cX6_exchange 5 = .ok (.invokestatic 277, 3) := by sorry
theorem dX6_exchange_8 : decode cX6_exchange 8 = .ok (.iload_n 1, 1) := by sorry
theorem dX6_exchange_9 : decode cX6_exchange 9 = .ok (.invokestatic 280, 3) := by sorry
theorem dX6_exchange_12 : decode cX6_exchange 12 = .ok (.invokevirtual 115, 3) := by sorry
theorem dX6_exchange_15 : decode cX6_exchange 15 = .ok (.aload_n 0, 1) := by sorry
theorem dX6_exchange_16 : decode cX6_exchange 16 = .ok (.getfield 12, 3) := by sorry
theorem dX6_exchange_19 : decode cX6_exchange 19 = .ok (.iload_n 2, 1) := by sorry
theorem dX6_exchange_20 : decode cX6_exchange 20 = .ok (.invokestatic 277, 3) := by sorry
theorem dX6_exchange_23 : decode cX6_exchange 23 = .ok (.iload_n 2, 1) := by sorry
theorem dX6_exchange_24 : decode cX6_exchange 24 = .ok (.invokestatic 280, 3) := by sorry
theorem dX6_exchange_27 : decode cX6_exchange 27 = .ok (.invokevirtual 115, 3) := by sorry
theorem dX6_exchange_30 : decode cX6_exchange 30 = .ok (.aload_n 0, 1) := by sorry
theorem dX6_exchange_31 : decode cX6_exchange 31 = .ok (.getfield 12, 3) := by sorry
theorem dX6_exchange_34 : decode cX6_exchange 34 = .ok (.iload_n 1, 1) := by sorry
theorem dX6_exchange_35 : decode cX6_exchange 35 = .ok (.invokestatic 277, 3) := by sorry
theorem dX6_exchange_38 : decode cX6_exchange 38 = .ok (.iload_n 2, 1) := by sorry
theorem dX6_exchange_39 : decode cX6_exchange 39 = .ok (.invokestatic 277, 3) := by sorry
theorem dX6_exchange_42 : decode cX6_exchange 42 = .ok (.invokevirtual 111, 3) := by sorry
theorem dX6_exchange_45 : decode cX6_exchange 45 = .ok (.aload_n 0, 1) := by sorry
theorem dX6_exchange_46 : decode cX6_exchange 46 = .ok (.getfield 12, 3) := by sorry
theorem dX6_exchange_49 : decode cX6_exchange 49 = .ok (.iload_n 1, 1) := by sorry
theorem dX6_exchange_50 : decode cX6_exchange 50 = .ok (.invokestatic 280, 3) := by sorry
theorem dX6_exchange_53 : decode cX6_exchange 53 = .ok (.iload_n 2, 1) := by sorry
theorem dX6_exchange_54 : decode cX6_exchange 54 = .ok (.invokestatic 280, 3) := by sorry
theorem dX6_exchange_57 : decode cX6_exchange 57 = .ok (.invokevirtual 111, 3) := by sorry
theorem dX6_exchange_60 : decode cX6_exchange 60 = .ok (.return_, 1) := by sorry
theorem ggX6_mendByRounds_X3_edgesInAll : GoodIn wsX6_mendByRounds wsX3_edgesInAll := by sorry
theorem gX6_mendByRounds_X3_edgesInAll_n130 : GoodIn wsX6_mendByRounds (wsX3_edgesInAll) := by sorry
theorem ggX6_mendByRounds_X6_shortRings : GoodIn wsX6_mendByRounds wsX6_shortRings := by sorry
theorem gX6_mendByRounds_X6_shortRings : GoodIn wsX6_mendByRounds (wsV RX6 392 RX6 yX6_shortRings wsX6_shortRings) := by sorry
theorem ggX6_mendByRounds_X3_edgeAt : GoodIn wsX6_mendByRounds wsX3_edgeAt := by sorry
theorem gX6_mendByRounds_X3_edgeAt_n153 : GoodIn wsX6_mendByRounds (wsX3_edgeAt) := by sorry
theorem ggX6_mendByRounds_X6_turned : GoodIn wsX6_mendByRounds wsX6_turned := by sorry
theorem gX6_mendByRounds_X6_turned : GoodIn wsX6_mendByRounds (va_wsS RX6 158 yX6_turned wsX6_turned) := by sorry
theorem ggX6_mendByRounds_X6_canExchange : GoodIn wsX6_mendByRounds wsX6_canExchange := by sorry
theorem gX6_mendByRounds_X6_canExchange : GoodIn wsX6_mendByRounds (wsV RX6 162 RX6 yX6_canExchange wsX6_canExchange) := by sorry
theorem ggX6_mendByRounds_X3_take : GoodIn wsX6_mendByRounds wsX3_take := by sorry
theorem gX6_mendByRounds_X3_take_n144 : GoodIn wsX6_mendByRounds (wsX3_take) := by sorry
theorem ggX6_mendByRounds_X6_exchange : GoodIn wsX6_mendByRounds wsX6_exchange := by sorry
theorem gX6_mendByRounds_X6_exchange : GoodIn wsX6_mendByRounds (wsV RX6 165 RX6 yX6_exchange wsX6_exchange) := by sorry
theorem dX6_mendByRounds_0 : decode cX6_mendByRounds 0 = .ok (.aload_n 0, 1) := by sorry
theorem dX6_mendByRounds_1 : decode cX6_mendByRounds 1 = .ok (.getfield 12, 3) := by sorry
theorem dX6_mendByRounds_4 : decode cX6_mendByRounds 4 = .ok (.invokevirtual 130, 3) := by sorry
theorem dX6_mendByRounds_7 : decode cX6_mendByRounds 7 = .ok (.istore 4, 2) := by sorry
theorem dX6_mendByRounds_9 : decode cX6_mendByRounds 9 = .ok (.iload 4, 2) := by sorry
theorem dX6_mendByRounds_11 : decode cX6_mendByRounds 11 = .ok (.iconst 1, 1) := by sorry
theorem dX6_mendByRounds_12 : decode cX6_mendByRounds 12 = .ok (.if_icmp .ge 5, 3) := by sorry
theorem dX6_mendByRounds_15 : decode cX6_mendByRounds 15 = .ok (.iconst 0, 1) := by sorry
theorem dX6_mendByRounds_16 : decode cX6_mendByRounds 16 = .ok (.ireturn, 1) := by sorry
theorem dX6_mendByRounds_17 : decode cX6_mendByRounds 17 = .ok (.iconst 0, 1) := by sorry
theorem dX6_mendByRounds_18 : decode cX6_mendByRounds 18 = .ok (.istore 5, 2) := by sorry
theorem dX6_mendByRounds_20 : decode cX6_mendByRounds 20 = .ok (.aload_n 0, 1) := by sorry
theorem dX6_mendByRounds_21 : decode cX6_mendByRounds 21 = .ok (.iload_n 1, 1) := by sorry
theorem dX6_mendByRounds_22 : decode cX6_mendByRounds 22 = .ok (.invokevirtual 392, 3) := by sorry
theorem dX6_mendByRounds_25 : decode cX6_mendByRounds 25 = .ok (.istore 6, 2) := by sorry
theorem dX6_mendByRounds_27 : decode cX6_mendByRounds 27 = .ok (.iload_n 2, 1) := by sorry
theorem dX6_mendByRounds_28 : decode cX6_mendByRounds 28 = .ok (.istore 7, 2) := by sorry
theorem dX6_mendByRounds_30 : decode cX6_mendByRounds 30 = .ok (.iconst 0, 1) := by sorry
theorem dX6_mendByRounds_31 : decode cX6_mendByRounds 31 = .ok (.istore 8, 2) := by sorry
theorem dX6_mendByRounds_33 : decode cX6_mendByRounds 33 = .ok (.iload 8, 2) := by sorry
theorem dX6_mendByRounds_35 : decode cX6_mendByRounds 35 = .ok (.iload_n 3, 1) := by sorry
theorem dX6_mendByRounds_36 : decode cX6_mendByRounds 36 = .ok (.if_icmp .ge 141, 3) := by sorry
theorem dX6_mendByRounds_39 : decode cX6_mendByRounds 39 = .ok (.iload 7, 2) := by sorry
theorem dX6_mendByRounds_41 : decode cX6_mendByRounds 41 = .ok (.ldc_w 395, 3) := by sorry
theorem dX6_mendByRounds_44 : decode cX6_mendByRounds 44 = .ok (.imul, 1) := by sorry
theorem dX6_mendByRounds_45 : decode cX6_mendByRounds 45 = .ok (.sipush 12345, 3) := by sorry
theorem dX6_mendByRounds_48 : decode cX6_mendByRounds 48 = .ok (.iadd, 1) := by sorry
theorem dX6_mendByRounds_49 : decode cX6_mendByRounds 49 = .ok (.ldc_w 396, 3) := by sorry
theorem dX6_mendByRounds_52 : decode cX6_mendByRounds 52 = .ok (.iand, 1) := by sorry
theorem dX6_mendByRounds_53 : decode cX6_mendByRounds 53 = .ok (.istore 7, 2) := by sorry
theorem dX6_mendByRounds_55 : decode cX6_mendByRounds 55 = .ok (.aload_n 0, 1) := by sorry
theorem dX6_mendByRounds_56 : decode cX6_mendByRounds 56 = .ok (.getfield 12, 3) := by sorry
theorem dX6_mendByRounds_59 : decode cX6_mendByRounds 59 = .ok (.iload 7, 2) := by sorry
theorem dX6_mendByRounds_61 : decode cX6_mendByRounds 61 = .ok (.bipush 7, 2) := by sorry
theorem dX6_mendByRounds_63 : decode cX6_mendByRounds 63 = .ok (.idiv, 1) := by sorry
theorem dX6_mendByRounds_64 : decode cX6_mendByRounds 64 = .ok (.iload 4, 2) := by sorry
theorem dX6_mendByRounds_66 : decode cX6_mendByRounds 66 = .ok (.irem, 1) := by sorry
theorem dX6_mendByRounds_67 : decode cX6_mendByRounds 67 = .ok (.invokevirtual 153, 3) := by sorry
theorem dX6_mendByRounds_70 : decode cX6_mendByRounds 70 = .ok (.istore 9, 2) := by sorry
theorem dX6_mendByRounds_72 : decode cX6_mendByRounds 72 = .ok (.aload_n 0, 1) := by sorry
theorem dX6_mendByRounds_73 : decode cX6_mendByRounds 73 = .ok (.getfield 12, 3) := by sorry
theorem dX6_mendByRounds_76 : decode cX6_mendByRounds 76 = .ok (.iload 7, 2) := by sorry
theorem dX6_mendByRounds_78 : decode cX6_mendByRounds 78 = .ok (.sipush 1024, 3) := by sorry
theorem dX6_mendByRounds_81 : decode cX6_mendByRounds 81 = .ok (.idiv, 1) := by sorry
theorem dX6_mendByRounds_82 : decode cX6_mendByRounds 82 = .ok (.iload 4, 2) := by sorry
theorem dX6_mendByRounds_84 : decode cX6_mendByRounds 84 = .ok (.irem, 1) := by sorry
theorem dX6_mendByRounds_85 : decode cX6_mendByRounds 85 = .ok (.invokevirtual 153, 3) := by sorry
theorem dX6_mendByRounds_88 : decode cX6_mendByRounds 88 = .ok (.iload 7, 2) := by sorry
theorem dX6_mendByRounds_90 : decode cX6_mendByRounds 90 = .ok (.iconst 2, 1) := by sorry
theorem dX6_mendByRounds_91 : decode cX6_mendByRounds 91 = .ok (.irem, 1) := by sorry
theorem dX6_mendByRounds_92 : decode cX6_mendByRounds 92 = .ok (.iconst 1, 1) := by sorry
theorem dX6_mendByRounds_93 : decode cX6_mendByRounds 93 = .ok (.if_icmp .ne 7, 3) := by sorry
theorem dX6_mendByRounds_96 : decode cX6_mendByRounds 96 = .ok (.iconst 1, 1) := by sorry
theorem dX6_mendByRounds_97 : decode cX6_mendByRounds 97 = .ok (.goto 4, 3) := by sorry
theorem dX6_mendByRounds_100 : decode cX6_mendByRounds 100 = .ok (.iconst 0, 1) := by sorry
theorem dX6_mendByRounds_101 : decode cX6_mendByRounds 101 = .ok (.invokestatic 158, 3) := by sorry
theorem dX6_mendByRounds_104 : decode cX6_mendByRounds 104 = .ok (.istore 10, 2) := by sorry
theorem dX6_mendByRounds_106 : decode cX6_mendByRounds 106 = .ok (.aload_n 0, 1) := by sorry
theorem dX6_mendByRounds_107 : decode cX6_mendByRounds 107 = .ok (.iload 9, 2) := by sorry
theorem dX6_mendByRounds_109 : decode cX6_mendByRounds 109 = .ok (.iload 10, 2) := by sorry
theorem dX6_mendByRounds_111 : decode cX6_mendByRounds 111 = .ok (.invokevirtual 162, 3) := by sorry
theorem dX6_mendByRounds_114 : decode cX6_mendByRounds 114 = .ok (.ifCond .eq 57, 3) := by sorry
theorem dX6_mendByRounds_117 : decode cX6_mendByRounds 117 = .ok (.aload_n 0, 1) := by sorry
theorem dX6_mendByRounds_118 : decode cX6_mendByRounds 118 = .ok (.getfield 16, 3) := by sorry
theorem dX6_mendByRounds_121 : decode cX6_mendByRounds 121 = .ok (.aload_n 0, 1) := by sorry
theorem dX6_mendByRounds_122 : decode cX6_mendByRounds 122 = .ok (.getfield 12, 3) := by sorry
theorem dX6_mendByRounds_125 : decode cX6_mendByRounds 125 = .ok (.invokevirtual 144, 3) := by sorry
theorem dX6_mendByRounds_128 : decode cX6_mendByRounds 128 = .ok (.aload_n 0, 1) := by sorry
theorem dX6_mendByRounds_129 : decode cX6_mendByRounds 129 = .ok (.iload 9, 2) := by sorry
theorem dX6_mendByRounds_131 : decode cX6_mendByRounds 131 = .ok (.iload 10, 2) := by sorry
theorem dX6_mendByRounds_133 : decode cX6_mendByRounds 133 = .ok (.invokevirtual 165, 3) := by sorry
theorem dX6_mendByRounds_136 : decode cX6_mendByRounds 136 = .ok (.aload_n 0, 1) := by sorry
theorem dX6_mendByRounds_137 : decode cX6_mendByRounds 137 = .ok (.iload_n 1, 1) := by sorry
theorem dX6_mendByRounds_138 : decode cX6_mendByRounds 138 = .ok (.invokevirtual 392, 3) := by sorry
theorem dX6_mendByRounds_141 : decode cX6_mendByRounds 141 = .ok (.istore 11, 2) := by sorry
theorem dX6_mendByRounds_143 : decode cX6_mendByRounds 143 = .ok (.iload 11, 2) := by sorry
theorem dX6_mendByRounds_145 : decode cX6_mendByRounds 145 = .ok (.iload 6, 2) := by sorry
theorem dX6_mendByRounds_147 : decode cX6_mendByRounds 147 = .ok (.if_icmp .ge 13, 3) := by sorry
theorem dX6_mendByRounds_150 : decode cX6_mendByRounds 150 = .ok (.iload 11, 2) := by sorry
theorem dX6_mendByRounds_152 : decode cX6_mendByRounds 152 = .ok (.istore 6, 2) := by sorry
theorem dX6_mendByRounds_154 : decode cX6_mendByRounds 154 = .ok (.iinc 5 1, 3) := by sorry
theorem dX6_mendByRounds_157 : decode cX6_mendByRounds 157 = .ok (.goto 14, 3) := by sorry
theorem dX6_mendByRounds_160 : decode cX6_mendByRounds 160 = .ok (.aload_n 0, 1) := by sorry
theorem dX6_mendByRounds_161 : decode cX6_mendByRounds 161 = .ok (.getfield 12, 3) := by sorry
theorem dX6_mendByRounds_164 : decode cX6_mendByRounds 164 = .ok (.aload_n 0, 1) := by sorry
theorem dX6_mendByRounds_165 : decode cX6_mendByRounds 165 = .ok (.getfield 16, 3) := by sorry
theorem dX6_mendByRounds_168 : decode cX6_mendByRounds 168 = .ok (.invokevirtual 144, 3) := by sorry
theorem dX6_mendByRounds_171 : decode cX6_mendByRounds 171 = .ok (.iinc 8 1, 3) := by sorry
theorem dX6_mendByRounds_174 : decode cX6_mendByRounds 174 = .ok (.goto (-141), 3) := by sorry
theorem dX6_mendByRounds_177 : decode cX6_mendByRounds 177 = .ok (.iload 5, 2) := by sorry
theorem dX6_mendByRounds_179 : decode cX6_mendByRounds 179 = .ok (.ireturn, 1) := by sorry
theorem ggX6_shortRings_X6_countRings : GoodIn wsX6_shortRings wsX6_countRings := by sorry
theorem gX6_shortRings_X6_countRings : GoodIn wsX6_shortRings (wsV RX6 292 RX6 yX6_countRings wsX6_countRings) := by sorry
theorem ggX6_shortRings_X6_tallied : GoodIn wsX6_shortRings wsX6_tallied := by sorry
theorem gX6_shortRings_X6_tallied : GoodIn wsX6_shortRings (wsV RX6 295 RX6 yX6_tallied wsX6_tallied) := by sorry
theorem dX6_shortRings_0 : decode cX6_shortRings 0 = .ok (.aload_n 0, 1) := by sorry
theorem dX6_shortRings_1 : decode cX6_shortRings 1 = .ok (.iload_n 1, 1) := by sorry
theorem dX6_shortRings_2 : decode cX6_shortRings 2 = .ok (.iconst 1, 1) := by sorry
theorem dX6_shortRings_3 : decode cX6_shortRings 3 = .ok (.isub, 1) := by sorry
theorem dX6_shortRings_4 : decode cX6_shortRings 4 = .ok (.invokevirtual 292, 3) := by sorry
theorem dX6_shortRings_7 : decode cX6_shortRings 7 = .ok (.iconst 0, 1) := by sorry
theorem dX6_shortRings_8 : decode cX6_shortRings 8 = .ok (.istore_n 2, 1) := by sorry
theorem dX6_shortRings_9 : decode cX6_shortRings 9 = .ok (.iconst 3, 1) := by sorry
theorem dX6_shortRings_10 : decode cX6_shortRings 10 = .ok (.istore_n 3, 1) := by sorry
theorem dX6_shortRings_11 : decode cX6_shortRings 11 = .ok (.iload_n 3, 1) := by sorry
theorem dX6_shortRings_12 : decode cX6_shortRings 12 = .ok (.iload_n 1, 1) := by sorry
theorem dX6_shortRings_13 : decode cX6_shortRings 13 = .ok (.if_icmp .ge 17, 3) := by sorry
theorem dX6_shortRings_16 : decode cX6_shortRings 16 = .ok (.iload_n 2, 1) := by sorry
theorem dX6_shortRings_17 : decode cX6_shortRings 17 = .ok (.aload_n 0, 1) := by sorry
theorem dX6_shortRings_18 : decode cX6_shortRings 18 = .ok (.iload_n 3, 1) := by sorry
theorem dX6_shortRings_19 : decode cX6_shortRings 19 = .ok (.invokevirtual 295, 3) := by sorry
theorem dX6_shortRings_22 : decode cX6_shortRings 22 = .ok (.iadd, 1) := by sorry
theorem dX6_shortRings_23 : decode cX6_shortRings 23 = .ok (.istore_n 2, 1) := by sorry
theorem dX6_shortRings_24 : decode cX6_shortRings 24 = .ok (.iinc 3 1, 3) := by sorry
theorem dX6_shortRings_27 : decode cX6_shortRings 27 = .ok (.goto (-16), 3) := by sorry
theorem dX6_shortRings_30 : decode cX6_shortRings 30 = .ok (.iload_n 2, 1) := by sorry
theorem dX6_shortRings_31 : decode cX6_shortRings 31 = .ok (.ireturn, 1) := by sorry
theorem ggX6_countRings_X6_bit : GoodIn wsX6_countRings wsX6_bit := by sorry
theorem gX6_countRings_X6_bit : GoodIn wsX6_countRings (va_wsS RX6 118 yX6_bit wsX6_bit) := by sorry
theorem ggX6_countRings_X6_walk : GoodIn wsX6_countRings wsX6_walk := by sorry
theorem gX6_countRings_X6_walk : GoodIn wsX6_countRings (va_wsS RX6 397 yX6_walk wsX6_walk) := by sorry
theorem dX6_countRings_0 : decode cX6_countRings 0 = .ok (.iconst 0, 1) := by sorry
theorem dX6_countRings_1 : decode cX6_countRings 1 = .ok (.istore_n 2, 1) := by sorry
theorem dX6_countRings_2 : decode cX6_countRings 2 = .ok (.iload_n 2, 1) := by sorry
theorem dX6_countRings_3 : decode cX6_countRings 3 = .ok (.aload_n 0, 1) := by sorry
theorem dX6_countRings_4 : decode cX6_countRings 4 = .ok (.getfield 51, 3) := by sorry
theorem dX6_countRings_7 : decode cX6_countRings 7 = .ok (.arraylength, 1) := by sorry
theorem dX6_countRings_8 : decode cX6_countRings 8 = .ok (.if_icmp .ge 16, 3) := by sorry
theorem dX6_countRings_11 : decode cX6_countRings 11 = .ok (.aload_n 0, 1) := by sorry
theorem dX6_countRings_12 : decode cX6_countRings 12 = .ok (.getfield 51, 3) := by sorry
theorem dX6_countRings_15 : decode cX6_countRings 15 = .ok (.iload_n 2, 1) := by sorry
theorem dX6_countRings_16 : decode cX6_countRings 16 = .ok (.iconst 0, 1) := by sorry
theorem dX6_countRings_17 : decode cX6_countRings 17 = .ok (.iastore, 1) := by sorry
theorem dX6_countRings_18 : decode cX6_countRings 18 = .ok (.iinc 2 1, 3) := by sorry
theorem dX6_countRings_21 : decode cX6_countRings 21 = .ok (.goto (-19), 3) := by sorry
theorem dX6_countRings_24 : decode cX6_countRings 24 = .ok (.iconst 0, 1) := by sorry
theorem dX6_countRings_25 : decode cX6_countRings 25 = .ok (.istore_n 2, 1) := by sorry
theorem dX6_countRings_26 : decode cX6_countRings 26 = .ok (.iload_n 2, 1) := by sorry
theorem dX6_countRings_27 : decode cX6_countRings 27 = .ok (.aload_n 0, 1) := by sorry
theorem dX6_countRings_28 : decode cX6_countRings 28 = .ok (.getfield 12, 3) := by sorry
theorem dX6_countRings_31 : decode cX6_countRings 31 = .ok (.getfield 73, 3) := by sorry
theorem dX6_countRings_34 : decode cX6_countRings 34 = .ok (.if_icmp .ge 32, 3) := by sorry
theorem dX6_countRings_37 : decode cX6_countRings 37 = .ok (.aload_n 0, 1) := by sorry
theorem dX6_countRings_38 : decode cX6_countRings 38 = .ok (.getfield 12, 3) := by sorry
theorem dX6_countRings_41 : decode cX6_countRings 41 = .ok (.aload_n 0, 1) := by sorry
theorem dX6_countRings_42 : decode cX6_countRings 42 = .ok (.getfield 51, 3) := by sorry
theorem dX6_countRings_45 : decode cX6_countRings 45 = .ok (.iload_n 2, 1) := by sorry
theorem dX6_countRings_46 : decode cX6_countRings 46 = .ok (.iload_n 2, 1) := by sorry
theorem dX6_countRings_47 : decode cX6_countRings 47 = .ok (.iload_n 2, 1) := by sorry
theorem dX6_countRings_48 : decode cX6_countRings 48 = .ok (.iconst 1, 1) := by sorry
theorem dX6_countRings_49 : decode cX6_countRings 49 = .ok (.iadd, 1) := by sorry
theorem dX6_countRings_50 : decode cX6_countRings 50 = .ok (.invokestatic 118, 3) := by sorry
theorem dX6_countRings_53 : decode cX6_countRings 53 = .ok (.iconst 1, 1) := by sorry
theorem dX6_countRings_54 : decode cX6_countRings 54 = .ok (.isub, 1) := by sorry
theorem dX6_countRings_55 : decode cX6_countRings 55 = .ok (.iconst 1, 1) := by sorry
theorem dX6_countRings_56 : decode cX6_countRings 56 = .ok (.iload_n 1, 1) := by sorry
theorem dX6_countRings_57 : decode cX6_countRings 57 = .ok (.invokestatic 397, 3) := by sorry
theorem dX6_countRings_60 : decode cX6_countRings 60 = .ok (.iinc 2 1, 3) := by sorry
theorem dX6_countRings_63 : decode cX6_countRings 63 = .ok (.goto (-37), 3) := by sorry
theorem dX6_countRings_66 : decode cX6_countRings 66 = .ok (.return_, 1) := by sorry
theorem dX6_tallied_0 : decode cX6_tallied 0 = .ok (.iload_n 1, 1) := by sorry
theorem dX6_tallied_1 : decode cX6_tallied 1 = .ok (.ifCond .lt 23, 3) := by sorry
theorem dX6_tallied_4 : decode cX6_tallied 4 = .ok (.iload_n 1, 1) := by sorry
theorem dX6_tallied_5 : decode cX6_tallied 5 = .ok (.aload_n 0, 1) := by sorry
theorem dX6_tallied_6 : decode cX6_tallied 6 = .ok (.getfield 51, 3) := by sorry
theorem dX6_tallied_9 : decode cX6_tallied 9 = .ok (.arraylength, 1) := by sorry
theorem dX6_tallied_10 : decode cX6_tallied 10 = .ok (.if_icmp .ge 14, 3) := by sorry
theorem dX6_tallied_13 : decode cX6_tallied 13 = .ok (.aload_n 0, 1) := by sorry
theorem dX6_tallied_14 : decode cX6_tallied 14 = .ok (.getfield 51, 3) := by sorry
theorem dX6_tallied_17 : decode cX6_tallied 17 = .ok (.iload_n 1, 1) := by sorry
theorem dX6_tallied_18 : decode cX6_tallied 18 = .ok (.iaload, 1) := by sorry
theorem dX6_tallied_19 : decode cX6_tallied 19 = .ok (.iconst 2, 1) := by sorry
theorem dX6_tallied_20 : decode cX6_tallied 20 = .ok (.idiv, 1) := by sorry
theorem dX6_tallied_21 : decode cX6_tallied 21 = .ok (.goto 4, 3) := by sorry
theorem dX6_tallied_24 : decode cX6_tallied 24 = .ok (.iconst 0, 1) := by sorry
theorem dX6_tallied_25 : decode cX6_tallied 25 = .ok (.ireturn, 1) := by sorry
theorem ggX6_walk_X3_nearOf : GoodIn wsX6_walk wsX3_nearOf := by sorry
theorem gX6_walk_X3_nearOf_n255 : GoodIn wsX6_walk (wsX3_nearOf) := by sorry
theorem ggX6_walk_J6_bitCount_0f7a4 : GoodIn wsX6_walk wsJ6_bitCount_0f7a4 := by sorry
theorem gX6_walk_J6_bitCount_0f7a4 : GoodIn wsX6_walk (va_wsS RX6 270 yJ6_bitCount_0f7a4 wsJ6_bitCount_0f7a4) := by sorry
theorem ggX6_walk_X6_holds : GoodIn wsX6_walk wsX6_holds := by sorry
theorem gX6_walk_X6_holds : GoodIn wsX6_walk (va_wsS RX6 386 yX6_holds wsX6_holds) := by sorry
theorem ggX6_walk_X6_bit : GoodIn wsX6_walk wsX6_bit := by sorry
theorem gX6_walk_X6_bit : GoodIn wsX6_walk (va_wsS RX6 118 yX6_bit wsX6_bit) := by sorry
theorem ggX6_walk_X6_walk : GoodIn wsX6_walk wsX6_walk := by sorry
theorem gX6_walk_X6_walk : GoodIn wsX6_walk (va_wsS RX6 397 yX6_walk wsX6_walk) := by sorry
theorem dX6_walk_0 : decode cX6_walk 0 = .ok (.iload 5, 2) := by sorry
theorem dX6_walk_2 : decode cX6_walk 2 = .ok (.iconst 1, 1) := by sorry
theorem dX6_walk_3 : decode cX6_walk 3 = .ok (.if_icmp .lt 17, 3) := by sorry
theorem dX6_walk_6 : decode cX6_walk 6 = .ok (.iload 5, 2) := by sorry
theorem dX6_walk_8 : decode cX6_walk 8 = .ok (.iload 6, 2) := by sorry
theorem dX6_walk_10 : decode cX6_walk 10 = .ok (.if_icmp .ge 10, 3) := by sorry
theorem dX6_walk_13 : decode cX6_walk 13 = .ok (.iload 6, 2) := by sorry
theorem dX6_walk_15 : decode cX6_walk 15 = .ok (.aload_n 1, 1) := by sorry
theorem dX6_walk_16 : decode cX6_walk 16 = .ok (.arraylength, 1) := by sorry
theorem dX6_walk_17 : decode cX6_walk 17 = .ok (.if_icmp .lt 4, 3) := by sorry
theorem dX6_walk_20 : decode cX6_walk 20 = .ok (.return_, 1) := by sorry
theorem dX6_walk_21 : decode cX6_walk 21 = .ok (.aload_n 0, 1) := by sorry
theorem dX6_walk_22 : decode cX6_walk 22 = .ok (.iload_n 3, 1) := by sorry
theorem dX6_walk_23 : decode cX6_walk 23 = .ok (.invokevirtual 255, 3) := by sorry
theorem dX6_walk_26 : decode cX6_walk 26 = .ok (.iload 4, 2) := by sorry
theorem dX6_walk_28 : decode cX6_walk 28 = .ok (.iconst (-1), 1) := by sorry
theorem dX6_walk_29 : decode cX6_walk 29 = .ok (.ixor, 1) := by sorry
theorem dX6_walk_30 : decode cX6_walk 30 = .ok (.iand, 1) := by sorry
theorem dX6_walk_31 : decode cX6_walk 31 = .ok (.istore 7, 2) := by sorry
theorem dX6_walk_33 : decode cX6_walk 33 = .ok (.iload 5, 2) := by sorry
theorem dX6_walk_35 : decode cX6_walk 35 = .ok (.iconst 2, 1) := by sorry
theorem dX6_walk_36 : decode cX6_walk 36 = .ok (.if_icmp .lt 23, 3) := by sorry
theorem dX6_walk_39 : decode cX6_walk 39 = .ok (.aload_n 1, 1) := by sorry
theorem dX6_walk_40 : decode cX6_walk 40 = .ok (.iload 5, 2) := by sorry
theorem dX6_walk_42 : decode cX6_walk 42 = .ok (.iconst 1, 1) := by sorry
theorem dX6_walk_43 : decode cX6_walk 43 = .ok (.iadd, 1) := by sorry
theorem dX6_walk_44 : decode cX6_walk 44 = .ok (.dup2, 1) := by sorry
theorem dX6_walk_45 : decode cX6_walk 45 = .ok (.iaload, 1) := by sorry
theorem dX6_walk_46 : decode cX6_walk 46 = .ok (.iload 7, 2) := by sorry
theorem dX6_walk_48 : decode cX6_walk 48 = .ok (.aload_n 0, 1) := by sorry
theorem dX6_walk_49 : decode cX6_walk 49 = .ok (.iload_n 2, 1) := by sorry
theorem dX6_walk_50 : decode cX6_walk 50 = .ok (.invokevirtual 255, 3) := by sorry
theorem dX6_walk_53 : decode cX6_walk 53 = .ok (.iand, 1) := by sorry
theorem dX6_walk_54 : decode cX6_walk 54 = .ok (.invokestatic 270, 3) := by sorry
theorem dX6_walk_57 : decode cX6_walk 57 = .ok (.iadd, 1) := by sorry
theorem dX6_walk_58 : decode cX6_walk 58 = .ok (.iastore, 1) := by sorry
theorem dX6_walk_59 : decode cX6_walk 59 = .ok (.iload 5, 2) := by sorry
theorem dX6_walk_61 : decode cX6_walk 61 = .ok (.iconst 1, 1) := by sorry
theorem dX6_walk_62 : decode cX6_walk 62 = .ok (.iadd, 1) := by sorry
theorem dX6_walk_63 : decode cX6_walk 63 = .ok (.iload 6, 2) := by sorry
theorem dX6_walk_65 : decode cX6_walk 65 = .ok (.if_icmp .lt 4, 3) := by sorry
theorem dX6_walk_68 : decode cX6_walk 68 = .ok (.return_, 1) := by sorry
theorem dX6_walk_69 : decode cX6_walk 69 = .ok (.iload_n 2, 1) := by sorry
theorem dX6_walk_70 : decode cX6_walk 70 = .ok (.iconst 1, 1) := by sorry
theorem dX6_walk_71 : decode cX6_walk 71 = .ok (.iadd, 1) := by sorry
theorem dX6_walk_72 : decode cX6_walk 72 = .ok (.istore 8, 2) := by sorry
theorem dX6_walk_74 : decode cX6_walk 74 = .ok (.iload 8, 2) := by sorry
theorem dX6_walk_76 : decode cX6_walk 76 = .ok (.aload_n 0, 1) := by sorry
theorem dX6_walk_77 : decode cX6_walk 77 = .ok (.getfield 73, 3) := by sorry
theorem dX6_walk_80 : decode cX6_walk 80 = .ok (.if_icmp .ge 41, 3) := by sorry
theorem dX6_walk_83 : decode cX6_walk 83 = .ok (.iload 7, 2) := by sorry
theorem dX6_walk_85 : decode cX6_walk 85 = .ok (.iload 8, 2) := by sorry
theorem dX6_walk_87 : decode cX6_walk 87 = .ok (.invokestatic 386, 3) := by sorry
theorem dX6_walk_90 : decode cX6_walk 90 = .ok (.ifCond .eq 25, 3) := by sorry
theorem dX6_walk_93 : decode cX6_walk 93 = .ok (.aload_n 0, 1) := by sorry
theorem dX6_walk_94 : decode cX6_walk 94 = .ok (.aload_n 1, 1) := by sorry
theorem dX6_walk_95 : decode cX6_walk 95 = .ok (.iload_n 2, 1) := by sorry
theorem dX6_walk_96 : decode cX6_walk 96 = .ok (.iload 8, 2) := by sorry
theorem dX6_walk_98 : decode cX6_walk 98 = .ok (.iload 4, 2) := by sorry
theorem dX6_walk_100 : decode cX6_walk 100 = .ok (.iload 8, 2) := by sorry
theorem dX6_walk_102 : decode cX6_walk 102 = .ok (.invokestatic 118, 3) := by sorry
theorem dX6_walk_105 : decode cX6_walk 105 = .ok (.ior, 1) := by sorry
theorem dX6_walk_106 : decode cX6_walk 106 = .ok (.iload 5, 2) := by sorry
theorem dX6_walk_108 : decode cX6_walk 108 = .ok (.iconst 1, 1) := by sorry
theorem dX6_walk_109 : decode cX6_walk 109 = .ok (.iadd, 1) := by sorry
theorem dX6_walk_110 : decode cX6_walk 110 = .ok (.iload 6, 2) := by sorry
theorem dX6_walk_112 : decode cX6_walk 112 = .ok (.invokestatic 397, 3) := by sorry
theorem dX6_walk_115 : decode cX6_walk 115 = .ok (.iinc 8 1, 3) := by sorry
theorem dX6_walk_118 : decode cX6_walk 118 = .ok (.goto (-44), 3) := by sorry
theorem dX6_walk_121 : decode cX6_walk 121 = .ok (.return_, 1) := by sorry
theorem ggX6_isAimSound_X3_countOf : GoodIn wsX6_isAimSound wsX3_countOf := by sorry
theorem gX6_isAimSound_X3_countOf_n102 : GoodIn wsX6_isAimSound (wsX3_countOf) := by sorry
theorem ggX6_isAimSound_X5_leastRing : GoodIn wsX6_isAimSound wsX5_leastRing := by sorry
theorem gX6_isAimSound_X5_leastRing_n147 : GoodIn wsX6_isAimSound (wsX5_leastRing) := by sorry
theorem dX6_isAimSound_0 : decode cX6_isAimSound 0 = .ok (.aload_n 0, 1) := by sorry
theorem dX6_isAimSound_1 : decode cX6_isAimSound 1 = .ok (.getfield 26, 3) := by sorry
theorem dX6_isAimSound_4 : decode cX6_isAimSound 4 = .ok (.getfield 193, 3) := by sorry
theorem dX6_isAimSound_7 : decode cX6_isAimSound 7 = .ok (.ifCond .ne 5, 3) := by sorry
theorem dX6_isAimSound_10 : decode cX6_isAimSound 10 = .ok (.iconst 1, 1) := by sorry
theorem dX6_isAimSound_11 : decode cX6_isAimSound 11 = .ok (.ireturn, 1) := by sorry
theorem dX6_isAimSound_12 : decode cX6_isAimSound 12 = .ok (.iconst 0, 1) := by sorry
theorem dX6_isAimSound_13 : decode cX6_isAimSound 13 = .ok (.istore_n 1, 1) := by sorry
theorem dX6_isAimSound_14 : decode cX6_isAimSound 14 = .ok (.iload_n 1, 1) := by sorry
theorem dX6_isAimSound_15 : decode cX6_isAimSound 15 = .ok (.aload_n 0, 1) := by sorry
theorem dX6_isAimSound_16 : decode cX6_isAimSound 16 = .ok (.getfield 12, 3) := by sorry
theorem dX6_isAimSound_19 : decode cX6_isAimSound 19 = .ok (.getfield 73, 3) := by sorry
theorem dX6_isAimSound_22 : decode cX6_isAimSound 22 = .ok (.if_icmp .ge 29, 3) := by sorry
theorem dX6_isAimSound_25 : decode cX6_isAimSound 25 = .ok (.aload_n 0, 1) := by sorry
theorem dX6_isAimSound_26 : decode cX6_isAimSound 26 = .ok (.getfield 12, 3) := by sorry
theorem dX6_isAimSound_29 : decode cX6_isAimSound 29 = .ok (.iload_n 1, 1) := by sorry
theorem dX6_isAimSound_30 : decode cX6_isAimSound 30 = .ok (.invokevirtual 102, 3) := by sorry
theorem dX6_isAimSound_33 : decode cX6_isAimSound 33 = .ok (.aload_n 0, 1) := by sorry
theorem dX6_isAimSound_34 : decode cX6_isAimSound 34 = .ok (.getfield 26, 3) := by sorry
theorem dX6_isAimSound_37 : decode cX6_isAimSound 37 = .ok (.getfield 205, 3) := by sorry
theorem dX6_isAimSound_40 : decode cX6_isAimSound 40 = .ok (.if_icmp .le 5, 3) := by sorry
theorem dX6_isAimSound_43 : decode cX6_isAimSound 43 = .ok (.iconst 0, 1) := by sorry
theorem dX6_isAimSound_44 : decode cX6_isAimSound 44 = .ok (.ireturn, 1) := by sorry
theorem dX6_isAimSound_45 : decode cX6_isAimSound 45 = .ok (.iinc 1 1, 3) := by sorry
theorem dX6_isAimSound_48 : decode cX6_isAimSound 48 = .ok (.goto (-34), 3) := by sorry
theorem dX6_isAimSound_51 : decode cX6_isAimSound 51 = .ok (.aload_n 0, 1) := by sorry
theorem dX6_isAimSound_52 : decode cX6_isAimSound 52 = .ok (.getfield 12, 3) := by sorry
theorem dX6_isAimSound_55 : decode cX6_isAimSound 55 = .ok (.invokestatic 147, 3) := by sorry
theorem dX6_isAimSound_58 : decode cX6_isAimSound 58 = .ok (.istore_n 1, 1) := by sorry
theorem dX6_isAimSound_59 : decode cX6_isAimSound 59 = .ok (.iload_n 1, 1) := by sorry
theorem dX6_isAimSound_60 : decode cX6_isAimSound 60 = .ok (.iconst (-1), 1) := by sorry
theorem dX6_isAimSound_61 : decode cX6_isAimSound 61 = .ok (.if_icmp .eq 14, 3) := by sorry
theorem dX6_isAimSound_64 : decode cX6_isAimSound 64 = .ok (.iload_n 1, 1) := by sorry
theorem dX6_isAimSound_65 : decode cX6_isAimSound 65 = .ok (.aload_n 0, 1) := by sorry
theorem dX6_isAimSound_66 : decode cX6_isAimSound 66 = .ok (.getfield 26, 3) := by sorry
theorem dX6_isAimSound_69 : decode cX6_isAimSound 69 = .ok (.getfield 208, 3) := by sorry
theorem dX6_isAimSound_72 : decode cX6_isAimSound 72 = .ok (.if_icmp .lt 7, 3) := by sorry
theorem dX6_isAimSound_75 : decode cX6_isAimSound 75 = .ok (.iconst 1, 1) := by sorry
theorem dX6_isAimSound_76 : decode cX6_isAimSound 76 = .ok (.goto 4, 3) := by sorry
theorem dX6_isAimSound_79 : decode cX6_isAimSound 79 = .ok (.iconst 0, 1) := by sorry
theorem dX6_isAimSound_80 : decode cX6_isAimSound 80 = .ok (.ireturn, 1) := by sorry
theorem ggX6_isEvenSound_X3_evenCount : GoodIn wsX6_isEvenSound wsX3_evenCount := by sorry
theorem gX6_isEvenSound_X3_evenCount_n238 : GoodIn wsX6_isEvenSound (wsX3_evenCount) := by sorry
theorem ggX6_isEvenSound_X5_leastRing : GoodIn wsX6_isEvenSound wsX5_leastRing := by sorry
theorem gX6_isEvenSound_X5_leastRing_n147 : GoodIn wsX6_isEvenSound (wsX5_leastRing) := by sorry
theorem ggX6_isEvenSound_X6_isWithin : GoodIn wsX6_isEvenSound wsX6_isWithin := by sorry
theorem gX6_isEvenSound_X6_isWithin : GoodIn wsX6_isEvenSound (va_wsS RX6 62 yX6_isWithin wsX6_isWithin) := by sorry
theorem ggX6_isEvenSound_X1_why : GoodIn wsX6_isEvenSound wsX1_why := by sorry
theorem gX6_isEvenSound_X1_why_n188 : GoodIn wsX6_isEvenSound (wsX1_why) := by sorry
theorem dX6_isEvenSound_0 : decode cX6_isEvenSound 0 = .ok (.aload_n 0, 1) := by sorry
theorem dX6_isEvenSound_1 : decode cX6_isEvenSound 1 = .ok (.getfield 12, 3) := by sorry
theorem dX6_isEvenSound_4 : decode cX6_isEvenSound 4 = .ok (.invokevirtual 238, 3) := by sorry
theorem dX6_isEvenSound_7 : decode cX6_isEvenSound 7 = .ok (.istore_n 1, 1) := by sorry
theorem dX6_isEvenSound_8 : decode cX6_isEvenSound 8 = .ok (.aload_n 0, 1) := by sorry
theorem dX6_isEvenSound_9 : decode cX6_isEvenSound 9 = .ok (.getfield 12, 3) := by sorry
theorem dX6_isEvenSound_12 : decode cX6_isEvenSound 12 = .ok (.invokestatic 147, 3) := by sorry
theorem dX6_isEvenSound_15 : decode cX6_isEvenSound 15 = .ok (.istore_n 2, 1) := by sorry
theorem dX6_isEvenSound_16 : decode cX6_isEvenSound 16 = .ok (.iload_n 1, 1) := by sorry
theorem dX6_isEvenSound_17 : decode cX6_isEvenSound 17 = .ok (.iconst 2, 1) := by sorry
theorem dX6_isEvenSound_18 : decode cX6_isEvenSound 18 = .ok (.iconst 5, 1) := by sorry
theorem dX6_isEvenSound_19 : decode cX6_isEvenSound 19 = .ok (.invokestatic 62, 3) := by sorry
theorem dX6_isEvenSound_22 : decode cX6_isEvenSound 22 = .ok (.ifCond .eq 13, 3) := by sorry
theorem dX6_isEvenSound_25 : decode cX6_isEvenSound 25 = .ok (.iload_n 2, 1) := by sorry
theorem dX6_isEvenSound_26 : decode cX6_isEvenSound 26 = .ok (.iconst 3, 1) := by sorry
theorem dX6_isEvenSound_27 : decode cX6_isEvenSound 27 = .ok (.bipush 8, 2) := by sorry
theorem dX6_isEvenSound_29 : decode cX6_isEvenSound 29 = .ok (.invokestatic 62, 3) := by sorry
theorem dX6_isEvenSound_32 : decode cX6_isEvenSound 32 = .ok (.ifCond .ne 5, 3) := by sorry
theorem dX6_isEvenSound_35 : decode cX6_isEvenSound 35 = .ok (.iconst 1, 1) := by sorry
theorem dX6_isEvenSound_36 : decode cX6_isEvenSound 36 = .ok (.ireturn, 1) := by sorry
theorem dX6_isEvenSound_37 : decode cX6_isEvenSound 37 = .ok (.aload_n 0, 1) := by sorry
theorem dX6_isEvenSound_38 : decode cX6_isEvenSound 38 = .ok (.getfield 33, 3) := by sorry
theorem dX6_isEvenSound_41 : decode cX6_isEvenSound 41 = .ok (.aload_n 0, 1) := by sorry
theorem dX6_isEvenSound_42 : decode cX6_isEvenSound 42 = .ok (.getfield 12, 3) := by sorry
theorem dX6_isEvenSound_45 : decode cX6_isEvenSound 45 = .ok (.getfield 73, 3) := by sorry
theorem dX6_isEvenSound_48 : decode cX6_isEvenSound 48 = .ok (.iload_n 1, 1) := by sorry
theorem dX6_isEvenSound_49 : decode cX6_isEvenSound 49 = .ok (.iload_n 2, 1) := by sorry
theorem dX6_isEvenSound_50 : decode cX6_isEvenSound 50 = .ok (.invokevirtual 188, 3) := by sorry
theorem dX6_isEvenSound_53 : decode cX6_isEvenSound 53 = .ok (.ifCond .ne 7, 3) := by sorry
theorem dX6_isEvenSound_56 : decode cX6_isEvenSound 56 = .ok (.iconst 1, 1) := by sorry
theorem dX6_isEvenSound_57 : decode cX6_isEvenSound 57 = .ok (.goto 4, 3) := by sorry
theorem dX6_isEvenSound_60 : decode cX6_isEvenSound 60 = .ok (.iconst 0, 1) := by sorry
theorem dX6_isEvenSound_61 : decode cX6_isEvenSound 61 = .ok (.ireturn, 1) := by sorry
theorem ggX6_digestOfKnots_X6_ofKnot : GoodIn wsX6_digestOfKnots wsX6_ofKnot := by sorry
theorem gX6_digestOfKnots_X6_ofKnot : GoodIn wsX6_digestOfKnots (wsV RX6 401 RX6 yX6_ofKnot wsX6_ofKnot) := by sorry
theorem dX6_digestOfKnots_0 : decode cX6_digestOfKnots 0 = .ok (.lload_n 1, 1) := by sorry
theorem dX6_digestOfKnots_1 : decode cX6_digestOfKnots 1 = .ok (.lstore_n 3, 1) := by sorry
theorem dX6_digestOfKnots_2 : decode cX6_digestOfKnots 2 = .ok (.iconst 0, 1) := by sorry
theorem dX6_digestOfKnots_3 : decode cX6_digestOfKnots 3 = .ok (.istore 5, 2) := by sorry
theorem dX6_digestOfKnots_5 : decode cX6_digestOfKnots 5 = .ok (.iload 5, 2) := by sorry
theorem dX6_digestOfKnots_7 : decode cX6_digestOfKnots 7 = .ok (.aload_n 0, 1) := by sorry
theorem dX6_digestOfKnots_8 : decode cX6_digestOfKnots 8 = .ok (.getfield 12, 3) := by sorry
theorem dX6_digestOfKnots_11 : decode cX6_digestOfKnots 11 = .ok (.getfield 73, 3) := by sorry
theorem dX6_digestOfKnots_14 : decode cX6_digestOfKnots 14 = .ok (.if_icmp .ge 40, 3) := by sorry
theorem dX6_digestOfKnots_17 : decode cX6_digestOfKnots 17 = .ok (.iconst 0, 1) := by sorry
theorem dX6_digestOfKnots_18 : decode cX6_digestOfKnots 18 = .ok (.istore 6, 2) := by sorry
theorem dX6_digestOfKnots_20 : decode cX6_digestOfKnots 20 = .ok (.iload 6, 2) := by sorry
theorem dX6_digestOfKnots_22 : decode cX6_digestOfKnots 22 = .ok (.iconst 5, 1) := by sorry
theorem dX6_digestOfKnots_23 : decode cX6_digestOfKnots 23 = .ok (.if_icmp .gt 25, 3) := by sorry
theorem dX6_digestOfKnots_26 : decode cX6_digestOfKnots 26 = .ok (.lload_n 3, 1) := by sorry
theorem dX6_digestOfKnots_27 : decode cX6_digestOfKnots 27 = .ok (.ldc2_w 355, 3) := by sorry
theorem dX6_digestOfKnots_30 : decode cX6_digestOfKnots 30 = .ok (.lmul, 1) := by sorry
theorem dX6_digestOfKnots_31 : decode cX6_digestOfKnots 31 = .ok (.aload_n 0, 1) := by sorry
theorem dX6_digestOfKnots_32 : decode cX6_digestOfKnots 32 = .ok (.iload 5, 2) := by sorry
theorem dX6_digestOfKnots_34 : decode cX6_digestOfKnots 34 = .ok (.iload 6, 2) := by sorry
theorem dX6_digestOfKnots_36 : decode cX6_digestOfKnots 36 = .ok (.invokevirtual 401, 3) := by sorry
theorem dX6_digestOfKnots_39 : decode cX6_digestOfKnots 39 = .ok (.i2l, 1) := by sorry
theorem dX6_digestOfKnots_40 : decode cX6_digestOfKnots 40 = .ok (.ladd, 1) := by sorry
theorem dX6_digestOfKnots_41 : decode cX6_digestOfKnots 41 = .ok (.lstore_n 3, 1) := by sorry
theorem dX6_digestOfKnots_42 : decode cX6_digestOfKnots 42 = .ok (.iinc 6 1, 3) := by sorry
theorem dX6_digestOfKnots_45 : decode cX6_digestOfKnots 45 = .ok (.goto (-25), 3) := by sorry
theorem dX6_digestOfKnots_48 : decode cX6_digestOfKnots 48 = .ok (.iinc 5 1, 3) := by sorry
theorem dX6_digestOfKnots_51 : decode cX6_digestOfKnots 51 = .ok (.goto (-46), 3) := by sorry
theorem dX6_digestOfKnots_54 : decode cX6_digestOfKnots 54 = .ok (.lload_n 3, 1) := by sorry
theorem dX6_digestOfKnots_55 : decode cX6_digestOfKnots 55 = .ok (.lreturn, 1) := by sorry
theorem ggX6_digestOfEdges_X3_edgesInAll : GoodIn wsX6_digestOfEdges wsX3_edgesInAll := by sorry
theorem gX6_digestOfEdges_X3_edgesInAll_n130 : GoodIn wsX6_digestOfEdges (wsX3_edgesInAll) := by sorry
theorem ggX6_digestOfEdges_X6_ofEdge : GoodIn wsX6_digestOfEdges wsX6_ofEdge := by sorry
theorem gX6_digestOfEdges_X6_ofEdge : GoodIn wsX6_digestOfEdges (wsV RX6 404 RX6 yX6_ofEdge wsX6_ofEdge) := by sorry
theorem dX6_digestOfEdges_0 : decode cX6_digestOfEdges 0 = .ok (.lload_n 1, 1) := by sorry
theorem dX6_digestOfEdges_1 : decode cX6_digestOfEdges 1 = .ok (.lstore_n 3, 1) := by sorry
theorem dX6_digestOfEdges_2 : decode cX6_digestOfEdges 2 = .ok (.aload_n 0, 1) := by sorry
theorem dX6_digestOfEdges_3 : decode cX6_digestOfEdges 3 = .ok (.getfield 12, 3) := by sorry
theorem dX6_digestOfEdges_6 : decode cX6_digestOfEdges 6 = .ok (.invokevirtual 130, 3) := by sorry
theorem dX6_digestOfEdges_9 : decode cX6_digestOfEdges 9 = .ok (.istore 5, 2) := by sorry
theorem dX6_digestOfEdges_11 : decode cX6_digestOfEdges 11 = .ok (.iconst 0, 1) := by sorry
theorem dX6_digestOfEdges_12 : decode cX6_digestOfEdges 12 = .ok (.istore 6, 2) := by sorry
theorem dX6_digestOfEdges_14 : decode cX6_digestOfEdges 14 = .ok (.iload 6, 2) := by sorry
theorem dX6_digestOfEdges_16 : decode cX6_digestOfEdges 16 = .ok (.iload 5, 2) := by sorry
theorem dX6_digestOfEdges_18 : decode cX6_digestOfEdges 18 = .ok (.if_icmp .ge 40, 3) := by sorry
theorem dX6_digestOfEdges_21 : decode cX6_digestOfEdges 21 = .ok (.iconst 0, 1) := by sorry
theorem dX6_digestOfEdges_22 : decode cX6_digestOfEdges 22 = .ok (.istore 7, 2) := by sorry
theorem dX6_digestOfEdges_24 : decode cX6_digestOfEdges 24 = .ok (.iload 7, 2) := by sorry
theorem dX6_digestOfEdges_26 : decode cX6_digestOfEdges 26 = .ok (.iconst 3, 1) := by sorry
theorem dX6_digestOfEdges_27 : decode cX6_digestOfEdges 27 = .ok (.if_icmp .gt 25, 3) := by sorry
theorem dX6_digestOfEdges_30 : decode cX6_digestOfEdges 30 = .ok (.lload_n 3, 1) := by sorry
theorem dX6_digestOfEdges_31 : decode cX6_digestOfEdges 31 = .ok (.ldc2_w 355, 3) := by sorry
theorem dX6_digestOfEdges_34 : decode cX6_digestOfEdges 34 = .ok (.lmul, 1) := by sorry
theorem dX6_digestOfEdges_35 : decode cX6_digestOfEdges 35 = .ok (.aload_n 0, 1) := by sorry
theorem dX6_digestOfEdges_36 : decode cX6_digestOfEdges 36 = .ok (.iload 6, 2) := by sorry
theorem dX6_digestOfEdges_38 : decode cX6_digestOfEdges 38 = .ok (.iload 7, 2) := by sorry
theorem dX6_digestOfEdges_40 : decode cX6_digestOfEdges 40 = .ok (.invokevirtual 404, 3) := by sorry
theorem dX6_digestOfEdges_43 : decode cX6_digestOfEdges 43 = .ok (.i2l, 1) := by sorry
theorem dX6_digestOfEdges_44 : decode cX6_digestOfEdges 44 = .ok (.ladd, 1) := by sorry
theorem dX6_digestOfEdges_45 : decode cX6_digestOfEdges 45 = .ok (.lstore_n 3, 1) := by sorry
theorem dX6_digestOfEdges_46 : decode cX6_digestOfEdges 46 = .ok (.iinc 7 1, 3) := by sorry
theorem dX6_digestOfEdges_49 : decode cX6_digestOfEdges 49 = .ok (.goto (-25), 3) := by sorry
theorem dX6_digestOfEdges_52 : decode cX6_digestOfEdges 52 = .ok (.iinc 6 1, 3) := by sorry
theorem dX6_digestOfEdges_55 : decode cX6_digestOfEdges 55 = .ok (.goto (-41), 3) := by sorry
theorem dX6_digestOfEdges_58 : decode cX6_digestOfEdges 58 = .ok (.lload_n 3, 1) := by sorry
theorem dX6_digestOfEdges_59 : decode cX6_digestOfEdges 59 = .ok (.lreturn, 1) := by sorry
theorem ggX6_digestOfTable_X6_table : GoodIn wsX6_digestOfTable wsX6_table := by sorry
theorem gX6_digestOfTable_X6_table : GoodIn wsX6_digestOfTable (wsV RX6 407 RX6 yX6_table wsX6_table) := by sorry
theorem dX6_digestOfTable_0 : decode cX6_digestOfTable 0 = .ok (.lload_n 1, 1) := by sorry
theorem dX6_digestOfTable_1 : decode cX6_digestOfTable 1 = .ok (.lstore_n 3, 1) := by sorry
theorem dX6_digestOfTable_2 : decode cX6_digestOfTable 2 = .ok (.iconst 2, 1) := by sorry
theorem dX6_digestOfTable_3 : decode cX6_digestOfTable 3 = .ok (.istore 5, 2) := by sorry
theorem dX6_digestOfTable_5 : decode cX6_digestOfTable 5 = .ok (.iload 5, 2) := by sorry
theorem dX6_digestOfTable_7 : decode cX6_digestOfTable 7 = .ok (.iconst 5, 1) := by sorry
theorem dX6_digestOfTable_8 : decode cX6_digestOfTable 8 = .ok (.if_icmp .gt 59, 3) := by sorry
theorem dX6_digestOfTable_11 : decode cX6_digestOfTable 11 = .ok (.iconst 3, 1) := by sorry
theorem dX6_digestOfTable_12 : decode cX6_digestOfTable 12 = .ok (.istore 6, 2) := by sorry
theorem dX6_digestOfTable_14 : decode cX6_digestOfTable 14 = .ok (.iload 6, 2) := by sorry
theorem dX6_digestOfTable_16 : decode cX6_digestOfTable 16 = .ok (.bipush 8, 2) := by sorry
theorem dX6_digestOfTable_18 : decode cX6_digestOfTable 18 = .ok (.if_icmp .gt 43, 3) := by sorry
theorem dX6_digestOfTable_21 : decode cX6_digestOfTable 21 = .ok (.lload_n 3, 1) := by sorry
theorem dX6_digestOfTable_22 : decode cX6_digestOfTable 22 = .ok (.ldc2_w 355, 3) := by sorry
theorem dX6_digestOfTable_25 : decode cX6_digestOfTable 25 = .ok (.lmul, 1) := by sorry
theorem dX6_digestOfTable_26 : decode cX6_digestOfTable 26 = .ok (.aload_n 0, 1) := by sorry
theorem dX6_digestOfTable_27 : decode cX6_digestOfTable 27 = .ok (.iload 5, 2) := by sorry
theorem dX6_digestOfTable_29 : decode cX6_digestOfTable 29 = .ok (.iload 6, 2) := by sorry
theorem dX6_digestOfTable_31 : decode cX6_digestOfTable 31 = .ok (.iconst 0, 1) := by sorry
theorem dX6_digestOfTable_32 : decode cX6_digestOfTable 32 = .ok (.invokevirtual 407, 3) := by sorry
theorem dX6_digestOfTable_35 : decode cX6_digestOfTable 35 = .ok (.i2l, 1) := by sorry
theorem dX6_digestOfTable_36 : decode cX6_digestOfTable 36 = .ok (.ladd, 1) := by sorry
theorem dX6_digestOfTable_37 : decode cX6_digestOfTable 37 = .ok (.lstore_n 3, 1) := by sorry
theorem dX6_digestOfTable_38 : decode cX6_digestOfTable 38 = .ok (.lload_n 3, 1) := by sorry
theorem dX6_digestOfTable_39 : decode cX6_digestOfTable 39 = .ok (.ldc2_w 355, 3) := by sorry
theorem dX6_digestOfTable_42 : decode cX6_digestOfTable 42 = .ok (.lmul, 1) := by sorry
theorem dX6_digestOfTable_43 : decode cX6_digestOfTable 43 = .ok (.aload_n 0, 1) := by sorry
theorem dX6_digestOfTable_44 : decode cX6_digestOfTable 44 = .ok (.iload 5, 2) := by sorry
theorem dX6_digestOfTable_46 : decode cX6_digestOfTable 46 = .ok (.iload 6, 2) := by sorry
theorem dX6_digestOfTable_48 : decode cX6_digestOfTable 48 = .ok (.iconst 1, 1) := by sorry
theorem dX6_digestOfTable_49 : decode cX6_digestOfTable 49 = .ok (.invokevirtual 407, 3) := by sorry
theorem dX6_digestOfTable_52 : decode cX6_digestOfTable 52 = .ok (.i2l, 1) := by sorry
theorem dX6_digestOfTable_53 : decode cX6_digestOfTable 53 = .ok (.ladd, 1) := by sorry
theorem dX6_digestOfTable_54 : decode cX6_digestOfTable 54 = .ok (.lstore_n 3, 1) := by sorry
theorem dX6_digestOfTable_55 : decode cX6_digestOfTable 55 = .ok (.iinc 6 1, 3) := by sorry
theorem dX6_digestOfTable_58 : decode cX6_digestOfTable 58 = .ok (.goto (-44), 3) := by sorry
theorem dX6_digestOfTable_61 : decode cX6_digestOfTable 61 = .ok (.iinc 5 1, 3) := by sorry
theorem dX6_digestOfTable_64 : decode cX6_digestOfTable 64 = .ok (.goto (-59), 3) := by sorry
theorem dX6_digestOfTable_67 : decode cX6_digestOfTable 67 = .ok (.lload_n 3, 1) := by sorry
theorem dX6_digestOfTable_68 : decode cX6_digestOfTable 68 = .ok (.lreturn, 1) := by sorry
theorem dX6_isWithin_0 : decode cX6_isWithin 0 = .ok (.iload_n 0, 1) := by sorry
theorem dX6_isWithin_1 : decode cX6_isWithin 1 = .ok (.iload_n 1, 1) := by sorry
theorem dX6_isWithin_2 : decode cX6_isWithin 2 = .ok (.if_icmp .lt 12, 3) := by sorry
theorem dX6_isWithin_5 : decode cX6_isWithin 5 = .ok (.iload_n 0, 1) := by sorry
theorem dX6_isWithin_6 : decode cX6_isWithin 6 = .ok (.iload_n 2, 1) := by sorry
theorem dX6_isWithin_7 : decode cX6_isWithin 7 = .ok (.if_icmp .gt 7, 3) := by sorry
theorem dX6_isWithin_10 : decode cX6_isWithin 10 = .ok (.iconst 1, 1) := by sorry
theorem dX6_isWithin_11 : decode cX6_isWithin 11 = .ok (.goto 4, 3) := by sorry
theorem dX6_isWithin_14 : decode cX6_isWithin 14 = .ok (.iconst 0, 1) := by sorry
theorem dX6_isWithin_15 : decode cX6_isWithin 15 = .ok (.ireturn, 1) := by sorry
theorem dX6_bit_0 : decode cX6_bit 0 = .ok (.iload_n 0, 1) := by sorry
theorem dX6_bit_1 : decode cX6_bit 1 = .ok (.ifCond .lt 15, 3) := by sorry
theorem dX6_bit_4 : decode cX6_bit 4 = .ok (.iload_n 0, 1) := by sorry
theorem dX6_bit_5 : decode cX6_bit 5 = .ok (.bipush 31, 2) := by sorry
theorem dX6_bit_7 : decode cX6_bit 7 = .ok (.if_icmp .ge 9, 3) := by sorry
theorem dX6_bit_10 : decode cX6_bit 10 = .ok (.iconst 1, 1) := by sorry
theorem dX6_bit_11 : decode cX6_bit 11 = .ok (.iload_n 0, 1) := by sorry
theorem dX6_bit_12 : decode cX6_bit 12 = .ok (.ishl, 1) := by sorry
theorem dX6_bit_13 : decode cX6_bit 13 = .ok (.goto 4, 3) := by sorry
theorem dX6_bit_16 : decode cX6_bit 16 = .ok (.iconst 0, 1) := by sorry
theorem dX6_bit_17 : decode cX6_bit 17 = .ok (.ireturn, 1) := by sorry
theorem dX6_holds_0 : decode cX6_holds 0 = .ok (.iload_n 1, 1) := by sorry
theorem dX6_holds_1 : decode cX6_holds 1 = .ok (.ifCond .lt 21, 3) := by sorry
theorem dX6_holds_4 : decode cX6_holds 4 = .ok (.iload_n 1, 1) := by sorry
theorem dX6_holds_5 : decode cX6_holds 5 = .ok (.bipush 31, 2) := by sorry
theorem dX6_holds_7 : decode cX6_holds 7 = .ok (.if_icmp .ge 15, 3) := by sorry
theorem dX6_holds_10 : decode cX6_holds 10 = .ok (.iload_n 0, 1) := by sorry
theorem dX6_holds_11 : decode cX6_holds 11 = .ok (.iload_n 1, 1) := by sorry
theorem dX6_holds_12 : decode cX6_holds 12 = .ok (.ishr, 1) := by sorry
theorem dX6_holds_13 : decode cX6_holds 13 = .ok (.iconst 1, 1) := by sorry
theorem dX6_holds_14 : decode cX6_holds 14 = .ok (.iand, 1) := by sorry
theorem dX6_holds_15 : decode cX6_holds 15 = .ok (.ifCond .eq 7, 3) := by sorry
theorem dX6_holds_18 : decode cX6_holds 18 = .ok (.iconst 1, 1) := by sorry
theorem dX6_holds_19 : decode cX6_holds 19 = .ok (.goto 4, 3) := by sorry
theorem dX6_holds_22 : decode cX6_holds 22 = .ok (.iconst 0, 1) := by sorry
theorem dX6_holds_23 : decode cX6_holds 23 = .ok (.ireturn, 1) := by sorry
theorem ggX6_isSetBelow_X6_bit : GoodIn wsX6_isSetBelow wsX6_bit := by sorry
theorem gX6_isSetBelow_X6_bit : GoodIn wsX6_isSetBelow (va_wsS RX6 118 yX6_bit wsX6_bit) := by sorry
theorem dX6_isSetBelow_0 : decode cX6_isSetBelow 0 = .ok (.iload_n 0, 1) := by sorry
theorem dX6_isSetBelow_1 : decode cX6_isSetBelow 1 = .ok (.ifCond .lt 21, 3) := by sorry
theorem dX6_isSetBelow_4 : decode cX6_isSetBelow 4 = .ok (.iload_n 1, 1) := by sorry
theorem dX6_isSetBelow_5 : decode cX6_isSetBelow 5 = .ok (.bipush 31, 2) := by sorry
theorem dX6_isSetBelow_7 : decode cX6_isSetBelow 7 = .ok (.if_icmp .ge 11, 3) := by sorry
theorem dX6_isSetBelow_10 : decode cX6_isSetBelow 10 = .ok (.iload_n 0, 1) := by sorry
theorem dX6_isSetBelow_11 : decode cX6_isSetBelow 11 = .ok (.iload_n 1, 1) := by sorry
theorem dX6_isSetBelow_12 : decode cX6_isSetBelow 12 = .ok (.invokestatic 118, 3) := by sorry
theorem dX6_isSetBelow_15 : decode cX6_isSetBelow 15 = .ok (.if_icmp .ge 7, 3) := by sorry
theorem dX6_isSetBelow_18 : decode cX6_isSetBelow 18 = .ok (.iconst 1, 1) := by sorry
theorem dX6_isSetBelow_19 : decode cX6_isSetBelow 19 = .ok (.goto 4, 3) := by sorry
theorem dX6_isSetBelow_22 : decode cX6_isSetBelow 22 = .ok (.iconst 0, 1) := by sorry
theorem dX6_isSetBelow_23 : decode cX6_isSetBelow 23 = .ok (.ireturn, 1) := by sorry
theorem ggX6_firstOf_J6_bitCount_0f7a4 : GoodIn wsX6_firstOf wsJ6_bitCount_0f7a4 := by sorry
theorem gX6_firstOf_J6_bitCount_0f7a4 : GoodIn wsX6_firstOf (va_wsS RX6 270 yJ6_bitCount_0f7a4 wsJ6_bitCount_0f7a4) := by sorry
theorem dX6_firstOf_0 : decode cX6_firstOf 0 = .ok (.iload_n 0, 1) := by sorry
theorem dX6_firstOf_1 : decode cX6_firstOf 1 = .ok (.ifCond .ne 7, 3) := by sorry
theorem dX6_firstOf_4 : decode cX6_firstOf 4 = .ok (.iconst (-1), 1) := by sorry
theorem dX6_firstOf_5 : decode cX6_firstOf 5 = .ok (.goto 12, 3) := by sorry
theorem dX6_firstOf_8 : decode cX6_firstOf 8 = .ok (.iload_n 0, 1) := by sorry
theorem dX6_firstOf_9 : decode cX6_firstOf 9 = .ok (.iload_n 0, 1) := by sorry
theorem dX6_firstOf_10 : decode cX6_firstOf 10 = .ok (.ineg, 1) := by sorry
theorem dX6_firstOf_11 : decode cX6_firstOf 11 = .ok (.iand, 1) := by sorry
theorem dX6_firstOf_12 : decode cX6_firstOf 12 = .ok (.iconst 1, 1) := by sorry
theorem dX6_firstOf_13 : decode cX6_firstOf 13 = .ok (.isub, 1) := by sorry
theorem dX6_firstOf_14 : decode cX6_firstOf 14 = .ok (.invokestatic 270, 3) := by sorry
theorem dX6_firstOf_17 : decode cX6_firstOf 17 = .ok (.ireturn, 1) := by sorry
theorem dX6_lesser_0 : decode cX6_lesser 0 = .ok (.iload_n 0, 1) := by sorry
theorem dX6_lesser_1 : decode cX6_lesser 1 = .ok (.iconst (-1), 1) := by sorry
theorem dX6_lesser_2 : decode cX6_lesser 2 = .ok (.if_icmp .ne 5, 3) := by sorry
theorem dX6_lesser_5 : decode cX6_lesser 5 = .ok (.iload_n 1, 1) := by sorry
theorem dX6_lesser_6 : decode cX6_lesser 6 = .ok (.ireturn, 1) := by sorry
theorem dX6_lesser_7 : decode cX6_lesser 7 = .ok (.iload_n 1, 1) := by sorry
theorem dX6_lesser_8 : decode cX6_lesser 8 = .ok (.iconst (-1), 1) := by sorry
theorem dX6_lesser_9 : decode cX6_lesser 9 = .ok (.if_icmp .ne 7, 3) := by sorry
theorem dX6_lesser_12 : decode cX6_lesser 12 = .ok (.iload_n 0, 1) := by sorry
theorem dX6_lesser_13 : decode cX6_lesser 13 = .ok (.goto 8, 3) := by sorry
theorem dX6_lesser_16 : decode cX6_lesser 16 = .ok (.iload_n 0, 1) := by sorry
theorem dX6_lesser_17 : decode cX6_lesser 17 = .ok (.iload_n 1, 1) := by sorry
theorem dX6_lesser_18 : decode cX6_lesser 18 = .ok (.invokestatic 324, 3) := by sorry
theorem dX6_lesser_21 : decode cX6_lesser 21 = .ok (.ireturn, 1) := by sorry
theorem dX6_pairOf_0 : decode cX6_pairOf 0 = .ok (.iload_n 0, 1) := by sorry
theorem dX6_pairOf_1 : decode cX6_pairOf 1 = .ok (.bipush 16, 2) := by sorry
theorem dX6_pairOf_3 : decode cX6_pairOf 3 = .ok (.imul, 1) := by sorry
theorem dX6_pairOf_4 : decode cX6_pairOf 4 = .ok (.iload_n 1, 1) := by sorry
theorem dX6_pairOf_5 : decode cX6_pairOf 5 = .ok (.iadd, 1) := by sorry
theorem dX6_pairOf_6 : decode cX6_pairOf 6 = .ok (.ireturn, 1) := by sorry
theorem dX6_oneOf_0 : decode cX6_oneOf 0 = .ok (.iload_n 0, 1) := by sorry
theorem dX6_oneOf_1 : decode cX6_oneOf 1 = .ok (.ifCond .ge 7, 3) := by sorry
theorem dX6_oneOf_4 : decode cX6_oneOf 4 = .ok (.iconst (-1), 1) := by sorry
theorem dX6_oneOf_5 : decode cX6_oneOf 5 = .ok (.goto 7, 3) := by sorry
theorem dX6_oneOf_8 : decode cX6_oneOf 8 = .ok (.iload_n 0, 1) := by sorry
theorem dX6_oneOf_9 : decode cX6_oneOf 9 = .ok (.bipush 16, 2) := by sorry
theorem dX6_oneOf_11 : decode cX6_oneOf 11 = .ok (.idiv, 1) := by sorry
theorem dX6_oneOf_12 : decode cX6_oneOf 12 = .ok (.ireturn, 1) := by sorry
theorem dX6_otherOf_0 : decode cX6_otherOf 0 = .ok (.iload_n 0, 1) := by sorry
theorem dX6_otherOf_1 : decode cX6_otherOf 1 = .ok (.ifCond .ge 7, 3) := by sorry
theorem dX6_otherOf_4 : decode cX6_otherOf 4 = .ok (.iconst (-1), 1) := by sorry
theorem dX6_otherOf_5 : decode cX6_otherOf 5 = .ok (.goto 7, 3) := by sorry
theorem dX6_otherOf_8 : decode cX6_otherOf 8 = .ok (.iload_n 0, 1) := by sorry
theorem dX6_otherOf_9 : decode cX6_otherOf 9 = .ok (.bipush 16, 2) := by sorry
theorem dX6_otherOf_11 : decode cX6_otherOf 11 = .ok (.irem, 1) := by sorry
theorem dX6_otherOf_12 : decode cX6_otherOf 12 = .ok (.ireturn, 1) := by sorry
theorem dJ6_bitCount_0f7a4_0 : decode cJ6_bitCount_0f7a4 0 = .ok (.iload_n 0, 1) := by sorry
theorem dJ6_bitCount_0f7a4_1 : decode cJ6_bitCount_0f7a4 1 = .ok (.iload_n 0, 1) := by sorry
theorem dJ6_bitCount_0f7a4_2 : decode cJ6_bitCount_0f7a4 2 = .ok (.iconst 1, 1) := by sorry
theorem dJ6_bitCount_0f7a4_3 : decode cJ6_bitCount_0f7a4 3 = .ok (.iushr, 1) := by sorry
theorem dJ6_bitCount_0f7a4_4 : decode cJ6_bitCount_0f7a4 4 = .ok (.ldc_w 265, 3) := by sorry
theorem dJ6_bitCount_0f7a4_7 : decode cJ6_bitCount_0f7a4 7 = .ok (.iand, 1) := by sorry
theorem dJ6_bitCount_0f7a4_8 : decode cJ6_bitCount_0f7a4 8 = .ok (.isub, 1) := by sorry
theorem dJ6_bitCount_0f7a4_9 : decode cJ6_bitCount_0f7a4 9 = .ok (.istore_n 0, 1) := by sorry
theorem dJ6_bitCount_0f7a4_10 : decode cJ6_bitCount_0f7a4 10 = .ok (.iload_n 0, 1) := by sorry
theorem dJ6_bitCount_0f7a4_11 : decode cJ6_bitCount_0f7a4 11 = .ok (.ldc_w 266, 3) := by sorry
theorem dJ6_bitCount_0f7a4_14 : decode cJ6_bitCount_0f7a4 14 = .ok (.iand, 1) := by sorry
theorem dJ6_bitCount_0f7a4_15 : decode cJ6_bitCount_0f7a4 15 = .ok (.iload_n 0, 1) := by sorry
theorem dJ6_bitCount_0f7a4_16 : decode cJ6_bitCount_0f7a4 16 = .ok (.iconst 2, 1) := by sorry
theorem dJ6_bitCount_0f7a4_17 : decode cJ6_bitCount_0f7a4 17 = .ok (.iushr, 1) := by sorry
theorem dJ6_bitCount_0f7a4_18 : decode cJ6_bitCount_0f7a4 18 = .ok (.ldc_w 266, 3) := by sorry
theorem dJ6_bitCount_0f7a4_21 : decode cJ6_bitCount_0f7a4 21 = .ok (.iand, 1) := by sorry
theorem dJ6_bitCount_0f7a4_22 : decode cJ6_bitCount_0f7a4 22 = .ok (.iadd, 1) := by sorry
theorem dJ6_bitCount_0f7a4_23 : decode cJ6_bitCount_0f7a4 23 = .ok (.istore_n 0, 1) := by sorry
theorem dJ6_bitCount_0f7a4_24 : decode cJ6_bitCount_0f7a4 24 = .ok (.iload_n 0, 1) := by sorry
theorem dJ6_bitCount_0f7a4_25 : decode cJ6_bitCount_0f7a4 25 = .ok (.iload_n 0, 1) := by sorry
theorem dJ6_bitCount_0f7a4_26 : decode cJ6_bitCount_0f7a4 26 = .ok (.iconst 4, 1) := by sorry
theorem dJ6_bitCount_0f7a4_27 : decode cJ6_bitCount_0f7a4 27 = .ok (.iushr, 1) := by sorry
theorem dJ6_bitCount_0f7a4_28 : decode cJ6_bitCount_0f7a4 28 = .ok (.iadd, 1) := by sorry
theorem dJ6_bitCount_0f7a4_29 : decode cJ6_bitCount_0f7a4 29 = .ok (.ldc_w 267, 3) := by sorry
theorem dJ6_bitCount_0f7a4_32 : decode cJ6_bitCount_0f7a4 32 = .ok (.iand, 1) := by sorry
theorem dJ6_bitCount_0f7a4_33 : decode cJ6_bitCount_0f7a4 33 = .ok (.istore_n 0, 1) := by sorry
theorem dJ6_bitCount_0f7a4_34 : decode cJ6_bitCount_0f7a4 34 = .ok (.iload_n 0, 1) := by sorry
theorem dJ6_bitCount_0f7a4_35 : decode cJ6_bitCount_0f7a4 35 = .ok (.iload_n 0, 1) := by sorry
theorem dJ6_bitCount_0f7a4_36 : decode cJ6_bitCount_0f7a4 36 = .ok (.bipush 8, 2) := by sorry
theorem dJ6_bitCount_0f7a4_38 : decode cJ6_bitCount_0f7a4 38 = .ok (.iushr, 1) := by sorry
theorem dJ6_bitCount_0f7a4_39 : decode cJ6_bitCount_0f7a4 39 = .ok (.iadd, 1) := by sorry
theorem dJ6_bitCount_0f7a4_40 : decode cJ6_bitCount_0f7a4 40 = .ok (.istore_n 0, 1) := by sorry
theorem dJ6_bitCount_0f7a4_41 : decode cJ6_bitCount_0f7a4 41 = .ok (.iload_n 0, 1) := by sorry
theorem dJ6_bitCount_0f7a4_42 : decode cJ6_bitCount_0f7a4 42 = .ok (.iload_n 0, 1) := by sorry
theorem dJ6_bitCount_0f7a4_43 : decode cJ6_bitCount_0f7a4 43 = .ok (.bipush 16, 2) := by sorry
theorem dJ6_bitCount_0f7a4_45 : decode cJ6_bitCount_0f7a4 45 = .ok (.iushr, 1) := by sorry
theorem dJ6_bitCount_0f7a4_46 : decode cJ6_bitCount_0f7a4 46 = .ok (.iadd, 1) := by sorry
theorem dJ6_bitCount_0f7a4_47 : decode cJ6_bitCount_0f7a4 47 = .ok (.istore_n 0, 1) := by sorry
theorem dJ6_bitCount_0f7a4_48 : decode cJ6_bitCount_0f7a4 48 = .ok (.iload_n 0, 1) := by sorry
theorem dJ6_bitCount_0f7a4_49 : decode cJ6_bitCount_0f7a4 49 = .ok (.bipush 63, 2) := by sorry
theorem dJ6_bitCount_0f7a4_51 : decode cJ6_bitCount_0f7a4 51 = .ok (.iand, 1) := by sorry
theorem dJ6_bitCount_0f7a4_52 : decode cJ6_bitCount_0f7a4 52 = .ok (.ireturn, 1) := by sorry
theorem dJ9_max_7cf53_0 : decode cJ9_max_7cf53 0 = .ok (.iload_n 0, 1) := by sorry
theorem dJ9_max_7cf53_1 : decode cJ9_max_7cf53 1 = .ok (.iload_n 1, 1) := by sorry
theorem dJ9_max_7cf53_2 : decode cJ9_max_7cf53 2 = .ok (.if_icmp .lt 7, 3) := by sorry
theorem dJ9_max_7cf53_5 : decode cJ9_max_7cf53 5 = .ok (.iload_n 0, 1) := by sorry
theorem dJ9_max_7cf53_6 : decode cJ9_max_7cf53 6 = .ok (.goto 4, 3) := by sorry
theorem dJ9_max_7cf53_9 : decode cJ9_max_7cf53 9 = .ok (.iload_n 1, 1) := by sorry
theorem dJ9_max_7cf53_10 : decode cJ9_max_7cf53 10 = .ok (.ireturn, 1) := by sorry
theorem dJ9_min_7cf53_0 : decode cJ9_min_7cf53 0 = .ok (.iload_n 0, 1) := by sorry
theorem dJ9_min_7cf53_1 : decode cJ9_min_7cf53 1 = .ok (.iload_n 1, 1) := by sorry
theorem dJ9_min_7cf53_2 : decode cJ9_min_7cf53 2 = .ok (.if_icmp .gt 7, 3) := by sorry
theorem dJ9_min_7cf53_5 : decode cJ9_min_7cf53 5 = .ok (.iload_n 0, 1) := by sorry
theorem dJ9_min_7cf53_6 : decode cJ9_min_7cf53 6 = .ok (.goto 4, 3) := by sorry
theorem dJ9_min_7cf53_9 : decode cJ9_min_7cf53 9 = .ok (.iload_n 1, 1) := by sorry
theorem dJ9_min_7cf53_10 : decode cJ9_min_7cf53 10 = .ok (.ireturn, 1) := by sorry
theorem dL_below_0 : decode cL_below 0 = .ok (.iload_n 0, 1) := by sorry
theorem dL_below_1 : decode cL_below 1 = .ok (.ldc 7, 2) := by sorry
theorem dL_below_3 : decode cL_below 3 = .ok (.iand, 1) := by sorry
theorem dL_below_4 : decode cL_below 4 = .ok (.iload_n 1, 1) := by sorry
theorem dL_below_5 : decode cL_below 5 = .ok (.irem, 1) := by sorry
theorem dL_below_6 : decode cL_below 6 = .ok (.ireturn, 1) := by sorry
theorem dL_cell_0 : decode cL_cell 0 = .ok (.iload_n 1, 1) := by sorry
theorem dL_cell_1 : decode cL_cell 1 = .ok (.aload_n 0, 1) := by sorry
theorem dL_cell_2 : decode cL_cell 2 = .ok (.arraylength, 1) := by sorry
theorem dL_cell_3 : decode cL_cell 3 = .ok (.if_icmp .ge 9, 3) := by sorry
theorem dL_cell_6 : decode cL_cell 6 = .ok (.aload_n 0, 1) := by sorry
theorem dL_cell_7 : decode cL_cell 7 = .ok (.iload_n 1, 1) := by sorry
theorem dL_cell_8 : decode cL_cell 8 = .ok (.iaload, 1) := by sorry
theorem dL_cell_9 : decode cL_cell 9 = .ok (.goto 9, 3) := by sorry
theorem dL_cell_12 : decode cL_cell 12 = .ok (.ldc 8, 2) := by sorry
theorem dL_cell_14 : decode cL_cell 14 = .ok (.iload_n 1, 1) := by sorry
theorem dL_cell_15 : decode cL_cell 15 = .ok (.iconst 3, 1) := by sorry
theorem dL_cell_16 : decode cL_cell 16 = .ok (.iadd, 1) := by sorry
theorem dL_cell_17 : decode cL_cell 17 = .ok (.imul, 1) := by sorry
theorem dL_cell_18 : decode cL_cell 18 = .ok (.ireturn, 1) := by sorry
theorem dL_law_0 : decode cL_law 0 = .ok (.new 9, 3) := by sorry
theorem dL_law_3 : decode cL_law 3 = .ok (.dup, 1) := by sorry
theorem dL_law_4 : decode cL_law 4 = .ok (.invokespecial 11, 3) := by sorry
theorem dL_law_7 : decode cL_law 7 = .ok (.astore_n 1, 1) := by sorry
theorem dL_law_8 : decode cL_law 8 = .ok (.aload_n 1, 1) := by sorry
theorem dL_law_9 : decode cL_law 9 = .ok (.iconst 3, 1) := by sorry
theorem dL_law_10 : decode cL_law 10 = .ok (.aload_n 0, 1) := by sorry
theorem dL_law_11 : decode cL_law 11 = .ok (.iconst 1, 1) := by sorry
theorem dL_law_12 : decode cL_law 12 = .ok (.invokestatic 12, 3) := by sorry
theorem dL_law_15 : decode cL_law 15 = .ok (.bipush 8, 2) := by sorry
theorem dL_law_17 : decode cL_law 17 = .ok (.invokestatic 18, 3) := by sorry
theorem dL_law_20 : decode cL_law 20 = .ok (.iadd, 1) := by sorry
theorem dL_law_21 : decode cL_law 21 = .ok (.invokevirtual 22, 3) := by sorry
theorem dL_law_24 : decode cL_law 24 = .ok (.pop, 1) := by sorry
theorem dL_law_25 : decode cL_law 25 = .ok (.bipush 40, 2) := by sorry
theorem dL_law_27 : decode cL_law 27 = .ok (.anewarray 26, 3) := by sorry
theorem dL_law_30 : decode cL_law 30 = .ok (.astore_n 2, 1) := by sorry
theorem dL_law_31 : decode cL_law 31 = .ok (.iconst 0, 1) := by sorry
theorem dL_law_32 : decode cL_law 32 = .ok (.istore_n 3, 1) := by sorry
theorem dL_law_33 : decode cL_law 33 = .ok (.iconst 0, 1) := by sorry
theorem dL_law_34 : decode cL_law 34 = .ok (.istore 4, 2) := by sorry
theorem dL_law_36 : decode cL_law 36 = .ok (.iload 4, 2) := by sorry
theorem dL_law_38 : decode cL_law 38 = .ok (.bipush 40, 2) := by sorry
theorem dL_law_40 : decode cL_law 40 = .ok (.if_icmp .ge 350, 3) := by sorry
theorem dL_law_43 : decode cL_law 43 = .ok (.aload_n 0, 1) := by sorry
theorem dL_law_44 : decode cL_law 44 = .ok (.iload 4, 2) := by sorry
theorem dL_law_46 : decode cL_law 46 = .ok (.bipush 16, 2) := by sorry
theorem dL_law_48 : decode cL_law 48 = .ok (.irem, 1) := by sorry
theorem dL_law_49 : decode cL_law 49 = .ok (.invokestatic 12, 3) := by sorry
theorem dL_law_52 : decode cL_law 52 = .ok (.bipush 79, 2) := by sorry
theorem dL_law_54 : decode cL_law 54 = .ok (.iload 4, 2) := by sorry
theorem dL_law_56 : decode cL_law 56 = .ok (.imul, 1) := by sorry
theorem dL_law_57 : decode cL_law 57 = .ok (.iadd, 1) := by sorry
theorem dL_law_58 : decode cL_law 58 = .ok (.istore 5, 2) := by sorry
theorem dL_law_60 : decode cL_law 60 = .ok (.aload_n 1, 1) := by sorry
theorem dL_law_61 : decode cL_law 61 = .ok (.iconst 0, 1) := by sorry
theorem dL_law_62 : decode cL_law 62 = .ok (.invokevirtual 28, 3) := by sorry
theorem dL_law_65 : decode cL_law 65 = .ok (.istore 6, 2) := by sorry
theorem dL_law_67 : decode cL_law 67 = .ok (.aload_n 1, 1) := by sorry
theorem dL_law_68 : decode cL_law 68 = .ok (.iconst 3, 1) := by sorry
theorem dL_law_69 : decode cL_law 69 = .ok (.invokevirtual 28, 3) := by sorry
theorem dL_law_72 : decode cL_law 72 = .ok (.istore 7, 2) := by sorry
theorem dL_law_74 : decode cL_law 74 = .ok (.iload 6, 2) := by sorry
theorem dL_law_76 : decode cL_law 76 = .ok (.newarray .int, 2) := by sorry
theorem dL_law_78 : decode cL_law 78 = .ok (.astore 8, 2) := by sorry
theorem dL_law_80 : decode cL_law 80 = .ok (.iconst 0, 1) := by sorry
theorem dL_law_81 : decode cL_law 81 = .ok (.istore 9, 2) := by sorry
theorem dL_law_83 : decode cL_law 83 = .ok (.iload 9, 2) := by sorry
theorem dL_law_85 : decode cL_law 85 = .ok (.iload 6, 2) := by sorry
theorem dL_law_87 : decode cL_law 87 = .ok (.if_icmp .ge 21, 3) := by sorry
theorem dL_law_90 : decode cL_law 90 = .ok (.aload 8, 2) := by sorry
theorem dL_law_92 : decode cL_law 92 = .ok (.iload 9, 2) := by sorry
theorem dL_law_94 : decode cL_law 94 = .ok (.aload_n 1, 1) := by sorry
theorem dL_law_95 : decode cL_law 95 = .ok (.iload 9, 2) := by sorry
theorem dL_law_97 : decode cL_law 97 = .ok (.iconst 0, 1) := by sorry
theorem dL_law_98 : decode cL_law 98 = .ok (.invokevirtual 31, 3) := by sorry
theorem dL_law_101 : decode cL_law 101 = .ok (.iastore, 1) := by sorry
theorem dL_law_102 : decode cL_law 102 = .ok (.iinc 9 1, 3) := by sorry
theorem dL_law_105 : decode cL_law 105 = .ok (.goto (-22), 3) := by sorry
theorem dL_law_108 : decode cL_law 108 = .ok (.aload_n 1, 1) := by sorry
theorem dL_law_109 : decode cL_law 109 = .ok (.iload 5, 2) := by sorry
theorem dL_law_111 : decode cL_law 111 = .ok (.iconst 2, 1) := by sorry
theorem dL_law_112 : decode cL_law 112 = .ok (.ishr, 1) := by sorry
theorem dL_law_113 : decode cL_law 113 = .ok (.iload 5, 2) := by sorry
theorem dL_law_115 : decode cL_law 115 = .ok (.bipush 12, 2) := by sorry
theorem dL_law_117 : decode cL_law 117 = .ok (.invokestatic 18, 3) := by sorry
theorem dL_law_120 : decode cL_law 120 = .ok (.iload 6, 2) := by sorry
theorem dL_law_122 : decode cL_law 122 = .ok (.invokestatic 34, 3) := by sorry
theorem dL_law_125 : decode cL_law 125 = .ok (.istore 9, 2) := by sorry
theorem dL_law_127 : decode cL_law 127 = .ok (.iload 9, 2) := by sorry
theorem dL_law_129 : decode cL_law 129 = .ok (.iconst 2, 1) := by sorry
theorem dL_law_130 : decode cL_law 130 = .ok (.if_icmp .ne 33, 3) := by sorry
theorem dL_law_133 : decode cL_law 133 = .ok (.aload_n 2, 1) := by sorry
theorem dL_law_134 : decode cL_law 134 = .ok (.iload_n 3, 1) := by sorry
theorem dL_law_135 : decode cL_law 135 = .ok (.iinc 3 1, 3) := by sorry
theorem dL_law_138 : decode cL_law 138 = .ok (.iconst 3, 1) := by sorry
theorem dL_law_139 : decode cL_law 139 = .ok (.newarray .int, 2) := by sorry
theorem dL_law_141 : decode cL_law 141 = .ok (.dup, 1) := by sorry
theorem dL_law_142 : decode cL_law 142 = .ok (.iconst 0, 1) := by sorry
theorem dL_law_143 : decode cL_law 143 = .ok (.iload 6, 2) := by sorry
theorem dL_law_145 : decode cL_law 145 = .ok (.iastore, 1) := by sorry
theorem dL_law_146 : decode cL_law 146 = .ok (.dup, 1) := by sorry
theorem dL_law_147 : decode cL_law 147 = .ok (.iconst 1, 1) := by sorry
theorem dL_law_148 : decode cL_law 148 = .ok (.aload_n 1, 1) := by sorry
theorem dL_law_149 : decode cL_law 149 = .ok (.iconst 0, 1) := by sorry
theorem dL_law_150 : decode cL_law 150 = .ok (.invokevirtual 38, 3) := by sorry
theorem dL_law_153 : decode cL_law 153 = .ok (.iastore, 1) := by sorry
theorem dL_law_154 : decode cL_law 154 = .ok (.dup, 1) := by sorry
theorem dL_law_155 : decode cL_law 155 = .ok (.iconst 2, 1) := by sorry
theorem dL_law_156 : decode cL_law 156 = .ok (.aload_n 1, 1) := by sorry
theorem dL_law_157 : decode cL_law 157 = .ok (.iconst 1, 1) := by sorry
theorem dL_law_158 : decode cL_law 158 = .ok (.invokevirtual 38, 3) := by sorry
theorem dL_law_161 : decode cL_law 161 = .ok (.iastore, 1) := by sorry
theorem dL_law_162 : decode cL_law 162 = .ok (.aastore, 1) := by sorry
theorem dL_law_163 : decode cL_law 163 = .ok (.iload 9, 2) := by sorry
theorem dL_law_165 : decode cL_law 165 = .ok (.bipush 7, 2) := by sorry
theorem dL_law_167 : decode cL_law 167 = .ok (.if_icmp .ne 78, 3) := by sorry
theorem dL_law_170 : decode cL_law 170 = .ok (.aload_n 1, 1) := by sorry
theorem dL_law_171 : decode cL_law 171 = .ok (.iconst 0, 1) := by sorry
theorem dL_law_172 : decode cL_law 172 = .ok (.invokevirtual 28, 3) := by sorry
theorem dL_law_175 : decode cL_law 175 = .ok (.iconst 2, 1) := by sorry
theorem dL_law_176 : decode cL_law 176 = .ok (.iload 6, 2) := by sorry
theorem dL_law_178 : decode cL_law 178 = .ok (.imul, 1) := by sorry
theorem dL_law_179 : decode cL_law 179 = .ok (.if_icmp .ne 26, 3) := by sorry
theorem dL_law_182 : decode cL_law 182 = .ok (.aload_n 1, 1) := by sorry
theorem dL_law_183 : decode cL_law 183 = .ok (.iconst 3, 1) := by sorry
theorem dL_law_184 : decode cL_law 184 = .ok (.invokevirtual 28, 3) := by sorry
theorem dL_law_187 : decode cL_law 187 = .ok (.ifCond .lt 20, 3) := by sorry
theorem dL_law_190 : decode cL_law 190 = .ok (.iload 7, 2) := by sorry
theorem dL_law_192 : decode cL_law 192 = .ok (.ifCond .lt 13, 3) := by sorry
theorem dL_law_195 : decode cL_law 195 = .ok (.aload_n 1, 1) := by sorry
theorem dL_law_196 : decode cL_law 196 = .ok (.iconst 3, 1) := by sorry
theorem dL_law_197 : decode cL_law 197 = .ok (.invokevirtual 28, 3) := by sorry
theorem dL_law_200 : decode cL_law 200 = .ok (.iload 7, 2) := by sorry
theorem dL_law_202 : decode cL_law 202 = .ok (.if_icmp .ge 5, 3) := by sorry
theorem dL_law_205 : decode cL_law 205 = .ok (.iconst 0, 1) := by sorry
theorem dL_law_206 : decode cL_law 206 = .ok (.ireturn, 1) := by sorry
theorem dL_law_207 : decode cL_law 207 = .ok (.iconst 0, 1) := by sorry
theorem dL_law_208 : decode cL_law 208 = .ok (.istore 10, 2) := by sorry
theorem dL_law_210 : decode cL_law 210 = .ok (.iload 10, 2) := by sorry
theorem dL_law_212 : decode cL_law 212 = .ok (.iconst 2, 1) := by sorry
theorem dL_law_213 : decode cL_law 213 = .ok (.iload 6, 2) := by sorry
theorem dL_law_215 : decode cL_law 215 = .ok (.imul, 1) := by sorry
theorem dL_law_216 : decode cL_law 216 = .ok (.if_icmp .ge 29, 3) := by sorry
theorem dL_law_219 : decode cL_law 219 = .ok (.aload_n 1, 1) := by sorry
theorem dL_law_220 : decode cL_law 220 = .ok (.iload 10, 2) := by sorry
theorem dL_law_222 : decode cL_law 222 = .ok (.iconst 0, 1) := by sorry
theorem dL_law_223 : decode cL_law 223 = .ok (.invokevirtual 31, 3) := by sorry
theorem dL_law_226 : decode cL_law 226 = .ok (.aload 8, 2) := by sorry
theorem dL_law_228 : decode cL_law 228 = .ok (.iload 10, 2) := by sorry
theorem dL_law_230 : decode cL_law 230 = .ok (.iload 6, 2) := by sorry
theorem dL_law_232 : decode cL_law 232 = .ok (.irem, 1) := by sorry
theorem dL_law_233 : decode cL_law 233 = .ok (.iaload, 1) := by sorry
theorem dL_law_234 : decode cL_law 234 = .ok (.if_icmp .eq 5, 3) := by sorry
theorem dL_law_237 : decode cL_law 237 = .ok (.iconst 0, 1) := by sorry
theorem dL_law_238 : decode cL_law 238 = .ok (.ireturn, 1) := by sorry
theorem dL_law_239 : decode cL_law 239 = .ok (.iinc 10 1, 3) := by sorry
theorem dL_law_242 : decode cL_law 242 = .ok (.goto (-32), 3) := by sorry
theorem dL_law_245 : decode cL_law 245 = .ok (.aload_n 1, 1) := by sorry
theorem dL_law_246 : decode cL_law 246 = .ok (.iconst 4, 1) := by sorry
theorem dL_law_247 : decode cL_law 247 = .ok (.invokevirtual 28, 3) := by sorry
theorem dL_law_250 : decode cL_law 250 = .ok (.istore 10, 2) := by sorry
theorem dL_law_252 : decode cL_law 252 = .ok (.aload_n 1, 1) := by sorry
theorem dL_law_253 : decode cL_law 253 = .ok (.iconst 3, 1) := by sorry
theorem dL_law_254 : decode cL_law 254 = .ok (.invokevirtual 28, 3) := by sorry
theorem dL_law_257 : decode cL_law 257 = .ok (.istore 11, 2) := by sorry
theorem dL_law_259 : decode cL_law 259 = .ok (.iload 10, 2) := by sorry
theorem dL_law_261 : decode cL_law 261 = .ok (.iconst 2, 1) := by sorry
theorem dL_law_262 : decode cL_law 262 = .ok (.if_icmp .lt 87, 3) := by sorry
theorem dL_law_265 : decode cL_law 265 = .ok (.iload 11, 2) := by sorry
theorem dL_law_267 : decode cL_law 267 = .ok (.iconst 3, 1) := by sorry
theorem dL_law_268 : decode cL_law 268 = .ok (.if_icmp .lt 81, 3) := by sorry
theorem dL_law_271 : decode cL_law 271 = .ok (.iload 11, 2) := by sorry
theorem dL_law_273 : decode cL_law 273 = .ok (.bipush 8, 2) := by sorry
theorem dL_law_275 : decode cL_law 275 = .ok (.if_icmp .gt 74, 3) := by sorry
theorem dL_law_278 : decode cL_law 278 = .ok (.aload_n 1, 1) := by sorry
theorem dL_law_279 : decode cL_law 279 = .ok (.iconst 0, 1) := by sorry
theorem dL_law_280 : decode cL_law 280 = .ok (.invokevirtual 28, 3) := by sorry
theorem dL_law_283 : decode cL_law 283 = .ok (.aload_n 1, 1) := by sorry
theorem dL_law_284 : decode cL_law 284 = .ok (.iload 10, 2) := by sorry
theorem dL_law_286 : decode cL_law 286 = .ok (.iload 11, 2) := by sorry
theorem dL_law_288 : decode cL_law 288 = .ok (.invokevirtual 41, 3) := by sorry
theorem dL_law_291 : decode cL_law 291 = .ok (.if_icmp .ge 5, 3) := by sorry
theorem dL_law_294 : decode cL_law 294 = .ok (.iconst 0, 1) := by sorry
theorem dL_law_295 : decode cL_law 295 = .ok (.ireturn, 1) := by sorry
theorem dL_law_296 : decode cL_law 296 = .ok (.iconst 0, 1) := by sorry
theorem dL_law_297 : decode cL_law 297 = .ok (.istore 12, 2) := by sorry
theorem dL_law_299 : decode cL_law 299 = .ok (.iload 12, 2) := by sorry
theorem dL_law_301 : decode cL_law 301 = .ok (.iload_n 3, 1) := by sorry
theorem dL_law_302 : decode cL_law 302 = .ok (.if_icmp .ge 47, 3) := by sorry
theorem dL_law_305 : decode cL_law 305 = .ok (.aload_n 2, 1) := by sorry
theorem dL_law_306 : decode cL_law 306 = .ok (.iload 12, 2) := by sorry
theorem dL_law_308 : decode cL_law 308 = .ok (.aaload, 1) := by sorry
theorem dL_law_309 : decode cL_law 309 = .ok (.iconst 0, 1) := by sorry
theorem dL_law_310 : decode cL_law 310 = .ok (.iaload, 1) := by sorry
theorem dL_law_311 : decode cL_law 311 = .ok (.aload_n 1, 1) := by sorry
theorem dL_law_312 : decode cL_law 312 = .ok (.iconst 0, 1) := by sorry
theorem dL_law_313 : decode cL_law 313 = .ok (.invokevirtual 28, 3) := by sorry
theorem dL_law_316 : decode cL_law 316 = .ok (.if_icmp .ne 27, 3) := by sorry
theorem dL_law_319 : decode cL_law 319 = .ok (.aload_n 2, 1) := by sorry
theorem dL_law_320 : decode cL_law 320 = .ok (.iload 12, 2) := by sorry
theorem dL_law_322 : decode cL_law 322 = .ok (.aaload, 1) := by sorry
theorem dL_law_323 : decode cL_law 323 = .ok (.iconst 1, 1) := by sorry
theorem dL_law_324 : decode cL_law 324 = .ok (.iaload, 1) := by sorry
theorem dL_law_325 : decode cL_law 325 = .ok (.iload 10, 2) := by sorry
theorem dL_law_327 : decode cL_law 327 = .ok (.if_icmp .ne 16, 3) := by sorry
theorem dL_law_330 : decode cL_law 330 = .ok (.aload_n 2, 1) := by sorry
theorem dL_law_331 : decode cL_law 331 = .ok (.iload 12, 2) := by sorry
theorem dL_law_333 : decode cL_law 333 = .ok (.aaload, 1) := by sorry
theorem dL_law_334 : decode cL_law 334 = .ok (.iconst 2, 1) := by sorry
theorem dL_law_335 : decode cL_law 335 = .ok (.iaload, 1) := by sorry
theorem dL_law_336 : decode cL_law 336 = .ok (.iload 11, 2) := by sorry
theorem dL_law_338 : decode cL_law 338 = .ok (.if_icmp .gt 5, 3) := by sorry
theorem dL_law_341 : decode cL_law 341 = .ok (.iconst 0, 1) := by sorry
theorem dL_law_342 : decode cL_law 342 = .ok (.ireturn, 1) := by sorry
theorem dL_law_343 : decode cL_law 343 = .ok (.iinc 12 1, 3) := by sorry
theorem dL_law_346 : decode cL_law 346 = .ok (.goto (-47), 3) := by sorry
theorem dL_law_349 : decode cL_law 349 = .ok (.iload 4, 2) := by sorry
theorem dL_law_351 : decode cL_law 351 = .ok (.bipush 13, 2) := by sorry
theorem dL_law_353 : decode cL_law 353 = .ok (.irem, 1) := by sorry
theorem dL_law_354 : decode cL_law 354 = .ok (.bipush 12, 2) := by sorry
theorem dL_law_356 : decode cL_law 356 = .ok (.if_icmp .ne 28, 3) := by sorry
theorem dL_law_359 : decode cL_law 359 = .ok (.aload_n 1, 1) := by sorry
theorem dL_law_360 : decode cL_law 360 = .ok (.invokevirtual 44, 3) := by sorry
theorem dL_law_363 : decode cL_law 363 = .ok (.lstore 12, 2) := by sorry
theorem dL_law_365 : decode cL_law 365 = .ok (.aload_n 1, 1) := by sorry
theorem dL_law_366 : decode cL_law 366 = .ok (.invokevirtual 48, 3) := by sorry
theorem dL_law_369 : decode cL_law 369 = .ok (.ifCond .eq 13, 3) := by sorry
theorem dL_law_372 : decode cL_law 372 = .ok (.aload_n 1, 1) := by sorry
theorem dL_law_373 : decode cL_law 373 = .ok (.invokevirtual 44, 3) := by sorry
theorem dL_law_376 : decode cL_law 376 = .ok (.lload 12, 2) := by sorry
theorem dL_law_378 : decode cL_law 378 = .ok (.lcmp, 1) := by sorry
theorem dL_law_379 : decode cL_law 379 = .ok (.ifCond .eq 5, 3) := by sorry
theorem dL_law_382 : decode cL_law 382 = .ok (.iconst 0, 1) := by sorry
theorem dL_law_383 : decode cL_law 383 = .ok (.ireturn, 1) := by sorry
theorem dL_law_384 : decode cL_law 384 = .ok (.iinc 4 1, 3) := by sorry
theorem dL_law_387 : decode cL_law 387 = .ok (.goto (-351), 3) := by sorry
theorem dL_law_390 : decode cL_law 390 = .ok (.iconst 1, 1) := by sorry
theorem dL_law_391 : decode cL_law 391 = .ok (.ireturn, 1) := by sorry
theorem dL_act_0 : decode cL_act 0 = .ok (.iload_n 2, 1) := by sorry
theorem dL_act_1 : decode cL_act 1 = .ok (.tableswitch 296 0 10 #[59, 76, 76, 76, 110, 136, 162, 198, 230, 254, 254], 59) := by sorry
theorem dL_act_60 : decode cL_act 60 = .ok (.aload_n 0, 1) := by sorry
theorem dL_act_61 : decode cL_act 61 = .ok (.iconst 3, 1) := by sorry
theorem dL_act_62 : decode cL_act 62 = .ok (.iload_n 1, 1) := by sorry
theorem dL_act_63 : decode cL_act 63 = .ok (.iconst 3, 1) := by sorry
theorem dL_act_64 : decode cL_act 64 = .ok (.ishr, 1) := by sorry
theorem dL_act_65 : decode cL_act 65 = .ok (.bipush 7, 2) := by sorry
theorem dL_act_67 : decode cL_act 67 = .ok (.invokestatic 18, 3) := by sorry
theorem dL_act_70 : decode cL_act 70 = .ok (.iadd, 1) := by sorry
theorem dL_act_71 : decode cL_act 71 = .ok (.invokevirtual 22, 3) := by sorry
theorem dL_act_74 : decode cL_act 74 = .ok (.pop, 1) := by sorry
theorem dL_act_75 : decode cL_act 75 = .ok (.iconst 0, 1) := by sorry
theorem dL_act_76 : decode cL_act 76 = .ok (.ireturn, 1) := by sorry
theorem dL_act_77 : decode cL_act 77 = .ok (.aload_n 0, 1) := by sorry
theorem dL_act_78 : decode cL_act 78 = .ok (.iload_n 1, 1) := by sorry
theorem dL_act_79 : decode cL_act 79 = .ok (.iload_n 3, 1) := by sorry
theorem dL_act_80 : decode cL_act 80 = .ok (.invokestatic 18, 3) := by sorry
theorem dL_act_83 : decode cL_act 83 = .ok (.iload_n 1, 1) := by sorry
theorem dL_act_84 : decode cL_act 84 = .ok (.iconst 3, 1) := by sorry
theorem dL_act_85 : decode cL_act 85 = .ok (.ishr, 1) := by sorry
theorem dL_act_86 : decode cL_act 86 = .ok (.iload_n 3, 1) := by sorry
theorem dL_act_87 : decode cL_act 87 = .ok (.invokestatic 18, 3) := by sorry
theorem dL_act_90 : decode cL_act 90 = .ok (.iload_n 1, 1) := by sorry
theorem dL_act_91 : decode cL_act 91 = .ok (.iconst 5, 1) := by sorry
theorem dL_act_92 : decode cL_act 92 = .ok (.ishr, 1) := by sorry
theorem dL_act_93 : decode cL_act 93 = .ok (.iconst 4, 1) := by sorry
theorem dL_act_94 : decode cL_act 94 = .ok (.invokestatic 18, 3) := by sorry
theorem dL_act_97 : decode cL_act 97 = .ok (.ifCond .le 7, 3) := by sorry
theorem dL_act_100 : decode cL_act 100 = .ok (.iconst 1, 1) := by sorry
theorem dL_act_101 : decode cL_act 101 = .ok (.goto 4, 3) := by sorry
theorem dL_act_104 : decode cL_act 104 = .ok (.iconst 0, 1) := by sorry
theorem dL_act_105 : decode cL_act 105 = .ok (.invokevirtual 52, 3) := by sorry
theorem dL_act_108 : decode cL_act 108 = .ok (.pop, 1) := by sorry
theorem dL_act_109 : decode cL_act 109 = .ok (.iconst 0, 1) := by sorry
theorem dL_act_110 : decode cL_act 110 = .ok (.ireturn, 1) := by sorry
theorem dL_act_111 : decode cL_act 111 = .ok (.aload_n 0, 1) := by sorry
theorem dL_act_112 : decode cL_act 112 = .ok (.iconst 3, 1) := by sorry
theorem dL_act_113 : decode cL_act 113 = .ok (.iload_n 1, 1) := by sorry
theorem dL_act_114 : decode cL_act 114 = .ok (.bipush 8, 2) := by sorry
theorem dL_act_116 : decode cL_act 116 = .ok (.invokestatic 18, 3) := by sorry
theorem dL_act_119 : decode cL_act 119 = .ok (.iadd, 1) := by sorry
theorem dL_act_120 : decode cL_act 120 = .ok (.iconst 2, 1) := by sorry
theorem dL_act_121 : decode cL_act 121 = .ok (.iconst 4, 1) := by sorry
theorem dL_act_122 : decode cL_act 122 = .ok (.iload_n 1, 1) := by sorry
theorem dL_act_123 : decode cL_act 123 = .ok (.iconst 3, 1) := by sorry
theorem dL_act_124 : decode cL_act 124 = .ok (.ishr, 1) := by sorry
theorem dL_act_125 : decode cL_act 125 = .ok (.iconst 4, 1) := by sorry
theorem dL_act_126 : decode cL_act 126 = .ok (.invokestatic 18, 3) := by sorry
theorem dL_act_129 : decode cL_act 129 = .ok (.imul, 1) := by sorry
theorem dL_act_130 : decode cL_act 130 = .ok (.iadd, 1) := by sorry
theorem dL_act_131 : decode cL_act 131 = .ok (.invokevirtual 56, 3) := by sorry
theorem dL_act_134 : decode cL_act 134 = .ok (.pop, 1) := by sorry
theorem dL_act_135 : decode cL_act 135 = .ok (.iconst 0, 1) := by sorry
theorem dL_act_136 : decode cL_act 136 = .ok (.ireturn, 1) := by sorry
theorem dL_act_137 : decode cL_act 137 = .ok (.aload_n 0, 1) := by sorry
theorem dL_act_138 : decode cL_act 138 = .ok (.iload_n 1, 1) := by sorry
theorem dL_act_139 : decode cL_act 139 = .ok (.iconst 3, 1) := by sorry
theorem dL_act_140 : decode cL_act 140 = .ok (.ishr, 1) := by sorry
theorem dL_act_141 : decode cL_act 141 = .ok (.iconst 1, 1) := by sorry
theorem dL_act_142 : decode cL_act 142 = .ok (.bipush 20, 2) := by sorry
theorem dL_act_144 : decode cL_act 144 = .ok (.aload_n 0, 1) := by sorry
theorem dL_act_145 : decode cL_act 145 = .ok (.iconst 1, 1) := by sorry
theorem dL_act_146 : decode cL_act 146 = .ok (.invokevirtual 28, 3) := by sorry
theorem dL_act_149 : decode cL_act 149 = .ok (.invokestatic 59, 3) := by sorry
theorem dL_act_152 : decode cL_act 152 = .ok (.ishl, 1) := by sorry
theorem dL_act_153 : decode cL_act 153 = .ok (.invokestatic 18, 3) := by sorry
theorem dL_act_156 : decode cL_act 156 = .ok (.invokevirtual 64, 3) := by sorry
theorem dL_act_159 : decode cL_act 159 = .ok (.pop, 1) := by sorry
theorem dL_act_160 : decode cL_act 160 = .ok (.bipush 7, 2) := by sorry
theorem dL_act_162 : decode cL_act 162 = .ok (.ireturn, 1) := by sorry
theorem dL_act_163 : decode cL_act 163 = .ok (.aload_n 0, 1) := by sorry
theorem dL_act_164 : decode cL_act 164 = .ok (.iload_n 1, 1) := by sorry
theorem dL_act_165 : decode cL_act 165 = .ok (.bipush 12, 2) := by sorry
theorem dL_act_167 : decode cL_act 167 = .ok (.invokestatic 18, 3) := by sorry
theorem dL_act_170 : decode cL_act 170 = .ok (.iload_n 1, 1) := by sorry
theorem dL_act_171 : decode cL_act 171 = .ok (.iconst 3, 1) := by sorry
theorem dL_act_172 : decode cL_act 172 = .ok (.ishr, 1) := by sorry
theorem dL_act_173 : decode cL_act 173 = .ok (.bipush 12, 2) := by sorry
theorem dL_act_175 : decode cL_act 175 = .ok (.invokestatic 18, 3) := by sorry
theorem dL_act_178 : decode cL_act 178 = .ok (.iload_n 1, 1) := by sorry
theorem dL_act_179 : decode cL_act 179 = .ok (.iconst 5, 1) := by sorry
theorem dL_act_180 : decode cL_act 180 = .ok (.ishr, 1) := by sorry
theorem dL_act_181 : decode cL_act 181 = .ok (.iconst 2, 1) := by sorry
theorem dL_act_182 : decode cL_act 182 = .ok (.invokestatic 18, 3) := by sorry
theorem dL_act_185 : decode cL_act 185 = .ok (.ifCond .ne 7, 3) := by sorry
theorem dL_act_188 : decode cL_act 188 = .ok (.iconst 1, 1) := by sorry
theorem dL_act_189 : decode cL_act 189 = .ok (.goto 4, 3) := by sorry
theorem dL_act_192 : decode cL_act 192 = .ok (.iconst 0, 1) := by sorry
theorem dL_act_193 : decode cL_act 193 = .ok (.invokevirtual 67, 3) := by sorry
theorem dL_act_196 : decode cL_act 196 = .ok (.pop, 1) := by sorry
theorem dL_act_197 : decode cL_act 197 = .ok (.iconst 0, 1) := by sorry
theorem dL_act_198 : decode cL_act 198 = .ok (.ireturn, 1) := by sorry
theorem dL_act_199 : decode cL_act 199 = .ok (.aload_n 0, 1) := by sorry
theorem dL_act_200 : decode cL_act 200 = .ok (.iconst 4, 1) := by sorry
theorem dL_act_201 : decode cL_act 201 = .ok (.iload_n 1, 1) := by sorry
theorem dL_act_202 : decode cL_act 202 = .ok (.iconst 5, 1) := by sorry
theorem dL_act_203 : decode cL_act 203 = .ok (.invokestatic 18, 3) := by sorry
theorem dL_act_206 : decode cL_act 206 = .ok (.iadd, 1) := by sorry
theorem dL_act_207 : decode cL_act 207 = .ok (.iload_n 1, 1) := by sorry
theorem dL_act_208 : decode cL_act 208 = .ok (.iconst 2, 1) := by sorry
theorem dL_act_209 : decode cL_act 209 = .ok (.ishr, 1) := by sorry
theorem dL_act_210 : decode cL_act 210 = .ok (.sipush 9999, 3) := by sorry
theorem dL_act_213 : decode cL_act 213 = .ok (.invokestatic 18, 3) := by sorry
theorem dL_act_216 : decode cL_act 216 = .ok (.iconst 1, 1) := by sorry
theorem dL_act_217 : decode cL_act 217 = .ok (.iload_n 1, 1) := by sorry
theorem dL_act_218 : decode cL_act 218 = .ok (.iconst 4, 1) := by sorry
theorem dL_act_219 : decode cL_act 219 = .ok (.ishr, 1) := by sorry
theorem dL_act_220 : decode cL_act 220 = .ok (.iconst 4, 1) := by sorry
theorem dL_act_221 : decode cL_act 221 = .ok (.invokestatic 18, 3) := by sorry
theorem dL_act_224 : decode cL_act 224 = .ok (.iadd, 1) := by sorry
theorem dL_act_225 : decode cL_act 225 = .ok (.invokevirtual 70, 3) := by sorry
theorem dL_act_228 : decode cL_act 228 = .ok (.pop, 1) := by sorry
theorem dL_act_229 : decode cL_act 229 = .ok (.iconst 0, 1) := by sorry
theorem dL_act_230 : decode cL_act 230 = .ok (.ireturn, 1) := by sorry
theorem dL_act_231 : decode cL_act 231 = .ok (.aload_n 0, 1) := by sorry
theorem dL_act_232 : decode cL_act 232 = .ok (.iconst 2, 1) := by sorry
theorem dL_act_233 : decode cL_act 233 = .ok (.iload_n 1, 1) := by sorry
theorem dL_act_234 : decode cL_act 234 = .ok (.iconst 4, 1) := by sorry
theorem dL_act_235 : decode cL_act 235 = .ok (.invokestatic 18, 3) := by sorry
theorem dL_act_238 : decode cL_act 238 = .ok (.iadd, 1) := by sorry
theorem dL_act_239 : decode cL_act 239 = .ok (.iconst 3, 1) := by sorry
theorem dL_act_240 : decode cL_act 240 = .ok (.iload_n 1, 1) := by sorry
theorem dL_act_241 : decode cL_act 241 = .ok (.iconst 3, 1) := by sorry
theorem dL_act_242 : decode cL_act 242 = .ok (.ishr, 1) := by sorry
theorem dL_act_243 : decode cL_act 243 = .ok (.bipush 6, 2) := by sorry
theorem dL_act_245 : decode cL_act 245 = .ok (.invokestatic 18, 3) := by sorry
theorem dL_act_248 : decode cL_act 248 = .ok (.iadd, 1) := by sorry
theorem dL_act_249 : decode cL_act 249 = .ok (.invokevirtual 74, 3) := by sorry
theorem dL_act_252 : decode cL_act 252 = .ok (.pop, 1) := by sorry
theorem dL_act_253 : decode cL_act 253 = .ok (.iconst 0, 1) := by sorry
theorem dL_act_254 : decode cL_act 254 = .ok (.ireturn, 1) := by sorry
theorem dL_act_255 : decode cL_act 255 = .ok (.aload_n 0, 1) := by sorry
theorem dL_act_256 : decode cL_act 256 = .ok (.iconst 5, 1) := by sorry
theorem dL_act_257 : decode cL_act 257 = .ok (.invokevirtual 38, 3) := by sorry
theorem dL_act_260 : decode cL_act 260 = .ok (.ifCond .ne 7, 3) := by sorry
theorem dL_act_263 : decode cL_act 263 = .ok (.iconst 1, 1) := by sorry
theorem dL_act_264 : decode cL_act 264 = .ok (.goto 4, 3) := by sorry
theorem dL_act_267 : decode cL_act 267 = .ok (.iconst 0, 1) := by sorry
theorem dL_act_268 : decode cL_act 268 = .ok (.istore 4, 2) := by sorry
theorem dL_act_270 : decode cL_act 270 = .ok (.aload_n 0, 1) := by sorry
theorem dL_act_271 : decode cL_act 271 = .ok (.iconst 1, 1) := by sorry
theorem dL_act_272 : decode cL_act 272 = .ok (.iload_n 1, 1) := by sorry
theorem dL_act_273 : decode cL_act 273 = .ok (.bipush 60, 2) := by sorry
theorem dL_act_275 : decode cL_act 275 = .ok (.invokestatic 18, 3) := by sorry
theorem dL_act_278 : decode cL_act 278 = .ok (.iadd, 1) := by sorry
theorem dL_act_279 : decode cL_act 279 = .ok (.invokevirtual 77, 3) := by sorry
theorem dL_act_282 : decode cL_act 282 = .ok (.iconst 2, 1) := by sorry
theorem dL_act_283 : decode cL_act 283 = .ok (.if_icmp .ne 12, 3) := by sorry
theorem dL_act_286 : decode cL_act 286 = .ok (.iload 4, 2) := by sorry
theorem dL_act_288 : decode cL_act 288 = .ok (.ifCond .eq 7, 3) := by sorry
theorem dL_act_291 : decode cL_act 291 = .ok (.iconst 2, 1) := by sorry
theorem dL_act_292 : decode cL_act 292 = .ok (.goto 4, 3) := by sorry
theorem dL_act_295 : decode cL_act 295 = .ok (.iconst 0, 1) := by sorry
theorem dL_act_296 : decode cL_act 296 = .ok (.ireturn, 1) := by sorry
theorem dL_act_297 : decode cL_act 297 = .ok (.iload_n 1, 1) := by sorry
theorem dL_act_298 : decode cL_act 298 = .ok (.iconst 2, 1) := by sorry
theorem dL_act_299 : decode cL_act 299 = .ok (.invokestatic 18, 3) := by sorry
theorem dL_act_302 : decode cL_act 302 = .ok (.ifCond .ne 11, 3) := by sorry
theorem dL_act_305 : decode cL_act 305 = .ok (.aload_n 0, 1) := by sorry
theorem dL_act_306 : decode cL_act 306 = .ok (.invokevirtual 80, 3) := by sorry
theorem dL_act_309 : decode cL_act 309 = .ok (.pop, 1) := by sorry
theorem dL_act_310 : decode cL_act 310 = .ok (.goto 15, 3) := by sorry
theorem dL_act_313 : decode cL_act 313 = .ok (.aload_n 0, 1) := by sorry
theorem dL_act_314 : decode cL_act 314 = .ok (.iload_n 1, 1) := by sorry
theorem dL_act_315 : decode cL_act 315 = .ok (.iconst 2, 1) := by sorry
theorem dL_act_316 : decode cL_act 316 = .ok (.ishr, 1) := by sorry
theorem dL_act_317 : decode cL_act 317 = .ok (.iconst 3, 1) := by sorry
theorem dL_act_318 : decode cL_act 318 = .ok (.invokestatic 18, 3) := by sorry
theorem dL_act_321 : decode cL_act 321 = .ok (.invokevirtual 84, 3) := by sorry
theorem dL_act_324 : decode cL_act 324 = .ok (.pop, 1) := by sorry
theorem dL_act_325 : decode cL_act 325 = .ok (.iconst 0, 1) := by sorry
theorem dL_act_326 : decode cL_act 326 = .ok (.ireturn, 1) := by sorry
theorem dL_act_327 : decode cL_act 327 = .ok (.astore 4, 2) := by sorry
theorem dL_act_329 : decode cL_act 329 = .ok (.iconst 0, 1) := by sorry
theorem dL_act_330 : decode cL_act 330 = .ok (.ireturn, 1) := by sorry
theorem dL_act_331 : decode cL_act 331 = .ok (.astore 4, 2) := by sorry
theorem dL_act_333 : decode cL_act 333 = .ok (.iconst 0, 1) := by sorry
theorem dL_act_334 : decode cL_act 334 = .ok (.ireturn, 1) := by sorry
theorem dL_act_335 : decode cL_act 335 = .ok (.astore 4, 2) := by sorry
theorem dL_act_337 : decode cL_act 337 = .ok (.iconst 0, 1) := by sorry
theorem dL_act_338 : decode cL_act 338 = .ok (.ireturn, 1) := by sorry
end
section
section
/-! The class's worlds, the words of its nest, contracts that change nothing (printed by wip/gen/pre.py) -/
abbrev kCl : List vw_C := [(RX0, TX0, 11), (RX1, TX1, 2), (RX2, TX2, 4), (RX3, TX3, 2), (RX4, TX4, 1), (RX6, TX6, 10)]
abbrev kT (cI cN : ClassId) : List (ClassId × FieldType) := [(cI, .int), (cN, .object "Shortring$Net")]
def kNM : List (String × Nat × MethodName) := [(RX6, 11, yX3_init), (RX6, 25, yX0_init), (RX6, 32, yX1_init), (RX6, 39, yX2_init), (RX6, 46, yX4_init), (RX6, 76, yX3_lay), (RX6, 80, yX0_end), (RX6, 83, yX1_look), (RX6, 87, yX3_isKnot), (RX6, 98, yX3_isNear), (RX6, 102, yX3_countOf), (RX6, 111, yX3_join), (RX6, 115, yX3_loosen), (RX6, 130, yX3_edgesInAll), (RX6, 144, yX3_take), (RX6, 147, yX5_leastRing), (RX6, 153, yX3_edgeAt), (RX6, 185, yX0_begin), (RX6, 188, yX1_why), (RX6, 202, yX0_step), (RX6, 211, yX1_prove), (RX6, 226, yX0_nextKnot), (RX6, 229, yX0_partnerOf), (RX6, 235, yX5_partsInAll), (RX6, 238, yX3_evenCount), (RX6, 241, yX5_width), (RX6, 244, yX4_fewest), (RX6, 247, yX2_turnsOf), (RX6, 250, yX3_loneliest), (RX6, 255, yX3_nearOf), (RX6, 258, yX5_partNumber), (RX6, 261, yX5_leastRingAt), (RX6, 264, yX5_greatestDistance), (RX6, 267, yX0_joinable), (RX6, 283, yX5_leastRingBy), (RX6, 298, yX1_leastKnots), (RX6, 303, yX1_nextOf), (RX6, 306, yX1_smallestOf), (RX6, 317, yX2_areAlike), (RX6, 340, yX3_isMutual), (RX6, 350, yX1_isTableSound), (RX0, 64, yX6_pairOf), (RX0, 71, yX3_join), (RX0, 77, yX6_oneOf), (RX0, 81, yX6_otherOf), (RX0, 84, yX3_loosen), (RX0, 93, yX6_bit), (RX0, 99, yX3_countOf), (RX0, 102, yX6_holds), (RX0, 106, yX5_within), (RX0, 123, yX6_firstOf), (RX1, 26, yX6_isWithin), (RX1, 32, yX3_evenCount), (RX1, 38, yX5_leastRing), (RX2, 11, yX3_init), (RX2, 32, yX3_take), (RX2, 36, yX6_holds), (RX2, 40, yX5_partWith), (RX2, 59, yX3_edgesInAll), (RX2, 63, yX6_bit), (RX2, 89, yX3_nearOf), (RX3, 23, yX6_holds), (RX3, 36, yX6_bit), (RX3, 46, yX6_pairOf), (RX3, 49, yX6_firstOf), (RX4, 21, yX6_holds), (RX4, 25, yX5_partWith), (RX4, 49, yX3_nearOf), (RX4, 53, yX6_bit), (RX5, 15, yX3_nearOf), (RX5, 20, yX6_bit), (RX5, 37, yX6_holds), (RX5, 57, yX3_isNear), (RX5, 63, yX6_lesser)]
def kNF : List (String × Nat × String × String × String) := [(RX6, 73, "Shortring$Net", "knots", "I"), (RX6, 193, "Shortring$Hunt", "isOn", "Z"), (RX6, 199, "Shortring$Hunt", "state", "I"), (RX6, 205, "Shortring$Hunt", "count", "I"), (RX6, 208, "Shortring$Hunt", "length", "I"), (RX6, 217, "Shortring$Hunt", "putMany", "I"), (RX6, 220, "Shortring$Hunt", "barMany", "I"), (RX6, 223, "Shortring$Hunt", "steps", "I"), (RX0, 96, "Shortring$Net", "knots", "I"), (RX1, 47, "Shortring$Net", "knots", "I"), (RX2, 29, "Shortring$Net", "knots", "I"), (RX4, 15, "Shortring$Net", "knots", "I"), (RX5, 33, "Shortring$Net", "knots", "I")]
def kN (U : State) : Prop := (∀ (i : Nat) (q : String × Nat × MethodName), kNM[i]? = some q → va_Nw (.methodLinkNest q.1 q.2.1 q.2.2 "Shortring") U) ∧ (∀ (i : Nat) (q : String × Nat × String × String × String), kNF[i]? = some q → va_Nw (.fieldLinkNest q.1 q.2.1 q.2.2.1 q.2.2.2.1 q.2.2.2.2 "Shortring") U)
theorem kN_warm {s U : State} (hW : s.WarmedH U.vm) (h : kN s) : kN U := by sorry
theorem kN_same {u U : State} (e : u.vm = U.vm) (h : kN u) : kN U := by sorry
/-- a world of the class's objects, its tables, its nest's words -/
def kW (dC : Nat → ClassId) (dI : Nat → Nat → Nat) (cI cN : ClassId) (ws : va_W) (U : State) : Prop := va_P (dC, dI) kCl ws U.heap ∧ va_K (dC, dI) kCl (kT cI cN) U ∧ va_D (fun _ => True) ws ∧ kN U
theorem kW_blind {dC : Nat → ClassId} {dI : Nat → Nat → Nat} {cI cN : ClassId} {ws : va_W} {As : List Value} : FrameBlind (va_Pc As (kW dC dI cI cN ws)) := by sorry
theorem kW_S {dC : Nat → ClassId} {dI : Nat → Nat → Nat} {cI cN : ClassId} {W wc : va_W} {A : Nat → Prop} {H : Heap} {s : State} {As : List Value} (hP : va_P (dC, dI) kCl W H) (hK : va_K (dC, dI) kCl (kT cI cN) s) (hD : va_D A W) (hN : kN s)
    (is : List Nat) (h0 : va_nd is = true) (h1 : is.filterMap (fun i => W[i]?) = wc) (h2 : is.map (fun i => W[i]?) = wc.map some) : PreS s H (va_Pc As (kW dC dI cI cN wc)) As := by sorry
theorem kW_V {dC : Nat → ClassId} {dI : Nat → Nat → Nat} {cI cN : ClassId} {W wc : va_W} {A : Nat → Prop} {H : Heap} {s : State} {b q0 ci : Nat} {q : vw_C} {fs : List Value} {As : List Value} (hP : va_P (dC, dI) kCl W H) (hK : va_K (dC, dI) kCl (kT cI cN) s) (hD : va_D A W) (hN : kN s)
    (hc : kCl[ci]? = some q) (he : W[q0]? = some (b, .inr (ci, fs))) (is : List Nat) (h0 : va_nd is = true) (h1 : is.filterMap (fun i => W[i]?) = wc) (h2 : is.map (fun i => W[i]?) = wc.map some) : PreV s H q.1 b (va_Pc (.ref b :: As) (kW dC dI cI cN wc)) As := by sorry
/-- the end of a method that answers v and changes nothing -/
def kR (v : Int32) : Array Value → State → Outcome → State → Prop := va_Qi (fun (r : Int32) (_ : Unit) => r = v) (fun _ _ => True) (fun _ => False)
theorem kR_end {v r : Int32} {a : Array Value} {s t : State} {H : Heap} {locs : List Loc} (h : r = v) (hS : va_S (fun _ => False) s.heap H locs) (ht : t.heap = H) : kR v a s (.returned (some (.int r))) t := ⟨⟨r, (), rfl, h, trivial⟩, hS.F ht⟩
theorem kP_kept {D : va_G} {cl : List vw_C} {ws : va_W} {H H1 : Heap} (h : va_P D cl ws H) (hk : ∀ q : Nat, q < H.size → ¬ False → H1[q]? = H[q]?) : va_P D cl ws H1 := h.kept (fun k q hq => hk q.1 (h k q hq).lt (fun x => x))
section KCALL
variable {p : Program} {l : Launch} {e : Env} {R : Room} {s : State} {m : MethodId} {args : Array Value} {below : List Frame} {meth : Method} {c : Code} {H : Heap} {locs : List Loc} {cells slots : Nat} {Q : State → Prop}
variable {pc : Nat} {ls : Array Slot} {rest st0 : List Value} {D : va_G} {cl : List vw_C} {A0 : Nat → Prop} {ws : va_W} {H0 : Heap} {a : Array Value}
/-- behind a call that changes nothing -/
theorem kCall {v : Int32} (hr : va_Run p l e R s m args below meth c H locs cells slots 0 0 (F0 m pc ls st0) rest (kR v a) (fun _ => False)) (hP : va_P D cl ws H) (hS : va_S A0 H0 H locs)
    (kk : ∀ (H1 : Heap) (locs1 : List Loc), va_P D cl ws H1 → va_S A0 H0 H1 locs1 → W p l e R s m args below meth c H1 locs1 cells slots Q (F0 m (pc + 3) ls (.int v :: rest))) : W p l e R s m args below meth c H locs cells slots Q (F0 m pc ls st0) := by sorry
theorem kRen {x y : Int32} (h : x = y) (kk : W p l e R s m args below meth c H locs cells slots Q (F0 m pc ls (.int y :: rest))) : W p l e R s m args below meth c H locs cells slots Q (F0 m pc ls (.int x :: rest)) := h ▸ kk
end KCALL
/-- a value that gets a name -/
def bd {α β : Type} (x : α) (f : α → β) : β := f x
theorem bd_to {α β : Type} {x y : α} {f : α → β} {z : β} (h : bd x f = z) (e : y = x) : f y = z := by subst e; exact h
theorem if_to {c : Prop} [Decidable c] {α : Type} {a b z : α} (h : (if c then a else b) = z) (hc : c) : a = z := (if_pos hc).symm.trans h
theorem if_no {c : Prop} [Decidable c] {α : Type} {a b z : α} (h : (if c then a else b) = z) (hc : ¬ c) : b = z := (if_neg hc).symm.trans h
theorem kIn {k : Int32} {n : Nat} {N : Int32} (hN : N.toInt = n) (h0 : ¬ k < 0) (h1 : ¬ N ≤ k) : vp_in k n := by sorry
theorem kIn2 {k : Int32} {n : Nat} {N : Int32} (hN : N.toInt = n) (h0 : 0 ≤ k) (h1 : k < N) : vp_in k n := by sorry
theorem kTop {i N : Nat} {x : Int32} (hx : x = nI N) (h : i = N) : x ≤ nI i := by subst h; rw [hx]; exact Int32.le_refl _
theorem kLow {i N : Nat} {x : Int32} (hx : x = nI N) (h : i < N) (hN : N < 2 ^ 31) : ¬ x ≤ nI i := by rw [hx]; exact nI_ge h hN
theorem kTopG {i N : Nat} {x : Int32} (hx : x = nI (N - 1)) (h : i = N) (hN : 0 < N ∧ N < 2 ^ 31) : x < nI i := by rw [hx]; exact nI_lt (by omega) (by omega)
theorem kLowG {i N : Nat} {x : Int32} (hx : x = nI (N - 1)) (h : i < N) (hN : N < 2 ^ 31) : ¬ x < nI i := by rw [hx]; exact nI_nlt (by omega) (by omega)
theorem kBool {v : Int32} (h : v = 0 ∨ v = 1) : narrow .boolean (.int v) = .int v := by rcases h with rfl | rfl <;> rfl
theorem fb_rngK (x : Int32) : -2147483648 ≤ x.toInt ∧ x.toInt < 2147483648 := by sorry
theorem kTopC {i : Nat} {x : Int32} (h : i = x.toNatClampNeg) : x ≤ nI i := by sorry
theorem kLowC {i : Nat} {x : Int32} (h : i < x.toNatClampNeg) : ¬ x ≤ nI i := by sorry
theorem kNe {K : Nat} (h : ¬ nI K = 0) : K ≠ 0 := fun e => h (by rw [e]; rfl)
/-! contracts that write in their own world -/
theorem kD_fst {A : Nat → Prop} {ws ws' : va_W} (h : va_D A ws) (e : ws'.map Prod.fst = ws.map Prod.fst) : va_D A ws' := by sorry
/-- the start of a method that writes in its world -/
def kU (dC : Nat → ClassId) (dI : Nat → Nat → Nat) (cI cN : ClassId) (ws : va_W) (sz : Nat) (U : State) : Prop := U.heap.size = sz ∧ kW dC dI cI cN ws U
theorem kU_blind {dC : Nat → ClassId} {dI : Nat → Nat → Nat} {cI cN : ClassId} {ws : va_W} {sz : Nat} {As : List Value} : FrameBlind (va_Pc As (kU dC dI cI cN ws sz)) := by sorry
theorem kU_S {dC : Nat → ClassId} {dI : Nat → Nat → Nat} {cI cN : ClassId} {W wc : va_W} {A : Nat → Prop} {H : Heap} {s : State} {As : List Value} (hP : va_P (dC, dI) kCl W H) (hK : va_K (dC, dI) kCl (kT cI cN) s) (hD : va_D A W) (hN : kN s)
    (is : List Nat) (h0 : va_nd is = true) (h1 : is.filterMap (fun i => W[i]?) = wc) (h2 : is.map (fun i => W[i]?) = wc.map some) : PreS s H (va_Pc As (kU dC dI cI cN wc H.size)) As := by sorry
theorem kU_V {dC : Nat → ClassId} {dI : Nat → Nat → Nat} {cI cN : ClassId} {W wc : va_W} {A : Nat → Prop} {H : Heap} {s : State} {b q0 ci : Nat} {q : vw_C} {fs : List Value} {As : List Value} (hP : va_P (dC, dI) kCl W H) (hK : va_K (dC, dI) kCl (kT cI cN) s) (hD : va_D A W) (hN : kN s)
    (hc : kCl[ci]? = some q) (he : W[q0]? = some (b, .inr (ci, fs))) (is : List Nat) (h0 : va_nd is = true) (h1 : is.filterMap (fun i => W[i]?) = wc) (h2 : is.map (fun i => W[i]?) = wc.map some) : PreV s H q.1 b (va_Pc (.ref b :: As) (kU dC dI cI cN wc H.size)) As := by sorry
/-- its end: nothing, or an int, and its world as it is then -/
def kV (dC : Nat → ClassId) (dI : Nat → Nat → Nat) (ws' : va_W) (A : Nat → Prop) : Array Value → State → Outcome → State → Prop := va_Qv (fun (_ : Unit) => True) (fun _ t => va_P (dC, dI) kCl ws' t.heap) A
def kVi (dC : Nat → ClassId) (dI : Nat → Nat → Nat) (v : Int32) (ws' : va_W) (A : Nat → Prop) : Array Value → State → Outcome → State → Prop := va_Qi (fun (r : Int32) (_ : Unit) => r = v) (fun _ t => va_P (dC, dI) kCl ws' t.heap) A
theorem kV_end {dC : Nat → ClassId} {dI : Nat → Nat → Nat} {ws' : va_W} {A : Nat → Prop} {a : Array Value} {s t : State} {H : Heap} {locs : List Loc} (hP : va_P (dC, dI) kCl ws' H) (hS : va_S A s.heap H locs) (ht : t.heap = H) : kV dC dI ws' A a s (.returned none) t := ⟨⟨(), rfl, trivial, by subst ht; exact hP⟩, hS.F ht⟩
theorem kVi_end {dC : Nat → ClassId} {dI : Nat → Nat → Nat} {v r : Int32} {ws' : va_W} {A : Nat → Prop} {a : Array Value} {s t : State} {H : Heap} {locs : List Loc} (h : r = v) (hP : va_P (dC, dI) kCl ws' H) (hS : va_S A s.heap H locs) (ht : t.heap = H) : kVi dC dI v ws' A a s (.returned (some (.int r))) t := ⟨⟨r, (), rfl, h, by subst ht; exact hP⟩, hS.F ht⟩
section KCALLV
variable {p : Program} {l : Launch} {e : Env} {R : Room} {s : State} {m : MethodId} {args : Array Value} {below : List Frame} {meth : Method} {c : Code} {H : Heap} {locs : List Loc} {cells slots : Nat} {Q : State → Prop}
variable {pc : Nat} {ls : Array Slot} {rest st0 : List Value} {dC : Nat → ClassId} {dI : Nat → Nat → Nat} {A0 : Nat → Prop} {Z wc wr ws' : va_W} {H0 : Heap} {a : Array Value}
theorem kCallV (hr : va_Run p l e R s m args below meth c H locs cells slots 0 0 (F0 m pc ls st0) rest (kV dC dI ws' (va_A wc H.size) a) (va_A wc H.size)) (hP : va_P (dC, dI) kCl Z H) (hD : va_D A0 Z) (hS : va_S A0 H0 H locs) (hA : ∀ q : Nat, H0.size ≤ q → A0 q)
    (isC isR : List Nat) (hC : isC.map (fun i => Z[i]?) = wc.map some) (hn0 : va_nd isC = true) (hR : isR.map (fun i => Z[i]?) = wr.map some) (hn : va_nd isR = true) (hdis : ∀ i ∈ isR, i ∉ isC) (hf : ws'.map Prod.fst = wc.map Prod.fst)
    (kk : ∀ (H1 : Heap) (locs1 : List Loc), va_P (dC, dI) kCl (wr ++ ws') H1 → va_D A0 (wr ++ ws') → va_S A0 H0 H1 locs1 → W p l e R s m args below meth c H1 locs1 cells slots Q (F0 m (pc + 3) ls rest)) : W p l e R s m args below meth c H locs cells slots Q (F0 m pc ls st0) := by sorry
theorem kCallVi {v : Int32} (hr : va_Run p l e R s m args below meth c H locs cells slots 0 0 (F0 m pc ls st0) rest (kVi dC dI v ws' (va_A wc H.size) a) (va_A wc H.size)) (hP : va_P (dC, dI) kCl Z H) (hD : va_D A0 Z) (hS : va_S A0 H0 H locs) (hA : ∀ q : Nat, H0.size ≤ q → A0 q)
    (isC isR : List Nat) (hC : isC.map (fun i => Z[i]?) = wc.map some) (hn0 : va_nd isC = true) (hR : isR.map (fun i => Z[i]?) = wr.map some) (hn : va_nd isR = true) (hdis : ∀ i ∈ isR, i ∉ isC) (hf : ws'.map Prod.fst = wc.map Prod.fst)
    (kk : ∀ (H1 : Heap) (locs1 : List Loc), va_P (dC, dI) kCl (wr ++ ws') H1 → va_D A0 (wr ++ ws') → va_S A0 H0 H1 locs1 → W p l e R s m args below meth c H1 locs1 cells slots Q (F0 m (pc + 3) ls (.int v :: rest))) : W p l e R s m args below meth c H locs cells slots Q (F0 m pc ls st0) := by sorry
end KCALLV
theorem kNlt {x : Int32} (h : ¬ x < 0) : 0 ≤ x := Int32.not_lt.mp h
theorem kDn0 {x Q : Int32} (h : (x.toInt + 1 - Q.toInt).toNat = 0) : x < Q := Int32.lt_iff_toInt_lt.mpr (by omega)
theorem kDnS {x Q : Int32} {n : Nat} (h : (x.toInt + 1 - Q.toInt).toNat = n + 1) : ¬ x < Q := fun q => by
  have := Int32.lt_iff_toInt_lt.mp q
  omega
theorem kDnN {x Q : Int32} {n : Nat} (h : (x.toInt + 1 - Q.toInt).toNat = n + 1) (hQ : 0 ≤ Q) : ((x + (-1)).toInt + 1 - Q.toInt).toNat = n := by sorry
theorem kClampLt (x : Int32) : x.toNatClampNeg < 2 ^ 31 := by sorry
theorem kInN {i n : Nat} {N : Int32} (hN : N = nI n) (h : ¬ N ≤ nI i) (hi : i < 2 ^ 31) (hn : n < 2 ^ 31) : i < n := by sorry
theorem kDepth0 {d : Nat} (h : d = 16) : ¬ nI d < 16 := by subst h; decide
theorem kDepthS {d : Nat} (h : d < 16) : nI d < 16 := nI_lt (a := d) (b := 16) h (by omega)
theorem kUp0 {x N : Int32} (h : (N.toInt - x.toInt).toNat = 0) : N ≤ x := Int32.le_iff_toInt_le.mpr (by omega)
theorem kUpS {x N : Int32} {n : Nat} (h : (N.toInt - x.toInt).toNat = n + 1) : ¬ N ≤ x := fun q => by
  have := Int32.le_iff_toInt_le.mp q
  omega
theorem kUpN {x N : Int32} {n : Nat} (h : (N.toInt - x.toInt).toNat = n + 1) : (N.toInt - (x + 1).toInt).toNat = n := by sorry
theorem kWalk0 {most : Int32} {c : Nat} (h : ¬ most ≤ nI c) (hc : c = 8) : ¬ most < 8 := by sorry
theorem kWalkIn {most : Int32} {c : Nat} (h : ¬ most ≤ nI c) (h2 : most < 8) (hc : c < 2 ^ 31) : c + 1 < 8 := by sorry
theorem kNz {x : Int32} (h : ¬ x < 1) : ¬ x = 0 := fun e => h (by rw [e]; decide)

end
section
/-! numbers, sets, pairs (printed by wip/gen) -/
def P_bitCount (x : Int32) : Int32 :=
  bd (x - ((((x.toUInt32 >>> ((1 : Int32).toUInt32 &&& Int32.toUInt32 31))).toInt32) &&& (1431655765 : Int32))) (fun y_1 =>
    bd ((y_1 &&& (858993459 : Int32)) + ((((y_1.toUInt32 >>> ((2 : Int32).toUInt32 &&& Int32.toUInt32 31))).toInt32) &&& (858993459 : Int32))) (fun y_2 =>
      bd ((y_2 + (((y_2.toUInt32 >>> ((4 : Int32).toUInt32 &&& Int32.toUInt32 31))).toInt32)) &&& (252645135 : Int32)) (fun y_3 =>
        bd (y_3 + (((y_3.toUInt32 >>> ((8 : Int32).toUInt32 &&& Int32.toUInt32 31))).toInt32)) (fun y_4 =>
          bd (y_4 + (((y_4.toUInt32 >>> ((16 : Int32).toUInt32 &&& Int32.toUInt32 31))).toInt32)) (fun y_5 =>
            y_5 &&& (63 : Int32))))))
abbrev rm_J6_bitCount_0f7a4 : Room := { frames := 0, cells := 0, slots := 0, locals := 0 }
theorem k_J6_bitCount_0f7a4 (l : Launch) (dC : Nat → ClassId) (dI : Nat → Nat → Nat) (cI cN : ClassId) (x : Int32) : Met l yJ6_bitCount_0f7a4 wsJ6_bitCount_0f7a4 rm_J6_bitCount_0f7a4 (va_Pc [.int x] (kW dC dI cI cN [])) (kR (P_bitCount x)) 0 0 (fun _ => False) := by sorry
def P_isWithin (number : Int32) (low : Int32) (high : Int32) : Int32 :=
  if number < low then
    0
  else
    if high < number then
      0
    else
      1
abbrev rm_X6_isWithin : Room := { frames := 0, cells := 0, slots := 0, locals := 0 }
theorem k_X6_isWithin (l : Launch) (dC : Nat → ClassId) (dI : Nat → Nat → Nat) (cI cN : ClassId) (number : Int32) (low : Int32) (high : Int32) : Met l yX6_isWithin wsX6_isWithin rm_X6_isWithin (va_Pc [.int number, .int low, .int high] (kW dC dI cI cN [])) (kR (P_isWithin number low high)) 0 0 (fun _ => False) := by sorry
theorem P_isWithin_b (number low high : Int32) : P_isWithin number low high = 0 ∨ P_isWithin number low high = 1 := by sorry
def P_bit (number : Int32) : Int32 :=
  if number < 0 then
    0
  else
    if (31 : Int32) ≤ number then
      0
    else
      (1 : Int32) <<< (number &&& 31)
abbrev rm_X6_bit : Room := { frames := 0, cells := 0, slots := 0, locals := 0 }
theorem k_X6_bit (l : Launch) (dC : Nat → ClassId) (dI : Nat → Nat → Nat) (cI cN : ClassId) (number : Int32) : Met l yX6_bit wsX6_bit rm_X6_bit (va_Pc [.int number] (kW dC dI cI cN [])) (kR (P_bit number)) 0 0 (fun _ => False) := by sorry
def P_holds (set : Int32) (number : Int32) : Int32 :=
  if number < 0 then
    0
  else
    if (31 : Int32) ≤ number then
      0
    else
      if ((set >>> (number &&& 31)) &&& (1 : Int32)) = 0 then
        0
      else
        1
abbrev rm_X6_holds : Room := { frames := 0, cells := 0, slots := 0, locals := 0 }
theorem k_X6_holds (l : Launch) (dC : Nat → ClassId) (dI : Nat → Nat → Nat) (cI cN : ClassId) (set : Int32) (number : Int32) : Met l yX6_holds wsX6_holds rm_X6_holds (va_Pc [.int set, .int number] (kW dC dI cI cN [])) (kR (P_holds set number)) 0 0 (fun _ => False) := by sorry
theorem P_holds_b (set number : Int32) : P_holds set number = 0 ∨ P_holds set number = 1 := by sorry
def P_isSetBelow (set : Int32) (many : Int32) : Int32 :=
  if set < 0 then
    0
  else
    if (31 : Int32) ≤ many then
      1
    else
      if (P_bit many) ≤ set then
        0
      else
        1
abbrev rm_X6_isSetBelow : Room := { frames := 1, cells := 0, slots := 0, locals := 20 }
theorem k_X6_isSetBelow (l : Launch) (dC : Nat → ClassId) (dI : Nat → Nat → Nat) (cI cN : ClassId) (set : Int32) (many : Int32) : Met l yX6_isSetBelow wsX6_isSetBelow rm_X6_isSetBelow (va_Pc [.int set, .int many] (kW dC dI cI cN [])) (kR (P_isSetBelow set many)) 0 0 (fun _ => False) := by sorry
theorem P_isSetBelow_b (set many : Int32) : P_isSetBelow set many = 0 ∨ P_isSetBelow set many = 1 := by sorry
def P_firstOf (set : Int32) : Int32 :=
  if set = 0 then
    (-1)
  else
    P_bitCount ((set &&& (-set)) - (1 : Int32))
abbrev rm_X6_firstOf : Room := { frames := 1, cells := 0, slots := 0, locals := 20 }
theorem k_X6_firstOf (l : Launch) (dC : Nat → ClassId) (dI : Nat → Nat → Nat) (cI cN : ClassId) (set : Int32) : Met l yX6_firstOf wsX6_firstOf rm_X6_firstOf (va_Pc [.int set] (kW dC dI cI cN [])) (kR (P_firstOf set)) 0 0 (fun _ => False) := by sorry
def P_lesser (one : Int32) (other : Int32) : Int32 :=
  if one = (-1 : Int32) then
    other
  else
    if other = (-1 : Int32) then
      one
    else
      if other < one then other else one
abbrev rm_X6_lesser : Room := { frames := 1, cells := 0, slots := 0, locals := 13 }
theorem k_X6_lesser (l : Launch) (dC : Nat → ClassId) (dI : Nat → Nat → Nat) (cI cN : ClassId) (one : Int32) (other : Int32) : Met l yX6_lesser wsX6_lesser rm_X6_lesser (va_Pc [.int one, .int other] (kW dC dI cI cN [])) (kR (P_lesser one other)) 0 0 (fun _ => False) := by sorry
def P_pairOf (one : Int32) (other : Int32) : Int32 :=
  (one * (16 : Int32)) + other
abbrev rm_X6_pairOf : Room := { frames := 0, cells := 0, slots := 0, locals := 0 }
theorem k_X6_pairOf (l : Launch) (dC : Nat → ClassId) (dI : Nat → Nat → Nat) (cI cN : ClassId) (one : Int32) (other : Int32) : Met l yX6_pairOf wsX6_pairOf rm_X6_pairOf (va_Pc [.int one, .int other] (kW dC dI cI cN [])) (kR (P_pairOf one other)) 0 0 (fun _ => False) := by sorry
def P_oneOf (pair : Int32) : Int32 :=
  if 0 ≤ pair then
    pair / (16 : Int32)
  else
    (-1)
abbrev rm_X6_oneOf : Room := { frames := 0, cells := 0, slots := 0, locals := 0 }
theorem k_X6_oneOf (l : Launch) (dC : Nat → ClassId) (dI : Nat → Nat → Nat) (cI cN : ClassId) (pair : Int32) : Met l yX6_oneOf wsX6_oneOf rm_X6_oneOf (va_Pc [.int pair] (kW dC dI cI cN [])) (kR (P_oneOf pair)) 0 0 (fun _ => False) := by sorry
def P_otherOf (pair : Int32) : Int32 :=
  if 0 ≤ pair then
    pair - pair / (16 : Int32) * (16 : Int32)
  else
    (-1)
abbrev rm_X6_otherOf : Room := { frames := 0, cells := 0, slots := 0, locals := 0 }
theorem k_X6_otherOf (l : Launch) (dC : Nat → ClassId) (dI : Nat → Nat → Nat) (cI cN : ClassId) (pair : Int32) : Met l yX6_otherOf wsX6_otherOf rm_X6_otherOf (va_Pc [.int pair] (kW dC dI cI cN [])) (kR (P_otherOf pair)) 0 0 (fun _ => False) := by sorry
end
section
/-! a net: what is asked of it (printed by wip/gen) -/
def P_nearOf (f : Nat → Int32) (knot : Int32) : Int32 :=
  if knot < 0 then
    0
  else
    if (16 : Int32) ≤ knot then
      0
    else
      f (knot).toNatClampNeg
abbrev rm_X3_nearOf : Room := { frames := 0, cells := 0, slots := 0, locals := 0 }
theorem k_X3_nearOf (l : Launch) (dC : Nat → ClassId) (dI : Nat → Nat → Nat) (cI cN : ClassId) (h0 : Nat) (h1 : Nat) (K : Nat) (f : Nat → Int32) (knot : Int32) (hK : K ≤ 16) : Met l yX3_nearOf wsX3_nearOf rm_X3_nearOf (va_Pc [.ref h0, .int knot] (kW dC dI cI cN [(h0, .inr (3, [.ref h1, .int (nI K)])), (h1, .inl (cI, 16, .inl f))])) (kR (P_nearOf f knot)) 0 0 (fun _ => False) := by sorry
def P_isKnot (K : Nat) (knot : Int32) : Int32 :=
  if knot < 0 then
    0
  else
    if (nI K) ≤ knot then
      0
    else
      if (16 : Int32) ≤ knot then
        0
      else
        1
abbrev rm_X3_isKnot : Room := { frames := 0, cells := 0, slots := 0, locals := 0 }
theorem k_X3_isKnot (l : Launch) (dC : Nat → ClassId) (dI : Nat → Nat → Nat) (cI cN : ClassId) (h0 : Nat) (h1 : Nat) (K : Nat) (f : Nat → Int32) (knot : Int32) (hK : K ≤ 16) : Met l yX3_isKnot wsX3_isKnot rm_X3_isKnot (va_Pc [.ref h0, .int knot] (kW dC dI cI cN [(h0, .inr (3, [.ref h1, .int (nI K)])), (h1, .inl (cI, 16, .inl f))])) (kR (P_isKnot K knot)) 0 0 (fun _ => False) := by sorry
theorem P_isKnot_b (K : Nat) (knot : Int32) : P_isKnot K knot = 0 ∨ P_isKnot K knot = 1 := by sorry
theorem P_isKnot_in {K : Nat} {knot : Int32} (h : ¬ P_isKnot K knot = 0) : vp_in knot 16 := by sorry
def P_isNear (f : Nat → Int32) (one : Int32) (other : Int32) : Int32 :=
  P_holds (P_nearOf f one) other
abbrev rm_X3_isNear : Room := { frames := 1, cells := 0, slots := 0, locals := 21 }
theorem k_X3_isNear (l : Launch) (dC : Nat → ClassId) (dI : Nat → Nat → Nat) (cI cN : ClassId) (h0 : Nat) (h1 : Nat) (K : Nat) (f : Nat → Int32) (one : Int32) (other : Int32) (hK : K ≤ 16) : Met l yX3_isNear wsX3_isNear rm_X3_isNear (va_Pc [.ref h0, .int one, .int other] (kW dC dI cI cN [(h0, .inr (3, [.ref h1, .int (nI K)])), (h1, .inl (cI, 16, .inl f))])) (kR (P_isNear f one other)) 0 0 (fun _ => False) := by sorry
def P_countOf (f : Nat → Int32) (knot : Int32) : Int32 :=
  P_bitCount (P_nearOf f knot)
abbrev rm_X3_countOf : Room := { frames := 1, cells := 0, slots := 0, locals := 21 }
theorem k_X3_countOf (l : Launch) (dC : Nat → ClassId) (dI : Nat → Nat → Nat) (cI cN : ClassId) (h0 : Nat) (h1 : Nat) (K : Nat) (f : Nat → Int32) (knot : Int32) (hK : K ≤ 16) : Met l yX3_countOf wsX3_countOf rm_X3_countOf (va_Pc [.ref h0, .int knot] (kW dC dI cI cN [(h0, .inr (3, [.ref h1, .int (nI K)])), (h1, .inl (cI, 16, .inl f))])) (kR (P_countOf f knot)) 0 0 (fun _ => False) := by sorry
def L_edgesInAll_4 (K : Nat) (f : Nat → Int32) (k : Int32 → Int32) : Nat → Nat → Int32 → Int32
  | 0, i, ends => k ends
  | n + 1, i, ends =>
    bd (ends + (P_countOf f (nI i))) (fun ends_1 =>
      L_edgesInAll_4 K f k n (i + 1) ends_1)
def P_edgesInAll (K : Nat) (f : Nat → Int32) : Int32 :=
  L_edgesInAll_4 K f (fun ends => ends / (2 : Int32)) K 0 0
abbrev rm_X3_edgesInAll : Room := { frames := 2, cells := 0, slots := 0, locals := 42 }
theorem k_X3_edgesInAll (l : Launch) (dC : Nat → ClassId) (dI : Nat → Nat → Nat) (cI cN : ClassId) (h0 : Nat) (h1 : Nat) (K : Nat) (f : Nat → Int32) (hK : K ≤ 16) : Met l yX3_edgesInAll wsX3_edgesInAll rm_X3_edgesInAll (va_Pc [.ref h0] (kW dC dI cI cN [(h0, .inr (3, [.ref h1, .int (nI K)])), (h1, .inl (cI, 16, .inl f))])) (kR (P_edgesInAll K f)) 0 0 (fun _ => False) := by sorry
def L_numberedIn_4 (set : Int32) (place : Int32) (k : Int32 → Int32) : Nat → Nat → Int32 → Int32
  | 0, i, left => k left
  | n + 1, i, left =>
    bd (left &&& (left - (1 : Int32))) (fun left_1 =>
      L_numberedIn_4 set place k n (i + 1) left_1)
def P_numberedIn (set : Int32) (place : Int32) : Int32 :=
  L_numberedIn_4 set place (fun left => P_firstOf left) place.toNatClampNeg 0 set
abbrev rm_X3_numberedIn : Room := { frames := 2, cells := 0, slots := 0, locals := 40 }
theorem k_X3_numberedIn (l : Launch) (dC : Nat → ClassId) (dI : Nat → Nat → Nat) (cI cN : ClassId) (set : Int32) (place : Int32) : Met l yX3_numberedIn wsX3_numberedIn rm_X3_numberedIn (va_Pc [.int set, .int place] (kW dC dI cI cN [])) (kR (P_numberedIn set place)) 0 0 (fun _ => False) := by sorry
def L_edgeAt_4 (K : Nat) (f : Nat → Int32) (number : Int32) (k : Int32 → Int32) : Nat → Nat → Int32 → Int32
  | 0, one, left => k left
  | n + 1, one, left =>
    if left < 0 then
      k left
    else
      bd ((P_nearOf f (nI one)) &&& (((P_bit ((nI one) + (1 : Int32))) - (1 : Int32)) ^^^ (-1 : Int32))) (fun above_1 =>
        bd (P_bitCount above_1) (fun many_2 =>
          if many_2 ≤ left then
            bd (left - many_2) (fun left_3 =>
              L_edgeAt_4 K f number k n (one + 1) left_3)
          else
            P_pairOf (nI one) (P_numberedIn above_1 left)))
def P_edgeAt (K : Nat) (f : Nat → Int32) (number : Int32) : Int32 :=
  L_edgeAt_4 K f number (fun left => (-1)) K 0 number
abbrev rm_X3_edgeAt : Room := { frames := 3, cells := 0, slots := 0, locals := 63 }
theorem k_X3_edgeAt (l : Launch) (dC : Nat → ClassId) (dI : Nat → Nat → Nat) (cI cN : ClassId) (h0 : Nat) (h1 : Nat) (K : Nat) (f : Nat → Int32) (number : Int32) (hK : K ≤ 16) : Met l yX3_edgeAt wsX3_edgeAt rm_X3_edgeAt (va_Pc [.ref h0, .int number] (kW dC dI cI cN [(h0, .inr (3, [.ref h1, .int (nI K)])), (h1, .inl (cI, 16, .inl f))])) (kR (P_edgeAt K f number)) 0 0 (fun _ => False) := by sorry
def L_evenCount_17 (K : Nat) (f : Nat → Int32) (k : Int32 → Int32) : Nat → Nat → Int32 → Int32
  | 0, i, count => k count
  | n + 1, i, count =>
    if (P_countOf f (nI i)) = count then
      L_evenCount_17 K f k n (i + 1) count
    else
      (-1)
def P_evenCount (K : Nat) (f : Nat → Int32) : Int32 :=
  if (nI K) = 0 then
    (-1)
  else
    bd (P_countOf f 0) (fun count_2 =>
      L_evenCount_17 K f (fun count => count) (K - 1) 1 count_2)
abbrev rm_X3_evenCount : Room := { frames := 2, cells := 0, slots := 0, locals := 42 }
theorem k_X3_evenCount (l : Launch) (dC : Nat → ClassId) (dI : Nat → Nat → Nat) (cI cN : ClassId) (h0 : Nat) (h1 : Nat) (K : Nat) (f : Nat → Int32) (hK : K ≤ 16) : Met l yX3_evenCount wsX3_evenCount rm_X3_evenCount (va_Pc [.ref h0] (kW dC dI cI cN [(h0, .inr (3, [.ref h1, .int (nI K)])), (h1, .inl (cI, 16, .inl f))])) (kR (P_evenCount K f)) 0 0 (fun _ => False) := by sorry
def L_loneliest_7 (K : Nat) (f : Nat → Int32) (k : Int32 → Int32 → Int32) : Nat → Nat → Int32 → Int32 → Int32
  | 0, i, set, least => k set least
  | n + 1, i, set, least =>
    bd (P_countOf f (nI i)) (fun count_1 =>
      if least ≤ count_1 then
        if count_1 = least then
          bd (set ||| (P_bit (nI i))) (fun set_2 =>
            L_loneliest_7 K f k n (i + 1) set_2 least)
        else
          L_loneliest_7 K f k n (i + 1) set least
      else
        if count_1 = count_1 then
          bd ((0 : Int32) ||| (P_bit (nI i))) (fun set_3 =>
            L_loneliest_7 K f k n (i + 1) set_3 count_1)
        else
          L_loneliest_7 K f k n (i + 1) 0 count_1)
def P_loneliest (K : Nat) (f : Nat → Int32) : Int32 :=
  L_loneliest_7 K f (fun set least => set) K 0 0 16
abbrev rm_X3_loneliest : Room := { frames := 2, cells := 0, slots := 0, locals := 42 }
theorem k_X3_loneliest (l : Launch) (dC : Nat → ClassId) (dI : Nat → Nat → Nat) (cI cN : ClassId) (h0 : Nat) (h1 : Nat) (K : Nat) (f : Nat → Int32) (hK : K ≤ 16) : Met l yX3_loneliest wsX3_loneliest rm_X3_loneliest (va_Pc [.ref h0] (kW dC dI cI cN [(h0, .inr (3, [.ref h1, .int (nI K)])), (h1, .inl (cI, 16, .inl f))])) (kR (P_loneliest K f)) 0 0 (fun _ => False) := by sorry
def L_isMutual_12 (K : Nat) (f : Nat → Int32) (one : Nat) (k : Int32) : Nat → Nat → Int32
  | 0, other => k
  | n + 1, other =>
    bd (P_isNear f (nI one) (nI other)) (fun isThere_1 =>
      if isThere_1 = (P_isNear f (nI other) (nI one)) then
        if isThere_1 = 0 then
          L_isMutual_12 K f one k n (other + 1)
        else
          if (nI one) = (nI other) then
            0
          else
            L_isMutual_12 K f one k n (other + 1)
      else
        0)
def L_isMutual_2 (K : Nat) (f : Nat → Int32) (k : Int32) : Nat → Nat → Int32
  | 0, one => k
  | n + 1, one =>
    L_isMutual_12 K f one (L_isMutual_2 K f k n (one + 1)) K 0
def P_isMutual (K : Nat) (f : Nat → Int32) : Int32 :=
  L_isMutual_2 K f (1) K 0
abbrev rm_X3_isMutual : Room := { frames := 2, cells := 0, slots := 0, locals := 43 }
theorem k_X3_isMutual (l : Launch) (dC : Nat → ClassId) (dI : Nat → Nat → Nat) (cI cN : ClassId) (h0 : Nat) (h1 : Nat) (K : Nat) (f : Nat → Int32) (hK : K ≤ 16) : Met l yX3_isMutual wsX3_isMutual rm_X3_isMutual (va_Pc [.ref h0] (kW dC dI cI cN [(h0, .inr (3, [.ref h1, .int (nI K)])), (h1, .inl (cI, 16, .inl f))])) (kR (P_isMutual K f)) 0 0 (fun _ => False) := by sorry
end
section
/-! paths (printed by wip/gen) -/
def L_around_7 (f : Nat → Int32) (set : Int32) (k : Int32 → Int32 → Int32) : Nat → Nat → Int32 → Int32 → Int32
  | 0, i, all, left => k all left
  | n + 1, i, all, left =>
    if left = 0 then
      k all left
    else
      bd (P_bitCount ((left &&& (-left)) - (1 : Int32))) (fun first_1 =>
        bd (all ||| (P_nearOf f first_1)) (fun all_2 =>
          bd (left &&& (left - (1 : Int32))) (fun left_3 =>
            L_around_7 f set k n (i + 1) all_2 left_3)))
def P_around (f : Nat → Int32) (set : Int32) : Int32 :=
  L_around_7 f set (fun all left => all) 16 0 0 set
abbrev rm_X5_around : Room := { frames := 1, cells := 0, slots := 0, locals := 21 }
theorem k_X5_around (l : Launch) (dC : Nat → ClassId) (dI : Nat → Nat → Nat) (cI cN : ClassId) (h0 : Nat) (h1 : Nat) (K : Nat) (f : Nat → Int32) (set : Int32) (hK : K ≤ 16) : Met l yX5_around wsX5_around rm_X5_around (va_Pc [.ref h0, .int set] (kW dC dI cI cN [(h0, .inr (3, [.ref h1, .int (nI K)])), (h1, .inl (cI, 16, .inl f))])) (kR (P_around f set)) 0 0 (fun _ => False) := by sorry
def L_within_11 (f : Nat → Int32) (knot : Int32) (edges : Int32) (k : Int32 → Int32 → Int32) : Nat → Nat → Int32 → Int32 → Int32
  | 0, i, seen, brink => k seen brink
  | n + 1, i, seen, brink =>
    if brink = 0 then
      k seen brink
    else
      bd ((P_around f brink) &&& (seen ^^^ (-1 : Int32))) (fun brink_1 =>
        bd (seen ||| brink_1) (fun seen_2 =>
          L_within_11 f knot edges k n (i + 1) seen_2 brink_1))
def P_within (f : Nat → Int32) (knot : Int32) (edges : Int32) : Int32 :=
  bd (P_bit knot) (fun seen_1 =>
    L_within_11 f knot edges (fun seen brink => seen) edges.toNatClampNeg 0 seen_1 seen_1)
abbrev rm_X5_within : Room := { frames := 2, cells := 0, slots := 0, locals := 46 }
theorem k_X5_within (l : Launch) (dC : Nat → ClassId) (dI : Nat → Nat → Nat) (cI cN : ClassId) (h0 : Nat) (h1 : Nat) (K : Nat) (f : Nat → Int32) (knot : Int32) (edges : Int32) (hK : K ≤ 16) : Met l yX5_within wsX5_within rm_X5_within (va_Pc [.ref h0, .int knot, .int edges] (kW dC dI cI cN [(h0, .inr (3, [.ref h1, .int (nI K)])), (h1, .inl (cI, 16, .inl f))])) (kR (P_within f knot edges)) 0 0 (fun _ => False) := by sorry
def P_partWith (f : Nat → Int32) (knot : Int32) : Int32 :=
  P_within f knot 16
abbrev rm_X5_partWith : Room := { frames := 3, cells := 0, slots := 0, locals := 71 }
theorem k_X5_partWith (l : Launch) (dC : Nat → ClassId) (dI : Nat → Nat → Nat) (cI cN : ClassId) (h0 : Nat) (h1 : Nat) (K : Nat) (f : Nat → Int32) (knot : Int32) (hK : K ≤ 16) : Met l yX5_partWith wsX5_partWith rm_X5_partWith (va_Pc [.ref h0, .int knot] (kW dC dI cI cN [(h0, .inr (3, [.ref h1, .int (nI K)])), (h1, .inl (cI, 16, .inl f))])) (kR (P_partWith f knot)) 0 0 (fun _ => False) := by sorry
def L_partsInAll_6 (K : Nat) (f : Nat → Int32) (k : Int32 → Int32 → Int32) : Nat → Nat → Int32 → Int32 → Int32
  | 0, i, parts, seen => k parts seen
  | n + 1, i, parts, seen =>
    if (P_holds seen (nI i)) = 0 then
      bd (seen ||| (P_partWith f (nI i))) (fun seen_1 =>
        L_partsInAll_6 K f k n (i + 1) (parts + 1) seen_1)
    else
      L_partsInAll_6 K f k n (i + 1) parts seen
def P_partsInAll (K : Nat) (f : Nat → Int32) : Int32 :=
  L_partsInAll_6 K f (fun parts seen => parts) K 0 0 0
abbrev rm_X5_partsInAll : Room := { frames := 4, cells := 0, slots := 0, locals := 92 }
theorem k_X5_partsInAll (l : Launch) (dC : Nat → ClassId) (dI : Nat → Nat → Nat) (cI cN : ClassId) (h0 : Nat) (h1 : Nat) (K : Nat) (f : Nat → Int32) (hK : K ≤ 16) : Met l yX5_partsInAll wsX5_partsInAll rm_X5_partsInAll (va_Pc [.ref h0] (kW dC dI cI cN [(h0, .inr (3, [.ref h1, .int (nI K)])), (h1, .inl (cI, 16, .inl f))])) (kR (P_partsInAll K f)) 0 0 (fun _ => False) := by sorry
def L_partNumber_7 (f : Nat → Int32) (knot : Int32) (k : Int32 → Int32 → Int32) : Nat → Nat → Int32 → Int32 → Int32
  | 0, first, number, seen => k number seen
  | n + 1, first, number, seen =>
    if (P_holds seen (nI first)) = 0 then
      bd (seen ||| (P_partWith f (nI first))) (fun seen_1 =>
        if (P_holds seen_1 knot) = 0 then
          L_partNumber_7 f knot k n (first + 1) (number + 1) seen_1
        else
          number)
    else
      L_partNumber_7 f knot k n (first + 1) number seen
def P_partNumber (f : Nat → Int32) (knot : Int32) : Int32 :=
  L_partNumber_7 f knot (fun number seen => number) knot.toNatClampNeg 0 0 0
abbrev rm_X5_partNumber : Room := { frames := 4, cells := 0, slots := 0, locals := 92 }
theorem k_X5_partNumber (l : Launch) (dC : Nat → ClassId) (dI : Nat → Nat → Nat) (cI cN : ClassId) (h0 : Nat) (h1 : Nat) (K : Nat) (f : Nat → Int32) (knot : Int32) (hK : K ≤ 16) : Met l yX5_partNumber wsX5_partNumber rm_X5_partNumber (va_Pc [.ref h0, .int knot] (kW dC dI cI cN [(h0, .inr (3, [.ref h1, .int (nI K)])), (h1, .inl (cI, 16, .inl f))])) (kR (P_partNumber f knot)) 0 0 (fun _ => False) := by sorry
def L_greatestDistance_10 (f : Nat → Int32) (knot : Int32) (k : Int32 → Int32 → Int32) : Nat → Nat → Int32 → Int32 → Int32
  | 0, edges, seen, brink => k seen brink
  | n + 1, edges, seen, brink =>
    bd ((P_around f brink) &&& (seen ^^^ (-1 : Int32))) (fun brink_1 =>
      if brink_1 = 0 then
        nI edges
      else
        bd (seen ||| brink_1) (fun seen_2 =>
          L_greatestDistance_10 f knot k n (edges + 1) seen_2 brink_1))
def P_greatestDistance (f : Nat → Int32) (knot : Int32) : Int32 :=
  bd (P_bit knot) (fun seen_1 =>
    L_greatestDistance_10 f knot (fun seen brink => 16) 16 0 seen_1 seen_1)
abbrev rm_X5_greatestDistance : Room := { frames := 2, cells := 0, slots := 0, locals := 46 }
theorem k_X5_greatestDistance (l : Launch) (dC : Nat → ClassId) (dI : Nat → Nat → Nat) (cI cN : ClassId) (h0 : Nat) (h1 : Nat) (K : Nat) (f : Nat → Int32) (knot : Int32) (hK : K ≤ 16) : Met l yX5_greatestDistance wsX5_greatestDistance rm_X5_greatestDistance (va_Pc [.ref h0, .int knot] (kW dC dI cI cN [(h0, .inr (3, [.ref h1, .int (nI K)])), (h1, .inl (cI, 16, .inl f))])) (kR (P_greatestDistance f knot)) 0 0 (fun _ => False) := by sorry
def L_width_14 (K : Nat) (f : Nat → Int32) (k : Int32 → Int32) : Nat → Nat → Int32 → Int32
  | 0, i, width => k width
  | n + 1, i, width =>
    bd (if width < (P_greatestDistance f (nI i)) then (P_greatestDistance f (nI i)) else width) (fun width_1 =>
      L_width_14 K f k n (i + 1) width_1)
def P_width (K : Nat) (f : Nat → Int32) : Int32 :=
  if (P_partsInAll K f) = (1 : Int32) then
    L_width_14 K f (fun width => width) K 0 0
  else
    (-1)
abbrev rm_X5_width : Room := { frames := 5, cells := 0, slots := 0, locals := 115 }
theorem k_X5_width (l : Launch) (dC : Nat → ClassId) (dI : Nat → Nat → Nat) (cI cN : ClassId) (h0 : Nat) (h1 : Nat) (K : Nat) (f : Nat → Int32) (hK : K ≤ 16) : Met l yX5_width wsX5_width rm_X5_width (va_Pc [.ref h0] (kW dC dI cI cN [(h0, .inr (3, [.ref h1, .int (nI K)])), (h1, .inl (cI, 16, .inl f))])) (kR (P_width K f)) 0 0 (fun _ => False) := by sorry
def L_leastRingBy_22 (f : Nat → Int32) (one : Int32) (other : Int32) (k : Int32 → Int32 → Int32) : Nat → Nat → Int32 → Int32 → Int32
  | 0, length, seen, brink => k seen brink
  | n + 1, length, seen, brink =>
    if brink = 0 then
      k seen brink
    else
      bd (seen ||| brink) (fun seen_1 =>
        bd ((P_around f brink) &&& (seen_1 ^^^ (-1 : Int32))) (fun brink_2 =>
          if (P_holds brink_2 other) = 0 then
            L_leastRingBy_22 f one other k n (length + 1) seen_1 brink_2
          else
            nI length))
def P_leastRingBy (f : Nat → Int32) (one : Int32) (other : Int32) : Int32 :=
  bd (P_bit one) (fun seen_1 =>
    bd ((P_nearOf f one) &&& ((P_bit other) ^^^ (-1 : Int32))) (fun brink_2 =>
      L_leastRingBy_22 f one other (fun seen brink => (-1)) (17 - 3) 3 seen_1 brink_2))
abbrev rm_X5_leastRingBy : Room := { frames := 2, cells := 0, slots := 0, locals := 46 }
theorem k_X5_leastRingBy (l : Launch) (dC : Nat → ClassId) (dI : Nat → Nat → Nat) (cI cN : ClassId) (h0 : Nat) (h1 : Nat) (K : Nat) (f : Nat → Int32) (one : Int32) (other : Int32) (hK : K ≤ 16) : Met l yX5_leastRingBy wsX5_leastRingBy rm_X5_leastRingBy (va_Pc [.ref h0, .int one, .int other] (kW dC dI cI cN [(h0, .inr (3, [.ref h1, .int (nI K)])), (h1, .inl (cI, 16, .inl f))])) (kR (P_leastRingBy f one other)) 0 0 (fun _ => False) := by sorry
def L_leastRingAt_4 (K : Nat) (f : Nat → Int32) (knot : Int32) (k : Int32 → Int32) : Nat → Nat → Int32 → Int32
  | 0, other, least => k least
  | n + 1, other, least =>
    if (P_isNear f knot (nI other)) = 0 then
      L_leastRingAt_4 K f knot k n (other + 1) least
    else
      bd (P_lesser least (P_leastRingBy f knot (nI other))) (fun least_1 =>
        L_leastRingAt_4 K f knot k n (other + 1) least_1)
def P_leastRingAt (K : Nat) (f : Nat → Int32) (knot : Int32) : Int32 :=
  L_leastRingAt_4 K f knot (fun least => least) K 0 (-1)
abbrev rm_X5_leastRingAt : Room := { frames := 3, cells := 0, slots := 0, locals := 71 }
theorem k_X5_leastRingAt (l : Launch) (dC : Nat → ClassId) (dI : Nat → Nat → Nat) (cI cN : ClassId) (h0 : Nat) (h1 : Nat) (K : Nat) (f : Nat → Int32) (knot : Int32) (hK : K ≤ 16) : Met l yX5_leastRingAt wsX5_leastRingAt rm_X5_leastRingAt (va_Pc [.ref h0, .int knot] (kW dC dI cI cN [(h0, .inr (3, [.ref h1, .int (nI K)])), (h1, .inl (cI, 16, .inl f))])) (kR (P_leastRingAt K f knot)) 0 0 (fun _ => False) := by sorry
def L_leastRing_4 (K : Nat) (f : Nat → Int32) (k : Int32 → Int32) : Nat → Nat → Int32 → Int32
  | 0, i, least => k least
  | n + 1, i, least =>
    bd (P_lesser least (P_leastRingAt K f (nI i))) (fun least_1 =>
      L_leastRing_4 K f k n (i + 1) least_1)
def P_leastRing (K : Nat) (f : Nat → Int32) : Int32 :=
  L_leastRing_4 K f (fun least => least) K 0 (-1)
abbrev rm_X5_leastRing : Room := { frames := 4, cells := 0, slots := 0, locals := 94 }
theorem k_X5_leastRing (l : Launch) (dC : Nat → ClassId) (dI : Nat → Nat → Nat) (cI cN : ClassId) (h0 : Nat) (h1 : Nat) (K : Nat) (f : Nat → Int32) (hK : K ≤ 16) : Met l yX5_leastRing wsX5_leastRing rm_X5_leastRing (va_Pc [.ref h0] (kW dC dI cI cN [(h0, .inr (3, [.ref h1, .int (nI K)])), (h1, .inl (cI, 16, .inl f))])) (kR (P_leastRing K f)) 0 0 (fun _ => False) := by sorry
end
section
/-! the ledger: what is asked of it (printed by wip/gen) -/
def L_leastKnots_12 (count : Int32) (length : Int32) (k : Int32 → Int32 → Int32 → Int32) : Nat → Nat → Int32 → Int32 → Int32 → Int32
  | 0, i, power, sum, powers => k power sum powers
  | n + 1, i, power, sum, powers =>
    bd (sum + power) (fun sum_1 =>
      bd (power * (count - (1 : Int32))) (fun power_2 =>
        L_leastKnots_12 count length k n (i + 1) power_2 sum_1 powers))
def P_leastKnots (count : Int32) (length : Int32) : Int32 :=
  bd (length / (2 : Int32)) (fun powers_1 =>
    L_leastKnots_12 count length (fun power sum powers => if (length - length / (2 : Int32) * (2 : Int32)) = (1 : Int32) then (1 : Int32) + (count * sum) else (2 : Int32) * sum) powers_1.toNatClampNeg 0 1 0 powers_1)
abbrev rm_X1_leastKnots : Room := { frames := 0, cells := 0, slots := 0, locals := 0 }
theorem k_X1_leastKnots (l : Launch) (dC : Nat → ClassId) (dI : Nat → Nat → Nat) (cI cN : ClassId) (count : Int32) (length : Int32) : Met l yX1_leastKnots wsX1_leastKnots rm_X1_leastKnots (va_Pc [.int count, .int length] (kW dC dI cI cN [])) (kR (P_leastKnots count length)) 0 0 (fun _ => False) := by sorry
def P_proofPlace (knots : Int32) (count : Int32) : Int32 :=
  if (P_isWithin knots 0 16) = 0 then
    bd ((knots * (6 : Int32)) + count) (fun place_2 =>
      (-1))
  else
    if (P_isWithin count 2 5) = 0 then
      bd ((knots * (6 : Int32)) + count) (fun place_5 =>
        (-1))
    else
      bd ((knots * (6 : Int32)) + count) (fun place_7 =>
        if place_7 < 0 then
          (-1)
        else
          if (102 : Int32) ≤ place_7 then
            (-1)
          else
            place_7)
abbrev rm_X1_proofPlace : Room := { frames := 1, cells := 0, slots := 0, locals := 22 }
theorem k_X1_proofPlace (l : Launch) (dC : Nat → ClassId) (dI : Nat → Nat → Nat) (cI cN : ClassId) (q0 : Nat) (q1 : Nat) (q2 : Nat) (g : Nat → Int32) (t : Nat → Int32) (knots : Int32) (count : Int32) : Met l yX1_proofPlace wsX1_proofPlace rm_X1_proofPlace (va_Pc [.ref q0, .int knots, .int count] (kW dC dI cI cN [(q0, .inr (1, [.ref q1, .ref q2])), (q1, .inl (cI, 102, .inl g)), (q2, .inl (cI, 54, .inl t))])) (kR (P_proofPlace knots count)) 0 0 (fun _ => False) := by sorry
theorem P_proofPlace_or (knots : Int32) (count : Int32) : ∀ y, P_proofPlace knots count = y → y = -1 ∨ vp_in y 102 := by sorry
theorem P_proofPlace_in {knots : Int32} {count : Int32} {x : Int32} (e : x = P_proofPlace knots count) (h : ¬ x = -1) : vp_in x 102 := (P_proofPlace_or knots count x e.symm).resolve_left h
def P_isProved (g : Nat → Int32) (knots : Int32) (count : Int32) (length : Int32) : Int32 :=
  bd (P_proofPlace knots count) (fun place_1 =>
    if place_1 = (-1 : Int32) then
      0
    else
      bd (g (place_1).toNatClampNeg) (fun least_3 =>
        if least_3 ≤ 0 then
          0
        else
          if length < least_3 then
            0
          else
            1))
abbrev rm_X1_isProved : Room := { frames := 2, cells := 0, slots := 0, locals := 46 }
theorem k_X1_isProved (l : Launch) (dC : Nat → ClassId) (dI : Nat → Nat → Nat) (cI cN : ClassId) (q0 : Nat) (q1 : Nat) (q2 : Nat) (g : Nat → Int32) (t : Nat → Int32) (knots : Int32) (count : Int32) (length : Int32) : Met l yX1_isProved wsX1_isProved rm_X1_isProved (va_Pc [.ref q0, .int knots, .int count, .int length] (kW dC dI cI cN [(q0, .inr (1, [.ref q1, .ref q2])), (q1, .inl (cI, 102, .inl g)), (q2, .inl (cI, 54, .inl t))])) (kR (P_isProved g knots count length)) 0 0 (fun _ => False) := by sorry
theorem P_isProved_b (g : Nat → Int32) (knots count length : Int32) : P_isProved g knots count length = 0 ∨ P_isProved g knots count length = 1 := by sorry
def P_why (g : Nat → Int32) (knots : Int32) (count : Int32) (length : Int32) : Int32 :=
  if (knots - knots / (2 : Int32) * (2 : Int32)) = (1 : Int32) then
    if (count - count / (2 : Int32) * (2 : Int32)) = (1 : Int32) then
      1
    else
      if (P_leastKnots count length) ≤ knots then
        if (P_isProved g knots count length) = 0 then
          0
        else
          3
      else
        2
  else
    if (P_leastKnots count length) ≤ knots then
      if (P_isProved g knots count length) = 0 then
        0
      else
        3
    else
      2
abbrev rm_X1_why : Room := { frames := 3, cells := 0, slots := 0, locals := 71 }
theorem k_X1_why (l : Launch) (dC : Nat → ClassId) (dI : Nat → Nat → Nat) (cI cN : ClassId) (q0 : Nat) (q1 : Nat) (q2 : Nat) (g : Nat → Int32) (t : Nat → Int32) (knots : Int32) (count : Int32) (length : Int32) : Met l yX1_why wsX1_why rm_X1_why (va_Pc [.ref q0, .int knots, .int count, .int length] (kW dC dI cI cN [(q0, .inr (1, [.ref q1, .ref q2])), (q1, .inl (cI, 102, .inl g)), (q2, .inl (cI, 54, .inl t))])) (kR (P_why g knots count length)) 0 0 (fun _ => False) := by sorry
def P_tablePlace (count : Int32) (length : Int32) : Int32 :=
  if (P_isWithin count 2 5) = 0 then
    bd ((count * (9 : Int32)) + length) (fun place_2 =>
      (-1))
  else
    if (P_isWithin length 3 8) = 0 then
      bd ((count * (9 : Int32)) + length) (fun place_5 =>
        (-1))
    else
      bd ((count * (9 : Int32)) + length) (fun place_7 =>
        if place_7 < 0 then
          (-1)
        else
          if (54 : Int32) ≤ place_7 then
            (-1)
          else
            place_7)
abbrev rm_X1_tablePlace : Room := { frames := 1, cells := 0, slots := 0, locals := 22 }
theorem k_X1_tablePlace (l : Launch) (dC : Nat → ClassId) (dI : Nat → Nat → Nat) (cI cN : ClassId) (q0 : Nat) (q1 : Nat) (q2 : Nat) (g : Nat → Int32) (t : Nat → Int32) (count : Int32) (length : Int32) : Met l yX1_tablePlace wsX1_tablePlace rm_X1_tablePlace (va_Pc [.ref q0, .int count, .int length] (kW dC dI cI cN [(q0, .inr (1, [.ref q1, .ref q2])), (q1, .inl (cI, 102, .inl g)), (q2, .inl (cI, 54, .inl t))])) (kR (P_tablePlace count length)) 0 0 (fun _ => False) := by sorry
theorem P_tablePlace_or (count : Int32) (length : Int32) : ∀ y, P_tablePlace count length = y → y = -1 ∨ vp_in y 54 := by sorry
theorem P_tablePlace_in {count : Int32} {length : Int32} {x : Int32} (e : x = P_tablePlace count length) (h : ¬ x = -1) : vp_in x 54 := (P_tablePlace_or count length x e.symm).resolve_left h
def P_smallestOf (t : Nat → Int32) (count : Int32) (length : Int32) : Int32 :=
  bd (P_tablePlace count length) (fun place_1 =>
    if place_1 = (-1 : Int32) then
      (-1)
    else
      if (t (place_1).toNatClampNeg) = 0 then
        (-1)
      else
        t (place_1).toNatClampNeg)
abbrev rm_X1_smallestOf : Room := { frames := 2, cells := 0, slots := 0, locals := 46 }
theorem k_X1_smallestOf (l : Launch) (dC : Nat → ClassId) (dI : Nat → Nat → Nat) (cI cN : ClassId) (q0 : Nat) (q1 : Nat) (q2 : Nat) (g : Nat → Int32) (t : Nat → Int32) (count : Int32) (length : Int32) : Met l yX1_smallestOf wsX1_smallestOf rm_X1_smallestOf (va_Pc [.ref q0, .int count, .int length] (kW dC dI cI cN [(q0, .inr (1, [.ref q1, .ref q2])), (q1, .inl (cI, 102, .inl g)), (q2, .inl (cI, 54, .inl t))])) (kR (P_smallestOf t count length)) 0 0 (fun _ => False) := by sorry
def L_nextOf_2 (g : Nat → Int32) (count : Int32) (length : Int32) (k : Int32) : Nat → Nat → Int32
  | 0, knots => k
  | n + 1, knots =>
    if (P_why g (nI knots) count length) = 0 then
      nI knots
    else
      L_nextOf_2 g count length k n (knots + 1)
def P_nextOf (g : Nat → Int32) (count : Int32) (length : Int32) : Int32 :=
  L_nextOf_2 g count length ((-1)) (1000 - 3) 3
abbrev rm_X1_nextOf : Room := { frames := 4, cells := 0, slots := 0, locals := 94 }
theorem k_X1_nextOf (l : Launch) (dC : Nat → ClassId) (dI : Nat → Nat → Nat) (cI cN : ClassId) (q0 : Nat) (q1 : Nat) (q2 : Nat) (g : Nat → Int32) (t : Nat → Int32) (count : Int32) (length : Int32) : Met l yX1_nextOf wsX1_nextOf rm_X1_nextOf (va_Pc [.ref q0, .int count, .int length] (kW dC dI cI cN [(q0, .inr (1, [.ref q1, .ref q2])), (q1, .inl (cI, 102, .inl g)), (q2, .inl (cI, 54, .inl t))])) (kR (P_nextOf g count length)) 0 0 (fun _ => False) := by sorry
def L_isTableSound_9 (g : Nat → Int32) (t : Nat → Int32) (count : Nat) (k : Int32) : Nat → Nat → Int32
  | 0, length => k
  | n + 1, length =>
    bd (P_smallestOf t (nI count) (nI length)) (fun knots_1 =>
      if knots_1 = (-1 : Int32) then
        L_isTableSound_9 g t count k n (length + 1)
      else
        if (P_why g knots_1 (nI count) (nI length)) = 0 then
          if (P_nextOf g (nI count) (nI length)) ≤ knots_1 then
            L_isTableSound_9 g t count k n (length + 1)
          else
            0
        else
          0)
def L_isTableSound_2 (g : Nat → Int32) (t : Nat → Int32) (k : Int32) : Nat → Nat → Int32
  | 0, count => k
  | n + 1, count =>
    L_isTableSound_9 g t count (L_isTableSound_2 g t k n (count + 1)) (9 - 3) 3
def P_isTableSound (g : Nat → Int32) (t : Nat → Int32) : Int32 :=
  L_isTableSound_2 g t (1) (6 - 2) 2
abbrev rm_X1_isTableSound : Room := { frames := 5, cells := 0, slots := 0, locals := 117 }
theorem k_X1_isTableSound (l : Launch) (dC : Nat → ClassId) (dI : Nat → Nat → Nat) (cI cN : ClassId) (q0 : Nat) (q1 : Nat) (q2 : Nat) (g : Nat → Int32) (t : Nat → Int32) : Met l yX1_isTableSound wsX1_isTableSound rm_X1_isTableSound (va_Pc [.ref q0] (kW dC dI cI cN [(q0, .inr (1, [.ref q1, .ref q2])), (q1, .inl (cI, 102, .inl g)), (q2, .inl (cI, 54, .inl t))])) (kR (P_isTableSound g t)) 0 0 (fun _ => False) := by sorry
end
section
/-! a net that is changed (printed by wip/gen) -/
def L_lay_7  (k : (Nat → Int32) → Nat → Int32) : Nat → Nat → (Nat → Int32) → Nat → Int32
  | 0, i, g => k g
  | n + 1, i, g =>
    L_lay_7 k n (i + 1) (upd g i (0 : Int32))
def P_lay (f : Nat → Int32) : Nat → Int32 :=
  L_lay_7 (fun g => g) 16 0 f
abbrev rm_X3_lay : Room := { frames := 0, cells := 0, slots := 0, locals := 0 }
theorem k_X3_lay (l : Launch) (dC : Nat → ClassId) (dI : Nat → Nat → Nat) (cI cN : ClassId) (h0 : Nat) (h1 : Nat) (K : Nat) (f : Nat → Int32) (M : Nat) (sz : Nat) : Met l yX3_lay wsX3_lay rm_X3_lay (va_Pc [.ref h0, .int (nI M)] (kU dC dI cI cN [(h0, .inr (3, [.ref h1, .int (nI K)])), (h1, .inl (cI, 16, .inl f))] sz)) (kV dC dI [(h0, .inr (3, [.ref h1, .int (nI M)])), (h1, .inl (cI, 16, .inl ((P_lay f))))] (va_A [(h0, .inr (3, [.ref h1, .int (nI K)])), (h1, .inl (cI, 16, .inl f))] sz)) 0 0 (va_A [(h0, .inr (3, [.ref h1, .int (nI K)])), (h1, .inl (cI, 16, .inl f))] sz) := by sorry
def L_take_10 (g : Nat → Int32) (k : (Nat → Int32) → Nat → Int32) : Nat → Nat → (Nat → Int32) → Nat → Int32
  | 0, i, a => k a
  | n + 1, i, a =>
    L_take_10 g k n (i + 1) (upd a i (P_nearOf g (nI i)))
def P_take (f g : Nat → Int32) : Nat → Int32 :=
  L_take_10 g (fun a => a) 16 0 f
abbrev rm_X3_take : Room := { frames := 1, cells := 0, slots := 0, locals := 21 }
theorem k_X3_take (l : Launch) (dC : Nat → ClassId) (dI : Nat → Nat → Nat) (cI cN : ClassId) (h0 : Nat) (h1 : Nat) (K : Nat) (f : Nat → Int32) (o0 : Nat) (o1 : Nat) (J : Nat) (g : Nat → Int32) (hJ : J ≤ 16) (sz : Nat) : Met l yX3_take wsX3_take rm_X3_take (va_Pc [.ref h0, .ref o0] (kU dC dI cI cN [(h0, .inr (3, [.ref h1, .int (nI K)])), (h1, .inl (cI, 16, .inl f)), (o0, .inr (3, [.ref o1, .int (nI J)])), (o1, .inl (cI, 16, .inl g))] sz)) (kV dC dI [(h0, .inr (3, [.ref h1, .int (nI J)])), (h1, .inl (cI, 16, .inl ((P_take f g)))), (o0, .inr (3, [.ref o1, .int (nI J)])), (o1, .inl (cI, 16, .inl g))] (va_A [(h0, .inr (3, [.ref h1, .int (nI K)])), (h1, .inl (cI, 16, .inl f)), (o0, .inr (3, [.ref o1, .int (nI J)])), (o1, .inl (cI, 16, .inl g))] sz)) 0 0 (va_A [(h0, .inr (3, [.ref h1, .int (nI K)])), (h1, .inl (cI, 16, .inl f)), (o0, .inr (3, [.ref o1, .int (nI J)])), (o1, .inl (cI, 16, .inl g))] sz) := by sorry
def P_join (K : Nat) (f : Nat → Int32) (one other : Int32) : Nat → Int32 :=
  if (P_isKnot K one) = 0 then
    f
  else
    if (P_isKnot K other) = 0 then
      f
    else
      if one = other then
        f
      else
        bd (upd f (one).toNatClampNeg ((f (one).toNatClampNeg) ||| (P_bit other))) (fun f_4 =>
          bd (upd f_4 (other).toNatClampNeg ((f_4 (other).toNatClampNeg) ||| (P_bit one))) (fun f_5 =>
            f_5))
abbrev rm_X3_join : Room := { frames := 1, cells := 0, slots := 0, locals := 21 }
theorem k_X3_join (l : Launch) (dC : Nat → ClassId) (dI : Nat → Nat → Nat) (cI cN : ClassId) (h0 : Nat) (h1 : Nat) (K : Nat) (f : Nat → Int32) (one : Int32) (other : Int32) (hK : K ≤ 16) (sz : Nat) : Met l yX3_join wsX3_join rm_X3_join (va_Pc [.ref h0, .int one, .int other] (kU dC dI cI cN [(h0, .inr (3, [.ref h1, .int (nI K)])), (h1, .inl (cI, 16, .inl f))] sz)) (kV dC dI [(h0, .inr (3, [.ref h1, .int (nI K)])), (h1, .inl (cI, 16, .inl ((P_join K f one other))))] (va_A [(h0, .inr (3, [.ref h1, .int (nI K)])), (h1, .inl (cI, 16, .inl f))] sz)) 0 0 (va_A [(h0, .inr (3, [.ref h1, .int (nI K)])), (h1, .inl (cI, 16, .inl f))] sz) := by sorry
def P_loosen (K : Nat) (f : Nat → Int32) (one other : Int32) : Nat → Int32 :=
  if (P_isKnot K one) = 0 then
    f
  else
    if (P_isKnot K other) = 0 then
      f
    else
      bd (upd f (one).toNatClampNeg ((f (one).toNatClampNeg) &&& ((P_bit other) ^^^ (-1 : Int32)))) (fun f_3 =>
        bd (upd f_3 (other).toNatClampNeg ((f_3 (other).toNatClampNeg) &&& ((P_bit one) ^^^ (-1 : Int32)))) (fun f_4 =>
          f_4))
abbrev rm_X3_loosen : Room := { frames := 1, cells := 0, slots := 0, locals := 21 }
theorem k_X3_loosen (l : Launch) (dC : Nat → ClassId) (dI : Nat → Nat → Nat) (cI cN : ClassId) (h0 : Nat) (h1 : Nat) (K : Nat) (f : Nat → Int32) (one : Int32) (other : Int32) (hK : K ≤ 16) (sz : Nat) : Met l yX3_loosen wsX3_loosen rm_X3_loosen (va_Pc [.ref h0, .int one, .int other] (kU dC dI cI cN [(h0, .inr (3, [.ref h1, .int (nI K)])), (h1, .inl (cI, 16, .inl f))] sz)) (kV dC dI [(h0, .inr (3, [.ref h1, .int (nI K)])), (h1, .inl (cI, 16, .inl ((P_loosen K f one other))))] (va_A [(h0, .inr (3, [.ref h1, .int (nI K)])), (h1, .inl (cI, 16, .inl f))] sz)) 0 0 (va_A [(h0, .inr (3, [.ref h1, .int (nI K)])), (h1, .inl (cI, 16, .inl f))] sz) := by sorry
end
section
/-! the hunt: what is asked of it (printed by wip/gen) -/
def L_needy_4 (K : Nat) (f : Nat → Int32) (cnt : Int32) (k : Int32 → Int32) : Nat → Nat → Int32 → Int32
  | 0, i, set => k set
  | n + 1, i, set =>
    if cnt ≤ (P_countOf f (nI i)) then
      L_needy_4 K f cnt k n (i + 1) set
    else
      bd (set ||| (P_bit (nI i))) (fun set_1 =>
        L_needy_4 K f cnt k n (i + 1) set_1)
def P_needy (K : Nat) (f : Nat → Int32) (cnt : Int32) : Int32 :=
  L_needy_4 K f cnt (fun set => set) K 0 0
abbrev rm_X0_needy : Room := { frames := 2, cells := 0, slots := 0, locals := 42 }
theorem k_X0_needy (l : Launch) (dC : Nat → ClassId) (dI : Nat → Nat → Nat) (cI cN : ClassId) (a0 : Nat) (a1 : Nat) (a2 : Nat) (a3 : Nat) (a4 : Nat) (isOn : Int32) (cnt : Int32) (len : Int32) (stp : Int32) (sta : Int32) (pm : Int32) (bm : Int32) (bw : Nat → Int32) (bars : Nat → Int32) (puts : Nat → Int32) (bap : Nat → Int32) (h0 : Nat) (h1 : Nat) (K : Nat) (f : Nat → Int32) (hK : K ≤ 16) : Met l yX0_needy wsX0_needy rm_X0_needy (va_Pc [.ref a0, .ref h0] (kW dC dI cI cN [(a0, .inr (0, [.ref a1, .ref a2, .ref a3, .ref a4, .int isOn, .int cnt, .int len, .int stp, .int sta, .int pm, .int bm])), (a1, .inl (cI, 16, .inl bw)), (a2, .inl (cI, 120, .inl bars)), (a3, .inl (cI, 40, .inl puts)), (a4, .inl (cI, 40, .inl bap)), (h0, .inr (3, [.ref h1, .int (nI K)])), (h1, .inl (cI, 16, .inl f))])) (kR (P_needy K f cnt)) 0 0 (fun _ => False) := by sorry
def P_joinableOf (f : Nat → Int32) (bw : Nat → Int32) (len : Int32) (knot : Int32) (needy : Int32) : Int32 :=
  if (P_holds needy knot) = 0 then
    0
  else
    if knot < 0 then
      0
    else
      if knot < (16 : Int32) then
        (needy &&& ((P_within f knot (len - (2 : Int32))) ^^^ (-1 : Int32))) &&& ((bw (knot).toNatClampNeg) ^^^ (-1 : Int32))
      else
        0
abbrev rm_X0_joinableOf : Room := { frames := 3, cells := 0, slots := 0, locals := 71 }
theorem k_X0_joinableOf (l : Launch) (dC : Nat → ClassId) (dI : Nat → Nat → Nat) (cI cN : ClassId) (a0 : Nat) (a1 : Nat) (a2 : Nat) (a3 : Nat) (a4 : Nat) (isOn : Int32) (cnt : Int32) (len : Int32) (stp : Int32) (sta : Int32) (pm : Int32) (bm : Int32) (bw : Nat → Int32) (bars : Nat → Int32) (puts : Nat → Int32) (bap : Nat → Int32) (h0 : Nat) (h1 : Nat) (K : Nat) (f : Nat → Int32) (knot : Int32) (needy : Int32) (hK : K ≤ 16) : Met l yX0_joinableOf wsX0_joinableOf rm_X0_joinableOf (va_Pc [.ref a0, .ref h0, .int knot, .int needy] (kW dC dI cI cN [(a0, .inr (0, [.ref a1, .ref a2, .ref a3, .ref a4, .int isOn, .int cnt, .int len, .int stp, .int sta, .int pm, .int bm])), (a1, .inl (cI, 16, .inl bw)), (a2, .inl (cI, 120, .inl bars)), (a3, .inl (cI, 40, .inl puts)), (a4, .inl (cI, 40, .inl bap)), (h0, .inr (3, [.ref h1, .int (nI K)])), (h1, .inl (cI, 16, .inl f))])) (kR (P_joinableOf f bw len knot needy)) 0 0 (fun _ => False) := by sorry
def P_joinable (K : Nat) (f : Nat → Int32) (bw : Nat → Int32) (isOn : Int32) (cnt : Int32) (len : Int32) (knot : Int32) : Int32 :=
  if isOn = 0 then
    0
  else
    P_joinableOf f bw len knot (P_needy K f cnt)
abbrev rm_X0_joinable : Room := { frames := 4, cells := 0, slots := 0, locals := 94 }
theorem k_X0_joinable (l : Launch) (dC : Nat → ClassId) (dI : Nat → Nat → Nat) (cI cN : ClassId) (a0 : Nat) (a1 : Nat) (a2 : Nat) (a3 : Nat) (a4 : Nat) (isOn : Int32) (cnt : Int32) (len : Int32) (stp : Int32) (sta : Int32) (pm : Int32) (bm : Int32) (bw : Nat → Int32) (bars : Nat → Int32) (puts : Nat → Int32) (bap : Nat → Int32) (h0 : Nat) (h1 : Nat) (K : Nat) (f : Nat → Int32) (knot : Int32) (hK : K ≤ 16) : Met l yX0_joinable wsX0_joinable rm_X0_joinable (va_Pc [.ref a0, .ref h0, .int knot] (kW dC dI cI cN [(a0, .inr (0, [.ref a1, .ref a2, .ref a3, .ref a4, .int isOn, .int cnt, .int len, .int stp, .int sta, .int pm, .int bm])), (a1, .inl (cI, 16, .inl bw)), (a2, .inl (cI, 120, .inl bars)), (a3, .inl (cI, 40, .inl puts)), (a4, .inl (cI, 40, .inl bap)), (h0, .inr (3, [.ref h1, .int (nI K)])), (h1, .inl (cI, 16, .inl f))])) (kR (P_joinable K f bw isOn cnt len knot)) 0 0 (fun _ => False) := by sorry
def L_nextKnot_24 (K : Nat) (f : Nat → Int32) (bw : Nat → Int32) (cnt : Int32) (len : Int32) (sta : Int32) (k : Int32 → Int32 → Int32 → Int32) : Nat → Nat → Int32 → Int32 → Int32 → Int32
  | 0, i, needy, best, fewest => k needy best fewest
  | n + 1, i, needy, best, fewest =>
    if (P_holds needy (nI i)) = 0 then
      L_nextKnot_24 K f bw cnt len sta k n (i + 1) needy best fewest
    else
      bd (P_bitCount (P_joinableOf f bw len (nI i) needy)) (fun many_1 =>
        if fewest ≤ many_1 then
          L_nextKnot_24 K f bw cnt len sta k n (i + 1) needy best fewest
        else
          L_nextKnot_24 K f bw cnt len sta k n (i + 1) needy (nI i) many_1)
def P_nextKnot (K : Nat) (f : Nat → Int32) (bw : Nat → Int32) (cnt : Int32) (len : Int32) (sta : Int32) : Int32 :=
  if sta = 0 then
    bd (P_needy K f cnt) (fun needy_2 =>
      L_nextKnot_24 K f bw cnt len sta (fun needy best fewest => best) K 0 needy_2 (-1) 16)
  else
    (-1)
abbrev rm_X0_nextKnot : Room := { frames := 4, cells := 0, slots := 0, locals := 94 }
theorem k_X0_nextKnot (l : Launch) (dC : Nat → ClassId) (dI : Nat → Nat → Nat) (cI cN : ClassId) (a0 : Nat) (a1 : Nat) (a2 : Nat) (a3 : Nat) (a4 : Nat) (isOn : Int32) (cnt : Int32) (len : Int32) (stp : Int32) (sta : Int32) (pm : Int32) (bm : Int32) (bw : Nat → Int32) (bars : Nat → Int32) (puts : Nat → Int32) (bap : Nat → Int32) (h0 : Nat) (h1 : Nat) (K : Nat) (f : Nat → Int32) (hK : K ≤ 16) : Met l yX0_nextKnot wsX0_nextKnot rm_X0_nextKnot (va_Pc [.ref a0, .ref h0] (kW dC dI cI cN [(a0, .inr (0, [.ref a1, .ref a2, .ref a3, .ref a4, .int isOn, .int cnt, .int len, .int stp, .int sta, .int pm, .int bm])), (a1, .inl (cI, 16, .inl bw)), (a2, .inl (cI, 120, .inl bars)), (a3, .inl (cI, 40, .inl puts)), (a4, .inl (cI, 40, .inl bap)), (h0, .inr (3, [.ref h1, .int (nI K)])), (h1, .inl (cI, 16, .inl f))])) (kR (P_nextKnot K f bw cnt len sta)) 0 0 (fun _ => False) := by sorry
def P_partnerOf (K : Nat) (f : Nat → Int32) (bw : Nat → Int32) (cnt : Int32) (len : Int32) (knot : Int32) : Int32 :=
  if knot = (-1 : Int32) then
    (-1)
  else
    bd (P_joinableOf f bw len knot (P_needy K f cnt)) (fun open__2 =>
      bd (cnt - (P_countOf f knot)) (fun needed_3 =>
        if (P_bitCount open__2) < needed_3 then
          (-1)
        else
          P_firstOf open__2))
abbrev rm_X0_partnerOf : Room := { frames := 4, cells := 0, slots := 0, locals := 94 }
theorem k_X0_partnerOf (l : Launch) (dC : Nat → ClassId) (dI : Nat → Nat → Nat) (cI cN : ClassId) (a0 : Nat) (a1 : Nat) (a2 : Nat) (a3 : Nat) (a4 : Nat) (isOn : Int32) (cnt : Int32) (len : Int32) (stp : Int32) (sta : Int32) (pm : Int32) (bm : Int32) (bw : Nat → Int32) (bars : Nat → Int32) (puts : Nat → Int32) (bap : Nat → Int32) (h0 : Nat) (h1 : Nat) (K : Nat) (f : Nat → Int32) (knot : Int32) (hK : K ≤ 16) : Met l yX0_partnerOf wsX0_partnerOf rm_X0_partnerOf (va_Pc [.ref a0, .ref h0, .int knot] (kW dC dI cI cN [(a0, .inr (0, [.ref a1, .ref a2, .ref a3, .ref a4, .int isOn, .int cnt, .int len, .int stp, .int sta, .int pm, .int bm])), (a1, .inl (cI, 16, .inl bw)), (a2, .inl (cI, 120, .inl bars)), (a3, .inl (cI, 40, .inl puts)), (a4, .inl (cI, 40, .inl bap)), (h0, .inr (3, [.ref h1, .int (nI K)])), (h1, .inl (cI, 16, .inl f))])) (kR (P_partnerOf K f bw cnt len knot)) 0 0 (fun _ => False) := by sorry
end
section
/-! the hunt that is changed (printed by wip/gen) -/
def P_flipBar (bw : Nat → Int32) (one : Int32) (other : Int32) : Nat → Int32 :=
  if one < 0 then
    bw
  else
    if (16 : Int32) ≤ one then
      bw
    else
      if other < 0 then
        bw
      else
        if (16 : Int32) ≤ other then
          bw
        else
          bd (upd bw (one).toNatClampNeg ((bw (one).toNatClampNeg) ^^^ (P_bit other))) (fun bw_5 =>
            bd (upd bw_5 (other).toNatClampNeg ((bw_5 (other).toNatClampNeg) ^^^ (P_bit one))) (fun bw_6 =>
              bw_6))
abbrev rm_X0_flipBar : Room := { frames := 1, cells := 0, slots := 0, locals := 20 }
theorem k_X0_flipBar (l : Launch) (dC : Nat → ClassId) (dI : Nat → Nat → Nat) (cI cN : ClassId) (a0 : Nat) (a1 : Nat) (a2 : Nat) (a3 : Nat) (a4 : Nat) (isOn : Int32) (cnt : Int32) (len : Int32) (stp : Int32) (sta : Int32) (pm : Int32) (bm : Int32) (bw : Nat → Int32) (one : Int32) (other : Int32) (sz : Nat) : Met l yX0_flipBar wsX0_flipBar rm_X0_flipBar (va_Pc [.ref a0, .int one, .int other] (kU dC dI cI cN [(a0, .inr (0, [.ref a1, .ref a2, .ref a3, .ref a4, .int isOn, .int cnt, .int len, .int stp, .int sta, .int pm, .int bm])), (a1, .inl (cI, 16, .inl bw))] sz)) (kV dC dI [(a0, .inr (0, [.ref a1, .ref a2, .ref a3, .ref a4, .int isOn, .int cnt, .int len, .int stp, .int sta, .int pm, .int bm])), (a1, .inl (cI, 16, .inl ((P_flipBar bw one other))))] (va_A [(a0, .inr (0, [.ref a1, .ref a2, .ref a3, .ref a4, .int isOn, .int cnt, .int len, .int stp, .int sta, .int pm, .int bm])), (a1, .inl (cI, 16, .inl bw))] sz)) 0 0 (va_A [(a0, .inr (0, [.ref a1, .ref a2, .ref a3, .ref a4, .int isOn, .int cnt, .int len, .int stp, .int sta, .int pm, .int bm])), (a1, .inl (cI, 16, .inl bw))] sz) := by sorry
def P_bar (bw : Nat → Int32) (bars : Nat → Int32) (bm : Int32) (pair : Int32) : (Nat → Int32) × (Nat → Int32) × Int32 :=
  if bm < 0 then
    (bw, bars, bm)
  else
    if (120 : Int32) ≤ bm then
      (bw, bars, bm)
    else
      bd (P_flipBar bw (P_oneOf pair) (P_otherOf pair)) (fun r_3 =>
        (r_3, upd bars (bm).toNatClampNeg pair, bm + (1 : Int32)))
abbrev rm_X0_bar : Room := { frames := 2, cells := 0, slots := 0, locals := 42 }
theorem k_X0_bar (l : Launch) (dC : Nat → ClassId) (dI : Nat → Nat → Nat) (cI cN : ClassId) (a0 : Nat) (a1 : Nat) (a2 : Nat) (a3 : Nat) (a4 : Nat) (isOn : Int32) (cnt : Int32) (len : Int32) (stp : Int32) (sta : Int32) (pm : Int32) (bm : Int32) (bw : Nat → Int32) (bars : Nat → Int32) (puts : Nat → Int32) (bap : Nat → Int32) (pair : Int32) (sz : Nat) : Met l yX0_bar wsX0_bar rm_X0_bar (va_Pc [.ref a0, .int pair] (kU dC dI cI cN [(a0, .inr (0, [.ref a1, .ref a2, .ref a3, .ref a4, .int isOn, .int cnt, .int len, .int stp, .int sta, .int pm, .int bm])), (a1, .inl (cI, 16, .inl bw)), (a2, .inl (cI, 120, .inl bars)), (a3, .inl (cI, 40, .inl puts)), (a4, .inl (cI, 40, .inl bap))] sz)) (kV dC dI [(a0, .inr (0, [.ref a1, .ref a2, .ref a3, .ref a4, .int isOn, .int cnt, .int len, .int stp, .int sta, .int pm, .int ((P_bar bw bars bm pair).2.2)])), (a1, .inl (cI, 16, .inl ((P_bar bw bars bm pair).1))), (a2, .inl (cI, 120, .inl ((P_bar bw bars bm pair).2.1))), (a3, .inl (cI, 40, .inl puts)), (a4, .inl (cI, 40, .inl bap))] (va_A [(a0, .inr (0, [.ref a1, .ref a2, .ref a3, .ref a4, .int isOn, .int cnt, .int len, .int stp, .int sta, .int pm, .int bm])), (a1, .inl (cI, 16, .inl bw)), (a2, .inl (cI, 120, .inl bars)), (a3, .inl (cI, 40, .inl puts)), (a4, .inl (cI, 40, .inl bap))] sz)) 0 0 (va_A [(a0, .inr (0, [.ref a1, .ref a2, .ref a3, .ref a4, .int isOn, .int cnt, .int len, .int stp, .int sta, .int pm, .int bm])), (a1, .inl (cI, 16, .inl bw)), (a2, .inl (cI, 120, .inl bars)), (a3, .inl (cI, 40, .inl puts)), (a4, .inl (cI, 40, .inl bap))] sz) := by sorry
def L_unbarDownTo_7 (bars : Nat → Int32) (many : Int32) (k : (Nat → Int32) → Int32 → (Nat → Int32) × Int32) : Nat → Int32 → (Nat → Int32) → Int32 → (Nat → Int32) × Int32
  | 0, number, b, many_ => k b many_
  | n + 1, number, b, many_ =>
    if number < 0 then
      L_unbarDownTo_7 bars many k n (number + (-1)) b many_
    else
      if (120 : Int32) ≤ number then
        L_unbarDownTo_7 bars many k n (number + (-1)) b many_
      else
        bd (P_flipBar b (P_oneOf (bars (number).toNatClampNeg)) (P_otherOf (bars (number).toNatClampNeg))) (fun r_1 =>
          L_unbarDownTo_7 bars many k n (number + (-1)) r_1 number)
def P_unbarDownTo (bw : Nat → Int32) (bars : Nat → Int32) (bm : Int32) (many : Int32) : (Nat → Int32) × Int32 :=
  bd (bm - (1 : Int32)) (fun last_1 =>
    L_unbarDownTo_7 bars many (fun b many_ => (b, many_)) ((last_1.toInt + 1 - (many).toInt).toNat) last_1 bw bm)
abbrev rm_X0_unbarDownTo : Room := { frames := 2, cells := 0, slots := 0, locals := 42 }
theorem k_X0_unbarDownTo (l : Launch) (dC : Nat → ClassId) (dI : Nat → Nat → Nat) (cI cN : ClassId) (a0 : Nat) (a1 : Nat) (a2 : Nat) (a3 : Nat) (a4 : Nat) (isOn : Int32) (cnt : Int32) (len : Int32) (stp : Int32) (sta : Int32) (pm : Int32) (bm : Int32) (bw : Nat → Int32) (bars : Nat → Int32) (puts : Nat → Int32) (bap : Nat → Int32) (many : Int32) (hmany : 0 ≤ many) (sz : Nat) : Met l yX0_unbarDownTo wsX0_unbarDownTo rm_X0_unbarDownTo (va_Pc [.ref a0, .int many] (kU dC dI cI cN [(a0, .inr (0, [.ref a1, .ref a2, .ref a3, .ref a4, .int isOn, .int cnt, .int len, .int stp, .int sta, .int pm, .int bm])), (a1, .inl (cI, 16, .inl bw)), (a2, .inl (cI, 120, .inl bars)), (a3, .inl (cI, 40, .inl puts)), (a4, .inl (cI, 40, .inl bap))] sz)) (kV dC dI [(a0, .inr (0, [.ref a1, .ref a2, .ref a3, .ref a4, .int isOn, .int cnt, .int len, .int stp, .int sta, .int pm, .int ((P_unbarDownTo bw bars bm many).2)])), (a1, .inl (cI, 16, .inl ((P_unbarDownTo bw bars bm many).1))), (a2, .inl (cI, 120, .inl bars)), (a3, .inl (cI, 40, .inl puts)), (a4, .inl (cI, 40, .inl bap))] (va_A [(a0, .inr (0, [.ref a1, .ref a2, .ref a3, .ref a4, .int isOn, .int cnt, .int len, .int stp, .int sta, .int pm, .int bm])), (a1, .inl (cI, 16, .inl bw)), (a2, .inl (cI, 120, .inl bars)), (a3, .inl (cI, 40, .inl puts)), (a4, .inl (cI, 40, .inl bap))] sz)) 0 0 (va_A [(a0, .inr (0, [.ref a1, .ref a2, .ref a3, .ref a4, .int isOn, .int cnt, .int len, .int stp, .int sta, .int pm, .int bm])), (a1, .inl (cI, 16, .inl bw)), (a2, .inl (cI, 120, .inl bars)), (a3, .inl (cI, 40, .inl puts)), (a4, .inl (cI, 40, .inl bap))] sz) := by sorry
def P_put (K : Nat) (f : Nat → Int32) (puts : Nat → Int32) (bap : Nat → Int32) (pm : Int32) (bm : Int32) (knot : Int32) (partner : Int32) : (Nat → Int32) × (Nat → Int32) × (Nat → Int32) × Int32 :=
  if pm < 0 then
    (puts, bap, f, pm)
  else
    if (40 : Int32) ≤ pm then
      (puts, bap, f, pm)
    else
      if (40 : Int32) ≤ pm then
        (puts, bap, f, pm)
      else
        bd (P_join K f knot partner) (fun r_4 =>
          (upd puts (pm).toNatClampNeg (P_pairOf knot partner), upd bap (pm).toNatClampNeg bm, r_4, pm + (1 : Int32)))
abbrev rm_X0_put : Room := { frames := 2, cells := 0, slots := 0, locals := 43 }
theorem k_X0_put (l : Launch) (dC : Nat → ClassId) (dI : Nat → Nat → Nat) (cI cN : ClassId) (a0 : Nat) (a1 : Nat) (a2 : Nat) (a3 : Nat) (a4 : Nat) (isOn : Int32) (cnt : Int32) (len : Int32) (stp : Int32) (sta : Int32) (pm : Int32) (bm : Int32) (bw : Nat → Int32) (bars : Nat → Int32) (puts : Nat → Int32) (bap : Nat → Int32) (h0 : Nat) (h1 : Nat) (K : Nat) (f : Nat → Int32) (knot : Int32) (partner : Int32) (hK : K ≤ 16) (sz : Nat) : Met l yX0_put wsX0_put rm_X0_put (va_Pc [.ref a0, .ref h0, .int knot, .int partner] (kU dC dI cI cN [(a0, .inr (0, [.ref a1, .ref a2, .ref a3, .ref a4, .int isOn, .int cnt, .int len, .int stp, .int sta, .int pm, .int bm])), (a1, .inl (cI, 16, .inl bw)), (a2, .inl (cI, 120, .inl bars)), (a3, .inl (cI, 40, .inl puts)), (a4, .inl (cI, 40, .inl bap)), (h0, .inr (3, [.ref h1, .int (nI K)])), (h1, .inl (cI, 16, .inl f))] sz)) (kV dC dI [(a0, .inr (0, [.ref a1, .ref a2, .ref a3, .ref a4, .int isOn, .int cnt, .int len, .int stp, .int sta, .int ((P_put K f puts bap pm bm knot partner).2.2.2), .int bm])), (a1, .inl (cI, 16, .inl bw)), (a2, .inl (cI, 120, .inl bars)), (a3, .inl (cI, 40, .inl ((P_put K f puts bap pm bm knot partner).1))), (a4, .inl (cI, 40, .inl ((P_put K f puts bap pm bm knot partner).2.1))), (h0, .inr (3, [.ref h1, .int (nI K)])), (h1, .inl (cI, 16, .inl ((P_put K f puts bap pm bm knot partner).2.2.1)))] (va_A [(a0, .inr (0, [.ref a1, .ref a2, .ref a3, .ref a4, .int isOn, .int cnt, .int len, .int stp, .int sta, .int pm, .int bm])), (a1, .inl (cI, 16, .inl bw)), (a2, .inl (cI, 120, .inl bars)), (a3, .inl (cI, 40, .inl puts)), (a4, .inl (cI, 40, .inl bap)), (h0, .inr (3, [.ref h1, .int (nI K)])), (h1, .inl (cI, 16, .inl f))] sz)) 0 0 (va_A [(a0, .inr (0, [.ref a1, .ref a2, .ref a3, .ref a4, .int isOn, .int cnt, .int len, .int stp, .int sta, .int pm, .int bm])), (a1, .inl (cI, 16, .inl bw)), (a2, .inl (cI, 120, .inl bars)), (a3, .inl (cI, 40, .inl puts)), (a4, .inl (cI, 40, .inl bap)), (h0, .inr (3, [.ref h1, .int (nI K)])), (h1, .inl (cI, 16, .inl f))] sz) := by sorry
def P_goBack (K : Nat) (f : Nat → Int32) (bw : Nat → Int32) (bars : Nat → Int32) (puts : Nat → Int32) (bap : Nat → Int32) (sta : Int32) (pm : Int32) (bm : Int32) : (Nat → Int32) × (Nat → Int32) × (Nat → Int32) × Int32 × Int32 × Int32 :=
  bd (pm - (1 : Int32)) (fun last_1 =>
    if last_1 < 0 then
      bd (P_unbarDownTo bw bars bm 0) (fun r_3 =>
        (r_3.1, bars, f, 2, pm, r_3.2))
    else
      if (40 : Int32) ≤ last_1 then
        bd (P_unbarDownTo bw bars bm 0) (fun r_5 =>
          (r_5.1, bars, f, 2, pm, r_5.2))
      else
        if last_1 < (40 : Int32) then
          bd (P_loosen K f (P_oneOf (puts (last_1).toNatClampNeg)) (P_otherOf (puts (last_1).toNatClampNeg))) (fun r_7 =>
            bd (P_unbarDownTo bw bars bm (bap (last_1).toNatClampNeg)) (fun r_8 =>
              bd (P_bar r_8.1 bars r_8.2 (puts (last_1).toNatClampNeg)) (fun r_9 =>
                (r_9.1, r_9.2.1, r_7, sta, last_1, r_9.2.2))))
        else
          bd (P_unbarDownTo bw bars bm 0) (fun r_10 =>
            (r_10.1, bars, f, 2, pm, r_10.2)))
abbrev rm_X0_goBack : Room := { frames := 3, cells := 0, slots := 0, locals := 64 }
theorem k_X0_goBack (l : Launch) (dC : Nat → ClassId) (dI : Nat → Nat → Nat) (cI cN : ClassId) (a0 : Nat) (a1 : Nat) (a2 : Nat) (a3 : Nat) (a4 : Nat) (isOn : Int32) (cnt : Int32) (len : Int32) (stp : Int32) (sta : Int32) (pm : Int32) (bm : Int32) (bw : Nat → Int32) (bars : Nat → Int32) (puts : Nat → Int32) (bap : Nat → Int32) (h0 : Nat) (h1 : Nat) (K : Nat) (f : Nat → Int32) (hK : K ≤ 16) (hbap : ∀ j, 0 ≤ bap j) (sz : Nat) : Met l yX0_goBack wsX0_goBack rm_X0_goBack (va_Pc [.ref a0, .ref h0] (kU dC dI cI cN [(a0, .inr (0, [.ref a1, .ref a2, .ref a3, .ref a4, .int isOn, .int cnt, .int len, .int stp, .int sta, .int pm, .int bm])), (a1, .inl (cI, 16, .inl bw)), (a2, .inl (cI, 120, .inl bars)), (a3, .inl (cI, 40, .inl puts)), (a4, .inl (cI, 40, .inl bap)), (h0, .inr (3, [.ref h1, .int (nI K)])), (h1, .inl (cI, 16, .inl f))] sz)) (kV dC dI [(a0, .inr (0, [.ref a1, .ref a2, .ref a3, .ref a4, .int isOn, .int cnt, .int len, .int stp, .int ((P_goBack K f bw bars puts bap sta pm bm).2.2.2.1), .int ((P_goBack K f bw bars puts bap sta pm bm).2.2.2.2.1), .int ((P_goBack K f bw bars puts bap sta pm bm).2.2.2.2.2)])), (a1, .inl (cI, 16, .inl ((P_goBack K f bw bars puts bap sta pm bm).1))), (a2, .inl (cI, 120, .inl ((P_goBack K f bw bars puts bap sta pm bm).2.1))), (a3, .inl (cI, 40, .inl puts)), (a4, .inl (cI, 40, .inl bap)), (h0, .inr (3, [.ref h1, .int (nI K)])), (h1, .inl (cI, 16, .inl ((P_goBack K f bw bars puts bap sta pm bm).2.2.1)))] (va_A [(a0, .inr (0, [.ref a1, .ref a2, .ref a3, .ref a4, .int isOn, .int cnt, .int len, .int stp, .int sta, .int pm, .int bm])), (a1, .inl (cI, 16, .inl bw)), (a2, .inl (cI, 120, .inl bars)), (a3, .inl (cI, 40, .inl puts)), (a4, .inl (cI, 40, .inl bap)), (h0, .inr (3, [.ref h1, .int (nI K)])), (h1, .inl (cI, 16, .inl f))] sz)) 0 0 (va_A [(a0, .inr (0, [.ref a1, .ref a2, .ref a3, .ref a4, .int isOn, .int cnt, .int len, .int stp, .int sta, .int pm, .int bm])), (a1, .inl (cI, 16, .inl bw)), (a2, .inl (cI, 120, .inl bars)), (a3, .inl (cI, 40, .inl puts)), (a4, .inl (cI, 40, .inl bap)), (h0, .inr (3, [.ref h1, .int (nI K)])), (h1, .inl (cI, 16, .inl f))] sz) := by sorry
def P_begin (bw : Nat → Int32) (bars : Nat → Int32) (bm : Int32) : (Nat → Int32) × Int32 :=
  bd (P_unbarDownTo bw bars bm 0) (fun r_1 =>
    (r_1.1, r_1.2))
abbrev rm_X0_begin : Room := { frames := 3, cells := 0, slots := 0, locals := 64 }
theorem k_X0_begin (l : Launch) (dC : Nat → ClassId) (dI : Nat → Nat → Nat) (cI cN : ClassId) (a0 : Nat) (a1 : Nat) (a2 : Nat) (a3 : Nat) (a4 : Nat) (isOn : Int32) (cnt : Int32) (len : Int32) (stp : Int32) (sta : Int32) (pm : Int32) (bm : Int32) (bw : Nat → Int32) (bars : Nat → Int32) (puts : Nat → Int32) (bap : Nat → Int32) (cnt1 : Int32) (len1 : Int32) (sz : Nat) : Met l yX0_begin wsX0_begin rm_X0_begin (va_Pc [.ref a0, .int cnt1, .int len1] (kU dC dI cI cN [(a0, .inr (0, [.ref a1, .ref a2, .ref a3, .ref a4, .int isOn, .int cnt, .int len, .int stp, .int sta, .int pm, .int bm])), (a1, .inl (cI, 16, .inl bw)), (a2, .inl (cI, 120, .inl bars)), (a3, .inl (cI, 40, .inl puts)), (a4, .inl (cI, 40, .inl bap))] sz)) (kV dC dI [(a0, .inr (0, [.ref a1, .ref a2, .ref a3, .ref a4, .int 1, .int cnt1, .int len1, .int 0, .int 0, .int 0, .int ((P_begin bw bars bm).2)])), (a1, .inl (cI, 16, .inl ((P_begin bw bars bm).1))), (a2, .inl (cI, 120, .inl bars)), (a3, .inl (cI, 40, .inl puts)), (a4, .inl (cI, 40, .inl bap))] (va_A [(a0, .inr (0, [.ref a1, .ref a2, .ref a3, .ref a4, .int isOn, .int cnt, .int len, .int stp, .int sta, .int pm, .int bm])), (a1, .inl (cI, 16, .inl bw)), (a2, .inl (cI, 120, .inl bars)), (a3, .inl (cI, 40, .inl puts)), (a4, .inl (cI, 40, .inl bap))] sz)) 0 0 (va_A [(a0, .inr (0, [.ref a1, .ref a2, .ref a3, .ref a4, .int isOn, .int cnt, .int len, .int stp, .int sta, .int pm, .int bm])), (a1, .inl (cI, 16, .inl bw)), (a2, .inl (cI, 120, .inl bars)), (a3, .inl (cI, 40, .inl puts)), (a4, .inl (cI, 40, .inl bap))] sz) := by sorry
def P_end  : Unit :=
  ()
abbrev rm_X0_end : Room := { frames := 0, cells := 0, slots := 0, locals := 0 }
theorem k_X0_end (l : Launch) (dC : Nat → ClassId) (dI : Nat → Nat → Nat) (cI cN : ClassId) (a0 : Nat) (a1 : Nat) (a2 : Nat) (a3 : Nat) (a4 : Nat) (isOn : Int32) (cnt : Int32) (len : Int32) (stp : Int32) (sta : Int32) (pm : Int32) (bm : Int32) (bw : Nat → Int32) (bars : Nat → Int32) (puts : Nat → Int32) (bap : Nat → Int32) (sz : Nat) : Met l yX0_end wsX0_end rm_X0_end (va_Pc [.ref a0] (kU dC dI cI cN [(a0, .inr (0, [.ref a1, .ref a2, .ref a3, .ref a4, .int isOn, .int cnt, .int len, .int stp, .int sta, .int pm, .int bm])), (a1, .inl (cI, 16, .inl bw)), (a2, .inl (cI, 120, .inl bars)), (a3, .inl (cI, 40, .inl puts)), (a4, .inl (cI, 40, .inl bap))] sz)) (kV dC dI [(a0, .inr (0, [.ref a1, .ref a2, .ref a3, .ref a4, .int 0, .int cnt, .int len, .int stp, .int sta, .int pm, .int bm])), (a1, .inl (cI, 16, .inl bw)), (a2, .inl (cI, 120, .inl bars)), (a3, .inl (cI, 40, .inl puts)), (a4, .inl (cI, 40, .inl bap))] (va_A [(a0, .inr (0, [.ref a1, .ref a2, .ref a3, .ref a4, .int isOn, .int cnt, .int len, .int stp, .int sta, .int pm, .int bm])), (a1, .inl (cI, 16, .inl bw)), (a2, .inl (cI, 120, .inl bars)), (a3, .inl (cI, 40, .inl puts)), (a4, .inl (cI, 40, .inl bap))] sz)) 0 0 (va_A [(a0, .inr (0, [.ref a1, .ref a2, .ref a3, .ref a4, .int isOn, .int cnt, .int len, .int stp, .int sta, .int pm, .int bm])), (a1, .inl (cI, 16, .inl bw)), (a2, .inl (cI, 120, .inl bars)), (a3, .inl (cI, 40, .inl puts)), (a4, .inl (cI, 40, .inl bap))] sz) := by sorry
def P_step (K : Nat) (f : Nat → Int32) (bw : Nat → Int32) (bars : Nat → Int32) (puts : Nat → Int32) (bap : Nat → Int32) (cnt : Int32) (len : Int32) (stp : Int32) (sta : Int32) (pm : Int32) (bm : Int32) : (Nat → Int32) × (Nat → Int32) × (Nat → Int32) × (Nat → Int32) × (Nat → Int32) × Int32 × Int32 × Int32 × Int32 :=
  bd (P_nextKnot K f bw cnt len sta) (fun knot_1 =>
    if knot_1 = (-1 : Int32) then
      (bw, bars, puts, bap, f, stp + (1 : Int32), 1, pm, bm)
    else
      bd (P_partnerOf K f bw cnt len knot_1) (fun partner_3 =>
        if partner_3 = (-1 : Int32) then
          bd (P_goBack K f bw bars puts bap sta pm bm) (fun r_6 =>
            (r_6.1, r_6.2.1, puts, bap, r_6.2.2.1, stp + (1 : Int32), r_6.2.2.2.1, r_6.2.2.2.2.1, r_6.2.2.2.2.2))
        else
          bd (P_put K f puts bap pm bm knot_1 partner_3) (fun r_5 =>
            (bw, bars, r_5.1, r_5.2.1, r_5.2.2.1, stp + (1 : Int32), sta, r_5.2.2.2, bm))))
abbrev rm_X0_step : Room := { frames := 5, cells := 0, slots := 0, locals := 120 }
theorem k_X0_step (l : Launch) (dC : Nat → ClassId) (dI : Nat → Nat → Nat) (cI cN : ClassId) (a0 : Nat) (a1 : Nat) (a2 : Nat) (a3 : Nat) (a4 : Nat) (isOn : Int32) (cnt : Int32) (len : Int32) (stp : Int32) (sta : Int32) (pm : Int32) (bm : Int32) (bw : Nat → Int32) (bars : Nat → Int32) (puts : Nat → Int32) (bap : Nat → Int32) (h0 : Nat) (h1 : Nat) (K : Nat) (f : Nat → Int32) (hK : K ≤ 16) (hbap : ∀ j, 0 ≤ bap j) (sz : Nat) : Met l yX0_step wsX0_step rm_X0_step (va_Pc [.ref a0, .ref h0] (kU dC dI cI cN [(a0, .inr (0, [.ref a1, .ref a2, .ref a3, .ref a4, .int isOn, .int cnt, .int len, .int stp, .int sta, .int pm, .int bm])), (a1, .inl (cI, 16, .inl bw)), (a2, .inl (cI, 120, .inl bars)), (a3, .inl (cI, 40, .inl puts)), (a4, .inl (cI, 40, .inl bap)), (h0, .inr (3, [.ref h1, .int (nI K)])), (h1, .inl (cI, 16, .inl f))] sz)) (kV dC dI [(a0, .inr (0, [.ref a1, .ref a2, .ref a3, .ref a4, .int isOn, .int cnt, .int len, .int ((P_step K f bw bars puts bap cnt len stp sta pm bm).2.2.2.2.2.1), .int ((P_step K f bw bars puts bap cnt len stp sta pm bm).2.2.2.2.2.2.1), .int ((P_step K f bw bars puts bap cnt len stp sta pm bm).2.2.2.2.2.2.2.1), .int ((P_step K f bw bars puts bap cnt len stp sta pm bm).2.2.2.2.2.2.2.2)])), (a1, .inl (cI, 16, .inl ((P_step K f bw bars puts bap cnt len stp sta pm bm).1))), (a2, .inl (cI, 120, .inl ((P_step K f bw bars puts bap cnt len stp sta pm bm).2.1))), (a3, .inl (cI, 40, .inl ((P_step K f bw bars puts bap cnt len stp sta pm bm).2.2.1))), (a4, .inl (cI, 40, .inl ((P_step K f bw bars puts bap cnt len stp sta pm bm).2.2.2.1))), (h0, .inr (3, [.ref h1, .int (nI K)])), (h1, .inl (cI, 16, .inl ((P_step K f bw bars puts bap cnt len stp sta pm bm).2.2.2.2.1)))] (va_A [(a0, .inr (0, [.ref a1, .ref a2, .ref a3, .ref a4, .int isOn, .int cnt, .int len, .int stp, .int sta, .int pm, .int bm])), (a1, .inl (cI, 16, .inl bw)), (a2, .inl (cI, 120, .inl bars)), (a3, .inl (cI, 40, .inl puts)), (a4, .inl (cI, 40, .inl bap)), (h0, .inr (3, [.ref h1, .int (nI K)])), (h1, .inl (cI, 16, .inl f))] sz)) 0 0 (va_A [(a0, .inr (0, [.ref a1, .ref a2, .ref a3, .ref a4, .int isOn, .int cnt, .int len, .int stp, .int sta, .int pm, .int bm])), (a1, .inl (cI, 16, .inl bw)), (a2, .inl (cI, 120, .inl bars)), (a3, .inl (cI, 40, .inl puts)), (a4, .inl (cI, 40, .inl bap)), (h0, .inr (3, [.ref h1, .int (nI K)])), (h1, .inl (cI, 16, .inl f))] sz) := by sorry
end
section
/-! the ledger that is changed (printed by wip/gen) -/
def P_prove (g : Nat → Int32) (knots : Int32) (count : Int32) (length : Int32) : Nat → Int32 :=
  bd (P_proofPlace knots count) (fun place_1 =>
    if place_1 = (-1 : Int32) then
      g
    else
      if (P_isProved g knots count length) = 0 then
        upd g (place_1).toNatClampNeg length
      else
        g)
abbrev rm_X1_prove : Room := { frames := 3, cells := 0, slots := 0, locals := 71 }
theorem k_X1_prove (l : Launch) (dC : Nat → ClassId) (dI : Nat → Nat → Nat) (cI cN : ClassId) (q0 : Nat) (q1 : Nat) (q2 : Nat) (g : Nat → Int32) (t : Nat → Int32) (knots : Int32) (count : Int32) (length : Int32) (sz : Nat) : Met l yX1_prove wsX1_prove rm_X1_prove (va_Pc [.ref q0, .int knots, .int count, .int length] (kU dC dI cI cN [(q0, .inr (1, [.ref q1, .ref q2])), (q1, .inl (cI, 102, .inl g)), (q2, .inl (cI, 54, .inl t))] sz)) (kV dC dI [(q0, .inr (1, [.ref q1, .ref q2])), (q1, .inl (cI, 102, .inl ((P_prove g knots count length)))), (q2, .inl (cI, 54, .inl t))] (va_A [(q0, .inr (1, [.ref q1, .ref q2])), (q1, .inl (cI, 102, .inl g)), (q2, .inl (cI, 54, .inl t))] sz)) 0 0 (va_A [(q0, .inr (1, [.ref q1, .ref q2])), (q1, .inl (cI, 102, .inl g)), (q2, .inl (cI, 54, .inl t))] sz) := by sorry
def P_look (t : Nat → Int32) (K : Nat) (f : Nat → Int32) : Nat → Int32 :=
  bd (P_evenCount K f) (fun count_1 =>
    if (P_isWithin count_1 2 5) = 0 then
      t
    else
      bd (P_tablePlace count_1 (P_leastRing K f)) (fun place_3 =>
        if place_3 = (-1 : Int32) then
          t
        else
          if (t (place_3).toNatClampNeg) = 0 then
            upd t (place_3).toNatClampNeg (nI K)
          else
            if (t (place_3).toNatClampNeg) ≤ (nI K) then
              t
            else
              upd t (place_3).toNatClampNeg (nI K)))
abbrev rm_X1_look : Room := { frames := 5, cells := 0, slots := 0, locals := 116 }
theorem k_X1_look (l : Launch) (dC : Nat → ClassId) (dI : Nat → Nat → Nat) (cI cN : ClassId) (q0 : Nat) (q1 : Nat) (q2 : Nat) (g : Nat → Int32) (t : Nat → Int32) (h0 : Nat) (h1 : Nat) (K : Nat) (f : Nat → Int32) (hK : K ≤ 16) (sz : Nat) : Met l yX1_look wsX1_look rm_X1_look (va_Pc [.ref q0, .ref h0] (kU dC dI cI cN [(q0, .inr (1, [.ref q1, .ref q2])), (q1, .inl (cI, 102, .inl g)), (q2, .inl (cI, 54, .inl t)), (h0, .inr (3, [.ref h1, .int (nI K)])), (h1, .inl (cI, 16, .inl f))] sz)) (kV dC dI [(q0, .inr (1, [.ref q1, .ref q2])), (q1, .inl (cI, 102, .inl g)), (q2, .inl (cI, 54, .inl ((P_look t K f)))), (h0, .inr (3, [.ref h1, .int (nI K)])), (h1, .inl (cI, 16, .inl f))] (va_A [(q0, .inr (1, [.ref q1, .ref q2])), (q1, .inl (cI, 102, .inl g)), (q2, .inl (cI, 54, .inl t)), (h0, .inr (3, [.ref h1, .int (nI K)])), (h1, .inl (cI, 16, .inl f))] sz)) 0 0 (va_A [(q0, .inr (1, [.ref q1, .ref q2])), (q1, .inl (cI, 102, .inl g)), (q2, .inl (cI, 54, .inl t)), (h0, .inr (3, [.ref h1, .int (nI K)])), (h1, .inl (cI, 16, .inl f))] sz) := by sorry
end
section
/-! colours (printed by wip/gen) -/
def L_hardest_32 (f : Nat → Int32) (hu : Nat → Int32) (knot : Nat) (k : Int32 → Int32) : Nat → Nat → Int32 → Int32
  | 0, hue, sees => k sees
  | n + 1, hue, sees =>
    if ((hu hue) &&& (P_nearOf f (nI knot))) = 0 then
      bd (sees + (0 : Int32)) (fun sees_1 =>
        L_hardest_32 f hu knot k n (hue + 1) sees_1)
    else
      bd (sees + (1 : Int32)) (fun sees_2 =>
        L_hardest_32 f hu knot k n (hue + 1) sees_2)
def L_hardest_8 (K : Nat) (f : Nat → Int32) (hu : Nat → Int32) (bare : Int32) (k : Int32 → Int32 → Int32) : Nat → Nat → Int32 → Int32 → Int32
  | 0, knot, best, most => k best most
  | n + 1, knot, best, most =>
    if (P_holds bare (nI knot)) = 0 then
      L_hardest_8 K f hu bare k n (knot + 1) best most
    else
      L_hardest_32 f hu knot (fun sees => if sees ≤ most then L_hardest_8 K f hu bare k n (knot + 1) best most else L_hardest_8 K f hu bare k n (knot + 1) (nI knot) sees) 6 0 0
def P_hardest (K : Nat) (f : Nat → Int32) (hu : Nat → Int32) (bare : Int32) : Int32 :=
  L_hardest_8 K f hu bare (fun best most => best) K 0 (-1) (-1)
abbrev rm_X4_hardest : Room := { frames := 1, cells := 0, slots := 0, locals := 21 }
theorem k_X4_hardest (l : Launch) (dC : Nat → ClassId) (dI : Nat → Nat → Nat) (cI cN : ClassId) (h0 : Nat) (h1 : Nat) (K : Nat) (f : Nat → Int32) (c1 : Nat) (hu : Nat → Int32) (bare : Int32) (hK : K ≤ 16) : Met l yX4_hardest wsX4_hardest rm_X4_hardest (va_Pc [.ref h0, .ref c1, .int bare] (kW dC dI cI cN [(h0, .inr (3, [.ref h1, .int (nI K)])), (h1, .inl (cI, 16, .inl f)), (c1, .inl (cI, 6, .inl hu))])) (kR (P_hardest K f hu bare)) 0 0 (fun _ => False) := by sorry
def L_canPaint_26 (f : Nat → Int32) (many : Int32) (bare : Int32) (rc : Int32 → (Nat → Int32) → Int32 × (Nat → Int32)) (k : Int32 → (Nat → Int32) → Int32 × (Nat → Int32)) : Nat → Nat → Int32 → (Nat → Int32) → Int32 × (Nat → Int32)
  | 0, hue, knot, hs => k knot hs
  | n + 1, hue, knot, hs =>
    if (6 : Int32) ≤ (nI hue) then
      k knot hs
    else
      if ((hs hue) &&& (P_nearOf f knot)) = 0 then
        if (hs hue) = 0 then
          bd (rc (bare &&& ((P_bit knot) ^^^ (-1 : Int32))) (upd hs hue ((hs hue) ||| (P_bit knot)))) (fun r_1 =>
            if r_1.1 = 0 then
              (0, upd r_1.2 hue ((r_1.2 hue) &&& ((P_bit knot) ^^^ (-1 : Int32))))
            else
              (1, r_1.2))
        else
          bd (rc (bare &&& ((P_bit knot) ^^^ (-1 : Int32))) (upd hs hue ((hs hue) ||| (P_bit knot)))) (fun r_2 =>
            if r_2.1 = 0 then
              L_canPaint_26 f many bare (rc) k n (hue + 1) knot (upd r_2.2 hue ((r_2.2 hue) &&& ((P_bit knot) ^^^ (-1 : Int32))))
            else
              (1, r_2.2))
      else
        L_canPaint_26 f many bare (rc) k n (hue + 1) knot hs
def P_canPaint (K : Nat) (f : Nat → Int32) (many : Int32) : Nat → Int32 → (Nat → Int32) → Int32 × (Nat → Int32)
  | 0, bare, hu =>
    if bare = 0 then
      (1, hu)
    else
      (0, hu)
  | n + 1, bare, hu =>
    if bare = 0 then
      (1, hu)
    else
      bd (P_hardest K f hu bare) (fun knot_5 =>
        L_canPaint_26 f many bare ((P_canPaint K f many n)) (fun knot hs => (0, hs)) many.toNatClampNeg 0 knot_5 hu)
abbrev rm_X4_canPaint (n : Nat) : Room := { frames := 2 + n, cells := 0, slots := 0, locals := 48 + 27 * n }
theorem k_X4_canPaint (l : Launch) (dC : Nat → ClassId) (dI : Nat → Nat → Nat) (cI cN : ClassId) (h0 h1 : Nat) (K : Nat) (f : Nat → Int32) (hK : K ≤ 16) (c1 : Nat) (many : Int32) : ∀ (n : Nat) (bare : Int32) (hu : Nat → Int32) (dp : Nat) (sz : Nat), dp + n = 16 → Met l yX4_canPaint wsX4_canPaint (rm_X4_canPaint n) (va_Pc [.ref h0, .ref c1, .int bare, .int many, .int (nI dp)] (kU dC dI cI cN [(h0, .inr (3, [.ref h1, .int (nI K)])), (h1, .inl (cI, 16, .inl f)), (c1, .inl (cI, 6, .inl hu))] sz)) (kVi dC dI (P_canPaint K f many n bare hu).1 [(h0, .inr (3, [.ref h1, .int (nI K)])), (h1, .inl (cI, 16, .inl f)), (c1, .inl (cI, 6, .inl ((P_canPaint K f many n bare hu).2)))] (va_A [(h0, .inr (3, [.ref h1, .int (nI K)])), (h1, .inl (cI, 16, .inl f)), (c1, .inl (cI, 6, .inl hu))] sz)) 0 0 (va_A [(h0, .inr (3, [.ref h1, .int (nI K)])), (h1, .inl (cI, 16, .inl f)), (c1, .inl (cI, 6, .inl hu))] sz) := by sorry
def L_fewestOf_16  (k : (Nat → Int32) → Int32 × (Nat → Int32)) : Nat → Nat → (Nat → Int32) → Int32 × (Nat → Int32)
  | 0, hue, hz => k hz
  | n + 1, hue, hz =>
    L_fewestOf_16 k n (hue + 1) (upd hz hue (0 : Int32))
def L_fewestOf_3 (K : Nat) (f : Nat → Int32) (part : Int32) (k : (Nat → Int32) → Int32 × (Nat → Int32)) : Nat → Int32 → (Nat → Int32) → Int32 × (Nat → Int32)
  | 0, many, hs => k hs
  | n + 1, many, hs =>
    L_fewestOf_16 (fun hz => bd (P_canPaint K f many 16 part hz) (fun r_1 => if r_1.1 = 0 then L_fewestOf_3 K f part k n (many + 1) r_1.2 else (many, r_1.2))) 6 0 hs
def P_fewestOf (K : Nat) (f : Nat → Int32) (hu : Nat → Int32) (part : Int32) (low : Int32) : Int32 × (Nat → Int32) :=
  L_fewestOf_3 K f part (fun hs => (6, hs)) ((((6 : Int32)).toInt - (low).toInt).toNat) low hu
abbrev rm_X4_fewestOf : Room := { frames := 19, cells := 0, slots := 0, locals := 507 }
theorem k_X4_fewestOf (l : Launch) (dC : Nat → ClassId) (dI : Nat → Nat → Nat) (cI cN : ClassId) (c0 : Nat) (c1 : Nat) (hu : Nat → Int32) (h0 : Nat) (h1 : Nat) (K : Nat) (f : Nat → Int32) (part : Int32) (low : Int32) (hK : K ≤ 16) (sz : Nat) : Met l yX4_fewestOf wsX4_fewestOf rm_X4_fewestOf (va_Pc [.ref c0, .ref h0, .int part, .int low] (kU dC dI cI cN [(c0, .inr (4, [.ref c1])), (c1, .inl (cI, 6, .inl hu)), (h0, .inr (3, [.ref h1, .int (nI K)])), (h1, .inl (cI, 16, .inl f))] sz)) (kVi dC dI (P_fewestOf K f hu part low).1 [(c0, .inr (4, [.ref c1])), (c1, .inl (cI, 6, .inl ((P_fewestOf K f hu part low).2))), (h0, .inr (3, [.ref h1, .int (nI K)])), (h1, .inl (cI, 16, .inl f))] (va_A [(c0, .inr (4, [.ref c1])), (c1, .inl (cI, 6, .inl hu)), (h0, .inr (3, [.ref h1, .int (nI K)])), (h1, .inl (cI, 16, .inl f))] sz)) 0 0 (va_A [(c0, .inr (4, [.ref c1])), (c1, .inl (cI, 6, .inl hu)), (h0, .inr (3, [.ref h1, .int (nI K)])), (h1, .inl (cI, 16, .inl f))] sz) := by sorry
def L_fewest_7 (K : Nat) (f : Nat → Int32) (k : Int32 → Int32 → (Nat → Int32) → Int32 × (Nat → Int32)) : Nat → Nat → Int32 → Int32 → (Nat → Int32) → Int32 × (Nat → Int32)
  | 0, knot, many, seen, hs => k many seen hs
  | n + 1, knot, many, seen, hs =>
    if (P_holds seen (nI knot)) = 0 then
      bd (P_partWith f (nI knot)) (fun part_1 =>
        bd (P_fewestOf K f hs part_1 (if many < (1 : Int32) then (1 : Int32) else many)) (fun r_2 =>
          bd (r_2.1) (fun x2_3 =>
            bd (seen ||| part_1) (fun seen_4 =>
              L_fewest_7 K f k n (knot + 1) x2_3 seen_4 r_2.2))))
    else
      L_fewest_7 K f k n (knot + 1) many seen hs
def P_fewest (K : Nat) (f : Nat → Int32) (hu : Nat → Int32) : Int32 × (Nat → Int32) :=
  L_fewest_7 K f (fun many seen hs => (many, hs)) K 0 0 0 hu
abbrev rm_X4_fewest : Room := { frames := 20, cells := 0, slots := 0, locals := 532 }
theorem k_X4_fewest (l : Launch) (dC : Nat → ClassId) (dI : Nat → Nat → Nat) (cI cN : ClassId) (c0 : Nat) (c1 : Nat) (hu : Nat → Int32) (h0 : Nat) (h1 : Nat) (K : Nat) (f : Nat → Int32) (hK : K ≤ 16) (sz : Nat) : Met l yX4_fewest wsX4_fewest rm_X4_fewest (va_Pc [.ref c0, .ref h0] (kU dC dI cI cN [(c0, .inr (4, [.ref c1])), (c1, .inl (cI, 6, .inl hu)), (h0, .inr (3, [.ref h1, .int (nI K)])), (h1, .inl (cI, 16, .inl f))] sz)) (kVi dC dI (P_fewest K f hu).1 [(c0, .inr (4, [.ref c1])), (c1, .inl (cI, 6, .inl ((P_fewest K f hu).2))), (h0, .inr (3, [.ref h1, .int (nI K)])), (h1, .inl (cI, 16, .inl f))] (va_A [(c0, .inr (4, [.ref c1])), (c1, .inl (cI, 6, .inl hu)), (h0, .inr (3, [.ref h1, .int (nI K)])), (h1, .inl (cI, 16, .inl f))] sz)) 0 0 (va_A [(c0, .inr (4, [.ref c1])), (c1, .inl (cI, 6, .inl hu)), (h0, .inr (3, [.ref h1, .int (nI K)])), (h1, .inl (cI, 16, .inl f))] sz) := by sorry
end
section
/-! likeness (printed by wip/gen) -/
def L_nextToPlace_7 (KF : Nat) (ff : Nat → Int32) (pl : Int32) (left : Int32) (k : Int32 → Int32 → Int32) : Nat → Nat → Int32 → Int32 → Int32
  | 0, knot, best, most => k best most
  | n + 1, knot, best, most =>
    bd (P_bitCount ((P_nearOf ff (nI knot)) &&& pl)) (fun many_1 =>
      if (P_holds left (nI knot)) = 0 then
        L_nextToPlace_7 KF ff pl left k n (knot + 1) best most
      else
        if many_1 ≤ most then
          L_nextToPlace_7 KF ff pl left k n (knot + 1) best most
        else
          L_nextToPlace_7 KF ff pl left k n (knot + 1) (nI knot) many_1)
def P_nextToPlace (KF : Nat) (ff : Nat → Int32) (pl : Int32) (left : Int32) : Int32 :=
  L_nextToPlace_7 KF ff pl left (fun best most => best) KF 0 (-1) (-1)
abbrev rm_X2_nextToPlace : Room := { frames := 1, cells := 0, slots := 0, locals := 21 }
theorem k_X2_nextToPlace (l : Launch) (dC : Nat → ClassId) (dI : Nat → Nat → Nat) (cI cN : ClassId) (d0 : Nat) (f0 : Nat) (f1 : Nat) (t0 : Nat) (t1 : Nat) (d1 : Nat) (KF : Nat) (ff : Nat → Int32) (KT : Nat) (tf : Nat → Int32) (im : Nat → Int32) (pl : Int32) (left : Int32) (hKF : KF ≤ 16) (hKT : KT ≤ 16) : Met l yX2_nextToPlace wsX2_nextToPlace rm_X2_nextToPlace (va_Pc [.ref d0, .int left] (kW dC dI cI cN [(d0, .inr (2, [.ref f0, .ref t0, .ref d1, .int pl])), (f0, .inr (3, [.ref f1, .int (nI KF)])), (f1, .inl (cI, 16, .inl ff)), (t0, .inr (3, [.ref t1, .int (nI KT)])), (t1, .inl (cI, 16, .inl tf)), (d1, .inl (cI, 16, .inl im))])) (kR (P_nextToPlace KF ff pl left)) 0 0 (fun _ => False) := by sorry
def L_fitting_78 (tf : Nat → Int32) (im : Nat → Int32) (pl : Int32) (k : Int32 → Int32 → Int32) : Nat → Nat → Int32 → Int32 → Int32
  | 0, other, fit, nearFrom => k fit nearFrom
  | n + 1, other, fit, nearFrom =>
    if (P_holds pl (nI other)) = 0 then
      L_fitting_78 tf im pl k n (other + 1) fit nearFrom
    else
      bd (P_nearOf tf (im other)) (fun nearTo_1 =>
        if (P_holds nearFrom (nI other)) = 0 then
          bd (fit &&& (nearTo_1 ^^^ (-1 : Int32))) (fun fit_2 =>
            L_fitting_78 tf im pl k n (other + 1) fit_2 nearFrom)
        else
          bd (fit &&& nearTo_1) (fun fit_3 =>
            L_fitting_78 tf im pl k n (other + 1) fit_3 nearFrom))
def L_fitting_21 (ff : Nat → Int32) (KT : Nat) (tf : Nat → Int32) (im : Nat → Int32) (pl : Int32) (knot : Int32) (free : Int32) (k : Int32 → Int32 → Int32 → Int32) : Nat → Nat → Int32 → Int32 → Int32 → Int32
  | 0, place, fit, nearFrom, count => k fit nearFrom count
  | n + 1, place, fit, nearFrom, count =>
    if (P_holds free (nI place)) = 0 then
      L_fitting_21 ff KT tf im pl knot free k n (place + 1) fit nearFrom count
    else
      if (P_bitCount (P_nearOf tf (nI place))) = count then
        bd (fit ||| (P_bit (nI place))) (fun fit_1 =>
          L_fitting_21 ff KT tf im pl knot free k n (place + 1) fit_1 nearFrom count)
      else
        L_fitting_21 ff KT tf im pl knot free k n (place + 1) fit nearFrom count
def P_fitting (ff : Nat → Int32) (KT : Nat) (tf : Nat → Int32) (im : Nat → Int32) (pl : Int32) (knot : Int32) (free : Int32) : Int32 :=
  bd (P_nearOf ff knot) (fun nearFrom_1 =>
    bd (P_bitCount nearFrom_1) (fun count_2 =>
      L_fitting_21 ff KT tf im pl knot free (fun fit nearFrom count => L_fitting_78 tf im pl (fun fit nearFrom => fit) 16 0 fit nearFrom) KT 0 0 nearFrom_1 count_2))
abbrev rm_X2_fitting : Room := { frames := 1, cells := 0, slots := 0, locals := 21 }
theorem k_X2_fitting (l : Launch) (dC : Nat → ClassId) (dI : Nat → Nat → Nat) (cI cN : ClassId) (d0 : Nat) (f0 : Nat) (f1 : Nat) (t0 : Nat) (t1 : Nat) (d1 : Nat) (KF : Nat) (ff : Nat → Int32) (KT : Nat) (tf : Nat → Int32) (im : Nat → Int32) (pl : Int32) (knot : Int32) (free : Int32) (hKF : KF ≤ 16) (hKT : KT ≤ 16) : Met l yX2_fitting wsX2_fitting rm_X2_fitting (va_Pc [.ref d0, .int knot, .int free] (kW dC dI cI cN [(d0, .inr (2, [.ref f0, .ref t0, .ref d1, .int pl])), (f0, .inr (3, [.ref f1, .int (nI KF)])), (f1, .inl (cI, 16, .inl ff)), (t0, .inr (3, [.ref t1, .int (nI KT)])), (t1, .inl (cI, 16, .inl tf)), (d1, .inl (cI, 16, .inl im))])) (kR (P_fitting ff KT tf im pl knot free)) 0 0 (fun _ => False) := by sorry
def P_place (im : Nat → Int32) (pl : Int32) (knot : Int32) (place : Int32) : (Nat → Int32) × Int32 :=
  if knot < 0 then
    (im, pl)
  else
    if (16 : Int32) ≤ knot then
      (im, pl)
    else
      (upd im (knot).toNatClampNeg place, pl ||| (P_bit knot))
abbrev rm_X2_place : Room := { frames := 1, cells := 0, slots := 0, locals := 20 }
theorem k_X2_place (l : Launch) (dC : Nat → ClassId) (dI : Nat → Nat → Nat) (cI cN : ClassId) (d0 : Nat) (f0 : Nat) (f1 : Nat) (t0 : Nat) (t1 : Nat) (d1 : Nat) (KF : Nat) (ff : Nat → Int32) (KT : Nat) (tf : Nat → Int32) (im : Nat → Int32) (pl : Int32) (knot : Int32) (place : Int32) (hKF : KF ≤ 16) (hKT : KT ≤ 16) (sz : Nat) : Met l yX2_place wsX2_place rm_X2_place (va_Pc [.ref d0, .int knot, .int place] (kU dC dI cI cN [(d0, .inr (2, [.ref f0, .ref t0, .ref d1, .int pl])), (f0, .inr (3, [.ref f1, .int (nI KF)])), (f1, .inl (cI, 16, .inl ff)), (t0, .inr (3, [.ref t1, .int (nI KT)])), (t1, .inl (cI, 16, .inl tf)), (d1, .inl (cI, 16, .inl im))] sz)) (kV dC dI [(d0, .inr (2, [.ref f0, .ref t0, .ref d1, .int ((P_place im pl knot place).2)])), (f0, .inr (3, [.ref f1, .int (nI KF)])), (f1, .inl (cI, 16, .inl ff)), (t0, .inr (3, [.ref t1, .int (nI KT)])), (t1, .inl (cI, 16, .inl tf)), (d1, .inl (cI, 16, .inl ((P_place im pl knot place).1)))] (va_A [(d0, .inr (2, [.ref f0, .ref t0, .ref d1, .int pl])), (f0, .inr (3, [.ref f1, .int (nI KF)])), (f1, .inl (cI, 16, .inl ff)), (t0, .inr (3, [.ref t1, .int (nI KT)])), (t1, .inl (cI, 16, .inl tf)), (d1, .inl (cI, 16, .inl im))] sz)) 0 0 (va_A [(d0, .inr (2, [.ref f0, .ref t0, .ref d1, .int pl])), (f0, .inr (3, [.ref f1, .int (nI KF)])), (f1, .inl (cI, 16, .inl ff)), (t0, .inr (3, [.ref t1, .int (nI KT)])), (t1, .inl (cI, 16, .inl tf)), (d1, .inl (cI, 16, .inl im))] sz) := by sorry
def L_ways_37 (left : Int32) (free : Int32) (most : Int32) (rc : Int32 → Int32 → Int32 → (Nat → Int32) → Int32 → Int32 × (Nat → Int32) × Int32) (k : Int32 → Int32 → Int32 → (Nat → Int32) → Int32 → Int32 × (Nat → Int32) × Int32) : Nat → Nat → Int32 → Int32 → Int32 → (Nat → Int32) → Int32 → Int32 × (Nat → Int32) × Int32
  | 0, place, knot, fit, many, ia, pa => k knot fit many ia pa
  | n + 1, place, knot, fit, many, ia, pa =>
    if most ≤ many then
      k knot fit many ia pa
    else
      if (P_holds fit (nI place)) = 0 then
        L_ways_37 left free most (rc) k n (place + 1) knot fit many ia pa
      else
        bd (P_place ia pa knot (nI place)) (fun r_1 =>
          bd (rc (left &&& ((P_bit knot) ^^^ (-1 : Int32))) (free &&& ((P_bit (nI place)) ^^^ (-1 : Int32))) (most - many) r_1.1 r_1.2) (fun r_2 =>
            bd (many + r_2.1) (fun many_3 =>
              L_ways_37 left free most (rc) k n (place + 1) knot fit many_3 r_2.2.1 (r_2.2.2 &&& ((P_bit knot) ^^^ (-1 : Int32))))))
def P_ways (ff : Nat → Int32) (KF KT : Nat) (tf : Nat → Int32) : Nat → Int32 → Int32 → Int32 → (Nat → Int32) → Int32 → Int32 × (Nat → Int32) × Int32
  | 0, left, free, most, im, pl =>
    if left = 0 then
      (1, im, pl)
    else
      (0, im, pl)
  | n + 1, left, free, most, im, pl =>
    if left = 0 then
      (1, im, pl)
    else
      bd (P_nextToPlace KF ff pl left) (fun knot_5 =>
        bd (P_fitting ff KT tf im pl knot_5 free) (fun fit_6 =>
          L_ways_37 left free most ((P_ways ff KF KT tf n)) (fun knot fit many ia pa => (many, ia, pa)) KT 0 knot_5 fit_6 0 im pl))
abbrev rm_X2_ways (n : Nat) : Room := { frames := 2 + n, cells := 0, slots := 0, locals := 48 + 28 * n }
theorem k_X2_ways (l : Launch) (dC : Nat → ClassId) (dI : Nat → Nat → Nat) (cI cN : ClassId) (d0 f0 f1 t0 t1 d1 : Nat) (KF : Nat) (ff : Nat → Int32) (KT : Nat) (tf : Nat → Int32) (hKF : KF ≤ 16) (hKT : KT ≤ 16) : ∀ (n : Nat) (left : Int32) (free : Int32) (most : Int32) (im : Nat → Int32) (pl : Int32) (dp : Nat) (sz : Nat), dp + n = 16 → Met l yX2_ways wsX2_ways (rm_X2_ways n) (va_Pc [.ref d0, .int left, .int free, .int most, .int (nI dp)] (kU dC dI cI cN [(d0, .inr (2, [.ref f0, .ref t0, .ref d1, .int pl])), (f0, .inr (3, [.ref f1, .int (nI KF)])), (f1, .inl (cI, 16, .inl ff)), (t0, .inr (3, [.ref t1, .int (nI KT)])), (t1, .inl (cI, 16, .inl tf)), (d1, .inl (cI, 16, .inl im))] sz)) (kVi dC dI (P_ways ff KF KT tf n left free most im pl).1 [(d0, .inr (2, [.ref f0, .ref t0, .ref d1, .int ((P_ways ff KF KT tf n left free most im pl).2.2)])), (f0, .inr (3, [.ref f1, .int (nI KF)])), (f1, .inl (cI, 16, .inl ff)), (t0, .inr (3, [.ref t1, .int (nI KT)])), (t1, .inl (cI, 16, .inl tf)), (d1, .inl (cI, 16, .inl ((P_ways ff KF KT tf n left free most im pl).2.1)))] (va_A [(d0, .inr (2, [.ref f0, .ref t0, .ref d1, .int pl])), (f0, .inr (3, [.ref f1, .int (nI KF)])), (f1, .inl (cI, 16, .inl ff)), (t0, .inr (3, [.ref t1, .int (nI KT)])), (t1, .inl (cI, 16, .inl tf)), (d1, .inl (cI, 16, .inl im))] sz)) 0 0 (va_A [(d0, .inr (2, [.ref f0, .ref t0, .ref d1, .int pl])), (f0, .inr (3, [.ref f1, .int (nI KF)])), (f1, .inl (cI, 16, .inl ff)), (t0, .inr (3, [.ref t1, .int (nI KT)])), (t1, .inl (cI, 16, .inl tf)), (d1, .inl (cI, 16, .inl im))] sz) := by sorry
def P_waysOf (ff : Nat → Int32) (KF : Nat) (KT : Nat) (tf : Nat → Int32) (im : Nat → Int32) (pl : Int32) (part : Int32) (other : Int32) (most : Int32) : Int32 × (Nat → Int32) × Int32 :=
  if (P_bitCount part) = (P_bitCount other) then
    bd (P_ways ff KF KT tf 16 part other most im 0) (fun r_2 =>
      (r_2.1, r_2.2.1, r_2.2.2))
  else
    (0, im, pl)
abbrev rm_X2_waysOf : Room := { frames := 19, cells := 0, slots := 0, locals := 524 }
theorem k_X2_waysOf (l : Launch) (dC : Nat → ClassId) (dI : Nat → Nat → Nat) (cI cN : ClassId) (d0 : Nat) (f0 : Nat) (f1 : Nat) (t0 : Nat) (t1 : Nat) (d1 : Nat) (KF : Nat) (ff : Nat → Int32) (KT : Nat) (tf : Nat → Int32) (im : Nat → Int32) (pl : Int32) (part : Int32) (other : Int32) (most : Int32) (hKF : KF ≤ 16) (hKT : KT ≤ 16) (sz : Nat) : Met l yX2_waysOf wsX2_waysOf rm_X2_waysOf (va_Pc [.ref d0, .int part, .int other, .int most] (kU dC dI cI cN [(d0, .inr (2, [.ref f0, .ref t0, .ref d1, .int pl])), (f0, .inr (3, [.ref f1, .int (nI KF)])), (f1, .inl (cI, 16, .inl ff)), (t0, .inr (3, [.ref t1, .int (nI KT)])), (t1, .inl (cI, 16, .inl tf)), (d1, .inl (cI, 16, .inl im))] sz)) (kVi dC dI (P_waysOf ff KF KT tf im pl part other most).1 [(d0, .inr (2, [.ref f0, .ref t0, .ref d1, .int ((P_waysOf ff KF KT tf im pl part other most).2.2)])), (f0, .inr (3, [.ref f1, .int (nI KF)])), (f1, .inl (cI, 16, .inl ff)), (t0, .inr (3, [.ref t1, .int (nI KT)])), (t1, .inl (cI, 16, .inl tf)), (d1, .inl (cI, 16, .inl ((P_waysOf ff KF KT tf im pl part other most).2.1)))] (va_A [(d0, .inr (2, [.ref f0, .ref t0, .ref d1, .int pl])), (f0, .inr (3, [.ref f1, .int (nI KF)])), (f1, .inl (cI, 16, .inl ff)), (t0, .inr (3, [.ref t1, .int (nI KT)])), (t1, .inl (cI, 16, .inl tf)), (d1, .inl (cI, 16, .inl im))] sz)) 0 0 (va_A [(d0, .inr (2, [.ref f0, .ref t0, .ref d1, .int pl])), (f0, .inr (3, [.ref f1, .int (nI KF)])), (f1, .inl (cI, 16, .inl ff)), (t0, .inr (3, [.ref t1, .int (nI KT)])), (t1, .inl (cI, 16, .inl tf)), (d1, .inl (cI, 16, .inl im))] sz) := by sorry
def L_partsLike_8 (ff : Nat → Int32) (KF : Nat) (KT : Nat) (tf : Nat → Int32) (part : Int32) (k : Int32 → Int32 → (Nat → Int32) → Int32 → Int32 × (Nat → Int32) × Int32) : Nat → Nat → Int32 → Int32 → (Nat → Int32) → Int32 → Int32 × (Nat → Int32) × Int32
  | 0, knot, many, left, ia, pa => k many left ia pa
  | n + 1, knot, many, left, ia, pa =>
    if (P_holds left (nI knot)) = 0 then
      L_partsLike_8 ff KF KT tf part k n (knot + 1) many left ia pa
    else
      bd (P_partWith tf (nI knot)) (fun other_1 =>
        bd (P_waysOf ff KF KT tf ia pa part other_1 1) (fun r_2 =>
          bd (many + r_2.1) (fun many_3 =>
            bd (left &&& (other_1 ^^^ (-1 : Int32))) (fun left_4 =>
              L_partsLike_8 ff KF KT tf part k n (knot + 1) many_3 left_4 r_2.2.1 r_2.2.2))))
def P_partsLike (ff : Nat → Int32) (KF : Nat) (KT : Nat) (tf : Nat → Int32) (im : Nat → Int32) (pl : Int32) (part : Int32) (among : Int32) : Int32 × (Nat → Int32) × Int32 :=
  L_partsLike_8 ff KF KT tf part (fun many left ia pa => (many, ia, pa)) KT 0 0 among im pl
abbrev rm_X2_partsLike : Room := { frames := 20, cells := 0, slots := 0, locals := 547 }
theorem k_X2_partsLike (l : Launch) (dC : Nat → ClassId) (dI : Nat → Nat → Nat) (cI cN : ClassId) (d0 : Nat) (f0 : Nat) (f1 : Nat) (t0 : Nat) (t1 : Nat) (d1 : Nat) (KF : Nat) (ff : Nat → Int32) (KT : Nat) (tf : Nat → Int32) (im : Nat → Int32) (pl : Int32) (part : Int32) (among : Int32) (hKF : KF ≤ 16) (hKT : KT ≤ 16) (sz : Nat) : Met l yX2_partsLike wsX2_partsLike rm_X2_partsLike (va_Pc [.ref d0, .int part, .int among] (kU dC dI cI cN [(d0, .inr (2, [.ref f0, .ref t0, .ref d1, .int pl])), (f0, .inr (3, [.ref f1, .int (nI KF)])), (f1, .inl (cI, 16, .inl ff)), (t0, .inr (3, [.ref t1, .int (nI KT)])), (t1, .inl (cI, 16, .inl tf)), (d1, .inl (cI, 16, .inl im))] sz)) (kVi dC dI (P_partsLike ff KF KT tf im pl part among).1 [(d0, .inr (2, [.ref f0, .ref t0, .ref d1, .int ((P_partsLike ff KF KT tf im pl part among).2.2)])), (f0, .inr (3, [.ref f1, .int (nI KF)])), (f1, .inl (cI, 16, .inl ff)), (t0, .inr (3, [.ref t1, .int (nI KT)])), (t1, .inl (cI, 16, .inl tf)), (d1, .inl (cI, 16, .inl ((P_partsLike ff KF KT tf im pl part among).2.1)))] (va_A [(d0, .inr (2, [.ref f0, .ref t0, .ref d1, .int pl])), (f0, .inr (3, [.ref f1, .int (nI KF)])), (f1, .inl (cI, 16, .inl ff)), (t0, .inr (3, [.ref t1, .int (nI KT)])), (t1, .inl (cI, 16, .inl tf)), (d1, .inl (cI, 16, .inl im))] sz)) 0 0 (va_A [(d0, .inr (2, [.ref f0, .ref t0, .ref d1, .int pl])), (f0, .inr (3, [.ref f1, .int (nI KF)])), (f1, .inl (cI, 16, .inl ff)), (t0, .inr (3, [.ref t1, .int (nI KT)])), (t1, .inl (cI, 16, .inl tf)), (d1, .inl (cI, 16, .inl im))] sz) := by sorry
def L_partMatching_5 (ff : Nat → Int32) (KF : Nat) (KT : Nat) (tf : Nat → Int32) (part : Int32) (k : Int32 → (Nat → Int32) → Int32 → Int32 × (Nat → Int32) × Int32) : Nat → Nat → Int32 → (Nat → Int32) → Int32 → Int32 × (Nat → Int32) × Int32
  | 0, knot, left, ia, pa => k left ia pa
  | n + 1, knot, left, ia, pa =>
    if (P_holds left (nI knot)) = 0 then
      L_partMatching_5 ff KF KT tf part k n (knot + 1) left ia pa
    else
      bd (P_partWith tf (nI knot)) (fun other_1 =>
        bd (P_waysOf ff KF KT tf ia pa part other_1 1) (fun r_2 =>
          if r_2.1 ≤ 0 then
            bd (left &&& (other_1 ^^^ (-1 : Int32))) (fun left_3 =>
              L_partMatching_5 ff KF KT tf part k n (knot + 1) left_3 r_2.2.1 r_2.2.2)
          else
            (other_1, r_2.2.1, r_2.2.2)))
def P_partMatching (ff : Nat → Int32) (KF : Nat) (KT : Nat) (tf : Nat → Int32) (im : Nat → Int32) (pl : Int32) (part : Int32) (among : Int32) : Int32 × (Nat → Int32) × Int32 :=
  L_partMatching_5 ff KF KT tf part (fun left ia pa => (0, ia, pa)) KT 0 among im pl
abbrev rm_X2_partMatching : Room := { frames := 20, cells := 0, slots := 0, locals := 547 }
theorem k_X2_partMatching (l : Launch) (dC : Nat → ClassId) (dI : Nat → Nat → Nat) (cI cN : ClassId) (d0 : Nat) (f0 : Nat) (f1 : Nat) (t0 : Nat) (t1 : Nat) (d1 : Nat) (KF : Nat) (ff : Nat → Int32) (KT : Nat) (tf : Nat → Int32) (im : Nat → Int32) (pl : Int32) (part : Int32) (among : Int32) (hKF : KF ≤ 16) (hKT : KT ≤ 16) (sz : Nat) : Met l yX2_partMatching wsX2_partMatching rm_X2_partMatching (va_Pc [.ref d0, .int part, .int among] (kU dC dI cI cN [(d0, .inr (2, [.ref f0, .ref t0, .ref d1, .int pl])), (f0, .inr (3, [.ref f1, .int (nI KF)])), (f1, .inl (cI, 16, .inl ff)), (t0, .inr (3, [.ref t1, .int (nI KT)])), (t1, .inl (cI, 16, .inl tf)), (d1, .inl (cI, 16, .inl im))] sz)) (kVi dC dI (P_partMatching ff KF KT tf im pl part among).1 [(d0, .inr (2, [.ref f0, .ref t0, .ref d1, .int ((P_partMatching ff KF KT tf im pl part among).2.2)])), (f0, .inr (3, [.ref f1, .int (nI KF)])), (f1, .inl (cI, 16, .inl ff)), (t0, .inr (3, [.ref t1, .int (nI KT)])), (t1, .inl (cI, 16, .inl tf)), (d1, .inl (cI, 16, .inl ((P_partMatching ff KF KT tf im pl part among).2.1)))] (va_A [(d0, .inr (2, [.ref f0, .ref t0, .ref d1, .int pl])), (f0, .inr (3, [.ref f1, .int (nI KF)])), (f1, .inl (cI, 16, .inl ff)), (t0, .inr (3, [.ref t1, .int (nI KT)])), (t1, .inl (cI, 16, .inl tf)), (d1, .inl (cI, 16, .inl im))] sz)) 0 0 (va_A [(d0, .inr (2, [.ref f0, .ref t0, .ref d1, .int pl])), (f0, .inr (3, [.ref f1, .int (nI KF)])), (f1, .inl (cI, 16, .inl ff)), (t0, .inr (3, [.ref t1, .int (nI KT)])), (t1, .inl (cI, 16, .inl tf)), (d1, .inl (cI, 16, .inl im))] sz) := by sorry
end
section
/-! the class's own exceptions: what a throw takes as given (printed by wip/gen/pre2.py) -/
def kCls : Nat → String
  | 1 => "java/lang/IllegalArgumentException"
  | 2 => "java/lang/IndexOutOfBoundsException"
  | _ => "java/lang/IllegalStateException"
def sb {α β : Type} (x : α ⊕ Nat) (f : α → β ⊕ Nat) : β ⊕ Nat := match x with
  | .inl v => f v
  | .inr k => .inr k
theorem sb_l {α β : Type} {x : α ⊕ Nat} {f : α → β ⊕ Nat} {z : β ⊕ Nat} {v : α} (h : sb x f = z) (e : x = .inl v) : f v = z := by subst e; exact h
theorem sb_r {α β : Type} {x : α ⊕ Nat} {f : α → β ⊕ Nat} {z : β ⊕ Nat} {k : Nat} (h : sb x f = z) (e : x = .inr k) : .inr k = z := by subst e; exact h
def kSL : List (Nat × String) := [(68, "knots is not 3 to 16"), (93, "no such knot"), (96, "both are the same"), (108, "a count would be above 5"), (121, "jumps is no set of 1 to knots / 2"), (137, "marks is no set of edges"), (139, "no knots, or more than 8"), (156, "no such edge"), (168, "length is not 4 to 8"), (170, "seed is not 0 to 9999"), (172, "rounds is not 1 to 20"), (174, "fewer than two edges"), (183, "no knots"), (191, "steps is not 1 to 400"), (197, "no aim"), (215, "what is not 0 to 7"), (233, "what is not 0 to 10"), (253, "what is not 0 to 5"), (275, "what is not 0 to 3"), (290, "length is not 3 to 7"), (309, "no knots, or 5 are kept"), (315, "none is kept there"), (382, "count is not 2 to 5"), (384, "length is not 3 to 8")]
def kNs : List String := ["java/lang/RuntimeException", "java/lang/Exception"]
abbrev kDe : List Cond := [.declares (Bundle.initS "java/lang/RuntimeException"), .declares (Bundle.initS "java/lang/Exception"), .declares (Bundle.initS Bundle.tN)]
def kE (A : Nat → Prop) (U : State) (H : Heap) : Prop := (∀ k : Nat, va_Nw (.castable (kCls k) (kCls k)) U) ∧ (va_Nw (.declares (Bundle.initS "java/lang/RuntimeException")) U ∧ va_Nw (.declares (Bundle.initS "java/lang/Exception")) U ∧ va_Nw (.declares (Bundle.initS Bundle.tN)) U) ∧ (∀ (i : Nat) (q : Nat × String), kSL[i]? = some q → ∃ sa : Nat, vk_R RX6 q.1 q.2 sa U) ∧ vx_Zq Bundle.tN "UNASSIGNED_STACK" Bundle.steD A U H ∧ vx_Zq Bundle.tN "SUPPRESSED_SENTINEL" Bundle.listD A U H
theorem kE_kept {A : Nat → Prop} {U : State} {H H1 : Heap} (h : kE A U H) (hq : ∀ a : Nat, a < H.size → ¬ A a → H1[a]? = H[a]?) : kE A U H1 := by sorry
theorem kE_narrow {A B : Nat → Prop} {U : State} {H : Heap} (h : kE A U H) (hAB : ∀ q, B q → A q) : kE B U H := by sorry
theorem kE_warm {A : Nat → Prop} {s U : State} {H : Heap} (hW : s.WarmedH U.vm) (h : kE A s H) : kE A U H := by sorry
theorem kE_same {A : Nat → Prop} {u U : State} {H : Heap} (e : u.vm = U.vm) (h : kE A u H) : kE A U H := by sorry
theorem kE_hat {A : Nat → Prop} {args : Array Value} {s : State} {H : Heap} (h : kE A s H) {ic : Nat} (k : Nat) (h1 : ∀ w ∈ (vx_atS RX6 ic (kCls k) kNs).filter goodWord, w.before args s = true) (h2 : ∀ w ∈ (vx_atS RX6 ic (kCls k) kNs).filter (fun w => !goodWord w), w ∈ Cond.castable (kCls k) (kCls k) :: kDe) : ∀ w ∈ vx_atS RX6 ic (kCls k) kNs, w.before args s = true := by sorry
/-- the start of a method that may throw: nothing is written, what a throw wants is there -/
def kWE (dC : Nat → ClassId) (dI : Nat → Nat → Nat) (cI cN : ClassId) (ws : va_W) (U : State) : Prop := kW dC dI cI cN ws U ∧ kE (fun _ => False) U U.heap
theorem kWE_blind {dC : Nat → ClassId} {dI : Nat → Nat → Nat} {cI cN : ClassId} {ws : va_W} {As : List Value} : FrameBlind (va_Pc As (kWE dC dI cI cN ws)) := by sorry
theorem kWE_V {dC : Nat → ClassId} {dI : Nat → Nat → Nat} {cI cN : ClassId} {W wc : va_W} {A A1 : Nat → Prop} {H : Heap} {s : State} {b q0 ci : Nat} {q : vw_C} {fs : List Value} {As : List Value} (hP : va_P (dC, dI) kCl W H) (hK : va_K (dC, dI) kCl (kT cI cN) s) (hD : va_D A W) (hN : kN s) (hE : kE A1 s H)
    (hc : kCl[ci]? = some q) (he : W[q0]? = some (b, .inr (ci, fs))) (is : List Nat) (h0 : va_nd is = true) (h1 : is.filterMap (fun i => W[i]?) = wc) (h2 : is.map (fun i => W[i]?) = wc.map some) : PreV s H q.1 b (va_Pc (.ref b :: As) (kWE dC dI cI cN wc)) As := by sorry
/-- it throws an exception of class k, and nothing that was there has changed -/
def kX (k : Nat) : String → State → State → Prop := vx_X (fun (_ : Unit) => True) (fun E _ _ => E = kCls k) (fun _ => False)
def kNoi : Array Value → State → Outcome → State → Prop := va_Qi (fun _ (_ : Unit) => False) (fun _ _ => True) (fun _ => False)
def kNov : Array Value → State → Outcome → State → Prop := va_Qv (fun (_ : Unit) => False) (fun _ _ => True) (fun _ => False)
theorem kX_of {k k1 : Nat} {s t : State} {H : Heap} {locs : List Loc} (e : k = k1) (hS : va_S (fun _ => False) s.heap H locs) (h1 : H.size ≤ t.heap.size) (h2 : ∀ q : Nat, q < H.size → t.heap[q]? = H[q]?) : kX k1 (kCls k) s t := by sorry
section KTHROW
variable {p : Program} {l : Launch} {e : Env} {R : Room} {s : State} {m : MethodId} {args : Array Value} {below : List Frame} {meth : Method} {c : Code} {H : Heap} {locs : List Loc}
variable {pc : Nat} {ls : Array Slot} {rest : List Value} {cc : ByteArray} {Qc : Array Value → State → Outcome → State → Prop}
theorem kThrowS {k1 : Nat} (hexec : p.tables.exec = Jvm.exec) (hb : c.code = cc) (hl : l.stackTraces = false) (hown : s.vm.findClass RX6 = some m.cls) (k : Nat) {ik is ic : Nat} {text : String} (he : k = k1) (hfit : Bundle.fit (kCls k) = true)
    (hk : (Cond.classLink RX6 ik (kCls k)).before args s = true) (hini : (Cond.initialized (kCls k)).before args s = true) (i : Nat) (hi : kSL[i]? = some (is, text))
    (h1 : ∀ w ∈ (vx_atS RX6 ic (kCls k) kNs).filter goodWord, w.before args s = true) (h2 : ∀ w ∈ (vx_atS RX6 ic (kCls k) kNs).filter (fun w => !goodWord w), w ∈ Cond.castable (kCls k) (kCls k) :: kDe)
    (hg : ∀ w ∈ Cond.classLink RX6 ik (kCls k) :: Cond.initialized (kCls k) :: vx_atS RX6 ic (kCls k) kNs, vx_ot w = true)
    (hE : kE (fun _ => False) s s.heap) (hS : va_S (fun _ => False) s.heap H locs) (hsize : ls.size = c.maxLocals)
    (d0 : decode cc pc = .ok (.new ik, 3)) (d3 : decode cc (pc + 3) = .ok (.dup, 1)) (d4 : decode cc (pc + 4) = .ok (.ldc is, 2)) (d6 : decode cc (pc + 6) = .ok (.invokespecial ic, 3)) (d9 : decode cc (pc + 9) = .ok (.athrow, 1))
    (hout : ∀ x ∈ c.exceptionTable.toList, False) (hRf : 5 < R.frames) (hRl : (rest.map fun v => v.category).sum + 82 ≤ R.locals) (hRc : 1 ≤ R.cells) (hRs : 6 ≤ R.slots) (hlocks : meth.locks = false) :
    W p l e R s m args below meth c H locs 0 0 (vx_MQ below Qc (kX k1) args s 1 6 (fun _ => False)) (F0 m pc ls rest) := by sorry
theorem kThrowSW {k1 : Nat} (hexec : p.tables.exec = Jvm.exec) (hb : c.code = cc) (hl : l.stackTraces = false) (hown : s.vm.findClass RX6 = some m.cls) (k : Nat) {ik is ic : Nat} {text : String} (he : k = k1) (hfit : Bundle.fit (kCls k) = true)
    (hk : (Cond.classLink RX6 ik (kCls k)).before args s = true) (hini : (Cond.initialized (kCls k)).before args s = true) (i : Nat) (hi : kSL[i]? = some (is, text))
    (h1 : ∀ w ∈ (vx_atS RX6 ic (kCls k) kNs).filter goodWord, w.before args s = true) (h2 : ∀ w ∈ (vx_atS RX6 ic (kCls k) kNs).filter (fun w => !goodWord w), w ∈ Cond.castable (kCls k) (kCls k) :: kDe)
    (hg : ∀ w ∈ Cond.classLink RX6 ik (kCls k) :: Cond.initialized (kCls k) :: vx_atS RX6 ic (kCls k) kNs, vx_ot w = true)
    (hE : kE (fun _ => False) s s.heap) (hS : va_S (fun _ => False) s.heap H locs) (hsize : ls.size = c.maxLocals)
    (d0 : decode cc pc = .ok (.new ik, 3)) (d3 : decode cc (pc + 3) = .ok (.dup, 1)) (d4 : decode cc (pc + 4) = .ok (.ldc_w is, 3)) (d7 : decode cc (pc + 7) = .ok (.invokespecial ic, 3)) (d10 : decode cc (pc + 10) = .ok (.athrow, 1))
    (hout : ∀ x ∈ c.exceptionTable.toList, False) (hRf : 5 < R.frames) (hRl : (rest.map fun v => v.category).sum + 82 ≤ R.locals) (hRc : 1 ≤ R.cells) (hRs : 6 ≤ R.slots) (hlocks : meth.locks = false) :
    W p l e R s m args below meth c H locs 0 0 (vx_MQ below Qc (kX k1) args s 1 6 (fun _ => False)) (F0 m pc ls rest) := by sorry
end KTHROW
theorem kBad1 : ∀ w ∈ (vx_atS RX6 70 (kCls 1) kNs).filter (fun w => !goodWord w), w ∈ Cond.castable (kCls 1) (kCls 1) :: kDe := by decide +kernel
theorem kOt1 : ∀ w ∈ vx_atS RX6 70 (kCls 1) kNs, vx_ot w = true := by decide +kernel
theorem kBad2 : ∀ w ∈ (vx_atS RX6 95 (kCls 2) kNs).filter (fun w => !goodWord w), w ∈ Cond.castable (kCls 2) (kCls 2) :: kDe := by decide +kernel
theorem kOt2 : ∀ w ∈ vx_atS RX6 95 (kCls 2) kNs, vx_ot w = true := by decide +kernel
theorem kBad3 : ∀ w ∈ (vx_atS RX6 110 (kCls 3) kNs).filter (fun w => !goodWord w), w ∈ Cond.castable (kCls 3) (kCls 3) :: kDe := by decide +kernel
theorem kOt3 : ∀ w ∈ vx_atS RX6 110 (kCls 3) kNs, vx_ot w = true := by decide +kernel
section KXCALL
variable {p : Program} {l : Launch} {e : Env} {R : Room} {s : State} {m : MethodId} {args : Array Value} {below : List Frame} {meth : Method} {c : Code} {H : Heap} {locs : List Loc}
variable {pc : Nat} {ls : Array Slot} {rest st0 : List Value} {Qc : Array Value → State → Outcome → State → Prop} {a : Array Value}
/-- a callee's exception isn't caught here: it leaves -/
theorem kXcallv {k1 kx : Nat} (he : k1 = kx) (hxt : ∀ x ∈ c.exceptionTable.toList, False) (hlocks : meth.locks = false) (hr : vx_Run p l e R s m args below meth c H locs 0 0 1 6 (F0 m pc ls st0) rest (kNov a) (kX k1) (fun _ => False)) (hS : va_S (fun _ => False) s.heap H locs) :
    W p l e R s m args below meth c H locs 0 0 (vx_MQ below Qc (kX kx) args s 1 6 (fun _ => False)) (F0 m pc ls st0) := by sorry
theorem kXcalli {k1 kx : Nat} (he : k1 = kx) (hxt : ∀ x ∈ c.exceptionTable.toList, False) (hlocks : meth.locks = false) (hr : vx_Run p l e R s m args below meth c H locs 0 0 1 6 (F0 m pc ls st0) rest (kNoi a) (kX k1) (fun _ => False)) (hS : va_S (fun _ => False) s.heap H locs) :
    W p l e R s m args below meth c H locs 0 0 (vx_MQ below Qc (kX kx) args s 1 6 (fun _ => False)) (F0 m pc ls st0) := by sorry
end KXCALL
theorem kNoway {α : Type} {x : α ⊕ Nat} {k : Nat} {P : Prop} (h : x = .inr k) (h2 : ∃ v : α, x = .inl v) : P := by
  obtain ⟨v, e⟩ := h2
  rw [e] at h
  cases h
theorem kHg {L : List Cond} {a b : Cond} (h : ∀ w ∈ L, vx_ot w = true) (ha : vx_ot a = true := by rfl) (hb : vx_ot b = true := by rfl) : ∀ w ∈ a :: b :: L, vx_ot w = true := by sorry
def kR0 : Array Value → State → Outcome → State → Prop := va_Qv (fun (_ : Unit) => True) (fun _ _ => True) (fun _ => False)
theorem kR0_end {a : Array Value} {s t : State} {H : Heap} {locs : List Loc} (hS : va_S (fun _ => False) s.heap H locs) (ht : t.heap = H) : kR0 a s (.returned none) t := ⟨⟨(), rfl, trivial, trivial⟩, hS.F ht⟩
theorem kCall0 {p : Program} {l : Launch} {e : Env} {R : Room} {s : State} {m : MethodId} {args : Array Value} {below : List Frame} {meth : Method} {c : Code} {H : Heap} {locs : List Loc} {cells slots : Nat} {Q : State → Prop} {pc : Nat} {ls : Array Slot} {rest st0 : List Value} {D : va_G} {cl : List vw_C} {A0 : Nat → Prop} {ws : va_W} {H0 : Heap} {a : Array Value}
    (hr : va_Run p l e R s m args below meth c H locs cells slots 0 0 (F0 m pc ls st0) rest (kR0 a) (fun _ => False)) (hP : va_P D cl ws H) (hS : va_S A0 H0 H locs)
    (kk : ∀ (H1 : Heap) (locs1 : List Loc), va_P D cl ws H1 → va_S A0 H0 H1 locs1 → W p l e R s m args below meth c H1 locs1 cells slots Q (F0 m (pc + 3) ls rest)) : W p l e R s m args below meth c H locs cells slots Q (F0 m pc ls st0) := by sorry
theorem kWithin {M lo hi : Nat} (hM : M < 2 ^ 32) (hhi : hi < 2 ^ 31) (hlo : lo < 2 ^ 31) (h : ¬ P_isWithin (nI M) (nI lo) (nI hi) = 0) : lo ≤ M ∧ M ≤ hi := by sorry
theorem P_isNear_bv {x : Int32} {f : Nat → Int32} {one other : Int32} (e : x = P_isNear f one other) : x = 0 ∨ x = 1 := by rw [e]; exact P_holds_b _ _

end
section
/-! constructors: what they make (printed by wip/gen/pre3.py) -/
def kNW (dC : Nat → ClassId) (dI : Nat → Nat → Nat) (Φ : va_W → Prop) (A : Nat → Prop) : Array Value → State → Outcome → State → Prop := va_Qv (fun (_ : Unit) => True) (fun _ t => ∃ w : va_W, Φ w ∧ va_P (dC, dI) kCl w t.heap ∧ va_D A w) A
theorem kNW_end {dC : Nat → ClassId} {dI : Nat → Nat → Nat} {Φ : va_W → Prop} {A : Nat → Prop} {a : Array Value} {s t : State} {H : Heap} {locs : List Loc} {w : va_W} (hφ : Φ w) (hP : va_P (dC, dI) kCl w H) (hD : va_D A w) (hS : va_S A s.heap H locs) (ht : t.heap = H) : kNW dC dI Φ A a s (.returned none) t := by sorry
theorem kSameI {D : va_G} {cl : List vw_C} {cI cN cA : ClassId} {U : State} (h : va_K D cl (kT cI cN ++ [(cA, .int)]) U) : cA = cI := by sorry
theorem kSameN {D : va_G} {cl : List vw_C} {cI cN cA : ClassId} {U : State} (h : va_K D cl (kT cI cN ++ [(cA, .object "Shortring$Net")]) U) : cA = cN := by sorry
section KCALLN
variable {p : Program} {l : Launch} {e : Env} {R : Room} {s : State} {m : MethodId} {args : Array Value} {below : List Frame} {meth : Method} {c : Code} {H : Heap} {locs : List Loc} {cells slots mc ms : Nat} {Q : State → Prop}
variable {pc : Nat} {ls : Array Slot} {rest st0 : List Value} {dC : Nat → ClassId} {dI : Nat → Nat → Nat} {A0 : Nat → Prop} {Z wc wr : va_W} {Φ : va_W → Prop} {H0 : Heap} {a : Array Value}
theorem kCallN (hr : va_Run p l e R s m args below meth c H locs cells slots mc ms (F0 m pc ls st0) rest (kNW dC dI Φ (va_A wc H.size) a) (va_A wc H.size)) (hP : va_P (dC, dI) kCl Z H) (hD : va_D A0 Z) (hS : va_S A0 H0 H locs) (hA : ∀ q : Nat, H0.size ≤ q → A0 q)
    (isC isR : List Nat) (hC : isC.map (fun i => Z[i]?) = wc.map some) (hR : isR.map (fun i => Z[i]?) = wr.map some) (hn : va_nd isR = true) (hdis : ∀ i ∈ isR, i ∉ isC)
    (kk : ∀ (H1 : Heap) (locs1 : List Loc) (w : va_W), Φ w → va_P (dC, dI) kCl (wr ++ w) H1 → va_D A0 (wr ++ w) → va_S A0 H0 H1 locs1 → W p l e R s m args below meth c H1 locs1 (cells + mc) (slots + ms) Q (F0 m (pc + 3) ls rest)) : W p l e R s m args below meth c H locs cells slots Q (F0 m pc ls st0) := by sorry
end KCALLN
/-! constructors (printed by wip/gen) -/
abbrev rm_X3_init : Room := { frames := 1, cells := 1, slots := 16, locals := 12 }
theorem k_X3_init (l : Launch) (dC : Nat → ClassId) (dI : Nat → Nat → Nat) (cI cN : ClassId) (o0 : Nat) (sz : Nat) : Met l yX3_init wsX3_init rm_X3_init (va_Pc [.ref o0] (kU dC dI cI cN [(o0, .inr (3, [.null, .int 0]))] sz)) (kNW dC dI (fun w : va_W => ∃ (w_1 : Nat), w = [(o0, .inr (3, [.ref w_1, .int 0])), (w_1, .inl (cI, 16, .inl (fun _ => 0)))]) (va_A [(o0, .inr (3, [.null, .int 0]))] sz)) 1 16 (va_A [(o0, .inr (3, [.null, .int 0]))] sz) := by sorry
abbrev rm_X0_init : Room := { frames := 1, cells := 4, slots := 216, locals := 12 }
theorem k_X0_init (l : Launch) (dC : Nat → ClassId) (dI : Nat → Nat → Nat) (cI cN : ClassId) (o0 : Nat) (sz : Nat) : Met l yX0_init wsX0_init rm_X0_init (va_Pc [.ref o0] (kU dC dI cI cN [(o0, .inr (0, [.null, .null, .null, .null, .int 0, .int 0, .int 0, .int 0, .int 0, .int 0, .int 0]))] sz)) (kNW dC dI (fun w : va_W => ∃ (w_1 w_2 w_3 w_4 : Nat), w = [(o0, .inr (0, [.ref w_1, .ref w_2, .ref w_3, .ref w_4, .int 0, .int 0, .int 0, .int 0, .int 0, .int 0, .int 0])), (w_1, .inl (cI, 16, .inl (fun _ => 0))), (w_2, .inl (cI, 120, .inl (fun _ => 0))), (w_3, .inl (cI, 40, .inl (fun _ => 0))), (w_4, .inl (cI, 40, .inl (fun _ => 0)))]) (va_A [(o0, .inr (0, [.null, .null, .null, .null, .int 0, .int 0, .int 0, .int 0, .int 0, .int 0, .int 0]))] sz)) 4 216 (va_A [(o0, .inr (0, [.null, .null, .null, .null, .int 0, .int 0, .int 0, .int 0, .int 0, .int 0, .int 0]))] sz) := by sorry
abbrev rm_X1_init : Room := { frames := 1, cells := 2, slots := 156, locals := 12 }
theorem k_X1_init (l : Launch) (dC : Nat → ClassId) (dI : Nat → Nat → Nat) (cI cN : ClassId) (o0 : Nat) (sz : Nat) : Met l yX1_init wsX1_init rm_X1_init (va_Pc [.ref o0] (kU dC dI cI cN [(o0, .inr (1, [.null, .null]))] sz)) (kNW dC dI (fun w : va_W => ∃ (w_1 w_2 : Nat), w = [(o0, .inr (1, [.ref w_1, .ref w_2])), (w_1, .inl (cI, 102, .inl (fun _ => 0))), (w_2, .inl (cI, 54, .inl (fun _ => 0)))]) (va_A [(o0, .inr (1, [.null, .null]))] sz)) 2 156 (va_A [(o0, .inr (1, [.null, .null]))] sz) := by sorry
abbrev rm_X2_init : Room := { frames := 2, cells := 5, slots := 52, locals := 32 }
theorem k_X2_init (l : Launch) (dC : Nat → ClassId) (dI : Nat → Nat → Nat) (cI cN : ClassId) (o0 : Nat) (sz : Nat) : Met l yX2_init wsX2_init rm_X2_init (va_Pc [.ref o0] (kU dC dI cI cN [(o0, .inr (2, [.null, .null, .null, .int 0]))] sz)) (kNW dC dI (fun w : va_W => ∃ (w_1 w_2 w_3 w_4 w_5 : Nat), w = [(o0, .inr (2, [.ref w_1, .ref w_3, .ref w_5, .int 0])), (w_1, .inr (3, [.ref w_2, .int 0])), (w_2, .inl (cI, 16, .inl (fun _ => 0))), (w_3, .inr (3, [.ref w_4, .int 0])), (w_4, .inl (cI, 16, .inl (fun _ => 0))), (w_5, .inl (cI, 16, .inl (fun _ => 0)))]) (va_A [(o0, .inr (2, [.null, .null, .null, .int 0]))] sz)) 5 52 (va_A [(o0, .inr (2, [.null, .null, .null, .int 0]))] sz) := by sorry
abbrev rm_X4_init : Room := { frames := 1, cells := 1, slots := 6, locals := 12 }
theorem k_X4_init (l : Launch) (dC : Nat → ClassId) (dI : Nat → Nat → Nat) (cI cN : ClassId) (o0 : Nat) (sz : Nat) : Met l yX4_init wsX4_init rm_X4_init (va_Pc [.ref o0] (kU dC dI cI cN [(o0, .inr (4, [.null]))] sz)) (kNW dC dI (fun w : va_W => ∃ (w_1 : Nat), w = [(o0, .inr (4, [.ref w_1])), (w_1, .inl (cI, 6, .inl (fun _ => 0)))]) (va_A [(o0, .inr (4, [.null]))] sz)) 1 6 (va_A [(o0, .inr (4, [.null]))] sz) := by sorry
abbrev rm_X6_init : Room := { frames := 3, cells := 22, slots := 497, locals := 52 }
theorem k_X6_init (l : Launch) (dC : Nat → ClassId) (dI : Nat → Nat → Nat) (cI cN : ClassId) (o0 : Nat) (sz : Nat) : Met l yX6_init wsX6_init rm_X6_init (va_Pc [.ref o0] (fun U => kU dC dI cI cN [(o0, .inr (5, [.null, .null, .null, .null, .null, .null, .null, .null, .int 0, .int 0]))] sz U ∧ va_AO RX3 U)) (kNW dC dI (fun w : va_W => ∃ (w_1 w_2 w_3 w_4 w_5 w_6 w_7 w_8 w_9 w_10 w_11 w_12 w_13 w_14 w_15 w_16 w_17 w_18 w_19 w_20 w_21 w_22 : Nat), w = [(o0, .inr (5, [.ref w_1, .ref w_3, .ref w_5, .ref w_6, .ref w_11, .ref w_14, .ref w_20, .ref w_22, .int 0, .int 0])), (w_1, .inr (3, [.ref w_2, .int 0])), (w_2, .inl (cI, 16, .inl (fun _ => 0))), (w_3, .inr (3, [.ref w_4, .int 0])), (w_4, .inl (cI, 16, .inl (fun _ => 0))), (w_5, .inl (cN, 5, .inr (.inr (.inr (.inr (fun _ => none)))))), (w_6, .inr (0, [.ref w_7, .ref w_8, .ref w_9, .ref w_10, .int 0, .int 0, .int 0, .int 0, .int 0, .int 0, .int 0])), (w_7, .inl (cI, 16, .inl (fun _ => 0))), (w_8, .inl (cI, 120, .inl (fun _ => 0))), (w_9, .inl (cI, 40, .inl (fun _ => 0))), (w_10, .inl (cI, 40, .inl (fun _ => 0))), (w_11, .inr (1, [.ref w_12, .ref w_13])), (w_12, .inl (cI, 102, .inl (fun _ => 0))), (w_13, .inl (cI, 54, .inl (fun _ => 0))), (w_14, .inr (2, [.ref w_15, .ref w_17, .ref w_19, .int 0])), (w_15, .inr (3, [.ref w_16, .int 0])), (w_16, .inl (cI, 16, .inl (fun _ => 0))), (w_17, .inr (3, [.ref w_18, .int 0])), (w_18, .inl (cI, 16, .inl (fun _ => 0))), (w_19, .inl (cI, 16, .inl (fun _ => 0))), (w_20, .inr (4, [.ref w_21])), (w_21, .inl (cI, 6, .inl (fun _ => 0))), (w_22, .inl (cI, 8, .inl (fun _ => 0)))]) (va_A [(o0, .inr (5, [.null, .null, .null, .null, .null, .null, .null, .null, .int 0, .int 0]))] sz)) 22 497 (va_A [(o0, .inr (5, [.null, .null, .null, .null, .null, .null, .null, .null, .int 0, .int 0]))] sz) := by sorry
end
section
/-! the object: its inner methods (printed by wip/gen) -/
def P_countByJumps (knots : Int32) (jumps : Int32) : Int32 :=
  bd ((2 : Int32) * (P_bitCount jumps)) (fun count_1 =>
    if (knots - knots / (2 : Int32) * (2 : Int32)) = 0 then
      if (P_holds jumps (knots / (2 : Int32))) = 0 then
        count_1
      else
        count_1 - (1 : Int32)
    else
      count_1)
abbrev rm_X6_countByJumps : Room := { frames := 1, cells := 0, slots := 0, locals := 21 }
theorem k_X6_countByJumps (l : Launch) (dC : Nat → ClassId) (dI : Nat → Nat → Nat) (cI cN : ClassId) (knots : Int32) (jumps : Int32) : Met l yX6_countByJumps wsX6_countByJumps rm_X6_countByJumps (va_Pc [.int knots, .int jumps] (kW dC dI cI cN [])) (kR (P_countByJumps knots jumps)) 0 0 (fun _ => False) := by sorry
def P_turned (pair : Int32) (isTurned : Int32) : Int32 :=
  if isTurned = 0 then
    pair
  else
    P_pairOf (P_otherOf pair) (P_oneOf pair)
abbrev rm_X6_turned : Room := { frames := 1, cells := 0, slots := 0, locals := 21 }
theorem k_X6_turned (l : Launch) (dC : Nat → ClassId) (dI : Nat → Nat → Nat) (cI cN : ClassId) (pair : Int32) (isTurned : Int32) : Met l yX6_turned wsX6_turned rm_X6_turned (va_Pc [.int pair, .int isTurned] (kW dC dI cI cN [])) (kR (P_turned pair isTurned)) 0 0 (fun _ => False) := by sorry
def P_canExchange (f : Nat → Int32) (pair : Int32) (pairToo : Int32) : Int32 :=
  bd ((((P_bit (P_oneOf pair)) ||| (P_bit (P_otherOf pair))) ||| (P_bit (P_oneOf pairToo))) ||| (P_bit (P_otherOf pairToo))) (fun knots_1 =>
    if (P_bitCount knots_1) = (4 : Int32) then
      if (P_isNear f (P_oneOf pair) (P_oneOf pairToo)) = 0 then
        if (P_isNear f (P_otherOf pair) (P_otherOf pairToo)) = 0 then
          1
        else
          0
      else
        0
    else
      0)
abbrev rm_X6_canExchange : Room := { frames := 2, cells := 0, slots := 0, locals := 43 }
theorem k_X6_canExchange (l : Launch) (dC : Nat → ClassId) (dI : Nat → Nat → Nat) (cI cN : ClassId) (s0 : Nat) (sc0 : Nat) (kp0 : Nat) (ta0 : Nat) (km : Int32) (rf : Int32) (a0 : Nat) (q0 : Nat) (d0 : Nat) (c0 : Nat) (h0 : Nat) (h1 : Nat) (K : Nat) (f : Nat → Int32) (pair : Int32) (pairToo : Int32) (hK : K ≤ 16) : Met l yX6_canExchange wsX6_canExchange rm_X6_canExchange (va_Pc [.ref s0, .int pair, .int pairToo] (kW dC dI cI cN [(s0, .inr (5, [.ref h0, .ref sc0, .ref kp0, .ref a0, .ref q0, .ref d0, .ref c0, .ref ta0, .int km, .int rf])), (h0, .inr (3, [.ref h1, .int (nI K)])), (h1, .inl (cI, 16, .inl f))])) (kR (P_canExchange f pair pairToo)) 0 0 (fun _ => False) := by sorry
theorem P_canExchange_b (f : Nat → Int32) (pair pairToo : Int32) : P_canExchange f pair pairToo = 0 ∨ P_canExchange f pair pairToo = 1 := by sorry
def P_exchange (K : Nat) (f : Nat → Int32) (pair : Int32) (pairToo : Int32) : Nat → Int32 :=
  bd (P_loosen K f (P_oneOf pair) (P_otherOf pair)) (fun r_1 =>
    bd (P_loosen K r_1 (P_oneOf pairToo) (P_otherOf pairToo)) (fun r_2 =>
      bd (P_join K r_2 (P_oneOf pair) (P_oneOf pairToo)) (fun r_3 =>
        bd (P_join K r_3 (P_otherOf pair) (P_otherOf pairToo)) (fun r_4 =>
          r_4))))
abbrev rm_X6_exchange : Room := { frames := 2, cells := 0, slots := 0, locals := 43 }
theorem k_X6_exchange (l : Launch) (dC : Nat → ClassId) (dI : Nat → Nat → Nat) (cI cN : ClassId) (s0 : Nat) (sc0 : Nat) (kp0 : Nat) (ta0 : Nat) (km : Int32) (rf : Int32) (a0 : Nat) (q0 : Nat) (d0 : Nat) (c0 : Nat) (h0 : Nat) (h1 : Nat) (K : Nat) (f : Nat → Int32) (pair : Int32) (pairToo : Int32) (hK : K ≤ 16) (sz : Nat) : Met l yX6_exchange wsX6_exchange rm_X6_exchange (va_Pc [.ref s0, .int pair, .int pairToo] (kU dC dI cI cN [(s0, .inr (5, [.ref h0, .ref sc0, .ref kp0, .ref a0, .ref q0, .ref d0, .ref c0, .ref ta0, .int km, .int rf])), (h0, .inr (3, [.ref h1, .int (nI K)])), (h1, .inl (cI, 16, .inl f))] sz)) (kV dC dI [(s0, .inr (5, [.ref h0, .ref sc0, .ref kp0, .ref a0, .ref q0, .ref d0, .ref c0, .ref ta0, .int km, .int rf])), (h0, .inr (3, [.ref h1, .int (nI K)])), (h1, .inl (cI, 16, .inl ((P_exchange K f pair pairToo))))] (va_A [(s0, .inr (5, [.ref h0, .ref sc0, .ref kp0, .ref a0, .ref q0, .ref d0, .ref c0, .ref ta0, .int km, .int rf])), (h0, .inr (3, [.ref h1, .int (nI K)])), (h1, .inl (cI, 16, .inl f))] sz)) 0 0 (va_A [(s0, .inr (5, [.ref h0, .ref sc0, .ref kp0, .ref a0, .ref q0, .ref d0, .ref c0, .ref ta0, .int km, .int rf])), (h0, .inr (3, [.ref h1, .int (nI K)])), (h1, .inl (cI, 16, .inl f))] sz) := by sorry
def P_isEvenSound (K : Nat) (f : Nat → Int32) (g : Nat → Int32) : Int32 :=
  bd (P_evenCount K f) (fun count_1 =>
    bd (P_leastRing K f) (fun least_2 =>
      if (P_isWithin count_1 2 5) = 0 then
        1
      else
        if (P_isWithin least_2 3 8) = 0 then
          1
        else
          if (P_why g (nI K) count_1 least_2) = 0 then
            1
          else
            0))
abbrev rm_X6_isEvenSound : Room := { frames := 5, cells := 0, slots := 0, locals := 116 }
theorem k_X6_isEvenSound (l : Launch) (dC : Nat → ClassId) (dI : Nat → Nat → Nat) (cI cN : ClassId) (s0 : Nat) (sc0 : Nat) (kp0 : Nat) (ta0 : Nat) (km : Int32) (rf : Int32) (a0 : Nat) (d0 : Nat) (c0 : Nat) (h0 : Nat) (h1 : Nat) (K : Nat) (f : Nat → Int32) (q0 : Nat) (q1 : Nat) (q2 : Nat) (g : Nat → Int32) (t : Nat → Int32) (hK : K ≤ 16) : Met l yX6_isEvenSound wsX6_isEvenSound rm_X6_isEvenSound (va_Pc [.ref s0] (kW dC dI cI cN [(s0, .inr (5, [.ref h0, .ref sc0, .ref kp0, .ref a0, .ref q0, .ref d0, .ref c0, .ref ta0, .int km, .int rf])), (h0, .inr (3, [.ref h1, .int (nI K)])), (h1, .inl (cI, 16, .inl f)), (q0, .inr (1, [.ref q1, .ref q2])), (q1, .inl (cI, 102, .inl g)), (q2, .inl (cI, 54, .inl t))])) (kR (P_isEvenSound K f g)) 0 0 (fun _ => False) := by sorry
theorem P_isEvenSound_b (K : Nat) (f g : Nat → Int32) : P_isEvenSound K f g = 0 ∨ P_isEvenSound K f g = 1 := by sorry
def L_isAimSound_14 (K : Nat) (f : Nat → Int32) (isOn : Int32) (cnt : Int32) (len : Int32) (k : Int32) : Nat → Nat → Int32
  | 0, knot => k
  | n + 1, knot =>
    if (P_countOf f (nI knot)) ≤ cnt then
      L_isAimSound_14 K f isOn cnt len k n (knot + 1)
    else
      0
def P_isAimSound (K : Nat) (f : Nat → Int32) (isOn : Int32) (cnt : Int32) (len : Int32) : Int32 :=
  if isOn = 0 then
    1
  else
    L_isAimSound_14 K f isOn cnt len (bd (P_leastRing K f) (fun least_2 => if least_2 = (-1 : Int32) then 1 else if least_2 < len then 0 else 1)) K 0
abbrev rm_X6_isAimSound : Room := { frames := 5, cells := 0, slots := 0, locals := 116 }
theorem k_X6_isAimSound (l : Launch) (dC : Nat → ClassId) (dI : Nat → Nat → Nat) (cI cN : ClassId) (s0 : Nat) (sc0 : Nat) (kp0 : Nat) (ta0 : Nat) (km : Int32) (rf : Int32) (q0 : Nat) (d0 : Nat) (c0 : Nat) (h0 : Nat) (h1 : Nat) (K : Nat) (f : Nat → Int32) (a0 : Nat) (a1 : Nat) (a2 : Nat) (a3 : Nat) (a4 : Nat) (isOn : Int32) (cnt : Int32) (len : Int32) (stp : Int32) (sta : Int32) (pm : Int32) (bm : Int32) (bw : Nat → Int32) (bars : Nat → Int32) (puts : Nat → Int32) (bap : Nat → Int32) (hK : K ≤ 16) : Met l yX6_isAimSound wsX6_isAimSound rm_X6_isAimSound (va_Pc [.ref s0] (kW dC dI cI cN [(s0, .inr (5, [.ref h0, .ref sc0, .ref kp0, .ref a0, .ref q0, .ref d0, .ref c0, .ref ta0, .int km, .int rf])), (h0, .inr (3, [.ref h1, .int (nI K)])), (h1, .inl (cI, 16, .inl f)), (a0, .inr (0, [.ref a1, .ref a2, .ref a3, .ref a4, .int isOn, .int cnt, .int len, .int stp, .int sta, .int pm, .int bm])), (a1, .inl (cI, 16, .inl bw)), (a2, .inl (cI, 120, .inl bars)), (a3, .inl (cI, 40, .inl puts)), (a4, .inl (cI, 40, .inl bap))])) (kR (P_isAimSound K f isOn cnt len)) 0 0 (fun _ => False) := by sorry
def P_tallied (ta : Nat → Int32) (length : Int32) : Int32 :=
  if length < 0 then
    0
  else
    if (8 : Int32) ≤ length then
      0
    else
      (ta (length).toNatClampNeg) / (2 : Int32)
abbrev rm_X6_tallied : Room := { frames := 0, cells := 0, slots := 0, locals := 0 }
theorem k_X6_tallied (l : Launch) (dC : Nat → ClassId) (dI : Nat → Nat → Nat) (cI cN : ClassId) (h0 : Nat) (s0 : Nat) (sc0 : Nat) (kp0 : Nat) (ta0 : Nat) (km : Int32) (rf : Int32) (a0 : Nat) (q0 : Nat) (d0 : Nat) (c0 : Nat) (ta : Nat → Int32) (length : Int32) : Met l yX6_tallied wsX6_tallied rm_X6_tallied (va_Pc [.ref s0, .int length] (kW dC dI cI cN [(s0, .inr (5, [.ref h0, .ref sc0, .ref kp0, .ref a0, .ref q0, .ref d0, .ref c0, .ref ta0, .int km, .int rf])), (ta0, .inl (cI, 8, .inl ta))])) (kR (P_tallied ta length)) 0 0 (fun _ => False) := by sorry
def L_layByJumps_20 (M : Nat) (jumps : Int32) (one : Nat) (k : (Nat → Int32) → Nat → Int32) : Nat → Nat → (Nat → Int32) → Nat → Int32
  | 0, other, fb => k fb
  | n + 1, other, fb =>
    bd ((nI other) - (nI one)) (fun up_1 =>
      if (P_holds jumps (if ((nI M) - up_1) < up_1 then ((nI M) - up_1) else up_1)) = 0 then
        L_layByJumps_20 M jumps one k n (other + 1) fb
      else
        bd (P_join M fb (nI one) (nI other)) (fun r_2 =>
          L_layByJumps_20 M jumps one k n (other + 1) r_2))
def L_layByJumps_10 (M : Nat) (jumps : Int32) (k : (Nat → Int32) → Nat → Int32) : Nat → Nat → (Nat → Int32) → Nat → Int32
  | 0, one, fa => k fa
  | n + 1, one, fa =>
    L_layByJumps_20 M jumps one (fun fb => L_layByJumps_10 M jumps k n (one + 1) fb) (M - (one + 1)) (one + 1) fa
def P_layByJumps (f : Nat → Int32) (M : Nat) (jumps : Int32) : Nat → Int32 :=
  bd (P_lay f) (fun r_1 =>
    L_layByJumps_10 M jumps (fun fa => fa) M 0 r_1)
abbrev rm_X6_layByJumps : Room := { frames := 2, cells := 0, slots := 0, locals := 43 }
theorem k_X6_layByJumps (l : Launch) (dC : Nat → ClassId) (dI : Nat → Nat → Nat) (cI cN : ClassId) (s0 : Nat) (sc0 : Nat) (kp0 : Nat) (ta0 : Nat) (km : Int32) (rf : Int32) (a0 : Nat) (q0 : Nat) (d0 : Nat) (c0 : Nat) (h0 : Nat) (h1 : Nat) (K : Nat) (f : Nat → Int32) (M : Nat) (jumps : Int32) (hM : M ≤ 16) (sz : Nat) : Met l yX6_layByJumps wsX6_layByJumps rm_X6_layByJumps (va_Pc [.ref s0, .int (nI M), .int jumps] (kU dC dI cI cN [(s0, .inr (5, [.ref h0, .ref sc0, .ref kp0, .ref a0, .ref q0, .ref d0, .ref c0, .ref ta0, .int km, .int rf])), (h0, .inr (3, [.ref h1, .int (nI K)])), (h1, .inl (cI, 16, .inl f))] sz)) (kV dC dI [(s0, .inr (5, [.ref h0, .ref sc0, .ref kp0, .ref a0, .ref q0, .ref d0, .ref c0, .ref ta0, .int km, .int rf])), (h0, .inr (3, [.ref h1, .int (nI M)])), (h1, .inl (cI, 16, .inl ((P_layByJumps f M jumps))))] (va_A [(s0, .inr (5, [.ref h0, .ref sc0, .ref kp0, .ref a0, .ref q0, .ref d0, .ref c0, .ref ta0, .int km, .int rf])), (h0, .inr (3, [.ref h1, .int (nI K)])), (h1, .inl (cI, 16, .inl f))] sz)) 0 0 (va_A [(s0, .inr (5, [.ref h0, .ref sc0, .ref kp0, .ref a0, .ref q0, .ref d0, .ref c0, .ref ta0, .int km, .int rf])), (h0, .inr (3, [.ref h1, .int (nI K)])), (h1, .inl (cI, 16, .inl f))] sz) := by sorry
def L_layDouble_35 (K : Nat) (f : Nat → Int32) (marks : Int32) (one : Nat) (k : Int32 → (Nat → Int32) → Nat → Int32) : Nat → Nat → Int32 → (Nat → Int32) → Nat → Int32
  | 0, other, number, fb => k number fb
  | n + 1, other, number, fb =>
    if (P_isNear f (nI one) (nI other)) = 0 then
      L_layDouble_35 K f marks one k n (other + 1) number fb
    else
      bd (P_holds marks number) (fun isMarked_1 =>
        if isMarked_1 = 0 then
          bd (P_join (2 * K) fb (nI one) (nI other)) (fun r_2 =>
            if isMarked_1 = 0 then
              bd (P_join (2 * K) r_2 ((nI one) + (nI K)) ((nI other) + (nI K))) (fun r_3 =>
                L_layDouble_35 K f marks one k n (other + 1) (number + 1) r_3)
            else
              bd (P_join (2 * K) r_2 ((nI one) + (nI K)) (nI other)) (fun r_4 =>
                L_layDouble_35 K f marks one k n (other + 1) (number + 1) r_4))
        else
          bd (P_join (2 * K) fb (nI one) ((nI other) + (nI K))) (fun r_5 =>
            if isMarked_1 = 0 then
              bd (P_join (2 * K) r_5 ((nI one) + (nI K)) ((nI other) + (nI K))) (fun r_6 =>
                L_layDouble_35 K f marks one k n (other + 1) (number + 1) r_6)
            else
              bd (P_join (2 * K) r_5 ((nI one) + (nI K)) (nI other)) (fun r_7 =>
                L_layDouble_35 K f marks one k n (other + 1) (number + 1) r_7)))
def L_layDouble_23 (K : Nat) (f : Nat → Int32) (marks : Int32) (k : Int32 → (Nat → Int32) → Nat → Int32) : Nat → Nat → Int32 → (Nat → Int32) → Nat → Int32
  | 0, one, number, fa => k number fa
  | n + 1, one, number, fa =>
    L_layDouble_35 K f marks one (fun number fb => L_layDouble_23 K f marks k n (one + 1) number fb) (K - (one + 1)) (one + 1) number fa
def P_layDouble (K : Nat) (f : Nat → Int32) (fs : Nat → Int32) (marks : Int32) : Nat → Int32 :=
  bd (P_lay fs) (fun r_1 =>
    L_layDouble_23 K f marks (fun number fa => fa) K 0 0 r_1)
abbrev rm_X6_layDouble : Room := { frames := 2, cells := 0, slots := 0, locals := 43 }
theorem k_X6_layDouble (l : Launch) (dC : Nat → ClassId) (dI : Nat → Nat → Nat) (cI cN : ClassId) (s0 : Nat) (kp0 : Nat) (ta0 : Nat) (km : Int32) (rf : Int32) (a0 : Nat) (q0 : Nat) (d0 : Nat) (c0 : Nat) (h0 : Nat) (h1 : Nat) (K : Nat) (f : Nat → Int32) (sc0 : Nat) (sc1 : Nat) (KS : Nat) (fs : Nat → Int32) (marks : Int32) (hK : K ≤ 8) (sz : Nat) : Met l yX6_layDouble wsX6_layDouble rm_X6_layDouble (va_Pc [.ref s0, .int marks] (kU dC dI cI cN [(s0, .inr (5, [.ref h0, .ref sc0, .ref kp0, .ref a0, .ref q0, .ref d0, .ref c0, .ref ta0, .int km, .int rf])), (h0, .inr (3, [.ref h1, .int (nI K)])), (h1, .inl (cI, 16, .inl f)), (sc0, .inr (3, [.ref sc1, .int (nI KS)])), (sc1, .inl (cI, 16, .inl fs))] sz)) (kV dC dI [(s0, .inr (5, [.ref h0, .ref sc0, .ref kp0, .ref a0, .ref q0, .ref d0, .ref c0, .ref ta0, .int km, .int rf])), (h0, .inr (3, [.ref h1, .int (nI K)])), (h1, .inl (cI, 16, .inl f)), (sc0, .inr (3, [.ref sc1, .int (nI (2 * K))])), (sc1, .inl (cI, 16, .inl ((P_layDouble K f fs marks))))] (va_A [(s0, .inr (5, [.ref h0, .ref sc0, .ref kp0, .ref a0, .ref q0, .ref d0, .ref c0, .ref ta0, .int km, .int rf])), (h0, .inr (3, [.ref h1, .int (nI K)])), (h1, .inl (cI, 16, .inl f)), (sc0, .inr (3, [.ref sc1, .int (nI KS)])), (sc1, .inl (cI, 16, .inl fs))] sz)) 0 0 (va_A [(s0, .inr (5, [.ref h0, .ref sc0, .ref kp0, .ref a0, .ref q0, .ref d0, .ref c0, .ref ta0, .int km, .int rf])), (h0, .inr (3, [.ref h1, .int (nI K)])), (h1, .inl (cI, 16, .inl f)), (sc0, .inr (3, [.ref sc1, .int (nI KS)])), (sc1, .inl (cI, 16, .inl fs))] sz) := by sorry
end
section
/-! the object: rings counted (printed by wip/gen) -/
def L_walk_74 (K : Nat) (start : Nat) (closed : Int32) (cc : Nat) (rc : Int32 → Int32 → Nat → (Nat → Int32) → (Nat → Int32)) (k : Int32 → (Nat → Int32) → Nat → Int32) : Nat → Nat → Int32 → (Nat → Int32) → Nat → Int32
  | 0, next, open_, tb => k open_ tb
  | n + 1, next, open_, tb =>
    if (P_holds open_ (nI next)) = 0 then
      L_walk_74 K start closed cc (rc) k n (next + 1) open_ tb
    else
      bd (rc (nI next) (closed ||| (P_bit (nI next))) (cc + 1) tb) (fun r_1 =>
        L_walk_74 K start closed cc (rc) k n (next + 1) open_ r_1)
def P_walk (K : Nat) (f : Nat → Int32) (start : Nat) (most : Int32) : Nat → Int32 → Int32 → Nat → (Nat → Int32) → Nat → Int32
  | 0, knot, closed, cc, ta =>
    if (nI cc) < (1 : Int32) then
      ta
    else
      if most ≤ (nI cc) then
        ta
      else
        ta
  | n + 1, knot, closed, cc, ta =>
    if (nI cc) < (1 : Int32) then
      ta
    else
      if most ≤ (nI cc) then
        ta
      else
        if most < (8 : Int32) then
          bd ((P_nearOf f knot) &&& (closed ^^^ (-1 : Int32))) (fun open__7 =>
            if (nI cc) < (2 : Int32) then
              if (nI (cc + 1)) < most then
                L_walk_74 K start closed cc ((P_walk K f start most n)) (fun open_ tb => tb) (K - (start + 1)) (start + 1) open__7 ta
              else
                ta
            else
              if (nI (cc + 1)) < most then
                L_walk_74 K start closed cc ((P_walk K f start most n)) (fun open_ tb => tb) (K - (start + 1)) (start + 1) open__7 (upd ta (cc + 1) ((ta (cc + 1)) + (P_bitCount (open__7 &&& (P_nearOf f (nI start))))))
              else
                upd ta (cc + 1) ((ta (cc + 1)) + (P_bitCount (open__7 &&& (P_nearOf f (nI start))))))
        else
          ta
abbrev rm_X6_walk (n : Nat) : Room := { frames := 1 + n, cells := 0, slots := 0, locals := 21 + 28 * n }
theorem k_X6_walk (l : Launch) (dC : Nat → ClassId) (dI : Nat → Nat → Nat) (cI cN : ClassId) (h0 h1 : Nat) (K : Nat) (f : Nat → Int32) (hK : K ≤ 16) (ta0 : Nat) (start : Nat) (hst : start < K) (most : Int32) : ∀ (n : Nat) (knot : Int32) (closed : Int32) (cc : Nat) (ta : Nat → Int32) (sz : Nat), cc + n = 8 → Met l yX6_walk wsX6_walk (rm_X6_walk n) (va_Pc [.ref h0, .ref ta0, .int (nI start), .int knot, .int closed, .int (nI cc), .int most] (kU dC dI cI cN [(h0, .inr (3, [.ref h1, .int (nI K)])), (h1, .inl (cI, 16, .inl f)), (ta0, .inl (cI, 8, .inl ta))] sz)) (kV dC dI [(h0, .inr (3, [.ref h1, .int (nI K)])), (h1, .inl (cI, 16, .inl f)), (ta0, .inl (cI, 8, .inl ((P_walk K f start most n knot closed cc ta))))] (va_A [(h0, .inr (3, [.ref h1, .int (nI K)])), (h1, .inl (cI, 16, .inl f)), (ta0, .inl (cI, 8, .inl ta))] sz)) 0 0 (va_A [(h0, .inr (3, [.ref h1, .int (nI K)])), (h1, .inl (cI, 16, .inl f)), (ta0, .inl (cI, 8, .inl ta))] sz) := by sorry
def L_countRings_26 (K : Nat) (f : Nat → Int32) (length : Int32) (k : (Nat → Int32) → Nat → Int32) : Nat → Nat → (Nat → Int32) → Nat → Int32
  | 0, start, tz => k tz
  | n + 1, start, tz =>
    bd (P_walk K f start length 7 (nI start) ((P_bit ((nI start) + (1 : Int32))) - (1 : Int32)) 1 tz) (fun r_1 =>
      L_countRings_26 K f length k n (start + 1) r_1)
def L_countRings_2  (k : (Nat → Int32) → Nat → Int32) : Nat → Nat → (Nat → Int32) → Nat → Int32
  | 0, number, tz => k tz
  | n + 1, number, tz =>
    L_countRings_2 k n (number + 1) (upd tz number (0 : Int32))
def P_countRings (K : Nat) (f : Nat → Int32) (ta : Nat → Int32) (length : Int32) : Nat → Int32 :=
  L_countRings_2 (fun tz => L_countRings_26 K f length (fun tz => tz) K 0 tz) 8 0 ta
abbrev rm_X6_countRings : Room := { frames := 9, cells := 0, slots := 0, locals := 245 }
theorem k_X6_countRings (l : Launch) (dC : Nat → ClassId) (dI : Nat → Nat → Nat) (cI cN : ClassId) (s0 : Nat) (sc0 : Nat) (kp0 : Nat) (ta0 : Nat) (km : Int32) (rf : Int32) (a0 : Nat) (q0 : Nat) (d0 : Nat) (c0 : Nat) (h0 : Nat) (h1 : Nat) (K : Nat) (f : Nat → Int32) (ta : Nat → Int32) (length : Int32) (hK : K ≤ 16) (sz : Nat) : Met l yX6_countRings wsX6_countRings rm_X6_countRings (va_Pc [.ref s0, .int length] (kU dC dI cI cN [(s0, .inr (5, [.ref h0, .ref sc0, .ref kp0, .ref a0, .ref q0, .ref d0, .ref c0, .ref ta0, .int km, .int rf])), (h0, .inr (3, [.ref h1, .int (nI K)])), (h1, .inl (cI, 16, .inl f)), (ta0, .inl (cI, 8, .inl ta))] sz)) (kV dC dI [(s0, .inr (5, [.ref h0, .ref sc0, .ref kp0, .ref a0, .ref q0, .ref d0, .ref c0, .ref ta0, .int km, .int rf])), (h0, .inr (3, [.ref h1, .int (nI K)])), (h1, .inl (cI, 16, .inl f)), (ta0, .inl (cI, 8, .inl ((P_countRings K f ta length))))] (va_A [(s0, .inr (5, [.ref h0, .ref sc0, .ref kp0, .ref a0, .ref q0, .ref d0, .ref c0, .ref ta0, .int km, .int rf])), (h0, .inr (3, [.ref h1, .int (nI K)])), (h1, .inl (cI, 16, .inl f)), (ta0, .inl (cI, 8, .inl ta))] sz)) 0 0 (va_A [(s0, .inr (5, [.ref h0, .ref sc0, .ref kp0, .ref a0, .ref q0, .ref d0, .ref c0, .ref ta0, .int km, .int rf])), (h0, .inr (3, [.ref h1, .int (nI K)])), (h1, .inl (cI, 16, .inl f)), (ta0, .inl (cI, 8, .inl ta))] sz) := by sorry
def L_shortRings_11 (length : Int32) (k : Int32 → (Nat → Int32) → Int32 × (Nat → Int32)) : Nat → Int32 → Int32 → (Nat → Int32) → Int32 × (Nat → Int32)
  | 0, shorter, many, tz => k many tz
  | n + 1, shorter, many, tz =>
    bd (many + (P_tallied tz shorter)) (fun many_1 =>
      L_shortRings_11 length k n (shorter + 1) many_1 tz)
def P_shortRings (K : Nat) (f : Nat → Int32) (ta : Nat → Int32) (length : Int32) : Int32 × (Nat → Int32) :=
  bd (P_countRings K f ta (length - (1 : Int32))) (fun r_1 =>
    L_shortRings_11 length (fun many tz => (many, tz)) (((length).toInt - ((3 : Int32)).toInt).toNat) 3 0 r_1)
abbrev rm_X6_shortRings : Room := { frames := 10, cells := 0, slots := 0, locals := 267 }
theorem k_X6_shortRings (l : Launch) (dC : Nat → ClassId) (dI : Nat → Nat → Nat) (cI cN : ClassId) (s0 : Nat) (sc0 : Nat) (kp0 : Nat) (ta0 : Nat) (km : Int32) (rf : Int32) (a0 : Nat) (q0 : Nat) (d0 : Nat) (c0 : Nat) (h0 : Nat) (h1 : Nat) (K : Nat) (f : Nat → Int32) (ta : Nat → Int32) (length : Int32) (hK : K ≤ 16) (sz : Nat) : Met l yX6_shortRings wsX6_shortRings rm_X6_shortRings (va_Pc [.ref s0, .int length] (kU dC dI cI cN [(s0, .inr (5, [.ref h0, .ref sc0, .ref kp0, .ref a0, .ref q0, .ref d0, .ref c0, .ref ta0, .int km, .int rf])), (h0, .inr (3, [.ref h1, .int (nI K)])), (h1, .inl (cI, 16, .inl f)), (ta0, .inl (cI, 8, .inl ta))] sz)) (kVi dC dI (P_shortRings K f ta length).1 [(s0, .inr (5, [.ref h0, .ref sc0, .ref kp0, .ref a0, .ref q0, .ref d0, .ref c0, .ref ta0, .int km, .int rf])), (h0, .inr (3, [.ref h1, .int (nI K)])), (h1, .inl (cI, 16, .inl f)), (ta0, .inl (cI, 8, .inl ((P_shortRings K f ta length).2)))] (va_A [(s0, .inr (5, [.ref h0, .ref sc0, .ref kp0, .ref a0, .ref q0, .ref d0, .ref c0, .ref ta0, .int km, .int rf])), (h0, .inr (3, [.ref h1, .int (nI K)])), (h1, .inl (cI, 16, .inl f)), (ta0, .inl (cI, 8, .inl ta))] sz)) 0 0 (va_A [(s0, .inr (5, [.ref h0, .ref sc0, .ref kp0, .ref a0, .ref q0, .ref d0, .ref c0, .ref ta0, .int km, .int rf])), (h0, .inr (3, [.ref h1, .int (nI K)])), (h1, .inl (cI, 16, .inl f)), (ta0, .inl (cI, 8, .inl ta))] sz) := by sorry
def P_rings (K : Nat) (f : Nat → Int32) (ta : Nat → Int32) (length : Int32) : (Int32 × (Nat → Int32)) ⊕ Nat :=
  if (P_isWithin length 3 7) = 0 then
    Sum.inr 1
  else
    bd (P_countRings K f ta length) (fun r_2 =>
      Sum.inl (P_tallied r_2 length, r_2))
abbrev rm_X6_rings : Room := { frames := 10, cells := 0, slots := 0, locals := 267 }
theorem k_X6_rings (l : Launch) (dC : Nat → ClassId) (dI : Nat → Nat → Nat) (cI cN : ClassId) (s0 : Nat) (sc0 : Nat) (kp0 : Nat) (ta0 : Nat) (km : Int32) (rf : Int32) (a0 : Nat) (q0 : Nat) (d0 : Nat) (c0 : Nat) (h0 : Nat) (h1 : Nat) (K : Nat) (f : Nat → Int32) (ta : Nat → Int32) (length : Int32) (hK : K ≤ 16) (sz : Nat) (v : Int32 × (Nat → Int32)) (hok : P_rings K f ta length = .inl v) : Met l yX6_rings wsX6_rings rm_X6_rings (va_Pc [.ref s0, .int length] (kU dC dI cI cN [(s0, .inr (5, [.ref h0, .ref sc0, .ref kp0, .ref a0, .ref q0, .ref d0, .ref c0, .ref ta0, .int km, .int rf])), (h0, .inr (3, [.ref h1, .int (nI K)])), (h1, .inl (cI, 16, .inl f)), (ta0, .inl (cI, 8, .inl ta))] sz)) (kVi dC dI v.1 [(s0, .inr (5, [.ref h0, .ref sc0, .ref kp0, .ref a0, .ref q0, .ref d0, .ref c0, .ref ta0, .int km, .int rf])), (h0, .inr (3, [.ref h1, .int (nI K)])), (h1, .inl (cI, 16, .inl f)), (ta0, .inl (cI, 8, .inl (v.2)))] (va_A [(s0, .inr (5, [.ref h0, .ref sc0, .ref kp0, .ref a0, .ref q0, .ref d0, .ref c0, .ref ta0, .int km, .int rf])), (h0, .inr (3, [.ref h1, .int (nI K)])), (h1, .inl (cI, 16, .inl f)), (ta0, .inl (cI, 8, .inl ta))] sz)) 0 0 (va_A [(s0, .inr (5, [.ref h0, .ref sc0, .ref kp0, .ref a0, .ref q0, .ref d0, .ref c0, .ref ta0, .int km, .int rf])), (h0, .inr (3, [.ref h1, .int (nI K)])), (h1, .inl (cI, 16, .inl f)), (ta0, .inl (cI, 8, .inl ta))] sz) := by sorry
theorem gfX6_rings_1 : ∀ w ∈ (vx_atS RX6 70 (kCls 1) kNs).filter goodWord, w ∈ wsX6_rings := by sorry
abbrev rx_X6_rings : Room := { frames := 10, cells := 1, slots := 6, locals := 267 }
theorem e_X6_rings (l : Launch) (hl9 : l.stackTraces = false) (dC : Nat → ClassId) (dI : Nat → Nat → Nat) (cI cN : ClassId) (s0 : Nat) (sc0 : Nat) (kp0 : Nat) (ta0 : Nat) (km : Int32) (rf : Int32) (a0 : Nat) (q0 : Nat) (d0 : Nat) (c0 : Nat) (h0 : Nat) (h1 : Nat) (K : Nat) (f : Nat → Int32) (ta : Nat → Int32) (length : Int32) (hK : K ≤ 16) (kx : Nat) (hex : P_rings K f ta length = .inr kx) : vx_Met l yX6_rings wsX6_rings rx_X6_rings (va_Pc [.ref s0, .int length] (kWE dC dI cI cN [(s0, .inr (5, [.ref h0, .ref sc0, .ref kp0, .ref a0, .ref q0, .ref d0, .ref c0, .ref ta0, .int km, .int rf])), (h0, .inr (3, [.ref h1, .int (nI K)])), (h1, .inl (cI, 16, .inl f)), (ta0, .inl (cI, 8, .inl ta))])) kNoi (kX kx) 1 6 (fun _ => False) := by sorry
end
section
/-! the object: what may throw (printed by wip/gen) -/
def P_requireTabled (count : Int32) (length : Int32) : Unit ⊕ Nat :=
  if (P_isWithin count 2 5) = 0 then
    Sum.inr 1
  else
    if (P_isWithin length 3 8) = 0 then
      Sum.inr 1
    else
      Sum.inl ()
abbrev rm_X6_requireTabled : Room := { frames := 1, cells := 0, slots := 0, locals := 22 }
theorem k_X6_requireTabled (l : Launch) (dC : Nat → ClassId) (dI : Nat → Nat → Nat) (cI cN : ClassId) (h0 : Nat) (s0 : Nat) (sc0 : Nat) (kp0 : Nat) (ta0 : Nat) (km : Int32) (rf : Int32) (a0 : Nat) (q0 : Nat) (d0 : Nat) (c0 : Nat) (count : Int32) (length : Int32) (v : Unit) (hok : P_requireTabled count length = .inl v) : Met l yX6_requireTabled wsX6_requireTabled rm_X6_requireTabled (va_Pc [.ref s0, .int count, .int length] (kW dC dI cI cN [(s0, .inr (5, [.ref h0, .ref sc0, .ref kp0, .ref a0, .ref q0, .ref d0, .ref c0, .ref ta0, .int km, .int rf]))])) kR0 0 0 (fun _ => False) := by sorry
theorem gfX6_requireTabled_1 : ∀ w ∈ (vx_atS RX6 70 (kCls 1) kNs).filter goodWord, w ∈ wsX6_requireTabled := by sorry
abbrev rx_X6_requireTabled : Room := { frames := 6, cells := 1, slots := 6, locals := 82 }
theorem e_X6_requireTabled (l : Launch) (hl9 : l.stackTraces = false) (dC : Nat → ClassId) (dI : Nat → Nat → Nat) (cI cN : ClassId) (h0 : Nat) (s0 : Nat) (sc0 : Nat) (kp0 : Nat) (ta0 : Nat) (km : Int32) (rf : Int32) (a0 : Nat) (q0 : Nat) (d0 : Nat) (c0 : Nat) (count : Int32) (length : Int32) (kx : Nat) (hex : P_requireTabled count length = .inr kx) : vx_Met l yX6_requireTabled wsX6_requireTabled rx_X6_requireTabled (va_Pc [.ref s0, .int count, .int length] (kWE dC dI cI cN [(s0, .inr (5, [.ref h0, .ref sc0, .ref kp0, .ref a0, .ref q0, .ref d0, .ref c0, .ref ta0, .int km, .int rf]))])) kNov (kX kx) 1 6 (fun _ => False) := by sorry
def P_bound (count : Int32) (length : Int32) : Int32 ⊕ Nat :=
  sb (P_requireTabled count length) (fun v_2 =>
    Sum.inl (P_leastKnots count length))
abbrev rm_X6_bound : Room := { frames := 2, cells := 0, slots := 0, locals := 44 }
theorem k_X6_bound (l : Launch) (dC : Nat → ClassId) (dI : Nat → Nat → Nat) (cI cN : ClassId) (h0 : Nat) (s0 : Nat) (sc0 : Nat) (kp0 : Nat) (ta0 : Nat) (km : Int32) (rf : Int32) (a0 : Nat) (q0 : Nat) (d0 : Nat) (c0 : Nat) (count : Int32) (length : Int32) (v : Int32) (hok : P_bound count length = .inl v) : Met l yX6_bound wsX6_bound rm_X6_bound (va_Pc [.ref s0, .int count, .int length] (kW dC dI cI cN [(s0, .inr (5, [.ref h0, .ref sc0, .ref kp0, .ref a0, .ref q0, .ref d0, .ref c0, .ref ta0, .int km, .int rf]))])) (kR v) 0 0 (fun _ => False) := by sorry
abbrev rx_X6_bound : Room := { frames := 7, cells := 1, slots := 6, locals := 104 }
theorem e_X6_bound (l : Launch) (hl9 : l.stackTraces = false) (dC : Nat → ClassId) (dI : Nat → Nat → Nat) (cI cN : ClassId) (h0 : Nat) (s0 : Nat) (sc0 : Nat) (kp0 : Nat) (ta0 : Nat) (km : Int32) (rf : Int32) (a0 : Nat) (q0 : Nat) (d0 : Nat) (c0 : Nat) (count : Int32) (length : Int32) (kx : Nat) (hex : P_bound count length = .inr kx) : vx_Met l yX6_bound wsX6_bound rx_X6_bound (va_Pc [.ref s0, .int count, .int length] (kWE dC dI cI cN [(s0, .inr (5, [.ref h0, .ref sc0, .ref kp0, .ref a0, .ref q0, .ref d0, .ref c0, .ref ta0, .int km, .int rf]))])) kNoi (kX kx) 1 6 (fun _ => False) := by sorry
def P_table (g : Nat → Int32) (t : Nat → Int32) (count : Int32) (length : Int32) (isNext : Int32) : Int32 ⊕ Nat :=
  sb (P_requireTabled count length) (fun v_2 =>
    if isNext = 0 then
      Sum.inl (P_smallestOf t count length)
    else
      Sum.inl (P_nextOf g count length))
abbrev rm_X6_table : Room := { frames := 5, cells := 0, slots := 0, locals := 117 }
theorem k_X6_table (l : Launch) (dC : Nat → ClassId) (dI : Nat → Nat → Nat) (cI cN : ClassId) (h0 : Nat) (s0 : Nat) (sc0 : Nat) (kp0 : Nat) (ta0 : Nat) (km : Int32) (rf : Int32) (a0 : Nat) (d0 : Nat) (c0 : Nat) (q0 : Nat) (q1 : Nat) (q2 : Nat) (g : Nat → Int32) (t : Nat → Int32) (count : Int32) (length : Int32) (isNext : Int32) (v : Int32) (hok : P_table g t count length isNext = .inl v) : Met l yX6_table wsX6_table rm_X6_table (va_Pc [.ref s0, .int count, .int length, .int isNext] (kW dC dI cI cN [(s0, .inr (5, [.ref h0, .ref sc0, .ref kp0, .ref a0, .ref q0, .ref d0, .ref c0, .ref ta0, .int km, .int rf])), (q0, .inr (1, [.ref q1, .ref q2])), (q1, .inl (cI, 102, .inl g)), (q2, .inl (cI, 54, .inl t))])) (kR v) 0 0 (fun _ => False) := by sorry
abbrev rx_X6_table : Room := { frames := 7, cells := 1, slots := 6, locals := 117 }
theorem e_X6_table (l : Launch) (hl9 : l.stackTraces = false) (dC : Nat → ClassId) (dI : Nat → Nat → Nat) (cI cN : ClassId) (h0 : Nat) (s0 : Nat) (sc0 : Nat) (kp0 : Nat) (ta0 : Nat) (km : Int32) (rf : Int32) (a0 : Nat) (d0 : Nat) (c0 : Nat) (q0 : Nat) (q1 : Nat) (q2 : Nat) (g : Nat → Int32) (t : Nat → Int32) (count : Int32) (length : Int32) (isNext : Int32) (kx : Nat) (hex : P_table g t count length isNext = .inr kx) : vx_Met l yX6_table wsX6_table rx_X6_table (va_Pc [.ref s0, .int count, .int length, .int isNext] (kWE dC dI cI cN [(s0, .inr (5, [.ref h0, .ref sc0, .ref kp0, .ref a0, .ref q0, .ref d0, .ref c0, .ref ta0, .int km, .int rf])), (q0, .inr (1, [.ref q1, .ref q2])), (q1, .inl (cI, 102, .inl g)), (q2, .inl (cI, 54, .inl t))])) kNoi (kX kx) 1 6 (fun _ => False) := by sorry
def P_search (K : Nat) (f : Nat → Int32) (bw : Nat → Int32) (isOn : Int32) (cnt : Int32) (len : Int32) (stp : Int32) (sta : Int32) (pm : Int32) (bm : Int32) (what : Int32) : Int32 ⊕ Nat :=
  if (P_isWithin what 0 7) = 0 then
    Sum.inr 1
  else
    if isOn = 0 then
      Sum.inl (-1)
    else
      if what = (0 : Int32) then
        Sum.inl cnt
      else
        if what = (1 : Int32) then
          Sum.inl len
        else
          if what = (2 : Int32) then
            Sum.inl pm
          else
            if what = (3 : Int32) then
              Sum.inl bm
            else
              if what = (4 : Int32) then
                Sum.inl stp
              else
                if what = (5 : Int32) then
                  Sum.inl sta
                else
                  if what = (6 : Int32) then
                    Sum.inl (P_nextKnot K f bw cnt len sta)
                  else
                    Sum.inl (P_partnerOf K f bw cnt len (P_nextKnot K f bw cnt len sta))
abbrev rm_X6_search : Room := { frames := 5, cells := 0, slots := 0, locals := 120 }
theorem k_X6_search (l : Launch) (dC : Nat → ClassId) (dI : Nat → Nat → Nat) (cI cN : ClassId) (s0 : Nat) (sc0 : Nat) (kp0 : Nat) (ta0 : Nat) (km : Int32) (rf : Int32) (q0 : Nat) (d0 : Nat) (c0 : Nat) (h0 : Nat) (h1 : Nat) (K : Nat) (f : Nat → Int32) (a0 : Nat) (a1 : Nat) (a2 : Nat) (a3 : Nat) (a4 : Nat) (isOn : Int32) (cnt : Int32) (len : Int32) (stp : Int32) (sta : Int32) (pm : Int32) (bm : Int32) (bw : Nat → Int32) (bars : Nat → Int32) (puts : Nat → Int32) (bap : Nat → Int32) (what : Int32) (hK : K ≤ 16) (v : Int32) (hok : P_search K f bw isOn cnt len stp sta pm bm what = .inl v) : Met l yX6_search wsX6_search rm_X6_search (va_Pc [.ref s0, .int what] (kW dC dI cI cN [(s0, .inr (5, [.ref h0, .ref sc0, .ref kp0, .ref a0, .ref q0, .ref d0, .ref c0, .ref ta0, .int km, .int rf])), (h0, .inr (3, [.ref h1, .int (nI K)])), (h1, .inl (cI, 16, .inl f)), (a0, .inr (0, [.ref a1, .ref a2, .ref a3, .ref a4, .int isOn, .int cnt, .int len, .int stp, .int sta, .int pm, .int bm])), (a1, .inl (cI, 16, .inl bw)), (a2, .inl (cI, 120, .inl bars)), (a3, .inl (cI, 40, .inl puts)), (a4, .inl (cI, 40, .inl bap))])) (kR v) 0 0 (fun _ => False) := by sorry
theorem gfX6_search_1 : ∀ w ∈ (vx_atS RX6 70 (kCls 1) kNs).filter goodWord, w ∈ wsX6_search := by sorry
abbrev rx_X6_search : Room := { frames := 6, cells := 1, slots := 6, locals := 120 }
theorem e_X6_search (l : Launch) (hl9 : l.stackTraces = false) (dC : Nat → ClassId) (dI : Nat → Nat → Nat) (cI cN : ClassId) (s0 : Nat) (sc0 : Nat) (kp0 : Nat) (ta0 : Nat) (km : Int32) (rf : Int32) (q0 : Nat) (d0 : Nat) (c0 : Nat) (h0 : Nat) (h1 : Nat) (K : Nat) (f : Nat → Int32) (a0 : Nat) (a1 : Nat) (a2 : Nat) (a3 : Nat) (a4 : Nat) (isOn : Int32) (cnt : Int32) (len : Int32) (stp : Int32) (sta : Int32) (pm : Int32) (bm : Int32) (bw : Nat → Int32) (bars : Nat → Int32) (puts : Nat → Int32) (bap : Nat → Int32) (what : Int32) (hK : K ≤ 16) (kx : Nat) (hex : P_search K f bw isOn cnt len stp sta pm bm what = .inr kx) : vx_Met l yX6_search wsX6_search rx_X6_search (va_Pc [.ref s0, .int what] (kWE dC dI cI cN [(s0, .inr (5, [.ref h0, .ref sc0, .ref kp0, .ref a0, .ref q0, .ref d0, .ref c0, .ref ta0, .int km, .int rf])), (h0, .inr (3, [.ref h1, .int (nI K)])), (h1, .inl (cI, 16, .inl f)), (a0, .inr (0, [.ref a1, .ref a2, .ref a3, .ref a4, .int isOn, .int cnt, .int len, .int stp, .int sta, .int pm, .int bm])), (a1, .inl (cI, 16, .inl bw)), (a2, .inl (cI, 120, .inl bars)), (a3, .inl (cI, 40, .inl puts)), (a4, .inl (cI, 40, .inl bap))])) kNoi (kX kx) 1 6 (fun _ => False) := by sorry
end
section
/-! the object: what may throw (printed by wip/gen) -/
def P_garden (K : Nat) (f : Nat → Int32) (t : Nat → Int32) (M : Nat) : (Int32 × (Nat → Int32) × (Nat → Int32)) ⊕ Nat :=
  if (P_isWithin (nI M) 3 16) = 0 then
    Sum.inr 1
  else
    bd (P_lay f) (fun r_2 =>
      bd (P_look t M r_2) (fun r_3 =>
        Sum.inl (nI K, r_2, r_3)))
abbrev rm_X6_garden : Room := { frames := 6, cells := 0, slots := 0, locals := 139 }
theorem k_X6_garden (l : Launch) (dC : Nat → ClassId) (dI : Nat → Nat → Nat) (cI cN : ClassId) (s0 : Nat) (sc0 : Nat) (kp0 : Nat) (ta0 : Nat) (km : Int32) (rf : Int32) (d0 : Nat) (c0 : Nat) (h0 : Nat) (h1 : Nat) (K : Nat) (f : Nat → Int32) (a0 : Nat) (a1 : Nat) (a2 : Nat) (a3 : Nat) (a4 : Nat) (isOn : Int32) (cnt : Int32) (len : Int32) (stp : Int32) (sta : Int32) (pm : Int32) (bm : Int32) (bw : Nat → Int32) (bars : Nat → Int32) (puts : Nat → Int32) (bap : Nat → Int32) (q0 : Nat) (q1 : Nat) (q2 : Nat) (g : Nat → Int32) (t : Nat → Int32) (M : Nat) (hK : K ≤ 16) (hM : M < 2 ^ 32) (sz : Nat) (v : Int32 × (Nat → Int32) × (Nat → Int32)) (hok : P_garden K f t M = .inl v) : Met l yX6_garden wsX6_garden rm_X6_garden (va_Pc [.ref s0, .int (nI M)] (kU dC dI cI cN [(s0, .inr (5, [.ref h0, .ref sc0, .ref kp0, .ref a0, .ref q0, .ref d0, .ref c0, .ref ta0, .int km, .int rf])), (h0, .inr (3, [.ref h1, .int (nI K)])), (h1, .inl (cI, 16, .inl f)), (a0, .inr (0, [.ref a1, .ref a2, .ref a3, .ref a4, .int isOn, .int cnt, .int len, .int stp, .int sta, .int pm, .int bm])), (a1, .inl (cI, 16, .inl bw)), (a2, .inl (cI, 120, .inl bars)), (a3, .inl (cI, 40, .inl puts)), (a4, .inl (cI, 40, .inl bap)), (q0, .inr (1, [.ref q1, .ref q2])), (q1, .inl (cI, 102, .inl g)), (q2, .inl (cI, 54, .inl t))] sz)) (kVi dC dI v.1 [(s0, .inr (5, [.ref h0, .ref sc0, .ref kp0, .ref a0, .ref q0, .ref d0, .ref c0, .ref ta0, .int km, .int rf])), (h0, .inr (3, [.ref h1, .int (nI M)])), (h1, .inl (cI, 16, .inl (v.2.1))), (a0, .inr (0, [.ref a1, .ref a2, .ref a3, .ref a4, .int 0, .int cnt, .int len, .int stp, .int sta, .int pm, .int bm])), (a1, .inl (cI, 16, .inl bw)), (a2, .inl (cI, 120, .inl bars)), (a3, .inl (cI, 40, .inl puts)), (a4, .inl (cI, 40, .inl bap)), (q0, .inr (1, [.ref q1, .ref q2])), (q1, .inl (cI, 102, .inl g)), (q2, .inl (cI, 54, .inl (v.2.2)))] (va_A [(s0, .inr (5, [.ref h0, .ref sc0, .ref kp0, .ref a0, .ref q0, .ref d0, .ref c0, .ref ta0, .int km, .int rf])), (h0, .inr (3, [.ref h1, .int (nI K)])), (h1, .inl (cI, 16, .inl f)), (a0, .inr (0, [.ref a1, .ref a2, .ref a3, .ref a4, .int isOn, .int cnt, .int len, .int stp, .int sta, .int pm, .int bm])), (a1, .inl (cI, 16, .inl bw)), (a2, .inl (cI, 120, .inl bars)), (a3, .inl (cI, 40, .inl puts)), (a4, .inl (cI, 40, .inl bap)), (q0, .inr (1, [.ref q1, .ref q2])), (q1, .inl (cI, 102, .inl g)), (q2, .inl (cI, 54, .inl t))] sz)) 0 0 (va_A [(s0, .inr (5, [.ref h0, .ref sc0, .ref kp0, .ref a0, .ref q0, .ref d0, .ref c0, .ref ta0, .int km, .int rf])), (h0, .inr (3, [.ref h1, .int (nI K)])), (h1, .inl (cI, 16, .inl f)), (a0, .inr (0, [.ref a1, .ref a2, .ref a3, .ref a4, .int isOn, .int cnt, .int len, .int stp, .int sta, .int pm, .int bm])), (a1, .inl (cI, 16, .inl bw)), (a2, .inl (cI, 120, .inl bars)), (a3, .inl (cI, 40, .inl puts)), (a4, .inl (cI, 40, .inl bap)), (q0, .inr (1, [.ref q1, .ref q2])), (q1, .inl (cI, 102, .inl g)), (q2, .inl (cI, 54, .inl t))] sz) := by sorry
theorem gfX6_garden_1 : ∀ w ∈ (vx_atS RX6 70 (kCls 1) kNs).filter goodWord, w ∈ wsX6_garden := by sorry
abbrev rx_X6_garden : Room := { frames := 6, cells := 1, slots := 6, locals := 82 }
theorem e_X6_garden (l : Launch) (hl9 : l.stackTraces = false) (dC : Nat → ClassId) (dI : Nat → Nat → Nat) (cI cN : ClassId) (s0 : Nat) (sc0 : Nat) (kp0 : Nat) (ta0 : Nat) (km : Int32) (rf : Int32) (d0 : Nat) (c0 : Nat) (h0 : Nat) (h1 : Nat) (K : Nat) (f : Nat → Int32) (a0 : Nat) (a1 : Nat) (a2 : Nat) (a3 : Nat) (a4 : Nat) (isOn : Int32) (cnt : Int32) (len : Int32) (stp : Int32) (sta : Int32) (pm : Int32) (bm : Int32) (bw : Nat → Int32) (bars : Nat → Int32) (puts : Nat → Int32) (bap : Nat → Int32) (q0 : Nat) (q1 : Nat) (q2 : Nat) (g : Nat → Int32) (t : Nat → Int32) (M : Nat) (hK : K ≤ 16) (hM : M < 2 ^ 32) (kx : Nat) (hex : P_garden K f t M = .inr kx) : vx_Met l yX6_garden wsX6_garden rx_X6_garden (va_Pc [.ref s0, .int (nI M)] (kWE dC dI cI cN [(s0, .inr (5, [.ref h0, .ref sc0, .ref kp0, .ref a0, .ref q0, .ref d0, .ref c0, .ref ta0, .int km, .int rf])), (h0, .inr (3, [.ref h1, .int (nI K)])), (h1, .inl (cI, 16, .inl f)), (a0, .inr (0, [.ref a1, .ref a2, .ref a3, .ref a4, .int isOn, .int cnt, .int len, .int stp, .int sta, .int pm, .int bm])), (a1, .inl (cI, 16, .inl bw)), (a2, .inl (cI, 120, .inl bars)), (a3, .inl (cI, 40, .inl puts)), (a4, .inl (cI, 40, .inl bap)), (q0, .inr (1, [.ref q1, .ref q2])), (q1, .inl (cI, 102, .inl g)), (q2, .inl (cI, 54, .inl t))])) kNoi (kX kx) 1 6 (fun _ => False) := by sorry
def P_ring (f : Nat → Int32) (t : Nat → Int32) (M : Nat) (jumps : Int32) : (Int32 × (Nat → Int32) × (Nat → Int32)) ⊕ Nat :=
  if (P_isWithin (nI M) 3 16) = 0 then
    Sum.inr 1
  else
    bd (((P_bit (((nI M) / (2 : Int32)) + (1 : Int32))) - (1 : Int32)) &&& (-2 : Int32)) (fun allowed_2 =>
      if jumps = 0 then
        Sum.inr 1
      else
        if (jumps &&& (allowed_2 ^^^ (-1 : Int32))) = 0 then
          if (P_countByJumps (nI M) jumps) ≤ (5 : Int32) then
            bd (P_layByJumps f M jumps) (fun r_6 =>
              bd (P_look t M r_6) (fun r_7 =>
                Sum.inl (P_edgesInAll M r_6, r_6, r_7)))
          else
            Sum.inr 1
        else
          Sum.inr 1)
abbrev rm_X6_ring : Room := { frames := 6, cells := 0, slots := 0, locals := 139 }
theorem k_X6_ring (l : Launch) (dC : Nat → ClassId) (dI : Nat → Nat → Nat) (cI cN : ClassId) (s0 : Nat) (sc0 : Nat) (kp0 : Nat) (ta0 : Nat) (km : Int32) (rf : Int32) (d0 : Nat) (c0 : Nat) (h0 : Nat) (h1 : Nat) (K : Nat) (f : Nat → Int32) (a0 : Nat) (a1 : Nat) (a2 : Nat) (a3 : Nat) (a4 : Nat) (isOn : Int32) (cnt : Int32) (len : Int32) (stp : Int32) (sta : Int32) (pm : Int32) (bm : Int32) (bw : Nat → Int32) (bars : Nat → Int32) (puts : Nat → Int32) (bap : Nat → Int32) (q0 : Nat) (q1 : Nat) (q2 : Nat) (g : Nat → Int32) (t : Nat → Int32) (M : Nat) (jumps : Int32) (hK : K ≤ 16) (hM : M < 2 ^ 32) (sz : Nat) (v : Int32 × (Nat → Int32) × (Nat → Int32)) (hok : P_ring f t M jumps = .inl v) : Met l yX6_ring wsX6_ring rm_X6_ring (va_Pc [.ref s0, .int (nI M), .int jumps] (kU dC dI cI cN [(s0, .inr (5, [.ref h0, .ref sc0, .ref kp0, .ref a0, .ref q0, .ref d0, .ref c0, .ref ta0, .int km, .int rf])), (h0, .inr (3, [.ref h1, .int (nI K)])), (h1, .inl (cI, 16, .inl f)), (a0, .inr (0, [.ref a1, .ref a2, .ref a3, .ref a4, .int isOn, .int cnt, .int len, .int stp, .int sta, .int pm, .int bm])), (a1, .inl (cI, 16, .inl bw)), (a2, .inl (cI, 120, .inl bars)), (a3, .inl (cI, 40, .inl puts)), (a4, .inl (cI, 40, .inl bap)), (q0, .inr (1, [.ref q1, .ref q2])), (q1, .inl (cI, 102, .inl g)), (q2, .inl (cI, 54, .inl t))] sz)) (kVi dC dI v.1 [(s0, .inr (5, [.ref h0, .ref sc0, .ref kp0, .ref a0, .ref q0, .ref d0, .ref c0, .ref ta0, .int km, .int rf])), (h0, .inr (3, [.ref h1, .int (nI M)])), (h1, .inl (cI, 16, .inl (v.2.1))), (a0, .inr (0, [.ref a1, .ref a2, .ref a3, .ref a4, .int 0, .int cnt, .int len, .int stp, .int sta, .int pm, .int bm])), (a1, .inl (cI, 16, .inl bw)), (a2, .inl (cI, 120, .inl bars)), (a3, .inl (cI, 40, .inl puts)), (a4, .inl (cI, 40, .inl bap)), (q0, .inr (1, [.ref q1, .ref q2])), (q1, .inl (cI, 102, .inl g)), (q2, .inl (cI, 54, .inl (v.2.2)))] (va_A [(s0, .inr (5, [.ref h0, .ref sc0, .ref kp0, .ref a0, .ref q0, .ref d0, .ref c0, .ref ta0, .int km, .int rf])), (h0, .inr (3, [.ref h1, .int (nI K)])), (h1, .inl (cI, 16, .inl f)), (a0, .inr (0, [.ref a1, .ref a2, .ref a3, .ref a4, .int isOn, .int cnt, .int len, .int stp, .int sta, .int pm, .int bm])), (a1, .inl (cI, 16, .inl bw)), (a2, .inl (cI, 120, .inl bars)), (a3, .inl (cI, 40, .inl puts)), (a4, .inl (cI, 40, .inl bap)), (q0, .inr (1, [.ref q1, .ref q2])), (q1, .inl (cI, 102, .inl g)), (q2, .inl (cI, 54, .inl t))] sz)) 0 0 (va_A [(s0, .inr (5, [.ref h0, .ref sc0, .ref kp0, .ref a0, .ref q0, .ref d0, .ref c0, .ref ta0, .int km, .int rf])), (h0, .inr (3, [.ref h1, .int (nI K)])), (h1, .inl (cI, 16, .inl f)), (a0, .inr (0, [.ref a1, .ref a2, .ref a3, .ref a4, .int isOn, .int cnt, .int len, .int stp, .int sta, .int pm, .int bm])), (a1, .inl (cI, 16, .inl bw)), (a2, .inl (cI, 120, .inl bars)), (a3, .inl (cI, 40, .inl puts)), (a4, .inl (cI, 40, .inl bap)), (q0, .inr (1, [.ref q1, .ref q2])), (q1, .inl (cI, 102, .inl g)), (q2, .inl (cI, 54, .inl t))] sz) := by sorry
theorem gfX6_ring_1 : ∀ w ∈ (vx_atS RX6 70 (kCls 1) kNs).filter goodWord, w ∈ wsX6_ring := by sorry
abbrev rx_X6_ring : Room := { frames := 6, cells := 1, slots := 6, locals := 82 }
theorem e_X6_ring (l : Launch) (hl9 : l.stackTraces = false) (dC : Nat → ClassId) (dI : Nat → Nat → Nat) (cI cN : ClassId) (s0 : Nat) (sc0 : Nat) (kp0 : Nat) (ta0 : Nat) (km : Int32) (rf : Int32) (d0 : Nat) (c0 : Nat) (h0 : Nat) (h1 : Nat) (K : Nat) (f : Nat → Int32) (a0 : Nat) (a1 : Nat) (a2 : Nat) (a3 : Nat) (a4 : Nat) (isOn : Int32) (cnt : Int32) (len : Int32) (stp : Int32) (sta : Int32) (pm : Int32) (bm : Int32) (bw : Nat → Int32) (bars : Nat → Int32) (puts : Nat → Int32) (bap : Nat → Int32) (q0 : Nat) (q1 : Nat) (q2 : Nat) (g : Nat → Int32) (t : Nat → Int32) (M : Nat) (jumps : Int32) (hK : K ≤ 16) (hM : M < 2 ^ 32) (kx : Nat) (hex : P_ring f t M jumps = .inr kx) : vx_Met l yX6_ring wsX6_ring rx_X6_ring (va_Pc [.ref s0, .int (nI M), .int jumps] (kWE dC dI cI cN [(s0, .inr (5, [.ref h0, .ref sc0, .ref kp0, .ref a0, .ref q0, .ref d0, .ref c0, .ref ta0, .int km, .int rf])), (h0, .inr (3, [.ref h1, .int (nI K)])), (h1, .inl (cI, 16, .inl f)), (a0, .inr (0, [.ref a1, .ref a2, .ref a3, .ref a4, .int isOn, .int cnt, .int len, .int stp, .int sta, .int pm, .int bm])), (a1, .inl (cI, 16, .inl bw)), (a2, .inl (cI, 120, .inl bars)), (a3, .inl (cI, 40, .inl puts)), (a4, .inl (cI, 40, .inl bap)), (q0, .inr (1, [.ref q1, .ref q2])), (q1, .inl (cI, 102, .inl g)), (q2, .inl (cI, 54, .inl t))])) kNoi (kX kx) 1 6 (fun _ => False) := by sorry
end
section
/-! the object: what may throw (printed by wip/gen) -/
def P_edge (K : Nat) (f : Nat → Int32) (t : Nat → Int32) (one : Int32) (other : Int32) (is_ : Int32) : (Int32 × (Nat → Int32) × (Nat → Int32)) ⊕ Nat :=
  if (P_isKnot K one) = 0 then
    Sum.inr 2
  else
    if (P_isKnot K other) = 0 then
      Sum.inr 2
    else
      if one = other then
        Sum.inr 1
      else
        bd (P_isNear f one other) (fun was_4 =>
          if (5 : Int32) ≤ (P_countOf f one) then
            if is_ = 0 then
              if is_ = 0 then
                bd (P_loosen K f one other) (fun r_8 =>
                  bd (P_look t K r_8) (fun r_9 =>
                    Sum.inl (was_4, r_8, r_9)))
              else
                bd (P_join K f one other) (fun r_10 =>
                  bd (P_look t K r_10) (fun r_11 =>
                    Sum.inl (was_4, r_10, r_11)))
            else
              if was_4 = 0 then
                Sum.inr 3
              else
                if is_ = 0 then
                  bd (P_loosen K f one other) (fun r_14 =>
                    bd (P_look t K r_14) (fun r_15 =>
                      Sum.inl (was_4, r_14, r_15)))
                else
                  bd (P_join K f one other) (fun r_16 =>
                    bd (P_look t K r_16) (fun r_17 =>
                      Sum.inl (was_4, r_16, r_17)))
          else
            if (P_countOf f other) < (5 : Int32) then
              if is_ = 0 then
                if is_ = 0 then
                  bd (P_loosen K f one other) (fun r_22 =>
                    bd (P_look t K r_22) (fun r_23 =>
                      Sum.inl (was_4, r_22, r_23)))
                else
                  bd (P_join K f one other) (fun r_24 =>
                    bd (P_look t K r_24) (fun r_25 =>
                      Sum.inl (was_4, r_24, r_25)))
              else
                if was_4 = 0 then
                  if is_ = 0 then
                    bd (P_loosen K f one other) (fun r_34 =>
                      bd (P_look t K r_34) (fun r_35 =>
                        Sum.inl (was_4, r_34, r_35)))
                  else
                    bd (P_join K f one other) (fun r_36 =>
                      bd (P_look t K r_36) (fun r_37 =>
                        Sum.inl (was_4, r_36, r_37)))
                else
                  if is_ = 0 then
                    bd (P_loosen K f one other) (fun r_28 =>
                      bd (P_look t K r_28) (fun r_29 =>
                        Sum.inl (was_4, r_28, r_29)))
                  else
                    bd (P_join K f one other) (fun r_30 =>
                      bd (P_look t K r_30) (fun r_31 =>
                        Sum.inl (was_4, r_30, r_31)))
            else
              if is_ = 0 then
                if is_ = 0 then
                  bd (P_loosen K f one other) (fun r_40 =>
                    bd (P_look t K r_40) (fun r_41 =>
                      Sum.inl (was_4, r_40, r_41)))
                else
                  bd (P_join K f one other) (fun r_42 =>
                    bd (P_look t K r_42) (fun r_43 =>
                      Sum.inl (was_4, r_42, r_43)))
              else
                if was_4 = 0 then
                  Sum.inr 3
                else
                  if is_ = 0 then
                    bd (P_loosen K f one other) (fun r_46 =>
                      bd (P_look t K r_46) (fun r_47 =>
                        Sum.inl (was_4, r_46, r_47)))
                  else
                    bd (P_join K f one other) (fun r_48 =>
                      bd (P_look t K r_48) (fun r_49 =>
                        Sum.inl (was_4, r_48, r_49))))
abbrev rm_X6_edge : Room := { frames := 6, cells := 0, slots := 0, locals := 139 }
theorem k_X6_edge (l : Launch) (dC : Nat → ClassId) (dI : Nat → Nat → Nat) (cI cN : ClassId) (s0 : Nat) (sc0 : Nat) (kp0 : Nat) (ta0 : Nat) (km : Int32) (rf : Int32) (d0 : Nat) (c0 : Nat) (h0 : Nat) (h1 : Nat) (K : Nat) (f : Nat → Int32) (a0 : Nat) (a1 : Nat) (a2 : Nat) (a3 : Nat) (a4 : Nat) (isOn : Int32) (cnt : Int32) (len : Int32) (stp : Int32) (sta : Int32) (pm : Int32) (bm : Int32) (bw : Nat → Int32) (bars : Nat → Int32) (puts : Nat → Int32) (bap : Nat → Int32) (q0 : Nat) (q1 : Nat) (q2 : Nat) (g : Nat → Int32) (t : Nat → Int32) (one : Int32) (other : Int32) (is_ : Int32) (hK : K ≤ 16) (sz : Nat) (v : Int32 × (Nat → Int32) × (Nat → Int32)) (hok : P_edge K f t one other is_ = .inl v) : Met l yX6_edge wsX6_edge rm_X6_edge (va_Pc [.ref s0, .int one, .int other, .int is_] (kU dC dI cI cN [(s0, .inr (5, [.ref h0, .ref sc0, .ref kp0, .ref a0, .ref q0, .ref d0, .ref c0, .ref ta0, .int km, .int rf])), (h0, .inr (3, [.ref h1, .int (nI K)])), (h1, .inl (cI, 16, .inl f)), (a0, .inr (0, [.ref a1, .ref a2, .ref a3, .ref a4, .int isOn, .int cnt, .int len, .int stp, .int sta, .int pm, .int bm])), (a1, .inl (cI, 16, .inl bw)), (a2, .inl (cI, 120, .inl bars)), (a3, .inl (cI, 40, .inl puts)), (a4, .inl (cI, 40, .inl bap)), (q0, .inr (1, [.ref q1, .ref q2])), (q1, .inl (cI, 102, .inl g)), (q2, .inl (cI, 54, .inl t))] sz)) (kVi dC dI v.1 [(s0, .inr (5, [.ref h0, .ref sc0, .ref kp0, .ref a0, .ref q0, .ref d0, .ref c0, .ref ta0, .int km, .int rf])), (h0, .inr (3, [.ref h1, .int (nI K)])), (h1, .inl (cI, 16, .inl (v.2.1))), (a0, .inr (0, [.ref a1, .ref a2, .ref a3, .ref a4, .int 0, .int cnt, .int len, .int stp, .int sta, .int pm, .int bm])), (a1, .inl (cI, 16, .inl bw)), (a2, .inl (cI, 120, .inl bars)), (a3, .inl (cI, 40, .inl puts)), (a4, .inl (cI, 40, .inl bap)), (q0, .inr (1, [.ref q1, .ref q2])), (q1, .inl (cI, 102, .inl g)), (q2, .inl (cI, 54, .inl (v.2.2)))] (va_A [(s0, .inr (5, [.ref h0, .ref sc0, .ref kp0, .ref a0, .ref q0, .ref d0, .ref c0, .ref ta0, .int km, .int rf])), (h0, .inr (3, [.ref h1, .int (nI K)])), (h1, .inl (cI, 16, .inl f)), (a0, .inr (0, [.ref a1, .ref a2, .ref a3, .ref a4, .int isOn, .int cnt, .int len, .int stp, .int sta, .int pm, .int bm])), (a1, .inl (cI, 16, .inl bw)), (a2, .inl (cI, 120, .inl bars)), (a3, .inl (cI, 40, .inl puts)), (a4, .inl (cI, 40, .inl bap)), (q0, .inr (1, [.ref q1, .ref q2])), (q1, .inl (cI, 102, .inl g)), (q2, .inl (cI, 54, .inl t))] sz)) 0 0 (va_A [(s0, .inr (5, [.ref h0, .ref sc0, .ref kp0, .ref a0, .ref q0, .ref d0, .ref c0, .ref ta0, .int km, .int rf])), (h0, .inr (3, [.ref h1, .int (nI K)])), (h1, .inl (cI, 16, .inl f)), (a0, .inr (0, [.ref a1, .ref a2, .ref a3, .ref a4, .int isOn, .int cnt, .int len, .int stp, .int sta, .int pm, .int bm])), (a1, .inl (cI, 16, .inl bw)), (a2, .inl (cI, 120, .inl bars)), (a3, .inl (cI, 40, .inl puts)), (a4, .inl (cI, 40, .inl bap)), (q0, .inr (1, [.ref q1, .ref q2])), (q1, .inl (cI, 102, .inl g)), (q2, .inl (cI, 54, .inl t))] sz) := by sorry
theorem gfX6_edge_1 : ∀ w ∈ (vx_atS RX6 70 (kCls 1) kNs).filter goodWord, w ∈ wsX6_edge := by sorry
theorem gfX6_edge_2 : ∀ w ∈ (vx_atS RX6 95 (kCls 2) kNs).filter goodWord, w ∈ wsX6_edge := by sorry
theorem gfX6_edge_3 : ∀ w ∈ (vx_atS RX6 110 (kCls 3) kNs).filter goodWord, w ∈ wsX6_edge := by sorry
abbrev rx_X6_edge : Room := { frames := 6, cells := 1, slots := 6, locals := 82 }
theorem e_X6_edge (l : Launch) (hl9 : l.stackTraces = false) (dC : Nat → ClassId) (dI : Nat → Nat → Nat) (cI cN : ClassId) (s0 : Nat) (sc0 : Nat) (kp0 : Nat) (ta0 : Nat) (km : Int32) (rf : Int32) (d0 : Nat) (c0 : Nat) (h0 : Nat) (h1 : Nat) (K : Nat) (f : Nat → Int32) (a0 : Nat) (a1 : Nat) (a2 : Nat) (a3 : Nat) (a4 : Nat) (isOn : Int32) (cnt : Int32) (len : Int32) (stp : Int32) (sta : Int32) (pm : Int32) (bm : Int32) (bw : Nat → Int32) (bars : Nat → Int32) (puts : Nat → Int32) (bap : Nat → Int32) (q0 : Nat) (q1 : Nat) (q2 : Nat) (g : Nat → Int32) (t : Nat → Int32) (one : Int32) (other : Int32) (is_ : Int32) (hK : K ≤ 16) (kx : Nat) (hex : P_edge K f t one other is_ = .inr kx) : vx_Met l yX6_edge wsX6_edge rx_X6_edge (va_Pc [.ref s0, .int one, .int other, .int is_] (kWE dC dI cI cN [(s0, .inr (5, [.ref h0, .ref sc0, .ref kp0, .ref a0, .ref q0, .ref d0, .ref c0, .ref ta0, .int km, .int rf])), (h0, .inr (3, [.ref h1, .int (nI K)])), (h1, .inl (cI, 16, .inl f)), (a0, .inr (0, [.ref a1, .ref a2, .ref a3, .ref a4, .int isOn, .int cnt, .int len, .int stp, .int sta, .int pm, .int bm])), (a1, .inl (cI, 16, .inl bw)), (a2, .inl (cI, 120, .inl bars)), (a3, .inl (cI, 40, .inl puts)), (a4, .inl (cI, 40, .inl bap)), (q0, .inr (1, [.ref q1, .ref q2])), (q1, .inl (cI, 102, .inl g)), (q2, .inl (cI, 54, .inl t))])) kNoi (kX kx) 1 6 (fun _ => False) := by sorry
end
section
/-! the object: what may throw (printed by wip/gen) -/
def P_swap (K : Nat) (f : Nat → Int32) (t : Nat → Int32) (isOn : Int32) (first : Int32) (second : Int32) (isTurned : Int32) : (Int32 × (Nat → Int32) × (Nat → Int32) × Int32) ⊕ Nat :=
  bd (P_edgeAt K f first) (fun pair_1 =>
    bd (P_edgeAt K f second) (fun pairToo_2 =>
      if pair_1 = (-1 : Int32) then
        Sum.inr 2
      else
        if pairToo_2 = (-1 : Int32) then
          Sum.inr 2
        else
          if (P_canExchange f pair_1 (P_turned pairToo_2 isTurned)) = 0 then
            Sum.inl (0, f, t, isOn)
          else
            bd (P_exchange K f pair_1 (P_turned pairToo_2 isTurned)) (fun r_6 =>
              bd (P_look t K r_6) (fun r_7 =>
                Sum.inl (1, r_6, r_7, 0)))))
abbrev rm_X6_swap : Room := { frames := 6, cells := 0, slots := 0, locals := 139 }
theorem k_X6_swap (l : Launch) (dC : Nat → ClassId) (dI : Nat → Nat → Nat) (cI cN : ClassId) (s0 : Nat) (sc0 : Nat) (kp0 : Nat) (ta0 : Nat) (km : Int32) (rf : Int32) (d0 : Nat) (c0 : Nat) (h0 : Nat) (h1 : Nat) (K : Nat) (f : Nat → Int32) (a0 : Nat) (a1 : Nat) (a2 : Nat) (a3 : Nat) (a4 : Nat) (isOn : Int32) (cnt : Int32) (len : Int32) (stp : Int32) (sta : Int32) (pm : Int32) (bm : Int32) (bw : Nat → Int32) (bars : Nat → Int32) (puts : Nat → Int32) (bap : Nat → Int32) (q0 : Nat) (q1 : Nat) (q2 : Nat) (g : Nat → Int32) (t : Nat → Int32) (first : Int32) (second : Int32) (isTurned : Int32) (hK : K ≤ 16) (sz : Nat) (v : Int32 × (Nat → Int32) × (Nat → Int32) × Int32) (hok : P_swap K f t isOn first second isTurned = .inl v) : Met l yX6_swap wsX6_swap rm_X6_swap (va_Pc [.ref s0, .int first, .int second, .int isTurned] (kU dC dI cI cN [(s0, .inr (5, [.ref h0, .ref sc0, .ref kp0, .ref a0, .ref q0, .ref d0, .ref c0, .ref ta0, .int km, .int rf])), (h0, .inr (3, [.ref h1, .int (nI K)])), (h1, .inl (cI, 16, .inl f)), (a0, .inr (0, [.ref a1, .ref a2, .ref a3, .ref a4, .int isOn, .int cnt, .int len, .int stp, .int sta, .int pm, .int bm])), (a1, .inl (cI, 16, .inl bw)), (a2, .inl (cI, 120, .inl bars)), (a3, .inl (cI, 40, .inl puts)), (a4, .inl (cI, 40, .inl bap)), (q0, .inr (1, [.ref q1, .ref q2])), (q1, .inl (cI, 102, .inl g)), (q2, .inl (cI, 54, .inl t))] sz)) (kVi dC dI v.1 [(s0, .inr (5, [.ref h0, .ref sc0, .ref kp0, .ref a0, .ref q0, .ref d0, .ref c0, .ref ta0, .int km, .int rf])), (h0, .inr (3, [.ref h1, .int (nI K)])), (h1, .inl (cI, 16, .inl (v.2.1))), (a0, .inr (0, [.ref a1, .ref a2, .ref a3, .ref a4, .int (v.2.2.2), .int cnt, .int len, .int stp, .int sta, .int pm, .int bm])), (a1, .inl (cI, 16, .inl bw)), (a2, .inl (cI, 120, .inl bars)), (a3, .inl (cI, 40, .inl puts)), (a4, .inl (cI, 40, .inl bap)), (q0, .inr (1, [.ref q1, .ref q2])), (q1, .inl (cI, 102, .inl g)), (q2, .inl (cI, 54, .inl (v.2.2.1)))] (va_A [(s0, .inr (5, [.ref h0, .ref sc0, .ref kp0, .ref a0, .ref q0, .ref d0, .ref c0, .ref ta0, .int km, .int rf])), (h0, .inr (3, [.ref h1, .int (nI K)])), (h1, .inl (cI, 16, .inl f)), (a0, .inr (0, [.ref a1, .ref a2, .ref a3, .ref a4, .int isOn, .int cnt, .int len, .int stp, .int sta, .int pm, .int bm])), (a1, .inl (cI, 16, .inl bw)), (a2, .inl (cI, 120, .inl bars)), (a3, .inl (cI, 40, .inl puts)), (a4, .inl (cI, 40, .inl bap)), (q0, .inr (1, [.ref q1, .ref q2])), (q1, .inl (cI, 102, .inl g)), (q2, .inl (cI, 54, .inl t))] sz)) 0 0 (va_A [(s0, .inr (5, [.ref h0, .ref sc0, .ref kp0, .ref a0, .ref q0, .ref d0, .ref c0, .ref ta0, .int km, .int rf])), (h0, .inr (3, [.ref h1, .int (nI K)])), (h1, .inl (cI, 16, .inl f)), (a0, .inr (0, [.ref a1, .ref a2, .ref a3, .ref a4, .int isOn, .int cnt, .int len, .int stp, .int sta, .int pm, .int bm])), (a1, .inl (cI, 16, .inl bw)), (a2, .inl (cI, 120, .inl bars)), (a3, .inl (cI, 40, .inl puts)), (a4, .inl (cI, 40, .inl bap)), (q0, .inr (1, [.ref q1, .ref q2])), (q1, .inl (cI, 102, .inl g)), (q2, .inl (cI, 54, .inl t))] sz) := by sorry
theorem gfX6_swap_2 : ∀ w ∈ (vx_atS RX6 95 (kCls 2) kNs).filter goodWord, w ∈ wsX6_swap := by sorry
abbrev rx_X6_swap : Room := { frames := 6, cells := 1, slots := 6, locals := 88 }
theorem e_X6_swap (l : Launch) (hl9 : l.stackTraces = false) (dC : Nat → ClassId) (dI : Nat → Nat → Nat) (cI cN : ClassId) (s0 : Nat) (sc0 : Nat) (kp0 : Nat) (ta0 : Nat) (km : Int32) (rf : Int32) (d0 : Nat) (c0 : Nat) (h0 : Nat) (h1 : Nat) (K : Nat) (f : Nat → Int32) (a0 : Nat) (a1 : Nat) (a2 : Nat) (a3 : Nat) (a4 : Nat) (isOn : Int32) (cnt : Int32) (len : Int32) (stp : Int32) (sta : Int32) (pm : Int32) (bm : Int32) (bw : Nat → Int32) (bars : Nat → Int32) (puts : Nat → Int32) (bap : Nat → Int32) (q0 : Nat) (q1 : Nat) (q2 : Nat) (g : Nat → Int32) (t : Nat → Int32) (first : Int32) (second : Int32) (isTurned : Int32) (hK : K ≤ 16) (kx : Nat) (hex : P_swap K f t isOn first second isTurned = .inr kx) : vx_Met l yX6_swap wsX6_swap rx_X6_swap (va_Pc [.ref s0, .int first, .int second, .int isTurned] (kWE dC dI cI cN [(s0, .inr (5, [.ref h0, .ref sc0, .ref kp0, .ref a0, .ref q0, .ref d0, .ref c0, .ref ta0, .int km, .int rf])), (h0, .inr (3, [.ref h1, .int (nI K)])), (h1, .inl (cI, 16, .inl f)), (a0, .inr (0, [.ref a1, .ref a2, .ref a3, .ref a4, .int isOn, .int cnt, .int len, .int stp, .int sta, .int pm, .int bm])), (a1, .inl (cI, 16, .inl bw)), (a2, .inl (cI, 120, .inl bars)), (a3, .inl (cI, 40, .inl puts)), (a4, .inl (cI, 40, .inl bap)), (q0, .inr (1, [.ref q1, .ref q2])), (q1, .inl (cI, 102, .inl g)), (q2, .inl (cI, 54, .inl t))])) kNoi (kX kx) 1 6 (fun _ => False) := by sorry
def P_aim (K : Nat) (f : Nat → Int32) (bw : Nat → Int32) (bars : Nat → Int32) (bm : Int32) (g : Nat → Int32) (t : Nat → Int32) (cnt1 : Int32) (len1 : Int32) : (Int32 × (Nat → Int32) × (Nat → Int32) × Int32 × (Nat → Int32)) ⊕ Nat :=
  sb (P_requireTabled cnt1 len1) (fun v_2 =>
    if (nI K) = 0 then
      Sum.inr 3
    else
      bd (P_lay f) (fun r_5 =>
        bd (P_begin bw bars bm) (fun r_6 =>
          bd (P_look t K r_5) (fun r_7 =>
            Sum.inl (P_why g (nI K) cnt1 len1, r_5, r_6.1, r_6.2, r_7)))))
abbrev rm_X6_aim : Room := { frames := 6, cells := 0, slots := 0, locals := 139 }
theorem k_X6_aim (l : Launch) (dC : Nat → ClassId) (dI : Nat → Nat → Nat) (cI cN : ClassId) (s0 : Nat) (sc0 : Nat) (kp0 : Nat) (ta0 : Nat) (km : Int32) (rf : Int32) (d0 : Nat) (c0 : Nat) (h0 : Nat) (h1 : Nat) (K : Nat) (f : Nat → Int32) (a0 : Nat) (a1 : Nat) (a2 : Nat) (a3 : Nat) (a4 : Nat) (isOn : Int32) (cnt : Int32) (len : Int32) (stp : Int32) (sta : Int32) (pm : Int32) (bm : Int32) (bw : Nat → Int32) (bars : Nat → Int32) (puts : Nat → Int32) (bap : Nat → Int32) (q0 : Nat) (q1 : Nat) (q2 : Nat) (g : Nat → Int32) (t : Nat → Int32) (cnt1 : Int32) (len1 : Int32) (hK : K ≤ 16) (sz : Nat) (v : Int32 × (Nat → Int32) × (Nat → Int32) × Int32 × (Nat → Int32)) (hok : P_aim K f bw bars bm g t cnt1 len1 = .inl v) : Met l yX6_aim wsX6_aim rm_X6_aim (va_Pc [.ref s0, .int cnt1, .int len1] (kU dC dI cI cN [(s0, .inr (5, [.ref h0, .ref sc0, .ref kp0, .ref a0, .ref q0, .ref d0, .ref c0, .ref ta0, .int km, .int rf])), (h0, .inr (3, [.ref h1, .int (nI K)])), (h1, .inl (cI, 16, .inl f)), (a0, .inr (0, [.ref a1, .ref a2, .ref a3, .ref a4, .int isOn, .int cnt, .int len, .int stp, .int sta, .int pm, .int bm])), (a1, .inl (cI, 16, .inl bw)), (a2, .inl (cI, 120, .inl bars)), (a3, .inl (cI, 40, .inl puts)), (a4, .inl (cI, 40, .inl bap)), (q0, .inr (1, [.ref q1, .ref q2])), (q1, .inl (cI, 102, .inl g)), (q2, .inl (cI, 54, .inl t))] sz)) (kVi dC dI v.1 [(s0, .inr (5, [.ref h0, .ref sc0, .ref kp0, .ref a0, .ref q0, .ref d0, .ref c0, .ref ta0, .int km, .int rf])), (h0, .inr (3, [.ref h1, .int (nI K)])), (h1, .inl (cI, 16, .inl (v.2.1))), (a0, .inr (0, [.ref a1, .ref a2, .ref a3, .ref a4, .int 1, .int cnt1, .int len1, .int 0, .int 0, .int 0, .int (v.2.2.2.1)])), (a1, .inl (cI, 16, .inl (v.2.2.1))), (a2, .inl (cI, 120, .inl bars)), (a3, .inl (cI, 40, .inl puts)), (a4, .inl (cI, 40, .inl bap)), (q0, .inr (1, [.ref q1, .ref q2])), (q1, .inl (cI, 102, .inl g)), (q2, .inl (cI, 54, .inl (v.2.2.2.2)))] (va_A [(s0, .inr (5, [.ref h0, .ref sc0, .ref kp0, .ref a0, .ref q0, .ref d0, .ref c0, .ref ta0, .int km, .int rf])), (h0, .inr (3, [.ref h1, .int (nI K)])), (h1, .inl (cI, 16, .inl f)), (a0, .inr (0, [.ref a1, .ref a2, .ref a3, .ref a4, .int isOn, .int cnt, .int len, .int stp, .int sta, .int pm, .int bm])), (a1, .inl (cI, 16, .inl bw)), (a2, .inl (cI, 120, .inl bars)), (a3, .inl (cI, 40, .inl puts)), (a4, .inl (cI, 40, .inl bap)), (q0, .inr (1, [.ref q1, .ref q2])), (q1, .inl (cI, 102, .inl g)), (q2, .inl (cI, 54, .inl t))] sz)) 0 0 (va_A [(s0, .inr (5, [.ref h0, .ref sc0, .ref kp0, .ref a0, .ref q0, .ref d0, .ref c0, .ref ta0, .int km, .int rf])), (h0, .inr (3, [.ref h1, .int (nI K)])), (h1, .inl (cI, 16, .inl f)), (a0, .inr (0, [.ref a1, .ref a2, .ref a3, .ref a4, .int isOn, .int cnt, .int len, .int stp, .int sta, .int pm, .int bm])), (a1, .inl (cI, 16, .inl bw)), (a2, .inl (cI, 120, .inl bars)), (a3, .inl (cI, 40, .inl puts)), (a4, .inl (cI, 40, .inl bap)), (q0, .inr (1, [.ref q1, .ref q2])), (q1, .inl (cI, 102, .inl g)), (q2, .inl (cI, 54, .inl t))] sz) := by sorry
theorem gfX6_aim_3 : ∀ w ∈ (vx_atS RX6 110 (kCls 3) kNs).filter goodWord, w ∈ wsX6_aim := by sorry
abbrev rx_X6_aim : Room := { frames := 7, cells := 1, slots := 6, locals := 104 }
theorem e_X6_aim (l : Launch) (hl9 : l.stackTraces = false) (dC : Nat → ClassId) (dI : Nat → Nat → Nat) (cI cN : ClassId) (s0 : Nat) (sc0 : Nat) (kp0 : Nat) (ta0 : Nat) (km : Int32) (rf : Int32) (d0 : Nat) (c0 : Nat) (h0 : Nat) (h1 : Nat) (K : Nat) (f : Nat → Int32) (a0 : Nat) (a1 : Nat) (a2 : Nat) (a3 : Nat) (a4 : Nat) (isOn : Int32) (cnt : Int32) (len : Int32) (stp : Int32) (sta : Int32) (pm : Int32) (bm : Int32) (bw : Nat → Int32) (bars : Nat → Int32) (puts : Nat → Int32) (bap : Nat → Int32) (q0 : Nat) (q1 : Nat) (q2 : Nat) (g : Nat → Int32) (t : Nat → Int32) (cnt1 : Int32) (len1 : Int32) (hK : K ≤ 16) (kx : Nat) (hex : P_aim K f bw bars bm g t cnt1 len1 = .inr kx) : vx_Met l yX6_aim wsX6_aim rx_X6_aim (va_Pc [.ref s0, .int cnt1, .int len1] (kWE dC dI cI cN [(s0, .inr (5, [.ref h0, .ref sc0, .ref kp0, .ref a0, .ref q0, .ref d0, .ref c0, .ref ta0, .int km, .int rf])), (h0, .inr (3, [.ref h1, .int (nI K)])), (h1, .inl (cI, 16, .inl f)), (a0, .inr (0, [.ref a1, .ref a2, .ref a3, .ref a4, .int isOn, .int cnt, .int len, .int stp, .int sta, .int pm, .int bm])), (a1, .inl (cI, 16, .inl bw)), (a2, .inl (cI, 120, .inl bars)), (a3, .inl (cI, 40, .inl puts)), (a4, .inl (cI, 40, .inl bap)), (q0, .inr (1, [.ref q1, .ref q2])), (q1, .inl (cI, 102, .inl g)), (q2, .inl (cI, 54, .inl t))])) kNoi (kX kx) 1 6 (fun _ => False) := by sorry
def P_ofKnot (K : Nat) (f : Nat → Int32) (bw : Nat → Int32) (isOn : Int32) (cnt : Int32) (len : Int32) (knot : Int32) (what : Int32) : Int32 ⊕ Nat :=
  if (P_isKnot K knot) = 0 then
    Sum.inr 2
  else
    if (P_isWithin what 0 5) = 0 then
      Sum.inr 1
    else
      if what = (0 : Int32) then
        Sum.inl (P_countOf f knot)
      else
        if what = (1 : Int32) then
          Sum.inl (P_nearOf f knot)
        else
          if what = (2 : Int32) then
            Sum.inl (P_partNumber f knot)
          else
            if what = (3 : Int32) then
              Sum.inl (P_leastRingAt K f knot)
            else
              if what = (4 : Int32) then
                Sum.inl (P_greatestDistance f knot)
              else
                Sum.inl (P_bitCount (P_joinable K f bw isOn cnt len knot))
abbrev rm_X6_ofKnot : Room := { frames := 5, cells := 0, slots := 0, locals := 116 }
theorem k_X6_ofKnot (l : Launch) (dC : Nat → ClassId) (dI : Nat → Nat → Nat) (cI cN : ClassId) (s0 : Nat) (sc0 : Nat) (kp0 : Nat) (ta0 : Nat) (km : Int32) (rf : Int32) (q0 : Nat) (d0 : Nat) (c0 : Nat) (h0 : Nat) (h1 : Nat) (K : Nat) (f : Nat → Int32) (a0 : Nat) (a1 : Nat) (a2 : Nat) (a3 : Nat) (a4 : Nat) (isOn : Int32) (cnt : Int32) (len : Int32) (stp : Int32) (sta : Int32) (pm : Int32) (bm : Int32) (bw : Nat → Int32) (bars : Nat → Int32) (puts : Nat → Int32) (bap : Nat → Int32) (knot : Int32) (what : Int32) (hK : K ≤ 16) (v : Int32) (hok : P_ofKnot K f bw isOn cnt len knot what = .inl v) : Met l yX6_ofKnot wsX6_ofKnot rm_X6_ofKnot (va_Pc [.ref s0, .int knot, .int what] (kW dC dI cI cN [(s0, .inr (5, [.ref h0, .ref sc0, .ref kp0, .ref a0, .ref q0, .ref d0, .ref c0, .ref ta0, .int km, .int rf])), (h0, .inr (3, [.ref h1, .int (nI K)])), (h1, .inl (cI, 16, .inl f)), (a0, .inr (0, [.ref a1, .ref a2, .ref a3, .ref a4, .int isOn, .int cnt, .int len, .int stp, .int sta, .int pm, .int bm])), (a1, .inl (cI, 16, .inl bw)), (a2, .inl (cI, 120, .inl bars)), (a3, .inl (cI, 40, .inl puts)), (a4, .inl (cI, 40, .inl bap))])) (kR v) 0 0 (fun _ => False) := by sorry
theorem gfX6_ofKnot_1 : ∀ w ∈ (vx_atS RX6 70 (kCls 1) kNs).filter goodWord, w ∈ wsX6_ofKnot := by sorry
theorem gfX6_ofKnot_2 : ∀ w ∈ (vx_atS RX6 95 (kCls 2) kNs).filter goodWord, w ∈ wsX6_ofKnot := by sorry
abbrev rx_X6_ofKnot : Room := { frames := 6, cells := 1, slots := 6, locals := 116 }
theorem e_X6_ofKnot (l : Launch) (hl9 : l.stackTraces = false) (dC : Nat → ClassId) (dI : Nat → Nat → Nat) (cI cN : ClassId) (s0 : Nat) (sc0 : Nat) (kp0 : Nat) (ta0 : Nat) (km : Int32) (rf : Int32) (q0 : Nat) (d0 : Nat) (c0 : Nat) (h0 : Nat) (h1 : Nat) (K : Nat) (f : Nat → Int32) (a0 : Nat) (a1 : Nat) (a2 : Nat) (a3 : Nat) (a4 : Nat) (isOn : Int32) (cnt : Int32) (len : Int32) (stp : Int32) (sta : Int32) (pm : Int32) (bm : Int32) (bw : Nat → Int32) (bars : Nat → Int32) (puts : Nat → Int32) (bap : Nat → Int32) (knot : Int32) (what : Int32) (hK : K ≤ 16) (kx : Nat) (hex : P_ofKnot K f bw isOn cnt len knot what = .inr kx) : vx_Met l yX6_ofKnot wsX6_ofKnot rx_X6_ofKnot (va_Pc [.ref s0, .int knot, .int what] (kWE dC dI cI cN [(s0, .inr (5, [.ref h0, .ref sc0, .ref kp0, .ref a0, .ref q0, .ref d0, .ref c0, .ref ta0, .int km, .int rf])), (h0, .inr (3, [.ref h1, .int (nI K)])), (h1, .inl (cI, 16, .inl f)), (a0, .inr (0, [.ref a1, .ref a2, .ref a3, .ref a4, .int isOn, .int cnt, .int len, .int stp, .int sta, .int pm, .int bm])), (a1, .inl (cI, 16, .inl bw)), (a2, .inl (cI, 120, .inl bars)), (a3, .inl (cI, 40, .inl puts)), (a4, .inl (cI, 40, .inl bap))])) kNoi (kX kx) 1 6 (fun _ => False) := by sorry
end
section
/-! the object: what may throw (printed by wip/gen) -/
def P_ofEdge (K : Nat) (f : Nat → Int32) (edge : Int32) (what : Int32) : Int32 ⊕ Nat :=
  bd (P_edgeAt K f edge) (fun pair_1 =>
    if pair_1 = (-1 : Int32) then
      Sum.inr 2
    else
      if (P_isWithin what 0 3) = 0 then
        Sum.inr 1
      else
        if what = (0 : Int32) then
          Sum.inl (P_oneOf pair_1)
        else
          if what = (1 : Int32) then
            Sum.inl (P_otherOf pair_1)
          else
            if what = (2 : Int32) then
              if (P_leastRingBy f (P_oneOf pair_1) (P_otherOf pair_1)) = (-1 : Int32) then
                Sum.inl 1
              else
                Sum.inl 0
            else
              Sum.inl (P_leastRingBy f (P_oneOf pair_1) (P_otherOf pair_1)))
abbrev rm_X6_ofEdge : Room := { frames := 4, cells := 0, slots := 0, locals := 88 }
theorem k_X6_ofEdge (l : Launch) (dC : Nat → ClassId) (dI : Nat → Nat → Nat) (cI cN : ClassId) (s0 : Nat) (sc0 : Nat) (kp0 : Nat) (ta0 : Nat) (km : Int32) (rf : Int32) (a0 : Nat) (q0 : Nat) (d0 : Nat) (c0 : Nat) (h0 : Nat) (h1 : Nat) (K : Nat) (f : Nat → Int32) (edge : Int32) (what : Int32) (hK : K ≤ 16) (v : Int32) (hok : P_ofEdge K f edge what = .inl v) : Met l yX6_ofEdge wsX6_ofEdge rm_X6_ofEdge (va_Pc [.ref s0, .int edge, .int what] (kW dC dI cI cN [(s0, .inr (5, [.ref h0, .ref sc0, .ref kp0, .ref a0, .ref q0, .ref d0, .ref c0, .ref ta0, .int km, .int rf])), (h0, .inr (3, [.ref h1, .int (nI K)])), (h1, .inl (cI, 16, .inl f))])) (kR v) 0 0 (fun _ => False) := by sorry
theorem gfX6_ofEdge_1 : ∀ w ∈ (vx_atS RX6 70 (kCls 1) kNs).filter goodWord, w ∈ wsX6_ofEdge := by sorry
theorem gfX6_ofEdge_2 : ∀ w ∈ (vx_atS RX6 95 (kCls 2) kNs).filter goodWord, w ∈ wsX6_ofEdge := by sorry
abbrev rx_X6_ofEdge : Room := { frames := 6, cells := 1, slots := 6, locals := 88 }
theorem e_X6_ofEdge (l : Launch) (hl9 : l.stackTraces = false) (dC : Nat → ClassId) (dI : Nat → Nat → Nat) (cI cN : ClassId) (s0 : Nat) (sc0 : Nat) (kp0 : Nat) (ta0 : Nat) (km : Int32) (rf : Int32) (a0 : Nat) (q0 : Nat) (d0 : Nat) (c0 : Nat) (h0 : Nat) (h1 : Nat) (K : Nat) (f : Nat → Int32) (edge : Int32) (what : Int32) (hK : K ≤ 16) (kx : Nat) (hex : P_ofEdge K f edge what = .inr kx) : vx_Met l yX6_ofEdge wsX6_ofEdge rx_X6_ofEdge (va_Pc [.ref s0, .int edge, .int what] (kWE dC dI cI cN [(s0, .inr (5, [.ref h0, .ref sc0, .ref kp0, .ref a0, .ref q0, .ref d0, .ref c0, .ref ta0, .int km, .int rf])), (h0, .inr (3, [.ref h1, .int (nI K)])), (h1, .inl (cI, 16, .inl f))])) kNoi (kX kx) 1 6 (fun _ => False) := by sorry
def P_doubled (K : Nat) (f : Nat → Int32) (fs : Nat → Int32) (t : Nat → Int32) (marks : Int32) : (Int32 × (Nat → Int32) × (Nat → Int32) × (Nat → Int32)) ⊕ Nat :=
  if (P_isSetBelow marks (P_edgesInAll K f)) = 0 then
    Sum.inr 1
  else
    if (P_isWithin (nI K) 3 8) = 0 then
      Sum.inr 3
    else
      bd (P_layDouble K f fs marks) (fun r_3 =>
        bd (P_take f r_3) (fun r_4 =>
          bd (P_look t (2 * K) r_4) (fun r_5 =>
            Sum.inl (P_leastRing (2 * K) r_4, r_4, r_3, r_5))))
abbrev rm_X6_doubled : Room := { frames := 6, cells := 0, slots := 0, locals := 139 }
theorem k_X6_doubled (l : Launch) (dC : Nat → ClassId) (dI : Nat → Nat → Nat) (cI cN : ClassId) (s0 : Nat) (kp0 : Nat) (ta0 : Nat) (km : Int32) (rf : Int32) (d0 : Nat) (c0 : Nat) (h0 : Nat) (h1 : Nat) (K : Nat) (f : Nat → Int32) (sc0 : Nat) (sc1 : Nat) (KS : Nat) (fs : Nat → Int32) (a0 : Nat) (a1 : Nat) (a2 : Nat) (a3 : Nat) (a4 : Nat) (isOn : Int32) (cnt : Int32) (len : Int32) (stp : Int32) (sta : Int32) (pm : Int32) (bm : Int32) (bw : Nat → Int32) (bars : Nat → Int32) (puts : Nat → Int32) (bap : Nat → Int32) (q0 : Nat) (q1 : Nat) (q2 : Nat) (g : Nat → Int32) (t : Nat → Int32) (marks : Int32) (hK : K ≤ 16) (sz : Nat) (v : Int32 × (Nat → Int32) × (Nat → Int32) × (Nat → Int32)) (hok : P_doubled K f fs t marks = .inl v) : Met l yX6_doubled wsX6_doubled rm_X6_doubled (va_Pc [.ref s0, .int marks] (kU dC dI cI cN [(s0, .inr (5, [.ref h0, .ref sc0, .ref kp0, .ref a0, .ref q0, .ref d0, .ref c0, .ref ta0, .int km, .int rf])), (h0, .inr (3, [.ref h1, .int (nI K)])), (h1, .inl (cI, 16, .inl f)), (sc0, .inr (3, [.ref sc1, .int (nI KS)])), (sc1, .inl (cI, 16, .inl fs)), (a0, .inr (0, [.ref a1, .ref a2, .ref a3, .ref a4, .int isOn, .int cnt, .int len, .int stp, .int sta, .int pm, .int bm])), (a1, .inl (cI, 16, .inl bw)), (a2, .inl (cI, 120, .inl bars)), (a3, .inl (cI, 40, .inl puts)), (a4, .inl (cI, 40, .inl bap)), (q0, .inr (1, [.ref q1, .ref q2])), (q1, .inl (cI, 102, .inl g)), (q2, .inl (cI, 54, .inl t))] sz)) (kVi dC dI v.1 [(s0, .inr (5, [.ref h0, .ref sc0, .ref kp0, .ref a0, .ref q0, .ref d0, .ref c0, .ref ta0, .int km, .int rf])), (h0, .inr (3, [.ref h1, .int (nI (2 * K))])), (h1, .inl (cI, 16, .inl (v.2.1))), (sc0, .inr (3, [.ref sc1, .int (nI (2 * K))])), (sc1, .inl (cI, 16, .inl (v.2.2.1))), (a0, .inr (0, [.ref a1, .ref a2, .ref a3, .ref a4, .int 0, .int cnt, .int len, .int stp, .int sta, .int pm, .int bm])), (a1, .inl (cI, 16, .inl bw)), (a2, .inl (cI, 120, .inl bars)), (a3, .inl (cI, 40, .inl puts)), (a4, .inl (cI, 40, .inl bap)), (q0, .inr (1, [.ref q1, .ref q2])), (q1, .inl (cI, 102, .inl g)), (q2, .inl (cI, 54, .inl (v.2.2.2)))] (va_A [(s0, .inr (5, [.ref h0, .ref sc0, .ref kp0, .ref a0, .ref q0, .ref d0, .ref c0, .ref ta0, .int km, .int rf])), (h0, .inr (3, [.ref h1, .int (nI K)])), (h1, .inl (cI, 16, .inl f)), (sc0, .inr (3, [.ref sc1, .int (nI KS)])), (sc1, .inl (cI, 16, .inl fs)), (a0, .inr (0, [.ref a1, .ref a2, .ref a3, .ref a4, .int isOn, .int cnt, .int len, .int stp, .int sta, .int pm, .int bm])), (a1, .inl (cI, 16, .inl bw)), (a2, .inl (cI, 120, .inl bars)), (a3, .inl (cI, 40, .inl puts)), (a4, .inl (cI, 40, .inl bap)), (q0, .inr (1, [.ref q1, .ref q2])), (q1, .inl (cI, 102, .inl g)), (q2, .inl (cI, 54, .inl t))] sz)) 0 0 (va_A [(s0, .inr (5, [.ref h0, .ref sc0, .ref kp0, .ref a0, .ref q0, .ref d0, .ref c0, .ref ta0, .int km, .int rf])), (h0, .inr (3, [.ref h1, .int (nI K)])), (h1, .inl (cI, 16, .inl f)), (sc0, .inr (3, [.ref sc1, .int (nI KS)])), (sc1, .inl (cI, 16, .inl fs)), (a0, .inr (0, [.ref a1, .ref a2, .ref a3, .ref a4, .int isOn, .int cnt, .int len, .int stp, .int sta, .int pm, .int bm])), (a1, .inl (cI, 16, .inl bw)), (a2, .inl (cI, 120, .inl bars)), (a3, .inl (cI, 40, .inl puts)), (a4, .inl (cI, 40, .inl bap)), (q0, .inr (1, [.ref q1, .ref q2])), (q1, .inl (cI, 102, .inl g)), (q2, .inl (cI, 54, .inl t))] sz) := by sorry
theorem gfX6_doubled_1 : ∀ w ∈ (vx_atS RX6 70 (kCls 1) kNs).filter goodWord, w ∈ wsX6_doubled := by sorry
theorem gfX6_doubled_3 : ∀ w ∈ (vx_atS RX6 110 (kCls 3) kNs).filter goodWord, w ∈ wsX6_doubled := by sorry
abbrev rx_X6_doubled : Room := { frames := 6, cells := 1, slots := 6, locals := 82 }
theorem e_X6_doubled (l : Launch) (hl9 : l.stackTraces = false) (dC : Nat → ClassId) (dI : Nat → Nat → Nat) (cI cN : ClassId) (s0 : Nat) (kp0 : Nat) (ta0 : Nat) (km : Int32) (rf : Int32) (d0 : Nat) (c0 : Nat) (h0 : Nat) (h1 : Nat) (K : Nat) (f : Nat → Int32) (sc0 : Nat) (sc1 : Nat) (KS : Nat) (fs : Nat → Int32) (a0 : Nat) (a1 : Nat) (a2 : Nat) (a3 : Nat) (a4 : Nat) (isOn : Int32) (cnt : Int32) (len : Int32) (stp : Int32) (sta : Int32) (pm : Int32) (bm : Int32) (bw : Nat → Int32) (bars : Nat → Int32) (puts : Nat → Int32) (bap : Nat → Int32) (q0 : Nat) (q1 : Nat) (q2 : Nat) (g : Nat → Int32) (t : Nat → Int32) (marks : Int32) (hK : K ≤ 16) (kx : Nat) (hex : P_doubled K f fs t marks = .inr kx) : vx_Met l yX6_doubled wsX6_doubled rx_X6_doubled (va_Pc [.ref s0, .int marks] (kWE dC dI cI cN [(s0, .inr (5, [.ref h0, .ref sc0, .ref kp0, .ref a0, .ref q0, .ref d0, .ref c0, .ref ta0, .int km, .int rf])), (h0, .inr (3, [.ref h1, .int (nI K)])), (h1, .inl (cI, 16, .inl f)), (sc0, .inr (3, [.ref sc1, .int (nI KS)])), (sc1, .inl (cI, 16, .inl fs)), (a0, .inr (0, [.ref a1, .ref a2, .ref a3, .ref a4, .int isOn, .int cnt, .int len, .int stp, .int sta, .int pm, .int bm])), (a1, .inl (cI, 16, .inl bw)), (a2, .inl (cI, 120, .inl bars)), (a3, .inl (cI, 40, .inl puts)), (a4, .inl (cI, 40, .inl bap)), (q0, .inr (1, [.ref q1, .ref q2])), (q1, .inl (cI, 102, .inl g)), (q2, .inl (cI, 54, .inl t))])) kNoi (kX kx) 1 6 (fun _ => False) := by sorry
def P_isSound (K : Nat) (f : Nat → Int32) (isOn : Int32) (cnt : Int32) (len : Int32) (g : Nat → Int32) (t : Nat → Int32) : Int32 :=
  if (P_isMutual K f) = 0 then
    0
  else
    if (P_isAimSound K f isOn cnt len) = 0 then
      0
    else
      if (P_isEvenSound K f g) = 0 then
        0
      else
        if (P_isTableSound g t) = 0 then
          0
        else
          1
abbrev rm_X6_isSound : Room := { frames := 6, cells := 0, slots := 0, locals := 141 }
theorem k_X6_isSound (l : Launch) (dC : Nat → ClassId) (dI : Nat → Nat → Nat) (cI cN : ClassId) (s0 : Nat) (sc0 : Nat) (kp0 : Nat) (ta0 : Nat) (km : Int32) (rf : Int32) (d0 : Nat) (c0 : Nat) (h0 : Nat) (h1 : Nat) (K : Nat) (f : Nat → Int32) (a0 : Nat) (a1 : Nat) (a2 : Nat) (a3 : Nat) (a4 : Nat) (isOn : Int32) (cnt : Int32) (len : Int32) (stp : Int32) (sta : Int32) (pm : Int32) (bm : Int32) (bw : Nat → Int32) (bars : Nat → Int32) (puts : Nat → Int32) (bap : Nat → Int32) (q0 : Nat) (q1 : Nat) (q2 : Nat) (g : Nat → Int32) (t : Nat → Int32) (hK : K ≤ 16) : Met l yX6_isSound wsX6_isSound rm_X6_isSound (va_Pc [.ref s0] (kW dC dI cI cN [(s0, .inr (5, [.ref h0, .ref sc0, .ref kp0, .ref a0, .ref q0, .ref d0, .ref c0, .ref ta0, .int km, .int rf])), (h0, .inr (3, [.ref h1, .int (nI K)])), (h1, .inl (cI, 16, .inl f)), (a0, .inr (0, [.ref a1, .ref a2, .ref a3, .ref a4, .int isOn, .int cnt, .int len, .int stp, .int sta, .int pm, .int bm])), (a1, .inl (cI, 16, .inl bw)), (a2, .inl (cI, 120, .inl bars)), (a3, .inl (cI, 40, .inl puts)), (a4, .inl (cI, 40, .inl bap)), (q0, .inr (1, [.ref q1, .ref q2])), (q1, .inl (cI, 102, .inl g)), (q2, .inl (cI, 54, .inl t))])) (kR (P_isSound K f isOn cnt len g t)) 0 0 (fun _ => False) := by sorry
end
section
/-! a number that is 1 or more (by hand) -/
theorem kNz2 {x : Int32} (h : (1 : Int32) ≤ x) : ¬ x = 0 := by sorry
end
section
/-! the object: mended (printed by wip/gen) -/
def L_mendByRounds_33 (K : Nat) (length : Int32) (rounds : Int32) (k : Int32 → Int32 → Int32 → Int32 → (Nat → Int32) → Nat → (Nat → Int32) → (Nat → Int32) → Int32 × (Nat → Int32) × Nat × (Nat → Int32) × (Nat → Int32)) : Nat → Nat → Int32 → Int32 → Int32 → Int32 → (Nat → Int32) → Nat → (Nat → Int32) → (Nat → Int32) → Int32 × (Nat → Int32) × Nat × (Nat → Int32) × (Nat → Int32)
  | 0, round, edges, swaps, shorts, z, fa, kz, fb, tz => k edges swaps shorts z fa kz fb tz
  | n + 1, round, edges, swaps, shorts, z, fa, kz, fb, tz =>
    bd (((z * (1103515245 : Int32)) + (12345 : Int32)) &&& (2147483647 : Int32)) (fun z_1 =>
      bd (P_edgeAt K fa ((z_1 / (7 : Int32)) - (z_1 / (7 : Int32)) / edges * edges)) (fun pair_2 =>
        if (z_1 - z_1 / (2 : Int32) * (2 : Int32)) = (1 : Int32) then
          bd (P_turned (P_edgeAt K fa ((z_1 / (1024 : Int32)) - (z_1 / (1024 : Int32)) / edges * edges)) 1) (fun pairToo_3 =>
            if (P_canExchange fa pair_2 pairToo_3) = 0 then
              L_mendByRounds_33 K length rounds k n (round + 1) edges swaps shorts z_1 fa kz fb tz
            else
              bd (P_take fb fa) (fun r_4 =>
                bd (P_exchange K fa pair_2 pairToo_3) (fun r_5 =>
                  bd (P_shortRings K r_5 tz length) (fun r_6 =>
                    bd (r_6.1) (fun then__7 =>
                      if shorts ≤ then__7 then
                        bd (P_take r_5 r_4) (fun r_8 =>
                          L_mendByRounds_33 K length rounds k n (round + 1) edges swaps shorts z_1 r_8 K r_4 r_6.2)
                      else
                        L_mendByRounds_33 K length rounds k n (round + 1) edges (swaps + 1) then__7 z_1 r_5 K r_4 r_6.2)))))
        else
          bd (P_turned (P_edgeAt K fa ((z_1 / (1024 : Int32)) - (z_1 / (1024 : Int32)) / edges * edges)) 0) (fun pairToo_9 =>
            if (P_canExchange fa pair_2 pairToo_9) = 0 then
              L_mendByRounds_33 K length rounds k n (round + 1) edges swaps shorts z_1 fa kz fb tz
            else
              bd (P_take fb fa) (fun r_10 =>
                bd (P_exchange K fa pair_2 pairToo_9) (fun r_11 =>
                  bd (P_shortRings K r_11 tz length) (fun r_12 =>
                    bd (r_12.1) (fun then__13 =>
                      if shorts ≤ then__13 then
                        bd (P_take r_11 r_10) (fun r_14 =>
                          L_mendByRounds_33 K length rounds k n (round + 1) edges swaps shorts z_1 r_14 K r_10 r_12.2)
                      else
                        L_mendByRounds_33 K length rounds k n (round + 1) edges (swaps + 1) then__13 z_1 r_11 K r_10 r_12.2)))))))
def P_mendByRounds (K : Nat) (f : Nat → Int32) (KS : Nat) (fs : Nat → Int32) (ta : Nat → Int32) (length : Int32) (seed : Int32) (rounds : Int32) : Int32 × (Nat → Int32) × Nat × (Nat → Int32) × (Nat → Int32) :=
  bd (P_edgesInAll K f) (fun edges_1 =>
    if (1 : Int32) ≤ edges_1 then
      bd (P_shortRings K f ta length) (fun r_3 =>
        bd (r_3.1) (fun shorts_4 =>
          L_mendByRounds_33 K length rounds (fun edges swaps shorts z fa kz fb tz => (swaps, fa, kz, fb, tz)) rounds.toNatClampNeg 0 edges_1 0 shorts_4 seed f KS fs r_3.2))
    else
      (0, f, KS, fs, ta))
abbrev rm_X6_mendByRounds : Room := { frames := 11, cells := 0, slots := 0, locals := 290 }
theorem k_X6_mendByRounds (l : Launch) (dC : Nat → ClassId) (dI : Nat → Nat → Nat) (cI cN : ClassId) (s0 : Nat) (kp0 : Nat) (ta0 : Nat) (km : Int32) (rf : Int32) (a0 : Nat) (q0 : Nat) (d0 : Nat) (c0 : Nat) (h0 : Nat) (h1 : Nat) (K : Nat) (f : Nat → Int32) (sc0 : Nat) (sc1 : Nat) (KS : Nat) (fs : Nat → Int32) (ta : Nat → Int32) (length : Int32) (seed : Int32) (rounds : Int32) (hK : K ≤ 16) (sz : Nat) : Met l yX6_mendByRounds wsX6_mendByRounds rm_X6_mendByRounds (va_Pc [.ref s0, .int length, .int seed, .int rounds] (kU dC dI cI cN [(s0, .inr (5, [.ref h0, .ref sc0, .ref kp0, .ref a0, .ref q0, .ref d0, .ref c0, .ref ta0, .int km, .int rf])), (h0, .inr (3, [.ref h1, .int (nI K)])), (h1, .inl (cI, 16, .inl f)), (sc0, .inr (3, [.ref sc1, .int (nI KS)])), (sc1, .inl (cI, 16, .inl fs)), (ta0, .inl (cI, 8, .inl ta))] sz)) (kVi dC dI (P_mendByRounds K f KS fs ta length seed rounds).1 [(s0, .inr (5, [.ref h0, .ref sc0, .ref kp0, .ref a0, .ref q0, .ref d0, .ref c0, .ref ta0, .int km, .int rf])), (h0, .inr (3, [.ref h1, .int (nI K)])), (h1, .inl (cI, 16, .inl ((P_mendByRounds K f KS fs ta length seed rounds).2.1))), (sc0, .inr (3, [.ref sc1, .int (nI ((P_mendByRounds K f KS fs ta length seed rounds).2.2.1))])), (sc1, .inl (cI, 16, .inl ((P_mendByRounds K f KS fs ta length seed rounds).2.2.2.1))), (ta0, .inl (cI, 8, .inl ((P_mendByRounds K f KS fs ta length seed rounds).2.2.2.2)))] (va_A [(s0, .inr (5, [.ref h0, .ref sc0, .ref kp0, .ref a0, .ref q0, .ref d0, .ref c0, .ref ta0, .int km, .int rf])), (h0, .inr (3, [.ref h1, .int (nI K)])), (h1, .inl (cI, 16, .inl f)), (sc0, .inr (3, [.ref sc1, .int (nI KS)])), (sc1, .inl (cI, 16, .inl fs)), (ta0, .inl (cI, 8, .inl ta))] sz)) 0 0 (va_A [(s0, .inr (5, [.ref h0, .ref sc0, .ref kp0, .ref a0, .ref q0, .ref d0, .ref c0, .ref ta0, .int km, .int rf])), (h0, .inr (3, [.ref h1, .int (nI K)])), (h1, .inl (cI, 16, .inl f)), (sc0, .inr (3, [.ref sc1, .int (nI KS)])), (sc1, .inl (cI, 16, .inl fs)), (ta0, .inl (cI, 8, .inl ta))] sz) := by sorry
end
section
/-! likeness of whole nets (printed by wip/gen) -/
def L_turnsOf_32 (K : Nat) (k : Int32 → Int32 → (Nat → Int32) → (Nat → Int32) → (Nat → Int32) → Int32 → Int32 × Nat × (Nat → Int32) × Nat × (Nat → Int32) × (Nat → Int32) × Int32) : Nat → Nat → Int32 → Int32 → (Nat → Int32) → (Nat → Int32) → (Nat → Int32) → Int32 → Int32 × Nat × (Nat → Int32) × Nat × (Nat → Int32) × (Nat → Int32) × Int32
  | 0, knot, turns, seen, fa, fb, ia, pa => k turns seen fa fb ia pa
  | n + 1, knot, turns, seen, fa, fb, ia, pa =>
    if (P_holds seen (nI knot)) = 0 then
      bd (P_partWith fa (nI knot)) (fun part_1 =>
        bd (P_partsLike fa K K fb ia pa part_1 seen) (fun r_2 =>
          bd ((1 : Int32) + r_2.1) (fun places_3 =>
            bd (if (turns * places_3) < (1000 : Int32) then (turns * places_3) else (1000 : Int32)) (fun turns_4 =>
              bd (P_waysOf fa K K fb r_2.2.1 r_2.2.2 part_1 part_1 1000) (fun r_5 =>
                bd (if (turns_4 * r_5.1) < (1000 : Int32) then (turns_4 * r_5.1) else (1000 : Int32)) (fun turns_6 =>
                  bd (seen ||| part_1) (fun seen_7 =>
                    L_turnsOf_32 K k n (knot + 1) turns_6 seen_7 fa fb r_5.2.1 r_5.2.2)))))))
    else
      L_turnsOf_32 K k n (knot + 1) turns seen fa fb ia pa
def P_turnsOf (KF : Nat) (ff : Nat → Int32) (KT : Nat) (tf : Nat → Int32) (im : Nat → Int32) (pl : Int32) (K : Nat) (f : Nat → Int32) : Int32 × Nat × (Nat → Int32) × Nat × (Nat → Int32) × (Nat → Int32) × Int32 :=
  if (nI K) = 0 then
    (0, KF, ff, KT, tf, im, pl)
  else
    bd (P_take ff f) (fun r_2 =>
      bd (P_take tf f) (fun r_3 =>
        L_turnsOf_32 K (fun turns seen fa fb ia pa => (turns, K, fa, K, fb, ia, pa)) K 0 1 0 r_2 r_3 im pl))
abbrev rm_X2_turnsOf : Room := { frames := 21, cells := 0, slots := 0, locals := 573 }
theorem k_X2_turnsOf (l : Launch) (dC : Nat → ClassId) (dI : Nat → Nat → Nat) (cI cN : ClassId) (d0 : Nat) (f0 : Nat) (f1 : Nat) (t0 : Nat) (t1 : Nat) (d1 : Nat) (KF : Nat) (ff : Nat → Int32) (KT : Nat) (tf : Nat → Int32) (im : Nat → Int32) (pl : Int32) (h0 : Nat) (h1 : Nat) (K : Nat) (f : Nat → Int32) (hK : K ≤ 16) (sz : Nat) : Met l yX2_turnsOf wsX2_turnsOf rm_X2_turnsOf (va_Pc [.ref d0, .ref h0] (kU dC dI cI cN [(d0, .inr (2, [.ref f0, .ref t0, .ref d1, .int pl])), (f0, .inr (3, [.ref f1, .int (nI KF)])), (f1, .inl (cI, 16, .inl ff)), (t0, .inr (3, [.ref t1, .int (nI KT)])), (t1, .inl (cI, 16, .inl tf)), (d1, .inl (cI, 16, .inl im)), (h0, .inr (3, [.ref h1, .int (nI K)])), (h1, .inl (cI, 16, .inl f))] sz)) (kVi dC dI (P_turnsOf KF ff KT tf im pl K f).1 [(d0, .inr (2, [.ref f0, .ref t0, .ref d1, .int ((P_turnsOf KF ff KT tf im pl K f).2.2.2.2.2.2)])), (f0, .inr (3, [.ref f1, .int (nI ((P_turnsOf KF ff KT tf im pl K f).2.1))])), (f1, .inl (cI, 16, .inl ((P_turnsOf KF ff KT tf im pl K f).2.2.1))), (t0, .inr (3, [.ref t1, .int (nI ((P_turnsOf KF ff KT tf im pl K f).2.2.2.1))])), (t1, .inl (cI, 16, .inl ((P_turnsOf KF ff KT tf im pl K f).2.2.2.2.1))), (d1, .inl (cI, 16, .inl ((P_turnsOf KF ff KT tf im pl K f).2.2.2.2.2.1))), (h0, .inr (3, [.ref h1, .int (nI K)])), (h1, .inl (cI, 16, .inl f))] (va_A [(d0, .inr (2, [.ref f0, .ref t0, .ref d1, .int pl])), (f0, .inr (3, [.ref f1, .int (nI KF)])), (f1, .inl (cI, 16, .inl ff)), (t0, .inr (3, [.ref t1, .int (nI KT)])), (t1, .inl (cI, 16, .inl tf)), (d1, .inl (cI, 16, .inl im)), (h0, .inr (3, [.ref h1, .int (nI K)])), (h1, .inl (cI, 16, .inl f))] sz)) 0 0 (va_A [(d0, .inr (2, [.ref f0, .ref t0, .ref d1, .int pl])), (f0, .inr (3, [.ref f1, .int (nI KF)])), (f1, .inl (cI, 16, .inl ff)), (t0, .inr (3, [.ref t1, .int (nI KT)])), (t1, .inl (cI, 16, .inl tf)), (d1, .inl (cI, 16, .inl im)), (h0, .inr (3, [.ref h1, .int (nI K)])), (h1, .inl (cI, 16, .inl f))] sz) := by sorry
def L_areAlike_59 (K J : Nat) (k : Int32 → Int32 → (Nat → Int32) → (Nat → Int32) → (Nat → Int32) → Int32 → Int32 × Nat × (Nat → Int32) × Nat × (Nat → Int32) × (Nat → Int32) × Int32) : Nat → Nat → Int32 → Int32 → (Nat → Int32) → (Nat → Int32) → (Nat → Int32) → Int32 → Int32 × Nat × (Nat → Int32) × Nat × (Nat → Int32) × (Nat → Int32) × Int32
  | 0, knot, seen, left, fa, fb, ia, pa => k seen left fa fb ia pa
  | n + 1, knot, seen, left, fa, fb, ia, pa =>
    if (P_holds seen (nI knot)) = 0 then
      bd (P_partWith fa (nI knot)) (fun part_1 =>
        bd (P_partMatching fa K J fb ia pa part_1 left) (fun r_2 =>
          bd (r_2.1) (fun match__3 =>
            if match__3 = 0 then
              (0, K, fa, J, fb, r_2.2.1, r_2.2.2)
            else
              bd (seen ||| part_1) (fun seen_4 =>
                bd (left &&& (match__3 ^^^ (-1 : Int32))) (fun left_5 =>
                  L_areAlike_59 K J k n (knot + 1) seen_4 left_5 fa fb r_2.2.1 r_2.2.2)))))
    else
      L_areAlike_59 K J k n (knot + 1) seen left fa fb ia pa
def P_areAlike (KF : Nat) (ff : Nat → Int32) (KT : Nat) (tf : Nat → Int32) (im : Nat → Int32) (pl : Int32) (K : Nat) (f : Nat → Int32) (J : Nat) (g : Nat → Int32) : Int32 × Nat × (Nat → Int32) × Nat × (Nat → Int32) × (Nat → Int32) × Int32 :=
  if (nI K) = (nI J) then
    if (P_edgesInAll K f) = (P_edgesInAll J g) then
      bd (P_take ff f) (fun r_3 =>
        bd (P_take tf g) (fun r_4 =>
          bd ((P_bit (nI J)) - (1 : Int32)) (fun left_5 =>
            L_areAlike_59 K J (fun seen left fa fb ia pa => if left = 0 then (1, K, fa, J, fb, ia, pa) else (0, K, fa, J, fb, ia, pa)) K 0 0 left_5 r_3 r_4 im pl)))
    else
      (0, KF, ff, KT, tf, im, pl)
  else
    (0, KF, ff, KT, tf, im, pl)
abbrev rm_X2_areAlike : Room := { frames := 21, cells := 0, slots := 0, locals := 572 }
theorem k_X2_areAlike (l : Launch) (dC : Nat → ClassId) (dI : Nat → Nat → Nat) (cI cN : ClassId) (d0 : Nat) (f0 : Nat) (f1 : Nat) (t0 : Nat) (t1 : Nat) (d1 : Nat) (KF : Nat) (ff : Nat → Int32) (KT : Nat) (tf : Nat → Int32) (im : Nat → Int32) (pl : Int32) (h0 : Nat) (h1 : Nat) (K : Nat) (f : Nat → Int32) (o0 : Nat) (o1 : Nat) (J : Nat) (g : Nat → Int32) (hK : K ≤ 16) (hJ : J ≤ 16) (sz : Nat) : Met l yX2_areAlike wsX2_areAlike rm_X2_areAlike (va_Pc [.ref d0, .ref h0, .ref o0] (kU dC dI cI cN [(d0, .inr (2, [.ref f0, .ref t0, .ref d1, .int pl])), (f0, .inr (3, [.ref f1, .int (nI KF)])), (f1, .inl (cI, 16, .inl ff)), (t0, .inr (3, [.ref t1, .int (nI KT)])), (t1, .inl (cI, 16, .inl tf)), (d1, .inl (cI, 16, .inl im)), (h0, .inr (3, [.ref h1, .int (nI K)])), (h1, .inl (cI, 16, .inl f)), (o0, .inr (3, [.ref o1, .int (nI J)])), (o1, .inl (cI, 16, .inl g))] sz)) (kVi dC dI (P_areAlike KF ff KT tf im pl K f J g).1 [(d0, .inr (2, [.ref f0, .ref t0, .ref d1, .int ((P_areAlike KF ff KT tf im pl K f J g).2.2.2.2.2.2)])), (f0, .inr (3, [.ref f1, .int (nI ((P_areAlike KF ff KT tf im pl K f J g).2.1))])), (f1, .inl (cI, 16, .inl ((P_areAlike KF ff KT tf im pl K f J g).2.2.1))), (t0, .inr (3, [.ref t1, .int (nI ((P_areAlike KF ff KT tf im pl K f J g).2.2.2.1))])), (t1, .inl (cI, 16, .inl ((P_areAlike KF ff KT tf im pl K f J g).2.2.2.2.1))), (d1, .inl (cI, 16, .inl ((P_areAlike KF ff KT tf im pl K f J g).2.2.2.2.2.1))), (h0, .inr (3, [.ref h1, .int (nI K)])), (h1, .inl (cI, 16, .inl f)), (o0, .inr (3, [.ref o1, .int (nI J)])), (o1, .inl (cI, 16, .inl g))] (va_A [(d0, .inr (2, [.ref f0, .ref t0, .ref d1, .int pl])), (f0, .inr (3, [.ref f1, .int (nI KF)])), (f1, .inl (cI, 16, .inl ff)), (t0, .inr (3, [.ref t1, .int (nI KT)])), (t1, .inl (cI, 16, .inl tf)), (d1, .inl (cI, 16, .inl im)), (h0, .inr (3, [.ref h1, .int (nI K)])), (h1, .inl (cI, 16, .inl f)), (o0, .inr (3, [.ref o1, .int (nI J)])), (o1, .inl (cI, 16, .inl g))] sz)) 0 0 (va_A [(d0, .inr (2, [.ref f0, .ref t0, .ref d1, .int pl])), (f0, .inr (3, [.ref f1, .int (nI KF)])), (f1, .inl (cI, 16, .inl ff)), (t0, .inr (3, [.ref t1, .int (nI KT)])), (t1, .inl (cI, 16, .inl tf)), (d1, .inl (cI, 16, .inl im)), (h0, .inr (3, [.ref h1, .int (nI K)])), (h1, .inl (cI, 16, .inl f)), (o0, .inr (3, [.ref o1, .int (nI J)])), (o1, .inl (cI, 16, .inl g))] sz) := by sorry
end
section
/-! the object: asked (printed by wip/gen) -/
def P_now (K : Nat) (f : Nat → Int32) (km : Int32) (rf : Int32) (KF : Nat) (ff : Nat → Int32) (KT : Nat) (tf : Nat → Int32) (im : Nat → Int32) (pl : Int32) (hu : Nat → Int32) (what : Int32) : (Int32 × Nat × (Nat → Int32) × Nat × (Nat → Int32) × (Nat → Int32) × Int32 × (Nat → Int32)) ⊕ Nat :=
  if (P_isWithin what 0 10) = 0 then
    Sum.inr 1
  else
    if what = (0 : Int32) then
      Sum.inl (nI K, KF, ff, KT, tf, im, pl, hu)
    else
      if what = (1 : Int32) then
        Sum.inl (P_edgesInAll K f, KF, ff, KT, tf, im, pl, hu)
      else
        if what = (2 : Int32) then
          Sum.inl (P_partsInAll K f, KF, ff, KT, tf, im, pl, hu)
        else
          if what = (3 : Int32) then
            Sum.inl (P_leastRing K f, KF, ff, KT, tf, im, pl, hu)
          else
            if what = (4 : Int32) then
              Sum.inl (P_evenCount K f, KF, ff, KT, tf, im, pl, hu)
            else
              if what = (5 : Int32) then
                Sum.inl (P_width K f, KF, ff, KT, tf, im, pl, hu)
              else
                if what = (6 : Int32) then
                  bd (P_fewest K f hu) (fun r_9 =>
                    Sum.inl (r_9.1, KF, ff, KT, tf, im, pl, r_9.2))
                else
                  if what = (7 : Int32) then
                    bd (P_turnsOf KF ff KT tf im pl K f) (fun r_11 =>
                      Sum.inl (r_11.1, r_11.2.1, r_11.2.2.1, r_11.2.2.2.1, r_11.2.2.2.2.1, r_11.2.2.2.2.2.1, r_11.2.2.2.2.2.2, hu))
                  else
                    if what = (8 : Int32) then
                      Sum.inl (km, KF, ff, KT, tf, im, pl, hu)
                    else
                      if what = (9 : Int32) then
                        Sum.inl (P_loneliest K f, KF, ff, KT, tf, im, pl, hu)
                      else
                        Sum.inl (rf, KF, ff, KT, tf, im, pl, hu)
abbrev rm_X6_now : Room := { frames := 22, cells := 0, slots := 0, locals := 599 }
theorem k_X6_now (l : Launch) (dC : Nat → ClassId) (dI : Nat → Nat → Nat) (cI cN : ClassId) (s0 : Nat) (sc0 : Nat) (kp0 : Nat) (ta0 : Nat) (km : Int32) (rf : Int32) (a0 : Nat) (q0 : Nat) (h0 : Nat) (h1 : Nat) (K : Nat) (f : Nat → Int32) (d0 : Nat) (f0 : Nat) (f1 : Nat) (t0 : Nat) (t1 : Nat) (d1 : Nat) (KF : Nat) (ff : Nat → Int32) (KT : Nat) (tf : Nat → Int32) (im : Nat → Int32) (pl : Int32) (c0 : Nat) (c1 : Nat) (hu : Nat → Int32) (what : Int32) (hK : K ≤ 16) (sz : Nat) (v : Int32 × Nat × (Nat → Int32) × Nat × (Nat → Int32) × (Nat → Int32) × Int32 × (Nat → Int32)) (hok : P_now K f km rf KF ff KT tf im pl hu what = .inl v) : Met l yX6_now wsX6_now rm_X6_now (va_Pc [.ref s0, .int what] (kU dC dI cI cN [(s0, .inr (5, [.ref h0, .ref sc0, .ref kp0, .ref a0, .ref q0, .ref d0, .ref c0, .ref ta0, .int km, .int rf])), (h0, .inr (3, [.ref h1, .int (nI K)])), (h1, .inl (cI, 16, .inl f)), (d0, .inr (2, [.ref f0, .ref t0, .ref d1, .int pl])), (f0, .inr (3, [.ref f1, .int (nI KF)])), (f1, .inl (cI, 16, .inl ff)), (t0, .inr (3, [.ref t1, .int (nI KT)])), (t1, .inl (cI, 16, .inl tf)), (d1, .inl (cI, 16, .inl im)), (c0, .inr (4, [.ref c1])), (c1, .inl (cI, 6, .inl hu))] sz)) (kVi dC dI v.1 [(s0, .inr (5, [.ref h0, .ref sc0, .ref kp0, .ref a0, .ref q0, .ref d0, .ref c0, .ref ta0, .int km, .int rf])), (h0, .inr (3, [.ref h1, .int (nI K)])), (h1, .inl (cI, 16, .inl f)), (d0, .inr (2, [.ref f0, .ref t0, .ref d1, .int (v.2.2.2.2.2.2.1)])), (f0, .inr (3, [.ref f1, .int (nI (v.2.1))])), (f1, .inl (cI, 16, .inl (v.2.2.1))), (t0, .inr (3, [.ref t1, .int (nI (v.2.2.2.1))])), (t1, .inl (cI, 16, .inl (v.2.2.2.2.1))), (d1, .inl (cI, 16, .inl (v.2.2.2.2.2.1))), (c0, .inr (4, [.ref c1])), (c1, .inl (cI, 6, .inl (v.2.2.2.2.2.2.2)))] (va_A [(s0, .inr (5, [.ref h0, .ref sc0, .ref kp0, .ref a0, .ref q0, .ref d0, .ref c0, .ref ta0, .int km, .int rf])), (h0, .inr (3, [.ref h1, .int (nI K)])), (h1, .inl (cI, 16, .inl f)), (d0, .inr (2, [.ref f0, .ref t0, .ref d1, .int pl])), (f0, .inr (3, [.ref f1, .int (nI KF)])), (f1, .inl (cI, 16, .inl ff)), (t0, .inr (3, [.ref t1, .int (nI KT)])), (t1, .inl (cI, 16, .inl tf)), (d1, .inl (cI, 16, .inl im)), (c0, .inr (4, [.ref c1])), (c1, .inl (cI, 6, .inl hu))] sz)) 0 0 (va_A [(s0, .inr (5, [.ref h0, .ref sc0, .ref kp0, .ref a0, .ref q0, .ref d0, .ref c0, .ref ta0, .int km, .int rf])), (h0, .inr (3, [.ref h1, .int (nI K)])), (h1, .inl (cI, 16, .inl f)), (d0, .inr (2, [.ref f0, .ref t0, .ref d1, .int pl])), (f0, .inr (3, [.ref f1, .int (nI KF)])), (f1, .inl (cI, 16, .inl ff)), (t0, .inr (3, [.ref t1, .int (nI KT)])), (t1, .inl (cI, 16, .inl tf)), (d1, .inl (cI, 16, .inl im)), (c0, .inr (4, [.ref c1])), (c1, .inl (cI, 6, .inl hu))] sz) := by sorry
theorem gfX6_now_1 : ∀ w ∈ (vx_atS RX6 70 (kCls 1) kNs).filter goodWord, w ∈ wsX6_now := by sorry
abbrev rx_X6_now : Room := { frames := 22, cells := 1, slots := 6, locals := 599 }
theorem e_X6_now (l : Launch) (hl9 : l.stackTraces = false) (dC : Nat → ClassId) (dI : Nat → Nat → Nat) (cI cN : ClassId) (s0 : Nat) (sc0 : Nat) (kp0 : Nat) (ta0 : Nat) (km : Int32) (rf : Int32) (a0 : Nat) (q0 : Nat) (h0 : Nat) (h1 : Nat) (K : Nat) (f : Nat → Int32) (d0 : Nat) (f0 : Nat) (f1 : Nat) (t0 : Nat) (t1 : Nat) (d1 : Nat) (KF : Nat) (ff : Nat → Int32) (KT : Nat) (tf : Nat → Int32) (im : Nat → Int32) (pl : Int32) (c0 : Nat) (c1 : Nat) (hu : Nat → Int32) (what : Int32) (hK : K ≤ 16) (kx : Nat) (hex : P_now K f km rf KF ff KT tf im pl hu what = .inr kx) : vx_Met l yX6_now wsX6_now rx_X6_now (va_Pc [.ref s0, .int what] (kWE dC dI cI cN [(s0, .inr (5, [.ref h0, .ref sc0, .ref kp0, .ref a0, .ref q0, .ref d0, .ref c0, .ref ta0, .int km, .int rf])), (h0, .inr (3, [.ref h1, .int (nI K)])), (h1, .inl (cI, 16, .inl f)), (d0, .inr (2, [.ref f0, .ref t0, .ref d1, .int pl])), (f0, .inr (3, [.ref f1, .int (nI KF)])), (f1, .inl (cI, 16, .inl ff)), (t0, .inr (3, [.ref t1, .int (nI KT)])), (t1, .inl (cI, 16, .inl tf)), (d1, .inl (cI, 16, .inl im)), (c0, .inr (4, [.ref c1])), (c1, .inl (cI, 6, .inl hu))])) kNoi (kX kx) 1 6 (fun _ => False) := by sorry
end
section
/-! contracts that answer a long; what may throw but does not (printed by wip/gen/pre4.py) -/
def kRl (v : Int64) : Array Value → State → Outcome → State → Prop := va_Ql (fun (r : Int64) (_ : Unit) => r = v) (fun _ _ => True) (fun _ => False)
theorem kRl_end {v r : Int64} {a : Array Value} {s t : State} {H : Heap} {locs : List Loc} (h : r = v) (hS : va_S (fun _ => False) s.heap H locs) (ht : t.heap = H) : kRl v a s (.returned (some (.long r))) t := ⟨⟨r, (), rfl, h, trivial⟩, hS.F ht⟩
def kVl (dC : Nat → ClassId) (dI : Nat → Nat → Nat) (v : Int64) (ws' : va_W) (A : Nat → Prop) : Array Value → State → Outcome → State → Prop := va_Ql (fun (r : Int64) (_ : Unit) => r = v) (fun _ t => va_P (dC, dI) kCl ws' t.heap) A
theorem kVl_end {dC : Nat → ClassId} {dI : Nat → Nat → Nat} {v r : Int64} {ws' : va_W} {A : Nat → Prop} {a : Array Value} {s t : State} {H : Heap} {locs : List Loc} (h : r = v) (hP : va_P (dC, dI) kCl ws' H) (hS : va_S A s.heap H locs) (ht : t.heap = H) : kVl dC dI v ws' A a s (.returned (some (.long r))) t := ⟨⟨r, (), rfl, h, by subst ht; exact hP⟩, hS.F ht⟩
def sbd {α β : Type} (d : β) (x : α ⊕ Nat) (f : α → β) : β := match x with
  | .inl v => f v
  | .inr _ => d
theorem sbd_l {α β : Type} {d : β} {x : α ⊕ Nat} {f : α → β} {z : β} {v : α} (h : sbd d x f = z) (e : x = .inl v) : f v = z := by subst e; exact h
section KCALLL
variable {p : Program} {l : Launch} {e : Env} {R : Room} {s : State} {m : MethodId} {args : Array Value} {below : List Frame} {meth : Method} {c : Code} {H : Heap} {locs : List Loc} {cells slots : Nat} {Q : State → Prop}
variable {pc : Nat} {ls : Array Slot} {rest st0 : List Value} {D : va_G} {cl : List vw_C} {dC : Nat → ClassId} {dI : Nat → Nat → Nat} {A0 : Nat → Prop} {ws Z wc wr ws' : va_W} {H0 : Heap} {a : Array Value}
theorem kCalll {v : Int64} (hr : va_Run p l e R s m args below meth c H locs cells slots 0 0 (F0 m pc ls st0) rest (kRl v a) (fun _ => False)) (hP : va_P D cl ws H) (hS : va_S A0 H0 H locs)
    (kk : ∀ (H1 : Heap) (locs1 : List Loc), va_P D cl ws H1 → va_S A0 H0 H1 locs1 → W p l e R s m args below meth c H1 locs1 cells slots Q (F0 m (pc + 3) ls (.long v :: rest))) : W p l e R s m args below meth c H locs cells slots Q (F0 m pc ls st0) := by sorry
theorem kCallVl {v : Int64} (hr : va_Run p l e R s m args below meth c H locs cells slots 0 0 (F0 m pc ls st0) rest (kVl dC dI v ws' (va_A wc H.size) a) (va_A wc H.size)) (hP : va_P (dC, dI) kCl Z H) (hD : va_D A0 Z) (hS : va_S A0 H0 H locs) (hA : ∀ q : Nat, H0.size ≤ q → A0 q)
    (isC isR : List Nat) (hC : isC.map (fun i => Z[i]?) = wc.map some) (hn0 : va_nd isC = true) (hR : isR.map (fun i => Z[i]?) = wr.map some) (hn : va_nd isR = true) (hdis : ∀ i ∈ isR, i ∉ isC) (hf : ws'.map Prod.fst = wc.map Prod.fst)
    (kk : ∀ (H1 : Heap) (locs1 : List Loc), va_P (dC, dI) kCl (wr ++ ws') H1 → va_D A0 (wr ++ ws') → va_S A0 H0 H1 locs1 → W p l e R s m args below meth c H1 locs1 cells slots Q (F0 m (pc + 3) ls (.long v :: rest))) : W p l e R s m args below meth c H locs cells slots Q (F0 m pc ls st0) := by sorry
end KCALLL

end
end
section
/-! what never throws, by its arguments -/
theorem kWithin1 {x lo hi : Nat} {a b : Int32} (ha : a = nI lo) (hb : b = nI hi) (h1 : lo ≤ x) (h2 : x ≤ hi) (h3 : hi < 2 ^ 31) : P_isWithin (nI x) a b = 1 := by
  subst ha
  subst hb
  unfold P_isWithin
  rw [if_neg (nI_nlt h1 (by omega)), if_neg (nI_nlt h2 h3)]
theorem P_isKnot1 {K k : Nat} (h : k < K) (hK : K ≤ 16) : P_isKnot K (nI k) = 1 := by
  unfold P_isKnot
  rw [if_neg (nI_pos (by omega)), if_neg (nI_ge h (by omega)), if_neg (show ¬ (16 : Int32) ≤ nI k from nI_ge (a := k) (b := 16) (by omega) (by omega))]
theorem kOne {x : Int32} (h : x = 1) : ¬ x = 0 := by rw [h]; decide
theorem P_requireTabled1 {c g : Nat} (h1 : 2 ≤ c) (h2 : c ≤ 5) (h3 : 3 ≤ g) (h4 : g ≤ 8) : P_requireTabled (nI c) (nI g) = Sum.inl () := by
  unfold P_requireTabled
  rw [if_neg (kOne (kWithin1 (lo := 2) (hi := 5) (a := 2) (b := 5) rfl rfl h1 h2 (by omega))), if_neg (kOne (kWithin1 (lo := 3) (hi := 8) (a := 3) (b := 8) rfl rfl h3 h4 (by omega)))]
theorem P_ofKnot_ok {K k w : Nat} {f bw : Nat → Int32} {isOn cnt len : Int32} (h : k < K) (hK : K ≤ 16) (hw : w ≤ 5) : ∃ v, P_ofKnot K f bw isOn cnt len (nI k) (nI w) = Sum.inl v := by
  unfold P_ofKnot
  rw [if_neg (kOne (P_isKnot1 h hK)), if_neg (kOne (kWithin1 (lo := 0) (hi := 5) (a := 0) (b := 5) rfl rfl (by omega) hw (by omega)))]
  repeat' split
  all_goals exact ⟨_, rfl⟩
theorem P_table_ok {g t : Nat → Int32} {c l : Nat} {x : Int32} (h1 : 2 ≤ c) (h2 : c ≤ 5) (h3 : 3 ≤ l) (h4 : l ≤ 8) : ∃ v, P_table g t (nI c) (nI l) x = Sum.inl v := by
  unfold P_table
  rw [P_requireTabled1 h1 h2 h3 h4]
  simp only [sb]
  repeat' split
  all_goals exact ⟨_, rfl⟩
theorem P_search_ok {K : Nat} {f bw : Nat → Int32} {isOn cnt len stp sta pm bm : Int32} {w : Nat} (hw : w ≤ 7) : ∃ v, P_search K f bw isOn cnt len stp sta pm bm (nI w) = Sum.inl v := by
  unfold P_search
  rw [if_neg (kOne (kWithin1 (lo := 0) (hi := 7) (a := 0) (b := 7) rfl rfl (by omega) hw (by omega)))]
  repeat' split
  all_goals exact ⟨_, rfl⟩
theorem P_rings_ok {K : Nat} {f ta : Nat → Int32} {g : Nat} (h1 : 3 ≤ g) (h2 : g ≤ 7) : ∃ v, P_rings K f ta (nI g) = Sum.inl v := by
  unfold P_rings
  rw [if_neg (kOne (kWithin1 (lo := 3) (hi := 7) (a := 3) (b := 7) rfl rfl h1 h2 (by omega)))]
  exact ⟨_, rfl⟩
theorem P_now_ok {K : Nat} {f : Nat → Int32} {km rf : Int32} {KF : Nat} {ff : Nat → Int32} {KT : Nat} {tf im : Nat → Int32} {pl : Int32} {hu : Nat → Int32} {w : Nat} (hw : w ≤ 10) : ∃ v, P_now K f km rf KF ff KT tf im pl hu (nI w) = Sum.inl v := by
  unfold P_now
  rw [if_neg (kOne (kWithin1 (lo := 0) (hi := 10) (a := 0) (b := 10) rfl rfl (by omega) hw (by omega)))]
  simp only [bd]
  repeat' split
  all_goals exact ⟨_, rfl⟩
end
section
/-! the hunt's numbers stay in their range -/
theorem kInc {x : Int32} (h0 : 0 ≤ x) (h1 : ¬ (120 : Int32) ≤ x) : 0 ≤ x + 1 := by
  have a0 : (0 : Int32).toInt ≤ x.toInt := Int32.le_iff_toInt_le.mp h0
  have a1 : ¬ (120 : Int32).toInt ≤ x.toInt := fun q => h1 (Int32.le_iff_toInt_le.mpr q)
  rw [show (0 : Int32).toInt = 0 from by decide] at a0
  rw [show (120 : Int32).toInt = 120 from by decide] at a1
  refine Int32.le_iff_toInt_le.mpr ?_
  rw [Int32.toInt_add, show (1 : Int32).toInt = 1 from by decide, show (0 : Int32).toInt = 0 from by decide, Int.bmod_eq_of_le (by omega) (by omega)]
  omega
theorem L_unbar_bm {bars : Nat → Int32} {many : Int32} : ∀ (n : Nat) (x : Int32) (b : Nat → Int32) (bm : Int32), 0 ≤ bm → 0 ≤ (L_unbarDownTo_7 bars many (fun b many_ => (b, many_)) n x b bm).2 := by
  intro n
  induction n with
  | zero => intro x b bm h; exact h
  | succ n ih =>
    intro x b bm h
    rw [L_unbarDownTo_7]
    split
    · exact ih _ _ _ h
    · split
      · exact ih _ _ _ h
      · exact ih _ _ _ (kNlt (by assumption))
theorem P_unbar_bm {bw bars : Nat → Int32} {bm many : Int32} (h : 0 ≤ bm) : 0 ≤ (P_unbarDownTo bw bars bm many).2 := by
  unfold P_unbarDownTo
  simp only [bd]
  exact L_unbar_bm _ _ _ _ h
theorem P_bar_bm {bw bars : Nat → Int32} {bm pair : Int32} (h : 0 ≤ bm) : 0 ≤ (P_bar bw bars bm pair).2.2 := by
  unfold P_bar
  split
  · exact h
  · split
    · exact h
    · exact kInc h (by assumption)
theorem P_goBack_bm {K : Nat} {f bw bars puts bap : Nat → Int32} {sta pm bm : Int32} (h : 0 ≤ bm) : 0 ≤ (P_goBack K f bw bars puts bap sta pm bm).2.2.2.2.2 := by
  obtain ⟨ρ, hρ⟩ : ∃ ρ, ρ = P_goBack K f bw bars puts bap sta pm bm := ⟨_, rfl⟩
  rw [← hρ]
  have hr := hρ.symm
  rewrite [P_goBack] at hr
  obtain ⟨la, ela⟩ : ∃ y, y = pm - 1 := ⟨_, rfl⟩
  have hr := bd_to hr ela
  have out : ∀ m, 0 ≤ (P_unbarDownTo bw bars bm m).2 := fun m => P_unbar_bm h
  by_cases c1 : la < 0
  · have hr := if_to hr c1
    have hr := bd_to hr rfl
    rw [← hr]
    exact out 0
  · have hr := if_no hr c1
    by_cases c2 : (40 : Int32) ≤ la
    · have hr := if_to hr c2
      have hr := bd_to hr rfl
      rw [← hr]
      exact out 0
    · have hr := if_no hr c2
      by_cases c3 : la < (40 : Int32)
      · have hr := if_to hr c3
        have hr := bd_to hr rfl
        obtain ⟨r8, er8⟩ : ∃ y, y = P_unbarDownTo bw bars bm (bap la.toNatClampNeg) := ⟨_, rfl⟩
        have hr := bd_to hr er8
        obtain ⟨r9, er9⟩ : ∃ y, y = P_bar r8.1 bars r8.2 (puts la.toNatClampNeg) := ⟨_, rfl⟩
        have hr := bd_to hr er9
        rw [← hr]
        show 0 ≤ r9.2.2
        rw [er9]
        refine P_bar_bm ?_
        rw [er8]
        exact out _
      · have hr := if_no hr c3
        have hr := bd_to hr rfl
        rw [← hr]
        exact out 0
theorem P_put_bap {K : Nat} {f puts bap : Nat → Int32} {pm bm knot partner : Int32} (h : ∀ j, 0 ≤ bap j) (hb : 0 ≤ bm) : ∀ j, 0 ≤ (P_put K f puts bap pm bm knot partner).2.1 j := by
  intro j
  unfold P_put
  repeat' split
  all_goals first | exact h j | (show 0 ≤ upd bap _ bm j; unfold upd; split <;> first | exact hb | exact h j)
theorem P_step_inv {K : Nat} {f bw bars puts bap : Nat → Int32} {cnt len stp sta pm bm : Int32} (h1 : ∀ j, 0 ≤ bap j) (h2 : 0 ≤ bm) : (∀ j, 0 ≤ (P_step K f bw bars puts bap cnt len stp sta pm bm).2.2.2.1 j) ∧ 0 ≤ (P_step K f bw bars puts bap cnt len stp sta pm bm).2.2.2.2.2.2.2.2 := by
  unfold P_step
  simp only [bd]
  repeat' split
  all_goals first | exact ⟨h1, h2⟩ | exact ⟨h1, P_goBack_bm h2⟩ | exact ⟨P_put_bap h1 h2, h2⟩
theorem P_step_i1 {K : Nat} {f bw bars puts bap : Nat → Int32} {cnt len stp sta pm bm : Int32} {r : (Nat → Int32) × (Nat → Int32) × (Nat → Int32) × (Nat → Int32) × (Nat → Int32) × Int32 × Int32 × Int32 × Int32} (e : r = P_step K f bw bars puts bap cnt len stp sta pm bm) (h1 : ∀ j, 0 ≤ bap j) (h2 : 0 ≤ bm) : ∀ j, 0 ≤ r.2.2.2.1 j := by
  rw [e]; exact (P_step_inv h1 h2).1
theorem P_step_i2 {K : Nat} {f bw bars puts bap : Nat → Int32} {cnt len stp sta pm bm : Int32} {r : (Nat → Int32) × (Nat → Int32) × (Nat → Int32) × (Nat → Int32) × (Nat → Int32) × Int32 × Int32 × Int32 × Int32} (e : r = P_step K f bw bars puts bap cnt len stp sta pm bm) (h1 : ∀ j, 0 ≤ bap j) (h2 : 0 ≤ bm) : 0 ≤ r.2.2.2.2.2.2.2.2 := by
  rw [e]; exact (P_step_inv h1 h2).2
end
section
/-! the object: grown (printed by wip/gen) -/
def L_grow_43 (K : Nat) (cnt len : Int32) (k : (Nat → Int32) → (Nat → Int32) → (Nat → Int32) → (Nat → Int32) → (Nat → Int32) → Int32 → Int32 → Int32 → Int32 → (Int32 × (Nat → Int32) × (Nat → Int32) × (Nat → Int32) × (Nat → Int32) × (Nat → Int32) × Int32 × Int32 × Int32 × Int32 × (Nat → Int32) × (Nat → Int32)) ⊕ Nat) : Nat → Nat → (Nat → Int32) → (Nat → Int32) → (Nat → Int32) → (Nat → Int32) → (Nat → Int32) → Int32 → Int32 → Int32 → Int32 → (Int32 × (Nat → Int32) × (Nat → Int32) × (Nat → Int32) × (Nat → Int32) × (Nat → Int32) × Int32 × Int32 × Int32 × Int32 × (Nat → Int32) × (Nat → Int32)) ⊕ Nat
  | 0, step, fa, b1, b2, b3, b4, x1, x2, x3, x4 => k fa b1 b2 b3 b4 x1 x2 x3 x4
  | n + 1, step, fa, b1, b2, b3, b4, x1, x2, x3, x4 =>
    if x2 = 0 then
      bd (P_step K fa b1 b2 b3 b4 cnt len x1 x2 x3 x4) (fun r_1 =>
        L_grow_43 K cnt len k n (step + 1) r_1.2.2.2.2.1 r_1.1 r_1.2.1 r_1.2.2.1 r_1.2.2.2.1 r_1.2.2.2.2.2.1 r_1.2.2.2.2.2.2.1 r_1.2.2.2.2.2.2.2.1 r_1.2.2.2.2.2.2.2.2)
    else
      k fa b1 b2 b3 b4 x1 x2 x3 x4
def P_grow (K : Nat) (f : Nat → Int32) (bw : Nat → Int32) (bars : Nat → Int32) (puts : Nat → Int32) (bap : Nat → Int32) (isOn : Int32) (cnt : Int32) (len : Int32) (stp : Int32) (sta : Int32) (pm : Int32) (bm : Int32) (g : Nat → Int32) (t : Nat → Int32) (steps : Int32) : (Int32 × (Nat → Int32) × (Nat → Int32) × (Nat → Int32) × (Nat → Int32) × (Nat → Int32) × Int32 × Int32 × Int32 × Int32 × (Nat → Int32) × (Nat → Int32)) ⊕ Nat :=
  if (P_isWithin steps 1 400) = 0 then
    Sum.inr 1
  else
    if isOn = 0 then
      Sum.inr 3
    else
      L_grow_43 K cnt len (fun fa b1 b2 b3 b4 x1 x2 x3 x4 => if x2 = (2 : Int32) then bd (P_prove g (nI K) cnt len) (fun r_5 => bd (P_look t K fa) (fun r_6 => Sum.inl (x2, fa, b1, b2, b3, b4, x1, x2, x3, x4, r_5, r_6))) else bd (P_look t K fa) (fun r_4 => Sum.inl (x2, fa, b1, b2, b3, b4, x1, x2, x3, x4, g, r_4))) steps.toNatClampNeg 0 f bw bars puts bap stp sta pm bm
theorem L_grow_inl {K : Nat} {cnt len : Int32} {k : (Nat → Int32) → (Nat → Int32) → (Nat → Int32) → (Nat → Int32) → (Nat → Int32) → Int32 → Int32 → Int32 → Int32 → (Int32 × (Nat → Int32) × (Nat → Int32) × (Nat → Int32) × (Nat → Int32) × (Nat → Int32) × Int32 × Int32 × Int32 × Int32 × (Nat → Int32) × (Nat → Int32)) ⊕ Nat} (hk : ∀ a b c d e f g h i, ∃ v, k a b c d e f g h i = Sum.inl v) : ∀ (n step : Nat) a b c d e f g h i, ∃ v, L_grow_43 K cnt len k n step a b c d e f g h i = Sum.inl v := by
  intro n
  induction n with
  | zero => intro step a b c d e f g h i; exact hk _ _ _ _ _ _ _ _ _
  | succ n ih =>
    intro step a b c d e f g h i
    rw [L_grow_43]
    by_cases c9 : g = 0
    · rw [if_pos c9]
      exact ih _ _ _ _ _ _ _ _ _ _
    · rw [if_neg c9]
      exact hk _ _ _ _ _ _ _ _ _
abbrev rm_X6_grow : Room := { frames := 6, cells := 0, slots := 0, locals := 143 }
end
section
set_option maxHeartbeats 100000 in
set_option maxRecDepth 100000 in
theorem k_X6_growD (l : Launch) (dC : Nat → ClassId) (dI : Nat → Nat → Nat) (cI cN : ClassId) (s0 : Nat) (sc0 : Nat) (kp0 : Nat) (ta0 : Nat) (km : Int32) (rf : Int32) (d0 : Nat) (c0 : Nat) (h0 : Nat) (h1 : Nat) (K : Nat) (f : Nat → Int32) (a0 : Nat) (a1 : Nat) (a2 : Nat) (a3 : Nat) (a4 : Nat) (isOn : Int32) (cnt : Int32) (len : Int32) (stp : Int32) (sta : Int32) (pm : Int32) (bm : Int32) (bw : Nat → Int32) (bars : Nat → Int32) (puts : Nat → Int32) (bap : Nat → Int32) (q0 : Nat) (q1 : Nat) (q2 : Nat) (g : Nat → Int32) (t : Nat → Int32) (steps : Int32) (hK : K ≤ 16) (hbap : ∀ j, 0 ≤ bap j) (hbm : 0 ≤ bm) (sz : Nat) (v : Int32 × (Nat → Int32) × (Nat → Int32) × (Nat → Int32) × (Nat → Int32) × (Nat → Int32) × Int32 × Int32 × Int32 × Int32 × (Nat → Int32) × (Nat → Int32)) (hok : P_grow K f bw bars puts bap isOn cnt len stp sta pm bm g t steps = .inl v) : Met l yX6_grow wsX6_grow rm_X6_grow (va_Pc [.ref s0, .int steps] (kU dC dI cI cN [(s0, .inr (5, [.ref h0, .ref sc0, .ref kp0, .ref a0, .ref q0, .ref d0, .ref c0, .ref ta0, .int km, .int rf])), (h0, .inr (3, [.ref h1, .int (nI K)])), (h1, .inl (cI, 16, .inl f)), (a0, .inr (0, [.ref a1, .ref a2, .ref a3, .ref a4, .int isOn, .int cnt, .int len, .int stp, .int sta, .int pm, .int bm])), (a1, .inl (cI, 16, .inl bw)), (a2, .inl (cI, 120, .inl bars)), (a3, .inl (cI, 40, .inl puts)), (a4, .inl (cI, 40, .inl bap)), (q0, .inr (1, [.ref q1, .ref q2])), (q1, .inl (cI, 102, .inl g)), (q2, .inl (cI, 54, .inl t))] sz)) (kVi dC dI v.1 [(s0, .inr (5, [.ref h0, .ref sc0, .ref kp0, .ref a0, .ref q0, .ref d0, .ref c0, .ref ta0, .int km, .int rf])), (h0, .inr (3, [.ref h1, .int (nI K)])), (h1, .inl (cI, 16, .inl (v.2.1))), (a0, .inr (0, [.ref a1, .ref a2, .ref a3, .ref a4, .int isOn, .int cnt, .int len, .int (v.2.2.2.2.2.2.1), .int (v.2.2.2.2.2.2.2.1), .int (v.2.2.2.2.2.2.2.2.1), .int (v.2.2.2.2.2.2.2.2.2.1)])), (a1, .inl (cI, 16, .inl (v.2.2.1))), (a2, .inl (cI, 120, .inl (v.2.2.2.1))), (a3, .inl (cI, 40, .inl (v.2.2.2.2.1))), (a4, .inl (cI, 40, .inl (v.2.2.2.2.2.1))), (q0, .inr (1, [.ref q1, .ref q2])), (q1, .inl (cI, 102, .inl (v.2.2.2.2.2.2.2.2.2.2.1))), (q2, .inl (cI, 54, .inl (v.2.2.2.2.2.2.2.2.2.2.2)))] (va_A [(s0, .inr (5, [.ref h0, .ref sc0, .ref kp0, .ref a0, .ref q0, .ref d0, .ref c0, .ref ta0, .int km, .int rf])), (h0, .inr (3, [.ref h1, .int (nI K)])), (h1, .inl (cI, 16, .inl f)), (a0, .inr (0, [.ref a1, .ref a2, .ref a3, .ref a4, .int isOn, .int cnt, .int len, .int stp, .int sta, .int pm, .int bm])), (a1, .inl (cI, 16, .inl bw)), (a2, .inl (cI, 120, .inl bars)), (a3, .inl (cI, 40, .inl puts)), (a4, .inl (cI, 40, .inl bap)), (q0, .inr (1, [.ref q1, .ref q2])), (q1, .inl (cI, 102, .inl g)), (q2, .inl (cI, 54, .inl t))] sz)) 0 0 (va_A [(s0, .inr (5, [.ref h0, .ref sc0, .ref kp0, .ref a0, .ref q0, .ref d0, .ref c0, .ref ta0, .int km, .int rf])), (h0, .inr (3, [.ref h1, .int (nI K)])), (h1, .inl (cI, 16, .inl f)), (a0, .inr (0, [.ref a1, .ref a2, .ref a3, .ref a4, .int isOn, .int cnt, .int len, .int stp, .int sta, .int pm, .int bm])), (a1, .inl (cI, 16, .inl bw)), (a2, .inl (cI, 120, .inl bars)), (a3, .inl (cI, 40, .inl puts)), (a4, .inl (cI, 40, .inl bap)), (q0, .inr (1, [.ref q1, .ref q2])), (q1, .inl (cI, 102, .inl g)), (q2, .inl (cI, 54, .inl t))] sz) := by
  refine Met.ofW (cc := cX6_grow) (maxL := 3) (ret := (some .int)) (by decide) rfl ?_
  intro p e s m args below meth c s₁ B hml hv
  obtain ⟨rfl, hsz, hP, hK, hD0, hN⟩ := hv
  have hx := B.exec
  have hb := B.bytes
  have hr0 := B.returns
  have hts := atoms_spec (ws := wsX6_grow) B.pre
  have hown : s.vm.findClass RX6 = some m.cls := findClass_of_methodNamed B.named
  have hlocks := B.notSynchronized
  subst hsz
  have hD := hD0.self (sz := s.heap.size)
  generalize hAe : va_A [(s0, .inr (5, [.ref h0, .ref sc0, .ref kp0, .ref a0, .ref q0, .ref d0, .ref c0, .ref ta0, .int km, .int rf])), (h0, .inr (3, [.ref h1, .int (nI K)])), (h1, .inl (cI, 16, .inl f)), (a0, .inr (0, [.ref a1, .ref a2, .ref a3, .ref a4, .int isOn, .int cnt, .int len, .int stp, .int sta, .int pm, .int bm])), (a1, .inl (cI, 16, .inl bw)), (a2, .inl (cI, 120, .inl bars)), (a3, .inl (cI, 40, .inl puts)), (a4, .inl (cI, 40, .inl bap)), (q0, .inr (1, [.ref q1, .ref q2])), (q1, .inl (cI, 102, .inl g)), (q2, .inl (cI, 54, .inl t))] s.heap.size = A at hD ⊢
  have hA : ∀ q : Nat, s.heap.size ≤ q → A q := fun q h => by rw [← hAe]; exact Or.inr h
  have hS : va_S A s.heap s.heap [] := va_S.rf
  have hl := lv_entry ([.ref s0, .int steps]) (n := 3) (Nat.le_of_ble_eq_true rfl)
  rw [lg_entry_eq]
  generalize (lg_sl ([.ref s0, .int steps]) ++ List.replicate (3 - (lg_sl ([.ref s0, .int steps])).length) Slot.unset).toArray = ls at hl ⊢
  have hl : lv_has ls 3 [(0, .ref s0), (1, .int steps)] := hl
  obtain ⟨ρ, hρ⟩ : ∃ ρ : (Int32 × (Nat → Int32) × (Nat → Int32) × (Nat → Int32) × (Nat → Int32) × (Nat → Int32) × Int32 × Int32 × Int32 × Int32 × (Nat → Int32) × (Nat → Int32)) ⊕ Nat, ρ = P_grow K f bw bars puts bap isOn cnt len stp sta pm bm g t steps := ⟨_, rfl⟩
  have hr : P_grow K f bw bars puts bap isOn cnt len stp sta pm bm g t steps = ρ := hρ.symm
  rewrite [P_grow] at hr
  refine lv_iload_n hx hb dX6_grow_0 rfl (lv_at hl 1 rfl) ?_
  refine lv_iconst (v := 1) hx hb dX6_grow_1 (by decide) ?_
  refine lv_sipush (v := 400) hx hb dX6_grow_2 (by decide) ?_
  refine kCall (va_runS (As := [.int steps, .int 1, .int 400]) (rest := []) ⟨hx, hb, hml, hown, hts⟩ (k_X6_isWithin l dC dI cI cN steps 1 400) (va_cwS 3 hts gX6_grow_X6_isWithin rfl rfl rfl (by decide +kernel) ⟨Nat.le_of_ble_eq_true rfl, Nat.le_of_ble_eq_true rfl⟩) (kW_S hP hK hD hN [] rfl rfl rfl) rfl rfl hl.1 rfl (lv_room (Nat.le_of_ble_eq_true rfl)) dX6_grow_5 ⟨Nat.zero_le _, Nat.zero_le _⟩) hP hS (fun H locs hP hS => ?_)
  refine lv_if_ne (tgt := 21) hx hb dX6_grow_8 (by decide) (fun c_1 => ?_) (fun c_1 => ?_)
  · have hr := if_no hr c_1
    refine lv_aload_n hx hb dX6_grow_21 rfl (lv_at hl 0 rfl) ?_
    refine va_get (D := (dC, dI)) (ci := 5) (v := .ref a0) (C := RX6) (T := TX6) (N := 10) hx hb hts (by decide +kernel) hown hK hP 0 rfl rfl 3 (by decide) (hts (.fieldLink RX6 26 "Shortring" "hunt" "LShortring$Hunt;") (by decide +kernel)) (fun _ h9 => h9) rfl dX6_grow_22 ?_
    refine va_getN (D := (dC, dI)) (ci := 0) (v := .int isOn) (C := RX0) (T := TX0) (N := 11) hx hb hts (by decide +kernel) hown hK hP 3 rfl rfl 4 (by decide) (va_Nw.use rfl (hN.2 1 _ rfl)) (fun _ h9 => h9) rfl dX6_grow_25 ?_
    refine lv_if_ne (tgt := 41) hx hb dX6_grow_28 (by decide) (fun c_2 => ?_) (fun c_2 => ?_)
    · have hr := if_no hr c_2
      refine lv_iconst (v := 0) hx hb dX6_grow_41 (by decide) ?_
      refine lv_istore_n (lv' := [(2, .int 0), (0, .ref s0), (1, .int steps)]) hx hb dX6_grow_42 rfl hl (by decide) rfl (fun ls hl => ?_)
      have ex_43 : ∀ (fa : Nat → Int32) (b1 : Nat → Int32) (b2 : Nat → Int32) (b3 : Nat → Int32) (b4 : Nat → Int32) (x1 : Int32) (x2 : Int32) (x3 : Int32) (x4 : Int32) (H : Heap) (locs : List Loc) (ls : Array Slot), (if x2 = (2 : Int32) then bd (P_prove g (nI K) cnt len) (fun r_5 => bd (P_look t K fa) (fun r_6 => Sum.inl (x2, fa, b1, b2, b3, b4, x1, x2, x3, x4, r_5, r_6))) else bd (P_look t K fa) (fun r_4 => Sum.inl (x2, fa, b1, b2, b3, b4, x1, x2, x3, x4, g, r_4))) = ρ → va_P (dC, dI) kCl [(s0, .inr (5, [.ref h0, .ref sc0, .ref kp0, .ref a0, .ref q0, .ref d0, .ref c0, .ref ta0, .int km, .int rf])), (h0, .inr (3, [.ref h1, .int (nI K)])), (h1, .inl (cI, 16, .inl fa)), (a0, .inr (0, [.ref a1, .ref a2, .ref a3, .ref a4, .int isOn, .int cnt, .int len, .int x1, .int x2, .int x3, .int x4])), (a1, .inl (cI, 16, .inl b1)), (a2, .inl (cI, 120, .inl b2)), (a3, .inl (cI, 40, .inl b3)), (a4, .inl (cI, 40, .inl b4)), (q0, .inr (1, [.ref q1, .ref q2])), (q1, .inl (cI, 102, .inl g)), (q2, .inl (cI, 54, .inl t))] H → va_D A [(s0, .inr (5, [.ref h0, .ref sc0, .ref kp0, .ref a0, .ref q0, .ref d0, .ref c0, .ref ta0, .int km, .int rf])), (h0, .inr (3, [.ref h1, .int (nI K)])), (h1, .inl (cI, 16, .inl fa)), (a0, .inr (0, [.ref a1, .ref a2, .ref a3, .ref a4, .int isOn, .int cnt, .int len, .int x1, .int x2, .int x3, .int x4])), (a1, .inl (cI, 16, .inl b1)), (a2, .inl (cI, 120, .inl b2)), (a3, .inl (cI, 40, .inl b3)), (a4, .inl (cI, 40, .inl b4)), (q0, .inr (1, [.ref q1, .ref q2])), (q1, .inl (cI, 102, .inl g)), (q2, .inl (cI, 54, .inl t))] → va_S A s.heap H locs → lv_has ls 3 [(0, .ref s0), (1, .int steps)] → W p l e (headSpec wsX6_grow rm_X6_grow).room s m (([.ref s0, .int steps] : List Value).toArray) below meth c H locs 0 0 (MQ below (kVi dC dI v.1 [(s0, .inr (5, [.ref h0, .ref sc0, .ref kp0, .ref a0, .ref q0, .ref d0, .ref c0, .ref ta0, .int km, .int rf])), (h0, .inr (3, [.ref h1, .int (nI K)])), (h1, .inl (cI, 16, .inl (v.2.1))), (a0, .inr (0, [.ref a1, .ref a2, .ref a3, .ref a4, .int isOn, .int cnt, .int len, .int (v.2.2.2.2.2.2.1), .int (v.2.2.2.2.2.2.2.1), .int (v.2.2.2.2.2.2.2.2.1), .int (v.2.2.2.2.2.2.2.2.2.1)])), (a1, .inl (cI, 16, .inl (v.2.2.1))), (a2, .inl (cI, 120, .inl (v.2.2.2.1))), (a3, .inl (cI, 40, .inl (v.2.2.2.2.1))), (a4, .inl (cI, 40, .inl (v.2.2.2.2.2.1))), (q0, .inr (1, [.ref q1, .ref q2])), (q1, .inl (cI, 102, .inl (v.2.2.2.2.2.2.2.2.2.2.1))), (q2, .inl (cI, 54, .inl (v.2.2.2.2.2.2.2.2.2.2.2)))] A) (([.ref s0, .int steps] : List Value).toArray) s 0 0 A) (F0 m 75 ls []) := by sorry
      have lp_43 : ∀ (n_43 step : Nat) (fa : Nat → Int32) (b1 : Nat → Int32) (b2 : Nat → Int32) (b3 : Nat → Int32) (b4 : Nat → Int32) (x1 : Int32) (x2 : Int32) (x3 : Int32) (x4 : Int32) (H : Heap) (locs : List Loc) (ls : Array Slot), step + n_43 = steps.toNatClampNeg → (∀ j, 0 ≤ b4 j) → (0 ≤ x4) → L_grow_43 K cnt len (fun fa b1 b2 b3 b4 x1 x2 x3 x4 => if x2 = (2 : Int32) then bd (P_prove g (nI K) cnt len) (fun r_5 => bd (P_look t K fa) (fun r_6 => Sum.inl (x2, fa, b1, b2, b3, b4, x1, x2, x3, x4, r_5, r_6))) else bd (P_look t K fa) (fun r_4 => Sum.inl (x2, fa, b1, b2, b3, b4, x1, x2, x3, x4, g, r_4))) n_43 step fa b1 b2 b3 b4 x1 x2 x3 x4 = ρ → va_P (dC, dI) kCl [(s0, .inr (5, [.ref h0, .ref sc0, .ref kp0, .ref a0, .ref q0, .ref d0, .ref c0, .ref ta0, .int km, .int rf])), (h0, .inr (3, [.ref h1, .int (nI K)])), (h1, .inl (cI, 16, .inl fa)), (a0, .inr (0, [.ref a1, .ref a2, .ref a3, .ref a4, .int isOn, .int cnt, .int len, .int x1, .int x2, .int x3, .int x4])), (a1, .inl (cI, 16, .inl b1)), (a2, .inl (cI, 120, .inl b2)), (a3, .inl (cI, 40, .inl b3)), (a4, .inl (cI, 40, .inl b4)), (q0, .inr (1, [.ref q1, .ref q2])), (q1, .inl (cI, 102, .inl g)), (q2, .inl (cI, 54, .inl t))] H → va_D A [(s0, .inr (5, [.ref h0, .ref sc0, .ref kp0, .ref a0, .ref q0, .ref d0, .ref c0, .ref ta0, .int km, .int rf])), (h0, .inr (3, [.ref h1, .int (nI K)])), (h1, .inl (cI, 16, .inl fa)), (a0, .inr (0, [.ref a1, .ref a2, .ref a3, .ref a4, .int isOn, .int cnt, .int len, .int x1, .int x2, .int x3, .int x4])), (a1, .inl (cI, 16, .inl b1)), (a2, .inl (cI, 120, .inl b2)), (a3, .inl (cI, 40, .inl b3)), (a4, .inl (cI, 40, .inl b4)), (q0, .inr (1, [.ref q1, .ref q2])), (q1, .inl (cI, 102, .inl g)), (q2, .inl (cI, 54, .inl t))] → va_S A s.heap H locs → lv_has ls 3 [(2, .int (nI step)), (0, .ref s0), (1, .int steps)] → W p l e (headSpec wsX6_grow rm_X6_grow).room s m (([.ref s0, .int steps] : List Value).toArray) below meth c H locs 0 0 (MQ below (kVi dC dI v.1 [(s0, .inr (5, [.ref h0, .ref sc0, .ref kp0, .ref a0, .ref q0, .ref d0, .ref c0, .ref ta0, .int km, .int rf])), (h0, .inr (3, [.ref h1, .int (nI K)])), (h1, .inl (cI, 16, .inl (v.2.1))), (a0, .inr (0, [.ref a1, .ref a2, .ref a3, .ref a4, .int isOn, .int cnt, .int len, .int (v.2.2.2.2.2.2.1), .int (v.2.2.2.2.2.2.2.1), .int (v.2.2.2.2.2.2.2.2.1), .int (v.2.2.2.2.2.2.2.2.2.1)])), (a1, .inl (cI, 16, .inl (v.2.2.1))), (a2, .inl (cI, 120, .inl (v.2.2.2.1))), (a3, .inl (cI, 40, .inl (v.2.2.2.2.1))), (a4, .inl (cI, 40, .inl (v.2.2.2.2.2.1))), (q0, .inr (1, [.ref q1, .ref q2])), (q1, .inl (cI, 102, .inl (v.2.2.2.2.2.2.2.2.2.2.1))), (q2, .inl (cI, 54, .inl (v.2.2.2.2.2.2.2.2.2.2.2)))] A) (([.ref s0, .int steps] : List Value).toArray) s 0 0 A) (F0 m 43 ls []) := by sorry
      sorry
    · have hr := if_to hr c_2
      cases hr.trans (hρ.trans hok)
  · have hr := if_to hr c_1
    cases hr.trans (hρ.trans hok)

set_option maxHeartbeats 100000 in
set_option maxRecDepth 100000 in
theorem k_X6_growC (l : Launch) (dC : Nat → ClassId) (dI : Nat → Nat → Nat) (cI cN : ClassId) (s0 : Nat) (sc0 : Nat) (kp0 : Nat) (ta0 : Nat) (km : Int32) (rf : Int32) (d0 : Nat) (c0 : Nat) (h0 : Nat) (h1 : Nat) (K : Nat) (f : Nat → Int32) (a0 : Nat) (a1 : Nat) (a2 : Nat) (a3 : Nat) (a4 : Nat) (isOn : Int32) (cnt : Int32) (len : Int32) (stp : Int32) (sta : Int32) (pm : Int32) (bm : Int32) (bw : Nat → Int32) (bars : Nat → Int32) (puts : Nat → Int32) (bap : Nat → Int32) (q0 : Nat) (q1 : Nat) (q2 : Nat) (g : Nat → Int32) (t : Nat → Int32) (steps : Int32) (hK : K ≤ 16) (hbap : ∀ j, 0 ≤ bap j) (hbm : 0 ≤ bm) (sz : Nat) (v : Int32 × (Nat → Int32) × (Nat → Int32) × (Nat → Int32) × (Nat → Int32) × (Nat → Int32) × Int32 × Int32 × Int32 × Int32 × (Nat → Int32) × (Nat → Int32)) (hok : P_grow K f bw bars puts bap isOn cnt len stp sta pm bm g t steps = .inl v) : Met l yX6_grow wsX6_grow rm_X6_grow (va_Pc [.ref s0, .int steps] (kU dC dI cI cN [(s0, .inr (5, [.ref h0, .ref sc0, .ref kp0, .ref a0, .ref q0, .ref d0, .ref c0, .ref ta0, .int km, .int rf])), (h0, .inr (3, [.ref h1, .int (nI K)])), (h1, .inl (cI, 16, .inl f)), (a0, .inr (0, [.ref a1, .ref a2, .ref a3, .ref a4, .int isOn, .int cnt, .int len, .int stp, .int sta, .int pm, .int bm])), (a1, .inl (cI, 16, .inl bw)), (a2, .inl (cI, 120, .inl bars)), (a3, .inl (cI, 40, .inl puts)), (a4, .inl (cI, 40, .inl bap)), (q0, .inr (1, [.ref q1, .ref q2])), (q1, .inl (cI, 102, .inl g)), (q2, .inl (cI, 54, .inl t))] sz)) (kVi dC dI v.1 [(s0, .inr (5, [.ref h0, .ref sc0, .ref kp0, .ref a0, .ref q0, .ref d0, .ref c0, .ref ta0, .int km, .int rf])), (h0, .inr (3, [.ref h1, .int (nI K)])), (h1, .inl (cI, 16, .inl (v.2.1))), (a0, .inr (0, [.ref a1, .ref a2, .ref a3, .ref a4, .int isOn, .int cnt, .int len, .int (v.2.2.2.2.2.2.1), .int (v.2.2.2.2.2.2.2.1), .int (v.2.2.2.2.2.2.2.2.1), .int (v.2.2.2.2.2.2.2.2.2.1)])), (a1, .inl (cI, 16, .inl (v.2.2.1))), (a2, .inl (cI, 120, .inl (v.2.2.2.1))), (a3, .inl (cI, 40, .inl (v.2.2.2.2.1))), (a4, .inl (cI, 40, .inl (v.2.2.2.2.2.1))), (q0, .inr (1, [.ref q1, .ref q2])), (q1, .inl (cI, 102, .inl (v.2.2.2.2.2.2.2.2.2.2.1))), (q2, .inl (cI, 54, .inl (v.2.2.2.2.2.2.2.2.2.2.2)))] (va_A [(s0, .inr (5, [.ref h0, .ref sc0, .ref kp0, .ref a0, .ref q0, .ref d0, .ref c0, .ref ta0, .int km, .int rf])), (h0, .inr (3, [.ref h1, .int (nI K)])), (h1, .inl (cI, 16, .inl f)), (a0, .inr (0, [.ref a1, .ref a2, .ref a3, .ref a4, .int isOn, .int cnt, .int len, .int stp, .int sta, .int pm, .int bm])), (a1, .inl (cI, 16, .inl bw)), (a2, .inl (cI, 120, .inl bars)), (a3, .inl (cI, 40, .inl puts)), (a4, .inl (cI, 40, .inl bap)), (q0, .inr (1, [.ref q1, .ref q2])), (q1, .inl (cI, 102, .inl g)), (q2, .inl (cI, 54, .inl t))] sz)) 0 0 (va_A [(s0, .inr (5, [.ref h0, .ref sc0, .ref kp0, .ref a0, .ref q0, .ref d0, .ref c0, .ref ta0, .int km, .int rf])), (h0, .inr (3, [.ref h1, .int (nI K)])), (h1, .inl (cI, 16, .inl f)), (a0, .inr (0, [.ref a1, .ref a2, .ref a3, .ref a4, .int isOn, .int cnt, .int len, .int stp, .int sta, .int pm, .int bm])), (a1, .inl (cI, 16, .inl bw)), (a2, .inl (cI, 120, .inl bars)), (a3, .inl (cI, 40, .inl puts)), (a4, .inl (cI, 40, .inl bap)), (q0, .inr (1, [.ref q1, .ref q2])), (q1, .inl (cI, 102, .inl g)), (q2, .inl (cI, 54, .inl t))] sz) := by
  refine Met.ofW (cc := cX6_grow) (maxL := 3) (ret := (some .int)) (by decide) rfl ?_
  intro p e s m args below meth c s₁ B hml hv
  obtain ⟨rfl, hsz, hP, hK, hD0, hN⟩ := hv
  have hx := B.exec
  have hb := B.bytes
  have hr0 := B.returns
  have hts := atoms_spec (ws := wsX6_grow) B.pre
  have hown : s.vm.findClass RX6 = some m.cls := findClass_of_methodNamed B.named
  have hlocks := B.notSynchronized
  subst hsz
  have hD := hD0.self (sz := s.heap.size)
  generalize hAe : va_A [(s0, .inr (5, [.ref h0, .ref sc0, .ref kp0, .ref a0, .ref q0, .ref d0, .ref c0, .ref ta0, .int km, .int rf])), (h0, .inr (3, [.ref h1, .int (nI K)])), (h1, .inl (cI, 16, .inl f)), (a0, .inr (0, [.ref a1, .ref a2, .ref a3, .ref a4, .int isOn, .int cnt, .int len, .int stp, .int sta, .int pm, .int bm])), (a1, .inl (cI, 16, .inl bw)), (a2, .inl (cI, 120, .inl bars)), (a3, .inl (cI, 40, .inl puts)), (a4, .inl (cI, 40, .inl bap)), (q0, .inr (1, [.ref q1, .ref q2])), (q1, .inl (cI, 102, .inl g)), (q2, .inl (cI, 54, .inl t))] s.heap.size = A at hD ⊢
  have hA : ∀ q : Nat, s.heap.size ≤ q → A q := fun q h => by rw [← hAe]; exact Or.inr h
  have hS : va_S A s.heap s.heap [] := va_S.rf
  have hl := lv_entry ([.ref s0, .int steps]) (n := 3) (Nat.le_of_ble_eq_true rfl)
  rw [lg_entry_eq]
  generalize (lg_sl ([.ref s0, .int steps]) ++ List.replicate (3 - (lg_sl ([.ref s0, .int steps])).length) Slot.unset).toArray = ls at hl ⊢
  have hl : lv_has ls 3 [(0, .ref s0), (1, .int steps)] := hl
  obtain ⟨ρ, hρ⟩ : ∃ ρ : (Int32 × (Nat → Int32) × (Nat → Int32) × (Nat → Int32) × (Nat → Int32) × (Nat → Int32) × Int32 × Int32 × Int32 × Int32 × (Nat → Int32) × (Nat → Int32)) ⊕ Nat, ρ = P_grow K f bw bars puts bap isOn cnt len stp sta pm bm g t steps := ⟨_, rfl⟩
  have hr : P_grow K f bw bars puts bap isOn cnt len stp sta pm bm g t steps = ρ := hρ.symm
  rewrite [P_grow] at hr
  refine lv_iload_n hx hb dX6_grow_0 rfl (lv_at hl 1 rfl) ?_
  refine lv_iconst (v := 1) hx hb dX6_grow_1 (by decide) ?_
  refine lv_sipush (v := 400) hx hb dX6_grow_2 (by decide) ?_
  refine kCall (va_runS (As := [.int steps, .int 1, .int 400]) (rest := []) ⟨hx, hb, hml, hown, hts⟩ (k_X6_isWithin l dC dI cI cN steps 1 400) (va_cwS 3 hts gX6_grow_X6_isWithin rfl rfl rfl (by decide +kernel) ⟨Nat.le_of_ble_eq_true rfl, Nat.le_of_ble_eq_true rfl⟩) (kW_S hP hK hD hN [] rfl rfl rfl) rfl rfl hl.1 rfl (lv_room (Nat.le_of_ble_eq_true rfl)) dX6_grow_5 ⟨Nat.zero_le _, Nat.zero_le _⟩) hP hS (fun H locs hP hS => ?_)
  refine lv_if_ne (tgt := 21) hx hb dX6_grow_8 (by decide) (fun c_1 => ?_) (fun c_1 => ?_)
  · have hr := if_no hr c_1
    refine lv_aload_n hx hb dX6_grow_21 rfl (lv_at hl 0 rfl) ?_
    refine va_get (D := (dC, dI)) (ci := 5) (v := .ref a0) (C := RX6) (T := TX6) (N := 10) hx hb hts (by decide +kernel) hown hK hP 0 rfl rfl 3 (by decide) (hts (.fieldLink RX6 26 "Shortring" "hunt" "LShortring$Hunt;") (by decide +kernel)) (fun _ h9 => h9) rfl dX6_grow_22 ?_
    refine va_getN (D := (dC, dI)) (ci := 0) (v := .int isOn) (C := RX0) (T := TX0) (N := 11) hx hb hts (by decide +kernel) hown hK hP 3 rfl rfl 4 (by decide) (va_Nw.use rfl (hN.2 1 _ rfl)) (fun _ h9 => h9) rfl dX6_grow_25 ?_
    refine lv_if_ne (tgt := 41) hx hb dX6_grow_28 (by decide) (fun c_2 => ?_) (fun c_2 => ?_)
    · have hr := if_no hr c_2
      refine lv_iconst (v := 0) hx hb dX6_grow_41 (by decide) ?_
      refine lv_istore_n (lv' := [(2, .int 0), (0, .ref s0), (1, .int steps)]) hx hb dX6_grow_42 rfl hl (by decide) rfl (fun ls hl => ?_)
      have ex_43 : ∀ (fa : Nat → Int32) (b1 : Nat → Int32) (b2 : Nat → Int32) (b3 : Nat → Int32) (b4 : Nat → Int32) (x1 : Int32) (x2 : Int32) (x3 : Int32) (x4 : Int32) (H : Heap) (locs : List Loc) (ls : Array Slot), (if x2 = (2 : Int32) then bd (P_prove g (nI K) cnt len) (fun r_5 => bd (P_look t K fa) (fun r_6 => Sum.inl (x2, fa, b1, b2, b3, b4, x1, x2, x3, x4, r_5, r_6))) else bd (P_look t K fa) (fun r_4 => Sum.inl (x2, fa, b1, b2, b3, b4, x1, x2, x3, x4, g, r_4))) = ρ → va_P (dC, dI) kCl [(s0, .inr (5, [.ref h0, .ref sc0, .ref kp0, .ref a0, .ref q0, .ref d0, .ref c0, .ref ta0, .int km, .int rf])), (h0, .inr (3, [.ref h1, .int (nI K)])), (h1, .inl (cI, 16, .inl fa)), (a0, .inr (0, [.ref a1, .ref a2, .ref a3, .ref a4, .int isOn, .int cnt, .int len, .int x1, .int x2, .int x3, .int x4])), (a1, .inl (cI, 16, .inl b1)), (a2, .inl (cI, 120, .inl b2)), (a3, .inl (cI, 40, .inl b3)), (a4, .inl (cI, 40, .inl b4)), (q0, .inr (1, [.ref q1, .ref q2])), (q1, .inl (cI, 102, .inl g)), (q2, .inl (cI, 54, .inl t))] H → va_D A [(s0, .inr (5, [.ref h0, .ref sc0, .ref kp0, .ref a0, .ref q0, .ref d0, .ref c0, .ref ta0, .int km, .int rf])), (h0, .inr (3, [.ref h1, .int (nI K)])), (h1, .inl (cI, 16, .inl fa)), (a0, .inr (0, [.ref a1, .ref a2, .ref a3, .ref a4, .int isOn, .int cnt, .int len, .int x1, .int x2, .int x3, .int x4])), (a1, .inl (cI, 16, .inl b1)), (a2, .inl (cI, 120, .inl b2)), (a3, .inl (cI, 40, .inl b3)), (a4, .inl (cI, 40, .inl b4)), (q0, .inr (1, [.ref q1, .ref q2])), (q1, .inl (cI, 102, .inl g)), (q2, .inl (cI, 54, .inl t))] → va_S A s.heap H locs → lv_has ls 3 [(0, .ref s0), (1, .int steps)] → W p l e (headSpec wsX6_grow rm_X6_grow).room s m (([.ref s0, .int steps] : List Value).toArray) below meth c H locs 0 0 (MQ below (kVi dC dI v.1 [(s0, .inr (5, [.ref h0, .ref sc0, .ref kp0, .ref a0, .ref q0, .ref d0, .ref c0, .ref ta0, .int km, .int rf])), (h0, .inr (3, [.ref h1, .int (nI K)])), (h1, .inl (cI, 16, .inl (v.2.1))), (a0, .inr (0, [.ref a1, .ref a2, .ref a3, .ref a4, .int isOn, .int cnt, .int len, .int (v.2.2.2.2.2.2.1), .int (v.2.2.2.2.2.2.2.1), .int (v.2.2.2.2.2.2.2.2.1), .int (v.2.2.2.2.2.2.2.2.2.1)])), (a1, .inl (cI, 16, .inl (v.2.2.1))), (a2, .inl (cI, 120, .inl (v.2.2.2.1))), (a3, .inl (cI, 40, .inl (v.2.2.2.2.1))), (a4, .inl (cI, 40, .inl (v.2.2.2.2.2.1))), (q0, .inr (1, [.ref q1, .ref q2])), (q1, .inl (cI, 102, .inl (v.2.2.2.2.2.2.2.2.2.2.1))), (q2, .inl (cI, 54, .inl (v.2.2.2.2.2.2.2.2.2.2.2)))] A) (([.ref s0, .int steps] : List Value).toArray) s 0 0 A) (F0 m 75 ls []) := by sorry
      have lp_43 : ∀ (n_43 step : Nat) (fa : Nat → Int32) (b1 : Nat → Int32) (b2 : Nat → Int32) (b3 : Nat → Int32) (b4 : Nat → Int32) (x1 : Int32) (x2 : Int32) (x3 : Int32) (x4 : Int32) (H : Heap) (locs : List Loc) (ls : Array Slot), step + n_43 = steps.toNatClampNeg → (∀ j, 0 ≤ b4 j) → (0 ≤ x4) → L_grow_43 K cnt len (fun fa b1 b2 b3 b4 x1 x2 x3 x4 => if x2 = (2 : Int32) then bd (P_prove g (nI K) cnt len) (fun r_5 => bd (P_look t K fa) (fun r_6 => Sum.inl (x2, fa, b1, b2, b3, b4, x1, x2, x3, x4, r_5, r_6))) else bd (P_look t K fa) (fun r_4 => Sum.inl (x2, fa, b1, b2, b3, b4, x1, x2, x3, x4, g, r_4))) n_43 step fa b1 b2 b3 b4 x1 x2 x3 x4 = ρ → va_P (dC, dI) kCl [(s0, .inr (5, [.ref h0, .ref sc0, .ref kp0, .ref a0, .ref q0, .ref d0, .ref c0, .ref ta0, .int km, .int rf])), (h0, .inr (3, [.ref h1, .int (nI K)])), (h1, .inl (cI, 16, .inl fa)), (a0, .inr (0, [.ref a1, .ref a2, .ref a3, .ref a4, .int isOn, .int cnt, .int len, .int x1, .int x2, .int x3, .int x4])), (a1, .inl (cI, 16, .inl b1)), (a2, .inl (cI, 120, .inl b2)), (a3, .inl (cI, 40, .inl b3)), (a4, .inl (cI, 40, .inl b4)), (q0, .inr (1, [.ref q1, .ref q2])), (q1, .inl (cI, 102, .inl g)), (q2, .inl (cI, 54, .inl t))] H → va_D A [(s0, .inr (5, [.ref h0, .ref sc0, .ref kp0, .ref a0, .ref q0, .ref d0, .ref c0, .ref ta0, .int km, .int rf])), (h0, .inr (3, [.ref h1, .int (nI K)])), (h1, .inl (cI, 16, .inl fa)), (a0, .inr (0, [.ref a1, .ref a2, .ref a3, .ref a4, .int isOn, .int cnt, .int len, .int x1, .int x2, .int x3, .int x4])), (a1, .inl (cI, 16, .inl b1)), (a2, .inl (cI, 120, .inl b2)), (a3, .inl (cI, 40, .inl b3)), (a4, .inl (cI, 40, .inl b4)), (q0, .inr (1, [.ref q1, .ref q2])), (q1, .inl (cI, 102, .inl g)), (q2, .inl (cI, 54, .inl t))] → va_S A s.heap H locs → lv_has ls 3 [(2, .int (nI step)), (0, .ref s0), (1, .int steps)] → W p l e (headSpec wsX6_grow rm_X6_grow).room s m (([.ref s0, .int steps] : List Value).toArray) below meth c H locs 0 0 (MQ below (kVi dC dI v.1 [(s0, .inr (5, [.ref h0, .ref sc0, .ref kp0, .ref a0, .ref q0, .ref d0, .ref c0, .ref ta0, .int km, .int rf])), (h0, .inr (3, [.ref h1, .int (nI K)])), (h1, .inl (cI, 16, .inl (v.2.1))), (a0, .inr (0, [.ref a1, .ref a2, .ref a3, .ref a4, .int isOn, .int cnt, .int len, .int (v.2.2.2.2.2.2.1), .int (v.2.2.2.2.2.2.2.1), .int (v.2.2.2.2.2.2.2.2.1), .int (v.2.2.2.2.2.2.2.2.2.1)])), (a1, .inl (cI, 16, .inl (v.2.2.1))), (a2, .inl (cI, 120, .inl (v.2.2.2.1))), (a3, .inl (cI, 40, .inl (v.2.2.2.2.1))), (a4, .inl (cI, 40, .inl (v.2.2.2.2.2.1))), (q0, .inr (1, [.ref q1, .ref q2])), (q1, .inl (cI, 102, .inl (v.2.2.2.2.2.2.2.2.2.2.1))), (q2, .inl (cI, 54, .inl (v.2.2.2.2.2.2.2.2.2.2.2)))] A) (([.ref s0, .int steps] : List Value).toArray) s 0 0 A) (F0 m 43 ls []) := by sorry
      exact lp_43 steps.toNatClampNeg 0 f bw bars puts bap stp sta pm bm _ _ _ (by omega) hbap hbm hr hP hD hS (lv_sub hl [0, 1, 2] rfl)
    · have hr := if_to hr c_2
      cases hr.trans (hρ.trans hok)
  · have hr := if_to hr c_1
    cases hr.trans (hρ.trans hok)
end
